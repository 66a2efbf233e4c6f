/-! The call insure. -/
def brS (σ : Sg) (q s : Nat) : Int32 := (flF σ q s).2.2.2.1
/-- how often of k sides t breaks -/
def tmK (σ : Sg) (q t : Nat) : Nat → Nat := fb_ct (fun s => bt (brS σ q s) t)
def insB (σ : Sg) (q : Nat) (p : Int32) (t : Nat) : Bool := !decide (cur σ 194 t = nI q) && !decide (cur σ 196 t * nI (tmK σ q t 4) ≤ 4 * p)
def bbK (σ : Sg) (q : Nat) : Nat → Int32
  | 0 => 0
  | k + 1 => bbK σ q k ||| (brS σ q k <<< (nI (8 * k) &&& 31))
def pat (t : Nat) (b0 b1 b2 b3 : Bool) : Int32 := (if b0 then (1 : Int32) <<< (nI t &&& 31) else 0) ||| (if b1 then (1 : Int32) <<< (nI (t + 8) &&& 31) else 0) ||| (if b2 then (1 : Int32) <<< (nI (t + 16) &&& 31) else 0) ||| (if b3 then (1 : Int32) <<< (nI (t + 24) &&& 31) else 0)
theorem pat_bt : ∀ t, t < 8 → ∀ i, i < 32 → ∀ b0 b1 b2 b3 : Bool, bt (pat t b0 b1 b2 b3) i = (decide (i % 8 = t) && (if i / 8 = 0 then b0 else if i / 8 = 1 then b1 else if i / 8 = 2 then b2 else b3)) := by decide +kernel
theorem msk_bt : ∀ t, t < 8 → ∀ i, i < 32 → bt ((16843009 : Int32) <<< (nI t &&& 31)) i = decide (i % 8 = t) := by decide +kernel
theorem pat_ct (μ : Mm) : ∀ t, t < 8 → ∀ b0 b1 b2 b3 : Bool, f_J6_bitCount_0f7a4 μ (pat t b0 b1 b2 b3) = some (nI ((if b0 then 1 else 0) + (if b1 then 1 else 0) + (if b2 then 1 else 0) + (if b3 then 1 else 0)), μ) := by
  have h : ∀ t, t < 8 → ∀ b0 b1 b2 b3 : Bool, (f_J6_bitCount_0f7a4 (0, 0, fun _ => .inr (0, [])) (pat t b0 b1 b2 b3)).map (·.1) = some (nI ((if b0 then 1 else 0) + (if b1 then 1 else 0) + (if b2 then 1 else 0) + (if b3 then 1 else 0))) := by decide +kernel
  intro t ht b0 b1 b2 b3
  have h1 := h t ht b0 b1 b2 b3
  unfold f_J6_bitCount_0f7a4 at h1 ⊢
  simp only [nm, Option.map_some, Option.some.injEq] at h1 ⊢
  rw [h1]
section INS
variable {n sl nr q : Nat} {U : Nat → va_E} {S : Nat → Nat × Nat × Nat} {σ : Sg} {p : Int32}
theorem bb_pat (hD : DG nr (cur σ)) {t : Nat} (ht : t < 8) : bbK σ q 4 &&& ((16843009 : Int32) <<< (nI t &&& 31)) = pat t (bt (brS σ q 0) t) (bt (brS σ q 1) t) (bt (brS σ q 2) t) (bt (brS σ q 3) t) := by
  refine b_ext fun i hi => ?_
  have z : ∀ s j, 8 ≤ j → j < 32 → bt (brS σ q s) j = false := fun s j h1 h2 => isB8.1 (flF_8 hD) j h1 h2
  rw [b_and, msk_bt t ht i hi, pat_bt t ht i hi, Bool.and_comm]
  by_cases e : i % 8 = t
  · rw [decide_eq_true e, Bool.true_and, Bool.true_and, bbK, bbK, bbK, bbK, bbK, b_or, b_or, b_or, b_or, b_0, Bool.false_or, b_shl (8 * 0) (by decide) _ hi, b_shl (8 * 1) (by decide) _ hi, b_shl (8 * 2) (by decide) _ hi, b_shl (8 * 3) (by decide) _ hi]
    rcases (show i / 8 = 0 ∨ i / 8 = 1 ∨ i / 8 = 2 ∨ i / 8 = 3 by omega) with u | u | u | u
    · obtain rfl : i = t := by omega
      rw [decide_eq_true (by omega), decide_eq_false (show ¬ 8 * 1 ≤ i by omega), decide_eq_false (show ¬ 8 * 2 ≤ i by omega), decide_eq_false (show ¬ 8 * 3 ≤ i by omega), if_pos u]
      simp
    · obtain rfl : i = t + 8 := by omega
      rw [decide_eq_true (by omega), decide_eq_true (show 8 * 1 ≤ t + 8 by omega), decide_eq_false (show ¬ 8 * 2 ≤ t + 8 by omega), decide_eq_false (show ¬ 8 * 3 ≤ t + 8 by omega), if_neg (by omega), if_pos u, z 0 _ (by omega) (by omega), show t + 8 - 8 * 1 = t by omega]
      simp
    · obtain rfl : i = t + 16 := by omega
      rw [decide_eq_true (by omega), decide_eq_true (show 8 * 1 ≤ t + 16 by omega), decide_eq_true (show 8 * 2 ≤ t + 16 by omega), decide_eq_false (show ¬ 8 * 3 ≤ t + 16 by omega), if_neg (by omega), if_neg (by omega), if_pos u, z 0 _ (by omega) (by omega), z 1 _ (by omega) (by omega), show t + 16 - 8 * 2 = t by omega]
      simp
    · obtain rfl : i = t + 24 := by omega
      rw [decide_eq_true (by omega), decide_eq_true (show 8 * 1 ≤ t + 24 by omega), decide_eq_true (show 8 * 2 ≤ t + 24 by omega), decide_eq_true (show 8 * 3 ≤ t + 24 by omega), if_neg (by omega), if_neg (by omega), if_neg (by omega), z 0 _ (by omega) (by omega), z 1 _ (by omega) (by omega), z 2 _ (by omega) (by omega), show t + 24 - 8 * 3 = t by omega]
      simp
  · rw [decide_eq_false e, Bool.false_and, Bool.false_and]
theorem c_ct (μ : Mm) (hD : DG nr (cur σ)) {t : Nat} (ht : t < 8) : f_J6_bitCount_0f7a4 μ (bbK σ q 4 &&& ((16843009 : Int32) <<< (nI t &&& 31))) = some (nI (tmK σ q t 4), μ) := by
  rw [bb_pat hD ht, pat_ct μ t ht]
  unfold tmK
  rw [fb_ct_succ, fb_ct_succ, fb_ct_succ, fb_ct_succ]
  rw [show fb_ct (fun s => bt (brS σ q s) t) 0 = 0 from rfl, Nat.zero_add]
theorem c_insL1 (hq : q < dN (cur σ) 2) (K : Mm → Nat → Int32 → Int32 → Int32 → Option (Int32 × Mm)) : ∀ (k s : Nat) (T : Tc) (f : Nat), s + k = 4 → k < f → REL n S T σ nr → ∃ T', f_X11_insure_L25 K f (cn n sl U S T σ) 128 (nI q) p (bbK σ q s) (nI s) = K (cn n sl U S T' σ) 128 (nI q) p (bbK σ q 4) ∧ agr (Ns S) T T' := by
  intro k
  induction k with
  | zero =>
    intro s T f h1 h2 hR
    obtain ⟨f, rfl⟩ : ∃ k, f = k + 1 := ⟨f - 1, by omega⟩
    obtain rfl : s = 4 := by omega
    refine ⟨T, ?_, agr.refl _ _⟩
    rw [f_X11_insure_L25, if_pos (by decide)]
  | succ k ih =>
    intro s T f h1 h2 hR
    obtain ⟨f, rfl⟩ : ∃ k, f = k + 1 := ⟨f - 1, by omega⟩
    obtain ⟨T1, t1, t2, t3, t4⟩ := c_tryFall (sl := sl) (U := U) (σ1 := σ) hR hq (show s < 5 by omega)
    obtain ⟨T', z1, z2⟩ := ih (s + 1) T1 f (by omega) (by omega) (hR.scr t2 (Eqm.refl σ))
    refine ⟨T', ?_, t2.trans z2⟩
    rw [f_X11_insure_L25, if_neg (show ¬ (4 : Int32) ≤ nI s from nI_ge (b := 4) (by omega) (by decide)), x128_o, Option.bind_some, t1, Option.bind_some, x128_9, Option.bind_some, x174_8, Option.bind_some, nm_q, nm_q, t3.2.2.1, lit_8, pk_mul, oin1, nI_add]
    exact z1
theorem c_insL2 {T : Tc} (hR : REL n S T σ nr) (K : Mm → Int32 → Option (Int32 × Mm)) : ∀ (k i f : Nat), i + k = dN (cur σ) 3 → k < f → f_X11_insure_L66 K f (cn n sl U S T σ) 128 (nI q) p (bbK σ q 4) (mI (insB σ q p) i) (nI i) = K (cn n sl U S T σ) (mI (insB σ q p) (dN (cur σ) 3)) := by
  obtain ⟨hN, hTP, hRU, hIM, hD, hS⟩ := hR
  have bT := hD.bT
  have hg := hS.la.gv
  intro k
  induction k with
  | zero =>
    intro i f h1 h2
    obtain ⟨f, rfl⟩ : ∃ k, f = k + 1 := ⟨f - 1, by omega⟩
    have ei : i = dN (cur σ) 3 := by omega
    rw [f_X11_insure_L66, x128_6, Option.bind_some, s0_0 hS.sv, Option.bind_some, g0_9 hg, Option.bind_some, hS.la.th, hD.sT, if_pos (nI_le (by omega) (by omega)), ei]
  | succ k ih =>
    intro i f h1 h2
    obtain ⟨f, rfl⟩ : ∃ k, f = k + 1 := ⟨f - 1, by omega⟩
    have i8 : i < 8 := by omega
    have iT : i < dN (cur σ) 3 := by omega
    have z := ih (i + 1) f (by omega) (by omega)
    rw [mI] at z
    rw [f_X11_insure_L66, x128_6, Option.bind_some, s0_0 hS.sv, Option.bind_some, g0_9 hg, Option.bind_some, hS.la.th, hD.sT, if_neg (nI_ge (by omega) (by omega)), c_ct _ hD i8, bd_some, nm_q, x128_6, Option.bind_some, s0_0 hS.sv, Option.bind_some, g0_11 hg, Option.bind_some, g6_r hg i8, Option.bind_some, hS.la.ow i iT]
    by_cases ho : cur σ 194 i = nI q
    · rw [if_pos ho, nm_q, if_neg (by decide), nm_q, oin1, nI_add]
      rw [if_neg (by unfold insB; rw [decide_eq_true ho]; simp)] at z
      exact z
    · rw [if_neg ho, nm_q, if_pos rfl, Option.bind_some, s0_0 hS.sv, Option.bind_some, g0_13 hg, Option.bind_some, g8_r hg i8, Option.bind_some, hS.la.wo i iT]
      by_cases hc : cur σ 196 i * nI (tmK σ q i 4) ≤ 4 * p
      · rw [if_pos hc, nm_q, oin1, nI_add]
        rw [if_neg (by unfold insB; rw [decide_eq_true hc]; simp)] at z
        exact z
      · rw [if_neg hc, nm_q, nm_q, oin1, nI_add]
        rw [if_pos (by unfold insB; rw [decide_eq_false ho, decide_eq_false hc]; rfl)] at z
        exact z
/-- only times changes -/
theorem eqm_233 (σ : Sg) (i : Nat) (v : Int32) : Eqm σ (stA σ 233 i v) := ⟨rfl, rfl, rfl, rfl, fun r hr => by
  funext j
  rw [stA2, if_neg (by intro h; have := h.1; subst this; unfold PerM at hr; omega)]⟩
theorem s_insL1 (K : Mm → Nat → Int32 → Int32 → Option (Int32 × Mm)) : ∀ (k i : Nat) (σ1 : Sg) (f : Nat), i + k = 8 → k < f → (∀ t, t < i → σ1.2.1 233 t = nI 0) → ∃ σ', (∀ ρ τ, f_X12_insure_L24 K f (mem ρ τ σ1) 188 (nI q) p (nI i) = K (mem ρ τ σ') 188 (nI q) p) ∧ Eqm σ1 σ' ∧ ∀ t, t < 8 → σ'.2.1 233 t = nI 0 := by
  intro k
  induction k with
  | zero =>
    intro i σ1 f h1 h2 h3
    obtain ⟨f, rfl⟩ : ∃ k, f = k + 1 := ⟨f - 1, by omega⟩
    obtain rfl : i = 8 := by omega
    refine ⟨σ1, fun ρ τ => ?_, Eqm.refl _, h3⟩
    rw [f_X12_insure_L24, if_pos (by decide)]
  | succ k ih =>
    intro i σ1 f h1 h2 h3
    obtain ⟨f, rfl⟩ : ∃ k, f = k + 1 := ⟨f - 1, by omega⟩
    obtain ⟨σ', z1, z2, z3⟩ := ih (i + 1) (stA σ1 233 i 0) f (by omega) (by omega) (fun t ht => by
      rw [stA2]
      by_cases e : t = i
      · rw [if_pos ⟨rfl, e⟩]; rfl
      · rw [if_neg (fun h => e h.2)]; exact h3 t (by omega))
    refine ⟨σ', fun ρ τ => ?_, (eqm_233 σ1 i 0).trans z2, z3⟩
    rw [f_X12_insure_L24, if_neg (show ¬ (8 : Int32) ≤ nI i from nI_ge (b := 8) (by omega) (by decide)), mR_65, Option.bind_some, y233_w (by omega), Option.bind_some, nm_q, oin1, nI_add]
    exact z1 ρ τ
theorem s_insL2 (hD : DG nr (cur σ)) {s : Nat} {x : Int32} (K : Mm → Nat → Int32 → Int32 → Int32 → Option (Int32 × Mm)) : ∀ (k i : Nat) (σ1 : Sg) (f : Nat), i + k = dN (cur σ) 3 → k < f → Eqm σ σ1 → σ1.1 51 = brS σ q s → (∀ t, t < i → σ1.2.1 233 t = nI (tmK σ q t (s + 1))) → (∀ t, i ≤ t → t < dN (cur σ) 3 → σ1.2.1 233 t = nI (tmK σ q t s)) → ∃ σ', (∀ ρ τ, f_X12_insure_L66 K f (mem ρ τ σ1) 188 (nI q) p x (nI i) = K (mem ρ τ σ') 188 (nI q) p x) ∧ Eqm σ σ' ∧ ∀ t, t < dN (cur σ) 3 → σ'.2.1 233 t = nI (tmK σ q t (s + 1)) := by
  have bT := hD.bT
  intro k
  induction k with
  | zero =>
    intro i σ1 f h1 h2 he h51 h3 h4
    obtain ⟨f, rfl⟩ : ∃ k, f = k + 1 := ⟨f - 1, by omega⟩
    have ei : i = dN (cur σ) 3 := by omega
    refine ⟨σ1, fun ρ τ => ?_, he, fun t ht => h3 t (by omega)⟩
    rw [f_X12_insure_L66, mR_1, Option.bind_some, sc_3, Option.bind_some, cs_3, he.cu, hD.sT, if_pos (nI_le (by omega) (by omega))]
  | succ k ih =>
    intro i σ1 f h1 h2 he h51 h3 h4
    obtain ⟨f, rfl⟩ : ∃ k, f = k + 1 := ⟨f - 1, by omega⟩
    have i8 : i < 8 := by omega
    have ev : nI (tmK σ q i s) + (((brS σ q s) >>> (nI i &&& 31)) &&& 1) = nI (tmK σ q i (s + 1)) := by
      rw [I_bitv (by omega)]
      unfold tmK
      rw [fb_ct_succ]
      cases bt (brS σ q s) i
      · rw [if_neg (by decide), if_neg (by decide), lit_0, nI_add]
      · rw [if_pos rfl, if_pos rfl, lit_1, nI_add]
    obtain ⟨σ', z1, z2, z3⟩ := ih (i + 1) (stA σ1 233 i (nI (tmK σ q i (s + 1)))) f (by omega) (by omega) (he.trans (eqm_233 _ _ _)) h51 (fun t ht => by
      rw [stA2]
      by_cases e : t = i
      · rw [if_pos ⟨rfl, e⟩, e]
      · rw [if_neg (fun h => e h.2)]; exact h3 t (by omega)) (fun t ht h => by
      rw [stA2, if_neg (by omega)]; exact h4 t (by omega) h)
    refine ⟨σ', fun ρ τ => ?_, z2, z3⟩
    rw [f_X12_insure_L66, mR_1, Option.bind_some, sc_3, Option.bind_some, cs_3, he.cu, hD.sT, if_neg (nI_ge (by omega) (by omega)), mR_65, Option.bind_some, y233_r i8, Option.bind_some, mI_51, Option.bind_some, h51, h4 i (Nat.le_refl _) (by omega), ev, y233_w i8, Option.bind_some, nm_q, oin1, nI_add]
    exact z1 ρ τ
theorem s_insL3 {T : Tc} (hR : REL n S T σ nr) (hq : q < dN (cur σ) 2) (K : Mm → Nat → Int32 → Int32 → Option (Int32 × Mm)) : ∀ (k s : Nat) (σ1 : Sg) (f : Nat), s + k = 4 → k < f → Eqm σ σ1 → (∀ t, t < dN (cur σ) 3 → σ1.2.1 233 t = nI (tmK σ q t s)) → ∃ σ', (∀ ρ τ, f_X12_insure_L45 K f (mem ρ τ σ1) 188 (nI q) p (nI s) = K (mem ρ τ σ') 188 (nI q) p) ∧ Eqm σ σ' ∧ ∀ t, t < dN (cur σ) 3 → σ'.2.1 233 t = nI (tmK σ q t 4) := by
  have hD := hR.2.2.2.2.1
  have bP := hD.bP
  have bT := hD.bT
  intro k
  induction k with
  | zero =>
    intro s σ1 f h1 h2 he h3
    obtain ⟨f, rfl⟩ : ∃ k, f = k + 1 := ⟨f - 1, by omega⟩
    obtain rfl : s = 4 := by omega
    refine ⟨σ1, fun ρ τ => ?_, he, h3⟩
    rw [f_X12_insure_L45, if_pos (by decide)]
  | succ k ih =>
    intro s σ1 f h1 h2 he h3
    obtain ⟨f, rfl⟩ : ∃ k, f = k + 1 := ⟨f - 1, by omega⟩
    have q5 : q < 5 := by omega
    obtain ⟨σ2, t1, t2, t3⟩ := s_fallR hR he hq (show s < 5 by omega)
    obtain ⟨σ3, u1, u2, u3⟩ := s_insL2 (q := q) (p := p) (s := s) (x := nI s) hD (fun μ42 a43 x44 x45 x46 =>
    (nm (x46 + Int32.ofInt (1)) fun x47 =>
    f_X12_insure_L45 K f μ42 a43 x44 x45 x47)) (dN (cur σ) 3) 0 σ2 FU (by omega) (by unfold FU; omega) t2 t3.2.2.2.2.1 (fun t ht => by omega) (fun t _ ht => by rw [t3.1]; exact h3 t ht)
    obtain ⟨σ', z1, z2, z3⟩ := ih (s + 1) σ3 f (by omega) (by omega) u2 u3
    refine ⟨σ', fun ρ τ => ?_, z2, z3⟩
    have u1 := u1 ρ τ
    rw [show nI 0 = (0 : Int32) from rfl] at u1
    have ea : σ1.2.1 191 q = cur σ 191 q := by rw [he.2.2.2.2 191 (by unfold PerM; omega), cu_191 q5]
    rw [f_X12_insure_L45, if_neg (show ¬ (4 : Int32) ≤ nI s from nI_ge (b := 4) (by omega) (by decide)), mR_3, Option.bind_some, y191_r q5, Option.bind_some, ob_mem, Option.bind_some, ea, t1, bd_some, nm_q, u1, nm_q, oin1, nI_add]
    exact z1 ρ τ
theorem s_insL4 {σ1 : Sg} (hD : DG nr (cur σ)) (hq : q < dN (cur σ) 2) (he : Eqm σ σ1) (h3 : ∀ t, t < dN (cur σ) 3 → σ1.2.1 233 t = nI (tmK σ q t 4)) (K : Mm → Int32 → Option (Int32 × Mm)) (ρ : Mm) (τ : Nat → va_E) : ∀ (k i f : Nat), i + k = dN (cur σ) 3 → k < f → f_X12_insure_L113 K f (mem ρ τ σ1) 188 (nI q) p (mI (insB σ q p) i) (nI i) = K (mem ρ τ σ1) (mI (insB σ q p) (dN (cur σ) 3)) := by
  have bT := hD.bT
  intro k
  induction k with
  | zero =>
    intro i f h1 h2
    obtain ⟨f, rfl⟩ : ∃ k, f = k + 1 := ⟨f - 1, by omega⟩
    have ei : i = dN (cur σ) 3 := by omega
    rw [f_X12_insure_L113, mR_1, Option.bind_some, sc_3, Option.bind_some, cs_3, he.cu, hD.sT, if_pos (nI_le (by omega) (by omega)), ei]
  | succ k ih =>
    intro i f h1 h2
    obtain ⟨f, rfl⟩ : ∃ k, f = k + 1 := ⟨f - 1, by omega⟩
    have i8 : i < 8 := by omega
    have z := ih (i + 1) f (by omega) (by omega)
    rw [mI] at z
    have e4 : σ1.2.1 194 i = cur σ 194 i := by rw [he.2.2.2.2 194 (by unfold PerM; omega), cu_194 i8]
    have e6 : σ1.2.1 196 i = cur σ 196 i := by rw [he.2.2.2.2 196 (by unfold PerM; omega), cu_196 i8]
    rw [f_X12_insure_L113, mR_1, Option.bind_some, sc_3, Option.bind_some, cs_3, he.cu, hD.sT, if_neg (nI_ge (by omega) (by omega)), mR_6, Option.bind_some, y194_r i8, Option.bind_some, e4]
    by_cases ho : cur σ 194 i = nI q
    · rw [if_pos ho, nm_q, nm_q, or0, oin1, nI_add]
      rw [if_neg (by unfold insB; rw [decide_eq_true ho]; simp)] at z
      exact z
    · rw [if_neg ho, mR_8, Option.bind_some, y196_r i8, Option.bind_some, mR_65, Option.bind_some, y233_r i8, Option.bind_some, e6, h3 i (by omega)]
      by_cases hc : cur σ 196 i * nI (tmK σ q i 4) ≤ 4 * p
      · rw [if_pos hc, nm_q, nm_q, or0, oin1, nI_add]
        rw [if_neg (by unfold insB; rw [decide_eq_true hc]; simp)] at z
        exact z
      · rw [if_neg hc, nm_q, nm_q, oin1, nI_add]
        rw [if_pos (by unfold insB; rw [decide_eq_false ho, decide_eq_false hc]; rfl)] at z
        exact z
end INS
theorem op_insure (q p : Int32) : OpR (fun μ => f_X11_insure μ 128 q p) (fun μ => f_X12_insure μ 188 q p) := by
  refine OpR.q fun n sl U S T σ nr hR => ?_
  have hR0 := hR
  obtain ⟨hN, hTP, hRU, hIM, hD, hS⟩ := hR
  have bP := hD.bP
  have bT := hD.bT
  show ∃ v T' σ', f_X11_insure (cn n sl U S T σ) 128 q p = some (v, cn n sl U S T' σ) ∧ agr (Ns S) T T' ∧ (∀ ρ τ, f_X12_insure (mem ρ τ σ) 188 q p = some (v, mem ρ τ σ')) ∧ Eqm σ σ'
  unfold f_X11_insure f_X12_insure
  rw [x128_o, Option.bind_some, c_isPerson hS hD, bd_some]
  by_cases hq : isN q (dN (cur σ) 2)
  · have e60 : isN p 61 ↔ (¬ p < 0 ∧ p ≤ 60) := by
      unfold isN
      rw [i32le, i32lt, i32lt, i32le]
      have e1 : (60 : Int32).toInt = 60 := rfl
      have e2 : (nI 61).toInt = 61 := rfl
      omega
    by_cases hp : isN p 61
    · obtain ⟨j, hj, rfl⟩ := isN_of (by omega) hq
      obtain ⟨T', a1, a2⟩ := c_insL1 (sl := sl) (U := U) (p := p) hj (fun μ18 a19 x20 x21 x22 =>
    (nm (0 : Int32) fun x23 =>
    (nm (0 : Int32) fun x24 =>
    f_X11_insure_L66 (fun μ59 x60 =>
    (some (x60, μ59))) FU μ18 a19 x20 x21 x22 x23 x24))) 4 0 T FU rfl (by unfold FU; omega) hR0
      have a3 := c_insL2 (sl := sl) (U := U) (q := j) (p := p) (hR0.scr a2 (Eqm.refl σ)) (fun μ59 x60 => (some (x60, μ59))) (dN (cur σ) 3) 0 FU (by omega) (by unfold FU; omega)
      rw [show nI 0 = (0 : Int32) from rfl, show bbK σ j 0 = 0 from rfl, nm_q, nm_q] at a1
      rw [show nI 0 = (0 : Int32) from rfl, show mI (insB σ j p) 0 = 0 from rfl] at a3
      obtain ⟨σ1, b1, b2, b3⟩ := s_insL1 (q := j) (p := p) (fun μ16 a17 x18 x19 =>
    (nm (0 : Int32) fun x20 =>
    f_X12_insure_L45 (fun μ48 a49 x50 x51 =>
    (nm (0 : Int32) fun x52 =>
    (nm (0 : Int32) fun x53 =>
    f_X12_insure_L113 (fun μ73 x74 =>
    (some (x74, μ73))) FU μ48 a49 x50 x51 x52 x53))) FU μ16 a17 x18 x19 x20)) 8 0 σ FU rfl (by unfold FU; omega) (fun t ht => by omega)
      obtain ⟨σ2, d1, d2, d3⟩ := s_insL3 (p := p) hR0 hj (fun μ48 a49 x50 x51 =>
    (nm (0 : Int32) fun x52 =>
    (nm (0 : Int32) fun x53 =>
    f_X12_insure_L113 (fun μ73 x74 =>
    (some (x74, μ73))) FU μ48 a49 x50 x51 x52 x53))) 4 0 σ1 FU rfl (by unfold FU; omega) b2 (fun t ht => b3 t (by omega))
      refine ⟨mI (insB σ j p) (dN (cur σ) 3), T', σ2, ?_, a2, fun ρ τ => ?_, d2⟩
      · rw [if_pos hq, if_neg (by decide), if_neg (e60.1 hp).1, if_pos (e60.1 hp).2, nm_q, nm_q, a1, a3]
      · have a4 := s_insL4 (p := p) hD hj d2 d3 (fun μ73 x74 => (some (x74, μ73))) ρ τ (dN (cur σ) 3) 0 FU (by omega) (by unfold FU; omega)
        rw [show nI 0 = (0 : Int32) from rfl, show mI (insB σ j p) 0 = 0 from rfl] at a4
        have b1 := b1 ρ τ
        rw [show nI 0 = (0 : Int32) from rfl, nm_q] at b1
        have d1 := d1 ρ τ
        rw [show nI 0 = (0 : Int32) from rfl, nm_q, nm_q] at d1
        rw [ob_mem, Option.bind_some, s_isPerson hD, bd_some, if_pos hq, if_neg (by decide), s_in, bd_some, if_pos (in060.2 hp), if_neg (by decide), nm_q, b1, d1, a4]
    · refine ⟨-1, T, σ, ?_, agr.refl _ _, fun ρ τ => ?_, Eqm.refl _⟩
      · rw [if_pos hq, if_neg (by decide)]
        by_cases h1 : p < 0
        · rw [if_pos h1]
        · rw [if_neg h1, if_neg (fun h => hp (e60.2 ⟨h1, h⟩))]
      · rw [ob_mem, Option.bind_some, s_isPerson hD, bd_some, if_pos hq, if_neg (by decide), s_in, bd_some, if_neg (fun h => hp (in060.1 h)), if_pos rfl]
  · refine ⟨-1, T, σ, ?_, agr.refl _ _, fun ρ τ => ?_, Eqm.refl _⟩
    · rw [if_neg hq, if_pos rfl]
    · rw [ob_mem, Option.bind_some, s_isPerson hD, bd_some, if_neg hq, if_pos rfl]
