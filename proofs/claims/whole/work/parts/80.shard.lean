/-! The call shard. -/
def gpI (x : Os) (t : Nat) : Int32 := if nI (x.2.2.2 t) < nI x.1 - nI (x.2.2.2 t) then nI x.1 - nI (x.2.2.2 t) else nI (x.2.2.2 t)
def bst (x : Os) : Nat → Option Nat
  | 0 => none
  | k + 1 => match bst x k with
    | none => some k
    | some b => if gpI x b ≤ gpI x k then some b else some k
theorem bst_lt (x : Os) : ∀ (k : Nat) {b : Nat}, bst x k = some b → b < k
  | 0, _, h => by cases h
  | k + 1, b, h => by
    rw [bst] at h
    cases hb : bst x k with
    | none => rw [hb] at h; cases h; omega
    | some c =>
      rw [hb] at h
      have := bst_lt x k hb
      have h : (if gpI x c ≤ gpI x k then some c else some k) = some b := h
      split at h
      · cases h; omega
      · cases h; omega
/-- -2 stands for none -/
def o2I (o : Option Nat) (f : Nat → Int32) : Int32 := match o with
  | none => -2
  | some b => f b
theorem gp_s (x : Os) (t : Nat) : (if nI (x.2.2.2 t) ≤ nI x.1 - nI (x.2.2.2 t) then nI x.1 - nI (x.2.2.2 t) else nI (x.2.2.2 t)) = gpI x t := by
  unfold gpI
  generalize nI x.1 - nI (x.2.2.2 t) = b
  generalize nI (x.2.2.2 t) = a
  by_cases h1 : a < b
  · rw [if_pos h1, if_pos (by rw [i32le]; rw [i32lt] at h1; omega)]
  · rw [if_neg h1]
    by_cases h2 : a ≤ b
    · rw [if_pos h2]
      rw [i32lt] at h1
      rw [i32le] at h2
      exact (Int32.toInt_inj.mp (by omega)).symm
    · rw [if_neg h2]
section SHARD
variable {nr n sl lw q c s : Nat} {U : Nat → va_E} {S : Nat → Nat × Nat × Nat} {T : Tc} {σ σ1 : Sg} {x : Os}
theorem c_gp (hC : CO T x) {t : Nat} (ht : t < 8) : f_X4_greaterPart (cn n sl U S T σ1) 179 (nI t) = some (gpI x t, cn n sl U S T σ1) := by
  unfold f_X4_greaterPart
  rw [x179_4, Option.bind_some, x180_r ht, Option.bind_some, x179_1, Option.bind_some, Option.bind_some, x180_r ht, Option.bind_some, hC.1, hC.2.2 t ht]
  rfl
theorem c_bestL (hC : CO T x) {P : Nat} (hP : P ≤ 8) (K : Mm → Int32 → Option (Int32 × Mm)) : ∀ (k i f : Nat), i + k = P → k < f → f_X4_bestShard_L4 K f (cn n sl U S T σ1) 179 (nI P) (oI (bst x i)) (nI i) = K (cn n sl U S T σ1) (oI (bst x P)) := by
  intro k
  induction k with
  | zero =>
    intro i f h1 h2
    obtain ⟨f, rfl⟩ : ∃ k, f = k + 1 := ⟨f - 1, by omega⟩
    obtain rfl : i = P := by omega
    rw [f_X4_bestShard_L4, if_pos (nI_le (by omega) (by omega))]
  | succ k ih =>
    intro i f h1 h2
    obtain ⟨f, rfl⟩ : ∃ k, f = k + 1 := ⟨f - 1, by omega⟩
    have z := ih (i + 1) f (by omega) (by omega)
    rw [bst] at z
    rw [f_X4_bestShard_L4, if_neg (nI_ge (by omega) (by omega))]
    cases hb : bst x i with
    | none =>
      rw [hb] at z
      rw [if_pos (show oI none = -1 from rfl), nm_q, nm_q, oin1, nI_add]
      exact z
    | some b =>
      have hl := bst_lt x i hb
      rw [hb] at z
      have z : f_X4_bestShard_L4 K f (cn n sl U S T σ1) 179 (nI P) (oI (if gpI x b ≤ gpI x i then some b else some i)) (nI (i + 1)) = _ := z
      rw [show oI (some b) = nI b from rfl, if_neg (nI_nm1 (by omega)), x179_o, Option.bind_some, c_gp hC (by omega), bd_some, x179_o, Option.bind_some, c_gp hC (by omega), bd_some]
      by_cases hg : gpI x b ≤ gpI x i
      · rw [if_pos hg] at z
        rw [if_pos hg, nm_q, oin1, nI_add]
        exact z
      · rw [if_neg hg] at z
        rw [if_neg hg, nm_q, nm_q, oin1, nI_add]
        exact z
theorem s_shL1 {p : Int32} (K : Mm → Nat → Int32 → Int32 → Option (Int32 × Mm)) : ∀ (k i : Nat) (σ1 : Sg) (f : Nat), i + k = 8 → k < f → (∀ t, t < i → σ1.2.1 233 t = nI 0) → ∃ σ', (∀ ρ τ, f_X12_shard_L22 K f (mem ρ τ σ1) 188 (nI q) p (nI i) = K (mem ρ τ σ') 188 (nI q) p) ∧ Eqm σ1 σ' ∧ ∀ t, t < 8 → σ'.2.1 233 t = nI 0 := by
  intro k
  induction k with
  | zero =>
    intro i σ1 f h1 h2 h3
    obtain ⟨f, rfl⟩ : ∃ k, f = k + 1 := ⟨f - 1, by omega⟩
    obtain rfl : i = 8 := by omega
    refine ⟨σ1, fun ρ τ => ?_, Eqm.refl _, h3⟩
    rw [f_X12_shard_L22, if_pos (by decide)]
  | succ k ih =>
    intro i σ1 f h1 h2 h3
    obtain ⟨f, rfl⟩ : ∃ k, f = k + 1 := ⟨f - 1, by omega⟩
    obtain ⟨σ', z1, z2, z3⟩ := ih (i + 1) (stA σ1 233 i 0) f (by omega) (by omega) (fun t ht => by
      rw [stA2]
      by_cases e : t = i
      · rw [if_pos ⟨rfl, e⟩]; rfl
      · rw [if_neg (fun h => e h.2)]; exact h3 t (by omega))
    refine ⟨σ', fun ρ τ => ?_, (eqm_233 σ1 i 0).trans z2, z3⟩
    rw [f_X12_shard_L22, if_neg (show ¬ (8 : Int32) ≤ nI i from nI_ge (b := 8) (by omega) (by decide)), mR_65, Option.bind_some, y233_w (by omega), Option.bind_some, nm_q, oin1, nI_add]
    exact z1 ρ τ
theorem s_shL2 (hD : DG nr (cur σ)) {B p m x5 x6 : Int32} {br : Nat → Nat} (K : Mm → Nat → Int32 → Int32 → Int32 → Int32 → Int32 → Option (Int32 × Mm)) : ∀ (k i : Nat) (σ1 : Sg) (f : Nat), i + k = dN (cur σ) 3 → k < f → Eqm σ σ1 → σ1.1 51 = B → (∀ t, t < i → σ1.2.1 233 t = nI (br t + (if bt B t then 1 else 0))) → (∀ t, i ≤ t → t < dN (cur σ) 3 → σ1.2.1 233 t = nI (br t)) → ∃ σ', (∀ ρ τ, f_X12_shard_L82 K f (mem ρ τ σ1) 188 (nI q) p m x5 x6 (nI i) = K (mem ρ τ σ') 188 (nI q) p m x5 x6) ∧ Eqm σ σ' ∧ ∀ t, t < dN (cur σ) 3 → σ'.2.1 233 t = nI (br t + (if bt B t then 1 else 0)) := by
  have bT := hD.bT
  intro k
  induction k with
  | zero =>
    intro i σ1 f h1 h2 he h51 h3 h4
    obtain ⟨f, rfl⟩ : ∃ k, f = k + 1 := ⟨f - 1, by omega⟩
    have ei : i = dN (cur σ) 3 := by omega
    refine ⟨σ1, fun ρ τ => ?_, he, fun t ht => h3 t (by omega)⟩
    rw [f_X12_shard_L82, mR_1, Option.bind_some, sc_3, Option.bind_some, cs_3, he.cu, hD.sT, if_pos (nI_le (by omega) (by omega))]
  | succ k ih =>
    intro i σ1 f h1 h2 he h51 h3 h4
    obtain ⟨f, rfl⟩ : ∃ k, f = k + 1 := ⟨f - 1, by omega⟩
    have i8 : i < 8 := by omega
    have ev : nI (br i) + ((B >>> (nI i &&& 31)) &&& 1) = nI (br i + (if bt B i then 1 else 0)) := by
      rw [I_bitv (by omega)]
      cases bt B i
      · rw [if_neg (by decide), if_neg (by decide), lit_0, nI_add]
      · rw [if_pos rfl, if_pos rfl, lit_1, nI_add]
    obtain ⟨σ', z1, z2, z3⟩ := ih (i + 1) (stA σ1 233 i (nI (br i + (if bt B i then 1 else 0)))) f (by omega) (by omega) (he.trans (eqm_233 _ _ _)) h51 (fun t ht => by
      rw [stA2]
      by_cases e : t = i
      · rw [if_pos ⟨rfl, e⟩, e]
      · rw [if_neg (fun h => e h.2)]; exact h3 t (by omega)) (fun t ht h => by
      rw [stA2, if_neg (by omega)]; exact h4 t (by omega) h)
    refine ⟨σ', fun ρ τ => ?_, z2, z3⟩
    rw [f_X12_shard_L82, mR_1, Option.bind_some, sc_3, Option.bind_some, cs_3, he.cu, hD.sT, if_neg (nI_ge (by omega) (by omega)), mR_65, Option.bind_some, y233_r i8, Option.bind_some, mI_51, Option.bind_some, h51, h4 i (Nat.le_refl _) (by omega), ev, y233_w i8, Option.bind_some, nm_q, oin1, nI_add]
    exact z1 ρ τ
theorem s_shL3 (hR : REL n S T σ nr) (hL : RLw n S T σ lw) (hq : q < dN (cur σ) 2) (hc : c < nc (cur σ)) {w : Int32} (K : Mm → Nat → Int32 → Int32 → Int32 → Int32 → Option (Int32 × Mm)) (x : Os) : ∀ (k s : Nat) (σ1 : Sg) (f : Nat), s + k = 5 → k < f → Eqm σ σ1 → (∀ t, t < dN (cur σ) 3 → σ1.2.1 233 t = nI ((orD σ q c s x).2.2.2 t)) → ∃ σ', (∀ ρ τ, f_X12_shard_L58 K f (mem ρ τ σ1) 188 (nI q) w (nI (orD σ q c s x).1) (nI c) (nI s) = K (mem ρ τ σ') 188 (nI q) w (nI (orD σ q c 5 x).1) (nI c)) ∧ Eqm σ σ' ∧ ∀ t, t < dN (cur σ) 3 → σ'.2.1 233 t = nI ((orD σ q c 5 x).2.2.2 t) := by
  have hD := hR.2.2.2.2.1
  have bT := hD.bT
  intro k
  induction k with
  | zero =>
    intro s σ1 f h1 h2 he h3
    obtain ⟨f, rfl⟩ : ∃ k, f = k + 1 := ⟨f - 1, by omega⟩
    obtain rfl : s = 5 := by omega
    refine ⟨σ1, fun ρ τ => ?_, he, h3⟩
    rw [f_X12_shard_L58, if_pos (by decide)]
  | succ k ih =>
    intro s σ1 f h1 h2 he h3
    obtain ⟨f, rfl⟩ : ∃ k, f = k + 1 := ⟨f - 1, by omega⟩
    obtain ⟨σ2, a1, a2, a3, a4⟩ := s_doesFit hR hL he hq hc (show s < 5 by omega)
    cases hb : okZ σ q c s
    · obtain ⟨σ', z1, z2, z3⟩ := ih (s + 1) σ2 f (by omega) (by omega) a2 (by rw [orD, orS, hb, a4]; exact h3)
      refine ⟨σ', fun ρ τ => ?_, z2, z3⟩
      have z1 := z1 ρ τ
      rw [orD, orS, hb, if_neg (by decide)] at z1
      rw [f_X12_shard_L58, if_neg (show ¬ (4 : Int32) < nI s from nI_nlt (a := 4) (by omega) (by omega)), ob_mem, Option.bind_some, a1, bd_some, hb, i0f, if_pos rfl, nm_q, oin1, nI_add]
      exact z1
    · obtain ⟨σ3, u1, u2, u3⟩ := s_shL2 (q := q) (B := brZ σ q c s) (p := w) (m := nI ((orD σ q c s x).1 + 1)) (x5 := nI c) (x6 := nI s) (br := (orD σ q c s x).2.2.2) hD (fun μ55 a56 x57 x58 x59 x60 x61 =>
    (nm (x61 + Int32.ofInt (1)) fun x62 =>
    f_X12_shard_L58 K f μ55 a56 x57 x58 x59 x60 x62)) (dN (cur σ) 3) 0 σ2 FU (by omega) (by unfold FU; omega) a2 a3 (fun t ht => by omega) (fun t _ ht => by rw [a4]; exact h3 t ht)
      obtain ⟨σ', z1, z2, z3⟩ := ih (s + 1) σ3 f (by omega) (by omega) u2 (by rw [orD, orS, hb]; exact u3)
      refine ⟨σ', fun ρ τ => ?_, z2, z3⟩
      have z1 := z1 ρ τ
      have u1 := u1 ρ τ
      rw [show nI 0 = (0 : Int32) from rfl] at u1
      rw [orD, orS, hb, if_pos rfl] at z1
      rw [f_X12_shard_L58, if_neg (show ¬ (4 : Int32) < nI s from nI_nlt (a := 4) (by omega) (by omega)), ob_mem, Option.bind_some, a1, bd_some, hb, i1t, if_neg (by decide), nm_q, nm_q, show nI (orD σ q c s x).1 + Int32.ofInt 1 = nI ((orD σ q c s x).1 + 1) by rw [oin1, nI_add], u1, nm_q, oin1, nI_add]
      exact z1
theorem s_shL4 (hR : REL n S T σ nr) (hL : RLw n S T σ lw) (hq : q < dN (cur σ) 2) {w : Int32} (K : Mm → Nat → Int32 → Int32 → Option (Int32 × Mm)) (x : Os) : ∀ (k c : Nat) (σ1 : Sg) (f : Nat), c + k = nc (cur σ) → k < f → Eqm σ σ1 → (∀ t, t < dN (cur σ) 3 → σ1.2.1 233 t = nI ((orC σ q c x).2.2.2 t)) → ∃ σ', (∀ ρ τ, f_X12_shard_L46 K f (mem ρ τ σ1) 188 (nI q) w (nI (orC σ q c x).1) (nI c) = K (mem ρ τ σ') 188 w (nI (orC σ q (nc (cur σ)) x).1)) ∧ Eqm σ σ' ∧ ∀ t, t < dN (cur σ) 3 → σ'.2.1 233 t = nI ((orC σ q (nc (cur σ)) x).2.2.2 t) := by
  have hD := hR.2.2.2.2.1
  have n48 := hD.n48
  have cel : ∀ σ1, Eqm σ σ1 → ∀ ρ τ, f_X12_cells (mem ρ τ σ1) 188 = some (nI (nc (cur σ)), mem ρ τ σ1) := by
    intro σ1 he ρ τ
    have h1 : DG nr (cur σ1) := by rw [he.cu]; exact hD
    have mg := h1.mg
    rw [he.cu] at mg
    exact s_cells mg
  intro k
  induction k with
  | zero =>
    intro c σ1 f h1 h2 he h3
    obtain ⟨f, rfl⟩ : ∃ k, f = k + 1 := ⟨f - 1, by omega⟩
    have ec : c = nc (cur σ) := by omega
    refine ⟨σ1, fun ρ τ => ?_, he, by rw [← ec]; exact h3⟩
    rw [f_X12_shard_L46, ob_mem, Option.bind_some, cel σ1 he, bd_some, if_pos (nI_le (Nat.le_of_eq ec.symm) (by omega)), ec]
  | succ k ih =>
    intro c σ1 f h1 h2 he h3
    obtain ⟨f, rfl⟩ : ∃ k, f = k + 1 := ⟨f - 1, by omega⟩
    have hc : c < nc (cur σ) := by omega
    obtain ⟨σ2, a1, a2, a3⟩ := s_shL3 (w := w) hR hL hq hc (fun μ63 a64 x65 x66 x67 x68 =>
    (nm (x68 + Int32.ofInt (1)) fun x69 =>
    f_X12_shard_L46 K f μ63 a64 x65 x66 x67 x69)) (orC σ q c x) 5 0 σ1 FU rfl (by unfold FU; omega) he h3
    obtain ⟨σ', z1, z2, z3⟩ := ih (c + 1) σ2 f (by omega) (by omega) a2 a3
    refine ⟨σ', fun ρ τ => ?_, z2, z3⟩
    have a1 := a1 ρ τ
    rw [show nI 0 = (0 : Int32) from rfl, show orD σ q c 0 (orC σ q c x) = orC σ q c x from rfl] at a1
    rw [f_X12_shard_L46, ob_mem, Option.bind_some, cel σ1 he, bd_some, if_neg (nI_ge hc (Nat.lt_of_le_of_lt n48 (by decide))), nm_q, a1, nm_q, oin1, nI_add]
    exact z1 ρ τ
theorem nI_m2 {b : Nat} (h : b < 2 ^ 31) : ¬ nI b = -2 := by
  intro e
  have := nI_toInt h
  rw [e] at this
  have e2 : (-2 : Int32).toInt = -2 := rfl
  omega
theorem s_shL5 (hD : DG nr (cur σ)) (he : Eqm σ σ1) {w : Int32} (hx : 0 < x.1) (hx2 : x.1 ≤ 1000) (h3 : ∀ t, t < dN (cur σ) 3 → σ1.2.1 233 t = nI (x.2.2.2 t)) (K : Mm → Int32 → Int32 → Int32 → Option (Int32 × Mm)) (ρ : Mm) (τ : Nat → va_E) : ∀ (k i f : Nat), i + k = dN (cur σ) 3 → k < f → f_X12_shard_L141 K f (mem ρ τ σ1) 188 w (nI x.1) (o2I (bst x i) nI) (o2I (bst x i) (gpI x)) (nI i) = K (mem ρ τ σ1) w (o2I (bst x (dN (cur σ) 3)) nI) (o2I (bst x (dN (cur σ) 3)) (gpI x)) := by
  have bT := hD.bT
  intro k
  induction k with
  | zero =>
    intro i f h1 h2
    obtain ⟨f, rfl⟩ : ∃ k, f = k + 1 := ⟨f - 1, by omega⟩
    have ei : i = dN (cur σ) 3 := by omega
    rw [f_X12_shard_L141, mR_1, Option.bind_some, sc_3, Option.bind_some, cs_3, he.cu, hD.sT, if_pos (nI_le (by omega) (by omega)), ei]
  | succ k ih =>
    intro i f h1 h2
    obtain ⟨f, rfl⟩ : ∃ k, f = k + 1 := ⟨f - 1, by omega⟩
    have i8 : i < 8 := by omega
    have z := ih (i + 1) f (by omega) (by omega)
    rw [bst] at z
    have step : ∀ v, v = gpI x i → (if o2I (bst x i) nI = (-2 : Int32) then (nm (nI i) fun x92 => (nm v fun x93 => (nm (nI i + Int32.ofInt (1)) fun x94 => f_X12_shard_L141 K f (mem ρ τ σ1) 188 w (nI x.1) x92 x93 x94))) else (if o2I (bst x i) (gpI x) ≤ v then (nm (nI i + Int32.ofInt (1)) fun x95 => f_X12_shard_L141 K f (mem ρ τ σ1) 188 w (nI x.1) (o2I (bst x i) nI) (o2I (bst x i) (gpI x)) x95) else (nm (nI i) fun x96 => (nm v fun x97 => (nm (nI i + Int32.ofInt (1)) fun x98 => f_X12_shard_L141 K f (mem ρ τ σ1) 188 w (nI x.1) x96 x97 x98))))) = K (mem ρ τ σ1) w (o2I (bst x (dN (cur σ) 3)) nI) (o2I (bst x (dN (cur σ) 3)) (gpI x)) := by
      intro v hv
      subst hv
      cases hb : bst x i with
      | none =>
        rw [hb] at z
        rw [if_pos (show o2I none nI = -2 from rfl), nm_q, nm_q, nm_q, oin1, nI_add]
        exact z
      | some b =>
        have hl := bst_lt x i hb
        rw [hb] at z
        rw [show o2I (some b) nI = nI b from rfl, show o2I (some b) (gpI x) = gpI x b from rfl, if_neg (nI_m2 (by omega))]
        by_cases hg : gpI x b ≤ gpI x i
        · have z : f_X12_shard_L141 K f (mem ρ τ σ1) 188 w (nI x.1) (o2I (if gpI x b ≤ gpI x i then some b else some i) nI) (o2I (if gpI x b ≤ gpI x i then some b else some i) (gpI x)) (nI (i + 1)) = _ := z
          rw [if_pos hg] at z
          rw [if_pos hg, nm_q, oin1, nI_add]
          exact z
        · have z : f_X12_shard_L141 K f (mem ρ τ σ1) 188 w (nI x.1) (o2I (if gpI x b ≤ gpI x i then some b else some i) nI) (o2I (if gpI x b ≤ gpI x i then some b else some i) (gpI x)) (nI (i + 1)) = _ := z
          rw [if_neg hg] at z
          rw [if_neg hg, nm_q, nm_q, nm_q, oin1, nI_add]
          exact z
    have hgp := gp_s x i
    rw [f_X12_shard_L141, mR_1, Option.bind_some, sc_3, Option.bind_some, cs_3, he.cu, hD.sT, if_neg (nI_ge (by omega) (by omega)), if_neg (show ¬ nI x.1 ≤ 0 from nI_ge (a := 0) hx (by omega)), mR_65, Option.bind_some, y233_r i8, Option.bind_some, Option.bind_some, y233_r i8, Option.bind_some, h3 i (by omega)]
    by_cases hc : nI (x.2.2.2 i) ≤ nI x.1 - nI (x.2.2.2 i)
    · rw [if_pos hc] at hgp
      rw [if_pos hc, Option.bind_some, y233_r i8, Option.bind_some, h3 i (by omega), nm_q]
      exact step _ hgp
    · rw [if_neg hc] at hgp
      rw [if_neg hc, Option.bind_some, y233_r i8, Option.bind_some, h3 i (by omega), nm_q]
      exact step _ hgp
end SHARD
theorem op_shard (q w : Int32) : OpR (fun μ => f_X11_shard μ 128 q w) (fun μ => f_X12_shard μ 188 q w) := by
  refine OpR.q fun n sl U S T σ nr hR => ?_
  have hR0 := hR
  obtain ⟨hN, hTP, hRU, hIM, hD, hS⟩ := hR
  have bP := hD.bP
  have bT := hD.bT
  have n48 := hD.n48
  show ∃ v T' σ', f_X11_shard (cn n sl U S T σ) 128 q w = some (v, cn n sl U S T' σ) ∧ agr (Ns S) T T' ∧ (∀ ρ τ, f_X12_shard (mem ρ τ σ) 188 q w = some (v, mem ρ τ σ')) ∧ Eqm σ σ'
  unfold f_X11_shard f_X12_shard
  rw [x128_o, Option.bind_some, c_isPerson hS hD, bd_some]
  by_cases hq : isN q (dN (cur σ) 2)
  · have e2 : isN w 2 ↔ (¬ w < 0 ∧ w ≤ 1) := by
      unfold isN
      rw [i32le, i32lt, i32lt, i32le]
      have e1 : (1 : Int32).toInt = 1 := rfl
      have e2 : (nI 2).toInt = 2 := rfl
      omega
    by_cases hw : isN w 2
    · obtain ⟨j, hj, rfl⟩ := isN_of (by omega) hq
      obtain ⟨k, hk, rfl⟩ := isN_of (by decide) hw
      obtain ⟨lw, l1, l2⟩ := c_law (sl := sl) (U := U) (σ1 := σ) hR0
      obtain ⟨T', a1, a2, a3⟩ := c_seek (sl := sl) (U := U) hR0 l2 hj
      have hS' := (hR0.scr a2 (Eqm.refl σ)).2.2.2.2.2
      obtain ⟨σ1, b1, b2, b3⟩ := s_shL1 (q := j) (p := nI k) (fun μ16 a17 x18 x19 =>
    (nm (0 : Int32) fun x20 =>
    (nm (0 : Int32) fun x21 =>
    f_X12_shard_L46 (fun μ70 a71 x72 x73 =>
    (nm (-2 : Int32) fun x74 =>
    (nm (-2 : Int32) fun x75 =>
    (nm (0 : Int32) fun x76 =>
    f_X12_shard_L141 (fun μ109 x110 x111 x112 =>
    (if x110 = 0 then
    (some (x111, μ109))
    else
    (some (x112, μ109)))) FU μ70 a71 x72 x73 x74 x75 x76)))) FU μ16 a17 x18 x19 x20 x21))) 8 0 σ FU rfl (by unfold FU; omega) (fun t ht => by omega)
      obtain ⟨σ2, d1, d2, d3⟩ := s_shL4 (w := nI k) hR0 l2 hj (fun μ70 a71 x72 x73 =>
    (nm (-2 : Int32) fun x74 =>
    (nm (-2 : Int32) fun x75 =>
    (nm (0 : Int32) fun x76 =>
    f_X12_shard_L141 (fun μ109 x110 x111 x112 =>
    (if x110 = 0 then
    (some (x111, μ109))
    else
    (some (x112, μ109)))) FU μ70 a71 x72 x73 x74 x75 x76)))) (0, 0, 0, fun _ => 0) (nc (cur σ)) 0 σ1 FU (by omega) (Nat.lt_of_le_of_lt n48 (by unfold FU; omega)) b2 (fun t ht => b3 t (by omega))
      have hn : (orC σ j (nc (cur σ)) (0, 0, 0, fun _ => 0)).1 ≤ 0 + 5 * nc (cur σ) := orC_n σ j (nc (cur σ)) (0, 0, 0, fun _ => 0)
      have d1 : ∀ ρ τ, f_X12_shard_L46 (fun μ70 a71 x72 x73 =>
    (nm (-2 : Int32) fun x74 =>
    (nm (-2 : Int32) fun x75 =>
    (nm (0 : Int32) fun x76 =>
    f_X12_shard_L141 (fun μ109 x110 x111 x112 =>
    (if x110 = 0 then
    (some (x111, μ109))
    else
    (some (x112, μ109)))) FU μ70 a71 x72 x73 x74 x75 x76)))) FU (mem ρ τ σ1) 188 (nI j) (nI k) 0 0 = _ := d1
      have ref0 : ∀ ρ τ, f_X12_shard (mem ρ τ σ) 188 (nI j) (nI k) = f_X12_shard_L141 (fun μ109 x110 x111 x112 =>
    (if x110 = 0 then
    (some (x111, μ109))
    else
    (some (x112, μ109)))) FU (mem ρ τ σ2) 188 (nI k) (nI (orC σ j (nc (cur σ)) (0, 0, 0, fun _ => 0)).1) (-2) (-2) 0 := by
        intro ρ τ
        have b1 := b1 ρ τ
        rw [show nI 0 = (0 : Int32) from rfl] at b1
        unfold f_X12_shard
        rw [ob_mem, Option.bind_some, s_isPerson hD, bd_some, if_pos hq, if_neg (by decide), s_in, bd_some, if_pos (in01.2 hw), if_neg (by decide), nm_q, b1, nm_q, nm_q, d1, nm_q, nm_q, nm_q]
      unfold f_X12_shard at ref0
      generalize orC σ j (nc (cur σ)) (0, 0, 0, fun _ => 0) = y at a3 d3 hn ref0
      rw [if_pos hq, if_neg (by decide), if_neg (e2.1 hw).1, if_pos (e2.1 hw).2, x128_11, Option.bind_some, x128_6, Option.bind_some, x128_o, Option.bind_some, l1, bd_some, x179_o, Option.bind_some, a1, Option.bind_some, x128_11, Option.bind_some, x179_1, Option.bind_some, a3.1]
      by_cases h0 : y.1 = 0
      · refine ⟨-2, T', σ2, ?_, a2, fun ρ τ => ?_, d2⟩
        · rw [if_pos (by rw [h0]; rfl), nm_q, if_pos rfl]
        · obtain ⟨F, hF, _⟩ := FU_s
          have cs : cur σ2 = cur σ := d2.cu
          rw [ref0, hF, f_X12_shard_L141, mR_1, Option.bind_some, sc_3, Option.bind_some]
          by_cases hc : σ2.2.1 189 3 ≤ 0
          · rw [if_pos hc]
            by_cases hk0 : nI k = 0
            · rw [if_pos hk0]
            · rw [if_neg hk0]
          · rw [if_neg hc, if_pos (by rw [h0]; decide)]
            by_cases hk0 : nI k = 0
            · rw [if_pos hk0]
            · rw [if_neg hk0]
      · have best := c_bestL (n := n) (sl := sl) (U := U) (S := S) (σ1 := σ) a3 bT (fun μ18 x19 => (some (x19, μ18))) (dN (cur σ) 3) 0 FU (by omega) (by unfold FU; omega)
        rw [show nI 0 = (0 : Int32) from rfl, show oI (bst y 0) = (-1 : Int32) from rfl] at best
        have cb : f_X4_bestShard (cn n sl U S T' σ) 179 (nI (dN (cur σ) 3)) = some (oI (bst y (dN (cur σ) 3)), cn n sl U S T' σ) := by
          unfold f_X4_bestShard
          rw [nm_q, nm_q, best]
        have ref : ∀ ρ τ, _ := fun ρ τ => s_shL5 (σ1 := σ2) (x := y) hD d2 (w := nI k) (by omega) (by omega) d3 (fun μ109 x110 x111 x112 =>
    (if x110 = 0 then
    (some (x111, μ109))
    else
    (some (x112, μ109)))) ρ τ (dN (cur σ) 3) 0 FU (by omega) (by unfold FU; omega)
        have ref1 : ∀ ρ τ, f_X12_shard_L141 (fun μ109 x110 x111 x112 =>
    (if x110 = 0 then
    (some (x111, μ109))
    else
    (some (x112, μ109)))) FU (mem ρ τ σ2) 188 (nI k) (nI y.1) (-2) (-2) 0 = (if nI k = 0 then some (o2I (bst y (dN (cur σ) 3)) nI, mem ρ τ σ2) else some (o2I (bst y (dN (cur σ) 3)) (gpI y), mem ρ τ σ2)) := ref
        rw [if_neg (nI_ne0 (by omega) (by omega)), Option.bind_some, x128_6, Option.bind_some, s0_0 hS'.sv, Option.bind_some, g0_9 hS'.la.gv, Option.bind_some, hS'.la.th, hD.sT, x179_o, Option.bind_some, cb, bd_some, nm_q]
        cases hb : bst y (dN (cur σ) 3) with
        | none =>
          refine ⟨-2, T', σ2, ?_, a2, fun ρ τ => ?_, d2⟩
          · rw [if_pos (show oI none = -1 from rfl)]
          · rw [ref0, ref1, hb]
            by_cases hk0 : nI k = 0
            · rw [if_pos hk0]; rfl
            · rw [if_neg hk0]; rfl
        | some b =>
          have hl := bst_lt y _ hb
          rw [show oI (some b) = nI b from rfl, if_neg (nI_nm1 (by omega))]
          by_cases hk0 : nI k = 0
          · refine ⟨nI b, T', σ2, ?_, a2, fun ρ τ => ?_, d2⟩
            · rw [if_pos hk0]
            · rw [ref0, ref1, hb, if_pos hk0]; rfl
          · refine ⟨gpI y b, T', σ2, ?_, a2, fun ρ τ => ?_, d2⟩
            · rw [if_neg hk0, x128_11, Option.bind_some, x179_o, Option.bind_some, c_gp a3 (by omega), bd_some]
            · rw [ref0, ref1, hb, if_neg hk0]; rfl
    · refine ⟨-1, T, σ, ?_, agr.refl _ _, fun ρ τ => ?_, Eqm.refl _⟩
      · rw [if_pos hq, if_neg (by decide)]
        by_cases h1 : w < 0
        · rw [if_pos h1]
        · rw [if_neg h1, if_neg (fun h => hw (e2.2 ⟨h1, h⟩))]
      · rw [ob_mem, Option.bind_some, s_isPerson hD, bd_some, if_pos hq, if_neg (by decide), s_in, bd_some, if_neg (fun h => hw (in01.1 h)), if_pos rfl]
  · refine ⟨-1, T, σ, ?_, agr.refl _ _, fun ρ τ => ?_, Eqm.refl _⟩
    · rw [if_neg hq, if_pos rfl]
    · rw [ob_mem, Option.bind_some, s_isPerson hD, bd_some, if_neg hq, if_pos rfl]
