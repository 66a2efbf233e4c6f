/-! Trays: what is counted; the class's side. -/
/-- does the fall from here on come by x? -/
def hit (D : Dt) (x : Nat) : Nat → Option Nat → Bool
  | 0, _ => false
  | _ + 1, none => false
  | k + 1, some c => decide (c = x) || hit D x k (ldD D c)
def onF (D : Dt) (x y : Nat) : Bool := hit D x 9 (ldD D y)
def apD (D : Dt) (a b : Nat) : Bool := !onF D a b && !onF D b a
/-- how many so far, the first -/
def upN (π : Nat → Nat) (d v : Nat) : Nat → Nat := fun i => if i = d then v else π i
abbrev Acc : Type := Nat × (Nat → Nat)
def fld (g : Nat → Acc → Acc) : Nat → Nat → Acc → Acc
  | _, 0, a => a
  | v, k + 1, a => fld g (v + 1) k (g v a)
def okP (ap : Nat → Nat → Bool) (π : Nat → Nat) (v : Nat) : Nat → Bool
  | 0 => true
  | d + 1 => okP ap π v d && ap (π d) v
def addA (a : Acc) (π : Nat → Nat) : Acc := (a.1 + 1, if a.1 = 0 then π else a.2)
def trA (ap : Nat → Nat → Bool) (N : Nat) : Nat → Nat → (Nat → Nat) → Nat → Acc → Acc
  | 0, _, π, _, a => addA a π
  | m + 1, d, π, s, a => fld (fun v a => if okP ap π v d then trA ap N m (d + 1) (upN π d v) (v + 1) a else a) s (N - s) a
theorem fld_cong {g h : Nat → Acc → Acc} : ∀ (k s : Nat) (a : Acc), (∀ v a, s ≤ v → v < s + k → g v a = h v a) → fld g s k a = fld h s k a
  | 0, _, _, _ => rfl
  | k + 1, s, a, e => by
    rw [fld, fld, e s a (Nat.le_refl _) (by omega)]
    exact fld_cong k (s + 1) _ (fun v a h1 h2 => e v a (by omega) (by omega))
theorem fld_le {g : Nat → Acc → Acc} {B : Nat} (hg : ∀ v a, (g v a).1 ≤ a.1 + B) : ∀ (k s : Nat) (a : Acc), (fld g s k a).1 ≤ a.1 + k * B
  | 0, _, a => by rw [fld]; omega
  | k + 1, s, a => by
    have h1 := fld_le hg k (s + 1) (g s a)
    have h2 := hg s a
    rw [fld, Nat.succ_mul]
    omega
theorem trA_le (ap : Nat → Nat → Bool) (N : Nat) : ∀ (m d : Nat) (π : Nat → Nat) (s : Nat) (a : Acc), (trA ap N m d π s a).1 ≤ a.1 + N ^ m
  | 0, _, π, _, a => by rw [trA, addA, Nat.pow_zero]; exact Nat.le_refl _
  | m + 1, d, π, s, a => by
    rw [trA]
    have h := fld_le (g := fun v a => if okP ap π v d then trA ap N m (d + 1) (upN π d v) (v + 1) a else a) (B := N ^ m) (fun v a => by
      show (if okP ap π v d then trA ap N m (d + 1) (upN π d v) (v + 1) a else a).1 ≤ _
      split
      · exact trA_le ap N m (d + 1) _ _ a
      · omega) (N - s) s a
    have h2 : (N - s) * N ^ m ≤ N ^ (m + 1) := by
      rw [Nat.pow_succ, Nat.mul_comm (N ^ m)]
      exact Nat.mul_le_mul (Nat.sub_le _ _) (Nat.le_refl _)
    omega
/-- the last row at once -/
def ctF (P : Nat → Bool) : Nat → Nat → Nat
  | _, 0 => 0
  | s, k + 1 => (if P s then 1 else 0) + ctF P (s + 1) k
def fiF (P : Nat → Bool) : Nat → Nat → Option Nat
  | _, 0 => none
  | s, k + 1 => if P s then some s else fiF P (s + 1) k
theorem ct_fi (P : Nat → Bool) : ∀ (k s : Nat), (ctF P s k = 0) ↔ fiF P s k = none
  | 0, _ => by rw [ctF, fiF]; simp
  | k + 1, s => by
    rw [ctF, fiF]
    cases P s
    · rw [if_neg (by decide), if_neg (by decide), Nat.zero_add]; exact ct_fi P k (s + 1)
    · rw [if_pos rfl, if_pos rfl]; simp
theorem fld_last (P : Nat → Bool) (F : Nat → Nat → Nat) : ∀ (k s : Nat) (a : Acc), fld (fun v a => if P v then addA a (F v) else a) s k a = (a.1 + ctF P s k, if a.1 = 0 then (match fiF P s k with | some v => F v | none => a.2) else a.2)
  | 0, _, a => by
    rw [fld, ctF, fiF, Nat.add_zero]
    split <;> rfl
  | k + 1, s, a => by
    rw [fld]
    cases hp : P s
    · have e1 : ctF P s (k + 1) = ctF P (s + 1) k := by rw [ctF, hp, if_neg (by decide), Nat.zero_add]
      have e2 : fiF P s (k + 1) = fiF P (s + 1) k := by rw [fiF, hp, if_neg (by decide)]
      rw [e1, e2]
      exact fld_last P F k (s + 1) a
    · have e1 : ctF P s (k + 1) = 1 + ctF P (s + 1) k := by rw [ctF, hp, if_pos rfl]
      have e2 : fiF P s (k + 1) = some s := by rw [fiF, hp, if_pos rfl]
      rw [e1, e2]
      refine (fld_last P F k (s + 1) (addA a (F s))).trans ?_
      refine Prod.ext (by show a.1 + 1 + ctF P (s + 1) k = a.1 + (1 + ctF P (s + 1) k); omega) ?_
      dsimp only
      rw [if_neg (show ¬ (addA a (F s)).1 = 0 from Nat.succ_ne_zero _)]
      rfl
theorem ct_fb {P Q : Nat → Bool} : ∀ (k s m : Nat), s + k = m → (∀ i, i < s → Q i = false) → (∀ i, s ≤ i → i < m → Q i = P i) → fb_ct Q m = ctF P s k := by
  have key : ∀ (k s : Nat), (∀ i, s ≤ i → i < s + k → Q i = P i) → fb_ct Q (s + k) = fb_ct Q s + ctF P s k := by
    intro k
    induction k with
    | zero => intro s _; rfl
    | succ k ih =>
      intro s h
      have := ih (s + 1) (fun i h1 h2 => h i (by omega) (by omega))
      rw [show s + (k + 1) = s + 1 + k by omega, this, fb_ct_succ, h s (Nat.le_refl _) (by omega), ctF]
      omega
  intro k s m h1 h2 h3
  rw [← h1, key k s (fun i a b => h3 i a (by omega)), fb_ct_zero.2 h2, Nat.zero_add]
theorem ct_more {P : Nat → Bool} : ∀ (j k s : Nat), (∀ i, s + k ≤ i → i < s + k + j → P i = false) → ctF P s (k + j) = ctF P s k
  | j, 0, s, h => by
    rw [Nat.zero_add]
    induction j generalizing s with
    | zero => rfl
    | succ j ih =>
      have e : ctF P s (j + 1) = ctF P (s + 1) j := by rw [ctF, h s (by omega) (by omega), if_neg (by decide), Nat.zero_add]
      rw [e, ih (s + 1) (fun i a b => h i (by omega) (by omega))]; rfl
  | j, k + 1, s, h => by
    rw [show k + 1 + j = (k + j) + 1 by omega, ctF, ctF, ct_more j k (s + 1) (fun i a b => h i (by omega) (by omega))]
theorem lgb0 {w : Int64} {n : Nat} (hn : n < 64) (h : btL w n = false) : lg_cmp ((w >>> ((nI n).toInt64 &&& 63)) &&& (1 : Int64)) (0 : Int64) = 0 := by
  rw [lg_eq0]; exact (L_bit hn w).2 h
theorem lgb1 {w : Int64} {n : Nat} (hn : n < 64) (h : btL w n = true) : ¬ lg_cmp ((w >>> ((nI n).toInt64 &&& 63)) &&& (1 : Int64)) (0 : Int64) = 0 := by
  rw [lg_eq0]; intro e
  rw [(L_bit hn w).1 e] at h; cases h
section TRAYS
variable {nr n sl g : Nat} {U : Nat → va_E} {S : Nat → Nat × Nat × Nat} {σ σ1 : Sg} {D : Dt}
theorem c_underL {T : Tc} (hG : GR n S T g D) (hD : DG nr D) (K : Mm → Int64 → Option (Int64 × Mm)) : ∀ (k i c f : Nat) (w : Int64), i + k = 9 → k < f → c < nc D → ∃ w', f_X8_cellsUnder_L10 K f (cn n sl U S T σ1) g w (nI c) (nI i) = K (cn n sl U S T σ1) w' ∧ ∀ x, x < 64 → btL w' x = (btL w x || hit D x k (ldD D c)) := by
  have n48 := hD.n48
  intro k
  induction k with
  | zero =>
    intro i c f w h1 h2 hc
    obtain ⟨f, rfl⟩ : ∃ k, f = k + 1 := ⟨f - 1, by omega⟩
    obtain rfl : i = 9 := by omega
    refine ⟨w, ?_, fun x _ => by rw [hit, Bool.or_false]⟩
    rw [f_X8_cellsUnder_L10, if_pos (by decide)]
  | succ k ih =>
    intro i c f w h1 h2 hc
    obtain ⟨f, rfl⟩ : ∃ k, f = k + 1 := ⟨f - 1, by omega⟩
    rw [f_X8_cellsUnder_L10, if_neg (show ¬ (9 : Int32) ≤ nI i from nI_ge (b := 9) (by omega) (by decide)), g0_4 hG.gv, Option.bind_some, c_lead hG.gv hG.cl n48 hc, Option.bind_some]
    cases hl : ldD D c with
    | none =>
      refine ⟨w, ?_, fun x _ => by rw [hit, Bool.or_false]⟩
      rw [show lead (dN D 0) (dN D 1) (dh D) c = none from hl, if_pos (show oI none = -1 from rfl)]
    | some e =>
      have he : e < nc D := (lead_lt (hD.c0 hc) hc hl).1
      obtain ⟨w', z1, z2⟩ := ih (i + 1) e f (w ||| ((1 : Int64) <<< ((nI e).toInt64 &&& 63))) (by omega) (by omega) he
      refine ⟨w', ?_, fun x hx => ?_⟩
      · rw [show lead (dN D 0) (dN D 1) (dh D) c = some e from hl, show oI (some e) = nI e from rfl, if_neg (nI_nm1 (by omega)), Option.bind_some, c_lead hG.gv hG.cl n48 hc, Option.bind_some, show lead (dN D 0) (dN D 1) (dh D) c = some e from hl, show oI (some e) = nI e from rfl, nm_q, nm_q, nm_q, oin1, nI_add]
        exact z1
      · rw [z2 x hx, L_or, L_one (by omega), hit, Bool.or_assoc]
        congr 2
        exact decide_eq_decide.2 ⟨fun h => h.symm, fun h => h.symm⟩
theorem c_under {T : Tc} {c : Nat} (hG : GR n S T g D) (hD : DG nr D) (hc : c < nc D) : ∃ w', f_X8_cellsUnder (cn n sl U S T σ1) g (nI c) = some (w', cn n sl U S T σ1) ∧ ∀ x, x < 64 → btL w' x = (decide (x = c) || onF D x c) := by
  have n48 := hD.n48
  obtain ⟨w', z1, z2⟩ := c_underL (sl := sl) (U := U) (σ1 := σ1) hG hD (fun μ17 w18 => (some (w18, μ17))) 9 0 c FU ((1 : Int64) <<< ((nI c).toInt64 &&& 63)) rfl (by unfold FU; omega) hc
  refine ⟨w', ?_, fun x hx => by rw [z2 x hx, L_one (by omega)]; rfl⟩
  rw [show nI 0 = (0 : Int32) from rfl] at z1
  unfold f_X8_cellsUnder
  rw [nm_q, nm_q, nm_q, z1]
theorem c_apL1 (hD : DG nr D) (K : Mm → Nat → Nat → Option Mm) : ∀ (k i f : Nat) (T : Tc), i + k = nc D → k < f → GR n S T g D → (∀ c, c < i → ∀ x, x < 64 → btL (T.2.2.1 182 c) x = (decide (x = c) || onF D x c)) → ∃ T', f_X8_findApart_L2 K f (cn n sl U S T σ1) 181 g (nI i) = K (cn n sl U S T' σ1) 181 g ∧ agr (Oth 182) T T' ∧ (∀ c, c < nc D → ∀ x, x < 64 → btL (T'.2.2.1 182 c) x = (decide (x = c) || onF D x c)) := by
  have n48 := hD.n48
  intro k
  induction k with
  | zero =>
    intro i f T h1 h2 hG h3
    obtain ⟨f, rfl⟩ : ∃ k, f = k + 1 := ⟨f - 1, by omega⟩
    obtain rfl : i = nc D := by omega
    refine ⟨T, ?_, agr.refl _ _, h3⟩
    rw [f_X8_findApart_L2, g0_2 hG.gv, Option.bind_some, hG.cg.2.2.1, if_pos (nI_le (Nat.le_refl _) (Nat.lt_of_le_of_lt n48 (by decide)))]
  | succ k ih =>
    intro i f T h1 h2 hG h3
    obtain ⟨f, rfl⟩ : ∃ k, f = k + 1 := ⟨f - 1, by omega⟩
    have hi : i < nc D := by omega
    have i48 : i < 48 := by omega
    have hgl := hG.gv.loc
    obtain ⟨w, w1, w2⟩ := c_under (sl := sl) (U := U) (σ1 := σ1) hG hD hi
    have ag : agr (Oth 182) T (tG T 182 i w) := agr_tG _ _ (fun h => h rfl)
    obtain ⟨T', z1, z2, z3⟩ := ih (i + 1) f (tG T 182 i w) (by omega) (by omega) (hG.ext hG.gv ag (fun j hj => by show _ ≠ 182; omega)) (fun c hc x hx => by
      rw [tG3]
      by_cases e : c = i
      · rw [if_pos ⟨rfl, e⟩, w2 x hx, e]
      · rw [if_neg (fun h => e h.2)]; exact h3 c (by omega) x hx)
    refine ⟨T', ?_, ag.trans z2, z3⟩
    rw [f_X8_findApart_L2, g0_2 hG.gv, Option.bind_some, hG.cg.2.2.1, if_neg (nI_ge hi (Nat.lt_of_le_of_lt n48 (by decide))), x181_0, Option.bind_some, w1, bd_some, x182_w i48, Option.bind_some, nm_q, oin1, nI_add]
    exact z1
def apB (D : Dt) (a x : Nat) : Bool := !decide (x = a) && apD D a x
theorem c_apL2 {i : Nat} (hD : DG nr D) (hi : i < nc D) (K : Mm → Nat → Nat → Int32 → Option Mm) : ∀ (k j f : Nat) (T : Tc), j + k = nc D → k < f → GR n S T g D → (∀ c, c < nc D → ∀ x, x < 64 → btL (T.2.2.1 182 c) x = (decide (x = c) || onF D x c)) → (∀ x, x < 64 → btL (T.2.2.1 183 i) x = (decide (x < j) && apB D i x)) → ∃ T', f_X8_findApart_L46 K f (cn n sl U S T σ1) 181 g (nI i) (nI j) = K (cn n sl U S T' σ1) 181 g (nI i) ∧ agr (Oth 183) T T' ∧ (∀ c, c ≠ i → T'.2.2.1 183 c = T.2.2.1 183 c) ∧ (∀ x, x < 64 → btL (T'.2.2.1 183 i) x = (decide (x < nc D) && apB D i x)) := by
  have n48 := hD.n48
  have i48 : i < 48 := by omega
  intro k
  induction k with
  | zero =>
    intro j f T h1 h2 hG h3 h4
    obtain ⟨f, rfl⟩ : ∃ k, f = k + 1 := ⟨f - 1, by omega⟩
    obtain rfl : j = nc D := by omega
    refine ⟨T, ?_, agr.refl _ _, fun _ _ => rfl, h4⟩
    rw [f_X8_findApart_L46, g0_2 hG.gv, Option.bind_some, hG.cg.2.2.1, if_pos (nI_le (Nat.le_refl _) (Nat.lt_of_le_of_lt n48 (by decide)))]
  | succ k ih =>
    intro j f T h1 h2 hG h3 h4
    obtain ⟨f, rfl⟩ : ∃ k, f = k + 1 := ⟨f - 1, by omega⟩
    have hj : j < nc D := by omega
    have j48 : j < 48 := by omega
    have hgl := hG.gv.loc
    have nx : ∀ x, x < 64 → (decide (x < j + 1) && apB D i x) = ((decide (x < j) && apB D i x) || (decide (x = j) && apB D i j)) := by
      intro x hx
      by_cases e : x = j
      · rw [e, decide_eq_true (by omega : j < j + 1), decide_eq_false (by omega : ¬ j < j), decide_eq_true rfl]; rfl
      · rw [decide_eq_false e, show decide (x < j + 1) = decide (x < j) from decide_eq_decide.2 ⟨fun h => by omega, fun h => by omega⟩]; simp
    have skip : apB D i j = false → ∃ T', f_X8_findApart_L46 K f (cn n sl U S T σ1) 181 g (nI i) (nI (j + 1)) = K (cn n sl U S T' σ1) 181 g (nI i) ∧ agr (Oth 183) T T' ∧ (∀ c, c ≠ i → T'.2.2.1 183 c = T.2.2.1 183 c) ∧ (∀ x, x < 64 → btL (T'.2.2.1 183 i) x = (decide (x < nc D) && apB D i x)) := fun e => ih (j + 1) f T (by omega) (by omega) hG h3 (fun x hx => by rw [h4 x hx, nx x hx, e]; simp)
    rw [f_X8_findApart_L46, g0_2 hG.gv, Option.bind_some, hG.cg.2.2.1, if_neg (nI_ge hj (Nat.lt_of_le_of_lt n48 (by decide))), x181_0, Option.bind_some, x182_r i48, Option.bind_some]
    cases b1 : btL (T.2.2.1 182 i) j
    · rw [if_pos (lgb0 (by omega) b1), Option.bind_some, x182_r j48, Option.bind_some]
      rw [h3 i hi j (by omega)] at b1
      cases b2 : btL (T.2.2.1 182 j) i
      · rw [if_pos (lgb0 (by omega) b2), x181_1, Option.bind_some, x183_r i48, Option.bind_some, x183_w i48, Option.bind_some, nm_q, oin1, nI_add]
        rw [h3 j hj i (by omega)] at b2
        have ab : apB D i j = true := by
          unfold apB apD
          rw [Bool.or_eq_false_iff] at b1 b2
          rw [b1.1, b1.2, b2.2]; rfl
        have ag : agr (Oth 183) T (tG T 183 i (T.2.2.1 183 i ||| (1 <<< ((nI j).toInt64 &&& 63)))) := agr_tG _ _ (fun h => h rfl)
        obtain ⟨T', z1, z2, z3, z4⟩ := ih (j + 1) f _ (by omega) (by omega) (hG.ext hG.gv ag (fun j hj => by show _ ≠ 183; omega)) (fun c hc x hx => by rw [tG3, if_neg (by omega)]; exact h3 c hc x hx) (fun x hx => by
          rw [tG3, if_pos ⟨rfl, rfl⟩, L_or, L_one (by omega), h4 x hx, nx x hx, ab, Bool.and_true])
        exact ⟨T', z1, ag.trans z2, fun c hc => by rw [z3 c hc, tG3, if_neg (fun h => hc h.2)], z4⟩
      · rw [if_neg (lgb1 (by omega) b2), nm_q, oin1, nI_add]
        rw [h3 j hj i (by omega)] at b2
        refine skip ?_
        unfold apB apD
        rw [Bool.or_eq_false_iff] at b1
        rw [show decide (i = j) = decide (j = i) from decide_eq_decide.2 ⟨fun h => h.symm, fun h => h.symm⟩, b1.1, Bool.false_or] at b2
        rw [b2]; simp
    · rw [if_neg (lgb1 (by omega) b1), nm_q, oin1, nI_add]
      rw [h3 i hi j (by omega)] at b1
      refine skip ?_
      unfold apB apD
      cases hd : decide (j = i)
      · rw [hd, Bool.false_or] at b1; rw [b1]; simp
      · rfl
theorem c_apL3 (hD : DG nr D) (K : Mm → Option Mm) : ∀ (k i f : Nat) (T : Tc), i + k = nc D → k < f → GR n S T g D → (∀ c, c < nc D → ∀ x, x < 64 → btL (T.2.2.1 182 c) x = (decide (x = c) || onF D x c)) → (∀ c, c < i → ∀ x, x < 64 → btL (T.2.2.1 183 c) x = (decide (x < nc D) && apB D c x)) → ∃ T', f_X8_findApart_L29 K f (cn n sl U S T σ1) 181 g (nI i) = K (cn n sl U S T' σ1) ∧ agr (Oth 183) T T' ∧ (∀ c, c < nc D → ∀ x, x < 64 → btL (T'.2.2.1 183 c) x = (decide (x < nc D) && apB D c x)) := by
  have n48 := hD.n48
  intro k
  induction k with
  | zero =>
    intro i f T h1 h2 hG h3 h4
    obtain ⟨f, rfl⟩ : ∃ k, f = k + 1 := ⟨f - 1, by omega⟩
    obtain rfl : i = nc D := by omega
    refine ⟨T, ?_, agr.refl _ _, h4⟩
    rw [f_X8_findApart_L29, g0_2 hG.gv, Option.bind_some, hG.cg.2.2.1, if_pos (nI_le (Nat.le_refl _) (Nat.lt_of_le_of_lt n48 (by decide)))]
  | succ k ih =>
    intro i f T h1 h2 hG h3 h4
    obtain ⟨f, rfl⟩ : ∃ k, f = k + 1 := ⟨f - 1, by omega⟩
    have hi : i < nc D := by omega
    have i48 : i < 48 := by omega
    have hgl := hG.gv.loc
    have ag : agr (Oth 183) T (tG T 183 i 0) := agr_tG _ _ (fun h => h rfl)
    obtain ⟨T1, a1, a2, a3, a4⟩ := c_apL2 (sl := sl) (U := U) (σ1 := σ1) (g := g) hD hi (fun μ39 a40 a41 x42 =>
    (nm (x42 + Int32.ofInt (1)) fun x43 =>
    f_X8_findApart_L29 K f μ39 a40 a41 x43)) (nc D) 0 FU (tG T 183 i 0) (by omega) (Nat.lt_of_le_of_lt n48 (by unfold FU; omega)) (hG.ext hG.gv ag (fun j hj => by show _ ≠ 183; omega)) (fun c hc x hx => by rw [tG3, if_neg (by omega)]; exact h3 c hc x hx) (fun x hx => by rw [tG3, if_pos ⟨rfl, rfl⟩, L_0, decide_eq_false (by omega)]; rfl)
    have ag2 := ag.trans a2
    obtain ⟨T', z1, z2, z3⟩ := ih (i + 1) f T1 (by omega) (by omega) (hG.ext hG.gv ag2 (fun j hj => by show _ ≠ 183; omega)) (fun c hc x hx => by rw [(ag2 182 (by decide)).2.2.1]; exact h3 c hc x hx) (fun c hc x hx => by
      by_cases e : c = i
      · rw [e]; exact a4 x hx
      · rw [a3 c e, tG3, if_neg (fun h => e h.2)]; exact h4 c (by omega) x hx)
    refine ⟨T', ?_, ag2.trans z2, z3⟩
    rw [show nI 0 = (0 : Int32) from rfl] at a1
    rw [f_X8_findApart_L29, g0_2 hG.gv, Option.bind_some, hG.cg.2.2.1, if_neg (nI_ge hi (Nat.lt_of_le_of_lt n48 (by decide))), x181_1, Option.bind_some, x183_w i48, Option.bind_some, nm_q, a1, nm_q, oin1, nI_add]
    exact z1
theorem c_apart {T : Tc} (hD : DG nr D) (hG : GR n S T g D) : ∃ T', f_X8_findApart (cn n sl U S T σ1) 181 g = some (cn n sl U S T' σ1) ∧ agr (fun r => r ≠ 182 ∧ r ≠ 183) T T' ∧ (∀ c, c < nc D → ∀ x, x < 64 → btL (T'.2.2.1 183 c) x = (decide (x < nc D) && apB D c x)) := by
  have n48 := hD.n48
  have hgl := hG.gv.loc
  obtain ⟨T1, a1, a2, a3⟩ := c_apL1 (sl := sl) (U := U) (σ1 := σ1) (g := g) hD (fun μ13 a14 a15 =>
    (nm (0 : Int32) fun x16 =>
    f_X8_findApart_L29 (fun μ44 =>
    (some μ44)) FU μ13 a14 a15 x16)) (nc D) 0 FU T (by omega) (Nat.lt_of_le_of_lt n48 (by unfold FU; omega)) hG (fun c hc => by omega)
  obtain ⟨T', b1, b2, b3⟩ := c_apL3 (sl := sl) (U := U) (σ1 := σ1) (g := g) hD (fun μ44 => (some μ44)) (nc D) 0 FU T1 (by omega) (Nat.lt_of_le_of_lt n48 (by unfold FU; omega)) (hG.ext hG.gv a2 (fun j hj => by show _ ≠ 182; omega)) a3 (fun c hc => by omega)
  refine ⟨T', ?_, (a2.mono fun r hr => hr.1).trans (b2.mono fun r hr => hr.2), b3⟩
  rw [show nI 0 = (0 : Int32) from rfl] at a1 b1
  rw [nm_q, b1] at a1
  unfold f_X8_findApart
  rw [nm_q, a1]
end TRAYS
