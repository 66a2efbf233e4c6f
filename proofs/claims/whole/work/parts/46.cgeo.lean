/-! The class's ground: shape, leads, paths; the reference's paths and nets. -/
def CG (T : Tc) (g C R : Nat) (h : Nat → Nat) : Prop := T.1 g 0 = nI C ∧ T.1 g 1 = nI R ∧ T.1 g 2 = nI (C * R) ∧ ∀ c, c < C * R → T.2.1 (g + 1) c = nI (h c)
def CL (T : Tc) (g C R : Nat) (h : Nat → Nat) : Prop := ∀ c, c < C * R → T.2.1 (g + 2) c = oI (lead C R h c)
/-- where one comes to in k steps at most -/
def flr (l : Nat → Option Nat) : Nat → Nat → Nat
  | 0, c => c
  | k + 1, c => match l c with
    | none => c
    | some d => flr l k d
def stp (l : Nat → Option Nat) : Nat → Nat → Nat
  | 0, _ => 0
  | k + 1, c => match l c with
    | none => 0
    | some d => stp l k d + 1
theorem lead_lt {C R c d : Nat} {h : Nat → Nat} (hC : 0 < C) (hc : c < C * R) (e : lead C R h c = some d) : d < C * R ∧ h d < h c := leadK_lt hC hc 4 e
section CGEO
variable {n sl : Nat} {U : Nat → va_E} {S : Nat → Nat × Nat × Nat} {T : Tc} {σ : Sg} {g C R : Nat} {h : Nat → Nat}
theorem c_beside (hv : GV n S g) (hG : CG T g C R h) (hS : GS C R h) {c s : Nat} (hc : c < C * R) (hs : s < 4) : f_X1_beside (cn n sl U S T σ) g (nI c) (nI s) = some (oI (bes C R c s), cn n sl U S T σ) := by
  have hn := hS.n
  obtain ⟨g1, g2, g3, g4, g5⟩ := hS
  unfold f_X1_beside
  simp only [g0_0 hv, g0_2 hv, Option.bind_some, hG.1, hG.2.2.1, rmI, nm]
  rw [if_pos (show (1 : Int32) ≤ nI C from nI_le (a := 1) (by omega) (by omega)), if_neg (nI_ne0 (by omega) (by omega)), pk_rem (by omega) (by omega) (by omega)]
  have hm := Nat.mod_lt c (show 0 < C by omega)
  rcases (show s = 0 ∨ s = 1 ∨ s = 2 ∨ s = 3 by omega) with rfl | rfl | rfl | rfl
  · simp only [nq_0_0, nq_0_1, nq_0_2, nq_0_3, nq_0_4, nq_1_0, nq_1_1, nq_1_2, nq_1_3, nq_1_4, nq_2_0, nq_2_1, nq_2_2, nq_2_3, nq_2_4, nq_3_0, nq_3_1, nq_3_2, nq_3_3, nq_3_4, nq_4_0, nq_4_1, nq_4_2, nq_4_3, nq_4_4, ↓reduceIte, bes0]
    by_cases h1 : c < C
    · rw [if_pos (nI_lt h1 (by omega)), if_pos h1]; rfl
    · rw [if_neg (nI_nlt (by omega) (by omega)), if_neg h1, pk_sub (by omega)]; rfl
  · simp only [nq_0_0, nq_0_1, nq_0_2, nq_0_3, nq_0_4, nq_1_0, nq_1_1, nq_1_2, nq_1_3, nq_1_4, nq_2_0, nq_2_1, nq_2_2, nq_2_3, nq_2_4, nq_3_0, nq_3_1, nq_3_2, nq_3_3, nq_3_4, nq_4_0, nq_4_1, nq_4_2, nq_4_3, nq_4_4, ↓reduceIte, bes1, nI_1]
    by_cases h1 : C ≤ c % C + 1
    · rw [if_pos (nI_le h1 (by omega)), if_pos h1]; rfl
    · rw [if_neg (nI_ge (by omega) (by omega)), if_neg h1]; rfl
  · simp only [nq_0_0, nq_0_1, nq_0_2, nq_0_3, nq_0_4, nq_1_0, nq_1_1, nq_1_2, nq_1_3, nq_1_4, nq_2_0, nq_2_1, nq_2_2, nq_2_3, nq_2_4, nq_3_0, nq_3_1, nq_3_2, nq_3_3, nq_3_4, nq_4_0, nq_4_1, nq_4_2, nq_4_3, nq_4_4, ↓reduceIte, bes2, nI_add]
    by_cases h1 : C * R ≤ c + C
    · rw [if_pos (nI_le h1 (by omega)), if_pos h1]; rfl
    · rw [if_neg (nI_ge (by omega) (by omega)), if_neg h1]; rfl
  · simp only [nq_0_0, nq_0_1, nq_0_2, nq_0_3, nq_0_4, nq_1_0, nq_1_1, nq_1_2, nq_1_3, nq_1_4, nq_2_0, nq_2_1, nq_2_2, nq_2_3, nq_2_4, nq_3_0, nq_3_1, nq_3_2, nq_3_3, nq_3_4, nq_4_0, nq_4_1, nq_4_2, nq_4_3, nq_4_4, ↓reduceIte, bes3]
    by_cases h1 : c % C = 0
    · rw [h1, if_pos (by decide), if_pos rfl]; rfl
    · rw [if_neg (nI_nle (by omega) (by omega)), if_neg h1]
      obtain ⟨k, rfl⟩ : ∃ k, c = k + 1 := ⟨c - 1, by
        rcases Nat.eq_zero_or_pos c with h0 | h0
        · subst h0; exact absurd (Nat.zero_mod C) h1
        · omega⟩
      rw [nI_pred]; rfl
theorem c_beside4 (hv : GV n S g) (hG : CG T g C R h) (hS : GS C R h) {c s : Nat} (hc : c < C * R) (hs : s = 4) : f_X1_beside (cn n sl U S T σ) g (nI c) (nI s) = some (-1, cn n sl U S T σ) := by
  have hn := hS.n
  obtain ⟨g1, g2, g3, g4, g5⟩ := hS
  subst hs
  unfold f_X1_beside
  simp only [g0_0 hv, g0_2 hv, Option.bind_some, hG.1, hG.2.2.1, rmI, nm]
  rw [if_pos (show (1 : Int32) ≤ nI C from nI_le (a := 1) (by omega) (by omega)), if_neg (nI_ne0 (by omega) (by omega)), pk_rem (by omega) (by omega) (by omega)]
  simp only [nq_0_0, nq_0_1, nq_0_2, nq_0_3, nq_0_4, nq_1_0, nq_1_1, nq_1_2, nq_1_3, nq_1_4, nq_2_0, nq_2_1, nq_2_2, nq_2_3, nq_2_4, nq_3_0, nq_3_1, nq_3_2, nq_3_3, nq_3_4, nq_4_0, nq_4_1, nq_4_2, nq_4_3, nq_4_4, ↓reduceIte]
theorem c_dropTo (hv : GV n S g) (hG : CG T g C R h) (hn : C * R ≤ 48) {c d : Nat} (hc : c < C * R) (hd : d < C * R) : f_X1_dropTo (cn n sl U S T σ) g (nI c) (nI d) = some (nI (h c) - nI (h d), cn n sl U S T σ) := by
  unfold f_X1_dropTo
  simp only [g0_3 hv, Option.bind_some, g1_r hv (show c < 48 by omega), g1_r hv (show d < 48 by omega), hG.2.2.2 c hc, hG.2.2.2 d hd]
theorem dif_le {a b : Nat} (ha : a ≤ 9) (hb : b ≤ 9) : (nI a - nI b ≤ 0) = (a ≤ b) := by
  rw [i32le, pk_sub_toInt (by omega) (by omega)]
  have e : (0 : Int32).toInt = 0 := rfl
  rw [e]
  exact propext ⟨fun h => by omega, fun h => by omega⟩
theorem c_lower (hv : GV n S g) (hG : CG T g C R h) (hS : GS C R h) {c s : Nat} (hc : c < C * R) (hs : s < 4) : f_X1_lowerBeside (cn n sl U S T σ) g (nI c) (nI s) = some (oI (low C R h c s), cn n sl U S T σ) := by
  have hn := hS.n
  have g5 := hS.2.2.2.2
  unfold f_X1_lowerBeside
  simp only [g0_o hv, Option.bind_some, c_beside hv hG hS hc hs, bd_some, nm]
  unfold low
  cases hb : bes C R c s with
  | none => rw [if_pos (show oI none = -1 from rfl)]; rfl
  | some d =>
    have hd := (bes_lt (by have := hS.1; omega) hc hb).1
    have e1 : oI (some d) = nI d := rfl
    rw [e1, if_neg (nI_nm1 (by omega)), c_dropTo hv hG hn hc hd]
    simp only [bd_some, dif_le (g5 c) (g5 d), Option.bind_some]
    by_cases h1 : h d < h c
    · rw [if_neg (by omega), if_pos h1]; rfl
    · rw [if_pos (by omega), if_neg h1]; rfl
theorem c_lower4 (hv : GV n S g) (hG : CG T g C R h) (hS : GS C R h) {c s : Nat} (hc : c < C * R) (hs : s = 4) : f_X1_lowerBeside (cn n sl U S T σ) g (nI c) (nI s) = some (-1, cn n sl U S T σ) := by
  unfold f_X1_lowerBeside
  simp only [g0_o hv, Option.bind_some, c_beside4 hv hG hS hc hs, bd_some, nm, ↓reduceIte]
theorem c_lead (hv : GV n S g) (hL : CL T g C R h) (hn : C * R ≤ 48) {c : Nat} (hc : c < C * R) : aI (cn n sl U S T σ) (g + 2) 0 (nI c) = some (oI (lead C R h c)) := by
  rw [g2_r hv (show c < 48 by omega), hL c hc]
theorem c_floor (hv : GV n S g) (hL : CL T g C R h) (hS : GS C R h) (K : Mm → Int32 → Option (Int32 × Mm)) : ∀ (k i c m : Nat), i + k = 9 → k < m → c < C * R → f_X1_floorUnder_L4 K m (cn n sl U S T σ) g (nI c) (nI i) = K (cn n sl U S T σ) (nI (flr (lead C R h) k c)) := by
  have hn := hS.n
  intro k
  induction k with
  | zero =>
    intro i c m h1 h2 hc
    obtain ⟨m, rfl⟩ : ∃ k, m = k + 1 := ⟨m - 1, by omega⟩
    have : i = 9 := by omega
    subst this
    rw [f_X1_floorUnder_L4, if_pos (by decide)]; rfl
  | succ k ih =>
    intro i c m h1 h2 hc
    obtain ⟨m, rfl⟩ : ∃ k, m = k + 1 := ⟨m - 1, by omega⟩
    rw [f_X1_floorUnder_L4, if_neg (show ¬ (9 : Int32) ≤ nI i from nI_ge (b := 9) (by omega) (by decide))]
    simp only [g0_4 hv, Option.bind_some, c_lead hv hL hn hc, nm, oi1, nI_1]
    rw [flr]
    cases hl : lead C R h c with
    | none => rw [if_pos (show oI none = -1 from rfl)]
    | some d =>
      have hd := lead_lt (by have := hS.1; omega) hc hl
      rw [show oI (some d) = nI d from rfl, if_neg (nI_nm1 (by omega))]
      exact ih (i + 1) d m (by omega) (by omega) hd.1
theorem c_floorUnder (hv : GV n S g) (hL : CL T g C R h) (hS : GS C R h) {c : Nat} (hc : c < C * R) : f_X1_floorUnder (cn n sl U S T σ) g (nI c) = some (nI (flr (lead C R h) 9 c), cn n sl U S T σ) := by
  unfold f_X1_floorUnder
  simp only [nm]
  exact c_floor hv hL hS _ 9 0 c FU rfl (FUb (by decide)) hc
theorem c_steps (hv : GV n S g) (hL : CL T g C R h) (hS : GS C R h) (K : Mm → Int32 → Option (Int32 × Mm)) : ∀ (k i c m : Nat), i + k = 9 → k < m → c < C * R → f_X1_stepsUnder_L4 K m (cn n sl U S T σ) g (nI c) (nI i) = K (cn n sl U S T σ) (nI (i + stp (lead C R h) k c)) := by
  have hn := hS.n
  intro k
  induction k with
  | zero =>
    intro i c m h1 h2 hc
    obtain ⟨m, rfl⟩ : ∃ k, m = k + 1 := ⟨m - 1, by omega⟩
    have : i = 9 := by omega
    subst this
    rw [f_X1_stepsUnder_L4, if_pos (by decide)]; rfl
  | succ k ih =>
    intro i c m h1 h2 hc
    obtain ⟨m, rfl⟩ : ∃ k, m = k + 1 := ⟨m - 1, by omega⟩
    rw [f_X1_stepsUnder_L4, if_neg (show ¬ (9 : Int32) ≤ nI i from nI_ge (b := 9) (by omega) (by decide))]
    simp only [g0_4 hv, Option.bind_some, c_lead hv hL hn hc, nm, oi1, nI_1]
    rw [stp]
    cases hl : lead C R h c with
    | none => rw [if_pos (show oI none = -1 from rfl)]; rfl
    | some d =>
      have hd := lead_lt (by have := hS.1; omega) hc hl
      rw [show oI (some d) = nI d from rfl, if_neg (nI_nm1 (by omega))]
      rw [ih (i + 1) d m (by omega) (by omega) hd.1]
      show K _ (nI (i + 1 + stp (lead C R h) k d)) = K _ (nI (i + (stp (lead C R h) k d + 1)))
      rw [show i + 1 + stp (lead C R h) k d = i + (stp (lead C R h) k d + 1) by omega]
theorem c_stepsUnder (hv : GV n S g) (hL : CL T g C R h) (hS : GS C R h) {c : Nat} (hc : c < C * R) : f_X1_stepsUnder (cn n sl U S T σ) g (nI c) = some (nI (stp (lead C R h) 9 c), cn n sl U S T σ) := by
  unfold f_X1_stepsUnder
  simp only [nm]
  rw [show (0 : Int32) = nI 0 from rfl, c_steps hv hL hS _ 9 0 c FU rfl (FUb (by decide)) hc, Nat.zero_add]
end CGEO
section MGEO
variable {ρ : Mm} {τ : Nat → va_E} {σ : Sg} {C R : Nat} {h : Nat → Nat}
theorem s_end (hG : MG σ C R h) (hS : GS C R h) (K : Mm → Int32 → Option (Int32 × Mm)) : ∀ (k c m : Nat), h c ≤ k → k < m → c < C * R → f_X12_endOf_L2 K m (mem ρ τ σ) 188 (nI c) = K (mem ρ τ σ) (nI (flr (lead C R h) k c)) := by
  have hn := hS.n
  intro k
  induction k with
  | zero =>
    intro c m h1 h2 hc
    obtain ⟨m, rfl⟩ : ∃ k, m = k + 1 := ⟨m - 1, by omega⟩
    rw [f_X12_endOf_L2]
    simp only [ob_mem, Option.bind_some, s_lead hG hS hc, bd_some]
    cases hl : lead C R h c with
    | none => rw [if_pos (show oI none = -1 from rfl)]; rfl
    | some d => exact absurd (lead_lt (by have := hS.1; omega) hc hl).2 (by omega)
  | succ k ih =>
    intro c m h1 h2 hc
    obtain ⟨m, rfl⟩ : ∃ k, m = k + 1 := ⟨m - 1, by omega⟩
    rw [f_X12_endOf_L2]
    simp only [ob_mem, Option.bind_some, s_lead hG hS hc, bd_some, nm]
    rw [flr]
    cases hl : lead C R h c with
    | none => rw [if_pos (show oI none = -1 from rfl)]
    | some d =>
      have hd := lead_lt (by have := hS.1; omega) hc hl
      rw [show oI (some d) = nI d from rfl, if_neg (nI_nm1 (by omega))]
      exact ih d m (by omega) (by omega) hd.1
theorem s_endOf (hG : MG σ C R h) (hS : GS C R h) {c : Nat} (hc : c < C * R) : f_X12_endOf (mem ρ τ σ) 188 (nI c) = some (nI (flr (lead C R h) 9 c), mem ρ τ σ) := by
  unfold f_X12_endOf
  simp only [nm]
  exact s_end hG hS _ 9 c FU (hS.2.2.2.2 c) (FUb (by decide)) hc
theorem s_stp (hG : MG σ C R h) (hS : GS C R h) (K : Mm → Int32 → Option (Int32 × Mm)) : ∀ (k i c m : Nat), h c ≤ k → k < m → c < C * R → f_X12_stepsOf_L4 K m (mem ρ τ σ) 188 (nI i) (nI c) = K (mem ρ τ σ) (nI (i + stp (lead C R h) k c)) := by
  have hn := hS.n
  intro k
  induction k with
  | zero =>
    intro i c m h1 h2 hc
    obtain ⟨m, rfl⟩ : ∃ k, m = k + 1 := ⟨m - 1, by omega⟩
    rw [f_X12_stepsOf_L4]
    simp only [ob_mem, Option.bind_some, s_lead hG hS hc, bd_some]
    cases hl : lead C R h c with
    | none => rw [if_pos (show oI none = -1 from rfl)]; rfl
    | some d => exact absurd (lead_lt (by have := hS.1; omega) hc hl).2 (by omega)
  | succ k ih =>
    intro i c m h1 h2 hc
    obtain ⟨m, rfl⟩ : ∃ k, m = k + 1 := ⟨m - 1, by omega⟩
    rw [f_X12_stepsOf_L4]
    simp only [ob_mem, Option.bind_some, s_lead hG hS hc, bd_some, nm, oi1, nI_1]
    rw [stp]
    cases hl : lead C R h c with
    | none => rw [if_pos (show oI none = -1 from rfl)]; rfl
    | some d =>
      have hd := lead_lt (by have := hS.1; omega) hc hl
      rw [show oI (some d) = nI d from rfl, if_neg (nI_nm1 (by omega)), ih (i + 1) d m (by omega) (by omega) hd.1]
      show K _ (nI (i + 1 + stp (lead C R h) k d)) = K _ (nI (i + (stp (lead C R h) k d + 1)))
      rw [show i + 1 + stp (lead C R h) k d = i + (stp (lead C R h) k d + 1) by omega]
theorem s_stepsOf (hG : MG σ C R h) (hS : GS C R h) {c : Nat} (hc : c < C * R) : f_X12_stepsOf (mem ρ τ σ) 188 (nI c) = some (nI (stp (lead C R h) 9 c), mem ρ τ σ) := by
  unfold f_X12_stepsOf
  simp only [nm]
  rw [show (0 : Int32) = nI 0 from rfl, s_stp hG hS _ 9 0 c FU (hS.2.2.2.2 c) (FUb (by decide)) hc, Nat.zero_add]
/-- whether a cell has a net -/
def netK (f : Nat → Int32) (x : Int32) : Nat → Bool
  | 0 => false
  | k + 1 => netK f x k || decide (f k = x)
theorem netK_iff (f : Nat → Int32) (x : Int32) (k : Nat) : netK f x k = true ↔ ∃ i, i < k ∧ f i = x := by
  induction k with
  | zero => exact ⟨fun h => (by cases h), fun ⟨i, h, _⟩ => absurd h (by omega)⟩
  | succ k ih =>
    rw [netK, Bool.or_eq_true, ih, decide_eq_true_eq]
    constructor
    · rintro (⟨i, h1, h2⟩ | h)
      · exact ⟨i, by omega, h2⟩
      · exact ⟨k, by omega, h⟩
    · rintro ⟨i, h1, h2⟩
      by_cases hi : i = k
      · subst hi; exact .inr h2
      · exact .inl ⟨i, by omega, h2⟩
theorem s_isNet {N : Nat} (hN : σ.2.1 189 4 = nI N) (hN4 : N ≤ 4) (x : Int32) : f_X12_isNet (mem ρ τ σ) 188 x = some (if netK (σ.2.1 197) x N then (1 : Int32) else 0, mem ρ τ σ) := by
  unfold f_X12_isNet
  simp only [nm]
  have key : ∀ (K1 K2 : Mm → Option (Int32 × Mm)) (i m : Nat), i ≤ N → N - i < m → (∀ j, j < i → ¬ σ.2.1 197 j = x) → f_X12_isNet_L2 K1 K2 m (mem ρ τ σ) 188 x (nI i) = if netK (σ.2.1 197) x N then K1 (mem ρ τ σ) else K2 (mem ρ τ σ) := by
    intro K1 K2
    refine lpU (fun m i => (∀ j, j < i → ¬ σ.2.1 197 j = x) → f_X12_isNet_L2 K1 K2 m (mem ρ τ σ) 188 x (nI i) = if netK (σ.2.1 197) x N then K1 (mem ρ τ σ) else K2 (mem ρ τ σ)) N ?_ ?_
    · intro m hj
      rw [f_X12_isNet_L2]
      simp only [mR_1, sc_4, Option.bind_some, hN]
      rw [if_pos (nI_le (Nat.le_refl _) (by omega)), if_neg]
      rw [netK_iff]
      rintro ⟨i, h1, h2⟩
      exact hj i h1 h2
    · intro m i hi ih hj
      rw [f_X12_isNet_L2]
      simp only [mR_1, mR_9, sc_4, Option.bind_some, hN, y197_r (show i < 4 by omega), nm, oi1, nI_1]
      rw [if_neg (nI_ge hi (by omega))]
      by_cases h1 : σ.2.1 197 i = x
      · rw [if_pos h1, if_pos ((netK_iff _ _ _).2 ⟨i, hi, h1⟩)]
      · rw [if_neg h1]
        refine ih fun j hj2 => ?_
        by_cases h2 : j = i
        · subst h2; exact h1
        · exact hj j (by omega)
  rw [show (0 : Int32) = nI 0 from rfl, key _ _ 0 FU (by omega) (FUb (by omega)) (fun j hj => absurd hj (by omega))]
  split <;> rfl
end MGEO
