/-! The ground's shape: cells beside, lower ones, to which one leads. -/
def oI (o : Option Nat) : Int32 := match o with
  | none => -1
  | some n => nI n
def bes (C R c s : Nat) : Option Nat := if s = 0 then (if c < C then none else some (c - C)) else if s = 1 then (if C ≤ c % C + 1 then none else some (c + 1)) else if s = 2 then (if C * R ≤ c + C then none else some (c + C)) else (if c % C = 0 then none else some (c - 1))
theorem bes0 (C R c : Nat) : bes C R c 0 = if c < C then none else some (c - C) := rfl
theorem bes1 (C R c : Nat) : bes C R c 1 = if C ≤ c % C + 1 then none else some (c + 1) := rfl
theorem bes2 (C R c : Nat) : bes C R c 2 = if C * R ≤ c + C then none else some (c + C) := rfl
theorem bes3 (C R c : Nat) : bes C R c 3 = if c % C = 0 then none else some (c - 1) := rfl
def low (C R : Nat) (h : Nat → Nat) (c s : Nat) : Option Nat := (bes C R c s).bind fun d => if h d < h c then some d else none
/-- the better of what was found and what lies on a side -/
def bet (h : Nat → Nat) (b d : Option Nat) : Option Nat := match d, b with
  | none, b => b
  | some d, none => some d
  | some d, some e => if h d < h e then some d else some e
def leadK (C R : Nat) (h : Nat → Nat) (c : Nat) : Nat → Option Nat
  | 0 => none
  | k + 1 => bet h (leadK C R h c k) (low C R h c k)
def lead (C R : Nat) (h : Nat → Nat) (c : Nat) : Option Nat := leadK C R h c 4
/-- the sizes of a ground -/
def GS (C R : Nat) (h : Nat → Nat) : Prop := 2 ≤ C ∧ C ≤ 8 ∧ 2 ≤ R ∧ R ≤ 6 ∧ ∀ c, h c ≤ 9
theorem GS.n {C R : Nat} {h : Nat → Nat} (g : GS C R h) : C * R ≤ 48 := by
  obtain ⟨g1, g2, g3, g4, g5⟩ := g
  exact Nat.le_trans (Nat.mul_le_mul g2 g4) (by decide)
theorem bes_lt {C R c s d : Nat} (hC : 0 < C) (hc : c < C * R) (h : bes C R c s = some d) : d < C * R ∧ d ≠ c := by
  unfold bes at h
  have hm := Nat.mod_lt c hC
  have hd := Nat.div_add_mod c C
  split at h
  · split at h
    · cases h
    · cases h; omega
  · split at h
    · split at h
      · cases h
      · cases h
        refine ⟨?_, by omega⟩
        have h1 : c / C < R := by
          rw [Nat.div_lt_iff_lt_mul hC, Nat.mul_comm]; exact hc
        have h2 : C * (c / C) + C ≤ C * R := by
          rw [← Nat.mul_succ]; exact Nat.mul_le_mul_left C h1
        omega
    · split at h
      · split at h
        · cases h
        · cases h; omega
      · split at h
        · cases h
        · cases h
          have : 0 < c := by
            rcases Nat.eq_zero_or_pos c with h0 | h0
            · subst h0; rename_i q; exact absurd (Nat.zero_mod C) q
            · exact h0
          omega
theorem low_lt {C R c s d : Nat} {h : Nat → Nat} (hC : 0 < C) (hc : c < C * R) (hl : low C R h c s = some d) : d < C * R ∧ h d < h c := by
  unfold low at hl
  obtain ⟨e, h1, h2⟩ := bindS hl
  split at h2
  · cases h2; exact ⟨(bes_lt hC hc h1).1, by assumption⟩
  · cases h2
theorem leadK_lt {C R c : Nat} {h : Nat → Nat} (hC : 0 < C) (hc : c < C * R) : ∀ (k : Nat) {d : Nat}, leadK C R h c k = some d → d < C * R ∧ h d < h c
  | 0, _, e => by cases e
  | k + 1, d, e => by
    rw [leadK] at e
    cases hl : low C R h c k with
    | none => rw [hl] at e; exact leadK_lt hC hc k e
    | some x =>
      rw [hl] at e
      cases hk : leadK C R h c k with
      | none => rw [hk] at e; cases e; exact low_lt hC hc hl
      | some z =>
        rw [hk] at e
        have e : (if h x < h z then some x else some z) = some d := e
        split at e
        · cases e; exact low_lt hC hc hl
        · cases e; exact leadK_lt hC hc k hk
/-- the reference holds the ground's shape -/
def MG (σ : Sg) (C R : Nat) (h : Nat → Nat) : Prop := σ.2.1 189 0 = nI C ∧ σ.2.1 189 1 = nI R ∧ ∀ c, c < C * R → σ.2.1 190 c = nI (h c)
section GEO
variable {ρ : Mm} {τ : Nat → va_E} {σ : Sg} {C R : Nat} {h : Nat → Nat}
theorem s_cells (hG : MG σ C R h) : f_X12_cells (mem ρ τ σ) 188 = some (nI (C * R), mem ρ τ σ) := by
  unfold f_X12_cells
  simp only [mR_1, sc_0, sc_1, Option.bind_some, hG.1, hG.2.1, pk_mul]
theorem s_isCell (hG : MG σ C R h) (hn : C * R ≤ 48) (x : Int32) : f_X12_isCell (mem ρ τ σ) 188 x = some (if isN x (C * R) then (1 : Int32) else 0, mem ρ τ σ) := by
  unfold f_X12_isCell
  simp only [ob_mem, Option.bind_some, s_cells hG, bd_some, s_in]
  rw [zb (fun v => (v, mem ρ τ σ))]
  simp only [in_n (show C * R < 2 ^ 31 by omega)]
theorem s_beside (hG : MG σ C R h) (hS : GS C R h) {c s : Nat} (hc : c < C * R) (hs : s < 4) : f_X12_beside (mem ρ τ σ) 188 (nI c) (nI s) = some (oI (bes C R c s), mem ρ τ σ) := by
  have hn := hS.n
  obtain ⟨g1, g2, g3, g4, g5⟩ := hS
  unfold f_X12_beside
  simp only [mR_1, sc_0, Option.bind_some, hG.1, rmI, nm, ob_mem, s_cells hG, bd_some]
  rw [if_neg (nI_ne0 (by omega) (by omega)), pk_rem (by omega) (by omega) (by omega)]
  have hm := Nat.mod_lt c (show 0 < C by omega)
  rcases (show s = 0 ∨ s = 1 ∨ s = 2 ∨ s = 3 by omega) with rfl | rfl | rfl | rfl
  · simp only [nq_0_0, nq_0_1, nq_0_2, nq_0_3, nq_0_4, nq_1_0, nq_1_1, nq_1_2, nq_1_3, nq_1_4, nq_2_0, nq_2_1, nq_2_2, nq_2_3, nq_2_4, nq_3_0, nq_3_1, nq_3_2, nq_3_3, nq_3_4, nq_4_0, nq_4_1, nq_4_2, nq_4_3, nq_4_4, ↓reduceIte, bes0]
    by_cases h1 : c < C
    · rw [if_pos (nI_lt h1 (by omega)), if_pos h1]; rfl
    · rw [if_neg (nI_nlt (by omega) (by omega)), if_neg h1, pk_sub (by omega)]; rfl
  · simp only [nq_0_0, nq_0_1, nq_0_2, nq_0_3, nq_0_4, nq_1_0, nq_1_1, nq_1_2, nq_1_3, nq_1_4, nq_2_0, nq_2_1, nq_2_2, nq_2_3, nq_2_4, nq_3_0, nq_3_1, nq_3_2, nq_3_3, nq_3_4, nq_4_0, nq_4_1, nq_4_2, nq_4_3, nq_4_4, ↓reduceIte, bes1, nI_1]
    by_cases h1 : C ≤ c % C + 1
    · rw [if_pos (nI_le h1 (by omega)), if_pos h1]; rfl
    · rw [if_neg (nI_ge (by omega) (by omega)), if_neg h1]; rfl
  · simp only [nq_0_0, nq_0_1, nq_0_2, nq_0_3, nq_0_4, nq_1_0, nq_1_1, nq_1_2, nq_1_3, nq_1_4, nq_2_0, nq_2_1, nq_2_2, nq_2_3, nq_2_4, nq_3_0, nq_3_1, nq_3_2, nq_3_3, nq_3_4, nq_4_0, nq_4_1, nq_4_2, nq_4_3, nq_4_4, ↓reduceIte, bes2, nI_add]
    by_cases h1 : C * R ≤ c + C
    · rw [if_pos (nI_le h1 (by omega)), if_pos h1]; rfl
    · rw [if_neg (nI_ge (by omega) (by omega)), if_neg h1]; rfl
  · simp only [nq_0_0, nq_0_1, nq_0_2, nq_0_3, nq_0_4, nq_1_0, nq_1_1, nq_1_2, nq_1_3, nq_1_4, nq_2_0, nq_2_1, nq_2_2, nq_2_3, nq_2_4, nq_3_0, nq_3_1, nq_3_2, nq_3_3, nq_3_4, nq_4_0, nq_4_1, nq_4_2, nq_4_3, nq_4_4, ↓reduceIte, bes3]
    by_cases h1 : c % C = 0
    · rw [h1, if_pos (by decide), if_pos rfl]; rfl
    · rw [if_neg (nI_nle (by omega) (by omega)), if_neg h1]
      obtain ⟨k, rfl⟩ : ∃ k, c = k + 1 := ⟨c - 1, by
        rcases Nat.eq_zero_or_pos c with h0 | h0
        · subst h0; exact absurd (Nat.zero_mod C) h1
        · omega⟩
      rw [nI_pred]; rfl
theorem h_at (hG : MG σ C R h) (hn : C * R ≤ 48) {c : Nat} (hc : c < C * R) : aI (mem ρ τ σ) 190 0 (nI c) = some (nI (h c)) := by
  rw [mA_190, if_neg (nI_in (show c < 48 by omega) (by decide)), nI_clamp (by omega), hG.2.2 c hc]
theorem nI_nm1 {n : Nat} (hn : n < 2 ^ 31) : ¬ nI n = -1 := by
  intro h
  have := nI_toInt hn
  rw [h] at this
  have e : (-1 : Int32).toInt = -1 := rfl
  omega
theorem s_lower (hG : MG σ C R h) (hS : GS C R h) {c s : Nat} (hc : c < C * R) (hs : s < 4) : f_X12_lower (mem ρ τ σ) 188 (nI c) (nI s) = some (oI (low C R h c s), mem ρ τ σ) := by
  have hn := hS.n
  have g5 := hS.2.2.2.2
  unfold f_X12_lower
  simp only [ob_mem, Option.bind_some, s_beside hG hS hc hs, bd_some, nm, mR_2]
  unfold low
  cases hb : bes C R c s with
  | none => rw [if_pos (show oI none = -1 from rfl)]; rfl
  | some d =>
    have hd := (bes_lt (by have := hS.1; omega) hc hb).1
    have e1 : oI (some d) = nI d := rfl
    rw [e1, if_neg (nI_nm1 (by omega)), h_at hG hn hd, h_at hG hn hc]
    simp only [Option.bind_some]
    have := g5 d
    have := g5 c
    by_cases h1 : h d < h c
    · rw [if_neg (nI_ge h1 (by omega)), if_pos h1]; rfl
    · rw [if_pos (nI_le (by omega) (by omega)), if_neg h1]; rfl
theorem s_leadL (hG : MG σ C R h) (hS : GS C R h) {c : Nat} (hc : c < C * R) (K : Mm → Int32 → Option (Int32 × Mm)) : ∀ (j s n : Nat), s + j = 4 → j < n → f_X12_leadsTo_L4 K n (mem ρ τ σ) 188 (nI c) (oI (leadK C R h c s)) (nI s) = K (mem ρ τ σ) (oI (leadK C R h c 4)) := by
  have hn := hS.n
  have g5 := hS.2.2.2.2
  intro j
  induction j with
  | zero =>
    intro s n h1 h2
    obtain ⟨m, rfl⟩ : ∃ m, n = m + 1 := ⟨n - 1, by omega⟩
    have : s = 4 := by omega
    subst this
    rw [f_X12_leadsTo_L4, if_pos (by decide)]
  | succ j ih =>
    intro s n h1 h2
    obtain ⟨m, rfl⟩ : ∃ m, n = m + 1 := ⟨n - 1, by omega⟩
    have ih1 := ih (s + 1) m (by omega) (by omega)
    rw [f_X12_leadsTo_L4, if_neg (show ¬ (4 : Int32) ≤ nI s from nI_ge (b := 4) (by omega) (by decide))]
    simp only [ob_mem, Option.bind_some, s_lower hG hS hc (show s < 4 by omega), bd_some, nm, mR_2, oi1, nI_1]
    rw [leadK] at ih1
    cases hl : low C R h c s with
    | none =>
      rw [hl] at ih1
      rw [if_pos (show oI none = -1 from rfl)]
      exact ih1
    | some d =>
      rw [hl] at ih1
      have hd := low_lt (by have := hS.1; omega) hc hl
      have e1 : oI (some d) = nI d := rfl
      rw [e1, if_neg (nI_nm1 (by omega))]
      cases hk : leadK C R h c s with
      | none =>
        rw [hk] at ih1
        rw [if_pos (show oI none = -1 from rfl)]
        exact ih1
      | some z =>
        rw [hk] at ih1
        have hz := leadK_lt (by have := hS.1; omega) hc s hk
        have e2 : oI (some z) = nI z := rfl
        rw [e2, if_neg (nI_nm1 (by omega)), h_at hG hn hd.1, h_at hG hn hz.1]
        simp only [Option.bind_some]
        have ih1 : f_X12_leadsTo_L4 K m (mem ρ τ σ) 188 (nI c) (oI (if h d < h z then some d else some z)) (nI (s + 1)) = _ := ih1
        have := g5 d
        have := g5 z
        by_cases h3 : h d < h z
        · rw [if_pos h3] at ih1
          rw [if_neg (nI_ge h3 (by omega))]
          exact ih1
        · rw [if_neg h3] at ih1
          rw [if_pos (nI_le (by omega) (by omega))]
          exact ih1
theorem FU_gt {n : Nat} (h : n < 1000000000000) : n < FU := h
theorem s_lead (hG : MG σ C R h) (hS : GS C R h) {c : Nat} (hc : c < C * R) : f_X12_leadsTo (mem ρ τ σ) 188 (nI c) = some (oI (lead C R h c), mem ρ τ σ) := by
  unfold f_X12_leadsTo
  simp only [nm]
  exact s_leadL hG hS hc _ 4 0 FU rfl (FU_gt (by decide))
end GEO
