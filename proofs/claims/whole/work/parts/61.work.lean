/-! The loops over a rule's entries. -/
theorem evl_s (so nu : Nat → Int32) (w : Nat → Int64) (i k : Nat) (st : List Int64) : evl so nu w i (k + 1) st = (ev1 (so i) (nu i) w st).bind (evl so nu w (i + 1) k) := rfl
theorem RV.not175 {n : Nat} {S : Nat → Nat × Nat × Nat} {g l m : Nat} (h : RV n S g l m) {j : Nat} (hj : j < 7) : 175 ≠ g + j := by
  have := h.loc
  omega
theorem c_workL {n sl a l m z : Nat} {U : Nat → va_E} {S : Nat → Nat × Nat × Nat} {σ : Sg} (hv : RV n S a l m) (hl : l ≤ 300) {so nu : Nat → Int32} {w : Nat → Int64} (hz : z ≤ l) (K : Mm → Nat → Int32 → Option (Int64 × Mm)) : ∀ (k i : Nat) (T : Tc) (st st' : List Int64) (f : Nat), i + k = z → k < f → (∀ i, i < l → T.2.1 (a + 2) i = cod (so i) (nu i) ∧ entOk (so i) (nu i)) → (∀ i, i < 12 → (T.2.1 175 i).toInt64 = w i) → rp (T.2.2.1 (a + 1)) st → st.length ≤ 31 → evl so nu w i k st = some st' → ∃ T', f_X5_worked_L6 K f (cn n sl U S T σ) a (nI z) 175 (nI st.length) (nI i) = K (cn n sl U S T' σ) a (nI st'.length) ∧ rp (T'.2.2.1 (a + 1)) st' ∧ agr (Oth (a + 1)) T T' := by
  intro k
  induction k with
  | zero =>
    intro i T st st' f h1 h2 hco hw hr hs he
    obtain ⟨f, rfl⟩ : ∃ k, f = k + 1 := ⟨f - 1, by omega⟩
    cases he
    refine ⟨T, ?_, hr, agr.refl _ _⟩
    rw [f_X5_worked_L6, if_pos (nI_le (by omega) (by omega))]
  | succ k ih =>
    intro i T st st' f h1 h2 hco hw hr hs he
    obtain ⟨f, rfl⟩ : ∃ k, f = k + 1 := ⟨f - 1, by omega⟩
    rw [evl_s] at he
    obtain ⟨s1, he1, he2⟩ := bindS he
    obtain ⟨hc1, hc2⟩ := hco i (by omega)
    have hn2 := hv.not175 (j := 1) (by decide)
    have key : ∀ (i' : Nat) (v : Int64), (∀ i, i < l → (tG T (a + 1) i' v).2.1 (a + 2) i = cod (so i) (nu i) ∧ entOk (so i) (nu i)) ∧ (∀ i, i < 12 → ((tG T (a + 1) i' v).2.1 175 i).toInt64 = w i) ∧ agr (Oth (a + 1)) T (tG T (a + 1) i' v) := fun i' v => ⟨hco, hw, agr_tG _ _ (fun h => h rfl)⟩
    have fin : ∀ (i' : Nat) (v : Int64), rp ((tG T (a + 1) i' v).2.2.1 (a + 1)) s1 → s1.length ≤ 31 → ∃ T', f_X5_worked_L6 K f (cn n sl U S (tG T (a + 1) i' v) σ) a (nI z) 175 (nI s1.length) (nI (i + 1)) = K (cn n sl U S T' σ) a (nI st'.length) ∧ rp (T'.2.2.1 (a + 1)) st' ∧ agr (Oth (a + 1)) T T' := by
      intro i' v hr' hs'
      obtain ⟨k1, k2, k3⟩ := key i' v
      obtain ⟨T', q1, q2, q3⟩ := ih (i + 1) _ s1 st' f (by omega) (by omega) k1 k2 hr' hs' he2
      exact ⟨T', q1, q2, k3.trans q3⟩
    rw [f_X5_worked_L6, if_neg (nI_ge (by omega) (by omega))]
    simp only [r0_0 hv, r0_8 hv, r2_n hv, r2_r hv (show l < 2 ^ 31 by omega) (show i < l by omega), Option.bind_some, nm, hc1, oin1, oinm1, nI_add]
    rw [if_neg (nI_ge (by omega) (by omega))]
    rcases hc2 with ⟨e1, j, hj, e2⟩ | ⟨e1, j, hj, e2⟩ | ⟨j, hj1, hj2, hj3, e1⟩
    · rw [e1, e2] at he1
      simp only [ev1, true_or, ↓reduceIte] at he1
      by_cases hlt : st.length < 31
      · rw [if_pos hlt] at he1
        cases he1
        have q := fin st.length (nI j).toInt64 (by rw [tG3r]; exact rp_push hr) (by show st.length + 1 ≤ 31; omega)
        simp only [e1, e2, cod_0, lit_100012, lit_100000, lit_32]
        rw [if_neg (nI_ge (by omega) (by omega)), if_neg (nI_ge (by omega) (by omega)), if_neg (nI_ge (by omega) (by omega)), r1_w hv (by omega)]
        simp only [Option.bind_some]
        exact q
      · rw [if_neg hlt] at he1; cases he1
    · rw [e1, e2] at he1
      have e10 : ¬ (1 : Int32) = 0 := by decide
      simp only [ev1, or_true, ↓reduceIte, e10] at he1
      by_cases hlt : st.length < 31
      · rw [if_pos hlt] at he1
        cases he1
        have q := fin st.length (w j) (by rw [tG3r, nI_clamp (by omega)]; exact rp_push hr) (by show st.length + 1 ≤ 31; omega)
        simp only [e1, e2, cod_1, lit_100012, lit_100000, lit_32]
        rw [if_neg (nI_ge (by omega) (by omega)), if_neg (nI_ge (by omega) (by omega)), if_pos (nI_le (by omega) (by omega)), pk_sub (by omega), show 100000 + j - 100000 = j by omega, x175_r (by omega)]
        simp only [Option.bind_some]
        rw [r1_w hv (by omega), hw j hj]
        simp only [Option.bind_some]
        exact q
      · rw [if_neg hlt] at he1; cases he1
    · rw [e1, cod_op j hj1 hj2 hj3]
      rw [e1] at he1
      have en0 : ¬ nI j = 0 := nI_ne0 (by omega) (by omega)
      have en1 : ¬ nI j = 1 := fun h => by have := (nI_eq (show j < 2 ^ 31 by omega) (show 1 < 2 ^ 31 by decide)).1 h; omega
      unfold ev1 at he1
      rw [if_neg (fun h => h.elim en0 en1)] at he1
      by_cases h9 : j = 9
      · subst h9
        rw [if_pos (show nI 9 = (9 : Int32) from rfl)] at he1
        cases st with
        | nil => cases he1
        | cons x r =>
          cases he1
          have hs : r.length + 1 ≤ 31 := hs
          have q := fin r.length (1 - x) (by rw [tG3r]; exact rp_push hr.2) hs
          rw [if_pos (show (100012 : Int32) ≤ nI (opc 9) by decide), if_pos (show nI (opc 9) = (100012 : Int32) from rfl), if_neg (show ¬ nI (List.length (x :: r)) ≤ 0 from nI_ge (a := 0) (b := r.length + 1) (Nat.succ_pos _) (by omega)), show nI (List.length (x :: r)) - 1 = nI r.length from nI_pred _, r1_r hv (by omega)]
          simp only [Option.bind_some]
          rw [r1_w hv (by omega), hr.1]
          simp only [Option.bind_some]
          exact q
      · have h9' : ¬ nI j = 9 := (fun h => h9 ((nI_eq (show j < 2 ^ 31 by omega) (show 9 < 2 ^ 31 by decide)).1 h))
        rw [if_neg h9'] at he1
        have ho : ∀ j, j < 16 → 2 ≤ j → j ≠ 12 → j ≠ 9 → (100012 : Int32) ≤ nI (opc j) ∧ ¬ nI (opc j) = (100012 : Int32) := by decide
        cases st with
        | nil => cases he1
        | cons b r =>
          cases r with
          | nil => cases he1
          | cons x r =>
            cases he1
            have hs : r.length + 1 + 1 ≤ 31 := hs
            have q := fin r.length (bth (nI j) x b) (by rw [tG3r]; exact rp_push hr.2.2) (by show r.length + 1 ≤ 31; omega)
            have e2 : nI (List.length (b :: x :: r)) + mo = nI (r.length + 1) := nI_pm _
            rw [if_pos (ho j hj2 hj1 hj3 h9).1, if_neg (ho j hj2 hj1 hj3 h9).2, if_neg (show ¬ nI (List.length (b :: x :: r)) ≤ 1 from nI_ge (a := 1) (b := r.length + 1 + 1) (Nat.succ_lt_succ (Nat.succ_pos _)) (by omega)), e2, nI_pred, r1_r hv (by omega), r1_r hv (by omega)]
            simp only [Option.bind_some]
            rw [c_joined _ hj1 hj2 hj3 h9]
            simp only [bd_some]
            rw [r1_w hv (by omega), hr.2.1, show T.2.2.1 (a + 1) (r.length + 1) = b from hr.1]
            simp only [Option.bind_some]
            exact q
