/-! Small rows: literals, places of the reference's short rows, order of longs. -/
theorem bd_some {α β γ : Type} (a : α) (b : β) (F : α → β → Option γ) : bd (some (a, b)) F = F a b := rfl
theorem sc_0 (ρ : Mm) (τ : Nat → va_E) (σ : Sg) : aI (mem ρ τ σ) 189 0 (0 : Int32) = some (σ.2.1 189 0) := (mA_189 ρ τ σ _).trans (if_neg (by decide))
theorem sp_0 (ρ : Mm) (τ : Nat → va_E) (σ : Sg) (v : Int32) : sI (mem ρ τ σ) 189 0 (0 : Int32) v = some (mem ρ τ (stA σ 189 0 v)) := (mS_189 ρ τ σ _ _).trans (if_neg (by decide))
theorem sc_1 (ρ : Mm) (τ : Nat → va_E) (σ : Sg) : aI (mem ρ τ σ) 189 0 (1 : Int32) = some (σ.2.1 189 1) := (mA_189 ρ τ σ _).trans (if_neg (by decide))
theorem sp_1 (ρ : Mm) (τ : Nat → va_E) (σ : Sg) (v : Int32) : sI (mem ρ τ σ) 189 0 (1 : Int32) v = some (mem ρ τ (stA σ 189 1 v)) := (mS_189 ρ τ σ _ _).trans (if_neg (by decide))
theorem sc_2 (ρ : Mm) (τ : Nat → va_E) (σ : Sg) : aI (mem ρ τ σ) 189 0 (2 : Int32) = some (σ.2.1 189 2) := (mA_189 ρ τ σ _).trans (if_neg (by decide))
theorem sp_2 (ρ : Mm) (τ : Nat → va_E) (σ : Sg) (v : Int32) : sI (mem ρ τ σ) 189 0 (2 : Int32) v = some (mem ρ τ (stA σ 189 2 v)) := (mS_189 ρ τ σ _ _).trans (if_neg (by decide))
theorem sc_3 (ρ : Mm) (τ : Nat → va_E) (σ : Sg) : aI (mem ρ τ σ) 189 0 (3 : Int32) = some (σ.2.1 189 3) := (mA_189 ρ τ σ _).trans (if_neg (by decide))
theorem sp_3 (ρ : Mm) (τ : Nat → va_E) (σ : Sg) (v : Int32) : sI (mem ρ τ σ) 189 0 (3 : Int32) v = some (mem ρ τ (stA σ 189 3 v)) := (mS_189 ρ τ σ _ _).trans (if_neg (by decide))
theorem sc_4 (ρ : Mm) (τ : Nat → va_E) (σ : Sg) : aI (mem ρ τ σ) 189 0 (4 : Int32) = some (σ.2.1 189 4) := (mA_189 ρ τ σ _).trans (if_neg (by decide))
theorem sp_4 (ρ : Mm) (τ : Nat → va_E) (σ : Sg) (v : Int32) : sI (mem ρ τ σ) 189 0 (4 : Int32) v = some (mem ρ τ (stA σ 189 4 v)) := (mS_189 ρ τ σ _ _).trans (if_neg (by decide))
theorem sc_5 (ρ : Mm) (τ : Nat → va_E) (σ : Sg) : aI (mem ρ τ σ) 189 0 (5 : Int32) = some (σ.2.1 189 5) := (mA_189 ρ τ σ _).trans (if_neg (by decide))
theorem sp_5 (ρ : Mm) (τ : Nat → va_E) (σ : Sg) (v : Int32) : sI (mem ρ τ σ) 189 0 (5 : Int32) v = some (mem ρ τ (stA σ 189 5 v)) := (mS_189 ρ τ σ _ _).trans (if_neg (by decide))
theorem sc_6 (ρ : Mm) (τ : Nat → va_E) (σ : Sg) : aI (mem ρ τ σ) 189 0 (6 : Int32) = some (σ.2.1 189 6) := (mA_189 ρ τ σ _).trans (if_neg (by decide))
theorem sp_6 (ρ : Mm) (τ : Nat → va_E) (σ : Sg) (v : Int32) : sI (mem ρ τ σ) 189 0 (6 : Int32) v = some (mem ρ τ (stA σ 189 6 v)) := (mS_189 ρ τ σ _ _).trans (if_neg (by decide))
theorem sc_7 (ρ : Mm) (τ : Nat → va_E) (σ : Sg) : aI (mem ρ τ σ) 189 0 (7 : Int32) = some (σ.2.1 189 7) := (mA_189 ρ τ σ _).trans (if_neg (by decide))
theorem sp_7 (ρ : Mm) (τ : Nat → va_E) (σ : Sg) (v : Int32) : sI (mem ρ τ σ) 189 0 (7 : Int32) v = some (mem ρ τ (stA σ 189 7 v)) := (mS_189 ρ τ σ _ _).trans (if_neg (by decide))
theorem sc_8 (ρ : Mm) (τ : Nat → va_E) (σ : Sg) : aI (mem ρ τ σ) 189 0 (8 : Int32) = some (σ.2.1 189 8) := (mA_189 ρ τ σ _).trans (if_neg (by decide))
theorem sp_8 (ρ : Mm) (τ : Nat → va_E) (σ : Sg) (v : Int32) : sI (mem ρ τ σ) 189 0 (8 : Int32) v = some (mem ρ τ (stA σ 189 8 v)) := (mS_189 ρ τ σ _ _).trans (if_neg (by decide))
theorem sc_9 (ρ : Mm) (τ : Nat → va_E) (σ : Sg) : aI (mem ρ τ σ) 189 0 (9 : Int32) = some (σ.2.1 189 9) := (mA_189 ρ τ σ _).trans (if_neg (by decide))
theorem sp_9 (ρ : Mm) (τ : Nat → va_E) (σ : Sg) (v : Int32) : sI (mem ρ τ σ) 189 0 (9 : Int32) v = some (mem ρ τ (stA σ 189 9 v)) := (mS_189 ρ τ σ _ _).trans (if_neg (by decide))
theorem sc_10 (ρ : Mm) (τ : Nat → va_E) (σ : Sg) : aI (mem ρ τ σ) 189 0 (10 : Int32) = some (σ.2.1 189 10) := (mA_189 ρ τ σ _).trans (if_neg (by decide))
theorem sp_10 (ρ : Mm) (τ : Nat → va_E) (σ : Sg) (v : Int32) : sI (mem ρ τ σ) 189 0 (10 : Int32) v = some (mem ρ τ (stA σ 189 10 v)) := (mS_189 ρ τ σ _ _).trans (if_neg (by decide))
theorem ns_0 (ρ : Mm) (τ : Nat → va_E) (σ : Sg) : aI (mem ρ τ σ) 203 0 (0 : Int32) = some (σ.2.1 203 0) := (mA_203 ρ τ σ _).trans (if_neg (by decide))
theorem np_0 (ρ : Mm) (τ : Nat → va_E) (σ : Sg) (v : Int32) : sI (mem ρ τ σ) 203 0 (0 : Int32) v = some (mem ρ τ (stA σ 203 0 v)) := (mS_203 ρ τ σ _ _).trans (if_neg (by decide))
theorem ns_1 (ρ : Mm) (τ : Nat → va_E) (σ : Sg) : aI (mem ρ τ σ) 203 0 (1 : Int32) = some (σ.2.1 203 1) := (mA_203 ρ τ σ _).trans (if_neg (by decide))
theorem np_1 (ρ : Mm) (τ : Nat → va_E) (σ : Sg) (v : Int32) : sI (mem ρ τ σ) 203 0 (1 : Int32) v = some (mem ρ τ (stA σ 203 1 v)) := (mS_203 ρ τ σ _ _).trans (if_neg (by decide))
theorem ns_2 (ρ : Mm) (τ : Nat → va_E) (σ : Sg) : aI (mem ρ τ σ) 203 0 (2 : Int32) = some (σ.2.1 203 2) := (mA_203 ρ τ σ _).trans (if_neg (by decide))
theorem np_2 (ρ : Mm) (τ : Nat → va_E) (σ : Sg) (v : Int32) : sI (mem ρ τ σ) 203 0 (2 : Int32) v = some (mem ρ τ (stA σ 203 2 v)) := (mS_203 ρ τ σ _ _).trans (if_neg (by decide))
theorem ns_3 (ρ : Mm) (τ : Nat → va_E) (σ : Sg) : aI (mem ρ τ σ) 203 0 (3 : Int32) = some (σ.2.1 203 3) := (mA_203 ρ τ σ _).trans (if_neg (by decide))
theorem np_3 (ρ : Mm) (τ : Nat → va_E) (σ : Sg) (v : Int32) : sI (mem ρ τ σ) 203 0 (3 : Int32) v = some (mem ρ τ (stA σ 203 3 v)) := (mS_203 ρ τ σ _ _).trans (if_neg (by decide))
theorem ns_4 (ρ : Mm) (τ : Nat → va_E) (σ : Sg) : aI (mem ρ τ σ) 203 0 (4 : Int32) = some (σ.2.1 203 4) := (mA_203 ρ τ σ _).trans (if_neg (by decide))
theorem np_4 (ρ : Mm) (τ : Nat → va_E) (σ : Sg) (v : Int32) : sI (mem ρ τ σ) 203 0 (4 : Int32) v = some (mem ρ τ (stA σ 203 4 v)) := (mS_203 ρ τ σ _ _).trans (if_neg (by decide))
theorem ns_5 (ρ : Mm) (τ : Nat → va_E) (σ : Sg) : aI (mem ρ τ σ) 203 0 (5 : Int32) = some (σ.2.1 203 5) := (mA_203 ρ τ σ _).trans (if_neg (by decide))
theorem np_5 (ρ : Mm) (τ : Nat → va_E) (σ : Sg) (v : Int32) : sI (mem ρ τ σ) 203 0 (5 : Int32) v = some (mem ρ τ (stA σ 203 5 v)) := (mS_203 ρ τ σ _ _).trans (if_neg (by decide))
theorem ns_6 (ρ : Mm) (τ : Nat → va_E) (σ : Sg) : aI (mem ρ τ σ) 203 0 (6 : Int32) = some (σ.2.1 203 6) := (mA_203 ρ τ σ _).trans (if_neg (by decide))
theorem np_6 (ρ : Mm) (τ : Nat → va_E) (σ : Sg) (v : Int32) : sI (mem ρ τ σ) 203 0 (6 : Int32) v = some (mem ρ τ (stA σ 203 6 v)) := (mS_203 ρ τ σ _ _).trans (if_neg (by decide))
theorem z01 {α : Type} (a : α) (b : Option α) : (if (0 : Int32) = 0 ∨ (0 : Int32) = 1 then some a else b) = some a := rfl
theorem z11 {α : Type} (a : α) (b : Option α) : (if (1 : Int32) = 0 ∨ (1 : Int32) = 1 then some a else b) = some a := rfl
theorem zb {α : Type} {P : Prop} {hP : Decidable P} (a : Int32 → α) : (if (if P then (1 : Int32) else 0) = 0 ∨ (if P then (1 : Int32) else 0) = 1 then some (a (if P then (1 : Int32) else 0)) else none) = some (a (if P then (1 : Int32) else 0)) := by
  by_cases h : P
  · simp only [if_pos h]; rfl
  · simp only [if_neg h]; rfl
theorem n1 : nI 1 = 1 := rfl
theorem n2 : nI 2 = 2 := rfl
theorem n3 : nI 3 = 3 := rfl
theorem n4 : nI 4 = 4 := rfl
theorem oi1 : Int32.ofInt 1 = 1 := rfl
theorem oim1 : Int32.ofInt (-1) = -1 := rfl
theorem i64le {a b : Int64} : a ≤ b ↔ a.toInt ≤ b.toInt := Int64.le_iff_toInt_le
theorem i64lt {a b : Int64} : a < b ↔ a.toInt < b.toInt := Int64.lt_iff_toInt_lt
theorem lgc_lt (a b : Int64) : lg_cmp a b < 0 ↔ a < b := by
  unfold lg_cmp
  by_cases h1 : a > b
  · rw [if_pos h1]
    have h1 : b < a := h1
    rw [i64lt] at h1 ⊢
    exact ⟨fun h => absurd h (by decide), fun h => by omega⟩
  · rw [if_neg h1]
    have h1 : ¬ b < a := h1
    by_cases h2 : a = b
    · rw [if_pos h2]
      subst h2
      rw [i64lt]
      exact ⟨fun h => absurd h (by decide), fun h => by omega⟩
    · rw [if_neg h2]
      have h3 : ¬ a.toInt = b.toInt := fun h => h2 (Int64.toInt_inj.mp h)
      rw [i64lt] at h1 ⊢
      exact ⟨fun _ => by omega, fun _ => by decide⟩
theorem lgc_gt (a b : Int64) : 0 < lg_cmp a b ↔ b < a := by
  unfold lg_cmp
  by_cases h1 : a > b
  · rw [if_pos h1]
    exact ⟨fun _ => h1, fun _ => by decide⟩
  · rw [if_neg h1]
    have h1 : ¬ b < a := h1
    by_cases h2 : a = b
    · rw [if_pos h2]
      exact ⟨fun h => absurd h (by decide), fun h => absurd h h1⟩
    · rw [if_neg h2]
      exact ⟨fun h => absurd h (by decide), fun h => absurd h h1⟩
/-- in(v, low, high) -/
theorem s_in (μ : Mm) (v lo hi : Int64) : f_X12_in μ v lo hi = some (if lo ≤ v ∧ v ≤ hi then (1 : Int32) else 0, μ) := by
  unfold f_X12_in
  simp only [lgc_lt, lgc_gt, ↓z01, ↓z11]
  by_cases h1 : v < lo
  · rw [if_pos h1, if_neg (fun h => by have := h.1; rw [i64le] at this; rw [i64lt] at h1; omega)]
  · rw [if_neg h1]
    by_cases h2 : hi < v
    · rw [if_pos h2, if_neg (fun h => by have := h.2; rw [i64le] at this; rw [i64lt] at h2; omega)]
    · rw [if_neg h2, if_pos ⟨by rw [i64le]; rw [i64lt] at h1; omega, by rw [i64le]; rw [i64lt] at h2; omega⟩]
theorem i2l (x : Int32) : x.toInt64.toInt = x.toInt := Int32.toInt_toInt64 x
theorem i32le {a b : Int32} : a ≤ b ↔ a.toInt ≤ b.toInt := Int32.le_iff_toInt_le
theorem i32lt {a b : Int32} : a < b ↔ a.toInt < b.toInt := Int32.lt_iff_toInt_lt
/-- in of ints -/
theorem in_i {x lo hi : Int32} : (lo.toInt64 ≤ x.toInt64 ∧ x.toInt64 ≤ hi.toInt64) ↔ (lo ≤ x ∧ x ≤ hi) := by
  rw [i64le, i64le, i32le, i32le, i2l, i2l, i2l]
/-- x lies below n -/
abbrev isN (x : Int32) (n : Nat) : Prop := 0 ≤ x ∧ x < nI n
theorem isN_iff {x : Int32} {n : Nat} (hn : n < 2 ^ 31) : isN x n ↔ ∃ j : Nat, j < n ∧ x = nI j := by
  constructor
  · intro h
    rcases pk_ix x hn with h1 | h1 | h1
    · exact absurd h1 (by have := h.1; rw [i32le] at this; rw [i32lt]; omega)
    · exact absurd h.2 (by rw [i32le] at h1; rw [i32lt]; omega)
    · exact h1
  · rintro ⟨j, hj, rfl⟩
    exact ⟨nI_pos' (by omega), nI_lt hj hn⟩
theorem in_n {x : Int32} {n : Nat} (hn : n < 2 ^ 31) : ((0 : Int64) ≤ x.toInt64 ∧ x.toInt64 ≤ (nI n - 1).toInt64) ↔ isN x n := by
  have e0 : (0 : Int64) = (0 : Int32).toInt64 := rfl
  rw [e0, in_i]
  unfold isN
  rw [i32le, i32le, i32lt]
  by_cases h0 : n = 0
  · subst h0
    have e : (nI 0 - 1).toInt = -1 := by decide
    have e2 : (nI 0).toInt = 0 := by decide
    have e3 : (0 : Int32).toInt = 0 := rfl
    rw [e, e2, e3]
    omega
  · obtain ⟨k, rfl⟩ : ∃ k, n = k + 1 := ⟨n - 1, by omega⟩
    rw [nI_pred, nI_toInt (by omega), nI_toInt hn]
    have e3 : (0 : Int32).toInt = 0 := rfl
    rw [e3]
    omega
theorem nq_0_0 : (nI 0 = (0 : Int32)) = True := by simp only [eq_iff_iff]; decide
theorem nq_0_1 : (nI 0 = (1 : Int32)) = False := by simp only [eq_iff_iff]; decide
theorem nq_0_2 : (nI 0 = (2 : Int32)) = False := by simp only [eq_iff_iff]; decide
theorem nq_0_3 : (nI 0 = (3 : Int32)) = False := by simp only [eq_iff_iff]; decide
theorem nq_0_4 : (nI 0 = (4 : Int32)) = False := by simp only [eq_iff_iff]; decide
theorem nq_1_0 : (nI 1 = (0 : Int32)) = False := by simp only [eq_iff_iff]; decide
theorem nq_1_1 : (nI 1 = (1 : Int32)) = True := by simp only [eq_iff_iff]; decide
theorem nq_1_2 : (nI 1 = (2 : Int32)) = False := by simp only [eq_iff_iff]; decide
theorem nq_1_3 : (nI 1 = (3 : Int32)) = False := by simp only [eq_iff_iff]; decide
theorem nq_1_4 : (nI 1 = (4 : Int32)) = False := by simp only [eq_iff_iff]; decide
theorem nq_2_0 : (nI 2 = (0 : Int32)) = False := by simp only [eq_iff_iff]; decide
theorem nq_2_1 : (nI 2 = (1 : Int32)) = False := by simp only [eq_iff_iff]; decide
theorem nq_2_2 : (nI 2 = (2 : Int32)) = True := by simp only [eq_iff_iff]; decide
theorem nq_2_3 : (nI 2 = (3 : Int32)) = False := by simp only [eq_iff_iff]; decide
theorem nq_2_4 : (nI 2 = (4 : Int32)) = False := by simp only [eq_iff_iff]; decide
theorem nq_3_0 : (nI 3 = (0 : Int32)) = False := by simp only [eq_iff_iff]; decide
theorem nq_3_1 : (nI 3 = (1 : Int32)) = False := by simp only [eq_iff_iff]; decide
theorem nq_3_2 : (nI 3 = (2 : Int32)) = False := by simp only [eq_iff_iff]; decide
theorem nq_3_3 : (nI 3 = (3 : Int32)) = True := by simp only [eq_iff_iff]; decide
theorem nq_3_4 : (nI 3 = (4 : Int32)) = False := by simp only [eq_iff_iff]; decide
theorem nq_4_0 : (nI 4 = (0 : Int32)) = False := by simp only [eq_iff_iff]; decide
theorem nq_4_1 : (nI 4 = (1 : Int32)) = False := by simp only [eq_iff_iff]; decide
theorem nq_4_2 : (nI 4 = (2 : Int32)) = False := by simp only [eq_iff_iff]; decide
theorem nq_4_3 : (nI 4 = (3 : Int32)) = False := by simp only [eq_iff_iff]; decide
theorem nq_4_4 : (nI 4 = (4 : Int32)) = True := by simp only [eq_iff_iff]; decide
