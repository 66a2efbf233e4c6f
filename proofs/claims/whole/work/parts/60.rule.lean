/-! Rules: what entries come to, on both sides. -/
theorem lgc_ge (a b : Int64) : (0 ≤ lg_cmp a b) = (¬ a < b) := propext (by
  rw [← lgc_lt, i32le, i32lt]; exact Int.not_lt.symm)
theorem lgc_le (a b : Int64) : (lg_cmp a b ≤ 0) = (a ≤ b) := propext (by
  have h := lgc_gt a b
  rw [i32lt, i64lt] at h
  rw [i32le, i64le]
  omega)
theorem lgc_lt' (a b : Int64) : (lg_cmp a b < 0) = (a < b) := propext (lgc_lt a b)
theorem lgc_gt' (a b : Int64) : (0 < lg_cmp a b) = (b < a) := propext (lgc_gt a b)
theorem nlt64 (a b : Int64) : (b < a) = (¬ a ≤ b) := propext (by rw [i64lt, i64le]; omega)
def opc (j : Nat) : Nat := [0, 0, 100015, 100016, 100020, 100021, 100022, 100023, 100024, 100012, 100013, 100014, 0, 100017, 100018, 100019].getD j 0
theorem cod_op : ∀ j, 2 ≤ j → j < 16 → j ≠ 12 → ∀ v, cod (nI j) v = nI (opc j) := by
  intro j h1 h2 h3 v
  rcases (show j = 2 ∨ j = 3 ∨ j = 4 ∨ j = 5 ∨ j = 6 ∨ j = 7 ∨ j = 8 ∨ j = 9 ∨ j = 10 ∨ j = 11 ∨ j = 13 ∨ j = 14 ∨ j = 15 by omega) with rfl | rfl | rfl | rfl | rfl | rfl | rfl | rfl | rfl | rfl | rfl | rfl | rfl <;> rfl
theorem c_joined (μ : Mm) {j : Nat} (h1 : 2 ≤ j) (h2 : j < 16) (h3 : j ≠ 12) (h4 : j ≠ 9) (a b : Int64) : f_X5_joined μ (nI (opc j)) a b = some (bth (nI j) a b, μ) := by
  rcases (show j = 2 ∨ j = 3 ∨ j = 4 ∨ j = 5 ∨ j = 6 ∨ j = 7 ∨ j = 8 ∨ j = 10 ∨ j = 11 ∨ j = 13 ∨ j = 14 ∨ j = 15 by omega) with rfl | rfl | rfl | rfl | rfl | rfl | rfl | rfl | rfl | rfl | rfl | rfl
  · rfl
  · rfl
  · show (if 0 ≤ lg_cmp a b then some ((0 : Int64), μ) else some (1, μ)) = some (if a < b then 1 else 0, μ)
    simp only [lgc_ge]; by_cases h : a < b
    · rw [if_neg (fun q => q h), if_pos h]
    · rw [if_pos h, if_neg h]
  · show (if 0 < lg_cmp a b then some ((0 : Int64), μ) else some (1, μ)) = some (if a ≤ b then 1 else 0, μ)
    simp only [lgc_gt', nlt64]; by_cases h : a ≤ b
    · rw [if_neg (fun q => q h), if_pos h]
    · rw [if_pos h, if_neg h]
  · show (if lg_cmp a b = 0 then some ((1 : Int64), μ) else some (0, μ)) = some (if a = b then 1 else 0, μ)
    simp only [lg_eq0]; by_cases h : a = b
    · rw [if_pos h, if_pos h]
    · rw [if_neg h, if_neg h]
  · show (if lg_cmp a b < 0 then some ((0 : Int64), μ) else some (1, μ)) = some (if b ≤ a then 1 else 0, μ)
    simp only [lgc_lt', nlt64]; by_cases h : b ≤ a
    · rw [if_neg (fun q => q h), if_pos h]
    · rw [if_pos h, if_neg h]
  · show (if lg_cmp a b ≤ 0 then some ((0 : Int64), μ) else some (1, μ)) = some (if b < a then 1 else 0, μ)
    simp only [lgc_le, nlt64]; by_cases h : a ≤ b
    · rw [if_pos h, if_neg (fun q => q h)]
    · rw [if_neg h, if_pos h]
  · rfl
  · rfl
  · rfl
  · show (if lg_cmp b 0 = 0 then some ((0 : Int64), μ) else dvL a b fun v => some (v, μ)) = some (if b = 0 then 0 else a / b, μ)
    simp only [lg_eq0]; by_cases h : b = 0
    · rw [if_pos h, if_pos h]
    · rw [if_neg h, if_neg h]; unfold dvL; rw [if_neg h]
  · show (if lg_cmp b 0 = 0 then some ((0 : Int64), μ) else rmL a b fun v => some (v, μ)) = some (if b = 0 then 0 else a - a / b * b, μ)
    simp only [lg_eq0]; by_cases h : b = 0
    · rw [if_pos h, if_pos h]
    · rw [if_neg h, if_neg h]; unfold rmL; rw [if_neg h]
theorem s_both (μ : Mm) {j : Nat} (h1 : 2 ≤ j) (h2 : j < 16) (h3 : j ≠ 12) (h4 : j ≠ 9) (a b : Int64) : f_X12_both μ (nI j) a b = some (bth (nI j) a b, μ) := by
  rcases (show j = 2 ∨ j = 3 ∨ j = 4 ∨ j = 5 ∨ j = 6 ∨ j = 7 ∨ j = 8 ∨ j = 10 ∨ j = 11 ∨ j = 13 ∨ j = 14 ∨ j = 15 by omega) with rfl | rfl | rfl | rfl | rfl | rfl | rfl | rfl | rfl | rfl | rfl | rfl
  · rfl
  · rfl
  · show (if 0 ≤ lg_cmp a b then some ((0 : Int64), μ) else some (1, μ)) = some (if a < b then 1 else 0, μ)
    simp only [lgc_ge]; by_cases h : a < b
    · rw [if_neg (fun q => q h), if_pos h]
    · rw [if_pos h, if_neg h]
  · show (if 0 < lg_cmp a b then some ((0 : Int64), μ) else some (1, μ)) = some (if a ≤ b then 1 else 0, μ)
    simp only [lgc_gt', nlt64]; by_cases h : a ≤ b
    · rw [if_neg (fun q => q h), if_pos h]
    · rw [if_pos h, if_neg h]
  · show (if lg_cmp a b = 0 then some ((1 : Int64), μ) else some (0, μ)) = some (if a = b then 1 else 0, μ)
    simp only [lg_eq0]; by_cases h : a = b
    · rw [if_pos h, if_pos h]
    · rw [if_neg h, if_neg h]
  · show (if lg_cmp a b < 0 then some ((0 : Int64), μ) else some (1, μ)) = some (if b ≤ a then 1 else 0, μ)
    simp only [lgc_lt', nlt64]; by_cases h : b ≤ a
    · rw [if_neg (fun q => q h), if_pos h]
    · rw [if_pos h, if_neg h]
  · show (if lg_cmp a b ≤ 0 then some ((0 : Int64), μ) else some (1, μ)) = some (if b < a then 1 else 0, μ)
    simp only [lgc_le, nlt64]; by_cases h : a ≤ b
    · rw [if_pos h, if_neg (fun q => q h)]
    · rw [if_neg h, if_pos h]
  · rfl
  · rfl
  · rfl
  · show (if lg_cmp b 0 = 0 then some ((0 : Int64), μ) else dvL a b fun v => some (v, μ)) = some (if b = 0 then 0 else a / b, μ)
    simp only [lg_eq0]; by_cases h : b = 0
    · rw [if_pos h, if_pos h]
    · rw [if_neg h, if_neg h]; unfold dvL; rw [if_neg h]
  · show (if lg_cmp b 0 = 0 then some ((0 : Int64), μ) else rmL a b fun v => some (v, μ)) = some (if b = 0 then 0 else a - a / b * b, μ)
    simp only [lg_eq0]; by_cases h : b = 0
    · rw [if_pos h, if_pos h]
    · rw [if_neg h, if_neg h]; unfold rmL; rw [if_neg h]
/-- the row holds the stack, the top first in the list -/
def rp (s : Nat → Int64) : List Int64 → Prop
  | [] => True
  | v :: st => s st.length = v ∧ rp s st
theorem rp_up {s : Nat → Int64} {i : Nat} {v : Int64} : ∀ {st : List Int64}, rp s st → st.length ≤ i → rp (vp_updL s i v) st
  | [], _, _ => trivial
  | x :: st, h, hl => by
    have hl : st.length + 1 ≤ i := hl
    exact ⟨by rw [pk_uLn (by omega)]; exact h.1, rp_up h.2 (by omega)⟩
theorem rp_push {s : Nat → Int64} {v : Int64} {st : List Int64} (h : rp s st) : rp (vp_updL s st.length v) (v :: st) := ⟨by rw [pk_uLs], rp_up h (Nat.le_refl _)⟩
theorem tG3r (T : Tc) (r k : Nat) (v : Int64) : (tG T r k v).2.2.1 r = vp_updL (T.2.2.1 r) k v := by
  show va_up T.2.2.1 r (vp_updL (T.2.2.1 r) k v) r = _
  rw [va_up_self]
abbrev Oth (r0 : Nat) : Nat → Prop := fun r => r ≠ r0
/-- what the code of an entry says -/
theorem cod_0 (v : Int32) : cod 0 v = v := rfl
theorem cod_1 {j : Nat} : cod 1 (nI j) = nI (100000 + j) := by
  show nI j + (100000 : Int32) = _
  rw [show (100000 : Int32) = nI 100000 from rfl, nI_add, Nat.add_comm]
theorem nI_pm (k : Nat) : nI (k + 1) + mo = nI k := by
  have h := nI_pred k
  have e : ∀ x : Int32, x + (-1) = x - 1 := fun x => by rw [Int32.sub_eq_add_neg]
  rw [← h]; exact e _
