/-! New cells: raw while they are made, typed when they are done. -/
def Sr (S : Nat → Nat × Nat × Nat) (n : Nat) : Nat → Nat × Nat × Nat := fun r => if 242 + n ≤ r then (2, 0, 0) else S r
section DYN
variable {n m sl : Nat} {U : Nat → va_E} {S S' : Nat → Nat × Nat × Nat} {T T' : Tc} {σ : Sg}
theorem ovS_hi {r : Nat} (h : 188 ≤ r) : ovS S r = S r := by unfold ovS; rw [if_neg (by omega)]
theorem cellT_raw {r : Nat} (h : (S r).1 = 2) : cellT U S T r = U r := by
  unfold cellT
  rw [h]
  rfl
/-- one cell read in two ways -/
theorem cell_same {r : Nat} (hs : ovS S' r = ovS S r) (h1 : T'.1 r = T.1 r) (h2 : T'.2.1 r = T.2.1 r) (h3 : T'.2.2.1 r = T.2.2.1 r) (h4 : T'.2.2.2.1 r = T.2.2.2.1 r) (h5 : T'.2.2.2.2 r = T.2.2.2.2 r) (U' : Nat → va_E) (hu : U' r = U r) : cellT U' (ovS S') (ovT S' T') r = cellT U (ovS S) (ovT S T) r := by
  have e1 : (ovT S' T').1 r = (ovT S T).1 r := h1
  have e3 : (ovT S' T').2.2.1 r = (ovT S T).2.2.1 r := h3
  have e4 : (ovT S' T').2.2.2.1 r = (ovT S T).2.2.2.1 r := by
    show ovG S' T'.2.2.2.1 r = ovG S T.2.2.2.1 r
    funext k
    unfold ovG
    rw [hs, h4]
  have e2 : (ovT S' T').2.1 r = (ovT S T).2.1 r := h2
  have e5 : (ovT S' T').2.2.2.2 r = (ovT S T).2.2.2.2 r := h5
  unfold cellT
  rw [hs, fsT_congr ⟨e1, e3, e4⟩, e2, e3, e5, hu]
theorem cn_eq {U' : Nat → va_E} (h1 : ∀ r, r < 188 → T'.1 r = T.1 r ∧ T'.2.1 r = T.2.1 r ∧ T'.2.2.1 r = T.2.2.1 r ∧ T'.2.2.2.1 r = T.2.2.2.1 r ∧ T'.2.2.2.2 r = T.2.2.2.2 r) (hu : ∀ r, r < 188 → U' r = U r) (h2 : ∀ r, 242 ≤ r → cellT U' (ovS S') (ovT S' T') r = cellT U (ovS S) (ovT S T) r) : cn n sl U' S' T' σ = cn n sl U S T σ := by
  unfold cn cm mem
  refine Prod.ext rfl (Prod.ext rfl (funext fun k => ?_))
  show (if k < 188 then cellT U' (ovS S') (ovT S' T') k else if k < 242 then mcl σ k else cellT U' (ovS S') (ovT S' T') k) = (if k < 188 then cellT U (ovS S) (ovT S T) k else if k < 242 then mcl σ k else cellT U (ovS S) (ovT S T) k)
  by_cases h : k < 188
  · rw [if_pos h, if_pos h]
    obtain ⟨a, b, c, d, e⟩ := h1 k h
    exact cell_same (by unfold ovS; rw [if_pos h, if_pos h]) a b c d e U' (hu k h)
  · rw [if_neg h, if_neg h]
    by_cases h3 : k < 242
    · rw [if_pos h3, if_pos h3]
    · rw [if_neg h3, if_neg h3]; exact h2 k (by omega)
theorem raw_start : ∃ U0, cn n sl U S T σ = cn n sl U0 (Sr S n) T σ := by
  refine ⟨fun r => if 242 + n ≤ r then cellT U (ovS S) (ovT S T) r else U r, ?_⟩
  refine (cn_eq (fun r _ => ⟨rfl, rfl, rfl, rfl, rfl⟩) (fun r hr => if_neg (by omega)) (fun r hr => ?_)).symm
  by_cases h : 242 + n ≤ r
  · rw [cellT_raw (by rw [ovS_hi (by omega)]; unfold Sr; rw [if_pos h])]
    rw [if_pos h]
  · exact cell_same (by rw [ovS_hi (by omega), ovS_hi (by omega)]; unfold Sr; rw [if_neg h]) rfl rfl rfl rfl rfl _ (if_neg h)
theorem raw_push (hm : n ≤ m) (N : Nat) (e : va_E) : pu (cn m sl U (Sr S n) T σ) N e = cn (m + 1) (sl + N) (va_up U (242 + m) e) (Sr S n) T σ := by
  unfold pu
  refine Prod.ext (show 242 + m + 1 = 242 + (m + 1) by omega) (Prod.ext rfl (funext fun k => ?_))
  show va_up (fun k => if k < 188 then cellT U (ovS (Sr S n)) (ovT (Sr S n) T) k else if k < 242 then mcl σ k else cellT U (ovS (Sr S n)) (ovT (Sr S n) T) k) (242 + m) e k = (if k < 188 then cellT (va_up U (242 + m) e) (ovS (Sr S n)) (ovT (Sr S n) T) k else if k < 242 then mcl σ k else cellT (va_up U (242 + m) e) (ovS (Sr S n)) (ovT (Sr S n) T) k)
  by_cases hk : k = 242 + m
  · subst hk
    rw [va_up_self, if_neg (by omega), if_neg (by omega), cellT_raw (by rw [ovS_hi (by omega)]; unfold Sr; rw [if_pos (by omega)]), va_up_self]
  · rw [va_up_ne _ _ hk]
    have e : ∀ k, k ≠ 242 + m → cellT (va_up U (242 + m) e) (ovS (Sr S n)) (ovT (Sr S n) T) k = cellT U (ovS (Sr S n)) (ovT (Sr S n) T) k := fun k hk => cell_same rfl rfl rfl rfl rfl rfl _ (va_up_ne _ _ hk)
    rw [e k hk]
theorem raw_up (hm : n ≤ m) {r : Nat} (hr : 242 + n ≤ r) (e : va_E) : up (cn m sl U (Sr S n) T σ) r e = cn m sl (va_up U r e) (Sr S n) T σ := by
  unfold up
  refine Prod.ext rfl (Prod.ext rfl (funext fun k => ?_))
  show va_up (fun k => if k < 188 then cellT U (ovS (Sr S n)) (ovT (Sr S n) T) k else if k < 242 then mcl σ k else cellT U (ovS (Sr S n)) (ovT (Sr S n) T) k) r e k = (if k < 188 then cellT (va_up U r e) (ovS (Sr S n)) (ovT (Sr S n) T) k else if k < 242 then mcl σ k else cellT (va_up U r e) (ovS (Sr S n)) (ovT (Sr S n) T) k)
  by_cases hk : k = r
  · subst hk
    rw [va_up_self, if_neg (by omega), if_neg (by omega), cellT_raw (by rw [ovS_hi (by omega)]; unfold Sr; rw [if_pos hr]), va_up_self]
  · rw [va_up_ne _ _ hk]
    have e : ∀ k, k ≠ r → cellT (va_up U r e) (ovS (Sr S n)) (ovT (Sr S n) T) k = cellT U (ovS (Sr S n)) (ovT (Sr S n) T) k := fun k hk => cell_same rfl rfl rfl rfl rfl rfl _ (va_up_ne _ _ hk)
    rw [e k hk]
/-- the new cells -/
def NC (U : Nat → va_E) (n : Nat) (l : List va_E) : Prop := ∀ i, i < l.length → U (242 + n + i) = l.getD i (.inr (0, []))
theorem raw_at {l : List va_E} (h : NC U n l) {i : Nat} (hi : i < l.length) : (cn (n + l.length) sl U (Sr S n) T σ).2.2 (242 + n + i) = l.getD i (.inr (0, [])) ∧ 128 ≤ 242 + n + i ∧ 242 + n + i < (cn (n + l.length) sl U (Sr S n) T σ).1 := by
  refine ⟨?_, by omega, by show 242 + n + i < 242 + (n + l.length); omega⟩
  show (if 242 + n + i < 188 then _ else if 242 + n + i < 242 then mcl σ (242 + n + i) else cellT U (ovS (Sr S n)) (ovT (Sr S n) T) (242 + n + i)) = _
  rw [if_neg (by omega), if_neg (by omega), cellT_raw (by rw [ovS_hi (by omega)]; unfold Sr; rw [if_pos (by omega)])]
  exact h i hi
theorem raw_nO {l : List va_E} (h : NC U n l) (ci N : Nat) (dv : List Value) : ∃ U', nO (cn (n + l.length) sl U (Sr S n) T σ) ci N dv = some (242 + n + l.length, cn (n + (l ++ [(.inr (ci, dv) : va_E)]).length) (sl + N) U' (Sr S n) T σ) ∧ NC U' n (l ++ [(.inr (ci, dv) : va_E)]) := by
  refine ⟨va_up U (242 + (n + l.length)) (.inr (ci, dv)), ?_, fun i hi => ?_⟩
  · refine congrArg some (Prod.ext (show 242 + (n + l.length) = 242 + n + l.length by omega) ?_)
    show pu (cn (n + l.length) sl U (Sr S n) T σ) N _ = _
    rw [raw_push (by omega), List.length_append]
    rfl
  · rw [List.length_append] at hi
    have hi : i < l.length + 1 := hi
    by_cases e : i = l.length
    · subst e
      rw [show 242 + n + l.length = 242 + (n + l.length) by omega, va_up_self]
      simp
    · rw [va_up_ne _ _ (by omega), h i (by omega)]
      simp [List.getElem?_append_left (show i < l.length by omega)]
theorem raw_nA {l : List va_E} (h : NC U n l) (t : Nat) {k : Nat} (hk : k ≤ 10000) : ∃ U', nA (cn (n + l.length) sl U (Sr S n) T σ) t (nI k) = some (242 + n + l.length, cn (n + (l ++ [(.inl (t, k, if t = 3 then .inr (.inl (fun _ => 0)) else if t < 3 then .inl (fun _ => 0) else .inr (.inr (.inr (.inr (fun _ => none))))) : va_E)]).length) (sl + k) U' (Sr S n) T σ) ∧ NC U' n (l ++ [(.inl (t, k, if t = 3 then .inr (.inl (fun _ => 0)) else if t < 3 then .inl (fun _ => 0) else .inr (.inr (.inr (.inr (fun _ => none))))) : va_E)]) := by
  refine ⟨va_up U (242 + (n + l.length)) (.inl (t, k, if t = 3 then .inr (.inl (fun _ => 0)) else if t < 3 then .inl (fun _ => 0) else .inr (.inr (.inr (.inr (fun _ => none)))))), ?_, fun i hi => ?_⟩
  · unfold nA
    rw [if_neg (by
      rw [nI_clamp (by omega)]
      rintro (h | h)
      · exact absurd h (nI_nlt (b := 0) (by omega) (by omega))
      · omega), nI_clamp (by omega)]
    refine congrArg some (Prod.ext (show 242 + (n + l.length) = 242 + n + l.length by omega) ?_)
    show pu (cn (n + l.length) sl U (Sr S n) T σ) k _ = _
    rw [raw_push (by omega), List.length_append]
    rfl
  · rw [List.length_append] at hi
    have hi : i < l.length + 1 := hi
    by_cases e : i = l.length
    · subst e
      rw [show 242 + n + l.length = 242 + (n + l.length) by omega, va_up_self]
      simp
    · rw [va_up_ne _ _ (by omega), h i (by omega)]
      simp [List.getElem?_append_left (show i < l.length by omega)]
theorem raw_ob {l : List va_E} (h : NC U n l) {i : Nat} (hi : i < l.length) {ci : Nat} {fs : List Value} (he : l.getD i (.inr (0, [])) = .inr (ci, fs)) : ob (cn (n + l.length) sl U (Sr S n) T σ) (242 + n + i) ci = some fs := by
  obtain ⟨h1, h2, h3⟩ := raw_at (sl := sl) (S := S) (T := T) (σ := σ) h hi
  unfold ob
  rw [if_pos ⟨h2, h3⟩, h1, he]
  show (if ci = ci then some fs else none) = _
  rw [if_pos rfl]
theorem raw_pV {l : List va_E} (h : NC U n l) {i : Nat} (hi : i < l.length) {ci : Nat} {fs : List Value} (he : l.getD i (.inr (0, [])) = .inr (ci, fs)) (k : Nat) (v : Value) (hk : k < fs.length) : ∃ U', pV (cn (n + l.length) sl U (Sr S n) T σ) (242 + n + i) ci k v = some (cn (n + (l.set i (.inr (ci, fs.set k v))).length) sl U' (Sr S n) T σ) ∧ NC U' n (l.set i (.inr (ci, fs.set k v))) := by
  refine ⟨va_up U (242 + n + i) (.inr (ci, fs.set k v)), ?_, fun j hj => ?_⟩
  · unfold pV
    rw [raw_ob h hi he, Option.bind_some, if_pos hk, raw_up (by omega) (by omega), List.length_set]
  · rw [List.length_set] at hj
    by_cases e : j = i
    · subst e
      rw [va_up_self]
      simp [hi]
    · rw [va_up_ne _ _ (by omega), h j hj]
      simp [List.getElem?_set_ne (Ne.symm e)]
/-- done: the cells are typed -/
theorem raw_end {l : List va_E} {sh : List (Nat × Nat × Nat)} (h : NC U n l) (hl : sh.length = l.length) (ha : agr (fun r => r < 242 + n ∨ 242 + n + l.length ≤ r) T T') (hc : ∀ i, i < l.length → cellT U (ovS (fun r => if r < 242 + n then S r else sh.getD (r - (242 + n)) (2, 0, 0))) (ovT (fun r => if r < 242 + n then S r else sh.getD (r - (242 + n)) (2, 0, 0)) T') (242 + n + i) = l.getD i (.inr (0, []))) : cn (n + l.length) sl U (Sr S n) T σ = cn (n + l.length) sl U (fun r => if r < 242 + n then S r else sh.getD (r - (242 + n)) (2, 0, 0)) T' σ := by
  refine (cn_eq (fun r hr => ?_) (fun _ _ => rfl) (fun r hr => ?_)).symm
  · exact ha r (by omega)
  · by_cases h1 : r < 242 + n
    · obtain ⟨a, b, c, d, e⟩ := ha r (.inl h1)
      exact cell_same (by rw [ovS_hi (by omega), ovS_hi (by omega), if_pos h1]; unfold Sr; rw [if_neg (by omega)]) a b c d e _ rfl
    · by_cases h2 : r < 242 + n + l.length
      · have := hc (r - (242 + n)) (by omega)
        rw [show 242 + n + (r - (242 + n)) = r by omega] at this
        rw [this, cellT_raw (by rw [ovS_hi (by omega)]; unfold Sr; rw [if_pos (by omega)])]
        have := h (r - (242 + n)) (by omega)
        rw [show 242 + n + (r - (242 + n)) = r by omega] at this
        exact this.symm
      · obtain ⟨a, b, c, d, e⟩ := ha r (.inr (by omega))
        refine cell_same ?_ a b c d e _ rfl
        rw [ovS_hi (by omega), ovS_hi (by omega), if_neg h1]
        unfold Sr
        rw [if_pos (by omega)]
        simp [List.getElem?_eq_none (show sh.length ≤ r - (242 + n) by omega)]
end DYN
