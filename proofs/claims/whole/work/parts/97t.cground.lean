/-! Grounds: what the class reads. -/
def cA (g k : Nat) : Nat := if k = 7 then 131 else if k = 5 ∨ k = 6 then g + 9 else g
def cK (k : Nat) : Nat := if k = 0 then 0 else if k = 1 then 1 else if k = 2 then 6 else if k = 3 then 9 else if k = 5 then 0 else 2
/-- the class's draft g is d -/
def CR (T : Tc) (g : Nat) (d : Dr) : Prop := T.2.2.2.1 131 1 = g ∧ (∀ k, k < 8 → k ≠ 4 → T.1 (cA g k) (cK k) = nI (d 0 k)) ∧ T.1 g 2 = nI (d 0 0 * d 0 1) ∧ (∀ c, c < 48 → T.2.1 (g + 1) c = nI (d 1 c)) ∧ T.2.2.1 g 5 = nbL (fun k => nI (d 8 k)) (d 0 4) ∧ (∀ j, 2 ≤ j → j ≤ 11 → j ≠ 8 → ∀ i, i < d 0 (cx j) → T.2.1 (g + j + 1) i = nI (d j i))
abbrev Od (g : Nat) : Nat → Prop := fun r => r ≠ 131 ∧ ¬ (g ≤ r ∧ r < g + 15)
theorem TXc.ext {T T' : Tc} {L g : Nat} {b : Nat → Nat} (h : TXc T L b) (ha : agr (Od g) T T') (hg : g = 132 ∨ 242 ≤ g) : TXc T' L b := by
  have a := ha 129 ⟨by decide, by omega⟩
  have c := ha 130 ⟨by decide, by omega⟩
  refine ⟨h.1, by rw [a.1]; exact h.2.1, fun i hi => ?_⟩
  rw [c.2.1]
  exact h.2.2 i hi
theorem cAK {g k c : Nat} (hg : g = 132 ∨ 242 ≤ g) (hk : k < 8) (h4 : k ≠ 4) (hc : 2 ≤ c) (hc6 : c ≤ 6) (hc4 : c ≠ 4) (hne : k ≠ c) : ¬ (cA g k = cA g c ∧ cK k = cK c) := by
  have ck : k = 0 ∨ k = 1 ∨ k = 2 ∨ k = 3 ∨ k = 5 ∨ k = 6 ∨ k = 7 := by omega
  have cc : c = 2 ∨ c = 3 ∨ c = 5 ∨ c = 6 := by omega
  rcases cc with rfl | rfl | rfl | rfl <;> rcases ck with rfl | rfl | rfl | rfl | rfl | rfl | rfl <;> simp [cA, cK] at hne ⊢ <;> omega
theorem nbL_cong {f f' : Nat → Int32} : ∀ {k : Nat}, (∀ i, i < k → f i = f' i) → nbL f k = nbL f' k
  | 0, _ => rfl
  | k + 1, h => by rw [nbL, nbL, nbL_cong (k := k) (fun i hi => h i (by omega)), h k (by omega)]
theorem rec_s {d : Dr} {c k : Nat} {v : Nat → Nat} (h : k ≠ c) : rec_ d c v 0 k = d 0 k := by
  unfold rec_
  rw [if_neg (fun x => h x.2), if_neg (fun x => by omega)]
theorem rec_c {d : Dr} {c : Nat} {v : Nat → Nat} : rec_ d c v 0 c = d 0 c + 1 := if_pos ⟨rfl, rfl⟩
theorem rec_r {d : Dr} {c j i : Nat} {v : Nat → Nat} (h1 : 2 ≤ j) (h2 : j ≤ 11) : rec_ d c v j i = if cx j = c ∧ i = d 0 c then v j else d j i := by
  unfold rec_
  rw [if_neg (fun x => by omega)]
  by_cases e : cx j = c ∧ i = d 0 c
  · rw [if_pos ⟨h1, h2, e⟩, if_pos e]
  · rw [if_neg (fun x => e x.2.2), if_neg e]
theorem rec_1 {d : Dr} {c i : Nat} {v : Nat → Nat} : rec_ d c v 1 i = d 1 i := by
  unfold rec_
  rw [if_neg (fun x => by omega), if_neg (fun x => by omega)]
theorem rec_n {d : Dr} {c j i : Nat} {v : Nat → Nat} (h : i < rec_ d c v 0 (cx j)) (h2 : ¬ (cx j = c ∧ i = d 0 c)) : i < d 0 (cx j) := by
  by_cases e : cx j = c
  · rw [e, rec_c] at h
    rw [e]
    omega
  · rw [rec_s e] at h
    exact h
theorem CR.add {T T' : Tc} {g c : Nat} {d : Dr} {v : Nat → Nat} (h : CR T g d) (hg : g = 132 ∨ 242 ≤ g) (hc : 2 ≤ c) (hc6 : c ≤ 6) (hc4 : c ≠ 4) (e1 : ∀ r x, T'.1 r x = if r = cA g c ∧ x = cK c then nI (d 0 c + 1) else T.1 r x) (e2 : ∀ j x, 2 ≤ j → j ≤ 11 → T'.2.1 (g + j + 1) x = if cx j = c ∧ x = d 0 c then nI (v j) else T.2.1 (g + j + 1) x) (e2' : T'.2.1 (g + 1) = T.2.1 (g + 1)) (e3 : T'.2.2 = T.2.2) : CR T' g (rec_ d c v) := by
  obtain ⟨a1, a2, a3, a4, a5, a6⟩ := h
  refine ⟨by rw [e3]; exact a1, fun k hk h4 => ?_, ?_, fun x hx => ?_, ?_, fun j j2 j11 j8 i hi => ?_⟩
  · rw [e1]
    by_cases e : k = c
    · rw [e, if_pos ⟨rfl, rfl⟩, rec_c]
    · rw [if_neg (cAK hg hk h4 hc hc6 hc4 e), rec_s e]
      exact a2 k hk h4
  · rw [e1, rec_s (by omega), rec_s (by omega), if_neg (fun x => by
      have cc : c = 2 ∨ c = 3 ∨ c = 5 ∨ c = 6 := by omega
      rcases cc with rfl | rfl | rfl | rfl <;> simp [cA, cK] at x)]
    exact a3
  · rw [e2', rec_1]
    exact a4 x hx
  · rw [e3, a5, rec_s (by omega)]
    refine nbL_cong (fun i _ => ?_)
    rw [rec_r (by omega) (by omega), if_neg (fun x => hc4 x.1.symm)]
  · rw [e2 j i j2 j11, rec_r j2 j11]
    by_cases e : cx j = c ∧ i = d 0 c
    · rw [if_pos e, if_pos e]
    · rw [if_neg e, if_neg e]
      exact a6 j j2 j11 j8 i (rec_n hi e)
theorem CR.net {T : Tc} {g v : Nat} {d : Dr} (h : CR T g d) : CR (tJ T g 5 (T.2.2.1 g 5 ||| ((1 : Int64) <<< ((nI v).toInt64 &&& 63)))) g (rec_ d 4 (fun _ => v)) := by
  obtain ⟨a1, a2, a3, a4, a5, a6⟩ := h
  refine ⟨a1, fun k hk h4 => ?_, ?_, fun x hx => ?_, ?_, fun j j2 j11 j8 i hi => ?_⟩
  · rw [rec_s h4]
    exact a2 k hk h4
  · rw [rec_s (by omega), rec_s (by omega)]
    exact a3
  · rw [rec_1]
    exact a4 x hx
  · rw [tJ3, if_pos ⟨rfl, rfl⟩, rec_c, nbL, a5, rec_r (by omega) (by omega), if_pos ⟨rfl, rfl⟩]
    congr 1
    refine nbL_cong (fun i hi => ?_)
    rw [rec_r (by omega) (by omega), if_neg (fun x => by omega)]
  · have e : ¬ (cx j = 4 ∧ i = d 0 4) := fun x => by
      have := x.1
      unfold cx at this
      split at this
      · omega
      · split at this
        · omega
        · split at this
          · omega
          · split at this <;> omega
    rw [rec_r j2 j11, if_neg e]
    exact a6 j j2 j11 j8 i (rec_n hi e)
theorem CR.hgt {T : Tc} {g i v : Nat} {d : Dr} (h : CR T g d) (hg : g = 132 ∨ 242 ≤ g) : CR (tA T (g + 1) i (nI v)) g (du d 1 i v) := by
  obtain ⟨a1, a2, a3, a4, a5, a6⟩ := h
  have s : ∀ k, du d 1 i v 0 k = d 0 k := fun k => if_neg (fun x => by omega)
  have r : ∀ j x, 2 ≤ j → du d 1 i v j x = d j x := fun j x h => if_neg (fun x => by omega)
  refine ⟨a1, fun k hk h4 => ?_, ?_, fun x hx => ?_, ?_, fun j j2 j11 j8 x hx => ?_⟩
  · rw [s]; exact a2 k hk h4
  · rw [s, s]; exact a3
  · rw [tA2]
    by_cases e : x = i
    · rw [if_pos ⟨rfl, e⟩, e]
      exact congrArg nI (if_pos ⟨rfl, rfl⟩).symm
    · rw [if_neg (fun q => e q.2), a4 x hx]
      exact congrArg nI (if_neg (fun q => e q.2)).symm
  · rw [s]
    refine a5.trans (nbL_cong (fun i _ => ?_))
    show nI _ = nI _
    rw [r 8 _ (by omega)]
  · rw [s] at hx
    rw [tA2, if_neg (fun q => by omega), r j x j2]
    exact a6 j j2 j11 j8 x hx
theorem CR.told {T : Tc} {g v : Nat} {d : Dr} (h : CR T g d) (hg : g = 132 ∨ 242 ≤ g) : CR (tI T 131 2 (nI v)) g (du d 0 7 v) := by
  obtain ⟨a1, a2, a3, a4, a5, a6⟩ := h
  have s : ∀ k, k ≠ 7 → du d 0 7 v 0 k = d 0 k := fun k hk => if_neg (fun x => hk x.2)
  have r : ∀ j x, 1 ≤ j → du d 0 7 v j x = d j x := fun j x h => if_neg (fun x => by omega)
  have cb := fun j => cx_b j
  refine ⟨a1, fun k hk h4 => ?_, ?_, fun x hx => ?_, ?_, fun j j2 j11 j8 x hx => ?_⟩
  · rw [tI1]
    by_cases e : k = 7
    · rw [e, if_pos ⟨rfl, rfl⟩]
      exact congrArg nI (if_pos ⟨rfl, rfl⟩).symm
    · rw [if_neg (fun q => by
        have := q.1
        unfold cA at this
        rw [if_neg e] at this
        split at this <;> omega), s k e]
      exact a2 k hk h4
  · rw [tI1, if_neg (fun q => by omega), s 0 (by omega), s 1 (by omega)]
    exact a3
  · rw [r 1 x (by omega)]; exact a4 x hx
  · rw [s 4 (by omega)]
    refine a5.trans (nbL_cong (fun i _ => ?_))
    show nI _ = nI _
    rw [r 8 _ (by omega)]
  · have := cb j
    rw [s _ (by omega)] at hx
    rw [r j x (by omega)]
    exact a6 j j2 j11 j8 x hx
theorem CR.size {T : Tc} {g v w : Nat} {d : Dr} (h : CR T g d) (hg : g = 132 ∨ 242 ≤ g) : CR (tI (tI (tI T g 0 (nI v)) g 1 (nI w)) g 2 (nI v * nI w)) g (du (du d 0 0 v) 0 1 w) := by
  obtain ⟨a1, a2, a3, a4, a5, a6⟩ := h
  have s : ∀ k, k ≠ 0 → k ≠ 1 → du (du d 0 0 v) 0 1 w 0 k = d 0 k := fun k h0 h1 => (if_neg (fun x => h1 x.2)).trans (if_neg (fun x => h0 x.2))
  have r : ∀ j x, 1 ≤ j → du (du d 0 0 v) 0 1 w j x = d j x := fun j x h => (if_neg (fun x => by omega)).trans (if_neg (fun x => by omega))
  have s0 : du (du d 0 0 v) 0 1 w 0 0 = v := (if_neg (fun x => by omega)).trans (if_pos ⟨rfl, rfl⟩)
  have s1 : du (du d 0 0 v) 0 1 w 0 1 = w := if_pos ⟨rfl, rfl⟩
  have cb := fun j => cx_b j
  refine ⟨a1, fun k hk h4 => ?_, ?_, fun x hx => ?_, ?_, fun j j2 j11 j8 x hx => ?_⟩
  · rw [tI1, tI1, tI1]
    by_cases e0 : k = 0
    · rw [e0, s0]
      rw [if_neg (show ¬ (cA g 0 = g ∧ cK 0 = 2) from fun q => by have := q.2; simp [cK] at this), if_neg (show ¬ (cA g 0 = g ∧ cK 0 = 1) from fun q => by have := q.2; simp [cK] at this), if_pos ⟨rfl, rfl⟩]
    · by_cases e1 : k = 1
      · rw [e1, s1]
        rw [if_neg (show ¬ (cA g 1 = g ∧ cK 1 = 2) from fun q => by have := q.2; simp [cK] at this), if_pos ⟨rfl, rfl⟩]
      · have hh : ¬ (cA g k = g ∧ cK k ≤ 2) := fun q => by
          have ck : k = 2 ∨ k = 3 ∨ k = 5 ∨ k = 6 ∨ k = 7 := by omega
          rcases ck with rfl | rfl | rfl | rfl | rfl <;> simp [cA, cK] at q <;> omega
        rw [if_neg (fun q => hh ⟨q.1, by omega⟩), if_neg (fun q => hh ⟨q.1, by omega⟩), if_neg (fun q => hh ⟨q.1, by omega⟩), s k e0 e1]
        exact a2 k hk h4
  · rw [tI1, if_pos ⟨rfl, rfl⟩, s0, s1, pk_mul]
  · rw [r 1 x (by omega)]; exact a4 x hx
  · rw [s 4 (by omega) (by omega)]
    refine a5.trans (nbL_cong (fun i _ => ?_))
    show nI _ = nI _
    rw [r 8 _ (by omega)]
  · have := cb j
    rw [s _ (by omega) (by omega)] at hx
    rw [r j x (by omega)]
    exact a6 j j2 j11 j8 x hx
