/-! Grounds told in a text: what is read. Row 0 has the counts (columns, rows, people, things, nets, lessons, afters, rows told), then heights, cells of people, soft, cells of things, owner, hard, worth, nets, hours, later, sooner. -/
abbrev Dr : Type := Nat → Nat → Nat
def sb {α β : Type} (x : Sum Nat α) (f : α → Sum Nat β) : Sum Nat β := match x with
  | .inl e => .inl e
  | .inr a => f a
theorem sb_l {α β : Type} (e : Nat) (f : α → Sum Nat β) : sb (.inl e) f = .inl e := rfl
theorem sb_r {α β : Type} (a : α) (f : α → Sum Nat β) : sb (.inr a) f = f a := rfl
def du (d : Dr) (j i v : Nat) : Dr := fun r x => if r = j ∧ x = i then v else d r x
/-- which count a row goes by -/
def cx (j : Nat) : Nat := if j ≤ 3 then 2 else if j ≤ 7 then 3 else if j ≤ 8 then 4 else if j ≤ 9 then 5 else 6
/-- one more in the rows of a count -/
def rec_ (d : Dr) (c : Nat) (v : Nat → Nat) : Dr := fun r x => if r = 0 ∧ x = c then d 0 c + 1 else if 2 ≤ r ∧ r ≤ 11 ∧ cx r = c ∧ x = d 0 c then v r else d r x
def hiD (d : Dr) (j : Nat) : Nat := if j = 2 ∨ j = 4 ∨ j = 8 then d 0 0 * d 0 1 else if j = 3 ∨ j = 5 then 10 else if j = 6 then 31 else if j = 7 then 61 else if j = 9 then 21 else d 0 5
/-- a sound draft behind its size -/
def DOK (d : Dr) : Prop := (2 ≤ d 0 0 ∧ d 0 0 ≤ 8) ∧ (2 ≤ d 0 1 ∧ d 0 1 ≤ 6) ∧ (d 0 7 ≤ d 0 1) ∧ (d 0 2 ≤ 5 ∧ d 0 3 ≤ 8 ∧ d 0 4 ≤ 4 ∧ d 0 5 ≤ 8 ∧ d 0 6 ≤ 10) ∧ (∀ c, d 1 c ≤ 9) ∧ (∀ j, 2 ≤ j → j ≤ 11 → ∀ i, i < d 0 (cx j) → d j i < hiD d j) ∧ (∀ i, i < d 0 5 → 1 ≤ d 9 i) ∧ (∀ i j, i < d 0 4 → j < d 0 4 → d 8 i = d 8 j → i = j)
theorem cx_b (j : Nat) : 2 ≤ cx j ∧ cx j ≤ 6 := by
  unfold cx
  split
  · omega
  · split
    · omega
    · split
      · omega
      · split <;> omega
theorem DOK.add {d : Dr} (h : DOK d) {c : Nat} {v : Nat → Nat} (h2 : 2 ≤ c) (h6 : c ≤ 6) (hr : d 0 c < (if c = 2 then 5 else if c = 3 then 8 else if c = 4 then 4 else if c = 5 then 8 else 10)) (hv : ∀ j, 2 ≤ j → j ≤ 11 → cx j = c → v j < hiD d j) (h9 : c = 5 → 1 ≤ v 9) (h8 : c = 4 → ∀ i, i < d 0 4 → d 8 i ≠ v 8) : DOK (rec_ d c v) := by
  obtain ⟨a1, a2, a3, a4, a5, a6, a7, a8⟩ := h
  have s : ∀ k, k ≠ c → rec_ d c v 0 k = d 0 k := fun k hk => by
    unfold rec_
    rw [if_neg (fun x => hk x.2), if_neg (fun x => by omega)]
  have sc : rec_ d c v 0 c = d 0 c + 1 := if_pos ⟨rfl, rfl⟩
  have sl : ∀ k, d 0 k ≤ rec_ d c v 0 k := fun k => by
    by_cases e : k = c
    · rw [e, sc]; omega
    · rw [s k e]; exact Nat.le_refl _
  have rw_ : ∀ j i, 2 ≤ j → j ≤ 11 → rec_ d c v j i = if cx j = c ∧ i = d 0 c then v j else d j i := fun j i h1 h2 => by
    unfold rec_
    rw [if_neg (fun x => by omega)]
    by_cases e : cx j = c ∧ i = d 0 c
    · rw [if_pos ⟨h1, h2, e⟩, if_pos e]
    · rw [if_neg (fun x => e x.2.2), if_neg e]
  have hh : ∀ j, hiD d j ≤ hiD (rec_ d c v) j := fun j => by
    unfold hiD
    rw [s 0 (by omega), s 1 (by omega)]
    split
    · exact Nat.le_refl _
    · split
      · exact Nat.le_refl _
      · split
        · exact Nat.le_refl _
        · split
          · exact Nat.le_refl _
          · split
            · exact Nat.le_refl _
            · exact sl 5
  have cnt : ∀ j i, i < rec_ d c v 0 (cx j) → ¬ (cx j = c ∧ i = d 0 c) → i < d 0 (cx j) := fun j i h1 h2 => by
    by_cases e : cx j = c
    · rw [e, sc] at h1
      rw [e]
      omega
    · rw [s _ e] at h1
      exact h1
  refine ⟨?_, ?_, ?_, ?_, ?_, ?_, ?_, ?_⟩
  · rw [s 0 (by omega)]; exact a1
  · rw [s 1 (by omega)]; exact a2
  · rw [s 7 (by omega), s 1 (by omega)]; exact a3
  · have q : ∀ k, rec_ d c v 0 k = if k = c then d 0 c + 1 else d 0 k := fun k => by
      by_cases e : k = c
      · rw [e, sc, if_pos rfl]
      · rw [s k e, if_neg e]
    rw [q 2, q 3, q 4, q 5, q 6]
    have hc : c = 2 ∨ c = 3 ∨ c = 4 ∨ c = 5 ∨ c = 6 := by omega
    rcases hc with rfl | rfl | rfl | rfl | rfl <;> simp at hr ⊢ <;> omega
  · intro x
    unfold rec_
    rw [if_neg (fun x => by omega), if_neg (fun x => by omega)]
    exact a5 x
  · intro j j2 j11 i hi
    rw [rw_ j i j2 j11]
    by_cases e : cx j = c ∧ i = d 0 c
    · rw [if_pos e]
      exact Nat.lt_of_lt_of_le (hv j j2 j11 e.1) (hh j)
    · rw [if_neg e]
      exact Nat.lt_of_lt_of_le (a6 j j2 j11 i (cnt j i hi e)) (hh j)
  · intro i hi
    rw [rw_ 9 i (by omega) (by omega)]
    by_cases e : cx 9 = c ∧ i = d 0 c
    · rw [if_pos e]
      exact h9 e.1.symm
    · rw [if_neg e]
      exact a7 i (cnt 9 i hi e)
  · intro i j hi hj
    rw [rw_ 8 i (by omega) (by omega), rw_ 8 j (by omega) (by omega)]
    by_cases e : cx 8 = c ∧ i = d 0 c
    · by_cases e' : cx 8 = c ∧ j = d 0 c
      · intro _; rw [e.2, e'.2]
      · rw [if_pos e, if_neg e']
        intro x
        exact absurd x.symm (h8 e.1.symm j (cnt 8 j hj e'))
    · by_cases e' : cx 8 = c ∧ j = d 0 c
      · rw [if_neg e, if_pos e']
        intro x
        exact absurd x (h8 e'.1.symm i (cnt 8 i hi e))
      · rw [if_neg e, if_neg e']
        exact a8 i j (cnt 8 i hi e) (cnt 8 j hj e')
section GSPEC
variable (L : Nat) (b : Nat → Nat)
def gSize (p : Nat) (d : Dr) : Sum Nat (Nat × Dr) := sb (amt L b p 2 9) fun a => sb (amt L b a.2 2 7) fun c => .inr (c.2, du (du d 0 0 a.1) 0 1 c.1)
def rowK : Nat → Nat → Nat → Dr → Sum Nat (Nat × Dr)
  | 0, _, p, d => .inr (p, d)
  | k + 1, c, p, d => if tD L b p = true then rowK k (c + 1) (p + 1) (du d 1 (d 0 0 * d 0 7 + c) (b p - 48)) else .inl (1 + 8 * p + 0)
def gRow (p : Nat) (d : Dr) : Sum Nat (Nat × Dr) := sb (rowK L b (d 0 0) 0 (skp L b p) d) fun a => .inr (a.1, du a.2 0 7 (d 0 7 + 1))
def gPers (p : Nat) (d : Dr) : Sum Nat (Nat × Dr) := sb (amt L b p 0 (d 0 0 * d 0 1)) fun a => sb (amt L b a.2 0 10) fun c => .inr (c.2, rec_ d 2 (fun r => if r = 2 then a.1 else c.1))
def gOwn (p : Nat) (d : Dr) : Sum Nat (Nat × Nat) := sb (amt L b p 0 100000) fun a => if a.1 ≠ 9 ∧ d 0 2 ≤ a.1 then .inl (1 + 8 * skp L b p + 1) else .inr a
def gThng (p : Nat) (d : Dr) : Sum Nat (Nat × Dr) := sb (amt L b p 0 (d 0 0 * d 0 1)) fun a => sb (gOwn L b a.2 d) fun o => sb (amt L b o.2 1 31) fun h => sb (amt L b h.2 0 61) fun w => .inr (w.2, rec_ d 3 (fun r => if r = 4 then a.1 else if r = 5 then o.1 else if r = 6 then h.1 else w.1))
def inN (d : Dr) (v : Nat) : Nat → Bool
  | 0 => false
  | k + 1 => inN d v k || decide (d 8 k = v)
def gNet (p : Nat) (d : Dr) : Sum Nat (Nat × Dr) := sb (amt L b p 0 (d 0 0 * d 0 1)) fun a => if inN d a.1 (d 0 4) = true then .inl (1 + 8 * skp L b p + 1) else .inr (a.2, rec_ d 4 (fun _ => a.1))
def gLess (p : Nat) (d : Dr) : Sum Nat (Nat × Dr) := sb (amt L b p 1 21) fun a => .inr (a.2, rec_ d 5 (fun _ => a.1))
def gAft (p : Nat) (d : Dr) : Sum Nat (Nat × Dr) := sb (amt L b p 0 (d 0 5)) fun a => sb (amt L b a.2 0 (d 0 5)) fun c => if a.1 = c.1 then .inl (1 + 8 * skp L b a.2 + 1) else .inr (c.2, rec_ d 6 (fun r => if r = 10 then a.1 else c.1))
def gPart (k p : Nat) (d : Dr) : Sum Nat (Nat × Dr) := if k = 0 then gSize L b p d else if k = 1 then gRow L b p d else if k = 2 then gPers L b p d else if k = 3 then gThng L b p d else if k = 4 then gNet L b p d else if k = 5 then gLess L b p d else gAft L b p d
def gFull (d : Dr) (k : Nat) : Bool := decide ((k = 1 ∧ d 0 7 = d 0 1) ∨ (k = 2 ∧ d 0 2 = 5) ∨ (k = 3 ∧ d 0 3 = 8) ∨ (k = 4 ∧ d 0 4 = 4) ∨ (k = 5 ∧ d 0 5 = 8) ∨ (k = 6 ∧ d 0 6 = 10))
/-- ground row person thing net lesson after -/
def gWs : List (List Nat) := [[103, 114, 111, 117, 110, 100], [114, 111, 119], [112, 101, 114, 115, 111, 110], [116, 104, 105, 110, 103], [110, 101, 116], [108, 101, 115, 115, 111, 110], [97, 102, 116, 101, 114]]
def gCl (n p : Nat) (d : Dr) : Sum Nat (Nat × Dr) :=
  if fw L b gWs (skp L b p) = 7 then .inl (1 + 8 * skp L b p + 0)
  else if n = 40 ∨ ¬ (fw L b gWs (skp L b p) = 0 ↔ n = 0) ∨ gFull d (fw L b gWs (skp L b p)) = true then .inl (1 + 8 * skp L b p + 4)
  else gPart L b (fw L b gWs (skp L b p)) (we L b (skp L b p)) d
/-- on to the next clause, or the end -/
def gGo (p : Nat) : Sum Nat (Bool × Nat) := if skp L b p < L then (if b (skp L b p) = 59 then .inr (true, skp L b p + 1) else .inl (1 + 8 * skp L b p + 0)) else .inr (false, skp L b p)
def gAll : Nat → Nat → Nat → Dr → Sum Nat Dr
  | 0, _, _, _ => .inl 0
  | f + 1, n, p, d => sb (gCl L b n p d) fun a => sb (gGo L b a.1) fun m => if m.1 = true then gAll f (n + 1) m.2 a.2 else .inr a.2
end GSPEC
theorem amt_ok {L : Nat} {b : Nat → Nat} {p lo hb v q : Nat} (h : amt L b p lo hb = .inr (v, q)) (hp : p ≤ L) : lo ≤ v ∧ v < hb ∧ q ≤ L := by
  have hs := skp_le b hp
  unfold amt at h
  split at h
  · split at h
    · cases h
    · injection h with h
      injection h with h1 h2
      have := de_le b hs
      omega
  · cases h
theorem amt_er {L : Nat} {b : Nat → Nat} {p lo hb e : Nat} (h : amt L b p lo hb = .inl e) (hp : p ≤ L) : e ≠ 0 ∧ e < 8 * L + 10 := by
  have hs := skp_le b hp
  unfold amt at h
  split at h
  · split at h
    · injection h with h
      omega
    · cases h
  · injection h with h
    omega
theorem inN_t {d : Dr} {v : Nat} : ∀ {k : Nat}, inN d v k = true ↔ ∃ i, i < k ∧ d 8 i = v
  | 0 => ⟨fun h => (by cases h), fun ⟨i, h, _⟩ => by omega⟩
  | k + 1 => by
    rw [inN, Bool.or_eq_true, inN_t (k := k)]
    constructor
    · rintro (⟨i, h1, h2⟩ | h)
      · exact ⟨i, by omega, h2⟩
      · exact ⟨k, by omega, of_decide_eq_true h⟩
    · rintro ⟨i, h1, h2⟩
      by_cases e : i = k
      · exact .inr (decide_eq_true (by rw [← e]; exact h2))
      · exact .inl ⟨i, by omega, h2⟩
