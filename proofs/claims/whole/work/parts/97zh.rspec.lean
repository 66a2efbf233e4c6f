/-! Rules told in a text: what is read. A state has the place, the parts and the entries. -/
abbrev Rt : Type := Nat × Nat × List (Nat × Nat)
def rAdd (s : Rt) (o : Nat) : Rt := (s.1, s.2.1, s.2.2 ++ [(o, 0)])
def rAt (s : Rt) (p : Nat) : Rt := (p, s.2)
/-- person thing force drop step height hard worth own broken soft people -/
def rWs : List (List Nat) := [[112, 101, 114, 115, 111, 110], [116, 104, 105, 110, 103], [102, 111, 114, 99, 101], [100, 114, 111, 112], [115, 116, 101, 112], [104, 101, 105, 103, 104, 116], [104, 97, 114, 100], [119, 111, 114, 116, 104], [111, 119, 110], [98, 114, 111, 107, 101, 110], [115, 111, 102, 116], [112, 101, 111, 112, 108, 101]]
def wNot : List Nat := [110, 111, 116]
def wAnd : List Nat := [97, 110, 100]
def wOr : List Nat := [111, 114]
def wIf : List Nat := [105, 102]
def rCnt (s : Rt) (k q : Nat) (x : Nat × Nat) : Sum Nat Rt := if s.2.1 = 60 then .inl (1 + 8 * k + 3) else .inr (q, s.2.1 + 1, s.2.2 ++ [x])
def rFac (c : Nat) : Nat := if c = 42 then 13 else if c = 47 then 14 else if c = 37 then 15 else 0
def rTer (c : Nat) : Nat := if c = 43 then 2 else if c = 45 then 3 else 0
section RSPEC
variable (L : Nat) (b : Nat → Nat)
def rOf (f : Nat → Nat) (k : Nat) : Nat := if k < L then f (b k) else 0
def rVal (s : Rt) : Sum Nat Rt := if tD L b (skp L b s.1) = true then sb (amt L b s.1 0 100000) fun a => rCnt s (skp L b s.1) a.2 (0, a.1)
  else if fw L b rWs (skp L b s.1) = 12 then .inl (1 + 8 * skp L b s.1 + 0) else rCnt s (skp L b s.1) (we L b (skp L b s.1)) (1, fw L b rWs (skp L b s.1))
def rT : Nat → Rt → Sum Nat Rt
  | 0, _ => .inl 0
  | f + 1, s => if rOf L b rFac (skp L b s.1) = 0 then .inr (rAt s (skp L b s.1)) else sb (rVal L b (rAt s (skp L b s.1 + 1))) fun s' => rT f (rAdd s' (rOf L b rFac (skp L b s.1)))
def rU : Nat → Rt → Sum Nat Rt
  | 0, _ => .inl 0
  | f + 1, s => if rOf L b rTer s.1 = 0 then .inr s else sb (rVal L b (rAt s (s.1 + 1))) fun s1 => sb (rT L b f s1) fun s2 => rU f (rAdd s2 (rOf L b rTer s.1))
def rSum (s : Rt) : Sum Nat Rt := sb (rVal L b s) fun s1 => sb (rT L b 500 s1) fun s2 => rU L b 500 s2
def rSg (k : Nat) : Nat := if k < L then (if b k = 61 then 6 else if b k = 60 then (if k + 1 < L ∧ b (k + 1) = 61 then 5 else 4) else if b k = 62 then (if k + 1 < L ∧ b (k + 1) = 61 then 7 else 8) else 0) else 0
def rCmp (s : Rt) : Sum Nat Rt := sb (rSum L b s) fun s1 => if rSg L b s1.1 = 0 then .inl (1 + 8 * s1.1 + 0) else if s1.2.1 = 60 then .inl (1 + 8 * s1.1 + 3) else sb (rSum L b ((if rSg L b s1.1 = 5 ∨ rSg L b s1.1 = 7 then s1.1 + 2 else s1.1 + 1), s1.2.1 + 1, s1.2.2)) fun s2 => .inr (rAdd s2 (rSg L b s1.1))
def rTL (F : Rt → Sum Nat Rt) : Nat → Bool → Rt → Sum Nat Rt
  | 0, _, _ => .inl 0
  | f + 1, ow, s => if isWd L b wAnd (skp L b s.1) = true then sb (F (rAt s (we L b (skp L b s.1)))) fun s' => rTL F f ow (rAdd s' 10)
    else if isWd L b wOr (skp L b s.1) = true then sb (F (rAt (if ow = true then rAdd s 11 else s) (we L b (skp L b s.1)))) fun s' => rTL F f true s'
    else .inr (rAt (if ow = true then rAdd s 11 else s) (skp L b s.1))
def rTest (F : Nat → Rt → Sum Nat Rt) (d : Nat) (s : Rt) : Sum Nat Rt := sb (F d s) fun s1 => rTL L b (F d) 500 false s1
def rFact (Tt F : Nat → Rt → Sum Nat Rt) (d : Nat) (s : Rt) : Sum Nat Rt :=
  if skp L b s.1 < L ∧ b (skp L b s.1) = 91 then (if 10 ≤ d then .inl (1 + 8 * skp L b s.1 + 2) else sb (Tt (d + 1) (rAt s (skp L b s.1 + 1))) fun s' => if skp L b s'.1 < L ∧ b (skp L b s'.1) = 93 then .inr (rAt s' (skp L b s'.1 + 1)) else .inl (1 + 8 * skp L b s'.1 + 0))
  else if isWd L b wNot (skp L b s.1) = true then (if 10 ≤ d then .inl (1 + 8 * skp L b s.1 + 2) else sb (F (d + 1) (rAt s (we L b (skp L b s.1)))) fun s' => .inr (rAdd s' 9))
  else rCmp L b (rAt s (skp L b s.1))
def rTF : Nat → (Nat → Rt → Sum Nat Rt) × (Nat → Rt → Sum Nat Rt)
  | 0 => (fun _ _ => .inl 0, fun _ _ => .inl 0)
  | n + 1 => (rTest L b (rTF n).2, rFact L b (rTF n).1 (rTF n).2)
end RSPEC
/-! what entries come to -/
def evL (w : Nat → Int64) : List (Nat × Nat) → List Int64 → Option (List Int64)
  | [], st => some st
  | x :: xs, st => (ev1 (nI x.1) (nI x.2) w st).bind (evL w xs)
theorem evL_app (w : Nat → Int64) : ∀ (a c : List (Nat × Nat)) (st : List Int64), evL w (a ++ c) st = (evL w a st).bind (evL w c)
  | [], c, st => rfl
  | x :: a, c, st => by
    show (ev1 (nI x.1) (nI x.2) w st).bind (evL w (a ++ c)) = ((ev1 (nI x.1) (nI x.2) w st).bind (evL w a)).bind (evL w c)
    cases ev1 (nI x.1) (nI x.2) w st with
    | none => rfl
    | some st' => exact evL_app w a c st'
def EO (x : Nat × Nat) : Prop := (x.1 = 0 ∧ x.2 < 100000) ∨ (x.1 = 1 ∧ x.2 < 12) ∨ (2 ≤ x.1 ∧ x.1 < 16 ∧ x.1 ≠ 12 ∧ x.2 = 0)
def VP (m : Nat) (g : List (Nat × Nat)) : Prop := ∀ w st, st.length + m ≤ 31 → ∃ v, evL w g st = some (v :: st)
def BP (m : Nat) (g : List (Nat × Nat)) : Prop := ∀ w st, st.length + m ≤ 31 → ∃ v, (v = 0 ∨ v = 1) ∧ evL w g st = some (v :: st)
def CP (m : Nat) (g : List (Nat × Nat)) : Prop := ∀ w v st, st.length + m ≤ 31 → ∃ v', evL w g (v :: st) = some (v' :: st)
theorem ev_op {o : Nat} (h2 : 2 ≤ o) (h16 : o < 16) (h9 : o ≠ 9) (w : Nat → Int64) (x a : Int64) (st : List Int64) : ev1 (nI o) (nI 0) w (x :: a :: st) = some (bth (nI o) a x :: st) := by
  have hc : o = 2 ∨ o = 3 ∨ o = 4 ∨ o = 5 ∨ o = 6 ∨ o = 7 ∨ o = 8 ∨ o = 10 ∨ o = 11 ∨ o = 12 ∨ o = 13 ∨ o = 14 ∨ o = 15 := by omega
  unfold ev1
  rcases hc with rfl | rfl | rfl | rfl | rfl | rfl | rfl | rfl | rfl | rfl | rfl | rfl | rfl
  all_goals rw [if_neg (by decide), if_neg (by decide)]
theorem evL_op {o : Nat} (h2 : 2 ≤ o) (h16 : o < 16) (h9 : o ≠ 9) (w : Nat → Int64) (x a : Int64) (st : List Int64) : evL w [(o, 0)] (x :: a :: st) = some (bth (nI o) a x :: st) := by
  show (ev1 (nI o) (nI 0) w (x :: a :: st)).bind (evL w []) = _
  rw [ev_op h2 h16 h9]
  rfl
theorem evL_not (w : Nat → Int64) (x : Int64) (st : List Int64) : evL w [(9, 0)] (x :: st) = some ((1 - x) :: st) := by
  show (ev1 (nI 9) (nI 0) w (x :: st)).bind (evL w []) = _
  unfold ev1
  rw [if_neg (by decide), if_pos (by decide)]
  rfl
theorem bth_b {o : Nat} (h : (4 ≤ o ∧ o ≤ 8)) (a x : Int64) : bth (nI o) a x = 0 ∨ bth (nI o) a x = 1 := by
  have hc : o = 4 ∨ o = 5 ∨ o = 6 ∨ o = 7 ∨ o = 8 := by omega
  unfold bth
  rcases hc with rfl | rfl | rfl | rfl | rfl
  · rw [if_neg (by decide), if_neg (by decide), if_neg (by decide), if_neg (by decide), if_neg (by decide), if_pos (by decide)]
    split
    · exact .inr rfl
    · exact .inl rfl
  · rw [if_neg (by decide), if_neg (by decide), if_neg (by decide), if_neg (by decide), if_neg (by decide), if_neg (by decide), if_pos (by decide)]
    split
    · exact .inr rfl
    · exact .inl rfl
  · rw [if_neg (by decide), if_neg (by decide), if_neg (by decide), if_neg (by decide), if_neg (by decide), if_neg (by decide), if_neg (by decide), if_pos (by decide)]
    split
    · exact .inr rfl
    · exact .inl rfl
  · rw [if_neg (by decide), if_neg (by decide), if_neg (by decide), if_neg (by decide), if_neg (by decide), if_neg (by decide), if_neg (by decide), if_neg (by decide), if_pos (by decide)]
    split
    · exact .inr rfl
    · exact .inl rfl
  · rw [if_neg (by decide), if_neg (by decide), if_neg (by decide), if_neg (by decide), if_neg (by decide), if_neg (by decide), if_neg (by decide), if_neg (by decide), if_neg (by decide), if_pos (by decide)]
    split
    · exact .inr rfl
    · exact .inl rfl
theorem bth_and {a x : Int64} (ha : a = 0 ∨ a = 1) (hx : x = 0 ∨ x = 1) : bth (nI 10) a x = 0 ∨ bth (nI 10) a x = 1 := by
  rcases ha with rfl | rfl <;> rcases hx with rfl | rfl <;> decide
theorem bth_or {a x : Int64} (ha : a = 0 ∨ a = 1) (hx : x = 0 ∨ x = 1) : bth (nI 11) a x = 0 ∨ bth (nI 11) a x = 1 := by
  rcases ha with rfl | rfl <;> rcases hx with rfl | rfl <;> decide
theorem EO.op {o : Nat} (h : 2 ≤ o ∧ o < 16 ∧ o ≠ 12) : EO (o, 0) := .inr (.inr ⟨h.1, h.2.1, h.2.2, rfl⟩)
/-- how a piece of text is read on: the place, the parts, the entries -/
def Go (L : Nat) (s s' : Rt) (g : List (Nat × Nat)) : Prop := s.1 ≤ s'.1 ∧ s'.1 ≤ L ∧ s.2.1 ≤ s'.2.1 ∧ s'.2.1 ≤ 60 ∧ s'.2.2 = s.2.2 ++ g ∧ ∀ x ∈ g, EO x
theorem Go.trans {L : Nat} {s s' s'' : Rt} {g g' : List (Nat × Nat)} (h : Go L s s' g) (h' : Go L s' s'' g') : Go L s s'' (g ++ g') := by
  obtain ⟨a1, a2, a3, a4, a5, a6⟩ := h
  obtain ⟨b1, b2, b3, b4, b5, b6⟩ := h'
  refine ⟨by omega, b2, by omega, b4, by rw [b5, a5, List.append_assoc], fun x hx => ?_⟩
  rcases List.mem_append.1 hx with h | h
  · exact a6 x h
  · exact b6 x h
theorem Go.add {L : Nat} {s s' : Rt} {g : List (Nat × Nat)} (h : Go L s s' g) {o : Nat} (ho : 2 ≤ o ∧ o < 16 ∧ o ≠ 12) : Go L s (rAdd s' o) (g ++ [(o, 0)]) := by
  obtain ⟨a1, a2, a3, a4, a5, a6⟩ := h
  refine ⟨a1, a2, a3, a4, by show s'.2.2 ++ [(o, 0)] = _; rw [a5, List.append_assoc], fun x hx => ?_⟩
  rcases List.mem_append.1 hx with h | h
  · exact a6 x h
  · rw [List.mem_singleton.1 h]
    exact EO.op ho
theorem Go.at {L : Nat} {s s' : Rt} {g : List (Nat × Nat)} (h : Go L s s' g) {p : Nat} (h1 : s'.1 ≤ p) (h2 : p ≤ L) : Go L s (rAt s' p) g := ⟨by show s.1 ≤ p; have := h.1; omega, h2, h.2.2.1, h.2.2.2.1, h.2.2.2.2⟩
theorem Go.from {L : Nat} {s s' : Rt} {g : List (Nat × Nat)} {p : Nat} (h : Go L (rAt s p) s' g) (h1 : s.1 ≤ p) : Go L s s' g := ⟨by have : p ≤ s'.1 := h.1; omega, h.2.1, h.2.2.1, h.2.2.2.1, h.2.2.2.2⟩
theorem rVal_ok {L : Nat} {b : Nat → Nat} {s s' : Rt} (h : rVal L b s = .inr s') (hp : s.1 ≤ L) (hc : s.2.1 ≤ 60) : ∃ g, Go L s s' g ∧ s.1 < s'.1 ∧ s'.2.1 = s.2.1 + 1 ∧ g.length = 1 ∧ VP 1 g := by
  have hs := skp_le b hp
  have gs := skp_ge L b s.1
  unfold rVal at h
  have cnt : ∀ {k q : Nat} {x : Nat × Nat}, rCnt s k q x = .inr s' → s.1 < q → q ≤ L → EO x → VP 1 [x] → ∃ g, Go L s s' g ∧ s.1 < s'.1 ∧ s'.2.1 = s.2.1 + 1 ∧ g.length = 1 ∧ VP 1 g := by
    intro k q x h1 h2 h3 h4 h5
    unfold rCnt at h1
    by_cases c : s.2.1 = 60
    · rw [if_pos c] at h1; cases h1
    · rw [if_neg c] at h1
      injection h1 with h1
      subst h1
      exact ⟨[x], ⟨by show s.1 ≤ q; omega, h3, by show s.2.1 ≤ s.2.1 + 1; omega, by show s.2.1 + 1 ≤ 60; omega, rfl, fun y hy => by rw [List.mem_singleton.1 hy]; exact h4⟩, h2, rfl, rfl, h5⟩
  cases hD : tD L b (skp L b s.1) with
  | true =>
    rw [hD, if_pos rfl] at h
    obtain ⟨⟨v, q⟩, x1, x2⟩ := sb_ok h
    have A := amt_ok x1 hp
    have lt : s.1 < q := by
      unfold amt at x1
      rw [hD, if_pos rfl] at x1
      split at x1
      · cases x1
      · injection x1 with x1
        injection x1 with x3 x4
        have hb := of_decide_eq_true hD
        have : de L b (skp L b s.1) = de L b (skp L b s.1 + 1) := rn_t hD hb.1
        have := rn_ge (L := L) (P := tD L b) _ (skp L b s.1 + 1) rfl
        have e : de L b (skp L b s.1 + 1) = rn L (tD L b) (skp L b s.1 + 1) := rfl
        omega
    refine cnt x2 lt A.2.2 (.inl ⟨rfl, A.2.1⟩) (fun w st hst => ?_)
    refine ⟨(nI v).toInt64, ?_⟩
    show (ev1 (nI 0) (nI v) w st).bind (evL w []) = _
    unfold ev1
    rw [if_pos (.inl rfl), if_pos (by omega), if_pos (show nI 0 = 0 from rfl)]
    rfl
  | false =>
    rw [hD, if_neg (by decide)] at h
    by_cases k12 : fw L b rWs (skp L b s.1) = 12
    · rw [if_pos k12] at h; cases h
    · rw [if_neg k12] at h
      have le := fw_le L b (skp L b s.1) rWs
      have l12 : rWs.length = 12 := rfl
      have iw := fw_get (L := L) (b := b) (p := skp L b s.1) (ws := rWs) rfl (by omega)
      have lt : skp L b s.1 < we L b (skp L b s.1) := by
        unfold isWd at iw
        rw [Bool.and_eq_true] at iw
        have e := of_decide_eq_true iw.1
        have pos : ∀ k, k < 12 → 0 < (rWs.getD k []).length := by decide
        have := pos (fw L b rWs (skp L b s.1)) (by omega)
        omega
      refine cnt h (by omega) (we_le b hs) (.inr (.inl ⟨rfl, by show fw L b rWs (skp L b s.1) < 12; omega⟩)) (fun w st hst => ?_)
      refine ⟨w (nI (fw L b rWs (skp L b s.1))).toNatClampNeg, ?_⟩
      show (ev1 (nI 1) (nI (fw L b rWs (skp L b s.1))) w st).bind (evL w []) = _
      unfold ev1
      rw [if_pos (.inr rfl), if_pos (by omega), if_neg (by decide)]
      rfl
theorem rVal_er {L : Nat} {b : Nat → Nat} {s : Rt} {e : Nat} (h : rVal L b s = .inl e) (hp : s.1 ≤ L) (hL : L ≤ 400) : e ≠ 0 ∧ e < 4000 := by
  have hs := skp_le b hp
  unfold rVal at h
  have cnt : ∀ {k q : Nat} {x : Nat × Nat}, rCnt s k q x = .inl e → k ≤ L → e ≠ 0 ∧ e < 4000 := by
    intro k q x h1 h2
    unfold rCnt at h1
    by_cases c : s.2.1 = 60
    · rw [if_pos c] at h1
      injection h1 with h1
      omega
    · rw [if_neg c] at h1; cases h1
  split at h
  · cases hA : amt L b s.1 0 100000 with
    | inl x =>
      rw [hA, sb_l] at h
      injection h with h
      subst h
      have := amt_er hA hp
      omega
    | inr a =>
      rw [hA, sb_r] at h
      exact cnt h hs
  · split at h
    · injection h with h
      omega
    · exact cnt h hs
