/-! The relation grows; the call image. -/
section GROW
variable {n n' nr : Nat} {S S' : Nat → Nat × Nat × Nat} {T T' : Tc} {σ σ' : Sg}
theorem Vd.mono {r : Nat} (h : Vd n r) (hn : n ≤ n') : Vd n' r := ⟨h.1, by have := h.2; omega⟩
theorem Vd.lt {r : Nat} (h : Vd n r) : r < 242 + n := by
  rcases h.2 with h | h <;> omega
theorem ovS_mono (hS : ∀ r, r < 242 + n → S' r = S r) {r : Nat} (h : r < 242 + n) : ovS S' r = ovS S r := by
  unfold ovS
  by_cases h1 : r < 188
  · rw [if_pos h1, if_pos h1]
  · rw [if_neg h1, if_neg h1, hS r h]
theorem sq_mono {a : Nat} {l : List (Nat × Nat × Nat)} (h : sq n S a l) (hn : n ≤ n') (hS : ∀ r, r < 242 + n → S' r = S r) : sq n' S' a l := fun j hj => ⟨(h j hj).1.mono hn, by rw [ovS_mono hS (h j hj).1.lt]; exact (h j hj).2⟩
theorem REL.grow (h : REL n S T σ nr) (hn : n ≤ n') (hS : ∀ r, r < 242 + n → S' r = S r) (hT : agr (fun r => r < 242 + n) T T') : REL n' S' T' σ nr := by
  obtain ⟨⟨a1, a2, a3, a4, a5, a6, a7, a8⟩, ⟨L, b1, b2, b3, b4⟩, hR, hI, hD, hSc⟩ := h
  have q28 := hT 128 (by omega)
  have q53 := hT 153 (by omega)
  have q73 := hT 173 (by omega)
  have q60 := hT 160 (by omega)
  have q29 := hT 129 (by omega)
  have q30 := hT 130 (by omega)
  have sx : ∀ {a : Nat} {D : Dt}, SR n S T a D → SR n' S' T' a D := fun {a D} s => s.ext (sq_mono s.sv hn hS) (sq_mono s.la.gv hn hS) hT (fun j hj => (s.sv j hj).1.lt) (fun j hj => (s.la.gv j hj).1.lt)
  refine ⟨⟨a1, ?_, a3, a4, ?_, ?_, ?_, ?_⟩, ⟨L, b1, ?_, b3, ?_⟩, ?_, ?_, hD, sx hSc⟩
  · rw [q28.1]; exact a2
  · rw [q53.1]; exact a5
  · rw [q53.1]; exact a6
  · rw [q53.1]; exact a7
  · rw [q73.2.2.2.2]; exact a8
  · rw [q29.1]; exact b2
  · rw [q30.2.1]; exact b4
  · intro k hk
    obtain ⟨a, l, m, c1, c2⟩ := hR k hk
    exact ⟨a, l, m, by rw [q60.2.2.2.2]; exact c1, c2.ext (sq_mono c2.rv hn hS) hT (c2.rv 0 (show 0 < 7 by decide)).1.lt (fun j h1 h2 => (c2.rv j h2).1.lt) rfl (fun _ _ => ⟨rfl, rfl⟩) (fun _ _ => ⟨rfl, rfl, rfl, rfl⟩) (fun _ _ _ _ _ => rfl)⟩
  · intro k hk
    rcases hI k hk with ⟨c1, c2⟩ | ⟨c1, a, c2, c3, c4, c5⟩
    · left; rw [q73.2.2.2.2]; exact ⟨c1, c2⟩
    · right; rw [q73.2.2.2.2]; exact ⟨c1, a, c2, c3, sx c4, c5⟩
theorem SV.rv {a b l m : Nat} (ha : SV n S a) (hr : RV n S b l m) {i j : Nat} (hi : i < 6) (hj : j < 7) : a + i ≠ b + j := by
  refine sq_dj ha hr ?_ ?_ hi hj
  · intro k hk
    have hk : k < 7 := hk
    rcases (show k = 0 ∨ k = 1 ∨ k = 2 ∨ k = 3 ∨ k = 4 ∨ k = 5 ∨ k = 6 by omega) with rfl | rfl | rfl | rfl | rfl | rfl | rfl <;> (intro e; cases e)
  · intro k hk
    have hk : k < 6 := hk
    rcases (show k = 0 ∨ k = 1 ∨ k = 2 ∨ k = 3 ∨ k = 4 ∨ k = 5 by omega) with rfl | rfl | rfl | rfl | rfl | rfl <;> (intro e; cases e)
theorem ob_of {a x : Nat} (h : ∀ i, i < 6 → a + i ≠ x) : Ob a x := by
  have q0 := h 0 (by decide)
  have q1 := h 1 (by decide)
  have q2 := h 2 (by decide)
  have q3 := h 3 (by decide)
  have q4 := h 4 (by decide)
  have q5 := h 5 (by decide)
  show x < a ∨ a + 6 ≤ x
  omega
theorem REL.im {k a : Nat} (hR : REL n S T σ nr) (hk : k < 4) (ha : 242 ≤ a) (hsv : SV n S a) (hT : agr (fun r => Ob a r ∧ r ≠ 173) T T') (h73 : ∀ j, j ≠ k → T'.2.2.2.2 173 j = T.2.2.2.2 173 j) (h73k : T'.2.2.2.2 173 k = some a) (hin : ∀ j, j < 4 → j ≠ k → T.2.2.2.2 173 j ≠ some a) (s1 : ∀ i, i = 28 ∨ i = 32 ∨ i = 37 ∨ i = 55 → σ'.1 i = σ.1 i) (s2 : ∀ r, PerM r → r ≠ 240 → r ≠ 241 → σ'.2.1 r = σ.2.1 r) (s3 : σ'.2.1 241 k = nI 1) (s4 : ∀ j, j ≠ k → σ'.2.1 241 j = σ.2.1 241 j) (s5 : ∀ j, j ≠ k → img σ' j = img σ j) (hn : SR n S T' a (img σ' k)) (hDn : DG nr (img σ' k)) : REL n S T' σ' nr := by
  obtain ⟨⟨a1, a2, a3, a4, a5, a6, a7, a8⟩, ⟨L, b1, b2, b3, b4⟩, hRu, hI, hD, hSc⟩ := hR
  have fx : ∀ r, r < 188 → r ≠ 173 → Ob a r ∧ r ≠ 173 := fun r h1 h2 => ⟨.inl (by omega), h2⟩
  have q28 := hT 128 (fx _ (by decide) (by decide))
  have q53 := hT 153 (fx _ (by decide) (by decide))
  have q60 := hT 160 (fx _ (by decide) (by decide))
  have q29 := hT 129 (fx _ (by decide) (by decide))
  have q30 := hT 130 (fx _ (by decide) (by decide))
  have gok : ∀ {g : Nat}, GV n S g → ∀ j, j < 15 → Ob a (g + j) ∧ g + j ≠ 173 := fun {g} hg j hj => ⟨ob_of fun i hi => hsv.gv hg hi hj, by have := hg.loc; omega⟩
  have cu : cur σ' = cur σ := by
    funext r i
    unfold cur
    by_cases hi : i < dlen r
    · rw [if_pos hi, if_pos hi]
      by_cases h0 : r = 0
      · rw [if_pos h0, if_pos h0, s1 55 (by omega)]
      · rw [if_neg h0, if_neg h0]
        rcases dlen_rows hi with e | hr
        · exact absurd e h0
        · have hr : r = 189 ∨ r = 190 ∨ r = 191 ∨ r = 192 ∨ r = 193 ∨ r = 194 ∨ r = 195 ∨ r = 196 ∨ r = 197 ∨ r = 198 ∨ r = 199 ∨ r = 200 ∨ r = 201 ∨ r = 202 ∨ r = 226 := by simpa [rowsL] using hr
          rw [s2 r (by unfold PerM; omega) (by omega) (by omega)]
    · rw [if_neg hi, if_neg hi]
  refine ⟨⟨a1, ?_, ?_, ?_, ?_, ?_, ?_, ?_⟩, ⟨L, b1, ?_, ?_, ?_⟩, ?_, ?_, ?_, ?_⟩
  · rw [q28.1]; exact a2
  · rw [s1 32 (by omega)]; exact a3
  · rw [s1 37 (by omega)]; exact a4
  · rw [q53.1]; exact a5
  · rw [q53.1]; exact a6
  · rw [q53.1]; exact a7
  · intro i j b hi hj e1 e2
    by_cases hik : i = k
    · by_cases hjk : j = k
      · omega
      · rw [hik, h73k] at e1
        rw [h73 j hjk] at e2
        exact absurd (e2.trans e1.symm) (hin j hj hjk)
    · by_cases hjk : j = k
      · rw [hjk, h73k] at e2
        rw [h73 i hik] at e1
        exact absurd (e1.trans e2.symm) (hin i hi hik)
      · rw [h73 i hik] at e1
        rw [h73 j hjk] at e2
        exact a8 i j b hi hj e1 e2
  · rw [q29.1]; exact b2
  · rw [s1 28 (by omega)]; exact b3
  · rw [q30.2.1, s2 215 (by unfold PerM; omega) (by decide) (by decide)]; exact b4
  · intro r hr
    obtain ⟨b, l, m, c1, c2⟩ := hRu r hr
    have lb := c2.rv.loc
    have p : ∀ r, PerM r → r ≠ 240 → r ≠ 241 → σ'.2.1 r = σ.2.1 r := s2
    refine ⟨b, l, m, by rw [q60.2.2.2.2]; exact c1, c2.ext c2.rv hT ⟨ob_of fun i hi => hsv.rv c2.rv hi (show 0 < 7 by decide), by omega⟩ (fun j h1 h2 => ⟨ob_of fun i hi => hsv.rv c2.rv hi h2, by omega⟩) ?_ ?_ ?_ ?_⟩
    · rw [p 218 (by unfold PerM; omega) (by decide) (by decide)]
    · intro i _; rw [p 216 (by unfold PerM; omega) (by decide) (by decide), p 217 (by unfold PerM; omega) (by decide) (by decide)]; exact ⟨rfl, rfl⟩
    · intro i _; rw [p 219 (by unfold PerM; omega) (by decide) (by decide), p 220 (by unfold PerM; omega) (by decide) (by decide), p 221 (by unfold PerM; omega) (by decide) (by decide), p 223 (by unfold PerM; omega) (by decide) (by decide)]; exact ⟨rfl, rfl, rfl, rfl⟩
    · intro i k w _ st; rw [p 216 (by unfold PerM; omega) (by decide) (by decide), p 217 (by unfold PerM; omega) (by decide) (by decide)]
  · intro j hj
    by_cases hjk : j = k
    · subst hjk
      exact .inr ⟨s3, a, h73k, ha, hn, hDn⟩
    · rw [s4 j hjk, h73 j hjk, s5 j hjk]
      rcases hI j hj with ⟨c1, c2⟩ | ⟨c1, b, c2, c3, c4, c5⟩
      · exact .inl ⟨c1, c2⟩
      · have hab : a ≠ b := fun e => hin j hj hjk (by rw [c2, e])
        have ap := hsv.apart c4.sv hab
        exact .inr ⟨c1, b, c2, c3, c4.ext c4.sv c4.la.gv hT (fun i hi => ⟨by show b + i < a ∨ a + 6 ≤ b + i; omega, by omega⟩) (gok c4.la.gv), c5⟩
  · rw [cu]; exact hD
  · rw [cu]
    exact hSc.ext hSc.sv hSc.la.gv hT (fun i hi => ⟨.inl (by omega), by omega⟩) (gok hSc.la.gv)
end GROW
