/-! A school copied. -/
theorem SV.apart {n : Nat} {S : Nat → Nat × Nat × Nat} {a b : Nat} (ha : SV n S a) (hb : SV n S b) (h : a ≠ b) : a + 6 ≤ b ∨ b + 6 ≤ a := by
  have key : ∀ {a b : Nat}, SV n S a → SV n S b → a < b → a + 6 ≤ b := by
    intro a b ha hb hlt
    by_cases h6 : a + 6 ≤ b
    · exact h6
    · exfalso
      have h1 := (ha (b - a) (show b - a < 6 by omega)).2
      have h2 := (hb 0 (show 0 < 6 by decide)).2
      rw [Nat.add_zero] at h2
      rw [show a + (b - a) = b by omega, h2] at h1
      have : ∀ j, j < 6 → 0 < j → [(0, 7, 0), (1, 0, 5), (1, 0, 8), (1, 0, 20), (1, 0, 20), (1, 0, 20)].getD 0 (2, 0, 0) ≠ [(0, 7, 0), (1, 0, 5), (1, 0, 8), (1, 0, 20), (1, 0, 20), (1, 0, 20)].getD j (2, 0, 0) := by decide
      exact this (b - a) (by omega) (by omega) h1
  rcases Nat.lt_or_gt_of_ne h with h | h
  · exact .inl (key ha hb h)
  · exact .inr (key hb ha h)
theorem SV.gv {n : Nat} {S : Nat → Nat × Nat × Nat} {a g : Nat} (ha : SV n S a) (hg : GV n S g) {i j : Nat} (hi : i < 6) (hj : j < 15) : a + i ≠ g + j := by
  refine sq_dj ha hg ?_ ?_ hi hj
  · have : ∀ k, k < 15 → [(0, 1, 0), (1, 0, 48), (1, 0, 48), (1, 0, 5), (1, 0, 5), (1, 0, 8), (1, 0, 8), (1, 0, 8), (1, 0, 8), (0, 3, 0), (1, 0, 8), (1, 0, 10), (1, 0, 10), (1, 0, 8), (1, 0, 8)].getD k (2, 0, 0) ≠ [(0, 7, 0), (1, 0, 5), (1, 0, 8), (1, 0, 20), (1, 0, 20), (1, 0, 20)].getD 0 (2, 0, 0) := by decide
    exact this
  · have : ∀ k, k < 6 → [(0, 7, 0), (1, 0, 5), (1, 0, 8), (1, 0, 20), (1, 0, 20), (1, 0, 20)].getD k (2, 0, 0) ≠ [(0, 1, 0), (1, 0, 48), (1, 0, 48), (1, 0, 5), (1, 0, 5), (1, 0, 8), (1, 0, 8), (1, 0, 8), (1, 0, 8), (0, 3, 0), (1, 0, 8), (1, 0, 10), (1, 0, 10), (1, 0, 8), (1, 0, 8)].getD 0 (2, 0, 0) := by decide
    exact this
/-- outside the block of a school -/
abbrev Ob (a : Nat) : Nat → Prop := fun r => r < a ∨ a + 6 ≤ r
def Cp (T T' : Tc) (a b : Nat) : Prop := agr (Ob a) T T' ∧ T'.2.2.2.1 a 0 = T.2.2.2.1 b 0 ∧ (∀ k, k = 1 ∨ k = 2 ∨ k = 3 ∨ k = 6 ∨ k = 7 ∨ k = 8 ∨ k = 9 → T'.1 a k = T.1 b k) ∧ (∀ i, i < 5 → T'.2.1 (a + 1) i = T.2.1 (b + 1) i) ∧ (∀ i, i < 8 → T'.2.1 (a + 2) i = T.2.1 (b + 2) i) ∧ (∀ i, i < 20 → T'.2.1 (a + 3) i = T.2.1 (b + 3) i) ∧ (∀ i, i < 20 → T'.2.1 (a + 4) i = T.2.1 (b + 4) i) ∧ (∀ i, i < 20 → T'.2.1 (a + 5) i = T.2.1 (b + 5) i)
theorem c_copyFrom {n sl : Nat} {U : Nat → va_E} {S : Nat → Nat × Nat × Nat} {T : Tc} {σ1 : Sg} {a b : Nat} (ha : SV n S a) (hb : SV n S b) (h : a ≠ b) : ∃ T', f_X7_copyFrom (cn n sl U S T σ1) a b = some (cn n sl U S T' σ1) ∧ Cp T T' a b := by
  have ap := ha.apart hb h
  have va := fun j (hj : j < 6) => (ha j hj).1
  have c1 : ∀ {T : Tc}, cpI (cn n sl U S T σ1) (b + 1) 0 (a + 1) 0 5 = some (cn n sl U S (tF T (a + 1) (va_cpy (T.2.1 (b + 1)) (T.2.1 (a + 1)) 0 0 5)) σ1) := fun {T} => cnC (x := 0) (y := 0) (z := 5) (hb 1 (show 1 < 6 by decide)).1 (hb 1 (show 1 < 6 by decide)).2 (ha 1 (show 1 < 6 by decide)).1 (ha 1 (show 1 < 6 by decide)).2 (by decide) (by decide) (by decide) (by decide)
  have c2 : ∀ {T : Tc}, cpI (cn n sl U S T σ1) (b + 2) 0 (a + 2) 0 8 = some (cn n sl U S (tF T (a + 2) (va_cpy (T.2.1 (b + 2)) (T.2.1 (a + 2)) 0 0 8)) σ1) := fun {T} => cnC (x := 0) (y := 0) (z := 8) (hb 2 (show 2 < 6 by decide)).1 (hb 2 (show 2 < 6 by decide)).2 (ha 2 (show 2 < 6 by decide)).1 (ha 2 (show 2 < 6 by decide)).2 (by decide) (by decide) (by decide) (by decide)
  have c3 : ∀ {T : Tc}, cpI (cn n sl U S T σ1) (b + 3) 0 (a + 3) 0 20 = some (cn n sl U S (tF T (a + 3) (va_cpy (T.2.1 (b + 3)) (T.2.1 (a + 3)) 0 0 20)) σ1) := fun {T} => cnC (x := 0) (y := 0) (z := 20) (hb 3 (show 3 < 6 by decide)).1 (hb 3 (show 3 < 6 by decide)).2 (ha 3 (show 3 < 6 by decide)).1 (ha 3 (show 3 < 6 by decide)).2 (by decide) (by decide) (by decide) (by decide)
  have c4 : ∀ {T : Tc}, cpI (cn n sl U S T σ1) (b + 4) 0 (a + 4) 0 20 = some (cn n sl U S (tF T (a + 4) (va_cpy (T.2.1 (b + 4)) (T.2.1 (a + 4)) 0 0 20)) σ1) := fun {T} => cnC (x := 0) (y := 0) (z := 20) (hb 4 (show 4 < 6 by decide)).1 (hb 4 (show 4 < 6 by decide)).2 (ha 4 (show 4 < 6 by decide)).1 (ha 4 (show 4 < 6 by decide)).2 (by decide) (by decide) (by decide) (by decide)
  have c5 : ∀ {T : Tc}, cpI (cn n sl U S T σ1) (b + 5) 0 (a + 5) 0 20 = some (cn n sl U S (tF T (a + 5) (va_cpy (T.2.1 (b + 5)) (T.2.1 (a + 5)) 0 0 20)) σ1) := fun {T} => cnC (x := 0) (y := 0) (z := 20) (hb 5 (show 5 < 6 by decide)).1 (hb 5 (show 5 < 6 by decide)).2 (ha 5 (show 5 < 6 by decide)).1 (ha 5 (show 5 < 6 by decide)).2 (by decide) (by decide) (by decide) (by decide)
  have w : ∀ (f g : Nat → Int32) (m k : Nat), k < m → va_cpy f g 0 0 m k = f k := fun f g m k hk => by rw [pk_cpy_in (by omega) (by omega), show 0 + (k - 0) = k by omega]
  have ob : ∀ k, k < 6 → ¬ Ob a (a + k) := fun k hk h => by rcases h with h | h <;> omega
  have ob0 : ¬ Ob a a := ob 0 (by decide)
  have nba : ¬ b = a := fun e => h e.symm
  have n1 : ¬ b + 1 = a + 1 := by omega
  have n2 : ∀ j, j < 6 → ∀ k, k < 6 → ¬ b + j = a + k := fun j hj k hk => by omega
  obtain ⟨T1, w1⟩ : ∃ Y : Tc, Y = tI (tI (tI (tR T a 0 (T.2.2.2.1 b 0)) a 1 (T.1 b 1)) a 2 (T.1 b 2)) a 3 (T.1 b 3) := ⟨_, rfl⟩
  obtain ⟨T2, w2⟩ : ∃ Y : Tc, Y = tF T1 (a + 1) (va_cpy (T.2.1 (b + 1)) (T.2.1 (a + 1)) 0 0 5) := ⟨_, rfl⟩
  obtain ⟨T3, w3⟩ : ∃ Y : Tc, Y = tF T2 (a + 2) (va_cpy (T.2.1 (b + 2)) (T.2.1 (a + 2)) 0 0 8) := ⟨_, rfl⟩
  obtain ⟨T4, w4⟩ : ∃ Y : Tc, Y = tI (tI (tI (tI T3 a 6 (T.1 b 6)) a 7 (T.1 b 7)) a 8 (T.1 b 8)) a 9 (T.1 b 9) := ⟨_, rfl⟩
  obtain ⟨T5, w5⟩ : ∃ Y : Tc, Y = tF T4 (a + 3) (va_cpy (T.2.1 (b + 3)) (T.2.1 (a + 3)) 0 0 20) := ⟨_, rfl⟩
  obtain ⟨T6, w6⟩ : ∃ Y : Tc, Y = tF T5 (a + 4) (va_cpy (T.2.1 (b + 4)) (T.2.1 (a + 4)) 0 0 20) := ⟨_, rfl⟩
  obtain ⟨T7, w7⟩ : ∃ Y : Tc, Y = tF T6 (a + 5) (va_cpy (T.2.1 (b + 5)) (T.2.1 (a + 5)) 0 0 20) := ⟨_, rfl⟩
  have a7 : agr (Ob a) T T7 := by
    have s1 : agr (Ob a) T T1 := by rw [w1]; exact (agr_tR _ _ ob0).trans ((agr_tI _ _ ob0).trans ((agr_tI _ _ ob0).trans (agr_tI _ _ ob0)))
    have s2 : agr (Ob a) T1 T2 := by rw [w2]; exact agr_tF _ (ob 1 (by decide))
    have s3 : agr (Ob a) T2 T3 := by rw [w3]; exact agr_tF _ (ob 2 (by decide))
    have s4 : agr (Ob a) T3 T4 := by rw [w4]; exact (agr_tI _ _ ob0).trans ((agr_tI _ _ ob0).trans ((agr_tI _ _ ob0).trans (agr_tI _ _ ob0)))
    have s5 : agr (Ob a) T4 T5 := by rw [w5]; exact agr_tF _ (ob 3 (by decide))
    have s6 : agr (Ob a) T5 T6 := by rw [w6]; exact agr_tF _ (ob 4 (by decide))
    have s7 : agr (Ob a) T6 T7 := by rw [w7]; exact agr_tF _ (ob 5 (by decide))
    exact s1.trans (s2.trans (s3.trans (s4.trans (s5.trans (s6.trans s7)))))
  have f4 : T7.1 = T4.1 := by rw [w7, w6, w5]; rfl
  have f3 : T3.1 = T1.1 := by rw [w3, w2]; rfl
  have f1 : T1.2.1 = T.2.1 := by rw [w1]; rfl
  have e4 : ∀ j, T4.2.1 j = T3.2.1 j := fun _ => by rw [w4]; rfl
  have g2 : ∀ j, T2.2.1 j = if j = a + 1 then va_cpy (T.2.1 (b + 1)) (T.2.1 (a + 1)) 0 0 5 else T.2.1 j := fun j => by rw [w2, ← f1]; exact tF2 T1 (a + 1) _ j
  have g3 : ∀ j, T3.2.1 j = if j = a + 2 then va_cpy (T.2.1 (b + 2)) (T.2.1 (a + 2)) 0 0 8 else T2.2.1 j := fun j => by rw [w3]; exact tF2 T2 (a + 2) _ j
  have g5 : ∀ j, T5.2.1 j = if j = a + 3 then va_cpy (T.2.1 (b + 3)) (T.2.1 (a + 3)) 0 0 20 else T4.2.1 j := fun j => by rw [w5]; exact tF2 T4 (a + 3) _ j
  have g6 : ∀ j, T6.2.1 j = if j = a + 4 then va_cpy (T.2.1 (b + 4)) (T.2.1 (a + 4)) 0 0 20 else T5.2.1 j := fun j => by rw [w6]; exact tF2 T5 (a + 4) _ j
  have g7 : ∀ j, T7.2.1 j = if j = a + 5 then va_cpy (T.2.1 (b + 5)) (T.2.1 (a + 5)) 0 0 20 else T6.2.1 j := fun j => by rw [w7]; exact tF2 T6 (a + 5) _ j
  refine ⟨T7, ?_, a7, ?_, ?_, ?_, ?_, ?_, ?_, ?_⟩
  · unfold f_X7_copyFrom
    rw [s0_0 hb, Option.bind_some, s0_0p ha, Option.bind_some, s0_1 hb, Option.bind_some, show (tR T a 0 (T.2.2.2.1 b 0)).1 b 1 = T.1 b 1 from rfl, s0_1p ha, Option.bind_some, s0_2 hb, Option.bind_some, show (tI (tR T a 0 (T.2.2.2.1 b 0)) a 1 (T.1 b 1)).1 b 2 = T.1 b 2 by rw [tI1, if_neg (fun h => nba h.1)]; rfl, s0_2p ha, Option.bind_some, s0_3 hb, Option.bind_some, show (tI (tI (tR T a 0 (T.2.2.2.1 b 0)) a 1 (T.1 b 1)) a 2 (T.1 b 2)).1 b 3 = T.1 b 3 by rw [tI1, if_neg (fun h => nba h.1), tI1, if_neg (fun h => nba h.1)]; rfl, s0_3p ha, Option.bind_some]
    rw [← w1, s0_4 hb, Option.bind_some, s0_4 ha, Option.bind_some, c1, Option.bind_some, f1, ← w2]
    rw [s0_5 hb, Option.bind_some, s0_5 ha, Option.bind_some, c2, Option.bind_some, g2 (b + 2), if_neg (n2 2 (by decide) 1 (by decide)), g2 (a + 2), if_neg (show ¬ a + 2 = a + 1 by omega), ← w3]
    have o3 : ∀ k, T3.1 b k = T.1 b k := fun k => by
      rw [f3, w1, tI1, if_neg (fun h => nba h.1), tI1, if_neg (fun h => nba h.1), tI1, if_neg (fun h => nba h.1)]; rfl
    rw [s0_6 hb, Option.bind_some, o3, s0_6p ha, Option.bind_some, s0_7 hb, Option.bind_some, show (tI T3 a 6 (T.1 b 6)).1 b 7 = T.1 b 7 by rw [tI1, if_neg (fun h => nba h.1), o3], s0_7p ha, Option.bind_some, s0_8 hb, Option.bind_some, show (tI (tI T3 a 6 (T.1 b 6)) a 7 (T.1 b 7)).1 b 8 = T.1 b 8 by rw [tI1, if_neg (fun h => nba h.1), tI1, if_neg (fun h => nba h.1), o3], s0_8p ha, Option.bind_some, s0_9 hb, Option.bind_some, show (tI (tI (tI T3 a 6 (T.1 b 6)) a 7 (T.1 b 7)) a 8 (T.1 b 8)).1 b 9 = T.1 b 9 by rw [tI1, if_neg (fun h => nba h.1), tI1, if_neg (fun h => nba h.1), tI1, if_neg (fun h => nba h.1), o3], s0_9p ha, Option.bind_some, ← w4]
    rw [s0_10 hb, Option.bind_some, s0_10 ha, Option.bind_some, c3, Option.bind_some, e4 (b + 3), e4 (a + 3), g3 (b + 3), if_neg (n2 3 (by decide) 2 (by decide)), g2 (b + 3), if_neg (n2 3 (by decide) 1 (by decide)), g3 (a + 3), if_neg (show ¬ a + 3 = a + 2 by omega), g2 (a + 3), if_neg (show ¬ a + 3 = a + 1 by omega), ← w5]
    rw [s0_11 hb, Option.bind_some, s0_11 ha, Option.bind_some, c4, Option.bind_some, g5 (b + 4), if_neg (n2 4 (by decide) 3 (by decide)), e4 (b + 4), g3 (b + 4), if_neg (n2 4 (by decide) 2 (by decide)), g2 (b + 4), if_neg (n2 4 (by decide) 1 (by decide)), g5 (a + 4), if_neg (show ¬ a + 4 = a + 3 by omega), e4 (a + 4), g3 (a + 4), if_neg (show ¬ a + 4 = a + 2 by omega), g2 (a + 4), if_neg (show ¬ a + 4 = a + 1 by omega), ← w6]
    rw [s0_12 hb, Option.bind_some, s0_12 ha, Option.bind_some, c5, Option.bind_some, g6 (b + 5), if_neg (n2 5 (by decide) 4 (by decide)), g5 (b + 5), if_neg (n2 5 (by decide) 3 (by decide)), e4 (b + 5), g3 (b + 5), if_neg (n2 5 (by decide) 2 (by decide)), g2 (b + 5), if_neg (n2 5 (by decide) 1 (by decide)), g6 (a + 5), if_neg (show ¬ a + 5 = a + 4 by omega), g5 (a + 5), if_neg (show ¬ a + 5 = a + 3 by omega), e4 (a + 5), g3 (a + 5), if_neg (show ¬ a + 5 = a + 2 by omega), g2 (a + 5), if_neg (show ¬ a + 5 = a + 1 by omega), ← w7]
  · rw [w7, w6, w5, w4, w3, w2, w1]
    show (tR T a 0 (T.2.2.2.1 b 0)).2.2.2.1 a 0 = _
    rw [tR4, if_pos ⟨rfl, rfl⟩]
  · intro k hk
    rw [f4, w4]
    have o1 : ∀ k, T3.1 a k = (tI (tI (tI (tR T a 0 (T.2.2.2.1 b 0)) a 1 (T.1 b 1)) a 2 (T.1 b 2)) a 3 (T.1 b 3)).1 a k := fun _ => by rw [f3, w1]
    rcases hk with rfl | rfl | rfl | rfl | rfl | rfl | rfl <;> simp [tI1, o1]
  · intro i hi
    rw [g7, if_neg (by omega), g6, if_neg (by omega), g5, if_neg (by omega), e4, g3, if_neg (by omega), g2, if_pos rfl, w _ _ _ _ hi]
  · intro i hi
    rw [g7, if_neg (by omega), g6, if_neg (by omega), g5, if_neg (by omega), e4, g3, if_pos rfl, w _ _ _ _ hi]
  · intro i hi
    rw [g7, if_neg (by omega), g6, if_neg (by omega), g5, if_pos rfl, w _ _ _ _ hi]
  · intro i hi
    rw [g7, if_neg (by omega), g6, if_pos rfl, w _ _ _ _ hi]
  · intro i hi
    rw [g7, if_pos rfl, w _ _ _ _ hi]
theorem Cp.sr {n nr : Nat} {S : Nat → Nat × Nat × Nat} {T T' : Tc} {a b : Nat} {D : Dt} (h : Cp T T' a b) (ha : SV n S a) (hS : SR n S T b D) (hD : DG nr D) : SR n S T' a D := by
  obtain ⟨c0, c1, c2, c3, c4, c5, c6, c7⟩ := h
  have bP := hD.bP
  have bT := hD.bT
  have bM := hD.bM
  have hg := hS.la.gv
  refine ⟨ha, ?_, ?_, ?_, ?_, ?_, ?_, ?_, ?_, ?_, ?_, ?_, ?_⟩
  · rw [c1]
    refine hS.la.ext hg c0 (fun j hj => ?_)
    have q := fun i (hi : i < 6) => ha.gv hg hi hj
    have q0 := q 0 (by decide)
    have q1 := q 1 (by decide)
    have q2 := q 2 (by decide)
    have q3 := q 3 (by decide)
    have q4 := q 4 (by decide)
    have q5 := q 5 (by decide)
    show T.2.2.2.1 b 0 + j < a ∨ a + 6 ≤ T.2.2.2.1 b 0 + j
    omega
  · rw [c2 1 (by omega)]; exact hS.fo
  · rw [c2 2 (by omega)]; exact hS.xx
  · rw [c2 3 (by omega)]; exact hS.br
  · intro q hq; rw [c3 q (by omega)]; exact hS.pc q hq
  · intro t ht; rw [c4 t (by omega)]; exact hS.tc t ht
  · rw [c2 6 (by omega)]; exact hS.ck
  · rw [c2 7 (by omega)]; exact hS.cb
  · rw [c2 8 (by omega)]; exact hS.cw
  · rw [c2 9 (by omega)]; exact hS.ac
  · intro k hk; rw [c7 k (by omega)]; exact hS.hb k hk
  · intro k hk; rw [c5 k (by omega), c6 k (by omega)]; exact hS.hm k hk
