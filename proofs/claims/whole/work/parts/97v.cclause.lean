/-! Grounds: the class's clauses. -/
theorem cx_i {j : Nat} (h2 : 2 ≤ j) (h11 : j ≤ 11) : (cx j = 2 ↔ j ≤ 3) ∧ (cx j = 3 ↔ 4 ≤ j ∧ j ≤ 7) ∧ (cx j = 4 ↔ j = 8) ∧ (cx j = 5 ↔ j = 9) ∧ (cx j = 6 ↔ 10 ≤ j) := by
  have : j = 2 ∨ j = 3 ∨ j = 4 ∨ j = 5 ∨ j = 6 ∨ j = 7 ∨ j = 8 ∨ j = 9 ∨ j = 10 ∨ j = 11 := by omega
  rcases this with rfl | rfl | rfl | rfl | rfl | rfl | rfl | rfl | rfl | rfl <;> decide
section CCLAUSE
variable {n sl : Nat} {U : Nat → va_E} {S : Nat → Nat × Nat × Nat} {σ1 : Sg} {T : Tc} {L g : Nat} {b : Nat → Nat} {d : Dr}
theorem c_pers (hX : TXc T L b) (hG : GV n S g) (hC : CR T g d) (hd : DOK d) (hr : d 0 2 < 5) {p : Nat} (hp : p ≤ L) : cRes n sl U S σ1 T L g (gPers L b p d) (f_X2_readPerson (cn n sl U S (tp T p 0) σ1) 131) := by
  have hgl := hG.loc
  have g129 : g ≠ 129 := by omega
  have f6 := fun (T : Tc) (p e : Nat) => show gI (cn n sl U S (tp T p e) σ1) g 1 6 = some (T.1 g 6) by rw [g0_6 hG, tp_o _ _ _ g129]
  have c6 : T.1 g 6 = nI (d 0 2) := hC.2.1 2 (by decide) (by decide)
  unfold gPers f_X2_readPerson
  rw [x131_o, Option.bind_some]
  rcases c_cell (n := n) (sl := sl) (U := U) (S := S) (σ1 := σ1) hX hG hC hd hp with ⟨e, v, q, a1, a2, a3, a4, a5, a6⟩ | ⟨v, q, a1, a2, a3, a4, a5⟩
  · rw [a1, sb_l, a2, bd_some, nm_q, x131_0, Option.bind_some, x129_o, Option.bind_some, y_nuD q a3 (by omega), bd_some, nm_q, x131_0, Option.bind_some, x129_o, Option.bind_some, y_s1 q a3 (by omega), bd_some, if_pos rfl]
    exact ⟨T, q, e, rfl, a5, agr.refl _ _, rfl, a3, a4⟩
  · rw [a1, sb_r, a2, bd_some, nm_q, x131_0, Option.bind_some, x129_o, Option.bind_some, show (0 : Int32) = nI 0 from rfl, show (9 : Int32) = nI 10 - 1 from rfl]
    rcases y_nm (n := n) (sl := sl) (U := U) (S := S) (σ1 := σ1) hX a3 (lo := 0) (hb := 10) (by decide) (by decide) with ⟨e, v', q', c1, c2, c3, c4, c5, c6⟩ | ⟨v', q', c1, c2, c3, c4, c5⟩
    · rw [c1, sb_l, c2, bd_some, nm_q, x131_0, Option.bind_some, x129_o, Option.bind_some, y_s1 q' c3 (by omega), bd_some, if_pos (show (0 : Int32) = nI 0 from rfl)]
      exact ⟨T, q', e, rfl, c5, agr.refl _ _, rfl, c3, c4⟩
    · rw [c1, sb_r, c2, bd_some, nm_q, x131_0, Option.bind_some, x129_o, Option.bind_some, y_s0, bd_some, if_neg (by decide), w131 (g := g) (by exact hC.1), Option.bind_some, g0_7 hG, Option.bind_some, Option.bind_some, f6, Option.bind_some, c6, g3_w hG hr, Option.bind_some, tp_A, w131 (g := g) (by exact hC.1), Option.bind_some, g0_8 hG, Option.bind_some, Option.bind_some, f6, tA1, Option.bind_some, c6, g4_w hG hr, Option.bind_some, tp_A, w131 (g := g) (by exact hC.1), Option.bind_some, f6, tA1, tA1, Option.bind_some, c6, lit_1, nI_add, g0_6p hG, Option.bind_some, tp_I _ _ _ g129]
      refine ⟨_, q', 0, rfl, c3, ((agr_tA _ _ (fun h => h.2 (by omega))).trans (agr_tA _ _ (fun h => h.2 (by omega)))).trans (agr_tI _ _ (fun h => h.2 (by omega))), rfl, rfl, hC.add hgl (by decide) (by decide) (by decide) (fun r x => ?_) (fun j x j2 j11 => ?_) ?_ rfl⟩
      · rw [tI1]; rfl
      · show (tA (tA T (g + 3) (d 0 2) (nI v)) (g + 4) (d 0 2) (nI v')).2.1 (g + j + 1) x = _
        rw [tA2, tA2]
        have k := (cx_i j2 j11).1
        by_cases e : cx j = 2 ∧ x = d 0 2
        · rw [if_pos e]
          by_cases e2 : j = 2
          · rw [if_neg (by omega), if_pos (by omega), if_pos e2]
          · have := k.1 e.1
            rw [if_pos (by omega), if_neg e2]
        · rw [if_neg e, if_neg (fun y => e ⟨k.2 (by omega), y.2⟩), if_neg (fun y => e ⟨k.2 (by omega), y.2⟩)]
      · funext x
        show (tA (tA T (g + 3) (d 0 2) (nI v)) (g + 4) (d 0 2) (nI v')).2.1 (g + 1) x = _
        rw [tA2, tA2, if_neg (by omega), if_neg (by omega)]
theorem c_own (hX : TXc T L b) (hG : GV n S g) (hC : CR T g d) (hd : DOK d) {p : Nat} (hp : p ≤ L) : (∃ e v q, gOwn L b p d = .inl e ∧ f_X2_readOwner (cn n sl U S (tp T p 0) σ1) 131 = some (nI v, cn n sl U S (tp T q e) σ1) ∧ e ≠ 0 ∧ e < 4000 ∧ q ≤ L) ∨ (∃ v q, gOwn L b p d = .inr (v, q) ∧ f_X2_readOwner (cn n sl U S (tp T p 0) σ1) 131 = some (nI v, cn n sl U S (tp T q 0) σ1) ∧ q ≤ L ∧ v < 10) := by
  have hgl := hG.loc
  have hL := hX.1
  have g129 : g ≠ 129 := by omega
  have hs := skp_le b hp
  have f6 := fun (T : Tc) (p e : Nat) => show gI (cn n sl U S (tp T p e) σ1) g 1 6 = some (T.1 g 6) by rw [g0_6 hG, tp_o _ _ _ g129]
  have c6 : T.1 g 6 = nI (d 0 2) := hC.2.1 2 (by decide) (by decide)
  have p5 := hd.2.2.2.1.1
  unfold gOwn f_X2_readOwner
  rw [x131_0, Option.bind_some, x129_o, Option.bind_some, y_sk hX hp, bd_some, nm_q, x131_0, Option.bind_some, x129_o, Option.bind_some, show (0 : Int32) = nI 0 from rfl]
  have h10 : amt L b p 0 10 = amt L b (skp L b p) 0 10 := by unfold amt; rw [skp_i]
  rcases y_nm (n := n) (sl := sl) (U := U) (S := S) (σ1 := σ1) hX hs (lo := 0) (hb := 10) (by decide) (by decide) with ⟨e, v, q, a1, a2, a3, a4, a5, a6⟩ | ⟨v, q, a1, a2, a3, a4, a5⟩
  · have a2' : f_X9_readNumber (cn n sl U S (tp T (skp L b p) 0) σ1) 129 (nI 0) 9 = some (nI v, cn n sl U S (tp T q e) σ1) := a2
    left
    rw [a2', bd_some, nm_q, w131 (g := g) (by exact hC.1), Option.bind_some, f6, Option.bind_some, c6]
    have er : (sb (amt L b p 0 100000) fun a => if a.1 ≠ 9 ∧ d 0 2 ≤ a.1 then .inl (1 + 8 * skp L b p + 1) else .inr a) = (.inl e : Sum Nat (Nat × Nat)) := by
      unfold amt at a1 ⊢
      rw [skp_i] at a1
      cases hD : tD L b (skp L b p) with
      | false =>
        rw [hD, if_neg (by decide)] at a1
        rw [if_neg (by decide), sb_l]
        exact congrArg Sum.inl (Sum.inl.inj a1)
      | true =>
        rw [hD, if_pos rfl] at a1
        rw [if_pos rfl]
        have hn := nv_5 L b (skp L b p)
        generalize nv b (skp L b p) (min 5 (de L b (skp L b p) - skp L b p)) = u at *
        by_cases h5 : 5 < de L b (skp L b p) - skp L b p
        · rw [if_pos (.inl h5)] at a1
          rw [if_pos (.inl h5), sb_l]
          exact congrArg Sum.inl (Sum.inl.inj a1)
        · rw [if_neg (by omega), sb_r]
          by_cases h9 : 10 ≤ u
          · rw [if_pos (.inr (.inr h9))] at a1
            rw [if_pos ⟨by show u ≠ 9; omega, by show d 0 2 ≤ u; omega⟩]
            exact congrArg Sum.inl (Sum.inl.inj a1)
          · rw [if_neg (by omega)] at a1
            cases a1
    by_cases h1 : v < d 0 2
    · rw [if_pos (nI_lt h1 (by omega))]
      exact ⟨e, v, q, er, rfl, a3, a4, a5⟩
    · rw [if_neg (nI_nlt (by omega) (by omega))]
      by_cases h2 : nI v = 9
      · rw [if_pos h2]
        exact ⟨e, v, q, er, rfl, a3, a4, a5⟩
      · rw [if_neg h2, x131_0, Option.bind_some, x129_o, Option.bind_some, y_f1 q a3 (by omega), Option.bind_some]
        exact ⟨e, v, q, er, rfl, a3, a4, a5⟩
  · have a2' : f_X9_readNumber (cn n sl U S (tp T (skp L b p) 0) σ1) 129 (nI 0) 9 = some (nI v, cn n sl U S (tp T q 0) σ1) := a2
    have er : amt L b p 0 100000 = .inr (v, q) := by
      unfold amt at a1 ⊢
      rw [skp_i] at a1
      cases hD : tD L b (skp L b p) with
      | false =>
        rw [hD, if_neg (by decide)] at a1
        cases a1
      | true =>
        rw [hD, if_pos rfl] at a1
        rw [if_pos rfl]
        have hn := nv_5 L b (skp L b p)
        generalize nv b (skp L b p) (min 5 (de L b (skp L b p) - skp L b p)) = u at *
        split at a1
        · cases a1
        · rw [if_neg (by omega)]
          exact congrArg Sum.inr (Sum.inr.inj a1)
    rw [er, sb_r, a2', bd_some, nm_q, w131 (g := g) (by exact hC.1), Option.bind_some, f6, Option.bind_some, c6]
    by_cases h1 : v < d 0 2
    · right
      rw [if_pos (nI_lt h1 (by omega)), if_neg (fun x => by have : d 0 2 ≤ v := x.2; omega)]
      exact ⟨v, q, rfl, rfl, a3, a5⟩
    · rw [if_neg (nI_nlt (by omega) (by omega))]
      by_cases h2 : v = 9
      · right
        rw [if_pos (show nI v = 9 by rw [h2]; rfl), if_neg (fun x => x.1 h2)]
        exact ⟨v, q, rfl, rfl, a3, a5⟩
      · left
        rw [if_neg (show ¬ nI v = 9 from fun x => h2 ((nI_eq (b := 9) (by omega) (by decide)).1 x)), if_pos ⟨h2, by show d 0 2 ≤ v; omega⟩, x131_0, Option.bind_some, x129_o, Option.bind_some, lit_1, y_f0, Option.bind_some]
        exact ⟨_, v, q, rfl, rfl, by omega, by omega, a3⟩
theorem c_thng (hX : TXc T L b) (hG : GV n S g) (hC : CR T g d) (hd : DOK d) (hr : d 0 3 < 8) {p : Nat} (hp : p ≤ L) : cRes n sl U S σ1 T L g (gThng L b p d) (f_X2_readThing (cn n sl U S (tp T p 0) σ1) 131) := by
  have hgl := hG.loc
  have hL := hX.1
  have g129 : g ≠ 129 := by omega
  have f9 := fun (T : Tc) (p e : Nat) => show gI (cn n sl U S (tp T p e) σ1) g 1 9 = some (T.1 g 9) by rw [g0_9 hG, tp_o _ _ _ g129]
  have c9 : T.1 g 9 = nI (d 0 3) := hC.2.1 3 (by decide) (by decide)
  -- a fault before the owner leaves all as it is
  have own1 : ∀ q e, q ≤ L → e ≠ 0 → e < 4000 → ∃ q' v, q' ≤ L ∧ f_X2_readOwner (cn n sl U S (tp T q e) σ1) 131 = some (v, cn n sl U S (tp T q' e) σ1) := by
    intro q e hq he h4
    unfold f_X2_readOwner
    rw [x131_0, Option.bind_some, x129_o, Option.bind_some, y_sk hX hq, bd_some, nm_q, x131_0, Option.bind_some, x129_o, Option.bind_some, y_nuD _ he (by omega), bd_some, nm_q, w131 (g := g) (by exact hC.1), Option.bind_some, g0_6 hG, Option.bind_some]
    by_cases h : 0 < (tp T (skp L b q) e).1 g 6
    · rw [if_pos h]
      exact ⟨_, _, skp_le b hq, rfl⟩
    · rw [if_neg h, if_neg (by decide), x131_0, Option.bind_some, x129_o, Option.bind_some, y_f1 _ he (by omega), Option.bind_some]
      exact ⟨_, _, skp_le b hq, rfl⟩
  unfold gThng f_X2_readThing
  rw [x131_o, Option.bind_some]
  rcases c_cell (n := n) (sl := sl) (U := U) (S := S) (σ1 := σ1) hX hG hC hd hp with ⟨e, v, q, a1, a2, a3, a4, a5, a6⟩ | ⟨v, q, a1, a2, a3, a4, a5⟩
  · obtain ⟨q', v', o1, o2⟩ := own1 q e a5 a3 a4
    rw [a1, sb_l, a2, bd_some, nm_q, x131_o, Option.bind_some, o2, bd_some, nm_q, x131_0, Option.bind_some, x129_o, Option.bind_some, y_nuD _ a3 (by omega), bd_some, nm_q, x131_0, Option.bind_some, x129_o, Option.bind_some, y_nuD _ a3 (by omega), bd_some, nm_q, x131_0, Option.bind_some, x129_o, Option.bind_some, y_s1 _ a3 (by omega), bd_some, if_pos rfl]
    exact ⟨T, q', e, rfl, o1, agr.refl _ _, rfl, a3, a4⟩
  · rw [a1, sb_r, a2, bd_some, nm_q, x131_o, Option.bind_some]
    rcases c_own (n := n) (sl := sl) (U := U) (S := S) (σ1 := σ1) hX hG hC hd a3 with ⟨e, v', q', o1, o2, o3, o4, o5⟩ | ⟨v', q', o1, o2, o3, o4⟩
    · rw [o1, sb_l, o2, bd_some, nm_q, x131_0, Option.bind_some, x129_o, Option.bind_some, y_nuD _ o3 (by omega), bd_some, nm_q, x131_0, Option.bind_some, x129_o, Option.bind_some, y_nuD _ o3 (by omega), bd_some, nm_q, x131_0, Option.bind_some, x129_o, Option.bind_some, y_s1 _ o3 (by omega), bd_some, if_pos rfl]
      exact ⟨T, q', e, rfl, o5, agr.refl _ _, rfl, o3, o4⟩
    · rw [o1, sb_r, o2, bd_some, nm_q, x131_0, Option.bind_some, x129_o, Option.bind_some]
      rcases y_nm (n := n) (sl := sl) (U := U) (S := S) (σ1 := σ1) hX o3 (lo := 1) (hb := 31) (by decide) (by decide) with ⟨e, v2, q2, c1, c2, c3, c4, c5, c6⟩ | ⟨v2, q2, c1, c2, c3, c4, c5⟩
      · have c2' : f_X9_readNumber (cn n sl U S (tp T q' 0) σ1) 129 1 30 = some (nI v2, cn n sl U S (tp T q2 e) σ1) := c2
        rw [c1, sb_l, c2', bd_some, nm_q, x131_0, Option.bind_some, x129_o, Option.bind_some, y_nuD _ c3 (by omega), bd_some, nm_q, x131_0, Option.bind_some, x129_o, Option.bind_some, y_s1 _ c3 (by omega), bd_some, if_pos rfl]
        exact ⟨T, q2, e, rfl, c5, agr.refl _ _, rfl, c3, c4⟩
      · have c2' : f_X9_readNumber (cn n sl U S (tp T q' 0) σ1) 129 1 30 = some (nI v2, cn n sl U S (tp T q2 0) σ1) := c2
        rw [c1, sb_r, c2', bd_some, nm_q, x131_0, Option.bind_some, x129_o, Option.bind_some]
        rcases y_nm (n := n) (sl := sl) (U := U) (S := S) (σ1 := σ1) hX c3 (lo := 0) (hb := 61) (by decide) (by decide) with ⟨e, v3, q3, d1, d2, d3, d4, d5, d6⟩ | ⟨v3, q3, d1, d2, d3, d4, d5⟩
        · have d2' : f_X9_readNumber (cn n sl U S (tp T q2 0) σ1) 129 0 60 = some (nI v3, cn n sl U S (tp T q3 e) σ1) := d2
          rw [d1, sb_l, d2', bd_some, nm_q, x131_0, Option.bind_some, x129_o, Option.bind_some, y_s1 _ d3 (by omega), bd_some, if_pos rfl]
          exact ⟨T, q3, e, rfl, d5, agr.refl _ _, rfl, d3, d4⟩
        · have d2' : f_X9_readNumber (cn n sl U S (tp T q2 0) σ1) 129 0 60 = some (nI v3, cn n sl U S (tp T q3 0) σ1) := d2
          rw [d1, sb_r, d2', bd_some, nm_q, x131_0, Option.bind_some, x129_o, Option.bind_some, y_s0, bd_some, if_neg (by decide), w131 (g := g) (by exact hC.1), Option.bind_some, g0_10 hG, Option.bind_some, Option.bind_some, f9, Option.bind_some, c9, g5_w hG hr, Option.bind_some, tp_A, w131 (g := g) (by exact hC.1), Option.bind_some, g0_11 hG, Option.bind_some, Option.bind_some, f9, tA1, Option.bind_some, c9, g6_w hG hr, Option.bind_some, tp_A, w131 (g := g) (by exact hC.1), Option.bind_some, g0_12 hG, Option.bind_some, Option.bind_some, f9, tA1, tA1, Option.bind_some, c9, g7_w hG hr, Option.bind_some, tp_A, w131 (g := g) (by exact hC.1), Option.bind_some, g0_13 hG, Option.bind_some, Option.bind_some, f9, tA1, tA1, tA1, Option.bind_some, c9, g8_w hG hr, Option.bind_some, tp_A, w131 (g := g) (by exact hC.1), Option.bind_some, f9, tA1, tA1, tA1, tA1, Option.bind_some, c9, lit_1, nI_add, g0_9p hG, Option.bind_some, tp_I _ _ _ g129]
          refine ⟨_, q3, 0, rfl, d3, ((((agr_tA _ _ (fun h => h.2 (by omega))).trans (agr_tA _ _ (fun h => h.2 (by omega)))).trans (agr_tA _ _ (fun h => h.2 (by omega)))).trans (agr_tA _ _ (fun h => h.2 (by omega)))).trans (agr_tI _ _ (fun h => h.2 (by omega))), rfl, rfl, hC.add hgl (by decide) (by decide) (by decide) (fun r x => ?_) (fun j x j2 j11 => ?_) ?_ rfl⟩
          · rw [tI1]; rfl
          · show (tA (tA (tA (tA T (g + 5) (d 0 3) (nI v)) (g + 6) (d 0 3) (nI v')) (g + 7) (d 0 3) (nI v2)) (g + 8) (d 0 3) (nI v3)).2.1 (g + j + 1) x = _
            rw [tA2, tA2, tA2, tA2]
            have k := (cx_i j2 j11).2.1
            by_cases e : cx j = 3 ∧ x = d 0 3
            · rw [if_pos e]
              have := k.1 e.1
              by_cases e4 : j = 4
              · rw [if_neg (by omega), if_neg (by omega), if_neg (by omega), if_pos (by omega), if_pos e4]
              · by_cases e5 : j = 5
                · rw [if_neg (by omega), if_neg (by omega), if_pos (by omega), if_neg e4, if_pos e5]
                · by_cases e6 : j = 6
                  · rw [if_neg (by omega), if_pos (by omega), if_neg e4, if_neg e5, if_pos e6]
                  · rw [if_pos (by omega), if_neg e4, if_neg e5, if_neg e6]
            · rw [if_neg e, if_neg (fun y => e ⟨k.2 (by omega), y.2⟩), if_neg (fun y => e ⟨k.2 (by omega), y.2⟩), if_neg (fun y => e ⟨k.2 (by omega), y.2⟩), if_neg (fun y => e ⟨k.2 (by omega), y.2⟩)]
          · funext x
            show (tA (tA (tA (tA T (g + 5) (d 0 3) (nI v)) (g + 6) (d 0 3) (nI v')) (g + 7) (d 0 3) (nI v2)) (g + 8) (d 0 3) (nI v3)).2.1 (g + 1) x = _
            rw [tA2, tA2, tA2, tA2, if_neg (by omega), if_neg (by omega), if_neg (by omega), if_neg (by omega)]
theorem c_less (hX : TXc T L b) (hG : GV n S g) (hC : CR T g d) (hr : d 0 5 < 8) {p : Nat} (hp : p ≤ L) : cRes n sl U S σ1 T L g (gLess L b p d) (f_X2_readLesson (cn n sl U S (tp T p 0) σ1) 131) := by
  have hgl := hG.loc
  have g129 : g + 9 ≠ 129 := by omega
  have f0 := fun (T : Tc) (p e : Nat) => show gI (cn n sl U S (tp T p e) σ1) (g + 9) 3 0 = some (T.1 (g + 9) 0) by rw [g9_0 hG, tp_o _ _ _ g129]
  have c0 : T.1 (g + 9) 0 = nI (d 0 5) := hC.2.1 5 (by decide) (by decide)
  unfold gLess f_X2_readLesson
  rw [x131_0, Option.bind_some, x129_o, Option.bind_some]
  rcases y_nm (n := n) (sl := sl) (U := U) (S := S) (σ1 := σ1) hX hp (lo := 1) (hb := 21) (by decide) (by decide) with ⟨e, v, q, a1, a2, a3, a4, a5, a6⟩ | ⟨v, q, a1, a2, a3, a4, a5⟩
  · have a2' : f_X9_readNumber (cn n sl U S (tp T p 0) σ1) 129 1 20 = some (nI v, cn n sl U S (tp T q e) σ1) := a2
    rw [a1, sb_l, a2', bd_some, nm_q, x131_0, Option.bind_some, x129_o, Option.bind_some, y_s1 q a3 (by omega), bd_some, if_pos rfl]
    exact ⟨T, q, e, rfl, a5, agr.refl _ _, rfl, a3, a4⟩
  · have a2' : f_X9_readNumber (cn n sl U S (tp T p 0) σ1) 129 1 20 = some (nI v, cn n sl U S (tp T q 0) σ1) := a2
    rw [a1, sb_r, a2', bd_some, nm_q, x131_0, Option.bind_some, x129_o, Option.bind_some, y_s0, bd_some, if_neg (by decide), w131 (g := g) (by exact hC.1), Option.bind_some, g0_14 hG, Option.bind_some, g9_1 hG, Option.bind_some, Option.bind_some, g0_14 hG, Option.bind_some, f0, Option.bind_some, c0, g10_w hG hr, Option.bind_some, tp_A, w131 (g := g) (by exact hC.1), Option.bind_some, g0_14 hG, Option.bind_some, f0, tA1, Option.bind_some, c0, lit_1, nI_add, g9_0p hG, Option.bind_some, tp_I _ _ _ g129]
    refine ⟨_, q, 0, rfl, a3, (agr_tA _ _ (fun h => h.2 (by omega))).trans (agr_tI _ _ (fun h => h.2 (by omega))), rfl, rfl, hC.add hgl (by decide) (by decide) (by decide) (fun r x => ?_) (fun j x j2 j11 => ?_) ?_ rfl⟩
    · rw [tI1]; rfl
    · show (tA T (g + 10) (d 0 5) (nI v)).2.1 (g + j + 1) x = _
      rw [tA2]
      have k := (cx_i j2 j11).2.2.2.1
      by_cases e : cx j = 5 ∧ x = d 0 5
      · have := k.1 e.1
        rw [if_pos e, if_pos (by omega)]
      · rw [if_neg e, if_neg (fun y => e ⟨k.2 (by omega), y.2⟩)]
    · funext x
      show (tA T (g + 10) (d 0 5) (nI v)).2.1 (g + 1) x = _
      rw [tA2, if_neg (by omega)]
end CCLAUSE
