/-! Grounds: nets, afters, the class's clauses. -/
theorem netK_in {d : Dr} {v : Nat} (hv : v < 2 ^ 31) : ∀ {k : Nat}, (∀ i, i < k → d 8 i < 2 ^ 31) → netK (fun k => nI (d 8 k)) (nI v) k = inN d v k
  | 0, _ => rfl
  | k + 1, h => by
    rw [netK, inN, netK_in hv (k := k) (fun i hi => h i (by omega))]
    congr 1
    exact decide_eq_decide.2 (nI_eq (h k (by omega)) hv)
section CCLAUSE2
variable {n sl : Nat} {U : Nat → va_E} {S : Nat → Nat × Nat × Nat} {σ1 : Sg} {T : Tc} {L g : Nat} {b : Nat → Nat} {d : Dr}
theorem c_net (hX : TXc T L b) (hG : GV n S g) (hC : CR T g d) (hd : DOK d) {p : Nat} (hp : p ≤ L) : cRes n sl U S σ1 T L g (gNet L b p d) (f_X2_readNet (cn n sl U S (tp T p 0) σ1) 131) := by
  have hgl := hG.loc
  have hL := hX.1
  have hs := skp_le b hp
  have h48 : d 0 0 * d 0 1 ≤ 8 * 6 := Nat.mul_le_mul hd.1.2 hd.2.1.2
  have n48 : ∀ i, i < d 0 4 → d 8 i < 48 := fun i hi => Nat.lt_of_lt_of_le (hd.2.2.2.2.2.1 8 (by decide) (by decide) i hi) (by show d 0 0 * d 0 1 ≤ 48; omega)
  have am : amt L b (skp L b p) 0 (d 0 0 * d 0 1) = amt L b p 0 (d 0 0 * d 0 1) := by unfold amt; rw [skp_i]
  have hn : ∀ v q, v < 48 → f_X1_hasNet (cn n sl U S (tp T q 0) σ1) g (nI v) = some (bI (inN d v (d 0 4)), cn n sl U S (tp T q 0) σ1) := by
    intro v q hv
    unfold f_X1_hasNet
    rw [g0_5 hG, Option.bind_some, show (tp T q 0).2.2.1 g 5 = nbL (fun k => nI (d 8 k)) (d 0 4) from hC.2.2.2.2.1]
    have bt := btL_nbL (fun k => nI (d 8 k)) (d 0 4) (fun i hi => ⟨d 8 i, n48 i hi, rfl⟩) hv
    rw [netK_in (by omega) (fun i hi => by have := n48 i hi; omega)] at bt
    cases e : inN d v (d 0 4) with
    | false =>
      rw [e] at bt
      rw [if_pos (lgb0 (by omega) bt), if_pos (by decide)]
      rfl
    | true =>
      rw [e] at bt
      rw [if_neg (lgb1 (by omega) bt), if_pos (by decide)]
      rfl
  unfold gNet f_X2_readNet
  rw [x131_0, Option.bind_some, x129_o, Option.bind_some, y_sk hX hp, bd_some, nm_q, x131_o, Option.bind_some, ← am]
  rcases c_cell (n := n) (sl := sl) (U := U) (S := S) (σ1 := σ1) hX hG hC hd hs with ⟨e, v, q, a1, a2, a3, a4, a5, a6⟩ | ⟨v, q, a1, a2, a3, a4, a5⟩
  · rw [a1, sb_l, a2, bd_some, nm_q, x131_0, Option.bind_some, x129_o, Option.bind_some, y_s1 q a3 (by omega), bd_some, if_pos rfl]
    exact ⟨T, q, e, rfl, a5, agr.refl _ _, rfl, a3, a4⟩
  · rw [a1, sb_r, a2, bd_some, nm_q, x131_0, Option.bind_some, x129_o, Option.bind_some, y_s0, bd_some, if_neg (show ¬ (1 : Int32) = 0 by decide), w131 (g := g) (by exact hC.1), Option.bind_some, g0_o hG, Option.bind_some, hn v q (by omega), bd_some]
    cases e : inN d v (d 0 4) with
    | false =>
      rw [if_pos (show bI false = 0 from rfl), if_neg (by decide), w131 (g := g) (by exact hC.1), Option.bind_some, g0_5 hG, Option.bind_some, g0_5p hG, Option.bind_some]
      exact ⟨tJ T g 5 (T.2.2.1 g 5 ||| ((1 : Int64) <<< ((nI v).toInt64 &&& 63))), q, 0, rfl, a3, agr_tJ _ _ (fun h => h.2 (by omega)), rfl, rfl, hC.net⟩
    | true =>
      rw [if_neg (show ¬ bI true = 0 by decide), if_pos rfl, x131_0, Option.bind_some, x129_o, Option.bind_some, lit_1, y_f0, Option.bind_some]
      exact ⟨T, q, _, rfl, a3, agr.refl _ _, rfl, by omega, by omega⟩
theorem c_aft (hX : TXc T L b) (hG : GV n S g) (hC : CR T g d) (hd : DOK d) (hr : d 0 6 < 10) {p : Nat} (hp : p ≤ L) : cRes n sl U S σ1 T L g (gAft L b p d) (f_X2_readAfter (cn n sl U S (tp T p 0) σ1) 131) := by
  have hgl := hG.loc
  have hL := hX.1
  have l8 := hd.2.2.2.1.2.2.2.1
  have g129 : g + 9 ≠ 129 := by omega
  have f0 := fun (T : Tc) (p e : Nat) => show gI (cn n sl U S (tp T p e) σ1) (g + 9) 3 0 = some (T.1 (g + 9) 0) by rw [g9_0 hG, tp_o _ _ _ g129]
  have f2 := fun (T : Tc) (p e : Nat) => show gI (cn n sl U S (tp T p e) σ1) (g + 9) 3 2 = some (T.1 (g + 9) 2) by rw [g9_2 hG, tp_o _ _ _ g129]
  have c0 : T.1 (g + 9) 0 = nI (d 0 5) := hC.2.1 5 (by decide) (by decide)
  have c2 : T.1 (g + 9) 2 = nI (d 0 6) := hC.2.1 6 (by decide) (by decide)
  have am : ∀ q, amt L b (skp L b q) 0 (d 0 5) = amt L b q 0 (d 0 5) := fun q => by unfold amt; rw [skp_i]
  unfold gAft f_X2_readAfter
  rw [w131 (g := g) (by exact hC.1), Option.bind_some, g0_14 hG, Option.bind_some, nm_q, x131_0, Option.bind_some, f0, Option.bind_some, c0, x129_o, Option.bind_some]
  rcases y_nm (n := n) (sl := sl) (U := U) (S := S) (σ1 := σ1) hX hp (lo := 0) (hb := d 0 5) (by decide) (by omega) with ⟨e, v, q, a1, a2, a3, a4, a5, a6⟩ | ⟨v, q, a1, a2, a3, a4, a5⟩
  · have a2' : f_X9_readNumber (cn n sl U S (tp T p 0) σ1) 129 0 (nI (d 0 5) - 1) = some (nI v, cn n sl U S (tp T q e) σ1) := a2
    rw [a1, sb_l, a2', bd_some, nm_q, x131_0, Option.bind_some, x129_o, Option.bind_some, y_sk hX a5, bd_some, nm_q, x131_0, Option.bind_some, f0, Option.bind_some, x129_o, Option.bind_some, y_nuD _ a3 (by omega), bd_some, nm_q]
    have hs := skp_le b a5
    by_cases h : nI v = 0
    · rw [if_pos h, x131_0, Option.bind_some, x129_o, Option.bind_some, y_f1 _ a3 (by omega), Option.bind_some, x131_0, Option.bind_some, x129_o, Option.bind_some, y_s1 _ a3 (by omega), bd_some, if_pos rfl]
      exact ⟨T, _, e, rfl, hs, agr.refl _ _, rfl, a3, a4⟩
    · rw [if_neg h, x131_0, Option.bind_some, x129_o, Option.bind_some, y_s1 _ a3 (by omega), bd_some, if_pos rfl]
      exact ⟨T, _, e, rfl, hs, agr.refl _ _, rfl, a3, a4⟩
  · have a2' : f_X9_readNumber (cn n sl U S (tp T p 0) σ1) 129 0 (nI (d 0 5) - 1) = some (nI v, cn n sl U S (tp T q 0) σ1) := a2
    have hs := skp_le b a3
    rw [a1, sb_r, a2', bd_some, nm_q, x131_0, Option.bind_some, x129_o, Option.bind_some, y_sk hX a3, bd_some, nm_q, x131_0, Option.bind_some, f0, Option.bind_some, c0, x129_o, Option.bind_some]
    show cRes n sl U S σ1 T L g (sb (amt L b q 0 (d 0 5)) _) _
    rw [← am q]
    rcases y_nm (n := n) (sl := sl) (U := U) (S := S) (σ1 := σ1) hX hs (lo := 0) (hb := d 0 5) (by decide) (by omega) with ⟨e, v', q', e1, e2, e3, e4, e5, e6⟩ | ⟨v', q', e1, e2, e3, e4, e5⟩
    · have e2' : f_X9_readNumber (cn n sl U S (tp T (skp L b q) 0) σ1) 129 0 (nI (d 0 5) - 1) = some (nI v', cn n sl U S (tp T q' e) σ1) := e2
      rw [e1, sb_l, e2', bd_some, nm_q]
      by_cases h : nI v = nI v'
      · rw [if_pos h, x131_0, Option.bind_some, x129_o, Option.bind_some, y_f1 _ e3 (by omega), Option.bind_some, x131_0, Option.bind_some, x129_o, Option.bind_some, y_s1 _ e3 (by omega), bd_some, if_pos rfl]
        exact ⟨T, _, e, rfl, e5, agr.refl _ _, rfl, e3, e4⟩
      · rw [if_neg h, x131_0, Option.bind_some, x129_o, Option.bind_some, y_s1 _ e3 (by omega), bd_some, if_pos rfl]
        exact ⟨T, _, e, rfl, e5, agr.refl _ _, rfl, e3, e4⟩
    · have e2' : f_X9_readNumber (cn n sl U S (tp T (skp L b q) 0) σ1) 129 0 (nI (d 0 5) - 1) = some (nI v', cn n sl U S (tp T q' 0) σ1) := e2
      rw [e1, sb_r, e2', bd_some, nm_q]
      by_cases h : v = v'
      · rw [if_pos (show nI v = nI v' by rw [h]), if_pos h, x131_0, Option.bind_some, x129_o, Option.bind_some, lit_1, y_f0, Option.bind_some, x131_0, Option.bind_some, x129_o, Option.bind_some, y_s1 _ (by omega) (by omega), bd_some, if_pos rfl]
        exact ⟨T, _, _, rfl, e3, agr.refl _ _, rfl, by omega, by omega⟩
      · rw [if_neg (fun x => h ((nI_eq (by omega) (by omega)).1 x)), if_neg h, x131_0, Option.bind_some, x129_o, Option.bind_some, y_s0, bd_some, if_neg (by decide), g9_3 hG, Option.bind_some, f2, Option.bind_some, c2, g11_w hG hr, Option.bind_some, tp_A, g9_4 hG, Option.bind_some, f2, tA1, Option.bind_some, c2, g12_w hG hr, Option.bind_some, tp_A, f2, tA1, tA1, Option.bind_some, c2, lit_1, nI_add, g9_2p hG, Option.bind_some, tp_I _ _ _ g129]
        refine ⟨_, q', 0, rfl, e3, ((agr_tA _ _ (fun h => h.2 (by omega))).trans (agr_tA _ _ (fun h => h.2 (by omega)))).trans (agr_tI _ _ (fun h => h.2 (by omega))), rfl, rfl, hC.add hgl (by decide) (by decide) (by decide) (fun r x => ?_) (fun j x j2 j11 => ?_) ?_ rfl⟩
        · rw [tI1]; rfl
        · show (tA (tA T (g + 11) (d 0 6) (nI v)) (g + 12) (d 0 6) (nI v')).2.1 (g + j + 1) x = _
          rw [tA2, tA2]
          have k := (cx_i j2 j11).2.2.2.2
          by_cases e : cx j = 6 ∧ x = d 0 6
          · have := k.1 e.1
            rw [if_pos e]
            by_cases e2 : j = 10
            · rw [if_neg (by omega), if_pos (by omega), if_pos e2]
            · rw [if_pos (by omega), if_neg e2]
          · rw [if_neg e, if_neg (fun y => e ⟨k.2 (by omega), y.2⟩), if_neg (fun y => e ⟨k.2 (by omega), y.2⟩)]
        · funext x
          show (tA (tA T (g + 11) (d 0 6) (nI v)) (g + 12) (d 0 6) (nI v')).2.1 (g + 1) x = _
          rw [tA2, tA2, if_neg (by omega), if_neg (by omega)]
theorem c_full (hG : GV n S g) (hC : CR T g d) (hd : DOK d) {k p : Nat} (h1 : 1 ≤ k) (h6 : k ≤ 6) : f_X2_isFull (cn n sl U S (tp T p 0) σ1) 131 (nI k) = some (bI (gFull d k), cn n sl U S (tp T p 0) σ1) := by
  have hgl := hG.loc
  have g129 : g ≠ 129 := by omega
  have g9 : g + 9 ≠ 129 := by omega
  have ct : gI (cn n sl U S (tp T p 0) σ1) 131 2 2 = some (nI (d 0 7)) := by rw [x131_2, tp_o _ _ _ (by decide)]; exact congrArg some (hC.2.1 7 (by decide) (by decide))
  have c1 : gI (cn n sl U S (tp T p 0) σ1) g 1 1 = some (nI (d 0 1)) := by rw [g0_1 hG, tp_o _ _ _ g129]; exact congrArg some (hC.2.1 1 (by decide) (by decide))
  have c6 : gI (cn n sl U S (tp T p 0) σ1) g 1 6 = some (nI (d 0 2)) := by rw [g0_6 hG, tp_o _ _ _ g129]; exact congrArg some (hC.2.1 2 (by decide) (by decide))
  have c9 : gI (cn n sl U S (tp T p 0) σ1) g 1 9 = some (nI (d 0 3)) := by rw [g0_9 hG, tp_o _ _ _ g129]; exact congrArg some (hC.2.1 3 (by decide) (by decide))
  have l0 : gI (cn n sl U S (tp T p 0) σ1) (g + 9) 3 0 = some (nI (d 0 5)) := by rw [g9_0 hG, tp_o _ _ _ g9]; exact congrArg some (hC.2.1 5 (by decide) (by decide))
  have l2 : gI (cn n sl U S (tp T p 0) σ1) (g + 9) 3 2 = some (nI (d 0 6)) := by rw [g9_2 hG, tp_o _ _ _ g9]; exact congrArg some (hC.2.1 6 (by decide) (by decide))
  have h48 : d 0 0 * d 0 1 ≤ 8 * 6 := Nat.mul_le_mul hd.1.2 hd.2.1.2
  have n48 : ∀ i, i < d 0 4 → d 8 i < 48 := fun i hi => Nat.lt_of_lt_of_le (hd.2.2.2.2.2.1 8 (by decide) (by decide) i hi) (by show d 0 0 * d 0 1 ≤ 48; omega)
  have nt : f_X1_netCount (cn n sl U S (tp T p 0) σ1) g = some (nI (d 0 4), cn n sl U S (tp T p 0) σ1) := by
    unfold f_X1_netCount
    rw [g0_5 hG, Option.bind_some, show (tp T p 0).2.2.1 g 5 = nbL (fun k => nI (d 8 k)) (d 0 4) from hC.2.2.2.2.1, pop64, bd_some, ct_nbL (fun k => nI (d 8 k)) (d 0 4) (fun i hi => ⟨d 8 i, n48 i hi, rfl⟩) (fun i j hi hj h => hd.2.2.2.2.2.2.2 i j hi hj ((nI_eq (by have := n48 i hi; omega) (by have := n48 j hj; omega)).1 h))]
  obtain ⟨a1, a2, a3, a4, -⟩ := hd
  have key : ∀ (x m : Nat) (μ : Mm), x ≤ m → m < 2 ^ 31 → (if nI x < nI m then (if (0 : Int32) = 0 ∨ (0 : Int32) = 1 then some ((0 : Int32), μ) else none) else (if (1 : Int32) = 0 ∨ (1 : Int32) = 1 then some ((1 : Int32), μ) else none)) = some (bI (decide (x = m)), μ) := by
    intro x m μ h hm
    by_cases e : x = m
    · rw [if_neg (nI_nlt (by omega) (by omega)), if_pos (by decide), decide_eq_true e]; rfl
    · rw [if_pos (nI_lt (by omega) hm), if_pos (by decide), decide_eq_false e]; rfl
  unfold gFull f_X2_isFull
  have hk : k = 1 ∨ k = 2 ∨ k = 3 ∨ k = 4 ∨ k = 5 ∨ k = 6 := by omega
  rcases hk with rfl | rfl | rfl | rfl | rfl | rfl
  · rw [if_pos (show nI 1 = 1 from rfl), ct, Option.bind_some, w131 (g := g) (by exact hC.1), Option.bind_some, c1, Option.bind_some, key _ _ _ a3 (by omega)]
    congr 3
    exact decide_eq_decide.2 (by omega)
  · rw [if_neg (show ¬ nI 2 = 1 by decide), if_pos (show nI 2 = 2 from rfl), w131 (g := g) (by exact hC.1), Option.bind_some, c6, Option.bind_some, lit_5, key _ _ _ a4.1 (by omega)]
    congr 3
    exact decide_eq_decide.2 (by omega)
  · rw [if_neg (show ¬ nI 3 = 1 by decide), if_neg (show ¬ nI 3 = 2 by decide), if_pos (show nI 3 = 3 from rfl), w131 (g := g) (by exact hC.1), Option.bind_some, c9, Option.bind_some, lit_8, key _ _ _ a4.2.1 (by omega)]
    congr 3
    exact decide_eq_decide.2 (by omega)
  · rw [if_neg (show ¬ nI 4 = 1 by decide), if_neg (show ¬ nI 4 = 2 by decide), if_neg (show ¬ nI 4 = 3 by decide), if_pos (show nI 4 = 4 from rfl), w131 (g := g) (by exact hC.1), Option.bind_some, g0_o hG, Option.bind_some, nt, bd_some, lit_4, key _ _ _ a4.2.2.1 (by omega)]
    congr 3
    exact decide_eq_decide.2 (by omega)
  · rw [if_neg (show ¬ nI 5 = 1 by decide), if_neg (show ¬ nI 5 = 2 by decide), if_neg (show ¬ nI 5 = 3 by decide), if_neg (show ¬ nI 5 = 4 by decide), if_pos (show nI 5 = 5 from rfl), w131 (g := g) (by exact hC.1), Option.bind_some, g0_14 hG, Option.bind_some, l0, Option.bind_some, lit_8, key _ _ _ a4.2.2.2.1 (by omega)]
    congr 3
    exact decide_eq_decide.2 (by omega)
  · rw [if_neg (show ¬ nI 6 = 1 by decide), if_neg (show ¬ nI 6 = 2 by decide), if_neg (show ¬ nI 6 = 3 by decide), if_neg (show ¬ nI 6 = 4 by decide), if_neg (show ¬ nI 6 = 5 by decide), if_pos (show nI 6 = 6 from rfl), w131 (g := g) (by exact hC.1), Option.bind_some, g0_14 hG, Option.bind_some, l2, Option.bind_some, lit_10, key _ _ _ a4.2.2.2.2 (by omega)]
    congr 3
    exact decide_eq_decide.2 (by omega)
theorem c_clause (hX : TXc T L b) (hG : GV n S g) (hC : CR T g d) {m p : Nat} (hm : m ≤ 40) (hd : 0 < m → DOK d) (hp : p ≤ L) : cRes n sl U S σ1 T L g (gCl L b m p d) (f_X2_readClause (cn n sl U S (tp T p 0) σ1) 131 (nI m)) := by
  have hgl := hG.loc
  have hL := hX.1
  have hs := skp_le b hp
  have hw := we_le b hs
  have tw := y_wd (n := n) (sl := sl) (U := U) (S := S) (σ1 := σ1) hX 0 gWs (a := 0) (by decide) hs (by decide +kernel) (by decide +kernel)
  have f7 := fw_le L b (skp L b p) gWs
  have f7' : fw L b gWs (skp L b p) ≤ 7 := f7
  have failed : ∀ q, q ≤ L → cRes n sl U S σ1 T L g (.inl (1 + 8 * skp L b p + 4)) ((gR (cn n sl U S (tp T q 0) σ1) 131 2 0).bind fun v14 =>
    ((ob (cn n sl U S (tp T q 0) σ1) v14 9).bind fun _ =>
    ((f_X9_fail (cn n sl U S (tp T q 0) σ1) v14 (nI (skp L b p)) (4 : Int32)).bind fun μ15 =>
    (some μ15)))) := by
    intro q hq
    rw [x131_0, Option.bind_some, x129_o, Option.bind_some, lit_4, y_f0, Option.bind_some]
    exact ⟨T, q, _, rfl, hq, agr.refl _ _, rfl, by omega, by omega⟩
  unfold gCl f_X2_readClause
  rw [x131_0, Option.bind_some, x129_o, Option.bind_some, y_sk hX hp, bd_some, nm_q, x131_0, Option.bind_some, x129_o, Option.bind_some, tw]
  generalize fw L b gWs (skp L b p) = k at *
  by_cases k7 : k = 7
  · rw [if_pos k7, if_neg (show ¬ k < gWs.length by rw [k7]; decide), bd_some, nm_q, if_pos rfl, x131_0, Option.bind_some, x129_o, Option.bind_some, lit_0, y_f0, Option.bind_some]
    exact ⟨T, _, _, rfl, hs, agr.refl _ _, rfl, by omega, by omega⟩
  · rw [if_pos (show k < gWs.length by show k < 7; omega), bd_some, nm_q, if_neg k7, if_neg (nI_nm1 (by omega))]
    by_cases m0 : m = 0
    · rw [if_pos (show nI m = 0 by rw [m0]; rfl)]
      by_cases k0 : k = 0
      · rw [if_pos (show nI k = 0 by rw [k0]; rfl), if_pos rfl, nm_q, if_pos rfl, if_neg (show ¬ (40 : Int32) ≤ nI m from nI_ge (b := 40) (by omega) (by decide)), x131_o, Option.bind_some]
        have fl : f_X2_isFull (cn n sl U S (tp T (we L b (skp L b p)) 0) σ1) 131 (nI k) = some (0, cn n sl U S (tp T (we L b (skp L b p)) 0) σ1) := by rw [k0]; rfl
        have sz := c_size (n := n) (sl := sl) (U := U) (S := S) (σ1 := σ1) hX hG hC hw
        have gf : gFull d k = false := by rw [k0]; rfl
        rw [fl, bd_some, if_pos rfl, if_pos (show nI k = 0 by rw [k0]; rfl), x131_o, Option.bind_some, if_neg (fun x => by rw [gf] at x; rcases x with x | x | x; omega; exact x ⟨fun _ => m0, fun _ => k0⟩; cases x), gPart, if_pos k0]
        obtain ⟨T', q, e, s1, s2⟩ := sz
        refine ⟨T', q, e, ?_, s2⟩
        rw [s1]
        rfl
      · rw [if_neg (show ¬ nI k = 0 from fun x => k0 ((nI_eq (b := 0) (by omega) (by decide)).1 x)), if_neg (show ¬ (1 : Int32) = 0 by decide), nm_q, if_neg (show ¬ (1 : Int32) = 0 by decide), if_pos (.inr (.inl (fun x => k0 (x.2 m0))))]
        exact failed _ hw
    · have dd := hd (by omega)
      rw [if_neg (show ¬ nI m = 0 from fun x => m0 ((nI_eq (b := 0) (by omega) (by decide)).1 x))]
      by_cases k0 : k = 0
      · rw [if_pos (show nI k = 0 by rw [k0]; rfl), if_neg (show ¬ (0 : Int32) = 1 by decide), nm_q, if_neg (show ¬ (1 : Int32) = 0 by decide), if_pos (.inr (.inl (fun x => m0 (x.1 k0))))]
        exact failed _ hw
      · rw [if_neg (show ¬ nI k = 0 from fun x => k0 ((nI_eq (b := 0) (by omega) (by decide)).1 x)), if_pos (show (0 : Int32) = 0 from rfl), nm_q, if_pos (show (0 : Int32) = 0 from rfl)]
        by_cases m40 : m = 40
        · rw [if_pos (show (40 : Int32) ≤ nI m by rw [m40]; decide), if_pos (.inl m40)]
          exact failed _ hw
        · rw [if_neg (show ¬ (40 : Int32) ≤ nI m from nI_ge (b := 40) (by omega) (by decide)), x131_o, Option.bind_some, c_full hG hC dd (by omega) (by omega), bd_some]
          cases gf : gFull d k with
          | true =>
            rw [if_neg (show ¬ bI true = 0 by decide), if_pos (.inr (.inr rfl))]
            exact failed _ hw
          | false =>
            rw [if_pos (show bI false = 0 from rfl), if_neg (fun x => by rcases x with x | x | x; exact m40 x; exact x ⟨fun h => absurd h k0, fun h => absurd h m0⟩; cases x), gPart, if_neg k0, if_neg (show ¬ nI k = 0 from fun x => k0 ((nI_eq (b := 0) (by omega) (by decide)).1 x))]
            unfold gFull at gf
            have gf := of_decide_eq_false gf
            obtain ⟨a1, a2, a3, a4, -⟩ := dd
            have hk : k = 1 ∨ k = 2 ∨ k = 3 ∨ k = 4 ∨ k = 5 ∨ k = 6 := by omega
            rcases hk with rfl | rfl | rfl | rfl | rfl | rfl
            · obtain ⟨T', q, e, s1, s2⟩ := c_row (n := n) (sl := sl) (U := U) (S := S) (σ1 := σ1) hX hG hC (hd (by omega)) (by omega) hw
              rw [if_pos (show 1 = 1 from rfl), if_pos (show nI 1 = 1 from rfl), x131_o, Option.bind_some]
              exact ⟨T', q, e, by rw [s1]; rfl, s2⟩
            · obtain ⟨T', q, e, s1, s2⟩ := c_pers (n := n) (sl := sl) (U := U) (S := S) (σ1 := σ1) hX hG hC (hd (by omega)) (by omega) hw
              rw [if_neg (show ¬ 2 = 1 by decide), if_pos (show 2 = 2 from rfl), if_neg (show ¬ nI 2 = 1 by decide), if_pos (show nI 2 = 2 from rfl), x131_o, Option.bind_some]
              exact ⟨T', q, e, by rw [s1]; rfl, s2⟩
            · obtain ⟨T', q, e, s1, s2⟩ := c_thng (n := n) (sl := sl) (U := U) (S := S) (σ1 := σ1) hX hG hC (hd (by omega)) (by omega) hw
              rw [if_neg (show ¬ 3 = 1 by decide), if_neg (show ¬ 3 = 2 by decide), if_pos (show 3 = 3 from rfl), if_neg (show ¬ nI 3 = 1 by decide), if_neg (show ¬ nI 3 = 2 by decide), if_pos (show nI 3 = 3 from rfl), x131_o, Option.bind_some]
              exact ⟨T', q, e, by rw [s1]; rfl, s2⟩
            · obtain ⟨T', q, e, s1, s2⟩ := c_net (n := n) (sl := sl) (U := U) (S := S) (σ1 := σ1) hX hG hC (hd (by omega)) hw
              rw [if_neg (show ¬ 4 = 1 by decide), if_neg (show ¬ 4 = 2 by decide), if_neg (show ¬ 4 = 3 by decide), if_pos (show 4 = 4 from rfl), if_neg (show ¬ nI 4 = 1 by decide), if_neg (show ¬ nI 4 = 2 by decide), if_neg (show ¬ nI 4 = 3 by decide), if_pos (show nI 4 = 4 from rfl), x131_o, Option.bind_some]
              exact ⟨T', q, e, by rw [s1]; rfl, s2⟩
            · obtain ⟨T', q, e, s1, s2⟩ := c_less (n := n) (sl := sl) (U := U) (S := S) (σ1 := σ1) hX hG hC (by omega) hw
              rw [if_neg (show ¬ 5 = 1 by decide), if_neg (show ¬ 5 = 2 by decide), if_neg (show ¬ 5 = 3 by decide), if_neg (show ¬ 5 = 4 by decide), if_pos (show 5 = 5 from rfl), if_neg (show ¬ nI 5 = 1 by decide), if_neg (show ¬ nI 5 = 2 by decide), if_neg (show ¬ nI 5 = 3 by decide), if_neg (show ¬ nI 5 = 4 by decide), if_pos (show nI 5 = 5 from rfl), x131_o, Option.bind_some]
              exact ⟨T', q, e, by rw [s1]; rfl, s2⟩
            · obtain ⟨T', q, e, s1, s2⟩ := c_aft (n := n) (sl := sl) (U := U) (S := S) (σ1 := σ1) hX hG hC (hd (by omega)) (by omega) hw
              rw [if_neg (show ¬ 6 = 1 by decide), if_neg (show ¬ 6 = 2 by decide), if_neg (show ¬ 6 = 3 by decide), if_neg (show ¬ 6 = 4 by decide), if_neg (show ¬ 6 = 5 by decide), if_neg (show ¬ nI 6 = 1 by decide), if_neg (show ¬ nI 6 = 2 by decide), if_neg (show ¬ nI 6 = 3 by decide), if_neg (show ¬ nI 6 = 4 by decide), if_neg (show ¬ nI 6 = 5 by decide), x131_o, Option.bind_some]
              exact ⟨T', q, e, by rw [s1]; rfl, s2⟩
end CCLAUSE2
