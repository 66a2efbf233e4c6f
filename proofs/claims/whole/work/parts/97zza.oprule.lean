/-! The call rule. -/
theorem r_begin (T : Tc) : tI (tI (tI (tI (tI T 129 2 0) 129 3 0) 147 2 0) 147 3 0) 147 4 0 = cX (tI T 147 4 (nI 0)) 0 0 [] 0 := by
  show tI (tI (tI (tp T 0 0) 147 2 0) 147 3 0) 147 4 0 = _
  rw [tp_I _ _ _ (by decide), tp_I _ _ _ (by decide), tp_I _ _ _ (by decide)]
  congr 1
  refine Prod.ext (funext fun r => funext fun k => ?_) (Prod.ext (funext fun r => funext fun i => ?_) rfl)
  · rw [rcT1, tI1, tI1, tI1, tI1]
    by_cases h2 : r = 147 ∧ k = 2
    · rw [if_neg (by omega), if_neg (by omega), if_pos h2, if_pos h2]
      rfl
    · rw [if_neg h2, if_neg h2]
      by_cases h3 : r = 147 ∧ k = 3
      · rw [if_neg (by omega), if_pos h3, if_pos h3]
        rfl
      · rw [if_neg h3, if_neg h3]
        rfl
  · rw [rcT2, if_neg (fun x => absurd x.2 (Nat.not_lt_zero _))]
    rfl
theorem q_begin (σ : Sg) (r : Nat) : stI (stI (stI (stI (stI (stI σ 31 (nI r)) 29 0) 30 0) 33 0) 34 0) 35 0 = sX (stI (stI σ 31 (nI r)) 34 (nI 0)) r 0 0 [] 0 := by
  refine Prod.ext (funext fun k => ?_) (Prod.ext (funext fun q => funext fun i => ?_) rfl)
  · rw [sp1, rcS1, stI1, stI1, stI1, stI1, stI1, stI1, stI1, stI1]
    by_cases h35 : k = 35
    · rw [if_pos h35, if_neg (by omega), if_neg (by omega), if_neg (by omega), if_pos h35]; rfl
    · rw [if_neg h35]
      by_cases h34 : k = 34
      · rw [if_pos h34, if_neg (by omega), if_neg (by omega), if_neg (by omega), if_neg (by omega), if_pos h34]; rfl
      · rw [if_neg h34]
        by_cases h33 : k = 33
        · rw [if_pos h33, if_neg (by omega), if_neg (by omega), if_pos h33]; rfl
        · rw [if_neg h33]
          by_cases h30 : k = 30
          · rw [if_pos h30, if_pos h30]; rfl
          · rw [if_neg h30, if_neg h30]
            by_cases h29 : k = 29
            · rw [if_pos h29, if_pos h29]; rfl
            · rw [if_neg h29, if_neg h29, if_neg h33, if_neg h35, if_neg h34]
  · show σ.2.1 q i = (rcS _ r 0 []).2.1 q i
    rw [rcS2, if_neg (fun x => by have := x.2.2; have : i < 300 * r + 0 := this; omega)]
    rfl
theorem getD_mem {es : List (Nat × Nat)} {i : Nat} (h : i < es.length) : es.getD i (0, 0) ∈ es := by
  rw [List.getD_eq_getElem?_getD, List.getElem?_eq_getElem h]
  exact List.getElem_mem h
theorem getC_mem {es : List Cl} {i : Nat} (h : i < es.length) : es.getD i cz ∈ es := by
  rw [List.getD_eq_getElem?_getD, List.getElem?_eq_getElem h]
  exact List.getElem_mem h
theorem op_rule : OpR (fun μ => f_X11_rule μ 128) (fun μ => f_X12_rule μ 188) := by
  intro n sl U S T σ nr hR
  have hR' := hR
  obtain ⟨hN, ⟨L, tL1, tL2, tL3, tL4⟩, hRU, hIM, hD, hS⟩ := hR
  obtain ⟨n6, n5, n32, n37, -⟩ := hN
  by_cases h6 : nr = 6
  · refine ⟨-1, n, sl, U, S, T, σ, nr, ?_, ?_, hR', by omega, by omega⟩
    · show f_X11_rule (cn n sl U S T σ) 128 = _
      unfold f_X11_rule
      rw [x128_5, Option.bind_some, n5, h6, if_neg (by decide)]
    · show f_X12_rule (mem _ _ σ) 188 = some (-1, mem _ _ σ)
      unfold f_X12_rule
      rw [mI_32, Option.bind_some, n32, h6, if_pos (show nI 6 = 6 from rfl)]
  -- the text
  obtain ⟨b, hb⟩ : ∃ b : Nat → Nat, ∀ i, i < L → b i < 256 ∧ T.2.1 130 i = byt (b i) ∧ σ.2.1 215 i = byt (b i) := by
    refine ⟨fun i => (T.2.1 130 i &&& 255).toNatClampNeg, fun i hi => ?_⟩
    obtain ⟨x, h1, h2, h3⟩ := tL4 i hi
    have h4 := (byt_all x h1).2.2.2.1
    have h5 : (T.2.1 130 i &&& 255).toNatClampNeg = x := by rw [h2, h4, nI_clamp (by omega)]
    show (T.2.1 130 i &&& 255).toNatClampNeg < 256 ∧ T.2.1 130 i = byt (T.2.1 130 i &&& 255).toNatClampNeg ∧ σ.2.1 215 i = byt (T.2.1 130 i &&& 255).toNatClampNeg
    rw [h5]
    exact ⟨h1, h2, h3⟩
  -- the class reads
  obtain ⟨T0, w0⟩ : ∃ T0, T0 = tI T 147 4 (nI 0) := ⟨_, rfl⟩
  have fr0 : CFr T T0 := by rw [w0]; exact CFr.cnt _ _
  have hX : TXc T0 L b := fr0.tx ⟨tL1, tL2, fun i hi => ⟨(hb i hi).1, (hb i hi).2.1⟩⟩
  have ck0 : CK T0 [] := ⟨by rw [w0, tI1, if_pos ⟨rfl, rfl⟩]; rfl, fun i hi => absurd hi (Nat.not_lt_zero _)⟩
  obtain ⟨T1, q1, c1, es1, e, r1, r2, r3, r4⟩ := c_rall (n := n) (sl := sl) (U := U) (S := S) (σ1 := σ) (L := L) (b := b) (fun μ25 a26 =>
    ((gR μ25 a26 6 0).bind fun v27 =>
    ((ob μ25 v27 9).bind fun _ =>
    (bd (f_X9_isSound μ25 v27) fun v29 μ28 =>
    (if v29 = 0 ∨ v29 = 1 then some (v29, μ28) else none))))) 12 [] T0 0 0 [] FU rfl (by unfold FU; omega) hX ck0 (Nat.zero_le _) (by omega) (Nat.zero_le _)
  have frT : CFr T T1 := fr0.trans r3
  have cread : f_X6_readAll (cn n sl U S T σ) 147 = some (if e = 0 then 1 else 0, cn n sl U S (cX T1 q1 c1 es1 e) σ) := by
    have e4 : e < 4000 := by
      cases hA : rRl L b (12 + 1) (0, 0, []) [] with
      | inl x => rw [hA] at r4; exact r4.2.2
      | inr x => rw [hA] at r4; rw [r4.1]; decide
    unfold f_X6_readAll f_X9_rewind
    rw [x147_0, Option.bind_some, x129_o, Option.bind_some, x129_2p, Option.bind_some, x129_3p, Option.bind_some, Option.bind_some, x147_2p, Option.bind_some, x147_3p, Option.bind_some, x147_4p, Option.bind_some, nm_q, nm_q, r_begin, ← w0]
    refine r1.trans ?_
    show ((gR (cn n sl U S (cX T1 q1 c1 es1 e) σ) 147 6 0).bind fun v27 => _) = _
    rw [x147_0, Option.bind_some, x129_o, Option.bind_some]
    by_cases e0 : e = 0
    · rw [e0, y_s0, bd_some, if_pos (.inr rfl), if_pos rfl]
    · rw [y_s1 _ e0 (by omega), bd_some, if_pos (.inl rfl), if_neg e0]
  obtain ⟨T2, w2⟩ : ∃ T2, T2 = tI (cX T1 q1 c1 es1 e) 129 1 (nI 0) := ⟨_, rfl⟩
  have t2_1 : ∀ r k, ¬ (r = 129 ∧ (k = 1 ∨ k = 2 ∨ k = 3)) → ¬ (r = 147 ∧ (k = 2 ∨ k = 3)) → T2.1 r k = T1.1 r k := fun r k h1 h2 => by
    rw [w2, tI1, if_neg (by omega), tp1, if_neg (by omega), if_neg (by omega), rcT1, if_neg (by omega), if_neg (by omega)]
  have t2_2 : ∀ r, r ≠ 148 → T2.2.1 r = T1.2.1 r := fun r h => by
    rw [w2]
    funext i
    show (rcT T1 c1 es1).2.1 r i = _
    rw [rcT2, if_neg (fun x => h x.1)]
  have t2_3 : T2.2.2 = T1.2.2 := by rw [w2]; rfl
  have t2_129 : T2.1 129 1 = nI 0 := by rw [w2, tI1, if_pos ⟨rfl, rfl⟩]
  have t2_e : T2.1 129 3 = nI e := by rw [w2, tI1, if_neg (by omega), tp1, if_pos ⟨rfl, rfl⟩]
  have ag2 : agr (fun r => r < 242 + n ∧ r ≠ 129 ∧ r ≠ 131 ∧ ¬ (147 ≤ r ∧ r ≤ 152)) T T2 := by
    intro r hr
    refine ⟨?_, ?_, ?_, ?_, ?_⟩
    · funext k
      rw [t2_1 r k (by omega) (by omega), frT.1 r k (by omega)]
    · rw [t2_2 r (by omega), frT.2.1 r (by omega)]
    · rw [t2_3, frT.2.2]
    · rw [t2_3, frT.2.2]
    · rw [t2_3, frT.2.2]
  have t2_5 : T2.1 128 5 = nI nr := by rw [congrFun (ag2 128 (by omega)).1 5]; exact n5
  -- the reference reads
  obtain ⟨σ0, v0⟩ : ∃ σ0, σ0 = stI (stI σ 31 (nI nr)) 34 (nI 0) := ⟨_, rfl⟩
  have s0 : (∀ k, k ≠ 31 → k ≠ 34 → σ0.1 k = σ.1 k) ∧ σ0.2 = σ.2 := by
    rw [v0]
    exact ⟨fun k h1 h2 => by rw [stI1, if_neg h2, stI1, if_neg h1], rfl⟩
  have hXs : TXs σ0 L b := ⟨tL1, by rw [s0.1 28 (by decide) (by decide)]; exact tL3, fun i hi => by rw [s0.2]; exact ⟨(hb i hi).1, (hb i hi).2.2⟩⟩
  have hK0 : SK σ0 nr := ⟨by omega, by rw [v0, stI1, if_neg (by decide), stI1, if_pos rfl], by rw [s0.1 37 (by decide) (by decide)]; exact n37⟩
  obtain ⟨σ1, q', c', es', e', m', u1, u2, u3, u4⟩ := s_rall (L := L) (b := b) (r := nr) (fun μ16 a17 x18 =>
    ((pV μ16 a17 12 28 (.int (0 : Int32))).bind fun μ19 =>
    ((gR μ19 a17 12 41).bind fun v20 =>
    ((gI μ19 a17 12 31).bind fun v21 =>
    ((sI μ19 v20 0 v21 x18).bind fun μ22 =>
    ((gI μ22 a17 12 32).bind fun v23 =>
    ((gI μ22 a17 12 30).bind fun v24 =>
    (if v24 = 0 then
    ((pV μ22 a17 12 32 (.int (v23 + (1 : Int32)))).bind fun μ25 =>
    ((gI μ25 a17 12 30).bind fun v26 =>
    (if v26 ≤ 0 then
    ((gI μ25 a17 12 32).bind fun v27 =>
    (some ((v27 - (1 : Int32)), μ25)))
    else
    ((gI μ25 a17 12 30).bind fun v28 =>
    (some (((-2 : Int32) - v28), μ25))))))
    else
    ((pV μ22 a17 12 32 (.int (v23 + (0 : Int32)))).bind fun μ29 =>
    ((gI μ29 a17 12 30).bind fun v30 =>
    (if v30 ≤ 0 then
    ((gI μ29 a17 12 32).bind fun v31 =>
    (some ((v31 - (1 : Int32)), μ29)))
    else
    ((gI μ29 a17 12 30).bind fun v32 =>
    (some (((-2 : Int32) - v32), μ29)))))))))))))) 12 [] σ0 0 0 [] FU rfl (by unfold FU; omega) hXs hK0 (by rw [v0, stI1, if_pos rfl]) (fun i hi => absurd hi (Nat.not_lt_zero _)) (Nat.zero_le _) (by omega) (Nat.zero_le _)
  have ee : e' = e := by
    cases hA : rRl L b (12 + 1) (0, 0, []) [] with
    | inl x => rw [hA] at r4 u4; exact u4.trans r4.1.symm
    | inr x => rw [hA] at r4 u4; exact u4.1.trans r4.1.symm
  subst ee
  have e4 : e' < 4000 := by
    cases hA : rRl L b (12 + 1) (0, 0, []) [] with
    | inl x => rw [hA] at r4; exact r4.2.2
    | inr x => rw [hA] at r4; rw [r4.1]; decide
  obtain ⟨σ2, v2⟩ : ∃ σ2, σ2 = stA (stI (sX σ1 nr q' c' es' e') 28 (nI 0)) 218 nr (nI m') := ⟨_, rfl⟩
  have s2_1 : ∀ k, k ≠ 28 → k ≠ 29 → k ≠ 30 → k ≠ 31 → k ≠ 33 → k ≠ 34 → k ≠ 35 → k ≠ 36 → σ2.1 k = σ.1 k := fun k h1 h2 h3 h4 h5 h6 h7 h8 => by
    rw [v2, stA1, stI1, if_neg h1, sp1, if_neg h3, if_neg h2, rcS1, if_neg h5, if_neg h7, u3.1 k h6 h8, s0.1 k h4 h6]
  have s2_28 : σ2.1 28 = nI 0 := by rw [v2, stA1, stI1, if_pos rfl]
  have s2_30 : σ2.1 30 = nI e' := by rw [v2, stA1, stI1, if_neg (by decide), sp1, if_pos rfl]
  have s2_31 : (stI (sX σ1 nr q' c' es' e') 28 (nI 0)).1 31 = nI nr := by rw [stI1, if_neg (by decide), sp1, if_neg (by decide), if_neg (by decide), rcS1, if_neg (by decide), if_neg (by decide), u3.1 31 (by decide) (by decide)]; exact hK0.2.1
  have s2_32 : σ2.1 32 = nI nr := by rw [s2_1 32 (by decide) (by decide) (by decide) (by decide) (by decide) (by decide) (by decide) (by decide)]; exact n32
  have s2_2 : ∀ q i, ¬ (q = 218 ∧ i = nr) → σ2.2.1 q i = (rcS σ1 nr c' es').2.1 q i := fun q i h => by
    rw [v2, stA2, if_neg h]
    rfl
  have s2_r : ∀ q i, q ≠ 222 → ¬ ((q = 216 ∨ q = 217) ∧ 300 * nr ≤ i) → ¬ (q = 218 ∧ i = nr) → ¬ (((219 ≤ q ∧ q ≤ 221) ∨ q = 223) ∧ 12 * nr ≤ i) → σ2.2.1 q i = σ.2.1 q i := fun q i h1 h2 h3 h4 => by
    rw [s2_2 q i h3, rcS2, if_neg (fun x => h2 ⟨x.1, x.2.1⟩), u3.2 q i h1 h4, s0.2]
  have sread : ∀ ρ τ, f_X12_rule (mem ρ τ σ) 188 = (if nI e' = 0 then
    ((pV (mem ρ τ σ2) 188 12 32 (.int (nI nr + (1 : Int32)))).bind fun μ25 =>
    ((gI μ25 188 12 30).bind fun v26 =>
    (if v26 ≤ 0 then
    ((gI μ25 188 12 32).bind fun v27 =>
    (some ((v27 - (1 : Int32)), μ25)))
    else
    ((gI μ25 188 12 30).bind fun v28 =>
    (some (((-2 : Int32) - v28), μ25))))))
    else
    ((pV (mem ρ τ σ2) 188 12 32 (.int (nI nr + (0 : Int32)))).bind fun μ29 =>
    ((gI μ29 188 12 30).bind fun v30 =>
    (if v30 ≤ 0 then
    ((gI μ29 188 12 32).bind fun v31 =>
    (some ((v31 - (1 : Int32)), μ29)))
    else
    ((gI μ29 188 12 30).bind fun v32 =>
    (some (((-2 : Int32) - v32), μ29))))))) := by
    intro ρ τ
    unfold f_X12_rule f_X12_starts
    rw [mI_32, Option.bind_some, n32, if_neg (show ¬ nI nr = 6 from fun x => h6 ((nI_eq (b := 6) (by omega) (by decide)).1 x)), Option.bind_some, mP_31, Option.bind_some, ob_mem, Option.bind_some, mP_29, Option.bind_some, mP_30, Option.bind_some, mP_33, Option.bind_some, mP_34, Option.bind_some, mP_35, Option.bind_some, Option.bind_some, nm_q, nm_q, q_begin, ← v0]
    refine (u1 ρ τ).trans ?_
    show ((pV (mem ρ τ (sX σ1 nr q' c' es' e')) 188 12 28 (.int (nI 0))).bind fun μ19 => _) = _
    rw [mP_28, Option.bind_some, mR_41, Option.bind_some, mI_31, s2_31, Option.bind_some, y218_w (by omega), Option.bind_some, ← v2, mI_32, s2_32, Option.bind_some, mI_30, s2_30, Option.bind_some]
  obtain ⟨σm, vm⟩ : ∃ σm : Sg, σm = (σ.1, fun q => if (216 ≤ q ∧ q ≤ 221) ∨ q = 223 then σ2.2.1 q else σ.2.1 q, σ.2.2) := ⟨_, rfl⟩
  have sm : ∀ q, σm.2.1 q = if (216 ≤ q ∧ q ≤ 221) ∨ q = 223 then σ2.2.1 q else σ.2.1 q := fun q => by rw [vm]
  have Rm : REL n S T σm nr := by
    refine hR'.rl (fun k _ => by rw [vm]) (fun r hr => by rw [sm, if_neg (by omega)]) (fun k hk => ?_) (fun i hi => ?_) (fun i hi => ?_)
    · rw [sm, if_pos (by omega), s2_r 218 k (by decide) (by omega) (by omega) (by omega)]
    · rw [sm, if_pos (by omega), sm, if_pos (by omega), s2_r 216 i (by decide) (by omega) (by omega) (by omega), s2_r 217 i (by decide) (by omega) (by omega) (by omega)]
      exact ⟨rfl, rfl⟩
    · rw [sm, if_pos (by omega), sm, if_pos (by omega), sm, if_pos (by omega), sm, if_pos (by omega), s2_r 219 i (by decide) (by omega) (by omega) (by omega), s2_r 220 i (by decide) (by omega) (by omega) (by omega), s2_r 221 i (by decide) (by omega) (by omega) (by omega), s2_r 223 i (by decide) (by omega) (by omega) (by omega)]
      exact ⟨rfl, rfl, rfl, rfl⟩
  have eq2 : Eqt σm σ2 := by
    refine ⟨fun k hk => ?_, fun r hr => ?_⟩
    · rw [s2_1 k (by omega) (by omega) (by omega) (by omega) (by omega) (by omega) (by omega) (by omega), vm]
    · rw [sm]
      by_cases h : (216 ≤ r ∧ r ≤ 221) ∨ r = 223
      · rw [if_pos h]
      · rw [if_neg h]
        funext i
        rw [s2_r r i (by omega) (by omega) (by omega) (by omega)]
  by_cases e0 : e' = 0
  · -- one rule more
    subst e0
    cases hA : rRl L b (12 + 1) (0, 0, []) [] with
    | inl x =>
      rw [hA] at r4
      exact absurd rfl r4.2.1
    | inr x =>
      obtain ⟨es, cls⟩ := x
      rw [hA] at r4 u4
      obtain ⟨-, r5, r6⟩ := r4
      obtain ⟨-, u5, u6, u7⟩ := u4
      have r5 : es1 = es := r5
      have u5 : es' = es := u5
      have u6 : m' = cls.length := u6
      have r6 : CK T1 cls := r6
      have u7 : KS σ1 nr cls := u7
      subst r5
      subst u5
      subst u6
      obtain ⟨o1, o2, o3, o4⟩ := rRl_ok (12 + 1) hA (Nat.zero_le _) (by decide) (Nat.zero_le _) (fun x hx => by cases hx) (fun x hx => by cases hx) (Nat.zero_le _)
      have h2 : T2.1 147 2 = nI es'.length := by rw [w2, tI1, if_neg (by omega), tp1, if_neg (by omega), if_neg (by omega), rcT1, if_pos ⟨rfl, rfl⟩]
      have h4 : T2.1 147 4 = nI cls.length := by rw [t2_1 147 4 (by omega) (by omega)]; exact r6.1
      obtain ⟨U1, S1, x1, U', S', T3, x2, hv, x3, x4, x5, x6, x7, y2, y3, y4, y5, y6⟩ := c_newRule (n := n) (sl := sl) (U := U) (S := S) (T := T2) (σ := σ) (l := es'.length) (m := cls.length) (by omega) o1 h2 h4
      obtain ⟨a, wa⟩ : ∃ a, a = 242 + n := ⟨_, rfl⟩
      have z3 : ∀ c, c < cls.length → T3.2.1 (a + 3) c = nI (cls.getD c cz).1 := fun c hc => by
        rw [wa, y3 c hc, t2_2 149 (by decide)]
        exact (r6.2 c hc).1
      have z4 : ∀ c, c < cls.length → T3.2.1 (a + 4) c = nI (cls.getD c cz).2.1 := fun c hc => by
        rw [wa, y4 c hc, t2_2 150 (by decide)]
        exact (r6.2 c hc).2.1
      have z5 : ∀ c, c < cls.length → T3.2.1 (a + 5) c = nI (cls.getD c cz).2.2.1 := fun c hc => by
        rw [wa, y5 c hc, t2_2 151 (by decide)]
        exact (r6.2 c hc).2.2.1
      have z6 : ∀ c, c < cls.length → T3.2.1 (a + 6) c = nI (cls.getD c cz).2.2.2 := fun c hc => by
        rw [wa, y6 c hc, t2_2 152 (by decide)]
        exact (r6.2 c hc).2.2.2
      have k01 : ∀ c, c < cls.length → (cls.getD c cz).1 = 0 ∨ (cls.getD c cz).1 = 1 := fun c hc => by
        have := (o4 _ (getC_mem hc)).1
        omega
      rw [← wa] at hv x5 x6 x7 y2
      obtain ⟨T4, w4⟩ : ∃ T4, T4 = tI (tI T3 a 6 (anyK T3 a cls.length 0)) a 7 (anyK T3 a cls.length 1) := ⟨_, rfl⟩
      have init : f_X5_init (cn (n + 1) (sl + 9) U1 S1 T2 σ) (242 + n + 0) 147 = some (cn (n + 7) (sl + 9 + 32 + es'.length + cls.length + cls.length + cls.length + cls.length) U' S' T4 σ) := by
        rw [f_ini_e, x2]
        have z := c_tells (sl := sl + 9 + 32 + es'.length + cls.length + cls.length + cls.length + cls.length) (U := U') (σ := σ) hv o1 x5 (fun c hc => by rw [z3 c hc]; rcases k01 c hc with h | h <;> rw [h]; exact .inl rfl; exact .inr rfl) (fun μ57 a58 x59 x60 =>
          ((pZ μ57 a58 5 6 x59).bind fun μ61 =>
          ((pZ μ61 a58 5 7 x60).bind fun μ62 =>
          (some μ62)))) cls.length 0 FU (by omega) (by unfold FU; omega)
        rw [show anyK T3 a 0 0 = 0 from if_neg (fun ⟨c, c1, _⟩ => absurd c1 (Nat.not_lt_zero _)), show anyK T3 a 0 1 = 0 from if_neg (fun ⟨c, c1, _⟩ => absurd c1 (Nat.not_lt_zero _)), show nI 0 = (0 : Int32) from rfl] at z
        rw [show 242 + n + 0 = a by omega, z, r0_6z hv, if_pos (anyK_01 _ _ _ _), Option.bind_some, r0_7z hv, if_pos (anyK_01 _ _ _ _), Option.bind_some, w4]
      obtain ⟨T5, w5⟩ : ∃ T5, T5 = tI (tO T4 160 nr (some a)) 128 5 (nI (nr + 1)) := ⟨_, rfl⟩
      have t4_1 : ∀ r k, ¬ (r = a ∧ (k = 6 ∨ k = 7)) → T4.1 r k = T3.1 r k := fun r k h => by rw [w4, tI1, if_neg (by omega), tI1, if_neg (by omega)]
      have t4_2 : T4.2 = T3.2 := by rw [w4]; rfl
      have t4_5 : T4.1 128 5 = nI nr := by
        rw [t4_1 128 5 (by omega), congrFun (x4 128 (by omega)).1 5]
        exact t2_5
      have t5_1 : ∀ r k, ¬ (r = 128 ∧ k = 5) → T5.1 r k = T4.1 r k := fun r k h => by rw [w5, tI1, if_neg h]; rfl
      have t5_2 : T5.2.1 = T4.2.1 := by rw [w5]; rfl
      have ag4 : agr (fun r => r < 242 + n ∧ r ≠ 129 ∧ r ≠ 131 ∧ ¬ (147 ≤ r ∧ r ≤ 152)) T T4 := by
        intro r hr
        obtain ⟨p1, p2, p3, p4, p5⟩ := ag2 r hr
        obtain ⟨g1, g2, g3, g4, g5⟩ := x4 r hr.1
        refine ⟨?_, ?_, ?_, ?_, ?_⟩
        · funext k
          rw [t4_1 r k (by omega), g1, p1]
        · rw [t4_2, g2, p2]
        · rw [t4_2, g3, p3]
        · rw [t4_2, g4, p4]
        · rw [t4_2, g5, p5]
      have R4 : REL (n + 7) S' T4 σ2 nr := Rm.new (by omega) x3 ag4 eq2 ⟨0, by omega, by rw [t4_1 129 1 (by omega), congrFun (x4 129 (by omega)).1 1]; exact t2_129, s2_28, fun i hi => absurd hi (Nat.not_lt_zero _)⟩
      obtain ⟨σ3, v3⟩ : ∃ σ3, σ3 = stI σ2 32 (nI (nr + 1)) := ⟨_, rfl⟩
      have s3 : σ3.2 = σ2.2 := by rw [v3]; rfl
      have ent : ∀ j, j < es'.length → σ3.2.1 216 (300 * nr + j) = nI (es'.getD j (0, 0)).1 ∧ σ3.2.1 217 (300 * nr + j) = nI (es'.getD j (0, 0)).2 := by
        intro j hj
        rw [s3, s2_2 216 _ (by omega), s2_2 217 _ (by omega), rcS2, rcS2, if_pos (show (216 = 216 ∨ 216 = 217) ∧ _ ∧ _ from ⟨.inl rfl, by omega, by omega⟩), if_pos (show (217 = 216 ∨ 217 = 217) ∧ _ ∧ _ from ⟨.inr rfl, by omega, by omega⟩), if_pos (show 216 = 216 from rfl), if_neg (show ¬ 217 = 216 by decide), Nat.add_sub_cancel_left]
        exact ⟨rfl, rfl⟩
      have rows : ∀ q, (219 ≤ q ∧ q ≤ 221) ∨ q = 223 → ∀ i, σ3.2.1 q i = σ1.2.1 q i := by
        intro q hq i
        rw [s3, s2_2 q i (by omega), rcS2, if_neg (by omega)]
      have hRR : RR (n + 7) S' T5 a σ3 nr es'.length cls.length := by
        refine ⟨hv, by omega, o1, ?_, ?_, fun i hi => ⟨?_, ?_⟩, fun c hc => ?_, fun c hc => ?_, ?_, ?_⟩
        · rw [t5_1 a 1 (by omega), t4_1 a 1 (by omega)]; exact x5
        · rw [s3, v2, stA2, if_pos ⟨rfl, rfl⟩]
        · rw [t5_2, t4_2, y2 i hi, (ent i hi).1, (ent i hi).2, w2]
          show (rcT T1 c1 es').2.1 148 i = _
          rw [rcT2, if_pos ⟨rfl, hi⟩]
          rfl
        · rw [(ent i hi).1, (ent i hi).2]
          rcases o3 _ (getD_mem hi) with ⟨p1, p2⟩ | ⟨p1, p2⟩ | ⟨p1, p2, p3, p4⟩
          · left; rw [p1]; exact ⟨rfl, _, p2, rfl⟩
          · right; left; rw [p1]; exact ⟨rfl, _, p2, rfl⟩
          · right; right; exact ⟨_, p1, p2, p3, rfl⟩
        · rw [t5_2, t4_2, z3 c hc, rows 223 (.inr rfl), (u7 c hc).1]
          rcases k01 c hc with h | h
          · left; rw [h]; exact ⟨rfl, rfl⟩
          · right; rw [h]; exact ⟨rfl, rfl⟩
        · obtain ⟨p1, p2, p3, p4, p5, p6, p7⟩ := o4 _ (getC_mem hc)
          obtain ⟨k1, k2, k3, k4⟩ := u7 c hc
          refine ⟨(cls.getD c cz).2.1, (cls.getD c cz).2.2.1, (cls.getD c cz).2.2.2, p2, p3, p4, by rw [t5_2, t4_2]; exact z4 c hc, by rw [rows 219 (.inl (by omega))]; exact k2, by rw [t5_2, t4_2]; exact z5 c hc, by rw [rows 220 (.inl (by omega))]; exact k3, by rw [t5_2, t4_2]; exact z6 c hc, by rw [rows 221 (.inl (by omega))]; exact k4, fun h w => ?_, fun h w => ?_, fun h => ?_⟩
          · rw [t5_2, t4_2, z3 c hc] at h
            rw [evl_L ent _ _ _ (by omega)]
            exact p5 ((nI_eq (by omega) (by decide)).1 h) w
          · rw [evl_L ent _ _ _ (by omega)]
            exact p6 h w
          · rw [t5_2, t4_2, z3 c hc] at h
            exact p7 ((nI_eq (by omega) (by decide)).1 h)
        · rw [t5_1 a 6 (by omega), w4, tI1, if_neg (by omega), tI1, if_pos ⟨rfl, rfl⟩, t5_2, w4]
          rfl
        · rw [t5_1 a 7 (by omega), w4, tI1, if_pos ⟨rfl, rfl⟩, t5_2, w4]
          rfl
      have R5 : REL (n + 7) S' T5 σ3 (nr + 1) := by
        refine R4.add (a := a) (by omega) (fun r hr => ⟨?_, by rw [t5_2], by rw [w5]; rfl, by rw [w5]; rfl, ?_⟩) (by rw [w5, tI1, if_pos ⟨rfl, rfl⟩]) (fun k hk => ?_) ?_ hRR (fun k hk => by rw [v3, stI1, if_neg (by omega)]) (by rw [v3, stI1, if_pos rfl]) s3
        · funext k
          exact t5_1 r k (by omega)
        · funext k
          rw [w5]
          show (tO T4 160 nr (some a)).2.2.2.2 r k = _
          rw [tO5, if_neg (by omega)]
        · rw [w5]
          show (tO T4 160 nr (some a)).2.2.2.2 160 k = _
          rw [tO5, if_neg (by omega)]
        · rw [w5]
          show (tO T4 160 nr (some a)).2.2.2.2 160 nr = _
          rw [tO5, if_pos ⟨rfl, rfl⟩]
      refine ⟨nI nr, n + 7, (sl + 9 + 32 + es'.length + cls.length + cls.length + cls.length + cls.length), U', S', T5, σ3, nr + 1, ?_, ?_, R5, by omega, ?_⟩
      · show f_X11_rule (cn n sl U S T σ) 128 = _
        unfold f_X11_rule
        rw [x128_5, Option.bind_some, n5, if_pos (show nI nr < 6 from nI_lt (b := 6) (by omega) (by decide)), x128_2, Option.bind_some, x147_o, Option.bind_some, cread, bd_some, nm_q, if_pos rfl, x128_0, Option.bind_some, show pV (cn n sl U S (cX T1 q1 c1 es' 0) σ) 129 9 1 (.int 0) = _ from x129_1p _, Option.bind_some, show tI (cX T1 q1 c1 es' 0) 129 1 0 = T2 from w2.symm, if_neg (show ¬ (1 : Int32) = 0 by decide), x128_4, Option.bind_some, x128_5, t2_5, Option.bind_some, x1, bd_some, x128_2, Option.bind_some, init, Option.bind_some, show 242 + n + 0 = a by omega, x160_w (i := nr) (v := a) (by omega) (hv 0 (show 0 < 7 by decide)).1 (hv 0 (show 0 < 7 by decide)).2, Option.bind_some, x128_5, Option.bind_some, show (tO T4 160 nr (some a)).1 128 5 = nI nr from t4_5, lit_1, nI_add, x128_5p, Option.bind_some, ← w5, x128_5, Option.bind_some, show T5.1 128 5 = nI (nr + 1) by rw [w5, tI1, if_pos ⟨rfl, rfl⟩], nI_sub (by omega), Nat.add_sub_cancel]
      · show f_X12_rule (mem _ _ σ) 188 = some (_, mem _ _ σ3)
        rw [sread, if_pos (show nI 0 = 0 from rfl), lit_1, nI_add, mP_32, Option.bind_some, ← v3, mI_30, show σ3.1 30 = nI 0 by rw [v3, stI1, if_neg (by decide)]; exact s2_30, Option.bind_some, if_pos (show nI 0 ≤ 0 by decide), mI_32, show σ3.1 32 = nI (nr + 1) by rw [v3, stI1, if_pos rfl], Option.bind_some, nI_sub (by omega), Nat.add_sub_cancel]
      · omega
  · -- a fault
    have R2 : REL n S T2 σ2 nr := Rm.new (Nat.le_refl _) (fun _ _ => rfl) ag2 eq2 ⟨0, by omega, t2_129, s2_28, fun i hi => absurd hi (Nat.not_lt_zero _)⟩
    have id2 : stI σ2 32 (nI nr) = σ2 := by
      refine Prod.ext (funext fun k => ?_) rfl
      rw [stI1]
      by_cases h : k = 32
      · rw [if_pos h, h, s2_32]
      · rw [if_neg h]
    have ne : ¬ nI e' = 0 := fun x => e0 ((nI_eq (b := 0) (by omega) (by decide)).1 x)
    refine ⟨(-2 : Int32) - nI e', n, sl, U, S, T2, σ2, nr, ?_, ?_, R2, by omega, by omega⟩
    · show f_X11_rule (cn n sl U S T σ) 128 = _
      unfold f_X11_rule
      rw [x128_5, Option.bind_some, n5, if_pos (show nI nr < 6 from nI_lt (b := 6) (by omega) (by decide)), x128_2, Option.bind_some, x147_o, Option.bind_some, cread, bd_some, nm_q, if_neg e0, x128_0, Option.bind_some, show pV (cn n sl U S (cX T1 q1 c1 es1 e') σ) 129 9 1 (.int 0) = _ from x129_1p _, Option.bind_some, show tI (cX T1 q1 c1 es1 e') 129 1 0 = T2 from w2.symm, if_pos rfl, x128_0, Option.bind_some, x129_3, t2_e, Option.bind_some]
    · show f_X12_rule (mem _ _ σ) 188 = some (_, mem _ _ σ2)
      rw [sread, if_neg ne, Int32.add_zero, mP_32, Option.bind_some, id2, mI_30, s2_30, Option.bind_some, if_neg (show ¬ nI e' ≤ 0 from nI_ge (a := 0) (by omega) (by omega)), Option.bind_some]
