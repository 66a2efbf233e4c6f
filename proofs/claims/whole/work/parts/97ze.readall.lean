/-! Grounds: the class reads all. -/
theorem REL.new {n n' nr : Nat} {S S' : Nat → Nat × Nat × Nat} {T T' : Tc} {σ σ' : Sg} (h : REL n S T σ nr) (hn : n ≤ n') (hS : ∀ r, r < 242 + n → S' r = S r) (hT : agr (fun r => r < 242 + n ∧ r ≠ 129 ∧ r ≠ 131 ∧ ¬ (147 ≤ r ∧ r ≤ 152)) T T') (hσ : Eqt σ σ') (hTP : TP T' σ') : REL n' S' T' σ' nr := by
  obtain ⟨X, wX⟩ : ∃ X : Tc, X = (fun r => if r = 129 ∨ r = 131 ∨ (147 ≤ r ∧ r ≤ 152) then T'.1 r else T.1 r, fun r => if r = 129 ∨ r = 131 ∨ (147 ≤ r ∧ r ≤ 152) then T'.2.1 r else T.2.1 r, fun r => if r = 129 ∨ r = 131 ∨ (147 ≤ r ∧ r ≤ 152) then T'.2.2.1 r else T.2.2.1 r, fun r => if r = 129 ∨ r = 131 ∨ (147 ≤ r ∧ r ≤ 152) then T'.2.2.2.1 r else T.2.2.2.1 r, fun r => if r = 129 ∨ r = 131 ∨ (147 ≤ r ∧ r ≤ 152) then T'.2.2.2.2 r else T.2.2.2.2 r) := ⟨_, rfl⟩
  have a1 : ∀ r, ¬ (r = 129 ∨ r = 131 ∨ (147 ≤ r ∧ r ≤ 152)) → X.1 r = T.1 r ∧ X.2.1 r = T.2.1 r ∧ X.2.2.1 r = T.2.2.1 r ∧ X.2.2.2.1 r = T.2.2.2.1 r ∧ X.2.2.2.2 r = T.2.2.2.2 r := fun r hr => by
    rw [wX]
    exact ⟨if_neg hr, if_neg hr, if_neg hr, if_neg hr, if_neg hr⟩
  have a2 : ∀ r, (r = 129 ∨ r = 131 ∨ (147 ≤ r ∧ r ≤ 152)) → X.1 r = T'.1 r ∧ X.2.1 r = T'.2.1 r ∧ X.2.2.1 r = T'.2.2.1 r ∧ X.2.2.2.1 r = T'.2.2.2.1 r ∧ X.2.2.2.2 r = T'.2.2.2.2 r := fun r hr => by
    rw [wX]
    exact ⟨if_pos hr, if_pos hr, if_pos hr, if_pos hr, if_pos hr⟩
  have s1 : REL n S X σ' nr := by
    refine h.tp (fun r hr => a1 r (fun x => hr.2 (by omega))) hσ ?_
    obtain ⟨L, b1, b2, b3, b4⟩ := hTP
    refine ⟨L, b1, by rw [(a2 129 (by omega)).1]; exact b2, b3, fun i hi => ?_⟩
    rw [(a1 130 (by omega)).2.1, ← (hT 130 (by omega)).2.1]
    exact b4 i hi
  refine s1.grow hn hS (fun r hr => ?_)
  have hr : r < 242 + n := hr
  by_cases e : r = 129 ∨ r = 131 ∨ (147 ≤ r ∧ r ≤ 152)
  · obtain ⟨p1, p2, p3, p4, p5⟩ := a2 r e
    exact ⟨p1.symm, p2.symm, p3.symm, p4.symm, p5.symm⟩
  · obtain ⟨p1, p2, p3, p4, p5⟩ := a1 r e
    obtain ⟨q1, q2, q3, q4, q5⟩ := hT r (by omega)
    rw [p1, p2, p3, p4, p5]
    exact ⟨q1, q2, q3, q4, q5⟩
theorem tp_id {T : Tc} {p e : Nat} (h2 : T.1 129 2 = nI p) (h3 : T.1 129 3 = nI e) : tp T p e = T := by
  refine Prod.ext (funext fun r => funext fun k => ?_) rfl
  rw [tp1]
  by_cases a : r = 129 ∧ k = 3
  · rw [if_pos a, a.1, a.2, h3]
  · rw [if_neg a]
    by_cases c : r = 129 ∧ k = 2
    · rw [if_pos c, c.1, c.2, h2]
    · rw [if_neg c]
def hG (d : Dr) (c : Nat) : Nat := if c < 48 then d 1 c else 0
theorem DOK.gs {d : Dr} (h : DOK d) : GS (d 0 0) (d 0 1) (hG d) := ⟨h.1.1, h.1.2, h.2.1.1, h.2.1.2, fun c => by
  unfold hG
  split
  · exact h.2.2.2.2.1 c
  · omega⟩
def lsG (d : Dr) : (Nat → Option Nat) × (Nat → Nat) × Nat := lsK (d 0 5) (d 0 6) (d 10) (d 11) (d 9) (d 0 5)
theorem CR.ext {T T' : Tc} {g : Nat} {d : Dr} (h : CR T g d) (e1 : T'.2.2.2.1 131 = T.2.2.2.1 131) (e2 : T'.1 g = T.1 g) (e3 : ∀ k, k ≠ 7 → T'.1 (g + 9) k = T.1 (g + 9) k) (e4 : T'.1 131 = T.1 131) (e5 : T'.2.2.1 g = T.2.2.1 g) (e6 : ∀ j, j < 15 → j ≠ 0 → j ≠ 2 → j ≠ 9 → j ≠ 13 → j ≠ 14 → T'.2.1 (g + j) = T.2.1 (g + j)) : CR T' g d := by
  obtain ⟨a1, a2, a3, a4, a5, a6⟩ := h
  refine ⟨by rw [e1]; exact a1, fun k hk h4 => ?_, by rw [e2]; exact a3, fun c hc => by rw [e6 1 (by decide) (by decide) (by decide) (by decide) (by decide) (by decide)]; exact a4 c hc, by rw [e5]; exact a5, fun j j2 j11 j8 i hi => ?_⟩
  · rw [← a2 k hk h4]
    have ck : k = 0 ∨ k = 1 ∨ k = 2 ∨ k = 3 ∨ k = 5 ∨ k = 6 ∨ k = 7 := by omega
    rcases ck with rfl | rfl | rfl | rfl | rfl | rfl | rfl
    · exact congrFun e2 0
    · exact congrFun e2 1
    · exact congrFun e2 6
    · exact congrFun e2 9
    · exact e3 0 (by decide)
    · exact e3 2 (by decide)
    · exact congrFun e4 2
  · rw [show g + j + 1 = g + (j + 1) by omega, e6 (j + 1) (by omega) (by omega) (by omega) (by omega) (by omega) (by omega)]
    exact a6 j j2 j11 j8 i hi
theorem c_readAll {n sl L : Nat} {U : Nat → va_E} {S : Nat → Nat × Nat × Nat} {σ1 : Sg} {T : Tc} {b : Nat → Nat} (hX : TXc T L b) : ∃ (sl' : Nat) (U' : Nat → va_E) (S' : Nat → Nat × Nat × Nat) (T' : Tc) (e : Nat), f_X2_readAll (cn n sl U S T σ1) 131 = some (if e = 0 then 1 else 0, cn (n + 15) sl' U' S' T' σ1) ∧ sl' ≤ sl + 1000 ∧ (∀ r, r < 242 + n → S' r = S r) ∧ agr (fun r => r < 242 + n ∧ r ≠ 129 ∧ r ≠ 131 ∧ ¬ (147 ≤ r ∧ r ≤ 152)) T T' ∧ T'.1 129 3 = nI e ∧ (match gAll L b 41 0 0 (fun _ _ => 0) with
    | .inl e' => e = e' ∧ e ≠ 0 ∧ e < 4000
    | .inr d => e = 0 ∧ GV (n + 15) S' (242 + n) ∧ DOK d ∧ CR T' (242 + n) d ∧ CL T' (242 + n) (d 0 0) (d 0 1) (hG d) ∧ LSt T' (242 + n) (lsG d)) := by
  have hL := hX.1
  obtain ⟨U1, S1, a1, U2, S2, T1, a2, hv, a4, a5, t1, t9, t2, t3⟩ := c_newGround (n := n) (sl := sl) (U := U) (S := S) (T := tp T 0 0) (σ := σ1)
  have hv' := hv
  obtain ⟨sl', wsl⟩ : ∃ x, x = (sl + 15 + 48 + 48 + 5 + 5 + 8 + 8 + 8 + 8 + 8 + 8 + 10 + 10 + 8 + 8) := ⟨_, rfl⟩
  rw [← wsl] at a2
  obtain ⟨g, wg⟩ : ∃ g, g = 242 + n := ⟨_, rfl⟩
  obtain ⟨T2, w2⟩ : ∃ T2, T2 = tI (tR T1 131 1 g) 131 2 0 := ⟨_, rfl⟩
  rw [← wg] at hv t1 t9 t2 t3
  have hgl := hv.loc
  have o129 : T2.1 129 = (tp T 0 0).1 129 := by
    rw [w2]
    funext k
    rw [tI1, if_neg (by omega)]
    exact congrFun (a5 129 (by omega)).1 k
  have id2 : tp T2 0 0 = T2 := tp_id (by rw [o129, tp1, if_neg (by omega), if_pos ⟨rfl, rfl⟩]) (by rw [o129, tp1, if_pos ⟨rfl, rfl⟩])
  have hX2 : TXc T2 L b := by
    refine ⟨hX.1, by rw [o129, tp1, if_neg (by omega), if_neg (by omega)]; exact hX.2.1, fun i hi => ?_⟩
    have : T2.2.1 130 = T.2.1 130 := by rw [w2]; exact (a5 130 (by omega)).2.1
    rw [this]
    exact hX.2.2 i hi
  have fg : T2.1 g = fun _ => 0 := by
    rw [w2, ← t1]
    funext k
    rw [tI1, if_neg (by omega)]
    rfl
  have fg9 : T2.1 (g + 9) = fun _ => 0 := by
    rw [w2, ← t9]
    funext k
    rw [tI1, if_neg (by omega)]
    rfl
  have hC2 : CR T2 g (fun _ _ => 0) := by
    refine ⟨?_, fun k hk h4 => ?_, by rw [fg]; rfl, fun c hc => ?_, ?_, fun j j2 j11 j8 i hi => absurd hi (Nat.not_lt_zero _)⟩
    · rw [w2]
      show (tR T1 131 1 g).2.2.2.1 131 1 = g
      rw [tR4, if_pos ⟨rfl, rfl⟩]
    · have ck : k = 0 ∨ k = 1 ∨ k = 2 ∨ k = 3 ∨ k = 5 ∨ k = 6 ∨ k = 7 := by omega
      rcases ck with rfl | rfl | rfl | rfl | rfl | rfl | rfl
      · exact congrFun fg 0
      · exact congrFun fg 1
      · exact congrFun fg 6
      · exact congrFun fg 9
      · exact congrFun fg9 0
      · exact congrFun fg9 2
      · show T2.1 131 2 = nI 0
        rw [w2, tI1, if_pos ⟨rfl, rfl⟩]
        rfl
    · have : T2.2.1 (g + 1) = fun _ => 0 := by rw [w2]; exact t2 1 (by decide) (by decide) (by decide)
      rw [this]
      rfl
    · have : T2.2.2.1 g = fun _ => 0 := by rw [w2]; exact t3
      rw [this]
      rfl
  obtain ⟨T3, q, e, z1, z2, z3, z4⟩ := c_allL (sl := sl') (U := U2) (S := S2) (σ1 := σ1) (L := L) (b := b) hv (fun μ27 a28 =>
    ((gR μ27 a28 2 0).bind fun v29 =>
    ((ob μ27 v29 9).bind fun _ =>
    (bd (f_X9_isSound μ27 v29) fun v31 μ30 =>
    (if v31 = 0 then
    ((gR μ30 a28 2 0).bind fun v32 =>
    ((ob μ30 v32 9).bind fun _ =>
    (bd (f_X9_isSound μ30 v32) fun v34 μ33 =>
    (if v34 = 0 ∨ v34 = 1 then some (v34, μ33) else none))))
    else
    ((gR μ30 a28 2 1).bind fun v35 =>
    ((ob μ30 v35 1).bind fun _ =>
    ((f_X1_findLeads μ30 v35).bind fun μ36 =>
    ((gR μ36 a28 2 1).bind fun v37 =>
    ((gR μ36 v37 1 14).bind fun v38 =>
    ((ob μ36 v38 3).bind fun _ =>
    ((f_X3_setInRow μ36 v38).bind fun μ39 =>
    ((gR μ39 a28 2 0).bind fun v40 =>
    ((ob μ39 v40 9).bind fun _ =>
    (bd (f_X9_isSound μ39 v40) fun v42 μ41 =>
    (if v42 = 0 ∨ v42 = 1 then some (v42, μ41) else none)))))))))))))))) 40 0 0 T2 (fun _ _ => 0) FU rfl (by unfold FU; omega) hX2 hC2 (fun h => by omega) (fun _ _ _ => rfl) (Nat.zero_le _)
  rw [id2, show nI 0 = (0 : Int32) from rfl] at z1
  have rd : f_X2_readAll (cn n sl U S T σ1) 131 = f_X2_readAll_L27 (fun μ27 a28 =>
    ((gR μ27 a28 2 0).bind fun v29 =>
    ((ob μ27 v29 9).bind fun _ =>
    (bd (f_X9_isSound μ27 v29) fun v31 μ30 =>
    (if v31 = 0 then
    ((gR μ30 a28 2 0).bind fun v32 =>
    ((ob μ30 v32 9).bind fun _ =>
    (bd (f_X9_isSound μ30 v32) fun v34 μ33 =>
    (if v34 = 0 ∨ v34 = 1 then some (v34, μ33) else none))))
    else
    ((gR μ30 a28 2 1).bind fun v35 =>
    ((ob μ30 v35 1).bind fun _ =>
    ((f_X1_findLeads μ30 v35).bind fun μ36 =>
    ((gR μ36 a28 2 1).bind fun v37 =>
    ((gR μ36 v37 1 14).bind fun v38 =>
    ((ob μ36 v38 3).bind fun _ =>
    ((f_X3_setInRow μ36 v38).bind fun μ39 =>
    ((gR μ39 a28 2 0).bind fun v40 =>
    ((ob μ39 v40 9).bind fun _ =>
    (bd (f_X9_isSound μ39 v40) fun v42 μ41 =>
    (if v42 = 0 ∨ v42 = 1 then some (v42, μ41) else none)))))))))))))))) FU (cn (n + 15) sl' U2 S2 T2 σ1) 131 1 0 := by
    unfold f_X2_readAll f_X9_rewind
    rw [x131_0, Option.bind_some, x129_o, Option.bind_some, x129_2p, Option.bind_some, x129_3p, Option.bind_some, Option.bind_some]
    show bd (nO (cn n sl U S (tp T 0 0) σ1) 1 15 _) _ = _
    rw [a1, bd_some, a2, Option.bind_some, show 242 + n + 0 = g by omega, x131_1p, Option.bind_some, x131_2p, Option.bind_some, nm_q, nm_q, ← w2]
  have agT : agr (fun r => r < 242 + n ∧ r ≠ 129 ∧ r ≠ 131 ∧ ¬ (147 ≤ r ∧ r ≤ 152)) T T3 := by
    intro r hr
    have h1 := z3 r ⟨hr.2.2.1, by omega⟩
    have h2 := a5 r hr.1
    have h3 : T2.1 r = T1.1 r := by rw [w2]; funext k; rw [tI1, if_neg (by omega)]; rfl
    have h4 : T2.2.2.2.1 r = T1.2.2.2.1 r := by rw [w2]; funext k; show (tR T1 131 1 g).2.2.2.1 r k = _; rw [tR4, if_neg (by omega)]
    have h5 : T2.2.1 = T1.2.1 ∧ T2.2.2.1 = T1.2.2.1 ∧ T2.2.2.2.2 = T1.2.2.2.2 := by rw [w2]; exact ⟨rfl, rfl, rfl⟩
    rw [h1.1, h1.2.1, h1.2.2.1, h1.2.2.2.1, h1.2.2.2.2, h3, h4, h5.1, h5.2.1, h5.2.2, h2.1, h2.2.1, h2.2.2.1, h2.2.2.2.1, h2.2.2.2.2]
    exact ⟨tp_o _ _ _ hr.2.1, rfl, rfl, rfl, rfl⟩
  rw [rd, z1]
  cases hA : gAll L b 41 0 0 (fun _ _ => 0) with
  | inl e' =>
    rw [hA] at z4
    obtain ⟨y1, y2, y3⟩ := z4
    refine ⟨sl', U2, S2, tp T3 q e, e, ?_, by omega, a4, ?_, ?_, y1, y2, y3⟩
    · rw [x131_0, Option.bind_some, x129_o, Option.bind_some, y_s1 q y2 (by omega), bd_some, if_pos rfl, x131_0, Option.bind_some, x129_o, Option.bind_some, y_s1 q y2 (by omega), bd_some, if_pos (.inl rfl), if_neg y2]
    · intro r hr
      obtain ⟨p1, p2, p3, p4, p5⟩ := agT r hr
      exact ⟨by rw [tp_o _ _ _ hr.2.1]; exact p1, p2, p3, p4, p5⟩
    · rw [tp1, if_pos ⟨rfl, rfl⟩]
  | inr d =>
    rw [hA] at z4
    obtain ⟨y1, hC3, hd⟩ := z4
    subst y1
    have gs := hd.gs
    have g129 : g ≠ 129 := by omega
    have hcg : CG (tp T3 q 0) g (d 0 0) (d 0 1) (hG d) := by
      refine ⟨by rw [tp_o _ _ _ g129]; exact hC3.2.1 0 (by decide) (by decide), by rw [tp_o _ _ _ g129]; exact hC3.2.1 1 (by decide) (by decide), by rw [tp_o _ _ _ g129]; exact hC3.2.2.1, fun c hc => ?_⟩
      have c48 : c < 48 := Nat.lt_of_lt_of_le hc gs.n
      refine (hC3.2.2.2.1 c c48).trans ?_
      rw [hG, if_pos c48]
    obtain ⟨T4, l1, l2, l3⟩ := c_leads (sl := sl') (U := U2) (σ1 := σ1) hv hcg gs
    have q131 := l2 131 (show 131 ≠ g + 2 by omega)
    have q129 := l2 129 (show 129 ≠ g + 2 by omega)
    have qg := l2 g (show g ≠ g + 2 by omega)
    have qg9 := l2 (g + 9) (show g + 9 ≠ g + 2 by omega)
    have rowq : ∀ j, j ≠ 2 → T4.2.1 (g + j) = T3.2.1 (g + j) := fun j hj => (l2 (g + j) (show g + j ≠ g + 2 by omega)).2.1
    have hC4 : CR T4 g d := hC3.ext (by rw [q131.2.2.2.1]; rfl) (by rw [qg.1, tp_o _ _ _ g129]) (fun k _ => by rw [qg9.1, tp_o _ _ _ (by omega)]) (by rw [q131.1, tp_o _ _ _ (by decide)]) (by rw [qg.2.2.1]; rfl) (fun j _ _ h2 _ _ _ => rowq j h2)
    obtain ⟨b1, b2, b3, b4, b5, b6, b7, b8⟩ := hd
    have hLR : LRw T4 g (d 0 5) (d 0 6) (d 10) (d 11) (d 9) := by
      refine ⟨b4.2.2.2.1, b4.2.2.2.2, hC4.2.1 5 (by decide) (by decide), hC4.2.1 6 (by decide) (by decide), fun k hk => ⟨hC4.2.2.2.2.2 10 (by decide) (by decide) (by decide) k hk, hC4.2.2.2.2.2 11 (by decide) (by decide) (by decide) k hk, b6 10 (by decide) (by decide) k hk, b6 11 (by decide) (by decide) k hk⟩, fun l hl => ⟨hC4.2.2.2.2.2 9 (by decide) (by decide) (by decide) l hl, ?_⟩⟩
      have : d 9 l < 21 := b6 9 (by decide) (by decide) l hl
      omega
    obtain ⟨T5, r1, r2, r3⟩ := c_inRow (sl := sl') (U := U2) (σ1 := σ1) hv hLR
    have p131 := r2.1 131 (by omega)
    have p129 := r2.1 129 (by omega)
    have pg := r2.1 g (by omega)
    have hC5 : CR T5 g d := hC4.ext p131.2.2.2.1 pg.1 r2.2 p131.1 pg.2.2.1 (fun j _ _ _ h9 h13 h14 => (r2.1 (g + j) (by omega)).2.1)
    have e3 : T5.1 129 3 = nI 0 := by rw [p129.1, q129.1, tp1, if_pos ⟨rfl, rfl⟩]
    have s5 : f_X9_isSound (cn (n + 15) sl' U2 S2 T5 σ1) 129 = some (1, cn (n + 15) sl' U2 S2 T5 σ1) := by
      unfold f_X9_isSound
      rw [x129_3, Option.bind_some, e3, if_pos (show nI 0 = 0 from rfl), if_pos (by decide)]
    refine ⟨sl', U2, S2, T5, 0, ?_, by omega, a4, ?_, e3, rfl, hv', ⟨b1, b2, b3, b4, b5, b6, b7, b8⟩, ?_, ?_, ?_⟩
    · rw [x131_0, Option.bind_some, x129_o, Option.bind_some, y_s0, bd_some, if_neg (by decide), w131 (g := g) (by exact hC3.1), Option.bind_some, g0_o hv, Option.bind_some, l1, Option.bind_some, x131_1, hC4.1, Option.bind_some, g0_14 hv, Option.bind_some, g9_o hv, Option.bind_some, r1, Option.bind_some, x131_0, Option.bind_some, x129_o, Option.bind_some, s5, bd_some, if_pos (.inr rfl), if_pos rfl]
    · intro r hr
      obtain ⟨p1, p2, p3, p4, p5⟩ := agT r hr
      obtain ⟨q1, q2, q3, q4, q5⟩ := l2 r (show r ≠ g + 2 by omega)
      obtain ⟨o1, o2, o3, o4, o5⟩ := r2.1 r (by omega)
      rw [o1, o2, o3, o4, o5, q1, q2, q3, q4, q5]
      exact ⟨by rw [tp_o _ _ _ hr.2.1]; exact p1, p2, p3, p4, p5⟩
    · rw [← wg]; exact hC5
    · rw [← wg]
      intro c hc
      rw [(r2.1 (g + 2) (by omega)).2.1]
      exact l3 c hc
    · rw [← wg]; exact r3
