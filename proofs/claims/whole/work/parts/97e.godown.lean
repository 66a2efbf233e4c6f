/-! The class goes down. -/
def GoD (nr n sl : Nat) (U : Nat → va_E) (S : Nat → Nat × Nat × Nat) (σ σ1 : Sg) (a lw q k m : Nat) : Prop := ∀ (d c : Nat) (nb : Bool) (p f : Int32) (π : Nat → Int32) (b : Bst) (T : Tc), dh (cur σ) c ≤ k → k + d ≤ 9 → c < nc (cur σ) → CF nr n S T σ a lw q → T.1 174 6 = p → T.1 174 7 = nI d → T.1 174 8 = f → isB f 256 → T.1 174 5 = nI c → T.1 174 10 = bI nb → CB T b → b.2.1 ≤ 9 → (∀ i, i < d → T.2.1 177 i = π i) → ∃ T', fGD m (cn n sl U S T σ1) 176 (nI d) = some (cn n sl U S T' σ1) ∧ CB T' (wayN σ q k d c nb p f π b) ∧ Wk lw T T' ∧ ∀ i, i < d → T'.2.1 177 i = π i
section GODOWN
variable {nr n sl a lw q : Nat} {U : Nat → va_E} {S : Nat → Nat × Nat × Nat} {σ σ1 : Sg}
theorem CB.of {T T' : Tc} {b : Bst} (h : CB T b) (h6 : T'.1 176 = T.1 176) (h8 : T'.2.1 178 = T.2.1 178) : CB T' b := by
  unfold CB
  rw [h6, h8]; exact h
theorem c_downL {k m d c : Nat} {p f : Int32} {π : Nat → Int32} (ih : GoD nr n sl U S σ σ1 a lw q k m) (hc : c < nc (cur σ)) (hk : dh (cur σ) c ≤ k + 1) (hd : k + 1 + d ≤ 9) (hB : isB f 256) (K : Mm → Option Mm) : ∀ (j s : Nat) (T : Tc) (b : Bst) (F : Nat), s + j = 4 → j < F → CF nr n S T σ a lw q → T.1 174 6 = p → T.1 174 7 = nI d → T.1 174 8 = f → T.1 174 5 = nI c → CB T b → b.2.1 ≤ 9 → (∀ i, i < d → T.2.1 177 i = π i) → ∃ T', o_X10_goDown_L65 (fGD m) K F (cn n sl U S T σ1) 176 (nI d) (nI c) p f (nI s) = K (cn n sl U S T' σ1) ∧ CB T' (wayL σ q k d c p f π s j b) ∧ Wk lw T T' ∧ ∀ i, i < d → T'.2.1 177 i = π i := by
  intro j
  induction j with
  | zero =>
    intro s T b F h1 h2 hF e6 e7 e8 e5 hb hb9 hπ
    obtain ⟨F, rfl⟩ : ∃ k, F = k + 1 := ⟨F - 1, by omega⟩
    obtain rfl : s = 4 := by omega
    refine ⟨T, ?_, hb, Wk.refl _ _, hπ⟩
    rw [o_X10_goDown_L65, if_pos (by decide)]
  | succ j ihj =>
    intro s T b F h1 h2 hF e6 e7 e8 e5 hb hb9 hπ
    obtain ⟨F, rfl⟩ : ∃ k, F = k + 1 := ⟨F - 1, by omega⟩
    have gs := hF.1.gs (Nat.lt_of_le_of_lt (Nat.zero_le _) hc)
    have hg := hF.2.2.1.la.gv
    obtain ⟨l, mm, hv⟩ := hF.2.2.2.1.rv
    have hl := hv.loc
    rw [o_X10_goDown_L65, if_neg (show ¬ (4 : Int32) ≤ nI s from nI_ge (b := 4) (by omega) (by decide)), x176_0, Option.bind_some, x174_1, Option.bind_some, hF.2.2.2.2.2.1, g0_o hg, Option.bind_some, c_lower hg hF.2.2.1.la.cg gs hc (by omega), bd_some, nm_q, wayL]
    cases hw : low (dN (cur σ) 0) (dN (cur σ) 1) (dh (cur σ)) c s with
    | none =>
      obtain ⟨T', z1, z2, z3, z4⟩ := ihj (s + 1) T b F (by omega) (by omega) hF e6 e7 e8 e5 hb hb9 hπ
      have es : wayS σ q k d c p f π s b = b := by unfold wayS; rw [show lowD (cur σ) c s = none from hw]
      rw [es]
      refine ⟨T', ?_, z2, z3, z4⟩
      rw [if_pos (show oI none = -1 from rfl), nm_q, oin1, nI_add]
      exact z1
    | some e =>
      have he := low_lt (hF.1.c0 hc) hc hw
      have e48 : e < 48 := Nat.lt_of_lt_of_le he.1 hF.1.n48
      have es : wayS σ q k d c p f π s b = wayN σ q k (d + 1) e (netB (cur σ) e) (stpF σ q c e (p, d, f, 0)).1 (stpF σ q c e (p, d, f, 0)).2.2.1 (upd π d (nI s)) b := by unfold wayS; rw [show lowD (cur σ) c s = some e from hw]
      have k1 : Wk lw T (tA T 177 d (nI s)) := ⟨agr_tA _ _ (fun h => h.2.2.1 rfl), rfl, rfl, rfl, by rw [tA2, if_neg (by omega)], by rw [tA2, if_neg (by omega)]⟩
      have F1 := hF.wk k1
      obtain ⟨T2, s1, s2, s3, s4, s5⟩ := c_stepTo (sl := sl) (U := U) (σ1 := σ1) (x := (p, d, f, T.1 174 9)) F1 ⟨e6, e7, e8, rfl⟩ hB e5 hc he.1
      have st := stpF_l σ q c e (x := (p, d, f, T.1 174 9)) (y := (p, d, f, 0)) ⟨rfl, rfl, rfl⟩
      have F2 := F1.fs s2
      have a176 := s2.1 176 ⟨by decide, by decide, by omega⟩
      have a177 := s2.1 177 ⟨by decide, by decide, by omega⟩
      have a178 := s2.1 178 ⟨by decide, by decide, by omega⟩
      have hb2 : CB T2 b := hb.of (by rw [a176.1]; rfl) (by rw [a178.2.1]; funext i; rw [tA2, if_neg (by omega)])
      have p2 : ∀ i, i < d + 1 → T2.2.1 177 i = upd π d (nI s) i := by
        intro i hi
        rw [a177.2.1, tA2]
        by_cases ei : i = d
        · rw [if_pos ⟨rfl, ei⟩, ei, pk_us]
        · rw [if_neg (fun h => ei h.2), pk_un ei]; exact hπ i (by omega)
      obtain ⟨T3, g1, g2, g3, g4⟩ := ih (d + 1) e (netB (cur σ) e) (stpF σ q c e (p, d, f, 0)).1 (stpF σ q c e (p, d, f, 0)).2.2.1 (upd π d (nI s)) b T2 (by omega) (by omega) he.1 F2 (s3.1.trans st.1) (by rw [s3.2.1, stpF_s]) (s3.2.2.1.trans st.2.2) (stpF_8 (x := (p, d, f, 0)) hF.1 hB) s4 (by rw [s5]; rfl) hb2 hb9 p2
      obtain ⟨T4, w4⟩ : ∃ Y : Tc, Y = tI (tI (tI (tI T3 174 5 (nI c)) 174 6 p) 174 8 f) 174 7 (nI d) := ⟨_, rfl⟩
      have k4 : Fs lw T3 T4 := by
        rw [w4]
        exact (Fs.tI _ 5 _ (by decide) (by decide)).trans ((Fs.tI _ 6 _ (by decide) (by decide)).trans ((Fs.tI _ 8 _ (by decide) (by decide)).trans (Fs.tI _ 7 _ (by decide) (by decide))))
      have k14 : Wk lw T T4 := ((k1.trans (Wk.fs s2)).trans g3).trans (Wk.fs k4)
      have hb4 : CB T4 (wayN σ q k (d + 1) e (netB (cur σ) e) (stpF σ q c e (p, d, f, 0)).1 (stpF σ q c e (p, d, f, 0)).2.2.1 (upd π d (nI s)) b) := g2.of (by rw [w4]; funext i; rw [tI1, if_neg (by omega), tI1, if_neg (by omega), tI1, if_neg (by omega), tI1, if_neg (by omega)]) (by rw [w4]; rfl)
      obtain ⟨T', z1, z2, z3, z4⟩ := ihj (s + 1) T4 _ F (by omega) (by omega) (hF.wk k14) (by rw [w4]; simp [tI1]) (by rw [w4]; simp [tI1]) (by rw [w4]; simp [tI1]) (by rw [w4]; simp [tI1]) hb4 (wayN_9 σ q k (d + 1) e _ _ _ _ b (by omega) hb9) (fun i hi => by
        rw [w4]
        show T3.2.1 177 i = _
        rw [g4 i (by omega), pk_un (by omega)])
      rw [es]
      refine ⟨T', ?_, z2, k14.trans z3, z4⟩
      rw [show oI (some e) = nI e from rfl, if_neg (nI_nm1 (by omega)), x176_1, Option.bind_some, x177_w (by omega), Option.bind_some, x176_0, Option.bind_some, x174_o, Option.bind_some, s1, Option.bind_some, x176_o, Option.bind_some, lit_1, nI_add, g1, Option.bind_some, x176_0, Option.bind_some, x174_5p, Option.bind_some, x176_0, Option.bind_some, x174_6p, Option.bind_some, x176_0, Option.bind_some, x174_8p, Option.bind_some, x176_0, Option.bind_some, x174_7p, Option.bind_some, ← w4, nm_q, oin1, nI_add]
      exact z1
theorem c_goDown : ∀ (k m : Nat), k < m → GoD nr n sl U S σ σ1 a lw q k m := by
  intro k
  induction k with
  | zero =>
    intro m hm d c nb p f π b T hk hd hc hF e6 e7 e8 hB e5 e10 hb hb9 hπ
    obtain ⟨m, rfl⟩ : ∃ k, m = k + 1 := ⟨m - 1, by omega⟩
    have n48 := hF.1.n48
    have hg := hF.2.2.1.la.gv
    obtain ⟨l, mm, hv⟩ := hF.2.2.2.1.rv
    have hl := hv.loc
    have hld : ldD (cur σ) c = none := by
      cases h : ldD (cur σ) c with
      | none => rfl
      | some e => have := (lead_lt (hF.1.c0 hc) hc h).2; omega
    obtain ⟨T', c1, c2, c3⟩ := c_compare (sl := sl) (U := U) (σ1 := σ1) (π := π) hF e8 e7 (by omega) hb hb9 hπ
    refine ⟨T', ?_, c2, ⟨c3.mono (fun r hr => ⟨hr.2.1, hr.2.2.2⟩), ?_, ?_, ?_, ?_, ?_⟩, ?_⟩
    · show o_X10_goDown (fGD m) (cn n sl U S T σ1) 176 (nI d) = _
      unfold o_X10_goDown
      rw [x176_0, Option.bind_some, x174_5, Option.bind_some, nm_q, e5]
      by_cases h9 : (9 : Int32) ≤ nI d
      · rw [if_pos h9, x176_o, Option.bind_some, c1, Option.bind_some]
      · rw [if_neg h9, Option.bind_some, x174_10, Option.bind_some, e10]
        cases nb
        · rw [if_pos (show bI false = 0 from rfl), Option.bind_some, x174_1, Option.bind_some, hF.2.2.2.2.2.1, g0_4 hg, Option.bind_some, c_lead hg hF.2.2.1.la.cl n48 hc, Option.bind_some, show lead (dN (cur σ) 0) (dN (cur σ) 1) (dh (cur σ)) c = none from hld, if_pos (show oI none = -1 from rfl), x176_o, Option.bind_some, c1, Option.bind_some]
        · rw [if_neg (show ¬ bI true = 0 by decide), x176_o, Option.bind_some, c1, Option.bind_some]
    · exact (c3 174 (by decide)).2.2.2.1
    · rw [(c3 174 (by decide)).1]
    · rw [(c3 174 (by decide)).1]
    · rw [(c3 175 (by decide)).2.1]
    · rw [(c3 175 (by decide)).2.1]
    · intro i hi; rw [(c3 177 (by decide)).2.1]; exact hπ i hi
  | succ k ih =>
    intro m hm d c nb p f π b T hk hd hc hF e6 e7 e8 hB e5 e10 hb hb9 hπ
    obtain ⟨m, rfl⟩ : ∃ k, m = k + 1 := ⟨m - 1, by omega⟩
    have n48 := hF.1.n48
    have hg := hF.2.2.1.la.gv
    obtain ⟨l, mm, hv⟩ := hF.2.2.2.1.rv
    have hl := hv.loc
    have h9 : ¬ (9 : Int32) ≤ nI d := nI_ge (b := 9) (by omega) (by decide)
    rw [wayN_s]
    obtain ⟨T', c1, c2, c3⟩ := c_compare (sl := sl) (U := U) (σ1 := σ1) (π := π) hF e8 e7 (by omega) hb hb9 hπ
    have leaf : CB T' (tkW b (wayW σ q f) d π) ∧ Wk lw T T' ∧ ∀ i, i < d → T'.2.1 177 i = π i := by
      refine ⟨c2, ⟨c3.mono (fun r hr => ⟨hr.2.1, hr.2.2.2⟩), ?_, ?_, ?_, ?_, ?_⟩, ?_⟩
      · exact (c3 174 (by decide)).2.2.2.1
      · rw [(c3 174 (by decide)).1]
      · rw [(c3 174 (by decide)).1]
      · rw [(c3 175 (by decide)).2.1]
      · rw [(c3 175 (by decide)).2.1]
      · intro i hi; rw [(c3 177 (by decide)).2.1]; exact hπ i hi
    show ∃ T', o_X10_goDown (fGD m) (cn n sl U S T σ1) 176 (nI d) = some (cn n sl U S T' σ1) ∧ _
    unfold o_X10_goDown
    rw [x176_0, Option.bind_some, x174_5, Option.bind_some, nm_q, e5, if_neg h9, Option.bind_some, x174_10, Option.bind_some, e10]
    cases nb
    · rw [if_pos (show bI false = 0 from rfl), Option.bind_some, x174_1, Option.bind_some, hF.2.2.2.2.2.1, g0_4 hg, Option.bind_some, c_lead hg hF.2.2.1.la.cl n48 hc, Option.bind_some]
      cases hld : lead (dN (cur σ) 0) (dN (cur σ) 1) (dh (cur σ)) c with
      | none =>
        rw [show ldD (cur σ) c = none from hld, if_pos (show oI none = -1 from rfl), x176_o, Option.bind_some, c1, Option.bind_some]
        exact ⟨T', rfl, leaf⟩
      | some e0 =>
        have h0 := lead_lt (hF.1.c0 hc) hc hld
        have e048 : e0 < 48 := Nat.lt_of_lt_of_le h0.1 n48
        obtain ⟨T2, z1, z2, z3, z4⟩ := c_downL (p := p) (f := f) (π := π) (ih m (by omega)) hc hk hd hB (fun μ49 => (some μ49)) 4 0 T b FU rfl (by unfold FU; omega) hF e6 e7 e8 e5 hb hb9 hπ
        rw [show nI 0 = (0 : Int32) from rfl] at z1
        rw [show ldD (cur σ) c = some e0 from hld, show oI (some e0) = nI e0 from rfl, if_neg (nI_nm1 (by omega)), Option.bind_some, x174_6, Option.bind_some, e6, nm_q, Option.bind_some, x174_8, Option.bind_some, e8, nm_q, nm_q]
        exact ⟨T2, z1, z2, z3, z4⟩
    · rw [if_neg (show ¬ bI true = 0 by decide), x176_o, Option.bind_some, c1, Option.bind_some]
      exact ⟨T', rfl, leaf⟩
end GODOWN
