/-! A fall of the class's, whole. -/
theorem s74_0 {n sl : Nat} {U : Nat → va_E} {S : Nat → Nat × Nat × Nat} {T : Tc} {σ1 : Sg} {v : Int32} : sI (cn n sl U S T σ1) 175 0 (0 : Int32) v = some (cn n sl U S (tA T 175 0 v) σ1) := x175_w (i := 0) (by decide)
theorem s74_10 {n sl : Nat} {U : Nat → va_E} {S : Nat → Nat × Nat × Nat} {T : Tc} {σ1 : Sg} {v : Int32} : sI (cn n sl U S T σ1) 175 0 (10 : Int32) v = some (cn n sl U S (tA T 175 10 v) σ1) := x175_w (i := 10) (by decide)
/-- where a fall goes first -/
def nxt (D : Dt) (d s : Nat) : Option Nat := match (if s < 4 then low (dN D 0) (dN D 1) (dh D) d s else none) with
  | some e => some e
  | none => ldD D d
theorem lead_none {C R c s : Nat} {h : Nat → Nat} (hs : s < 4) (hl : lead C R h c = none) : low C R h c s = none := by
  have key : ∀ k, leadK C R h c k = none → ∀ s, s < k → low C R h c s = none := by
    intro k
    induction k with
    | zero => intro _ s hs; omega
    | succ k ih =>
      intro e s hs
      rw [leadK] at e
      cases hk : low C R h c k with
      | some d =>
        rw [hk] at e
        cases hz : leadK C R h c k with
        | none => rw [hz] at e; cases e
        | some z =>
          rw [hz] at e
          have e : (if h d < h z then some d else some z) = none := e
          split at e <;> cases e
      | none =>
        rw [hk] at e
        by_cases h2 : s = k
        · subst h2; exact hk
        · exact ih e s (by omega)
  exact key 4 hl s hs
theorem DG.c0 {nr : Nat} {D : Dt} (h : DG nr D) {c : Nat} (hc : c < nc D) : 0 < dN D 0 := by
  rcases Nat.eq_zero_or_pos (dN D 0) with e | e
  · rw [nc, e, Nat.zero_mul] at hc; omega
  · exact e
theorem nxt_lt {nr : Nat} {D : Dt} (h : DG nr D) {d s e : Nat} (hd : d < nc D) (he : nxt D d s = some e) : e < nc D ∧ dh D e < dh D d := by
  have h0 := h.c0 hd
  unfold nxt at he
  by_cases hs : s < 4
  · rw [if_pos hs] at he
    cases hl : low (dN D 0) (dN D 1) (dh D) d s with
    | none => rw [hl] at he; exact lead_lt h0 hd he
    | some z => rw [hl] at he; cases he; exact low_lt h0 hd hl
  · rw [if_neg hs] at he
    exact lead_lt h0 hd he
theorem nxt_none {D : Dt} {d s : Nat} (h : ldD D d = none) : nxt D d s = none := by
  unfold nxt
  by_cases hs : s < 4
  · rw [if_pos hs, lead_none hs h]; exact h
  · rw [if_neg hs]; exact h
section RUN
variable {nr n sl a lw q s d : Nat} {U : Nat → va_E} {S : Nat → Nat × Nat × Nat} {T : Tc} {σ σ1 : Sg} {x : Fst}
theorem c_begin (hD : DG nr (cur σ)) (hq : q < dN (cur σ) 2) (hS : SRw n S T a (cur σ)) (hbr : T.1 a 3 = cur σ 189 7) (hL : RLw n S T σ lw) : ∃ T', f_X0_begin (cn n sl U S T σ1) 174 a lw (nI q) = some (cn n sl U S T' σ1) ∧ CF nr n S T' σ a lw q ∧ CX T' (0, 0, 0, 0) ∧ T'.1 174 5 = cur σ 191 q ∧ T'.1 174 10 = 0 ∧ agr (Fa lw) T T' := by
  obtain ⟨l, m, hv⟩ := hL.rv
  have bP := hD.bP
  have hsv := hS.sv
  have hg := hS.la.gv
  have hsl := hsv.loc
  have hgl := hg.loc
  have na : ¬ a = 174 := by omega
  have na1 : ¬ a + 1 = 175 := by omega
  have n4 : ¬ T.2.2.2.1 a 0 + 4 = 175 := by omega
  have q5 : q < 5 := by omega
  have run : f_X0_begin (cn n sl U S T σ1) 174 a lw (nI q) = some (cn n sl U S (tA (tA (tI (tI (tI (tI (tI (tI (tI (tI (tR (tR (tR T 174 0 a) 174 1 (T.2.2.2.1 a 0)) 174 2 lw) 174 3 (nI q)) 174 4 (T.1 a 3)) 174 5 (T.2.1 (a + 1) q)) 174 6 0) 174 7 0) 174 8 0) 174 9 0) 174 10 0) 175 0 (nI q)) 175 10 (T.2.1 (T.2.2.2.1 a 0 + 4) q)) σ1) := by
    unfold f_X0_begin
    simp only [x174_0p, x174_1p, x174_2p, x174_3p, x174_4p, x174_5p, x174_6p, x174_7p, x174_8p, x174_9p, x174_10z, ↓z01, x174_11, x174_1, s0_0 hsv, s0_3 hsv, s0_4 hsv, s1_r hsv q5, g0_8 hg, g4_r hg q5, s74_0, s74_10, Option.bind_some, tR1, tR2, tR3, tR4, tI1, tI2, tA1, tA2, tA3, na, na1, n4, false_and, and_false, ↓reduceIte, and_self, true_and]
    simp [g0_8 hg, g4_r hg q5, s74_10, tR2, tI2, tA2, n4]
  have ag : agr (Fa lw) T (tA (tA (tI (tI (tI (tI (tI (tI (tI (tI (tR (tR (tR T 174 0 a) 174 1 (T.2.2.2.1 a 0)) 174 2 lw) 174 3 (nI q)) 174 4 (T.1 a 3)) 174 5 (T.2.1 (a + 1) q)) 174 6 0) 174 7 0) 174 8 0) 174 9 0) 174 10 0) 175 0 (nI q)) 175 10 (T.2.1 (T.2.2.2.1 a 0 + 4) q)) := by
    have z4 : ¬ Fa lw 174 := fun h => h.1 rfl
    have z5 : ¬ Fa lw 175 := fun h => h.2.1 rfl
    exact (agr_tR _ _ z4).trans ((agr_tR _ _ z4).trans ((agr_tR _ _ z4).trans ((agr_tI _ _ z4).trans ((agr_tI _ _ z4).trans ((agr_tI _ _ z4).trans ((agr_tI _ _ z4).trans ((agr_tI _ _ z4).trans ((agr_tI _ _ z4).trans ((agr_tI _ _ z4).trans ((agr_tI _ _ z4).trans ((agr_tA _ _ z5).trans (agr_tA _ _ z5))))))))))))
  refine ⟨_, run, ⟨hD, hq, hS.fa hv ag, hL.fa ag, ?_, ?_, ?_, ?_, ?_, ?_, ?_⟩, ⟨?_, ?_, ?_, ?_⟩, ?_, ?_, ag⟩
  · simp [tA3, tI2, tR4]
  · rw [(ag a (hsv.fa hv (show 0 < 6 by decide))).2.2.2.1]
    simp [tA3, tI2, tR4]
  · simp [tA3, tI2, tR4]
  · simp [tA1, tI1]
  · simp [tA1, tI1]; exact hbr
  · simp [tA2, tI2]
  · simp [tA2, tI2]; exact hS.la.so q hq
  · simp [tA1, tI1]
  · simp [tA1, tI1]; rfl
  · simp [tA1, tI1]
  · simp [tA1, tI1]
  · simp [tA1, tI1]; exact hS.pc q hq
  · simp [tA1, tI1]
theorem c_runL (K : Mm → Option Mm) : ∀ (k i : Nat) (T : Tc) (d : Nat) (o : Option Nat) (x : Fst) (f : Nat), i + k = 9 → k < f → CF nr n S T σ a lw q → CX T x → isB x.2.2.1 256 → T.1 174 5 = nI d → d < nc (cur σ) → (∀ e, o = some e → e < nc (cur σ)) → ∃ T', f_X0_run_L38 K f (cn n sl U S T σ1) 174 (oI o) (nI i) = K (cn n sl U S T' σ1) ∧ Fs lw T T' ∧ CX T' (runF σ q k d o x).2 ∧ T'.1 174 5 = nI (runF σ q k d o x).1 := by
  intro k
  induction k with
  | zero =>
    intro i T d o x f h1 h2 hF hX hB h5 hd ho
    obtain ⟨f, rfl⟩ : ∃ k, f = k + 1 := ⟨f - 1, by omega⟩
    obtain rfl : i = 9 := by omega
    refine ⟨T, ?_, Fs.refl _ _, hX, h5⟩
    rw [f_X0_run_L38, if_pos (by decide)]
  | succ k ih =>
    intro i T d o x f h1 h2 hF hX hB h5 hd ho
    obtain ⟨f, rfl⟩ : ∃ k, f = k + 1 := ⟨f - 1, by omega⟩
    rw [f_X0_run_L38, if_neg (show ¬ (9 : Int32) ≤ nI i from nI_ge (b := 9) (by omega) (by decide))]
    cases o with
    | none =>
      refine ⟨T, ?_, Fs.refl _ _, hX, h5⟩
      rw [if_pos (show oI none = -1 from rfl)]
    | some e =>
      have he := ho e rfl
      have n48 := hF.1.n48
      have e48 : e < 48 := Nat.lt_of_lt_of_le he n48
      obtain ⟨T1, q1, q2, q3, q4, q5⟩ := c_stepTo (sl := sl) (U := U) (σ1 := σ1) hF hX hB h5 hd he
      have F1 := hF.fs q2
      rw [show oI (some e) = nI e from rfl, if_neg (nI_nm1 (by omega)), x174_o, Option.bind_some, q1, Option.bind_some, x174_10, Option.bind_some, q5]
      cases hn : netB (cur σ) e
      · obtain ⟨T', z1, z2, z3, z4⟩ := ih (i + 1) T1 e (ldD (cur σ) e) (stpF σ q d e x) f (by omega) (by omega) F1 q3 (stpF_8 hF.1 hB) q4 he (fun z hz => (lead_lt (hF.1.c0 hd) he hz).1)
        refine ⟨T', ?_, q2.trans z2, ?_, ?_⟩
        · rw [if_pos (show (if false = true then (1 : Int32) else 0) = 0 from rfl), x174_1, Option.bind_some, F1.2.2.2.2.2.1, g0_4 F1.2.2.1.la.gv, Option.bind_some, x174_5, Option.bind_some, q4, c_lead F1.2.2.1.la.gv F1.2.2.1.la.cl n48 he, Option.bind_some, nm_q, nm_q, oin1, nI_add]
          exact z1
        · rw [runF, hn]; exact z3
        · rw [runF, hn]; exact z4
      · obtain ⟨T', z1, z2, z3, z4⟩ := ih (i + 1) T1 e none (stpF σ q d e x) f (by omega) (by omega) F1 q3 (stpF_8 hF.1 hB) q4 he (fun z hz => by cases hz)
        refine ⟨T', ?_, q2.trans z2, ?_, ?_⟩
        · rw [if_neg (show ¬ (if true = true then (1 : Int32) else 0) = 0 by decide), nm_q, nm_q, oin1, nI_add]
          exact z1
        · rw [runF, hn]; exact z3
        · rw [runF, hn]; exact z4
theorem c_run (hF : CF nr n S T σ a lw q) (hX : CX T x) (hB : isB x.2.2.1 256) (h5 : T.1 174 5 = nI d) (hd : d < nc (cur σ)) (hs : s < 5) : ∃ T', f_X0_run (cn n sl U S T σ1) 174 (nI s) = some (cn n sl U S T' σ1) ∧ Fs lw T T' ∧ CX T' (runF σ q 9 d (nxt (cur σ) d s) x).2 ∧ T'.1 174 5 = nI (runF σ q 9 d (nxt (cur σ) d s) x).1 := by
  have n48 := hF.1.n48
  have d48 : d < 48 := Nat.lt_of_lt_of_le hd n48
  have gs := hF.1.gs (Nat.lt_of_le_of_lt (Nat.zero_le _) hd)
  have hg := hF.2.2.1.la.gv
  obtain ⟨T', z1, z2, z3, z4⟩ := c_runL (n := n) (sl := sl) (U := U) (S := S) (a := a) (lw := lw) (q := q) (σ1 := σ1) (fun μ27 => (some μ27)) 9 0 T d (nxt (cur σ) d s) x FU rfl (by unfold FU; omega) hF hX hB h5 hd (fun e he => (nxt_lt hF.1 hd he).1)
  rw [show nI 0 = (0 : Int32) from rfl] at z1
  refine ⟨T', ?_, z2, z3, z4⟩
  have low4 : f_X1_lowerBeside (cn n sl U S T σ1) (T.2.2.2.1 a 0) (nI d) (nI s) = some (oI (if s < 4 then low (dN (cur σ) 0) (dN (cur σ) 1) (dh (cur σ)) d s else none), cn n sl U S T σ1) := by
    by_cases h4 : s < 4
    · rw [if_pos h4, c_lower hg hF.2.2.1.la.cg gs hd h4]
    · rw [if_neg h4, c_lower4 hg hF.2.2.1.la.cg gs hd (by omega)]; rfl
  unfold f_X0_run
  rw [x174_1, Option.bind_some, x174_5, Option.bind_some, hF.2.2.2.2.2.1, g0_o hg, Option.bind_some, h5, low4, bd_some, nm_q]
  unfold nxt at z1
  cases hl : (if s < 4 then low (dN (cur σ) 0) (dN (cur σ) 1) (dh (cur σ)) d s else none) with
  | none =>
    rw [hl] at z1
    rw [if_pos (show oI none = -1 from rfl), x174_1, Option.bind_some, hF.2.2.2.2.2.1, g0_4 hg, Option.bind_some, x174_5, Option.bind_some, h5, c_lead hg hF.2.2.1.la.cl n48 hd, Option.bind_some, nm_q, nm_q]
    exact z1
  | some e =>
    rw [hl] at z1
    have he : e < nc (cur σ) := by
      refine (nxt_lt hF.1 hd (s := s) (e := e) ?_).1
      unfold nxt; rw [hl]
    have e48 : e < 48 := Nat.lt_of_lt_of_le he n48
    rw [show oI (some e) = nI e from rfl, if_neg (nI_nm1 (by omega)), nm_q, nm_q]
    exact z1
end RUN
