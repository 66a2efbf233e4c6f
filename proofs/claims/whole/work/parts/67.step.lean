/-! A step of the class's fall. -/
section STEP
variable {nr n sl a lw q t c d : Nat} {U : Nat → va_E} {S : Nat → Nat × Nat × Nat} {σ σ1 : Sg} {drop : Int32} {x0 : Fst}
theorem c_touchL (hB : isB x0.2.2.1 256) {W O : Int32} (hW : ∀ t, t < dN (cur σ) 3 → bt W t = whl (cur σ) c t) (K : Mm → Nat → Int32 → Option Mm) : ∀ (k i : Nat) (T : Tc) (f : Nat), i + k = dN (cur σ) 3 → k < f → CF nr n S T σ a lw q → CX T (tchs σ q c drop i x0) → T.2.1 175 2 = x0.1 → T.2.1 175 3 = drop → T.2.1 175 4 = nI x0.2.1 → T.2.1 175 5 = nI (dh (cur σ) c) → T.2.1 175 11 = nI (oth (cur σ) q c) → ∃ T', f_X0_stepTo_L171 K f (cn n sl U S T σ1) 174 O W (nI i) = K (cn n sl U S T' σ1) 174 O ∧ Fk lw T T' ∧ CX T' (tchs σ q c drop (dN (cur σ) 3) x0) := by
  intro k
  induction k with
  | zero =>
    intro i T f h1 h2 hF hX w2 w3 w4 w5 w11
    obtain ⟨f, rfl⟩ : ∃ k, f = k + 1 := ⟨f - 1, by omega⟩
    have bT := hF.1.bT
    have hg := hF.2.2.1.la.gv
    have ei : i = dN (cur σ) 3 := by omega
    refine ⟨T, ?_, Fk.refl _ _, by rw [← ei]; exact hX⟩
    rw [f_X0_stepTo_L171, x174_1, Option.bind_some, hF.2.2.2.2.2.1, g0_9 hg, Option.bind_some, hF.2.2.1.la.th, hF.1.sT, if_pos (nI_le (by omega) (by omega))]
  | succ k ih =>
    intro i T f h1 h2 hF hX w2 w3 w4 w5 w11
    obtain ⟨f, rfl⟩ : ∃ k, f = k + 1 := ⟨f - 1, by omega⟩
    have bT := hF.1.bT
    have hg := hF.2.2.1.la.gv
    rw [f_X0_stepTo_L171, x174_1, Option.bind_some, hF.2.2.2.2.2.1, g0_9 hg, Option.bind_some, hF.2.2.1.la.th, hF.1.sT, if_neg (nI_ge (by omega) (by omega))]
    have hWi := hW i (by omega)
    cases hb : whl (cur σ) c i
    · rw [if_pos ((I_bit (by omega) W).2 (by rw [hWi, hb])), nm_q, oin1, nI_add]
      refine ih (i + 1) T f (by omega) (by omega) hF ?_ w2 w3 w4 w5 w11
      rw [tchs, hb]; exact hX
    · have p1 := tchs_p (σ := σ) (q := q) (c := c) (drop := drop) (x := x0) i
      obtain ⟨T1, q1, q2, q3⟩ := c_touch (sl := sl) (U := U) (σ1 := σ1) (t := i) (c := c) (drop := drop) hF hX (tchs_8 hB i (by omega)) (by omega) (by rw [p1.1]; exact w2) w3 (by rw [p1.2]; exact w4) w5 w11
      obtain ⟨T', z1, z2, z3⟩ := ih (i + 1) T1 f (by omega) (by omega) (hF.fk q2) (by rw [tchs, hb]; exact q3) (by rw [q2.2.2.2 2 (by decide) (by decide) (by decide) (by decide) (by decide)]; exact w2) (by rw [q2.2.2.2 3 (by decide) (by decide) (by decide) (by decide) (by decide)]; exact w3) (by rw [q2.2.2.2 4 (by decide) (by decide) (by decide) (by decide) (by decide)]; exact w4) (by rw [q2.2.2.2 5 (by decide) (by decide) (by decide) (by decide) (by decide)]; exact w5) (by rw [q2.2.2.2 11 (by decide) (by decide) (by decide) (by decide) (by decide)]; exact w11)
      refine ⟨T', ?_, q2.trans z2, z3⟩
      rw [if_neg (fun e => by have := (I_bit (by omega) W).1 e; rw [hWi, hb] at this; cases this), x174_o, Option.bind_some, q1, Option.bind_some, nm_q, oin1, nI_add]
      exact z1
/-- the class's whole things of a cell -/
theorem c_whl {D : Dt} {f : Nat → Int32} (hD : DG nr D) (hf : ∀ t, t < dN D 3 → f t = D 193 t) {t : Nat} (ht : t < dN D 3) : bt (mI (fun t => decide (f t = nI c)) (dN D 3) &&& (D 189 7 ^^^ (-1))) t = whl D c t := by
  have := hD.bT
  rw [b_and, bt_mI _ _ (by omega), bnot _ (by omega), decide_eq_true ht, Bool.true_and, hf t ht]
  rfl
theorem psh_c (p s : Int32) (x y : Int32) : (if (0 : Int32) < ((p + (x - y)) - s) then ((p + (x - y)) - s) else (0 : Int32)) = if (p + (x - y)) - s < 0 then 0 else (p + (x - y)) - s := by
  generalize (p + (x - y)) - s = z
  have e0 : (0 : Int32).toInt = 0 := rfl
  by_cases h1 : 0 < z
  · rw [if_pos h1, if_neg (by rw [i32lt] at h1 ⊢; omega)]
  · rw [if_neg h1]
    by_cases h2 : z < 0
    · rw [if_pos h2]
    · rw [if_neg h2]
      have : z.toInt = (0 : Int32).toInt := by rw [i32lt] at h1 h2; omega
      exact (Int32.toInt_inj.mp this).symm
/-- what a step keeps -/
def Fs (lw : Nat) (T T' : Tc) : Prop := agr (Fa lw) T T' ∧ T'.2.2.2.1 174 = T.2.2.2.1 174 ∧ T'.1 174 3 = T.1 174 3 ∧ T'.1 174 4 = T.1 174 4 ∧ T'.2.1 175 0 = T.2.1 175 0 ∧ T'.2.1 175 10 = T.2.1 175 10
theorem Fs.refl (lw : Nat) (T : Tc) : Fs lw T T := ⟨agr.refl _ _, rfl, rfl, rfl, rfl, rfl⟩
theorem Fs.trans {lw : Nat} {T T' T'' : Tc} (h : Fs lw T T') (h' : Fs lw T' T'') : Fs lw T T'' := ⟨h.1.trans h'.1, h'.2.1.trans h.2.1, h'.2.2.1.trans h.2.2.1, h'.2.2.2.1.trans h.2.2.2.1, h'.2.2.2.2.1.trans h.2.2.2.2.1, h'.2.2.2.2.2.trans h.2.2.2.2.2⟩
theorem Fs.of {lw : Nat} {T T' : Tc} (h : Fk lw T T') : Fs lw T T' := ⟨h.1, h.2.1, h.2.2.1 3 (by decide) (by decide), h.2.2.1 4 (by decide) (by decide), h.2.2.2 0 (by decide) (by decide) (by decide) (by decide) (by decide), h.2.2.2 10 (by decide) (by decide) (by decide) (by decide) (by decide)⟩
theorem CF.fs {T T' : Tc} (h : CF nr n S T σ a lw q) (hk : Fs lw T T') : CF nr n S T' σ a lw q := by
  obtain ⟨h1, h2, h3, h4, h5, h6, h7, h8, h9, h10, h11⟩ := h
  obtain ⟨l, m, hv⟩ := h4.rv
  obtain ⟨k1, k2, k3, k4, k5, k6⟩ := hk
  have e := k1 a (h3.sv.fa hv (show 0 < 6 by decide))
  exact ⟨h1, h2, h3.fa hv k1, h4.fa k1, by rw [k2]; exact h5, by rw [k2, e.2.2.2.1]; exact h6, by rw [k2]; exact h7, by rw [k3]; exact h8, by rw [k4]; exact h9, by rw [k5]; exact h10, by rw [k6]; exact h11⟩
theorem Fs.tI {lw : Nat} (T : Tc) (k : Nat) (v : Int32) (h3 : k ≠ 3) (h4 : k ≠ 4) : Fs lw T (tI T 174 k v) := ⟨agr_tI _ _ (fun h => h.1 rfl), rfl, by rw [tI1, if_neg (fun h => h3 h.2.symm)], by rw [tI1, if_neg (fun h => h4 h.2.symm)], rfl, rfl⟩
theorem Fs.tA {lw : Nat} (T : Tc) (k : Nat) (v : Int32) (h3 : k ≠ 0) (h4 : k ≠ 10) : Fs lw T (tA T 175 k v) := ⟨agr_tA _ _ (fun h => h.2.1 rfl), rfl, rfl, rfl, by rw [tA2, if_neg (fun h => h3 h.2.symm)], by rw [tA2, if_neg (fun h => h4 h.2.symm)]⟩
theorem w75_2 {T : Tc} {v : Int32} : sI (cn n sl U S T σ1) 175 0 (2 : Int32) v = some (cn n sl U S (tA T 175 2 v) σ1) := x175_w (i := 2) (by decide)
theorem w75_3 {T : Tc} {v : Int32} : sI (cn n sl U S T σ1) 175 0 (3 : Int32) v = some (cn n sl U S (tA T 175 3 v) σ1) := x175_w (i := 3) (by decide)
theorem w75_4 {T : Tc} {v : Int32} : sI (cn n sl U S T σ1) 175 0 (4 : Int32) v = some (cn n sl U S (tA T 175 4 v) σ1) := x175_w (i := 4) (by decide)
theorem w75_5 {T : Tc} {v : Int32} : sI (cn n sl U S T σ1) 175 0 (5 : Int32) v = some (cn n sl U S (tA T 175 5 v) σ1) := x175_w (i := 5) (by decide)
theorem w75_11 {T : Tc} {v : Int32} : sI (cn n sl U S T σ1) 175 0 (11 : Int32) v = some (cn n sl U S (tA T 175 11 v) σ1) := x175_w (i := 11) (by decide)
theorem c_stepTo {T : Tc} (hF : CF nr n S T σ a lw q) {x : Fst} (hX : CX T x) (hB : isB x.2.2.1 256) (h5 : T.1 174 5 = nI d) (hd : d < nc (cur σ)) (hc : c < nc (cur σ)) : ∃ T', f_X0_stepTo (cn n sl U S T σ1) 174 (nI c) = some (cn n sl U S T' σ1) ∧ Fs lw T T' ∧ CX T' (stpF σ q d c x) ∧ T'.1 174 5 = nI c ∧ T'.1 174 10 = (if netB (cur σ) c then 1 else 0) := by
  have hF0 := hF
  obtain ⟨hD, hq, hS, hL, f0, f1, f2, f3, f4, f5, f6⟩ := hF
  obtain ⟨l, m, hv⟩ := hL.rv
  have bP := hD.bP
  have bT := hD.bT
  have n48 := hD.n48
  have hc48 : c < 48 := Nat.lt_of_lt_of_le hc n48
  have hg := hS.la.gv
  have hgl := hg.loc
  obtain ⟨x1, x2, x3, x4⟩ := hX
  have k3 : Fs lw T (tI (tI (tI T 174 6 (psh (cur σ) q d c x.1)) 174 5 (nI c)) 174 7 (nI (x.2.1 + 1))) := (Fs.tI _ 6 _ (by decide) (by decide)).trans ((Fs.tI _ 5 _ (by decide) (by decide)).trans (Fs.tI _ 7 _ (by decide) (by decide)))
  have net := c_hasNet (sl := sl) (U := U) (σ := σ1) (hS.fa hv k3.1).la hD hc48
  have eg : (tI (tI (tI T 174 6 (psh (cur σ) q d c x.1)) 174 5 (nI c)) 174 7 (nI (x.2.1 + 1))).2.2.2.1 a 0 = T.2.2.2.1 a 0 := rfl
  rw [eg] at net
  unfold f_X0_stepTo
  rw [x174_1, Option.bind_some, x174_5, Option.bind_some, f1, g0_o hg, Option.bind_some, h5, c_dropTo hg hS.la.cg n48 hd hc, bd_some, nm_q, x174_6, Option.bind_some, x174_1, Option.bind_some, f1, g0_8 hg, Option.bind_some, x174_3, Option.bind_some, f3, g4_r hg (show q < 5 by omega), Option.bind_some, hS.la.so q hq, x1, psh_c, x174_6p, Option.bind_some, x174_5p, Option.bind_some, x174_7, Option.bind_some]
  rw [show (tI (tI T 174 6 (if (x.1 + (nI (dh (cur σ) d) - nI (dh (cur σ) c))) - cur σ 192 q < 0 then 0 else (x.1 + (nI (dh (cur σ) d) - nI (dh (cur σ) c))) - cur σ 192 q)) 174 5 (nI c)).1 174 7 + (1 : Int32) = nI (x.2.1 + 1) by
    rw [tI1, tI1, if_neg (by decide), if_neg (by decide), x2, lit_1, nI_add], x174_7p, Option.bind_some, x174_1, Option.bind_some]
  rw [show (tI (tI (tI T 174 6 (if (x.1 + (nI (dh (cur σ) d) - nI (dh (cur σ) c))) - cur σ 192 q < 0 then 0 else (x.1 + (nI (dh (cur σ) d) - nI (dh (cur σ) c))) - cur σ 192 q)) 174 5 (nI c)) 174 7 (nI (x.2.1 + 1))) = tI (tI (tI T 174 6 (psh (cur σ) q d c x.1)) 174 5 (nI c)) 174 7 (nI (x.2.1 + 1)) from rfl]
  rw [show (tI (tI (tI T 174 6 (psh (cur σ) q d c x.1)) 174 5 (nI c)) 174 7 (nI (x.2.1 + 1))).2.2.2.1 174 1 = T.2.2.2.1 a 0 from f1, g0_o hg, Option.bind_some, net, bd_some]
  have hnet : (if netK (cur σ 197) (nI c) (dN (cur σ) 4) then (1 : Int32) else 0) = (if netB (cur σ) c then 1 else 0) := rfl
  rw [hnet]
  generalize e3 : tI (tI (tI T 174 6 (psh (cur σ) q d c x.1)) 174 5 (nI c)) 174 7 (nI (x.2.1 + 1)) = T3 at k3 ⊢
  have v36 : T3.1 174 6 = psh (cur σ) q d c x.1 := by rw [← e3]; simp [tI1]
  have v35 : T3.1 174 5 = nI c := by rw [← e3]; simp [tI1]
  have v37 : T3.1 174 7 = nI (x.2.1 + 1) := by rw [← e3]; simp [tI1]
  have v38 : T3.1 174 8 = x.2.2.1 := by rw [← e3]; simp [tI1, x3]
  have v39 : T3.1 174 9 = x.2.2.2 := by rw [← e3]; simp [tI1, x4]
  clear net eg hnet
  cases hn : netB (cur σ) c
  · rw [if_neg (by decide), x174_10z, z01, Option.bind_some, x174_10, Option.bind_some, show (tI T3 174 10 0).1 174 10 = 0 by simp [tI1], if_pos rfl]
    have k4 : Fs lw T (tI T3 174 10 0) := k3.trans (Fs.tI _ 10 _ (by decide) (by decide))
    have F4 := hF0.fs k4
    have v46 : (tI T3 174 10 0).1 174 6 = psh (cur σ) q d c x.1 := by simp [tI1, v36]
    have v45 : (tI T3 174 10 0).1 174 5 = nI c := by simp [tI1, v35]
    have v47 : (tI T3 174 10 0).1 174 7 = nI (x.2.1 + 1) := by simp [tI1, v37]
    have v48 : (tI T3 174 10 0).1 174 8 = x.2.2.1 := by simp [tI1, v38]
    have v49 : (tI T3 174 10 0).1 174 9 = x.2.2.2 := by simp [tI1, v39]
    have v40 : (tI T3 174 10 0).1 174 10 = 0 := by simp [tI1]
    generalize tI T3 174 10 0 = T4 at k4 F4 v46 v45 v47 v48 v49 v40 ⊢
    obtain ⟨-, -, S4, L4, p0, p1, p2, p3, p4, p5, p6⟩ := F4
    have o1 := c_oth (q := q) (c := c) hD hq S4.pc
    rw [x174_0, Option.bind_some, p0, s0_o S4.sv, Option.bind_some, c_peopleIn S4.sv S4.la.gv (S4.la.pe.trans hD.sP) bP, bd_some, x174_3, Option.bind_some, p3, bc8 _ o1.1, bd_some, nm_q, o1.2, x174_11, Option.bind_some, x174_6, Option.bind_some, v46, w75_2, Option.bind_some, x174_11, Option.bind_some, w75_3, Option.bind_some, x174_11, Option.bind_some, x174_7, Option.bind_some, show (tA (tA T4 175 2 (psh (cur σ) q d c x.1)) 175 3 (nI (dh (cur σ) d) - nI (dh (cur σ) c))).1 174 7 = nI (x.2.1 + 1) from v47, w75_4, Option.bind_some, x174_11, Option.bind_some, x174_1, Option.bind_some]
    have gl := S4.la.gv.loc
    have k7 : Fs lw T4 (tA (tA (tA T4 175 2 (psh (cur σ) q d c x.1)) 175 3 (nI (dh (cur σ) d) - nI (dh (cur σ) c))) 175 4 (nI (x.2.1 + 1))) := (Fs.tA _ 2 _ (by decide) (by decide)).trans ((Fs.tA _ 3 _ (by decide) (by decide)).trans (Fs.tA _ 4 _ (by decide) (by decide)))
    have F7 := (hF0.fs k4).fs k7
    have hh := F7.2.2.1.la.cg.2.2.2 c hc
    rw [F7.2.2.2.2.2.1, g0_3 F7.2.2.1.la.gv, Option.bind_some, g1_r F7.2.2.1.la.gv hc48, Option.bind_some, hh, w75_5, Option.bind_some, x174_11, Option.bind_some, w75_11, Option.bind_some]
    have k9 : Fs lw T4 (tA (tA (tA (tA (tA T4 175 2 (psh (cur σ) q d c x.1)) 175 3 (nI (dh (cur σ) d) - nI (dh (cur σ) c))) 175 4 (nI (x.2.1 + 1))) 175 5 (nI (dh (cur σ) c))) 175 11 (nI (oth (cur σ) q c))) := k7.trans ((Fs.tA _ 5 _ (by decide) (by decide)).trans (Fs.tA _ 11 _ (by decide) (by decide)))
    have F9 := (hF0.fs k4).fs k9
    have u2 : (tA (tA (tA (tA (tA T4 175 2 (psh (cur σ) q d c x.1)) 175 3 (nI (dh (cur σ) d) - nI (dh (cur σ) c))) 175 4 (nI (x.2.1 + 1))) 175 5 (nI (dh (cur σ) c))) 175 11 (nI (oth (cur σ) q c))).2.1 175 2 = psh (cur σ) q d c x.1 := by simp [tA2]
    have u3 : (tA (tA (tA (tA (tA T4 175 2 (psh (cur σ) q d c x.1)) 175 3 (nI (dh (cur σ) d) - nI (dh (cur σ) c))) 175 4 (nI (x.2.1 + 1))) 175 5 (nI (dh (cur σ) c))) 175 11 (nI (oth (cur σ) q c))).2.1 175 3 = nI (dh (cur σ) d) - nI (dh (cur σ) c) := by simp [tA2]
    have u4 : (tA (tA (tA (tA (tA T4 175 2 (psh (cur σ) q d c x.1)) 175 3 (nI (dh (cur σ) d) - nI (dh (cur σ) c))) 175 4 (nI (x.2.1 + 1))) 175 5 (nI (dh (cur σ) c))) 175 11 (nI (oth (cur σ) q c))).2.1 175 4 = nI (x.2.1 + 1) := by simp [tA2]
    have u5 : (tA (tA (tA (tA (tA T4 175 2 (psh (cur σ) q d c x.1)) 175 3 (nI (dh (cur σ) d) - nI (dh (cur σ) c))) 175 4 (nI (x.2.1 + 1))) 175 5 (nI (dh (cur σ) c))) 175 11 (nI (oth (cur σ) q c))).2.1 175 5 = nI (dh (cur σ) c) := by simp [tA2]
    have u11 : (tA (tA (tA (tA (tA T4 175 2 (psh (cur σ) q d c x.1)) 175 3 (nI (dh (cur σ) d) - nI (dh (cur σ) c))) 175 4 (nI (x.2.1 + 1))) 175 5 (nI (dh (cur σ) c))) 175 11 (nI (oth (cur σ) q c))).2.1 175 11 = nI (oth (cur σ) q c) := by simp [tA2]
    have w9 : (tA (tA (tA (tA (tA T4 175 2 (psh (cur σ) q d c x.1)) 175 3 (nI (dh (cur σ) d) - nI (dh (cur σ) c))) 175 4 (nI (x.2.1 + 1))) 175 5 (nI (dh (cur σ) c))) 175 11 (nI (oth (cur σ) q c))).1 = T4.1 := rfl
    generalize tA (tA (tA (tA (tA T4 175 2 (psh (cur σ) q d c x.1)) 175 3 (nI (dh (cur σ) d) - nI (dh (cur σ) c))) 175 4 (nI (x.2.1 + 1))) 175 5 (nI (dh (cur σ) c))) 175 11 (nI (oth (cur σ) q c)) = T9 at k9 F9 u2 u3 u4 u5 u11 w9 ⊢
    have S9 := F9.2.2.1
    rw [x174_0, Option.bind_some, F9.2.2.2.2.1, s0_o S9.sv, Option.bind_some, c_thingsIn S9.sv S9.la.gv (S9.la.th.trans hD.sT) bT, bd_some, x174_4, Option.bind_some, F9.2.2.2.2.2.2.2.2.1, nm_q, nm_q]
    have ho : oth (cur σ) q c ≤ 5 := by
      unfold oth othK
      exact Nat.le_trans (fb_ct_le _ _) bP
    obtain ⟨T', z1, z2, z3⟩ := c_touchL (nr := nr) (n := n) (sl := sl) (a := a) (lw := lw) (q := q) (c := c) (U := U) (S := S) (σ := σ) (σ1 := σ1) (drop := nI (dh (cur σ) d) - nI (dh (cur σ) c)) (x0 := (psh (cur σ) q d c x.1, x.2.1 + 1, x.2.2.1, x.2.2.2)) hB (W := mI (fun t => decide (T9.2.1 (a + 2) t = nI c)) (dN (cur σ) 3) &&& (cur σ 189 7 ^^^ (-1))) (O := nI (oth (cur σ) q c)) (fun t ht => c_whl hD S9.tc ht) (fun μ59 a60 x61 =>
    (if x61 ≤ 0 then
    (some μ59)
    else
    ((gI μ59 a60 0 6).bind fun v62 =>
    (dvI v62 (2 : Int32) fun v63 =>
    ((pV μ59 a60 0 6 (.int v63)).bind fun μ64 =>
    (some μ64)))))) (dN (cur σ) 3) 0 T9 FU (by omega) (by unfold FU; omega) F9 ⟨by rw [w9]; exact v46, by rw [w9]; exact v47, by rw [w9]; exact v48, by rw [w9]; exact v49⟩ u2 u3 u4 u5 u11
    rw [show nI 0 = (0 : Int32) from rfl] at z1
    rw [z1]
    obtain ⟨y1, y2, y3, y4⟩ := z3
    have kk : Fs lw T T' := (k4.trans k9).trans (Fs.of z2)
    have w5 : T'.1 174 5 = nI c := by rw [z2.2.2.1 5 (by decide) (by decide), w9]; exact v45
    have w10 : T'.1 174 10 = 0 := by rw [z2.2.2.1 10 (by decide) (by decide), w9]; exact v40
    unfold stpF
    rw [hn]
    by_cases ho0 : 0 < oth (cur σ) q c
    · refine ⟨tI T' 174 6 (T'.1 174 6 / 2), ?_, kk.trans (Fs.tI _ 6 _ (by decide) (by decide)), ?_, ?_, ?_⟩
      · show (if nI (oth (cur σ) q c) ≤ 0 then _ else _) = _
        rw [if_neg (show ¬ nI (oth (cur σ) q c) ≤ 0 from nI_ge (a := 0) ho0 (by omega)), x174_6, Option.bind_some]
        unfold dvI
        rw [if_neg (by decide)]
        show (pV (cn n sl U S T' σ1) 174 0 6 (.int (T'.1 174 6 / 2))).bind _ = _
        rw [x174_6p, Option.bind_some]
      · rw [if_neg (by decide), if_pos ho0]
        refine ⟨?_, ?_, ?_, ?_⟩
        · simp [tI1, y1]
        · simp [tI1, y2]
        · simp [tI1, y3]
        · simp [tI1, y4]
      · simp [tI1, w5]
      · simp [tI1, w10]
    · refine ⟨T', ?_, kk, ?_, w5, ?_⟩
      · show (if nI (oth (cur σ) q c) ≤ 0 then _ else _) = _
        rw [if_pos (show nI (oth (cur σ) q c) ≤ 0 from nI_le (b := 0) (by omega) (by decide))]
      · rw [if_neg (by decide), if_neg ho0]
        exact ⟨y1, y2, y3, y4⟩
      · exact w10
  · rw [if_pos rfl, x174_10z, z11, Option.bind_some, x174_10, Option.bind_some, show (tI T3 174 10 1).1 174 10 = 1 by simp [tI1], if_neg (by decide), x174_6p, Option.bind_some]
    refine ⟨_, rfl, k3.trans ((Fs.tI _ 10 _ (by decide) (by decide)).trans (Fs.tI _ 6 _ (by decide) (by decide))), ?_, ?_, ?_⟩
    · unfold stpF
      rw [hn, if_pos rfl]
      refine ⟨?_, ?_, ?_, ?_⟩
      · simp [tI1]
      · simp [tI1, v37]
      · simp [tI1, v38]
      · simp [tI1, v39]
    · simp [tI1, v35]
    · simp [tI1]
end STEP
