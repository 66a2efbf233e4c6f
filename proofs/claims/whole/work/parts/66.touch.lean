/-! A fall of the class's: a touch, a step. -/
abbrev Fa (lw : Nat) : Nat → Prop := fun r => r ≠ 174 ∧ r ≠ 175 ∧ r ≠ lw + 1
theorem Fa.of_oth {lw : Nat} {T T' : Tc} (h : agr (Oth (lw + 1)) T T') : agr (Fa lw) T T' := h.mono fun _ hr => hr.2.2
theorem SV.n32 {n : Nat} {S : Nat → Nat × Nat × Nat} {g lw l m : Nat} (h : SV n S g) (hv : RV n S lw l m) {j : Nat} (hj : j < 6) : g + j ≠ lw + 1 := by
  intro e
  have h1 := (h j hj).2
  have h2 := (hv 1 (show 1 < 7 by decide)).2
  rw [e, h2] at h1
  have : ∀ j, j < 6 → (1, 3, 32) ≠ [(0, 7, 0), (1, 0, 5), (1, 0, 8), (1, 0, 20), (1, 0, 20), (1, 0, 20)].getD j (2, 0, 0) := by decide
  exact this j hj h1
theorem GV.n32 {n : Nat} {S : Nat → Nat × Nat × Nat} {g lw l m : Nat} (h : GV n S g) (hv : RV n S lw l m) {j : Nat} (hj : j < 15) : g + j ≠ lw + 1 := by
  intro e
  have h1 := (h j hj).2
  have h2 := (hv 1 (show 1 < 7 by decide)).2
  rw [e, h2] at h1
  have : ∀ j, j < 15 → (1, 3, 32) ≠ [(0, 1, 0), (1, 0, 48), (1, 0, 48), (1, 0, 5), (1, 0, 5), (1, 0, 8), (1, 0, 8), (1, 0, 8), (1, 0, 8), (0, 3, 0), (1, 0, 8), (1, 0, 10), (1, 0, 10), (1, 0, 8), (1, 0, 8)].getD j (2, 0, 0) := by decide
  exact this j hj h1
theorem SV.fa {n : Nat} {S : Nat → Nat × Nat × Nat} {g lw l m : Nat} (h : SV n S g) (hv : RV n S lw l m) {j : Nat} (hj : j < 6) : Fa lw (g + j) := by
  have := h.loc
  exact ⟨by omega, by omega, h.n32 hv hj⟩
theorem GV.fa {n : Nat} {S : Nat → Nat × Nat × Nat} {g lw l m : Nat} (h : GV n S g) (hv : RV n S lw l m) {j : Nat} (hj : j < 15) : Fa lw (g + j) := by
  have := h.loc
  exact ⟨by omega, by omega, h.n32 hv hj⟩
theorem SR.fa {n : Nat} {S : Nat → Nat × Nat × Nat} {T T' : Tc} {a lw l m : Nat} {D : Dt} (h : SR n S T a D) (hv : RV n S lw l m) (ha : agr (Fa lw) T T') : SR n S T' a D := h.ext h.sv h.la.gv ha (fun _ hj => h.sv.fa hv hj) (fun _ hj => h.la.gv.fa hv hj)
theorem RLw.fa {n : Nat} {S : Nat → Nat × Nat × Nat} {T T' : Tc} {σ : Sg} {lw : Nat} (h : RLw n S T σ lw) (ha : agr (Fa lw) T T') : RLw n S T' σ lw := by
  obtain ⟨l, m, hv⟩ := h.rv
  have hl := hv.loc
  have ok : ∀ j, j < 7 → j ≠ 1 → Fa lw (lw + j) := fun j h1 h2 => ⟨by omega, by omega, by omega⟩
  rcases h with ⟨h1, h2, h3, h4⟩ | ⟨r, l, m, h1, h2, h3⟩
  · have e := ha lw (ok 0 (by decide) (by decide))
    exact .inl ⟨h1, h2, by rw [e.1]; exact h3, by rw [e.1]; exact h4⟩
  · exact .inr ⟨r, l, m, h1, h2, h3.ext h3.rv ha (ok 0 (by decide) (by decide)) (fun j h1 h2 => ok j h2 (by omega)) rfl (fun _ _ => ⟨rfl, rfl⟩) (fun _ _ => ⟨rfl, rfl, rfl, rfl⟩) (fun _ _ _ _ _ => rfl)⟩
/-- what of a school a fall reads -/
def SRw (n : Nat) (S : Nat → Nat × Nat × Nat) (T : Tc) (a : Nat) (D : Dt) : Prop := SV n S a ∧ GR n S T (T.2.2.2.1 a 0) D ∧ (∀ q, q < dN D 2 → T.2.1 (a + 1) q = D 191 q) ∧ (∀ t, t < dN D 3 → T.2.1 (a + 2) t = D 193 t)
theorem SRw.sv {n : Nat} {S : Nat → Nat × Nat × Nat} {T : Tc} {a : Nat} {D : Dt} (h : SRw n S T a D) : SV n S a := h.1
theorem SRw.la {n : Nat} {S : Nat → Nat × Nat × Nat} {T : Tc} {a : Nat} {D : Dt} (h : SRw n S T a D) : GR n S T (T.2.2.2.1 a 0) D := h.2.1
theorem SRw.pc {n : Nat} {S : Nat → Nat × Nat × Nat} {T : Tc} {a : Nat} {D : Dt} (h : SRw n S T a D) : ∀ q, q < dN D 2 → T.2.1 (a + 1) q = D 191 q := h.2.2.1
theorem SRw.tc {n : Nat} {S : Nat → Nat × Nat × Nat} {T : Tc} {a : Nat} {D : Dt} (h : SRw n S T a D) : ∀ t, t < dN D 3 → T.2.1 (a + 2) t = D 193 t := h.2.2.2
theorem SR.w {n : Nat} {S : Nat → Nat × Nat × Nat} {T : Tc} {a : Nat} {D : Dt} (h : SR n S T a D) : SRw n S T a D := ⟨h.sv, h.la, h.pc, h.tc⟩
theorem SRw.fa {n : Nat} {S : Nat → Nat × Nat × Nat} {T T' : Tc} {a lw l m : Nat} {D : Dt} (h : SRw n S T a D) (hv : RV n S lw l m) (ha : agr (Fa lw) T T') : SRw n S T' a D := by
  have e := fun j hj => ha (a + j) (h.sv.fa hv (j := j) hj)
  have e0 := e 0 (by decide)
  rw [Nat.add_zero] at e0
  refine ⟨h.sv, ?_, ?_, ?_⟩
  · rw [e0.2.2.2.1]; exact h.la.ext h.la.gv ha (fun _ hj => h.la.gv.fa hv hj)
  · rw [(e 1 (by decide)).2.1]; exact h.pc
  · rw [(e 2 (by decide)).2.1]; exact h.tc
/-- a fall is set -/
def CF (nr n : Nat) (S : Nat → Nat × Nat × Nat) (T : Tc) (σ : Sg) (a lw q : Nat) : Prop := DG nr (cur σ) ∧ q < dN (cur σ) 2 ∧ SRw n S T a (cur σ) ∧ RLw n S T σ lw ∧ T.2.2.2.1 174 0 = a ∧ T.2.2.2.1 174 1 = T.2.2.2.1 a 0 ∧ T.2.2.2.1 174 2 = lw ∧ T.1 174 3 = nI q ∧ T.1 174 4 = cur σ 189 7 ∧ T.2.1 175 0 = nI q ∧ T.2.1 175 10 = cur σ 192 q
def CX (T : Tc) (x : Fst) : Prop := T.1 174 6 = x.1 ∧ T.1 174 7 = nI x.2.1 ∧ T.1 174 8 = x.2.2.1 ∧ T.1 174 9 = x.2.2.2
def Fk (lw : Nat) (T T' : Tc) : Prop := agr (Fa lw) T T' ∧ T'.2.2.2.1 174 = T.2.2.2.1 174 ∧ (∀ k, k ≠ 8 → k ≠ 9 → T'.1 174 k = T.1 174 k) ∧ ∀ i, i ≠ 1 → i ≠ 6 → i ≠ 7 → i ≠ 8 → i ≠ 9 → T'.2.1 175 i = T.2.1 175 i
theorem Fk.refl (lw : Nat) (T : Tc) : Fk lw T T := ⟨agr.refl _ _, rfl, fun _ _ _ => rfl, fun _ _ _ _ _ _ => rfl⟩
theorem Fk.trans {lw : Nat} {T T' T'' : Tc} (h : Fk lw T T') (h' : Fk lw T' T'') : Fk lw T T'' := ⟨h.1.trans h'.1, h'.2.1.trans h.2.1, fun k a b => (h'.2.2.1 k a b).trans (h.2.2.1 k a b), fun i a b c d e => (h'.2.2.2 i a b c d e).trans (h.2.2.2 i a b c d e)⟩
theorem CF.fk {nr n : Nat} {S : Nat → Nat × Nat × Nat} {T T' : Tc} {σ : Sg} {a lw q : Nat} (h : CF nr n S T σ a lw q) (hk : Fk lw T T') : CF nr n S T' σ a lw q := by
  obtain ⟨h1, h2, h3, h4, h5, h6, h7, h8, h9, h10, h11⟩ := h
  obtain ⟨l, m, hv⟩ := h4.rv
  obtain ⟨k1, k2, k3, k4⟩ := hk
  have e := k1 a (h3.sv.fa hv (show 0 < 6 by decide))
  exact ⟨h1, h2, h3.fa hv k1, h4.fa k1, by rw [k2]; exact h5, by rw [k2, e.2.2.2.1]; exact h6, by rw [k2]; exact h7, by rw [k3 3 (by decide) (by decide)]; exact h8, by rw [k3 4 (by decide) (by decide)]; exact h9, by rw [k4 0 (by decide) (by decide) (by decide) (by decide) (by decide)]; exact h10, by rw [k4 10 (by decide) (by decide) (by decide) (by decide) (by decide)]; exact h11⟩
theorem isB_one {t : Nat} (ht : t < 8) : isB ((1 : Int32) <<< (nI t &&& 31)) 256 := isB8.2 fun i h1 h2 => by rw [I_one (by omega), decide_eq_false (by omega)]
theorem tch_8 {σ : Sg} {q c t : Nat} {drop : Int32} {x : Fst} (ht : t < 8) (h : isB x.2.2.1 256) : isB (tch σ q c drop t x).2.2.1 256 := by
  unfold tch
  split
  · exact isB_or h (isB_one ht)
  · exact h
theorem tchs_8 {σ : Sg} {q c : Nat} {drop : Int32} {x : Fst} (h : isB x.2.2.1 256) : ∀ k, k ≤ 8 → isB (tchs σ q c drop k x).2.2.1 256
  | 0, _ => h
  | k + 1, hk => by
    rw [tchs]
    split
    · exact tch_8 (by omega) (tchs_8 h k (by omega))
    · exact tchs_8 h k (by omega)
theorem tch_p {σ : Sg} {q c t : Nat} {drop : Int32} {x : Fst} : (tch σ q c drop t x).1 = x.1 ∧ (tch σ q c drop t x).2.1 = x.2.1 := by
  unfold tch
  split <;> exact ⟨rfl, rfl⟩
theorem tchs_p {σ : Sg} {q c : Nat} {drop : Int32} {x : Fst} : ∀ k, (tchs σ q c drop k x).1 = x.1 ∧ (tchs σ q c drop k x).2.1 = x.2.1
  | 0 => ⟨rfl, rfl⟩
  | k + 1 => by
    have := tchs_p (σ := σ) (q := q) (c := c) (drop := drop) (x := x) k
    rw [tchs]
    split
    · rw [tch_p.1, tch_p.2]; exact this
    · exact this
theorem stpF_8 {σ : Sg} {nr q d c : Nat} {x : Fst} (hD : DG nr (cur σ)) (h : isB x.2.2.1 256) : isB (stpF σ q d c x).2.2.1 256 := by
  have := hD.bT
  unfold stpF
  split
  · exact h
  · split
    · exact tchs_8 (x := (psh (cur σ) q d c x.1, x.2.1 + 1, x.2.2.1, x.2.2.2)) h _ (by omega)
    · exact tchs_8 (x := (psh (cur σ) q d c x.1, x.2.1 + 1, x.2.2.1, x.2.2.2)) h _ (by omega)
section TOUCH
variable {nr n sl a lw q t c : Nat} {U : Nat → va_E} {S : Nat → Nat × Nat × Nat} {T : Tc} {σ σ0 : Sg} {drop : Int32} {x : Fst}
theorem c_tail {w : Nat → Int32} (hL : RLw n S T σ0 lw) (h2 : T.2.2.2.1 174 2 = lw) (hw : ∀ i, i < 12 → T.2.1 175 i = w i) : ∃ T', (bd (f_X5_breaksBy (cn n sl U S T σ) lw 175) fun v29 μ28 =>
    (if v29 = 0 then
    (some μ28)
    else
    ((gI μ28 174 0 9).bind fun v30 =>
    ((gR μ28 174 0 2).bind fun v31 =>
    ((gR μ28 174 0 11).bind fun v32 =>
    ((ob μ28 v31 5).bind fun _ =>
    (bd (f_X5_lossBy μ28 v31 v32) fun v34 μ33 =>
    ((pV μ33 174 0 9 (.int (v30 + v34))).bind fun μ35 =>
    ((gI μ35 174 0 8).bind fun v36 =>
    ((pV μ35 174 0 8 (.int (v36 ||| ((1 : Int32) <<< (nI t &&& 31))))).bind fun μ37 =>
    (some μ37))))))))))) = some (cn n sl U S T' σ) ∧ Fk lw T T' ∧ T'.1 174 8 = (if LB σ0 w then T.1 174 8 ||| ((1 : Int32) <<< (nI t &&& 31)) else T.1 174 8) ∧ T'.1 174 9 = (if LB σ0 w then T.1 174 9 + LM σ0 w else T.1 174 9) := by
  obtain ⟨l, m, hv⟩ := hL.rv
  have hl := hv.loc
  obtain ⟨T1, q1, q2⟩ := c_breaksBy (sl := sl) (U := U) (σ := σ) hL hw
  have e174 := q2 174 (by show 174 ≠ lw + 1; omega)
  have e175 := q2 175 (by show 175 ≠ lw + 1; omega)
  have k1 : Fk lw T T1 := ⟨Fa.of_oth q2, e174.2.2.2.1, fun _ _ _ => by rw [e174.1], fun _ _ _ _ _ _ => by rw [e175.2.1]⟩
  cases hb : LB σ0 w
  · refine ⟨T1, ?_, k1, by rw [if_neg (by decide), e174.1], by rw [if_neg (by decide), e174.1]⟩
    rw [q1, bd_some, hb, if_neg (show ¬ false = true by decide), if_pos rfl]
  · obtain ⟨T2, z1, z2⟩ := c_lossBy (sl := sl) (U := U) (σ := σ) (hL.oth q2) (w := w) (by rw [e175.2.1]; exact hw)
    have f174 := z2 174 (by show 174 ≠ lw + 1; omega)
    have f175 := z2 175 (by show 175 ≠ lw + 1; omega)
    refine ⟨tI (tI T2 174 9 (T.1 174 9 + LM σ0 w)) 174 8 (T.1 174 8 ||| ((1 : Int32) <<< (nI t &&& 31))), ?_, ⟨?_, ?_, ?_, ?_⟩, ?_, ?_⟩
    · rw [q1, bd_some, hb, if_pos rfl, if_neg (by decide)]
      simp only [x174_9, x174_2, x174_11, Option.bind_some, e174.1, e174.2.2.2.1, h2, r0_o hv, z1, bd_some, x174_9p, x174_8, x174_8p, tI1, f174.1]
      simp
    · exact ((Fa.of_oth q2).trans (Fa.of_oth z2)).trans ((agr_tI _ _ (fun h => h.1 rfl)).trans (agr_tI _ _ (fun h => h.1 rfl)))
    · show T2.2.2.2.1 174 = _
      rw [f174.2.2.2.1, e174.2.2.2.1]
    · intro k h8 h9
      rw [tI1, tI1, if_neg (fun h => h8 h.2), if_neg (fun h => h9 h.2), f174.1, e174.1]
    · intro i _ _ _ _ _
      show T2.2.1 175 i = _
      rw [f175.2.1, e175.2.1]
    · rw [tI1, if_pos ⟨rfl, rfl⟩, if_pos rfl]
    · rw [tI1, tI1, if_neg (fun h => absurd h.2 (by decide)), if_pos ⟨rfl, rfl⟩, if_pos rfl]
theorem c_touch {σ1 : Sg} (hF : CF nr n S T σ a lw q) (hX : CX T x) (hB : isB x.2.2.1 256) (ht : t < dN (cur σ) 3) (hw2 : T.2.1 175 2 = x.1) (hw3 : T.2.1 175 3 = drop) (hw4 : T.2.1 175 4 = nI x.2.1) (hw5 : T.2.1 175 5 = nI (dh (cur σ) c)) (hw11 : T.2.1 175 11 = nI (oth (cur σ) q c)) : ∃ T', f_X0_touch (cn n sl U S T σ1) 174 (nI t) = some (cn n sl U S T' σ1) ∧ Fk lw T T' ∧ CX T' (tch σ q c drop t x) := by
  obtain ⟨hD, hq, hS, hL, h0, h1, h2, h3, h4, h5, h6⟩ := hF
  obtain ⟨l, m, hv⟩ := hL.rv
  have bT := hD.bT
  have hG := hS.la
  have hg := hG.gv
  have hgl := hg.loc
  have hll := hv.loc
  have n6 : ¬ (T.2.2.2.1 a 0 + 6 = 175) := by omega
  have n7 : ¬ (T.2.2.2.1 a 0 + 7 = 175) := by omega
  have n8 : ¬ (T.2.2.2.1 a 0 + 8 = 175) := by omega
  obtain ⟨x1, x2, x3, x4⟩ := hX
  have fin : ∀ (v8 : Int32), v8 = (if cur σ 194 t = nI q then 1 else 0) → ∃ T', (bd (f_X5_breaksBy (cn n sl U S (tA (tA (tA (tA (tA T 175 1 (nI t)) 175 6 (cur σ 195 t)) 175 7 (cur σ 196 t)) 175 8 v8) 175 9 (nI (ct8 x.2.2.1))) σ1) lw 175) fun v29 μ28 =>
    (if v29 = 0 then
    (some μ28)
    else
    ((gI μ28 174 0 9).bind fun v30 =>
    ((gR μ28 174 0 2).bind fun v31 =>
    ((gR μ28 174 0 11).bind fun v32 =>
    ((ob μ28 v31 5).bind fun _ =>
    (bd (f_X5_lossBy μ28 v31 v32) fun v34 μ33 =>
    ((pV μ33 174 0 9 (.int (v30 + v34))).bind fun μ35 =>
    ((gI μ35 174 0 8).bind fun v36 =>
    ((pV μ35 174 0 8 (.int (v36 ||| ((1 : Int32) <<< (nI t &&& 31))))).bind fun μ37 =>
    (some μ37))))))))))) = some (cn n sl U S T' σ1) ∧ Fk lw T T' ∧ CX T' (tch σ q c drop t x) := by
    intro v8 e8
    have ag : Fk lw T (tA (tA (tA (tA (tA T 175 1 (nI t)) 175 6 (cur σ 195 t)) 175 7 (cur σ 196 t)) 175 8 v8) 175 9 (nI (ct8 x.2.2.1))) := by
      refine ⟨?_, rfl, fun _ _ _ => rfl, fun i i1 i6 i7 i8 i9 => ?_⟩
      · have nn : ¬ Fa lw 175 := fun h => h.2.1 rfl
        exact (agr_tA _ _ nn).trans ((agr_tA _ _ nn).trans ((agr_tA _ _ nn).trans ((agr_tA _ _ nn).trans (agr_tA _ _ nn))))
      · simp only [tA2, i1, i6, i7, i8, i9, and_false, ↓reduceIte]
    obtain ⟨T', q1, q2, q3, q4⟩ := c_tail (t := t) (n := n) (sl := sl) (U := U) (S := S) (σ := σ1) (w := wdF (cur σ) q t c drop x) (hL.fa ag.1) (by rw [ag.2.1]; exact h2) (by
      intro i hi
      rcases (show i = 0 ∨ i = 1 ∨ i = 2 ∨ i = 3 ∨ i = 4 ∨ i = 5 ∨ i = 6 ∨ i = 7 ∨ i = 8 ∨ i = 9 ∨ i = 10 ∨ i = 11 by omega) with rfl | rfl | rfl | rfl | rfl | rfl | rfl | rfl | rfl | rfl | rfl | rfl
      · exact h5
      · rfl
      · exact hw2
      · exact hw3
      · exact hw4
      · exact hw5
      · rfl
      · rfl
      · exact e8
      · rfl
      · exact h6
      · exact hw11)
    refine ⟨T', q1, ag.trans q2, ?_⟩
    unfold tch
    unfold CX
    rw [q3, q4, q2.2.2.1 6 (by decide) (by decide), q2.2.2.1 7 (by decide) (by decide)]
    cases hb : LB σ (wdF (cur σ) q t c drop x)
    · exact ⟨x1, x2, x3, x4⟩
    · refine ⟨x1, x2, ?_, ?_⟩
      · show T.1 174 8 ||| _ = _; rw [x3]; rfl
      · show T.1 174 9 + _ = _; rw [x4]; rfl
  unfold f_X0_touch
  simp only [x174_11, x174_1, x174_2, x174_3, x174_8, lit_1, lit_6, lit_7, lit_8, lit_9, x175_w (show 1 < 12 by decide), x175_w (show 6 < 12 by decide), x175_w (show 7 < 12 by decide), x175_w (show 8 < 12 by decide), x175_w (show 9 < 12 by decide), Option.bind_some, tA1, tA2, tA3, h1, h2, h3, g0_11 hg, g0_12 hg, g0_13 hg, g6_r hg (show t < 8 by omega), g7_r hg (show t < 8 by omega), g8_r hg (show t < 8 by omega), n6, n7, n8, false_and, ↓reduceIte, hG.ow t ht, hG.ha t ht, hG.wo t ht, x3, bc8 _ hB, bd_some, r0_o hv]
  by_cases ho : cur σ 194 t = nI q
  · rw [if_pos ho]
    exact fin (nI 1) (by rw [if_pos ho]; rfl)
  · rw [if_neg ho]
    exact fin 0 (by rw [if_neg ho])
end TOUCH
