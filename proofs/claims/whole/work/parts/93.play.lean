/-! A term played by the class. -/
theorem SRw.upd {n : Nat} {S : Nat → Nat × Nat × Nat} {T T' : Tc} {D D' : Dt} (h : SRw n S T 167 D) (ha : agr (fun r => r ≠ 167 ∧ r ≠ 168 ∧ r ≠ 187) T T') (h0 : T'.2.2.2.1 167 0 = T.2.2.2.1 167 0) (hg : gsame D D') (hp : ∀ p, p < dN D 2 → T'.2.1 168 p = D' 191 p) (ht : D' 193 = D 193) : SRw n S T' 167 D' := by
  have hgl := h.la.gv.loc
  refine ⟨h.sv, ?_, ?_, ?_⟩
  · rw [h0]
    exact (h.la.ext h.la.gv ha (fun j hj => by show _ ≠ 167 ∧ _ ≠ 168 ∧ _ ≠ 187; omega)).D hg
  · intro q hq
    rw [hg.n (by decide)] at hq
    exact hp q hq
  · intro t hq
    rw [hg.n (by decide)] at hq
    rw [ht, (ha 169 (by decide)).2.1]
    exact h.tc t hq
def plT (σ : Sg) (tt : Nat → Int32) : Nat → Int32 := fun w => if w = 0 then tt 0 + mkI (plF σ).2.2.2.2 else if w = 1 then tt 1 + nI (ct8 (plF σ).2.2.2.1) else tt 2 + (plF σ).2.1
def plK : Nat → Sg → (Nat → Int32) → Sg × (Nat → Int32)
  | 0, σ, tt => (σ, tt)
  | k + 1, σ, tt => plK k (plB σ) (plT σ tt)
section CPLAY
variable {nr n sl : Nat} {U : Nat → va_E} {S : Nat → Nat × Nat × Nat} {σ1 σk : Sg}
theorem r87_0 {T : Tc} : aI (cn n sl U S T σ1) 187 0 (0 : Int32) = some (T.2.1 187 0) := x187_r (i := 0) (by decide)
theorem r87_1 {T : Tc} : aI (cn n sl U S T σ1) 187 0 (1 : Int32) = some (T.2.1 187 1) := x187_r (i := 1) (by decide)
theorem r87_2 {T : Tc} : aI (cn n sl U S T σ1) 187 0 (2 : Int32) = some (T.2.1 187 2) := x187_r (i := 2) (by decide)
theorem w87_0 {T : Tc} {v : Int32} : sI (cn n sl U S T σ1) 187 0 (0 : Int32) v = some (cn n sl U S (tA T 187 0 v) σ1) := x187_w (i := 0) (by decide)
theorem w87_1 {T : Tc} {v : Int32} : sI (cn n sl U S T σ1) 187 0 (1 : Int32) v = some (cn n sl U S (tA T 187 1 v) σ1) := x187_w (i := 1) (by decide)
theorem w87_2 {T : Tc} {v : Int32} : sI (cn n sl U S T σ1) 187 0 (2 : Int32) v = some (cn n sl U S (tA T 187 2 v) σ1) := x187_w (i := 2) (by decide)
theorem ns_scr {T T' : Tc} {r : Nat} (h : agr (Oth r) T T') (hr : (167 ≤ r ∧ r ≤ 172) ∨ (174 ≤ r ∧ r ≤ 187)) : agr (Ns S) T T' := h.mono fun q hq e => hq (by
  subst e
  rcases hr with h | h
  · exact .inl h
  · exact .inr (.inl h))
theorem c_play1 {T : Tc} {σs : Sg} {tt : Nat → Int32} (hR : REL n S T σk nr) (sk : Sk σk σs) (hD : DG nr (cur σs)) (hS : SRt n S T (cur σs)) (hP : 0 < dN (cur σk) 2) (hC : 0 < nc (cur σk)) (ht : ∀ w, w < 3 → T.2.1 187 w = tt w) (m i : Int32) (K : Mm → Option Mm) (f : Nat) (hlt : ¬ m ≤ i) : ∃ T', f_X11_playTerm_L36 K (f + 1) (cn n sl U S T σ1) 128 m (nI (dN (cur σk) 2)) (nI (nc (cur σk))) i = f_X11_playTerm_L36 K f (cn n sl U S T' σ1) 128 m (nI (dN (cur σk) 2)) (nI (nc (cur σk))) (i + Int32.ofInt 1) ∧ agr (Ns S) T T' ∧ SRt n S T' (cur (plB σs)) ∧ ∀ w, w < 3 → T'.2.1 187 w = plT σs tt w := by
  have eP := sk.dN (k := 2) (by decide) (by decide)
  have eC := sk.nc
  have hP' : 0 < dN (cur σs) 2 := by rw [eP]; exact hP
  have hC' : 0 < nc (cur σs) := by rw [eC]; exact hC
  have bP := hD.bP
  have n48 := hD.n48
  have hx := hD.xN
  obtain ⟨hW, hbr, hxx⟩ := hS
  have hq : plQ σs < dN (cur σs) 2 := Nat.mod_lt _ hP'
  have q5 : plQ σs < 5 := by omega
  have hs5 : plS σs < 5 := Nat.mod_lt _ (by decide)
  have dA := plA_DG hD hP' hC'
  have skA := plA_Sk hD hP'
  have ok := plF_ok hD hP' hC'
  obtain ⟨T4, w4⟩ : ∃ Y : Tc, Y = tI (tA (tI (tI T 167 2 (nI (drN (xN σs)))) 167 2 (nI (drN (drN (xN σs))))) (167 + 1) (plQ σs) (nI (plC σs))) 167 2 (nI (drN (drN (drN (xN σs))))) := ⟨_, rfl⟩
  have s4 : agr (fun r => r ≠ 167 ∧ r ≠ 168 ∧ r ≠ 187) T T4 := by
    rw [w4]
    exact (agr_tI _ _ (fun h => h.1 rfl)).trans ((agr_tI _ _ (fun h => h.1 rfl)).trans ((agr_tA _ _ (fun h => h.2.1 rfl)).trans (agr_tI _ _ (fun h => h.1 rfl))))
  have s4' : agr (Ns S) T T4 := by
    rw [w4]
    exact (ns_scr (agr_tI _ _ (fun h => h rfl)) (.inl (by omega))).trans ((ns_scr (agr_tI _ _ (fun h => h rfl)) (.inl (by omega))).trans ((ns_scr (agr_tA _ _ (fun h => h rfl)) (.inl (by omega))).trans (ns_scr (agr_tI _ _ (fun h => h rfl)) (.inl (by omega)))))
  have p4 : ∀ p, T4.2.1 168 p = if p = plQ σs then nI (plC σs) else T.2.1 168 p := by
    intro p
    rw [w4, tI2, tA2]
    by_cases h : p = plQ σs
    · rw [if_pos ⟨rfl, h⟩, if_pos h]
    · rw [if_neg (fun e => h e.2), if_neg h]; rfl
  have b4 : T4.1 167 3 = cur σs 189 7 := by
    rw [w4, tI1, if_neg (by omega), tA1, tI1, if_neg (by omega), tI1, if_neg (by omega)]; exact hbr
  have u4 : T4.2.1 187 = T.2.1 187 := by
    rw [w4, tI2]
    show (tA (tI (tI T 167 2 (nI (drN (xN σs)))) 167 2 (nI (drN (drN (xN σs))))) (167 + 1) (plQ σs) (nI (plC σs))).2.1 187 = _
    funext j
    rw [tA2, if_neg (by omega)]; rfl
  have l4 : T4.2.2.2.1 167 0 = T.2.2.2.1 167 0 := by rw [w4]; rfl
  have x4 : T4.1 167 2 = nI (drN (drN (drN (xN σs)))) := by rw [w4, tI1, if_pos ⟨rfl, rfl⟩]
  have W4 : SRw n S T4 167 (cur (plA σs)) := hW.upd s4 l4 skA.gs (fun p hp => by
    rw [p4, plA_191 hD hP']
    by_cases h : p = plQ σs
    · rw [if_pos h, if_pos h]
    · rw [if_neg h, if_neg h]; exact hW.pc p hp) (skA.cr (by decide) (by decide))
  have R4 := hR.scr s4' (Eqm.refl σk)
  obtain ⟨lw, l1, l2⟩ := c_law (sl := sl) (U := U) (σ1 := σ1) R4
  obtain ⟨l, mm, hv⟩ := l2.rv
  have hl := hv.loc
  have LA : RLw n S T4 (plA σs) lw := (sk.trans skA).RLw l2
  obtain ⟨T0, T5, f1, f2, f3, f4, f5⟩ := c_fall1 (sl := sl) (U := U) (σ1 := σ1) (s := plS σs) dA (by rw [skA.dN (by decide) (by decide)]; exact hq) W4 (by rw [b4, plA_7 hD hP']) LA hs5
  have f4 : CX T5 (plF σs).2 := f4
  have f5 : T5.1 174 5 = nI (plF σs).1 := f5
  have W5 := W4.fa hv f3
  have e67 := f3 167 ⟨by decide, by decide, by omega⟩
  have e68 := f3 168 ⟨by decide, by decide, by omega⟩
  have e87 := f3 187 ⟨by decide, by decide, by omega⟩
  obtain ⟨T7, w7⟩ : ∃ Y : Tc, Y = tI (tA T5 (167 + 1) (plQ σs) (nI (plF σs).1)) 167 3 (cur σs 189 7 ||| (plF σs).2.2.2.1) := ⟨_, rfl⟩
  have v7 : T7.2.1 187 = T.2.1 187 := by
    rw [w7, tI2]
    funext j
    rw [tA2, if_neg (by omega), e87.2.1, u4]
  have c7 : T7.1 174 = T5.1 174 := by
    rw [w7]
    funext j
    rw [tI1, if_neg (by omega)]; rfl
  obtain ⟨T10, w10⟩ : ∃ Y : Tc, Y = tA (tA (tA T7 187 0 (tt 0 + mkI (plF σs).2.2.2.2)) 187 1 (tt 1 + nI (ct8 (plF σs).2.2.2.1))) 187 2 (tt 2 + (plF σs).2.1) := ⟨_, rfl⟩
  have z7 : agr (fun r => r ≠ 167 ∧ r ≠ 168 ∧ r ≠ 187) T5 T10 := by
    rw [w10, w7]
    exact (agr_tA _ _ (fun h => h.2.1 rfl)).trans ((agr_tI _ _ (fun h => h.1 rfl)).trans ((agr_tA _ _ (fun h => h.2.2 rfl)).trans ((agr_tA _ _ (fun h => h.2.2 rfl)).trans (agr_tA _ _ (fun h => h.2.2 rfl)))))
  have z7' : agr (Ns S) T5 T10 := by
    rw [w10, w7]
    exact (ns_scr (agr_tA _ _ (fun h => h rfl)) (.inl (by omega))).trans ((ns_scr (agr_tI _ _ (fun h => h rfl)) (.inl (by omega))).trans ((ns_scr (agr_tA _ _ (fun h => h rfl)) (.inr (by omega))).trans ((ns_scr (agr_tA _ _ (fun h => h rfl)) (.inr (by omega))).trans (ns_scr (agr_tA _ _ (fun h => h rfl)) (.inr (by omega))))))
  refine ⟨T10, ?_, (s4'.trans (fa_ns hv f3)).trans z7', ⟨?_, ?_, ?_⟩, ?_⟩
  · have d1 := c_draw (n := n) (sl := sl) (U := U) (S := S) (T := T) (σ1 := σ1) (hxx.trans hx.1) hx.2
    have d2 := c_draw (n := n) (sl := sl) (U := U) (S := S) (T := tI T 167 2 (nI (drN (xN σs)))) (σ1 := σ1) (j := drN (xN σs)) (by rw [tI1, if_pos ⟨rfl, rfl⟩]) (drN_lt _)
    have d3 := c_draw (n := n) (sl := sl) (U := U) (S := S) (T := tA (tI (tI T 167 2 (nI (drN (xN σs)))) 167 2 (nI (drN (drN (xN σs))))) (167 + 1) (plQ σs) (nI (plC σs))) (σ1 := σ1) (j := drN (drN (xN σs))) (by rw [tA1, tI1, if_pos ⟨rfl, rfl⟩]) (drN_lt _)
    have lt1 : ∀ j, drN j / 65536 < 2 ^ 31 := fun j => Nat.lt_of_le_of_lt (Nat.div_le_self _ _) (drN_lt j)
    have hmk : f_X0_mark (cn n sl U S T7 σ1) 174 = some (mkI (plF σs).2.2.2.2, cn n sl U S T7 σ1) := by
      unfold f_X0_mark
      rw [x174_9, Option.bind_some, c7, f4.2.2.2, mk_c (show isB (plF σs).2.2.2.2 10000 from flF_b dA)]
    rw [f_X11_playTerm_L36, if_neg hlt, x128_7, Option.bind_some, s0_o sv_167, Option.bind_some, d1, bd_some, rmI_n (lt1 _) hP (by omega), show drN (xN σs) / 65536 % dN (cur σk) 2 = plQ σs by unfold plQ; rw [eP], nm_q, x128_7, Option.bind_some, s0_4 sv_167, Option.bind_some, Option.bind_some, s0_o sv_167, Option.bind_some, d2, bd_some, rmI_n (lt1 _) hC (by omega), show drN (drN (xN σs)) / 65536 % nc (cur σk) = plC σs by unfold plC; rw [eC], s1_w sv_167 q5, Option.bind_some, x128_7, Option.bind_some, s0_o sv_167, Option.bind_some, d3, bd_some, show (5 : Int32) = nI 5 from rfl, rmI_n (lt1 _) (by decide) (by decide), show drN (drN (drN (xN σs))) / 65536 % 5 = plS σs from rfl, nm_q, ← w4, x128_9, Option.bind_some, x128_7, Option.bind_some, x128_o, Option.bind_some, l1, bd_some, x174_o, Option.bind_some, f1, Option.bind_some, x128_9, Option.bind_some, x174_o, Option.bind_some, f2, Option.bind_some, x128_7, Option.bind_some, s0_4 sv_167, Option.bind_some, x128_9, Option.bind_some, x174_5, Option.bind_some, f5, s1_w sv_167 q5, Option.bind_some, x128_7, Option.bind_some, s0_3 sv_167, Option.bind_some, x128_9, Option.bind_some, x174_8, Option.bind_some, show (tA T5 (167 + 1) (plQ σs) (nI (plF σs).1)).1 167 3 = cur σs 189 7 by rw [tA1, e67.1]; exact b4, show (tA T5 (167 + 1) (plQ σs) (nI (plF σs).1)).1 174 8 = (plF σs).2.2.2.1 from f4.2.2.1, s0_3p sv_167, Option.bind_some, ← w7, x128_13, Option.bind_some, r87_0, Option.bind_some, x128_9, Option.bind_some, x174_o, Option.bind_some, hmk, bd_some, v7, ht 0 (by decide), w87_0, Option.bind_some, x128_13, Option.bind_some, r87_1, Option.bind_some, x128_9, Option.bind_some, x174_8, Option.bind_some, show (tA T7 187 0 (tt 0 + mkI (plF σs).2.2.2.2)).1 174 8 = (plF σs).2.2.2.1 by rw [tA1, c7]; exact f4.2.2.1, bc8 _ ok.2, bd_some, show (tA T7 187 0 (tt 0 + mkI (plF σs).2.2.2.2)).2.1 187 1 = tt 1 by rw [tA2, if_neg (by omega), v7]; exact ht 1 (by decide), w87_1, Option.bind_some, x128_13, Option.bind_some, r87_2, Option.bind_some, x128_9, Option.bind_some, x174_6, Option.bind_some, show (tA (tA T7 187 0 (tt 0 + mkI (plF σs).2.2.2.2)) 187 1 (tt 1 + nI (ct8 (plF σs).2.2.2.1))).1 174 6 = (plF σs).2.1 by rw [tA1, tA1, c7]; exact f4.1, show (tA (tA T7 187 0 (tt 0 + mkI (plF σs).2.2.2.2)) 187 1 (tt 1 + nI (ct8 (plF σs).2.2.2.1))).2.1 187 2 = tt 2 by rw [tA2, if_neg (by omega), tA2, if_neg (by omega), v7]; exact ht 2 (by decide), w87_2, Option.bind_some, ← w10, nm_q]
  · have skB : Sk (plA σs) (plB σs) := (Sk.s191 _ _ q5).trans (Sk.s189 _ _ (.inl rfl))
    refine W5.upd z7 (by rw [w10, w7]; rfl) skB.gs (fun p hp => ?_) (skB.cr (by decide) (by decide))
    have e : T10.2.1 168 p = if p = plQ σs then nI (plF σs).1 else T5.2.1 168 p := by
      rw [w10, tA2, if_neg (by omega), tA2, if_neg (by omega), tA2, if_neg (by omega), w7, tI2, tA2]
      by_cases h : p = plQ σs
      · rw [if_pos ⟨rfl, h⟩, if_pos h]
      · rw [if_neg (fun e => h e.2), if_neg h]
    rw [e, plB_191 hD hP']
    by_cases h : p = plQ σs
    · rw [if_pos h, if_pos h]
    · rw [if_neg h, if_neg h, e68.2.1, p4, if_neg h]
      rw [skA.dN (by decide) (by decide)] at hp
      exact hW.pc p hp
  · rw [w10, tA1, tA1, tA1, w7, tI1, if_pos ⟨rfl, rfl⟩, plB_7]
  · rw [w10, tA1, tA1, tA1, w7, tI1, if_neg (by omega), tA1, e67.1, x4, plB_9 hD hP']
  · intro w hw
    rw [w10]
    rcases (show w = 0 ∨ w = 1 ∨ w = 2 by omega) with rfl | rfl | rfl
    · rw [tA2, if_neg (by omega), tA2, if_neg (by omega), tA2, if_pos ⟨rfl, rfl⟩]; rfl
    · rw [tA2, if_neg (by omega), tA2, if_pos ⟨rfl, rfl⟩]; rfl
    · rw [tA2, if_pos ⟨rfl, rfl⟩]; rfl
end CPLAY
