/-! The call fall. -/
/-- all but the past is the same -/
def Prs (r : Nat) : Bool := decide (189 ≤ r ∧ r ≤ 202) || decide (216 ≤ r ∧ r ≤ 221) || decide (r = 223)
def Sm (σ σ' : Sg) : Prop := ∀ r, Prs r = true → σ'.2.1 r = σ.2.1 r
theorem Eqm.sm {σ σ' : Sg} (h : Eqm σ σ') : Sm σ σ' := fun r hr => h.2.2.2.2 r (by
  unfold Prs at hr
  unfold PerM
  simp only [Bool.or_eq_true, decide_eq_true_eq] at hr
  omega)
section SM
variable {σ σ' : Sg}
theorem Sm.cu (h : Sm σ σ') {r : Nat} (h0 : r ≠ 0) (h2 : Prs r = true) : cur σ' r = cur σ r := by
  funext i
  unfold cur
  rw [if_neg h0, if_neg h0, h r h2]
theorem sm_rf (h : Sm σ σ') : rf σ' = rf σ := by
  unfold rf
  rw [h 189 (by decide)]
theorem sm_rm (h : Sm σ σ') : rm σ' = rm σ := by
  unfold rm
  rw [sm_rf h, h 218 (by decide)]
theorem sm_knd (h : Sm σ σ') (r : Nat) (b : Int32) : kndB σ' r b = kndB σ r b := by
  funext c
  unfold kndB
  rw [h 223 (by decide)]
theorem sm_tel (h : Sm σ σ') (b : Int32) : telB σ' b = telB σ b := by
  unfold telB
  rw [sm_rf h, sm_rm h, sm_knd h, h 189 (by decide)]
theorem sm_tst (h : Sm σ σ') (r : Nat) (w : Nat → Int32) (c : Nat) : tstV σ' r w c = tstV σ r w c := by
  unfold tstV rY rZ rSo rNu
  rw [h 216 (by decide), h 217 (by decide), h 220 (by decide), h 221 (by decide)]
theorem sm_sum (h : Sm σ σ') (r : Nat) (w : Nat → Int32) (c : Nat) : sumV σ' r w c = sumV σ r w c := by
  unfold sumV rX rY rSo rNu
  rw [h 216 (by decide), h 217 (by decide), h 219 (by decide), h 220 (by decide)]
theorem sm_LB (h : Sm σ σ') (w : Nat → Int32) : LB σ' w = LB σ w := by
  have e : brkB σ' (rf σ) w = brkB σ (rf σ) w := by
    funext c
    unfold brkB
    rw [sm_knd h, sm_tst h]
  unfold LB
  rw [sm_tel h, sm_rf h, sm_rm h, e]
theorem sm_LM (h : Sm σ σ') (w : Nat → Int32) : LM σ' w = LM σ w := by
  have e : mrkB σ' (rf σ) w = mrkB σ (rf σ) w := by
    funext c
    unfold mrkB rY rZ
    rw [sm_knd h, sm_tst h, h 220 (by decide), h 221 (by decide)]
  have e2 : mrkV σ' (rf σ) w = mrkV σ (rf σ) w := by
    funext c k
    induction k generalizing c with
    | zero => rfl
    | succ k ih => rw [mrkV, mrkV, e, sm_sum h, ih]
  unfold LM
  rw [sm_tel h, sm_rf h, sm_rm h, e2]
theorem sm_dN (h : Sm σ σ') (k : Nat) : dN (cur σ') k = dN (cur σ) k := by unfold dN; rw [h.cu (by decide) (by decide)]
theorem sm_dh (h : Sm σ σ') : dh (cur σ') = dh (cur σ) := by
  funext c
  unfold dh
  rw [h.cu (by decide) (by decide)]
theorem sm_oth (h : Sm σ σ') (q c : Nat) : oth (cur σ') q c = oth (cur σ) q c := by
  unfold oth othK
  rw [sm_dN h, h.cu (by decide) (by decide)]
theorem sm_wdF (h : Sm σ σ') (q t c : Nat) (drop : Int32) (x : Fst) : wdF (cur σ') q t c drop x = wdF (cur σ) q t c drop x := by
  unfold wdF
  rw [sm_dh h, sm_oth h, h.cu (r := 195) (by decide) (by decide), h.cu (r := 196) (by decide) (by decide), h.cu (r := 194) (by decide) (by decide), h.cu (r := 192) (by decide) (by decide)]
theorem sm_tch (h : Sm σ σ') (q c : Nat) (drop : Int32) (t : Nat) (x : Fst) : tch σ' q c drop t x = tch σ q c drop t x := by
  unfold tch
  rw [sm_wdF h, sm_LB h, sm_LM h]
theorem sm_tchs (h : Sm σ σ') (q c : Nat) (drop : Int32) : ∀ (k : Nat) (x : Fst), tchs σ' q c drop k x = tchs σ q c drop k x
  | 0, _ => rfl
  | k + 1, x => by
    have e : whl (cur σ') c k = whl (cur σ) c k := by
      unfold whl
      rw [h.cu (r := 193) (by decide) (by decide), h.cu (r := 189) (by decide) (by decide)]
    rw [tchs, tchs, sm_tchs h q c drop k x, e, sm_tch h]
theorem sm_net (h : Sm σ σ') (c : Nat) : netB (cur σ') c = netB (cur σ) c := by
  unfold netB
  rw [sm_dN h, h.cu (r := 197) (by decide) (by decide)]
theorem sm_psh (h : Sm σ σ') (q d c : Nat) (p : Int32) : psh (cur σ') q d c p = psh (cur σ) q d c p := by
  unfold psh
  rw [sm_dh h, h.cu (r := 192) (by decide) (by decide)]
theorem sm_stpF (h : Sm σ σ') (q d c : Nat) (x : Fst) : stpF σ' q d c x = stpF σ q d c x := by
  unfold stpF
  rw [sm_net h, sm_oth h, sm_dh h, sm_dN h, sm_psh h, sm_tchs h]
theorem sm_ld (h : Sm σ σ') : ldD (cur σ') = ldD (cur σ) := by
  unfold ldD
  rw [sm_dN h, sm_dN h, sm_dh h]
theorem sm_runF (h : Sm σ σ') (q : Nat) : ∀ (k d : Nat) (o : Option Nat) (x : Fst), runF σ' q k d o x = runF σ q k d o x
  | 0, _, _, _ => rfl
  | _ + 1, _, none, _ => rfl
  | k + 1, d, some e, x => by rw [runF, runF, sm_net h, sm_ld h, sm_stpF h, sm_runF h q k]
theorem sm_nxt (h : Sm σ σ') (d s : Nat) : nxt (cur σ') d s = nxt (cur σ) d s := by
  unfold nxt
  rw [sm_ld h, sm_dN h, sm_dN h, sm_dh h]
theorem sm_flF (h : Sm σ σ') (q s : Nat) : flF σ' q s = flF σ q s := by
  unfold flF
  have e : dAt (cur σ') q = dAt (cur σ) q := by unfold dAt; rw [h.cu (r := 191) (by decide) (by decide)]
  rw [e, sm_nxt h, sm_runF h]
theorem sm_RLw {n a : Nat} {S : Nat → Nat × Nat × Nat} {T : Tc} (h : Sm σ σ') (hL : RLw n S T σ a) : RLw n S T σ' a := by
  rcases hL with ⟨h1, h2⟩ | ⟨r, l, m, h1, h2, h3⟩
  · exact .inl ⟨by rw [h 189 (by decide)]; exact h1, h2⟩
  · refine .inr ⟨r, l, m, h1, by rw [h 189 (by decide)]; exact h2, ?_⟩
    unfold RR at h3 ⊢
    rw [h 216 (by decide), h 217 (by decide), h 218 (by decide), h 219 (by decide), h 220 (by decide), h 221 (by decide), h 223 (by decide)]
    exact h3
end SM
theorem op_fall (q w : Int32) : OpR (fun μ => f_X11_fall μ 128 q w) (fun μ => f_X12_fall μ 188 q w) := by
  refine OpR.s fun n sl U S T σ nr hR => ?_
  have hR' := hR
  obtain ⟨hN, hTP, hRU, hIM, hD, hS⟩ := hR
  have hsv := hS.sv
  have b := hD.bP
  have bT := hD.bT
  show ∃ v T' σ', f_X11_fall (cn n sl U S T σ) 128 q w = some (v, cn n sl U S T' σ) ∧ (∀ ρ τ, f_X12_fall (mem ρ τ σ) 188 q w = some (v, mem ρ τ σ')) ∧ REL n S T' σ' nr
  unfold f_X11_fall f_X12_fall
  rw [x128_o, Option.bind_some, c_isPerson hS hD, bd_some]
  by_cases hq : isN q (dN (cur σ) 2)
  · rw [if_pos hq, if_neg (by decide), c_isLean, bd_some]
    by_cases hs : isN w 5
    · obtain ⟨j, hj, rfl⟩ := isN_of (by omega) hq
      obtain ⟨k, hk, rfl⟩ := isN_of (by decide) hs
      have h5 : j < 5 := by omega
      obtain ⟨Tf, t1, t2, t3, t4⟩ := c_tryFall (sl := sl) (U := U) (σ1 := σ) hR' hj hk
      have hRf := hR'.scr t2 (Eqm.refl σ)
      have hSf := hRf.2.2.2.2.2
      obtain ⟨m, off, hwr⟩ := wrp_ex hD.bM
      obtain ⟨T1, r1, r2⟩ := c_remember (n := n) (sl := sl) (U := U) (S := S) (T := Tf) (σ := σ) hSf.sv (hSf.ac.trans hD.sM) hwr (nI j) (cur σ 191 j)
      obtain ⟨σ1, k1, k2⟩ := s_keepsAct (σ := σ) (show σ.1 55 = nI (dM (cur σ)) from hD.sM) hwr
      have sm : Sm σ σ1 := fun r hr => k2.2.2.1 r (fun e => by subst e; exact absurd hr (by decide))
      obtain ⟨w1, w2⟩ := hwr.lt
      have wo : off ≤ 1 := by unfold wrp at hwr; omega
      have bM := hD.bM
      have hA := k2.ak w1 wo (by omega) rfl (fun _ _ => rfl) (fun _ _ _ _ => rfl) (by rw [k2.2.2.1 189 (by decide)]; show isB (cur σ 189 7) 256; rw [hD.sB]; exact ⟨_, hD.bB, rfl⟩)
      have hD1 : DG nr (cur σ1) := act_DG hD hA hwr (x := nI j) (y := cur σ 191 j) (.inl ⟨j, hj, rfl, rfl, by rw [sm.cu (by decide) (by decide)]; exact hD.at0 hj, fun p _ _ => by rw [sm.cu (by decide) (by decide)], fun t _ => by rw [sm.cu (by decide) (by decide)]⟩)
      obtain ⟨lw, l1, l2⟩ := c_law (sl := sl) (U := U) (σ1 := σ) hR'
      have hj1 : j < dN (cur σ1) 2 := by rw [sm_dN sm]; exact hj
      have hat := hD1.dAt hj1
      obtain ⟨σ3, z1, z2⟩ := s_falls hD1 (sm_RLw sm l2) hj1 hat.2 hk
      rw [← hat.1, sm.cu (r := 191) (by decide) (by decide)] at z1
      have efl : runF σ1 j 9 (dAt (cur σ1) j) (nxt (cur σ1) (dAt (cur σ1) j) k) (0, 0, 0, 0) = flF σ j k := sm_flF sm j k
      rw [efl] at z1 z2
      have f8 := flF_8 (q := j) (s := k) hD
      have fc := flF_c (s := k) hD hj
      have hs1 : T1.1 161 3 = cur σ 189 7 := by rw [r2.2.1 3 (by decide), hSf.br]
      have e174 : T1.1 174 = Tf.1 174 := (r2.1 174 (by omega)).1
      have sb : σ3.2.1 189 7 = cur σ 189 7 := by rw [z2.1, k2.2.2.1 189 (by decide)]; rfl
      refine ⟨mkI (flF σ j k).2.2.2.2, tI (tA T1 (161 + 1) j (nI (flF σ j k).1)) 161 3 (cur σ 189 7 ||| (flF σ j k).2.2.2.1), stA (stA σ3 191 j (nI (flF σ j k).1)) 189 7 (cur σ 189 7 ||| (flF σ j k).2.2.2.1), ?_, fun ρ τ => ?_, ?_⟩
      · have hmk : f_X0_mark (cn n sl U S (tI (tA T1 (161 + 1) j (nI (flF σ j k).1)) 161 3 (cur σ 189 7 ||| (flF σ j k).2.2.2.1)) σ) 174 = some (mkI (flF σ j k).2.2.2.2, cn n sl U S (tI (tA T1 (161 + 1) j (nI (flF σ j k).1)) 161 3 (cur σ 189 7 ||| (flF σ j k).2.2.2.1)) σ) := by
          unfold f_X0_mark
          rw [x174_9, Option.bind_some, tI1, if_neg (show ¬ (174 = 161 ∧ 9 = 3) by decide), tA1, e174, t3.2.2.2, mk_c (flF_b hD)]
        rw [if_pos hs, if_neg (by decide), x128_o, Option.bind_some, t1, Option.bind_some, x128_6, Option.bind_some, Option.bind_some, s0_4 hSf.sv, Option.bind_some, s1_r hSf.sv h5, Option.bind_some, hSf.pc j hj, s0_o hSf.sv, Option.bind_some, r1, Option.bind_some, x128_6, Option.bind_some, s0_4 hsv, Option.bind_some, x128_9, Option.bind_some, x174_5, Option.bind_some, e174, t4, s1_w hsv h5, Option.bind_some, x128_6, Option.bind_some, s0_3 hsv, Option.bind_some, x128_9, Option.bind_some, x174_8, Option.bind_some, tA1, e174, t3.2.2.1, hs1, s0_3p hsv, Option.bind_some, x128_9, Option.bind_some, x174_o, Option.bind_some, hmk, bd_some]
      · unfold f_X12_fallsNow
        rw [ob_mem, Option.bind_some, s_isPerson hD, bd_some, if_pos hq, if_neg (by decide), s_in, bd_some, if_pos (in04.2 hs), if_neg (by decide), ob_mem, Option.bind_some, k1, Option.bind_some, ob_mem, Option.bind_some, mR_3, Option.bind_some, Option.bind_some, y191_r h5, Option.bind_some, Option.bind_some, sm 191 (by decide), ← cu_191 h5, z1, bd_some, y191_w h5, Option.bind_some, mR_1, Option.bind_some, sc_7, Option.bind_some, mI_51, Option.bind_some, stA1, z2.2.2.2.2.1, stA2, if_neg (by omega), sb, sp_7, Option.bind_some, ob_mem, Option.bind_some, s_markOf (x := (flF σ j k).2) (show (stA (stA σ3 191 j (nI (flF σ j k).1)) 189 7 (cur σ 189 7 ||| (flF σ j k).2.2.2.1)).1 52 = _ from z2.2.2.2.2.2.1), bd_some, bd_some]
      · have hbr : isB (cur σ 189 7) 256 := by rw [hD.sB]; exact ⟨_, hD.bB, rfl⟩
        refine act_REL hRf hwr k2 r2 (fun k hk => ?_) (fun k hk => ?_) (fun r h1 h2 h3 => ?_) ?_ ?_ (fun k hk => ?_) rfl ?_ ?_ ?_ ?_
        · show σ3.1 k = _
          exact z2.2.1 k (by omega) (by omega) (by omega) (by omega)
        · rw [stA2, if_neg (fun h => hk h.2), stA2, if_neg (by omega), z2.1]
        · funext i
          rw [stA2, if_neg (by omega), stA2, if_neg (by omega), z2.1]
        · rw [stA2, if_pos ⟨rfl, rfl⟩]; exact isB_or hbr f8
        · exact (agr_tA _ _ (by omega)).trans (agr_tI _ _ (by omega))
        · rw [tI1, if_neg (fun h => hk h.2)]; rfl
        · rw [tI1, if_pos ⟨rfl, rfl⟩, stA2, if_pos ⟨rfl, rfl⟩]
        · intro p hp
          rw [tI2, tA2, stA2, if_neg (show ¬ (191 = 189 ∧ p = 7) by omega), stA2]
          by_cases e : p = j
          · rw [if_pos ⟨rfl, e⟩, if_pos ⟨rfl, e⟩]
          · rw [if_neg (fun h => e h.2), if_neg (fun h => e h.2), (r2.1 (161 + 1) (by omega)).2.1, hSf.pc p hp, z2.1, k2.2.2.1 191 (by decide), cu_191 (by omega)]
        · intro p hp
          rw [tI2, tA2, if_neg (by omega), stA2, if_neg (by omega), stA2, if_neg (by omega), (r2.1 (161 + 2) (by omega)).2.1, hSf.tc p hp, z2.1, k2.2.2.1 193 (by decide), cu_193 (by omega)]
        · have e191 : ∀ p, p < 5 → cur (stA (stA σ3 191 j (nI (flF σ j k).1)) 189 7 (cur σ 189 7 ||| (flF σ j k).2.2.2.1)) 191 p = if p = j then nI (flF σ j k).1 else cur σ 191 p := fun p hp => by
            rw [cu_191 hp, stA2, if_neg (by omega), stA2, z2.1, k2.2.2.1 191 (by decide), cu_191 hp]
            by_cases e : p = j
            · rw [if_pos ⟨rfl, e⟩, if_pos e]
            · rw [if_neg (fun h => e h.2), if_neg e]
          refine .inl ⟨j, hj, rfl, rfl, ?_, ?_, ?_⟩
          · rw [e191 j h5, if_pos rfl]; exact ⟨_, fc, rfl⟩
          · intro p hp e
            rw [e191 p (by omega), if_neg e]
          · intro t ht
            rw [cu_193 (by omega), stA2, if_neg (by omega), stA2, if_neg (by omega), z2.1, k2.2.2.1 193 (by decide), cu_193 (by omega)]
    · refine ⟨-1, T, σ, ?_, fun ρ τ => ?_, hR'⟩
      · rw [if_neg hs, if_pos rfl]
      · rw [ob_mem, Option.bind_some, s_isPerson hD, bd_some, if_pos hq, if_neg (by decide), s_in, bd_some, if_neg (fun h => hs (in04.1 h)), if_pos rfl]
  · refine ⟨-1, T, σ, ?_, fun ρ τ => ?_, hR'⟩
    · rw [if_neg hq, if_pos rfl]
    · rw [ob_mem, Option.bind_some, s_isPerson hD, bd_some, if_neg hq, if_pos rfl]
