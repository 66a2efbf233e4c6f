/-! Simple questions: cell, thing, count; seed, force, end. -/
section IN
variable {n sl : Nat} {U : Nat → va_E} {S : Nat → Nat × Nat × Nat} {T : Tc} {σ : Sg} {ρ : Mm} {τ : Nat → va_E}
theorem c_peopleInL {a P : Nat} (hs : SV n S a) (hg : GV n S (T.2.2.2.1 a 0)) (hP : T.1 (T.2.2.2.1 a 0) 6 = nI P) (hP5 : P ≤ 5) (x : Int32) (K : Mm → Int32 → Option (Int32 × Mm)) : f_X7_peopleIn_L4 K FU (cn n sl U S T σ) a x 0 0 = K (cn n sl U S T σ) (mI (fun q => decide (T.2.1 (a + 1) q = x)) P) := by
  have key : ∀ (i m : Nat), i ≤ P → P - i < m → f_X7_peopleIn_L4 K m (cn n sl U S T σ) a x (mI (fun q => decide (T.2.1 (a + 1) q = x)) i) (nI i) = K (cn n sl U S T σ) (mI (fun q => decide (T.2.1 (a + 1) q = x)) P) := by
    refine lpU (fun m i => f_X7_peopleIn_L4 K m (cn n sl U S T σ) a x (mI (fun q => decide (T.2.1 (a + 1) q = x)) i) (nI i) = K (cn n sl U S T σ) (mI (fun q => decide (T.2.1 (a + 1) q = x)) P)) P ?_ ?_
    · intro m
      rw [f_X7_peopleIn_L4]
      simp only [s0_0 hs, g0_6 hg, Option.bind_some, hP]
      rw [if_pos (nI_le (Nat.le_refl _) (by omega))]
    · intro m i hi ih
      rw [f_X7_peopleIn_L4]
      simp only [s0_0 hs, s0_4 hs, g0_6 hg, Option.bind_some, hP, s1_r hs (show i < 5 by omega), nm, oi1, nI_1]
      rw [if_neg (nI_ge hi (by omega))]
      rw [mI] at ih
      by_cases h : T.2.1 (a + 1) i = x
      · rw [if_pos h]; rw [if_pos (by simpa using h)] at ih; exact ih
      · rw [if_neg h]; rw [if_neg (by simpa using h)] at ih; exact ih
  exact key 0 FU (by omega) (FUb (by omega))
theorem c_peopleIn {a P : Nat} (hs : SV n S a) (hg : GV n S (T.2.2.2.1 a 0)) (hP : T.1 (T.2.2.2.1 a 0) 6 = nI P) (hP5 : P ≤ 5) (x : Int32) : f_X7_peopleIn (cn n sl U S T σ) a x = some (mI (fun q => decide (T.2.1 (a + 1) q = x)) P, cn n sl U S T σ) := by
  unfold f_X7_peopleIn
  simp only [nm]
  rw [c_peopleInL hs hg hP hP5]
theorem c_thingsInL {a P : Nat} (hs : SV n S a) (hg : GV n S (T.2.2.2.1 a 0)) (hP : T.1 (T.2.2.2.1 a 0) 9 = nI P) (hP5 : P ≤ 8) (x : Int32) (K : Mm → Int32 → Option (Int32 × Mm)) : f_X7_thingsIn_L4 K FU (cn n sl U S T σ) a x 0 0 = K (cn n sl U S T σ) (mI (fun q => decide (T.2.1 (a + 2) q = x)) P) := by
  have key : ∀ (i m : Nat), i ≤ P → P - i < m → f_X7_thingsIn_L4 K m (cn n sl U S T σ) a x (mI (fun q => decide (T.2.1 (a + 2) q = x)) i) (nI i) = K (cn n sl U S T σ) (mI (fun q => decide (T.2.1 (a + 2) q = x)) P) := by
    refine lpU (fun m i => f_X7_thingsIn_L4 K m (cn n sl U S T σ) a x (mI (fun q => decide (T.2.1 (a + 2) q = x)) i) (nI i) = K (cn n sl U S T σ) (mI (fun q => decide (T.2.1 (a + 2) q = x)) P)) P ?_ ?_
    · intro m
      rw [f_X7_thingsIn_L4]
      simp only [s0_0 hs, g0_9 hg, Option.bind_some, hP]
      rw [if_pos (nI_le (Nat.le_refl _) (by omega))]
    · intro m i hi ih
      rw [f_X7_thingsIn_L4]
      simp only [s0_0 hs, s0_5 hs, g0_9 hg, Option.bind_some, hP, s2_r hs (show i < 8 by omega), nm, oi1, nI_1]
      rw [if_neg (nI_ge hi (by omega))]
      rw [mI] at ih
      by_cases h : T.2.1 (a + 2) i = x
      · rw [if_pos h]; rw [if_pos (by simpa using h)] at ih; exact ih
      · rw [if_neg h]; rw [if_neg (by simpa using h)] at ih; exact ih
  exact key 0 FU (by omega) (FUb (by omega))
theorem c_thingsIn {a P : Nat} (hs : SV n S a) (hg : GV n S (T.2.2.2.1 a 0)) (hP : T.1 (T.2.2.2.1 a 0) 9 = nI P) (hP5 : P ≤ 8) (x : Int32) : f_X7_thingsIn (cn n sl U S T σ) a x = some (mI (fun q => decide (T.2.1 (a + 2) q = x)) P, cn n sl U S T σ) := by
  unfold f_X7_thingsIn
  simp only [nm]
  rw [c_thingsInL hs hg hP hP5]
theorem or0 (x : Int32) : x ||| 0 = x := by
  refine b_ext fun i _ => ?_
  rw [b_or, b_0, Bool.or_false]
theorem s_peopleIn {P : Nat} (hP : σ.2.1 189 2 = nI P) (hP5 : P ≤ 5) (x : Int32) (K : Mm → Int32 → Option (Int32 × Mm)) : f_X12_cell_L88 K FU (mem ρ τ σ) 188 x 0 0 = K (mem ρ τ σ) (mI (fun q => decide (σ.2.1 191 q = x)) P) := by
  have key : ∀ (i m : Nat), i ≤ P → P - i < m → f_X12_cell_L88 K m (mem ρ τ σ) 188 x (mI (fun q => decide (σ.2.1 191 q = x)) i) (nI i) = K (mem ρ τ σ) (mI (fun q => decide (σ.2.1 191 q = x)) P) := by
    refine lpU (fun m i => f_X12_cell_L88 K m (mem ρ τ σ) 188 x (mI (fun q => decide (σ.2.1 191 q = x)) i) (nI i) = K (mem ρ τ σ) (mI (fun q => decide (σ.2.1 191 q = x)) P)) P ?_ ?_
    · intro m
      rw [f_X12_cell_L88]
      simp only [mR_1, sc_2, Option.bind_some, hP]
      rw [if_pos (nI_le (Nat.le_refl _) (by omega))]
    · intro m i hi ih
      rw [f_X12_cell_L88]
      simp only [mR_1, mR_3, sc_2, Option.bind_some, hP, y191_r (show i < 5 by omega), nm, oi1, nI_1, or0]
      rw [if_neg (nI_ge hi (by omega))]
      rw [mI] at ih
      by_cases h : σ.2.1 191 i = x
      · rw [if_pos h]; rw [if_pos (by simpa using h)] at ih; exact ih
      · rw [if_neg h]; rw [if_neg (by simpa using h)] at ih; exact ih
  exact key 0 FU (by omega) (FUb (by omega))
theorem s_thingsIn {P : Nat} (hP : σ.2.1 189 3 = nI P) (hP5 : P ≤ 8) (x : Int32) (K : Mm → Int32 → Option (Int32 × Mm)) : f_X12_cell_L134 K FU (mem ρ τ σ) 188 x 0 0 = K (mem ρ τ σ) (mI (fun q => decide (σ.2.1 193 q = x)) P) := by
  have key : ∀ (i m : Nat), i ≤ P → P - i < m → f_X12_cell_L134 K m (mem ρ τ σ) 188 x (mI (fun q => decide (σ.2.1 193 q = x)) i) (nI i) = K (mem ρ τ σ) (mI (fun q => decide (σ.2.1 193 q = x)) P) := by
    refine lpU (fun m i => f_X12_cell_L134 K m (mem ρ τ σ) 188 x (mI (fun q => decide (σ.2.1 193 q = x)) i) (nI i) = K (mem ρ τ σ) (mI (fun q => decide (σ.2.1 193 q = x)) P)) P ?_ ?_
    · intro m
      rw [f_X12_cell_L134]
      simp only [mR_1, sc_3, Option.bind_some, hP]
      rw [if_pos (nI_le (Nat.le_refl _) (by omega))]
    · intro m i hi ih
      rw [f_X12_cell_L134]
      simp only [mR_1, mR_5, sc_3, Option.bind_some, hP, y193_r (show i < 8 by omega), nm, oi1, nI_1, or0]
      rw [if_neg (nI_ge hi (by omega))]
      rw [mI] at ih
      by_cases h : σ.2.1 193 i = x
      · rw [if_pos h]; rw [if_pos (by simpa using h)] at ih; exact ih
      · rw [if_neg h]; rw [if_neg (by simpa using h)] at ih; exact ih
  exact key 0 FU (by omega) (FUb (by omega))
theorem c_hasNet {nr g : Nat} {D : Dt} (hG : GR n S T g D) (hD : DG nr D) {c : Nat} (hc : c < 48) : f_X1_hasNet (cn n sl U S T σ) g (nI c) = some (if netK (D 197) (nI c) (dN D 4) then (1 : Int32) else 0, cn n sl U S T σ) := by
  have hn := hD.n48
  unfold f_X1_hasNet
  simp only [g0_5 hG.gv, Option.bind_some, lg_eq0, ↓z01, ↓z11, hG.ne, L_bit (show c < 64 by omega), btL_nbL (D 197) (dN D 4) (fun i hi => (hD.ne i hi).mono hn) hc]
  cases netK (D 197) (nI c) (dN D 4) <;> rfl
theorem ct_nbL (f : Nat → Int32) : ∀ (k : Nat), (∀ i, i < k → isB (f i) 48) → (∀ i j, i < k → j < k → f i = f j → i = j) → fb_ct (btL (nbL f k)) 64 = k
  | 0, _, _ => fb_ct_zero.2 fun i _ => by rw [nbL, L_0]
  | k + 1, hf, hd => by
    have ih := ct_nbL f k (fun i hi => hf i (by omega)) (fun i j hi hj => hd i j (by omega) (by omega))
    obtain ⟨j, h1, h2⟩ := hf k (by omega)
    have hno : btL (nbL f k) j = false := by
      rw [btL_nbL f k (fun i hi => hf i (by omega)) h1]
      cases hq : netK f (nI j) k
      · rfl
      · obtain ⟨i, q1, q2⟩ := (netK_iff _ _ _).1 hq
        have := hd i k (by omega) (by omega) (q2.trans h2.symm)
        omega
    have e : fb_ct (btL (nbL f (k + 1))) 64 = fb_ct (fun i => if i = j then true else btL (nbL f k) i) 64 := by
      refine fb_ct_cong fun i _ => ?_
      rw [nbL, L_or, h2, L_one (by omega)]
      by_cases hi : i = j
      · subst hi; simp
      · simp [hi]
    have u := fb_ct_upd (btL (nbL f k)) true (i := j) (n := 64) (by omega)
    rw [hno] at u
    rw [e]
    simp only [if_pos, Bool.false_eq_true, if_false] at u
    omega
theorem c_netCount {nr g : Nat} {D : Dt} (hG : GR n S T g D) (hD : DG nr D) : f_X1_netCount (cn n sl U S T σ) g = some (nI (dN D 4), cn n sl U S T σ) := by
  have hn := hD.n48
  unfold f_X1_netCount
  simp only [g0_5 hG.gv, Option.bind_some, pop64, bd_some, hG.ne, ct_nbL (D 197) (dN D 4) (fun i hi => (hD.ne i hi).mono hn) hD.nd]
end IN
theorem op_thing (q w : Int32) : OpR (fun μ => f_X11_thing μ 128 q w) (fun μ => f_X12_thing μ 188 q w) := by
  refine OpR.q0 fun n sl U S T σ nr hR => ?_
  obtain ⟨hN, hTP, hRU, hIM, hD, hS⟩ := hR
  have b := hD.bT
  have hv := hS.la.gv
  have hsv := hS.sv
  unfold f_X11_thing f_X12_thing f_X7_isBroken
  simp only [x128_o, x128_6, Option.bind_some, bd_some, c_isThing hS hD, s_isThing hD, ob_mem, mR_1, mR_5, mR_6, mR_7, mR_8, s0_0 hsv, s0_o hsv, s0_3 hsv, s0_5 hsv, g0_11 hv, g0_12 hv, g0_13 hv, sc_7, hS.br, cs_7, ↓z01, ↓z11]
  by_cases hq : isN q (dN (cur σ) 3)
  · obtain ⟨j, hj, rfl⟩ := isN_of (by omega) hq
    have h8 : j < 8 := by omega
    simp only [if_pos hq, i10, ↓reduceIte, y193_r h8, y194_r h8, y195_r h8, y196_r h8, s2_r hsv h8, g6_r hv h8, g7_r hv h8, g8_r hv h8, Option.bind_some, hS.tc j hj, hS.la.ow j hj, hS.la.ha j hj, hS.la.wo j hj, cu_193 h8, cu_194 h8, cu_195 h8, cu_196 h8]
    by_cases h0 : w = 0
    · simp only [if_pos h0]; exact ⟨_, rfl, fun _ _ => rfl⟩
    · by_cases h1 : w = 1
      · simp only [if_neg h0, if_pos h1]; exact ⟨_, rfl, fun _ _ => rfl⟩
      · by_cases h2 : w = 2
        · simp only [if_neg h0, if_neg h1, if_pos h2]; exact ⟨_, rfl, fun _ _ => rfl⟩
        · by_cases h3 : w = 3
          · simp only [if_neg h0, if_neg h1, if_neg h2, if_pos h3]; exact ⟨_, rfl, fun _ _ => rfl⟩
          · by_cases h4 : w = 4
            · simp only [if_neg h0, if_neg h1, if_neg h2, if_neg h3, if_pos h4, I_bitv (show j < 31 by omega)]
              cases hb : bt (cur σ 189 7) j
              · refine ⟨0, ?_, fun _ _ => ?_⟩
                · simp only [Bool.false_eq_true, ↓reduceIte, bd_some]
                · simp only [Bool.false_eq_true, ↓reduceIte]
              · refine ⟨1, ?_, fun _ _ => ?_⟩
                · simp only [↓reduceIte, i10, bd_some]
                · simp only [↓reduceIte]
            · simp only [if_neg h0, if_neg h1, if_neg h2, if_neg h3, if_neg h4]; exact ⟨_, rfl, fun _ _ => rfl⟩
  · simp only [if_neg hq, ↓reduceIte]; exact ⟨_, rfl, fun _ _ => rfl⟩
theorem op_count (w : Int32) : OpR (fun μ => f_X11_count μ 128 w) (fun μ => f_X12_count μ 188 w) := by
  refine OpR.q0 fun n sl U S T σ nr hR => ?_
  obtain ⟨⟨hN1, hN2, hN3, -⟩, ⟨L, hL, hL1, hL2, -⟩, hRU, hIM, hD, hS⟩ := hR
  have hv := hS.la.gv
  have hsv := hS.sv
  unfold f_X11_count f_X12_count
  simp only [x128_6, x128_0, x128_5, x129_1, Option.bind_some, bd_some, nm, mR_1, mI_32, mI_28, mI_55, sc_0, sc_1, sc_2, sc_3, sc_4, sc_5, sc_6, sc_7, sc_8, sc_9, sc_10, s0_0 hsv, s0_1 hsv, s0_2 hsv, s0_3 hsv, s0_6 hsv, s0_9 hsv, g0_o hv, g0_0 hv, g0_1 hv, g0_6 hv, g0_9 hv, g0_14 hv, g9_0 hv, g9_2 hv, c_netCount hS.la hD, cs_0, cs_1, cs_2, cs_3, cs_4, cs_5, cs_6, cs_7, cs_8, cs_9, cs_10, hS.la.cg.1, hS.la.cg.2.1, hS.la.pe, hS.la.th, hS.la.to, hS.la.af, hS.br, hS.fo, hS.xx, hS.ck, hS.ac, hN2, hN3, hL1, hL2, hD.sC, hD.sR, hD.sN, c00]
  by_cases h0 : w = 0
  · simp only [if_pos h0]; exact ⟨_, rfl, fun _ _ => rfl⟩
  by_cases h1 : w = 1
  · simp only [if_neg h0, if_pos h1]; exact ⟨_, rfl, fun _ _ => rfl⟩
  by_cases h2 : w = 2
  · simp only [if_neg h0, if_neg h1, if_pos h2]; exact ⟨_, rfl, fun _ _ => rfl⟩
  by_cases h3 : w = 3
  · simp only [if_neg h0, if_neg h1, if_neg h2, if_pos h3]; exact ⟨_, rfl, fun _ _ => rfl⟩
  by_cases h4 : w = 4
  · simp only [if_neg h0, if_neg h1, if_neg h2, if_neg h3, if_pos h4]; exact ⟨_, rfl, fun _ _ => rfl⟩
  by_cases h5 : w = 5
  · simp only [if_neg h0, if_neg h1, if_neg h2, if_neg h3, if_neg h4, if_pos h5]; exact ⟨_, rfl, fun _ _ => rfl⟩
  by_cases h6 : w = 6
  · simp only [if_neg h0, if_neg h1, if_neg h2, if_neg h3, if_neg h4, if_neg h5, if_pos h6]; exact ⟨_, rfl, fun _ _ => rfl⟩
  by_cases h7 : w = 7
  · simp only [if_neg h0, if_neg h1, if_neg h2, if_neg h3, if_neg h4, if_neg h5, if_neg h6, if_pos h7]; exact ⟨_, rfl, fun _ _ => rfl⟩
  by_cases h8 : w = 8
  · simp only [if_neg h0, if_neg h1, if_neg h2, if_neg h3, if_neg h4, if_neg h5, if_neg h6, if_neg h7, if_pos h8]; exact ⟨_, rfl, fun _ _ => rfl⟩
  by_cases h9 : w = 9
  · simp only [if_neg h0, if_neg h1, if_neg h2, if_neg h3, if_neg h4, if_neg h5, if_neg h6, if_neg h7, if_neg h8, if_pos h9]; exact ⟨_, rfl, fun _ _ => rfl⟩
  simp only [if_neg h0, if_neg h1, if_neg h2, if_neg h3, if_neg h4, if_neg h5, if_neg h6, if_neg h7, if_neg h8, if_neg h9]
  by_cases h10 : w = 10
  · simp only [if_pos h10]; exact ⟨_, rfl, fun _ _ => rfl⟩
  by_cases h11 : w = 11
  · simp only [if_neg h10, if_pos h11]; exact ⟨_, rfl, fun _ _ => rfl⟩
  by_cases h12 : w = 12
  · simp only [if_neg h10, if_neg h11, if_pos h12]; exact ⟨_, rfl, fun _ _ => rfl⟩
  by_cases h13 : w = 13
  · simp only [if_neg h10, if_neg h11, if_neg h12, if_pos h13]; exact ⟨_, rfl, fun _ _ => rfl⟩
  simp only [if_neg h10, if_neg h11, if_neg h12, if_neg h13]; exact ⟨_, rfl, fun _ _ => rfl⟩
theorem op_cell (q w : Int32) : OpR (fun μ => f_X11_cell μ 128 q w) (fun μ => f_X12_cell μ 188 q w) := by
  refine OpR.q0 fun n sl U S T σ nr hR => ?_
  obtain ⟨hN, hTP, hRU, hIM, hD, hS⟩ := hR
  have hn := hD.n48
  have bP := hD.bP
  have bT := hD.bT
  have hv := hS.la.gv
  have hsv := hS.sv
  unfold f_X11_cell f_X12_cell
  simp only [x128_o, x128_6, Option.bind_some, bd_some, c_isCell hS, s_isC hD, ob_mem, mR_2, s0_0 hsv, s0_o hsv, g0_3 hv, g0_4 hv, g0_o hv]
  by_cases hq : isN q (nc (cur σ))
  · obtain ⟨j, hj, rfl⟩ := isN_of (by omega) hq
    have h48 : j < 48 := by omega
    have hgs := hD.gs (by omega)
    simp only [if_pos hq, i10, ↓reduceIte, h_at hD.mg hn hj, g1_r hv h48, hS.la.cg.2.2.2 j hj, Option.bind_some, c_lead hv hS.la.cl hn hj, s_lead hD.mg hgs hj, bd_some, c_hasNet hS.la hD h48, s_isNet (N := dN (cur σ) 4) hD.sN hD.bN, c_peopleIn hsv hv (hS.la.pe.trans hD.sP) bP, c_thingsIn hsv hv (hS.la.th.trans hD.sT) bT, nm, s_peopleIn (P := dN (cur σ) 2) hD.sP bP, s_thingsIn (P := dN (cur σ) 3) hD.sT bT, c_floorUnder hv hS.la.cl hgs hj, c_stepsUnder hv hS.la.cl hgs hj, s_endOf hD.mg hgs hj, s_stepsOf hD.mg hgs hj]
    have e1 : mI (fun q => decide (T.2.1 (161 + 1) q = nI j)) (dN (cur σ) 2) = mI (fun q => decide (σ.2.1 191 q = nI j)) (dN (cur σ) 2) := mI_congr fun i hi => by rw [hS.pc i hi, cu_191 (by omega)]
    have e2 : mI (fun q => decide (T.2.1 (161 + 2) q = nI j)) (dN (cur σ) 3) = mI (fun q => decide (σ.2.1 193 q = nI j)) (dN (cur σ) 3) := mI_congr fun i hi => by rw [hS.tc i hi, cu_193 (by omega)]
    have e3 : netK (cur σ 197) (nI j) (dN (cur σ) 4) = netK (σ.2.1 197) (nI j) (dN (cur σ) 4) := by
      have hb := hD.bN
      have : ∀ k, k ≤ 4 → netK (cur σ 197) (nI j) k = netK (σ.2.1 197) (nI j) k := by
        intro k hk
        induction k with
        | zero => rfl
        | succ k ih => rw [netK, netK, ih (by omega), cu_197 (by omega)]
      exact this _ hb
    rw [e1, e2, e3]
    by_cases h0 : w = 0
    · simp only [if_pos h0]; exact ⟨_, rfl, fun _ _ => rfl⟩
    by_cases h1 : w = 1
    · simp only [if_neg h0, if_pos h1]; exact ⟨_, rfl, fun _ _ => rfl⟩
    by_cases h2 : w = 2
    · simp only [if_neg h0, if_neg h1, if_pos h2]
      cases netK (σ.2.1 197) (nI j) (dN (cur σ) 4) <;> exact ⟨_, rfl, fun _ _ => rfl⟩
    by_cases h3 : w = 3
    · simp only [if_neg h0, if_neg h1, if_neg h2, if_pos h3]; exact ⟨_, rfl, fun _ _ => rfl⟩
    by_cases h4 : w = 4
    · simp only [if_neg h0, if_neg h1, if_neg h2, if_neg h3, if_pos h4]; exact ⟨_, rfl, fun _ _ => rfl⟩
    by_cases h5 : w = 5
    · simp only [if_neg h0, if_neg h1, if_neg h2, if_neg h3, if_neg h4, if_pos h5]; exact ⟨_, rfl, fun _ _ => rfl⟩
    by_cases h6 : w = 6
    · simp only [if_neg h0, if_neg h1, if_neg h2, if_neg h3, if_neg h4, if_neg h5, if_pos h6]; exact ⟨_, rfl, fun _ _ => rfl⟩
    simp only [if_neg h0, if_neg h1, if_neg h2, if_neg h3, if_neg h4, if_neg h5, if_neg h6]; exact ⟨_, rfl, fun _ _ => rfl⟩
  · simp only [if_neg hq, ↓reduceIte]; exact ⟨_, rfl, fun _ _ => rfl⟩
