/-! Calls that change the school: seed, force, walk, put, mend. -/
theorem in03 {x : Int32} : ((0 : Int64) ≤ x.toInt64 ∧ x.toInt64 ≤ 3) ↔ isN x 4 := in_n (n := 4) (by decide)
theorem in04 {x : Int32} : ((0 : Int64) ≤ x.toInt64 ∧ x.toInt64 ≤ 4) ↔ isN x 5 := in_n (n := 5) (by decide)
theorem in01 {x : Int32} : ((0 : Int64) ≤ x.toInt64 ∧ x.toInt64 ≤ 1) ↔ isN x 2 := in_n (n := 2) (by decide)
theorem in02 {x : Int32} : ((0 : Int64) ≤ x.toInt64 ∧ x.toInt64 ≤ 2) ↔ isN x 3 := in_n (n := 3) (by decide)
theorem in060 {x : Int32} : ((0 : Int64) ≤ x.toInt64 ∧ x.toInt64 ≤ 60) ↔ isN x 61 := in_n (n := 61) (by decide)
theorem c_isSide (μ : Mm) (x : Int32) : f_X11_isSide μ x = some (if isN x 4 then (1 : Int32) else 0, μ) := by
  unfold f_X11_isSide
  simp only [↓z01, ↓z11]
  have e := isN_n (x := x) (m := 4) (n := 4) rfl
  by_cases h1 : x < 0
  · rw [if_pos h1, if_neg (fun h => (e.2 h).1 h1)]
  · rw [if_neg h1]
    by_cases h2 : (4 : Int32) ≤ x
    · rw [if_pos h2, if_neg (fun h => (e.2 h).2 h2)]
    · rw [if_neg h2, if_pos (e.1 ⟨h1, h2⟩)]
theorem c_isLean (μ : Mm) (x : Int32) : f_X11_isLean μ x = some (if isN x 5 then (1 : Int32) else 0, μ) := by
  unfold f_X11_isLean
  simp only [↓z01, ↓z11]
  have e := isN_n (x := x) (m := 5) (n := 5) rfl
  by_cases h1 : x < 0
  · rw [if_pos h1, if_neg (fun h => (e.2 h).1 h1)]
  · rw [if_neg h1]
    by_cases h2 : (5 : Int32) ≤ x
    · rw [if_pos h2, if_neg (fun h => (e.2 h).2 h2)]
    · rw [if_neg h2, if_pos (e.1 ⟨h1, h2⟩)]
theorem act_REL {n nr m off : Nat} {S : Nat → Nat × Nat × Nat} {T T1 T2 : Tc} {σ σ1 σ2 : Sg} {x y : Int32} (hR : REL n S T σ nr) (hw : wrp (dM (cur σ)) m off) (hK : Kp σ σ1 m off) (hm : Rm T T1 161 m off x y)
    (s1 : ∀ k, k = 28 ∨ k = 32 ∨ k = 37 ∨ k = 55 → σ2.1 k = σ1.1 k) (s2 : ∀ k, k ≠ 7 → σ2.2.1 189 k = σ1.2.1 189 k) (s3 : ∀ r, r ≠ 189 → r ≠ 191 → r ≠ 193 → σ2.2.1 r = σ1.2.1 r) (s4 : isB (σ2.2.1 189 7) 256)
    (t1 : agr (fun r => r ≠ 161 ∧ r ≠ 161 + 1 ∧ r ≠ 161 + 2) T1 T2) (t2 : ∀ k, k ≠ 3 → T2.1 161 k = T1.1 161 k) (t3 : T2.2.2.2.1 161 = T1.2.2.2.1 161) (t4 : T2.1 161 3 = σ2.2.1 189 7) (t5 : ∀ p, p < dN (cur σ) 2 → T2.2.1 (161 + 1) p = σ2.2.1 191 p) (t6 : ∀ p, p < dN (cur σ) 3 → T2.2.1 (161 + 2) p = σ2.2.1 193 p) (hv : Mv (cur σ) (cur σ2) x y) : REL n S T2 σ2 nr := by
  obtain ⟨w1, w2⟩ := hw.lt
  have hR' := hR
  obtain ⟨hN, hTP, hRU, hIM, hD, hS⟩ := hR
  have bP := hD.bP
  have bT := hD.bT
  have bM := hD.bM
  have wo : off ≤ 1 := by unfold wrp at hw; omega
  have hA := hK.ak w1 wo (by omega) (s1 55 (by omega)) s2 s3 s4
  obtain ⟨m1, m2, m3, m4, m5, m6, m7, m8⟩ := hm
  have ag : agr (Nm S) T T2 := by
    refine (m1.mono fun r hr => ?_).trans (t1.mono fun r hr => ?_)
    · have := hr.2; omega
    · have := hr.2; omega
  have q := fun r hr => t1 r hr
  have e3 := (t1 (161 + 3) (by omega)).2.1
  have e4 := (t1 (161 + 4) (by omega)).2.1
  have e5 := (t1 (161 + 5) (by omega)).2.1
  refine hR'.sch ag ?_ (act_DG hD hA hw hv) (act_SR hS hD hA hw hv ag ?_ ?_ t4 ?_ ?_ ?_ ?_ ?_ ?_ ?_)
  · obtain ⟨k1, k2, k3, k4, -⟩ := hK
    refine ⟨?_, ?_, ?_, fun r hr => ?_⟩
    · rw [s1 28 (by omega), k2 28 (by decide) (by decide) (by decide)]
    · rw [s1 32 (by omega), k2 32 (by decide) (by decide) (by decide)]
    · rw [s1 37 (by omega), k2 37 (by decide) (by decide) (by decide)]
    · rw [s3 r (by omega) (by omega) (by omega), k3 r (by omega)]
  · rw [t3, m3]
  · intro k hk
    rw [t2 k (by omega), m2 k (by omega)]
  · rw [t2 9 (by decide), m4]
  · intro p hp
    rw [t5 p hp, cu_191 (by omega)]
  · intro p hp
    rw [t6 p hp, cu_193 (by omega)]
  · intro k hk
    rw [e3, e4, e5]; exact m5 k hk
  · rw [e3]; exact m6
  · rw [e4]; exact m7
  · rw [e5, m8]; exact hS.br
theorem s_has (μ : Mm) (x : Int32) {j : Nat} (hj : j < 31) : f_X12_has μ x (nI j) = some (if bt x j then (1 : Int32) else 0, μ) := by
  unfold f_X12_has
  simp only [↓z01, ↓z11, I_bitv hj]
  cases bt x j <;> rfl
theorem c_isBroken {n sl : Nat} {U : Nat → va_E} {S : Nat → Nat × Nat × Nat} {T : Tc} {σ : Sg} {a : Nat} (hs : SV n S a) {j : Nat} (hj : j < 31) : f_X7_isBroken (cn n sl U S T σ) a (nI j) = some (if bt (T.1 a 3) j then (1 : Int32) else 0, cn n sl U S T σ) := by
  unfold f_X7_isBroken
  simp only [s0_3 hs, Option.bind_some, ↓z01, ↓z11, I_bitv hj]
  cases bt (T.1 a 3) j <;> rfl
theorem cond1 (b : Bool) : ((if b then (1 : Int32) else 0) = 0) = (b = false) := by cases b <;> simp
theorem dif1 : ∀ a, a < 10 → ∀ b, b < 10 → ((if 0 ≤ nI a - nI b then nI a - nI b else 0 - (nI a - nI b)) ≤ 1 ↔ ((-1 : Int64) ≤ (nI b - nI a).toInt64 ∧ (nI b - nI a).toInt64 ≤ 1)) := by decide +kernel
theorem one_9 {n nr : Nat} {S : Nat → Nat × Nat × Nat} {T : Tc} {σ : Sg} {x : Int32} (hR' : REL n S T σ nr) (h : 0 ≤ x) : REL n S (tI T 161 2 x) (stA σ 189 9 x) nr := by
  obtain ⟨hN, hTP, hRU, hIM, hD, hS⟩ := id hR'
  have g : gsame (cur σ) (cur (stA σ 189 9 x)) := by
    refine ⟨fun k hk => ?_, fun r hr => ?_⟩
    · unfold cur; simp [stA2, stA1, show k ≠ 9 by omega]
    · funext i; unfold cur; simp [stA2, stA1, show r ≠ 189 by omega]
  have hc : ∀ r i, ¬ (r = 189 ∧ i = 9) → cur (stA σ 189 9 x) r i = cur σ r i := by
    intro r i h; unfold cur; simp only [stA2, stA1, if_neg h]
  have hc2 : ∀ r, r ≠ 189 → cur (stA σ 189 9 x) r = cur σ r := fun r h => funext fun i => hc r i (by omega)
  have hx : cur (stA σ 189 9 x) 189 9 = x := by
    show (stA σ 189 9 x).2.1 189 9 = x
    rw [stA2, if_pos ⟨rfl, rfl⟩]
  have hdN : ∀ k, k ≠ 9 → dN (cur (stA σ 189 9 x)) k = dN (cur σ) k := fun k hk => by unfold dN; rw [hc 189 k (by omega)]
  have hdM : dM (cur (stA σ 189 9 x)) = dM (cur σ) := by unfold dM; rw [hc2 0 (by decide)]
  have hB : ∀ k, rwB (cur (stA σ 189 9 x)) k = rwB (cur σ) k := fun k => by unfold rwB; rw [hdM, hc2 226 (by decide), hc 189 7 (by omega)]
  have hA : ∀ k, rwA (cur (stA σ 189 9 x)) k = rwA (cur σ) k := fun k => by funext q; unfold rwA; rw [hdM, hc2 226 (by decide), hc2 191 (by decide)]
  have hT : ∀ k, rwT (cur (stA σ 189 9 x)) k = rwT (cur σ) k := fun k => by funext q; unfold rwT; rw [hdM, hc2 226 (by decide), hc2 193 (by decide)]
  have hcm : ∀ b k, cmK (cur (stA σ 189 9 x)) b k = cmK (cur σ) b k := by
    intro b k
    induction k with
    | zero => rfl
    | succ k ih => rw [cmK, cmK, ih, hc2 201 (by decide), hc2 202 (by decide)]
  refine hR'.sch (agr_tI _ _ (fun h => h.2 (by omega))) ⟨rfl, rfl, rfl, fun r hr => ?_⟩ ?_ ?_
  · funext i; rw [stA2, if_neg (by omega)]
  · unfold DG
    simp only [hdN 0 (by decide), hdN 1 (by decide), hdN 2 (by decide), hdN 3 (by decide), hdN 4 (by decide), hdN 5 (by decide), hdN 6 (by decide), hdN 7 (by decide), hdN 8 (by decide), hdM, hB, hA, hT, g.hh, hx, hc2 0 (by decide), hc2 190 (by decide), hc2 196 (by decide), hc2 197 (by decide), hc2 198 (by decide), hc2 199 (by decide), hc2 200 (by decide), hc2 201 (by decide), hc2 202 (by decide), hc 189 0 (by omega), hc 189 1 (by omega), hc 189 2 (by omega), hc 189 3 (by omega), hc 189 4 (by omega), hc 189 5 (by omega), hc 189 6 (by omega), hc 189 7 (by omega), hc 189 8 (by omega), hc 189 10 (by omega), nc]
    obtain ⟨d1, d2, d3, d4, d5, d6, d7, d8, d9, d10, d11, d12, d13, d14, d15, d16, d17, d18, d19, d20, d21, d22, d23, d24, d25, d26, d27, d28, d29, d30, d31, d32, d33, d34, d35, d36⟩ := hD
    exact ⟨d1, d2, d3, d4, d5, d6, d7, d8, d9, d10, d11, d12, d13, d14, d15, d16, d17, d18, d19, d20, d21, d22, d23, d24, d25, d26, d27, d28, d29, d30, d31, d32, d33, d34, h, d36⟩
  · unfold SR actR
    simp only [hdN 2 (by decide), hdN 3 (by decide), hdN 8 (by decide), hdM, hB, hA, hT, hcm, hx, hc2 0 (by decide), hc2 191 (by decide), hc2 193 (by decide), hc 189 7 (by omega), hc 189 8 (by omega), hc 189 10 (by omega), tI2]
    have hg := hS.la.gv.loc
    obtain ⟨e1, e2, e3, e4, e5, e6, e7, e8, e9, e10, e11, e12, e13⟩ := hS
    refine ⟨e1, (e2.ext e2.gv (agr_tI (P := fun r => r ≠ 161) 2 x (by omega)) (fun j hj => by omega)).D g, ?_, ?_, ?_, e6, e7, ?_, ?_, ?_, ?_, e12, e13⟩ <;> (rw [tI1]; simp [*])
theorem one_10 {n nr : Nat} {S : Nat → Nat × Nat × Nat} {T : Tc} {σ : Sg} {x : Int32} (hR' : REL n S T σ nr) (hfo : x = -1 ∨ isB x nr) : REL n S (tI T 161 1 x) (stA σ 189 10 x) nr := by
  obtain ⟨hN, hTP, hRU, hIM, hD, hS⟩ := id hR'
  have g : gsame (cur σ) (cur (stA σ 189 10 x)) := by
    refine ⟨fun k hk => ?_, fun r hr => ?_⟩
    · unfold cur; simp [stA2, stA1, show k ≠ 10 by omega]
    · funext i; unfold cur; simp [stA2, stA1, show r ≠ 189 by omega]
  have hc : ∀ r i, ¬ (r = 189 ∧ i = 10) → cur (stA σ 189 10 x) r i = cur σ r i := by
    intro r i h; unfold cur; simp only [stA2, stA1, if_neg h]
  have hc2 : ∀ r, r ≠ 189 → cur (stA σ 189 10 x) r = cur σ r := fun r h => funext fun i => hc r i (by omega)
  have hx : cur (stA σ 189 10 x) 189 10 = x := by
    show (stA σ 189 10 x).2.1 189 10 = x
    rw [stA2, if_pos ⟨rfl, rfl⟩]
  have hdN : ∀ k, k ≠ 10 → dN (cur (stA σ 189 10 x)) k = dN (cur σ) k := fun k hk => by unfold dN; rw [hc 189 k (by omega)]
  have hdM : dM (cur (stA σ 189 10 x)) = dM (cur σ) := by unfold dM; rw [hc2 0 (by decide)]
  have hB : ∀ k, rwB (cur (stA σ 189 10 x)) k = rwB (cur σ) k := fun k => by unfold rwB; rw [hdM, hc2 226 (by decide), hc 189 7 (by omega)]
  have hA : ∀ k, rwA (cur (stA σ 189 10 x)) k = rwA (cur σ) k := fun k => by funext q; unfold rwA; rw [hdM, hc2 226 (by decide), hc2 191 (by decide)]
  have hT : ∀ k, rwT (cur (stA σ 189 10 x)) k = rwT (cur σ) k := fun k => by funext q; unfold rwT; rw [hdM, hc2 226 (by decide), hc2 193 (by decide)]
  have hcm : ∀ b k, cmK (cur (stA σ 189 10 x)) b k = cmK (cur σ) b k := by
    intro b k
    induction k with
    | zero => rfl
    | succ k ih => rw [cmK, cmK, ih, hc2 201 (by decide), hc2 202 (by decide)]
  refine hR'.sch (agr_tI _ _ (fun h => h.2 (by omega))) ⟨rfl, rfl, rfl, fun r hr => ?_⟩ ?_ ?_
  · funext i; rw [stA2, if_neg (by omega)]
  · unfold DG
    simp only [hdN 0 (by decide), hdN 1 (by decide), hdN 2 (by decide), hdN 3 (by decide), hdN 4 (by decide), hdN 5 (by decide), hdN 6 (by decide), hdN 7 (by decide), hdN 8 (by decide), hdM, hB, hA, hT, g.hh, hx, hc2 0 (by decide), hc2 190 (by decide), hc2 196 (by decide), hc2 197 (by decide), hc2 198 (by decide), hc2 199 (by decide), hc2 200 (by decide), hc2 201 (by decide), hc2 202 (by decide), hc 189 0 (by omega), hc 189 1 (by omega), hc 189 2 (by omega), hc 189 3 (by omega), hc 189 4 (by omega), hc 189 5 (by omega), hc 189 6 (by omega), hc 189 7 (by omega), hc 189 8 (by omega), hc 189 9 (by omega), nc]
    obtain ⟨d1, d2, d3, d4, d5, d6, d7, d8, d9, d10, d11, d12, d13, d14, d15, d16, d17, d18, d19, d20, d21, d22, d23, d24, d25, d26, d27, d28, d29, d30, d31, d32, d33, d34, d35, d36⟩ := hD
    exact ⟨d1, d2, d3, d4, d5, d6, d7, d8, d9, d10, d11, d12, d13, d14, d15, d16, d17, d18, d19, d20, d21, d22, d23, d24, d25, d26, d27, d28, d29, d30, d31, d32, d33, d34, d35, hfo⟩
  · unfold SR actR
    simp only [hdN 2 (by decide), hdN 3 (by decide), hdN 8 (by decide), hdM, hB, hA, hT, hcm, hx, hc2 0 (by decide), hc2 191 (by decide), hc2 193 (by decide), hc 189 7 (by omega), hc 189 8 (by omega), hc 189 9 (by omega), tI2]
    have hg := hS.la.gv.loc
    obtain ⟨e1, e2, e3, e4, e5, e6, e7, e8, e9, e10, e11, e12, e13⟩ := hS
    refine ⟨e1, (e2.ext e2.gv (agr_tI (P := fun r => r ≠ 161) 1 x (by omega)) (fun j hj => by omega)).D g, ?_, ?_, ?_, e6, e7, ?_, ?_, ?_, ?_, e12, e13⟩ <;> (rw [tI1]; simp [*])
theorem bt_nI (b i : Nat) (hi : i < 32) : bt (nI b) i = b.testBit i := by
  show (BitVec.ofNat 32 b).getLsbD i = _
  rw [BitVec.getLsbD_ofNat, decide_eq_true hi, Bool.true_and]
theorem isB8 {x : Int32} : isB x 256 ↔ ∀ i, 8 ≤ i → i < 32 → bt x i = false := by
  constructor
  · rintro ⟨b, hb, rfl⟩ i h1 h2
    rw [bt_nI b i h2]
    exact Nat.testBit_lt_two_pow (Nat.lt_of_lt_of_le (show b < 2 ^ 8 from hb) (Nat.pow_le_pow_right (by decide) h1))
  · intro h
    refine ⟨x.toBitVec.toNat, ?_, Int32.toBitVec_inj.mp (by show _ = BitVec.ofNat 32 _; simp)⟩
    refine Nat.lt_pow_two_of_testBit (n := 8) _ fun i hi => ?_
    by_cases h2 : i < 32
    · exact h i hi h2
    · exact BitVec.getLsbD_of_ge _ _ (by omega)
theorem isB_and {x : Int32} (y : Int32) (h : isB x 256) : isB (x &&& y) 256 := isB8.2 fun i h1 h2 => by rw [b_and, isB8.1 h i h1 h2, Bool.false_and]
theorem isB_or {x y : Int32} (h : isB x 256) (h' : isB y 256) : isB (x ||| y) 256 := isB8.2 fun i h1 h2 => by rw [b_or, isB8.1 h i h1 h2, isB8.1 h' i h1 h2]; rfl
theorem op_seed (x : Int32) : OpR (fun μ => f_X11_seed μ 128 x) (fun μ => f_X12_seed μ 188 x) := by
  refine OpR.s fun n sl U S T σ nr hR => ?_
  have hR' := hR
  obtain ⟨hN, hTP, hRU, hIM, hD, hS⟩ := hR
  have hsv := hS.sv
  unfold f_X11_seed f_X12_seed
  by_cases h : 0 ≤ x
  · simp only [if_pos h, x128_6, Option.bind_some, s0_2 hsv, s0_2p hsv, nm, mR_1, sc_9, sp_9]
    refine ⟨σ.2.1 189 9, tI T 161 2 x, stA σ 189 9 x, ?_, fun _ _ => rfl, ?_⟩
    · rw [hS.xx]; rfl
    · exact one_9 hR' h
  · simp only [if_neg h]
    exact ⟨-1, T, σ, rfl, fun _ _ => rfl, hR'⟩
theorem op_force (x : Int32) : OpR (fun μ => f_X11_force μ 128 x) (fun μ => f_X12_force μ 188 x) := by
  refine OpR.s fun n sl U S T σ nr hR => ?_
  have hR' := hR
  obtain ⟨⟨hN1, hN2, hN3, -⟩, hTP, hRU, hIM, hD, hS⟩ := hR
  have hsv := hS.sv
  unfold f_X11_force f_X12_force
  have em : (-1 : Int32).toInt = -1 := rfl
  have e : ((-1 : Int64) ≤ x.toInt64 ∧ x.toInt64 ≤ (nI nr - 1).toInt64) ↔ (¬ x < -1 ∧ x < nI nr) := by
    have e0 : (-1 : Int64) = (-1 : Int32).toInt64 := rfl
    rw [e0, in_i, i32le, i32le, i32lt, i32lt]
    by_cases h0 : nr = 0
    · subst h0
      have e1 : (nI 0 - 1).toInt = -1 := by decide
      have e2 : (nI 0).toInt = 0 := by decide
      rw [e1, e2, em]; omega
    · obtain ⟨k, rfl⟩ : ∃ k, nr = k + 1 := ⟨nr - 1, by omega⟩
      rw [nI_pred, nI_toInt (by omega), nI_toInt (by omega), em]; omega
  simp only [x128_5, x128_6, Option.bind_some, s0_1 hsv, s0_1p hsv, nm, mR_1, sc_10, sp_10, mI_32, hN2, hN3, s_in, bd_some, e]
  by_cases h1 : x < -1
  · simp only [if_pos h1, not_true, h1, false_and, ↓reduceIte]
    exact ⟨-2, T, σ, rfl, fun _ _ => rfl, hR'⟩
  · by_cases h2 : x < nI nr
    · simp only [if_neg h1, if_pos h2, if_pos (show ¬ x < -1 ∧ x < nI nr from ⟨h1, h2⟩), i10, ↓reduceIte]
      refine ⟨σ.2.1 189 10, tI T 161 1 x, stA σ 189 10 x, ?_, fun _ _ => rfl, one_10 hR' ?_⟩
      · rw [hS.fo]; rfl
      · by_cases h3 : x < 0
        · left
          rw [i32lt] at h1 h3
          have e3 : (0 : Int32).toInt = 0 := rfl
          exact Int32.toInt_inj.mp (by rw [em] at h1 ⊢; omega)
        · right
          obtain ⟨j, h4, rfl⟩ := nI_of h3
          exact ⟨j, (nI_ltI h4 (by omega)).1 h2, rfl⟩
    · simp only [if_neg h1, if_neg h2, if_neg (show ¬ (¬ x < -1 ∧ x < nI nr) from fun h => h2 h.2), ↓reduceIte]
      exact ⟨-2, T, σ, rfl, fun _ _ => rfl, hR'⟩
theorem oI_some (n : Nat) : oI (some n) = nI n := rfl
theorem op_walk (q w : Int32) : OpR (fun μ => f_X11_walk μ 128 q w) (fun μ => f_X12_walk μ 188 q w) := by
  refine OpR.s fun n sl U S T σ nr hR => ?_
  have hR' := hR
  obtain ⟨hN, hTP, hRU, hIM, hD, hS⟩ := hR
  have hsv := hS.sv
  have hv := hS.la.gv
  have hn := hD.n48
  have b := hD.bP
  unfold f_X11_walk f_X12_walk
  simp only [x128_o, x128_6, Option.bind_some, bd_some, c_isPerson hS hD, s_isPerson hD, ob_mem, c_isSide, s_in, in03, mR_3, mR_2, s0_0 hsv, s0_4 hsv, g0_o hv, nm, s0_o hsv]
  by_cases hq : isN q (dN (cur σ) 2)
  · by_cases hw : isN w 4
    · obtain ⟨j, hj, rfl⟩ := isN_of (by omega) hq
      obtain ⟨s, hs, rfl⟩ := isN_of (by decide) hw
      have h5 : j < 5 := by omega
      obtain ⟨c, hc, ec⟩ := hD.at0 hj
      have hgs := hD.gs (by omega)
      have ec2 : σ.2.1 191 j = nI c := by rw [← cu_191 h5]; exact ec
      simp only [if_pos hq, if_pos hw, i10, ↓reduceIte, s1_r hsv h5, y191_r h5, hS.pc j hj, ec, ec2, Option.bind_some, c_beside hv hS.la.cg hgs hc hs, s_beside hD.mg hgs hc hs, bd_some, h_at hD.mg hn hc]
      cases hb : bes (dN (cur σ) 0) (dN (cur σ) 1) c s with
      | none =>
        simp only [show (oI none = (-1 : Int32)) = True from eq_true rfl, ↓reduceIte]
        exact ⟨-1, T, σ, rfl, fun _ _ => rfl, hR'⟩
      | some d =>
        have hd := (bes_lt (by have := hgs.1; omega) hc hb).1
        have hd48 : d < 48 := Nat.lt_of_lt_of_le hd hn
        simp only [oI_some, eq_false (nI_nm1 (show d < 2 ^ 31 by omega)), ↓reduceIte, c_dropTo hv hS.la.cg hn hc hd, h_at hD.mg hn hd, bd_some, Option.bind_some, s_in, dif1 (dh (cur σ) c) (by have := hD.h9 c; omega) (dh (cur σ) d) (by have := hD.h9 d; omega)]
        by_cases hdd : ((-1 : Int64) ≤ (nI (dh (cur σ) d) - nI (dh (cur σ) c)).toInt64 ∧ (nI (dh (cur σ) d) - nI (dh (cur σ) c)).toInt64 ≤ 1)
        · obtain ⟨m, off, hwr⟩ := wrp_ex hD.bM
          obtain ⟨T1, r1, r2⟩ := c_remember (n := n) (sl := sl) (U := U) (S := S) (T := T) (σ := σ) hsv (hS.ac.trans hD.sM) hwr (nI j) (nI c)
          obtain ⟨σ1, k1, k2⟩ := s_keepsAct (σ := σ) (show σ.1 55 = nI (dM (cur σ)) from hD.sM) hwr
          refine ⟨nI d, tA T1 (161 + 1) j (nI d), stA σ1 191 j (nI d), ?_, fun ρ τ => ?_, ?_⟩
          · simp only [x128_6, x128_o, Option.bind_some, bd_some, s0_0 hsv, s0_4 hsv, s0_o hsv, g0_o hv, nm, c_dropTo hv hS.la.cg hn hc hd, dif1 (dh (cur σ) c) (by have := hD.h9 c; omega) (dh (cur σ) d) (by have := hD.h9 d; omega), if_pos hdd, r1, s1_w hsv h5]
          · simp only [Option.bind_some, bd_some, nm, ob_mem, mR_2, mR_3, y191_r h5, ec2, h_at hD.mg hn hd, h_at hD.mg hn hc, s_in, if_pos hdd, i10, ↓reduceIte, k1, y191_w h5]
          · have a1 : σ1.2.1 189 7 = cur σ 189 7 := by rw [k2.2.2.1 189 (by decide)]; rfl
            refine act_REL hR' hwr k2 r2 (fun k _ => rfl) (fun k _ => by rw [stA2, if_neg (by omega)]) (fun r h1 h2 h3 => by funext i; rw [stA2, if_neg (by omega)]) ?_ ?_ ?_ rfl ?_ ?_ ?_ ?_
            · rw [stA2, if_neg (by omega), a1, hD.sB]; exact ⟨_, hD.bB, rfl⟩
            · exact agr_tA _ _ (by omega)
            · intro k _; rfl
            · rw [stA2, if_neg (by omega), a1]
              show T1.1 161 3 = _
              rw [r2.2.1 3 (by decide), hS.br]
            · intro p hp
              rw [tA2, stA2]
              by_cases e : p = j
              · rw [if_pos ⟨rfl, e⟩, if_pos ⟨rfl, e⟩]
              · rw [if_neg (fun h => e h.2), if_neg (fun h => e h.2), (r2.1 (161 + 1) (by omega)).2.1, hS.pc p hp, k2.2.2.1 191 (by decide), cu_191 (by omega)]
            · intro p hp
              rw [tA2, stA2, if_neg (by omega), if_neg (by omega), (r2.1 (161 + 2) (by omega)).2.1, hS.tc p hp, k2.2.2.1 193 (by decide), cu_193 (by have := hD.bT; omega)]
            · have e191 : ∀ p, p < 5 → cur (stA σ1 191 j (nI d)) 191 p = if p = j then nI d else cur σ 191 p := fun p hp => by
                rw [cu_191 hp, stA2, k2.2.2.1 191 (by decide), cu_191 hp]
                by_cases e : p = j
                · rw [if_pos ⟨rfl, e⟩, if_pos e]
                · rw [if_neg (fun h => e h.2), if_neg e]
              refine .inl ⟨j, hj, rfl, ec.symm, ?_, ?_, ?_⟩
              · rw [e191 j h5, if_pos rfl]; exact ⟨d, hd, rfl⟩
              · intro p hp e
                rw [e191 p (by omega), if_neg e]
              · intro t ht
                have := hD.bT
                rw [cu_193 (by omega), stA2, if_neg (by omega), k2.2.2.1 193 (by decide), cu_193 (by omega)]
        · refine ⟨-1, T, σ, ?_, fun _ _ => ?_, hR'⟩
          · simp only [x128_6, x128_o, Option.bind_some, bd_some, s0_0 hsv, s0_4 hsv, s0_o hsv, g0_o hv, nm, c_dropTo hv hS.la.cg hn hc hd, dif1 (dh (cur σ) c) (by have := hD.h9 c; omega) (dh (cur σ) d) (by have := hD.h9 d; omega), if_neg hdd]
          · simp only [Option.bind_some, bd_some, nm, ob_mem, mR_2, mR_3, y191_r h5, ec2, h_at hD.mg hn hd, h_at hD.mg hn hc, s_in, if_neg hdd, ↓reduceIte]
    · simp only [if_pos hq, if_neg hw, i10, ↓reduceIte]
      exact ⟨-1, T, σ, rfl, fun _ _ => rfl, hR'⟩
  · simp only [if_neg hq, ↓reduceIte]
    exact ⟨-1, T, σ, rfl, fun _ _ => rfl, hR'⟩
theorem op_put (q w : Int32) : OpR (fun μ => f_X11_put μ 128 q w) (fun μ => f_X12_put_ μ 188 q w) := by
  refine OpR.s fun n sl U S T σ nr hR => ?_
  have hR' := hR
  obtain ⟨hN, hTP, hRU, hIM, hD, hS⟩ := hR
  have hsv := hS.sv
  have hv := hS.la.gv
  have hn := hD.n48
  have b := hD.bT
  unfold f_X11_put f_X12_put_
  simp only [x128_o, x128_6, Option.bind_some, bd_some, c_isThing hS hD, s_isThing hD, c_isCell hS, s_isC hD, ob_mem, mR_5, mR_1, sc_7, s0_5 hsv, nm, s0_o hsv]
  by_cases hq : isN q (dN (cur σ) 3)
  · by_cases hw : isN w (nc (cur σ))
    · obtain ⟨j, hj, rfl⟩ := isN_of (by omega) hq
      obtain ⟨c, hc, rfl⟩ := isN_of (by omega) hw
      have h8 : j < 8 := by omega
      simp only [if_pos hq, if_pos hw, i10, ↓reduceIte, c_isBroken hsv (show j < 31 by omega), s_has _ _ (show j < 31 by omega), bd_some, s2_r hsv h8, y193_r h8, hS.tc j hj, Option.bind_some, hS.br, cond1, cs_7, cu_193 h8]
      by_cases hb : bt (cur σ 189 7) j = false
      · simp only [if_pos hb]
        by_cases he : σ.2.1 193 j = nI c
        · refine ⟨-1, T, σ, ?_, fun _ _ => ?_, hR'⟩
          · simp only [x128_6, x128_o, Option.bind_some, bd_some, s0_5 hsv, s0_o hsv, s2_r hsv h8, hS.tc j hj, cu_193 h8, nm, if_pos he]
          · simp only [Option.bind_some, bd_some, nm, mR_5, y193_r h8, ob_mem, if_pos he]
        · obtain ⟨m, off, hwr⟩ := wrp_ex hD.bM
          have e5 : (5 : Int32) + nI j = nI (5 + j) := nI_add 5 j
          obtain ⟨T1, r1, r2⟩ := c_remember (n := n) (sl := sl) (U := U) (S := S) (T := T) (σ := σ) hsv (hS.ac.trans hD.sM) hwr ((5 : Int32) + nI j) (σ.2.1 193 j)
          obtain ⟨σ1, k1, k2⟩ := s_keepsAct (σ := σ) (show σ.1 55 = nI (dM (cur σ)) from hD.sM) hwr
          refine ⟨σ.2.1 193 j, tA T1 (161 + 2) j (nI c), stA σ1 193 j (nI c), ?_, fun ρ τ => ?_, ?_⟩
          · simp only [x128_6, x128_o, Option.bind_some, bd_some, s0_5 hsv, s0_o hsv, s2_r hsv h8, hS.tc j hj, cu_193 h8, nm, if_neg he, r1, s2_w hsv h8]
          · simp only [Option.bind_some, bd_some, nm, mR_5, y193_r h8, ob_mem, if_neg he, k1, y193_w h8, k2.2.2.1 193 (by decide)]
          · have a1 : σ1.2.1 189 7 = cur σ 189 7 := by rw [k2.2.2.1 189 (by decide)]; rfl
            refine act_REL hR' hwr k2 r2 (fun k _ => rfl) (fun k _ => by rw [stA2, if_neg (by omega)]) (fun r h1 h2 h3 => by funext i; rw [stA2, if_neg (by omega)]) ?_ ?_ ?_ rfl ?_ ?_ ?_ ?_
            · rw [stA2, if_neg (by omega), a1, hD.sB]; exact ⟨_, hD.bB, rfl⟩
            · exact agr_tA _ _ (by omega)
            · intro k _; rfl
            · rw [stA2, if_neg (by omega), a1]
              show T1.1 161 3 = _
              rw [r2.2.1 3 (by decide), hS.br]
            · intro p hp
              rw [tA2, stA2, if_neg (by omega), if_neg (by omega), (r2.1 (161 + 1) (by omega)).2.1, hS.pc p hp, k2.2.2.1 191 (by decide), cu_191 (by have := hD.bP; omega)]
            · intro p hp
              rw [tA2, stA2]
              by_cases e : p = j
              · rw [if_pos ⟨rfl, e⟩, if_pos ⟨rfl, e⟩]
              · rw [if_neg (fun h => e h.2), if_neg (fun h => e h.2), (r2.1 (161 + 2) (by omega)).2.1, hS.tc p hp, k2.2.2.1 193 (by decide), cu_193 (by omega)]
            · have e193 : ∀ p, p < 8 → cur (stA σ1 193 j (nI c)) 193 p = if p = j then nI c else cur σ 193 p := fun p hp => by
                rw [cu_193 hp, stA2, k2.2.2.1 193 (by decide), cu_193 hp]
                by_cases e : p = j
                · rw [if_pos ⟨rfl, e⟩, if_pos e]
                · rw [if_neg (fun h => e h.2), if_neg e]
              refine .inr ⟨j, hj, e5, (cu_193 h8).symm, ?_, ?_, ?_⟩
              · rw [e193 j h8, if_pos rfl]; exact ⟨c, hc, rfl⟩
              · intro p hp e
                rw [e193 p (by omega), if_neg e]
              · intro t ht
                have := hD.bP
                rw [cu_191 (by omega), stA2, if_neg (by omega), k2.2.2.1 191 (by decide), cu_191 (by omega)]
      · simp only [if_neg hb]
        exact ⟨-1, T, σ, rfl, fun _ _ => rfl, hR'⟩
    · simp only [if_pos hq, if_neg hw, i10, ↓reduceIte]
      exact ⟨-1, T, σ, rfl, fun _ _ => rfl, hR'⟩
  · simp only [if_neg hq, ↓reduceIte]
    exact ⟨-1, T, σ, rfl, fun _ _ => rfl, hR'⟩
theorem op_mend (q : Int32) : OpR (fun μ => f_X11_mend μ 128 q) (fun μ => f_X12_mend μ 188 q) := by
  refine OpR.s fun n sl U S T σ nr hR => ?_
  have hR' := hR
  obtain ⟨hN, hTP, hRU, hIM, hD, hS⟩ := hR
  have hsv := hS.sv
  have hv := hS.la.gv
  have b := hD.bT
  unfold f_X11_mend f_X12_mend
  simp only [x128_o, x128_6, Option.bind_some, bd_some, c_isThing hS hD, s_isThing hD, ob_mem, mR_1, sc_7, s0_5 hsv, nm, s0_o hsv, ↓z01, ↓z11]
  by_cases hq : isN q (dN (cur σ) 3)
  · obtain ⟨j, hj, rfl⟩ := isN_of (by omega) hq
    have h8 : j < 8 := by omega
    simp only [if_pos hq, i10, ↓reduceIte, c_isBroken hsv (show j < 31 by omega), s_has _ _ (show j < 31 by omega), bd_some, s2_r hsv h8, hS.tc j hj, Option.bind_some, hS.br, cond1, cs_7, cu_193 h8]
    by_cases hb : bt (cur σ 189 7) j = false
    · simp only [if_pos hb]
      exact ⟨0, T, σ, rfl, fun _ _ => rfl, hR'⟩
    · simp only [if_neg hb]
      obtain ⟨m, off, hwr⟩ := wrp_ex hD.bM
      have e5 : (5 : Int32) + nI j = nI (5 + j) := nI_add 5 j
      obtain ⟨T1, r1, r2⟩ := c_remember (n := n) (sl := sl) (U := U) (S := S) (T := T) (σ := σ) hsv (hS.ac.trans hD.sM) hwr ((5 : Int32) + nI j) (σ.2.1 193 j)
      obtain ⟨σ1, k1, k2⟩ := s_keepsAct (σ := σ) (show σ.1 55 = nI (dM (cur σ)) from hD.sM) hwr
      have a1 : σ1.2.1 189 7 = cur σ 189 7 := by rw [k2.2.2.1 189 (by decide)]; rfl
      have a2 : T1.1 161 3 = cur σ 189 7 := by rw [r2.2.1 3 (by decide), hS.br]
      refine ⟨1, tI T1 161 3 (cur σ 189 7 &&& ((1 <<< (nI j &&& 31)) ^^^ -1)), stA σ1 189 7 (cur σ 189 7 &&& ((1 <<< (nI j &&& 31)) ^^^ -1)), ?_, fun ρ τ => ?_, ?_⟩
      · simp only [x128_6, x128_o, Option.bind_some, bd_some, s0_5 hsv, s0_o hsv, s2_r hsv h8, hS.tc j hj, cu_193 h8, nm, r1, s0_3 hsv, s0_3p hsv, a2, ↓z11]
      · simp only [Option.bind_some, bd_some, nm, ob_mem, k1, mR_1, sc_7, sp_7, a1, ↓z11]
      · have hB : isB (cur σ 189 7) 256 := by rw [hD.sB]; exact ⟨_, hD.bB, rfl⟩
        refine act_REL hR' hwr k2 r2 (fun k _ => rfl) (fun k hk => by rw [stA2, if_neg (by omega)]) (fun r h1 h2 h3 => by funext i; rw [stA2, if_neg (by omega)]) ?_ ?_ ?_ rfl ?_ ?_ ?_ ?_
        · rw [stA2, if_pos ⟨rfl, rfl⟩]; exact isB_and _ hB
        · exact agr_tI _ _ (by omega)
        · intro k hk; rw [tI1, if_neg (by omega)]
        · rw [stA2, if_pos ⟨rfl, rfl⟩, tI1, if_pos ⟨rfl, rfl⟩]
        · intro p hp
          rw [stA2, if_neg (by omega), tI2, (r2.1 (161 + 1) (by omega)).2.1, hS.pc p hp, k2.2.2.1 191 (by decide), cu_191 (by have := hD.bP; omega)]
        · intro p hp
          rw [stA2, if_neg (by omega), tI2, (r2.1 (161 + 2) (by omega)).2.1, hS.tc p hp, k2.2.2.1 193 (by decide), cu_193 (by omega)]
        · have e193 : ∀ p, p < 8 → cur (stA σ1 189 7 (cur σ 189 7 &&& ((1 <<< (nI j &&& 31)) ^^^ -1))) 193 p = cur σ 193 p := fun p hp => by
            rw [cu_193 hp, stA2, if_neg (by omega), k2.2.2.1 193 (by decide), cu_193 hp]
          refine .inr ⟨j, hj, e5, (cu_193 h8).symm, ?_, ?_, ?_⟩
          · rw [e193 j h8]; exact hD.th0 hj
          · intro p hp e
            rw [e193 p (by omega)]
          · intro t ht
            have := hD.bP
            rw [cu_191 (by omega), stA2, if_neg (by omega), k2.2.2.1 191 (by decide), cu_191 (by omega)]
  · simp only [if_neg hq, ↓reduceIte]
    exact ⟨0, T, σ, rfl, fun _ _ => rfl, hR'⟩
