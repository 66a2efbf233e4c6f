/-! A fall tried; marks. -/
theorem isB_iff {x : Int32} {b : Nat} (hb : b ≤ 2 ^ 31) : isB x b ↔ 0 ≤ x.toInt ∧ x.toInt < (b : Int) := by
  constructor
  · rintro ⟨j, h1, rfl⟩
    rw [nI_toInt (by omega)]; omega
  · rintro ⟨h1, h2⟩
    refine ⟨x.toNatClampNeg, ?_, nI_cl x (by rw [i32le]; exact h1)⟩
    have e := nI_cl x (by rw [i32le]; exact h1)
    have l : x.toNatClampNeg < 2 ^ 31 := Int32.toNatClampNeg_lt x
    have : x.toInt = (x.toNatClampNeg : Int) := by
      have := nI_toInt l
      rw [← e] at this; exact this
    omega
theorem isB_add {x y : Int32} {a b : Nat} (ha : isB x a) (hb : isB y b) : isB (x + y) (a + b) := by
  obtain ⟨i, h1, rfl⟩ := ha
  obtain ⟨j, h2, rfl⟩ := hb
  exact ⟨i + j, by omega, nI_add i j⟩
theorem clp_b (v : Int64) : isB (clp v) 101 := by
  unfold clp
  have e0 : (0 : Int64).toInt = 0 := rfl
  have e1 : (100 : Int64).toInt = 100 := rfl
  by_cases h1 : v < 0
  · rw [if_pos h1]; exact ⟨0, by decide, rfl⟩
  · rw [if_neg h1]
    by_cases h2 : 100 < v
    · rw [if_pos h2]; exact ⟨100, by decide, rfl⟩
    · rw [if_neg h2, isB_iff (by decide), Int64.toInt_toInt32]
      rw [i64lt] at h1 h2
      rw [Int.bmod_eq_of_le (by omega) (by omega)]
      omega
theorem mrkV_b (σ : Sg) (r : Nat) (w : Nat → Int32) : ∀ (k c : Nat), isB (mrkV σ r w c k) 101
  | 0, _ => ⟨0, by decide, rfl⟩
  | k + 1, c => by
    rw [mrkV]
    split
    · exact clp_b _
    · exact mrkV_b σ r w k (c + 1)
theorem LM_b {nr q t c : Nat} {σ : Sg} {drop : Int32} {x : Fst} (hD : DG nr (cur σ)) (ht : t < dN (cur σ) 3) : isB (LM σ (wdF (cur σ) q t c drop x)) 101 := by
  unfold LM
  split
  · exact mrkV_b _ _ _ _ _
  · split
    · exact ⟨0, by decide, rfl⟩
    · exact (hD.wo t ht).mono (by decide)
theorem tch_b {nr q t c b : Nat} {σ : Sg} {drop : Int32} {x : Fst} (hD : DG nr (cur σ)) (ht : t < dN (cur σ) 3) (h : isB x.2.2.2 b) : isB (tch σ q c drop t x).2.2.2 (b + 101) := by
  unfold tch
  split
  · exact isB_add h (LM_b hD ht)
  · exact h.mono (by omega)
theorem tchs_b {nr q c b : Nat} {σ : Sg} {drop : Int32} {x : Fst} (hD : DG nr (cur σ)) (h : isB x.2.2.2 b) : ∀ k, k ≤ dN (cur σ) 3 → isB (tchs σ q c drop k x).2.2.2 (b + 101 * k)
  | 0, _ => h
  | k + 1, hk => by
    rw [tchs]
    have := tchs_b (q := q) (c := c) (drop := drop) hD h k (by omega)
    split
    · exact (tch_b hD (by omega) this).mono (by omega)
    · exact this.mono (by omega)
theorem stpF_b {nr q d c b : Nat} {σ : Sg} {x : Fst} (hD : DG nr (cur σ)) (h : isB x.2.2.2 b) : isB (stpF σ q d c x).2.2.2 (b + 808) := by
  have bT := hD.bT
  unfold stpF
  split
  · exact h.mono (by omega)
  · split
    · exact (tchs_b (x := (psh (cur σ) q d c x.1, x.2.1 + 1, x.2.2.1, x.2.2.2)) hD h _ (Nat.le_refl _)).mono (by omega)
    · exact (tchs_b (x := (psh (cur σ) q d c x.1, x.2.1 + 1, x.2.2.1, x.2.2.2)) hD h _ (Nat.le_refl _)).mono (by omega)
theorem runF_b {nr q : Nat} {σ : Sg} (hD : DG nr (cur σ)) : ∀ (k d : Nat) (o : Option Nat) (x : Fst) (b : Nat), isB x.2.2.2 b → isB (runF σ q k d o x).2.2.2.2 (b + 808 * k)
  | 0, _, _, _, _, h => h
  | _ + 1, _, none, _, _, h => h.mono (by omega)
  | k + 1, d, some e, x, b, h => by
    rw [runF]
    exact (runF_b hD k e _ _ _ (stpF_b (q := q) (d := d) (c := e) hD h)).mono (by omega)
theorem runF_8 {nr q : Nat} {σ : Sg} (hD : DG nr (cur σ)) : ∀ (k d : Nat) (o : Option Nat) (x : Fst), isB x.2.2.1 256 → isB (runF σ q k d o x).2.2.2.1 256
  | 0, _, _, _, h => h
  | _ + 1, _, none, _, h => h
  | k + 1, d, some e, x, h => by
    rw [runF]
    exact runF_8 hD k e _ _ (stpF_8 (q := q) (d := d) (c := e) hD h)
theorem runF_c {nr q : Nat} {σ : Sg} (hD : DG nr (cur σ)) : ∀ (k d : Nat) (o : Option Nat) (x : Fst), d < nc (cur σ) → (∀ e, o = some e → e < nc (cur σ)) → (runF σ q k d o x).1 < nc (cur σ)
  | 0, _, _, _, h, _ => h
  | _ + 1, _, none, _, h, _ => h
  | k + 1, d, some e, x, h, ho => by
    rw [runF]
    have he := ho e rfl
    refine runF_c hD k e _ _ he ?_
    intro z hz
    cases hn : netB (cur σ) e
    · rw [hn] at hz; exact (lead_lt (hD.c0 h) he hz).1
    · rw [hn] at hz; cases hz
/-- one falls from where it is -/
def flF (σ : Sg) (q s : Nat) : Nat × Fst := runF σ q 9 (dAt (cur σ) q) (nxt (cur σ) (dAt (cur σ) q) s) (0, 0, 0, 0)
def mkI (l : Int32) : Int32 := if l ≤ 100 then 100 - l else 0
theorem mk_c {l : Int32} (h : isB l 10000) : (if (0 : Int32) < ((100 : Int32) - l) then ((100 : Int32) - l) else (0 : Int32)) = mkI l := by
  unfold mkI
  obtain ⟨j, h1, rfl⟩ := h
  by_cases h2 : j ≤ 100
  · have : ∀ j, j < 101 → (if (0 : Int32) < ((100 : Int32) - nI j) then ((100 : Int32) - nI j) else (0 : Int32)) = (if nI j ≤ 100 then 100 - nI j else 0) := by decide +kernel
    exact this j (by omega)
  · rw [if_neg (show ¬ nI j ≤ 100 from nI_ge (a := 100) (by omega) (by omega)), if_neg]
    rw [i32lt]
    have e : (100 : Int32) - nI j = -(nI (j - 100)) := by
      have e2 : nI j = (100 : Int32) + nI (j - 100) := by
        rw [lit_100, nI_add]; congr 1; omega
      rw [e2, Int32.sub_eq_add_neg, Int32.neg_add, Int32.sub_eq_add_neg, ← Int32.add_assoc, show (100 + -100 : Int32) = 0 from rfl, Int32.zero_add]
    rw [e, Int32.toInt_neg, nI_toInt (by omega), Int.bmod_eq_of_le (by omega) (by omega)]
    have : (0 : Int32).toInt = 0 := rfl
    omega
section TRY
variable {nr n sl a lw q s : Nat} {U : Nat → va_E} {S : Nat → Nat × Nat × Nat} {T : Tc} {σ σ1 : Sg}
theorem DG.dAt (hD : DG nr (cur σ)) (hq : q < dN (cur σ) 2) : cur σ 191 q = nI (dAt (cur σ) q) ∧ dAt (cur σ) q < nc (cur σ) := (hD.at0 hq).cl (by have := hD.n48; omega)
theorem flF_c (hD : DG nr (cur σ)) (hq : q < dN (cur σ) 2) : (flF σ q s).1 < nc (cur σ) := by
  have h := hD.dAt hq
  exact runF_c hD _ _ _ _ h.2 (fun e he => (nxt_lt hD h.2 he).1)
theorem flF_8 (hD : DG nr (cur σ)) : isB (flF σ q s).2.2.2.1 256 := runF_8 hD _ _ _ _ (isB8.2 fun i _ _ => b_0 i)
theorem flF_b (hD : DG nr (cur σ)) : isB (flF σ q s).2.2.2.2 10000 := (runF_b (q := q) hD 9 (dAt (cur σ) q) (nxt (cur σ) (dAt (cur σ) q) s) (0, 0, 0, 0) 1 ⟨0, by decide, rfl⟩).mono (by decide)
/-- the class's fall, begun and run -/
theorem c_fall1 (hD : DG nr (cur σ)) (hq : q < dN (cur σ) 2) (hS : SRw n S T a (cur σ)) (hbr : T.1 a 3 = cur σ 189 7) (hL : RLw n S T σ lw) (hs : s < 5) : ∃ T0 T', f_X0_begin (cn n sl U S T σ1) 174 a lw (nI q) = some (cn n sl U S T0 σ1) ∧ f_X0_run (cn n sl U S T0 σ1) 174 (nI s) = some (cn n sl U S T' σ1) ∧ agr (Fa lw) T T' ∧ CX T' (flF σ q s).2 ∧ T'.1 174 5 = nI (flF σ q s).1 := by
  have h := hD.dAt hq
  obtain ⟨T0, a1, a2, a3, a4, a5, a6⟩ := c_begin (sl := sl) (U := U) (σ1 := σ1) hD hq hS hbr hL
  obtain ⟨T', b1, b2, b3, b4⟩ := c_run (sl := sl) (U := U) (σ1 := σ1) (s := s) a2 a3 (isB8.2 fun i _ _ => b_0 i) (a4.trans h.1) h.2 hs
  exact ⟨T0, T', a1, b1, a6.trans b2.1, b3, b4⟩
theorem fa_ns {l m : Nat} {T' : Tc} (hv : RV n S lw l m) (h : agr (Fa lw) T T') : agr (Ns S) T T' := h.mono fun r hr => by
  refine ⟨fun e => hr (.inr (.inl (by omega))), fun e => hr (.inr (.inl (by omega))), fun e => hr (.inr (.inr ?_))⟩
  rw [e]
  exact (hv 1 (show 1 < 7 by decide)).2
theorem c_law (hR : REL n S T σ nr) : ∃ lw, f_X11_law (cn n sl U S T σ1) 128 = some (lw, cn n sl U S T σ1) ∧ RLw n S T σ lw := by
  obtain ⟨hN, hTP, hRU, hIM, hD, hS⟩ := hR
  obtain ⟨n6, a5, a6, a7, c1, c6, c7, _⟩ := hN
  unfold f_X11_law
  rw [x128_6, Option.bind_some, s0_1 hS.sv, Option.bind_some, nm_q, hS.fo]
  rcases hD.fo with h | ⟨r, hr, h⟩
  · refine ⟨153, ?_, .inl ⟨by rw [cs_10]; exact h, ⟨0, 0, rv_153⟩, c6, c7⟩⟩
    rw [h, if_pos (by decide), x128_3, Option.bind_some]
  · obtain ⟨b, l, m, e1, e2⟩ := hRU r hr
    refine ⟨b, ?_, .inr ⟨r, l, m, by omega, by rw [cs_10]; exact h, e2⟩⟩
    rw [h, if_neg (show ¬ nI r < 0 from nI_nlt (b := 0) (by omega) (by omega)), x128_5, Option.bind_some, a5, if_neg (nI_ge hr (by omega)), x128_4, Option.bind_some, x160_r (by omega), Option.bind_some, e1, if_neg (by intro e; cases e), Option.bind_some, x160_r (by omega), Option.bind_some, e1]
    rfl
theorem c_tryFall (hR : REL n S T σ nr) (hq : q < dN (cur σ) 2) (hs : s < 5) : ∃ T', f_X11_tryFall (cn n sl U S T σ1) 128 (nI q) (nI s) = some (cn n sl U S T' σ1) ∧ agr (Ns S) T T' ∧ CX T' (flF σ q s).2 ∧ T'.1 174 5 = nI (flF σ q s).1 := by
  obtain ⟨lw, e1, e2⟩ := c_law (sl := sl) (U := U) (σ1 := σ1) hR
  obtain ⟨l, m, hv⟩ := e2.rv
  obtain ⟨hN, hTP, hRU, hIM, hD, hS⟩ := hR
  obtain ⟨T0, T', a1, a2, a3, a4, a5⟩ := c_fall1 (sl := sl) (U := U) (σ1 := σ1) hD hq hS.w hS.br e2 hs
  refine ⟨T', ?_, fa_ns hv a3, a4, a5⟩
  unfold f_X11_tryFall
  rw [x128_9, Option.bind_some, x128_6, Option.bind_some, x128_o, Option.bind_some, e1, bd_some, x174_o, Option.bind_some, a1, Option.bind_some, x128_9, Option.bind_some, x174_o, Option.bind_some, a2, Option.bind_some]
theorem RX.eqm {x : Fst} {σ' : Sg} (h : RX σ σ' x) : Eqm σ σ' := ⟨h.2.1 28 (by decide) (by decide) (by decide) (by decide), h.2.1 32 (by decide) (by decide) (by decide) (by decide), h.2.1 37 (by decide) (by decide) (by decide) (by decide), h.2.1 55 (by decide) (by decide) (by decide) (by decide), fun r _ => by rw [h.1]⟩
theorem c_mark (hD : DG nr (cur σ)) (hX : CX T (flF σ q s).2) : f_X0_mark (cn n sl U S T σ1) 174 = some (mkI (flF σ q s).2.2.2.2, cn n sl U S T σ1) := by
  unfold f_X0_mark
  rw [x174_9, Option.bind_some, hX.2.2.2, mk_c (flF_b hD)]
theorem s_markOf {x : Fst} {σ' : Sg} (h : σ'.1 52 = x.2.2.2) (ρ : Mm) (τ : Nat → va_E) : f_X12_markOf (mem ρ τ σ') 188 = some (mkI x.2.2.2, mem ρ τ σ') := by
  unfold f_X12_markOf mkI
  rw [mI_52, Option.bind_some, h]
  by_cases h2 : x.2.2.2 ≤ 100
  · rw [if_pos h2, if_pos h2, Option.bind_some]
  · rw [if_neg h2, if_neg h2]
theorem s_fallQ {n : Nat} {S : Nat → Nat × Nat × Nat} {T : Tc} (hR : REL n S T σ nr) (hq : q < dN (cur σ) 2) (hs : s < 5) : ∃ σ', (∀ ρ τ, f_X12_falls (mem ρ τ σ) 188 (nI q) (cur σ 191 q) (nI s) = some (nI (flF σ q s).1, mem ρ τ σ')) ∧ RX σ σ' (flF σ q s).2 := by
  obtain ⟨lw, e1, e2⟩ := c_law (sl := 0) (U := fun _ => .inr (0, [])) (σ1 := σ) hR
  have hD := hR.2.2.2.2.1
  have h := hD.dAt hq
  obtain ⟨σ', z1, z2⟩ := s_falls hD e2 hq h.2 hs
  rw [← h.1] at z1
  exact ⟨σ', z1, z2⟩
end TRY
