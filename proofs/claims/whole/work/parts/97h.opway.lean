/-! Ways down: the reference's search whole, the class's, the call. -/
theorem wrS_b {nr : Nat} {D : Dt} (hD : DG nr D) (q : Nat) (f : Int32) : ∀ k, k ≤ dN D 3 → isB (wrS D q f k) (1 + 60 * k)
  | 0, _ => ⟨0, by omega, rfl⟩
  | k + 1, h => by
    obtain ⟨j, h1, h2⟩ := wrS_b hD q f k (by omega)
    obtain ⟨i, g1, g2⟩ := hD.wo k (by omega)
    rw [wrS]
    split
    · exact ⟨j + i, by omega, by rw [h2, g2, nI_add]⟩
    · exact ⟨j, by omega, h2⟩
theorem wayW_n {nr q : Nat} {σ : Sg} (hD : DG nr (cur σ)) (f : Int32) : wayW σ q f ≠ -1 := by
  obtain ⟨j, h1, h2⟩ := wrS_b hD q f (dN (cur σ) 3) (Nat.le_refl _)
  have := hD.bT
  unfold wayW
  rw [h2]
  exact nI_nm1 (by omega)
theorem tkW_n {b : Bst} {w : Int32} {st : Nat} {π : Nat → Int32} (hw : w ≠ -1) : (tkW b w st π).1 ≠ -1 := by
  unfold tkW
  split
  · exact hw
  · rename_i h
    intro e
    apply h
    unfold btr
    rw [decide_eq_true e]; rfl
theorem leadK_s {C R : Nat} {h : Nat → Nat} {c : Nat} : ∀ k, leadK C R h c k ≠ none → ∃ s, s < k ∧ low C R h c s ≠ none
  | 0, e => absurd rfl e
  | k + 1, e => by
    cases hl : low C R h c k with
    | some d => exact ⟨k, by omega, by rw [hl]; exact Option.some_ne_none _⟩
    | none =>
      rw [leadK, hl] at e
      obtain ⟨s, h1, h2⟩ := leadK_s k e
      exact ⟨s, by omega, h2⟩
theorem wayN_n {nr q : Nat} {σ : Sg} (hD : DG nr (cur σ)) : ∀ (k d c : Nat) (nb : Bool) (p f : Int32) (π : Nat → Int32) (b : Bst), (wayN σ q k d c nb p f π b).1 ≠ -1
  | 0, d, _, _, _, f, _, b => tkW_n (wayW_n hD f)
  | k + 1, d, c, nb, p, f, π, b => by
    have h1 : ∀ s b, lowD (cur σ) c s ≠ none → (wayS σ q k d c p f π s b).1 ≠ -1 := by
      intro s b h
      unfold wayS
      cases hl : lowD (cur σ) c s with
      | none => exact absurd hl h
      | some e => exact wayN_n hD k (d + 1) e _ _ _ _ b
    have h2 : ∀ s b, b.1 ≠ -1 → (wayS σ q k d c p f π s b).1 ≠ -1 := by
      intro s b h
      unfold wayS
      cases hl : lowD (cur σ) c s with
      | none => exact h
      | some e => exact wayN_n hD k (d + 1) e _ _ _ _ b
    rw [wayN_s]
    split
    · exact tkW_n (wayW_n hD f)
    · rename_i hn
      have hl : leadK (dN (cur σ) 0) (dN (cur σ) 1) (dh (cur σ)) c 4 ≠ none := by
        intro e
        apply hn
        rw [show ldD (cur σ) c = none from e]
        cases nb <;> rfl
      obtain ⟨s, s1, s2⟩ := leadK_s 4 hl
      show (wayS σ q k d c p f π 3 (wayS σ q k d c p f π 2 (wayS σ q k d c p f π 1 (wayS σ q k d c p f π 0 b)))).1 ≠ -1
      have e : s = 0 ∨ s = 1 ∨ s = 2 ∨ s = 3 := by omega
      rcases e with rfl | rfl | rfl | rfl
      · exact h2 3 _ (h2 2 _ (h2 1 _ (h1 0 _ s2)))
      · exact h2 3 _ (h2 2 _ (h1 1 _ s2))
      · exact h2 3 _ (h1 2 _ s2)
      · exact h1 3 _ s2
section OPWAY
variable {nr n0 lw q : Nat} {S : Nat → Nat × Nat × Nat} {T : Tc} {σ : Sg}
theorem s_findN (hD : DG nr (cur σ)) (hL : RLw n0 S T σ lw) (hq : q < dN (cur σ) 2) (K : Mm → Option Mm) : ∀ (k n c : Nat) (p f : Int32) (π : Nat → Int32) (b : Bst) (σ1 : Sg), dh (cur σ) c ≤ k → 0 < dh (cur σ) c → k + n ≤ 9 → c < nc (cur σ) → netB (cur σ) c = false → (ldD (cur σ) c).isNone = false → isB f 256 → Hi (cur σ) c (p, n, f, 0) → b.2.1 ≤ 9 → RS σ σ1 n c p f π 0 b → ∃ t σ', t ≤ wX k ∧ (∀ F ρ τ, f_X12_findsWay_L65 K (F + t) (mem ρ τ σ1) 188 (nI q) (nI n) = f_X12_findsWay_L65 K F (mem ρ τ σ') 188 (nI q) (nI n + Int32.ofInt (-1))) ∧ Eqm σ σ' ∧ RB σ' (wayN σ q k n c false p f π b) ∧ Fr n σ1 σ' := by
  intro k
  induction k with
  | zero => intro n c p f π b σ1 h1 h2; omega
  | succ k ih =>
    intro n c p f π b σ1 h1 h2 h3 h4 h5 h6 h7 h8 h9 h10
    obtain ⟨t, σ', z1, z2⟩ := s_findS hD hL hq K ih 4 0 n c p f π b σ1 rfl h1 h3 h4 h7 h8 h9 h10
    rw [wayN_s, if_neg (by rw [h6]; decide)]
    exact ⟨t, σ', by show t ≤ 5 + 4 * wX k; omega, z2⟩
theorem s_way (hD : DG nr (cur σ)) (hL : RLw n0 S T σ lw) (hq : q < dN (cur σ) 2) (π : Nat → Int32) : ∃ σ', (∀ ρ τ, f_X12_findsWay (mem ρ τ σ) 188 (nI q) = some (mem ρ τ σ')) ∧ Eqm σ σ' ∧ RB σ' (wayN σ q 9 0 (dAt (cur σ) q) false 0 0 π (-1, 0, π)) := by
  have bP := hD.bP
  obtain ⟨a1, a2⟩ := hD.dAt hq
  have q5 : q < 5 := by omega
  obtain ⟨σb, wb⟩ : ∃ Y : Sg, Y = stI (stI (stI (stI (stI σ 63 (-1)) 49 0) 50 0) 51 0) 52 0 := ⟨_, rfl⟩
  have b2 : σb.2.1 = σ.2.1 := by rw [wb]; rfl
  have eb : Eqm σ σb := by
    rw [wb]
    exact ((((eqm_stI _ _ (by omega)).trans (eqm_stI _ _ (by omega))).trans (eqm_stI _ _ (by omega))).trans (eqm_stI _ _ (by omega))).trans (eqm_stI _ _ (by omega))
  obtain ⟨σc, wc⟩ : ∃ Y : Sg, Y = stA (stA (stA (stA σb 228 0 (nI (dAt (cur σ) q))) 229 0 (-1)) 230 0 0) 231 0 0 := ⟨_, rfl⟩
  have ec : Eqm σ σc := by
    rw [wc]
    exact (((eb.trans (eqm_stA _ _ _ (by unfold PerM; omega))).trans (eqm_stA _ _ _ (by unfold PerM; omega))).trans (eqm_stA _ _ _ (by unfold PerM; omega))).trans (eqm_stA _ _ _ (by unfold PerM; omega))
  have c1 : σc.1 = σb.1 := by rw [wc]; rfl
  have v8 : ∀ ρ τ (σ : Sg) v, sI (mem ρ τ σ) 228 0 (0 : Int32) v = some (mem ρ τ (stA σ 228 0 v)) := fun ρ τ σ v => y228_w (i := 0) (by decide)
  have v9 : ∀ ρ τ (σ : Sg) v, sI (mem ρ τ σ) 229 0 (0 : Int32) v = some (mem ρ τ (stA σ 229 0 v)) := fun ρ τ σ v => y229_w (i := 0) (by decide)
  have v0 : ∀ ρ τ (σ : Sg) v, sI (mem ρ τ σ) 230 0 (0 : Int32) v = some (mem ρ τ (stA σ 230 0 v)) := fun ρ τ σ v => y230_w (i := 0) (by decide)
  have v1 : ∀ ρ τ (σ : Sg) v, sI (mem ρ τ σ) 231 0 (0 : Int32) v = some (mem ρ τ (stA σ 231 0 v)) := fun ρ τ σ v => y231_w (i := 0) (by decide)
  have rc : RS σ σc 0 (dAt (cur σ) q) 0 0 π 0 (-1, 0, π) := by
    refine ⟨ec, ?_, ?_, ?_, ?_, fun i hi => by omega, ⟨?_, fun h => absurd rfl h, fun i hi => absurd hi (Nat.not_lt_zero i)⟩⟩
    · rw [wc, stA2, if_neg (by omega), stA2, if_neg (by omega), stA2, if_neg (by omega), stA2, if_pos ⟨rfl, rfl⟩]
    · rw [wc, stA2, if_neg (by omega), stA2, if_neg (by omega), stA2, if_pos ⟨rfl, rfl⟩]; rfl
    · rw [wc, stA2, if_neg (by omega), stA2, if_pos ⟨rfl, rfl⟩]
    · rw [wc, stA2, if_pos ⟨rfl, rfl⟩]
    · rw [c1, wb, stI1, if_neg (by decide), stI1, if_neg (by decide), stI1, if_neg (by decide), stI1, if_neg (by decide), stI1, if_pos rfl]
  have at_ : ∀ (σ1 : Sg) ρ τ, Eqm σ σ1 → aI (mem ρ τ σ1) 191 0 (nI q) = some (nI (dAt (cur σ) q)) := by
    intro σ1 ρ τ e
    rw [y191_r q5, e.2.2.2.2 191 (by unfold PerM; omega), ← cu_191 q5, a1]
  have lead : ∀ ρ τ, f_X12_leadsTo (mem ρ τ σc) 188 (nI (dAt (cur σ) q)) = some (oI (ldD (cur σ) (dAt (cur σ) q)), mem ρ τ σc) := by
    intro ρ τ
    have cx : cur σc = cur σ := ec.cu
    have mg := DG.mg (σ := σc) (nr := nr) (by rw [cx]; exact hD)
    rw [cx] at mg
    exact s_lead mg (hD.gs (Nat.lt_of_le_of_lt (Nat.zero_le _) a2)) a2
  have unf : ∀ ρ τ, f_X12_findsWay (mem ρ τ σ) 188 (nI q) = (if oI (ldD (cur σ) (dAt (cur σ) q)) = (-1 : Int32) then
    ((ob (mem ρ τ σc) 188 12).bind fun _ =>
    ((f_X12_takesWay (mem ρ τ σc) 188 (nI q) (0 : Int32)).bind fun μ20 =>
    (some μ20)))
    else
    f_X12_findsWay_L65 (fun μ99 =>
    (some μ99)) FU (mem ρ τ σc) 188 (nI q) (0 : Int32)) := by
    intro ρ τ
    have at2 := at_ (stA (stA (stA (stA σb 228 0 (nI (dAt (cur σ) q))) 229 0 (-1)) 230 0 0) 231 0 0) ρ τ (by rw [← wc]; exact ec)
    unfold f_X12_findsWay f_X12_beginsFall
    rw [mP_63, Option.bind_some, ob_mem, Option.bind_some, mP_49, Option.bind_some, mP_50, Option.bind_some, mP_51, Option.bind_some, mP_52, Option.bind_some, Option.bind_some, ← wb, nm_q, mR_58, Option.bind_some, mR_3, Option.bind_some, at_ _ ρ τ eb, Option.bind_some, v8, Option.bind_some, mR_59, Option.bind_some, v9, Option.bind_some, mR_60, Option.bind_some, v0, Option.bind_some, mR_61, Option.bind_some, v1, Option.bind_some, mR_3, Option.bind_some, at2, Option.bind_some, ← wc, ob_mem, Option.bind_some, lead, bd_some, ob_mem]
  have f0 : isB 0 256 := ⟨0, by decide, rfl⟩
  have hi0 : Hi (cur σ) (dAt (cur σ) q) (0, 0, 0, 0) := fun t ht hb => by
    have hb : bt 0 t = true := hb
    rw [show bt 0 t = false by unfold bt; simp] at hb
    cases hb
  cases hld : ldD (cur σ) (dAt (cur σ) q) with
  | none =>
    obtain ⟨σ', t1, t2, t3, t4⟩ := s_takes (q := q) (π := π) (st := 0) (f := 0) hD ec (by rw [c1, wb, stI1, if_neg (by decide), stI1, if_pos rfl]) (by decide) rc.2.2.2.2.2.2 (Nat.zero_le _) (fun i hi => by omega)
    refine ⟨σ', fun ρ τ => ?_, ?_, ?_⟩
    · rw [unf, hld, if_pos (show oI none = -1 from rfl), ob_mem, Option.bind_some, show (0 : Int32) = nI 0 from rfl, t1, Option.bind_some]
    · exact ec.trans ⟨t3 28 (by decide) (by decide), t3 32 (by decide) (by decide), t3 37 (by decide) (by decide), t3 55 (by decide) (by decide), fun r hr => t4 r (by unfold PerM at hr; omega)⟩
    · rw [wayN_s, hld]; exact t2
  | some e =>
    have he : e < nc (cur σ) := (lead_lt (hD.c0 a2) a2 hld).1
    obtain ⟨t, σ', z1, z2, z3, z4, z5⟩ := s_findS (k := 8) hD hL hq (fun μ99 => (some μ99)) (s_findN hD hL hq _ 8) 4 0 0 (dAt (cur σ) q) 0 0 π (-1, 0, π) σc rfl (hD.h9 _) (by decide) a2 f0 hi0 (Nat.zero_le _) rc
    refine ⟨σ', fun ρ τ => ?_, z3, ?_⟩
    · have w8 : wX 8 = 109225 := by decide
      obtain ⟨m, hm⟩ : ∃ m, FU = (m + 1) + t := ⟨FU - t - 1, by unfold FU; omega⟩
      have y := z2 (m + 1) ρ τ
      rw [← hm] at y
      rw [unf, hld, show oI (some e) = nI e from rfl, if_neg (nI_nm1 (by have := hD.n48; omega)), show (0 : Int32) = nI 0 from rfl, y, f_X12_findsWay_L65, if_pos (show nI 0 + Int32.ofInt (-1) < 0 by decide)]
    · rw [wayN_s, hld]; exact z4
theorem c_wayS {n sl : Nat} {U : Nat → va_E} {σ1 : Sg} (π : Nat → Int32) (hR : REL n S T σ nr) (hq : q < dN (cur σ) 2) (hL : RLw n S T σ lw) : ∃ T', f_X10_seek (cn n sl U S T σ1) 176 161 lw (nI q) = some (cn n sl U S T' σ1) ∧ CB T' (wayN σ q 9 0 (dAt (cur σ) q) false 0 0 π (-1, 0, π)) ∧ agr (Ns S) T T' := by
  obtain ⟨T0, w0⟩ : ∃ Y : Tc, Y = tI (tI T 176 3 (-1)) 176 4 0 := ⟨_, rfl⟩
  have sc : ∀ r, 174 ≤ r ∧ r ≤ 187 → ¬ Ns S r := fun r h hr => hr (.inr (.inl h))
  have k0 : agr (Ns S) T T0 := by
    rw [w0]
    exact (agr_tI _ _ (sc 176 (by decide))).trans (agr_tI _ _ (sc 176 (by decide)))
  have hR0 := hR.scr k0 (Eqm.refl σ)
  have hL0 := hL.ns k0
  obtain ⟨l, m, hv⟩ := hL.rv
  have hl := hv.loc
  obtain ⟨hN, hTP, hRU, hIM, hD, hS⟩ := hR0
  obtain ⟨a1, a2⟩ := hD.dAt hq
  obtain ⟨T1, b1, b2, b3, b4, b5, b6⟩ := c_begin (sl := sl) (U := U) (σ1 := σ1) hD hq hS.w hS.br hL0
  have cb : CB T1 (-1, 0, π) := by
    have e := (b6 176 ⟨by decide, by decide, by omega⟩).1
    refine ⟨?_, ?_, fun i hi => absurd hi (Nat.not_lt_zero i)⟩
    · rw [e, w0, tI1, if_neg (by decide), tI1, if_pos ⟨rfl, rfl⟩]
    · rw [e, w0, tI1, if_pos ⟨rfl, rfl⟩]; rfl
  obtain ⟨T', g1, g2, g3, g4⟩ := c_goDown (sl := sl) (U := U) (σ1 := σ1) 9 12 (by decide) 0 (dAt (cur σ) q) false 0 0 π (-1, 0, π) T1 (hD.h9 _) (by decide) a2 b2 b3.1 b3.2.1 b3.2.2.1 ⟨0, by decide, rfl⟩ (b4.trans a1) b5 cb (Nat.zero_le _) (fun i hi => by omega)
  refine ⟨T', ?_, g2, (k0.trans (fa_ns hv b6)).trans (g3.1.mono fun r hr => ⟨⟨fun e => hr (.inr (.inl (by omega))), fun e => hr (.inr (.inl (by omega))), fun e => hr (.inr (.inr ?_))⟩, fun e => sc r (by omega) hr, fun e => sc r (by omega) hr, fun e => sc r (by omega) hr⟩)⟩
  · unfold f_X10_seek f_X10_goDown
    rw [x176_3p, Option.bind_some, x176_4p, Option.bind_some, ← w0, x176_0, Option.bind_some, x174_o, Option.bind_some, b1, Option.bind_some, x176_o, Option.bind_some, show (0 : Int32) = nI 0 from rfl, g1, Option.bind_some]
  · rw [e]
    exact (hv 1 (show 1 < 7 by decide)).2
theorem lt_n2 {x : Int32} (h : (-2 : Int32) ≤ x) (h0 : ¬ 0 ≤ x) (h1 : x ≠ -1) : x = -2 := by
  rw [i32le] at h h0
  have e2 : ((-2 : Int32)).toInt = -2 := rfl
  have e0 : ((0 : Int32)).toInt = 0 := rfl
  have e1 : x.toInt ≠ -1 := fun e => h1 (Int32.toInt_inj.1 e)
  exact Int32.toInt_inj.1 (by rw [e2]; omega)
theorem op_way (q x : Int32) : OpR (fun μ => f_X11_way μ 128 q x) (fun μ => f_X12_way μ 188 q x) := by
  refine OpR.q fun n sl U S T σ nr hR => ?_
  have hR0 := hR
  obtain ⟨hN, hTP, hRU, hIM, hD, hS⟩ := hR
  have bP := hD.bP
  show ∃ v T' σ', f_X11_way (cn n sl U S T σ) 128 q x = some (v, cn n sl U S T' σ) ∧ agr (Ns S) T T' ∧ (∀ ρ τ, f_X12_way (mem ρ τ σ) 188 q x = some (v, mem ρ τ σ')) ∧ Eqm σ σ'
  unfold f_X11_way f_X12_way
  rw [x128_o, Option.bind_some, c_isPerson hS hD, bd_some]
  by_cases hq : isN q (dN (cur σ) 2)
  · by_cases h2 : (-2 : Int32) ≤ x
    · obtain ⟨j, hj, rfl⟩ := isN_of (by omega) hq
      obtain ⟨lw, e1, e2⟩ := c_law (sl := sl) (U := U) (σ1 := σ) hR0
      obtain ⟨T', c1, ⟨c2, c3, c4⟩, c5⟩ := c_wayS (sl := sl) (U := U) (σ1 := σ) (fun _ => 0) hR0 hj e2
      obtain ⟨σ', d1, d2, ⟨d3, d4, d5⟩⟩ := s_way hD e2 hj (fun _ => 0)
      have h9 : (wayN σ j 9 0 (dAt (cur σ) j) false 0 0 (fun _ => 0) (-1, 0, fun _ => 0)).2.1 ≤ 9 := wayN_9 σ j 9 0 _ _ _ _ _ _ (by decide) (Nat.zero_le _)
      have d4 := d4 (wayN_n hD 9 0 _ _ _ _ _ _)
      generalize wayN σ j 9 0 (dAt (cur σ) j) false 0 0 (fun _ => 0) (-1, 0, fun _ => 0) = b at *
      by_cases x0 : 0 ≤ x
      · have n1 : ¬ x = -1 := fun e => by rw [e] at x0; exact absurd x0 (by decide)
        have n2 : ¬ x = -2 := fun e => by rw [e] at x0; exact absurd x0 (by decide)
        have ex := nI_cl x x0
        have lx := Int32.toNatClampNeg_lt x
        generalize x.toNatClampNeg = i at ex lx
        by_cases hb : b.2.1 ≤ i
        · refine ⟨-2, T', σ', ?_, c5, fun ρ τ => ?_, d2⟩
          · rw [if_pos hq, if_neg (by decide), if_pos h2, x128_10, Option.bind_some, x128_6, Option.bind_some, x128_o, Option.bind_some, e1, bd_some, x176_o, Option.bind_some, c1, Option.bind_some, if_neg n1, if_neg n2, x128_10, Option.bind_some, x176_4, Option.bind_some, c3, ex, if_pos (nI_le hb (by omega))]
          · rw [ob_mem, Option.bind_some, s_isPerson hD, bd_some, if_pos hq, if_neg (by decide), if_pos h2, ob_mem, Option.bind_some, d1, Option.bind_some, if_pos x0, mI_64, Option.bind_some, d4, ex, if_pos (nI_le hb (by omega))]
        · have i9 : i < 9 := by omega
          refine ⟨b.2.2 i, T', σ', ?_, c5, fun ρ τ => ?_, d2⟩
          · rw [if_pos hq, if_neg (by decide), if_pos h2, x128_10, Option.bind_some, x128_6, Option.bind_some, x128_o, Option.bind_some, e1, bd_some, x176_o, Option.bind_some, c1, Option.bind_some, if_neg n1, if_neg n2, x128_10, Option.bind_some, x176_4, Option.bind_some, c3, ex, if_neg (nI_ge (by omega) (by omega)), Option.bind_some, x176_2, Option.bind_some, x178_r i9, Option.bind_some, c4 i (by omega)]
          · rw [ob_mem, Option.bind_some, s_isPerson hD, bd_some, if_pos hq, if_neg (by decide), if_pos h2, ob_mem, Option.bind_some, d1, Option.bind_some, if_pos x0, mI_64, Option.bind_some, d4, ex, if_neg (nI_ge (by omega) (by omega)), mR_62, Option.bind_some, y232_r (by omega), Option.bind_some, d5 i (by omega)]
      · by_cases n1 : x = -1
        · refine ⟨b.1, T', σ', ?_, c5, fun ρ τ => ?_, d2⟩
          · rw [if_pos hq, if_neg (by decide), if_pos h2, x128_10, Option.bind_some, x128_6, Option.bind_some, x128_o, Option.bind_some, e1, bd_some, x176_o, Option.bind_some, c1, Option.bind_some, if_pos n1, x128_10, Option.bind_some, x176_3, Option.bind_some, c2]
          · rw [ob_mem, Option.bind_some, s_isPerson hD, bd_some, if_pos hq, if_neg (by decide), if_pos h2, ob_mem, Option.bind_some, d1, Option.bind_some, if_neg x0, if_pos n1, mI_63, Option.bind_some, d3]
        · have n2 := lt_n2 h2 x0 n1
          refine ⟨nI b.2.1, T', σ', ?_, c5, fun ρ τ => ?_, d2⟩
          · rw [if_pos hq, if_neg (by decide), if_pos h2, x128_10, Option.bind_some, x128_6, Option.bind_some, x128_o, Option.bind_some, e1, bd_some, x176_o, Option.bind_some, c1, Option.bind_some, if_neg n1, if_pos n2, x128_10, Option.bind_some, x176_4, Option.bind_some, c3]
          · rw [ob_mem, Option.bind_some, s_isPerson hD, bd_some, if_pos hq, if_neg (by decide), if_pos h2, ob_mem, Option.bind_some, d1, Option.bind_some, if_neg x0, if_neg n1, mI_64, Option.bind_some, d4]
    · refine ⟨-3, T, σ, ?_, agr.refl _ _, fun ρ τ => ?_, Eqm.refl _⟩
      · rw [if_pos hq, if_neg (by decide), if_neg h2]
      · rw [ob_mem, Option.bind_some, s_isPerson hD, bd_some, if_pos hq, if_neg (by decide), if_neg h2]
  · refine ⟨-3, T, σ, ?_, agr.refl _ _, fun ρ τ => ?_, Eqm.refl _⟩
    · rw [if_neg hq, if_pos rfl]
    · rw [ob_mem, Option.bind_some, s_isPerson hD, bd_some, if_neg hq, if_pos rfl]
end OPWAY
