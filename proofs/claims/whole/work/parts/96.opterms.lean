/-! The call terms. -/
section LAYS
variable {nr n lw : Nat} {S : Nat → Nat × Nat × Nat} {T : Tc} {σ σ1 σk σs : Sg}
def Kp4 (σk : Sg) : Prop := (∀ r, r ∈ rowsL → ∀ i, i < dlen r → σk.2.1 240 (460 * 4 + dof r + i) = σk.2.1 r i) ∧ σk.2.1 240 (460 * 4) = σk.1 55
theorem Pf.kp4 (h : Pf σ σk 4 430) : Kp4 σk := by
  refine ⟨fun r hr i hi => ?_, ?_⟩
  · have q := in_rows r hr
    rw [h.2.2.2.1, Nat.add_assoc, fb_put_in (by omega) (by have := dof_lt hi; omega), Nat.add_sub_cancel_left, flat_at σ hi, if_neg q.2.2.1, h.2.2.2.2.1 r q.2.2.2.1 q.2.2.2.2]
  · rw [h.2.2.2.1, fb_put_in (by omega) (by omega), Nat.sub_self, h.2.2.1 55 (by decide) (by decide)]
    rfl
theorem s_laysBack (hk : Kp4 σk) (sk : Sk σk σs) (he : Eqm σs σ1) : ∃ σ', (∀ ρ τ, f_X12_laysBack (mem ρ τ σ1) 188 = some (mem ρ τ σ')) ∧ Eqm σk σ' := by
  obtain ⟨σ', s1, s2, s3⟩ := s_carryB (σ := σ1) (k := 4) (by decide)
  have e240 : σ1.2.1 240 = σk.2.1 240 := by rw [he.2.2.2.2 240 (by unfold PerM; omega), sk.2.2.1 240 (by decide) (by decide)]
  refine ⟨σ', fun ρ τ => ?_, ?_, ?_, ?_, ?_, fun r hr => ?_⟩
  · unfold f_X12_laysBack
    rw [ob_mem, Option.bind_some, show (4 : Int32) = nI 4 from rfl, s1, Option.bind_some]
  · rw [s2.2.2.1 28 (by decide) (by decide) (by decide), he.1, sk.1]
  · rw [s2.2.2.1 32 (by decide) (by decide) (by decide), he.2.1, sk.1]
  · rw [s2.2.2.1 37 (by decide) (by decide) (by decide), he.2.2.1, sk.1]
  · rw [s3, e240]; exact hk.2
  · by_cases hm : r ∈ rowsL
    · funext i
      rw [s2.2.2.2.2.2.1 r hm i]
      by_cases hi : i < dlen r
      · rw [if_pos ⟨hi, dof_lt hi⟩, e240]; exact hk.1 r hm i hi
      · rw [if_neg (fun h => hi h.1), he.2.2.2.2 r hr]
        by_cases h9 : r = 189
        · subst h9
          have hi : ¬ i < 11 := hi
          exact sk.2.2.2.1 i (by omega) (by omega)
        · by_cases h1 : r = 191
          · subst h1
            have hi : ¬ i < 5 := hi
            exact sk.2.2.2.2 i (by omega)
          · rw [sk.2.2.1 r h9 h1]
    · have n1 : r ≠ 189 := fun e => hm (by rw [e]; decide)
      have n2 : r ≠ 191 := fun e => hm (by rw [e]; decide)
      by_cases h4 : r = 240
      · subst h4; rw [s2.2.2.2.1]; exact e240
      · rw [s2.2.2.2.2.1 r (by unfold PerM at hr; omega) hm, he.2.2.2.2 r hr, sk.2.2.1 r n1 n2]
theorem s_termsL (hL : RLw n S T σk lw) (hD : DG nr (cur σk)) (hC : 0 < nc (cur σk)) (hk4 : Kp4 σk) {m M w : Nat} (hm1 : 1 ≤ m) (hm : m ≤ 40) (hM : M ≤ 20) (hw : w < 3) (was : Int32) (K : Mm → Nat → Int32 → Int32 → Option (Int32 × Mm)) : ∀ (k i : Nat) (σ1 : Sg) (x : Int32) (tt : Nat → Int32) (f : Nat), i + k = M → k < f → Eqm σk σ1 → 0 ≤ x → ∃ σ', (∀ ρ τ, f_X12_terms_L68 K f (mem ρ τ σ1) 188 (nI M) (nI m) (nI w) was x (tt w) (nI i) = K (mem ρ τ σ') 188 was (trM m σk k x tt w)) ∧ Eqm σk σ' := by
  have bP := hD.bP
  intro k
  induction k with
  | zero =>
    intro i σ1 x tt f h1 h2 he hx
    obtain ⟨f, rfl⟩ : ∃ k, f = k + 1 := ⟨f - 1, by omega⟩
    obtain rfl : i = M := by omega
    refine ⟨σ1, fun ρ τ => ?_, he⟩
    rw [f_X12_terms_L68, if_pos (nI_le (by omega) (by omega))]
    rfl
  | succ k ih =>
    intro i σ1 x tt f h1 h2 he hx
    obtain ⟨f, rfl⟩ : ∃ k, f = k + 1 := ⟨f - 1, by omega⟩
    have skx : Sk σk (trX σk x) := Sk.s189 _ _ (.inr rfl)
    have hex : Eqm (trX σk x) (stA σ1 189 9 x) := eqm_A he _ _ _
    have plays : ∃ σ2 σs, (∀ ρ τ, f_X12_terms_L86 (fun μ67 a68 x69 x70 x71 x72 x73 x74 =>
    ((gR μ67 a68 12 1).bind fun v75 =>
    ((aI μ67 v75 0 (9 : Int32)).bind fun v76 =>
    (nm v76 fun x77 =>
    ((ob μ67 a68 12).bind fun _ =>
    ((f_X12_laysBack μ67 a68).bind fun μ78 =>
    (nm (x74 + Int32.ofInt (1)) fun x79 =>
    f_X12_terms_L68 K f μ78 a68 x69 x70 x71 x72 x77 x73 x79))))))) FU (mem ρ τ (stA σ1 189 9 x)) 188 (nI M) (nI m) (nI w) was (tt w) (nI i) 0 = ((gR (mem ρ τ σ2) 188 12 1).bind fun v75 =>
    ((aI (mem ρ τ σ2) v75 0 (9 : Int32)).bind fun v76 =>
    (nm v76 fun x77 =>
    ((ob (mem ρ τ σ2) 188 12).bind fun _ =>
    ((f_X12_laysBack (mem ρ τ σ2) 188).bind fun μ78 =>
    (nm (nI i + Int32.ofInt (1)) fun x79 =>
    f_X12_terms_L68 K f μ78 188 (nI M) (nI m) (nI w) was x77 ((trK m σk x tt).2 w) x79))))))) ∧ Eqm σs σ2 ∧ Sk σk σs ∧ cur σs 189 9 = (trK m σk x tt).1 := by
      unfold trK
      by_cases hP : 0 < dN (cur σk) 2
      · obtain ⟨σ2, a1, a2⟩ := s_playL hL hP hC hm hw (nI M) was (nI i) (fun μ67 a68 x69 x70 x71 x72 x73 x74 =>
    ((gR μ67 a68 12 1).bind fun v75 =>
    ((aI μ67 v75 0 (9 : Int32)).bind fun v76 =>
    (nm v76 fun x77 =>
    ((ob μ67 a68 12).bind fun _ =>
    ((f_X12_laysBack μ67 a68).bind fun μ78 =>
    (nm (x74 + Int32.ofInt (1)) fun x79 =>
    f_X12_terms_L68 K f μ78 a68 x69 x70 x71 x72 x77 x73 x79))))))) m 0 (stA σ1 189 9 x) (trX σk x) tt FU (by omega) (by unfold FU; omega) skx (trX_DG hD hx) hex
        rw [show nI 0 = (0 : Int32) from rfl] at a1
        have okk := plK_ok (nr := nr) hP hC m (trX σk x) tt skx (trX_DG hD hx)
        rw [if_pos hP]
        exact ⟨σ2, _, a1, a2, okk.1, rfl⟩
      · rw [if_neg hP]
        refine ⟨stA σ1 189 9 x, trX σk x, fun ρ τ => ?_, hex, skx, trX_9 x⟩
        obtain ⟨F, hF, _⟩ := FU_s
        have e2 : (stA σ1 189 9 x).2.1 189 2 = nI (dN (cur σk) 2) := by
          rw [stA2, if_neg (by omega), he.2.2.2.2 189 (by unfold PerM; omega)]; exact hD.sP
        rw [hF, f_X12_terms_L86, if_neg (show ¬ nI m ≤ 0 from nI_ge (a := 0) (by omega) (by omega)), mR_1, Option.bind_some, sc_2, Option.bind_some, e2, if_pos (show nI (dN (cur σk) 2) ≤ 0 from nI_le (b := 0) (by omega) (by decide))]
    obtain ⟨σ2, σs, p1, p2, p3, p4⟩ := plays
    obtain ⟨σ3, b1, b2⟩ := s_laysBack hk4 p3 p2
    obtain ⟨σ', z1, z2⟩ := ih (i + 1) σ3 (trK m σk x tt).1 (trK m σk x tt).2 f (by omega) (by omega) b2 (trK_x hD hx hC)
    refine ⟨σ', fun ρ τ => ?_, z2⟩
    have e9 : σ2.2.1 189 9 = (trK m σk x tt).1 := by rw [p2.2.2.2.2 189 (by unfold PerM; omega)]; exact p4
    rw [f_X12_terms_L68, if_neg (nI_ge (by omega) (by omega)), mR_1, Option.bind_some, sp_9, Option.bind_some, nm_q, p1, mR_1, Option.bind_some, sc_9, Option.bind_some, e9, nm_q, ob_mem, Option.bind_some, b1, Option.bind_some, nm_q, oin1, nI_add]
    exact z1 ρ τ
theorem REL.p4 (hR : REL n S T σ nr) (h : Pf σ σk 4 430) : REL n S T σk nr := by
  obtain ⟨⟨a1, a2, a3, a4, a5, a6, a7, a8⟩, ⟨L, b1, b2, b3, b4⟩, hRu, hI, hD, hSc⟩ := hR
  have s1 : ∀ j, j ≠ 75 → j ≠ 76 → σk.1 j = σ.1 j := h.2.2.1
  have p : ∀ r, r ≠ 240 → r ≠ 227 → σk.2.1 r = σ.2.1 r := h.2.2.2.2.1
  refine ⟨⟨a1, a2, ?_, ?_, a5, a6, a7, a8⟩, ⟨L, b1, b2, ?_, ?_⟩, ?_, ?_, ?_, ?_⟩
  · rw [s1 32 (by decide) (by decide)]; exact a3
  · rw [s1 37 (by decide) (by decide)]; exact a4
  · rw [s1 28 (by decide) (by decide)]; exact b3
  · rw [p 215 (by decide) (by decide)]; exact b4
  · intro r hr
    obtain ⟨b, l, m, c1, c2⟩ := hRu r hr
    refine ⟨b, l, m, c1, c2.ext c2.rv (agr.refl (fun _ => True) T) trivial (fun _ _ _ => trivial) ?_ ?_ ?_ ?_⟩
    · rw [p 218 (by decide) (by decide)]
    · intro i _; rw [p 216 (by decide) (by decide), p 217 (by decide) (by decide)]; exact ⟨rfl, rfl⟩
    · intro i _; rw [p 219 (by decide) (by decide), p 220 (by decide) (by decide), p 221 (by decide) (by decide), p 223 (by decide) (by decide)]; exact ⟨rfl, rfl, rfl, rfl⟩
    · intro i k w _ st; rw [p 216 (by decide) (by decide), p 217 (by decide) (by decide)]
  · intro j hj
    rw [p 241 (by decide) (by decide), h.im2 (show j ≠ 4 by omega)]
    exact hI j hj
  · rw [h.cu]; exact hD
  · rw [h.cu]; exact hSc
end LAYS
theorem c_fill3 {n sl : Nat} {U : Nat → va_E} {S : Nat → Nat × Nat × Nat} {σ1 : Sg} (K : Mm → Option Mm) : ∀ (k i : Nat) (T : Tc) (f : Nat), i + k = 3 → k < f → (∀ t, t < i → T.2.1 187 t = 0) → ∃ T', f_J7_fill_53178_L5 K f (cn n sl U S T σ1) 187 0 (nI i) (nI 3) = K (cn n sl U S T' σ1) ∧ agr (Oth 187) T T' ∧ ∀ t, t < 3 → T'.2.1 187 t = 0 := by
  intro k
  induction k with
  | zero =>
    intro i T f h1 h2 h4
    obtain ⟨f, rfl⟩ : ∃ k, f = k + 1 := ⟨f - 1, by omega⟩
    obtain rfl : i = 3 := by omega
    refine ⟨T, ?_, agr.refl _ _, h4⟩
    rw [f_J7_fill_53178_L5, if_pos (by decide)]
  | succ k ih =>
    intro i T f h1 h2 h4
    obtain ⟨f, rfl⟩ : ∃ k, f = k + 1 := ⟨f - 1, by omega⟩
    have i8 : i < 3 := by omega
    obtain ⟨T', z1, z2, z3⟩ := ih (i + 1) (tA T 187 i 0) f (by omega) (by omega) (fun t ht => by
      rw [tA2]
      by_cases e : t = i
      · rw [if_pos ⟨rfl, e⟩]
      · rw [if_neg (fun h => e h.2)]; exact h4 t (by omega))
    refine ⟨T', ?_, (agr_tA _ _ (fun h => h rfl)).trans z2, z3⟩
    rw [f_J7_fill_53178_L5, if_neg (nI_ge (by omega) (by omega)), x187_w i8, Option.bind_some, nm_q, oin1, nI_add]
    exact z1
theorem in1_ {x : Int32} {b : Nat} (hb : b < 2 ^ 31) : ((1 : Int32) ≤ x ∧ x ≤ nI b) ↔ ∃ j, 1 ≤ j ∧ j ≤ b ∧ x = nI j := by
  constructor
  · rintro ⟨h1, h2⟩
    have h0 : 0 ≤ x := by
      rw [i32le] at h1 ⊢
      have : (1 : Int32).toInt = 1 := rfl
      have : (0 : Int32).toInt = 0 := rfl
      omega
    have e := nI_cl x h0
    have l : x.toNatClampNeg < 2 ^ 31 := Int32.toNatClampNeg_lt x
    refine ⟨x.toNatClampNeg, ?_, ?_, e⟩
    · rw [e, show (1 : Int32) = nI 1 from rfl] at h1
      exact (nI_leI (by decide) l).1 h1
    · rw [e] at h2
      exact (nI_leI l hb).1 h2
  · rintro ⟨j, h1, h2, rfl⟩
    exact ⟨nI_le (a := 1) h1 (by omega), nI_le h2 hb⟩
theorem isg_e {nr : Nat} {σ : Sg} (hD : DG nr (cur σ)) (ρ : Mm) (τ : Nat → va_E) : f_X12_isGround (mem ρ τ σ) 188 = some (if nc (cur σ) = 0 then (0 : Int32) else 1, mem ρ τ σ) := by
  have bC := hD.bC
  unfold f_X12_isGround
  rw [mR_1, Option.bind_some, sc_0, Option.bind_some, cs_0, hD.sC]
  rcases hD.gr with ⟨g1, g2, _⟩ | ⟨g1, g2⟩
  · rw [if_pos (show nI (dN (cur σ) 0) ≤ 0 from nI_le (b := 0) (by omega) (by decide)), z01, if_pos (show nc (cur σ) = 0 by rw [nc, g1, Nat.zero_mul])]
  · have : 0 < nc (cur σ) := Nat.mul_pos (by omega) (by omega)
    rw [if_neg (show ¬ nI (dN (cur σ) 0) ≤ 0 from nI_ge (a := 0) (by omega) (by omega)), z11, if_neg (by omega)]
theorem op_terms (m t w : Int32) : OpR (fun μ => f_X11_terms μ 128 m t w) (fun μ => f_X12_terms μ 188 m t w) := by
  refine OpR.s fun n sl U S T σ nr hR => ?_
  have hR' := hR
  obtain ⟨hN, hTP, hRU, hIM, hD, hS⟩ := hR
  have n48 := hD.n48
  show ∃ v T' σ', f_X11_terms (cn n sl U S T σ) 128 m t w = some (v, cn n sl U S T' σ) ∧ (∀ ρ τ, f_X12_terms (mem ρ τ σ) 188 m t w = some (v, mem ρ τ σ')) ∧ REL n S T' σ' nr
  have i20 : ((1 : Int64) ≤ m.toInt64 ∧ m.toInt64 ≤ 20) ↔ ((1 : Int32) ≤ m ∧ m ≤ 20) := in_i (lo := 1) (hi := 20)
  have i40 : ((1 : Int64) ≤ t.toInt64 ∧ t.toInt64 ≤ 40) ↔ ((1 : Int32) ≤ t ∧ t ≤ 40) := in_i (lo := 1) (hi := 40)
  have e2 : isN w 3 ↔ (¬ w < 0 ∧ w ≤ 2) := by
    unfold isN
    rw [i32le, i32lt, i32lt, i32le]
    have e1 : (2 : Int32).toInt = 2 := rfl
    have e2 : (nI 3).toInt = 3 := rfl
    omega
  have lt1 : ∀ x : Int32, (x < 1) ↔ ¬ (1 : Int32) ≤ x := fun x => by rw [i32lt, i32le]; omega
  have gt20 : (20 : Int32) < m ↔ ¬ m ≤ 20 := by rw [i32lt, i32le]; omega
  unfold f_X11_terms f_X12_terms
  rw [x128_6, Option.bind_some, s0_0 hS.sv, Option.bind_some, g0_2 hS.la.gv, Option.bind_some, hS.la.cg.2.2.1]
  by_cases h0 : nc (cur σ) = 0
  · refine ⟨-1, T, σ, ?_, fun ρ τ => ?_, hR'⟩
    · rw [if_pos (show nI (dN (cur σ) 0 * dN (cur σ) 1) = 0 by rw [show dN (cur σ) 0 * dN (cur σ) 1 = 0 from h0]; rfl)]
    · rw [ob_mem, Option.bind_some, isg_e hD, bd_some, if_pos h0, if_pos rfl]
  · have hC : 0 < nc (cur σ) := Nat.pos_of_ne_zero h0
    rw [if_neg (show ¬ nI (dN (cur σ) 0 * dN (cur σ) 1) = 0 from nI_ne0 hC (Nat.lt_of_le_of_lt n48 (by decide)))]
    by_cases h1 : (1 : Int32) ≤ m ∧ m ≤ 20
    · rw [if_neg (fun h => (lt1 m).1 h h1.1), if_neg (fun h => gt20.1 h h1.2)]
      by_cases h2 : (1 : Int32) ≤ t ∧ t ≤ 40
      · rw [if_neg (fun h => (lt1 t).1 h h2.1), if_pos h2.2]
        by_cases h3 : isN w 3
        · rw [if_neg (e2.1 h3).1, if_pos (e2.1 h3).2]
          obtain ⟨M, m1, m2, rfl⟩ := (in1_ (b := 20) (by decide)).1 h1
          obtain ⟨k, k1, k2, rfl⟩ := (in1_ (b := 40) (by decide)).1 h2
          obtain ⟨j, hj, rfl⟩ := isN_of (by decide) h3
          obtain ⟨σk, s1, s2⟩ := s_carryF (σ := σ) (k := 4) (by decide)
          have Rk := hR'.p4 s2
          have Dk := Rk.2.2.2.2.1
          have ck := s2.cu
          have hCk : 0 < nc (cur σk) := by rw [ck]; exact hC
          obtain ⟨lw, l1, l2⟩ := c_law (sl := sl) (U := U) (σ1 := σ) Rk
          obtain ⟨T1, a1, a2, a3⟩ := c_fill3 (n := n) (sl := sl) (U := U) (S := S) (σ1 := σ) (fun μ12 => (some μ12)) 3 0 T FU rfl (by unfold FU; omega) (fun t ht => by omega)
          rw [show nI 0 = (0 : Int32) from rfl] at a1
          have n1 : agr (Ns S) T T1 := ns_scr a2 (.inr (by omega))
          have R1 := Rk.scr n1 (Eqm.refl σk)
          have hx : T1.1 161 2 = cur σ 189 9 := by rw [(a2 161 (by decide)).1]; exact hS.xx
          obtain ⟨T', t1, t2, t3⟩ := c_termsL (n := n) (sl := sl) (U := U) (S := S) (σ1 := σ) (w := nI j) k2 m2 hCk (fun μ30 a31 x32 =>
    ((gR μ30 a31 11 13).bind fun v33 =>
    ((aI μ30 v33 0 x32).bind fun v34 =>
    (some (v34, μ30))))) M 0 T1 (cur σ 189 9) (fun _ => 0) FU (by omega) (by unfold FU; omega) R1 hD.dx a3
          rw [show nI 0 = (0 : Int32) from rfl] at t1
          obtain ⟨σ', r1, r2⟩ := s_termsL l2 Dk hCk s2.kp4 k1 k2 m2 hj (cur σ 189 9) (fun μ80 a81 x82 x83 =>
    ((gR μ80 a81 12 1).bind fun v84 =>
    ((sI μ80 v84 0 (9 : Int32) x82).bind fun μ85 =>
    (some (x83, μ85))))) M 0 σk (cur σ 189 9) (fun _ => 0) FU (by omega) (by unfold FU; omega) (Eqm.refl σk) hD.dx
          have hfin : Eqm σk (stA σ' 189 9 (cur σ 189 9)) := by
            obtain ⟨q1, q2, q3, q4, q5⟩ := r2
            refine ⟨q1, q2, q3, q4, fun r hr => ?_⟩
            funext i
            rw [stA2]
            by_cases e : r = 189 ∧ i = 9
            · rw [if_pos e, e.1, e.2]
              show cur σ 189 9 = cur σk 189 9
              rw [ck]
            · rw [if_neg e, q5 r hr]
          refine ⟨trM k σk M (cur σ 189 9) (fun _ => 0) j, T', stA σ' 189 9 (cur σ 189 9), ?_, fun ρ τ => ?_, Rk.scr (n1.trans t2) hfin⟩
          · unfold f_J7_fill_53178
            rw [x128_13, Option.bind_some, nm_q, x187_n, Option.bind_some, nm_q, a1, Option.bind_some, x128_6, Option.bind_some, s0_2 hS.sv, Option.bind_some, hx, nm_q, nm_q, t1, x128_13, Option.bind_some, x187_r hj, Option.bind_some, t3 j hj]
          · have r1 := r1 ρ τ
            rw [show nI 0 = (0 : Int32) from rfl] at r1
            unfold f_X12_keepsAll
            rw [ob_mem, Option.bind_some, isg_e hD, bd_some, if_neg h0, if_neg (by decide), s_in, bd_some, if_pos (i20.2 h1), if_neg (by decide), s_in, bd_some, if_pos (i40.2 h2), if_neg (by decide), s_in, bd_some, if_pos (in02.2 h3), if_neg (by decide), mR_1, Option.bind_some, sc_9, Option.bind_some, cs_9, nm_q, nm_q, nm_q, ob_mem, Option.bind_some, Option.bind_some, show (4 : Int32) = nI 4 from rfl, s1, Option.bind_some, Option.bind_some, nm_q, r1, mR_1, Option.bind_some, sp_9, Option.bind_some]
        · refine ⟨-1, T, σ, ?_, fun ρ τ => ?_, hR'⟩
          · by_cases h4 : w < 0
            · rw [if_pos h4]
            · rw [if_neg h4, if_neg (fun h => h3 (e2.2 ⟨h4, h⟩))]
          · rw [ob_mem, Option.bind_some, isg_e hD, bd_some, if_neg h0, if_neg (by decide), s_in, bd_some, if_pos (i20.2 h1), if_neg (by decide), s_in, bd_some, if_pos (i40.2 h2), if_neg (by decide), s_in, bd_some, if_neg (fun h => h3 (in02.1 h)), if_pos rfl]
      · refine ⟨-1, T, σ, ?_, fun ρ τ => ?_, hR'⟩
        · by_cases h4 : t < 1
          · rw [if_pos h4]
          · rw [if_neg h4, if_neg (fun h => h2 ⟨Classical.not_not.1 (fun q => h4 ((lt1 t).2 q)), h⟩)]
        · rw [ob_mem, Option.bind_some, isg_e hD, bd_some, if_neg h0, if_neg (by decide), s_in, bd_some, if_pos (i20.2 h1), if_neg (by decide), s_in, bd_some, if_neg (fun h => h2 (i40.1 h)), if_pos rfl]
    · refine ⟨-1, T, σ, ?_, fun ρ τ => ?_, hR'⟩
      · by_cases h4 : m < 1
        · rw [if_pos h4]
        · rw [if_neg h4, if_pos (gt20.2 (fun h => h1 ⟨Classical.not_not.1 (fun q => h4 ((lt1 m).2 q)), h⟩))]
      · rw [ob_mem, Option.bind_some, isg_e hD, bd_some, if_neg h0, if_neg (by decide), s_in, bd_some, if_neg (fun h => h1 (i20.1 h)), if_pos rfl]
