/-! The call ground: the whole. -/
theorem dN_of {D : Dt} {k v : Nat} (h : D 189 k = nI v) (hv : v < 2 ^ 31) : dN D k = v := by
  unfold dN
  rw [h, nI_clamp hv]
/-- what both hold behind a ground that was read -/
def GD (D : Dt) (d : Dr) : Prop := (∀ k, k < 7 → D 189 k = nI (d 0 k)) ∧ D 189 7 = nI 0 ∧ D 189 8 = nI 0 ∧ D 0 0 = nI 0 ∧ (∀ c, c < 48 → D 190 c = nI (d 1 c)) ∧ (∀ j, 2 ≤ j → j ≤ 11 → ∀ i, i < d 0 (cx j) → D (189 + j) i = nI (d j i))
theorem GD.n {D : Dt} {d : Dr} (h : GD D d) (hd : DOK d) : (∀ k, k < 7 → dN D k = d 0 k) ∧ dN D 7 = 0 ∧ dN D 8 = 0 ∧ dM D = 0 ∧ dh D = hG d := by
  obtain ⟨a1, a2, a3, a4, a5, a6⟩ := h
  obtain ⟨b1, b2, b3, b4, b5, b6, b7, b8⟩ := hd
  have bd : ∀ k, k < 7 → d 0 k < 2 ^ 31 := fun k hk => by
    have : k = 0 ∨ k = 1 ∨ k = 2 ∨ k = 3 ∨ k = 4 ∨ k = 5 ∨ k = 6 := by omega
    rcases this with rfl | rfl | rfl | rfl | rfl | rfl | rfl <;> omega
  refine ⟨fun k hk => dN_of (a1 k hk) (bd k hk), dN_of a2 (by decide), dN_of a3 (by decide), ?_, ?_⟩
  · unfold dM
    rw [a4]
    rfl
  · funext c
    unfold dh hG
    by_cases h : c < 48
    · have := b5 c
      rw [if_pos h, if_pos h, a5 c h, nI_clamp (by omega)]
    · rw [if_neg h, if_neg h]
theorem GD.dg {D : Dt} {d : Dr} {nr : Nat} (h : GD D d) (hd : DOK d) (hx : 0 ≤ D 189 9) (hf : D 189 10 = -1 ∨ isB (D 189 10) nr) : DG nr D := by
  obtain ⟨n1, n7, n8, nM, nh⟩ := h.n hd
  have n0' := n1 0 (by decide)
  have n1' := n1 1 (by decide)
  have n2' := n1 2 (by decide)
  have n3' := n1 3 (by decide)
  have n4' := n1 4 (by decide)
  have n5' := n1 5 (by decide)
  have n6' := n1 6 (by decide)
  obtain ⟨a1, a2, a3, a4, a5, a6⟩ := h
  obtain ⟨b1, b2, b3, b4, b5, b6, b7, b8⟩ := hd
  have ncs : nc D = d 0 0 * d 0 1 := by unfold nc; rw [n0', n1']
  have h31 : ∀ c, hG d c ≤ 9 := (DOK.gs ⟨b1, b2, b3, b4, b5, b6, b7, b8⟩).2.2.2.2
  have h48 : d 0 0 * d 0 1 ≤ 8 * 6 := Nat.mul_le_mul b1.2 b2.2
  refine ⟨by rw [n0']; exact a1 0 (by decide), by omega, by rw [n1']; exact a1 1 (by decide), by omega, by rw [n2']; exact a1 2 (by decide), by omega, by rw [n3']; exact a1 3 (by decide), by omega, by rw [n4']; exact a1 4 (by decide), by omega, by rw [n5']; exact a1 5 (by decide), by omega, by rw [n6']; exact a1 6 (by decide), by omega, by rw [n7]; exact a2, by omega, by rw [n8]; exact a3, by omega, by rw [nM]; exact a4, by omega, .inr (by omega), fun c hc => ?_, fun c => by rw [nh]; exact h31 c, fun k hk q hq => ?_, fun k hk t ht => ?_, fun k hk => ?_, fun t ht => ?_, fun k hk => ?_, fun i j hi hj he => ?_, fun l hl => ?_, fun k hk => ?_, fun k hk => ?_, fun k hk => ?_, fun k hk => ?_, hx, hf⟩
  · rw [nh, a5 c hc, hG, if_pos hc]
  · rw [n2'] at hq
    unfold rwA
    rw [if_neg (by omega), ncs]
    exact ⟨d 2 q, b6 2 (by decide) (by decide) q hq, a6 2 (by decide) (by decide) q hq⟩
  · rw [n3'] at ht
    unfold rwT
    rw [if_neg (by omega), ncs]
    exact ⟨d 4 t, b6 4 (by decide) (by decide) t ht, a6 4 (by decide) (by decide) t ht⟩
  · unfold rwB
    rw [if_neg (by omega), a2]
    exact ⟨0, by decide, rfl⟩
  · rw [n3'] at ht
    exact ⟨d 7 t, b6 7 (by decide) (by decide) t ht, a6 7 (by decide) (by decide) t ht⟩
  · rw [n4'] at hk
    rw [ncs]
    exact ⟨d 8 k, b6 8 (by decide) (by decide) k hk, a6 8 (by decide) (by decide) k hk⟩
  · rw [n4'] at hi hj
    have e1 : D 197 i = nI (d 8 i) := a6 8 (by decide) (by decide) i hi
    have e2 : D 197 j = nI (d 8 j) := a6 8 (by decide) (by decide) j hj
    have l1 : d 8 i < d 0 0 * d 0 1 := b6 8 (by decide) (by decide) i hi
    have l2 : d 8 j < d 0 0 * d 0 1 := b6 8 (by decide) (by decide) j hj
    rw [e1, e2] at he
    exact b8 i j hi hj ((nI_eq (by omega) (by omega)).1 he)
  · rw [n5'] at hl
    have e1 : D 198 l = nI (d 9 l) := a6 9 (by decide) (by decide) l hl
    have l1 : d 9 l < 21 := b6 9 (by decide) (by decide) l hl
    have l2 := b7 l hl
    refine ⟨⟨d 9 l, l1, e1⟩, ?_⟩
    rw [e1]
    intro x
    have := (nI_eq (by omega) (by decide)).1 x
    omega
  · rw [n6'] at hk
    rw [n5']
    exact ⟨d 10 k, b6 10 (by decide) (by decide) k hk, a6 10 (by decide) (by decide) k hk⟩
  · rw [n6'] at hk
    rw [n5']
    exact ⟨d 11 k, b6 11 (by decide) (by decide) k hk, a6 11 (by decide) (by decide) k hk⟩
  · omega
  · omega
theorem GD.les {D : Dt} {d : Dr} (h : GD D d) (hd : DOK d) : les D = lsG d := by
  obtain ⟨n1, n7, n8, nM, nh⟩ := h.n hd
  obtain ⟨a1, a2, a3, a4, a5, a6⟩ := h
  obtain ⟨b1, b2, b3, b4, b5, b6, b7, b8⟩ := hd
  rw [les_e, n1 5 (by decide), n1 6 (by decide)]
  unfold lsG
  refine lsK_cong (fun k hk => ?_) (fun l hl => ?_) _
  · have e1 : D 199 k = nI (d 10 k) := a6 10 (by decide) (by decide) k hk
    have e2 : D 200 k = nI (d 11 k) := a6 11 (by decide) (by decide) k hk
    have l1 : d 10 k < d 0 5 := b6 10 (by decide) (by decide) k hk
    have l2 : d 11 k < d 0 5 := b6 11 (by decide) (by decide) k hk
    unfold laD soD
    rw [e1, e2, nI_clamp (by omega), nI_clamp (by omega)]
    exact ⟨rfl, rfl⟩
  · have e1 : D 198 l = nI (d 9 l) := a6 9 (by decide) (by decide) l hl
    have l1 : d 9 l < 21 := b6 9 (by decide) (by decide) l hl
    unfold hoD
    rw [e1, nI_clamp (by omega)]
theorem GD.gr {D : Dt} {d : Dr} {n g : Nat} {S : Nat → Nat × Nat × Nat} {T : Tc} (h : GD D d) (hd : DOK d) (hv : GV n S g) (hC : CR T g d) (hL : CL T g (d 0 0) (d 0 1) (hG d)) (hl : LSt T g (lsG d)) : GR n S T g D := by
  obtain ⟨n1, n7, n8, nM, nh⟩ := h.n hd
  have le := h.les hd
  obtain ⟨a1, a2, a3, a4, a5, a6⟩ := h
  obtain ⟨c1, c2, c3, c4, c5, c6⟩ := hC
  have gs := hd.gs
  refine ⟨hv, ?_, ?_, ?_, fun q hq => ?_, ?_, fun t ht => ?_, fun t ht => ?_, fun t ht => ?_, ?_, ?_, ?_, fun l hl' => ?_, ?_, fun k hk => ?_⟩
  · rw [n1 0 (by decide), n1 1 (by decide), nh]
    refine ⟨c2 0 (by decide) (by decide), c2 1 (by decide) (by decide), c3, fun c hc => ?_⟩
    have c48 : c < 48 := Nat.lt_of_lt_of_le hc gs.n
    rw [c4 c c48, hG, if_pos c48]
  · rw [n1 0 (by decide), n1 1 (by decide), nh]
    exact hL
  · rw [a1 2 (by decide)]
    exact c2 2 (by decide) (by decide)
  · rw [n1 2 (by decide)] at hq
    exact (c6 3 (by decide) (by decide) (by decide) q hq).trans (a6 3 (by decide) (by decide) q hq).symm
  · rw [a1 3 (by decide)]
    exact c2 3 (by decide) (by decide)
  · rw [n1 3 (by decide)] at ht
    exact (c6 5 (by decide) (by decide) (by decide) t ht).trans (a6 5 (by decide) (by decide) t ht).symm
  · rw [n1 3 (by decide)] at ht
    exact (c6 6 (by decide) (by decide) (by decide) t ht).trans (a6 6 (by decide) (by decide) t ht).symm
  · rw [n1 3 (by decide)] at ht
    exact (c6 7 (by decide) (by decide) (by decide) t ht).trans (a6 7 (by decide) (by decide) t ht).symm
  · rw [n1 4 (by decide), c5]
    exact nbL_cong (fun i hi => (a6 8 (by decide) (by decide) i hi).symm)
  · rw [a1 5 (by decide)]
    exact c2 5 (by decide) (by decide)
  · rw [a1 6 (by decide)]
    exact c2 6 (by decide) (by decide)
  · rw [n1 5 (by decide)] at hl'
    have := hd.2.2.2.1.2.2.2.1
    rw [le]
    exact hl.1 l (by omega)
  · rw [le]; exact hl.2.1
  · rw [le] at hk ⊢
    exact hl.2.2 k hk
theorem op_ground : OpR (fun μ => f_X11_ground μ 128) (fun μ => f_X12_ground μ 188) := by
  intro n sl U S T σ nr hR
  have hR' := hR
  obtain ⟨hN, ⟨L, tL1, tL2, tL3, tL4⟩, hRU, hIM, hD, hS⟩ := hR
  have sv_161 := hS.sv
  -- the text
  obtain ⟨b, hb⟩ : ∃ b : Nat → Nat, ∀ i, i < L → b i < 256 ∧ T.2.1 130 i = byt (b i) ∧ σ.2.1 215 i = byt (b i) := by
    refine ⟨fun i => (T.2.1 130 i &&& 255).toNatClampNeg, fun i hi => ?_⟩
    obtain ⟨x, h1, h2, h3⟩ := tL4 i hi
    have h4 := (byt_all x h1).2.2.2.1
    have h5 : (T.2.1 130 i &&& 255).toNatClampNeg = x := by rw [h2, h4, nI_clamp (by omega)]
    show (T.2.1 130 i &&& 255).toNatClampNeg < 256 ∧ T.2.1 130 i = byt (T.2.1 130 i &&& 255).toNatClampNeg ∧ σ.2.1 215 i = byt (T.2.1 130 i &&& 255).toNatClampNeg
    rw [h5]
    exact ⟨h1, h2, h3⟩
  have hX : TXc T L b := ⟨tL1, tL2, fun i hi => ⟨(hb i hi).1, (hb i hi).2.1⟩⟩
  obtain ⟨sl', U', S', T', e, a1, a2, a3, a4, a5, a6⟩ := c_readAll (n := n) (sl := sl) (U := U) (S := S) (σ1 := σ) hX
  -- the reference reads
  obtain ⟨σ0, w0⟩ : ∃ σ0, σ0 = stI (zrS (zrS (stI (stI (stI σ 33 0) 34 0) 35 0) 203 7) 204 48) 27 0 := ⟨_, rfl⟩
  have f0 : (∀ k, k ≠ 27 → k ≠ 33 → k ≠ 34 → k ≠ 35 → σ0.1 k = σ.1 k) ∧ (∀ r, r ≠ 203 → r ≠ 204 → σ0.2.1 r = σ.2.1 r) := by
    rw [w0]
    refine ⟨fun k h1 h2 h3 h4 => ?_, fun r h1 h2 => ?_⟩
    · rw [stI1, if_neg h1]
      show (stI (stI (stI σ 33 0) 34 0) 35 0).1 k = _
      rw [stI1, if_neg h4, stI1, if_neg h3, stI1, if_neg h2]
    · funext i
      show (if r = 204 ∧ i < 48 then 0 else if r = 203 ∧ i < 7 then 0 else σ.2.1 r i) = _
      rw [if_neg (fun x => h2 x.1), if_neg (fun x => h1 x.1)]
  have hXs : TXs σ0 L b := by
    refine ⟨tL1, by rw [f0.1 28 (by decide) (by decide) (by decide) (by decide)]; exact tL3, fun i hi => ?_⟩
    rw [f0.2 215 (by decide) (by decide)]
    exact ⟨(hb i hi).1, (hb i hi).2.2⟩
  have hQ0 : SQ σ0 (fun _ _ => 0) := by
    rw [w0]
    refine ⟨by rw [stI1, if_pos rfl]; rfl, fun k hk => ?_, fun c hc => ?_, fun j j2 j11 i hi => absurd hi (Nat.not_lt_zero _)⟩
    · show (if 203 = 204 ∧ k < 48 then 0 else if 203 = 203 ∧ k < 7 then 0 else σ.2.1 203 k) = _
      rw [if_neg (fun x => by omega), if_pos ⟨rfl, hk⟩]
      rfl
    · show (if 204 = 204 ∧ c < 48 then 0 else _) = _
      rw [if_pos ⟨rfl, hc⟩]
      rfl
  obtain ⟨σ1, q, e1, z1, z2, z3⟩ := z_allL (L := L) (b := b) (fun μ30 a31 =>
    ((pV μ30 a31 12 28 (.int (0 : Int32))).bind fun μ32 =>
    (some μ32))) 40 0 0 σ0 (fun _ _ => 0) FU rfl (by unfold FU; omega) hXs hQ0 (fun h => by omega) (fun _ _ _ => rfl) (Nat.zero_le _)
  rw [show nI 0 = (0 : Int32) from rfl] at z1
  have ee : e1 = e := by
    cases hA : gAll L b 41 0 0 (fun _ _ => 0) with
    | inl x =>
      rw [hA] at a6 z3
      rw [a6.1, z3.1]
    | inr d =>
      rw [hA] at a6 z3
      rw [a6.1, z3.1]
  subst ee
  obtain ⟨σ2, w2⟩ : ∃ σ2, σ2 = sp (stI σ1 28 0) q e1 := ⟨_, rfl⟩
  have rd : ∀ ρ τ, f_X12_readsAll (mem ρ τ σ) 188 = some (mem ρ τ σ2) := by
    intro ρ τ
    unfold f_X12_readsAll f_X12_starts
    rw [ob_mem, Option.bind_some, mP_29, Option.bind_some, mP_30, Option.bind_some, mP_33, Option.bind_some, mP_34, Option.bind_some, mP_35, Option.bind_some, Option.bind_some, nm_q, s_zr1, nm_q, s_zr2, mP_27, Option.bind_some, nm_q, nm_q]
    have e0 : stI (zrS (zrS (stI (stI (stI (stI (stI σ 29 0) 30 0) 33 0) 34 0) 35 0) 203 7) 204 48) 27 0 = sp σ0 0 0 := by
      have h1 : stI (stI (stI (stI (stI σ 29 0) 30 0) 33 0) 34 0) 35 0 = sp (stI (stI (stI σ 33 0) 34 0) 35 0) 0 0 := by
        show stI (stI (stI (sp σ 0 0) 33 0) 34 0) 35 0 = _
        rw [sp_I _ _ _ (by decide) (by decide), sp_I _ _ _ (by decide) (by decide), sp_I _ _ _ (by decide) (by decide)]
      rw [h1, w0]
      exact sp_I (zrS (zrS (stI (stI (stI σ 33 0) 34 0) 35 0) 203 7) 204 48) 0 0 (k := 27) (v := 0) (by decide) (by decide)
    rw [e0, z1, mP_28, sp_I _ _ _ (by decide) (by decide), Option.bind_some, ← w2]
  have e30 : σ2.1 30 = nI e1 := by rw [w2, sp1, if_pos rfl]
  have r2 : ∀ r, ¬ (203 ≤ r ∧ r ≤ 214) → σ2.2.1 r = σ.2.1 r := fun r hr => by
    rw [w2]
    exact (z2.2 r hr).trans (f0.2 r (by omega) (by omega))
  have s2 : ∀ k, k ≠ 27 → k ≠ 28 → k ≠ 29 → k ≠ 30 → k ≠ 33 → k ≠ 34 → k ≠ 35 → σ2.1 k = σ.1 k := fun k h1 h2 h3 h4 h5 h6 h7 => by
    rw [w2, sp1, if_neg h4, if_neg h3, stI1, if_neg h2, z2.1 k h1, f0.1 k h1 h5 h6 h7]
  have s28 : σ2.1 28 = nI 0 := by rw [w2, sp1, if_neg (by decide), if_neg (by decide), stI1, if_pos rfl]; rfl
  obtain ⟨T1, w1⟩ : ∃ T1, T1 = tI T' 129 1 0 := ⟨_, rfl⟩
  have hgl : 242 + n ≠ 129 := by omega
  have R1 : REL (n + 15) S' T1 σ2 nr := by
    refine hR'.new (by omega) a3 (fun r hr => ?_) ⟨fun k hk => s2 k (by omega) (by omega) (by omega) (by omega) (by omega) (by omega) (by omega), fun r hr => r2 r (by omega)⟩ ⟨0, by decide, by rw [w1, tI1, if_pos ⟨rfl, rfl⟩]; rfl, s28, fun i hi => by omega⟩
    obtain ⟨p1, p2, p3, p4, p5⟩ := a4 r hr
    rw [w1]
    refine ⟨?_, p2, p3, p4, p5⟩
    rw [← p1]
    funext k
    rw [tI1, if_neg (fun x => hr.2.1 x.1)]
  have cl : f_X11_ground (cn n sl U S T σ) 128 = (if (if e1 = 0 then (1 : Int32) else 0) = 0 then some ((-2 : Int32) - nI e1, cn (n + 15) sl' U' S' T1 σ) else ((gR (cn (n + 15) sl' U' S' T1 σ) 131 2 1).bind fun v12 =>
    ((ob (cn (n + 15) sl' U' S' T1 σ) 161 7).bind fun _ =>
    ((f_X7_settleOn (cn (n + 15) sl' U' S' T1 σ) 161 v12).bind fun μ13 =>
    ((gR μ13 128 11 6).bind fun v14 =>
    ((gR μ13 v14 7 0).bind fun v15 =>
    ((gI μ13 v15 1 2).bind fun v16 =>
    (some (v16, μ13))))))))) := by
    unfold f_X11_ground
    rw [x128_1, Option.bind_some, x131_o, Option.bind_some, a1, bd_some, nm_q, x128_0, Option.bind_some, x129_1p, Option.bind_some, ← w1, x128_0, Option.bind_some, x129_3, show T1.1 129 3 = nI e1 by rw [w1, tI1, if_neg (by omega)]; exact a5, Option.bind_some, x128_6, Option.bind_some, x128_1, Option.bind_some]
  by_cases e0 : e1 = 0
  · subst e0
    cases hA : gAll L b 41 0 0 (fun _ _ => 0) with
    | inl x =>
      rw [hA] at a6
      exact absurd rfl a6.2.1
    | inr d =>
      rw [hA] at a6 z3
      obtain ⟨-, hv, hd, hC, hCL, hLS⟩ := a6
      obtain ⟨-, hQ⟩ := z3
      obtain ⟨g, wg⟩ : ∃ g, g = 242 + n := ⟨_, rfl⟩
      rw [← wg] at hv hC hCL hLS
      have gl : 242 ≤ g := by omega
      have hC1 : CR T1 g d := hC.ext (by rw [w1]; rfl) (by rw [w1]; funext k; rw [tI1, if_neg (by omega)]) (fun k _ => by rw [w1, tI1, if_neg (by omega)]) (by rw [w1]; funext k; rw [tI1, if_neg (by omega)]) (by rw [w1]; rfl) (fun j _ _ _ _ _ _ => by rw [w1]; rfl)
      have hCL1 : CL T1 g (d 0 0) (d 0 1) (hG d) := by rw [w1]; exact hCL
      have hLS1 : LSt T1 g (lsG d) := by
        rw [w1]
        refine ⟨hLS.1, ?_, hLS.2.2⟩
        rw [tI1, if_neg (by omega)]
        exact hLS.2.1
      have sv := R1.2.2.2.2.2.sv
      -- the class settles
      have c1 : ∀ {T : Tc}, cpI (cn (n + 15) sl' U' S' T σ) (g + 3) 0 162 0 5 = some (cn (n + 15) sl' U' S' (tF T 162 (va_cpy (T.2.1 (g + 3)) (T.2.1 162) 0 0 5)) σ) := fun {T} => cnC (x := 0) (y := 0) (z := 5) (hv 3 (show 3 < 15 by decide)).1 (hv 3 (show 3 < 15 by decide)).2 (sv 1 (show 1 < 6 by decide)).1 (sv 1 (show 1 < 6 by decide)).2 (by decide) (by decide) (by decide) (by decide)
      have c2 : ∀ {T : Tc}, cpI (cn (n + 15) sl' U' S' T σ) (g + 5) 0 163 0 8 = some (cn (n + 15) sl' U' S' (tF T 163 (va_cpy (T.2.1 (g + 5)) (T.2.1 163) 0 0 8)) σ) := fun {T} => cnC (x := 0) (y := 0) (z := 8) (hv 5 (show 5 < 15 by decide)).1 (hv 5 (show 5 < 15 by decide)).2 (sv 2 (show 2 < 6 by decide)).1 (sv 2 (show 2 < 6 by decide)).2 (by decide) (by decide) (by decide) (by decide)
      have cw : ∀ (f g : Nat → Int32) (m k : Nat), k < m → va_cpy f g 0 0 m k = f k := fun f g m k hk => by rw [pk_cpy_in (by omega) (by omega), show 0 + (k - 0) = k by omega]
      obtain ⟨T2, u2⟩ : ∃ Y : Tc, Y = tR T1 161 0 g := ⟨_, rfl⟩
      obtain ⟨T3, u3⟩ : ∃ Y : Tc, Y = tF T2 162 (va_cpy (T2.2.1 (g + 3)) (T2.2.1 162) 0 0 5) := ⟨_, rfl⟩
      obtain ⟨T4, u4⟩ : ∃ Y : Tc, Y = tF T3 163 (va_cpy (T3.2.1 (g + 5)) (T3.2.1 163) 0 0 8) := ⟨_, rfl⟩
      obtain ⟨T5, u5⟩ : ∃ Y : Tc, Y = tI (tI (tI (tI (tI T4 161 3 0) 161 9 0) 161 6 0) 161 7 0) 161 8 0 := ⟨_, rfl⟩
      have st : f_X7_settleOn (cn (n + 15) sl' U' S' T1 σ) 161 g = some (cn (n + 15) sl' U' S' T5 σ) := by
        unfold f_X7_settleOn f_X7_forgetClues
        rw [s0_0p sv, Option.bind_some, ← u2, g0_7 hv, Option.bind_some, s0_4 sv, Option.bind_some, c1, Option.bind_some, ← u3, g0_10 hv, Option.bind_some, s0_5 sv, Option.bind_some, c2, Option.bind_some, ← u4, s0_3p sv, Option.bind_some, s0_9p sv, Option.bind_some, s0_o sv, Option.bind_some, s0_6p sv, Option.bind_some, s0_7p sv, Option.bind_some, s0_8p sv, Option.bind_some, Option.bind_some, ← u5]
      have t5_1 : ∀ r, r ≠ 161 → T5.1 r = T1.1 r := fun r hr => by
        rw [u5]
        funext k
        rw [tI1, if_neg (fun x => hr x.1), tI1, if_neg (fun x => hr x.1), tI1, if_neg (fun x => hr x.1), tI1, if_neg (fun x => hr x.1), tI1, if_neg (fun x => hr x.1), u4, u3, u2]
        rfl
      have t5_2 : ∀ r, r ≠ 162 → r ≠ 163 → T5.2.1 r = T1.2.1 r := fun r h1 h2 => by
        rw [u5]
        show T4.2.1 r = _
        rw [u4, tF2, if_neg h2, u3, tF2, if_neg h1, u2]
        rfl
      have t5_3 : T5.2.2.1 = T1.2.2.1 ∧ T5.2.2.2.2 = T1.2.2.2.2 := by rw [u5]; show T4.2.2.1 = _ ∧ T4.2.2.2.2 = _; rw [u4, u3, u2]; exact ⟨rfl, rfl⟩
      have t5_4 : ∀ r k, T5.2.2.2.1 r k = if r = 161 ∧ k = 0 then g else T1.2.2.2.1 r k := fun r k => by
        rw [u5]
        show T4.2.2.2.1 r k = _
        rw [u4, u3, u2]
        show (tR T1 161 0 g).2.2.2.1 r k = _
        rw [tR4]
      have t162 : ∀ k, k < 5 → T5.2.1 162 k = T1.2.1 (g + 3) k := fun k hk => by
        rw [u5]
        show T4.2.1 162 k = _
        rw [u4, tF2, if_neg (by decide), u3, tF2, if_pos rfl, cw _ _ _ _ hk, u2]
        rfl
      have t163 : ∀ k, k < 8 → T5.2.1 163 k = T1.2.1 (g + 5) k := fun k hk => by
        rw [u5]
        show T4.2.1 163 k = _
        rw [u4, tF2, if_pos rfl, cw _ _ _ _ hk, u3, tF2, if_neg (by omega), u2]
        rfl
      have t161 : ∀ k, T5.1 161 k = if k = 3 ∨ k = 6 ∨ k = 7 ∨ k = 8 ∨ k = 9 then 0 else T1.1 161 k := fun k => by
        have h4 : T4.1 161 k = T1.1 161 k := by rw [u4, u3, u2]; rfl
        rw [u5, tI1, tI1, tI1, tI1, tI1]
        by_cases h8 : k = 8
        · rw [if_pos ⟨rfl, h8⟩, if_pos (by omega)]
        · rw [if_neg (fun x => h8 x.2)]
          by_cases h7 : k = 7
          · rw [if_pos ⟨rfl, h7⟩, if_pos (by omega)]
          · rw [if_neg (fun x => h7 x.2)]
            by_cases h6 : k = 6
            · rw [if_pos ⟨rfl, h6⟩, if_pos (by omega)]
            · rw [if_neg (fun x => h6 x.2)]
              by_cases h9 : k = 9
              · rw [if_pos ⟨rfl, h9⟩, if_pos (by omega)]
              · rw [if_neg (fun x => h9 x.2)]
                by_cases h3 : k = 3
                · rw [if_pos ⟨rfl, h3⟩, if_pos (by omega)]
                · rw [if_neg (fun x => h3 x.2), if_neg (by omega), h4]
      have g161 : ∀ j, j < 15 → g + j ≠ 161 ∧ g + j ≠ 162 ∧ g + j ≠ 163 := fun j hj => by omega
      have hC5 : CR T5 g d := hC1.ext (by funext k; rw [t5_4, if_neg (by omega)]) (t5_1 g (by omega)) (fun k _ => by rw [t5_1 (g + 9) (by omega)]) (t5_1 131 (by decide)) (by rw [t5_3.1]) (fun j hj _ _ _ _ _ => t5_2 (g + j) (g161 j hj).2.1 (g161 j hj).2.2)
      have hCL5 : CL T5 g (d 0 0) (d 0 1) (hG d) := fun c hc => by rw [t5_2 (g + 2) (by omega) (by omega)]; exact hCL1 c hc
      have hLS5 : LSt T5 g (lsG d) := ⟨fun l hl => by rw [t5_2 (g + 13) (by omega) (by omega)]; exact hLS1.1 l hl, by rw [t5_1 (g + 9) (by omega)]; exact hLS1.2.1, fun k hk => by rw [t5_2 (g + 14) (by omega) (by omega)]; exact hLS1.2.2 k hk⟩
      -- the reference lays
      obtain ⟨σ3, w3⟩ : ∃ σ3, σ3 = stI (alS σ2 11) 55 0 := ⟨_, rfl⟩
      have hQ2 : SQ σ2 d := by
        obtain ⟨k1, k2, k3, k4⟩ := hQ
        rw [w2]
        refine ⟨?_, k2, k3, k4⟩
        rw [sp1, if_neg (by decide), if_neg (by decide), stI1, if_neg (by decide)]
        exact k1
      have cu189 : ∀ k, k < 11 → cur σ3 189 k = (alS σ2 11).2.1 189 k := fun k hk => by
        unfold cur
        rw [if_pos (show k < dlen 189 from hk), if_neg (by decide), w3]
        rfl
      have hGD : GD (cur σ3) d := by
        refine ⟨fun k hk => ?_, ?_, ?_, ?_, fun c hc => ?_, fun j j2 j11 i hi => ?_⟩
        · rw [cu189 k (by omega), alS_s, if_pos (by omega), if_pos hk]
          exact hQ2.2.1 k hk
        · rw [cu189 7 (by decide), alS_s, if_pos (by decide), if_neg (by decide)]
          rfl
        · rw [cu189 8 (by decide), alS_s, if_pos (by decide), if_neg (by decide)]
          rfl
        · unfold cur
          rw [if_pos (show 0 < dlen 0 by decide), if_pos rfl, w3, stI1, if_pos rfl]
          rfl
        · unfold cur
          rw [if_pos (show c < dlen 190 from hc), if_neg (by decide), w3]
          show (alS σ2 11).2.1 (190 + 0) c = _
          rw [alS_j σ2 (k := 0) c hc 11 (by decide) (by decide)]
          exact hQ2.2.2.1 c hc
        · obtain ⟨b1, b2, b3, b4, b5, b6, b7, b8⟩ := hd
          have ln : i < rlen j ∧ dlen (189 + j) = rlen j := by
            have hj : j = 2 ∨ j = 3 ∨ j = 4 ∨ j = 5 ∨ j = 6 ∨ j = 7 ∨ j = 8 ∨ j = 9 ∨ j = 10 ∨ j = 11 := by omega
            rcases hj with rfl | rfl | rfl | rfl | rfl | rfl | rfl | rfl | rfl | rfl
            · have hi : i < d 0 2 := hi
              exact ⟨by show i < 5; omega, by decide⟩
            · have hi : i < d 0 2 := hi
              exact ⟨by show i < 5; omega, by decide⟩
            · have hi : i < d 0 3 := hi
              exact ⟨by show i < 8; omega, by decide⟩
            · have hi : i < d 0 3 := hi
              exact ⟨by show i < 8; omega, by decide⟩
            · have hi : i < d 0 3 := hi
              exact ⟨by show i < 8; omega, by decide⟩
            · have hi : i < d 0 3 := hi
              exact ⟨by show i < 8; omega, by decide⟩
            · have hi : i < d 0 4 := hi
              exact ⟨by show i < 4; omega, by decide⟩
            · have hi : i < d 0 5 := hi
              exact ⟨by show i < 8; omega, by decide⟩
            · have hi : i < d 0 6 := hi
              exact ⟨by show i < 10; omega, by decide⟩
            · have hi : i < d 0 6 := hi
              exact ⟨by show i < 10; omega, by decide⟩
          unfold cur
          rw [if_pos (by rw [ln.2]; exact ln.1), if_neg (by omega), w3]
          show (alS σ2 11).2.1 (189 + j) i = _
          rw [show 189 + j = 190 + (j - 1) by omega, alS_j σ2 (k := j - 1) i (by rw [show j - 1 + 1 = j by omega]; exact ln.1) 11 (by omega) (by decide), show 204 + (j - 1) = 203 + j by omega]
          exact hQ2.2.2.2 j j2 j11 i hi
      have cu9 : ∀ k, k = 9 ∨ k = 10 → cur σ3 189 k = cur σ 189 k := fun k hk => by
        rw [cu189 k (by omega), alS_s, if_neg (by omega), r2 189 (by omega)]
        unfold cur
        rw [if_pos (show k < dlen 189 from by show k < 11; omega), if_neg (by decide)]
      have hD3 : DG nr (cur σ3) := hGD.dg hd (by rw [cu9 9 (.inl rfl)]; exact hD.dx) (by rw [cu9 10 (.inr rfl)]; exact hD.fo)
      obtain ⟨n1, n7, n8, nM, nh⟩ := hGD.n hd
      have t161o : ∀ k, T1.1 161 k = T.1 161 k := fun k => by
        rw [w1, tI1, if_neg (by omega)]
        exact congrFun (a4 161 (by omega)).1 k
      have hS3 : SR (n + 15) S' T5 161 (cur σ3) := by
        have eg : T5.2.2.2.1 161 0 = g := by rw [t5_4, if_pos ⟨rfl, rfl⟩]
        refine ⟨sv, by rw [eg]; exact hGD.gr hd hv hC5 hCL5 hLS5, ?_, ?_, ?_, fun q hq => ?_, fun t ht => ?_, ?_, ?_, ?_, ?_, fun k hk => by omega, fun k hk => by omega⟩
        · rw [t161, if_neg (by omega), t161o, cu9 10 (.inr rfl)]
          exact hS.fo
        · rw [t161, if_neg (by omega), t161o, cu9 9 (.inl rfl)]
          exact hS.xx
        · rw [t161, if_pos (by omega), hGD.2.1]
          rfl
        · rw [n1 2 (by decide)] at hq
          have := hd.2.2.2.1.1
          refine (t162 q (by omega)).trans ?_
          exact (hC1.2.2.2.2.2 2 (by decide) (by decide) (by decide) q hq).trans (hGD.2.2.2.2.2 2 (by decide) (by decide) q hq).symm
        · rw [n1 3 (by decide)] at ht
          have := hd.2.2.2.1.2.1
          refine (t163 t (by omega)).trans ?_
          exact (hC1.2.2.2.2.2 4 (by decide) (by decide) (by decide) t ht).trans (hGD.2.2.2.2.2 4 (by decide) (by decide) t ht).symm
        · rw [t161, if_pos (by omega), hGD.2.2.1]
          rfl
        · rw [t161, if_pos (by omega), n8]
          rfl
        · rw [t161, if_pos (by omega), n8]
          rfl
        · rw [t161, if_pos (by omega), hGD.2.2.2.1]
          rfl
      have R3 : REL (n + 15) S' T5 σ3 nr := by
        refine R1.sch (fun r hr => ?_) ⟨?_, ?_, ?_, fun r hr => ?_⟩ hD3 hS3
        · have h1 : r ≠ 161 ∧ r ≠ 162 ∧ r ≠ 163 := by have := hr.2; omega
          exact ⟨t5_1 r h1.1, t5_2 r h1.2.1 h1.2.2, by rw [t5_3.1], by funext k; rw [t5_4, if_neg (fun x => h1.1 x.1)], by rw [t5_3.2]⟩
        · rw [w3, stI1, if_neg (by decide), alS_1]
        · rw [w3, stI1, if_neg (by decide), alS_1]
        · rw [w3, stI1, if_neg (by decide), alS_1]
        · rw [w3]
          funext i
          exact alS_r σ2 i (by omega) 11 (by decide)
      refine ⟨nI (d 0 0 * d 0 1), n + 15, sl', U', S', T5, σ3, nr, ?_, ?_, R3, by omega, a2⟩
      · show f_X11_ground (cn n sl U S T σ) 128 = _
        rw [cl, if_neg (by decide), x131_1, hC1.1, Option.bind_some, s0_o sv, Option.bind_some, st, Option.bind_some, x128_6, Option.bind_some, s0_0 sv, t5_4, if_pos ⟨rfl, rfl⟩, Option.bind_some, g0_2 hv, hC5.2.2.1, Option.bind_some]
      · show f_X12_ground (mem _ _ σ) 188 = some (nI (d 0 0 * d 0 1), mem _ _ σ3)
        unfold f_X12_ground
        have mg := hD3.mg
        rw [n1 0 (by decide), n1 1 (by decide)] at mg
        rw [ob_mem, Option.bind_some, rd, Option.bind_some, mI_30, Option.bind_some, e30, if_pos (show nI 0 ≤ 0 by decide), nm_q, s_scl, mR_16, Option.bind_some, mR_2, Option.bind_some, show f_X12_copies (mem _ _ (scS σ2 9)) 204 190 = _ from s_all σ2 _ _ 0 (by decide), Option.bind_some, mR_17, Option.bind_some, mR_3, Option.bind_some, show f_X12_copies (mem _ _ (alS σ2 1)) 205 191 = _ from s_all σ2 _ _ 1 (by decide), Option.bind_some, mR_18, Option.bind_some, mR_4, Option.bind_some, show f_X12_copies (mem _ _ (alS σ2 2)) 206 192 = _ from s_all σ2 _ _ 2 (by decide), Option.bind_some, mR_19, Option.bind_some, mR_5, Option.bind_some, show f_X12_copies (mem _ _ (alS σ2 3)) 207 193 = _ from s_all σ2 _ _ 3 (by decide), Option.bind_some, mR_20, Option.bind_some, mR_6, Option.bind_some, show f_X12_copies (mem _ _ (alS σ2 4)) 208 194 = _ from s_all σ2 _ _ 4 (by decide), Option.bind_some, mR_21, Option.bind_some, mR_7, Option.bind_some, show f_X12_copies (mem _ _ (alS σ2 5)) 209 195 = _ from s_all σ2 _ _ 5 (by decide), Option.bind_some, mR_22, Option.bind_some, mR_8, Option.bind_some, show f_X12_copies (mem _ _ (alS σ2 6)) 210 196 = _ from s_all σ2 _ _ 6 (by decide), Option.bind_some, mR_23, Option.bind_some, mR_9, Option.bind_some, show f_X12_copies (mem _ _ (alS σ2 7)) 211 197 = _ from s_all σ2 _ _ 7 (by decide), Option.bind_some, mR_24, Option.bind_some, mR_10, Option.bind_some, show f_X12_copies (mem _ _ (alS σ2 8)) 212 198 = _ from s_all σ2 _ _ 8 (by decide), Option.bind_some, mR_25, Option.bind_some, mR_11, Option.bind_some, show f_X12_copies (mem _ _ (alS σ2 9)) 213 199 = _ from s_all σ2 _ _ 9 (by decide), Option.bind_some, mR_26, Option.bind_some, mR_12, Option.bind_some, show f_X12_copies (mem _ _ (alS σ2 10)) 214 200 = _ from s_all σ2 _ _ 10 (by decide), Option.bind_some, mP_55, Option.bind_some, ← w3, ob_mem, Option.bind_some, s_cells mg, bd_some]
  · refine ⟨(-2 : Int32) - nI e1, n + 15, sl', U', S', T1, σ2, nr, ?_, ?_, R1, by omega, a2⟩
    · show f_X11_ground (cn n sl U S T σ) 128 = _
      rw [cl, if_neg e0, if_pos rfl]
    · show f_X12_ground (mem _ _ σ) 188 = some (_, mem _ _ σ2)
      have e4 : e1 < 4000 := by
        cases hA : gAll L b 41 0 0 (fun _ _ => 0) with
        | inl x =>
          rw [hA] at a6
          exact a6.2.2
        | inr d =>
          rw [hA] at a6
          exact absurd a6.1 e0
      unfold f_X12_ground
      rw [ob_mem, Option.bind_some, rd, Option.bind_some, mI_30, Option.bind_some, e30, if_neg (show ¬ nI e1 ≤ 0 from nI_ge (a := 0) (by omega) (by omega)), Option.bind_some]
