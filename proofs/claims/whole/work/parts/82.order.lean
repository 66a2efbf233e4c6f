/-! Lessons laid by the reference; lesson and order. -/
theorem eqm_stA (σ : Sg) {r : Nat} (i : Nat) (v : Int32) (h : ¬ PerM r) : Eqm σ (stA σ r i v) := ⟨rfl, rfl, rfl, rfl, fun q hq => by
  funext j
  rw [stA2, if_neg (by intro e; have := e.1; subst this; exact h hq)]⟩
theorem eqm_stI (σ : Sg) {k : Nat} (v : Int32) (h : k ≠ 28 ∧ k ≠ 32 ∧ k ≠ 37 ∧ k ≠ 55) : Eqm σ (stI σ k v) := ⟨by rw [stI1, if_neg (by omega)], by rw [stI1, if_neg (by omega)], by rw [stI1, if_neg (by omega)], by rw [stI1, if_neg (by omega)], fun _ _ => rfl⟩
abbrev lsD (D : Dt) : Nat → (Nat → Option Nat) × (Nat → Nat) × Nat := lsK (dN D 5) (dN D 6) (laD D) (soD D) (hoD D)
/-- the reference has laid k lessons -/
def Rl (σ σ1 : Sg) (k : Nat) : Prop := Eqm σ σ1 ∧ (∀ l, l < 8 → σ1.2.1 238 l = o2I ((lsD (cur σ) k).1 l) nI) ∧ (∀ j, j < (lsD (cur σ) k).2.2 → σ1.2.1 239 j = nI ((lsD (cur σ) k).2.1 j)) ∧ σ1.1 72 = nI (lsD (cur σ) k).2.2
section ORD
variable {nr n : Nat} {S : Nat → Nat × Nat × Nat} {T : Tc} {σ : Sg}
theorem s_layL1 (K : Mm → Nat → Option Mm) : ∀ (k i : Nat) (σ1 : Sg) (f : Nat), i + k = 8 → k < f → (∀ t, t < i → σ1.2.1 238 t = -2) → ∃ σ', (∀ ρ τ, f_X12_laysLessons_L2 K f (mem ρ τ σ1) 188 (nI i) = K (mem ρ τ σ') 188) ∧ Eqm σ1 σ' ∧ ∀ t, t < 8 → σ'.2.1 238 t = -2 := by
  intro k
  induction k with
  | zero =>
    intro i σ1 f h1 h2 h3
    obtain ⟨f, rfl⟩ : ∃ k, f = k + 1 := ⟨f - 1, by omega⟩
    obtain rfl : i = 8 := by omega
    refine ⟨σ1, fun ρ τ => ?_, Eqm.refl _, h3⟩
    rw [f_X12_laysLessons_L2, if_pos (by decide)]
  | succ k ih =>
    intro i σ1 f h1 h2 h3
    obtain ⟨f, rfl⟩ : ∃ k, f = k + 1 := ⟨f - 1, by omega⟩
    obtain ⟨σ', z1, z2, z3⟩ := ih (i + 1) (stA σ1 238 i (-2)) f (by omega) (by omega) (fun t ht => by
      rw [stA2]
      by_cases e : t = i
      · rw [if_pos ⟨rfl, e⟩]
      · rw [if_neg (fun h => e h.2)]; exact h3 t (by omega))
    refine ⟨σ', fun ρ τ => ?_, (eqm_stA σ1 i (-2) (by unfold PerM; omega)).trans z2, z3⟩
    rw [f_X12_laysLessons_L2, if_neg (show ¬ (8 : Int32) ≤ nI i from nI_ge (b := 8) (by omega) (by decide)), mR_70, Option.bind_some, y238_w (by omega), Option.bind_some, nm_q, oin1, nI_add]
    exact z1 ρ τ
theorem lsD_b (hD : DG nr (cur σ)) (k : Nat) : lsB (lsD (cur σ) k) ∧ (lsD (cur σ) k).2.2 ≤ k := lsK_b hD.bL (fun l hl => by have := (hD.hoo hl).2; omega) k
theorem s_layL2 (hD : DG nr (cur σ)) (K : Mm → Option Mm) : ∀ (j k : Nat) (σ1 : Sg) (f : Nat), k + j = dN (cur σ) 5 → j + 5 < f → Rl σ σ1 k → ∃ σ', (∀ ρ τ, f_X12_laysLessons_L29 K f (mem ρ τ σ1) 188 1 = K (mem ρ τ σ')) ∧ Rl σ σ' (dN (cur σ) 5) := by
  have bL := hD.bL
  intro j
  have main : ∀ (k : Nat) (σ1 : Sg) (f : Nat), k ≤ dN (cur σ) 5 → 3 < f → Rl σ σ1 k → lnx (dN (cur σ) 6) (laD (cur σ)) (soD (cur σ)) (lsD (cur σ) k).1 (dN (cur σ) 5) = none → ∃ σ', (∀ ρ τ, f_X12_laysLessons_L29 K f (mem ρ τ σ1) 188 1 = K (mem ρ τ σ')) ∧ Rl σ σ' (dN (cur σ) 5) := by
    intro k σ1 f h1 h2 hr hn
    obtain ⟨f, rfl⟩ : ∃ k, f = k + 1 := ⟨f - 1, by omega⟩
    obtain ⟨f, rfl⟩ : ∃ k, f = k + 1 := ⟨f - 1, by omega⟩
    obtain ⟨r1, r2, r3, r4⟩ := id hr
    obtain ⟨⟨b1, b2⟩, b3⟩ := lsD_b hD k
    refine ⟨σ1, fun ρ τ => ?_, ?_⟩
    · have z := s_nextL (E := (lsD (cur σ) k).1) hD r1 r2 (fun l v h => by have := b1 l v h; omega) (fun μ31 a32 x33 =>
    (if x33 = (-1 : Int32) then
    (nm (0 : Int32) fun x34 =>
    (if x34 = 0 then
    f_X12_laysLessons_L29 K (f + 1) μ31 a32 x34
    else
    ((gR μ31 a32 12 70).bind fun v35 =>
    ((ob μ31 a32 12).bind fun _ =>
    (bd (f_X12_beginOf μ31 a32 x33) fun v37 μ36 =>
    ((gR μ36 a32 12 10).bind fun v38 =>
    ((aI μ36 v38 0 x33).bind fun v39 =>
    ((sI μ36 v35 0 x33 (v37 + v39)).bind fun μ40 =>
    ((gR μ40 a32 12 71).bind fun v41 =>
    ((gI μ40 a32 12 72).bind fun v42 =>
    ((sI μ40 v41 0 v42 x33).bind fun μ43 =>
    ((gI μ43 a32 12 72).bind fun v44 =>
    ((pV μ43 a32 12 72 (.int (v44 + (1 : Int32)))).bind fun μ45 =>
    f_X12_laysLessons_L29 K (f + 1) μ45 a32 x34)))))))))))))
    else
    (nm (1 : Int32) fun x46 =>
    (if x46 = 0 then
    f_X12_laysLessons_L29 K (f + 1) μ31 a32 x46
    else
    ((gR μ31 a32 12 70).bind fun v47 =>
    ((ob μ31 a32 12).bind fun _ =>
    (bd (f_X12_beginOf μ31 a32 x33) fun v49 μ48 =>
    ((gR μ48 a32 12 10).bind fun v50 =>
    ((aI μ48 v50 0 x33).bind fun v51 =>
    ((sI μ48 v47 0 x33 (v49 + v51)).bind fun μ52 =>
    ((gR μ52 a32 12 71).bind fun v53 =>
    ((gI μ52 a32 12 72).bind fun v54 =>
    ((sI μ52 v53 0 v54 x33).bind fun μ55 =>
    ((gI μ55 a32 12 72).bind fun v56 =>
    ((pV μ55 a32 12 72 (.int (v56 + (1 : Int32)))).bind fun μ57 =>
    f_X12_laysLessons_L29 K (f + 1) μ57 a32 x46))))))))))))))) ρ τ (dN (cur σ) 5) none FU (Nat.le_refl _) (by unfold FU; omega) (fun _ j g1 g2 => by omega) (fun l h => by cases h)
      rw [show oI none = (-1 : Int32) from rfl] at z
      rw [f_X12_laysLessons_L29, if_neg (by decide), nm_q, mR_1, Option.bind_some, sc_5, Option.bind_some, cs_5, r1.cu, hD.sL, nm_q, z, hn, if_pos (show oI none = -1 from rfl), nm_q, if_pos rfl, f_X12_laysLessons_L29, if_pos rfl]
    · have e : lsD (cur σ) (dN (cur σ) 5) = lsD (cur σ) k := by
        have := lsK_stay hn (dN (cur σ) 5 - k)
        rw [show k + (dN (cur σ) 5 - k) = dN (cur σ) 5 by omega] at this
        exact this
      unfold Rl
      rw [e]; exact hr
  induction j with
  | zero =>
    intro k σ1 f h1 h2 hr
    obtain rfl : k = dN (cur σ) 5 := by omega
    exact main _ σ1 f (Nat.le_refl _) (by omega) hr (lsK_end _ _ _ _ _)
  | succ j ih =>
    intro k σ1 f h1 h2 hr
    cases hl : lnx (dN (cur σ) 6) (laD (cur σ)) (soD (cur σ)) (lsD (cur σ) k).1 (dN (cur σ) 5) with
    | none => exact main k σ1 f (by omega) (by omega) hr hl
    | some l =>
      obtain ⟨f, rfl⟩ : ∃ k, f = k + 1 := ⟨f - 1, by omega⟩
      obtain ⟨r1, r2, r3, r4⟩ := id hr
      obtain ⟨⟨b1, b2⟩, b3⟩ := lsD_b hD k
      obtain ⟨g1, g2, g3⟩ := (lnx_spec (dN (cur σ) 6) (laD (cur σ)) (soD (cur σ)) _ (dN (cur σ) 5)).2 l hl
      have l8 : l < 8 := by omega
      obtain ⟨B, hB⟩ : ∃ B, stOf (laD (cur σ)) (soD (cur σ)) (lsD (cur σ) k).1 l (dN (cur σ) 6) = some B := by
        cases h : stOf (laD (cur σ)) (soD (cur σ)) (lsD (cur σ) k).1 l (dN (cur σ) 6) with
        | none => exact absurd h g2.2
        | some B => exact ⟨B, rfl⟩
      have hho := hD.hoo g1
      have e198 : σ1.2.1 198 l = nI (hoD (cur σ) l) := by rw [r1.2.2.2.2 198 (by unfold PerM; omega), ← cu_198 l8]; exact hho.1
      have c8 : (lsD (cur σ) k).2.2 < 8 := by omega
      have els : lsD (cur σ) (k + 1) = (fun x => if x = l then some (B + hoD (cur σ) l) else (lsD (cur σ) k).1 x, fun x => if x = (lsD (cur σ) k).2.2 then l else (lsD (cur σ) k).2.1 x, (lsD (cur σ) k).2.2 + 1) := by
        show lst (dN (cur σ) 5) (dN (cur σ) 6) (laD (cur σ)) (soD (cur σ)) (hoD (cur σ)) (lsD (cur σ) k) = _
        unfold lst
        rw [hl]
        simp only [hB, Option.getD_some]
      obtain ⟨σ', z1, z2⟩ := ih (k + 1) (stI (stA (stA σ1 238 l (nI (B + hoD (cur σ) l))) 239 (lsD (cur σ) k).2.2 (nI l)) 72 (nI ((lsD (cur σ) k).2.2 + 1))) f (by omega) (by omega) (by
        refine ⟨((r1.trans (eqm_stA _ _ _ (by unfold PerM; omega))).trans (eqm_stA _ _ _ (by unfold PerM; omega))).trans (eqm_stI _ _ (by omega)), fun x hx => ?_, fun x hx => ?_, ?_⟩
        · rw [els, stI2, stA2, if_neg (by omega), stA2]
          show _ = o2I (if x = l then some (B + hoD (cur σ) l) else (lsD (cur σ) k).1 x) nI
          by_cases e : x = l
          · rw [if_pos ⟨rfl, e⟩, if_pos e]; rfl
          · rw [if_neg (fun h => e h.2), if_neg e]; exact r2 x hx
        · rw [els] at hx ⊢
          have hx : x < (lsD (cur σ) k).2.2 + 1 := hx
          show _ = nI (if x = (lsD (cur σ) k).2.2 then l else (lsD (cur σ) k).2.1 x)
          rw [stI2, stA2]
          by_cases e : x = (lsD (cur σ) k).2.2
          · rw [if_pos ⟨rfl, e⟩, if_pos e]
          · rw [if_neg (fun h => e h.2), if_neg e, stA2, if_neg (by omega)]; exact r3 x (by omega)
        · rw [els, stI1, if_pos rfl])
      refine ⟨σ', fun ρ τ => ?_, z2⟩
      have z := s_nextL (E := (lsD (cur σ) k).1) hD r1 r2 (fun l v h => by have := b1 l v h; omega) (fun μ31 a32 x33 =>
    (if x33 = (-1 : Int32) then
    (nm (0 : Int32) fun x34 =>
    (if x34 = 0 then
    f_X12_laysLessons_L29 K f μ31 a32 x34
    else
    ((gR μ31 a32 12 70).bind fun v35 =>
    ((ob μ31 a32 12).bind fun _ =>
    (bd (f_X12_beginOf μ31 a32 x33) fun v37 μ36 =>
    ((gR μ36 a32 12 10).bind fun v38 =>
    ((aI μ36 v38 0 x33).bind fun v39 =>
    ((sI μ36 v35 0 x33 (v37 + v39)).bind fun μ40 =>
    ((gR μ40 a32 12 71).bind fun v41 =>
    ((gI μ40 a32 12 72).bind fun v42 =>
    ((sI μ40 v41 0 v42 x33).bind fun μ43 =>
    ((gI μ43 a32 12 72).bind fun v44 =>
    ((pV μ43 a32 12 72 (.int (v44 + (1 : Int32)))).bind fun μ45 =>
    f_X12_laysLessons_L29 K f μ45 a32 x34)))))))))))))
    else
    (nm (1 : Int32) fun x46 =>
    (if x46 = 0 then
    f_X12_laysLessons_L29 K f μ31 a32 x46
    else
    ((gR μ31 a32 12 70).bind fun v47 =>
    ((ob μ31 a32 12).bind fun _ =>
    (bd (f_X12_beginOf μ31 a32 x33) fun v49 μ48 =>
    ((gR μ48 a32 12 10).bind fun v50 =>
    ((aI μ48 v50 0 x33).bind fun v51 =>
    ((sI μ48 v47 0 x33 (v49 + v51)).bind fun μ52 =>
    ((gR μ52 a32 12 71).bind fun v53 =>
    ((gI μ52 a32 12 72).bind fun v54 =>
    ((sI μ52 v53 0 v54 x33).bind fun μ55 =>
    ((gI μ55 a32 12 72).bind fun v56 =>
    ((pV μ55 a32 12 72 (.int (v56 + (1 : Int32)))).bind fun μ57 =>
    f_X12_laysLessons_L29 K f μ57 a32 x46))))))))))))))) ρ τ (dN (cur σ) 5) none FU (Nat.le_refl _) (by unfold FU; omega) (fun _ j g1 g2 => by omega) (fun l h => by cases h)
      rw [show oI none = (-1 : Int32) from rfl] at z
      have beg : f_X12_beginOf (mem ρ τ σ1) 188 (nI l) = some (nI B, mem ρ τ σ1) := by
        have y := s_beginL (E := (lsD (cur σ) k).1) hD r1 r2 (fun l v h => by have := b1 l v h; omega) l8 hB (fun μ27 x28 => (some (x28, μ27))) ρ τ (dN (cur σ) 6) 0 0 FU (by omega) (by have := hD.bA; unfold FU; omega) rfl
        rw [show nI 0 = (0 : Int32) from rfl] at y
        unfold f_X12_beginOf
        rw [nm_q, nm_q, y]
      rw [f_X12_laysLessons_L29, if_neg (by decide), nm_q, mR_1, Option.bind_some, sc_5, Option.bind_some, cs_5, r1.cu, hD.sL, nm_q, z, hl, show oI (some l) = nI l from rfl, if_neg (nI_nm1 (by omega)), nm_q, if_neg (by decide), mR_70, Option.bind_some, ob_mem, Option.bind_some, beg, bd_some, mR_10, Option.bind_some, y198_r l8, Option.bind_some, e198, nI_add, y238_w l8, Option.bind_some, mR_71, Option.bind_some, mI_72, Option.bind_some, stA1, r4, y239_w c8, Option.bind_some, mI_72, Option.bind_some, stA1, stA1, r4, lit_1, nI_add, mP_72, Option.bind_some]
      exact z1 ρ τ
theorem s_lays (hD : DG nr (cur σ)) : ∃ σ', (∀ ρ τ, f_X12_laysLessons (mem ρ τ σ) 188 = some (mem ρ τ σ')) ∧ Rl σ σ' (dN (cur σ) 5) := by
  have bL := hD.bL
  obtain ⟨σ1, a1, a2, a3⟩ := s_layL1 (fun μ8 a9 =>
    ((pV μ8 a9 12 72 (.int (0 : Int32))).bind fun μ10 =>
    (nm (1 : Int32) fun x11 =>
    f_X12_laysLessons_L29 (fun μ58 =>
    (some μ58)) FU μ10 a9 x11))) 8 0 σ FU rfl (by unfold FU; omega) (fun t ht => by omega)
  obtain ⟨σ', z1, z2⟩ := s_layL2 hD (fun μ58 => (some μ58)) (dN (cur σ) 5) 0 (stI σ1 72 0) FU (by omega) (by unfold FU; omega) ⟨a2.trans (eqm_stI _ _ (by omega)), fun l hl => a3 l hl, fun j hj => absurd hj (Nat.not_lt_zero _), by rw [stI1, if_pos rfl]; rfl⟩
  refine ⟨σ', fun ρ τ => ?_, z2⟩
  have a1 := a1 ρ τ
  rw [show nI 0 = (0 : Int32) from rfl] at a1
  unfold f_X12_laysLessons
  rw [nm_q, a1, mP_72, Option.bind_some, nm_q, z1 ρ τ]
end ORD
theorem op_lesson (x : Int32) : OpR (fun μ => f_X11_lesson μ 128 x) (fun μ => f_X12_lesson μ 188 x) := by
  refine OpR.q fun n sl U S T σ nr hR => ?_
  obtain ⟨hN, hTP, hRU, hIM, hD, hS⟩ := hR
  have bL := hD.bL
  have hg := hS.la.gv
  show ∃ v T' σ', f_X11_lesson (cn n sl U S T σ) 128 x = some (v, cn n sl U S T' σ) ∧ agr (Ns S) T T' ∧ (∀ ρ τ, f_X12_lesson (mem ρ τ σ) 188 x = some (v, mem ρ τ σ')) ∧ Eqm σ σ'
  have ref0 : ∀ ρ τ, f_X12_lesson (mem ρ τ σ) 188 x = (if (if isN x (dN (cur σ) 5) then (1 : Int32) else 0) = 0 then some (-1, mem ρ τ σ) else ((ob (mem ρ τ σ) 188 12).bind fun _ => ((f_X12_laysLessons (mem ρ τ σ) 188).bind fun μ7 => ((gR μ7 188 12 70).bind fun v8 => ((aI μ7 v8 0 x).bind fun v9 => (some (v9, μ7))))))) := by
    intro ρ τ
    unfold f_X12_lesson
    rw [mR_1, Option.bind_some, sc_5, Option.bind_some, cs_5, hD.sL, s_in, bd_some]
    by_cases h : isN x (dN (cur σ) 5)
    · rw [if_pos ((in_n (by omega)).2 h), if_pos h]
    · rw [if_neg (fun e => h ((in_n (by omega)).1 e)), if_neg h]
  unfold f_X11_lesson
  rw [x128_6, Option.bind_some, s0_0 hS.sv, Option.bind_some, g0_14 hg, Option.bind_some, nm_q]
  have e := isN_n (x := x) hD.sL
  by_cases h : isN x (dN (cur σ) 5)
  · obtain ⟨σ', a1, a2, a3, a4, a5⟩ := s_lays hD
    obtain ⟨⟨b1, b2⟩, b3⟩ := lsD_b hD (dN (cur σ) 5)
    obtain ⟨j, hj, rfl⟩ := isN_of (by omega) h
    have j8 : j < 8 := by omega
    refine ⟨o2I ((lsD (cur σ) (dN (cur σ) 5)).1 j) nI, T, σ', ?_, agr.refl _ _, fun ρ τ => ?_, a2⟩
    · have hen := hS.la.en j hj
      rw [show (les (cur σ)).1 j = (lsD (cur σ) (dN (cur σ) 5)).1 j from rfl] at hen
      rw [if_neg (e.2 h).1, g9_0 hg, Option.bind_some, hS.la.to, hD.sL, if_pos (nI_lt hj (by omega)), g9_5 hg, Option.bind_some, g13_r hg j8, Option.bind_some, hen]
      cases ho : (lsD (cur σ) (dN (cur σ) 5)).1 j with
      | none => rw [if_pos (show oI none = -1 from rfl)]; rfl
      | some v =>
        have := b1 j v ho
        rw [show oI (some v) = nI v from rfl, if_neg (nI_nm1 (by omega)), Option.bind_some, g13_r hg j8, Option.bind_some, hen, ho]
        rfl
    · rw [ref0, if_pos h, if_neg (by decide), ob_mem, Option.bind_some, a1, Option.bind_some, mR_70, Option.bind_some, y238_r j8, Option.bind_some, a3 j j8]
  · refine ⟨-1, T, σ, ?_, agr.refl _ _, fun ρ τ => ?_, Eqm.refl _⟩
    · by_cases h1 : x < 0
      · rw [if_pos h1]
      · rw [if_neg h1, g9_0 hg, Option.bind_some, hS.la.to, if_neg (fun h2 => h (e.1 ⟨h1, by rw [i32le]; rw [i32lt] at h2; omega⟩))]
    · rw [ref0, if_neg h, if_pos rfl]
theorem op_order (x : Int32) : OpR (fun μ => f_X11_order μ 128 x) (fun μ => f_X12_order μ 188 x) := by
  refine OpR.q fun n sl U S T σ nr hR => ?_
  obtain ⟨hN, hTP, hRU, hIM, hD, hS⟩ := hR
  have bL := hD.bL
  have bC := hD.bC
  have n48 := hD.n48
  have hg := hS.la.gv
  show ∃ v T' σ', f_X11_order (cn n sl U S T σ) 128 x = some (v, cn n sl U S T' σ) ∧ agr (Ns S) T T' ∧ (∀ ρ τ, f_X12_order (mem ρ τ σ) 188 x = some (v, mem ρ τ σ')) ∧ Eqm σ σ'
  have isg : ∀ ρ τ, f_X12_isGround (mem ρ τ σ) 188 = some (if 0 < dN (cur σ) 0 then (1 : Int32) else 0, mem ρ τ σ) := by
    intro ρ τ
    unfold f_X12_isGround
    rw [mR_1, Option.bind_some, sc_0, Option.bind_some, cs_0, hD.sC]
    by_cases h : 0 < dN (cur σ) 0
    · rw [if_neg (show ¬ nI (dN (cur σ) 0) ≤ 0 from nI_ge (a := 0) h (by omega)), z11, if_pos h]
    · rw [if_pos (show nI (dN (cur σ) 0) ≤ 0 from nI_le (b := 0) (by omega) (by decide)), z01, if_neg h]
  have ezero : nc (cur σ) = 0 ↔ ¬ 0 < dN (cur σ) 0 := by
    rcases hD.gr with ⟨g1, g2, _⟩ | ⟨g1, g2⟩
    · constructor
      · intro _; omega
      · intro _; rw [nc, g1, Nat.zero_mul]
    · constructor
      · intro h
        exfalso
        have : 0 < nc (cur σ) := Nat.mul_pos (by omega) (by omega)
        omega
      · intro h; omega
  unfold f_X11_order f_X12_order
  rw [x128_6, Option.bind_some, s0_0 hS.sv, Option.bind_some, g0_14 hg, Option.bind_some, nm_q, Option.bind_some, s0_0 hS.sv, Option.bind_some, g0_2 hg, Option.bind_some, hS.la.cg.2.2.1]
  by_cases h0 : 0 < dN (cur σ) 0
  · have hn0 : ¬ nc (cur σ) = 0 := fun h => (ezero.1 h) h0
    rw [if_neg (show ¬ nI (dN (cur σ) 0 * dN (cur σ) 1) = 0 from nI_ne0 (Nat.pos_of_ne_zero hn0) (Nat.lt_of_le_of_lt n48 (by decide)))]
    by_cases h1 : 0 ≤ x
    · obtain ⟨σ', a1, a2, a3, a4, a5⟩ := s_lays hD
      obtain ⟨⟨b1, b2⟩, b3⟩ := lsD_b hD (dN (cur σ) 5)
      have hrl := hS.la.rl
      have hrw := hS.la.rw_
      rw [show les (cur σ) = lsD (cur σ) (dN (cur σ) 5) from rfl] at hrl hrw
      by_cases h2 : nI (lsD (cur σ) (dN (cur σ) 5)).2.2 ≤ x
      · refine ⟨-2, T, σ', ?_, agr.refl _ _, fun ρ τ => ?_, a2⟩
        · rw [if_pos h1, g9_7 hg, Option.bind_some, hrl, if_pos h2]
        · rw [ob_mem, Option.bind_some, isg, bd_some, if_pos h0, if_neg (by decide), if_pos h1, ob_mem, Option.bind_some, a1, Option.bind_some, mI_72, Option.bind_some, a5, if_pos h2]
      · have hx : isN x (lsD (cur σ) (dN (cur σ) 5)).2.2 := ⟨h1, by rw [i32lt]; rw [i32le] at h2; omega⟩
        obtain ⟨j, hj, rfl⟩ := isN_of (by omega) hx
        have j8 : j < 8 := by omega
        refine ⟨nI ((lsD (cur σ) (dN (cur σ) 5)).2.1 j), T, σ', ?_, agr.refl _ _, fun ρ τ => ?_, a2⟩
        · rw [if_pos h1, g9_7 hg, Option.bind_some, hrl, if_neg h2, g9_6 hg, Option.bind_some, g14_r hg j8, Option.bind_some, hrw j hj]
        · rw [ob_mem, Option.bind_some, isg, bd_some, if_pos h0, if_neg (by decide), if_pos h1, ob_mem, Option.bind_some, a1, Option.bind_some, mI_72, Option.bind_some, a5, if_neg h2, mR_71, Option.bind_some, y239_r j8, Option.bind_some, a4 j hj]
    · refine ⟨-1, T, σ, ?_, agr.refl _ _, fun ρ τ => ?_, Eqm.refl _⟩
      · rw [if_neg h1]
      · rw [ob_mem, Option.bind_some, isg, bd_some, if_pos h0, if_neg (by decide), if_neg h1]
  · refine ⟨-1, T, σ, ?_, agr.refl _ _, fun ρ τ => ?_, Eqm.refl _⟩
    · rw [if_pos (show nI (dN (cur σ) 0 * dN (cur σ) 1) = 0 by rw [show dN (cur σ) 0 * dN (cur σ) 1 = 0 from ezero.2 h0]; rfl)]
    · rw [ob_mem, Option.bind_some, isg, bd_some, if_neg h0, if_pos rfl]
