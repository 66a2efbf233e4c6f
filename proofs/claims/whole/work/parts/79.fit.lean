/-! Where one can have fallen from: the reference. -/
section FIT
variable {nr n lw q c s : Nat} {S : Nat → Nat × Nat × Nat} {T : Tc} {σ σ1 : Sg}
theorem s_fitL {σ3 : Sg} (hD : DG nr (cur σ)) (he : Eqm σ σ3) {B : Int32} (hB : σ3.1 51 = B) (K : Mm → Int32 → Option (Int32 × Mm)) (ρ : Mm) (τ : Nat → va_E) : ∀ (k i f : Nat), i + k = dN (cur σ) 8 → k < f → f_X12_doesFit_L40 K f (mem ρ τ σ3) 188 (if fitK (cur σ) B i then 1 else 0) (nI i) = K (mem ρ τ σ3) (if fitK (cur σ) B (dN (cur σ) 8) then 1 else 0) := by
  have b8 := hD.bK
  have bT := hD.bT
  intro k
  induction k with
  | zero =>
    intro i f h1 h2
    obtain ⟨f, rfl⟩ : ∃ k, f = k + 1 := ⟨f - 1, by omega⟩
    have ei : i = dN (cur σ) 8 := by omega
    rw [f_X12_doesFit_L40, mR_1, Option.bind_some, sc_8, Option.bind_some, cs_8, he.cu, hD.sK, if_pos (nI_le (by omega) (by omega)), ei]
  | succ k ih =>
    intro i f h1 h2
    obtain ⟨f, rfl⟩ : ∃ k, f = k + 1 := ⟨f - 1, by omega⟩
    have i8 : i < 8 := by omega
    have z := ih (i + 1) f (by omega) (by omega)
    have ct := ((hD.ct i (by omega)).mono bT).cl (by decide)
    have e1 : σ3.2.1 201 i = nI (ctN (cur σ) i) := by rw [he.2.2.2.2 201 (by unfold PerM; omega), ← cu_201 i8]; exact ct.1
    have e2 : σ3.2.1 202 i = cur σ 202 i := by rw [he.2.2.2.2 202 (by unfold PerM; omega), cu_202 i8]
    have c8 : ctN (cur σ) i < 8 := ct.2
    rw [f_X12_doesFit_L40, mR_1, Option.bind_some, sc_8, Option.bind_some, cs_8, he.cu, hD.sK, if_neg (nI_ge (by omega) (by omega))]
    rw [fitK] at z
    cases hf : fitK (cur σ) B i
    · rw [hf, Bool.false_and, i0f] at z
      rw [i0f, if_pos rfl, nm_q, nm_q, oin1, nI_add]
      exact z
    · rw [hf, Bool.true_and] at z
      rw [i1t, if_neg (by decide), mI_51, Option.bind_some, mR_13, Option.bind_some, y201_r i8, Option.bind_some, mR_14, Option.bind_some, y202_r i8, Option.bind_some, hB, e1, e2, I_bitv (by omega)]
      by_cases hc : (if bt B (ctN (cur σ) i) then (1 : Int32) else 0) = cur σ 202 i
      · rw [decide_eq_true hc, i1t] at z
        rw [if_pos hc, nm_q, nm_q, oin1, nI_add]
        exact z
      · rw [decide_eq_false hc, i0f] at z
        rw [if_neg hc, nm_q, nm_q, oin1, nI_add]
        exact z
theorem s_doesFit (hR : REL n S T σ nr) (hL : RLw n S T σ lw) (he : Eqm σ σ1) (hq : q < dN (cur σ) 2) (hc : c < nc (cur σ)) (hs : s < 5) : ∃ σ', (∀ ρ τ, f_X12_doesFit (mem ρ τ σ1) 188 (nI q) (nI c) (nI s) = some (if okZ σ q c s then (1 : Int32) else 0, mem ρ τ σ')) ∧ Eqm σ σ' ∧ σ'.1 51 = brZ σ q c s ∧ σ'.2.1 233 = σ1.2.1 233 := by
  have hD := hR.2.2.2.2.1
  have hR1 := hR.scr (agr.refl _ T) he
  have hD1 := hR1.2.2.2.2.1
  have b8 := hD.bK
  obtain ⟨σ2, a1, a2⟩ := s_falls (s := s) (zz_DG hD1) (zz_RLw (sm_RLw he.sm hL)) (by rw [zz_dN 2 (by decide), he.cu]; exact hq) (d := c) (by rw [zz_nc, he.cu]; exact hc) hs
  have sz := zz_Sm he
  rw [sm_nxt sz, sm_runF sz] at a2
  have e7 : σ1.2.1 189 7 = cur σ 189 7 := by rw [he.2.2.2.2 189 (by unfold PerM; omega)]; rfl
  have he3 : Eqm σ (stA σ2 189 7 (σ1.2.1 189 7)) := by
    obtain ⟨r1, r2, r3, r4, r5, r6, r7⟩ := a2
    refine ⟨?_, ?_, ?_, ?_, fun r hr => ?_⟩
    · show σ2.1 28 = _
      rw [r2 28 (by decide) (by decide) (by decide) (by decide)]; exact he.1
    · show σ2.1 32 = _
      rw [r2 32 (by decide) (by decide) (by decide) (by decide)]; exact he.2.1
    · show σ2.1 37 = _
      rw [r2 37 (by decide) (by decide) (by decide) (by decide)]; exact he.2.2.1
    · show σ2.1 55 = _
      rw [r2 55 (by decide) (by decide) (by decide) (by decide)]; exact he.2.2.2.1
    · funext i
      rw [stA2, r1]
      by_cases e : r = 189 ∧ i = 7
      · rw [if_pos e, e.1, e.2, he.2.2.2.2 189 (by unfold PerM; omega)]
      · rw [if_neg e]
        unfold zz
        rw [stA2, if_neg e, he.2.2.2.2 r hr]
  have hB : (stA σ2 189 7 (σ1.2.1 189 7)).1 51 = brZ σ q c s := a2.2.2.2.2.1
  refine ⟨stA σ2 189 7 (σ1.2.1 189 7), fun ρ τ => ?_, he3, hB, ?_⟩
  · have z := s_fitL hD he3 hB (fun μ32 x33 => (if x33 = 0 ∨ x33 = 1 then some (x33, μ32) else none)) ρ τ (dN (cur σ) 8) 0 FU (by omega) (by unfold FU; omega)
    rw [show nI 0 = (0 : Int32) from rfl, show (if fitK (cur σ) (brZ σ q c s) 0 then (1 : Int32) else 0) = 1 from rfl] at z
    unfold f_X12_doesFit
    rw [mR_1, Option.bind_some, sc_7, Option.bind_some, nm_q, Option.bind_some, sp_7, Option.bind_some, ob_mem, Option.bind_some, show stA σ1 189 7 0 = zz σ1 from rfl, a1, bd_some, mR_1, Option.bind_some, sp_7, Option.bind_some, nm_q, nm_q, z]
    show (if (if okZ σ q c s then (1 : Int32) else 0) = 0 ∨ (if okZ σ q c s then (1 : Int32) else 0) = 1 then some ((if okZ σ q c s then (1 : Int32) else 0), _) else none) = _
    cases okZ σ q c s
    · rfl
    · rfl
  · funext i
    rw [stA2, if_neg (by omega), a2.1]
    unfold zz
    rw [stA2, if_neg (by omega)]
/-- what the call from keeps -/
def frI (x : Os) (k : Nat) : Int32 := if x.1 = 0 then -2 else nI k
theorem s_fromL1 (hR : REL n S T σ nr) (hL : RLw n S T σ lw) (hq : q < dN (cur σ) 2) (hc : c < nc (cur σ)) {w : Int32} (K : Mm → Nat → Int32 → Int32 → Int32 → Int32 → Int32 → Int32 → Option (Int32 × Mm)) (x : Os) (hx : x.1 ≤ 900) : ∀ (k s : Nat) (σ1 : Sg) (f : Nat), s + k = 5 → k < f → Eqm σ σ1 → ∃ σ', (∀ ρ τ, f_X12_from_L47 K f (mem ρ τ σ1) 188 (nI q) w (nI (orD σ q c s x).1) (frI (orD σ q c s x) (orD σ q c s x).2.1) (frI (orD σ q c s x) (orD σ q c s x).2.2.1) (nI c) (nI s) = K (mem ρ τ σ') 188 (nI q) w (nI (orD σ q c 5 x).1) (frI (orD σ q c 5 x) (orD σ q c 5 x).2.1) (frI (orD σ q c 5 x) (orD σ q c 5 x).2.2.1) (nI c)) ∧ Eqm σ σ' := by
  intro k
  induction k with
  | zero =>
    intro s σ1 f h1 h2 he
    obtain ⟨f, rfl⟩ : ∃ k, f = k + 1 := ⟨f - 1, by omega⟩
    obtain rfl : s = 5 := by omega
    refine ⟨σ1, fun ρ τ => ?_, he⟩
    rw [f_X12_from_L47, if_pos (by decide)]
  | succ k ih =>
    intro s σ1 f h1 h2 he
    obtain ⟨f, rfl⟩ : ∃ k, f = k + 1 := ⟨f - 1, by omega⟩
    have hn := orD_n σ q c s x
    obtain ⟨σ2, a1, a2, a3, a4⟩ := s_doesFit hR hL he hq hc (show s < 5 by omega)
    obtain ⟨σ', z1, z2⟩ := ih (s + 1) σ2 f (by omega) (by omega) a2
    refine ⟨σ', fun ρ τ => ?_, z2⟩
    have z1 := z1 ρ τ
    rw [f_X12_from_L47, if_neg (show ¬ (4 : Int32) < nI s from nI_nlt (a := 4) (by omega) (by omega)), ob_mem, Option.bind_some, a1, bd_some]
    rw [orD, orS] at z1
    cases hb : okZ σ q c s
    · rw [hb, if_neg (by decide)] at z1
      rw [i0f, if_pos rfl, nm_q, oin1, nI_add]
      exact z1
    · rw [hb, if_pos rfl] at z1
      rw [i1t, if_neg (by decide)]
      generalize orD σ q c s x = y at z1 hn ⊢
      by_cases h0 : y.1 = 0
      · rw [if_pos (show nI y.1 = 0 by rw [h0]; rfl), nm_q, if_pos (show nI y.1 = 0 by rw [h0]; rfl), nm_q, nm_q, nm_q, oin1, nI_add, nI_add]
        unfold frI orA at z1
        rw [if_neg (show ¬ y.1 + 1 = 0 by omega), if_neg (show ¬ y.1 + 1 = 0 by omega), if_pos h0, if_pos h0] at z1
        exact z1
      · have h0' : ¬ nI y.1 = 0 := nI_ne0 (by omega) (by omega)
        rw [if_neg h0', nm_q, if_neg h0', nm_q, nm_q, nm_q, oin1, nI_add, nI_add]
        unfold frI orA at z1
        rw [if_neg (show ¬ y.1 + 1 = 0 by omega), if_neg (show ¬ y.1 + 1 = 0 by omega), if_neg h0, if_neg h0] at z1
        unfold frI
        rw [if_neg h0, if_neg h0]
        exact z1
theorem s_fromL2 (hR : REL n S T σ nr) (hL : RLw n S T σ lw) (hq : q < dN (cur σ) 2) {w : Int32} (K : Mm → Int32 → Int32 → Int32 → Int32 → Option (Int32 × Mm)) (x : Os) (hx : x.1 = 0) : ∀ (k c : Nat) (σ1 : Sg) (f : Nat), c + k = nc (cur σ) → k < f → Eqm σ σ1 → ∃ σ', (∀ ρ τ, f_X12_from_L35 K f (mem ρ τ σ1) 188 (nI q) w (nI (orC σ q c x).1) (frI (orC σ q c x) (orC σ q c x).2.1) (frI (orC σ q c x) (orC σ q c x).2.2.1) (nI c) = K (mem ρ τ σ') w (nI (orC σ q (nc (cur σ)) x).1) (frI (orC σ q (nc (cur σ)) x) (orC σ q (nc (cur σ)) x).2.1) (frI (orC σ q (nc (cur σ)) x) (orC σ q (nc (cur σ)) x).2.2.1)) ∧ Eqm σ σ' := by
  have hD := hR.2.2.2.2.1
  have n48 := hD.n48
  have cel : ∀ σ1, Eqm σ σ1 → ∀ ρ τ, f_X12_cells (mem ρ τ σ1) 188 = some (nI (nc (cur σ)), mem ρ τ σ1) := by
    intro σ1 he ρ τ
    have h1 : DG nr (cur σ1) := by rw [he.cu]; exact hD
    have mg := h1.mg
    rw [he.cu] at mg
    exact s_cells mg
  intro k
  induction k with
  | zero =>
    intro c σ1 f h1 h2 he
    obtain ⟨f, rfl⟩ : ∃ k, f = k + 1 := ⟨f - 1, by omega⟩
    have ec : c = nc (cur σ) := by omega
    refine ⟨σ1, fun ρ τ => ?_, he⟩
    rw [f_X12_from_L35, ob_mem, Option.bind_some, cel σ1 he, bd_some, if_pos (nI_le (Nat.le_of_eq ec.symm) (by omega)), ec]
  | succ k ih =>
    intro c σ1 f h1 h2 he
    obtain ⟨f, rfl⟩ : ∃ k, f = k + 1 := ⟨f - 1, by omega⟩
    have hc : c < nc (cur σ) := by omega
    have hn := orC_n σ q c x
    obtain ⟨σ2, a1, a2⟩ := s_fromL1 (w := w) hR hL hq hc (fun μ47 a48 x49 x50 x51 x52 x53 x54 =>
    (nm (x54 + Int32.ofInt (1)) fun x55 =>
    f_X12_from_L35 K f μ47 a48 x49 x50 x51 x52 x53 x55)) (orC σ q c x) (by omega) 5 0 σ1 FU rfl (by unfold FU; omega) he
    obtain ⟨σ', z1, z2⟩ := ih (c + 1) σ2 f (by omega) (by omega) a2
    refine ⟨σ', fun ρ τ => ?_, z2⟩
    have a1 := a1 ρ τ
    rw [show nI 0 = (0 : Int32) from rfl, show orD σ q c 0 (orC σ q c x) = orC σ q c x from rfl] at a1
    rw [f_X12_from_L35, ob_mem, Option.bind_some, cel σ1 he, bd_some, if_neg (nI_ge hc (Nat.lt_of_le_of_lt n48 (by decide))), nm_q, a1, nm_q, oin1, nI_add]
    exact z1 ρ τ
end FIT
theorem op_from (q w : Int32) : OpR (fun μ => f_X11_from μ 128 q w) (fun μ => f_X12_from μ 188 q w) := by
  refine OpR.q fun n sl U S T σ nr hR => ?_
  have hR0 := hR
  obtain ⟨hN, hTP, hRU, hIM, hD, hS⟩ := hR
  have bP := hD.bP
  have n48 := hD.n48
  show ∃ v T' σ', f_X11_from (cn n sl U S T σ) 128 q w = some (v, cn n sl U S T' σ) ∧ agr (Ns S) T T' ∧ (∀ ρ τ, f_X12_from (mem ρ τ σ) 188 q w = some (v, mem ρ τ σ')) ∧ Eqm σ σ'
  unfold f_X11_from f_X12_from
  rw [x128_o, Option.bind_some, c_isPerson hS hD, bd_some]
  by_cases hq : isN q (dN (cur σ) 2)
  · have e2 : isN w 3 ↔ (¬ w < 0 ∧ w ≤ 2) := by
      unfold isN
      rw [i32le, i32lt, i32lt, i32le]
      have e1 : (2 : Int32).toInt = 2 := rfl
      have e2 : (nI 3).toInt = 3 := rfl
      omega
    by_cases hw : isN w 3
    · obtain ⟨j, hj, rfl⟩ := isN_of (by omega) hq
      obtain ⟨k, hk, rfl⟩ := isN_of (by decide) hw
      obtain ⟨lw, l1, l2⟩ := c_law (sl := sl) (U := U) (σ1 := σ) hR0
      obtain ⟨T', a1, a2, a3, a4, a5⟩ := c_seek (sl := sl) (U := U) hR0 l2 hj
      obtain ⟨σ', b1, b2⟩ := s_fromL2 (w := nI k) hR0 l2 hj (fun μ56 x57 x58 x59 x60 =>
    (if x57 = 0 then
    (some (x58, μ56))
    else
    (if x57 = (1 : Int32) then
    (some (x59, μ56))
    else
    (some (x60, μ56))))) (0, 0, 0, fun _ => 0) rfl (nc (cur σ)) 0 σ FU (by omega) (Nat.lt_of_le_of_lt n48 (by unfold FU; omega)) (Eqm.refl σ)
      have hn := orC_n σ j (nc (cur σ)) (0, 0, 0, fun _ => 0)
      have hn : (orC σ j (nc (cur σ)) (0, 0, 0, fun _ => 0)).1 ≤ 0 + 5 * nc (cur σ) := hn
      have b3 : ∀ ρ τ, f_X12_from_L35 (fun μ56 x57 x58 x59 x60 =>
    (if x57 = 0 then
    (some (x58, μ56))
    else
    (if x57 = (1 : Int32) then
    (some (x59, μ56))
    else
    (some (x60, μ56))))) FU (mem ρ τ σ) 188 (nI j) (nI k) 0 (-2) (-2) 0 = _ := b1
      have ref : ∀ ρ τ, ((ob (mem ρ τ σ) 188 12).bind fun _ => (bd (f_X12_isPerson (mem ρ τ σ) 188 (nI j)) fun v5 μ4 => (if v5 = 0 then (some ((-1 : Int32), μ4)) else (bd (f_X12_in μ4 (nI k).toInt64 (0 : Int64) (2 : Int64)) fun v7 μ6 => (if v7 = 0 then (some ((-1 : Int32), μ6)) else (nm (0 : Int32) fun x8 => (nm (-2 : Int32) fun x9 => (nm (-2 : Int32) fun x10 => (nm (0 : Int32) fun x11 => f_X12_from_L35 (fun μ56 x57 x58 x59 x60 =>
    (if x57 = 0 then
    (some (x58, μ56))
    else
    (if x57 = (1 : Int32) then
    (some (x59, μ56))
    else
    (some (x60, μ56))))) FU μ6 188 (nI j) (nI k) x8 x9 x10 x11))))))))) = (if nI k = 0 then some (nI (orC σ j (nc (cur σ)) (0, 0, 0, fun _ => 0)).1, mem ρ τ σ') else if nI k = 1 then some (frI (orC σ j (nc (cur σ)) (0, 0, 0, fun _ => 0)) (orC σ j (nc (cur σ)) (0, 0, 0, fun _ => 0)).2.1, mem ρ τ σ') else some (frI (orC σ j (nc (cur σ)) (0, 0, 0, fun _ => 0)) (orC σ j (nc (cur σ)) (0, 0, 0, fun _ => 0)).2.2.1, mem ρ τ σ')) := by
        intro ρ τ
        rw [ob_mem, Option.bind_some, s_isPerson hD, bd_some, if_pos hq, if_neg (by decide), s_in, bd_some, if_pos (in02.2 hw), if_neg (by decide), nm_q, nm_q, nm_q, nm_q, b3]
      generalize orC σ j (nc (cur σ)) (0, 0, 0, fun _ => 0) = y at a3 a4 a5 hn ref
      rw [if_pos hq, if_neg (by decide), if_neg (e2.1 hw).1, if_pos (e2.1 hw).2, x128_11, Option.bind_some, x128_6, Option.bind_some, x128_o, Option.bind_some, l1, bd_some, x179_o, Option.bind_some, a1, Option.bind_some]
      rcases (show k = 0 ∨ k = 1 ∨ k = 2 by omega) with rfl | rfl | rfl
      · refine ⟨nI y.1, T', σ', ?_, a2, fun ρ τ => ?_, b2⟩
        · rw [if_pos (show nI 0 = 0 from rfl), x128_11, Option.bind_some, x179_1, Option.bind_some, a3]
        · rw [ref, if_pos (show nI 0 = 0 from rfl)]
      · refine ⟨frI y y.2.1, T', σ', ?_, a2, fun ρ τ => ?_, b2⟩
        · rw [if_neg (show ¬ nI 1 = 0 by decide), x128_11, Option.bind_some, x179_1, Option.bind_some, a3]
          unfold frI
          by_cases h0 : y.1 = 0
          · rw [if_pos (by rw [h0]; rfl), if_pos h0]
          · rw [if_neg (nI_ne0 (by omega) (by omega)), if_pos (show nI 1 = 1 from rfl), Option.bind_some, x179_2, Option.bind_some, (a4 (by omega)).1, if_neg h0]
        · rw [ref, if_neg (show ¬ nI 1 = 0 by decide), if_pos (show nI 1 = 1 from rfl)]
      · refine ⟨frI y y.2.2.1, T', σ', ?_, a2, fun ρ τ => ?_, b2⟩
        · rw [if_neg (show ¬ nI 2 = 0 by decide), x128_11, Option.bind_some, x179_1, Option.bind_some, a3]
          unfold frI
          by_cases h0 : y.1 = 0
          · rw [if_pos (by rw [h0]; rfl), if_pos h0]
          · rw [if_neg (nI_ne0 (by omega) (by omega)), if_neg (show ¬ nI 2 = 1 by decide), Option.bind_some, x179_3, Option.bind_some, (a4 (by omega)).2, if_neg h0]
        · rw [ref, if_neg (show ¬ nI 2 = 0 by decide), if_neg (show ¬ nI 2 = 1 by decide)]
    · refine ⟨-1, T, σ, ?_, agr.refl _ _, fun ρ τ => ?_, Eqm.refl _⟩
      · rw [if_pos hq, if_neg (by decide)]
        by_cases h1 : w < 0
        · rw [if_pos h1]
        · rw [if_neg h1, if_neg (fun h => hw (e2.2 ⟨h1, h⟩))]
      · rw [ob_mem, Option.bind_some, s_isPerson hD, bd_some, if_pos hq, if_neg (by decide), s_in, bd_some, if_neg (fun h => hw (in02.1 h)), if_pos rfl]
  · refine ⟨-1, T, σ, ?_, agr.refl _ _, fun ρ τ => ?_, Eqm.refl _⟩
    · rw [if_neg hq, if_pos rfl]
    · rw [ob_mem, Option.bind_some, s_isPerson hD, bd_some, if_neg hq, if_pos rfl]
