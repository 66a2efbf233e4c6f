/-! The reference's falls. -/
theorem LB_sg {σ σ' : Sg} (h : σ'.2.1 = σ.2.1) (w : Nat → Int32) : LB σ' w = LB σ w := by
  have h2 : telB σ' 1 = telB σ 1 := by unfold telB kndB rm rf; rw [h]
  have h3 : rf σ' = rf σ := by unfold rf; rw [h]
  have h4 : rm σ' = rm σ := by unfold rm; rw [h, h3]
  have h5 : brkB σ' (rf σ) w = brkB σ (rf σ) w := by
    funext c
    unfold brkB kndB tstV rY rZ rSo rNu
    rw [h]
  unfold LB
  rw [h2, h3, h4, h5]
theorem LM_sg {σ σ' : Sg} (h : σ'.2.1 = σ.2.1) (w : Nat → Int32) : LM σ' w = LM σ w := by
  have h2 : telB σ' 0 = telB σ 0 := by unfold telB kndB rm rf; rw [h]
  have h3 : rf σ' = rf σ := by unfold rf; rw [h]
  have h4 : rm σ' = rm σ := by unfold rm; rw [h, h3]
  have same : mrkV σ' (rf σ) w = mrkV σ (rf σ) w := by
    have eb : mrkB σ' (rf σ) w = mrkB σ (rf σ) w := by
      funext c
      unfold mrkB kndB tstV rY rZ rSo rNu
      rw [h]
    have es : sumV σ' (rf σ) w = sumV σ (rf σ) w := by
      funext c
      unfold sumV rX rY rSo rNu
      rw [h]
    funext c k
    induction k generalizing c with
    | zero => rfl
    | succ k ih => rw [mrkV, mrkV, eb, es, ih]
  unfold LM
  rw [h2, h3, h4, same]
theorem telB_sg {σ σ' : Sg} (h : σ'.2.1 = σ.2.1) (b : Int32) : telB σ' b = telB σ b := by unfold telB kndB rm rf; rw [h]
theorem b10 (b : Bool) : ((if b = true then (1 : Int32) else 0) = 0) = (b = false) := by cases b <;> simp
theorem i0f : (if false = true then (1 : Int32) else 0) = 0 := rfl
theorem i1t : (if true = true then (1 : Int32) else 0) = 1 := rfl
theorem add0 (x : Int32) : x + 0 = x := Int32.add_zero x
section SFALL
variable {nr n lw q t c d : Nat} {S : Nat → Nat × Nat × Nat} {T : Tc} {σ : Sg} {drop : Int32} {x : Fst} {w : Nat → Int32}
theorem s_tailM (hL : RLw n S T σ lw) (ht : t < 8) (hw : ∀ i, i < 12 → σ.2.2 224 i = (w i).toInt64) (w7 : w 7 = σ.2.1 196 t) (w8 : w 8 = if σ.2.1 194 t = nI q then 1 else 0) : ∃ σ', Stk σ σ' ∧ ∀ ρ τ, ((gI (mem ρ τ σ) 188 12 52).bind fun v51 =>
    ((ob (mem ρ τ σ) 188 12).bind fun _ =>
    (bd (f_X12_tells (mem ρ τ σ) 188 (0 : Int32)) fun v53 μ52 =>
    (if v53 = 0 then
    ((gR μ52 188 12 6).bind fun v54 =>
    ((aI μ52 v54 0 (nI t)).bind fun v55 =>
    (if v55 = nI q then
    ((pV μ52 188 12 52 (.int (v51 + (0 : Int32)))).bind fun μ56 =>
    ((gI μ56 188 12 51).bind fun v57 =>
    ((pV μ56 188 12 51 (.int (v57 ||| ((1 : Int32) <<< (nI t &&& 31))))).bind fun μ58 =>
    (some μ58))))
    else
    ((gR μ52 188 12 8).bind fun v59 =>
    ((aI μ52 v59 0 (nI t)).bind fun v60 =>
    ((pV μ52 188 12 52 (.int (v51 + v60))).bind fun μ61 =>
    ((gI μ61 188 12 51).bind fun v62 =>
    ((pV μ61 188 12 51 (.int (v62 ||| ((1 : Int32) <<< (nI t &&& 31))))).bind fun μ63 =>
    (some μ63)))))))))
    else
    ((ob μ52 188 12).bind fun _ =>
    (bd (f_X12_marked μ52 188) fun v65 μ64 =>
    ((pV μ64 188 12 52 (.int (v51 + v65))).bind fun μ66 =>
    ((gI μ66 188 12 51).bind fun v67 =>
    ((pV μ66 188 12 51 (.int (v67 ||| ((1 : Int32) <<< (nI t &&& 31))))).bind fun μ68 =>
    (some μ68)))))))))) = some (mem ρ τ (stI (stI σ' 52 (σ.1 52 + LM σ w)) 51 (σ.1 51 ||| ((1 : Int32) <<< (nI t &&& 31))))) := by
  have c51 : ∀ (σ : Sg) (v : Int32), (stI σ 52 v).1 51 = σ.1 51 := fun σ v => by rw [stI1, if_neg (by decide)]
  cases hb : telB σ 0
  · refine ⟨σ, Stk.refl _, fun ρ τ => ?_⟩
    rw [mI_52, Option.bind_some, ob_mem, Option.bind_some, s_tells hL, bd_some, hb, i0f, if_pos rfl, mR_6, Option.bind_some, y194_r ht, Option.bind_some]
    have eM : LM σ w = if σ.2.1 194 t = nI q then 0 else σ.2.1 196 t := by
      unfold LM
      rw [hb, w8, w7]
      by_cases ho : σ.2.1 194 t = nI q
      · rw [if_pos ho, if_pos ho]; rfl
      · rw [if_neg ho, if_neg ho]; rfl
    rw [eM]
    by_cases ho : σ.2.1 194 t = nI q
    · rw [if_pos ho, if_pos ho, mP_52, Option.bind_some, mI_51, Option.bind_some, c51, mP_51, Option.bind_some]
    · rw [if_neg ho, if_neg ho, mR_8, Option.bind_some, y196_r ht, Option.bind_some, mP_52, Option.bind_some, mI_51, Option.bind_some, c51, mP_51, Option.bind_some]
  · obtain ⟨σ', q1, q2⟩ := s_marked hL hb hw
    refine ⟨σ', q2, fun ρ τ => ?_⟩
    rw [mI_52, Option.bind_some, ob_mem, Option.bind_some, s_tells hL, bd_some, hb, if_pos rfl, if_neg (by decide), ob_mem, Option.bind_some, q1, bd_some, mP_52, Option.bind_some, mI_51, Option.bind_some, c51, mP_51, Option.bind_some, q2.1]
theorem s_tail (hL : RLw n S T σ lw) (ht : t < 8) (hw : ∀ i, i < 12 → σ.2.2 224 i = (w i).toInt64) (w2 : w 2 = σ.1 49) (w6 : w 6 = σ.2.1 195 t) (w7 : w 7 = σ.2.1 196 t) (w8 : w 8 = if σ.2.1 194 t = nI q then 1 else 0) : ∃ σ', Stk σ σ' ∧ ∀ ρ τ, (bd (f_X12_tells (mem ρ τ σ) 188 (1 : Int32)) fun v47 μ46 =>
    (if v47 = 0 then
    ((gI μ46 188 12 49).bind fun v48 =>
    ((gR μ46 188 12 7).bind fun v49 =>
    ((aI μ46 v49 0 (nI t)).bind fun v50 =>
    (if v50 ≤ v48 then
    ((gI μ46 188 12 52).bind fun v51 =>
    ((ob μ46 188 12).bind fun _ =>
    (bd (f_X12_tells μ46 188 (0 : Int32)) fun v53 μ52 =>
    (if v53 = 0 then
    ((gR μ52 188 12 6).bind fun v54 =>
    ((aI μ52 v54 0 (nI t)).bind fun v55 =>
    (if v55 = nI q then
    ((pV μ52 188 12 52 (.int (v51 + (0 : Int32)))).bind fun μ56 =>
    ((gI μ56 188 12 51).bind fun v57 =>
    ((pV μ56 188 12 51 (.int (v57 ||| ((1 : Int32) <<< (nI t &&& 31))))).bind fun μ58 =>
    (some μ58))))
    else
    ((gR μ52 188 12 8).bind fun v59 =>
    ((aI μ52 v59 0 (nI t)).bind fun v60 =>
    ((pV μ52 188 12 52 (.int (v51 + v60))).bind fun μ61 =>
    ((gI μ61 188 12 51).bind fun v62 =>
    ((pV μ61 188 12 51 (.int (v62 ||| ((1 : Int32) <<< (nI t &&& 31))))).bind fun μ63 =>
    (some μ63)))))))))
    else
    ((ob μ52 188 12).bind fun _ =>
    (bd (f_X12_marked μ52 188) fun v65 μ64 =>
    ((pV μ64 188 12 52 (.int (v51 + v65))).bind fun μ66 =>
    ((gI μ66 188 12 51).bind fun v67 =>
    ((pV μ66 188 12 51 (.int (v67 ||| ((1 : Int32) <<< (nI t &&& 31))))).bind fun μ68 =>
    (some μ68))))))))))
    else
    (some μ46)))))
    else
    ((ob μ46 188 12).bind fun _ =>
    (bd (f_X12_isBroken μ46 188) fun v70 μ69 =>
    (if v70 = 0 then
    (some μ69)
    else
    ((gI μ69 188 12 52).bind fun v71 =>
    ((ob μ69 188 12).bind fun _ =>
    (bd (f_X12_tells μ69 188 (0 : Int32)) fun v73 μ72 =>
    (if v73 = 0 then
    ((gR μ72 188 12 6).bind fun v74 =>
    ((aI μ72 v74 0 (nI t)).bind fun v75 =>
    (if v75 = nI q then
    ((pV μ72 188 12 52 (.int (v71 + (0 : Int32)))).bind fun μ76 =>
    ((gI μ76 188 12 51).bind fun v77 =>
    ((pV μ76 188 12 51 (.int (v77 ||| ((1 : Int32) <<< (nI t &&& 31))))).bind fun μ78 =>
    (some μ78))))
    else
    ((gR μ72 188 12 8).bind fun v79 =>
    ((aI μ72 v79 0 (nI t)).bind fun v80 =>
    ((pV μ72 188 12 52 (.int (v71 + v80))).bind fun μ81 =>
    ((gI μ81 188 12 51).bind fun v82 =>
    ((pV μ81 188 12 51 (.int (v82 ||| ((1 : Int32) <<< (nI t &&& 31))))).bind fun μ83 =>
    (some μ83)))))))))
    else
    ((ob μ72 188 12).bind fun _ =>
    (bd (f_X12_marked μ72 188) fun v85 μ84 =>
    ((pV μ84 188 12 52 (.int (v71 + v85))).bind fun μ86 =>
    ((gI μ86 188 12 51).bind fun v87 =>
    ((pV μ86 188 12 51 (.int (v87 ||| ((1 : Int32) <<< (nI t &&& 31))))).bind fun μ88 =>
    (some μ88))))))))))))))) = some (mem ρ τ (if LB σ w then stI (stI σ' 52 (σ.1 52 + LM σ w)) 51 (σ.1 51 ||| ((1 : Int32) <<< (nI t &&& 31))) else σ')) := by
  cases hb : telB σ 1
  · have eL : LB σ w = !decide (w 2 < w 6) := by unfold LB; rw [hb]; rfl
    by_cases h : w 2 < w 6
    · refine ⟨σ, Stk.refl _, fun ρ τ => ?_⟩
      rw [s_tells hL, bd_some, hb, i0f, if_pos rfl, mI_49, Option.bind_some, mR_7, Option.bind_some, y195_r ht, Option.bind_some, ← w2, ← w6, if_neg (by rw [i32le]; rw [i32lt] at h; omega), eL, decide_eq_true h]
      rfl
    · obtain ⟨σ', q1, q2⟩ := s_tailM (q := q) hL ht hw w7 w8
      refine ⟨σ', q1, fun ρ τ => ?_⟩
      rw [s_tells hL, bd_some, hb, i0f, if_pos rfl, mI_49, Option.bind_some, mR_7, Option.bind_some, y195_r ht, Option.bind_some, ← w2, ← w6, if_pos (by rw [i32le]; rw [i32lt] at h; omega), eL, decide_eq_false h, q2 ρ τ]
      rfl
  · obtain ⟨σ1, q1, q2⟩ := s_isBroken hL hb hw
    cases hB : LB σ w
    · refine ⟨σ1, q2, fun ρ τ => ?_⟩
      rw [s_tells hL, bd_some, hb, i1t, if_neg (by decide), ob_mem, Option.bind_some, q1, bd_some, hB, i0f, if_pos rfl]
      rfl
    · obtain ⟨σ', z1, z2⟩ := s_tailM (q := q) (w := w) (hL.sg q2.2.1) ht (by rw [q2.2.2 224 (by decide)]; exact hw) (by rw [q2.2.1]; exact w7) (by rw [q2.2.1]; exact w8)
      refine ⟨σ', q2.trans z1, fun ρ τ => ?_⟩
      rw [s_tells hL, bd_some, hb, i1t, if_neg (by decide), ob_mem, Option.bind_some, q1, bd_some, hB, i1t, if_neg (by decide), z2 ρ τ, q2.1, LM_sg q2.2.1]
      rfl
theorem l24_0 (ρ : Mm) (τ : Nat → va_E) (σ : Sg) (v : Int64) : sL (mem ρ τ σ) 224 3 (0 : Int32) v = some (mem ρ τ (stL σ 224 0 v)) := y224_w (i := 0) (by decide)
theorem l24_1 (ρ : Mm) (τ : Nat → va_E) (σ : Sg) (v : Int64) : sL (mem ρ τ σ) 224 3 (1 : Int32) v = some (mem ρ τ (stL σ 224 1 v)) := y224_w (i := 1) (by decide)
theorem l24_2 (ρ : Mm) (τ : Nat → va_E) (σ : Sg) (v : Int64) : sL (mem ρ τ σ) 224 3 (2 : Int32) v = some (mem ρ τ (stL σ 224 2 v)) := y224_w (i := 2) (by decide)
theorem l24_3 (ρ : Mm) (τ : Nat → va_E) (σ : Sg) (v : Int64) : sL (mem ρ τ σ) 224 3 (3 : Int32) v = some (mem ρ τ (stL σ 224 3 v)) := y224_w (i := 3) (by decide)
theorem l24_4 (ρ : Mm) (τ : Nat → va_E) (σ : Sg) (v : Int64) : sL (mem ρ τ σ) 224 3 (4 : Int32) v = some (mem ρ τ (stL σ 224 4 v)) := y224_w (i := 4) (by decide)
theorem l24_5 (ρ : Mm) (τ : Nat → va_E) (σ : Sg) (v : Int64) : sL (mem ρ τ σ) 224 3 (5 : Int32) v = some (mem ρ τ (stL σ 224 5 v)) := y224_w (i := 5) (by decide)
theorem l24_6 (ρ : Mm) (τ : Nat → va_E) (σ : Sg) (v : Int64) : sL (mem ρ τ σ) 224 3 (6 : Int32) v = some (mem ρ τ (stL σ 224 6 v)) := y224_w (i := 6) (by decide)
theorem l24_7 (ρ : Mm) (τ : Nat → va_E) (σ : Sg) (v : Int64) : sL (mem ρ τ σ) 224 3 (7 : Int32) v = some (mem ρ τ (stL σ 224 7 v)) := y224_w (i := 7) (by decide)
theorem l24_8 (ρ : Mm) (τ : Nat → va_E) (σ : Sg) (v : Int64) : sL (mem ρ τ σ) 224 3 (8 : Int32) v = some (mem ρ τ (stL σ 224 8 v)) := y224_w (i := 8) (by decide)
theorem l24_9 (ρ : Mm) (τ : Nat → va_E) (σ : Sg) (v : Int64) : sL (mem ρ τ σ) 224 3 (9 : Int32) v = some (mem ρ τ (stL σ 224 9 v)) := y224_w (i := 9) (by decide)
theorem l24_10 (ρ : Mm) (τ : Nat → va_E) (σ : Sg) (v : Int64) : sL (mem ρ τ σ) 224 3 (10 : Int32) v = some (mem ρ τ (stL σ 224 10 v)) := y224_w (i := 10) (by decide)
theorem l24_11 (ρ : Mm) (τ : Nat → va_E) (σ : Sg) (v : Int64) : sL (mem ρ τ σ) 224 3 (11 : Int32) v = some (mem ρ τ (stL σ 224 11 v)) := y224_w (i := 11) (by decide)
/-- the reference is in a fall -/
def RX (σ σ' : Sg) (x : Fst) : Prop := σ'.2.1 = σ.2.1 ∧ (∀ k, k ≠ 49 → k ≠ 50 → k ≠ 51 → k ≠ 52 → σ'.1 k = σ.1 k) ∧ σ'.1 49 = x.1 ∧ σ'.1 50 = nI x.2.1 ∧ σ'.1 51 = x.2.2.1 ∧ σ'.1 52 = x.2.2.2 ∧ ∀ r, r ≠ 224 → r ≠ 225 → σ'.2.2 r = σ.2.2 r
theorem RX.cu {σ1 : Sg} (h : RX σ σ1 x) : cur σ1 = cur σ := by
  funext r i
  unfold cur
  rw [h.1, h.2.1 55 (by decide) (by decide) (by decide) (by decide)]
theorem s_tch {σ1 σ2 : Sg} (hL : RLw n S T σ lw) (t8 : t < 8) (h : RX σ σ1 x) (g1 : σ2.1 = σ1.1) (g2 : σ2.2.1 = σ1.2.1) (g3 : ∀ i, i < 12 → σ2.2.2 224 i = (wdF (cur σ) q t c drop x i).toInt64) (g4 : ∀ r, r ≠ 224 → σ2.2.2 r = σ1.2.2 r) : ∃ σ', (∀ ρ τ, (bd (f_X12_tells (mem ρ τ σ2) 188 (1 : Int32)) fun v47 μ46 =>
    (if v47 = 0 then
    ((gI μ46 188 12 49).bind fun v48 =>
    ((gR μ46 188 12 7).bind fun v49 =>
    ((aI μ46 v49 0 (nI t)).bind fun v50 =>
    (if v50 ≤ v48 then
    ((gI μ46 188 12 52).bind fun v51 =>
    ((ob μ46 188 12).bind fun _ =>
    (bd (f_X12_tells μ46 188 (0 : Int32)) fun v53 μ52 =>
    (if v53 = 0 then
    ((gR μ52 188 12 6).bind fun v54 =>
    ((aI μ52 v54 0 (nI t)).bind fun v55 =>
    (if v55 = nI q then
    ((pV μ52 188 12 52 (.int (v51 + (0 : Int32)))).bind fun μ56 =>
    ((gI μ56 188 12 51).bind fun v57 =>
    ((pV μ56 188 12 51 (.int (v57 ||| ((1 : Int32) <<< (nI t &&& 31))))).bind fun μ58 =>
    (some μ58))))
    else
    ((gR μ52 188 12 8).bind fun v59 =>
    ((aI μ52 v59 0 (nI t)).bind fun v60 =>
    ((pV μ52 188 12 52 (.int (v51 + v60))).bind fun μ61 =>
    ((gI μ61 188 12 51).bind fun v62 =>
    ((pV μ61 188 12 51 (.int (v62 ||| ((1 : Int32) <<< (nI t &&& 31))))).bind fun μ63 =>
    (some μ63)))))))))
    else
    ((ob μ52 188 12).bind fun _ =>
    (bd (f_X12_marked μ52 188) fun v65 μ64 =>
    ((pV μ64 188 12 52 (.int (v51 + v65))).bind fun μ66 =>
    ((gI μ66 188 12 51).bind fun v67 =>
    ((pV μ66 188 12 51 (.int (v67 ||| ((1 : Int32) <<< (nI t &&& 31))))).bind fun μ68 =>
    (some μ68))))))))))
    else
    (some μ46)))))
    else
    ((ob μ46 188 12).bind fun _ =>
    (bd (f_X12_isBroken μ46 188) fun v70 μ69 =>
    (if v70 = 0 then
    (some μ69)
    else
    ((gI μ69 188 12 52).bind fun v71 =>
    ((ob μ69 188 12).bind fun _ =>
    (bd (f_X12_tells μ69 188 (0 : Int32)) fun v73 μ72 =>
    (if v73 = 0 then
    ((gR μ72 188 12 6).bind fun v74 =>
    ((aI μ72 v74 0 (nI t)).bind fun v75 =>
    (if v75 = nI q then
    ((pV μ72 188 12 52 (.int (v71 + (0 : Int32)))).bind fun μ76 =>
    ((gI μ76 188 12 51).bind fun v77 =>
    ((pV μ76 188 12 51 (.int (v77 ||| ((1 : Int32) <<< (nI t &&& 31))))).bind fun μ78 =>
    (some μ78))))
    else
    ((gR μ72 188 12 8).bind fun v79 =>
    ((aI μ72 v79 0 (nI t)).bind fun v80 =>
    ((pV μ72 188 12 52 (.int (v71 + v80))).bind fun μ81 =>
    ((gI μ81 188 12 51).bind fun v82 =>
    ((pV μ81 188 12 51 (.int (v82 ||| ((1 : Int32) <<< (nI t &&& 31))))).bind fun μ83 =>
    (some μ83)))))))))
    else
    ((ob μ72 188 12).bind fun _ =>
    (bd (f_X12_marked μ72 188) fun v85 μ84 =>
    ((pV μ84 188 12 52 (.int (v71 + v85))).bind fun μ86 =>
    ((gI μ86 188 12 51).bind fun v87 =>
    ((pV μ86 188 12 51 (.int (v87 ||| ((1 : Int32) <<< (nI t &&& 31))))).bind fun μ88 =>
    (some μ88))))))))))))))) = some (mem ρ τ σ')) ∧ RX σ σ' (tch σ q c drop t x) := by
  obtain ⟨h1, h2, h3, h4, h5, h6, h7⟩ := h
  have k1 : σ2.2.1 = σ.2.1 := g2.trans h1
  obtain ⟨σ', z1, z2⟩ := s_tail (n := n) (S := S) (T := T) (lw := lw) (t := t) (q := q) (σ := σ2) (w := wdF (cur σ) q t c drop x) (hL.sg k1) t8 g3 (by rw [g1]; exact h3.symm) (by rw [k1, ← cu_195 t8]; rfl) (by rw [k1, ← cu_196 t8]; rfl) (by rw [k1, ← cu_194 t8]; rfl)
  refine ⟨_, z2, ?_⟩
  rw [LB_sg k1, LM_sg k1]
  unfold tch
  have e1 : σ'.1 = σ1.1 := z1.1.trans g1
  have e2 : σ'.2.1 = σ.2.1 := z1.2.1.trans k1
  have e3 : ∀ r, r ≠ 224 → r ≠ 225 → σ'.2.2 r = σ.2.2 r := by
    intro r r4 r5
    rw [z1.2.2 r r5, g4 r r4]
    exact h7 r r4 r5
  cases LB σ (wdF (cur σ) q t c drop x)
  · exact ⟨e2, fun k a b c d => by show σ'.1 k = _; rw [e1]; exact h2 k a b c d, by show σ'.1 49 = _; rw [e1]; exact h3, by show σ'.1 50 = _; rw [e1]; exact h4, by show σ'.1 51 = _; rw [e1]; exact h5, by show σ'.1 52 = _; rw [e1]; exact h6, e3⟩
  · refine ⟨e2, fun k a b c d => ?_, ?_, ?_, ?_, ?_, e3⟩
    · rw [if_pos rfl, stI1, stI1, if_neg c, if_neg d, e1]; exact h2 k a b c d
    · rw [if_pos rfl, stI1, stI1, if_neg (by decide), if_neg (by decide), e1]; exact h3
    · rw [if_pos rfl, stI1, stI1, if_neg (by decide), if_neg (by decide), e1]; exact h4
    · rw [if_pos rfl, stI1, if_pos rfl, if_pos rfl, g1, h5]
    · rw [if_pos rfl, stI1, stI1, if_neg (by decide), if_pos rfl, if_pos rfl, g1, h6]
theorem s_touches {σ1 : Sg} (hD : DG nr (cur σ)) (hL : RLw n S T σ lw) (hq : q < dN (cur σ) 2) (ht : t < dN (cur σ) 3) (hc : c < nc (cur σ)) (h : RX σ σ1 x) (hB : isB x.2.2.1 256) : ∃ σ', (∀ ρ τ, f_X12_touches (mem ρ τ σ1) 188 (nI q) (nI t) (nI c) drop (nI (oth (cur σ) q c)) = some (mem ρ τ σ')) ∧ RX σ σ' (tch σ q c drop t x) := by
  have hX := h
  obtain ⟨h1, h2, h3, h4, h5, h6, h7⟩ := h
  have bP := hD.bP
  have bT := hD.bT
  have q5 : q < 5 := by omega
  have t8 : t < 8 := by omega
  have c48 : c < 48 := Nat.lt_of_lt_of_le hc hD.n48
  have wds : ∀ v8 : Int64, v8 = (if cur σ 194 t = nI q then (1 : Int32) else 0).toInt64 → ∀ i, i < 12 → (stL (stL (stL (stL (stL (stL (stL (stL (stL (stL (stL (stL (σ1) 224 0 ((nI q).toInt64)) 224 1 ((nI t).toInt64)) 224 2 ((σ1.1 49).toInt64)) 224 3 (drop.toInt64)) 224 4 ((σ1.1 50).toInt64)) 224 5 ((σ1.2.1 190 c).toInt64)) 224 6 ((σ1.2.1 195 t).toInt64)) 224 7 ((σ1.2.1 196 t).toInt64)) 224 8 (v8)) 224 9 ((nI (ct8 x.2.2.1)).toInt64)) 224 10 ((σ1.2.1 192 q).toInt64)) 224 11 ((nI (oth (cur σ) q c)).toInt64)).2.2 224 i = (wdF (cur σ) q t c drop x i).toInt64 := by
    intro v8 e8 i hi
    rcases (show i = 0 ∨ i = 1 ∨ i = 2 ∨ i = 3 ∨ i = 4 ∨ i = 5 ∨ i = 6 ∨ i = 7 ∨ i = 8 ∨ i = 9 ∨ i = 10 ∨ i = 11 by omega) with rfl | rfl | rfl | rfl | rfl | rfl | rfl | rfl | rfl | rfl | rfl | rfl
    · simp [stL3, wdF]
    · simp [stL3, wdF]
    · simp [stL3, wdF, h3]
    · simp [stL3, wdF]
    · simp [stL3, wdF, h4]
    · simp [stL3, wdF]; rw [h1, ← cu_190 c48, hD.hh c c48]
    · simp [stL3, wdF]; rw [h1, ← cu_195 t8]
    · simp [stL3, wdF]; rw [h1, ← cu_196 t8]
    · simp [stL3, wdF, e8]
    · simp [stL3, wdF]
    · simp [stL3, wdF]; rw [h1, ← cu_192 q5]
    · simp [stL3, wdF]
  by_cases ho : cur σ 194 t = nI q
  · obtain ⟨σ', z1, z2⟩ := s_tch (σ2 := stL (stL (stL (stL (stL (stL (stL (stL (stL (stL (stL (stL (σ1) 224 0 ((nI q).toInt64)) 224 1 ((nI t).toInt64)) 224 2 ((σ1.1 49).toInt64)) 224 3 (drop.toInt64)) 224 4 ((σ1.1 50).toInt64)) 224 5 ((σ1.2.1 190 c).toInt64)) 224 6 ((σ1.2.1 195 t).toInt64)) 224 7 ((σ1.2.1 196 t).toInt64)) 224 8 (1)) 224 9 ((nI (ct8 x.2.2.1)).toInt64)) 224 10 ((σ1.2.1 192 q).toInt64)) 224 11 ((nI (oth (cur σ) q c)).toInt64)) hL t8 hX (by simp only [stL1]) (by simp only [stL2]) (wds 1 (by rw [if_pos ho]; rfl)) (by
      intro r r4
      rw [stL3n _ _ _ r4, stL3n _ _ _ r4, stL3n _ _ _ r4, stL3n _ _ _ r4, stL3n _ _ _ r4, stL3n _ _ _ r4, stL3n _ _ _ r4, stL3n _ _ _ r4, stL3n _ _ _ r4, stL3n _ _ _ r4, stL3n _ _ _ r4, stL3n _ _ _ r4])
    refine ⟨σ', fun ρ τ => ?_, z2⟩
    unfold f_X12_touches
    simp only [mR_47, mR_2, mR_4, mR_6, mR_7, mR_8, mI_49, mI_50, mI_51, l24_0, l24_1, l24_2, l24_3, l24_4, l24_5, l24_6, l24_7, l24_8, l24_9, l24_10, l24_11, Option.bind_some, stL1, stL2, y190_r c48, y195_r t8, y196_r t8, y194_r t8, y192_r q5, ob_mem, h5, s_bits _ hB, bd_some]
    rw [if_pos (by rw [h1, ← cu_194 t8]; exact ho)]
    exact z1 ρ τ
  · obtain ⟨σ', z1, z2⟩ := s_tch (σ2 := stL (stL (stL (stL (stL (stL (stL (stL (stL (stL (stL (stL (σ1) 224 0 ((nI q).toInt64)) 224 1 ((nI t).toInt64)) 224 2 ((σ1.1 49).toInt64)) 224 3 (drop.toInt64)) 224 4 ((σ1.1 50).toInt64)) 224 5 ((σ1.2.1 190 c).toInt64)) 224 6 ((σ1.2.1 195 t).toInt64)) 224 7 ((σ1.2.1 196 t).toInt64)) 224 8 (0)) 224 9 ((nI (ct8 x.2.2.1)).toInt64)) 224 10 ((σ1.2.1 192 q).toInt64)) 224 11 ((nI (oth (cur σ) q c)).toInt64)) hL t8 hX (by simp only [stL1]) (by simp only [stL2]) (wds 0 (by rw [if_neg ho]; rfl)) (by
      intro r r4
      rw [stL3n _ _ _ r4, stL3n _ _ _ r4, stL3n _ _ _ r4, stL3n _ _ _ r4, stL3n _ _ _ r4, stL3n _ _ _ r4, stL3n _ _ _ r4, stL3n _ _ _ r4, stL3n _ _ _ r4, stL3n _ _ _ r4, stL3n _ _ _ r4, stL3n _ _ _ r4])
    refine ⟨σ', fun ρ τ => ?_, z2⟩
    unfold f_X12_touches
    simp only [mR_47, mR_2, mR_4, mR_6, mR_7, mR_8, mI_49, mI_50, mI_51, l24_0, l24_1, l24_2, l24_3, l24_4, l24_5, l24_6, l24_7, l24_8, l24_9, l24_10, l24_11, Option.bind_some, stL1, stL2, y190_r c48, y195_r t8, y196_r t8, y194_r t8, y192_r q5, ob_mem, h5, s_bits _ hB, bd_some]
    rw [if_neg (by rw [h1, ← cu_194 t8]; exact ho)]
    exact z1 ρ τ
end SFALL
