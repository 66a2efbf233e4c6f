/-! The reference's rule in force. -/
section TELLS
variable {n a l m r : Nat} {S : Nat → Nat × Nat × Nat} {T : Tc} {σ : Sg} {w : Nat → Int32} {ρ : Mm} {τ : Nat → va_E}
theorem s_tellsL (hr : r < 6) (hm : m ≤ 12) (hc : σ.2.1 218 r = nI m) (b : Int32) (K1 K2 : Mm → Option (Int32 × Mm)) : ∀ (k i f : Nat), i + k = m → k < f → f_X12_tells_L13 K1 K2 f (mem ρ τ σ) 188 b (nI r) (nI (12 * r + i)) = (if anyF (kndB σ r b) i k then K1 (mem ρ τ σ) else K2 (mem ρ τ σ)) := by
  intro k
  induction k with
  | zero =>
    intro i f h1 h2
    obtain ⟨f, rfl⟩ : ∃ k, f = k + 1 := ⟨f - 1, by omega⟩
    rw [f_X12_tells_L13, if_neg (nI_nm1 (by omega))]
    simp only [mR_41, Option.bind_some, y218_r hr, hc, lit_12, pk_mul, nI_add]
    rw [if_pos (nI_le (by omega) (by omega))]
    rfl
  | succ k ih =>
    intro i f h1 h2
    obtain ⟨f, rfl⟩ : ∃ k, f = k + 1 := ⟨f - 1, by omega⟩
    have ih1 := ih (i + 1) f (by omega) (by omega)
    rw [f_X12_tells_L13, if_neg (nI_nm1 (by omega))]
    simp only [mR_41, mR_46, Option.bind_some, y218_r hr, hc, lit_12, pk_mul, nI_add, nm, oin1, y223_r (show 12 * r + i < 72 by omega)]
    rw [if_neg (nI_ge (by omega) (by omega)), anyF]
    by_cases h : σ.2.1 223 (12 * r + i) = b
    · rw [if_pos h, show kndB σ r b i = true from decide_eq_true h, Bool.true_or, if_pos rfl]
    · rw [if_neg h, show kndB σ r b i = false from decide_eq_false h, Bool.false_or]
      exact ih1
theorem s_tells (h : RLw n S T σ a) (b : Int32) : f_X12_tells (mem ρ τ σ) 188 b = some (if telB σ b then (1 : Int32) else 0, mem ρ τ σ) := by
  unfold f_X12_tells
  rw [mR_1, Option.bind_some, sc_10, Option.bind_some, nm_q, nm_q]
  rcases h with ⟨h1, h2⟩ | ⟨r, l, m, h1, h2, h3⟩
  · rw [h1, tel_m1 h1]
    have hF : FU = (FU - 1) + 1 := rfl
    rw [hF, f_X12_tells_L13, if_pos rfl]
    rfl
  · have hm := h3.m1
    have q := s_tellsL (ρ := ρ) (τ := τ) h1 hm h3.cs b (fun μ16 =>
    (if (1 : Int32) = 0 ∨ (1 : Int32) = 1 then some ((1 : Int32), μ16) else none)) (fun μ17 =>
    (if (0 : Int32) = 0 ∨ (0 : Int32) = 1 then some ((0 : Int32), μ17) else none)) m 0 FU (by omega) (by unfold FU; omega)
    rw [h2, show (12 : Int32) * nI r = nI (12 * r + 0) by rw [lit_12, pk_mul]; rfl, q, z01, z11, tel_nI h1 h2 h3]
    cases anyF (kndB σ r b) 0 m <;> rfl
theorem s_brokenL (hr : r < 6) (K1 K2 : Mm → Option (Int32 × Mm)) : ∀ (k i : Nat) (σ : Sg) (f : Nat), i + k = m → k < f → RR n S T a σ r l m → (∀ i, i < 12 → σ.2.2 224 i = (w i).toInt64) → ∃ σ', (∀ ρ τ, f_X12_isBroken_L13 K1 K2 f (mem ρ τ σ) 188 (nI r) (nI (12 * r + i)) = (if anyF (brkB σ r w) i k then K1 (mem ρ τ σ') else K2 (mem ρ τ σ'))) ∧ Stk σ σ' := by
  intro k
  induction k with
  | zero =>
    intro i σ f h1 h2 h hw
    obtain ⟨f, rfl⟩ : ∃ k, f = k + 1 := ⟨f - 1, by omega⟩
    have := h.m1
    refine ⟨σ, fun ρ τ => ?_, Stk.refl _⟩
    rw [f_X12_isBroken_L13]
    simp only [mR_41, Option.bind_some, y218_r hr, h.cs, lit_12, pk_mul, nI_add]
    rw [if_pos (nI_le (by omega) (by omega))]
    rfl
  | succ k ih =>
    intro i σ f h1 h2 h hw
    obtain ⟨f, rfl⟩ : ∃ k, f = k + 1 := ⟨f - 1, by omega⟩
    have hm := h.m1
    have hl := h.l3
    obtain ⟨p1, p2, p3, p4, p5, p6, p7, p8, p9, p10, p11, p12, p13⟩ := h.one (show i < m by omega)
    have unf : ∀ ρ τ, f_X12_isBroken_L13 K1 K2 (f + 1) (mem ρ τ σ) 188 (nI r) (nI (12 * r + i)) = (if σ.2.1 223 (12 * r + i) = 0 then f_X12_isBroken_L13 K1 K2 f (mem ρ τ σ) 188 (nI r) (nI (12 * r + (i + 1))) else bd (f_X12_answer (mem ρ τ σ) 188 (nI r) (nI (rY σ r i)) (nI (rZ σ r i))) fun v μ => if (lg_cmp v 1) = 0 then K1 μ else f_X12_isBroken_L13 K1 K2 f μ 188 (nI r) (nI (12 * r + (i + 1)))) := by
      intro ρ τ
      rw [f_X12_isBroken_L13]
      simp only [mR_41, mR_46, mR_43, mR_44, ob_mem, Option.bind_some, y218_r hr, h.cs, lit_12, pk_mul, nI_add, nm, oin1, y223_r (show 12 * r + i < 72 by omega), y220_r (show 12 * r + i < 72 by omega), y221_r (show 12 * r + i < 72 by omega), p7, p9]
      rw [if_neg (nI_ge (by omega) (by omega))]
      rfl
    rcases p13 with ⟨k1, k2, k3⟩ | ⟨k1, k2, k3⟩
    · have e1 : σ.2.1 223 (12 * r + i) = 1 := of_decide_eq_true k1
      obtain ⟨q0, q1⟩ := p11 (p12 k1) w
      obtain ⟨σ1, q2, q3⟩ := s_answer h hr hw p2 p3 q1
      rcases q0 with q0 | q0
      · obtain ⟨σ', z1, z2⟩ := ih (i + 1) σ1 f (by omega) (by omega) (h.sg q3.2.1) (by rw [q3.2.2 224 (by decide)]; exact hw)
        refine ⟨σ', fun ρ τ => ?_, q3.trans z2⟩
        have eb : brkB σ1 r w = brkB σ r w := by
          funext c
          unfold brkB kndB tstV rY rZ rSo rNu
          rw [q3.2.1]
        rw [unf, e1, if_neg (by decide), q2, bd_some, q0, if_neg (by decide), z1, eb, anyF, show brkB σ r w i = false by unfold brkB; rw [q0]; simp, Bool.false_or]
      · refine ⟨σ1, fun ρ τ => ?_, q3⟩
        rw [unf, e1, if_neg (by decide), q2, bd_some, q0, if_pos (by decide), anyF, show brkB σ r w i = true by unfold brkB; rw [k1, q0]; rfl, Bool.true_or, if_pos rfl]
    · have e1 : σ.2.1 223 (12 * r + i) = 0 := of_decide_eq_true k2
      obtain ⟨σ', z1, z2⟩ := ih (i + 1) σ f (by omega) (by omega) h hw
      refine ⟨σ', fun ρ τ => ?_, z2⟩
      rw [unf, e1, if_pos rfl, z1, anyF, show brkB σ r w i = false by unfold brkB; rw [k1]; rfl, Bool.false_or]
theorem s_isBroken (h : RLw n S T σ a) (ht : telB σ 1 = true) (hw : ∀ i, i < 12 → σ.2.2 224 i = (w i).toInt64) : ∃ σ', (∀ ρ τ, f_X12_isBroken (mem ρ τ σ) 188 = some (if LB σ w then (1 : Int32) else 0, mem ρ τ σ')) ∧ Stk σ σ' := by
  rcases h with ⟨h1, h2⟩ | ⟨r, l, m, h1, h2, h3⟩
  · rw [tel_m1 h1] at ht; cases ht
  · have hm := h3.m1
    obtain ⟨σ', q1, q2⟩ := s_brokenL (w := w) h1 (fun μ21 =>
    (if (1 : Int32) = 0 ∨ (1 : Int32) = 1 then some ((1 : Int32), μ21) else none)) (fun μ22 =>
    (if (0 : Int32) = 0 ∨ (0 : Int32) = 1 then some ((0 : Int32), μ22) else none)) m 0 σ FU (by omega) (by unfold FU; omega) h3 hw
    refine ⟨σ', fun ρ τ => ?_, q2⟩
    unfold f_X12_isBroken LB
    rw [mR_1, Option.bind_some, sc_10, Option.bind_some, nm_q, nm_q, h2, show (12 : Int32) * nI r = nI (12 * r + 0) by rw [lit_12, pk_mul]; rfl, q1, z01, z11, ht, rf_nI h1 h2, rm_nI h1 h2 h3, if_pos (rfl : true = true)]
    cases anyF (brkB σ r w) 0 m <;> rfl
theorem s_markedL (hr : r < 6) (K1 : Mm → Nat → Int32 → Int32 → Option (Int32 × Mm)) (K2 : Mm → Option (Int32 × Mm)) (hK1 : ∀ (σ : Sg) (c : Nat), c < m → RR n S T a σ r l m → (∀ i, i < 12 → σ.2.2 224 i = (w i).toInt64) → kndB σ r 0 c = true → ∃ σ', (∀ ρ τ, K1 (mem ρ τ σ) 188 (nI r) (nI (12 * r + c)) = some (clp (sumV σ r w c), mem ρ τ σ')) ∧ Stk σ σ') (hK2 : ∀ μ, K2 μ = some (0, μ)) : ∀ (k i : Nat) (σ : Sg) (f : Nat), i + k = m → k < f → RR n S T a σ r l m → (∀ i, i < 12 → σ.2.2 224 i = (w i).toInt64) → ∃ σ', (∀ ρ τ, f_X12_marked_L13 K1 K2 f (mem ρ τ σ) 188 (nI r) (nI (12 * r + i)) = some (mrkV σ r w i k, mem ρ τ σ')) ∧ Stk σ σ' := by
  intro k
  induction k with
  | zero =>
    intro i σ f h1 h2 h hw
    obtain ⟨f, rfl⟩ : ∃ k, f = k + 1 := ⟨f - 1, by omega⟩
    have := h.m1
    refine ⟨σ, fun ρ τ => ?_, Stk.refl _⟩
    rw [f_X12_marked_L13]
    simp only [mR_41, Option.bind_some, y218_r hr, h.cs, lit_12, pk_mul, nI_add]
    rw [if_pos (nI_le (by omega) (by omega)), hK2]
    rfl
  | succ k ih =>
    intro i σ f h1 h2 h hw
    obtain ⟨f, rfl⟩ : ∃ k, f = k + 1 := ⟨f - 1, by omega⟩
    have hm := h.m1
    have hl := h.l3
    obtain ⟨p1, p2, p3, p4, p5, p6, p7, p8, p9, p10, p11, p12, p13⟩ := h.one (show i < m by omega)
    have unf : ∀ ρ τ, f_X12_marked_L13 K1 K2 (f + 1) (mem ρ τ σ) 188 (nI r) (nI (12 * r + i)) = (if σ.2.1 223 (12 * r + i) = 0 then (if nI (rY σ r i) = nI (rZ σ r i) then K1 (mem ρ τ σ) 188 (nI r) (nI (12 * r + i)) else bd (f_X12_answer (mem ρ τ σ) 188 (nI r) (nI (rY σ r i)) (nI (rZ σ r i))) fun v μ => if (lg_cmp v 1) = 0 then K1 μ 188 (nI r) (nI (12 * r + i)) else f_X12_marked_L13 K1 K2 f μ 188 (nI r) (nI (12 * r + (i + 1)))) else f_X12_marked_L13 K1 K2 f (mem ρ τ σ) 188 (nI r) (nI (12 * r + (i + 1)))) := by
      intro ρ τ
      rw [f_X12_marked_L13]
      simp only [mR_41, mR_46, mR_43, mR_44, ob_mem, Option.bind_some, y218_r hr, h.cs, lit_12, pk_mul, nI_add, nm, oin1, y223_r (show 12 * r + i < 72 by omega), y220_r (show 12 * r + i < 72 by omega), y221_r (show 12 * r + i < 72 by omega), p7, p9]
      rw [if_neg (nI_ge (by omega) (by omega))]
      rfl
    have same : ∀ σ1, Stk σ σ1 → mrkV σ1 r w = mrkV σ r w := by
      intro σ1 q3
      have eb : mrkB σ1 r w = mrkB σ r w := by
        funext c
        unfold mrkB kndB tstV rY rZ rSo rNu
        rw [q3.2.1]
      have es : sumV σ1 r w = sumV σ r w := by
        funext c
        unfold sumV rX rY rSo rNu
        rw [q3.2.1]
      funext c k
      induction k generalizing c with
      | zero => rfl
      | succ k ih => rw [mrkV, mrkV, eb, es, ih]
    rcases p13 with ⟨k1, k2, k3⟩ | ⟨k1, k2, k3⟩
    · have e1 : σ.2.1 223 (12 * r + i) = 1 := of_decide_eq_true k1
      obtain ⟨σ', z1, z2⟩ := ih (i + 1) σ f (by omega) (by omega) h hw
      refine ⟨σ', fun ρ τ => ?_, z2⟩
      rw [unf, e1, if_neg (by decide), z1, mrkV, if_neg (show ¬ mrkB σ r w i = true by unfold mrkB; rw [k2, Bool.false_and]; decide)]
    · have e1 : σ.2.1 223 (12 * r + i) = 0 := of_decide_eq_true k2
      by_cases hq : rY σ r i = rZ σ r i
      · obtain ⟨σ', z1, z2⟩ := hK1 σ i (by omega) h hw k2
        refine ⟨σ', fun ρ τ => ?_, z2⟩
        rw [unf, e1, if_pos rfl, if_pos (by rw [hq]), z1, mrkV, if_pos (show mrkB σ r w i = true by unfold mrkB; rw [k2, decide_eq_true hq]; rfl)]
      · have hq2 : ¬ nI (rY σ r i) = nI (rZ σ r i) := fun e => hq ((nI_eq (by omega) (by omega)).1 e)
        obtain ⟨q0, q1⟩ := p11 (by omega) w
        obtain ⟨σ1, q2, q3⟩ := s_answer h hr hw p2 p3 q1
        have hw1 : ∀ i, i < 12 → σ1.2.2 224 i = (w i).toInt64 := by rw [q3.2.2 224 (by decide)]; exact hw
        rcases q0 with q0 | q0
        · obtain ⟨σ', z1, z2⟩ := ih (i + 1) σ1 f (by omega) (by omega) (h.sg q3.2.1) hw1
          refine ⟨σ', fun ρ τ => ?_, q3.trans z2⟩
          rw [unf, e1, if_pos rfl, if_neg hq2, q2, bd_some, q0, if_neg (by decide), z1, same σ1 q3, mrkV, if_neg (show ¬ mrkB σ r w i = true by unfold mrkB; rw [q0, decide_eq_false hq]; simp)]
        · have k2' : kndB σ1 r 0 i = true := by unfold kndB at k2 ⊢; rw [q3.2.1]; exact k2
          obtain ⟨σ', z1, z2⟩ := hK1 σ1 i (by omega) (h.sg q3.2.1) hw1 k2'
          refine ⟨σ', fun ρ τ => ?_, q3.trans z2⟩
          have es : sumV σ1 r w i = sumV σ r w i := by
            unfold sumV rX rY rSo rNu
            rw [q3.2.1]
          rw [unf, e1, if_pos rfl, if_neg hq2, q2, bd_some, q0, if_pos (by decide), z1, es, mrkV, if_pos (show mrkB σ r w i = true by unfold mrkB; rw [k2, q0]; simp)]
theorem clp_s {v : Int64} {μ : Mm} : (if 0 ≤ (lg_cmp v (0 : Int64)) then (if (lg_cmp v (100 : Int64)) ≤ 0 then (some ((v).toInt32, μ)) else (some ((100 : Int32), μ))) else (some ((0 : Int32), μ))) = some (clp v, μ) := by
  unfold clp
  simp only [lgc_ge, lgc_le]
  by_cases h1 : v < 0
  · rw [if_neg (fun h => h h1), if_pos h1]
  · rw [if_pos h1, if_neg h1]
    by_cases h2 : 100 < v
    · rw [if_pos h2, if_neg (by rw [nlt64] at h2; exact h2)]
    · rw [if_neg h2, if_pos (by rw [nlt64] at h2; exact Classical.not_not.1 h2)]
theorem s_marked (h : RLw n S T σ a) (ht : telB σ 0 = true) (hw : ∀ i, i < 12 → σ.2.2 224 i = (w i).toInt64) : ∃ σ', (∀ ρ τ, f_X12_marked (mem ρ τ σ) 188 = some (LM σ w, mem ρ τ σ')) ∧ Stk σ σ' := by
  rcases h with ⟨h1, h2⟩ | ⟨r, l, m, h1, h2, h3⟩
  · rw [tel_m1 h1] at ht; cases ht
  · have hm := h3.m1
    obtain ⟨σ', q1, q2⟩ := s_markedL (n := n) (S := S) (T := T) (a := a) (l := l) (m := m) (w := w) h1 (fun μ25 a26 x27 x28 =>
    ((gR μ25 a26 12 42).bind fun v29 =>
    ((aI μ25 v29 0 x28).bind fun v30 =>
    ((gR μ25 a26 12 43).bind fun v31 =>
    ((aI μ25 v31 0 x28).bind fun v32 =>
    ((ob μ25 a26 12).bind fun _ =>
    (bd (f_X12_answer μ25 a26 x27 v30 v32) fun v34 μ33 =>
    (nm v34 fun w35 =>
    (if 0 ≤ (lg_cmp w35 (0 : Int64)) then
    (if (lg_cmp w35 (100 : Int64)) ≤ 0 then
    (some ((w35).toInt32, μ33))
    else
    (some ((100 : Int32), μ33)))
    else
    (some ((0 : Int32), μ33))))))))))) (fun μ36 =>
    (some ((0 : Int32), μ36))) (by
        intro σ c hc h hw hk
        obtain ⟨p1, p2, p3, p4, p5, p6, p7, p8, p9, p10, p11, p12, p13⟩ := h.one hc
        obtain ⟨σ', z1, z2⟩ := s_answer h h1 hw p1 (Nat.le_trans p2 p3) (p10 hk w)
        refine ⟨σ', fun ρ τ => ?_, z2⟩
        simp only [mR_42, mR_43, ob_mem, Option.bind_some, y219_r (show 12 * r + c < 72 by omega), y220_r (show 12 * r + c < 72 by omega), p5, p7, z1, bd_some, nm, clp_s]) (fun _ => rfl) m 0 σ FU (by omega) (by unfold FU; omega) h3 hw
    refine ⟨σ', fun ρ τ => ?_, q2⟩
    unfold f_X12_marked LM
    rw [mR_1, Option.bind_some, sc_10, Option.bind_some, nm_q, nm_q, h2, show (12 : Int32) * nI r = nI (12 * r + 0) by rw [lit_12, pk_mul]; rfl, q1, ht, rf_nI h1 h2, rm_nI h1 h2 h3, if_pos (rfl : true = true)]
end TELLS
