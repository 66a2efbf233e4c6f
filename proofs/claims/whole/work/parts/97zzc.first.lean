/-! The first moment: class and reference hold the same. -/
def ckM (μ : Mm) (r : Nat) : Bool := match μ.2.2 r with
  | .inr o => decide (r = 188) && decide (o.1 = 12) && decide (o.2 = mfs (sS0 μ))
  | .inl (t, m, .inl _) => decide (r ≠ 188) && decide (mtl.getD (r - 189) (0, 0) = (t, m)) && decide (t ≠ 3)
  | .inl (t, m, .inr (.inl _)) => decide (r ≠ 188) && decide (mtl.getD (r - 189) (0, 0) = (t, m)) && decide (t = 3)
  | _ => false
theorem ckM_all : (List.range 54).all (fun i => ckM μS (188 + i)) = true := by decide +kernel
theorem ckC_ok {μ : Mm} {r : Nat} (U : Nat → va_E) (h : ckC μ r = true) : cellT U (ovS S0) (ovT S0 (tS μ)) r = μ.2.2 r := by
  have e1 : (ovT S0 (tS μ)).2.1 r = va (μ.2.2 r) := rfl
  have e2 : (ovT S0 (tS μ)).2.2.1 r = vl (μ.2.2 r) := rfl
  have e3 : (ovT S0 (tS μ)).2.2.2.2 r = vo (μ.2.2 r) := rfl
  unfold ckC at h
  unfold cellT
  rw [e1, e2, e3]
  rcases hc : μ.2.2 r with ⟨t, m, f | f | f | f | f⟩ | ⟨ci, fs⟩
  · rw [hc] at h
    have h : (decide (ovS S0 r = (1, t, m)) && decide (t < 3)) = true := h
    rw [Bool.and_eq_true] at h
    have h1 := of_decide_eq_true h.1
    have h2 := of_decide_eq_true h.2
    rw [h1]
    show (Sum.inl (t, m, if t = 3 then _ else if t < 3 then _ else _) : va_E) = _
    rw [if_neg (Nat.ne_of_lt h2), if_pos h2]
    rfl
  · rw [hc] at h
    have h : (decide (ovS S0 r = (1, t, m)) && decide (t = 3)) = true := h
    rw [Bool.and_eq_true] at h
    have h1 := of_decide_eq_true h.1
    have h2 := of_decide_eq_true h.2
    rw [h1]
    show (Sum.inl (t, m, if t = 3 then _ else _) : va_E) = _
    rw [if_pos h2]
    rfl
  · rw [hc] at h; cases h
  · rw [hc] at h; cases h
  · rw [hc] at h
    have h : (decide (ovS S0 r = (1, t, m)) && decide (3 < t)) = true := h
    rw [Bool.and_eq_true] at h
    have h1 := of_decide_eq_true h.1
    have h2 := of_decide_eq_true h.2
    rw [h1]
    show (Sum.inl (t, m, if t = 3 then _ else if t < 3 then _ else _) : va_E) = _
    rw [if_neg (Nat.ne_of_gt h2), if_neg (Nat.not_lt.mpr (Nat.le_of_lt h2))]
    rfl
  · rw [hc] at h
    have h : (decide (ovS S0 r = (0, ci, 0)) && decide (fs = fsT (ovT S0 (tS μ)) ci r)) = true := h
    rw [Bool.and_eq_true] at h
    have h1 := of_decide_eq_true h.1
    have h2 := of_decide_eq_true h.2
    rw [h1]
    show (Sum.inr (ci, fsT (ovT S0 (tS μ)) ci r) : va_E) = _
    rw [← h2]
theorem ckM_ok {μ : Mm} {r : Nat} (h : ckM μ r = true) : mcl (sS0 μ) r = μ.2.2 r := by
  have e1 : (sS0 μ).2.1 r = va (μ.2.2 r) := rfl
  have e2 : (sS0 μ).2.2 r = vl (μ.2.2 r) := rfl
  unfold ckM at h
  unfold mcl
  rw [e1, e2]
  rcases hc : μ.2.2 r with ⟨t, m, f | f | f | f | f⟩ | ⟨ci, fs⟩
  · rw [hc] at h
    have h : (decide (r ≠ 188) && decide (mtl.getD (r - 189) (0, 0) = (t, m)) && decide (t ≠ 3)) = true := h
    rw [Bool.and_eq_true, Bool.and_eq_true] at h
    have h0 := of_decide_eq_true h.1.1
    have h1 := of_decide_eq_true h.1.2
    have h2 := of_decide_eq_true h.2
    rw [if_neg h0, h1, if_neg h2]
    rfl
  · rw [hc] at h
    have h : (decide (r ≠ 188) && decide (mtl.getD (r - 189) (0, 0) = (t, m)) && decide (t = 3)) = true := h
    rw [Bool.and_eq_true, Bool.and_eq_true] at h
    have h0 := of_decide_eq_true h.1.1
    have h1 := of_decide_eq_true h.1.2
    have h2 := of_decide_eq_true h.2
    rw [if_neg h0, h1, if_pos h2, h2]
    rfl
  · rw [hc] at h; cases h
  · rw [hc] at h; cases h
  · rw [hc] at h; cases h
  · rw [hc] at h
    have h : (decide (r = 188) && decide (ci = 12) && decide (fs = mfs (sS0 μ))) = true := h
    rw [Bool.and_eq_true, Bool.and_eq_true] at h
    have h0 := of_decide_eq_true h.1.1
    have h1 := of_decide_eq_true h.1.2
    have h2 := of_decide_eq_true h.2
    rw [if_pos h0, h1, h2]
theorem cn_of {μ : Mm} (h0 : μ.1 = 242) (hC : (List.range 188).all (ckC μ) = true) (hM : (List.range 54).all (fun i => ckM μ (188 + i)) = true) : cn 0 μ.2.1 μ.2.2 S0 (tS μ) (sS0 μ) = μ := by
  refine Prod.ext h0.symm (Prod.ext rfl (funext fun r => ?_))
  show (if r < 188 then cellT μ.2.2 (ovS S0) (ovT S0 (tS μ)) r else if r < 242 then mcl (sS0 μ) r else cellT μ.2.2 (ovS S0) (ovT S0 (tS μ)) r) = _
  by_cases h1 : r < 188
  · rw [if_pos h1]
    exact ckC_ok _ (List.all_eq_true.1 hC r (List.mem_range.2 h1))
  · rw [if_neg h1]
    by_cases h2 : r < 242
    · rw [if_pos h2]
      have := List.all_eq_true.1 hM (r - 188) (List.mem_range.2 (by omega))
      rw [show 188 + (r - 188) = r by omega] at this
      exact ckM_ok this
    · rw [if_neg h2]
      unfold cellT
      have e : ovS S0 r = (2, 0, 0) := by unfold ovS; rw [if_neg h1]; rfl
      rw [e]
      rfl
theorem st_cn : cn 0 μS.2.1 μS.2.2 S0 (tS μS) (sS0 μS) = μS := cn_of stM_e.2.1 ckC_all ckM_all
def D0 : Dt := fun r i => if r = 189 ∧ i = 10 then -1 else 0
def rowOk (σ : Sg) : Bool := ((List.range 14).all fun r => (List.range (dlen (189 + r))).all fun i => decide (σ.2.1 (189 + r) i = D0 (189 + r) i))
def row2 (σ : Sg) : Bool := ((List.range 280).all fun i => decide (σ.2.1 226 i = 0))
def fldOk (σ : Sg) : Bool := (decide (σ.1 28 = nI 0) && decide (σ.1 32 = nI 0) && decide (σ.1 37 = nI 12) && decide (σ.1 55 = 0))
def imgOk (T : Tc) (σ : Sg) : Bool := ((List.range 4).all fun k => decide (σ.2.1 241 k = nI 0) && decide (T.2.2.2.2 173 k = none))
def clsOk (T : Tc) : Bool := (decide (T.1 128 5 = nI 0) && decide (T.1 129 1 = nI 0) && decide (T.1 153 1 = nI 0) && decide (T.1 153 6 = nI 0) && decide (T.1 153 7 = nI 0))
def schOk (T : Tc) : Bool := (decide (T.2.2.2.1 161 0 = 132) && decide (T.1 161 1 = -1) && decide (T.1 161 2 = 0) && decide (T.1 161 3 = 0) && decide (T.1 161 6 = 0) && decide (T.1 161 7 = 0) && decide (T.1 161 8 = 0) && decide (T.1 161 9 = 0))
def groOk (T : Tc) : Bool := (decide (T.1 132 0 = nI 0) && decide (T.1 132 1 = nI 0) && decide (T.1 132 2 = nI 0) && decide (T.1 132 6 = 0) && decide (T.1 132 9 = 0) && decide (T.2.2.1 132 5 = 0) && decide (T.1 141 0 = 0) && decide (T.1 141 2 = 0) && decide (T.1 141 7 = nI 0))
theorem a_row : rowOk (sS0 μS) = true := by decide +kernel
theorem a_row2 : row2 (sS0 μS) = true := by decide +kernel
theorem a_fld : fldOk (sS0 μS) = true := by decide +kernel
theorem a_img : imgOk (tS μS) (sS0 μS) = true := by decide +kernel
theorem a_cls : clsOk (tS μS) = true := by decide +kernel
theorem a_sch : schOk (tS μS) = true := by decide +kernel
theorem a_gro : groOk (tS μS) = true := by decide +kernel
theorem cur_of {σ : Sg} (h5 : σ.1 55 = 0) (hr : rowOk σ = true) (h2 : row2 σ = true) : cur σ = D0 := by
  funext r i
  unfold cur
  by_cases h : i < dlen r
  · rw [if_pos h]
    by_cases h0 : r = 0
    · rw [if_pos h0, h0]
      exact h5
    · rw [if_neg h0]
      by_cases h1 : 189 ≤ r ∧ r ≤ 202
      · have z := List.all_eq_true.1 hr (r - 189) (List.mem_range.2 (by omega))
        rw [show 189 + (r - 189) = r by omega] at z
        exact of_decide_eq_true (List.all_eq_true.1 z i (List.mem_range.2 h))
      · by_cases h2' : r = 226
        · subst h2'
          have z := of_decide_eq_true (List.all_eq_true.1 h2 i (List.mem_range.2 h))
          rw [z]
          exact (if_neg (by omega)).symm
        · exfalso
          unfold dlen at h
          rw [if_neg h0, if_neg h2', if_neg h1] at h
          omega
  · rw [if_neg h]
    unfold D0
    by_cases h1 : r = 189 ∧ i = 10
    · exfalso
      rw [h1.1, h1.2] at h
      exact h (by decide)
    · rw [if_neg h1]
theorem d0N (k : Nat) (h : k ≠ 10) : D0 189 k = 0 := if_neg (fun x => h x.2)
theorem d0n (k : Nat) (h : k ≠ 10) : dN D0 k = 0 := by unfold dN; rw [d0N k h]; rfl
theorem d0r (r i : Nat) (h : r ≠ 189) : D0 r i = 0 := if_neg (fun x => h x.1)
theorem d0M : dM D0 = 0 := rfl
theorem d0h (c : Nat) : dh D0 c = 0 := by
  unfold dh
  rw [d0r 190 c (by decide)]
  split <;> rfl
theorem st_dg : DG 0 D0 := by
  have z : ∀ k, k ≠ 10 → D0 189 k = nI (dN D0 k) := fun k h => by rw [d0n k h]; exact d0N k h
  refine ⟨z 0 (by decide), by rw [d0n 0 (by decide)]; omega, z 1 (by decide), by rw [d0n 1 (by decide)]; omega, z 2 (by decide), by rw [d0n 2 (by decide)]; omega, z 3 (by decide), by rw [d0n 3 (by decide)]; omega, z 4 (by decide), by rw [d0n 4 (by decide)]; omega, z 5 (by decide), by rw [d0n 5 (by decide)]; omega, z 6 (by decide), by rw [d0n 6 (by decide)]; omega, z 7 (by decide), by rw [d0n 7 (by decide)]; omega, z 8 (by decide), by rw [d0n 8 (by decide)]; omega, rfl, by rw [d0M]; omega, .inl ⟨d0n 0 (by decide), d0n 1 (by decide), d0n 2 (by decide), d0n 3 (by decide), d0n 4 (by decide), d0n 5 (by decide), d0n 6 (by decide)⟩, fun c hc => ?_, fun c => by rw [d0h]; omega, fun k _ q hq => ?_, fun k _ q hq => ?_, fun k hk => ?_, fun q hq => ?_, fun q hq => ?_, fun q _ hq => ?_, fun q hq => ?_, fun q hq => ?_, fun q hq => ?_, fun q hq => ?_, fun q hq => ?_, ?_, .inl rfl⟩
  · rw [d0h, d0r 190 c (by decide)]; rfl
  · rw [d0n 2 (by decide)] at hq; omega
  · rw [d0n 3 (by decide)] at hq; omega
  · rw [d0M] at hk
    unfold rwB
    rw [d0M, if_neg (by omega)]
    exact ⟨0, by decide, d0N 7 (by decide)⟩
  · rw [d0n 3 (by decide)] at hq; omega
  · rw [d0n 4 (by decide)] at hq; omega
  · rw [d0n 4 (by decide)] at hq; omega
  · rw [d0n 5 (by decide)] at hq; omega
  · rw [d0n 6 (by decide)] at hq; omega
  · rw [d0n 6 (by decide)] at hq; omega
  · rw [d0n 8 (by decide)] at hq; omega
  · rw [d0n 8 (by decide)] at hq; omega
  · rw [d0N 9 (by decide)]; decide
theorem rel_of {T : Tc} {σ : Sg} (f : fldOk σ = true) (c : clsOk T = true) (s : schOk T = true) (g : groOk T = true) (hi : imgOk T σ = true) (hr : rowOk σ = true) (h2 : row2 σ = true) : REL 0 S0 T σ 0 := by
  simp only [fldOk, clsOk, schOk, groOk, Bool.and_eq_true, decide_eq_true_eq] at f c s g
  obtain ⟨⟨⟨f28, f32⟩, f37⟩, f55⟩ := f
  have st_cur := cur_of f55 hr h2
  obtain ⟨⟨⟨⟨c5, c29⟩, c1⟩, c6⟩, c7⟩ := c
  obtain ⟨⟨⟨⟨⟨⟨⟨s0, s1⟩, s2⟩, s3⟩, s6⟩, s7⟩, s8⟩, s9⟩ := s
  obtain ⟨⟨⟨⟨⟨⟨⟨⟨g0, g1⟩, g2⟩, g6⟩, g9⟩, g5⟩, l0⟩, l2⟩, l7⟩ := g
  have im : ∀ k, k < 4 → σ.2.1 241 k = nI 0 ∧ T.2.2.2.2 173 k = none := fun k hk => by
    have z := List.all_eq_true.1 hi k (List.mem_range.2 hk)
    rw [Bool.and_eq_true] at z
    exact ⟨of_decide_eq_true z.1, of_decide_eq_true z.2⟩
  refine ⟨⟨by omega, c5, f32, f37, c1, c6, c7, fun j k a hj hk h1 h2 => ?_⟩, ⟨0, by omega, c29, f28, fun i hi => absurd hi (Nat.not_lt_zero _)⟩, fun k hk => absurd hk (Nat.not_lt_zero _), fun k hk => .inl (im k hk), by rw [st_cur]; exact st_dg, ?_⟩
  · rw [(im j hj).2] at h1
    cases h1
  · rw [st_cur]
    have n0 := d0n 0 (by decide)
    have n1 := d0n 1 (by decide)
    have n2 := d0n 2 (by decide)
    have n3 := d0n 3 (by decide)
    have n4 := d0n 4 (by decide)
    have n5 := d0n 5 (by decide)
    have n8 := d0n 8 (by decide)
    have ls : (les D0).2.2 = 0 := by unfold les; rw [n5]; rfl
    refine ⟨sv_161, ?_, s1, by rw [s2]; rfl, by rw [s3]; rfl, fun q hq => ?_, fun q hq => ?_, by rw [s6]; rfl, by rw [s7, n8]; rfl, by rw [s8, n8]; rfl, by rw [s9]; rfl, fun k hk => ?_, fun k hk => ?_⟩
    · rw [s0]
      refine ⟨gv_132, ⟨by rw [n0]; exact g0, by rw [n1]; exact g1, by rw [n0, n1]; exact g2, fun q hq => ?_⟩, fun q hq => ?_, by rw [g6]; rfl, fun q hq => ?_, by rw [g9]; rfl, fun q hq => ?_, fun q hq => ?_, fun q hq => ?_, by rw [g5, n4]; rfl, by rw [l0]; rfl, by rw [l2]; rfl, fun q hq => ?_, by rw [ls]; exact l7, fun q hq => ?_⟩
      · rw [n0] at hq; omega
      · rw [n0] at hq; omega
      · rw [n2] at hq; omega
      · rw [n3] at hq; omega
      · rw [n3] at hq; omega
      · rw [n3] at hq; omega
      · rw [n5] at hq; omega
      · rw [ls] at hq; omega
    · rw [n2] at hq; omega
    · rw [n3] at hq; omega
    · rw [d0M] at hk; omega
    · rw [d0M] at hk; omega
theorem st_rel : REL 0 S0 (tS μS) (sS0 μS) 0 := rel_of a_fld a_cls a_sch a_gro a_img a_row a_row2
