/-! The law in force, on both sides. -/
def rf (σ : Sg) : Nat := (σ.2.1 189 10).toNatClampNeg
def rm (σ : Sg) : Nat := (σ.2.1 218 (rf σ)).toNatClampNeg
def telB (σ : Sg) (b : Int32) : Bool := !decide (σ.2.1 189 10 = -1) && anyF (kndB σ (rf σ) b) 0 (rm σ)
def LB (σ : Sg) (w : Nat → Int32) : Bool := if telB σ 1 then anyF (brkB σ (rf σ) w) 0 (rm σ) else !decide (w 2 < w 6)
def LM (σ : Sg) (w : Nat → Int32) : Int32 := if telB σ 0 then mrkV σ (rf σ) w 0 (rm σ) else if w 8 = 1 then 0 else w 7
def RLw (n : Nat) (S : Nat → Nat × Nat × Nat) (T : Tc) (σ : Sg) (a : Nat) : Prop := (σ.2.1 189 10 = -1 ∧ (∃ l m, RV n S a l m) ∧ T.1 a 6 = 0 ∧ T.1 a 7 = 0) ∨ ∃ r l m, r < 6 ∧ σ.2.1 189 10 = nI r ∧ RR n S T a σ r l m
theorem RLw.rv {n : Nat} {S : Nat → Nat × Nat × Nat} {T : Tc} {σ : Sg} {a : Nat} (h : RLw n S T σ a) : ∃ l m, RV n S a l m := by
  rcases h with ⟨_, h, _⟩ | ⟨r, l, m, _, _, h⟩
  · exact h
  · exact ⟨l, m, h.rv⟩
theorem RLw.oth {n : Nat} {S : Nat → Nat × Nat × Nat} {T T' : Tc} {σ : Sg} {a : Nat} (h : RLw n S T σ a) (ha : agr (Oth (a + 1)) T T') : RLw n S T' σ a := by
  rcases h with ⟨h1, h2, h3, h4⟩ | ⟨r, l, m, h1, h2, h3⟩
  · have e := ha a (by show a ≠ a + 1; omega)
    exact .inl ⟨h1, h2, by rw [e.1]; exact h3, by rw [e.1]; exact h4⟩
  · exact .inr ⟨r, l, m, h1, h2, h3.oth ha⟩
theorem RLw.sg {n : Nat} {S : Nat → Nat × Nat × Nat} {T : Tc} {σ σ' : Sg} {a : Nat} (h : RLw n S T σ a) (hs : σ'.2.1 = σ.2.1) : RLw n S T σ' a := by
  rcases h with ⟨h1, h2⟩ | ⟨r, l, m, h1, h2, h3⟩
  · exact .inl ⟨by rw [hs]; exact h1, h2⟩
  · exact .inr ⟨r, l, m, h1, by rw [hs]; exact h2, h3.sg hs⟩
theorem nm_q {α β : Type} (e : α) (F : α → β) : nm e F = F e := rfl
section SAYS
variable {n sl a l m r : Nat} {U : Nat → va_E} {S : Nat → Nat × Nat × Nat} {σ σ0 : Sg} {w : Nat → Int32}
theorem wds_oth {T T' : Tc} {n : Nat} {S : Nat → Nat × Nat × Nat} {a l m : Nat} (hv : RV n S a l m) (ha : agr (Oth (a + 1)) T T') : T'.2.1 175 = T.2.1 175 := (ha 175 (hv.not175 (j := 1) (by decide))).2.1
theorem c_breaksL (K1 K2 : Mm → Option (Int32 × Mm)) : ∀ (k i : Nat) (T : Tc) (f : Nat), i + k = m → k < f → RR n S T a σ0 r l m → (∀ i, i < 12 → T.2.1 175 i = w i) → ∃ T', f_X5_breaksBy_L25 K1 K2 f (cn n sl U S T σ) a 175 (nI i) = (if anyF (brkB σ0 r w) i k then K1 (cn n sl U S T' σ) else K2 (cn n sl U S T' σ)) ∧ agr (Oth (a + 1)) T T' := by
  intro k
  induction k with
  | zero =>
    intro i T f h1 h2 h hw
    obtain ⟨f, rfl⟩ : ∃ k, f = k + 1 := ⟨f - 1, by omega⟩
    have := h.m1
    refine ⟨T, ?_, agr.refl _ _⟩
    rw [f_X5_breaksBy_L25, r0_1 h.rv, h.cl]
    simp only [Option.bind_some]
    rw [if_pos (nI_le (by omega) (by omega))]
    rfl
  | succ k ih =>
    intro i T f h1 h2 h hw
    obtain ⟨f, rfl⟩ : ∃ k, f = k + 1 := ⟨f - 1, by omega⟩
    have hm := h.m1
    have hl := h.l3
    have hv := h.rv
    obtain ⟨p1, p2, p3, p4, p5, p6, p7, p8, p9, p10, p11, p12, p13⟩ := h.one (show i < m by omega)
    rw [f_X5_breaksBy_L25, r0_1 hv, h.cl]
    simp only [Option.bind_some]
    rw [if_neg (nI_ge (by omega) (by omega))]
    simp only [r0_2 hv, r0_4 hv, r0_5 hv, r0_o hv, r3_r hv (show m < 2 ^ 31 by omega) (show i < m by omega), r5_r hv (show m < 2 ^ 31 by omega) (show i < m by omega), r6_r hv (show m < 2 ^ 31 by omega) (show i < m by omega), Option.bind_some, p6, p8, nm, oin1, nI_add]
    rcases p13 with ⟨k1, k2, k3⟩ | ⟨k1, k2, k3⟩
    · rw [k3, if_pos (show nI 0 = 0 from rfl)]
      obtain ⟨q0, q1⟩ := p11 (p12 k1) w
      obtain ⟨T1, q2, q3⟩ := c_worked (sl := sl) (U := U) (σ := σ) h hw p2 p3 q1
      rw [q2]
      simp only [bd_some, lg_eq0]
      rcases q0 with q0 | q0
      · obtain ⟨T', z1, z2⟩ := ih (i + 1) T1 f (by omega) (by omega) (h.oth q3) (by rw [wds_oth hv q3]; exact hw)
        refine ⟨T', ?_, q3.trans z2⟩
        rw [if_pos q0, z1, anyF, show brkB σ0 r w i = false by unfold brkB; rw [q0]; simp, Bool.false_or]
      · refine ⟨T1, ?_, q3⟩
        rw [if_neg (by rw [q0]; decide), anyF, show brkB σ0 r w i = true by unfold brkB; rw [k1, q0]; rfl, Bool.true_or, if_pos rfl]
    · rw [k3, if_neg (show ¬ nI 1 = 0 by decide)]
      obtain ⟨T', z1, z2⟩ := ih (i + 1) T f (by omega) (by omega) h hw
      refine ⟨T', ?_, z2⟩
      rw [z1, anyF, show brkB σ0 r w i = false by unfold brkB; rw [k1]; rfl, Bool.false_or]
theorem rf_nI {r : Nat} (hr : r < 6) (h : σ0.2.1 189 10 = nI r) : rf σ0 = r := by unfold rf; rw [h, nI_clamp (by omega)]
theorem rm_nI {T : Tc} {r : Nat} (hr : r < 6) (h : σ0.2.1 189 10 = nI r) (hR : RR n S T a σ0 r l m) : rm σ0 = m := by
  have := hR.m1
  unfold rm; rw [rf_nI hr h, hR.cs, nI_clamp (by omega)]
theorem tel_nI {T : Tc} {r : Nat} (hr : r < 6) (h : σ0.2.1 189 10 = nI r) (hR : RR n S T a σ0 r l m) (b : Int32) : telB σ0 b = anyF (kndB σ0 r b) 0 m := by
  unfold telB
  rw [rf_nI hr h, rm_nI hr h hR, h, decide_eq_false (nI_nm1 (by omega))]; rfl
theorem tel_m1 (h : σ0.2.1 189 10 = -1) (b : Int32) : telB σ0 b = false := by
  unfold telB
  rw [h]; rfl
theorem tel_6 {T : Tc} {r : Nat} (hR : RR n S T a σ0 r l m) : T.1 a 6 = if anyF (kndB σ0 r 1) 0 m then nI 1 else nI 0 := by
  rw [hR.tb]
  by_cases h : ∃ c, c < m ∧ T.2.1 (a + 3) c = nI 0
  · rw [if_pos h]
    obtain ⟨c, h1, h2⟩ := h
    rw [(anyF_iff _ m 0).2 ⟨c, by omega, by omega, ?_⟩, if_pos rfl]
    rcases (hR.one h1).2.2.2.2.2.2.2.2.2.2.2.2 with ⟨k1, k2, k3⟩ | ⟨k1, k2, k3⟩
    · exact k1
    · rw [h2] at k3; exact absurd k3 (by decide)
  · rw [if_neg h]
    by_cases h2 : anyF (kndB σ0 r 1) 0 m = true
    · obtain ⟨c, h3, h4, h5⟩ := (anyF_iff _ m 0).1 h2
      exfalso
      refine h ⟨c, by omega, ?_⟩
      rcases (hR.one (show c < m by omega)).2.2.2.2.2.2.2.2.2.2.2.2 with ⟨k1, k2, k3⟩ | ⟨k1, k2, k3⟩
      · exact k3
      · rw [k1] at h5; cases h5
    · rw [if_neg h2]
theorem tel_7 {T : Tc} {r : Nat} (hR : RR n S T a σ0 r l m) : T.1 a 7 = if anyF (kndB σ0 r 0) 0 m then nI 1 else nI 0 := by
  rw [hR.tm]
  by_cases h : ∃ c, c < m ∧ T.2.1 (a + 3) c = nI 1
  · rw [if_pos h]
    obtain ⟨c, h1, h2⟩ := h
    rw [(anyF_iff _ m 0).2 ⟨c, by omega, by omega, ?_⟩, if_pos rfl]
    rcases (hR.one h1).2.2.2.2.2.2.2.2.2.2.2.2 with ⟨k1, k2, k3⟩ | ⟨k1, k2, k3⟩
    · rw [h2] at k3; exact absurd k3 (by decide)
    · exact k2
  · rw [if_neg h]
    by_cases h2 : anyF (kndB σ0 r 0) 0 m = true
    · obtain ⟨c, h3, h4, h5⟩ := (anyF_iff _ m 0).1 h2
      exfalso
      refine h ⟨c, by omega, ?_⟩
      rcases (hR.one (show c < m by omega)).2.2.2.2.2.2.2.2.2.2.2.2 with ⟨k1, k2, k3⟩ | ⟨k1, k2, k3⟩
      · rw [k2] at h5; cases h5
      · exact k3
    · rw [if_neg h2]
theorem c_breaks0 {T : Tc} (hw : ∀ i, i < 12 → T.2.1 175 i = w i) (hv : RV n S a l m) (h6 : T.1 a 6 = 0) (ht : telB σ0 1 = false) : f_X5_breaksBy (cn n sl U S T σ) a 175 = some (if LB σ0 w then (1 : Int32) else 0, cn n sl U S T σ) := by
  unfold f_X5_breaksBy LB
  rw [ht, r0_6 hv, h6]
  generalize FU = F
  simp only [Option.bind_some, ↓z01, ↓z11, lit_2, lit_6, x175_r (show 2 < 12 by decide), x175_r (show 6 < 12 by decide), hw 2 (by decide), hw 6 (by decide)]
  by_cases h : w 2 < w 6
  · simp [h]
  · simp [h]
theorem c_breaks1 {T : Tc} (hw : ∀ i, i < 12 → T.2.1 175 i = w i) (h1 : r < 6) (h2 : σ0.2.1 189 10 = nI r) (h3 : RR n S T a σ0 r l m) (ht : anyF (kndB σ0 r 1) 0 m = true) : ∃ T', f_X5_breaksBy (cn n sl U S T σ) a 175 = some (if LB σ0 w then (1 : Int32) else 0, cn n sl U S T' σ) ∧ agr (Oth (a + 1)) T T' := by
  have e6 := tel_6 h3
  rw [if_pos ht] at e6
  have hf : m < FU := by have := h3.m1; unfold FU; omega
  obtain ⟨T', q1, q2⟩ := c_breaksL (sl := sl) (U := U) (σ := σ) (fun μ21 =>
    (if (1 : Int32) = 0 ∨ (1 : Int32) = 1 then some ((1 : Int32), μ21) else none)) (fun μ22 =>
    (if (0 : Int32) = 0 ∨ (0 : Int32) = 1 then some ((0 : Int32), μ22) else none)) m 0 T FU (by omega) hf h3 hw
  refine ⟨T', ?_, q2⟩
  rw [show nI 0 = (0 : Int32) from rfl] at q1
  unfold f_X5_breaksBy LB
  rw [tel_nI h1 h2 h3, ht, rf_nI h1 h2, rm_nI h1 h2 h3, r0_6 h3.rv, e6, if_pos (rfl : true = true), Option.bind_some, if_neg (show ¬ nI 1 = 0 by decide), nm_q, q1, z01, z11]
  cases anyF (brkB σ0 r w) 0 m <;> rfl
theorem c_breaksBy {T : Tc} (h : RLw n S T σ0 a) (hw : ∀ i, i < 12 → T.2.1 175 i = w i) : ∃ T', f_X5_breaksBy (cn n sl U S T σ) a 175 = some (if LB σ0 w then (1 : Int32) else 0, cn n sl U S T' σ) ∧ agr (Oth (a + 1)) T T' := by
  rcases h with ⟨h1, ⟨l, m, h2⟩, h3, h4⟩ | ⟨r, l, m, h1, h2, h3⟩
  · exact ⟨T, c_breaks0 hw h2 h3 (tel_m1 h1 1), agr.refl _ _⟩
  · by_cases ht : anyF (kndB σ0 r 1) 0 m = true
    · exact c_breaks1 hw h1 h2 h3 ht
    · have e6 := tel_6 h3
      rw [if_neg ht] at e6
      exact ⟨T, c_breaks0 hw h3.rv e6 (by rw [tel_nI h1 h2 h3]; simpa using ht), agr.refl _ _⟩
theorem clp_c (v : Int64) : ((if (if (100 : Int64) < v then (100 : Int64) else v) < (0 : Int64) then (0 : Int64) else (if (100 : Int64) < v then (100 : Int64) else v))).toInt32 = clp v := by
  unfold clp
  have e0 : (0 : Int64).toInt = 0 := rfl
  have e1 : (100 : Int64).toInt = 100 := rfl
  by_cases h1 : 100 < v
  · rw [if_pos h1, if_neg (show ¬ (100 : Int64) < 0 by decide), if_neg (by rw [i64lt] at h1 ⊢; omega), if_pos h1]; rfl
  · rw [if_neg h1]
    by_cases h2 : v < 0
    · rw [if_pos h2, if_pos h2]; rfl
    · rw [if_neg h2, if_neg h2, if_neg h1]
theorem c_lossL (K1 : Mm → Nat → Nat → Int32 → Option (Int32 × Mm)) (K2 : Mm → Option (Int32 × Mm)) (hK1 : ∀ (T : Tc) (c : Nat), c < m → RR n S T a σ0 r l m → (∀ i, i < 12 → T.2.1 175 i = w i) → kndB σ0 r 0 c = true → ∃ T', K1 (cn n sl U S T σ) a 175 (nI c) = some (clp (sumV σ0 r w c), cn n sl U S T' σ) ∧ agr (Oth (a + 1)) T T') (hK2 : ∀ μ, K2 μ = some (0, μ)) : ∀ (k i : Nat) (T : Tc) (f : Nat), i + k = m → k < f → RR n S T a σ0 r l m → (∀ i, i < 12 → T.2.1 175 i = w i) → ∃ T', f_X5_lossBy_L26 K1 K2 f (cn n sl U S T σ) a 175 (nI i) = some (mrkV σ0 r w i k, cn n sl U S T' σ) ∧ agr (Oth (a + 1)) T T' := by
  intro k
  induction k with
  | zero =>
    intro i T f h1 h2 h hw
    obtain ⟨f, rfl⟩ : ∃ k, f = k + 1 := ⟨f - 1, by omega⟩
    have := h.m1
    refine ⟨T, ?_, agr.refl _ _⟩
    rw [f_X5_lossBy_L26, r0_1 h.rv, h.cl]
    simp only [Option.bind_some]
    rw [if_pos (nI_le (by omega) (by omega)), hK2]
    rfl
  | succ k ih =>
    intro i T f h1 h2 h hw
    obtain ⟨f, rfl⟩ : ∃ k, f = k + 1 := ⟨f - 1, by omega⟩
    have hm := h.m1
    have hl := h.l3
    have hv := h.rv
    obtain ⟨p1, p2, p3, p4, p5, p6, p7, p8, p9, p10, p11, p12, p13⟩ := h.one (show i < m by omega)
    rw [f_X5_lossBy_L26, r0_1 hv, h.cl]
    simp only [Option.bind_some]
    rw [if_neg (nI_ge (by omega) (by omega))]
    simp only [r0_2 hv, r0_4 hv, r0_5 hv, r0_o hv, r3_r hv (show m < 2 ^ 31 by omega) (show i < m by omega), r5_r hv (show m < 2 ^ 31 by omega) (show i < m by omega), r6_r hv (show m < 2 ^ 31 by omega) (show i < m by omega), Option.bind_some, p6, p8, nm, oin1, nI_add, neq (show rY σ0 r i < 2 ^ 31 by omega) (show rZ σ0 r i < 2 ^ 31 by omega)]
    rcases p13 with ⟨k1, k2, k3⟩ | ⟨k1, k2, k3⟩
    · have e01 : ¬ nI 0 = 1 := by decide
      simp only [k3, e01, ↓reduceIte]
      obtain ⟨T', z1, z2⟩ := ih (i + 1) T f (by omega) (by omega) h hw
      refine ⟨T', ?_, z2⟩
      rw [mrkV, if_neg (show ¬ mrkB σ0 r w i = true by unfold mrkB; rw [k2, Bool.false_and]; decide)]
      by_cases hq : rY σ0 r i = rZ σ0 r i
      · rw [if_pos hq]; exact z1
      · rw [if_neg hq]; exact z1
    · have e01 : nI 1 = 1 := rfl
      have e10 : ¬ (1 : Int32) = 0 := by decide
      simp only [k3, e01, e10, ↓reduceIte]
      by_cases hq : rY σ0 r i = rZ σ0 r i
      · rw [if_pos hq]
        obtain ⟨T', z1, z2⟩ := hK1 T i (by omega) h hw k2
        refine ⟨T', ?_, z2⟩
        rw [z1, mrkV, if_pos (show mrkB σ0 r w i = true by unfold mrkB; rw [k2, decide_eq_true hq]; rfl)]
      · rw [if_neg hq]
        obtain ⟨q0, q1⟩ := p11 (by omega) w
        obtain ⟨T1, q2, q3⟩ := c_worked (sl := sl) (U := U) (σ := σ) h hw p2 p3 q1
        rw [q2]
        simp only [bd_some, lg_eq0]
        rcases q0 with q0 | q0
        · obtain ⟨T', z1, z2⟩ := ih (i + 1) T1 f (by omega) (by omega) (h.oth q3) (by rw [wds_oth hv q3]; exact hw)
          refine ⟨T', ?_, q3.trans z2⟩
          rw [if_pos q0, z1, mrkV, if_neg (show ¬ mrkB σ0 r w i = true by unfold mrkB; rw [q0, decide_eq_false hq]; simp)]
        · obtain ⟨T', z1, z2⟩ := hK1 T1 i (by omega) (h.oth q3) (by rw [wds_oth hv q3]; exact hw) k2
          refine ⟨T', ?_, q3.trans z2⟩
          rw [if_neg (by rw [q0]; decide), z1, mrkV, if_pos (show mrkB σ0 r w i = true by unfold mrkB; rw [k2, q0]; simp)]
theorem c_lossBy {T : Tc} (h : RLw n S T σ0 a) (hw : ∀ i, i < 12 → T.2.1 175 i = w i) : ∃ T', f_X5_lossBy (cn n sl U S T σ) a 175 = some (LM σ0 w, cn n sl U S T' σ) ∧ agr (Oth (a + 1)) T T' := by
  have dflt : ∀ {l m : Nat}, RV n S a l m → T.1 a 7 = 0 → telB σ0 0 = false → ∃ T', f_X5_lossBy (cn n sl U S T σ) a 175 = some (LM σ0 w, cn n sl U S T' σ) ∧ agr (Oth (a + 1)) T T' := by
    intro l m hv h6 ht
    refine ⟨T, ?_, agr.refl _ _⟩
    unfold f_X5_lossBy LM
    generalize FU = F
    rw [ht, r0_7 hv, h6]
    simp only [Option.bind_some, lit_7, lit_8, x175_r (show 7 < 12 by decide), x175_r (show 8 < 12 by decide), hw 7 (by decide), hw 8 (by decide), ↓reduceIte, Bool.false_eq_true]
    by_cases h : w 8 = 1
    · simp [h]
    · simp [h]
  rcases h with ⟨h1, ⟨l, m, h2⟩, h3, h4⟩ | ⟨r, l, m, h1, h2, h3⟩
  · exact dflt h2 h4 (tel_m1 h1 0)
  · by_cases ht : anyF (kndB σ0 r 0) 0 m = true
    · have e6 := tel_7 h3
      rw [if_pos ht] at e6
      have hm := h3.m1
      have hl := h3.l3
      obtain ⟨T', q1, q2⟩ := c_lossL (n := n) (sl := sl) (U := U) (S := S) (σ := σ) (σ0 := σ0) (w := w) (r := r) (a := a) (l := l) (m := m) (fun μ37 a38 a39 x40 =>
    ((gR μ37 a38 5 3).bind fun v41 =>
    ((aI μ37 v41 0 x40).bind fun v42 =>
    ((gR μ37 a38 5 4).bind fun v43 =>
    ((aI μ37 v43 0 x40).bind fun v44 =>
    ((ob μ37 a38 5).bind fun _ =>
    (bd (f_X5_worked μ37 a38 v42 v44 a39) fun v46 μ45 =>
    (nm v46 fun w47 =>
    (some (((if (if (100 : Int64) < w47 then (100 : Int64) else w47) < (0 : Int64) then (0 : Int64) else (if (100 : Int64) < w47 then (100 : Int64) else w47))).toInt32, μ45)))))))))) (fun μ48 => some ((0 : Int32), μ48)) (by
        intro T c hc h hw hk
        have hv := h.rv
        obtain ⟨p1, p2, p3, p4, p5, p6, p7, p8, p9, p10, p11, p12, p13⟩ := h.one hc
        obtain ⟨T1, q2, q3⟩ := c_worked (sl := sl) (U := U) (σ := σ) h hw p1 (Nat.le_trans p2 p3) (p10 hk w)
        refine ⟨T1, ?_, q3⟩
        simp only [r0_3 hv, r0_4 hv, r0_o hv, r4_r hv (show m < 2 ^ 31 by omega) hc, r5_r hv (show m < 2 ^ 31 by omega) hc, Option.bind_some, p4, p6, q2, bd_some, nm, clp_c]) (fun _ => rfl) m 0 T FU (by omega) (by unfold FU; omega) h3 hw
      refine ⟨T', ?_, q2⟩
      rw [show nI 0 = (0 : Int32) from rfl] at q1
      unfold f_X5_lossBy LM
      rw [tel_nI h1 h2 h3, ht, rf_nI h1 h2, rm_nI h1 h2 h3, r0_7 h3.rv, e6, if_pos (rfl : true = true), Option.bind_some, if_neg (show ¬ nI 1 = 0 by decide), nm_q, q1]
    · have e6 := tel_7 h3
      rw [if_neg ht] at e6
      exact dflt h3.rv e6 (by rw [tel_nI h1 h2 h3]; simpa using ht)
end SAYS
