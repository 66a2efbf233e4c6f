/-! An act kept, by the reference and by the class. -/
def wrp (M m off : Nat) : Prop := (M = 20 ∧ m = 19 ∧ off = 1) ∨ (M < 20 ∧ m = M ∧ off = 0)
theorem wrp_ex {M : Nat} (h : M ≤ 20) : ∃ m off, wrp M m off := by
  by_cases h1 : M = 20
  · exact ⟨19, 1, .inl ⟨h1, rfl, rfl⟩⟩
  · exact ⟨M, 0, .inr ⟨by omega, rfl, rfl⟩⟩
theorem s_shift {ρ : Mm} {τ : Nat → va_E} {σ : Sg} (K : Mm → Nat → Option Mm) : f_X12_keepsAct_L12 K FU (mem ρ τ σ) 188 14 = K (mem ρ τ (σ.1, va_up σ.2.1 226 (fun j => if j < 266 then σ.2.1 226 (j + 14) else σ.2.1 226 j), σ.2.2)) 188 := by
  have key : ∀ (i m : Nat), i ≤ 266 → 266 - i < m → f_X12_keepsAct_L12 K m (mem ρ τ (σ.1, va_up σ.2.1 226 (fun j => if j < i then σ.2.1 226 (j + 14) else σ.2.1 226 j), σ.2.2)) 188 (nI (i + 14)) = K (mem ρ τ (σ.1, va_up σ.2.1 226 (fun j => if j < 266 then σ.2.1 226 (j + 14) else σ.2.1 226 j), σ.2.2)) 188 := by
    refine lpU (fun m i => f_X12_keepsAct_L12 K m (mem ρ τ (σ.1, va_up σ.2.1 226 (fun j => if j < i then σ.2.1 226 (j + 14) else σ.2.1 226 j), σ.2.2)) 188 (nI (i + 14)) = K (mem ρ τ (σ.1, va_up σ.2.1 226 (fun j => if j < 266 then σ.2.1 226 (j + 14) else σ.2.1 226 j), σ.2.2)) 188) 266 ?_ ?_
    · intro m
      rw [f_X12_keepsAct_L12, if_pos (by decide)]
    · intro m i hi ih
      rw [f_X12_keepsAct_L12, if_neg (show ¬ (280 : Int32) ≤ nI (i + 14) from nI_ge (b := 280) (by omega) (by decide))]
      simp only [mR_53, Option.bind_some, y226_r (show i + 14 < 280 by omega), nm, oi1, nI_1]
      rw [show nI (i + 14) - 14 = nI i from (pk_sub (b := 14) (by omega)).trans (by rw [Nat.add_sub_cancel]), y226_w (by omega)]
      simp only [Option.bind_some]
      rw [show i + 14 + 1 = i + 1 + 14 by omega]
      have e : stA (σ.1, va_up σ.2.1 226 (fun j => if j < i then σ.2.1 226 (j + 14) else σ.2.1 226 j), σ.2.2) 226 i ((va_up σ.2.1 226 (fun j => if j < i then σ.2.1 226 (j + 14) else σ.2.1 226 j)) 226 (i + 14)) = (σ.1, va_up σ.2.1 226 (fun j => if j < i + 1 then σ.2.1 226 (j + 14) else σ.2.1 226 j), σ.2.2) := by
        refine Prod.ext rfl (Prod.ext ?_ rfl)
        funext r j
        rw [stA2]
        show (if r = 226 ∧ j = i then va_up σ.2.1 226 _ 226 (i + 14) else va_up σ.2.1 226 _ r j) = va_up σ.2.1 226 _ r j
        by_cases hr : r = 226
        · subst hr
          rw [va_up_self, va_up_self]
          by_cases hj : j = i
          · subst hj
            rw [if_pos ⟨rfl, rfl⟩, if_neg (by omega), if_pos (by omega)]
          · rw [if_neg (fun h => hj h.2)]
            by_cases h2 : j < i
            · rw [if_pos h2, if_pos (by omega)]
            · rw [if_neg h2, if_neg (by omega)]
        · rw [va_up_ne _ _ hr, va_up_ne _ _ hr, if_neg (fun h => hr h.1)]
      rw [e]
      exact ih
  have z := key 0 FU (by omega) (FUb (by omega))
  have e0 : va_up σ.2.1 226 (fun j => if j < 0 then σ.2.1 226 (j + 14) else σ.2.1 226 j) = σ.2.1 := by
    have : (fun j => if j < 0 then σ.2.1 226 (j + 14) else σ.2.1 226 j) = σ.2.1 226 := by
      funext j; rw [if_neg (by omega)]
    rw [this, va_id]
  rw [e0] at z
  exact z
/-- what the reference's past is behind keepsAct -/
def Kp (σ σ' : Sg) (m off : Nat) : Prop := σ'.1 55 = nI (m + 1) ∧ (∀ k, k ≠ 55 → k ≠ 56 → k ≠ 57 → σ'.1 k = σ.1 k) ∧ (∀ r, r ≠ 226 → σ'.2.1 r = σ.2.1 r) ∧ σ'.2.2 = σ.2.2 ∧ (∀ j, j < 14 * m → σ'.2.1 226 j = σ.2.1 226 (j + 14 * off)) ∧ σ'.2.1 226 (14 * m) = σ.2.1 189 7 ∧ (∀ q, q < 5 → σ'.2.1 226 (14 * m + 1 + q) = σ.2.1 191 q) ∧ ∀ t, t < 8 → σ'.2.1 226 (14 * m + 6 + t) = σ.2.1 193 t
theorem s_keepsAct {σ : Sg} {M m off : Nat} (hM : σ.1 55 = nI M) (hw : wrp M m off) : ∃ σ', (∀ ρ τ, f_X12_keepsAct (mem ρ τ σ) 188 = some (mem ρ τ σ')) ∧ Kp σ σ' m off := by
  rcases hw with ⟨h1, h2, h3⟩ | ⟨h1, h2, h3⟩
  · subst h1 h2 h3
    let σ1 : Sg := (σ.1, va_up σ.2.1 226 (fun j => if j < 266 then σ.2.1 226 (j + 14) else σ.2.1 226 j), σ.2.2)
    obtain ⟨σ2, q1, q2, q3, q4, q5, q6, q7, q8⟩ := s_movesAllF (σ := stI σ1 55 (nI 19)) (m := 19) (by decide)
    have e55 : σ2.1 55 = nI 19 := (q2 55 (by decide) (by decide)).trans (by simp [stI, va_up])
    have eo : ∀ r, r ≠ 226 → (stI σ1 55 (nI 19)).2.1 r = σ.2.1 r := fun r hr => by simp [σ1, stI, va_up, hr]
    refine ⟨stI σ2 55 (nI 20), fun ρ τ => ?_, ?_, ?_, ?_, ?_, ?_, ?_, ?_, ?_⟩
    · unfold f_X12_keepsAct
      simp only [mI_55, Option.bind_some, hM, nm]
      rw [if_pos (show nI 20 = (20 : Int32) from rfl), s_shift]
      have e1 : σ1.1 55 = nI 20 := hM
      simp only [mI_55, Option.bind_some, mP_55, ob_mem]
      have e2 : (σ.1 55 - 1 : Int32) = nI 19 := by rw [hM]; rfl
      have e3 : (stI σ1 55 (nI 19)).1 55 = nI 19 := by simp [stI, va_up]
      have q1' := q1 ρ τ
      rw [e2]
      rw [show (stI (σ.fst, va_up σ.snd.fst 226 fun j => if j < 266 then σ.snd.fst 226 (j + 14) else σ.snd.fst 226 j, σ.snd.snd) 55 (nI 19)).fst 55 = nI 19 from e3, q1']
      simp only [Option.bind_some, mI_55, mP_55, e55]
      rfl
    · simp [stI, va_up]
    · intro k h1 h2 h3
      have := q2 k h2 h3
      simp [stI, va_up, h1]
      rw [this]; simp [σ1, stI, va_up, h1]
    · intro r hr
      exact (q3 r hr).trans (eo r hr)
    · exact q4
    · intro j hj
      have := q5 j hj
      have e : (stI σ1 55 (nI 19)).2.1 226 j = σ.2.1 226 (j + 14) := by simp [σ1, stI, va_up]; intro h; omega
      rw [← Nat.mul_one 14] at *
      exact this.trans (by simpa using e)
    · exact q6.trans (by rw [eo 189 (by decide)])
    · intro q hq; exact (q7 q hq).trans (by rw [eo 191 (by decide)])
    · intro q hq; exact (q8 q hq).trans (by rw [eo 193 (by decide)])
  · subst h2 h3
    obtain ⟨σ2, q1, q2, q3, q4, q5, q6, q7, q8⟩ := s_movesAllF (σ := σ) (m := m) h1
    have e55 : σ2.1 55 = nI m := (q2 55 (by decide) (by decide)).trans hM
    refine ⟨stI σ2 55 (nI (m + 1)), fun ρ τ => ?_, ?_, ?_, ?_, ?_, ?_, ?_, ?_, ?_⟩
    · unfold f_X12_keepsAct
      simp only [mI_55, Option.bind_some, hM, ob_mem]
      rw [if_neg (show ¬ nI m = (20 : Int32) from fun e => by
        have := (nI_eq (b := 20) (by omega) (by decide)).1 e; omega), q1 ρ τ]
      simp only [Option.bind_some, mI_55, mP_55, e55, nI_1]
    · simp [stI, va_up]
    · intro k h1 h2 h3
      simp [stI, va_up, h1]
      exact q2 k h2 h3
    · exact q3
    · exact q4
    · exact q5
    · exact q6
    · exact q7
    · exact q8
/-- what the class's acts are behind remember -/
def Rm (T T' : Tc) (a m off : Nat) (x y : Int32) : Prop := agr (fun r => r ≠ a ∧ r ≠ a + 3 ∧ r ≠ a + 4 ∧ r ≠ a + 5) T T' ∧ (∀ k, k ≠ 9 → T'.1 a k = T.1 a k) ∧ T'.2.2.2.1 a = T.2.2.2.1 a ∧ T'.1 a 9 = nI (m + 1) ∧ (∀ k, k < m → T'.2.1 (a + 3) k = T.2.1 (a + 3) (k + off) ∧ T'.2.1 (a + 4) k = T.2.1 (a + 4) (k + off) ∧ T'.2.1 (a + 5) k = T.2.1 (a + 5) (k + off)) ∧ T'.2.1 (a + 3) m = x ∧ T'.2.1 (a + 4) m = y ∧ T'.2.1 (a + 5) m = T.1 a 3
theorem c_remember {n sl : Nat} {U : Nat → va_E} {S : Nat → Nat × Nat × Nat} {T : Tc} {σ : Sg} {a M m off : Nat} (hs : SV n S a) (hM : T.1 a 9 = nI M) (hw : wrp M m off) (x y : Int32) : ∃ T', f_X7_remember (cn n sl U S T σ) a x y = some (cn n sl U S T' σ) ∧ Rm T T' a m off x y := by
  have ne : ∀ {r i}, r ≠ a ∧ r ≠ a + 3 ∧ r ≠ a + 4 ∧ r ≠ a + 5 → i = a ∨ i = a + 3 ∨ i = a + 4 ∨ i = a + 5 → r ≠ i := fun h h2 => by omega
  rcases hw with ⟨h1, h2, h3⟩ | ⟨h1, h2, h3⟩
  · subst h1 h2 h3
    have c1 : ∀ {T : Tc}, cpI (cn n sl U S T σ) (a + 3) 1 (a + 3) 0 19 = some (cn n sl U S (tF T (a + 3) (va_cpy (T.2.1 (a + 3)) (T.2.1 (a + 3)) 1 0 19)) σ) := fun {T} => cnC (x := 1) (y := 0) (z := 19) (h := (hs 3 (show 3 < 6 by decide)).1) (hs := (hs 3 (show 3 < 6 by decide)).2) (ha := (hs 3 (show 3 < 6 by decide)).1) (hsa := (hs 3 (show 3 < 6 by decide)).2) (by decide) (by decide) (by decide) (by decide)
    have c2 : ∀ {T : Tc}, cpI (cn n sl U S T σ) (a + 4) 1 (a + 4) 0 19 = some (cn n sl U S (tF T (a + 4) (va_cpy (T.2.1 (a + 4)) (T.2.1 (a + 4)) 1 0 19)) σ) := fun {T} => cnC (x := 1) (y := 0) (z := 19) (h := (hs 4 (show 4 < 6 by decide)).1) (hs := (hs 4 (show 4 < 6 by decide)).2) (ha := (hs 4 (show 4 < 6 by decide)).1) (hsa := (hs 4 (show 4 < 6 by decide)).2) (by decide) (by decide) (by decide) (by decide)
    have c3 : ∀ {T : Tc}, cpI (cn n sl U S T σ) (a + 5) 1 (a + 5) 0 19 = some (cn n sl U S (tF T (a + 5) (va_cpy (T.2.1 (a + 5)) (T.2.1 (a + 5)) 1 0 19)) σ) := fun {T} => cnC (x := 1) (y := 0) (z := 19) (h := (hs 5 (show 5 < 6 by decide)).1) (hs := (hs 5 (show 5 < 6 by decide)).2) (ha := (hs 5 (show 5 < 6 by decide)).1) (hsa := (hs 5 (show 5 < 6 by decide)).2) (by decide) (by decide) (by decide) (by decide)
    have e19 : ∀ {T : Tc}, (tI T a 9 19).1 a 9 = nI 19 := fun {T} => by rw [tI1, if_pos ⟨rfl, rfl⟩]; rfl
    have w : ∀ (f : Nat → Int32) (k : Nat), k < 19 → va_cpy f f 1 0 19 k = f (k + 1) := fun f k hk => by rw [pk_cpy_in (by omega) (by omega), show 1 + (k - 0) = k + 1 by omega]
    let T1 : Tc := tF T (a + 3) (va_cpy (T.2.1 (a + 3)) (T.2.1 (a + 3)) 1 0 19)
    let T2 : Tc := tF T1 (a + 4) (va_cpy (T1.2.1 (a + 4)) (T1.2.1 (a + 4)) 1 0 19)
    let T3 : Tc := tI (tF T2 (a + 5) (va_cpy (T2.2.1 (a + 5)) (T2.2.1 (a + 5)) 1 0 19)) a 9 19
    refine ⟨tI (tA (tA (tA T3 (a + 3) 19 x) (a + 4) 19 y) (a + 5) 19 (T3.1 a 3)) a 9 (nI 20), ?_, ?_⟩
    · unfold f_X7_remember
      simp only [s0_9 hs, Option.bind_some, hM, s0_10 hs, s0_11 hs, s0_12 hs, s0_9p hs, c1, c2, c3, s0_3 hs]
      rw [if_neg (by decide)]
      simp only [e19, s3_w hs (show 19 < 20 by decide), s4_w hs (show 19 < 20 by decide), s5_w hs (show 19 < 20 by decide), Option.bind_some, s0_9p hs, s0_9 hs, s0_3 hs, s0_10 hs, s0_11 hs, s0_12 hs, tA1, nI_1]
      rfl
    · refine ⟨?_, ?_, ?_, ?_, ?_, ?_, ?_, ?_⟩
      · intro r hr
        have n1 := ne hr (.inl rfl)
        have n2 := ne hr (.inr (.inl rfl))
        have n3 := ne hr (.inr (.inr (.inl rfl)))
        have n4 := ne hr (.inr (.inr (.inr rfl)))
        refine ⟨?_, ?_, rfl, rfl, rfl⟩
        · funext k; simp [T1, T2, T3, tI1, tA1, tF1, n1]
        · funext k; simp [T1, T2, T3, tI2, tA2, tF2, n2, n3, n4]
      · intro k hk; simp [T1, T2, T3, tI1, tA1, tF1, hk]
      · rfl
      · simp [tI1]
      · intro k hk
        have k19 : k ≠ 19 := by omega
        refine ⟨?_, ?_, ?_⟩
        · simp [T1, T2, T3, tI2, tA2, tF2, k19, w _ k hk]
        · simp [T1, T2, T3, tI2, tA2, tF2, k19, w _ k hk]
        · simp [T1, T2, T3, tI2, tA2, tF2, k19, w _ k hk]
      · simp [T1, T2, T3, tI2, tA2, tF2]
      · simp [T1, T2, T3, tI2, tA2, tF2]
      · simp [T1, T2, T3, tI2, tA2, tF2, tI1, tA1, tF1]
  · subst h2 h3
    refine ⟨tI (tA (tA (tA T (a + 3) m x) (a + 4) m y) (a + 5) m (T.1 a 3)) a 9 (nI (m + 1)), ?_, ?_⟩
    · unfold f_X7_remember
      simp only [s0_9 hs, Option.bind_some, hM, s0_10 hs, s0_11 hs, s0_12 hs, s0_3 hs]
      rw [if_pos (show nI m < (20 : Int32) from nI_lt (b := 20) h1 (by decide))]
      simp only [s3_w hs h1, s4_w hs h1, s5_w hs h1, Option.bind_some, s0_9p hs, s0_9 hs, s0_3 hs, s0_10 hs, s0_11 hs, s0_12 hs, tA1, nI_1, hM]
    · refine ⟨?_, ?_, ?_, ?_, ?_, ?_, ?_, ?_⟩
      · intro r hr
        have n1 := ne hr (.inl rfl)
        have n2 := ne hr (.inr (.inl rfl))
        have n3 := ne hr (.inr (.inr (.inl rfl)))
        have n4 := ne hr (.inr (.inr (.inr rfl)))
        refine ⟨?_, ?_, rfl, rfl, rfl⟩
        · funext k; simp [tI1, tA1, tF1, n1]
        · funext k; simp [tI2, tA2, tF2, n2, n3, n4]
      · intro k hk; simp [tI1, tA1, tF1, hk]
      · rfl
      · simp [tI1]
      · intro k hk
        have k19 : k ≠ m := by omega
        refine ⟨?_, ?_, ?_⟩
        · simp [tI2, tA2, tF2, k19]
        · simp [tI2, tA2, tF2, k19]
        · simp [tI2, tA2, tF2, k19]
      · simp [tI2, tA2, tF2]
      · simp [tI2, tA2, tF2]
      · simp [tI2, tA2, tF2, tI1, tA1, tF1]
