/-! The call lean. -/
theorem s_fallR {n nr q s : Nat} {S : Nat → Nat × Nat × Nat} {T : Tc} {σ σ1 : Sg} (hR : REL n S T σ nr) (h1 : Eqm σ σ1) (hq : q < dN (cur σ) 2) (hs : s < 5) : ∃ σ', (∀ ρ τ, f_X12_falls (mem ρ τ σ1) 188 (nI q) (cur σ 191 q) (nI s) = some (nI (flF σ q s).1, mem ρ τ σ')) ∧ Eqm σ σ' ∧ RX σ1 σ' (flF σ q s).2 := by
  have hR1 := hR.scr (agr.refl _ T) h1
  obtain ⟨σ', z1, z2⟩ := s_fallQ hR1 (by rw [h1.cu]; exact hq) hs
  rw [h1.cu, sm_flF h1.sm] at z1
  rw [sm_flF h1.sm] at z2
  exact ⟨σ', z1, h1.trans z2.eqm, z2⟩
def lnS (σ : Sg) (q s : Nat) (x : Int32 × Int32 × Int32) : Int32 × Int32 × Int32 := if x.1 = -1 then (nI s, mkI (flF σ q s).2.2.2.2, (flF σ q s).2.1) else if x.2.1 < mkI (flF σ q s).2.2.2.2 then (nI s, mkI (flF σ q s).2.2.2.2, (flF σ q s).2.1) else if mkI (flF σ q s).2.2.2.2 = x.2.1 then (if x.2.2 ≤ (flF σ q s).2.1 then x else (nI s, mkI (flF σ q s).2.2.2.2, (flF σ q s).2.1)) else x
def leanF (σ : Sg) (q : Nat) : Nat → Nat → Int32 × Int32 × Int32 → Int32
  | 0, _, x => x.1
  | k + 1, s, x => leanF σ q k (s + 1) (lnS σ q s x)
section LEAN
variable {n sl nr q : Nat} {U : Nat → va_E} {S : Nat → Nat × Nat × Nat} {σ : Sg}
theorem c_leanL (hq : q < dN (cur σ) 2) (K : Mm → Int32 → Option (Int32 × Mm)) : ∀ (k s : Nat) (T : Tc) (x : Int32 × Int32 × Int32) (f : Nat), s + k = 5 → k < f → REL n S T σ nr → ∃ T', f_X11_lean_L20 K f (cn n sl U S T σ) 128 (nI q) x.1 x.2.1 x.2.2 (nI s) = K (cn n sl U S T' σ) (leanF σ q k s x) ∧ agr (Ns S) T T' := by
  intro k
  induction k with
  | zero =>
    intro s T x f h1 h2 hR
    obtain ⟨f, rfl⟩ : ∃ k, f = k + 1 := ⟨f - 1, by omega⟩
    obtain rfl : s = 5 := by omega
    refine ⟨T, ?_, agr.refl _ _⟩
    rw [f_X11_lean_L20, if_pos (by decide)]
    rfl
  | succ k ih =>
    intro s T x f h1 h2 hR
    obtain ⟨f, rfl⟩ : ∃ k, f = k + 1 := ⟨f - 1, by omega⟩
    have hD := hR.2.2.2.2.1
    obtain ⟨T1, t1, t2, t3, t4⟩ := c_tryFall (sl := sl) (U := U) (σ1 := σ) hR hq (show s < 5 by omega)
    have hm := c_mark (n := n) (sl := sl) (U := U) (S := S) (σ1 := σ) hD t3
    obtain ⟨T', z1, z2⟩ := ih (s + 1) T1 (lnS σ q s x) f (by omega) (by omega) (hR.scr t2 (Eqm.refl σ))
    refine ⟨T', ?_, t2.trans z2⟩
    rw [f_X11_lean_L20, if_neg (show ¬ (5 : Int32) ≤ nI s from nI_ge (b := 5) (by omega) (by decide)), x128_o, Option.bind_some, t1, Option.bind_some, x128_9, Option.bind_some, x174_o, Option.bind_some, hm, bd_some, nm_q, leanF]
    unfold lnS at z1 ⊢
    by_cases c1 : x.1 = -1
    · rw [if_pos c1] at z1 ⊢
      rw [if_pos c1, nm_q, nm_q, x128_9, Option.bind_some, x174_6, Option.bind_some, nm_q, nm_q, t3.1, oin1, nI_add]
      exact z1
    · rw [if_neg c1] at z1 ⊢
      rw [if_neg c1]
      by_cases c2 : x.2.1 < mkI (flF σ q s).2.2.2.2
      · rw [if_pos c2] at z1 ⊢
        rw [if_pos c2, nm_q, nm_q, x128_9, Option.bind_some, x174_6, Option.bind_some, nm_q, nm_q, t3.1, oin1, nI_add]
        exact z1
      · rw [if_neg c2] at z1 ⊢
        rw [if_neg c2]
        by_cases c3 : mkI (flF σ q s).2.2.2.2 = x.2.1
        · rw [if_pos c3] at z1 ⊢
          rw [if_pos c3, x128_9, Option.bind_some, x174_6, Option.bind_some, t3.1]
          by_cases c4 : x.2.2 ≤ (flF σ q s).2.1
          · rw [if_pos c4] at z1 ⊢
            rw [if_pos c4, nm_q, oin1, nI_add]
            exact z1
          · rw [if_neg c4] at z1 ⊢
            rw [if_neg c4, nm_q, nm_q, Option.bind_some, x174_6, Option.bind_some, nm_q, nm_q, t3.1, oin1, nI_add]
            exact z1
        · rw [if_neg c3] at z1 ⊢
          rw [if_neg c3, nm_q, oin1, nI_add]
          exact z1
theorem s_leanL {T : Tc} (hR : REL n S T σ nr) (hq : q < dN (cur σ) 2) (K : Mm → Int32 → Option (Int32 × Mm)) : ∀ (k s : Nat) (σ1 : Sg) (x : Int32 × Int32 × Int32) (f : Nat), s + k = 5 → k < f → Eqm σ σ1 → ∃ σ', (∀ ρ τ, f_X12_lean_L20 K f (mem ρ τ σ1) 188 (nI q) x.1 x.2.1 x.2.2 (nI s) = K (mem ρ τ σ') (leanF σ q k s x)) ∧ Eqm σ σ' := by
  have bP := hR.2.2.2.2.1.bP
  intro k
  induction k with
  | zero =>
    intro s σ1 x f h1 h2 h3
    obtain ⟨f, rfl⟩ : ∃ k, f = k + 1 := ⟨f - 1, by omega⟩
    obtain rfl : s = 5 := by omega
    refine ⟨σ1, fun ρ τ => ?_, h3⟩
    rw [f_X12_lean_L20, if_pos (by decide)]
    rfl
  | succ k ih =>
    intro s σ1 x f h1 h2 h3
    obtain ⟨f, rfl⟩ : ∃ k, f = k + 1 := ⟨f - 1, by omega⟩
    have q5 : q < 5 := by omega
    obtain ⟨σ2, t1, t2, t3⟩ := s_fallR hR h3 hq (show s < 5 by omega)
    have hm := s_markOf (x := (flF σ q s).2) t3.2.2.2.2.2.1
    obtain ⟨σ', z1, z2⟩ := ih (s + 1) σ2 (lnS σ q s x) f (by omega) (by omega) t2
    refine ⟨σ', fun ρ τ => ?_, z2⟩
    have z1 := z1 ρ τ
    have ea : σ1.2.1 191 q = cur σ 191 q := by rw [h3.2.2.2.2 191 (by unfold PerM; omega), cu_191 q5]
    rw [f_X12_lean_L20, if_neg (show ¬ (4 : Int32) < nI s from nI_nlt (a := 4) (by omega) (by omega)), mR_3, Option.bind_some, y191_r q5, Option.bind_some, ob_mem, Option.bind_some, ea, t1, bd_some, leanF]
    unfold lnS at z1 ⊢
    by_cases c1 : x.1 = -1
    · rw [if_pos c1] at z1 ⊢
      rw [if_pos c1, nm_q, ob_mem, Option.bind_some, hm, bd_some, nm_q, mI_49, Option.bind_some, nm_q, nm_q, t3.2.2.1, oin1, nI_add]
      exact z1
    · rw [if_neg c1] at z1 ⊢
      rw [if_neg c1, ob_mem, Option.bind_some, hm, bd_some]
      by_cases c2 : x.2.1 < mkI (flF σ q s).2.2.2.2
      · rw [if_pos c2] at z1 ⊢
        rw [if_pos c2, nm_q, ob_mem, Option.bind_some, hm, bd_some, nm_q, mI_49, Option.bind_some, nm_q, nm_q, t3.2.2.1, oin1, nI_add]
        exact z1
      · rw [if_neg c2] at z1 ⊢
        rw [if_neg c2, ob_mem, Option.bind_some, hm, bd_some]
        by_cases c3 : mkI (flF σ q s).2.2.2.2 = x.2.1
        · rw [if_pos c3] at z1 ⊢
          rw [if_pos c3, mI_49, Option.bind_some, t3.2.2.1]
          by_cases c4 : x.2.2 ≤ (flF σ q s).2.1
          · rw [if_pos c4] at z1 ⊢
            rw [if_pos c4, nm_q, oin1, nI_add]
            exact z1
          · rw [if_neg c4] at z1 ⊢
            rw [if_neg c4, nm_q, ob_mem, Option.bind_some, hm, bd_some, nm_q, mI_49, Option.bind_some, nm_q, nm_q, t3.2.2.1, oin1, nI_add]
            exact z1
        · rw [if_neg c3] at z1 ⊢
          rw [if_neg c3, nm_q, oin1, nI_add]
          exact z1
end LEAN
theorem op_lean (q : Int32) : OpR (fun μ => f_X11_lean μ 128 q) (fun μ => f_X12_lean μ 188 q) := by
  refine OpR.q fun n sl U S T σ nr hR => ?_
  have hR0 := hR
  obtain ⟨hN, hTP, hRU, hIM, hD, hS⟩ := hR
  have bP := hD.bP
  show ∃ v T' σ', f_X11_lean (cn n sl U S T σ) 128 q = some (v, cn n sl U S T' σ) ∧ agr (Ns S) T T' ∧ (∀ ρ τ, f_X12_lean (mem ρ τ σ) 188 q = some (v, mem ρ τ σ')) ∧ Eqm σ σ'
  unfold f_X11_lean f_X12_lean
  rw [x128_o, Option.bind_some, c_isPerson hS hD, bd_some]
  by_cases hq : isN q (dN (cur σ) 2)
  · obtain ⟨j, hj, rfl⟩ := isN_of (by omega) hq
    obtain ⟨T', a1, a2⟩ := c_leanL (sl := sl) (U := U) hj (fun μ42 x43 => (some (x43, μ42))) 5 0 T (-1, 0, 0) FU rfl (by unfold FU; omega) hR0
    obtain ⟨σ', b1, b2⟩ := s_leanL hR0 hj (fun μ47 x48 => (some (x48, μ47))) 5 0 σ (-1, 0, 0) FU rfl (by unfold FU; omega) (Eqm.refl σ)
    rw [show nI 0 = (0 : Int32) from rfl] at a1
    refine ⟨leanF σ j 5 0 (-1, 0, 0), T', σ', ?_, a2, fun ρ τ => ?_, b2⟩
    · rw [if_pos hq, if_neg (by decide), nm_q, nm_q, nm_q, nm_q]
      exact a1
    · have b1 := b1 ρ τ
      rw [show nI 0 = (0 : Int32) from rfl] at b1
      rw [ob_mem, Option.bind_some, s_isPerson hD, bd_some, if_pos hq, if_neg (by decide), nm_q, nm_q, nm_q, nm_q]
      exact b1
  · refine ⟨-1, T, σ, ?_, agr.refl _ _, fun ρ τ => ?_, Eqm.refl _⟩
    · rw [if_neg hq, if_pos rfl]
    · rw [ob_mem, Option.bind_some, s_isPerson hD, bd_some, if_neg hq, if_pos rfl]
