/-! Calls that change the school or the tape: undo, clue, end, feed. -/
theorem op_undo : OpR (fun μ => f_X11_undo μ 128) (fun μ => f_X12_undo μ 188) := by
  refine OpR.s fun n sl U S T σ nr hR => ?_
  have hR' := hR
  obtain ⟨hN, hTP, hRU, hIM, hD, hS⟩ := hR
  have hsv := hS.sv
  have hv := hS.la.gv
  have bM := hD.bM
  have bP := hD.bP
  have bT := hD.bT
  have e55 : σ.1 55 = nI (dM (cur σ)) := hD.sM
  have e9 : T.1 161 9 = nI (dM (cur σ)) := hS.ac.trans hD.sM
  unfold f_X11_undo f_X12_undo f_X7_takeBack
  simp only [x128_6, Option.bind_some, s0_9 hsv, s0_o hsv, e9, mI_55, e55]
  by_cases h0 : dM (cur σ) = 0
  · rw [h0]
    simp only [if_neg (show ¬ (1 : Int32) ≤ nI 0 by decide), if_pos (show nI 0 = (0 : Int32) from rfl)]
    exact ⟨-2, T, σ, rfl, fun _ _ => rfl, hR'⟩
  · obtain ⟨m, hm⟩ : ∃ m, dM (cur σ) = m + 1 := ⟨dM (cur σ) - 1, by omega⟩
    obtain ⟨σ1, k1, k2, k3, k4, k5, k6, k7⟩ := s_movesAllB (σ := stI σ 55 (nI m)) (m := m) (by omega)
    have hle : (1 : Int32) ≤ nI (m + 1) := nI_le (a := 1) (by omega) (by omega)
    have hne : ¬ nI (m + 1) = (0 : Int32) := nI_ne0 (by omega) (by omega)
    have k55 : σ1.1 55 = nI m := (k2 55 (by decide) (by decide)).trans (by rw [stI1, if_pos rfl])
    have kk : ∀ k, k ≠ 55 → k ≠ 56 → k ≠ 57 → σ1.1 k = σ.1 k := fun k h1 h2 h3 => (k2 k h2 h3).trans (by rw [stI1, if_neg h1])
    have q3 : ∀ r, r ≠ 189 → r ≠ 191 → r ≠ 193 → σ1.2.1 r = σ.2.1 r := k3
    have q4 : ∀ k, k ≠ 7 → σ1.2.1 189 k = σ.2.1 189 k := k4
    have rB : rwB (cur σ) m = σ.2.1 226 (14 * m) := by unfold rwB; rw [if_pos (by omega), cu_226 (by omega)]
    have rA : ∀ q, q < 5 → rwA (cur σ) m q = σ.2.1 226 (14 * m + 1 + q) := fun q hq => by unfold rwA; rw [if_pos (by omega), cu_226 (by omega)]
    have rT : ∀ t, t < 8 → rwT (cur σ) m t = σ.2.1 226 (14 * m + 6 + t) := fun q hq => by unfold rwT; rw [if_pos (by omega), cu_226 (by omega)]
    have q5 : σ1.2.1 189 7 = rwB (cur σ) m := by rw [rB]; exact k5
    have q6 : ∀ q, q < 5 → σ1.2.1 191 q = rwA (cur σ) m q := fun q hq => by rw [rA q hq]; exact k6 q hq
    have q7 : ∀ t, t < 8 → σ1.2.1 193 t = rwT (cur σ) m t := fun q hq => by rw [rT q hq]; exact k7 q hq
    have c189 : ∀ k, k ≠ 7 → cur σ1 189 k = cur σ 189 k := by
      intro k hk
      unfold cur
      by_cases hl : k < dlen 189
      · rw [if_pos hl, if_pos hl, if_neg (by decide), if_neg (by decide), q4 k hk]
      · rw [if_neg hl, if_neg hl]
    have c7 : cur σ1 189 7 = rwB (cur σ) m := q5
    have cr : ∀ r, r ≠ 0 → r ≠ 189 → r ≠ 191 → r ≠ 193 → cur σ1 r = cur σ r := by
      intro r h0 h1 h2 h3
      funext i
      unfold cur
      rw [if_neg h0, if_neg h0, q3 r h1 h2 h3]
    have c0 : cur σ1 0 0 = nI m := k55
    have nM : dM (cur σ1) = m := by unfold dM; rw [c0, nI_clamp (by omega)]
    have nk : ∀ k, k ≠ 7 → dN (cur σ1) k = dN (cur σ) k := fun k hk => by unfold dN; rw [c189 k hk]
    have g : gsame (cur σ) (cur σ1) := ⟨fun k hk => c189 k (by omega), fun r hr => cr r (by omega) (by omega) (by omega) (by omega)⟩
    have wB : ∀ k, k ≤ m → rwB (cur σ1) k = rwB (cur σ) k := by
      intro k hk
      by_cases e : k < m
      · unfold rwB; rw [nM, if_pos e, if_pos (by omega), cr 226 (by decide) (by decide) (by decide) (by decide)]
      · have : k = m := by omega
        subst this
        rw [← c7]; unfold rwB; rw [nM, if_neg (by omega)]
    have wA : ∀ k, k ≤ m → ∀ q, q < 5 → rwA (cur σ1) k q = rwA (cur σ) k q := by
      intro k hk q hq
      by_cases e : k < m
      · unfold rwA; rw [nM, if_pos e, if_pos (by omega), cr 226 (by decide) (by decide) (by decide) (by decide)]
      · have : k = m := by omega
        subst this
        rw [← q6 q hq]; unfold rwA; rw [nM, if_neg (by omega), cu_191 hq]
    have wT : ∀ k, k ≤ m → ∀ q, q < 8 → rwT (cur σ1) k q = rwT (cur σ) k q := by
      intro k hk q hq
      by_cases e : k < m
      · unfold rwT; rw [nM, if_pos e, if_pos (by omega), cr 226 (by decide) (by decide) (by decide) (by decide)]
      · have : k = m := by omega
        subst this
        rw [← q7 q hq]; unfold rwT; rw [nM, if_neg (by omega), cu_193 hq]
    have cm : ∀ b k, cmK (cur σ1) b k = cmK (cur σ) b k := by
      intro b k
      induction k with
      | zero => rfl
      | succ k ih => rw [cmK, cmK, ih, cr 201 (by decide) (by decide) (by decide) (by decide), cr 202 (by decide) (by decide) (by decide) (by decide)]
    have enc : nc (cur σ1) = nc (cur σ) := by unfold nc; rw [nk 0 (by decide), nk 1 (by decide)]
    have eB : cur σ1 189 7 = nI (dN (cur σ1) 7) ∧ dN (cur σ1) 7 < 256 := by
      have : isB (cur σ1 189 7) 256 := by rw [c7]; exact hD.br m (by omega)
      exact this.cl (by decide)
    have hD' : DG nr (cur σ1) := by
      unfold DG
      rw [enc, nM, nk 0 (by decide), nk 1 (by decide), nk 2 (by decide), nk 3 (by decide), nk 4 (by decide), nk 5 (by decide), nk 6 (by decide), nk 8 (by decide), g.hh, c189 0 (by decide), c189 1 (by decide), c189 2 (by decide), c189 3 (by decide), c189 4 (by decide), c189 5 (by decide), c189 6 (by decide), c189 8 (by decide), c189 9 (by decide), c189 10 (by decide), cr 190 (by decide) (by decide) (by decide) (by decide), cr 196 (by decide) (by decide) (by decide) (by decide), cr 197 (by decide) (by decide) (by decide) (by decide), cr 198 (by decide) (by decide) (by decide) (by decide), cr 199 (by decide) (by decide) (by decide) (by decide), cr 200 (by decide) (by decide) (by decide) (by decide), cr 201 (by decide) (by decide) (by decide) (by decide), cr 202 (by decide) (by decide) (by decide) (by decide)]
      refine ⟨hD.sC, hD.bC, hD.sR, hD.bR, hD.sP, hD.bP, hD.sT, hD.bT, hD.sN, hD.bN, hD.sL, hD.bL, hD.sA, hD.bA, eB.1, eB.2, hD.sK, hD.bK, c0, by omega, hD.gr, hD.hh, hD.h9, ?_, ?_, ?_, hD.wo, hD.ne, hD.nd, hD.ho, hD.al, hD.as_, hD.ct, hD.cb, hD.dx, hD.fo⟩
      · intro k hk q hq; rw [wA k hk q (by omega)]; exact hD.at_ k (by omega) q hq
      · intro k hk q hq; rw [wT k hk q (by omega)]; exact hD.th k (by omega) q hq
      · intro k hk; rw [wB k hk]; exact hD.br k (by omega)
    have hact := hS.hm m (by omega)
    have hbr := hS.hb m (by omega)
    have hES : Eqs σ σ1 := ⟨kk 28 (by decide) (by decide) (by decide), kk 32 (by decide) (by decide) (by decide), kk 37 (by decide) (by decide) (by decide), fun r hr => q3 r (by omega) (by omega) (by omega)⟩
    have cA : ∀ q, rwA (cur σ) (m + 1) q = cur σ 191 q := fun q => by unfold rwA; rw [if_neg (by omega)]
    have cT : ∀ q, rwT (cur σ) (m + 1) q = cur σ 193 q := fun q => by unfold rwT; rw [if_neg (by omega)]
    have hsr : ∀ T' : Tc, agr (Nm S) T T' → T'.2.2.2.1 161 0 = T.2.2.2.1 161 0 → (∀ k, k = 1 ∨ k = 2 ∨ k = 6 ∨ k = 7 ∨ k = 8 → T'.1 161 k = T.1 161 k) → T'.1 161 3 = rwB (cur σ) m → T'.1 161 9 = nI m → (∀ p, p < dN (cur σ) 2 → T'.2.1 (161 + 1) p = rwA (cur σ) m p) → (∀ p, p < dN (cur σ) 3 → T'.2.1 (161 + 2) p = rwT (cur σ) m p) → T'.2.1 (161 + 3) = T.2.1 (161 + 3) → T'.2.1 (161 + 4) = T.2.1 (161 + 4) → T'.2.1 (161 + 5) = T.2.1 (161 + 5) → REL n S T' σ1 nr := by
      intro T' a1 a2 a3 a4 a5 a6 a7 a8 a9 a10
      have gl := hv.loc
      refine hR'.sch a1 hES hD' ?_
      unfold SR actR
      rw [a2, nM, nk 2 (by decide), nk 3 (by decide), nk 8 (by decide), cm, cm, c189 8 (by decide), c189 9 (by decide), c189 10 (by decide), c0, c7, a8, a9, a10]
      refine ⟨hsv, (hS.la.ext hv a1 (fun j hj => ⟨hv.ns j hj, by omega⟩)).D g, ?_, ?_, a4, ?_, ?_, ?_, ?_, ?_, a5, ?_, ?_⟩
      · rw [a3 1 (by omega)]; exact hS.fo
      · rw [a3 2 (by omega)]; exact hS.xx
      · intro p hp; rw [a6 p hp, cu_191 (by omega), q6 p (by omega)]
      · intro p hp; rw [a7 p hp, cu_193 (by omega), q7 p (by omega)]
      · rw [a3 6 (by omega)]; exact hS.ck
      · rw [a3 7 (by omega)]; exact hS.cb
      · rw [a3 8 (by omega)]; exact hS.cw
      · intro k hk; rw [wB k (by omega)]; exact hS.hb k (by omega)
      · intro k hk
        rcases hS.hm k (by omega) with ⟨q, b1, b2, b3, b4⟩ | ⟨q, b1, b2, b3, b4⟩
        · refine .inl ⟨q, b1, b2, fun p hp => ?_, fun t ht => ?_⟩
          · rw [wA k (by omega) p (by omega), wA (k + 1) (by omega) p (by omega), b3 p hp]
          · rw [wT k (by omega) t (by omega), wT (k + 1) (by omega) t (by omega), b4 t ht]
        · refine .inr ⟨q, b1, b2, fun p hp => ?_, fun t ht => ?_⟩
          · rw [wT k (by omega) p (by omega), wT (k + 1) (by omega) p (by omega), b3 p hp]
          · rw [wA k (by omega) t (by omega), wA (k + 1) (by omega) t (by omega), b4 t ht]
    have href : ∀ ρ τ, f_X12_movesAll (mem ρ τ (stI σ 55 (nI m))) 188 (nI m) 1 = some (mem ρ τ σ1) := k1
    rw [hm]
    have m20 : m < 20 := by omega
    rcases hact with ⟨q, b1, b2, b3, b4⟩ | ⟨t, b1, b2, b3, b4⟩
    · have q5' : q < 5 := by omega
      refine ⟨nI m, tI (tA (tI T 161 9 (nI m)) (161 + 1) q (T.2.1 (161 + 4) m)) 161 3 (T.2.1 (161 + 5) m), σ1, ?_, fun ρ τ => ?_, ?_⟩
      · simp only [if_pos hle, s0_9 hsv, s0_9p hsv, Option.bind_some, nI_pred, s0_10 hsv, s0_11 hsv, s0_12 hsv, s0_4 hsv, nm, tI1, tI2, tA1, tA3, and_self, ↓reduceIte, s3_r hsv m20, s4_r hsv m20, s5_r hsv m20, b2, if_neg (show ¬ (5 : Int32) ≤ nI q from nI_ge (b := 5) q5' (by decide)), s1_w hsv q5', s0_3p hsv, x128_6, tA2]
        simp [e9, hm, nI_pred]
      · simp only [if_neg hne, mP_55, Option.bind_some, mI_55, nI_pred, ob_mem, stI1, ↓reduceIte, href, k55]
      · refine hsr _ ?_ rfl ?_ ?_ ?_ ?_ ?_ ?_ ?_ ?_
        · refine ((agr_tI _ _ ?_).trans (agr_tA _ _ ?_)).trans (agr_tI _ _ ?_) <;> (intro h; exact h.2 (by omega))
        · intro k hk; simp [tI1, tA1, show k ≠ 3 by omega, show k ≠ 9 by omega]
        · rw [tI1, if_pos ⟨rfl, rfl⟩, hbr]
        · simp [tI1, tA1]
        · intro p hp
          rw [b3 p hp, cA, tI2, tA2]
          by_cases e : p = q
          · rw [if_pos ⟨rfl, e⟩, if_pos e]
          · rw [if_neg (fun h => e h.2), if_neg e]; exact hS.pc p hp
        · intro p hp
          rw [b4 p hp, cT, tI2, tA2, if_neg (by omega)]; exact hS.tc p hp
        · funext i; rw [tI2, tA2, if_neg (by omega)]; rfl
        · funext i; rw [tI2, tA2, if_neg (by omega)]; rfl
        · funext i; rw [tI2, tA2, if_neg (by omega)]; rfl
    · have t8 : t < 8 := by omega
      refine ⟨nI m, tI (tA (tI T 161 9 (nI m)) (161 + 2) t (T.2.1 (161 + 4) m)) 161 3 (T.2.1 (161 + 5) m), σ1, ?_, fun ρ τ => ?_, ?_⟩
      · have e5 : nI (5 + t) - (5 : Int32) = nI t := (pk_sub (b := 5) (by omega)).trans (by rw [Nat.add_sub_cancel_left])
        simp only [if_pos hle, s0_9 hsv, s0_9p hsv, Option.bind_some, nI_pred, s0_10 hsv, s0_11 hsv, s0_12 hsv, s0_5 hsv, nm, tI1, tI2, tA1, tA3, and_self, ↓reduceIte, s3_r hsv m20, s4_r hsv m20, s5_r hsv m20, b2, if_pos (show (5 : Int32) ≤ nI (5 + t) from nI_le (a := 5) (by omega) (by omega)), e5, s2_w hsv t8, s0_3p hsv, x128_6, tA2]
        simp [e9, hm, nI_pred]
      · simp only [if_neg hne, mP_55, Option.bind_some, mI_55, nI_pred, ob_mem, stI1, ↓reduceIte, href, k55]
      · refine hsr _ ?_ rfl ?_ ?_ ?_ ?_ ?_ ?_ ?_ ?_
        · refine ((agr_tI _ _ ?_).trans (agr_tA _ _ ?_)).trans (agr_tI _ _ ?_) <;> (intro h; exact h.2 (by omega))
        · intro k hk; simp [tI1, tA1, show k ≠ 3 by omega, show k ≠ 9 by omega]
        · rw [tI1, if_pos ⟨rfl, rfl⟩, hbr]
        · simp [tI1, tA1]
        · intro p hp
          rw [b4 p hp, cA, tI2, tA2, if_neg (by omega)]; exact hS.pc p hp
        · intro p hp
          rw [b3 p hp, cT, tI2, tA2]
          by_cases e : p = t
          · rw [if_pos ⟨rfl, e⟩, if_pos e]
          · rw [if_neg (fun h => e h.2), if_neg e]; exact hS.tc p hp
        · funext i; rw [tI2, tA2, if_neg (by omega)]; rfl
        · funext i; rw [tI2, tA2, if_neg (by omega)]; rfl
        · funext i; rw [tI2, tA2, if_neg (by omega)]; rfl
