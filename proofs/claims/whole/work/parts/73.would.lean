/-! Calls that fall: would, fall. -/
theorem op_would (q s w : Int32) : OpR (fun μ => f_X11_would μ 128 q s w) (fun μ => f_X12_would μ 188 q s w) := by
  refine OpR.q fun n sl U S T σ nr hR => ?_
  have hR0 := hR
  obtain ⟨hN, hTP, hRU, hIM, hD, hS⟩ := hR
  have bP := hD.bP
  show ∃ v T' σ', f_X11_would (cn n sl U S T σ) 128 q s w = some (v, cn n sl U S T' σ) ∧ agr (Ns S) T T' ∧ (∀ ρ τ, f_X12_would (mem ρ τ σ) 188 q s w = some (v, mem ρ τ σ')) ∧ Eqm σ σ'
  unfold f_X11_would f_X12_would
  rw [x128_o, Option.bind_some, c_isPerson hS hD, bd_some]
  by_cases hq : isN q (dN (cur σ) 2)
  · rw [if_pos hq, if_neg (by decide), c_isLean, bd_some]
    by_cases hs : isN s 5
    · obtain ⟨j, hj, rfl⟩ := isN_of (by omega) hq
      obtain ⟨k, hk, rfl⟩ := isN_of (by decide) hs
      obtain ⟨T', t1, t2, t3, t4⟩ := c_tryFall (sl := sl) (U := U) (σ1 := σ) hR0 hj hk
      obtain ⟨σ', u1, u2⟩ := s_fallQ hR0 hj hk
      have hm := c_mark (n := n) (sl := sl) (U := U) (S := S) (σ1 := σ) hD t3
      have ref0 : ∀ ρ τ (G : Int32 → Mm → Option (Int32 × Mm)), ((ob (mem ρ τ σ) 188 12).bind fun _ => (bd (f_X12_isPerson (mem ρ τ σ) 188 (nI j)) fun v6 μ5 => (if v6 = 0 then (some ((-1 : Int32), μ5)) else (bd (f_X12_in μ5 (nI k).toInt64 (0 : Int64) (4 : Int64)) fun v8 μ7 => (if v8 = 0 then (some ((-1 : Int32), μ7)) else G 0 μ7))))) = G 0 (mem ρ τ σ) := by
        intro ρ τ G
        rw [ob_mem, Option.bind_some, s_isPerson hD, bd_some, if_pos hq, if_neg (by decide), s_in, bd_some, if_pos (in04.2 hs), if_neg (by decide)]
      rw [if_pos hs, if_neg (by decide), x128_o, Option.bind_some, t1, Option.bind_some]
      by_cases hw : isN w 5
      · have ref : ∀ ρ τ (G : Int32 → Mm → Option (Int32 × Mm)), ((ob (mem ρ τ σ) 188 12).bind fun _ => (bd (f_X12_isPerson (mem ρ τ σ) 188 (nI j)) fun v6 μ5 => (if v6 = 0 then (some ((-1 : Int32), μ5)) else (bd (f_X12_in μ5 (nI k).toInt64 (0 : Int64) (4 : Int64)) fun v8 μ7 => (if v8 = 0 then (some ((-1 : Int32), μ7)) else (bd (f_X12_in μ7 w.toInt64 (0 : Int64) (4 : Int64)) fun v10 μ9 => (if v10 = 0 then (some ((-1 : Int32), μ9)) else ((gR μ9 188 12 3).bind fun v11 => ((aI μ9 v11 0 (nI j)).bind fun v12 => ((ob μ9 188 12).bind fun _ => (bd (f_X12_falls μ9 188 (nI j) v12 (nI k)) fun v14 μ13 => G v14 μ13)))))))))))  = G (nI (flF σ j k).1) (mem ρ τ σ') := by
          intro ρ τ G
          rw [ref0 ρ τ (fun _ μ7 => (bd (f_X12_in μ7 w.toInt64 (0 : Int64) (4 : Int64)) fun v10 μ9 => (if v10 = 0 then (some ((-1 : Int32), μ9)) else ((gR μ9 188 12 3).bind fun v11 => ((aI μ9 v11 0 (nI j)).bind fun v12 => ((ob μ9 188 12).bind fun _ => (bd (f_X12_falls μ9 188 (nI j) v12 (nI k)) fun v14 μ13 => G v14 μ13)))))))]
          rw [s_in, bd_some, if_pos (in04.2 hw), if_neg (by decide), mR_3, Option.bind_some, y191_r (show j < 5 by omega), Option.bind_some, ob_mem, Option.bind_some, ← cu_191 (show j < 5 by omega), u1, bd_some]
        obtain ⟨m, hm5, rfl⟩ := isN_of (by decide) hw
        obtain ⟨x1, x2, x3, x4⟩ := t3
        obtain ⟨y1, y2, y3, y4, y5, y6, y7⟩ := u2
        have e0 : ∀ j, j < 5 → ∀ k, k < 5 → (nI j = nI k ↔ j = k) := by decide
        rcases (show m = 0 ∨ m = 1 ∨ m = 2 ∨ m = 3 ∨ m = 4 by omega) with rfl | rfl | rfl | rfl | rfl
        · refine ⟨mkI (flF σ j k).2.2.2.2, T', σ', ?_, t2, fun ρ τ => ?_, RX.eqm ⟨y1, y2, y3, y4, y5, y6, y7⟩⟩
          · rw [if_pos (show nI 0 = (0 : Int32) from rfl), x128_9, Option.bind_some, x174_o, Option.bind_some, hm, bd_some]
          · refine (ref ρ τ _).trans ?_
            rw [nm_q, if_pos (show nI 0 = (0 : Int32) from rfl), ob_mem, Option.bind_some, s_markOf y6, bd_some]
        · refine ⟨(flF σ j k).2.1, T', σ', ?_, t2, fun ρ τ => ?_, RX.eqm ⟨y1, y2, y3, y4, y5, y6, y7⟩⟩
          · rw [if_neg (show ¬ nI 1 = (0 : Int32) by decide), if_pos (show nI 1 = (1 : Int32) from rfl), x128_9, Option.bind_some, x174_6, Option.bind_some, x1]
          · refine (ref ρ τ _).trans ?_
            rw [nm_q, if_neg (show ¬ nI 1 = (0 : Int32) by decide), if_pos (show nI 1 = (1 : Int32) from rfl), mI_49, Option.bind_some, y3]
        · refine ⟨(flF σ j k).2.2.2.1, T', σ', ?_, t2, fun ρ τ => ?_, RX.eqm ⟨y1, y2, y3, y4, y5, y6, y7⟩⟩
          · rw [if_neg (show ¬ nI 2 = (0 : Int32) by decide), if_neg (show ¬ nI 2 = (1 : Int32) by decide), if_pos (show nI 2 = (2 : Int32) from rfl), x128_9, Option.bind_some, x174_8, Option.bind_some, x3]
          · refine (ref ρ τ _).trans ?_
            rw [nm_q, if_neg (show ¬ nI 2 = (0 : Int32) by decide), if_neg (show ¬ nI 2 = (1 : Int32) by decide), if_pos (show nI 2 = (2 : Int32) from rfl), mI_51, Option.bind_some, y5]
        · refine ⟨nI (flF σ j k).1, T', σ', ?_, t2, fun ρ τ => ?_, RX.eqm ⟨y1, y2, y3, y4, y5, y6, y7⟩⟩
          · rw [if_neg (show ¬ nI 3 = (0 : Int32) by decide), if_neg (show ¬ nI 3 = (1 : Int32) by decide), if_neg (show ¬ nI 3 = (2 : Int32) by decide), if_pos (show nI 3 = (3 : Int32) from rfl), x128_9, Option.bind_some, x174_5, Option.bind_some, t4]
          · refine (ref ρ τ _).trans ?_
            rw [nm_q, if_neg (show ¬ nI 3 = (0 : Int32) by decide), if_neg (show ¬ nI 3 = (1 : Int32) by decide), if_neg (show ¬ nI 3 = (2 : Int32) by decide), if_pos (show nI 3 = (3 : Int32) from rfl)]
        · refine ⟨nI (flF σ j k).2.2.1, T', σ', ?_, t2, fun ρ τ => ?_, RX.eqm ⟨y1, y2, y3, y4, y5, y6, y7⟩⟩
          · rw [if_neg (show ¬ nI 4 = (0 : Int32) by decide), if_neg (show ¬ nI 4 = (1 : Int32) by decide), if_neg (show ¬ nI 4 = (2 : Int32) by decide), if_neg (show ¬ nI 4 = (3 : Int32) by decide), if_pos (show nI 4 = (4 : Int32) from rfl), x128_9, Option.bind_some, x174_7, Option.bind_some, x2]
          · refine (ref ρ τ _).trans ?_
            rw [nm_q, if_neg (show ¬ nI 4 = (0 : Int32) by decide), if_neg (show ¬ nI 4 = (1 : Int32) by decide), if_neg (show ¬ nI 4 = (2 : Int32) by decide), if_neg (show ¬ nI 4 = (3 : Int32) by decide), mI_50, Option.bind_some, y4]
      · refine ⟨-1, T', σ, ?_, t2, fun ρ τ => ?_, Eqm.refl _⟩
        · rw [if_neg (fun h => hw (by rw [h]; exact ⟨by decide, by decide⟩)), if_neg (fun h => hw (by rw [h]; exact ⟨by decide, by decide⟩)), if_neg (fun h => hw (by rw [h]; exact ⟨by decide, by decide⟩)), if_neg (fun h => hw (by rw [h]; exact ⟨by decide, by decide⟩)), if_neg (fun h => hw (by rw [h]; exact ⟨by decide, by decide⟩))]
        · rw [ob_mem, Option.bind_some, s_isPerson hD, bd_some, if_pos hq, if_neg (by decide), s_in, bd_some, if_pos (in04.2 hs), if_neg (by decide), s_in, bd_some, if_neg (fun h => hw (in04.1 h)), if_pos rfl]
    · refine ⟨-1, T, σ, ?_, agr.refl _ _, fun ρ τ => ?_, Eqm.refl _⟩
      · rw [if_neg hs, if_pos rfl]
      · rw [ob_mem, Option.bind_some, s_isPerson hD, bd_some, if_pos hq, if_neg (by decide), s_in, bd_some, if_neg (fun h => hs (in04.1 h)), if_pos rfl]
  · refine ⟨-1, T, σ, ?_, agr.refl _ _, fun ρ τ => ?_, Eqm.refl _⟩
    · rw [if_neg hq, if_pos rfl]
    · rw [ob_mem, Option.bind_some, s_isPerson hD, bd_some, if_neg hq, if_pos rfl]
