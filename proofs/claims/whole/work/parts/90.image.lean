/-! The call image. -/
theorem tO_o (T : Tc) (r i : Nat) (v : Option Nat) (j : Nat) : (tO T r i v).2.2.2.2 r j = if j = i then v else T.2.2.2.2 r j := by
  show va_up T.2.2.2.2 r (va_up (T.2.2.2.2 r) i v) r j = _
  rw [va_up_self]
  by_cases h : j = i
  · subst h; rw [va_up_self, if_pos rfl]
  · rw [va_up_ne _ _ h, if_neg h]
theorem s_image {nr k : Nat} {σ : Sg} (hD : DG nr (cur σ)) (hk : k < 4) : ∃ σ', (∀ ρ τ, f_X12_image (mem ρ τ σ) 188 (nI k) = some (nI (ct8 (cur σ 189 7)), mem ρ τ σ')) ∧ (∀ i, i = 28 ∨ i = 32 ∨ i = 37 ∨ i = 55 → σ'.1 i = σ.1 i) ∧ (∀ r, PerM r → r ≠ 240 → r ≠ 241 → σ'.2.1 r = σ.2.1 r) ∧ σ'.2.1 241 k = nI 1 ∧ (∀ j, j ≠ k → σ'.2.1 241 j = σ.2.1 241 j) ∧ (∀ j, j ≠ k → img σ' j = img σ j) ∧ img σ' k = cur σ := by
  obtain ⟨σ', s1, s2⟩ := s_carryF (σ := stA σ 241 k 1) (k := k) (by omega)
  have cu0 : cur (stA σ 241 k 1) = cur σ := by
    funext r i
    unfold cur
    by_cases hi : i < dlen r
    · rw [if_pos hi, if_pos hi, stA1]
      by_cases h0 : r = 0
      · rw [if_pos h0, if_pos h0]
      · rw [if_neg h0, if_neg h0, stA2, if_neg]
        rintro ⟨e, _⟩
        subst e
        have hi : i < 0 := hi
        omega
    · rw [if_neg hi, if_neg hi]
  have cu : cur σ' = cur σ := s2.cu.trans cu0
  have im0 : ∀ j, img (stA σ 241 k 1) j = img σ j := by
    intro j
    funext r i
    unfold img
    rw [stA2, if_neg (show ¬ (240 = 241 ∧ 460 * j + dof r + i = k) by omega)]
  have hx : isN (nI k) 4 := (isN_iff (by decide)).2 ⟨k, hk, rfl⟩
  refine ⟨σ', fun ρ τ => ?_, fun i hi => ?_, fun r hr a b => ?_, ?_, fun j hj => ?_, fun j hj => ?_, ?_⟩
  · unfold f_X12_image
    have hD' : DG nr (cur σ') := by rw [cu]; exact hD
    rw [s_in, bd_some, if_pos (in03.2 hx), if_neg (by decide), mR_74, Option.bind_some, y241_w hk, Option.bind_some, show narT 2 1 = 1 from rfl, ob_mem, Option.bind_some, s1, Option.bind_some, mR_1, Option.bind_some, sc_7, Option.bind_some, cs_7, s_bits _ hD'.b8, bd_some, cu]
  · rw [s2.2.2.1 i (by omega) (by omega)]; rfl
  · rw [s2.2.2.2.2.1 r a (by unfold PerM at hr; omega)]
    funext i
    rw [stA2, if_neg (fun h => b h.1)]
  · rw [s2.2.2.2.2.1 241 (by decide) (by decide), stA2, if_pos ⟨rfl, rfl⟩]; rfl
  · rw [s2.2.2.2.2.1 241 (by decide) (by decide), stA2, if_neg (fun h => hj h.2)]
  · rw [s2.im2 hj, im0]
  · rw [s2.im, cu0]
theorem op_image (x : Int32) : OpR (fun μ => f_X11_image μ 128 x) (fun μ => f_X12_image μ 188 x) := by
  intro n sl U S T σ nr hR
  have hR' := hR
  obtain ⟨hN, hTP, hRU, hIM, hD, hS⟩ := hR
  by_cases hx : isN x 4
  · obtain ⟨k, hk, rfl⟩ := isN_of (by decide) hx
    obtain ⟨σ', s0, s1, s2, s3, s4, s5, s6⟩ := s_image hD hk
    have h4 : nI k < (4 : Int32) := hx.2
    rcases hIM k hk with ⟨e1, e2⟩ | ⟨e1, a, e2, e3, e4, e5⟩
    · obtain ⟨U1, S1, a1, U2, S2, T2, a2, a3, a4, a5, a6⟩ := c_newSchool (n := n) (sl := sl) (g := T.2.2.2.1 161 0) (U := U) (S := S) (T := T) (σ := σ)
      have R2 : REL (n + 6) S2 T2 σ nr := hR'.grow (by omega) a4 a5
      have S161 := R2.2.2.2.2.2
      have va : Vd (n + 6) (242 + n) := (a3 0 (show 0 < 6 by decide)).1
      have sa : ovS S2 (242 + n) = (0, 7, 0) := (a3 0 (show 0 < 6 by decide)).2
      have ag3 : agr (fun r => r ≠ 173) T2 (tO T2 173 k (some (242 + n))) := agr_tO _ _ (fun h => h rfl)
      have S3 : SR (n + 6) S2 (tO T2 173 k (some (242 + n))) 161 (cur σ) := S161.ext S161.sv S161.la.gv ag3 (fun j hj => by show 161 + j ≠ 173; omega) (fun j hj => by have := S161.la.gv.loc; show _ ≠ 173; omega)
      obtain ⟨T4, c1, c2⟩ := c_copyFrom (n := n + 6) (sl := sl + 13 + 5 + 8 + 20 + 20 + 20) (U := U2) (T := tO T2 173 k (some (242 + n))) (σ1 := σ) a3 S3.sv (show 242 + n ≠ 161 by omega)
      have S4 : SR (n + 6) S2 T4 (242 + n) (cur σ) := c2.sr a3 S3 hD
      have S5 : SR (n + 6) S2 T4 161 (cur σ) := by
        refine S3.ext S3.sv S3.la.gv c2.1 (fun j hj => .inl (by omega)) (fun j hj => ?_)
        exact ob_of fun i hi => a3.gv S3.la.gv hi hj
      have e73 : T4.2.2.2.2 173 = (tO T2 173 k (some (242 + n))).2.2.2.2 173 := (c2.1 173 (.inl (by omega))).2.2.2.2
      have t173 : T2.2.2.2.2 173 = T.2.2.2.2 173 := (a5 173 (by omega)).2.2.2.2
      refine ⟨nI (ct8 (cur σ 189 7)), n + 6, sl + 13 + 5 + 8 + 20 + 20 + 20, U2, S2, T4, σ', nr, ?_, s0 _ _, ?_, by omega, by omega⟩
      · show f_X11_image (cn n sl U S T σ) 128 (nI k) = _
        unfold f_X11_image
        rw [if_neg (in03'.1 hx).1, if_pos h4, x128_8, Option.bind_some, x173_r hk, Option.bind_some, if_pos e2, Option.bind_some, a1, bd_some, x128_6, Option.bind_some, s0_0 sv_161, Option.bind_some, a2, Option.bind_some]
        show (sR (cn (n + 6) (sl + 13 + 5 + 8 + 20 + 20 + 20) U2 S2 T2 σ) 173 5 (nI k) 7 (242 + n)).bind _ = _
        rw [x173_w hk va sa, Option.bind_some, x128_8, Option.bind_some, x173_r hk, Option.bind_some, tO_o, if_pos rfl, Option.bind_some, x128_6, Option.bind_some, s0_o a3, Option.bind_some, c1, Option.bind_some, x128_6, Option.bind_some, s0_3 sv_161, Option.bind_some, S5.br, bc8 _ hD.b8, bd_some]
      · refine R2.im hk (by omega) a3 (T' := T4) ?_ ?_ ?_ ?_ s1 s2 s3 s4 s5 (by rw [s6]; exact S4) (by rw [s6]; exact hD)
        · exact (ag3.mono fun r hr => hr.2).trans (c2.1.mono fun r hr => hr.1)
        · intro j hj
          rw [e73, tO_o, if_neg hj]
        · rw [e73, tO_o, if_pos rfl]
        · intro j hj hjk e
          rw [t173] at e
          rcases hIM j hj with ⟨d1, d2⟩ | ⟨d1, b, d2, d3, d4, d5⟩
          · rw [d2] at e; cases e
          · rw [d2] at e
            cases e
            have := (d4.sv 0 (show 0 < 6 by decide)).1.lt
            omega
    · obtain ⟨T4, c1, c2⟩ := c_copyFrom (n := n) (sl := sl) (U := U) (T := T) (σ1 := σ) e4.sv hS.sv (show a ≠ 161 by omega)
      have S4 : SR n S T4 a (cur σ) := c2.sr e4.sv hS hD
      have S5 : SR n S T4 161 (cur σ) := by
        refine hS.ext hS.sv hS.la.gv c2.1 (fun j hj => .inl (by omega)) (fun j hj => ?_)
        exact ob_of fun i hi => e4.sv.gv hS.la.gv hi hj
      have e73 : T4.2.2.2.2 173 = T.2.2.2.2 173 := (c2.1 173 (.inl (by omega))).2.2.2.2
      refine ⟨nI (ct8 (cur σ 189 7)), n, sl, U, S, T4, σ', nr, ?_, s0 _ _, ?_, by omega, by omega⟩
      · show f_X11_image (cn n sl U S T σ) 128 (nI k) = _
        unfold f_X11_image
        rw [if_neg (in03'.1 hx).1, if_pos h4, x128_8, Option.bind_some, x173_r hk, Option.bind_some, if_neg (by rw [e2]; intro e; cases e), Option.bind_some, x173_r hk, Option.bind_some, e2, Option.bind_some, x128_6, Option.bind_some, s0_o e4.sv, Option.bind_some, c1, Option.bind_some, x128_6, Option.bind_some, s0_3 hS.sv, Option.bind_some, S5.br, bc8 _ hD.b8, bd_some]
      · refine hR'.im hk e3 e4.sv (T' := T4) ?_ ?_ ?_ ?_ s1 s2 s3 s4 s5 (by rw [s6]; exact S4) (by rw [s6]; exact hD)
        · exact c2.1.mono fun r hr => hr.1
        · intro j hj; rw [e73]
        · rw [e73]; exact e2
        · intro j hj hjk e
          exact hjk (hN.2.2.2.2.2.2.2 j k a hj hk e e2)
  · refine ⟨-1, n, sl, U, S, T, σ, nr, ?_, ?_, hR', by omega, by omega⟩
    · show f_X11_image (cn n sl U S T σ) 128 x = _
      unfold f_X11_image
      by_cases h1 : x < 0
      · rw [if_pos h1]
      · rw [if_neg h1, if_neg]
        intro h2
        exact hx (in03'.2 ⟨h1, by rw [i32le]; rw [i32lt] at h2; omega⟩)
    · show f_X12_image (cn n sl U S T σ) 188 x = _
      unfold f_X12_image
      rw [s_in, bd_some, if_neg (fun h => hx (in03.1 h)), if_pos rfl]
