/-! The reference's falls: a step, all steps. -/
section SF
variable {nr n lw q c d s : Nat} {S : Nat → Nat × Nat × Nat} {T : Tc} {σ : Sg} {x : Fst}
theorem psh_s (D : Dt) (q d c : Nat) (p : Int32) : psh D q d c p = if 0 ≤ p + ((nI (dh D d) - nI (dh D c)) - D 192 q) then p + ((nI (dh D d) - nI (dh D c)) - D 192 q) else 0 := by
  unfold psh
  have e : (p + (nI (dh D d) - nI (dh D c))) - D 192 q = p + ((nI (dh D d) - nI (dh D c)) - D 192 q) := by
    rw [Int32.sub_eq_add_neg (p + (nI (dh D d) - nI (dh D c))), Int32.sub_eq_add_neg (nI (dh D d) - nI (dh D c)), Int32.add_assoc]
  rw [e]
  generalize p + ((nI (dh D d) - nI (dh D c)) - D 192 q) = z
  by_cases h : z < 0
  · rw [if_pos h, if_neg (by rw [i32le]; rw [i32lt] at h; omega)]
  · rw [if_neg h, if_pos (by rw [i32le]; rw [i32lt] at h; omega)]
theorem s_comesTo {σ1 : Sg} (hD : DG nr (cur σ)) (hL : RLw n S T σ lw) (hq : q < dN (cur σ) 2) (hc : c < nc (cur σ)) (hB : isB x.2.2.1 256) (hH : Hi (cur σ) d x) (hlt : dh (cur σ) c < dh (cur σ) d) (hX : RX σ σ1 x) : ∃ σ', (∀ ρ τ, f_X12_comesTo (mem ρ τ σ1) 188 (nI q) (nI c) (nI (dh (cur σ) d) - nI (dh (cur σ) c)) = some (onI (if netB (cur σ) c then none else ldD (cur σ) c), mem ρ τ σ')) ∧ RX σ σ' (stpF σ q d c x) := by
  have bP := hD.bP
  have q5 : q < 5 := by omega
  have es : σ1.2.1 192 q = cur σ 192 q := by rw [hX.1, cu_192 q5]
  obtain ⟨y1, y2, y3, y4, y5, y6, y7⟩ := hX
  have ep := psh_s (cur σ) q d c x.1
  have mk : ∀ v, v = psh (cur σ) q d c x.1 → ∀ u, RX σ (stI (stI (stI σ1 50 (σ1.1 50 + 1)) 49 u) 49 v) (psh (cur σ) q d c x.1, x.2.1 + 1, x.2.2.1, x.2.2.2) := by
    intro v hv u
    refine ⟨y1, fun k a b c d => ?_, ?_, ?_, ?_, ?_, y7⟩
    · rw [stI1, stI1, stI1, if_neg a, if_neg a, if_neg b]; exact y2 k a b c d
    · rw [stI1, if_pos rfl]; exact hv
    · rw [stI1, stI1, stI1, if_neg (by decide), if_neg (by decide), if_pos rfl, y4, lit_1, nI_add]
    · rw [stI1, stI1, stI1, if_neg (by decide), if_neg (by decide), if_neg (by decide)]; exact y5
    · rw [stI1, stI1, stI1, if_neg (by decide), if_neg (by decide), if_neg (by decide)]; exact y6
  have c49 : ∀ u, (stI (stI σ1 50 (σ1.1 50 + 1)) 49 u).1 49 = u := fun u => by rw [stI1, if_pos rfl]
  have d49 : (stI σ1 50 (σ1.1 50 + 1)).1 49 = x.1 := by rw [stI1, if_neg (by decide)]; exact y3
  by_cases h0 : 0 ≤ x.1 + ((nI (dh (cur σ) d) - nI (dh (cur σ) c)) - cur σ 192 q)
  · rw [if_pos h0] at ep
    obtain ⟨σ', z1, z2⟩ := s_comesE hD hL hq hc hB hH hlt (mk _ ep.symm (x.1 + ((nI (dh (cur σ) d) - nI (dh (cur σ) c)) - cur σ 192 q)))
    refine ⟨σ', fun ρ τ => ?_, z2⟩
    unfold f_X12_comesTo
    rw [mI_50, Option.bind_some, mP_50, Option.bind_some, mI_49, Option.bind_some, mR_4, Option.bind_some, y192_r q5, Option.bind_some, d49, show (stI σ1 50 (σ1.1 50 + 1)).2.1 192 q = cur σ 192 q from es, mP_49, Option.bind_some, mI_49, Option.bind_some, c49, if_pos h0, Option.bind_some, mP_49, Option.bind_some, ob_mem, Option.bind_some]
    exact z1 ρ τ
  · rw [if_neg h0] at ep
    obtain ⟨σ', z1, z2⟩ := s_comesE hD hL hq hc hB hH hlt (mk _ ep.symm (x.1 + ((nI (dh (cur σ) d) - nI (dh (cur σ) c)) - cur σ 192 q)))
    refine ⟨σ', fun ρ τ => ?_, z2⟩
    unfold f_X12_comesTo
    rw [mI_50, Option.bind_some, mP_50, Option.bind_some, mI_49, Option.bind_some, mR_4, Option.bind_some, y192_r q5, Option.bind_some, d49, show (stI σ1 50 (σ1.1 50 + 1)).2.1 192 q = cur σ 192 q from es, mP_49, Option.bind_some, mI_49, Option.bind_some, c49, if_neg h0, mP_49, Option.bind_some, ob_mem, Option.bind_some]
    exact z1 ρ τ
theorem stpF_s : (stpF σ q d c x).2.1 = x.2.1 + 1 := by
  unfold stpF
  split
  · rfl
  · split
    · exact (tchs_p (x := (psh (cur σ) q d c x.1, x.2.1 + 1, x.2.2.1, x.2.2.2)) (dN (cur σ) 3)).2
    · exact (tchs_p (x := (psh (cur σ) q d c x.1, x.2.1 + 1, x.2.2.1, x.2.2.2)) (dN (cur σ) 3)).2
theorem h_X {σ1 : Sg} (hX : RX σ σ1 x) (hD : DG nr (cur σ)) (hd : d < nc (cur σ)) (ρ : Mm) (τ : Nat → va_E) : aI (mem ρ τ σ1) 190 0 (nI d) = some (nI (dh (cur σ) d)) := by
  have d48 : d < 48 := Nat.lt_of_lt_of_le hd hD.n48
  rw [y190_r d48, hX.1, ← cu_190 d48, hD.hh d d48]
theorem s_fallsL (hD : DG nr (cur σ)) (hL : RLw n S T σ lw) (hq : q < dN (cur σ) 2) (K : Mm → Int32 → Option (Int32 × Mm)) : ∀ (k d : Nat) (o : Option Nat) (σ1 : Sg) (x : Fst) (f : Nat), dh (cur σ) d ≤ k → k < f → d < nc (cur σ) → (o = none ∨ o = ldD (cur σ) d) → 0 < x.2.1 → x.2.1 + k ≤ 100 → isB x.2.2.1 256 → Hi (cur σ) d x → RX σ σ1 x → ∃ σ', (∀ ρ τ, f_X12_falls_L23 K f (mem ρ τ σ1) 188 (nI q) (nI s) (nI d) (onI o) = K (mem ρ τ σ') (nI (runF σ q k d o x).1)) ∧ RX σ σ' (runF σ q k d o x).2 := by
  intro k
  induction k with
  | zero =>
    intro d o σ1 x f h1 h2 hd ho hs hs2 hB hH hX
    obtain ⟨f, rfl⟩ : ∃ k, f = k + 1 := ⟨f - 1, by omega⟩
    have on : o = none := by
      rcases ho with h | h
      · exact h
      · cases hl : o with
        | none => rfl
        | some e =>
          rw [hl] at h
          have := (lead_lt (hD.c0 hd) hd h.symm).2
          omega
    subst on
    refine ⟨σ1, fun ρ τ => ?_, hX⟩
    rw [f_X12_falls_L23, if_pos (show onI none = 0 from rfl)]
    rfl
  | succ k ih =>
    intro d o σ1 x f h1 h2 hd ho hs hs2 hB hH hX
    obtain ⟨f, rfl⟩ : ∃ k, f = k + 1 := ⟨f - 1, by omega⟩
    cases o with
    | none =>
      refine ⟨σ1, fun ρ τ => ?_, hX⟩
      rw [f_X12_falls_L23, if_pos (show onI none = 0 from rfl)]
      rfl
    | some e =>
      have hl : ldD (cur σ) d = some e := by
        rcases ho with h | h
        · cases h
        · exact h.symm
      have he := lead_lt (hD.c0 hd) hd hl
      have e48 : e < 48 := Nat.lt_of_lt_of_le he.1 hD.n48
      obtain ⟨σ2, q1, q2⟩ := s_comesTo hD hL hq he.1 hB hH he.2 hX
      obtain ⟨σ', z1, z2⟩ := ih e (if netB (cur σ) e then none else ldD (cur σ) e) σ2 (stpF σ q d e x) f (by omega) (by omega) he.1 (by cases netB (cur σ) e; exact .inr rfl; exact .inl rfl) (by rw [stpF_s]; omega) (by rw [stpF_s]; omega) (stpF_8 hD hB) (hH.stp hD he.1 he.2) q2
      refine ⟨σ', fun ρ τ => ?_, z2⟩
      rw [f_X12_falls_L23, if_neg (show ¬ onI (some e) = 0 from (by decide : ¬ (1 : Int32) = 0)), mI_50, Option.bind_some, hX.2.2.2.1, if_neg (nI_ne0 hs (by omega)), nm_q, if_pos rfl, ob_mem, Option.bind_some, s_leadX hX hD hd, bd_some, hl, show oI (some e) = nI e from rfl, nm_q, mR_2, Option.bind_some, h_X hX hD hd, Option.bind_some, Option.bind_some, h_X hX hD he.1, Option.bind_some, nm_q, nm_q, ob_mem, Option.bind_some, q1, bd_some, nm_q]
      exact z1 ρ τ
theorem FU_s : ∃ F, FU = F + 1 ∧ 100000 < F := ⟨FU - 1, rfl, by unfold FU; omega⟩
theorem Hi0 (D : Dt) (c : Nat) : Hi D c (0, 0, 0, 0) := fun t _ hb => by rw [show bt ((0, 0, 0, 0) : Fst).2.2.1 t = false from b_0 t] at hb; cases hb
theorem s_falls (hD : DG nr (cur σ)) (hL : RLw n S T σ lw) (hq : q < dN (cur σ) 2) (hd : d < nc (cur σ)) (hs : s < 5) : ∃ σ', (∀ ρ τ, f_X12_falls (mem ρ τ σ) 188 (nI q) (nI d) (nI s) = some (nI (runF σ q 9 d (nxt (cur σ) d s) (0, 0, 0, 0)).1, mem ρ τ σ')) ∧ RX σ σ' (runF σ q 9 d (nxt (cur σ) d s) (0, 0, 0, 0)).2 := by
  have r0 : RX σ (stI (stI (stI (stI σ 49 0) 50 0) 51 0) 52 0) (0, 0, 0, 0) := by
    refine ⟨rfl, fun k a b c d => ?_, ?_, ?_, ?_, ?_, fun _ _ _ => rfl⟩
    · rw [stI1, stI1, stI1, stI1, if_neg d, if_neg c, if_neg b, if_neg a]
    · rw [stI1, stI1, stI1, stI1]; rfl
    · rw [stI1, stI1, stI1, stI1]; rfl
    · rw [stI1, stI1, stI1, stI1]; rfl
    · rw [stI1, stI1, stI1, stI1]; rfl
  have beg : ∀ ρ τ, f_X12_beginsFall (mem ρ τ σ) 188 = some (mem ρ τ (stI (stI (stI (stI σ 49 0) 50 0) 51 0) 52 0)) := by
    intro ρ τ
    unfold f_X12_beginsFall
    rw [mP_49, Option.bind_some, mP_50, Option.bind_some, mP_51, Option.bind_some, mP_52, Option.bind_some]
  generalize stI (stI (stI (stI σ 49 0) 50 0) 51 0) 52 0 = σ0 at r0 beg
  cases hl : ldD (cur σ) d with
  | none =>
    refine ⟨σ0, fun ρ τ => ?_, by rw [nxt_none hl]; exact r0⟩
    obtain ⟨F, hF, _⟩ := FU_s
    unfold f_X12_falls
    rw [ob_mem, Option.bind_some, beg, Option.bind_some, nm_q, ob_mem, Option.bind_some, s_leadX r0 hD hd, bd_some, hl, if_pos (show oI none = -1 from rfl), nm_q, hF, f_X12_falls_L23, if_pos rfl, nxt_none hl]
    rfl
  | some e0 =>
    have h0 := lead_lt (hD.c0 hd) hd hl
    have e048 : e0 < 48 := Nat.lt_of_lt_of_le h0.1 hD.n48
    obtain ⟨F, hF, hF2⟩ := FU_s
    have gs := hD.gs (Nat.lt_of_le_of_lt (Nat.zero_le _) hd)
    obtain ⟨e, hne⟩ : ∃ e, nxt (cur σ) d s = some e := by
      unfold nxt
      cases (if s < 4 then low (dN (cur σ) 0) (dN (cur σ) 1) (dh (cur σ)) d s else none) with
      | none => exact ⟨e0, hl⟩
      | some e => exact ⟨e, rfl⟩
    have he := nxt_lt hD hd hne
    have h9 := hD.h9 d
    have e48 : e < 48 := Nat.lt_of_lt_of_le he.1 hD.n48
    obtain ⟨σ2, q1, q2⟩ := s_comesTo hD hL hq he.1 (isB8.2 fun i _ _ => b_0 i) (Hi0 _ d) he.2 r0
    obtain ⟨σ', z1, z2⟩ := s_fallsL (s := s) hD hL hq (fun μ87 x88 => (some (x88, μ87))) 8 e (if netB (cur σ) e then none else ldD (cur σ) e) σ2 (stpF σ q d e (0, 0, 0, 0)) F (by omega) (by omega) he.1 (by cases netB (cur σ) e; exact .inr rfl; exact .inl rfl) (by rw [stpF_s]; omega) (by rw [stpF_s]; show 0 + 1 + 8 ≤ 100; omega) (stpF_8 hD (isB8.2 fun i _ _ => b_0 i)) ((Hi0 _ d).stp hD he.1 he.2) q2
    rw [hne, show runF σ q 9 d (some e) (0, 0, 0, 0) = runF σ q 8 e (if netB (cur σ) e then none else ldD (cur σ) e) (stpF σ q d e (0, 0, 0, 0)) from rfl]
    refine ⟨σ', fun ρ τ => ?_, z2⟩
    unfold f_X12_falls
    rw [ob_mem, Option.bind_some, beg, Option.bind_some, nm_q, ob_mem, Option.bind_some, s_leadX r0 hD hd, bd_some, hl, show oI (some e0) = nI e0 from rfl, if_neg (nI_nm1 (by omega)), nm_q, hF, f_X12_falls_L23, if_neg (by decide), mI_50, Option.bind_some, r0.2.2.2.1, if_pos (show nI ((0, 0, 0, 0) : Fst).2.1 = 0 from rfl)]
    have low4 : ∀ (h4 : s < 4), f_X12_lower (mem ρ τ σ0) 188 (nI d) (nI s) = some (oI (low (dN (cur σ) 0) (dN (cur σ) 1) (dh (cur σ)) d s), mem ρ τ σ0) := by
      intro h4
      have mg := (r0.dg hD).mg
      rw [r0.cu] at mg
      exact s_lower mg gs hd h4
    unfold nxt at hne
    by_cases h4 : s < 4
    · rw [if_neg (show ¬ (4 : Int32) ≤ nI s from nI_ge (b := 4) h4 (by decide)), ob_mem, Option.bind_some, low4 h4, bd_some, nm_q]
      rw [if_pos h4] at hne
      cases hw : low (dN (cur σ) 0) (dN (cur σ) 1) (dh (cur σ)) d s with
      | none =>
        rw [hw] at hne
        rw [if_pos (show oI none = -1 from rfl), ob_mem, Option.bind_some, s_leadX r0 hD hd, bd_some, show ldD (cur σ) d = some e from hne, show oI (some e) = nI e from rfl, nm_q, mR_2, Option.bind_some, h_X r0 hD hd, Option.bind_some, Option.bind_some, h_X r0 hD he.1, Option.bind_some, nm_q, nm_q, ob_mem, Option.bind_some, q1, bd_some, nm_q]
        exact z1 ρ τ
      | some e1 =>
        rw [hw] at hne
        cases hne
        rw [show oI (some e) = nI e from rfl, if_neg (nI_nm1 (by omega)), nm_q, mR_2, Option.bind_some, h_X r0 hD hd, Option.bind_some, Option.bind_some, h_X r0 hD he.1, Option.bind_some, nm_q, nm_q, ob_mem, Option.bind_some, q1, bd_some, nm_q]
        exact z1 ρ τ
    · rw [if_neg h4] at hne
      rw [if_pos (show (4 : Int32) ≤ nI s from nI_le (a := 4) (by omega) (by omega)), nm_q, if_pos rfl, ob_mem, Option.bind_some, s_leadX r0 hD hd, bd_some, show ldD (cur σ) d = some e from hne, show oI (some e) = nI e from rfl, nm_q, mR_2, Option.bind_some, h_X r0 hD hd, Option.bind_some, Option.bind_some, h_X r0 hD he.1, Option.bind_some, nm_q, nm_q, ob_mem, Option.bind_some, q1, bd_some, nm_q]
      exact z1 ρ τ
end SF
