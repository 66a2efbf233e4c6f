/-! Rules: what is known of what was read. -/
theorem rFac_b (c : Nat) (h : rFac c ≠ 0) : 13 ≤ rFac c ∧ rFac c ≤ 15 := by
  unfold rFac at h ⊢
  split
  · omega
  · split
    · omega
    · split
      · omega
      · rename_i h1 h2 h3
        rw [if_neg h1, if_neg h2, if_neg h3] at h
        exact absurd rfl h
theorem rTer_b (c : Nat) (h : rTer c ≠ 0) : 2 ≤ rTer c ∧ rTer c ≤ 3 := by
  unfold rTer at h ⊢
  split
  · omega
  · split
    · omega
    · rename_i h1 h2
      rw [if_neg h1, if_neg h2] at h
      exact absurd rfl h
theorem rOf_b {L : Nat} {b : Nat → Nat} {f : Nat → Nat} {k : Nat} (h : rOf L b f k ≠ 0) : k < L ∧ rOf L b f k = f (b k) ∧ f (b k) ≠ 0 := by
  unfold rOf at h ⊢
  by_cases hk : k < L
  · rw [if_pos hk] at h ⊢
    exact ⟨hk, rfl, h⟩
  · rw [if_neg hk] at h
    exact absurd rfl h
theorem ev_some {w : Nat → Int64} {a c : List (Nat × Nat)} {st st' : List Int64} (h : evL w a st = some st') : evL w (a ++ c) st = evL w c st' := by rw [evL_app, h]; rfl
section RPOST
variable {L : Nat} {b : Nat → Nat}
theorem rT_ok : ∀ {f : Nat} {s s' : Rt}, rT L b f s = .inr s' → s.1 ≤ L → s.2.1 ≤ 60 → ∃ g, Go L s s' g ∧ g.length + 2 * s.2.1 = 2 * s'.2.1 ∧ CP 2 g ∧ s'.1 = skp L b s'.1
  | 0, s, s', h, _, _ => by cases h
  | f + 1, s, s', h, hp, hc => by
    have hs := skp_le b hp
    have gs := skp_ge L b s.1
    rw [rT] at h
    by_cases h0 : rOf L b rFac (skp L b s.1) = 0
    · rw [if_pos h0] at h
      injection h with h
      subst h
      exact ⟨[], ⟨gs, hs, Nat.le_refl _, hc, (List.append_nil _).symm, fun x hx => by cases hx⟩, by show 0 + 2 * s.2.1 = 2 * s.2.1; omega, fun w v st _ => ⟨v, rfl⟩, (skp_i L b s.1).symm⟩
    · rw [if_neg h0] at h
      obtain ⟨k1, k2, k3⟩ := rOf_b h0
      have kb := rFac_b _ k3
      rw [← k2] at kb
      obtain ⟨s1, x1, x2⟩ := sb_ok h
      obtain ⟨g1, G1, l1, c1, n1, v1⟩ := rVal_ok x1 (show skp L b s.1 + 1 ≤ L by omega) hc
      have c1 : s1.2.1 = s.2.1 + 1 := c1
      obtain ⟨g2, G2, n2, v2, e2⟩ := rT_ok x2 G1.2.1 G1.2.2.2.1
      have n2 : g2.length + 2 * s1.2.1 = 2 * s'.2.1 := n2
      have G1' := (Go.from G1 (show s.1 ≤ skp L b s.1 + 1 by omega)).add (o := rOf L b rFac (skp L b s.1)) (by omega)
      refine ⟨(g1 ++ [(rOf L b rFac (skp L b s.1), 0)]) ++ g2, G1'.trans G2, ?_, fun w v st hst => ?_, e2⟩
      · rw [List.length_append, List.length_append, n1]
        show 1 + 1 + g2.length + 2 * s.2.1 = _
        omega
      · obtain ⟨x, hx⟩ := v1 w (v :: st) (by show st.length + 1 + 1 ≤ 31; omega)
        obtain ⟨y, hy⟩ := v2 w (bth (nI (rOf L b rFac (skp L b s.1))) v x) st hst
        refine ⟨y, ?_⟩
        rw [List.append_assoc, ev_some hx, ev_some (evL_op (by omega) (by omega) (by omega) w x v st)]
        exact hy
theorem rT_er (hL : L ≤ 400) : ∀ {f : Nat} {s : Rt} {e : Nat}, rT L b f s = .inl e → s.1 ≤ L → s.2.1 ≤ 60 → L - s.1 < f → e ≠ 0 ∧ e < 4000
  | 0, s, e, _, _, _, hf => by omega
  | f + 1, s, e, h, hp, hc, hf => by
    have hs := skp_le b hp
    have gs := skp_ge L b s.1
    rw [rT] at h
    by_cases h0 : rOf L b rFac (skp L b s.1) = 0
    · rw [if_pos h0] at h; cases h
    · rw [if_neg h0] at h
      obtain ⟨k1, k2, k3⟩ := rOf_b h0
      cases hV : rVal L b (rAt s (skp L b s.1 + 1)) with
      | inl x =>
        rw [hV, sb_l] at h
        injection h with h
        subst h
        exact rVal_er hV (show skp L b s.1 + 1 ≤ L by omega) hL
      | inr s1 =>
        rw [hV, sb_r] at h
        obtain ⟨g1, G1, l1, c1, n1, v1⟩ := rVal_ok hV (show skp L b s.1 + 1 ≤ L by omega) hc
        have l1 : skp L b s.1 + 1 < s1.1 := l1
        exact rT_er hL h G1.2.1 G1.2.2.2.1 (by show L - s1.1 < f; omega)
theorem rU_ok : ∀ {f : Nat} {s s' : Rt}, rU L b f s = .inr s' → s.1 ≤ L → s.2.1 ≤ 60 → s.1 = skp L b s.1 → ∃ g, Go L s s' g ∧ g.length + 2 * s.2.1 = 2 * s'.2.1 ∧ CP 3 g ∧ s'.1 = skp L b s'.1
  | 0, s, s', h, _, _, _ => by cases h
  | f + 1, s, s', h, hp, hc, hk => by
    rw [rU] at h
    by_cases h0 : rOf L b rTer s.1 = 0
    · rw [if_pos h0] at h
      injection h with h
      subst h
      exact ⟨[], ⟨Nat.le_refl _, hp, Nat.le_refl _, hc, (List.append_nil _).symm, fun x hx => by cases hx⟩, by show 0 + 2 * s.2.1 = 2 * s.2.1; omega, fun w v st _ => ⟨v, rfl⟩, hk⟩
    · rw [if_neg h0] at h
      obtain ⟨k1, k2, k3⟩ := rOf_b h0
      have kb := rTer_b _ k3
      rw [← k2] at kb
      obtain ⟨s1, x1, x2⟩ := sb_ok h
      obtain ⟨s2, y1, y2⟩ := sb_ok x2
      obtain ⟨g1, G1, l1, c1, n1, v1⟩ := rVal_ok x1 (show s.1 + 1 ≤ L by omega) hc
      have c1 : s1.2.1 = s.2.1 + 1 := c1
      obtain ⟨g2, G2, n2, v2, e2⟩ := rT_ok y1 G1.2.1 G1.2.2.2.1
      obtain ⟨g3, G3, n3, v3, e3⟩ := rU_ok y2 G2.2.1 G2.2.2.2.1 e2
      have n3 : g3.length + 2 * s2.2.1 = 2 * s'.2.1 := n3
      have G12 := ((Go.from G1 (show s.1 ≤ s.1 + 1 by omega)).trans G2).add (o := rOf L b rTer s.1) (by omega)
      refine ⟨((g1 ++ g2) ++ [(rOf L b rTer s.1, 0)]) ++ g3, G12.trans G3, ?_, fun w v st hst => ?_, e3⟩
      · rw [List.length_append, List.length_append, List.length_append, n1]
        show 1 + g2.length + 1 + g3.length + 2 * s.2.1 = _
        omega
      · obtain ⟨x, hx⟩ := v1 w (v :: st) (by show st.length + 1 + 1 ≤ 31; omega)
        obtain ⟨x', hx'⟩ := v2 w x (v :: st) (by show st.length + 1 + 2 ≤ 31; omega)
        obtain ⟨y, hy⟩ := v3 w (bth (nI (rOf L b rTer s.1)) v x') st hst
        refine ⟨y, ?_⟩
        rw [List.append_assoc, List.append_assoc, ev_some hx, ev_some hx', ev_some (evL_op (by omega) (by omega) (by omega) w x' v st)]
        exact hy
theorem rU_er (hL : L ≤ 400) : ∀ {f : Nat} {s : Rt} {e : Nat}, rU L b f s = .inl e → s.1 ≤ L → s.2.1 ≤ 60 → L - s.1 < f → e ≠ 0 ∧ e < 4000
  | 0, s, e, _, _, _, hf => by omega
  | f + 1, s, e, h, hp, hc, hf => by
    rw [rU] at h
    by_cases h0 : rOf L b rTer s.1 = 0
    · rw [if_pos h0] at h; cases h
    · rw [if_neg h0] at h
      obtain ⟨k1, k2, k3⟩ := rOf_b h0
      cases hV : rVal L b (rAt s (s.1 + 1)) with
      | inl x =>
        rw [hV, sb_l] at h
        injection h with h
        subst h
        exact rVal_er hV (show s.1 + 1 ≤ L by omega) hL
      | inr s1 =>
        rw [hV, sb_r] at h
        obtain ⟨g1, G1, l1, c1, n1, v1⟩ := rVal_ok hV (show s.1 + 1 ≤ L by omega) hc
        have l1 : s.1 + 1 < s1.1 := l1
        cases hT : rT L b f s1 with
        | inl x =>
          rw [hT, sb_l] at h
          injection h with h
          subst h
          exact rT_er hL hT G1.2.1 G1.2.2.2.1 (by omega)
        | inr s2 =>
          rw [hT, sb_r] at h
          obtain ⟨g2, G2, n2, v2, e2⟩ := rT_ok hT G1.2.1 G1.2.2.2.1
          have := G2.1
          exact rU_er hL h G2.2.1 G2.2.2.2.1 (by show L - s2.1 < f; omega)
theorem rSum_ok {s s' : Rt} (h : rSum L b s = .inr s') (hp : s.1 ≤ L) (hc : s.2.1 ≤ 60) : ∃ g, Go L s s' g ∧ s.1 < s'.1 ∧ s.2.1 < s'.2.1 ∧ g.length + 1 + 2 * s.2.1 = 2 * s'.2.1 ∧ VP 3 g ∧ s'.1 = skp L b s'.1 := by
  unfold rSum at h
  obtain ⟨s1, x1, x2⟩ := sb_ok h
  obtain ⟨s2, y1, y2⟩ := sb_ok x2
  obtain ⟨g1, G1, l1, c1, n1, v1⟩ := rVal_ok x1 hp hc
  obtain ⟨g2, G2, n2, v2, e2⟩ := rT_ok y1 G1.2.1 G1.2.2.2.1
  obtain ⟨g3, G3, n3, v3, e3⟩ := rU_ok y2 G2.2.1 G2.2.2.2.1 e2
  have a1 := G2.1
  have a2 := G3.1
  have a3 := G2.2.2.1
  have a4 := G3.2.2.1
  refine ⟨(g1 ++ g2) ++ g3, (G1.trans G2).trans G3, by omega, by omega, ?_, fun w st hst => ?_, e3⟩
  · rw [List.length_append, List.length_append, n1]
    omega
  · obtain ⟨x, hx⟩ := v1 w st (by omega)
    obtain ⟨x', hx'⟩ := v2 w x st (by omega)
    obtain ⟨y, hy⟩ := v3 w x' st hst
    refine ⟨y, ?_⟩
    rw [List.append_assoc, ev_some hx, ev_some hx']
    exact hy
theorem rSum_er (hL : L ≤ 400) {s : Rt} {e : Nat} (h : rSum L b s = .inl e) (hp : s.1 ≤ L) (hc : s.2.1 ≤ 60) : e ≠ 0 ∧ e < 4000 := by
  unfold rSum at h
  cases hV : rVal L b s with
  | inl x =>
    rw [hV, sb_l] at h
    injection h with h
    subst h
    exact rVal_er hV hp hL
  | inr s1 =>
    rw [hV, sb_r] at h
    obtain ⟨g1, G1, l1, c1, n1, v1⟩ := rVal_ok hV hp hc
    cases hT : rT L b 500 s1 with
    | inl x =>
      rw [hT, sb_l] at h
      injection h with h
      subst h
      exact rT_er hL hT G1.2.1 G1.2.2.2.1 (by omega)
    | inr s2 =>
      rw [hT, sb_r] at h
      obtain ⟨g2, G2, n2, v2, e2⟩ := rT_ok hT G1.2.1 G1.2.2.2.1
      exact rU_er hL h G2.2.1 G2.2.2.2.1 (by omega)
theorem rSg_b {k : Nat} (h : rSg L b k ≠ 0) : k < L ∧ 4 ≤ rSg L b k ∧ rSg L b k ≤ 8 ∧ ((rSg L b k = 5 ∨ rSg L b k = 7) → k + 1 < L) := by
  unfold rSg at h ⊢
  by_cases hk : k < L
  · rw [if_pos hk] at h ⊢
    split
    · omega
    · split
      · split
        · omega
        · omega
      · split
        · split
          · omega
          · omega
        · rename_i h1 h2 h3
          rw [if_neg h1, if_neg h2, if_neg h3] at h
          exact absurd rfl h
  · rw [if_neg hk] at h
    exact absurd rfl h
theorem rCmp_ok {s s' : Rt} (h : rCmp L b s = .inr s') (hp : s.1 ≤ L) (hc : s.2.1 ≤ 60) : ∃ g, Go L s s' g ∧ s.1 < s'.1 ∧ s.2.1 + 3 ≤ s'.2.1 ∧ g.length + 3 + 2 * s.2.1 = 2 * s'.2.1 ∧ BP 4 g := by
  unfold rCmp at h
  obtain ⟨s1, x1, x2⟩ := sb_ok h
  obtain ⟨g1, G1, l1, c1, n1, v1, e1⟩ := rSum_ok x1 hp hc
  by_cases h0 : rSg L b s1.1 = 0
  · rw [if_pos h0] at x2; cases x2
  · rw [if_neg h0] at x2
    by_cases c60 : s1.2.1 = 60
    · rw [if_pos c60] at x2; cases x2
    · rw [if_neg c60] at x2
      obtain ⟨k1, k2, k3, k4⟩ := rSg_b h0
      have g4 := G1.2.2.2.1
      obtain ⟨s2, y1, y2⟩ := sb_ok x2
      obtain ⟨q, hq⟩ : ∃ q, q = if rSg L b s1.1 = 5 ∨ rSg L b s1.1 = 7 then s1.1 + 2 else s1.1 + 1 := ⟨_, rfl⟩
      have ql : s1.1 < q ∧ q ≤ L := by
        rw [hq]
        by_cases c : rSg L b s1.1 = 5 ∨ rSg L b s1.1 = 7
        · rw [if_pos c]; have := k4 c; omega
        · rw [if_neg c]; omega
      rw [← hq] at y1
      obtain ⟨g2, G2, l2, c2, n2, v2, e2⟩ := rSum_ok y1 ql.2 (show s1.2.1 + 1 ≤ 60 by omega)
      have l2 : q < s2.1 := l2
      have c2 : s1.2.1 + 1 < s2.2.1 := c2
      have n2 : g2.length + 1 + 2 * (s1.2.1 + 1) = 2 * s2.2.1 := n2
      injection y2 with y2
      subst y2
      have G2' : Go L s1 s2 g2 := ⟨by omega, G2.2.1, by omega, G2.2.2.2.1, G2.2.2.2.2⟩
      refine ⟨(g1 ++ g2) ++ [(rSg L b s1.1, 0)], (G1.trans G2').add (by omega), by show s.1 < s2.1; omega, by show s.2.1 + 3 ≤ s2.2.1; omega, ?_, fun w st hst => ?_⟩
      · rw [List.length_append, List.length_append]
        show g1.length + g2.length + 1 + 3 + 2 * s.2.1 = 2 * s2.2.1
        omega
      · obtain ⟨x, hx⟩ := v1 w st (by omega)
        obtain ⟨y, hy⟩ := v2 w (x :: st) (by show st.length + 1 + 3 ≤ 31; omega)
        refine ⟨bth (nI (rSg L b s1.1)) x y, bth_b ⟨k2, k3⟩ x y, ?_⟩
        rw [List.append_assoc, ev_some hx, ev_some hy, evL_op (by omega) (by omega) (by omega)]
theorem rCmp_er (hL : L ≤ 400) {s : Rt} {e : Nat} (h : rCmp L b s = .inl e) (hp : s.1 ≤ L) (hc : s.2.1 ≤ 60) : e ≠ 0 ∧ e < 4000 := by
  unfold rCmp at h
  cases hV : rSum L b s with
  | inl x =>
    rw [hV, sb_l] at h
    injection h with h
    subst h
    exact rSum_er hL hV hp hc
  | inr s1 =>
    rw [hV, sb_r] at h
    obtain ⟨g1, G1, l1, c1, n1, v1, e1⟩ := rSum_ok hV hp hc
    have := G1.2.1
    have g4 := G1.2.2.2.1
    by_cases h0 : rSg L b s1.1 = 0
    · rw [if_pos h0] at h
      injection h with h
      omega
    · rw [if_neg h0] at h
      by_cases c60 : s1.2.1 = 60
      · rw [if_pos c60] at h
        injection h with h
        omega
      · rw [if_neg c60] at h
        obtain ⟨k1, k2, k3, k4⟩ := rSg_b h0
        obtain ⟨q, hq⟩ : ∃ q, q = if rSg L b s1.1 = 5 ∨ rSg L b s1.1 = 7 then s1.1 + 2 else s1.1 + 1 := ⟨_, rfl⟩
        have ql : s1.1 < q ∧ q ≤ L := by
          rw [hq]
          by_cases c : rSg L b s1.1 = 5 ∨ rSg L b s1.1 = 7
          · rw [if_pos c]; have := k4 c; omega
          · rw [if_neg c]; omega
        rw [← hq] at h
        cases h2 : rSum L b (q, s1.2.1 + 1, s1.2.2) with
        | inl x =>
          rw [h2, sb_l] at h
          injection h with h
          subst h
          exact rSum_er hL h2 ql.2 (show s1.2.1 + 1 ≤ 60 by omega)
        | inr s2 =>
          rw [h2, sb_r] at h
          cases h
/-! tests -/
def FP (L d m : Nat) (F : Rt → Sum Nat Rt) : Prop := ∀ s s', F s = .inr s' → s.1 ≤ L → s.2.1 ≤ 60 → ∃ g, Go L s s' g ∧ s.1 < s'.1 ∧ s.2.1 + 3 ≤ s'.2.1 ∧ 3 * g.length + 33 + 14 * s.2.1 ≤ 14 * s'.2.1 + 3 * (10 - d) ∧ BP m g
def FE (L : Nat) (F : Rt → Sum Nat Rt) : Prop := ∀ s e, F s = .inl e → s.1 ≤ L → s.2.1 ≤ 60 → e ≠ 0 ∧ e < 4000
theorem wd_lt {w : List Nat} {k : Nat} (h : isWd L b w k = true) (hw : 0 < w.length) : k < we L b k := by
  unfold isWd at h
  rw [Bool.and_eq_true] at h
  have := of_decide_eq_true h.1
  omega
theorem rTL_ok {d : Nat} {F : Rt → Sum Nat Rt} (hF : FP L d (4 + 2 * (10 - d)) F) : ∀ {f : Nat} {ow : Bool} {s s' : Rt}, rTL L b F f ow s = .inr s' → s.1 ≤ L → s.2.1 ≤ 60 → ∃ g, Go L s s' g ∧ 3 * g.length + 14 * s.2.1 ≤ 14 * s'.2.1 + (if ow = true then 3 else 0) ∧ (∀ w v st, (v = 0 ∨ v = 1) → st.length + (6 + 2 * (10 - d)) ≤ 31 → ow = false → ∃ x, (x = 0 ∨ x = 1) ∧ evL w g (v :: st) = some (x :: st)) ∧ (∀ w v u st, (v = 0 ∨ v = 1) → (u = 0 ∨ u = 1) → st.length + (6 + 2 * (10 - d)) ≤ 31 → ow = true → ∃ x, (x = 0 ∨ x = 1) ∧ evL w g (v :: u :: st) = some (x :: st))
  | 0, ow, s, s', h, _, _ => by cases h
  | f + 1, ow, s, s', h, hp, hc => by
    have hs := skp_le b hp
    have gs := skp_ge L b s.1
    have hw := we_le b hs
    have orv : ∀ w v u st, (v = 0 ∨ v = 1) → (u = 0 ∨ u = 1) → ∃ x, (x = 0 ∨ x = 1) ∧ evL w [(11, 0)] (v :: u :: st) = some (x :: st) := fun w v u st h1 h2 => ⟨_, bth_or h2 h1, evL_op (by decide) (by decide) (by decide) w v u st⟩
    rw [rTL] at h
    by_cases ha : isWd L b wAnd (skp L b s.1) = true
    · have lt := wd_lt ha (by decide)
      rw [if_pos ha] at h
      obtain ⟨s1, x1, x2⟩ := sb_ok h
      obtain ⟨g1, G1, l1, c1, n1, v1⟩ := hF _ _ x1 hw hc
      have c1 : s.2.1 + 3 ≤ s1.2.1 := c1
      have n1 : 3 * g1.length + 33 + 14 * s.2.1 ≤ 14 * s1.2.1 + 3 * (10 - d) := n1
      obtain ⟨g2, G2, n2, v2, u2⟩ := rTL_ok hF x2 G1.2.1 G1.2.2.2.1
      have n2 : 3 * g2.length + 14 * s1.2.1 ≤ 14 * s'.2.1 + (if ow = true then 3 else 0) := n2
      have G1' := (Go.from G1 (show s.1 ≤ we L b (skp L b s.1) by omega)).add (o := 10) (by decide)
      refine ⟨(g1 ++ [(10, 0)]) ++ g2, G1'.trans G2, ?_, fun w v st hv hst ho => ?_, fun w v u st hv hu hst ho => ?_⟩
      · rw [List.length_append, List.length_append]
        show 3 * (g1.length + 1 + g2.length) + 14 * s.2.1 ≤ _
        omega
      · obtain ⟨x, hx, ex⟩ := v1 w (v :: st) (by show st.length + 1 + _ ≤ 31; omega)
        obtain ⟨y, hy, ey⟩ := v2 w _ st (bth_and hv hx) hst ho
        refine ⟨y, hy, ?_⟩
        rw [List.append_assoc, ev_some ex, ev_some (evL_op (by decide) (by decide) (by decide) w x v st)]
        exact ey
      · obtain ⟨x, hx, ex⟩ := v1 w (v :: u :: st) (by show st.length + 1 + 1 + _ ≤ 31; omega)
        obtain ⟨y, hy, ey⟩ := u2 w _ u st (bth_and hv hx) hu hst ho
        refine ⟨y, hy, ?_⟩
        rw [List.append_assoc, ev_some ex, ev_some (evL_op (by decide) (by decide) (by decide) w x v (u :: st))]
        exact ey
    · rw [if_neg ha] at h
      by_cases hor : isWd L b wOr (skp L b s.1) = true
      · have lt := wd_lt hor (by decide)
        rw [if_pos hor] at h
        obtain ⟨s1, x1, x2⟩ := sb_ok h
        cases ow with
        | false =>
          obtain ⟨g1, G1, l1, c1, n1, v1⟩ := hF _ _ x1 hw hc
          have c1 : s.2.1 + 3 ≤ s1.2.1 := c1
          have n1 : 3 * g1.length + 33 + 14 * s.2.1 ≤ 14 * s1.2.1 + 3 * (10 - d) := n1
          obtain ⟨g2, G2, n2, v2, u2⟩ := rTL_ok hF x2 G1.2.1 G1.2.2.2.1
          rw [if_pos rfl] at n2
          have G1' := Go.from G1 (show s.1 ≤ we L b (skp L b s.1) by omega)
          refine ⟨g1 ++ g2, G1'.trans G2, ?_, fun w v st hv hst ho => ?_, fun w v u st hv hu hst ho => (by cases ho)⟩
          · rw [List.length_append, if_neg (by decide)]
            omega
          · obtain ⟨x, hx, ex⟩ := v1 w (v :: st) (by show st.length + 1 + _ ≤ 31; omega)
            obtain ⟨y, hy, ey⟩ := u2 w x v st hx hv hst rfl
            refine ⟨y, hy, ?_⟩
            rw [ev_some ex]
            exact ey
        | true =>
          obtain ⟨g1, G1, l1, c1, n1, v1⟩ := hF _ _ x1 hw hc
          have c1 : s.2.1 + 3 ≤ s1.2.1 := c1
          have n1 : 3 * g1.length + 33 + 14 * s.2.1 ≤ 14 * s1.2.1 + 3 * (10 - d) := n1
          obtain ⟨g2, G2, n2, v2, u2⟩ := rTL_ok hF x2 G1.2.1 G1.2.2.2.1
          rw [if_pos rfl] at n2
          have G0 : Go L s (rAdd s 11) ([] ++ [(11, 0)]) := (show Go L s s [] from ⟨Nat.le_refl _, hp, Nat.le_refl _, hc, (List.append_nil _).symm, fun x hx => by cases hx⟩).add (o := 11) (by decide)
          have G1' : Go L (rAdd s 11) s1 g1 := Go.from (s := rAdd s 11) G1 (show s.1 ≤ we L b (skp L b s.1) by omega)
          refine ⟨(([] ++ [(11, 0)]) ++ g1) ++ g2, (G0.trans G1').trans G2, ?_, fun w v st hv hst ho => (by cases ho), fun w v u st hv hu hst ho => ?_⟩
          · rw [List.length_append, List.length_append, List.nil_append, if_pos rfl]
            show 3 * (1 + g1.length + g2.length) + 14 * s.2.1 ≤ _
            omega
          · obtain ⟨z, hz, ez⟩ := orv w v u st hv hu
            obtain ⟨x, hx, ex⟩ := v1 w (z :: st) (by show st.length + 1 + _ ≤ 31; omega)
            obtain ⟨y, hy, ey⟩ := u2 w x z st hx hz hst rfl
            refine ⟨y, hy, ?_⟩
            rw [List.nil_append, List.append_assoc, ev_some ez, ev_some ex]
            exact ey
      · rw [if_neg hor] at h
        injection h with h
        subst h
        cases ow with
        | false => exact ⟨[], ⟨gs, hs, Nat.le_refl _, hc, (List.append_nil _).symm, fun x hx => by cases hx⟩, by show 3 * 0 + 14 * s.2.1 ≤ 14 * s.2.1 + _; omega, fun w v st hv hst ho => ⟨v, hv, rfl⟩, fun w v u st hv hu hst ho => (by cases ho)⟩
        | true => exact ⟨[(11, 0)], ⟨gs, hs, Nat.le_refl _, hc, rfl, fun x hx => by rw [List.mem_singleton.1 hx]; exact EO.op (by decide)⟩, by show 3 * 1 + 14 * s.2.1 ≤ 14 * s.2.1 + 3; omega, fun w v st hv hst ho => (by cases ho), fun w v u st hv hu hst ho => orv w v u st hv hu⟩
theorem rTL_er {d : Nat} {F : Rt → Sum Nat Rt} (hF : FP L d (4 + 2 * (10 - d)) F) (hE : FE L F) : ∀ {f : Nat} {ow : Bool} {s : Rt} {e : Nat}, rTL L b F f ow s = .inl e → s.1 ≤ L → s.2.1 ≤ 60 → L - s.1 < f → e ≠ 0 ∧ e < 4000
  | 0, ow, s, e, _, _, _, hf => by omega
  | f + 1, ow, s, e, h, hp, hc, hf => by
    have hs := skp_le b hp
    have gs := skp_ge L b s.1
    have hw := we_le b hs
    rw [rTL] at h
    by_cases ha : isWd L b wAnd (skp L b s.1) = true
    · have lt := wd_lt ha (by decide)
      rw [if_pos ha] at h
      cases hV : F (rAt s (we L b (skp L b s.1))) with
      | inl x =>
        rw [hV, sb_l] at h
        injection h with h
        subst h
        exact hE _ _ hV hw hc
      | inr s1 =>
        rw [hV, sb_r] at h
        obtain ⟨g1, G1, l1, c1, n1, v1⟩ := hF _ _ hV hw hc
        have l1 : we L b (skp L b s.1) < s1.1 := l1
        exact rTL_er hF hE h G1.2.1 G1.2.2.2.1 (by show L - s1.1 < f; omega)
    · rw [if_neg ha] at h
      by_cases hor : isWd L b wOr (skp L b s.1) = true
      · have lt := wd_lt hor (by decide)
        rw [if_pos hor] at h
        have c2 : (if ow = true then rAdd s 11 else s).2.1 ≤ 60 := by cases ow <;> exact hc
        cases hV : F (rAt (if ow = true then rAdd s 11 else s) (we L b (skp L b s.1))) with
        | inl x =>
          rw [hV, sb_l] at h
          injection h with h
          subst h
          exact hE _ _ hV hw c2
        | inr s1 =>
          rw [hV, sb_r] at h
          obtain ⟨g1, G1, l1, c1, n1, v1⟩ := hF _ _ hV hw c2
          have l1 : we L b (skp L b s.1) < s1.1 := l1
          exact rTL_er hF hE h G1.2.1 G1.2.2.2.1 (by omega)
      · rw [if_neg hor] at h; cases h
theorem rTF_ok (n : Nat) : ∀ d, d ≤ 10 → FP L d (6 + 2 * (10 - d)) ((rTF L b n).1 d) ∧ FP L d (4 + 2 * (10 - d)) ((rTF L b n).2 d) := by
  induction n with
  | zero => exact fun d _ => ⟨fun s s' h => (by cases h), fun s s' h => (by cases h)⟩
  | succ n ih =>
    intro d hd
    refine ⟨fun s s' h hp hc => ?_, fun s s' h hp hc => ?_⟩
    · have h : rTest L b (rTF L b n).2 d s = .inr s' := h
      unfold rTest at h
      obtain ⟨s1, x1, x2⟩ := sb_ok h
      obtain ⟨g1, G1, l1, c1, n1, v1⟩ := (ih d hd).2 _ _ x1 hp hc
      obtain ⟨g2, G2, n2, v2, u2⟩ := rTL_ok (ih d hd).2 x2 G1.2.1 G1.2.2.2.1
      rw [if_neg (by decide)] at n2
      have a1 := G2.1
      have a2 := G2.2.2.1
      refine ⟨g1 ++ g2, G1.trans G2, by omega, by omega, ?_, fun w st hst => ?_⟩
      · rw [List.length_append]
        omega
      · obtain ⟨x, hx, ex⟩ := v1 w st (by omega)
        obtain ⟨y, hy, ey⟩ := v2 w x st hx hst rfl
        refine ⟨y, hy, ?_⟩
        rw [ev_some ex]
        exact ey
    · have h : rFact L b (rTF L b n).1 (rTF L b n).2 d s = .inr s' := h
      have hs := skp_le b hp
      have gs := skp_ge L b s.1
      unfold rFact at h
      by_cases h1 : skp L b s.1 < L ∧ b (skp L b s.1) = 91
      · rw [if_pos h1] at h
        by_cases d10 : 10 ≤ d
        · rw [if_pos d10] at h; cases h
        · rw [if_neg d10] at h
          obtain ⟨s1, x1, x2⟩ := sb_ok h
          obtain ⟨g1, G1, l1, c1, n1, v1⟩ := (ih (d + 1) (by omega)).1 _ _ x1 (show skp L b s.1 + 1 ≤ L by omega) hc
          have l1 : skp L b s.1 + 1 < s1.1 := l1
          have n1 : 3 * g1.length + 33 + 14 * s.2.1 ≤ 14 * s1.2.1 + 3 * (10 - (d + 1)) := n1
          have g3 := skp_ge L b s1.1
          by_cases h2 : skp L b s1.1 < L ∧ b (skp L b s1.1) = 93
          · rw [if_pos h2] at x2
            injection x2 with x2
            subst x2
            refine ⟨g1, (Go.from G1 (show s.1 ≤ skp L b s.1 + 1 by omega)).at (show s1.1 ≤ skp L b s1.1 + 1 by omega) (show skp L b s1.1 + 1 ≤ L by omega), by show s.1 < skp L b s1.1 + 1; omega, c1, ?_, fun w st hst => v1 w st (by omega)⟩
            show 3 * g1.length + 33 + 14 * s.2.1 ≤ 14 * s1.2.1 + 3 * (10 - d)
            omega
          · rw [if_neg h2] at x2; cases x2
      · rw [if_neg h1] at h
        by_cases h2 : isWd L b wNot (skp L b s.1) = true
        · have lt := wd_lt h2 (by decide)
          rw [if_pos h2] at h
          by_cases d10 : 10 ≤ d
          · rw [if_pos d10] at h; cases h
          · rw [if_neg d10] at h
            obtain ⟨s1, x1, x2⟩ := sb_ok h
            obtain ⟨g1, G1, l1, c1, n1, v1⟩ := (ih (d + 1) (by omega)).2 _ _ x1 (we_le b hs) hc
            have l1 : we L b (skp L b s.1) < s1.1 := l1
            have n1 : 3 * g1.length + 33 + 14 * s.2.1 ≤ 14 * s1.2.1 + 3 * (10 - (d + 1)) := n1
            injection x2 with x2
            subst x2
            refine ⟨g1 ++ [(9, 0)], (Go.from G1 (show s.1 ≤ we L b (skp L b s.1) by omega)).add (o := 9) (by decide), by show s.1 < s1.1; omega, c1, ?_, fun w st hst => ?_⟩
            · rw [List.length_append]
              show 3 * (g1.length + 1) + 33 + 14 * s.2.1 ≤ 14 * s1.2.1 + 3 * (10 - d)
              omega
            · obtain ⟨x, hx, ex⟩ := v1 w st (by omega)
              refine ⟨1 - x, ?_, ?_⟩
              · rcases hx with rfl | rfl
                · exact .inr (by decide)
                · exact .inl (by decide)
              · rw [ev_some ex]
                exact evL_not w x st
        · rw [if_neg h2] at h
          obtain ⟨g1, G1, l1, c1, n1, v1⟩ := rCmp_ok h hs hc
          have l1 : skp L b s.1 < s'.1 := l1
          have c1 : s.2.1 + 3 ≤ s'.2.1 := c1
          have n1 : g1.length + 3 + 2 * s.2.1 = 2 * s'.2.1 := n1
          exact ⟨g1, Go.from G1 gs, by omega, c1, by omega, fun w st hst => v1 w st (by omega)⟩
theorem rTF_er (hL : L ≤ 400) (n : Nat) : ∀ d, d ≤ 10 → (2 * (10 - d) + 2 ≤ n → FE L ((rTF L b n).1 d)) ∧ (2 * (10 - d) + 1 ≤ n → FE L ((rTF L b n).2 d)) := by
  induction n with
  | zero => exact fun d _ => ⟨fun h => (by omega), fun h => (by omega)⟩
  | succ n ih =>
    intro d hd
    refine ⟨fun hn s e h hp hc => ?_, fun hn s e h hp hc => ?_⟩
    · have h : rTest L b (rTF L b n).2 d s = .inl e := h
      unfold rTest at h
      have hE := (ih d hd).2 (by omega)
      cases hV : (rTF L b n).2 d s with
      | inl x =>
        rw [hV, sb_l] at h
        injection h with h
        subst h
        exact hE _ _ hV hp hc
      | inr s1 =>
        rw [hV, sb_r] at h
        obtain ⟨g1, G1, l1, c1, n1, v1⟩ := (rTF_ok n d hd).2 _ _ hV hp hc
        exact rTL_er (rTF_ok n d hd).2 hE h G1.2.1 G1.2.2.2.1 (by omega)
    · have h : rFact L b (rTF L b n).1 (rTF L b n).2 d s = .inl e := h
      have hs := skp_le b hp
      unfold rFact at h
      by_cases h1 : skp L b s.1 < L ∧ b (skp L b s.1) = 91
      · rw [if_pos h1] at h
        by_cases d10 : 10 ≤ d
        · rw [if_pos d10] at h
          injection h with h
          omega
        · rw [if_neg d10] at h
          cases hV : (rTF L b n).1 (d + 1) (rAt s (skp L b s.1 + 1)) with
          | inl x =>
            rw [hV, sb_l] at h
            injection h with h
            subst h
            exact (ih (d + 1) (by omega)).1 (by omega) _ _ hV (show skp L b s.1 + 1 ≤ L by omega) hc
          | inr s1 =>
            rw [hV, sb_r] at h
            obtain ⟨g1, G1, l1, c1, n1, v1⟩ := (rTF_ok n (d + 1) (by omega)).1 _ _ hV (show skp L b s.1 + 1 ≤ L by omega) hc
            have := skp_le b G1.2.1
            by_cases h2 : skp L b s1.1 < L ∧ b (skp L b s1.1) = 93
            · rw [if_pos h2] at h; cases h
            · rw [if_neg h2] at h
              injection h with h
              omega
      · rw [if_neg h1] at h
        by_cases h2 : isWd L b wNot (skp L b s.1) = true
        · rw [if_pos h2] at h
          by_cases d10 : 10 ≤ d
          · rw [if_pos d10] at h
            injection h with h
            omega
          · rw [if_neg d10] at h
            cases hV : (rTF L b n).2 (d + 1) (rAt s (we L b (skp L b s.1))) with
            | inl x =>
              rw [hV, sb_l] at h
              injection h with h
              subst h
              exact (ih (d + 1) (by omega)).2 (by omega) _ _ hV (we_le b hs) hc
            | inr s1 =>
              rw [hV, sb_r] at h
              cases h
        · rw [if_neg h2] at h
          exact rCmp_er hL h hs hc
end RPOST
