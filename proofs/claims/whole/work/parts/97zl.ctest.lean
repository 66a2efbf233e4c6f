/-! Rules: the class's tests. -/
def cmpC (μ : Mm) : Option Mm :=
    ((ob μ 147 6).bind fun _ =>
    ((f_X6_readSum μ 147).bind fun μ15 =>
    ((ob μ15 147 6).bind fun _ =>
    (bd (f_X6_readSign μ15 147) fun v17 μ16 =>
    (nm v17 fun x18 =>
    ((ob μ16 147 6).bind fun _ =>
    ((f_X6_readSum μ16 147).bind fun μ19 =>
    ((ob μ19 147 6).bind fun _ =>
    ((f_X6_emit μ19 147 x18).bind fun μ20 =>
    (some μ20))))))))))
section CTEST
variable {n sl : Nat} {U : Nat → va_E} {S : Nat → Nat × Nat × Nat} {σ1 : Sg} {T : Tc} {L : Nat} {b : Nat → Nat}
theorem c_signD (hX : TXc T L b) {p c e : Nat} {es : List (Nat × Nat)} (hp : p ≤ L) (he : e ≠ 0) (h4 : e < 4000) : ∃ x q c', q ≤ L ∧ f_X6_readSign (cn n sl U S (cX T p c es e) σ1) 147 = some (x, cn n sl U S (cX T q c' es e) σ1) := by
  have hL := hX.1
  have hX' := hX.rc c es
  have hs := skp_le b hp
  unfold f_X6_readSign
  rw [x147_0, Option.bind_some, x129_o, Option.bind_some, y_sk hX' hp, bd_some, nm_q, x147_0, Option.bind_some, x129_o, Option.bind_some, y_byD _ he (by omega), bd_some, nm_q, if_pos rfl, x147_0, Option.bind_some, x129_o, Option.bind_some, y_byD _ he (by omega), bd_some, if_pos rfl, nm_q, x147_0, Option.bind_some, Option.bind_some, y_pl, Option.bind_some, x129_o, Option.bind_some, y_at hX' _ _ (by omega), bd_some]
  by_cases h : sgn L b (skp L b p) = 61
  · have hk := ((sgn_c (c := 61) hX (by decide)).1 h).1
    rw [if_pos h, nm_q, if_pos rfl, if_pos rfl, if_neg (show ¬ (1 : Int32) = 0 by decide), if_neg (show ¬ (1 : Int32) = 0 by decide), x147_0, Option.bind_some, y_pl, Option.bind_some, lit_1, nI_add, y_pp, Option.bind_some, x147_o, Option.bind_some, r_partD he h4, Option.bind_some, if_pos rfl, if_pos rfl]
    exact ⟨_, _, _, by omega, rfl⟩
  · rw [if_neg h, nm_q, if_pos rfl, if_pos rfl, if_pos rfl, x147_0, Option.bind_some, x129_o, Option.bind_some, y_f1 _ he (by omega), Option.bind_some]
    exact ⟨_, _, c, hs, rfl⟩
theorem c_sign (hX : TXc T L b) {p c : Nat} {es : List (Nat × Nat)} (hp : p ≤ L) (hc : c ≤ 60) : f_X6_readSign (cn n sl U S (cX T p c es 0) σ1) 147 = if rSg L b (skp L b p) = 0 then some (100022, cn n sl U S (cX T (skp L b p) c es (1 + 8 * skp L b p + 0)) σ1) else some (cdE (rSg L b (skp L b p), 0), cn n sl U S (cX T (if rSg L b (skp L b p) = 5 ∨ rSg L b (skp L b p) = 7 then skp L b p + 2 else skp L b p + 1) (c + 1) es (if c = 60 then 1 + 8 * skp L b p + 3 else 0)) σ1) := by
  have hL := hX.1
  have hX' := hX.rc c es
  have hs := skp_le b hp
  have i0 : (0 : Int32) = 0 := rfl
  have i1 : ¬ (1 : Int32) = 0 := by decide
  unfold f_X6_readSign
  rw [x147_0, Option.bind_some, x129_o, Option.bind_some, y_sk hX' hp, bd_some, nm_q, x147_0, Option.bind_some, x129_o, Option.bind_some, show (60 : Int32) = nI 60 from rfl, y_by hX' hs (by decide), skp_i]
  by_cases h60 : skp L b p < L ∧ b (skp L b p) = 60
  · rw [if_pos h60, bd_some, nm_q, if_neg i1, nm_q, x147_0, Option.bind_some, Option.bind_some, y_pl, Option.bind_some, x129_o, Option.bind_some, y_at hX' _ _ (by omega), bd_some]
    by_cases h61 : skp L b p + 1 < L ∧ b (skp L b p + 1) = 61
    · have rs : rSg L b (skp L b p) = 5 := by unfold rSg; rw [if_pos h60.1, if_neg (by omega), if_pos h60.2, if_pos h61]
      rw [rs, if_pos (show sgn L b (skp L b p + 1) = 61 from (sgn_c (c := 61) hX (by decide)).2 h61), nm_q, if_neg i1, if_neg i1, x147_0, Option.bind_some, y_pl, Option.bind_some, show (1 : Int32) = nI 1 from rfl, nI_add, y_pp, Option.bind_some, x147_o, Option.bind_some, r_part hc, Option.bind_some, if_neg (show ¬ nI 1 = 0 by decide), if_neg (show ¬ nI 1 = 0 by decide), if_neg (show ¬ 5 = 0 by decide), if_pos (show 5 = 5 ∨ 5 = 7 from .inl rfl)]
      rfl
    · have rs : rSg L b (skp L b p) = 4 := by unfold rSg; rw [if_pos h60.1, if_neg (by omega), if_pos h60.2, if_neg h61]
      rw [rs, if_neg (show ¬ sgn L b (skp L b p + 1) = 61 from fun x => h61 ((sgn_c (c := 61) hX (by decide)).1 x)), nm_q, if_neg i1, if_pos i0, x147_o, Option.bind_some, r_part hc, Option.bind_some, if_neg i1, if_pos i0, if_neg (show ¬ 4 = 0 by decide), if_neg (show ¬ (4 = 5 ∨ 4 = 7) by decide)]
      rfl
  · rw [if_neg h60, bd_some, nm_q, if_pos i0, x147_0, Option.bind_some, x129_o, Option.bind_some, show (62 : Int32) = nI 62 from rfl, y_by hX' hs (by decide), skp_i]
    by_cases h62 : skp L b p < L ∧ b (skp L b p) = 62
    · rw [if_pos h62, bd_some, if_neg i1, nm_q, x147_0, Option.bind_some, Option.bind_some, y_pl, Option.bind_some, x129_o, Option.bind_some, y_at hX' _ _ (by omega), bd_some]
      by_cases h61 : skp L b p + 1 < L ∧ b (skp L b p + 1) = 61
      · have rs : rSg L b (skp L b p) = 7 := by unfold rSg; rw [if_pos h62.1, if_neg (by omega), if_neg (by omega), if_pos h62.2, if_pos h61]
        rw [rs, if_pos (show sgn L b (skp L b p + 1) = 61 from (sgn_c (c := 61) hX (by decide)).2 h61), nm_q, if_pos i0, if_neg i1, if_neg i1, x147_0, Option.bind_some, y_pl, Option.bind_some, show (1 : Int32) = nI 1 from rfl, nI_add, y_pp, Option.bind_some, x147_o, Option.bind_some, r_part hc, Option.bind_some, if_pos i0, if_neg (show ¬ nI 1 = 0 by decide), if_neg (show ¬ nI 1 = 0 by decide), if_neg (show ¬ 7 = 0 by decide), if_pos (show 7 = 5 ∨ 7 = 7 from .inr rfl)]
        rfl
      · have rs : rSg L b (skp L b p) = 8 := by unfold rSg; rw [if_pos h62.1, if_neg (by omega), if_neg (by omega), if_pos h62.2, if_neg h61]
        rw [rs, if_neg (show ¬ sgn L b (skp L b p + 1) = 61 from fun x => h61 ((sgn_c (c := 61) hX (by decide)).1 x)), nm_q, if_pos i0, if_neg i1, if_pos i0, x147_o, Option.bind_some, r_part hc, Option.bind_some, if_pos i0, if_neg i1, if_pos i0, if_neg (show ¬ 8 = 0 by decide), if_neg (show ¬ (8 = 5 ∨ 8 = 7) by decide)]
        rfl
    · rw [if_neg h62, bd_some, if_pos i0, nm_q, x147_0, Option.bind_some, Option.bind_some, y_pl, Option.bind_some, x129_o, Option.bind_some, y_at hX' _ _ (by omega), bd_some]
      by_cases h61 : skp L b p < L ∧ b (skp L b p) = 61
      · have rs : rSg L b (skp L b p) = 6 := by unfold rSg; rw [if_pos h61.1, if_pos h61.2]
        rw [rs, if_pos (show sgn L b (skp L b p) = 61 from (sgn_c (c := 61) hX (by decide)).2 h61), nm_q, if_pos i0, if_pos i0, if_neg i1, if_neg i1, x147_0, Option.bind_some, y_pl, Option.bind_some, show (1 : Int32) = nI 1 from rfl, nI_add, y_pp, Option.bind_some, x147_o, Option.bind_some, r_part hc, Option.bind_some, if_pos i0, if_pos i0, if_neg (show ¬ 6 = 0 by decide), if_neg (show ¬ (6 = 5 ∨ 6 = 7) by decide)]
        rfl
      · have rs : rSg L b (skp L b p) = 0 := by
          unfold rSg
          by_cases hk : skp L b p < L
          · rw [if_pos hk, if_neg (fun x => h61 ⟨hk, x⟩), if_neg (fun x => h60 ⟨hk, x⟩), if_neg (fun x => h62 ⟨hk, x⟩)]
          · rw [if_neg hk]
        rw [rs, if_neg (show ¬ sgn L b (skp L b p) = 61 from fun x => h61 ((sgn_c (c := 61) hX (by decide)).1 x)), nm_q, if_pos i0, if_pos i0, if_pos i0, x147_0, Option.bind_some, x129_o, Option.bind_some, show f_X9_fail (cn n sl U S (cX T (skp L b p) c es 0) σ1) 129 (nI (skp L b p)) 0 = _ from y_f0 (k := 0) _ _, Option.bind_some, if_pos (show 0 = 0 from rfl)]
theorem c_cmp (hX : TXc T L b) {p c e : Nat} {es : List (Nat × Nat)} (hp : p ≤ L) (he : e < 4000) (hJ : e = 0 → c ≤ 60 ∧ 3 * es.length ≤ 14 * c) : CSim n sl U S σ1 T L (rCmp L b) cmpC p c es e := by
  have hL := hX.1
  obtain ⟨p1, c1, es1, e1, v1, v2, v3, v4⟩ := c_sum (n := n) (sl := sl) (U := U) (S := S) (σ1 := σ1) hX hp he hJ
  have v1 : f_X6_readSum (cn n sl U S (cX T p c es e) σ1) 147 = some (cn n sl U S (cX T p1 c1 es1 e1) σ1) := v1
  -- behind a fault
  have dead : ∀ p1 c1 es1 e1, p1 ≤ L → e1 ≠ 0 → e1 < 4000 → f_X6_readSum (cn n sl U S (cX T p c es e) σ1) 147 = some (cn n sl U S (cX T p1 c1 es1 e1) σ1) → ∃ p' c' es', cmpC (cn n sl U S (cX T p c es e) σ1) = some (cn n sl U S (cX T p' c' es' e1) σ1) ∧ p' ≤ L := by
    intro p1 c1 es1 e1 h1 h2 h3 h4
    obtain ⟨x, q, c2, g1, g2⟩ := c_signD (n := n) (sl := sl) (U := U) (S := S) (σ1 := σ1) hX (c := c1) (es := es1) h1 h2 h3
    obtain ⟨p3, c3, es3, e3, s1, s2, s3, s4⟩ := c_sum (n := n) (sl := sl) (U := U) (S := S) (σ1 := σ1) hX (c := c2) (es := es1) g1 h3 (fun h => absurd h h2)
    have s1 : f_X6_readSum (cn n sl U S (cX T q c2 es1 e1) σ1) 147 = some (cn n sl U S (cX T p3 c3 es3 e3) σ1) := s1
    have e3e : e3 = e1 := by rcases s4 with ⟨_, h⟩ | ⟨h, _⟩ | ⟨h, _⟩; exact h; exact absurd h h2; exact absurd h h2
    subst e3e
    refine ⟨p3, c3, es3, ?_, s2⟩
    unfold cmpC
    rw [x147_o, Option.bind_some, h4, Option.bind_some, x147_o, Option.bind_some, g2, bd_some, nm_q, x147_o, Option.bind_some, s1, Option.bind_some, x147_o, Option.bind_some, r_emitD h2 h3, Option.bind_some]
  rcases v4 with ⟨h0, he1⟩ | ⟨h0, ne, sv⟩ | ⟨h0, e10, sv⟩
  · obtain ⟨p', c', es', d1, d2⟩ := dead p1 c1 es1 e1 v2 (by omega) v3 v1
    exact ⟨p', c', es', e1, d1, d2, v3, .inl ⟨h0, he1⟩⟩
  · obtain ⟨p', c', es', d1, d2⟩ := dead p1 c1 es1 e1 v2 ne v3 v1
    exact ⟨p', c', es', e1, d1, d2, v3, .inr (.inl ⟨h0, ne, by unfold rCmp; rw [sv, sb_l]⟩)⟩
  · subst h0
    subst e10
    obtain ⟨c60, J⟩ := hJ rfl
    obtain ⟨g, G, l1, c1', n1, -, ek⟩ := rSum_ok sv hp c60
    have l1 : p < p1 := l1
    have cc : c1 ≤ 60 := G.2.2.2.1
    have n1 : g.length + 1 + 2 * c = 2 * c1 := n1
    have c1' : c < c1 := c1'
    have ek : p1 = skp L b p1 := ek
    have ln : es1.length = es.length + g.length := by
      have : es1 = es ++ g := G.2.2.2.2.1
      rw [this, List.length_append]
    have rc : rCmp L b (p, c, es) = if rSg L b p1 = 0 then .inl (1 + 8 * p1 + 0) else if c1 = 60 then .inl (1 + 8 * p1 + 3) else sb (rSum L b ((if rSg L b p1 = 5 ∨ rSg L b p1 = 7 then p1 + 2 else p1 + 1), c1 + 1, es1)) fun s2 => .inr (rAdd s2 (rSg L b p1)) := by
      unfold rCmp
      rw [sv, sb_r]
    have sg := c_sign (n := n) (sl := sl) (U := U) (S := S) (σ1 := σ1) hX (es := es1) v2 cc
    rw [← ek] at sg
    by_cases r0 : rSg L b p1 = 0
    · rw [if_pos r0] at sg rc
      obtain ⟨p3, c3, es3, e3, s1, s2, s3, s4⟩ := c_sum (n := n) (sl := sl) (U := U) (S := S) (σ1 := σ1) hX (c := c1) (es := es1) (e := 1 + 8 * p1 + 0) v2 (by omega) (fun h => by omega)
      have s1 : f_X6_readSum (cn n sl U S (cX T p1 c1 es1 (1 + 8 * p1 + 0)) σ1) 147 = some (cn n sl U S (cX T p3 c3 es3 e3) σ1) := s1
      have e3e : e3 = 1 + 8 * p1 + 0 := by rcases s4 with ⟨_, h⟩ | ⟨h, _⟩ | ⟨h, _⟩; exact h; omega; omega
      subst e3e
      refine ⟨p3, c3, es3, _, ?_, s2, s3, .inr (.inl ⟨rfl, by omega, rc⟩)⟩
      unfold cmpC
      rw [x147_o, Option.bind_some, v1, Option.bind_some, x147_o, Option.bind_some, sg, bd_some, nm_q, x147_o, Option.bind_some, s1, Option.bind_some, x147_o, Option.bind_some, r_emitD (by omega) s3, Option.bind_some]
    · obtain ⟨k1, k2, k3, k4⟩ := rSg_b r0
      obtain ⟨q, hq⟩ : ∃ q, q = if rSg L b p1 = 5 ∨ rSg L b p1 = 7 then p1 + 2 else p1 + 1 := ⟨_, rfl⟩
      have ql : p1 < q ∧ q ≤ L := by
        rw [hq]
        by_cases c : rSg L b p1 = 5 ∨ rSg L b p1 = 7
        · rw [if_pos c]; have := k4 c; omega
        · rw [if_neg c]; omega
      rw [if_neg r0, ← hq] at sg rc
      by_cases h60 : c1 = 60
      · rw [if_pos h60] at sg rc
        obtain ⟨p3, c3, es3, e3, s1, s2, s3, s4⟩ := c_sum (n := n) (sl := sl) (U := U) (S := S) (σ1 := σ1) hX (c := c1 + 1) (es := es1) (e := 1 + 8 * p1 + 3) ql.2 (by omega) (fun h => by omega)
        have s1 : f_X6_readSum (cn n sl U S (cX T q (c1 + 1) es1 (1 + 8 * p1 + 3)) σ1) 147 = some (cn n sl U S (cX T p3 c3 es3 e3) σ1) := s1
        have e3e : e3 = 1 + 8 * p1 + 3 := by rcases s4 with ⟨_, h⟩ | ⟨h, _⟩ | ⟨h, _⟩; exact h; omega; omega
        subst e3e
        refine ⟨p3, c3, es3, _, ?_, s2, s3, .inr (.inl ⟨rfl, by omega, rc⟩)⟩
        unfold cmpC
        rw [x147_o, Option.bind_some, v1, Option.bind_some, x147_o, Option.bind_some, sg, bd_some, nm_q, x147_o, Option.bind_some, s1, Option.bind_some, x147_o, Option.bind_some, r_emitD (by omega) s3, Option.bind_some]
      · rw [if_neg h60] at sg rc
        obtain ⟨p3, c3, es3, e3, s1, s2, s3, s4⟩ := c_sum (n := n) (sl := sl) (U := U) (S := S) (σ1 := σ1) hX (c := c1 + 1) (es := es1) (e := 0) ql.2 (by omega) (fun _ => ⟨by omega, by omega⟩)
        have s1 : f_X6_readSum (cn n sl U S (cX T q (c1 + 1) es1 0) σ1) 147 = some (cn n sl U S (cX T p3 c3 es3 e3) σ1) := s1
        rcases s4 with ⟨h, -⟩ | ⟨-, ne, sv2⟩ | ⟨-, e30, sv2⟩
        · exact absurd rfl h
        · rw [sv2, sb_l] at rc
          refine ⟨p3, c3, es3, e3, ?_, s2, s3, .inr (.inl ⟨rfl, ne, rc⟩)⟩
          unfold cmpC
          rw [x147_o, Option.bind_some, v1, Option.bind_some, x147_o, Option.bind_some, sg, bd_some, nm_q, x147_o, Option.bind_some, s1, Option.bind_some, x147_o, Option.bind_some, r_emitD ne s3, Option.bind_some]
        · subst e30
          rw [sv2, sb_r] at rc
          obtain ⟨g2, G2, l2, c2', n2, -, -⟩ := rSum_ok sv2 ql.2 (show c1 + 1 ≤ 60 by omega)
          have n2 : g2.length + 1 + 2 * (c1 + 1) = 2 * c3 := n2
          have cc3 : c3 ≤ 60 := G2.2.2.2.1
          have ln3 : es3.length = es1.length + g2.length := by
            have : es3 = es1 ++ g2 := G2.2.2.2.2.1
            rw [this, List.length_append]
          refine ⟨p3, c3, es3 ++ [(rSg L b p1, 0)], 0, ?_, s2, by omega, .inr (.inr ⟨rfl, rfl, rc⟩)⟩
          unfold cmpC
          rw [x147_o, Option.bind_some, v1, Option.bind_some, x147_o, Option.bind_some, sg, bd_some, nm_q, x147_o, Option.bind_some, s1, Option.bind_some, x147_o, Option.bind_some, r_emit _ (by omega), Option.bind_some]
theorem r_tw (hX : TXc T L b) {a p c : Nat} {es : List (Nat × Nat)} (w : List Nat) (ha : a < 32) (hp : p ≤ L) (h1 : sByt a = fltW [w]) (h2 : ∀ w' ∈ [w], w'.length < 200 ∧ ∀ c ∈ w', c ≠ 32 ∧ c < 128) : f_X9_takesWord (cn n sl U S (cX T p c es 0) σ1) 129 a = if isWd L b w (skp L b p) = true then some (1, cn n sl U S (cX T (we L b (skp L b p)) c es 0) σ1) else some (0, cn n sl U S (cX T (skp L b p) c es 0) σ1) := by
  have hX' := hX.rc c es
  have hs := skp_le b hp
  unfold f_X9_takesWord
  rw [x129_o, Option.bind_some, y_sk hX' hp, bd_some, x129_o, Option.bind_some, y_s0, bd_some, if_neg (by decide), x129_o, Option.bind_some, y_wd hX' 0 [w] ha hs h1 h2, fw]
  by_cases h : isWd L b w (skp L b p) = true
  · rw [if_pos h, if_pos h, if_pos (show 0 < [w].length from Nat.zero_lt_one), bd_some, if_pos (show nI 0 = 0 from rfl), if_pos (by decide)]
  · rw [if_neg h, if_neg h, if_neg (show ¬ fw L b [] (skp L b p) + 1 < [w].length from by show ¬ 0 + 1 < 1; omega), bd_some, if_neg (by decide), if_pos (by decide)]
theorem r_twD (hX : TXc T L b) {p c e : Nat} {es : List (Nat × Nat)} (hp : p ≤ L) (he : e ≠ 0) (h4 : e < 4000) (a : Nat) : f_X9_takesWord (cn n sl U S (cX T p c es e) σ1) 129 a = some (0, cn n sl U S (cX T (skp L b p) c es e) σ1) := by
  unfold f_X9_takesWord
  rw [x129_o, Option.bind_some, y_sk (hX.rc c es) hp, bd_some, x129_o, Option.bind_some, y_s1 _ he (by omega), bd_some, if_pos rfl, if_pos (by decide)]
end CTEST
