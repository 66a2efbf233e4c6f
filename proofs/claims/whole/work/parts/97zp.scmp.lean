/-! Rules: the reference's comparisons. -/
section SCMP
variable {σ : Sg} {L r : Nat} {b : Nat → Nat}
theorem s_cmpS (hX : TXs σ L b) {p c e p1 c1 e1 e2 : Nat} {es es1 : List (Nat × Nat)} (hp : p1 ≤ L) (ρ : Mm) (τ : Nat → va_E) (hsum : f_X12_sum (mem ρ τ (sX σ r p c es e)) 188 = some (mem ρ τ (sX σ r p1 c1 es1 e1))) (hcnt : f_X12_isCounted (mem ρ τ (sX σ r p1 c1 es1 e1)) 188 (nI p1) = some (mem ρ τ (sX σ r p1 (c1 + 1) es1 e2))) : f_X12_compared (mem ρ τ (sX σ r p c es e)) 188 = if rSg L b p1 = 0 then
    ((f_X12_fails (mem ρ τ (sX σ r p1 c1 es1 e1)) 188 (0 : Int32) (nI p1)).bind fun μ169 =>
    (some μ169)) else
    ((f_X12_sum (mem ρ τ (sX σ r (if rSg L b p1 = 5 ∨ rSg L b p1 = 7 then p1 + 2 else p1 + 1) (c1 + 1) es1 e2)) 188).bind fun μ47 =>
    ((ob μ47 188 12).bind fun _ =>
    ((f_X12_entry μ47 188 (nI (rSg L b p1)) (0 : Int32)).bind fun μ51 =>
    (some μ51)))) := by
  have hL := hX.1
  have ch := fun p x hx => sgn_s (i := p) (c := x) hX hx
  have sg : f_X12_sign (mem ρ τ (sX σ r p1 c1 es1 e1)) 188 = some (sgn L b p1, mem ρ τ (sX σ r p1 c1 es1 e1)) := z_sg (hX.rc r c1 es1) e1 (by omega)
  have sg2 : f_X12_sign (mem ρ τ (sX σ r (p1 + 1) (c1 + 1) es1 e2)) 188 = some (sgn L b (p1 + 1), mem ρ τ (sX σ r (p1 + 1) (c1 + 1) es1 e2)) := z_sg (hX.rc r (c1 + 1) es1) e2 (by omega)
  have i0 : (0 : Int32) = 0 := rfl
  have i1 : ¬ nI 1 = 0 := by decide
  have n61 : ∀ x : Int32, x = 60 ∨ x = 62 → ¬ x = 61 := by
    rintro x (rfl | rfl) <;> decide
  have n62 : ¬ (62 : Int32) = 60 := by decide
  unfold f_X12_compared
  rw [ob_mem, Option.bind_some, hsum, Option.bind_some, ob_mem, Option.bind_some, sg, bd_some, nm_q]
  by_cases h60 : p1 < L ∧ b p1 = 60
  · have s60 : sgn L b p1 = 60 := (ch p1 60 (by decide)).2 h60
    have m61 : ¬ sgn L b p1 = 61 := n61 _ (.inl s60)
    rw [if_pos s60, z_pl, Option.bind_some, ob_mem, Option.bind_some, hcnt, Option.bind_some, z_pl, Option.bind_some, lit_1, nI_add, z_pp, Option.bind_some, if_neg m61, ob_mem, Option.bind_some, sg2, bd_some]
    by_cases h61 : p1 + 1 < L ∧ b (p1 + 1) = 61
    · have rs : rSg L b p1 = 5 := by unfold rSg; rw [if_pos h60.1, if_neg (by omega), if_pos h60.2, if_pos h61]
      rw [if_pos (show sgn L b (p1 + 1) = 61 from (ch (p1 + 1) 61 (by decide)).2 h61), nm_q, z_pl, Option.bind_some, if_neg i1, nI_add, z_pp, Option.bind_some, ob_mem, Option.bind_some, rs, if_neg (show ¬ 5 = 0 by decide), if_pos (show 5 = 5 ∨ 5 = 7 from .inl rfl)]
      simp only [if_neg m61, if_pos s60, if_neg i1]
      rfl
    · have rs : rSg L b p1 = 4 := by unfold rSg; rw [if_pos h60.1, if_neg (by omega), if_pos h60.2, if_neg h61]
      rw [if_neg (show ¬ sgn L b (p1 + 1) = 61 from fun x => h61 ((ch (p1 + 1) 61 (by decide)).1 x)), nm_q, z_pl, Option.bind_some, if_pos i0, add0, z_pp, Option.bind_some, ob_mem, Option.bind_some, rs, if_neg (show ¬ 4 = 0 by decide), if_neg (show ¬ (4 = 5 ∨ 4 = 7) by decide)]
      simp only [if_neg m61, if_pos s60, if_pos i0]
      rfl
  · have m60 : ¬ sgn L b p1 = 60 := fun x => h60 ((ch p1 60 (by decide)).1 x)
    rw [if_neg m60]
    by_cases h61 : p1 < L ∧ b p1 = 61
    · have s61 : sgn L b p1 = 61 := (ch p1 61 (by decide)).2 h61
      have rs : rSg L b p1 = 6 := by unfold rSg; rw [if_pos h61.1, if_pos h61.2]
      rw [if_pos s61, z_pl, Option.bind_some, ob_mem, Option.bind_some, hcnt, Option.bind_some, z_pl, Option.bind_some, lit_1, nI_add, z_pp, Option.bind_some, if_pos s61, nm_q, z_pl, Option.bind_some, if_pos i0, add0, z_pp, Option.bind_some, ob_mem, Option.bind_some, rs, if_neg (show ¬ 6 = 0 by decide), if_neg (show ¬ (6 = 5 ∨ 6 = 7) by decide)]
      simp only [if_pos s61]
      rfl
    · have m61 : ¬ sgn L b p1 = 61 := fun x => h61 ((ch p1 61 (by decide)).1 x)
      rw [if_neg m61]
      by_cases h62 : p1 < L ∧ b p1 = 62
      · have s62 : sgn L b p1 = 62 := (ch p1 62 (by decide)).2 h62
        rw [if_pos s62, z_pl, Option.bind_some, ob_mem, Option.bind_some, hcnt, Option.bind_some, z_pl, Option.bind_some, lit_1, nI_add, z_pp, Option.bind_some, if_neg m61, ob_mem, Option.bind_some, sg2, bd_some]
        by_cases h61' : p1 + 1 < L ∧ b (p1 + 1) = 61
        · have rs : rSg L b p1 = 7 := by unfold rSg; rw [if_pos h62.1, if_neg (by omega), if_neg (by omega), if_pos h62.2, if_pos h61']
          rw [if_pos (show sgn L b (p1 + 1) = 61 from (ch (p1 + 1) 61 (by decide)).2 h61'), nm_q, z_pl, Option.bind_some, if_neg i1, nI_add, z_pp, Option.bind_some, ob_mem, Option.bind_some, rs, if_neg (show ¬ 7 = 0 by decide), if_pos (show 7 = 5 ∨ 7 = 7 from .inr rfl)]
          simp only [if_neg m61, if_neg m60, if_neg i1]
          rfl
        · have rs : rSg L b p1 = 8 := by unfold rSg; rw [if_pos h62.1, if_neg (by omega), if_neg (by omega), if_pos h62.2, if_neg h61']
          rw [if_neg (show ¬ sgn L b (p1 + 1) = 61 from fun x => h61' ((ch (p1 + 1) 61 (by decide)).1 x)), nm_q, z_pl, Option.bind_some, if_pos i0, add0, z_pp, Option.bind_some, ob_mem, Option.bind_some, rs, if_neg (show ¬ 8 = 0 by decide), if_neg (show ¬ (8 = 5 ∨ 8 = 7) by decide)]
          simp only [if_neg m61, if_neg m60, if_pos i0]
          rfl
      · have m62 : ¬ sgn L b p1 = 62 := fun x => h62 ((ch p1 62 (by decide)).1 x)
        have rs : rSg L b p1 = 0 := by
          unfold rSg
          by_cases hk : p1 < L
          · rw [if_pos hk, if_neg (fun x => h61 ⟨hk, x⟩), if_neg (fun x => h60 ⟨hk, x⟩), if_neg (fun x => h62 ⟨hk, x⟩)]
          · rw [if_neg hk]
        rw [if_neg m62, z_pl, Option.bind_some, ob_mem, Option.bind_some, rs, if_pos rfl]
theorem s_cmp (hX : TXs σ L b) (hK : SK σ r) {p c e : Nat} {es : List (Nat × Nat)} (hp : p ≤ L) (he : e < 4000) (hJ : e = 0 → c ≤ 60 ∧ 3 * es.length ≤ 14 * c) : SSim σ r L (rCmp L b) (fun μ => f_X12_compared μ 188) p c es e := by
  have hL := hX.1
  obtain ⟨p1, c1, es1, e1, v1, v2, v3, v4⟩ := s_sum hX hK hp he hJ
  have v1 : ∀ ρ τ, f_X12_sum (mem ρ τ (sX σ r p c es e)) 188 = some (mem ρ τ (sX σ r p1 c1 es1 e1)) := v1
  have dead : e1 ≠ 0 → ∃ p' c' es', (∀ ρ τ, f_X12_compared (mem ρ τ (sX σ r p c es e)) 188 = some (mem ρ τ (sX σ r p' c' es' e1))) ∧ p' ≤ L := by
    intro ne
    have st := fun ρ τ => s_cmpS hX v2 ρ τ (v1 ρ τ) (s_countD ne v3 (nI p1))
    by_cases r0 : rSg L b p1 = 0
    · refine ⟨p1, c1, es1, fun ρ τ => ?_, v2⟩
      rw [st, if_pos r0, z_fs1 _ ne (by omega), Option.bind_some]
    · obtain ⟨k1, k2, k3, k4⟩ := rSg_b r0
      obtain ⟨q, hq⟩ : ∃ q, q = if rSg L b p1 = 5 ∨ rSg L b p1 = 7 then p1 + 2 else p1 + 1 := ⟨_, rfl⟩
      have ql : q ≤ L := by
        rw [hq]
        by_cases c : rSg L b p1 = 5 ∨ rSg L b p1 = 7
        · rw [if_pos c]; have := k4 c; omega
        · rw [if_neg c]; omega
      obtain ⟨p3, c3, es3, e3, s1, s2, s3, s4⟩ := s_sum hX hK (c := c1 + 1) (es := es1) ql v3 (fun h => absurd h ne)
      have s1 : ∀ ρ τ, f_X12_sum (mem ρ τ (sX σ r q (c1 + 1) es1 e1)) 188 = some (mem ρ τ (sX σ r p3 c3 es3 e3)) := s1
      have e3e : e3 = e1 := by rcases s4 with ⟨_, h⟩ | ⟨h, _⟩ | ⟨h, _⟩; exact h; exact absurd h ne; exact absurd h ne
      subst e3e
      refine ⟨p3, c3, es3, fun ρ τ => ?_, s2⟩
      rw [st, if_neg r0, ← hq, s1, Option.bind_some, ob_mem, Option.bind_some, s_entryD ne v3, Option.bind_some]
  rcases v4 with ⟨h0, he1⟩ | ⟨h0, ne, sv⟩ | ⟨h0, e10, sv⟩
  · obtain ⟨p', c', es', d1, d2⟩ := dead (by omega)
    exact ⟨p', c', es', e1, d1, d2, v3, .inl ⟨h0, he1⟩⟩
  · obtain ⟨p', c', es', d1, d2⟩ := dead ne
    exact ⟨p', c', es', e1, d1, d2, v3, .inr (.inl ⟨h0, ne, by unfold rCmp; rw [sv, sb_l]⟩)⟩
  · subst h0
    subst e10
    obtain ⟨c60, J⟩ := hJ rfl
    obtain ⟨g, G, l1, c1', n1, -, ek⟩ := rSum_ok sv hp c60
    have cc : c1 ≤ 60 := G.2.2.2.1
    have n1 : g.length + 1 + 2 * c = 2 * c1 := n1
    have c1' : c < c1 := c1'
    have ln : es1.length = es.length + g.length := by
      have : es1 = es ++ g := G.2.2.2.2.1
      rw [this, List.length_append]
    have rc : rCmp L b (p, c, es) = if rSg L b p1 = 0 then .inl (1 + 8 * p1 + 0) else if c1 = 60 then .inl (1 + 8 * p1 + 3) else sb (rSum L b ((if rSg L b p1 = 5 ∨ rSg L b p1 = 7 then p1 + 2 else p1 + 1), c1 + 1, es1)) fun s2 => .inr (rAdd s2 (rSg L b p1)) := by
      unfold rCmp
      rw [sv, sb_r]
    have st := fun ρ τ => s_cmpS hX v2 ρ τ (v1 ρ τ) (s_count cc)
    by_cases r0 : rSg L b p1 = 0
    · rw [if_pos r0] at rc
      refine ⟨p1, c1, es1, 1 + 8 * p1 + 0, fun ρ τ => ?_, v2, by omega, .inr (.inl ⟨rfl, by omega, rc⟩)⟩
      refine (st ρ τ).trans ?_
      rw [if_pos r0, show f_X12_fails (mem ρ τ (sX σ r p1 c1 es1 0)) 188 0 (nI p1) = _ from z_fs0 (k := 0) _ _, Option.bind_some]
    · obtain ⟨k1, k2, k3, k4⟩ := rSg_b r0
      obtain ⟨q, hq⟩ : ∃ q, q = if rSg L b p1 = 5 ∨ rSg L b p1 = 7 then p1 + 2 else p1 + 1 := ⟨_, rfl⟩
      have ql : p1 < q ∧ q ≤ L := by
        rw [hq]
        by_cases c : rSg L b p1 = 5 ∨ rSg L b p1 = 7
        · rw [if_pos c]; have := k4 c; omega
        · rw [if_neg c]; omega
      rw [if_neg r0, ← hq] at rc
      by_cases h60 : c1 = 60
      · rw [if_pos h60] at rc
        obtain ⟨p3, c3, es3, e3, s1, s2, s3, s4⟩ := s_sum hX hK (c := c1 + 1) (es := es1) (e := 1 + 8 * p1 + 3) ql.2 (by omega) (fun h => by omega)
        have s1 : ∀ ρ τ, f_X12_sum (mem ρ τ (sX σ r q (c1 + 1) es1 (1 + 8 * p1 + 3))) 188 = some (mem ρ τ (sX σ r p3 c3 es3 e3)) := s1
        have e3e : e3 = 1 + 8 * p1 + 3 := by rcases s4 with ⟨_, h⟩ | ⟨h, _⟩ | ⟨h, _⟩; exact h; omega; omega
        subst e3e
        refine ⟨p3, c3, es3, _, fun ρ τ => ?_, s2, s3, .inr (.inl ⟨rfl, by omega, rc⟩)⟩
        refine (st ρ τ).trans ?_
        rw [if_neg r0, ← hq, if_pos h60, s1, Option.bind_some, ob_mem, Option.bind_some, s_entryD (by omega) s3, Option.bind_some]
      · rw [if_neg h60] at rc
        obtain ⟨p3, c3, es3, e3, s1, s2, s3, s4⟩ := s_sum hX hK (c := c1 + 1) (es := es1) (e := 0) ql.2 (by omega) (fun _ => ⟨by omega, by omega⟩)
        have s1 : ∀ ρ τ, f_X12_sum (mem ρ τ (sX σ r q (c1 + 1) es1 0)) 188 = some (mem ρ τ (sX σ r p3 c3 es3 e3)) := s1
        rcases s4 with ⟨h, -⟩ | ⟨-, ne, sv2⟩ | ⟨-, e30, sv2⟩
        · exact absurd rfl h
        · rw [sv2, sb_l] at rc
          refine ⟨p3, c3, es3, e3, fun ρ τ => ?_, s2, s3, .inr (.inl ⟨rfl, ne, rc⟩)⟩
          refine (st ρ τ).trans ?_
          rw [if_neg r0, ← hq, if_neg h60, s1, Option.bind_some, ob_mem, Option.bind_some, s_entryD ne s3, Option.bind_some]
        · subst e30
          rw [sv2, sb_r] at rc
          obtain ⟨g2, G2, l2, c2', n2, -, -⟩ := rSum_ok sv2 ql.2 (show c1 + 1 ≤ 60 by omega)
          have n2 : g2.length + 1 + 2 * (c1 + 1) = 2 * c3 := n2
          have cc3 : c3 ≤ 60 := G2.2.2.2.1
          have ln3 : es3.length = es1.length + g2.length := by
            have : es3 = es1 ++ g2 := G2.2.2.2.2.1
            rw [this, List.length_append]
          refine ⟨p3, c3, es3 ++ [(rSg L b p1, 0)], 0, fun ρ τ => ?_, s2, by omega, .inr (.inr ⟨rfl, rfl, rc⟩)⟩
          refine (st ρ τ).trans ?_
          rw [if_neg r0, ← hq, if_neg h60, s1, Option.bind_some, ob_mem, Option.bind_some, show f_X12_entry (mem ρ τ (sX σ r p3 c3 es3 0)) 188 (nI (rSg L b p1)) 0 = _ from s_entry hK (rSg L b p1, 0) (by omega), Option.bind_some]
end SCMP
