/-! Rules: the reference's sums and comparisons. -/
theorem rT_skp {L : Nat} {b : Nat → Nat} (f p c : Nat) (es : List (Nat × Nat)) : rT L b f (skp L b p, c, es) = rT L b f (p, c, es) := by
  cases f with
  | zero => rfl
  | succ f =>
    show (if rOf L b rFac (skp L b (skp L b p)) = 0 then _ else _) = (if rOf L b rFac (skp L b p) = 0 then _ else _)
    simp only [skp_i]
    rfl
section SSUM
variable {σ : Sg} {L r : Nat} {b : Nat → Nat}
theorem s_ch (hX : TXs σ L b) {p : Nat} (e : Nat) (x : Nat) (hx : x < 2 ^ 31) : (sgn L b p = nI x ↔ (p < L ∧ b p = x)) := sgn_s hX hx
theorem s_termS (hX : TXs σ L b) {p c : Nat} {es : List (Nat × Nat)} (hp : p ≤ L) (K : Mm → Option Mm) (f : Nat) (ρ : Mm) (τ : Nat → va_E) : f_X12_term_L8 K (f + 1) (mem ρ τ (sX σ r p c es 0)) 188 = if rOf L b rFac p = 0 then K (mem ρ τ (sX σ r p c es 0)) else
    ((f_X12_value (mem ρ τ (sX σ r (p + 1) c es 0)) 188).bind fun μ13 =>
    ((ob μ13 188 12).bind fun _ =>
    ((f_X12_entry μ13 188 (nI (rOf L b rFac p)) (0 : Int32)).bind fun μ14 =>
    ((ob μ14 188 12).bind fun _ =>
    ((f_X12_blanks μ14 188).bind fun μ15 =>
    f_X12_term_L8 K f μ15 188))))) := by
  have hL := hX.1
  have hX' := hX.rc r c es
  have ch := fun x hx => sgn_s (i := p) (c := x) hX hx
  have sg : f_X12_sign (mem ρ τ (sX σ r p c es 0)) 188 = some (sgn L b p, mem ρ τ (sX σ r p c es 0)) := z_sg hX' 0 (by omega)
  rw [f_X12_term_L8, z_ft, Option.bind_some, if_pos (show nI 0 = 0 from rfl), ob_mem, Option.bind_some, sg, bd_some]
  by_cases h42 : p < L ∧ b p = 42
  · have ro : rOf L b rFac p = 13 := by unfold rOf rFac; rw [if_pos h42.1, if_pos h42.2]
    have s42 : sgn L b p = 42 := (ch 42 (by decide)).2 h42
    rw [if_pos s42, ob_mem, Option.bind_some, sg, bd_some, if_pos s42, nm_q, z_pl, Option.bind_some, lit_1, nI_add, z_pp, Option.bind_some, ob_mem, Option.bind_some, ro, if_neg (show ¬ 13 = 0 by decide)]
    rfl
  · have n42 : ¬ sgn L b p = 42 := fun x => h42 ((ch 42 (by decide)).1 x)
    rw [if_neg n42, ob_mem, Option.bind_some, sg, bd_some]
    by_cases h47 : p < L ∧ b p = 47
    · have ro : rOf L b rFac p = 14 := by unfold rOf rFac; rw [if_pos h47.1, if_neg (by omega), if_pos h47.2]
      have s47 : sgn L b p = 47 := (ch 47 (by decide)).2 h47
      rw [if_pos s47, ob_mem, Option.bind_some, sg, bd_some, if_neg n42, ob_mem, Option.bind_some, sg, bd_some, if_pos s47, nm_q, z_pl, Option.bind_some, lit_1, nI_add, z_pp, Option.bind_some, ob_mem, Option.bind_some, ro, if_neg (show ¬ 14 = 0 by decide)]
      rfl
    · have n47 : ¬ sgn L b p = 47 := fun x => h47 ((ch 47 (by decide)).1 x)
      rw [if_neg n47, ob_mem, Option.bind_some, sg, bd_some]
      by_cases h37 : p < L ∧ b p = 37
      · have ro : rOf L b rFac p = 15 := by unfold rOf rFac; rw [if_pos h37.1, if_neg (by omega), if_neg (by omega), if_pos h37.2]
        have s37 : sgn L b p = 37 := (ch 37 (by decide)).2 h37
        rw [if_pos s37, ob_mem, Option.bind_some, sg, bd_some, if_neg n42, ob_mem, Option.bind_some, sg, bd_some, if_neg n47, nm_q, z_pl, Option.bind_some, lit_1, nI_add, z_pp, Option.bind_some, ob_mem, Option.bind_some, ro, if_neg (show ¬ 15 = 0 by decide)]
        rfl
      · have n37 : ¬ sgn L b p = 37 := fun x => h37 ((ch 37 (by decide)).1 x)
        have ro : rOf L b rFac p = 0 := by
          unfold rOf rFac
          by_cases hk : p < L
          · rw [if_pos hk, if_neg (fun x => h42 ⟨hk, x⟩), if_neg (fun x => h47 ⟨hk, x⟩), if_neg (fun x => h37 ⟨hk, x⟩)]
          · rw [if_neg hk]
        rw [if_neg n37, ro, if_pos rfl]
theorem s_sumS (hX : TXs σ L b) {p c : Nat} {es : List (Nat × Nat)} (hp : p ≤ L) (K : Mm → Option Mm) (f : Nat) (ρ : Mm) (τ : Nat → va_E) : f_X12_sum_L4 K (f + 1) (mem ρ τ (sX σ r p c es 0)) 188 = if rOf L b rTer p = 0 then K (mem ρ τ (sX σ r p c es 0)) else
    ((f_X12_term (mem ρ τ (sX σ r (p + 1) c es 0)) 188).bind fun μ12 =>
    ((ob μ12 188 12).bind fun _ =>
    ((f_X12_entry μ12 188 (nI (rOf L b rTer p)) (0 : Int32)).bind fun μ13 =>
    f_X12_sum_L4 K f μ13 188))) := by
  have hL := hX.1
  have hX' := hX.rc r c es
  have ch := fun x hx => sgn_s (i := p) (c := x) hX hx
  have sg : f_X12_sign (mem ρ τ (sX σ r p c es 0)) 188 = some (sgn L b p, mem ρ τ (sX σ r p c es 0)) := z_sg hX' 0 (by omega)
  rw [f_X12_sum_L4, z_ft, Option.bind_some, if_pos (show nI 0 = 0 from rfl), ob_mem, Option.bind_some, sg, bd_some]
  by_cases h43 : p < L ∧ b p = 43
  · have ro : rOf L b rTer p = 2 := by unfold rOf rTer; rw [if_pos h43.1, if_pos h43.2]
    have s43 : sgn L b p = 43 := (ch 43 (by decide)).2 h43
    rw [if_pos s43, ob_mem, Option.bind_some, sg, bd_some, if_pos s43, nm_q, z_pl, Option.bind_some, lit_1, nI_add, z_pp, Option.bind_some, ob_mem, Option.bind_some, ro, if_neg (show ¬ 2 = 0 by decide)]
    rfl
  · have n43 : ¬ sgn L b p = 43 := fun x => h43 ((ch 43 (by decide)).1 x)
    rw [if_neg n43, ob_mem, Option.bind_some, sg, bd_some]
    by_cases h45 : p < L ∧ b p = 45
    · have ro : rOf L b rTer p = 3 := by unfold rOf rTer; rw [if_pos h45.1, if_neg (by omega), if_pos h45.2]
      have s45 : sgn L b p = 45 := (ch 45 (by decide)).2 h45
      rw [if_pos s45, ob_mem, Option.bind_some, sg, bd_some, if_neg n43, nm_q, z_pl, Option.bind_some, lit_1, nI_add, z_pp, Option.bind_some, ob_mem, Option.bind_some, ro, if_neg (show ¬ 3 = 0 by decide)]
      rfl
    · have n45 : ¬ sgn L b p = 45 := fun x => h45 ((ch 45 (by decide)).1 x)
      have ro : rOf L b rTer p = 0 := by
        unfold rOf rTer
        by_cases hk : p < L
        · rw [if_pos hk, if_neg (fun x => h43 ⟨hk, x⟩), if_neg (fun x => h45 ⟨hk, x⟩)]
        · rw [if_neg hk]
      rw [if_neg n45, ro, if_pos rfl]
theorem s_termD {p c e : Nat} {es : List (Nat × Nat)} (he : e ≠ 0) (h4 : e < 4000) (K : Mm → Option Mm) {f : Nat} (hf : 0 < f) (ρ : Mm) (τ : Nat → va_E) : f_X12_term_L8 K f (mem ρ τ (sX σ r p c es e)) 188 = K (mem ρ τ (sX σ r p c es e)) := by
  obtain ⟨f, rfl⟩ : ∃ k, f = k + 1 := ⟨f - 1, by omega⟩
  rw [f_X12_term_L8, z_ft, Option.bind_some, if_neg (show ¬ nI e = 0 from fun h => he ((nI_eq (b := 0) (by omega) (by decide)).1 h))]
theorem s_sumD {p c e : Nat} {es : List (Nat × Nat)} (he : e ≠ 0) (h4 : e < 4000) (K : Mm → Option Mm) {f : Nat} (hf : 0 < f) (ρ : Mm) (τ : Nat → va_E) : f_X12_sum_L4 K f (mem ρ τ (sX σ r p c es e)) 188 = K (mem ρ τ (sX σ r p c es e)) := by
  obtain ⟨f, rfl⟩ : ∃ k, f = k + 1 := ⟨f - 1, by omega⟩
  rw [f_X12_sum_L4, z_ft, Option.bind_some, if_neg (show ¬ nI e = 0 from fun h => he ((nI_eq (b := 0) (by omega) (by decide)).1 h))]
theorem s_termL (hX : TXs σ L b) (hK : SK σ r) : ∀ (m k p c : Nat) (es : List (Nat × Nat)) (f Ft : Nat), k < m → L - p = k → p ≤ L → skp L b p = p → c ≤ 60 → 3 * es.length + 3 ≤ 14 * c → k < f → k < Ft → ∃ p' c' es' e', (∀ ρ τ, f_X12_term_L8 (fun μ78 => (some μ78)) f (mem ρ τ (sX σ r p c es 0)) 188 = some (mem ρ τ (sX σ r p' c' es' e'))) ∧ p' ≤ L ∧ e' < 4000 ∧ ((e' ≠ 0 ∧ rT L b Ft (p, c, es) = .inl e') ∨ (e' = 0 ∧ rT L b Ft (p, c, es) = .inr (p', c', es'))) := by
  have hL := hX.1
  intro m
  induction m with
  | zero => intro k p c es f Ft h0; omega
  | succ m ih =>
    intro k p c es f Ft h0 h1 hp hk hc hJ hf hFt
    obtain ⟨f, rfl⟩ : ∃ k, f = k + 1 := ⟨f - 1, by omega⟩
    obtain ⟨Ft, rfl⟩ : ∃ k, Ft = k + 1 := ⟨Ft - 1, by omega⟩
    have et : rT L b (Ft + 1) (p, c, es) = if rOf L b rFac p = 0 then .inr (p, c, es) else sb (rVal L b (p + 1, c, es)) fun s' => rT L b Ft (rAdd s' (rOf L b rFac p)) := by
      show (if rOf L b rFac (skp L b p) = 0 then _ else _) = _
      rw [hk]
      rfl
    have st := fun ρ τ => s_termS (ρ := ρ) (τ := τ) (r := r) hX (c := c) (es := es) hp (fun μ78 => (some μ78)) f
    by_cases h0 : rOf L b rFac p = 0
    · rw [if_pos h0] at et
      refine ⟨p, c, es, 0, fun ρ τ => ?_, hp, by omega, .inr ⟨rfl, et⟩⟩
      rw [st, if_pos h0]
    · obtain ⟨k1, k2, k3⟩ := rOf_b h0
      have kb := rFac_b _ k3
      rw [← k2] at kb
      rw [if_neg h0] at et
      obtain ⟨p1, c1, es1, e1, v1, v2, v3, v4⟩ := s_val hX hK (p := p + 1) (c := c) (es := es) (e := 0) (by omega) (by omega) (fun _ => ⟨hc, by omega⟩)
      have v1 : ∀ ρ τ, f_X12_value (mem ρ τ (sX σ r (p + 1) c es 0)) 188 = some (mem ρ τ (sX σ r p1 c1 es1 e1)) := v1
      rcases v4 with ⟨h, -⟩ | ⟨-, ne, sv⟩ | ⟨-, e10, sv⟩
      · exact absurd rfl h
      · rw [sv, sb_l] at et
        refine ⟨skp L b p1, c1, es1, e1, fun ρ τ => ?_, skp_le b v2, v3, .inl ⟨ne, et⟩⟩
        rw [st, if_neg h0, v1, Option.bind_some, ob_mem, Option.bind_some, s_entryD ne v3, Option.bind_some, ob_mem, Option.bind_some, z_bl (hX.rc r c1 es1) e1 (by omega), Option.bind_some, s_termD ne v3 _ (by omega)]
      · subst e10
        obtain ⟨g, G, l1, c1', n1, -⟩ := rVal_ok sv (show p + 1 ≤ L by omega) hc
        have l1 : p + 1 < p1 := l1
        have c1' : c1 = c + 1 := c1'
        have cc : c1 ≤ 60 := G.2.2.2.1
        have ln : es1.length = es.length + 1 := by
          have : es1 = es ++ g := G.2.2.2.2.1
          rw [this, List.length_append, n1]
        have ln2 : (es1 ++ [(rOf L b rFac p, 0)]).length = es.length + 2 := by
          rw [List.length_append, ln]
          rfl
        have g2 := skp_ge L b p1
        obtain ⟨p2, c2, es2, e2, z1, z2, z3, z4⟩ := ih (L - skp L b p1) (skp L b p1) c1 (es1 ++ [(rOf L b rFac p, 0)]) f Ft (by omega) rfl (skp_le b v2) (skp_i L b p1) cc (by omega) (by omega) (by omega)
        rw [sv, sb_r] at et
        rw [rT_skp] at z4
        refine ⟨p2, c2, es2, e2, fun ρ τ => ?_, z2, z3, ?_⟩
        · rw [st, if_neg h0, v1, Option.bind_some, ob_mem, Option.bind_some, show f_X12_entry (mem ρ τ (sX σ r p1 c1 es1 0)) 188 (nI (rOf L b rFac p)) 0 = _ from s_entry hK (rOf L b rFac p, 0) (by omega), Option.bind_some, ob_mem, Option.bind_some, z_bl (hX.rc r c1 _) 0 (by omega), Option.bind_some]
          exact z1 ρ τ
        · rw [et]
          exact z4
theorem s_term (hX : TXs σ L b) (hK : SK σ r) {p c e : Nat} {es : List (Nat × Nat)} (Ft : Nat) (hF : L - p < Ft) (hp : p ≤ L) (he : e < 4000) (hJ : e = 0 → c ≤ 60 ∧ 3 * es.length ≤ 14 * c) : SSim σ r L (fun s => sb (rVal L b s) fun s1 => rT L b Ft s1) (fun μ => f_X12_term μ 188) p c es e := by
  have hL := hX.1
  obtain ⟨p1, c1, es1, e1, v1, v2, v3, v4⟩ := s_val hX hK hp he hJ
  have v1 : ∀ ρ τ, f_X12_value (mem ρ τ (sX σ r p c es e)) 188 = some (mem ρ τ (sX σ r p1 c1 es1 e1)) := v1
  have pre : ∀ ρ τ, f_X12_term (mem ρ τ (sX σ r p c es e)) 188 = f_X12_term_L8 (fun μ78 => (some μ78)) FU (mem ρ τ (sX σ r (skp L b p1) c1 es1 e1)) 188 := by
    intro ρ τ
    unfold f_X12_term
    rw [ob_mem, Option.bind_some, v1, Option.bind_some, ob_mem, Option.bind_some, z_bl (hX.rc r c1 es1) e1 (by omega), Option.bind_some]
  have F0 : 0 < FU := by unfold FU; omega
  have hs := skp_le b v2
  rcases v4 with ⟨h0, he1⟩ | ⟨h0, ne, sv⟩ | ⟨h0, e10, sv⟩
  · exact ⟨_, c1, es1, e1, fun ρ τ => (pre ρ τ).trans (s_termD (by omega) v3 _ F0 ρ τ), hs, v3, .inl ⟨h0, he1⟩⟩
  · exact ⟨_, c1, es1, e1, fun ρ τ => (pre ρ τ).trans (s_termD ne v3 _ F0 ρ τ), hs, v3, .inr (.inl ⟨h0, ne, by show sb (rVal L b (p, c, es)) _ = _; rw [sv, sb_l]⟩)⟩
  · subst h0
    subst e10
    obtain ⟨c60, J⟩ := hJ rfl
    obtain ⟨g, G, l1, c1', n1, -⟩ := rVal_ok sv hp c60
    have l1 : p < p1 := l1
    have c1' : c1 = c + 1 := c1'
    have cc : c1 ≤ 60 := G.2.2.2.1
    have ln : es1.length = es.length + 1 := by
      have : es1 = es ++ g := G.2.2.2.2.1
      rw [this, List.length_append, n1]
    have g2 := skp_ge L b p1
    obtain ⟨p2, c2, es2, e2, z1, z2, z3, z4⟩ := s_termL hX hK (L - skp L b p1 + 1) (L - skp L b p1) (skp L b p1) c1 es1 FU Ft (by omega) rfl hs (skp_i L b p1) cc (by omega) (by unfold FU; omega) (by omega)
    rw [rT_skp] at z4
    have rs : (sb (rVal L b (p, c, es)) fun s1 => rT L b Ft s1) = rT L b Ft (p1, c1, es1) := by rw [sv, sb_r]
    refine ⟨p2, c2, es2, e2, fun ρ τ => (pre ρ τ).trans (z1 ρ τ), z2, z3, ?_⟩
    rcases z4 with ⟨ne, z4⟩ | ⟨e20, z4⟩
    · exact .inr (.inl ⟨rfl, ne, rs.trans z4⟩)
    · exact .inr (.inr ⟨rfl, e20, rs.trans z4⟩)
theorem s_sumL (hX : TXs σ L b) (hK : SK σ r) : ∀ (m k p c : Nat) (es : List (Nat × Nat)) (f Fu : Nat), k < m → L - p = k → p ≤ L → c ≤ 60 → 3 * es.length ≤ 14 * c → k < f → k < Fu → ∃ p' c' es' e', (∀ ρ τ, f_X12_sum_L4 (fun μ33 => (some μ33)) f (mem ρ τ (sX σ r p c es 0)) 188 = some (mem ρ τ (sX σ r p' c' es' e'))) ∧ p' ≤ L ∧ e' < 4000 ∧ ((e' ≠ 0 ∧ rU L b Fu (p, c, es) = .inl e') ∨ (e' = 0 ∧ rU L b Fu (p, c, es) = .inr (p', c', es'))) := by
  have hL := hX.1
  intro m
  induction m with
  | zero => intro k p c es f Fu h0; omega
  | succ m ih =>
    intro k p c es f Fu h0 h1 hp hc hJ hf hFu
    obtain ⟨f, rfl⟩ : ∃ k, f = k + 1 := ⟨f - 1, by omega⟩
    obtain ⟨Fu, rfl⟩ : ∃ k, Fu = k + 1 := ⟨Fu - 1, by omega⟩
    have eu : rU L b (Fu + 1) (p, c, es) = if rOf L b rTer p = 0 then .inr (p, c, es) else sb (rVal L b (p + 1, c, es)) fun s1 => sb (rT L b Fu s1) fun s2 => rU L b Fu (rAdd s2 (rOf L b rTer p)) := rfl
    have st := fun ρ τ => s_sumS (ρ := ρ) (τ := τ) (r := r) hX (c := c) (es := es) hp (fun μ33 => (some μ33)) f
    by_cases h0 : rOf L b rTer p = 0
    · rw [if_pos h0] at eu
      refine ⟨p, c, es, 0, fun ρ τ => ?_, hp, by omega, .inr ⟨rfl, eu⟩⟩
      rw [st, if_pos h0]
    · obtain ⟨k1, k2, k3⟩ := rOf_b h0
      have kb := rTer_b _ k3
      rw [← k2] at kb
      rw [if_neg h0] at eu
      obtain ⟨p1, c1, es1, e1, v1, v2, v3, v4⟩ := s_term hX hK (p := p + 1) (c := c) (es := es) (e := 0) Fu (by omega) (by omega) (by omega) (fun _ => ⟨hc, hJ⟩)
      have v1 : ∀ ρ τ, f_X12_term (mem ρ τ (sX σ r (p + 1) c es 0)) 188 = some (mem ρ τ (sX σ r p1 c1 es1 e1)) := v1
      have assoc : (sb (rVal L b (p + 1, c, es)) fun s1 => sb (rT L b Fu s1) fun s2 => rU L b Fu (rAdd s2 (rOf L b rTer p))) = sb (sb (rVal L b (p + 1, c, es)) fun s1 => rT L b Fu s1) fun s2 => rU L b Fu (rAdd s2 (rOf L b rTer p)) := by
        cases rVal L b (p + 1, c, es) with
        | inl x => rfl
        | inr x => rfl
      rw [assoc] at eu
      rcases v4 with ⟨h, -⟩ | ⟨-, ne, sv⟩ | ⟨-, e10, sv⟩
      · exact absurd rfl h
      · have sv : (sb (rVal L b (p + 1, c, es)) fun s1 => rT L b Fu s1) = .inl e1 := sv
        rw [sv, sb_l] at eu
        refine ⟨p1, c1, es1, e1, fun ρ τ => ?_, v2, v3, .inl ⟨ne, eu⟩⟩
        rw [st, if_neg h0, v1, Option.bind_some, ob_mem, Option.bind_some, s_entryD ne v3, Option.bind_some, s_sumD ne v3 _ (by omega)]
      · subst e10
        have sv : (sb (rVal L b (p + 1, c, es)) fun s1 => rT L b Fu s1) = .inr (p1, c1, es1) := sv
        rw [sv, sb_r] at eu
        obtain ⟨s1, x1, x2⟩ := sb_ok sv
        obtain ⟨g, G, l1, c1', n1, -⟩ := rVal_ok x1 (show p + 1 ≤ L by omega) hc
        obtain ⟨g2, G2, n2, -, -⟩ := rT_ok x2 G.2.1 G.2.2.2.1
        have l1 : p + 1 < s1.1 := l1
        have c1' : s1.2.1 = c + 1 := c1'
        have l2 : s1.1 ≤ p1 := G2.1
        have cc : c1 ≤ 60 := G2.2.2.2.1
        have n2 : g2.length + 2 * s1.2.1 = 2 * c1 := n2
        have c2' : s1.2.1 ≤ c1 := G2.2.2.1
        have ln : es1.length = es.length + 1 + g2.length := by
          have a1 : es1 = s1.2.2 ++ g2 := G2.2.2.2.2.1
          have a2 : s1.2.2 = es ++ g := G.2.2.2.2.1
          rw [a1, a2, List.length_append, List.length_append, n1]
        have ln2 : (es1 ++ [(rOf L b rTer p, 0)]).length = es1.length + 1 := by
          rw [List.length_append]
          rfl
        obtain ⟨p2, c2, es2, e2, z1, z2, z3, z4⟩ := ih (L - p1) p1 c1 (es1 ++ [(rOf L b rTer p, 0)]) f Fu (by omega) rfl v2 cc (by omega) (by omega) (by omega)
        refine ⟨p2, c2, es2, e2, fun ρ τ => ?_, z2, z3, ?_⟩
        · rw [st, if_neg h0, v1, Option.bind_some, ob_mem, Option.bind_some, show f_X12_entry (mem ρ τ (sX σ r p1 c1 es1 0)) 188 (nI (rOf L b rTer p)) 0 = _ from s_entry hK (rOf L b rTer p, 0) (by omega), Option.bind_some]
          exact z1 ρ τ
        · rw [eu]
          exact z4
theorem s_sum (hX : TXs σ L b) (hK : SK σ r) {p c e : Nat} {es : List (Nat × Nat)} (hp : p ≤ L) (he : e < 4000) (hJ : e = 0 → c ≤ 60 ∧ 3 * es.length ≤ 14 * c) : SSim σ r L (rSum L b) (fun μ => f_X12_sum μ 188) p c es e := by
  have hL := hX.1
  obtain ⟨p1, c1, es1, e1, v1, v2, v3, v4⟩ := s_term hX hK 500 (by omega) hp he hJ
  have v1 : ∀ ρ τ, f_X12_term (mem ρ τ (sX σ r p c es e)) 188 = some (mem ρ τ (sX σ r p1 c1 es1 e1)) := v1
  have pre : ∀ ρ τ, f_X12_sum (mem ρ τ (sX σ r p c es e)) 188 = f_X12_sum_L4 (fun μ33 => (some μ33)) FU (mem ρ τ (sX σ r p1 c1 es1 e1)) 188 := by
    intro ρ τ
    unfold f_X12_sum
    rw [ob_mem, Option.bind_some, v1, Option.bind_some]
  have F0 : 0 < FU := by unfold FU; omega
  have assoc : rSum L b (p, c, es) = sb (sb (rVal L b (p, c, es)) fun s1 => rT L b 500 s1) fun s2 => rU L b 500 s2 := by
    unfold rSum
    cases rVal L b (p, c, es) with
    | inl x => rfl
    | inr x => rfl
  rcases v4 with ⟨h0, he1⟩ | ⟨h0, ne, sv⟩ | ⟨h0, e10, sv⟩
  · exact ⟨_, c1, es1, e1, fun ρ τ => (pre ρ τ).trans (s_sumD (by omega) v3 _ F0 ρ τ), v2, v3, .inl ⟨h0, he1⟩⟩
  · have sv : (sb (rVal L b (p, c, es)) fun s1 => rT L b 500 s1) = .inl e1 := sv
    exact ⟨_, c1, es1, e1, fun ρ τ => (pre ρ τ).trans (s_sumD ne v3 _ F0 ρ τ), v2, v3, .inr (.inl ⟨h0, ne, by rw [assoc, sv, sb_l]⟩)⟩
  · subst h0
    subst e10
    obtain ⟨c60, J⟩ := hJ rfl
    have sv : (sb (rVal L b (p, c, es)) fun s1 => rT L b 500 s1) = .inr (p1, c1, es1) := sv
    rw [sv, sb_r] at assoc
    obtain ⟨s1, x1, x2⟩ := sb_ok sv
    obtain ⟨g, G, l1, c1', n1, -⟩ := rVal_ok x1 hp c60
    obtain ⟨g2, G2, n2, -, -⟩ := rT_ok x2 G.2.1 G.2.2.2.1
    have c1' : s1.2.1 = c + 1 := c1'
    have cc : c1 ≤ 60 := G2.2.2.2.1
    have n2 : g2.length + 2 * s1.2.1 = 2 * c1 := n2
    have c2' : s1.2.1 ≤ c1 := G2.2.2.1
    have ln : es1.length = es.length + 1 + g2.length := by
      have a1 : es1 = s1.2.2 ++ g2 := G2.2.2.2.2.1
      have a2 : s1.2.2 = es ++ g := G.2.2.2.2.1
      rw [a1, a2, List.length_append, List.length_append, n1]
    obtain ⟨p2, c2, es2, e2, z1, z2, z3, z4⟩ := s_sumL hX hK (L - p1 + 1) (L - p1) p1 c1 es1 FU 500 (by omega) rfl v2 cc (by omega) (by unfold FU; omega) (by omega)
    refine ⟨p2, c2, es2, e2, fun ρ τ => (pre ρ τ).trans (z1 ρ τ), z2, z3, ?_⟩
    rcases z4 with ⟨ne, z4⟩ | ⟨e20, z4⟩
    · exact .inr (.inl ⟨rfl, ne, assoc.trans z4⟩)
    · exact .inr (.inr ⟨rfl, e20, assoc.trans z4⟩)
end SSUM
