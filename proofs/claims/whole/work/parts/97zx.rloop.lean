/-! Rules: all clauses. -/
def cz : Cl := (0, 0, 0, 0)
def CK (T : Tc) (cls : List Cl) : Prop := T.1 147 4 = nI cls.length ∧ ∀ i, i < cls.length → T.2.1 149 i = nI (cls.getD i cz).1 ∧ T.2.1 150 i = nI (cls.getD i cz).2.1 ∧ T.2.1 151 i = nI (cls.getD i cz).2.2.1 ∧ T.2.1 152 i = nI (cls.getD i cz).2.2.2
def KS (σ : Sg) (r : Nat) (cls : List Cl) : Prop := ∀ i, i < cls.length → σ.2.1 223 (12 * r + i) = nI (1 - (cls.getD i cz).1) ∧ σ.2.1 219 (12 * r + i) = nI (cls.getD i cz).2.1 ∧ σ.2.1 220 (12 * r + i) = nI (cls.getD i cz).2.2.1 ∧ σ.2.1 221 (12 * r + i) = nI (cls.getD i cz).2.2.2
theorem getC_app {es : List Cl} {x : Cl} {i : Nat} (hi : i < es.length + 1) : (es ++ [x]).getD i cz = if i = es.length then x else es.getD i cz := by
  by_cases h : i = es.length
  · rw [if_pos h, h, List.getD_eq_getElem?_getD, List.getElem?_append_right (Nat.le_refl _), Nat.sub_self]
    rfl
  · rw [if_neg h, List.getD_eq_getElem?_getD, List.getElem?_append_left (by omega), ← List.getD_eq_getElem?_getD]
theorem CK.add {T : Tc} {cls : List Cl} (h : CK T cls) (cl : Cl) : CK (cW T cls.length cl) (cls ++ [cl]) := by
  refine ⟨?_, fun i hi => ?_⟩
  · unfold cW
    rw [tI1, if_pos ⟨rfl, rfl⟩, List.length_append]
    rfl
  · rw [List.length_append] at hi
    have hi : i < cls.length + 1 := hi
    rw [getC_app hi]
    have e : ∀ q, (cW T cls.length cl).2.1 q i = if q = 152 ∧ i = cls.length then nI cl.2.2.2 else if q = 151 ∧ i = cls.length then nI cl.2.2.1 else if q = 150 ∧ i = cls.length then nI cl.2.1 else if q = 149 ∧ i = cls.length then nI cl.1 else T.2.1 q i := fun q => by
      unfold cW
      rw [tI2, tA2, tA2, tA2, tA2]
    by_cases h1 : i = cls.length
    · rw [if_pos h1]
      refine ⟨?_, ?_, ?_, ?_⟩
      · rw [e, if_neg (by omega), if_neg (by omega), if_neg (by omega), if_pos ⟨rfl, h1⟩]
      · rw [e, if_neg (by omega), if_neg (by omega), if_pos ⟨rfl, h1⟩]
      · rw [e, if_neg (by omega), if_pos ⟨rfl, h1⟩]
      · rw [e, if_pos ⟨rfl, h1⟩]
    · rw [if_neg h1]
      have e' : ∀ q, (cW T cls.length cl).2.1 q i = T.2.1 q i := fun q => by rw [e, if_neg (fun x => h1 x.2), if_neg (fun x => h1 x.2), if_neg (fun x => h1 x.2), if_neg (fun x => h1 x.2)]
      rw [e', e', e', e']
      exact h.2 i (by omega)
theorem KS.add {σ σ' : Sg} {r : Nat} {cls : List Cl} (h : KS σ r cls) (cl : Cl) (hf : SFr σ σ' (12 * r + cls.length)) (h1 : σ'.2.1 223 (12 * r + cls.length) = nI (1 - cl.1)) (h2 : σ'.2.1 219 (12 * r + cls.length) = nI cl.2.1) (h3 : σ'.2.1 220 (12 * r + cls.length) = nI cl.2.2.1) (h4 : σ'.2.1 221 (12 * r + cls.length) = nI cl.2.2.2) : KS σ' r (cls ++ [cl]) := by
  intro i hi
  rw [List.length_append] at hi
  have hi : i < cls.length + 1 := hi
  rw [getC_app hi]
  by_cases h5 : i = cls.length
  · rw [if_pos h5, h5]
    exact ⟨h1, h2, h3, h4⟩
  · rw [if_neg h5, hf.2 223 _ (by decide) (by omega), hf.2 219 _ (by decide) (by omega), hf.2 220 _ (by decide) (by omega), hf.2 221 _ (by decide) (by omega)]
    exact h i (by omega)
section RLOOP
variable {n sl : Nat} {U : Nat → va_E} {S : Nat → Nat × Nat × Nat} {σ1 : Sg} {L : Nat} {b : Nat → Nat}
theorem c_rstop (K : Mm → Nat → Option (Int32 × Mm)) (μ : Mm) (x : Int32) (f : Nat) : f_X6_readAll_L26 K (f + 1) μ 147 0 x = K μ 147 := by
  rw [f_X6_readAll_L26]
  by_cases h : (12 : Int32) < x
  · rw [if_pos h]
  · rw [if_neg h, if_pos rfl]
theorem c_rall (K : Mm → Nat → Option (Int32 × Mm)) : ∀ (k : Nat) (cls : List Cl) (T : Tc) (p c : Nat) (es : List (Nat × Nat)) (f : Nat), cls.length + k = 12 → k + 1 < f → TXc T L b → CK T cls → p ≤ L → c ≤ 60 → 3 * es.length ≤ 14 * c → ∃ T' q c' es' e, f_X6_readAll_L26 K f (cn n sl U S (cX T p c es 0) σ1) 147 1 (nI cls.length) = K (cn n sl U S (cX T' q c' es' e) σ1) 147 ∧ q ≤ L ∧ CFr T T' ∧ (match rRl L b (k + 1) (p, c, es) cls with
    | .inl e' => e = e' ∧ e ≠ 0 ∧ e < 4000
    | .inr a => e = 0 ∧ es' = a.1 ∧ CK T' a.2) := by
  intro k
  induction k with
  | zero =>
    intro cls T p c es f h1 h2 hX hC hp hc hJ
    obtain ⟨f, rfl⟩ : ∃ k, f = k + 2 := ⟨f - 2, by omega⟩
    obtain ⟨T', p', c', es', e, c1, c2, c3, c4⟩ := c_rclause (n := n) (sl := sl) (U := U) (S := S) (σ1 := σ1) hX hC.1 (by omega) hp hc hJ
    cases hR : rCl L b cls.length (p, c, es) with
    | inr a => exact absurd (show cls.length = 12 by omega) (rCl_ok (s' := a.1) (cl := a.2) hR hp hc hJ).1
    | inl e' =>
      rw [hR] at c4
      obtain ⟨rfl, c6, c7⟩ := c4
      refine ⟨T', p', c', es', e, ?_, c2, c3, ?_⟩
      · rw [f_X6_readAll_L26, if_neg (by rw [show cls.length = 12 by omega]; decide), if_neg (by decide), x147_o, Option.bind_some, c1, Option.bind_some, x147_0, Option.bind_some, x129_o, Option.bind_some, y_s1 p' c6 (by omega), bd_some, if_pos rfl, nm_q, nm_q, c_rstop]
      · rw [rRl, hR, sb_l]
        exact ⟨rfl, c6, c7⟩
  | succ k ih =>
    intro cls T p c es f h1 h2 hX hC hp hc hJ
    obtain ⟨f, rfl⟩ : ∃ k, f = k + 2 := ⟨f - 2, by omega⟩
    obtain ⟨T', p', c', es', e, c1, c2, c3, c4⟩ := c_rclause (n := n) (sl := sl) (U := U) (S := S) (σ1 := σ1) hX hC.1 (by omega) hp hc hJ
    have l12 : ¬ (12 : Int32) < nI cls.length := nI_nlt (a := 12) (by omega) (by decide)
    rw [rRl]
    cases hR : rCl L b cls.length (p, c, es) with
    | inl e' =>
      rw [hR] at c4
      obtain ⟨rfl, c6, c7⟩ := c4
      refine ⟨T', p', c', es', e, ?_, c2, c3, ?_⟩
      · rw [f_X6_readAll_L26, if_neg l12, if_neg (by decide), x147_o, Option.bind_some, c1, Option.bind_some, x147_0, Option.bind_some, x129_o, Option.bind_some, y_s1 p' c6 (by omega), bd_some, if_pos rfl, nm_q, nm_q, c_rstop]
      · rw [sb_l]
        exact ⟨rfl, c6, c7⟩
    | inr a =>
      obtain ⟨⟨p2, c2', es2⟩, cl⟩ := a
      rw [hR] at c4
      obtain ⟨rfl, c5, c6⟩ := c4
      injection c5 with d1 d2
      injection d2 with d2 d3
      subst d1
      subst d2
      subst d3
      obtain ⟨n12, g, G, ok, J⟩ := rCl_ok hR hp hc hJ
      have J : 3 * es'.length ≤ 14 * c' := J
      have cc : c' ≤ 60 := G.2.2.2.1
      have hX' := c3.tx hX
      have hL := hX.1
      have hs := skp_le b c2
      have CK' : CK T' (cls ++ [cl]) := by rw [c6]; exact hC.add cl
      have ll : (cls ++ [cl]).length = cls.length + 1 := by rw [List.length_append]; rfl
      have start : f_X6_readAll_L26 K (f + 2) (cn n sl U S (cX T p c es 0) σ1) 147 1 (nI cls.length) = (bd (f_X9_goesOn (cn n sl U S (cX T' p' c' es' 0) σ1) 129) fun v20 μ19 => (if v20 = 0 then f_X6_readAll_L26 K (f + 1) μ19 147 0 (nI (cls.length + 1)) else f_X6_readAll_L26 K (f + 1) μ19 147 1 (nI (cls.length + 1)))) := by
        rw [f_X6_readAll_L26, if_neg l12, if_neg (by decide), x147_o, Option.bind_some, c1, Option.bind_some, x147_0, Option.bind_some, x129_o, Option.bind_some, y_s0, bd_some, if_neg (by decide), x147_0, Option.bind_some, x129_o, Option.bind_some]
        simp only [nm_q, oin1, nI_add]
      have gg := y_go (n := n) (sl := sl) (U := U) (S := S) (σ1 := σ1) (hX'.rc c' es') c2
      rw [sb_r]
      show ∃ T'' q c'' es'' e, _ ∧ q ≤ L ∧ CFr T T'' ∧ (match sb (gGo L b p') fun m => if m.1 = true then rRl L b (k + 1) (m.2, c', es') (cls ++ [cl]) else .inr (es', cls ++ [cl]) with
        | .inl e' => e = e' ∧ e ≠ 0 ∧ e < 4000
        | .inr a => e = 0 ∧ es'' = a.1 ∧ CK T'' a.2)
      unfold gGo
      by_cases h3 : skp L b p' < L
      · by_cases h4 : b (skp L b p') = 59
        · rw [if_pos h3, if_pos h4] at gg
          rw [if_pos h3, if_pos h4, sb_r, if_pos rfl]
          obtain ⟨T2, q, c2, es2, e2, z1, z2, z3, z4⟩ := ih (cls ++ [cl]) T' (skp L b p' + 1) c' es' (f + 1) (by omega) (by omega) hX' CK' (by omega) cc J
          refine ⟨T2, q, c2, es2, e2, ?_, z2, c3.trans z3, z4⟩
          rw [start, gg, bd_some, if_neg (by decide), ← ll]
          exact z1
        · rw [if_pos h3, if_neg h4] at gg
          rw [if_pos h3, if_neg h4, sb_l]
          refine ⟨T', skp L b p', c', es', 1 + 8 * skp L b p' + 0, ?_, hs, c3, rfl, by omega, by omega⟩
          rw [start, gg, bd_some, if_pos rfl, c_rstop]
      · rw [if_neg h3] at gg
        rw [if_neg h3, sb_r, if_neg (show ¬ false = true by decide)]
        refine ⟨T', skp L b p', c', es', 0, ?_, hs, c3, rfl, rfl, CK'⟩
        rw [start, gg, bd_some, if_pos rfl, c_rstop]
def SRr (σ σ' : Sg) (r : Nat) : Prop := (∀ k, k ≠ 34 → k ≠ 36 → σ'.1 k = σ.1 k) ∧ ∀ q j, q ≠ 222 → ¬ (((219 ≤ q ∧ q ≤ 221) ∨ q = 223) ∧ 12 * r ≤ j) → σ'.2.1 q j = σ.2.1 q j
theorem SRr.rfl' {σ : Sg} {r : Nat} : SRr σ σ r := ⟨fun _ _ _ => rfl, fun _ _ _ _ => rfl⟩
theorem SRr.trans {σ σ' σ'' : Sg} {r : Nat} (h : SRr σ σ' r) (h' : SRr σ' σ'' r) : SRr σ σ'' r := ⟨fun k h1 h2 => (h'.1 k h1 h2).trans (h.1 k h1 h2), fun q j h1 h2 => (h'.2 q j h1 h2).trans (h.2 q j h1 h2)⟩
theorem SFr.srr {σ σ' : Sg} {r k : Nat} (h : SFr σ σ' (12 * r + k)) : SRr σ σ' r := ⟨h.1, fun q j h1 h2 => h.2 q j h1 (fun x => h2 ⟨x.1, by omega⟩)⟩
theorem s_rall {r : Nat} (K : Mm → Nat → Int32 → Option (Int32 × Mm)) : ∀ (k : Nat) (cls : List Cl) (σ : Sg) (p c : Nat) (es : List (Nat × Nat)) (f : Nat), cls.length + k = 12 → k + 1 < f → TXs σ L b → SK σ r → σ.1 34 = nI 0 → KS σ r cls → p ≤ L → c ≤ 60 → 3 * es.length ≤ 14 * c → ∃ σ' q c' es' e m, (∀ ρ τ, f_X12_rule_L27 K f (mem ρ τ (sX σ r p c es 0)) 188 (nI cls.length) 1 = K (mem ρ τ (sX σ' r q c' es' e)) 188 (nI m)) ∧ m ≤ 13 ∧ SRr σ σ' r ∧ (match rRl L b (k + 1) (p, c, es) cls with
    | .inl e' => e = e'
    | .inr a => e = 0 ∧ es' = a.1 ∧ m = a.2.length ∧ KS σ' r a.2) := by
  intro k
  induction k with
  | zero =>
    intro cls σ p c es f h1 h2 hX hK h34 hC hp hc hJ
    obtain ⟨f, rfl⟩ : ∃ k, f = k + 2 := ⟨f - 2, by omega⟩
    have hL := hX.1
    obtain ⟨σ', p', c', es', e, c1, c2, c3, c4⟩ := s_rclause hX hK h34 (k := cls.length) (by omega) hp hc hJ
    cases hR : rCl L b cls.length (p, c, es) with
    | inr a => exact absurd (show cls.length = 12 by omega) (rCl_ok (s' := a.1) (cl := a.2) hR hp hc hJ).1
    | inl e' =>
      rw [hR] at c4
      have c4 : e = e' := c4
      subst c4
      obtain ⟨c6, c7⟩ := rCl_er hL hR hp hc
      refine ⟨σ', skp L b p' + 1, c', es', e, cls.length + 1, fun ρ τ => ?_, by omega, c2.srr, ?_⟩
      · rw [f_X12_rule_L27, if_neg (by decide), ob_mem, Option.bind_some, c1, Option.bind_some, oin1, nI_add, nm_q, ob_mem, Option.bind_some, z_goD ((c2.tx hX).rc r c' es') (by omega) c6 (by omega), bd_some, nm_q, f_X12_rule_L27, if_pos rfl]
      · rw [rRl, hR, sb_l]
  | succ k ih =>
    intro cls σ p c es f h1 h2 hX hK h34 hC hp hc hJ
    obtain ⟨f, rfl⟩ : ∃ k, f = k + 2 := ⟨f - 2, by omega⟩
    have hL := hX.1
    obtain ⟨σ', p', c', es', e, c1, c2, c3, c4⟩ := s_rclause hX hK h34 (k := cls.length) (by omega) hp hc hJ
    rw [rRl]
    cases hR : rCl L b cls.length (p, c, es) with
    | inl e' =>
      rw [hR] at c4
      have c4 : e = e' := c4
      subst c4
      obtain ⟨c6, c7⟩ := rCl_er hL hR hp hc
      refine ⟨σ', skp L b p' + 1, c', es', e, cls.length + 1, fun ρ τ => ?_, by omega, c2.srr, ?_⟩
      · rw [f_X12_rule_L27, if_neg (by decide), ob_mem, Option.bind_some, c1, Option.bind_some, oin1, nI_add, nm_q, ob_mem, Option.bind_some, z_goD ((c2.tx hX).rc r c' es') (by omega) c6 (by omega), bd_some, nm_q, f_X12_rule_L27, if_pos rfl]
      · rw [sb_l]
    | inr a =>
      obtain ⟨⟨p2, c2', es2⟩, cl⟩ := a
      rw [hR] at c4
      obtain ⟨rfl, c5, c6, k1, k2, k3, k4⟩ := c4
      injection c5 with d1 d2
      injection d2 with d2 d3
      subst d1
      subst d2
      subst d3
      obtain ⟨n12, g, G, ok, J⟩ := rCl_ok hR hp hc hJ
      have J : 3 * es'.length ≤ 14 * c' := J
      have cc : c' ≤ 60 := G.2.2.2.1
      have pL : p' ≤ L := G.2.1
      have hX' := c2.tx hX
      have hK' := c2.sk hK
      have CK' : KS σ' r (cls ++ [cl]) := hC.add cl c2 k1 k2 k3 k4
      have ll : (cls ++ [cl]).length = cls.length + 1 := by rw [List.length_append]; rfl
      have start : ∀ ρ τ, f_X12_rule_L27 K (f + 2) (mem ρ τ (sX σ r p c es 0)) 188 (nI cls.length) 1 = (bd (f_X12_goesOn (mem ρ τ (sX σ' r p' c' es' 0)) 188) fun v20 μ19 => f_X12_rule_L27 K (f + 1) μ19 188 (nI (cls.length + 1)) v20) := by
        intro ρ τ
        rw [f_X12_rule_L27, if_neg (by decide), ob_mem, Option.bind_some, c1, Option.bind_some, oin1, nI_add, nm_q, ob_mem, Option.bind_some]
        simp only [nm_q]
      have gg := fun ρ τ => z_go (hX'.rc r c' es') pL ρ τ
      rw [sb_r]
      show ∃ σ'' q c'' es'' e m, (∀ ρ τ, _) ∧ m ≤ 13 ∧ SRr σ σ'' r ∧ (match sb (gGo L b p') fun m => if m.1 = true then rRl L b (k + 1) (m.2, c', es') (cls ++ [cl]) else .inr (es', cls ++ [cl]) with
        | .inl e' => e = e'
        | .inr a => e = 0 ∧ es'' = a.1 ∧ m = a.2.length ∧ KS σ'' r a.2)
      unfold gGo
      by_cases h3 : skp L b p' < L
      · by_cases h4 : b (skp L b p') = 59
        · rw [if_pos h3, if_pos h4, sb_r, if_pos rfl]
          obtain ⟨σ2, q, c2'', es2, e2, m, z1, z2, z3, z4⟩ := ih (cls ++ [cl]) σ' (skp L b p' + 1) c' es' (f + 1) (by omega) (by omega) hX' hK' c6 CK' (by omega) cc J
          refine ⟨σ2, q, c2'', es2, e2, m, fun ρ τ => ?_, z2, c2.srr.trans z3, z4⟩
          rw [start, gg, if_pos h3, if_pos h4, bd_some, ← ll]
          exact z1 ρ τ
        · rw [if_pos h3, if_neg h4, sb_l]
          refine ⟨σ', skp L b p' + 1, c', es', 1 + 8 * skp L b p' + 0, cls.length + 1, fun ρ τ => ?_, by omega, c2.srr, rfl⟩
          rw [start, gg, if_pos h3, if_neg h4, bd_some, f_X12_rule_L27, if_pos rfl]
      · rw [if_neg h3, sb_r, if_neg (show ¬ false = true by decide)]
        refine ⟨σ', skp L b p' + 1, c', es', 0, cls.length + 1, fun ρ τ => ?_, by omega, c2.srr, rfl, rfl, ll.symm, CK'⟩
        rw [start, gg, if_neg h3, bd_some, f_X12_rule_L27, if_pos rfl]
end RLOOP
