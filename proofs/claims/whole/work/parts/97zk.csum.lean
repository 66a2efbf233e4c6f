/-! Rules: the class's sums and comparisons. -/
def wI (w : Nat) : Int32 := if w = 0 then -1 else nI (w - 2)
section CSUM
variable {n sl : Nat} {U : Nat → va_E} {S : Nat → Nat × Nat × Nat} {σ1 : Sg} {T : Tc} {L : Nat} {b : Nat → Nat}
theorem r_fac (hX : TXc T L b) {p c : Nat} {es : List (Nat × Nat)} (hp : p ≤ L) : f_X9_takeOneOf (cn n sl U S (cX T p c es 0) σ1) 129 3 = if rOf L b rFac (skp L b p) = 0 then some (-1, cn n sl U S (cX T (skp L b p) c es 0) σ1) else some (nI (rOf L b rFac (skp L b p) - 13), cn n sl U S (cX T (skp L b p + 1) c es 0) σ1) := by
  have z := y_one (n := n) (sl := sl) (U := U) (S := S) (σ1 := σ1) (hX.rc c es) (a := 3) (by decide) hp [42, 47, 37] (by decide +kernel) (by decide +kernel)
  have f := fo_fac (L := L) (b := b) (skp L b p)
  rw [z]
  by_cases h : rOf L b rFac (skp L b p) = 0
  · have := f.1.1 h
    rw [if_pos h, if_neg (by show ¬ fo L b [42, 47, 37] (skp L b p) < 3; omega)]
  · have := f.2 h
    rw [if_neg h, if_pos (by show fo L b [42, 47, 37] (skp L b p) < 3; omega), show rOf L b rFac (skp L b p) - 13 = fo L b [42, 47, 37] (skp L b p) by omega]
theorem r_ter (hX : TXc T L b) {p c : Nat} {es : List (Nat × Nat)} (hp : p ≤ L) : f_X9_takeOneOf (cn n sl U S (cX T p c es 0) σ1) 129 4 = if rOf L b rTer (skp L b p) = 0 then some (-1, cn n sl U S (cX T (skp L b p) c es 0) σ1) else some (nI (rOf L b rTer (skp L b p) - 2), cn n sl U S (cX T (skp L b p + 1) c es 0) σ1) := by
  have z := y_one (n := n) (sl := sl) (U := U) (S := S) (σ1 := σ1) (hX.rc c es) (a := 4) (by decide) hp [43, 45] (by decide +kernel) (by decide +kernel)
  have f := fo_ter (L := L) (b := b) (skp L b p)
  rw [z]
  by_cases h : rOf L b rTer (skp L b p) = 0
  · have := f.1.1 h
    rw [if_pos h, if_neg (by show ¬ fo L b [43, 45] (skp L b p) < 2; omega)]
  · have := f.2 h
    rw [if_neg h, if_pos (by show fo L b [43, 45] (skp L b p) < 2; omega), show rOf L b rTer (skp L b p) - 2 = fo L b [43, 45] (skp L b p) by omega]
theorem c_sumD (hX : TXc T L b) {p c e : Nat} {es : List (Nat × Nat)} (hp : p ≤ L) (he : e ≠ 0) (h4 : e < 4000) (w : Int32) (i f : Nat) (hf : 0 < f) : ∃ q, q ≤ L ∧ f_X6_readSum_L8 (fun μ28 => (some μ28)) (fun μ29 => (some μ29)) f (cn n sl U S (cX T p c es e) σ1) 147 w (nI i) = some (cn n sl U S (cX T q c es e) σ1) := by
  have hs := skp_le b hp
  have hX' := hX.rc c es
  obtain ⟨f, rfl⟩ : ∃ k, f = k + 1 := ⟨f - 1, by omega⟩
  rw [f_X6_readSum_L8]
  by_cases h : (400 : Int32) ≤ nI i
  · rw [if_pos h]
    exact ⟨p, hp, rfl⟩
  · rw [if_neg h, x147_0, Option.bind_some, x129_o, Option.bind_some, y_oneD hX' (by decide) hp he h4, bd_some, nm_q, if_pos rfl]
    by_cases hw : w = -1
    · rw [if_pos hw, x147_0, Option.bind_some, x129_o, Option.bind_some, y_oneD hX' (by decide) hs he h4, bd_some, nm_q, if_pos rfl, skp_i]
      exact ⟨_, hs, rfl⟩
    · rw [if_neg hw, x147_o, Option.bind_some, r_emitD he h4, Option.bind_some, x147_0, Option.bind_some, x129_o, Option.bind_some, y_oneD hX' (by decide) hs he h4, bd_some, nm_q, if_pos rfl, skp_i]
      exact ⟨_, hs, rfl⟩
theorem cd_fac {o : Nat} (h : 13 ≤ o ∧ o ≤ 15) : (100017 : Int32) + nI (o - 13) = cdE (o, 0) := by
  have hc : o = 13 ∨ o = 14 ∨ o = 15 := by omega
  rcases hc with rfl | rfl | rfl <;> decide
theorem cd_ter {o : Nat} (h : 2 ≤ o ∧ o ≤ 3) : (100015 : Int32) + nI (o - 2) = cdE (o, 0) := by
  have hc : o = 2 ∨ o = 3 := by omega
  rcases hc with rfl | rfl <;> decide
theorem c_sumL (hX : TXc T L b) : ∀ (m k p c : Nat) (es : List (Nat × Nat)) (w i f Ft Fu : Nat), k < m → L - p = k → p ≤ L → c ≤ 60 → 3 * es.length + 3 ≤ 14 * c → (w = 0 ∨ w = 2 ∨ w = 3) → i + k < 400 → k < f → k < Ft → k < Fu → ∃ p' c' es' e', f_X6_readSum_L8 (fun μ28 => (some μ28)) (fun μ29 => (some μ29)) f (cn n sl U S (cX T p c es 0) σ1) 147 (wI w) (nI i) = some (cn n sl U S (cX T p' c' es' e') σ1) ∧ p' ≤ L ∧ e' < 4000 ∧ ((e' ≠ 0 ∧ (sb (rT L b Ft (p, c, es)) fun s' => rU L b Fu (if w = 0 then s' else rAdd s' w)) = .inl e') ∨ (e' = 0 ∧ (sb (rT L b Ft (p, c, es)) fun s' => rU L b Fu (if w = 0 then s' else rAdd s' w)) = .inr (p', c', es'))) := by
  have hL := hX.1
  intro m
  induction m with
  | zero => intro k p c es w i f Ft Fu h0; omega
  | succ m ih =>
    intro k p c es w i f Ft Fu h0 h1 hp hc hJ hw hi hf hFt hFu
    obtain ⟨f, rfl⟩ : ∃ k, f = k + 1 := ⟨f - 1, by omega⟩
    obtain ⟨Ft, rfl⟩ : ∃ k, Ft = k + 1 := ⟨Ft - 1, by omega⟩
    obtain ⟨Fu, rfl⟩ : ∃ k, Fu = k + 1 := ⟨Fu - 1, by omega⟩
    have hs := skp_le b hp
    have gs := skp_ge L b p
    have et : rT L b (Ft + 1) (p, c, es) = if rOf L b rFac (skp L b p) = 0 then .inr (skp L b p, c, es) else sb (rVal L b (skp L b p + 1, c, es)) fun s' => rT L b Ft (rAdd s' (rOf L b rFac (skp L b p))) := rfl
    rw [f_X6_readSum_L8, if_neg (show ¬ (400 : Int32) ≤ nI i from nI_ge (b := 400) (by omega) (by decide)), x147_0, Option.bind_some, x129_o, Option.bind_some, r_fac hX hp, et]
    by_cases hfac : rOf L b rFac (skp L b p) = 0
    · rw [if_pos hfac, if_pos hfac, bd_some, nm_q, if_pos rfl, sb_r]
      -- the state behind a sign that waited
      obtain ⟨es1, we1⟩ : ∃ es1, es1 = if w = 0 then es else es ++ [(w, 0)] := ⟨_, rfl⟩
      have hJ1 : 3 * es1.length ≤ 14 * c := by
        rw [we1]
        by_cases w0 : w = 0
        · rw [if_pos w0]; omega
        · rw [if_neg w0, List.length_append]
          show 3 * (es.length + 1) ≤ _
          omega
      have sp : (if w = 0 then ((skp L b p, c, es) : Rt) else rAdd (skp L b p, c, es) w) = (skp L b p, c, es1) := by
        rw [we1]
        by_cases w0 : w = 0
        · rw [if_pos w0, if_pos w0]
        · rw [if_neg w0, if_neg w0]; rfl
      have eu : rU L b (Fu + 1) (skp L b p, c, es1) = if rOf L b rTer (skp L b p) = 0 then .inr (skp L b p, c, es1) else sb (rVal L b (skp L b p + 1, c, es1)) fun s1 => sb (rT L b Fu s1) fun s2 => rU L b Fu (rAdd s2 (rOf L b rTer (skp L b p))) := rfl
      rw [sp, eu]
      have tail : ∃ p' c' es' e', (bd (f_X9_takeOneOf (cn n sl U S (cX T (skp L b p) c es1 0) σ1) 129 4) fun v14 μ13 =>
    (nm v14 fun x15 =>
    (if x15 = (-1 : Int32) then
    some μ13
    else
    ((ob μ13 147 6).bind fun _ =>
    ((f_X6_readValue μ13 147).bind fun μ16 =>
    (nm (nI i + Int32.ofInt (1)) fun x17 =>
    f_X6_readSum_L8 (fun μ28 => (some μ28)) (fun μ29 => (some μ29)) f μ16 147 x15 x17)))))) = some (cn n sl U S (cX T p' c' es' e') σ1) ∧ p' ≤ L ∧ e' < 4000 ∧ ((e' ≠ 0 ∧ (if rOf L b rTer (skp L b p) = 0 then .inr (skp L b p, c, es1) else sb (rVal L b (skp L b p + 1, c, es1)) fun s1 => sb (rT L b Fu s1) fun s2 => rU L b Fu (rAdd s2 (rOf L b rTer (skp L b p)))) = .inl e') ∨ (e' = 0 ∧ (if rOf L b rTer (skp L b p) = 0 then .inr (skp L b p, c, es1) else sb (rVal L b (skp L b p + 1, c, es1)) fun s1 => sb (rT L b Fu s1) fun s2 => rU L b Fu (rAdd s2 (rOf L b rTer (skp L b p)))) = .inr (p', c', es'))) := by
        rw [r_ter hX hs, skp_i]
        by_cases hter : rOf L b rTer (skp L b p) = 0
        · rw [if_pos hter, if_pos hter, bd_some, nm_q, if_pos rfl]
          exact ⟨_, c, es1, 0, rfl, hs, by omega, .inr ⟨rfl, rfl⟩⟩
        · obtain ⟨k1, k2, k3⟩ := rOf_b hter
          have kb := rTer_b _ k3
          rw [← k2] at kb
          rw [if_neg hter, if_neg hter, bd_some, nm_q, if_neg (nI_nm1 (by omega)), x147_o, Option.bind_some]
          obtain ⟨p1, c1, es2, e1, v1, v2, v3, v4⟩ := c_val (n := n) (sl := sl) (U := U) (S := S) (σ1 := σ1) hX (p := skp L b p + 1) (c := c) (es := es1) (e := 0) (by omega) (by omega) (fun _ => ⟨hc, hJ1⟩)
          have v1 : f_X6_readValue (cn n sl U S (cX T (skp L b p + 1) c es1 0) σ1) 147 = some (cn n sl U S (cX T p1 c1 es2 e1) σ1) := v1
          rw [v1, Option.bind_some, nm_q, oin1, nI_add]
          rcases v4 with ⟨h, -⟩ | ⟨-, ne, sv⟩ | ⟨-, e10, sv⟩
          · exact absurd rfl h
          · obtain ⟨q, q1, q2⟩ := c_sumD (n := n) (sl := sl) (U := U) (S := S) (σ1 := σ1) hX (c := c1) (es := es2) v2 ne v3 (nI (rOf L b rTer (skp L b p) - 2)) (i + 1) f (by omega)
            rw [q2, sv, sb_l]
            exact ⟨q, c1, es2, e1, rfl, q1, v3, .inl ⟨ne, rfl⟩⟩
          · subst e10
            obtain ⟨g, G, l1, c1', n1, -⟩ := rVal_ok sv (show skp L b p + 1 ≤ L by omega) hc
            have l1 : skp L b p + 1 < p1 := l1
            have c1' : c1 = c + 1 := c1'
            have cc : c1 ≤ 60 := G.2.2.2.1
            have ln : es2.length = es1.length + 1 := by
              have : es2 = es1 ++ g := G.2.2.2.2.1
              rw [this, List.length_append, n1]
            have wq : nI (rOf L b rTer (skp L b p) - 2) = wI (rOf L b rTer (skp L b p)) := by unfold wI; rw [if_neg hter]
            obtain ⟨p2, c2, es3, e2, z1, z2, z3, z4⟩ := ih (L - p1) p1 c1 es2 (rOf L b rTer (skp L b p)) (i + 1) f Fu Fu (by omega) rfl v2 cc (by omega) (by omega) (by omega) (by omega) (by omega) (by omega)
            rw [wq, z1, sv, sb_r]
            simp only [if_neg hter] at z4
            exact ⟨p2, c2, es3, e2, rfl, z2, z3, z4⟩
      by_cases w0 : w = 0
      · rw [if_pos w0] at we1
        rw [if_pos (show wI w = -1 from if_pos w0), x147_0, Option.bind_some, x129_o, Option.bind_some, ← we1]
        exact tail
      · rw [if_neg w0] at we1
        have ww : wI w = nI (w - 2) := if_neg w0
        rw [if_neg (show ¬ wI w = -1 by rw [ww]; exact nI_nm1 (by omega)), x147_o, Option.bind_some, ww, cd_ter (by omega), r_emit _ (by omega), Option.bind_some, x147_0, Option.bind_some, x129_o, Option.bind_some, ← we1]
        exact tail
    · obtain ⟨k1, k2, k3⟩ := rOf_b hfac
      have kb := rFac_b _ k3
      rw [← k2] at kb
      rw [if_neg hfac, if_neg hfac, bd_some, nm_q, if_neg (nI_nm1 (by omega)), x147_o, Option.bind_some]
      obtain ⟨p1, c1, es2, e1, v1, v2, v3, v4⟩ := c_val (n := n) (sl := sl) (U := U) (S := S) (σ1 := σ1) hX (p := skp L b p + 1) (c := c) (es := es) (e := 0) (by omega) (by omega) (fun _ => ⟨hc, by omega⟩)
      have v1 : f_X6_readValue (cn n sl U S (cX T (skp L b p + 1) c es 0) σ1) 147 = some (cn n sl U S (cX T p1 c1 es2 e1) σ1) := v1
      rw [v1, Option.bind_some, x147_o, Option.bind_some]
      rcases v4 with ⟨h, -⟩ | ⟨-, ne, sv⟩ | ⟨-, e10, sv⟩
      · exact absurd rfl h
      · obtain ⟨q, q1, q2⟩ := c_sumD (n := n) (sl := sl) (U := U) (S := S) (σ1 := σ1) hX (c := c1) (es := es2) v2 ne v3 (wI w) (i + 1) f (by omega)
        rw [r_emitD ne v3, Option.bind_some, nm_q, oin1, nI_add, q2, sv, sb_l, sb_l]
        exact ⟨q, c1, es2, e1, rfl, q1, v3, .inl ⟨ne, rfl⟩⟩
      · subst e10
        obtain ⟨g, G, l1, c1', n1, -⟩ := rVal_ok sv (show skp L b p + 1 ≤ L by omega) hc
        have l1 : skp L b p + 1 < p1 := l1
        have c1' : c1 = c + 1 := c1'
        have cc : c1 ≤ 60 := G.2.2.2.1
        have ln : es2.length = es.length + 1 := by
          have : es2 = es ++ g := G.2.2.2.2.1
          rw [this, List.length_append, n1]
        have ln2 : (es2 ++ [(rOf L b rFac (skp L b p), 0)]).length = es.length + 2 := by
          rw [List.length_append, ln]
          rfl
        obtain ⟨p2, c2, es3, e2, z1, z2, z3, z4⟩ := ih (L - p1) p1 c1 (es2 ++ [(rOf L b rFac (skp L b p), 0)]) w (i + 1) f Ft (Fu + 1) (by omega) rfl v2 cc (by omega) hw (by omega) (by omega) (by omega) (by omega)
        rw [cd_fac kb, r_emit _ (by omega), Option.bind_some, nm_q, oin1, nI_add, z1, sv, sb_r]
        exact ⟨p2, c2, es3, e2, rfl, z2, z3, z4⟩
theorem c_sum (hX : TXc T L b) {p c e : Nat} {es : List (Nat × Nat)} (hp : p ≤ L) (he : e < 4000) (hJ : e = 0 → c ≤ 60 ∧ 3 * es.length ≤ 14 * c) : CSim n sl U S σ1 T L (rSum L b) (fun μ => f_X6_readSum μ 147) p c es e := by
  have hL := hX.1
  obtain ⟨p1, c1, es1, e1, v1, v2, v3, v4⟩ := c_val (n := n) (sl := sl) (U := U) (S := S) (σ1 := σ1) hX hp he hJ
  have v1 : f_X6_readValue (cn n sl U S (cX T p c es e) σ1) 147 = some (cn n sl U S (cX T p1 c1 es1 e1) σ1) := v1
  have pre : f_X6_readSum (cn n sl U S (cX T p c es e) σ1) 147 = f_X6_readSum_L8 (fun μ28 => (some μ28)) (fun μ29 => (some μ29)) FU (cn n sl U S (cX T p1 c1 es1 e1) σ1) 147 (-1) (nI 0) := by
    unfold f_X6_readSum
    rw [nm_q, x147_o, Option.bind_some, v1, Option.bind_some, nm_q]
    rfl
  have F0 : 0 < FU := by unfold FU; omega
  rcases v4 with ⟨h0, he1⟩ | ⟨h0, ne, sv⟩ | ⟨h0, e10, sv⟩
  · obtain ⟨q, q1, q2⟩ := c_sumD (n := n) (sl := sl) (U := U) (S := S) (σ1 := σ1) hX (c := c1) (es := es1) v2 (show e1 ≠ 0 by omega) v3 (-1) 0 FU F0
    exact ⟨q, c1, es1, e1, pre.trans q2, q1, v3, .inl ⟨h0, he1⟩⟩
  · obtain ⟨q, q1, q2⟩ := c_sumD (n := n) (sl := sl) (U := U) (S := S) (σ1 := σ1) hX (c := c1) (es := es1) v2 ne v3 (-1) 0 FU F0
    exact ⟨q, c1, es1, e1, pre.trans q2, q1, v3, .inr (.inl ⟨h0, ne, by unfold rSum; rw [sv, sb_l]⟩)⟩
  · subst h0
    subst e10
    obtain ⟨c60, J⟩ := hJ rfl
    obtain ⟨g, G, l1, c1', n1, -⟩ := rVal_ok sv hp c60
    have l1 : p < p1 := l1
    have c1' : c1 = c + 1 := c1'
    have cc : c1 ≤ 60 := G.2.2.2.1
    have ln : es1.length = es.length + 1 := by
      have : es1 = es ++ g := G.2.2.2.2.1
      rw [this, List.length_append, n1]
    obtain ⟨p2, c2, es2, e2, z1, z2, z3, z4⟩ := c_sumL (n := n) (sl := sl) (U := U) (S := S) (σ1 := σ1) hX (L - p1 + 1) (L - p1) p1 c1 es1 0 0 FU 500 500 (by omega) rfl v2 cc (by omega) (.inl rfl) (by omega) (by unfold FU; omega) (by omega) (by omega)
    have z1 : f_X6_readSum_L8 (fun μ28 => (some μ28)) (fun μ29 => (some μ29)) FU (cn n sl U S (cX T p1 c1 es1 0) σ1) 147 (-1) (nI 0) = some (cn n sl U S (cX T p2 c2 es2 e2) σ1) := z1
    have rs : rSum L b (p, c, es) = sb (rT L b 500 (p1, c1, es1)) fun s' => rU L b 500 (if 0 = 0 then s' else rAdd s' 0) := by
      unfold rSum
      rw [sv, sb_r]
      rfl
    refine ⟨p2, c2, es2, e2, pre.trans z1, z2, z3, ?_⟩
    rcases z4 with ⟨ne, z4⟩ | ⟨e20, z4⟩
    · exact .inr (.inl ⟨rfl, ne, rs.trans z4⟩)
    · exact .inr (.inr ⟨rfl, e20, rs.trans z4⟩)
end CSUM
