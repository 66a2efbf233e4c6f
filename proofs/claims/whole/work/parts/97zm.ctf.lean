/-! Rules: the class's tests and facts within one another. -/
section CTF
variable {n sl : Nat} {U : Nat → va_E} {S : Nat → Nat × Nat × Nat} {σ1 : Sg} {T : Tc} {L : Nat} {b : Nat → Nat}
theorem c_tLD (hX : TXc T L b) (F : Mm → Nat → Int32 → Option Mm) {p c e : Nat} {es : List (Nat × Nat)} (hp : p ≤ L) (he : e ≠ 0) (h4 : e < 4000) (x w : Int32) (i f : Nat) (hf : 0 < f) : ∃ q, q ≤ L ∧ o_X6_readTest_L9 F (fun μ29 => (some μ29)) (fun μ30 => (some μ30)) f (cn n sl U S (cX T p c es e) σ1) 147 x w (nI i) = some (cn n sl U S (cX T q c es e) σ1) := by
  have hs := skp_le b hp
  obtain ⟨f, rfl⟩ : ∃ k, f = k + 1 := ⟨f - 1, by omega⟩
  rw [o_X6_readTest_L9]
  by_cases h : (400 : Int32) ≤ nI i
  · rw [if_pos h]
    exact ⟨p, hp, rfl⟩
  · rw [if_neg h, x147_0, Option.bind_some, x129_o, Option.bind_some, r_twD hX hp he h4, bd_some, if_pos rfl]
    by_cases hw : w = 0
    · rw [if_pos hw, x147_0, Option.bind_some, x129_o, Option.bind_some, r_twD hX hs he h4, bd_some, if_pos rfl, skp_i]
      exact ⟨_, hs, rfl⟩
    · rw [if_neg hw, x147_o, Option.bind_some, r_emitD he h4, Option.bind_some, x147_0, Option.bind_some, x129_o, Option.bind_some, r_twD hX hs he h4, bd_some, if_pos rfl, skp_i]
      exact ⟨_, hs, rfl⟩
theorem c_tL (hX : TXc T L b) {d : Nat} {F : Mm → Nat → Int32 → Option Mm} {G : Rt → Sum Nat Rt} (hd : d ≤ 10) (hS : ∀ p c es e, p ≤ L → e < 4000 → (e = 0 → c ≤ 60 ∧ 3 * es.length ≤ 14 * c) → CSim n sl U S σ1 T L G (fun μ => F μ 147 (nI d)) p c es e) (hP : FP L d (4 + 2 * (10 - d)) G) : ∀ (m k p c : Nat) (es : List (Nat × Nat)) (ow : Bool) (i f Ff : Nat), k < m → L - p = k → p ≤ L → c ≤ 60 → 3 * es.length + 3 ≤ 14 * c → i + k < 400 → k < f → k < Ff → ∃ p' c' es' e', o_X6_readTest_L9 F (fun μ29 => (some μ29)) (fun μ30 => (some μ30)) f (cn n sl U S (cX T p c es 0) σ1) 147 (nI d) (bI ow) (nI i) = some (cn n sl U S (cX T p' c' es' e') σ1) ∧ p' ≤ L ∧ e' < 4000 ∧ ((e' ≠ 0 ∧ rTL L b G Ff ow (p, c, es) = .inl e') ∨ (e' = 0 ∧ rTL L b G Ff ow (p, c, es) = .inr (p', c', es'))) := by
  have hL := hX.1
  intro m
  induction m with
  | zero => intro k p c es ow i f Ff h0; omega
  | succ m ih =>
    intro k p c es ow i f Ff h0 h1 hp hc hJ hi hf hFf
    obtain ⟨f, rfl⟩ : ∃ k, f = k + 1 := ⟨f - 1, by omega⟩
    obtain ⟨Ff, rfl⟩ : ∃ k, Ff = k + 1 := ⟨Ff - 1, by omega⟩
    have hs := skp_le b hp
    have gs := skp_ge L b p
    have hw := we_le b hs
    have fuel : k ≤ f := by omega
    have er : rTL L b G (Ff + 1) ow (p, c, es) = if isWd L b wAnd (skp L b p) = true then sb (G (we L b (skp L b p), c, es)) fun s' => rTL L b G Ff ow (rAdd s' 10) else if isWd L b wOr (skp L b p) = true then sb (G (rAt (if ow = true then rAdd (p, c, es) 11 else (p, c, es)) (we L b (skp L b p)))) fun s' => rTL L b G Ff true s' else .inr (rAt (if ow = true then rAdd (p, c, es) 11 else (p, c, es)) (skp L b p)) := rfl
    have tw := r_tw (n := n) (sl := sl) (U := U) (S := S) (σ1 := σ1) hX (c := c) (es := es) (a := 7) wAnd (by decide) hp (by decide +kernel) (by decide +kernel)
    have step : ∀ p1 c1 es1, p1 ≤ L → c1 ≤ 60 → 3 * es1.length ≤ 14 * c1 → ∃ p2 c2 es2 e2, F (cn n sl U S (cX T p1 c1 es1 0) σ1) 147 (nI d) = some (cn n sl U S (cX T p2 c2 es2 e2) σ1) ∧ p2 ≤ L ∧ e2 < 4000 ∧ ((e2 ≠ 0 ∧ G (p1, c1, es1) = .inl e2) ∨ (e2 = 0 ∧ G (p1, c1, es1) = .inr (p2, c2, es2) ∧ p1 < p2 ∧ c2 ≤ 60 ∧ c1 + 3 ≤ c2 ∧ 3 * es2.length + 33 + 14 * c1 ≤ 3 * es1.length + 14 * c2 + 3 * (10 - d))) := by
      intro p1 c1 es1 q1 q2 q3
      obtain ⟨p2, c2, es2, e2, v1, v2, v3, v4⟩ := hS p1 c1 es1 0 q1 (by omega) (fun _ => ⟨q2, q3⟩)
      refine ⟨p2, c2, es2, e2, v1, v2, v3, ?_⟩
      rcases v4 with ⟨h, -⟩ | ⟨-, ne, sv⟩ | ⟨-, e0, sv⟩
      · exact absurd rfl h
      · exact .inl ⟨ne, sv⟩
      · obtain ⟨g, GG, l1, c1', n1, -⟩ := hP _ _ sv q1 q2
        have ln : es2.length = es1.length + g.length := by
          have : es2 = es1 ++ g := GG.2.2.2.2.1
          rw [this, List.length_append]
        have n1 : 3 * g.length + 33 + 14 * c1 ≤ 14 * c2 + 3 * (10 - d) := n1
        exact .inr ⟨e0, sv, l1, GG.2.2.2.1, c1', by omega⟩
    rw [o_X6_readTest_L9, if_neg (show ¬ (400 : Int32) ≤ nI i from nI_ge (b := 400) (by omega) (by decide)), x147_0, Option.bind_some, x129_o, Option.bind_some, tw, er]
    by_cases ha : isWd L b wAnd (skp L b p) = true
    · have lt := wd_lt ha (by decide)
      obtain ⟨p2, c2, es2, e2, v1, v2, v3, v4⟩ := step (we L b (skp L b p)) c es hw hc (by omega)
      rw [if_pos ha, if_pos ha, bd_some, if_neg (show ¬ (1 : Int32) = 0 by decide), x147_o, Option.bind_some, v1, Option.bind_some, x147_o, Option.bind_some]
      rcases v4 with ⟨ne, sv⟩ | ⟨e0, sv, l1, cc, c3, n1⟩
      · obtain ⟨q, q1, q2⟩ := c_tLD (n := n) (sl := sl) (U := U) (S := S) (σ1 := σ1) hX F (c := c2) (es := es2) v2 ne v3 (nI d) (bI ow) (i + 1) f (by omega)
        rw [r_emitD ne v3, Option.bind_some, nm_q, oin1, nI_add, q2, sv, sb_l]
        exact ⟨q, c2, es2, e2, rfl, q1, v3, .inl ⟨ne, rfl⟩⟩
      · subst e0
        have ln2 : (es2 ++ [(10, 0)]).length = es2.length + 1 := by rw [List.length_append]; rfl
        obtain ⟨p3, c3', es3, e3, z1, z2, z3, z4⟩ := ih (L - p2) p2 c2 (es2 ++ [(10, 0)]) ow (i + 1) f Ff (by omega) rfl v2 cc (by omega) (by omega) (by omega) (by omega)
        rw [show (100013 : Int32) = cdE (10, 0) by decide, r_emit _ (by omega), Option.bind_some, nm_q, oin1, nI_add, z1, sv, sb_r]
        exact ⟨p3, c3', es3, e3, rfl, z2, z3, z4⟩
    · rw [if_neg ha, if_neg ha, bd_some, if_pos (show (0 : Int32) = 0 from rfl)]
      obtain ⟨es1, we1⟩ : ∃ es1, es1 = if ow = true then es ++ [(11, 0)] else es := ⟨_, rfl⟩
      have hJ1 : 3 * es1.length ≤ 14 * c ∧ 3 * es1.length ≤ 3 * es.length + 3 := by
        rw [we1]
        cases ow with
        | false => rw [if_neg (by decide)]; omega
        | true =>
          rw [if_pos rfl, List.length_append]
          show 3 * (es.length + 1) ≤ _ ∧ 3 * (es.length + 1) ≤ _
          omega
      have sp : ∀ q, rAt (if ow = true then rAdd (p, c, es) 11 else (p, c, es)) q = (q, c, es1) := fun q => by
        rw [we1]
        cases ow with
        | false => rfl
        | true => rfl
      rw [sp, sp]
      have tail : ∃ p' c' es' e', (bd (f_X9_takesWord (cn n sl U S (cX T (skp L b p) c es1 0) σ1) 129 8) fun v15 μ14 =>
    (if v15 = 0 then
    some μ14
    else
    (nm (1 : Int32) fun x16 =>
    ((ob μ14 147 6).bind fun _ =>
    ((F μ14 147 (nI d)).bind fun μ17 =>
    (nm (nI i + Int32.ofInt (1)) fun x18 =>
    o_X6_readTest_L9 F (fun μ29 => (some μ29)) (fun μ30 => (some μ30)) f μ17 147 (nI d) x16 x18)))))) = some (cn n sl U S (cX T p' c' es' e') σ1) ∧ p' ≤ L ∧ e' < 4000 ∧ ((e' ≠ 0 ∧ (if isWd L b wOr (skp L b p) = true then sb (G (we L b (skp L b p), c, es1)) fun s' => rTL L b G Ff true s' else .inr (skp L b p, c, es1)) = .inl e') ∨ (e' = 0 ∧ (if isWd L b wOr (skp L b p) = true then sb (G (we L b (skp L b p), c, es1)) fun s' => rTL L b G Ff true s' else .inr (skp L b p, c, es1)) = .inr (p', c', es'))) := by
        have tw2 := r_tw (n := n) (sl := sl) (U := U) (S := S) (σ1 := σ1) hX (c := c) (es := es1) (a := 8) wOr (by decide) hs (by decide +kernel) (by decide +kernel)
        rw [skp_i] at tw2
        rw [tw2]
        by_cases hor : isWd L b wOr (skp L b p) = true
        · have lt := wd_lt hor (by decide)
          obtain ⟨p2, c2, es2, e2, v1, v2, v3, v4⟩ := step (we L b (skp L b p)) c es1 hw hc hJ1.1
          rw [if_pos hor, if_pos hor, bd_some, if_neg (show ¬ (1 : Int32) = 0 by decide), nm_q, x147_o, Option.bind_some, v1, Option.bind_some, nm_q, oin1, nI_add]
          rcases v4 with ⟨ne, sv⟩ | ⟨e0, sv, l1, cc, c3, n1⟩
          · obtain ⟨q, q1, q2⟩ := c_tLD (n := n) (sl := sl) (U := U) (S := S) (σ1 := σ1) hX F (c := c2) (es := es2) v2 ne v3 (nI d) 1 (i + 1) f (by omega)
            rw [q2, sv, sb_l]
            exact ⟨q, c2, es2, e2, rfl, q1, v3, .inl ⟨ne, rfl⟩⟩
          · subst e0
            obtain ⟨p3, c3', es3, e3, z1, z2, z3, z4⟩ := ih (L - p2) p2 c2 es2 true (i + 1) f Ff (by omega) rfl v2 cc (by omega) (by omega) (by omega) (by omega)
            rw [show bI true = 1 from rfl] at z1
            rw [z1, sv, sb_r]
            exact ⟨p3, c3', es3, e3, rfl, z2, z3, z4⟩
        · rw [if_neg hor, if_neg hor, bd_some, if_pos rfl]
          exact ⟨_, c, es1, 0, rfl, hs, by omega, .inr ⟨rfl, rfl⟩⟩
      cases ow with
      | false =>
        rw [if_neg (by decide)] at we1
        rw [if_pos (show bI false = 0 from rfl), x147_0, Option.bind_some, x129_o, Option.bind_some, ← we1]
        exact tail
      | true =>
        rw [if_pos rfl] at we1
        rw [if_neg (show ¬ bI true = 0 by decide), x147_o, Option.bind_some, show (100014 : Int32) = cdE (11, 0) by decide, r_emit _ (by omega), Option.bind_some, x147_0, Option.bind_some, x129_o, Option.bind_some, ← we1]
        exact tail
theorem c_TF (hX : TXc T L b) (k : Nat) : ∀ d, d ≤ 10 → (2 * (10 - d) + 2 ≤ k → ∀ p c es e, p ≤ L → e < 4000 → (e = 0 → c ≤ 60 ∧ 3 * es.length ≤ 14 * c) → CSim n sl U S σ1 T L ((rTF L b k).1 d) (fun μ => (fTF k).1 μ 147 (nI d)) p c es e) ∧ (2 * (10 - d) + 1 ≤ k → ∀ p c es e, p ≤ L → e < 4000 → (e = 0 → c ≤ 60 ∧ 3 * es.length ≤ 14 * c) → CSim n sl U S σ1 T L ((rTF L b k).2 d) (fun μ => (fTF k).2 μ 147 (nI d)) p c es e) := by
  have hL := hX.1
  induction k with
  | zero => exact fun d _ => ⟨fun h => (by omega), fun h => (by omega)⟩
  | succ k ih =>
    intro d hd
    refine ⟨fun hk p c es e hp he hJ => ?_, fun hk p c es e hp he hJ => ?_⟩
    · have hS := (ih d hd).2 (by omega)
      obtain ⟨p1, c1, es1, e1, v1, v2, v3, v4⟩ := hS p c es e hp he hJ
      have v1 : (fTF k).2 (cn n sl U S (cX T p c es e) σ1) 147 (nI d) = some (cn n sl U S (cX T p1 c1 es1 e1) σ1) := v1
      have pre : (fTF (k + 1)).1 (cn n sl U S (cX T p c es e) σ1) 147 (nI d) = o_X6_readTest_L9 (fTF k).2 (fun μ29 => (some μ29)) (fun μ30 => (some μ30)) FU (cn n sl U S (cX T p1 c1 es1 e1) σ1) 147 (nI d) 0 (nI 0) := by
        show o_X6_readTest (fTF k).2 _ 147 (nI d) = _
        unfold o_X6_readTest
        rw [x147_o, Option.bind_some, v1, Option.bind_some, nm_q, nm_q]
        rfl
      have F0 : 0 < FU := by unfold FU; omega
      have sp : (rTF L b (k + 1)).1 d (p, c, es) = sb ((rTF L b k).2 d (p, c, es)) fun s1 => rTL L b ((rTF L b k).2 d) 500 false s1 := rfl
      rcases v4 with ⟨h0, he1⟩ | ⟨h0, ne, sv⟩ | ⟨h0, e10, sv⟩
      · obtain ⟨q, q1, q2⟩ := c_tLD (n := n) (sl := sl) (U := U) (S := S) (σ1 := σ1) hX (fTF k).2 (c := c1) (es := es1) v2 (show e1 ≠ 0 by omega) v3 (nI d) 0 0 FU F0
        exact ⟨q, c1, es1, e1, pre.trans q2, q1, v3, .inl ⟨h0, he1⟩⟩
      · obtain ⟨q, q1, q2⟩ := c_tLD (n := n) (sl := sl) (U := U) (S := S) (σ1 := σ1) hX (fTF k).2 (c := c1) (es := es1) v2 ne v3 (nI d) 0 0 FU F0
        exact ⟨q, c1, es1, e1, pre.trans q2, q1, v3, .inr (.inl ⟨h0, ne, by rw [sp, sv, sb_l]⟩)⟩
      · subst h0
        subst e10
        obtain ⟨c60, J⟩ := hJ rfl
        obtain ⟨g, GG, l1, c1', n1, -⟩ := (rTF_ok (L := L) (b := b) k d hd).2 _ _ sv hp c60
        have l1 : p < p1 := l1
        have cc : c1 ≤ 60 := GG.2.2.2.1
        have n1 : 3 * g.length + 33 + 14 * c ≤ 14 * c1 + 3 * (10 - d) := n1
        have ln : es1.length = es.length + g.length := by
          have : es1 = es ++ g := GG.2.2.2.2.1
          rw [this, List.length_append]
        obtain ⟨p2, c2, es2, e2, z1, z2, z3, z4⟩ := c_tL (n := n) (sl := sl) (U := U) (S := S) (σ1 := σ1) hX hd hS (rTF_ok (L := L) (b := b) k d hd).2 (L - p1 + 1) (L - p1) p1 c1 es1 false 0 FU 500 (by omega) rfl v2 cc (by omega) (by omega) (by unfold FU; omega) (by omega)
        have z1 : o_X6_readTest_L9 (fTF k).2 (fun μ29 => (some μ29)) (fun μ30 => (some μ30)) FU (cn n sl U S (cX T p1 c1 es1 0) σ1) 147 (nI d) 0 (nI 0) = some (cn n sl U S (cX T p2 c2 es2 e2) σ1) := z1
        rw [sv, sb_r] at sp
        refine ⟨p2, c2, es2, e2, pre.trans z1, z2, z3, ?_⟩
        rcases z4 with ⟨ne, z4⟩ | ⟨e20, z4⟩
        · exact .inr (.inl ⟨rfl, ne, sp.trans z4⟩)
        · exact .inr (.inr ⟨rfl, e20, sp.trans z4⟩)
    · have hs := skp_le b hp
      have hw := we_le b hs
      have hX' := hX.rc c es
      have i0 : (0 : Int32) = 0 := rfl
      have i1 : ¬ (1 : Int32) = 0 := by decide
      by_cases e0 : e = 0
      · subst e0
        obtain ⟨c60, J⟩ := hJ rfl
        have sp : (rTF L b (k + 1)).2 d (p, c, es) = if skp L b p < L ∧ b (skp L b p) = 91 then (if 10 ≤ d then .inl (1 + 8 * skp L b p + 2) else sb ((rTF L b k).1 (d + 1) (skp L b p + 1, c, es)) fun s' => if skp L b s'.1 < L ∧ b (skp L b s'.1) = 93 then .inr (rAt s' (skp L b s'.1 + 1)) else .inl (1 + 8 * skp L b s'.1 + 0))
          else if isWd L b wNot (skp L b p) = true then (if 10 ≤ d then .inl (1 + 8 * skp L b p + 2) else sb ((rTF L b k).2 (d + 1) (we L b (skp L b p), c, es)) fun s' => .inr (rAdd s' 9))
          else rCmp L b (skp L b p, c, es) := rfl
        by_cases h91 : skp L b p < L ∧ b (skp L b p) = 91
        · rw [if_pos h91] at sp
          by_cases d10 : 10 ≤ d
          · rw [if_pos d10] at sp
            refine ⟨skp L b p + 1, c, es, 1 + 8 * skp L b p + 2, ?_, by omega, by omega, .inr (.inl ⟨rfl, by omega, sp⟩)⟩
            show o_X6_readFact (fTF k).1 (fTF k).2 (cn n sl U S (cX T p c es 0) σ1) 147 (nI d) = _
            unfold o_X6_readFact
            rw [x147_0, Option.bind_some, x129_o, Option.bind_some, y_sk hX' hp, bd_some, nm_q, x147_0, Option.bind_some, x129_o, Option.bind_some, show (91 : Int32) = nI 91 from rfl, y_by hX' hs (by decide), skp_i, if_pos h91, bd_some, nm_q, if_neg i1, nm_q, if_neg i1, if_neg (show ¬ nI d < 10 from nI_nlt (b := 10) d10 (by omega)), x147_0, Option.bind_some, x129_o, Option.bind_some, lit_2, y_f0, Option.bind_some]
          · rw [if_neg d10] at sp
            obtain ⟨p1, c1, es1, e1, v1, v2, v3, v4⟩ := (ih (d + 1) (by omega)).1 (by omega) (skp L b p + 1) c es 0 (by omega) (by omega) hJ
            have v1 : (fTF k).1 (cn n sl U S (cX T (skp L b p + 1) c es 0) σ1) 147 (nI (d + 1)) = some (cn n sl U S (cX T p1 c1 es1 e1) σ1) := v1
            have pre : (fTF (k + 1)).2 (cn n sl U S (cX T p c es 0) σ1) 147 (nI d) = (bd (f_X9_takesByte (cn n sl U S (cX T p1 c1 es1 e1) σ1) 129 (93 : Int32)) fun v148 μ147 =>
    (if v148 = 0 then
    ((gR μ147 147 6 0).bind fun v149 =>
    ((gR μ147 147 6 0).bind fun v150 =>
    ((gI μ147 v150 9 2).bind fun v151 =>
    ((ob μ147 v149 9).bind fun _ =>
    ((f_X9_fail μ147 v149 v151 (0 : Int32)).bind fun μ152 =>
    (some μ152))))))
    else
    (some μ147))) := by
              show o_X6_readFact (fTF k).1 (fTF k).2 (cn n sl U S (cX T p c es 0) σ1) 147 (nI d) = _
              unfold o_X6_readFact
              rw [x147_0, Option.bind_some, x129_o, Option.bind_some, y_sk hX' hp, bd_some, nm_q, x147_0, Option.bind_some, x129_o, Option.bind_some, show (91 : Int32) = nI 91 from rfl, y_by hX' hs (by decide), skp_i, if_pos h91, bd_some, nm_q, if_neg i1, nm_q, if_neg i1, if_pos (show nI d < 10 from nI_lt (b := 10) (by omega) (by decide)), if_neg i1, x147_o, Option.bind_some, lit_1, nI_add, v1, Option.bind_some, x147_0, Option.bind_some, x129_o, Option.bind_some]
            rcases v4 with ⟨h, -⟩ | ⟨-, ne, sv⟩ | ⟨-, e10, sv⟩
            · exact absurd rfl h
            · rw [sv, sb_l] at sp
              rw [y_byD _ ne (by omega), bd_some, if_pos i0, x147_0, Option.bind_some, Option.bind_some, y_pl, Option.bind_some, x129_o, Option.bind_some, y_f1 _ ne (by omega), Option.bind_some] at pre
              exact ⟨_, c1, es1, e1, pre, v2, v3, .inr (.inl ⟨rfl, ne, sp⟩)⟩
            · subst e10
              have hX1 := hX.rc c1 es1
              have hs1 := skp_le b v2
              rw [sv, sb_r] at sp
              rw [show (93 : Int32) = nI 93 from rfl, y_by hX1 v2 (by decide)] at pre
              by_cases h93 : skp L b p1 < L ∧ b (skp L b p1) = 93
              · rw [if_pos h93, bd_some, if_neg i1] at pre
                rw [if_pos h93] at sp
                exact ⟨_, c1, es1, 0, pre, by omega, by omega, .inr (.inr ⟨rfl, rfl, sp⟩)⟩
              · rw [if_neg h93, bd_some, if_pos i0, x147_0, Option.bind_some, Option.bind_some, y_pl, Option.bind_some, x129_o, Option.bind_some, show f_X9_fail (cn n sl U S (tp (rcT T c1 es1) (skp L b p1) 0) σ1) 129 (nI (skp L b p1)) 0 = _ from y_f0 (k := 0) _ _, Option.bind_some] at pre
                rw [if_neg h93] at sp
                exact ⟨_, c1, es1, _, pre, hs1, by omega, .inr (.inl ⟨rfl, by omega, sp⟩)⟩
        · rw [if_neg h91] at sp
          have tw := r_tw (n := n) (sl := sl) (U := U) (S := S) (σ1 := σ1) hX (c := c) (es := es) (a := 6) wNot (by decide) hs (by decide +kernel) (by decide +kernel)
          rw [skp_i] at tw
          by_cases hn : isWd L b wNot (skp L b p) = true
          · rw [if_pos hn] at sp tw
            by_cases d10 : 10 ≤ d
            · rw [if_pos d10] at sp
              refine ⟨we L b (skp L b p), c, es, 1 + 8 * skp L b p + 2, ?_, hw, by omega, .inr (.inl ⟨rfl, by omega, sp⟩)⟩
              show o_X6_readFact (fTF k).1 (fTF k).2 (cn n sl U S (cX T p c es 0) σ1) 147 (nI d) = _
              unfold o_X6_readFact
              rw [x147_0, Option.bind_some, x129_o, Option.bind_some, y_sk hX' hp, bd_some, nm_q, x147_0, Option.bind_some, x129_o, Option.bind_some, show (91 : Int32) = nI 91 from rfl, y_by hX' hs (by decide), skp_i, if_neg h91, bd_some, nm_q, if_pos i0, x147_0, Option.bind_some, x129_o, Option.bind_some, tw, bd_some, if_neg i1, nm_q, if_pos i0, if_neg i1, if_neg (show ¬ nI d < 10 from nI_nlt (b := 10) d10 (by omega)), x147_0, Option.bind_some, x129_o, Option.bind_some, lit_2, y_f0, Option.bind_some]
            · rw [if_neg d10] at sp
              obtain ⟨p1, c1, es1, e1, v1, v2, v3, v4⟩ := (ih (d + 1) (by omega)).2 (by omega) (we L b (skp L b p)) c es 0 hw (by omega) hJ
              have v1 : (fTF k).2 (cn n sl U S (cX T (we L b (skp L b p)) c es 0) σ1) 147 (nI (d + 1)) = some (cn n sl U S (cX T p1 c1 es1 e1) σ1) := v1
              have pre : (fTF (k + 1)).2 (cn n sl U S (cX T p c es 0) σ1) 147 (nI d) = ((f_X6_emit (cn n sl U S (cX T p1 c1 es1 e1) σ1) 147 (100012 : Int32)).bind fun μ91 =>
    (some μ91)) := by
                show o_X6_readFact (fTF k).1 (fTF k).2 (cn n sl U S (cX T p c es 0) σ1) 147 (nI d) = _
                unfold o_X6_readFact
                rw [x147_0, Option.bind_some, x129_o, Option.bind_some, y_sk hX' hp, bd_some, nm_q, x147_0, Option.bind_some, x129_o, Option.bind_some, show (91 : Int32) = nI 91 from rfl, y_by hX' hs (by decide), skp_i, if_neg h91, bd_some, nm_q, if_pos i0, x147_0, Option.bind_some, x129_o, Option.bind_some, tw, bd_some, if_neg i1, nm_q, if_pos i0, if_neg i1, if_pos (show nI d < 10 from nI_lt (b := 10) (by omega) (by decide)), if_pos i0, if_neg i1, x147_o, Option.bind_some, lit_1, nI_add, v1, Option.bind_some, x147_o, Option.bind_some]
              rcases v4 with ⟨h, -⟩ | ⟨-, ne, sv⟩ | ⟨-, e10, sv⟩
              · exact absurd rfl h
              · rw [sv, sb_l] at sp
                rw [r_emitD ne v3, Option.bind_some] at pre
                exact ⟨_, c1, es1, e1, pre, v2, v3, .inr (.inl ⟨rfl, ne, sp⟩)⟩
              · subst e10
                rw [sv, sb_r] at sp
                obtain ⟨g, GG, l1, c1', n1, -⟩ := (rTF_ok (L := L) (b := b) k (d + 1) (by omega)).2 _ _ sv hw c60
                have cc : c1 ≤ 60 := GG.2.2.2.1
                have n1 : 3 * g.length + 33 + 14 * c ≤ 14 * c1 + 3 * (10 - (d + 1)) := n1
                have ln : es1.length = es.length + g.length := by
                  have : es1 = es ++ g := GG.2.2.2.2.1
                  rw [this, List.length_append]
                rw [show (100012 : Int32) = cdE (9, 0) by decide, r_emit _ (by omega), Option.bind_some] at pre
                exact ⟨p1, c1, es1 ++ [(9, 0)], 0, pre, v2, by omega, .inr (.inr ⟨rfl, rfl, sp⟩)⟩
          · rw [if_neg hn] at sp tw
            obtain ⟨p1, c1, es1, e1, v1, v2, v3, v4⟩ := c_cmp (n := n) (sl := sl) (U := U) (S := S) (σ1 := σ1) hX hs he hJ
            refine ⟨p1, c1, es1, e1, ?_, v2, v3, ?_⟩
            · show o_X6_readFact (fTF k).1 (fTF k).2 (cn n sl U S (cX T p c es 0) σ1) 147 (nI d) = _
              unfold o_X6_readFact
              rw [x147_0, Option.bind_some, x129_o, Option.bind_some, y_sk hX' hp, bd_some, nm_q, x147_0, Option.bind_some, x129_o, Option.bind_some, show (91 : Int32) = nI 91 from rfl, y_by hX' hs (by decide), skp_i, if_neg h91, bd_some, nm_q, if_pos i0, x147_0, Option.bind_some, x129_o, Option.bind_some, tw, bd_some, if_pos i0, nm_q, if_pos i0, if_pos i0, if_pos i0, if_pos i0]
              exact v1
            · rw [sp]
              exact v4
      · obtain ⟨p1, c1, es1, e1, v1, v2, v3, v4⟩ := c_cmp (n := n) (sl := sl) (U := U) (S := S) (σ1 := σ1) hX (c := c) (es := es) (skp_le b hs) he hJ
        have e1e : e1 = e := by rcases v4 with ⟨_, h⟩ | ⟨h, _⟩ | ⟨h, _⟩; exact h; exact absurd h e0; exact absurd h e0
        refine ⟨p1, c1, es1, e1, ?_, v2, v3, .inl ⟨e0, e1e⟩⟩
        show o_X6_readFact (fTF k).1 (fTF k).2 (cn n sl U S (cX T p c es e) σ1) 147 (nI d) = _
        unfold o_X6_readFact
        rw [x147_0, Option.bind_some, x129_o, Option.bind_some, y_sk hX' hp, bd_some, nm_q, x147_0, Option.bind_some, x129_o, Option.bind_some, y_byD _ e0 (by omega), bd_some, nm_q, if_pos i0, x147_0, Option.bind_some, x129_o, Option.bind_some, r_twD hX hs e0 he, bd_some, if_pos i0, nm_q, if_pos i0, if_pos i0, if_pos i0, if_pos i0]
        exact v1
end CTF
