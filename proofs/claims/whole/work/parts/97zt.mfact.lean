/-! Rules: the reference's facts. -/
section MFACT
variable {σ0 : Sg} {L r : Nat} {b : Nat → Nat}
theorem wd_br {k : Nat} (h : k < L ∧ b k = 91) : isWd L b wNot k = false := by
  have e : we L b k = k := rn_f (decide_eq_false (fun x => by omega))
  unfold isWd
  rw [decide_eq_false (by rw [e]; show ¬ k = k + 3; omega), Bool.false_and]
theorem m_TF (hX : TXs σ0 L b) (hK : SK σ0 r) (K : Mm → Option Mm) (n : Nat) : ∀ d, d ≤ 10 → (2 * (10 - d) + 1 ≤ n → ∀ O σ p c es, RO σ0 σ O d → O.length ≤ 3 * d + 2 → p ≤ L → c ≤ 60 → 3 * es.length ≤ 14 * c → FcM K σ0 r L σ O d p c es ((rTF L b n).2 d (p, c, es))) ∧ (2 * (10 - d) + 2 ≤ n → ∀ R σ p c es, RO σ0 σ R d → Bse R → R.length ≤ 3 * d → p ≤ L → c ≤ 60 → 3 * es.length ≤ 14 * c → TsM K σ0 r L σ R d p c es ((rTF L b n).1 d (p, c, es))) := by
  have hL := hX.1
  induction n with
  | zero => exact fun d _ => ⟨fun h => (by omega), fun h => (by omega)⟩
  | succ n ih =>
    intro d hd
    refine ⟨fun hn O σ p c es hO hl hp hc hJ => ?_, fun hn R σ p c es hO hB hl hp hc hJ => ?_⟩
    · have hX1 := hO.tx hX
      have hK1 := hO.sk hK
      have hX' := hX1.rc r c es
      have hs := skp_le b hp
      have gs := skp_ge L b p
      have hw := we_le b hs
      have sp : (rTF L b (n + 1)).2 d (p, c, es) = if skp L b p < L ∧ b (skp L b p) = 91 then (if 10 ≤ d then .inl (1 + 8 * skp L b p + 2) else sb ((rTF L b n).1 (d + 1) (skp L b p + 1, c, es)) fun s' => if skp L b s'.1 < L ∧ b (skp L b s'.1) = 93 then .inr (rAt s' (skp L b s'.1 + 1)) else .inl (1 + 8 * skp L b s'.1 + 0))
          else if isWd L b wNot (skp L b p) = true then (if 10 ≤ d then .inl (1 + 8 * skp L b p + 2) else sb ((rTF L b n).2 (d + 1) (we L b (skp L b p), c, es)) fun s' => .inr (rAdd s' 9))
          else rCmp L b (skp L b p, c, es) := rfl
      have std := fun ρ τ => z_st (ρ := ρ) (τ := τ) hX' 0 wNot (a := 29) (p := skp L b p) (by decide) (by omega) (by decide +kernel) (by decide +kernel) (by decide)
      have sg : ∀ ρ τ, f_X12_sign (mem ρ τ (sX σ r (skp L b p) c es 0)) 188 = some (sgn L b (skp L b p), mem ρ τ (sX σ r (skp L b p) c es 0)) := fun ρ τ => z_sg hX' 0 (by omega)
      rw [sp]
      by_cases h91 : skp L b p < L ∧ b (skp L b p) = 91
      · have s91 : sgn L b (skp L b p) = 91 := (sgn_s (c := 91) hX1 (by decide)).2 h91
        rw [if_pos h91]
        have fct : ∀ {σ' : Sg} {e : Nat} ρ τ, f_X12_opens (mem ρ τ (sX σ r (skp L b p) c es 0)) 188 (nI 12) = some (mem ρ τ (sX σ' r (skp L b p) c es e)) → f_X12_fact (mem ρ τ (sX σ r p c es 0)) 188 = some (0, mem ρ τ (sX σ' r (skp L b p + 1) c es e)) := by
          intro σ' e ρ τ h
          have h' : f_X12_opens (mem ρ τ (sX σ r (skp L b p) c es 0)) 188 12 = some (mem ρ τ (sX σ' r (skp L b p) c es e)) := h
          unfold f_X12_fact
          rw [ob_mem, Option.bind_some, z_bl hX' 0 (by omega), Option.bind_some, ob_mem, Option.bind_some, std, bd_some, wd_br h91, if_pos (show bI false = 0 from rfl), ob_mem, Option.bind_some, sg, bd_some, if_pos s91, ob_mem, Option.bind_some, h', Option.bind_some, z_pl, Option.bind_some, lit_1, nI_add, z_pp, Option.bind_some, if_pos (by decide)]
        by_cases d10 : 10 ≤ d
        · rw [if_pos d10]
          refine ⟨1, _, skp L b p + 1, c, es, ((hO.deep (d + 1)).push 12).fr, by omega, by omega, fun f ρ τ => ?_⟩
          show f_X12_test_L9 K (f + 1 + 1) (mem ρ τ (sX σ r p c es 0)) 188 1 1 = _
          rw [L9_1, fct ρ τ (s_opens3 hO (by omega) (by omega) (.inr rfl) _ _ _ ρ τ), bd_some, if_pos rfl, L9_D _ _ _ _ _ (by omega) (by omega)]
        · rw [if_neg d10]
          have o1 := (hO.deep (d + 1)).push 12
          have T1 := (ih (d + 1) (by omega)).2 (by omega) (O ++ [12]) _ (skp L b p + 1) c es o1 (.inr ⟨O, rfl⟩) (by rw [List.length_append]; show O.length + 1 ≤ _; omega) (by omega) hc hJ
          have go : ∀ f ρ τ, f_X12_test_L9 K (f + 1) (mem ρ τ (sX σ r p c es 0)) 188 1 1 = f_X12_test_L9 K f (mem ρ τ (sX (stI (stA (stI σ 34 (nI (d + 1))) 222 O.length (nI 12)) 36 (nI (O.length + 1))) r (skp L b p + 1) c es 0)) 188 1 1 := by
            intro f ρ τ
            rw [L9_1, fct ρ τ (s_opens2 hO (by omega) (by omega) (.inr rfl) _ _ _ ρ τ), bd_some, if_pos rfl]
          cases hT : (rTF L b n).1 (d + 1) (skp L b p + 1, c, es) with
          | inl e =>
            rw [hT] at T1
            obtain ⟨t, σ', p', c', es', g1, g2, g3, g4⟩ := T1
            rw [sb_l]
            refine ⟨t + 1, σ', p', c', es', g1, by omega, g3, fun f ρ τ => ?_⟩
            show f_X12_test_L9 K (f + (t + 1) + 1) (mem ρ τ (sX σ r p c es 0)) 188 1 1 = _
            rw [go]
            exact g4 f ρ τ
          | inr s1 =>
            obtain ⟨p1, c1, es1⟩ := s1
            obtain ⟨gg, GG, l1, c1', n1, -⟩ := (rTF_ok (L := L) (b := b) n (d + 1) (by omega)).1 _ _ hT (show skp L b p + 1 ≤ L by omega) hc
            have l1 : skp L b p + 1 < p1 := l1
            have pL : p1 ≤ L := GG.2.1
            rw [hT] at T1
            obtain ⟨t, σ', g1, g2, g3⟩ := T1
            have g2 : t ≤ 2 * (p1 - (skp L b p + 1)) := g2
            have skk : skp L b p1 = p1 := by
              have hh : rTest L b (rTF L b (n - 1)).2 (d + 1) (skp L b p + 1, c, es) = .inr (p1, c1, es1) := by
                have : n = (n - 1) + 1 := by omega
                rw [this] at hT
                exact hT
              unfold rTest at hh
              obtain ⟨s2, y1, y2⟩ := sb_ok hh
              clear hh y1
              have key : ∀ (f : Nat) (ow : Bool) (s s' : Rt), rTL L b ((rTF L b (n - 1)).2 (d + 1)) f ow s = .inr s' → skp L b s'.1 = s'.1 := by
                intro f
                induction f with
                | zero => intro ow s s' h; cases h
                | succ f ihf =>
                  intro ow s s' h
                  rw [rTL] at h
                  split at h
                  · obtain ⟨s3, w1, w2⟩ := sb_ok h
                    exact ihf _ _ _ w2
                  · split at h
                    · obtain ⟨s3, w1, w2⟩ := sb_ok h
                      exact ihf _ _ _ w2
                    · injection h with h
                      subst h
                      exact skp_i L b s.1
              exact key _ _ _ _ y2
            have hX2 := (g1.tx hX).rc r c1 es1
            have sg2 : ∀ ρ τ, f_X12_sign (mem ρ τ (sX σ' r p1 c1 es1 0)) 188 = some (sgn L b p1, mem ρ τ (sX σ' r p1 c1 es1 0)) := fun ρ τ => z_sg hX2 0 (by omega)
            have lO : (O ++ [12]).length = O.length + 1 := by rw [List.length_append]; rfl
            have o36 : σ'.1 36 = nI (O.length + 1) := by have := g1.2.2.2.1; rw [lO] at this; exact this
            have o34 : σ'.1 34 = nI (d + 1) := g1.2.2.1
            have op := g1.pop.deep d
            rw [sb_r]
            show FcM K σ0 r L σ O d p c es (if skp L b p1 < L ∧ b (skp L b p1) = 93 then .inr (skp L b p1 + 1, c1, es1) else .inl (1 + 8 * skp L b p1 + 0))
            rw [skk]
            by_cases h93 : p1 < L ∧ b p1 = 93
            · have s93 : sgn L b p1 = 93 := (sgn_s (c := 93) hX1 (by decide)).2 h93
              rw [if_pos h93]
              refine ⟨t + 2, FU, _, op, by show t + 2 ≤ 2 * (p1 + 1 - p); omega, by omega, fun f ρ τ => ?_⟩
              rw [show f + (t + 2) + 1 = (f + 1) + t + 1 + 1 by omega, go, g3]
              unfold endM
              rw [ob_mem, Option.bind_some, s_top g1 (by omega), bd_some, if_pos (show nI 12 = 12 from rfl), ob_mem, Option.bind_some, sg2, bd_some, if_pos s93, z_pl, Option.bind_some, lit_1, nI_add, z_pp, Option.bind_some, q_36, Option.bind_some, o36, nI_sub (by omega), Nat.add_sub_cancel, mP_36, bs_I _ _ _ _ _ _ _ (.inr rfl), Option.bind_some, q_34, Option.bind_some, stI1, if_neg (show ¬ 34 = 36 by decide), o34, nI_sub (by omega), Nat.add_sub_cancel, mP_34, bs_I _ _ _ _ _ _ _ (.inl rfl), Option.bind_some]
              exact L9_0 K f _ _ _ ρ τ
            · have n93 : ¬ sgn L b p1 = 93 := fun x => h93 ((sgn_s (c := 93) hX1 (by decide)).1 x)
              rw [if_neg h93]
              refine ⟨t + 2, _, p1 + 1, c1, es1, op.fr, by omega, by omega, fun f ρ τ => ?_⟩
              show f_X12_test_L9 K (f + (t + 2) + 1) (mem ρ τ (sX σ r p c es 0)) 188 1 1 = _
              rw [show f + (t + 2) + 1 = (f + 1) + t + 1 + 1 by omega, go, g3]
              unfold endM
              rw [ob_mem, Option.bind_some, s_top g1 (by omega), bd_some, if_pos (show nI 12 = 12 from rfl), ob_mem, Option.bind_some, sg2, bd_some, if_neg n93, z_pl, Option.bind_some, ob_mem, Option.bind_some, show f_X12_fails (mem ρ τ (sX σ' r p1 c1 es1 0)) 188 0 (nI p1) = _ from z_fs0 (k := 0) _ _, Option.bind_some, z_pl, Option.bind_some, lit_1, nI_add, z_pp, Option.bind_some, q_36, Option.bind_some, o36, nI_sub (by omega), Nat.add_sub_cancel, mP_36, bs_I _ _ _ _ _ _ _ (.inr rfl), Option.bind_some, q_34, Option.bind_some, stI1, if_neg (show ¬ 34 = 36 by decide), o34, nI_sub (by omega), Nat.add_sub_cancel, mP_34, bs_I _ _ _ _ _ _ _ (.inl rfl), Option.bind_some]
              exact L9_D K f _ _ _ (by omega) (by omega) _ _ ρ τ
      · have n91 : ¬ sgn L b (skp L b p) = 91 := fun x => h91 ((sgn_s (c := 91) hX1 (by decide)).1 x)
        rw [if_neg h91]
        cases hN : isWd L b wNot (skp L b p) with
        | true =>
          have lt := wd_lt hN (by decide)
          have w3 : we L b (skp L b p) = skp L b p + 3 := wd_len hN
          rw [if_pos rfl]
          have fct : ∀ {σ' : Sg} {e : Nat} ρ τ, f_X12_opens (mem ρ τ (sX σ r (skp L b p) c es 0)) 188 (nI 9) = some (mem ρ τ (sX σ' r (skp L b p) c es e)) → f_X12_fact (mem ρ τ (sX σ r p c es 0)) 188 = some (0, mem ρ τ (sX σ' r (we L b (skp L b p)) c es e)) := by
            intro σ' e ρ τ h
            have h' : f_X12_opens (mem ρ τ (sX σ r (skp L b p) c es 0)) 188 9 = some (mem ρ τ (sX σ' r (skp L b p) c es e)) := h
            unfold f_X12_fact
            rw [ob_mem, Option.bind_some, z_bl hX' 0 (by omega), Option.bind_some, ob_mem, Option.bind_some, std, bd_some, hN, if_neg (show ¬ bI true = 0 by decide), ob_mem, Option.bind_some, h', Option.bind_some, z_pl, Option.bind_some, lit_3, nI_add, z_pp, Option.bind_some, if_pos (by decide), w3]
          by_cases d10 : 10 ≤ d
          · rw [if_pos d10]
            refine ⟨1, _, we L b (skp L b p), c, es, ((hO.deep (d + 1)).push 9).fr, by omega, by omega, fun f ρ τ => ?_⟩
            show f_X12_test_L9 K (f + 1 + 1) (mem ρ τ (sX σ r p c es 0)) 188 1 1 = _
            rw [L9_1, fct ρ τ (s_opens3 hO (by omega) (by omega) (.inl rfl) _ _ _ ρ τ), bd_some, if_pos rfl, L9_D _ _ _ _ _ (by omega) (by omega)]
          · rw [if_neg d10]
            have o1 := (hO.deep (d + 1)).push 9
            have F1 := (ih (d + 1) (by omega)).1 (by omega) (O ++ [9]) _ (we L b (skp L b p)) c es o1 (by rw [List.length_append]; show O.length + 1 ≤ _; omega) hw hc hJ
            have go : ∀ f ρ τ, f_X12_test_L9 K (f + 1) (mem ρ τ (sX σ r p c es 0)) 188 1 1 = f_X12_test_L9 K f (mem ρ τ (sX (stI (stA (stI σ 34 (nI (d + 1))) 222 O.length (nI 9)) 36 (nI (O.length + 1))) r (we L b (skp L b p)) c es 0)) 188 1 1 := by
              intro f ρ τ
              rw [L9_1, fct ρ τ (s_opens2 hO (by omega) (by omega) (.inl rfl) _ _ _ ρ τ), bd_some, if_pos rfl]
            cases hT : (rTF L b n).2 (d + 1) (we L b (skp L b p), c, es) with
            | inl e =>
              rw [hT] at F1
              obtain ⟨t, σ', p', c', es', g1, g2, g3, g4⟩ := F1
              rw [sb_l]
              refine ⟨t + 1, σ', p', c', es', g1, by omega, g3, fun f ρ τ => ?_⟩
              show f_X12_test_L9 K (f + (t + 1) + 1) (mem ρ τ (sX σ r p c es 0)) 188 1 1 = _
              rw [go]
              exact g4 f ρ τ
            | inr s1 =>
              obtain ⟨p1, c1, es1⟩ := s1
              obtain ⟨gg, GG, l1, c1', n1, -⟩ := (rTF_ok (L := L) (b := b) n (d + 1) (by omega)).2 _ _ hT hw hc
              have l1 : we L b (skp L b p) < p1 := l1
              have cc : c1 ≤ 60 := GG.2.2.2.1
              have n1 : 3 * gg.length + 33 + 14 * c ≤ 14 * c1 + 3 * (10 - (d + 1)) := n1
              have ln : es1.length = es.length + gg.length := by
                have : es1 = es ++ gg := GG.2.2.2.2.1
                rw [this, List.length_append]
              rw [hT] at F1
              obtain ⟨t, g, σ', g1, g2, g3, g4⟩ := F1
              have g2 : t ≤ 2 * (p1 - we L b (skp L b p)) := g2
              obtain ⟨g', rfl⟩ : ∃ g', g = g' + 1 := ⟨g - 1, by have : 20 < FU := (by unfold FU; omega); omega⟩
              obtain ⟨σ2, o2, o3⟩ := an_step (p := p1) (c := c1) (es := es1) (O := O) (k := 9) g1 hK (by omega) (.inl rfl) (fun _ => by omega) (by omega) (by omega)
              rw [if_pos rfl, Nat.add_sub_cancel] at o2
              rw [sb_r]
              refine ⟨t + 1, g', σ2, o2, by show t + 1 ≤ 2 * (p1 - p); omega, by omega, fun f ρ τ => ?_⟩
              rw [show f + (t + 1) + 1 = f + t + 1 + 1 by omega, go, g4, o3]
              rfl
        | false =>
          rw [if_neg (by decide)]
          obtain ⟨p1, c1, es1, e1, v1, v2, v3, v4⟩ := s_cmp hX1 hK1 (p := skp L b p) (c := c) (es := es) (e := 0) hs (by omega) (fun _ => ⟨hc, hJ⟩)
          have v1 : ∀ ρ τ, f_X12_compared (mem ρ τ (sX σ r (skp L b p) c es 0)) 188 = some (mem ρ τ (sX σ r p1 c1 es1 e1)) := v1
          have fct : ∀ ρ τ, f_X12_fact (mem ρ τ (sX σ r p c es 0)) 188 = some (1, mem ρ τ (sX σ r p1 c1 es1 e1)) := by
            intro ρ τ
            unfold f_X12_fact
            rw [ob_mem, Option.bind_some, z_bl hX' 0 (by omega), Option.bind_some, ob_mem, Option.bind_some, std, bd_some, hN, if_pos (show bI false = 0 from rfl), ob_mem, Option.bind_some, sg, bd_some, if_neg n91, ob_mem, Option.bind_some, v1, Option.bind_some, if_pos (by decide)]
          rcases v4 with ⟨h, -⟩ | ⟨-, ne, sv⟩ | ⟨-, e10, sv⟩
          · exact absurd rfl h
          · rw [sv]
            refine ⟨1, σ, p1, c1, es1, hO.fr, by omega, by omega, fun f ρ τ => ?_⟩
            show f_X12_test_L9 K (f + 1 + 1) (mem ρ τ (sX σ r p c es 0)) 188 1 1 = _
            rw [L9_1, fct, bd_some, if_neg (by decide), L9_D _ _ _ _ _ ne v3]
          · subst e10
            rw [sv]
            obtain ⟨gg, GG, l1, -⟩ := rCmp_ok sv hs hc
            have l1 : skp L b p < p1 := l1
            refine ⟨1, FU, σ, hO, by show 1 ≤ 2 * (p1 - p); omega, by omega, fun f ρ τ => ?_⟩
            rw [L9_1, fct, bd_some, if_neg (by decide)]
            exact L9_0 K f _ _ _ ρ τ
    · have sp : (rTF L b (n + 1)).1 d (p, c, es) = sb ((rTF L b n).2 d (p, c, es)) fun s1 => rTL L b ((rTF L b n).2 d) 500 false s1 := rfl
      have F1 := (ih d hd).1 (by omega) R σ p c es hO (by omega) hp hc hJ
      have hP := (rTF_ok (L := L) (b := b) n d hd).2
      rw [sp]
      cases hT : (rTF L b n).2 d (p, c, es) with
      | inl e =>
        rw [hT] at F1
        rw [sb_l]
        exact F1
      | inr s1 =>
        obtain ⟨p1, c1, es1⟩ := s1
        obtain ⟨gg, GG, l1, c1', n1, -⟩ := hP _ _ hT hp hc
        have l1 : p < p1 := l1
        have cc : c1 ≤ 60 := GG.2.2.2.1
        have pL : p1 ≤ L := GG.2.1
        have n1 : 3 * gg.length + 33 + 14 * c ≤ 14 * c1 + 3 * (10 - d) := n1
        have ln : es1.length = es.length + gg.length := by
          have : es1 = es ++ gg := GG.2.2.2.2.1
          rw [this, List.length_append]
        rw [hT] at F1
        obtain ⟨t, g, σ2, q1, q2, q3, q4⟩ := F1
        have q2 : t ≤ 2 * (p1 - p) := q2
        have q1' : RO σ0 σ2 ((R ++ aw false) ++ a10 false) d := by
          show RO σ0 σ2 ((R ++ []) ++ []) d
          rw [List.append_nil, List.append_nil]
          exact q1
        have z := m_TL hX hK K hd hP (fun O σ p c es h1 h2 h3 h4 h5 => (ih d hd).1 (by omega) O σ p c es h1 h2 h3 h4 h5) R hB hl (L - p1 + 1) (L - p1) p1 c1 es1 500 false false σ2 g (by omega) rfl pL cc (by show 3 * es1.length + 3 ≤ _; omega) (by omega) (by have : 20 < FU := (by unfold FU; omega); omega) q1'
        have z : (match rTL L b ((rTF L b n).2 d) 500 false (p1, c1, es1) with
          | .inl e => ErM K σ0 r L (fun f ρ τ => (f_X12_answers_L0 (fun μ14 => (some μ14)) g (mem ρ τ (sX σ2 r p1 c1 es1 0)) 188 (nI 9)).bind (tailM K f)) p1 e
          | .inr s' => ∃ t σ', RO σ0 σ' R d ∧ t ≤ 2 * (s'.1 - p1) ∧ ∀ f ρ τ, (f_X12_answers_L0 (fun μ14 => (some μ14)) g (mem ρ τ (sX σ2 r p1 c1 es1 0)) 188 (nI 9)).bind (tailM K (f + t)) = endM K f (mem ρ τ (sX σ' r s'.1 s'.2.1 s'.2.2 0))) := z
        rw [sb_r]
        cases hT2 : rTL L b ((rTF L b n).2 d) 500 false (p1, c1, es1) with
        | inl e =>
          rw [hT2] at z
          obtain ⟨t2, σ', p', c', es', z1, z2, z3, z4⟩ := z
          refine ⟨t2 + t, σ', p', c', es', z1, by omega, z3, fun f ρ τ => ?_⟩
          show f_X12_test_L9 K (f + (t2 + t) + 1) (mem ρ τ (sX σ r p c es 0)) 188 1 1 = _
          rw [show f + (t2 + t) + 1 = (f + t2) + t + 1 by omega, q4]
          exact z4 f ρ τ
        | inr s' =>
          rw [hT2] at z
          obtain ⟨t2, σ', z1, z2, z3⟩ := z
          have s'l : p1 ≤ s'.1 := (rTL_ok hP hT2 pL cc).elim (fun _ h => h.1.1)
          refine ⟨t2 + t, σ', z1, by omega, fun f ρ τ => ?_⟩
          rw [show f + (t2 + t) + 1 = (f + t2) + t + 1 by omega, q4]
          exact z3 f ρ τ
end MFACT
