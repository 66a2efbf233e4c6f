/-! Rules: the reference's facts and tests within one another. -/
def ErM (K : Mm → Option Mm) (σ0 : Sg) (r L : Nat) (F : Nat → Mm → (Nat → va_E) → Option Mm) (p e : Nat) : Prop := ∃ t σ' p' c' es', FrM σ0 σ' ∧ t ≤ 2 * (L - p) + 2 ∧ p' ≤ L + 1 ∧ ∀ f ρ τ, F (f + t) ρ τ = K (mem ρ τ (sX σ' r p' c' es' e))
def FcM (K : Mm → Option Mm) (σ0 : Sg) (r L : Nat) (σ : Sg) (O : List Nat) (d p c : Nat) (es : List (Nat × Nat)) : Sum Nat Rt → Prop
  | .inl e => ErM K σ0 r L (fun f ρ τ => f_X12_test_L9 K (f + 1) (mem ρ τ (sX σ r p c es 0)) 188 1 1) p e
  | .inr s' => ∃ t g σ', RO σ0 σ' O d ∧ t ≤ 2 * (s'.1 - p) ∧ FU ≤ g + (10 - d) ∧ ∀ f ρ τ, f_X12_test_L9 K (f + t + 1) (mem ρ τ (sX σ r p c es 0)) 188 1 1 = (f_X12_answers_L0 (fun μ14 => (some μ14)) g (mem ρ τ (sX σ' r s'.1 s'.2.1 s'.2.2 0)) 188 (nI 9)).bind (tailM K f)
def TsM (K : Mm → Option Mm) (σ0 : Sg) (r L : Nat) (σ : Sg) (R : List Nat) (d p c : Nat) (es : List (Nat × Nat)) : Sum Nat Rt → Prop
  | .inl e => ErM K σ0 r L (fun f ρ τ => f_X12_test_L9 K (f + 1) (mem ρ τ (sX σ r p c es 0)) 188 1 1) p e
  | .inr s' => ∃ t σ', RO σ0 σ' R d ∧ t ≤ 2 * (s'.1 - p) ∧ ∀ f ρ τ, f_X12_test_L9 K (f + t + 1) (mem ρ τ (sX σ r p c es 0)) 188 1 1 = endM K f (mem ρ τ (sX σ' r s'.1 s'.2.1 s'.2.2 0))
section MTF
variable {σ0 : Sg} {L r : Nat} {b : Nat → Nat}
theorem m_TL (hX : TXs σ0 L b) (hK : SK σ0 r) (K : Mm → Option Mm) {d : Nat} (hd : d ≤ 10) {G : Rt → Sum Nat Rt} (hP : FP L d (4 + 2 * (10 - d)) G) (hF : ∀ O σ p c es, RO σ0 σ O d → O.length ≤ 3 * d + 2 → p ≤ L → c ≤ 60 → 3 * es.length ≤ 14 * c → FcM K σ0 r L σ O d p c es (G (p, c, es))) (R : List Nat) (hB : Bse R) (hR : R.length ≤ 3 * d) : ∀ (m k p c : Nat) (es : List (Nat × Nat)) (Ff : Nat) (ow a : Bool) (σ : Sg) (g : Nat), k < m → L - p = k → p ≤ L → c ≤ 60 → 3 * (e10 a es).length + 3 ≤ 14 * c → k < Ff → 0 < g → RO σ0 σ ((R ++ aw ow) ++ a10 a) d → (match rTL L b G Ff ow (p, c, e10 a es) with
    | .inl e => ErM K σ0 r L (fun f ρ τ => (f_X12_answers_L0 (fun μ14 => (some μ14)) g (mem ρ τ (sX σ r p c es 0)) 188 (nI 9)).bind (tailM K f)) p e
    | .inr s' => ∃ t σ', RO σ0 σ' R d ∧ t ≤ 2 * (s'.1 - p) ∧ ∀ f ρ τ, (f_X12_answers_L0 (fun μ14 => (some μ14)) g (mem ρ τ (sX σ r p c es 0)) 188 (nI 9)).bind (tailM K (f + t)) = endM K f (mem ρ τ (sX σ' r s'.1 s'.2.1 s'.2.2 0))) := by
  have hL := hX.1
  intro m
  induction m with
  | zero => intro k p c es Ff ow a σ g h0; omega
  | succ m ih =>
    intro k p c es Ff ow a σ g h0 h1 hp hc hJ hFf hg hO
    obtain ⟨Ff, rfl⟩ : ∃ k, Ff = k + 1 := ⟨Ff - 1, by omega⟩
    have hs := skp_le b hp
    have gs := skp_ge L b p
    have hw := we_le b hs
    have le10 : es.length ≤ (e10 a es).length := by cases a <;> simp [e10]
    have law : (aw ow).length ≤ 1 := by cases ow <;> decide
    obtain ⟨σ1, o1, st⟩ := tl_strip (p := p) (c := c) (g := g) (es := es) hX hK hO hB (by omega) (by omega) hp (by omega) hg
    have er : rTL L b G (Ff + 1) ow (p, c, e10 a es) = if isWd L b wAnd (skp L b p) = true then sb (G (we L b (skp L b p), c, e10 a es)) fun s' => rTL L b G Ff ow (rAdd s' 10) else if isWd L b wOr (skp L b p) = true then sb (G (rAt (if ow = true then rAdd (p, c, e10 a es) 11 else (p, c, e10 a es)) (we L b (skp L b p)))) fun s' => rTL L b G Ff true s' else .inr (rAt (if ow = true then rAdd (p, c, e10 a es) 11 else (p, c, e10 a es)) (skp L b p)) := rfl
    have sp11 : ∀ q, rAt (if ow = true then rAdd (p, c, e10 a es) 11 else (p, c, e10 a es)) q = (q, c, e11 ow (e10 a es)) := fun q => by cases ow <;> rfl
    have l11 : (e11 ow (e10 a es)).length ≤ (e10 a es).length + 1 := by cases ow <;> simp [e11]
    rw [er, sp11, sp11]
    cases ha : isWd L b wAnd (skp L b p) with
    | true =>
      have lt := wd_lt ha (by decide)
      have w3 : we L b (skp L b p) = skp L b p + 3 := wd_len ha
      rw [if_pos rfl]
      have f1 := hF _ _ (we L b (skp L b p)) c (e10 a es) (o1.push 10) (by rw [List.length_append, List.length_append]; show R.length + (aw ow).length + 1 ≤ _; omega) hw hc (by omega)
      have go : ∀ n ρ τ, (f_X12_answers_L0 (fun μ14 => (some μ14)) g (mem ρ τ (sX σ r p c es 0)) 188 (nI 9)).bind (tailM K n) = f_X12_test_L9 K n (mem ρ τ (sX (stI (stA σ1 222 (R ++ aw ow).length (nI 10)) 36 (nI ((R ++ aw ow).length + 1))) r (we L b (skp L b p)) c (e10 a es) 0)) 188 1 1 := by
        intro n ρ τ
        rw [st, ha, wd_and_or ha, rest_and o1 (by rw [List.length_append]; omega), w3]
      cases hG : G (we L b (skp L b p), c, e10 a es) with
      | inl e =>
        rw [hG] at f1
        obtain ⟨t, σ', p', c', es', g1, g2, g3, g4⟩ := f1
        rw [sb_l]
        refine ⟨t + 1, σ', p', c', es', g1, by omega, g3, fun f ρ τ => ?_⟩
        show (f_X12_answers_L0 (fun μ14 => (some μ14)) g (mem ρ τ (sX σ r p c es 0)) 188 (nI 9)).bind (tailM K (f + (t + 1))) = _
        rw [go]
        exact g4 f ρ τ
      | inr s1 =>
        obtain ⟨p1, c1, es1⟩ := s1
        obtain ⟨gg, GG, l1, c1', n1, -⟩ := hP _ _ hG hw hc
        have l1 : we L b (skp L b p) < p1 := l1
        have cc : c1 ≤ 60 := GG.2.2.2.1
        have pL : p1 ≤ L := GG.2.1
        have n1 : 3 * gg.length + 33 + 14 * c ≤ 14 * c1 + 3 * (10 - d) := n1
        have ln : es1.length = (e10 a es).length + gg.length := by
          have : es1 = (e10 a es) ++ gg := GG.2.2.2.2.1
          rw [this, List.length_append]
        have ln2 : (e10 true es1).length = es1.length + 1 := by show (es1 ++ [(10, 0)]).length = _; rw [List.length_append]; rfl
        rw [hG] at f1
        obtain ⟨t, g1, σ2, q1, q2, q3, q4⟩ := f1
        have z := ih (L - p1) p1 c1 es1 Ff ow true σ2 g1 (by omega) rfl pL cc (by omega) (by omega) (by have : 20 < FU := (by unfold FU; omega); omega) q1
        rw [sb_r]
        show match rTL L b G Ff ow (p1, c1, e10 true es1) with
          | .inl e => _
          | .inr s' => _
        have q2 : t ≤ 2 * (p1 - we L b (skp L b p)) := q2
        cases hT : rTL L b G Ff ow (p1, c1, e10 true es1) with
        | inl e =>
          rw [hT] at z
          obtain ⟨t2, σ', p', c', es', z1, z2, z3, z4⟩ := z
          refine ⟨t2 + t + 1, σ', p', c', es', z1, by omega, z3, fun f ρ τ => ?_⟩
          show (f_X12_answers_L0 (fun μ14 => (some μ14)) g (mem ρ τ (sX σ r p c es 0)) 188 (nI 9)).bind (tailM K (f + (t2 + t + 1))) = _
          rw [go, show f + (t2 + t + 1) = (f + t2) + t + 1 by omega, q4]
          exact z4 f ρ τ
        | inr s' =>
          rw [hT] at z
          obtain ⟨t2, σ', z1, z2, z3⟩ := z
          have s'l : p1 ≤ s'.1 := (rTL_ok hP hT pL cc).elim (fun _ h => h.1.1)
          refine ⟨t2 + t + 1, σ', z1, by omega, fun f ρ τ => ?_⟩
          rw [go, show f + (t2 + t + 1) = (f + t2) + t + 1 by omega, q4]
          exact z3 f ρ τ
    | false =>
      rw [if_neg (by decide)]
      cases ho : isWd L b wOr (skp L b p) with
      | true =>
        have lt := wd_lt ho (by decide)
        have w2 : we L b (skp L b p) = skp L b p + 2 := wd_len ho
        rw [if_pos rfl]
        obtain ⟨σ2, o2, so⟩ := rest_or (p := skp L b p) (c := c) (es := e10 a es) hK o1 hB (by omega) (by omega) (by omega)
        have f1 := hF _ _ (we L b (skp L b p)) c (e11 ow (e10 a es)) o2 (by rw [List.length_append]; show R.length + 1 ≤ _; omega) hw hc (by omega)
        have go : ∀ n ρ τ, (f_X12_answers_L0 (fun μ14 => (some μ14)) g (mem ρ τ (sX σ r p c es 0)) 188 (nI 9)).bind (tailM K n) = f_X12_test_L9 K n (mem ρ τ (sX σ2 r (we L b (skp L b p)) c (e11 ow (e10 a es)) 0)) 188 1 1 := by
          intro n ρ τ
          rw [st, ha, ho, so, w2]
        cases hG : G (we L b (skp L b p), c, e11 ow (e10 a es)) with
        | inl e =>
          rw [hG] at f1
          obtain ⟨t, σ', p', c', es', g1, g2, g3, g4⟩ := f1
          rw [sb_l]
          refine ⟨t + 1, σ', p', c', es', g1, by omega, g3, fun f ρ τ => ?_⟩
          show (f_X12_answers_L0 (fun μ14 => (some μ14)) g (mem ρ τ (sX σ r p c es 0)) 188 (nI 9)).bind (tailM K (f + (t + 1))) = _
          rw [go]
          exact g4 f ρ τ
        | inr s1 =>
          obtain ⟨p1, c1, es1⟩ := s1
          obtain ⟨gg, GG, l1, c1', n1, -⟩ := hP _ _ hG hw hc
          have l1 : we L b (skp L b p) < p1 := l1
          have cc : c1 ≤ 60 := GG.2.2.2.1
          have pL : p1 ≤ L := GG.2.1
          have n1 : 3 * gg.length + 33 + 14 * c ≤ 14 * c1 + 3 * (10 - d) := n1
          have ln : es1.length = (e11 ow (e10 a es)).length + gg.length := by
            have : es1 = (e11 ow (e10 a es)) ++ gg := GG.2.2.2.2.1
            rw [this, List.length_append]
          rw [hG] at f1
          obtain ⟨t, g1, σ3, q1, q2, q3, q4⟩ := f1
          have q1' : RO σ0 σ3 ((R ++ aw true) ++ a10 false) d := by
            show RO σ0 σ3 ((R ++ aw true) ++ []) d
            rw [List.append_nil]
            exact q1
          have z := ih (L - p1) p1 c1 es1 Ff true false σ3 g1 (by omega) rfl pL cc (by show 3 * es1.length + 3 ≤ _; omega) (by omega) (by have : 20 < FU := (by unfold FU; omega); omega) q1'
          rw [sb_r]
          have z : (match rTL L b G Ff true (p1, c1, es1) with
            | .inl e => ErM K σ0 r L (fun f ρ τ => (f_X12_answers_L0 (fun μ14 => (some μ14)) g1 (mem ρ τ (sX σ3 r p1 c1 es1 0)) 188 (nI 9)).bind (tailM K f)) p1 e
            | .inr s' => ∃ t σ', RO σ0 σ' R d ∧ t ≤ 2 * (s'.1 - p1) ∧ ∀ f ρ τ, (f_X12_answers_L0 (fun μ14 => (some μ14)) g1 (mem ρ τ (sX σ3 r p1 c1 es1 0)) 188 (nI 9)).bind (tailM K (f + t)) = endM K f (mem ρ τ (sX σ' r s'.1 s'.2.1 s'.2.2 0))) := z
          have q2 : t ≤ 2 * (p1 - we L b (skp L b p)) := q2
          cases hT : rTL L b G Ff true (p1, c1, es1) with
          | inl e =>
            rw [hT] at z
            obtain ⟨t2, σ', p', c', es', z1, z2, z3, z4⟩ := z
            refine ⟨t2 + t + 1, σ', p', c', es', z1, by omega, z3, fun f ρ τ => ?_⟩
            show (f_X12_answers_L0 (fun μ14 => (some μ14)) g (mem ρ τ (sX σ r p c es 0)) 188 (nI 9)).bind (tailM K (f + (t2 + t + 1))) = _
            rw [go, show f + (t2 + t + 1) = (f + t2) + t + 1 by omega, q4]
            exact z4 f ρ τ
          | inr s' =>
            rw [hT] at z
            obtain ⟨t2, σ', z1, z2, z3⟩ := z
            have s'l : p1 ≤ s'.1 := (rTL_ok hP hT pL cc).elim (fun _ h => h.1.1)
            refine ⟨t2 + t + 1, σ', z1, by omega, fun f ρ τ => ?_⟩
            rw [go, show f + (t2 + t + 1) = (f + t2) + t + 1 by omega, q4]
            exact z3 f ρ τ
      | false =>
        rw [if_neg (by decide)]
        obtain ⟨σ2, o2, so⟩ := rest_end (p := skp L b p) (c := c) (es := e10 a es) hK o1 hB (by omega) (by omega) (by omega)
        refine ⟨0, σ2, o2, Nat.zero_le _, fun f ρ τ => ?_⟩
        rw [st, ha, ho, so]
        rfl
end MTF
