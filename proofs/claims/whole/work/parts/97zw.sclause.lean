/-! Rules: the reference reads a clause. -/
section STEST
variable {σ : Sg} {L r : Nat} {b : Nat → Nat}
theorem s_test (hX : TXs σ L b) (hK : SK σ r) (h34 : σ.1 34 = nI 0) {p c : Nat} {es : List (Nat × Nat)} (hp : p ≤ L) (hc : c ≤ 60) (hJ : 3 * es.length ≤ 14 * c) : ∃ σ' p' c' es' e', (∀ ρ τ, f_X12_test (mem ρ τ (sX σ r p c es 0)) 188 = some (mem ρ τ (sX σ' r p' c' es' e'))) ∧ FrM σ σ' ∧ p' ≤ L + 1 ∧ (match (rTF L b 30).1 0 (p, c, es) with
    | .inl e => e' = e
    | .inr s' => e' = 0 ∧ (p', c', es') = s' ∧ σ'.1 34 = nI 0) := by
  have hL := hX.1
  obtain ⟨σ1, w1⟩ : ∃ σ1, σ1 = stI σ 36 (nI 0) := ⟨_, rfl⟩
  have ro : RO σ σ1 [] 0 := by
    rw [w1]
    refine ⟨fun k h1 h2 => by rw [stI1, if_neg h2], fun q _ => rfl, by rw [stI1, if_neg (by decide)]; exact h34, by rw [stI1, if_pos rfl]; rfl, fun i hi => absurd hi (Nat.not_lt_zero _)⟩
  have st : ∀ ρ τ, f_X12_test (mem ρ τ (sX σ r p c es 0)) 188 = f_X12_test_L9 (fun μ92 => (some μ92)) FU (mem ρ τ (sX σ1 r p c es 0)) 188 1 1 := by
    intro ρ τ
    unfold f_X12_test
    rw [show pV (mem ρ τ (sX σ r p c es 0)) 188 12 36 (.int 0) = _ from mP_36 ρ τ _ _, Option.bind_some, show (0 : Int32) = nI 0 from rfl, bs_I _ _ _ _ _ _ _ (.inr rfl), ← w1, nm_q, nm_q]
  have fu : 1000 < FU := by unfold FU; omega
  have T1 := (m_TF hX hK (fun μ92 => (some μ92)) 30 0 (by decide)).2 (by decide) [] σ1 p c es ro (.inl rfl) (Nat.zero_le _) hp hc hJ
  cases hT : (rTF L b 30).1 0 (p, c, es) with
  | inl e =>
    rw [hT] at T1
    obtain ⟨t, σ', p', c', es', g1, g2, g3, g4⟩ := T1
    refine ⟨σ', p', c', es', e, fun ρ τ => ?_, g1, g3, rfl⟩
    rw [st]
    have : f_X12_test_L9 (fun μ92 => some μ92) (FU - t - 1 + t + 1) (mem ρ τ (sX σ1 r p c es 0)) 188 1 1 = some (mem ρ τ (sX σ' r p' c' es' e)) := g4 (FU - t - 1) ρ τ
    rw [show FU - t - 1 + t + 1 = FU by omega] at this
    exact this
  | inr s' =>
    rw [hT] at T1
    obtain ⟨g, GG, -⟩ := (rTF_ok (L := L) (b := b) 30 0 (by decide)).1 _ _ hT hp hc
    have pL : s'.1 ≤ L := GG.2.1
    obtain ⟨t, σ', g1, g2, g3⟩ := T1
    refine ⟨σ', s'.1, s'.2.1, s'.2.2, 0, fun ρ τ => ?_, g1.fr, by omega, rfl, rfl, g1.2.2.1⟩
    have := g3 (FU - t - 2 + 1) ρ τ
    rw [show FU - t - 2 + 1 + t + 1 = FU by omega] at this
    rw [st, this]
    unfold endM
    rw [ob_mem, Option.bind_some, s_top0 g1, bd_some, if_neg (by decide), nm_q, f_X12_test_L9, if_pos rfl]
theorem bs_B (σ : Sg) (r p c : Nat) (es : List (Nat × Nat)) (e : Nat) {q : Nat} (i : Nat) (v : Int32) (hq : q ≠ 216) (hq' : q ≠ 217) : stA (sX σ r p c es e) q i v = sX (stA σ q i v) r p c es e := by
  rw [sp_A]
  congr 1
  refine Prod.ext rfl (Prod.ext (funext fun q' => funext fun j => ?_) rfl)
  rw [stA2, rcS2, rcS2, stA2]
  by_cases h : q' = q ∧ j = i
  · rw [if_pos h, if_neg (fun x => by omega), if_pos h]
  · rw [if_neg h, if_neg h]
def SFr (σ σ' : Sg) (i : Nat) : Prop := (∀ k, k ≠ 34 → k ≠ 36 → σ'.1 k = σ.1 k) ∧ ∀ q j, q ≠ 222 → ¬ (((219 ≤ q ∧ q ≤ 221) ∨ q = 223) ∧ j = i) → σ'.2.1 q j = σ.2.1 q j
theorem SFr.rfl' {i : Nat} : SFr σ σ i := ⟨fun _ _ _ => rfl, fun _ _ _ _ => rfl⟩
theorem SFr.trans {σ' σ'' : Sg} {i : Nat} (h : SFr σ σ' i) (h' : SFr σ' σ'' i) : SFr σ σ'' i := ⟨fun k h1 h2 => (h'.1 k h1 h2).trans (h.1 k h1 h2), fun q j h1 h2 => (h'.2 q j h1 h2).trans (h.2 q j h1 h2)⟩
theorem SFr.arr {q : Nat} (i : Nat) (v : Int32) (h : (219 ≤ q ∧ q ≤ 221) ∨ q = 223) : SFr σ (stA σ q i v) i := by
  refine ⟨fun _ _ _ => rfl, fun q' j h1 h2 => ?_⟩
  rw [stA2, if_neg (fun x => h2 (by omega))]
theorem FrM.sfr {σ' : Sg} (h : FrM σ σ') (i : Nat) : SFr σ σ' i := ⟨h.1, fun q j h1 _ => congrFun (h.2 q h1) j⟩
theorem SFr.tx {σ' : Sg} {i : Nat} (h : SFr σ σ' i) (hX : TXs σ L b) : TXs σ' L b := ⟨hX.1, by rw [h.1 28 (by decide) (by decide)]; exact hX.2.1, fun i hi => by rw [h.2 215 i (by decide) (by omega)]; exact hX.2.2 i hi⟩
theorem SFr.sk {σ' : Sg} {i : Nat} (h : SFr σ σ' i) (hK : SK σ r) : SK σ' r := ⟨hK.1, by rw [h.1 31 (by decide) (by decide)]; exact hK.2.1, by rw [h.1 37 (by decide) (by decide)]; exact hK.2.2⟩
theorem z_tk (hX : TXs σ L b) {a p : Nat} (e : Nat) (w : List Nat) (ha : a < 32) (hp : p ≤ L) (h1 : sByt a = w.map nI) (hl : tL a = some (nI w.length)) (h2 : ∀ c ∈ w, c < 128) (hw : 0 < w.length) (ρ : Mm) (τ : Nat → va_E) : f_X12_takes (mem ρ τ (sp σ p e)) 188 a = if isWd L b w (skp L b p) = true then some (1, mem ρ τ (sp σ (we L b (skp L b p)) e)) else some (0, mem ρ τ (sp σ (skp L b p) e)) := by
  have hL := hX.1
  have hs := skp_le b hp
  unfold f_X12_takes
  rw [ob_mem, Option.bind_some, z_bl hX e (by omega), Option.bind_some, ob_mem, Option.bind_some, z_st hX e w ha (by omega) h1 h2 hw, bd_some, nm_q, z_pl, Option.bind_some]
  cases hi : isWd L b w (skp L b p) with
  | false => rw [if_pos (show bI false = 0 from rfl), Int32.add_zero, z_pp, Option.bind_some, if_neg (show ¬ false = true by decide)]; rfl
  | true => rw [if_neg (show ¬ bI true = 0 by decide), hl, Option.bind_some, nI_add, z_pp, Option.bind_some, if_pos rfl, if_pos (by decide), wd_len hi]; rfl
/-- where a clause ends -/
theorem q_end (hK : SK σ r) {i : Nat} (hi : i < 72) (p c : Nat) (es : List (Nat × Nat)) (e : Nat) (ρ : Mm) (τ : Nat → va_E) : ((gR (mem ρ τ (sX σ r p c es e)) 188 12 44).bind fun v37 =>
    ((gI (mem ρ τ (sX σ r p c es e)) 188 12 33).bind fun v38 =>
    ((sI (mem ρ τ (sX σ r p c es e)) v37 0 (nI i) v38).bind fun μ39 =>
    (some μ39)))) = some (mem ρ τ (sX (stA σ 221 i (nI es.length)) r p c es e)) := by
  rw [mR_44, Option.bind_some, q_33, Option.bind_some, y221_w hi, bs_B _ _ _ _ _ _ _ _ (by decide) (by decide), Option.bind_some]
theorem s_rclause (hX : TXs σ L b) (hK : SK σ r) (h34 : σ.1 34 = nI 0) {k p c : Nat} {es : List (Nat × Nat)} (hk : k ≤ 12) (hp : p ≤ L) (hc : c ≤ 60) (hJ : 3 * es.length ≤ 14 * c) : ∃ σ' p' c' es' e', (∀ ρ τ, f_X12_ruleClause (mem ρ τ (sX σ r p c es 0)) 188 (nI k) = some (mem ρ τ (sX σ' r p' c' es' e'))) ∧ SFr σ σ' (12 * r + k) ∧ p' ≤ L + 1 ∧ (match rCl L b k (p, c, es) with
    | .inl e => e' = e
    | .inr a => e' = 0 ∧ (p', c', es') = a.1 ∧ σ'.1 34 = nI 0 ∧ σ'.2.1 223 (12 * r + k) = nI (1 - a.2.1) ∧ σ'.2.1 219 (12 * r + k) = nI a.2.2.1 ∧ σ'.2.1 220 (12 * r + k) = nI a.2.2.2.1 ∧ σ'.2.1 221 (12 * r + k) = nI a.2.2.2.2) := by
  have hL := hX.1
  have hr := hK.1
  have hX' := hX.rc r c es
  have hs := skp_le b hp
  have hw := we_le b hs
  have sp : rCl L b k (p, c, es) = if fw L b rKs (skp L b p) = 2 then .inl (1 + 8 * skp L b p + 0) else if k = 12 then .inl (1 + 8 * skp L b p + 4) else sb (rS1 L b (fw L b rKs (skp L b p)) (we L b (skp L b p), c, es)) fun s1 => sb (rS2 L b (fw L b rKs (skp L b p)) s1) fun s2 => .inr (s2, (fw L b rKs (skp L b p), es.length, s1.2.2.length, s2.2.2.length)) := rfl
  rw [sp]
  clear sp
  have st1 := fun ρ τ => z_st (ρ := ρ) (τ := τ) hX' 0 [98, 114, 101, 97, 107] (a := 16) (p := skp L b p) (by decide) (by omega) (by decide +kernel) (by decide +kernel) (by decide)
  have st2 := fun ρ τ => z_st (ρ := ρ) (τ := τ) hX' 0 [109, 97, 114, 107] (a := 17) (p := skp L b p) (by decide) (by omega) (by decide +kernel) (by decide +kernel) (by decide)
  have fe : fw L b rKs (skp L b p) = if isWd L b [98, 114, 101, 97, 107] (skp L b p) = true then 0 else if isWd L b [109, 97, 114, 107] (skp L b p) = true then 1 else 2 := by
    unfold rKs fw fw fw
    split
    · rfl
    · split <;> rfl
  have n12 : (nI k = 12) ↔ k = 12 := nI_eq (b := 12) (by omega) (by decide)
  cases hB : isWd L b [98, 114, 101, 97, 107] (skp L b p) with
  | true =>
    have lt : we L b (skp L b p) = skp L b p + 5 := wd_len hB
    rw [hB, if_pos rfl] at fe
    rw [fe, if_neg (by decide)]
    by_cases k12 : k = 12
    · rw [if_pos k12]
      refine ⟨σ, skp L b p, c, es, _, fun ρ τ => ?_, SFr.rfl', by omega, rfl⟩
      unfold f_X12_ruleClause
      rw [ob_mem, Option.bind_some, z_bl hX' 0 (by omega), Option.bind_some, z_pl, Option.bind_some, nm_q, ob_mem, Option.bind_some, st1, bd_some, nm_q, hB, if_neg (show ¬ bI true = 0 by decide), if_pos (n12.2 k12), ob_mem, Option.bind_some, show f_X12_fails (mem ρ τ (sX σ r (skp L b p) c es 0)) 188 4 (nI (skp L b p)) = _ from z_fs0 (k := 4) _ _, Option.bind_some]
    · rw [if_neg k12]
      have i72 : 12 * r + k < 72 := by omega
      obtain ⟨σa, wa⟩ : ∃ σa, σa = stA (stA σ 223 (12 * r + k) (nI 1)) 219 (12 * r + k) (nI es.length) := ⟨_, rfl⟩
      obtain ⟨σb, wb⟩ : ∃ σb, σb = stA σa 220 (12 * r + k) (nI es.length) := ⟨_, rfl⟩
      have fa : SFr σ σa (12 * r + k) := by rw [wa]; exact (SFr.arr _ _ (.inr rfl)).trans (SFr.arr _ _ (.inl (by omega)))
      have fb : SFr σ σb (12 * r + k) := by rw [wb]; exact fa.trans (SFr.arr _ _ (.inl (by omega)))
      have h34b : σb.1 34 = nI 0 := by rw [wb, wa]; exact h34
      obtain ⟨σc, p', c', es', e', t1, t2, t3, t4⟩ := s_test (fb.tx hX) (fb.sk hK) h34b (p := we L b (skp L b p)) (c := c) (es := es) hw hc hJ
      refine ⟨stA σc 221 (12 * r + k) (nI es'.length), p', c', es', e', fun ρ τ => ?_, (fb.trans (t2.sfr _)).trans (SFr.arr _ _ (.inl (by omega))), t3, ?_⟩
      · unfold f_X12_ruleClause
        rw [ob_mem, Option.bind_some, z_bl hX' 0 (by omega), Option.bind_some, z_pl, Option.bind_some, nm_q, ob_mem, Option.bind_some, st1, bd_some, nm_q, hB, if_neg (show ¬ bI true = 0 by decide), if_neg (fun x => k12 (n12.1 x)), z_pl, Option.bind_some, if_neg (show ¬ bI true = 0 by decide), lit_5, nI_add, z_pp, Option.bind_some, q_31 hK, Option.bind_some, lit_12, pk_mul, nI_add, nm_q, mR_46, Option.bind_some, y223_w i72, nar_b, show bI true = nI 1 from rfl, bs_B _ _ _ _ _ _ _ _ (by decide) (by decide), Option.bind_some, mR_42, Option.bind_some, q_33, Option.bind_some, y219_w i72, bs_B _ _ _ _ _ _ _ _ (by decide) (by decide), Option.bind_some, ← wa, if_neg (show ¬ nI 1 = 0 by decide), mR_43, Option.bind_some, q_33, Option.bind_some, y220_w i72, bs_B _ _ _ _ _ _ _ _ (by decide) (by decide), Option.bind_some, ← wb, z_ft, Option.bind_some, if_pos (show nI 0 = 0 from rfl), if_neg (show ¬ nI 1 = 0 by decide), ob_mem, Option.bind_some, ← lt, t1, Option.bind_some, q_end ((t2.sfr (12 * r + k)).sk (fb.sk hK)) i72]
      · rw [show rS1 L b 0 (we L b (skp L b p), c, es) = .inr (we L b (skp L b p), c, es) from rfl, sb_r, show rS2 L b 0 (we L b (skp L b p), c, es) = (rTF L b 30).1 0 (we L b (skp L b p), c, es) from rfl]
        cases hT : (rTF L b 30).1 0 (we L b (skp L b p), c, es) with
        | inl e =>
          rw [hT] at t4
          exact t4
        | inr s' =>
          rw [hT] at t4
          obtain ⟨z1, z2, z3⟩ := t4
          refine ⟨z1, z2, z3, ?_, ?_, ?_, ?_⟩
          · rw [stA2, if_neg (by omega), t2.2 223 (by decide), wb, stA2, if_neg (by omega), wa, stA2, if_neg (by omega), stA2, if_pos ⟨rfl, rfl⟩]; rfl
          · rw [stA2, if_neg (by omega), t2.2 219 (by decide), wb, stA2, if_neg (by omega), wa, stA2, if_pos ⟨rfl, rfl⟩]
          · rw [stA2, if_neg (by omega), t2.2 220 (by decide), wb, stA2, if_pos ⟨rfl, rfl⟩]
          · rw [stA2, if_pos ⟨rfl, rfl⟩, ← z2]
  | false =>
    rw [hB, if_neg (by decide)] at fe
    cases hM : isWd L b [109, 97, 114, 107] (skp L b p) with
    | false =>
      rw [hM, if_neg (by decide)] at fe
      rw [fe, if_pos rfl]
      refine ⟨σ, skp L b p, c, es, _, fun ρ τ => ?_, SFr.rfl', by omega, rfl⟩
      unfold f_X12_ruleClause
      rw [ob_mem, Option.bind_some, z_bl hX' 0 (by omega), Option.bind_some, z_pl, Option.bind_some, nm_q, ob_mem, Option.bind_some, st1, bd_some, nm_q, hB, if_pos (show bI false = 0 from rfl), ob_mem, Option.bind_some, st2, bd_some, hM, if_pos (show bI false = 0 from rfl), ob_mem, Option.bind_some, show f_X12_fails (mem ρ τ (sX σ r (skp L b p) c es 0)) 188 0 (nI (skp L b p)) = _ from z_fs0 (k := 0) _ _, Option.bind_some]
    | true =>
      have lt : we L b (skp L b p) = skp L b p + 4 := wd_len hM
      rw [hM, if_pos rfl] at fe
      rw [fe, if_neg (by decide)]
      by_cases k12 : k = 12
      · rw [if_pos k12]
        refine ⟨σ, skp L b p, c, es, _, fun ρ τ => ?_, SFr.rfl', by omega, rfl⟩
        unfold f_X12_ruleClause
        rw [ob_mem, Option.bind_some, z_bl hX' 0 (by omega), Option.bind_some, z_pl, Option.bind_some, nm_q, ob_mem, Option.bind_some, st1, bd_some, nm_q, hB, if_pos (show bI false = 0 from rfl), ob_mem, Option.bind_some, st2, bd_some, hM, if_neg (show ¬ bI true = 0 by decide), if_pos (n12.2 k12), ob_mem, Option.bind_some, show f_X12_fails (mem ρ τ (sX σ r (skp L b p) c es 0)) 188 4 (nI (skp L b p)) = _ from z_fs0 (k := 4) _ _, Option.bind_some]
      · rw [if_neg k12]
        have i72 : 12 * r + k < 72 := by omega
        obtain ⟨σa, wa⟩ : ∃ σa, σa = stA (stA σ 223 (12 * r + k) (nI 0)) 219 (12 * r + k) (nI es.length) := ⟨_, rfl⟩
        have fa : SFr σ σa (12 * r + k) := by rw [wa]; exact (SFr.arr _ _ (.inr rfl)).trans (SFr.arr _ _ (.inl (by omega)))
        obtain ⟨p1, c1, es1, e1, u1, u2, u3, u4⟩ := s_sum (fa.tx hX) (fa.sk hK) (p := we L b (skp L b p)) (c := c) (es := es) (e := 0) hw (by decide) (fun _ => ⟨hc, hJ⟩)
        have u1 : ∀ ρ τ, f_X12_sum (mem ρ τ (sX σa r (we L b (skp L b p)) c es 0)) 188 = some (mem ρ τ (sX σa r p1 c1 es1 e1)) := u1
        obtain ⟨σb, wb⟩ : ∃ σb, σb = stA σa 220 (12 * r + k) (nI es1.length) := ⟨_, rfl⟩
        have fb : SFr σ σb (12 * r + k) := by rw [wb]; exact fa.trans (SFr.arr _ _ (.inl (by omega)))
        have h34b : σb.1 34 = nI 0 := by rw [wb, wa]; exact h34
        have hXb := (fb.tx hX).rc r c1 es1
        have hs1 := skp_le b u2
        have hw1 := we_le b hs1
        have go : ∀ ρ τ, f_X12_ruleClause (mem ρ τ (sX σ r p c es 0)) 188 (nI k) = (if nI e1 = 0 then (bd (f_X12_takes (mem ρ τ (sX σb r p1 c1 es1 e1)) 188 (28 : Nat)) fun v28 μ27 =>
    (if v28 = 0 then
    ((gR μ27 188 12 44).bind fun v29 =>
    ((gI μ27 188 12 33).bind fun v30 =>
    ((sI μ27 v29 0 (nI (12 * r + k)) v30).bind fun μ31 =>
    (some μ31))))
    else
    ((ob μ27 188 12).bind fun _ =>
    ((f_X12_test μ27 188).bind fun μ32 =>
    ((gR μ32 188 12 44).bind fun v33 =>
    ((gI μ32 188 12 33).bind fun v34 =>
    ((sI μ32 v33 0 (nI (12 * r + k)) v34).bind fun μ35 =>
    (some μ35)))))))) else ((gR (mem ρ τ (sX σb r p1 c1 es1 e1)) 188 12 44).bind fun v40 =>
    ((gI (mem ρ τ (sX σb r p1 c1 es1 e1)) 188 12 33).bind fun v41 =>
    ((sI (mem ρ τ (sX σb r p1 c1 es1 e1)) v40 0 (nI (12 * r + k)) v41).bind fun μ42 =>
    (some μ42))))) := by
          intro ρ τ
          unfold f_X12_ruleClause
          rw [ob_mem, Option.bind_some, z_bl hX' 0 (by omega), Option.bind_some, z_pl, Option.bind_some, nm_q, ob_mem, Option.bind_some, st1, bd_some, nm_q, hB, if_pos (show bI false = 0 from rfl), ob_mem, Option.bind_some, st2, bd_some, hM, if_neg (show ¬ bI true = 0 by decide), if_neg (fun x => k12 (n12.1 x)), z_pl, Option.bind_some, if_pos (show bI false = 0 from rfl), lit_4, nI_add, z_pp, Option.bind_some, q_31 hK, Option.bind_some, lit_12, pk_mul, nI_add, nm_q, mR_46, Option.bind_some, y223_w i72, nar_b, show bI false = nI 0 from rfl, bs_B _ _ _ _ _ _ _ _ (by decide) (by decide), Option.bind_some, mR_42, Option.bind_some, q_33, Option.bind_some, y219_w i72, bs_B _ _ _ _ _ _ _ _ (by decide) (by decide), Option.bind_some, ← wa, if_pos (show nI 0 = 0 from rfl), ob_mem, Option.bind_some, ← lt, u1, Option.bind_some, mR_43, Option.bind_some, q_33, Option.bind_some, y220_w i72, bs_B _ _ _ _ _ _ _ _ (by decide) (by decide), Option.bind_some, ← wb, z_ft, Option.bind_some]
          by_cases h : nI e1 = 0
          · rw [if_pos h, if_pos h, if_pos (show nI 0 = 0 from rfl), ob_mem, Option.bind_some]
          · rw [if_neg h, if_neg h]
        rw [show rS1 L b 1 (we L b (skp L b p), c, es) = rSum L b (we L b (skp L b p), c, es) from rfl]
        rcases u4 with ⟨h, -⟩ | ⟨-, ne, sv⟩ | ⟨-, z, sv⟩
        · exact absurd rfl h
        · rw [sv, sb_l]
          refine ⟨_, p1, c1, es1, e1, fun ρ τ => ?_, fb.trans (SFr.arr (12 * r + k) (nI es1.length) (.inl (by omega : 219 ≤ 221 ∧ 221 ≤ 221))), by omega, rfl⟩
          rw [go, if_neg (show ¬ nI e1 = 0 from fun h => ne ((nI_eq (b := 0) (by omega) (by decide)).1 h)), q_end (fb.sk hK) i72]
        · subst z
          rw [sv, sb_r]
          have rs : rS2 L b 1 (p1, c1, es1) = if isWd L b wIf (skp L b p1) = true then (rTF L b 30).1 0 (we L b (skp L b p1), c1, es1) else .inr (skp L b p1, c1, es1) := rfl
          have tk : ∀ ρ τ, f_X12_takes (mem ρ τ (sX σb r p1 c1 es1 0)) 188 28 = if isWd L b wIf (skp L b p1) = true then some (1, mem ρ τ (sX σb r (we L b (skp L b p1)) c1 es1 0)) else some (0, mem ρ τ (sX σb r (skp L b p1) c1 es1 0)) := fun ρ τ => z_tk hXb 0 wIf (by decide) u2 (by decide +kernel) (by decide +kernel) (by decide +kernel) (by decide) ρ τ
          have v223 : σb.2.1 223 (12 * r + k) = nI 0 := by rw [wb, stA2, if_neg (by omega), wa, stA2, if_neg (by omega), stA2, if_pos ⟨rfl, rfl⟩]
          have v219 : σb.2.1 219 (12 * r + k) = nI es.length := by rw [wb, stA2, if_neg (by omega), wa, stA2, if_pos ⟨rfl, rfl⟩]
          have v220 : σb.2.1 220 (12 * r + k) = nI es1.length := by rw [wb, stA2, if_pos ⟨rfl, rfl⟩]
          rw [rs]
          cases hi : isWd L b wIf (skp L b p1) with
          | false =>
            rw [hi] at tk
            rw [if_neg (by decide), sb_r]
            refine ⟨_, skp L b p1, c1, es1, 0, fun ρ τ => ?_, fb.trans (SFr.arr (12 * r + k) (nI es1.length) (.inl (by omega : 219 ≤ 221 ∧ 221 ≤ 221))), by omega, rfl, rfl, h34b, ?_, ?_, ?_, ?_⟩
            · rw [go, if_pos (show nI 0 = 0 from rfl), tk, if_neg (by decide), bd_some, if_pos rfl, q_end (fb.sk hK) i72]
            · rw [stA2, if_neg (by omega)]; exact v223
            · rw [stA2, if_neg (by omega)]; exact v219
            · rw [stA2, if_neg (by omega)]; exact v220
            · rw [stA2, if_pos ⟨rfl, rfl⟩]
          | true =>
            rw [hi] at tk
            rw [if_pos rfl]
            obtain ⟨g, GG, -, -, gl, -⟩ := rSum_ok sv hw hc
            have cc : c1 ≤ 60 := GG.2.2.2.1
            have ln : es1.length = es.length + g.length := by
              have : es1 = es ++ g := GG.2.2.2.2.1
              rw [this, List.length_append]
            have gl : g.length + 1 + 2 * c = 2 * c1 := gl
            obtain ⟨σc, p', c', es', e', t1, t2, t3, t4⟩ := s_test (fb.tx hX) (fb.sk hK) h34b (p := we L b (skp L b p1)) (c := c1) (es := es1) hw1 cc (by omega)
            refine ⟨stA σc 221 (12 * r + k) (nI es'.length), p', c', es', e', fun ρ τ => ?_, (fb.trans (t2.sfr _)).trans (SFr.arr _ _ (.inl (by omega))), t3, ?_⟩
            · rw [go, if_pos (show nI 0 = 0 from rfl), tk, if_pos rfl, bd_some, if_neg (by decide), ob_mem, Option.bind_some, t1, Option.bind_some, q_end ((t2.sfr (12 * r + k)).sk (fb.sk hK)) i72]
            · cases hT : (rTF L b 30).1 0 (we L b (skp L b p1), c1, es1) with
              | inl e =>
                rw [hT] at t4
                exact t4
              | inr s' =>
                rw [hT] at t4
                obtain ⟨z1, z2, z3⟩ := t4
                refine ⟨z1, z2, z3, ?_, ?_, ?_, ?_⟩
                · rw [stA2, if_neg (by omega), t2.2 223 (by decide)]; exact v223
                · rw [stA2, if_neg (by omega), t2.2 219 (by decide)]; exact v219
                · rw [stA2, if_neg (by omega), t2.2 220 (by decide)]; exact v220
                · rw [stA2, if_pos ⟨rfl, rfl⟩, ← z2]
end STEST
