/-! Rules: the class reads a clause. -/
def cW (T : Tc) (k : Nat) (c : Cl) : Tc := tI (tA (tA (tA (tA T 149 k (nI c.1)) 150 k (nI c.2.1)) 151 k (nI c.2.2.1)) 152 k (nI c.2.2.2)) 147 4 (nI (k + 1))
def CFr (T T' : Tc) : Prop := (∀ r k, ¬ (r = 147 ∧ k = 4) → T'.1 r k = T.1 r k) ∧ (∀ r, ¬ (149 ≤ r ∧ r ≤ 152) → T'.2.1 r = T.2.1 r) ∧ T'.2.2 = T.2.2
theorem CFr.rfl' {T : Tc} : CFr T T := ⟨fun _ _ _ => rfl, fun _ _ => rfl, rfl⟩
theorem CFr.trans {T T' T'' : Tc} (h : CFr T T') (h' : CFr T' T'') : CFr T T'' := ⟨fun r k x => (h'.1 r k x).trans (h.1 r k x), fun r x => (h'.2.1 r x).trans (h.2.1 r x), h'.2.2.trans h.2.2⟩
theorem CFr.arr (T : Tc) {r : Nat} (i : Nat) (v : Int32) (h : 149 ≤ r ∧ r ≤ 152) : CFr T (tA T r i v) := by
  refine ⟨fun _ _ _ => rfl, fun q hq => ?_, rfl⟩
  funext j
  rw [tA2, if_neg (fun x => hq (by omega))]
theorem CFr.cnt (T : Tc) (v : Int32) : CFr T (tI T 147 4 v) := by
  refine ⟨fun q j hq => ?_, fun _ _ => rfl, rfl⟩
  rw [tI1, if_neg hq]
theorem CFr.tx {T T' : Tc} {L : Nat} {b : Nat → Nat} (h : CFr T T') (hX : TXc T L b) : TXc T' L b := ⟨hX.1, by rw [h.1 129 1 (by omega)]; exact hX.2.1, fun i hi => by rw [h.2.1 130 (by omega)]; exact hX.2.2 i hi⟩
theorem cW_fr (T : Tc) (k : Nat) (c : Cl) : CFr T (cW T k c) := ((((CFr.arr T k _ (by omega)).trans (CFr.arr _ k _ (by omega))).trans (CFr.arr _ k _ (by omega))).trans (CFr.arr _ k _ (by omega))).trans (CFr.cnt _ _)
theorem cx_A (T : Tc) (p c : Nat) (es : List (Nat × Nat)) (e : Nat) {r : Nat} (i : Nat) (v : Int32) (h : r ≠ 148) : tA (cX T p c es e) r i v = cX (tA T r i v) p c es e := by
  rw [tp_A]
  congr 1
  refine Prod.ext rfl (Prod.ext (funext fun q => funext fun j => ?_) rfl)
  show (tA (rcT T c es) r i v).2.1 q j = _
  rw [tA2, rcT2, rcT2, tA2]
  by_cases a : q = r ∧ j = i
  · rw [if_pos a, if_neg (fun x => by omega), if_pos a]
  · rw [if_neg a, if_neg a]
theorem cx_4 (T : Tc) (p c : Nat) (es : List (Nat × Nat)) (e : Nat) (v : Int32) : tI (cX T p c es e) 147 4 v = cX (tI T 147 4 v) p c es e := by
  rw [tp_I _ _ _ (by decide)]
  congr 1
  refine Prod.ext (funext fun q => funext fun j => ?_) rfl
  rw [tI1, rcT1, rcT1, tI1]
  by_cases a : q = 147 ∧ j = 4
  · rw [if_pos a, if_neg (fun x => by omega), if_neg (fun x => by omega), if_pos a]
  · rw [if_neg a, if_neg a]
section CCL
variable {n sl : Nat} {U : Nat → va_E} {S : Nat → Nat × Nat × Nat} {σ1 : Sg} {T : Tc} {L : Nat} {b : Nat → Nat}
theorem r_cl (p c : Nat) (es : List (Nat × Nat)) (e : Nat) : gI (cn n sl U S (cX T p c es e) σ1) 147 6 4 = some (T.1 147 4) := by
  rw [x147_4, tp1, if_neg (by omega), if_neg (by omega), rcT1, if_neg (by omega), if_neg (by omega)]
theorem r_kw {p c : Nat} {es : List (Nat × Nat)} (hX : TXc T L b) (hp : p ≤ L) (e : Nat) : f_X9_takeWord (cn n sl U S (cX T p c es e) σ1) 129 1 = if fw L b rKs p < 2 then some (nI (fw L b rKs p), cn n sl U S (cX T (we L b p) c es e) σ1) else some (-1, cn n sl U S (cX T p c es e) σ1) :=
  y_wd (hX.rc c es) e rKs (by decide) hp (by decide +kernel) (by decide +kernel)
/-- where a clause ends -/
theorem r_end {k : Nat} {w x y : Nat} (hk : k < 12) {T0 : Tc} (hT : T = tA (tA (tA T0 149 k (nI w)) 150 k (nI x)) 151 k (nI y)) (h4 : T0.1 147 4 = nI k) (p c : Nat) (es : List (Nat × Nat)) (e : Nat) : ((gR (cn n sl U S (cX T p c es e) σ1) 147 6 8).bind fun v26 =>
    ((gI (cn n sl U S (cX T p c es e) σ1) 147 6 4).bind fun v27 =>
    ((gI (cn n sl U S (cX T p c es e) σ1) 147 6 2).bind fun v28 =>
    ((sI (cn n sl U S (cX T p c es e) σ1) v26 0 v27 v28).bind fun μ29 =>
    ((gI μ29 147 6 4).bind fun v30 =>
    ((pV μ29 147 6 4 (.int (v30 + (1 : Int32)))).bind fun μ31 =>
    (some μ31))))))) = some (cn n sl U S (cX (cW T0 k (w, x, y, es.length)) p c es e) σ1) := by
  have h4' : T.1 147 4 = nI k := by rw [hT]; exact h4
  have h4'' : (tA T 152 k (nI es.length)).1 147 4 = nI k := h4'
  rw [x147_8, Option.bind_some, r_cl, h4', Option.bind_some, r_len, Option.bind_some, x152_w hk, cx_A _ _ _ _ _ _ _ (by decide), Option.bind_some, r_cl, h4'', Option.bind_some, lit_1, nI_add, x147_4p, cx_4, Option.bind_some, hT]
  rfl
theorem c_rclause (hX : TXc T L b) {k p c : Nat} {es : List (Nat × Nat)} (h4 : T.1 147 4 = nI k) (hk : k ≤ 12) (hp : p ≤ L) (hc : c ≤ 60) (hJ : 3 * es.length ≤ 14 * c) : ∃ T' p' c' es' e', f_X6_readClause (cn n sl U S (cX T p c es 0) σ1) 147 = some (cn n sl U S (cX T' p' c' es' e') σ1) ∧ p' ≤ L ∧ CFr T T' ∧ (match rCl L b k (p, c, es) with
    | .inl e => e' = e ∧ e ≠ 0 ∧ e < 4000
    | .inr a => e' = 0 ∧ (p', c', es') = a.1 ∧ T' = cW T k a.2) := by
  have hL := hX.1
  have hs := skp_le b hp
  have hw := we_le b hs
  have fl : fw L b rKs (skp L b p) ≤ 2 := fw_le L b (skp L b p) rKs
  have sp : rCl L b k (p, c, es) = if fw L b rKs (skp L b p) = 2 then .inl (1 + 8 * skp L b p + 0) else if k = 12 then .inl (1 + 8 * skp L b p + 4) else sb (rS1 L b (fw L b rKs (skp L b p)) (we L b (skp L b p), c, es)) fun s1 => sb (rS2 L b (fw L b rKs (skp L b p)) s1) fun s2 => .inr (s2, (fw L b rKs (skp L b p), es.length, s1.2.2.length, s2.2.2.length)) := rfl
  rw [sp]
  clear sp
  obtain ⟨w, ew⟩ : ∃ w, w = fw L b rKs (skp L b p) := ⟨_, rfl⟩
  rw [← ew] at fl ⊢
  by_cases w2 : w = 2
  · rw [if_pos w2]
    refine ⟨T, skp L b p, c, es, _, ?_, hs, CFr.rfl', rfl, by omega, by omega⟩
    unfold f_X6_readClause
    rw [x147_0, Option.bind_some, x129_o, Option.bind_some, y_sk (hX.rc c es) hp, bd_some, nm_q, x147_0, Option.bind_some, x129_o, Option.bind_some, r_kw hX hs, if_neg (by omega), bd_some, nm_q, if_pos rfl, x147_0, Option.bind_some, x129_o, Option.bind_some, show f_X9_fail (cn n sl U S (cX T (skp L b p) c es 0) σ1) 129 (nI (skp L b p)) 0 = _ from y_f0 _ _ 0, Option.bind_some]
  · rw [if_neg w2]
    by_cases k12 : k = 12
    · rw [if_pos k12]
      refine ⟨T, we L b (skp L b p), c, es, _, ?_, hw, CFr.rfl', rfl, by omega, by omega⟩
      unfold f_X6_readClause
      rw [x147_0, Option.bind_some, x129_o, Option.bind_some, y_sk (hX.rc c es) hp, bd_some, nm_q, x147_0, Option.bind_some, x129_o, Option.bind_some, r_kw hX hs, if_pos (by omega), bd_some, nm_q, ← ew, if_neg (show ¬ nI w = -1 from fun h => by have : w = 0 ∨ w = 1 := (by omega); rcases this with e | e <;> (rw [e] at h; revert h; decide)), r_cl, Option.bind_some, h4, k12, if_neg (by decide), x147_0, Option.bind_some, x129_o, Option.bind_some, show f_X9_fail (cn n sl U S (cX T (we L b (skp L b p)) c es 0) σ1) 129 (nI (skp L b p)) 4 = _ from y_f0 _ _ 4, Option.bind_some]
    · rw [if_neg k12]
      have kl : k < 12 := by omega
      obtain ⟨T1, w1⟩ : ∃ T1, T1 = tA (tA T 149 k (nI w)) 150 k (nI es.length) := ⟨_, rfl⟩
      have fr1 : CFr T T1 := by rw [w1]; exact (CFr.arr T k _ (by omega)).trans (CFr.arr _ k _ (by omega))
      have hX1 := fr1.tx hX
      have h41 : T1.1 147 4 = nI k := by rw [w1]; exact h4
      have h4a : (tA T 149 k (nI w)).1 147 4 = nI k := h4
      have k12' : nI k < 12 := nI_lt (b := 12) (by omega) (by decide)
      have go : f_X6_readClause (cn n sl U S (cX T p c es 0) σ1) 147 = (if nI w = (1 : Int32) then
    ((ob (cn n sl U S (cX T1 (we L b (skp L b p)) c es 0) σ1) 147 6).bind fun _ =>
    ((f_X6_readSum (cn n sl U S (cX T1 (we L b (skp L b p)) c es 0) σ1) 147).bind fun μ20 =>
    ((gR μ20 147 6 7).bind fun v21 =>
    ((gI μ20 147 6 4).bind fun v22 =>
    ((gI μ20 147 6 2).bind fun v23 =>
    ((sI μ20 v21 0 v22 v23).bind fun μ24 =>
    (if nI w = 0 then
    ((ob μ24 147 6).bind fun _ =>
    ((f_X6_readTest μ24 147 (0 : Int32)).bind fun μ25 =>
    ((gR μ25 147 6 8).bind fun v26 =>
    ((gI μ25 147 6 4).bind fun v27 =>
    ((gI μ25 147 6 2).bind fun v28 =>
    ((sI μ25 v26 0 v27 v28).bind fun μ29 =>
    ((gI μ29 147 6 4).bind fun v30 =>
    ((pV μ29 147 6 4 (.int (v30 + (1 : Int32)))).bind fun μ31 =>
    (some μ31)))))))))
    else
    ((gR μ24 147 6 0).bind fun v32 =>
    ((ob μ24 v32 9).bind fun _ =>
    (bd (f_X9_takesWord μ24 v32 (5 : Nat)) fun v34 μ33 =>
    (if v34 = 0 then
    ((gR μ33 147 6 8).bind fun v35 =>
    ((gI μ33 147 6 4).bind fun v36 =>
    ((gI μ33 147 6 2).bind fun v37 =>
    ((sI μ33 v35 0 v36 v37).bind fun μ38 =>
    ((gI μ38 147 6 4).bind fun v39 =>
    ((pV μ38 147 6 4 (.int (v39 + (1 : Int32)))).bind fun μ40 =>
    (some μ40)))))))
    else
    ((ob μ33 147 6).bind fun _ =>
    ((f_X6_readTest μ33 147 (0 : Int32)).bind fun μ41 =>
    ((gR μ41 147 6 8).bind fun v42 =>
    ((gI μ41 147 6 4).bind fun v43 =>
    ((gI μ41 147 6 2).bind fun v44 =>
    ((sI μ41 v42 0 v43 v44).bind fun μ45 =>
    ((gI μ45 147 6 4).bind fun v46 =>
    ((pV μ45 147 6 4 (.int (v46 + (1 : Int32)))).bind fun μ47 =>
    (some μ47))))))))))))))))))))
    else
    ((ob (cn n sl U S (cX (tA T1 151 k (nI es.length)) (we L b (skp L b p)) c es 0) σ1) 147 6).bind fun _ =>
    ((f_X6_readTest (cn n sl U S (cX (tA T1 151 k (nI es.length)) (we L b (skp L b p)) c es 0) σ1) 147 (0 : Int32)).bind fun μ52 =>
    ((gR μ52 147 6 8).bind fun v53 =>
    ((gI μ52 147 6 4).bind fun v54 =>
    ((gI μ52 147 6 2).bind fun v55 =>
    ((sI μ52 v53 0 v54 v55).bind fun μ56 =>
    ((gI μ56 147 6 4).bind fun v57 =>
    ((pV μ56 147 6 4 (.int (v57 + (1 : Int32)))).bind fun μ58 =>
    (some μ58)))))))))) := by
        unfold f_X6_readClause
        rw [x147_0, Option.bind_some, x129_o, Option.bind_some, y_sk (hX.rc c es) hp, bd_some, nm_q, x147_0, Option.bind_some, x129_o, Option.bind_some, r_kw hX hs, if_pos (by omega), bd_some, nm_q, ← ew, if_neg (show ¬ nI w = -1 from fun h => by have : w = 0 ∨ w = 1 := (by omega); rcases this with e | e <;> (rw [e] at h; revert h; decide)), r_cl, Option.bind_some, h4, if_pos k12', x147_5, Option.bind_some, Option.bind_some, x149_w kl, cx_A _ _ _ _ _ _ _ (by decide), Option.bind_some, x147_6, Option.bind_some, r_cl, h4a, Option.bind_some, r_len, Option.bind_some, x150_w kl, cx_A _ _ _ _ _ _ _ (by decide), Option.bind_some, ← w1]
        have cw : w = 0 ∨ w = 1 := by omega
        rcases cw with e | e
        · rw [e, if_neg (show ¬ nI 0 = 1 by decide), if_neg (show ¬ nI 0 = 1 by decide), x147_7, Option.bind_some, r_cl, h41, Option.bind_some, r_len, Option.bind_some, x151_w kl, cx_A _ _ _ _ _ _ _ (by decide), Option.bind_some, if_pos (show nI 0 = 0 from rfl)]
        · rw [e, if_pos (show nI 1 = 1 from rfl), if_pos (show nI 1 = 1 from rfl)]
      rw [go]
      have cw : w = 0 ∨ w = 1 := by omega
      rcases cw with e | e
      · obtain ⟨T2, w2⟩ : ∃ T2, T2 = tA T1 151 k (nI es.length) := ⟨_, rfl⟩
        have fr2 : CFr T T2 := by rw [w2]; exact fr1.trans (CFr.arr _ k _ (by omega))
        obtain ⟨p', c', es', e', v1, v2, v3, v4⟩ := (c_TF (n := n) (sl := sl) (U := U) (S := S) (σ1 := σ1) (fr2.tx hX) 30 0 (by decide)).1 (by decide) (we L b (skp L b p)) c es 0 hw (by decide) (fun _ => ⟨hc, hJ⟩)
        have v1 : f_X6_readTest (cn n sl U S (cX T2 (we L b (skp L b p)) c es 0) σ1) 147 0 = some (cn n sl U S (cX T2 p' c' es' e') σ1) := v1
        refine ⟨_, p', c', es', e', ?_, v2, cW_fr T k (w, es.length, es.length, es'.length), ?_⟩
        · rw [e, if_neg (show ¬ nI 0 = 1 by decide), ← w2, x147_o, Option.bind_some, v1, Option.bind_some, r_end (w := w) (x := es.length) (y := es.length) kl (by rw [w2, w1]) h4, e]
        · rw [e]
          rw [show rS1 L b 0 (we L b (skp L b p), c, es) = .inr (we L b (skp L b p), c, es) from rfl, sb_r, show rS2 L b 0 (we L b (skp L b p), c, es) = (rTF L b 30).1 0 (we L b (skp L b p), c, es) from rfl]
          rcases v4 with ⟨h, -⟩ | ⟨-, ne, sv⟩ | ⟨-, z, sv⟩
          · exact absurd rfl h
          · rw [sv]; exact ⟨rfl, ne, v3⟩
          · rw [sv]; exact ⟨z, rfl, rfl⟩
      · obtain ⟨p1, c1, es1, e1, u1, u2, u3, u4⟩ := c_sum (n := n) (sl := sl) (U := U) (S := S) (σ1 := σ1) hX1 (p := we L b (skp L b p)) (c := c) (es := es) (e := 0) hw (by decide) (fun _ => ⟨hc, hJ⟩)
        have u1 : f_X6_readSum (cn n sl U S (cX T1 (we L b (skp L b p)) c es 0) σ1) 147 = some (cn n sl U S (cX T1 p1 c1 es1 e1) σ1) := u1
        obtain ⟨T2, w2⟩ : ∃ T2, T2 = tA T1 151 k (nI es1.length) := ⟨_, rfl⟩
        have fr2 : CFr T T2 := by rw [w2]; exact fr1.trans (CFr.arr _ k _ (by omega))
        have hX2 := fr2.tx hX
        rw [e, if_pos (show nI 1 = 1 from rfl), x147_o, Option.bind_some, u1, Option.bind_some, x147_7, Option.bind_some, r_cl, h41, Option.bind_some, r_len, Option.bind_some, x151_w kl, cx_A _ _ _ _ _ _ _ (by decide), Option.bind_some, if_neg (show ¬ nI 1 = 0 by decide), ← w2, x147_0, Option.bind_some, x129_o, Option.bind_some]
        rw [show rS1 L b 1 (we L b (skp L b p), c, es) = rSum L b (we L b (skp L b p), c, es) from rfl]
        have hs1 := skp_le b u2
        have hw1 := we_le b hs1
        rcases u4 with ⟨h, -⟩ | ⟨-, ne, sv⟩ | ⟨-, z, sv⟩
        · exact absurd rfl h
        · rw [sv, sb_l]
          refine ⟨_, skp L b p1, c1, es1, e1, ?_, hs1, cW_fr T k (w, es.length, es1.length, es1.length), rfl, ne, u3⟩
          rw [r_twD hX2 u2 ne u3, bd_some, if_pos rfl, r_end (w := w) (x := es.length) (y := es1.length) kl (by rw [w2, w1]) h4]
        · subst z
          rw [sv, sb_r]
          have rs : rS2 L b 1 (p1, c1, es1) = if isWd L b wIf (skp L b p1) = true then (rTF L b 30).1 0 (we L b (skp L b p1), c1, es1) else .inr (skp L b p1, c1, es1) := rfl
          rw [rs, r_tw hX2 wIf (by decide) u2 (by decide +kernel) (by decide +kernel)]
          cases hi : isWd L b wIf (skp L b p1) with
          | false =>
            rw [if_neg (by decide), if_neg (by decide), bd_some, if_pos rfl, sb_r]
            refine ⟨_, skp L b p1, c1, es1, 0, ?_, hs1, cW_fr T k (w, es.length, es1.length, es1.length), rfl, rfl, by rw [e]⟩
            rw [r_end (w := w) (x := es.length) (y := es1.length) kl (by rw [w2, w1]) h4]
          | true =>
            rw [if_pos rfl, if_pos rfl, bd_some, if_neg (by decide), x147_o, Option.bind_some]
            obtain ⟨g, GG, -, -, gl, -⟩ := rSum_ok sv hw hc
            have cc : c1 ≤ 60 := GG.2.2.2.1
            have ln : es1.length = es.length + g.length := by
              have : es1 = es ++ g := GG.2.2.2.2.1
              rw [this, List.length_append]
            have gl : g.length + 1 + 2 * c = 2 * c1 := gl
            obtain ⟨p', c', es', e', v1, v2, v3, v4⟩ := (c_TF (n := n) (sl := sl) (U := U) (S := S) (σ1 := σ1) hX2 30 0 (by decide)).1 (by decide) (we L b (skp L b p1)) c1 es1 0 hw1 (by decide) (fun _ => ⟨cc, by omega⟩)
            have v1 : f_X6_readTest (cn n sl U S (cX T2 (we L b (skp L b p1)) c1 es1 0) σ1) 147 0 = some (cn n sl U S (cX T2 p' c' es' e') σ1) := v1
            refine ⟨_, p', c', es', e', ?_, v2, cW_fr T k (w, es.length, es1.length, es'.length), ?_⟩
            · rw [v1, Option.bind_some, r_end (w := w) (x := es.length) (y := es1.length) kl (by rw [w2, w1]) h4]
            · rcases v4 with ⟨h, -⟩ | ⟨-, ne, sv⟩ | ⟨-, z, sv⟩
              · exact absurd rfl h
              · rw [sv]; exact ⟨rfl, ne, v3⟩
              · rw [sv]; exact ⟨z, rfl, by rw [e]⟩
end CCL
