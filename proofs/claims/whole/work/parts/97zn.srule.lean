/-! Rules: the reference reads sums. -/
def rcS (σ : Sg) (r c : Nat) (es : List (Nat × Nat)) : Sg := (fun k => if k = 33 then nI es.length else if k = 35 then nI c else σ.1 k, fun q i => if (q = 216 ∨ q = 217) ∧ 300 * r ≤ i ∧ i < 300 * r + es.length then (if q = 216 then nI (es.getD (i - 300 * r) (0, 0)).1 else nI (es.getD (i - 300 * r) (0, 0)).2) else σ.2.1 q i, σ.2.2)
theorem rcS1 (σ : Sg) (r c : Nat) (es : List (Nat × Nat)) (k : Nat) : (rcS σ r c es).1 k = if k = 33 then nI es.length else if k = 35 then nI c else σ.1 k := rfl
theorem rcS2 (σ : Sg) (r c : Nat) (es : List (Nat × Nat)) (q i : Nat) : (rcS σ r c es).2.1 q i = if (q = 216 ∨ q = 217) ∧ 300 * r ≤ i ∧ i < 300 * r + es.length then (if q = 216 then nI (es.getD (i - 300 * r) (0, 0)).1 else nI (es.getD (i - 300 * r) (0, 0)).2) else σ.2.1 q i := rfl
abbrev sX (σ : Sg) (r p c : Nat) (es : List (Nat × Nat)) (e : Nat) : Sg := sp (rcS σ r c es) p e
theorem rs_em (σ : Sg) (r p c : Nat) (es : List (Nat × Nat)) (e : Nat) (x : Nat × Nat) : stI (stA (stA (sX σ r p c es e) 216 (300 * r + es.length) (nI x.1)) 217 (300 * r + es.length) (nI x.2)) 33 (nI (es.length + 1)) = sX σ r p c (es ++ [x]) e := by
  rw [sp_A, sp_A, sp_I _ _ _ (by decide) (by decide)]
  congr 1
  refine Prod.ext (funext fun k => ?_) (Prod.ext (funext fun q => funext fun i => ?_) rfl)
  · rw [stI1, stA1, stA1, rcS1, rcS1, List.length_append]
    by_cases h : k = 33
    · rw [if_pos h, if_pos h]; rfl
    · rw [if_neg h, if_neg h, if_neg h]
  · show (stA (stA (rcS σ r c es) 216 (300 * r + es.length) (nI x.1)) 217 (300 * r + es.length) (nI x.2)).2.1 q i = _
    rw [stA2, stA2, rcS2, rcS2, List.length_append]
    show _ = if (q = 216 ∨ q = 217) ∧ 300 * r ≤ i ∧ i < 300 * r + (es.length + 1) then _ else _
    by_cases hq : q = 216 ∨ q = 217
    · by_cases hi : i = 300 * r + es.length
      · have e1 : (es ++ [x]).getD (i - 300 * r) (0, 0) = x := by rw [getD_app (by omega), if_pos (by omega)]
        rw [if_pos (show (q = 216 ∨ q = 217) ∧ 300 * r ≤ i ∧ i < 300 * r + (es.length + 1) by omega), e1]
        by_cases h7 : q = 217
        · rw [if_pos ⟨h7, hi⟩, if_neg (by omega)]
        · rw [if_neg (fun y => h7 y.1), if_pos (show q = 216 ∧ i = 300 * r + es.length by omega), if_pos (by omega)]
      · rw [if_neg (fun y => hi y.2), if_neg (fun y => hi y.2)]
        by_cases h2 : 300 * r ≤ i ∧ i < 300 * r + es.length
        · have e1 : (es ++ [x]).getD (i - 300 * r) (0, 0) = es.getD (i - 300 * r) (0, 0) := by rw [getD_app (by omega), if_neg (by omega)]
          rw [if_pos ⟨hq, h2⟩, if_pos (show (q = 216 ∨ q = 217) ∧ 300 * r ≤ i ∧ i < 300 * r + (es.length + 1) by omega), e1]
        · rw [if_neg (fun y => h2 y.2), if_neg (fun y => h2 (by omega))]
    · rw [if_neg (fun y => hq (.inr y.1)), if_neg (fun y => hq (.inl y.1)), if_neg (fun y => hq y.1), if_neg (fun y => hq y.1)]
theorem rs_cn (σ : Sg) (r p c c' : Nat) (es : List (Nat × Nat)) (e : Nat) : stI (sX σ r p c es e) 35 (nI c') = sX σ r p c' es e := by
  rw [sp_I _ _ _ (by decide) (by decide)]
  congr 1
  refine Prod.ext (funext fun k => ?_) rfl
  rw [stI1, rcS1, rcS1]
  by_cases h : k = 35
  · rw [if_pos h, if_neg (by omega), if_pos h]
  · rw [if_neg h, if_neg h, if_neg h]
theorem TXs.rc {σ : Sg} {L : Nat} {b : Nat → Nat} (h : TXs σ L b) (r c : Nat) (es : List (Nat × Nat)) : TXs (rcS σ r c es) L b := by
  refine ⟨h.1, by rw [rcS1, if_neg (by decide), if_neg (by decide)]; exact h.2.1, fun i hi => ?_⟩
  rw [rcS2, if_neg (fun x => by omega)]
  exact h.2.2 i hi
def SSim (σ : Sg) (r L : Nat) (G : Rt → Sum Nat Rt) (F : Mm → Option Mm) (p c : Nat) (es : List (Nat × Nat)) (e : Nat) : Prop := ∃ p' c' es' e', (∀ ρ τ, F (mem ρ τ (sX σ r p c es e)) = some (mem ρ τ (sX σ r p' c' es' e'))) ∧ p' ≤ L ∧ e' < 4000 ∧ ((e ≠ 0 ∧ e' = e) ∨ (e = 0 ∧ e' ≠ 0 ∧ G (p, c, es) = .inl e') ∨ (e = 0 ∧ e' = 0 ∧ G (p, c, es) = .inr (p', c', es')))
/-- the reference stands ready for a rule -/
def SK (σ : Sg) (r : Nat) : Prop := r < 6 ∧ σ.1 31 = nI r ∧ σ.1 37 = nI 12
section SRULE
variable {σ : Sg} {L r : Nat} {b : Nat → Nat} {ρ : Mm} {τ : Nat → va_E}
theorem q_31 (hK : SK σ r) (p c : Nat) (es : List (Nat × Nat)) (e : Nat) : gI (mem ρ τ (sX σ r p c es e)) 188 12 31 = some (nI r) := by
  rw [mI_31, sp1, if_neg (by decide), if_neg (by decide), rcS1, if_neg (by decide), if_neg (by decide), hK.2.1]
theorem q_33 (p c : Nat) (es : List (Nat × Nat)) (e : Nat) : gI (mem ρ τ (sX σ r p c es e)) 188 12 33 = some (nI es.length) := by
  rw [mI_33, sp1, if_neg (by decide), if_neg (by decide), rcS1, if_pos rfl]
theorem q_35 (p c : Nat) (es : List (Nat × Nat)) (e : Nat) : gI (mem ρ τ (sX σ r p c es e)) 188 12 35 = some (nI c) := by
  rw [mI_35, sp1, if_neg (by decide), if_neg (by decide), rcS1, if_neg (by decide), if_pos rfl]
theorem q_37 (hK : SK σ r) (p c : Nat) (es : List (Nat × Nat)) (e : Nat) : gI (mem ρ τ (sX σ r p c es e)) 188 12 37 = some (nI 12) := by
  rw [mI_37, sp1, if_neg (by decide), if_neg (by decide), rcS1, if_neg (by decide), if_neg (by decide), hK.2.2]
theorem s_entry (hK : SK σ r) {p c : Nat} {es : List (Nat × Nat)} (x : Nat × Nat) (h : es.length < 300) : f_X12_entry (mem ρ τ (sX σ r p c es 0)) 188 (nI x.1) (nI x.2) = some (mem ρ τ (sX σ r p c (es ++ [x]) 0)) := by
  have hr := hK.1
  have t1 : gI (mem ρ τ (stA (sX σ r p c es 0) 216 (300 * r + es.length) (nI x.1))) 188 12 31 = some (nI r) := by
    rw [mI_31, stA1, ← mI_31 ρ τ, q_31 hK]
  have t3 : gI (mem ρ τ (stA (sX σ r p c es 0) 216 (300 * r + es.length) (nI x.1))) 188 12 33 = some (nI es.length) := by
    rw [mI_33, stA1, ← mI_33 ρ τ, q_33]
  have t4 : gI (mem ρ τ (stA (stA (sX σ r p c es 0) 216 (300 * r + es.length) (nI x.1)) 217 (300 * r + es.length) (nI x.2))) 188 12 33 = some (nI es.length) := by
    rw [mI_33, stA1, stA1, ← mI_33 ρ τ, q_33]
  unfold f_X12_entry
  rw [z_ft, Option.bind_some, if_pos (show nI 0 = 0 from rfl), mR_39, Option.bind_some, q_31 hK, Option.bind_some, q_33, Option.bind_some, lit_300, pk_mul, nI_add, y216_w (by omega), Option.bind_some, mR_40, Option.bind_some, t1, Option.bind_some, t3, Option.bind_some, pk_mul, nI_add, y217_w (by omega), Option.bind_some, t4, Option.bind_some, lit_1, nI_add, mP_33, rs_em, Option.bind_some]
theorem s_entryD {p c e : Nat} {es : List (Nat × Nat)} (he : e ≠ 0) (h4 : e < 4000) (x y : Int32) : f_X12_entry (mem ρ τ (sX σ r p c es e)) 188 x y = some (mem ρ τ (sX σ r p c es e)) := by
  unfold f_X12_entry
  rw [z_ft, Option.bind_some, if_neg (show ¬ nI e = 0 from fun h => he ((nI_eq (b := 0) (by omega) (by decide)).1 h))]
theorem s_count {p c at_ : Nat} {es : List (Nat × Nat)} (hc : c ≤ 60) : f_X12_isCounted (mem ρ τ (sX σ r p c es 0)) 188 (nI at_) = some (mem ρ τ (sX σ r p (c + 1) es (if c = 60 then 1 + 8 * at_ + 3 else 0))) := by
  unfold f_X12_isCounted
  rw [q_35, Option.bind_some]
  by_cases h : c = 60
  · rw [if_pos (show nI c = 60 by rw [h]; rfl), ob_mem, Option.bind_some, lit_3, z_fs0, Option.bind_some, q_35, Option.bind_some, lit_1, nI_add, mP_35, rs_cn, Option.bind_some, if_pos h]
  · rw [if_neg (show ¬ nI c = 60 from fun x => h ((nI_eq (b := 60) (by omega) (by decide)).1 x)), Option.bind_some, lit_1, nI_add, mP_35, rs_cn, Option.bind_some, if_neg h]
theorem s_countD {p c e : Nat} {es : List (Nat × Nat)} (he : e ≠ 0) (h4 : e < 4000) (x : Int32) : f_X12_isCounted (mem ρ τ (sX σ r p c es e)) 188 x = some (mem ρ τ (sX σ r p (c + 1) es e)) := by
  unfold f_X12_isCounted
  rw [q_35, Option.bind_some]
  by_cases h : nI c = 60
  · rw [if_pos h, ob_mem, Option.bind_some, z_fs1 _ he (by omega), Option.bind_some, q_35, Option.bind_some, lit_1, nI_add, mP_35, rs_cn, Option.bind_some]
  · rw [if_neg h, Option.bind_some, lit_1, nI_add, mP_35, rs_cn, Option.bind_some]
theorem s_wordOf (k : Nat) (hk : k < 12) (μ : Mm) : ∃ a, f_X12_wordOf μ (nI k) = some (a, μ) ∧ a < 32 ∧ sByt a = (rWs.getD k []).map nI ∧ (∀ c ∈ rWs.getD k [], c < 128) ∧ 0 < (rWs.getD k []).length := by
  have hc : k = 0 ∨ k = 1 ∨ k = 2 ∨ k = 3 ∨ k = 4 ∨ k = 5 ∨ k = 6 ∨ k = 7 ∨ k = 8 ∨ k = 9 ∨ k = 10 ∨ k = 11 := by omega
  rcases hc with rfl | rfl | rfl | rfl | rfl | rfl | rfl | rfl | rfl | rfl | rfl | rfl
  all_goals exact ⟨_, rfl, by decide, by decide +kernel, by decide +kernel, by decide⟩
theorem fw_rs {p k : Nat} (hk : k < rWs.length) : fw L b (rWs.drop k) p = if isWd L b (rWs.getD k []) p = true then 0 else fw L b (rWs.drop (k + 1)) p + 1 := by
  rw [List.drop_eq_getElem_cons hk, fw, List.getD_eq_getElem?_getD, List.getElem?_eq_getElem hk]
  rfl
theorem s_wrdL (hX : TXs σ L b) (hK : SK σ r) {p c e : Nat} {es : List (Nat × Nat)} (hp : p < 2 ^ 30) (x : Int32) (K : Mm → Nat → Int32 → Int32 → Option Mm) : ∀ (j k f : Nat), k + j = 12 → j < f → f_X12_value_L38 K f (mem ρ τ (sX σ r p c es e)) 188 x (nI k) = K (mem ρ τ (sX σ r p c es e)) 188 x (nI (k + fw L b (rWs.drop k) p)) := by
  intro j
  induction j with
  | zero =>
    intro k f h1 h2
    obtain ⟨f, rfl⟩ : ∃ k, f = k + 1 := ⟨f - 1, by omega⟩
    obtain rfl : k = 12 := by omega
    rw [f_X12_value_L38, q_37 hK, Option.bind_some, if_pos (by decide)]
    rfl
  | succ j ih =>
    intro k f h1 h2
    obtain ⟨f, rfl⟩ : ∃ k, f = k + 1 := ⟨f - 1, by omega⟩
    obtain ⟨a, w1, w2, w3, w4, w5⟩ := s_wordOf k (by omega) (mem ρ τ (sX σ r p c es e))
    rw [f_X12_value_L38, q_37 hK, Option.bind_some, if_neg (nI_ge (by omega) (by decide)), w1, bd_some, ob_mem, Option.bind_some, z_st (hX.rc r c es) e _ w2 hp w3 w4 w5, bd_some, fw_rs (show k < 12 by omega)]
    cases hw : isWd L b (rWs.getD k []) p with
    | false => rw [if_pos (show bI false = 0 from rfl), nm_q, oin1, nI_add, ih (k + 1) f (by omega) (by omega), if_neg (by decide), Nat.add_assoc, Nat.add_comm 1]
    | true => rw [if_neg (show ¬ bI true = 0 by decide), if_pos rfl, Nat.add_zero]
theorem z_dgsD (hX : TXs σ L b) {p e : Nat} (hp : p ≤ L) (he : e ≠ 0) (h4 : e < 4000) (hD : tD L b p = true) (ρ : Mm) (τ : Nat → va_E) : f_X12_digits (mem ρ τ (sp σ p e)) 188 99999 = some (nI (nv b p (min 5 (de L b p - p))), mem ρ τ (sp σ (de L b p) e)) := by
  have hL := hX.1
  have hd := de_le b hp
  have ge : p ≤ de L b p := rn_ge _ _ rfl
  have hn := nv_5 L b p
  unfold f_X12_digits
  have z := z_nuL hX e p 99999 (fun μ25 a26 x27 x28 x29 =>
    ((gI μ25 a26 12 29).bind fun v30 =>
    (if (5 : Int32) < (v30 - x28) then
    ((ob μ25 a26 12).bind fun _ =>
    ((f_X12_fails μ25 a26 (1 : Int32) x28).bind fun μ31 =>
    (some (x29, μ31))))
    else
    (if x29 ≤ x27 then
    (some (x29, μ25))
    else
    ((ob μ25 a26 12).bind fun _ =>
    ((f_X12_fails μ25 a26 (1 : Int32) x28).bind fun μ32 =>
    (some (x29, μ32)))))))) ρ τ (L - p) p FU rfl (Nat.le_refl _) hp (by unfold FU; omega) (fun i h1 h2 => by omega)
  rw [Nat.sub_self, Nat.min_zero, show nI (nv b p 0) = (0 : Int32) from rfl] at z
  rw [ob_mem, Option.bind_some, z_dg hX e (by omega), bd_some, hD, if_neg (show ¬ bI true = 0 by decide), z_pl, Option.bind_some, nm_q, nm_q, z, z_pl, Option.bind_some, nI_sub ge]
  generalize nv b p (min 5 (de L b p - p)) = v at *
  by_cases h5 : (5 : Int32) < nI (de L b p - p)
  · rw [if_pos h5, ob_mem, Option.bind_some, z_fs1 _ he (by omega), Option.bind_some]
  · rw [if_neg h5, if_pos (show nI v ≤ 99999 from nI_le (b := 99999) (Nat.le_of_lt_succ hn) (by decide))]
theorem s_val (hX : TXs σ L b) (hK : SK σ r) {p c e : Nat} {es : List (Nat × Nat)} (hp : p ≤ L) (he : e < 4000) (hJ : e = 0 → c ≤ 60 ∧ 3 * es.length ≤ 14 * c) : SSim σ r L (rVal L b) (fun μ => f_X12_value μ 188) p c es e := by
  have hL := hX.1
  have hX' := hX.rc r c es
  have hs := skp_le b hp
  have hw := we_le b hs
  have hd := de_le b hs
  have f12 : fw L b rWs (skp L b p) ≤ 12 := fw_le L b (skp L b p) rWs
  have pre : ∀ ρ τ, f_X12_value (mem ρ τ (sX σ r p c es e)) 188 = if bI (tD L b (skp L b p)) = 0 then
    (if nI (fw L b rWs (skp L b p)) = nI 12 then
    ((f_X12_fails (mem ρ τ (sX σ r (skp L b p) c es e)) 188 (0 : Int32) (nI (skp L b p))).bind fun μ22 =>
    (some μ22))
    else
    ((f_X12_isCounted (mem ρ τ (sX σ r (skp L b p) c es e)) 188 (nI (skp L b p))).bind fun μ23 =>
    ((gI μ23 188 12 29).bind fun v24 =>
    (bd (f_X12_wordOf μ23 (nI (fw L b rWs (skp L b p)))) fun v26 μ25 =>
    ((tL v26).bind fun v27 =>
    ((pV μ25 188 12 29 (.int (v24 + v27))).bind fun μ28 =>
    ((ob μ28 188 12).bind fun _ =>
    ((f_X12_entry μ28 188 (1 : Int32) (nI (fw L b rWs (skp L b p)))).bind fun μ29 =>
    (some μ29)))))))))
    else
    (bd (f_X12_digits (mem ρ τ (sX σ r (skp L b p) c es e)) 188 (99999 : Int32)) fun v31 μ30 =>
    (nm v31 fun x32 =>
    ((ob μ30 188 12).bind fun _ =>
    ((f_X12_isCounted μ30 188 (nI (skp L b p))).bind fun μ33 =>
    ((ob μ33 188 12).bind fun _ =>
    ((f_X12_entry μ33 188 (0 : Int32) x32).bind fun μ34 =>
    (some μ34))))))) := by
    intro ρ τ
    have z := s_wrdL (ρ := ρ) (τ := τ) hX hK (p := skp L b p) (c := c) (e := e) (es := es) (by omega) (nI (skp L b p)) (fun μ17 a18 x19 x20 =>
    ((gI μ17 a18 12 37).bind fun v21 =>
    (if x20 = v21 then
    ((ob μ17 a18 12).bind fun _ =>
    ((f_X12_fails μ17 a18 (0 : Int32) x19).bind fun μ22 =>
    (some μ22)))
    else
    ((ob μ17 a18 12).bind fun _ =>
    ((f_X12_isCounted μ17 a18 x19).bind fun μ23 =>
    ((gI μ23 a18 12 29).bind fun v24 =>
    (bd (f_X12_wordOf μ23 x20) fun v26 μ25 =>
    ((tL v26).bind fun v27 =>
    ((pV μ25 a18 12 29 (.int (v24 + v27))).bind fun μ28 =>
    ((ob μ28 a18 12).bind fun _ =>
    ((f_X12_entry μ28 a18 (1 : Int32) x20).bind fun μ29 =>
    (some μ29)))))))))))) 12 0 FU rfl (by unfold FU; omega)
    rw [show nI 0 = (0 : Int32) from rfl, Nat.zero_add, List.drop_zero] at z
    unfold f_X12_value
    rw [ob_mem, Option.bind_some, z_bl hX' e (by omega), Option.bind_some, z_pl, Option.bind_some, nm_q, ob_mem, Option.bind_some, z_dg hX' e (by omega), bd_some, nm_q, z, q_37 hK, Option.bind_some, ob_mem, Option.bind_some, Option.bind_some, Option.bind_some]
  have key : ∀ μ, fw L b rWs (skp L b p) < 12 → ∃ a, f_X12_wordOf μ (nI (fw L b rWs (skp L b p))) = some (a, μ) ∧ tL a = some (nI (we L b (skp L b p) - skp L b p)) ∧ skp L b p ≤ we L b (skp L b p) := by
    intro μ h
    obtain ⟨a, w1, w2, w3, w4, w5⟩ := s_wordOf (fw L b rWs (skp L b p)) h μ
    have iw := fw_get (L := L) (b := b) (p := skp L b p) (ws := rWs) rfl h
    unfold isWd at iw
    rw [Bool.and_eq_true] at iw
    have wl := of_decide_eq_true iw.1
    have sl : sLen a = (rWs.getD (fw L b rWs (skp L b p)) []).length := by unfold sLen; rw [w3, List.length_map]
    exact ⟨a, w1, by rw [tL_at w2, sl, show we L b (skp L b p) - skp L b p = (rWs.getD (fw L b rWs (skp L b p)) []).length by omega], by omega⟩
  by_cases e0 : e = 0
  · subst e0
    obtain ⟨c60, J⟩ := hJ rfl
    have l300 : es.length < 300 := by omega
    have rv : rVal L b (p, c, es) = if tD L b (skp L b p) = true then (sb (amt L b p 0 100000) fun a => rCnt (p, c, es) (skp L b p) a.2 (0, a.1)) else if fw L b rWs (skp L b p) = 12 then .inl (1 + 8 * skp L b p + 0) else rCnt (p, c, es) (skp L b p) (we L b (skp L b p)) (1, fw L b rWs (skp L b p)) := rfl
    have rc1 : ∀ k q x, c = 60 → rCnt (p, c, es) k q x = .inl (1 + 8 * k + 3) := fun k q x h => if_pos h
    have rc2 : ∀ k q x, c ≠ 60 → rCnt (p, c, es) k q x = .inr (q, c + 1, es ++ [x]) := fun k q x h => if_neg h
    cases hD : tD L b (skp L b p) with
    | true =>
      have hn := nv_5 L b (skp L b p)
      have am : amt L b p 0 100000 = if 5 < de L b (skp L b p) - skp L b p then .inl (1 + 8 * skp L b p + 1) else .inr (nv b (skp L b p) (min 5 (de L b (skp L b p) - skp L b p)), de L b (skp L b p)) := by
        unfold amt
        rw [hD, if_pos rfl]
        generalize nv b (skp L b p) (min 5 (de L b (skp L b p) - skp L b p)) = v at *
        by_cases h5 : 5 < de L b (skp L b p) - skp L b p
        · rw [if_pos (.inl h5), if_pos h5]
        · rw [if_neg (by omega), if_neg h5]
      rw [hD, if_pos rfl, am] at rv
      have dg := fun ρ τ => z_dgs (ρ := ρ) (τ := τ) hX' hs
      simp only [hD, if_true] at dg
      simp only [hD, if_neg (show ¬ bI true = 0 by decide), dg, bd_some, nm_q, ob_mem, Option.bind_some] at pre
      by_cases h5 : 5 < de L b (skp L b p) - skp L b p
      · rw [if_pos h5, sb_l] at rv
        simp only [if_pos h5, s_countD (show 1 + 8 * skp L b p + 1 ≠ 0 by omega) (show 1 + 8 * skp L b p + 1 < 4000 by omega), Option.bind_some, ob_mem, s_entryD (show 1 + 8 * skp L b p + 1 ≠ 0 by omega) (show 1 + 8 * skp L b p + 1 < 4000 by omega)] at pre
        exact ⟨_, _, _, _, pre, hd, by omega, .inr (.inl ⟨rfl, by omega, rv⟩)⟩
      · rw [if_neg h5, sb_r] at rv
        by_cases h : c = 60
        · refine ⟨de L b (skp L b p), c + 1, es, 1 + 8 * skp L b p + 3, fun ρ τ => (pre ρ τ).trans ?_, hd, by omega, .inr (.inl ⟨rfl, by omega, rv.trans (rc1 _ _ _ h)⟩)⟩
          rw [if_neg h5, s_count c60, Option.bind_some, if_pos h, ob_mem, Option.bind_some, s_entryD (by omega) (by omega), Option.bind_some]
        · refine ⟨de L b (skp L b p), c + 1, es ++ [(0, nv b (skp L b p) (min 5 (de L b (skp L b p) - skp L b p)))], 0, fun ρ τ => (pre ρ τ).trans ?_, hd, by omega, .inr (.inr ⟨rfl, rfl, rv.trans (rc2 _ _ _ h)⟩)⟩
          rw [if_neg h5, s_count c60, Option.bind_some, if_neg h, ob_mem, Option.bind_some]
          exact (congrArg (fun x => Option.bind x fun μ34 => some μ34) (s_entry hK (0, nv b (skp L b p) (min 5 (de L b (skp L b p) - skp L b p))) l300)).trans rfl
    | false =>
      rw [hD, if_neg (by decide)] at rv
      simp only [hD, if_pos (show bI false = 0 from rfl)] at pre
      by_cases h12 : fw L b rWs (skp L b p) = 12
      · rw [if_pos h12] at rv
        refine ⟨skp L b p, c, es, 1 + 8 * skp L b p + 0, fun ρ τ => (pre ρ τ).trans ?_, hs, by omega, .inr (.inl ⟨rfl, by omega, rv⟩)⟩
        rw [if_pos (show nI (fw L b rWs (skp L b p)) = nI 12 by rw [h12]), show f_X12_fails (mem ρ τ (sX σ r (skp L b p) c es 0)) 188 0 (nI (skp L b p)) = _ from z_fs0 (k := 0) _ _, Option.bind_some]
      · rw [if_neg h12] at rv
        have n12 : ¬ nI (fw L b rWs (skp L b p)) = nI 12 := fun x => h12 ((nI_eq (by omega) (by decide)).1 x)
        by_cases h : c = 60
        · refine ⟨we L b (skp L b p), c + 1, es, 1 + 8 * skp L b p + 3, fun ρ τ => (pre ρ τ).trans ?_, hw, by omega, .inr (.inl ⟨rfl, by omega, rv.trans (rc1 _ _ _ h)⟩)⟩
          obtain ⟨a, k1, k2, k3⟩ := key (mem ρ τ (sX σ r (skp L b p) (c + 1) es (1 + 8 * skp L b p + 3))) (by omega)
          rw [if_neg n12, s_count c60, Option.bind_some, if_pos h, z_pl, Option.bind_some, k1, bd_some, k2, Option.bind_some, nI_add, show skp L b p + (we L b (skp L b p) - skp L b p) = we L b (skp L b p) by omega, z_pp, Option.bind_some, ob_mem, Option.bind_some, s_entryD (by omega) (by omega), Option.bind_some]
        · refine ⟨we L b (skp L b p), c + 1, es ++ [(1, fw L b rWs (skp L b p))], 0, fun ρ τ => (pre ρ τ).trans ?_, hw, by omega, .inr (.inr ⟨rfl, rfl, rv.trans (rc2 _ _ _ h)⟩)⟩
          obtain ⟨a, k1, k2, k3⟩ := key (mem ρ τ (sX σ r (skp L b p) (c + 1) es 0)) (by omega)
          rw [if_neg n12, s_count c60, Option.bind_some, if_neg h, z_pl, Option.bind_some, k1, bd_some, k2, Option.bind_some, nI_add, show skp L b p + (we L b (skp L b p) - skp L b p) = we L b (skp L b p) by omega, z_pp, Option.bind_some, ob_mem, Option.bind_some]
          exact (congrArg (fun x => Option.bind x fun μ29 => some μ29) (s_entry hK (1, fw L b rWs (skp L b p)) l300)).trans rfl
  · cases hD : tD L b (skp L b p) with
    | true =>
      refine ⟨de L b (skp L b p), c + 1, es, e, fun ρ τ => (pre ρ τ).trans ?_, hd, he, .inl ⟨e0, rfl⟩⟩
      rw [hD, if_neg (show ¬ bI true = 0 by decide), z_dgsD hX' hs e0 he hD, bd_some, nm_q, ob_mem, Option.bind_some, s_countD e0 he, Option.bind_some, ob_mem, Option.bind_some, s_entryD e0 he, Option.bind_some]
    | false =>
      by_cases h12 : fw L b rWs (skp L b p) = 12
      · refine ⟨skp L b p, c, es, e, fun ρ τ => (pre ρ τ).trans ?_, hs, he, .inl ⟨e0, rfl⟩⟩
        rw [hD, if_pos (show bI false = 0 from rfl), if_pos (show nI (fw L b rWs (skp L b p)) = nI 12 by rw [h12]), z_fs1 _ e0 (by omega), Option.bind_some]
      · have n12 : ¬ nI (fw L b rWs (skp L b p)) = nI 12 := fun x => h12 ((nI_eq (by omega) (by decide)).1 x)
        refine ⟨we L b (skp L b p), c + 1, es, e, fun ρ τ => (pre ρ τ).trans ?_, hw, he, .inl ⟨e0, rfl⟩⟩
        obtain ⟨a, k1, k2, k3⟩ := key (mem ρ τ (sX σ r (skp L b p) (c + 1) es e)) (by omega)
        rw [hD, if_pos (show bI false = 0 from rfl), if_neg n12, s_countD e0 he, Option.bind_some, z_pl, Option.bind_some, k1, bd_some, k2, Option.bind_some, nI_add, show skp L b p + (we L b (skp L b p) - skp L b p) = we L b (skp L b p) by omega, z_pp, Option.bind_some, ob_mem, Option.bind_some, s_entryD e0 he, Option.bind_some]
end SRULE
