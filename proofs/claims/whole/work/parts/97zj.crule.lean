/-! Rules: the class reads sums. -/
def cdE (x : Nat × Nat) : Int32 := cod (nI x.1) (nI x.2)
theorem cd0 (v : Nat) : cdE (0, v) = nI v := by
  show cod (nI 0) (nI v) = _
  unfold cod
  rw [if_pos (show nI 0 = 0 from rfl)]
def rcT (T : Tc) (c : Nat) (es : List (Nat × Nat)) : Tc := (fun r k => if r = 147 ∧ k = 2 then nI es.length else if r = 147 ∧ k = 3 then nI c else T.1 r k, fun r i => if r = 148 ∧ i < es.length then cdE (es.getD i (0, 0)) else T.2.1 r i, T.2.2)
theorem rcT1 (T : Tc) (c : Nat) (es : List (Nat × Nat)) (r k : Nat) : (rcT T c es).1 r k = if r = 147 ∧ k = 2 then nI es.length else if r = 147 ∧ k = 3 then nI c else T.1 r k := rfl
theorem rcT2 (T : Tc) (c : Nat) (es : List (Nat × Nat)) (r i : Nat) : (rcT T c es).2.1 r i = if r = 148 ∧ i < es.length then cdE (es.getD i (0, 0)) else T.2.1 r i := rfl
abbrev cX (T : Tc) (p c : Nat) (es : List (Nat × Nat)) (e : Nat) : Tc := tp (rcT T c es) p e
theorem getD_app {es : List (Nat × Nat)} {x : Nat × Nat} {i : Nat} (hi : i < es.length + 1) : (es ++ [x]).getD i (0, 0) = if i = es.length then x else es.getD i (0, 0) := by
  by_cases h : i = es.length
  · rw [if_pos h, h]
    simp
  · rw [if_neg h]
    simp only [List.getD_eq_getElem?_getD]
    rw [List.getElem?_append_left (by omega)]
theorem rc_em (T : Tc) (p c : Nat) (es : List (Nat × Nat)) (e : Nat) (x : Nat × Nat) : tI (tA (cX T p c es e) 148 es.length (cdE x)) 147 2 (nI (es.length + 1)) = cX T p c (es ++ [x]) e := by
  rw [tp_A, tp_I _ _ _ (by decide)]
  congr 1
  refine Prod.ext (funext fun r => funext fun k => ?_) (Prod.ext (funext fun r => funext fun i => ?_) rfl)
  · rw [tI1]
    show (if r = 147 ∧ k = 2 then nI (es.length + 1) else if r = 147 ∧ k = 2 then nI es.length else if r = 147 ∧ k = 3 then nI c else T.1 r k) = if r = 147 ∧ k = 2 then nI (es ++ [x]).length else if r = 147 ∧ k = 3 then nI c else T.1 r k
    by_cases h : r = 147 ∧ k = 2
    · rw [if_pos h, if_pos h, List.length_append]
      rfl
    · rw [if_neg h, if_neg h, if_neg h]
  · show (tA (rcT T c es) 148 es.length (cdE x)).2.1 r i = if r = 148 ∧ i < (es ++ [x]).length then cdE ((es ++ [x]).getD i (0, 0)) else T.2.1 r i
    rw [tA2, List.length_append]
    show (if r = 148 ∧ i = es.length then cdE x else if r = 148 ∧ i < es.length then cdE (es.getD i (0, 0)) else T.2.1 r i) = if r = 148 ∧ i < es.length + 1 then _ else _
    by_cases hr : r = 148
    · by_cases h : i = es.length
      · rw [if_pos ⟨hr, h⟩, if_pos ⟨hr, by omega⟩, getD_app (by omega), if_pos h]
      · rw [if_neg (fun y => h y.2)]
        by_cases h2 : i < es.length
        · rw [if_pos ⟨hr, h2⟩, if_pos ⟨hr, by omega⟩, getD_app (by omega), if_neg h]
        · rw [if_neg (fun y => h2 y.2), if_neg (fun y => by omega)]
    · rw [if_neg (fun y => hr y.1), if_neg (fun y => hr y.1), if_neg (fun y => hr y.1)]
theorem rc_cn (T : Tc) (p c c' : Nat) (es : List (Nat × Nat)) (e : Nat) : tI (cX T p c es e) 147 3 (nI c') = cX T p c' es e := by
  rw [tp_I _ _ _ (by decide)]
  congr 1
  refine Prod.ext (funext fun r => funext fun k => ?_) rfl
  rw [tI1]
  show (if r = 147 ∧ k = 3 then nI c' else if r = 147 ∧ k = 2 then nI es.length else if r = 147 ∧ k = 3 then nI c else T.1 r k) = if r = 147 ∧ k = 2 then nI es.length else if r = 147 ∧ k = 3 then nI c' else T.1 r k
  by_cases h : r = 147 ∧ k = 3
  · rw [if_pos h, if_neg (by omega), if_pos h]
  · rw [if_neg h, if_neg h, if_neg h]
theorem TXc.rc {T : Tc} {L : Nat} {b : Nat → Nat} (h : TXc T L b) (c : Nat) (es : List (Nat × Nat)) : TXc (rcT T c es) L b := by
  refine ⟨h.1, ?_, fun i hi => ?_⟩
  · show (if 129 = 147 ∧ 1 = 2 then nI es.length else if 129 = 147 ∧ 1 = 3 then nI c else T.1 129 1) = _
    rw [if_neg (by decide), if_neg (by decide)]
    exact h.2.1
  · have : (rcT T c es).2.1 130 i = T.2.1 130 i := by rw [rcT2, if_neg (fun x => by omega)]
    rw [this]
    exact h.2.2 i hi
/-- a reader of the class does what is asked -/
def CSim (n sl : Nat) (U : Nat → va_E) (S : Nat → Nat × Nat × Nat) (σ1 : Sg) (T : Tc) (L : Nat) (G : Rt → Sum Nat Rt) (F : Mm → Option Mm) (p c : Nat) (es : List (Nat × Nat)) (e : Nat) : Prop := ∃ p' c' es' e', F (cn n sl U S (cX T p c es e) σ1) = some (cn n sl U S (cX T p' c' es' e') σ1) ∧ p' ≤ L ∧ e' < 4000 ∧ ((e ≠ 0 ∧ e' = e) ∨ (e = 0 ∧ e' ≠ 0 ∧ G (p, c, es) = .inl e') ∨ (e = 0 ∧ e' = 0 ∧ G (p, c, es) = .inr (p', c', es')))
section CRULE
variable {n sl : Nat} {U : Nat → va_E} {S : Nat → Nat × Nat × Nat} {σ1 : Sg} {T : Tc} {L : Nat} {b : Nat → Nat}
theorem r_len (p c : Nat) (es : List (Nat × Nat)) (e : Nat) : gI (cn n sl U S (cX T p c es e) σ1) 147 6 2 = some (nI es.length) := by
  rw [x147_2, tp_o _ _ _ (by decide)]
  rw [rcT1, if_pos (by decide)]
theorem r_prt (p c : Nat) (es : List (Nat × Nat)) (e : Nat) : gI (cn n sl U S (cX T p c es e) σ1) 147 6 3 = some (nI c) := by
  rw [x147_3, tp_o _ _ _ (by decide)]
  rw [rcT1, if_neg (by decide), if_pos (by decide)]
theorem r_emit {p c : Nat} {es : List (Nat × Nat)} (x : Nat × Nat) (h : es.length < 400) : f_X6_emit (cn n sl U S (cX T p c es 0) σ1) 147 (cdE x) = some (cn n sl U S (cX T p c (es ++ [x]) 0) σ1) := by
  have e2 : gI (cn n sl U S (tA (cX T p c es 0) 148 es.length (cdE x)) σ1) 147 6 2 = some (nI es.length) := by
    rw [x147_2, tA1]
    exact (x147_2 (n := n) (sl := sl) (U := U) (S := S) (σ := σ1)).symm.trans (r_len p c es 0)
  unfold f_X6_emit
  rw [x147_0, Option.bind_some, x129_o, Option.bind_some, y_s0, bd_some, if_neg (by decide), r_len, Option.bind_some, x147_1, Option.bind_some, x148_n, Option.bind_some, if_neg (nI_ge h (by decide)), Option.bind_some, Option.bind_some, x148_w h, Option.bind_some, e2, Option.bind_some, lit_1, nI_add, x147_2p, Option.bind_some, rc_em]
theorem r_emitD {p c e : Nat} {es : List (Nat × Nat)} (he : e ≠ 0) (h4 : e < 4000) (x : Int32) : f_X6_emit (cn n sl U S (cX T p c es e) σ1) 147 x = some (cn n sl U S (cX T p c es e) σ1) := by
  unfold f_X6_emit
  rw [x147_0, Option.bind_some, x129_o, Option.bind_some, y_s1 _ he (by omega), bd_some, if_pos rfl]
theorem r_part {p c at_ : Nat} {es : List (Nat × Nat)} (hc : c ≤ 60) : f_X6_addPart (cn n sl U S (cX T p c es 0) σ1) 147 (nI at_) = some (cn n sl U S (cX T p (c + 1) es (if c = 60 then 1 + 8 * at_ + 3 else 0)) σ1) := by
  unfold f_X6_addPart
  rw [r_prt, Option.bind_some, lit_1, nI_add, x147_3p, rc_cn, Option.bind_some, r_prt, Option.bind_some]
  by_cases h : c = 60
  · rw [if_neg (show ¬ nI (c + 1) ≤ 60 from nI_ge (a := 60) (by omega) (by omega)), x147_0, Option.bind_some, x129_o, Option.bind_some, lit_3, y_f0, Option.bind_some, if_pos h]
  · rw [if_pos (show nI (c + 1) ≤ 60 from nI_le (b := 60) (by omega) (by decide)), if_neg h]
theorem r_partD {p c e : Nat} {es : List (Nat × Nat)} (he : e ≠ 0) (h4 : e < 4000) (x : Int32) : f_X6_addPart (cn n sl U S (cX T p c es e) σ1) 147 x = some (cn n sl U S (cX T p (c + 1) es e) σ1) := by
  unfold f_X6_addPart
  rw [r_prt, Option.bind_some, lit_1, nI_add, x147_3p, rc_cn, Option.bind_some, r_prt, Option.bind_some]
  by_cases h : nI (c + 1) ≤ 60
  · rw [if_pos h]
  · rw [if_neg h, x147_0, Option.bind_some, x129_o, Option.bind_some, y_f1 _ he (by omega), Option.bind_some]
theorem r_word {p e : Nat} {c : Nat} {es : List (Nat × Nat)} (hX : TXc T L b) (hp : p ≤ L) : f_X9_takeWord (cn n sl U S (cX T p c es e) σ1) 129 2 = if fw L b rWs p < 12 then some (nI (fw L b rWs p), cn n sl U S (cX T (we L b p) c es e) σ1) else some (-1, cn n sl U S (cX T p c es e) σ1) :=
  y_wd (hX.rc c es) e rWs (a := 2) (by decide) hp (by decide +kernel) (by decide +kernel)
theorem c_val (hX : TXc T L b) {p c e : Nat} {es : List (Nat × Nat)} (hp : p ≤ L) (he : e < 4000) (hJ : e = 0 → c ≤ 60 ∧ 3 * es.length ≤ 14 * c) : CSim n sl U S σ1 T L (rVal L b) (fun μ => f_X6_readValue μ 147) p c es e := by
  have hL := hX.1
  have hX' := hX.rc c es
  have hs := skp_le b hp
  have hw := we_le b hs
  have f12 : fw L b rWs (skp L b p) ≤ 12 := fw_le L b (skp L b p) rWs
  have c100 : ∀ k : Nat, (100000 : Int32) + nI k = cdE (1, k) := fun k => by
    show _ = cod (nI 1) (nI k)
    unfold cod
    rw [if_neg (show ¬ nI 1 = 0 by decide), if_pos (show nI 1 = 1 from rfl), Int32.add_comm]
  have pre : f_X6_readValue (cn n sl U S (cX T p c es e) σ1) 147 = if bI (tD L b (skp L b p)) = 0 then
    (bd (f_X9_takeWord (cn n sl U S (cX T (skp L b p) c es e) σ1) 129 (2 : Nat)) fun v11 μ10 =>
    (nm v11 fun x12 =>
    (if x12 = (-1 : Int32) then
    ((gR μ10 147 6 0).bind fun v13 =>
    ((ob μ10 v13 9).bind fun _ =>
    ((f_X9_fail μ10 v13 (nI (skp L b p)) (0 : Int32)).bind fun μ14 =>
    (some μ14))))
    else
    ((ob μ10 147 6).bind fun _ =>
    ((f_X6_emit μ10 147 ((100000 : Int32) + x12)).bind fun μ15 =>
    ((ob μ15 147 6).bind fun _ =>
    ((f_X6_addPart μ15 147 (nI (skp L b p))).bind fun μ16 =>
    (some μ16))))))))
    else
    (bd (f_X9_readNumber (cn n sl U S (cX T (skp L b p) c es e) σ1) 129 (0 : Int32) (99999 : Int32)) fun v19 μ18 =>
    ((ob μ18 147 6).bind fun _ =>
    ((f_X6_emit μ18 147 v19).bind fun μ20 =>
    ((ob μ20 147 6).bind fun _ =>
    ((f_X6_addPart μ20 147 (nI (skp L b p))).bind fun μ21 =>
    (some μ21)))))) := by
    unfold f_X6_readValue
    rw [x147_0, Option.bind_some, x129_o, Option.bind_some, y_sk hX' hp, bd_some, nm_q, x147_0, Option.bind_some, x129_o, Option.bind_some, y_dg hX' _ _ (by omega), bd_some, x147_0, Option.bind_some, Option.bind_some, x129_o, Option.bind_some, Option.bind_some]
  by_cases e0 : e = 0
  · subst e0
    obtain ⟨c60, J⟩ := hJ rfl
    have l400 : es.length < 400 := by omega
    have rv : rVal L b (p, c, es) = if tD L b (skp L b p) = true then (sb (amt L b p 0 100000) fun a => rCnt (p, c, es) (skp L b p) a.2 (0, a.1)) else if fw L b rWs (skp L b p) = 12 then .inl (1 + 8 * skp L b p + 0) else rCnt (p, c, es) (skp L b p) (we L b (skp L b p)) (1, fw L b rWs (skp L b p)) := rfl
    have rc1 : ∀ k q x, c = 60 → rCnt (p, c, es) k q x = .inl (1 + 8 * k + 3) := fun k q x h => if_pos h
    have rc2 : ∀ k q x, c ≠ 60 → rCnt (p, c, es) k q x = .inr (q, c + 1, es ++ [x]) := fun k q x h => if_neg h
    cases hD : tD L b (skp L b p) with
    | true =>
      have am : amt L b (skp L b p) 0 100000 = amt L b p 0 100000 := by unfold amt; rw [skp_i]
      rw [hD, if_pos rfl, ← am] at rv
      rw [hD, if_neg (show ¬ bI true = 0 by decide)] at pre
      rcases y_nm (n := n) (sl := sl) (U := U) (S := S) (σ1 := σ1) hX' hs (lo := 0) (hb := 100000) (by decide) (by decide) with ⟨e1, v, q, a1, a2, a3, a4, a5, a6⟩ | ⟨v, q, a1, a2, a3, a4, a5⟩
      · have a2' : f_X9_readNumber (cn n sl U S (cX T (skp L b p) c es 0) σ1) 129 0 99999 = some (nI v, cn n sl U S (cX T q c es e1) σ1) := a2
        rw [a1, sb_l] at rv
        rw [a2', bd_some, x147_o, Option.bind_some, r_emitD a3 a4, Option.bind_some, x147_o, Option.bind_some, r_partD a3 a4, Option.bind_some] at pre
        exact ⟨_, _, _, e1, pre, a5, a4, .inr (.inl ⟨rfl, a3, rv⟩)⟩
      · have a2' : f_X9_readNumber (cn n sl U S (cX T (skp L b p) c es 0) σ1) 129 0 99999 = some (nI v, cn n sl U S (cX T q c es 0) σ1) := a2
        rw [a1, sb_r] at rv
        rw [a2', bd_some, x147_o, Option.bind_some, ← cd0 v, r_emit _ l400, Option.bind_some, x147_o, Option.bind_some, r_part c60, Option.bind_some] at pre
        by_cases h : c = 60
        · rw [if_pos h] at pre
          exact ⟨_, _, _, _, pre, a3, by omega, .inr (.inl ⟨rfl, by omega, rv.trans (rc1 _ _ _ h)⟩)⟩
        · rw [if_neg h] at pre
          exact ⟨_, _, _, _, pre, a3, by omega, .inr (.inr ⟨rfl, rfl, rv.trans (rc2 _ _ _ h)⟩)⟩
    | false =>
      rw [hD, if_neg (by decide)] at rv
      rw [hD, if_pos (show bI false = 0 from rfl), r_word hX hs] at pre
      by_cases h12 : fw L b rWs (skp L b p) = 12
      · rw [if_pos h12] at rv
        rw [if_neg (show ¬ fw L b rWs (skp L b p) < 12 by omega), bd_some, nm_q, if_pos rfl, x147_0, Option.bind_some, x129_o, Option.bind_some, show f_X9_fail (cn n sl U S (cX T (skp L b p) c es 0) σ1) 129 (nI (skp L b p)) 0 = _ from y_f0 (k := 0) _ _, Option.bind_some] at pre
        exact ⟨_, c, es, _, pre, hs, by omega, .inr (.inl ⟨rfl, by omega, rv⟩)⟩
      · rw [if_neg h12] at rv
        rw [if_pos (show fw L b rWs (skp L b p) < 12 by omega), bd_some, nm_q, if_neg (nI_nm1 (by omega)), x147_o, Option.bind_some, c100, r_emit _ l400, Option.bind_some, x147_o, Option.bind_some, r_part c60, Option.bind_some] at pre
        by_cases h : c = 60
        · rw [if_pos h] at pre
          exact ⟨_, _, _, _, pre, hw, by omega, .inr (.inl ⟨rfl, by omega, rv.trans (rc1 _ _ _ h)⟩)⟩
        · rw [if_neg h] at pre
          exact ⟨_, _, _, _, pre, hw, by omega, .inr (.inr ⟨rfl, rfl, rv.trans (rc2 _ _ _ h)⟩)⟩
  · cases hD : tD L b (skp L b p) with
    | true =>
      rw [hD, if_neg (show ¬ bI true = 0 by decide), y_nuD _ e0 (by omega), bd_some, x147_o, Option.bind_some, r_emitD e0 he, Option.bind_some, x147_o, Option.bind_some, r_partD e0 he, Option.bind_some] at pre
      exact ⟨_, _, _, e, pre, hs, he, .inl ⟨e0, rfl⟩⟩
    | false =>
      rw [hD, if_pos (show bI false = 0 from rfl), r_word hX hs] at pre
      by_cases h12 : fw L b rWs (skp L b p) < 12
      · rw [if_pos h12, bd_some, nm_q, if_neg (nI_nm1 (by omega)), x147_o, Option.bind_some, r_emitD e0 he, Option.bind_some, x147_o, Option.bind_some, r_partD e0 he, Option.bind_some] at pre
        exact ⟨_, _, _, e, pre, hw, he, .inl ⟨e0, rfl⟩⟩
      · rw [if_neg h12, bd_some, nm_q, if_pos rfl, x147_0, Option.bind_some, x129_o, Option.bind_some, y_f1 _ e0 (by omega), Option.bind_some] at pre
        exact ⟨_, c, es, e, pre, hs, he, .inl ⟨e0, rfl⟩⟩
/-! signs -/
def fo (L : Nat) (b : Nat → Nat) : List Nat → Nat → Nat
  | [], _ => 0
  | c :: cs, k => if k < L ∧ b k = c then 0 else fo L b cs k + 1
theorem y_oneL (hX : TXc T L b) {a p k : Nat} (ha : a < 32) (K1 : Mm → Nat → Int32 → Option (Int32 × Mm)) (K2 : Mm → Option (Int32 × Mm)) : ∀ (cs : List Nat) (i f : Nat), (sByt a).drop i = cs.map nI → (∀ c ∈ cs, c < 128) → i ≤ sLen a → cs.length < f → f_X9_takeOneOf_L11 K1 K2 f (cn n sl U S (tp T p 0) σ1) 129 a (sgn L b k) (nI i) = if fo L b cs k < cs.length then K1 (cn n sl U S (tp T p 0) σ1) 129 (nI (i + fo L b cs k)) else K2 (cn n sl U S (tp T p 0) σ1) := by
  have d4 := sL_all a ha
  intro cs
  induction cs with
  | nil =>
    intro i f h1 h2 h3 h4
    obtain ⟨f, rfl⟩ : ∃ k, f = k + 1 := ⟨f - 1, by simp only [List.length_nil] at h4; omega⟩
    have hi : sLen a ≤ i := List.drop_eq_nil_iff.1 h1
    rw [f_X9_takeOneOf_L11, tL_at ha, Option.bind_some, if_pos (nI_le hi (by omega)), if_neg (by show ¬ 0 < 0; omega)]
  | cons c cs ih =>
    intro i f h1 h2 h3 h4
    rw [List.length_cons] at h4
    obtain ⟨f, rfl⟩ : ∃ k, f = k + 1 := ⟨f - 1, by omega⟩
    have h1' : (sByt a).drop i = nI c :: cs.map nI := h1
    obtain ⟨d1, d2, d3⟩ := dr_at h1'
    have hc := h2 c (List.mem_cons_self ..)
    rw [f_X9_takeOneOf_L11, tL_at ha, Option.bind_some, if_neg (nI_ge d1 (by omega)), x129_o, Option.bind_some, y_s0, bd_some, if_neg (by decide), tC_at ha h1', Option.bind_some, fo]
    by_cases h : k < L ∧ b k = c
    · rw [if_pos ((sgn_c hX (by omega)).2 h), if_pos h, if_pos (by rw [List.length_cons]; omega)]
      rfl
    · rw [if_neg (fun x => h ((sgn_c hX (by omega)).1 x)), if_neg h, nm_q, oin1, nI_add, ih (i + 1) f d3 (fun c hc => h2 c (List.mem_cons_of_mem _ hc)) (by omega) (by omega)]
      by_cases hj : fo L b cs k < cs.length
      · rw [if_pos hj, if_pos (by rw [List.length_cons]; omega), Nat.add_assoc, Nat.add_comm 1]
      · rw [if_neg hj, if_neg (by rw [List.length_cons]; omega)]
theorem y_one (hX : TXc T L b) {a p : Nat} (ha : a < 32) (hp : p ≤ L) (cs : List Nat) (h1 : sByt a = cs.map nI) (h2 : ∀ c ∈ cs, c < 128) : f_X9_takeOneOf (cn n sl U S (tp T p 0) σ1) 129 a = if fo L b cs (skp L b p) < cs.length then some (nI (fo L b cs (skp L b p)), cn n sl U S (tp T (skp L b p + 1) 0) σ1) else some (-1, cn n sl U S (tp T (skp L b p) 0) σ1) := by
  have hL := hX.1
  have hs := skp_le b hp
  have d4 := sL_all a ha
  have el : sLen a = cs.length := by unfold sLen; rw [h1, List.length_map]
  have z := y_oneL (n := n) (sl := sl) (U := U) (S := S) (σ1 := σ1) (p := skp L b p) (k := skp L b p) hX ha (fun μ19 a20 x21 =>
    ((gI μ19 a20 9 2).bind fun v22 =>
    ((pV μ19 a20 9 2 (.int (v22 + (1 : Int32)))).bind fun μ23 =>
    (some (x21, μ23))))) (fun μ24 => (some ((-1 : Int32), μ24))) cs 0 FU h1 h2 (Nat.zero_le _) (by unfold FU; omega)
  rw [show nI 0 = (0 : Int32) from rfl, Nat.zero_add] at z
  unfold f_X9_takeOneOf
  rw [x129_o, Option.bind_some, y_sk hX hp, bd_some, x129_o, Option.bind_some, y_at hX _ _ (by omega), bd_some, nm_q, nm_q, z]
  by_cases h : fo L b cs (skp L b p) < cs.length
  · rw [if_pos h, if_pos h, y_pl, Option.bind_some, lit_1, nI_add, y_pp, Option.bind_some]
  · rw [if_neg h, if_neg h]
theorem y_oneD (hX : TXc T L b) {a p e : Nat} (ha : a < 32) (hp : p ≤ L) (he : e ≠ 0) (h4 : e < 4000) : f_X9_takeOneOf (cn n sl U S (tp T p e) σ1) 129 a = some (-1, cn n sl U S (tp T (skp L b p) e) σ1) := by
  have hL := hX.1
  have hs := skp_le b hp
  have d4 := sL_all a ha
  have key : ∀ (k i f : Nat) (x : Int32), i + k = sLen a → k < f → f_X9_takeOneOf_L11 (fun μ19 a20 x21 =>
    ((gI μ19 a20 9 2).bind fun v22 =>
    ((pV μ19 a20 9 2 (.int (v22 + (1 : Int32)))).bind fun μ23 =>
    (some (x21, μ23))))) (fun μ24 => (some ((-1 : Int32), μ24))) f (cn n sl U S (tp T (skp L b p) e) σ1) 129 a x (nI i) = some (-1, cn n sl U S (tp T (skp L b p) e) σ1) := by
    intro k
    induction k with
    | zero =>
      intro i f x h1 h2
      obtain ⟨f, rfl⟩ : ∃ k, f = k + 1 := ⟨f - 1, by omega⟩
      rw [f_X9_takeOneOf_L11, tL_at ha, Option.bind_some, if_pos (nI_le (by omega) (by omega))]
    | succ k ih =>
      intro i f x h1 h2
      obtain ⟨f, rfl⟩ : ∃ k, f = k + 1 := ⟨f - 1, by omega⟩
      rw [f_X9_takeOneOf_L11, tL_at ha, Option.bind_some, if_neg (nI_ge (by omega) (by omega)), x129_o, Option.bind_some, y_s1 _ he (by omega), bd_some, if_pos rfl, nm_q, oin1, nI_add]
      exact ih (i + 1) f x (by omega) (by omega)
  unfold f_X9_takeOneOf
  rw [x129_o, Option.bind_some, y_sk hX hp, bd_some, x129_o, Option.bind_some, y_at hX _ _ (by omega), bd_some, nm_q, nm_q]
  exact key (sLen a) 0 FU _ (by omega) (by unfold FU; omega)
theorem fo_fac (k : Nat) : (rOf L b rFac k = 0 ↔ fo L b [42, 47, 37] k = 3) ∧ (rOf L b rFac k ≠ 0 → rOf L b rFac k = 13 + fo L b [42, 47, 37] k ∧ fo L b [42, 47, 37] k < 3) := by
  simp only [fo]
  unfold rOf rFac
  by_cases hk : k < L
  · rw [if_pos hk]
    by_cases h1 : b k = 42
    · rw [if_pos h1, if_pos ⟨hk, h1⟩]; omega
    · rw [if_neg h1, if_neg (show ¬ (k < L ∧ b k = 42) from fun x => h1 x.2)]
      by_cases h2 : b k = 47
      · rw [if_pos h2, if_pos ⟨hk, h2⟩]; omega
      · rw [if_neg h2, if_neg (show ¬ (k < L ∧ b k = 47) from fun x => h2 x.2)]
        by_cases h3 : b k = 37
        · rw [if_pos h3, if_pos ⟨hk, h3⟩]; omega
        · rw [if_neg h3, if_neg (show ¬ (k < L ∧ b k = 37) from fun x => h3 x.2)]; omega
  · rw [if_neg hk, if_neg (show ¬ (k < L ∧ b k = 42) from fun x => hk x.1), if_neg (show ¬ (k < L ∧ b k = 47) from fun x => hk x.1), if_neg (show ¬ (k < L ∧ b k = 37) from fun x => hk x.1)]; omega
theorem fo_ter (k : Nat) : (rOf L b rTer k = 0 ↔ fo L b [43, 45] k = 2) ∧ (rOf L b rTer k ≠ 0 → rOf L b rTer k = 2 + fo L b [43, 45] k ∧ fo L b [43, 45] k < 2) := by
  simp only [fo]
  unfold rOf rTer
  by_cases hk : k < L
  · rw [if_pos hk]
    by_cases h1 : b k = 43
    · rw [if_pos h1, if_pos ⟨hk, h1⟩]; omega
    · rw [if_neg h1, if_neg (show ¬ (k < L ∧ b k = 43) from fun x => h1 x.2)]
      by_cases h2 : b k = 45
      · rw [if_pos h2, if_pos ⟨hk, h2⟩]; omega
      · rw [if_neg h2, if_neg (show ¬ (k < L ∧ b k = 45) from fun x => h2 x.2)]; omega
  · rw [if_neg hk, if_neg (show ¬ (k < L ∧ b k = 43) from fun x => hk x.1), if_neg (show ¬ (k < L ∧ b k = 45) from fun x => hk x.1)]; omega
end CRULE
