/-! The reference's text. -/
def sp (σ : Sg) (p e : Nat) : Sg := stI (stI σ 29 (nI p)) 30 (nI e)
theorem sp1 (σ : Sg) (p e k : Nat) : (sp σ p e).1 k = if k = 30 then nI e else if k = 29 then nI p else σ.1 k := by
  unfold sp
  rw [stI1, stI1]
theorem sp_q (σ : Sg) (p e q : Nat) : stI (sp σ p e) 29 (nI q) = sp σ q e := by
  refine Prod.ext (funext fun k => ?_) rfl
  rw [stI1, sp1, sp1]
  by_cases h : k = 29
  · rw [if_pos h, if_neg (by omega), if_pos h]
  · rw [if_neg h, if_neg h, if_neg h]
theorem sp_f (σ : Sg) (p e q : Nat) : stI (sp σ p e) 30 (nI q) = sp σ p q := by
  refine Prod.ext (funext fun k => ?_) rfl
  rw [stI1, sp1, sp1]
  by_cases h : k = 30
  · rw [if_pos h, if_pos h]
  · rw [if_neg h, if_neg h, if_neg h]
theorem sp_I (σ : Sg) (p e : Nat) {k : Nat} {v : Int32} (h1 : k ≠ 29) (h2 : k ≠ 30) : stI (sp σ p e) k v = sp (stI σ k v) p e := by
  refine Prod.ext (funext fun j => ?_) rfl
  rw [stI1, sp1, sp1, stI1]
  by_cases h3 : j = k
  · rw [if_pos h3, if_neg (by omega), if_neg (by omega), if_pos h3]
  · rw [if_neg h3, if_neg h3]
theorem sp_A (σ : Sg) (p e r i : Nat) (v : Int32) : stA (sp σ p e) r i v = sp (stA σ r i v) p e := rfl
def TXs (σ : Sg) (L : Nat) (b : Nat → Nat) : Prop := L ≤ 400 ∧ σ.1 28 = nI L ∧ ∀ i, i < L → b i < 256 ∧ σ.2.1 215 i = byt (b i)
section STEXT
variable {σ : Sg} {L : Nat} {b : Nat → Nat} {ρ : Mm} {τ : Nat → va_E}
theorem z_len (hX : TXs σ L b) (p e : Nat) : gI (mem ρ τ (sp σ p e)) 188 12 28 = some (nI L) := by
  rw [mI_28, sp1, if_neg (by decide), if_neg (by decide), hX.2.1]
theorem z_pl (p e : Nat) : gI (mem ρ τ (sp σ p e)) 188 12 29 = some (nI p) := by
  rw [mI_29, sp1, if_neg (by decide), if_pos rfl]
theorem z_ft (p e : Nat) : gI (mem ρ τ (sp σ p e)) 188 12 30 = some (nI e) := by
  rw [mI_30, sp1, if_pos rfl]
theorem z_pp (p e q : Nat) : pV (mem ρ τ (sp σ p e)) 188 12 29 (.int (nI q)) = some (mem ρ τ (sp σ q e)) := by
  rw [mP_29, sp_q]
theorem z_fp (p e q : Nat) : pV (mem ρ τ (sp σ p e)) 188 12 30 (.int (nI q)) = some (mem ρ τ (sp σ p q)) := by
  rw [mP_30, sp_f]
theorem z_b (hX : TXs σ L b) (p e : Nat) {i : Nat} (hi : i < L) : aI (mem ρ τ (sp σ p e)) 215 1 (nI i) = some (byt (b i)) := by
  have := hX.1
  rw [y215_r (by omega)]
  show some (σ.2.1 215 i) = _
  rw [(hX.2.2 i hi).2]
theorem z_sg (hX : TXs σ L b) {p : Nat} (e : Nat) (hp : p < 2 ^ 31) : f_X12_sign (mem ρ τ (sp σ p e)) 188 = some (sgn L b p, mem ρ τ (sp σ p e)) := by
  have hL := hX.1
  unfold f_X12_sign
  rw [z_pl, Option.bind_some, z_len hX, Option.bind_some, sgn]
  by_cases h : p < L
  · rw [if_neg (nI_ge h (by omega)), mR_38, Option.bind_some, Option.bind_some, z_b hX p e h, Option.bind_some, if_pos h, (byt_all _ (hX.2.2 p h).1).2.2.2.1]
  · rw [if_pos (nI_le (by omega) hp), if_neg h]
theorem z_dg (hX : TXs σ L b) {p : Nat} (e : Nat) (hp : p < 2 ^ 31) : f_X12_isDigit (mem ρ τ (sp σ p e)) 188 = some (bI (tD L b p), mem ρ τ (sp σ p e)) := by
  have hL := hX.1
  have h48 : (48 : Int64).toInt = 48 := rfl
  have h57 : (57 : Int64).toInt = 57 := rfl
  have key : ((48 : Int64) ≤ (sgn L b p).toInt64 ∧ (sgn L b p).toInt64 ≤ (57 : Int64)) ↔ (p < L ∧ 48 ≤ b p ∧ b p ≤ 57) := by
    rw [i64le, i64le, i2l, h48, h57, sgn]
    by_cases h : p < L
    · have := (hX.2.2 p h).1
      rw [if_pos h, nI_toInt (by omega)]
      omega
    · rw [if_neg h, show (-1 : Int32).toInt = -1 from rfl]
      omega
  unfold f_X12_isDigit
  rw [ob_mem, Option.bind_some, z_sg hX e hp, bd_some, s_in, bd_some, tD]
  by_cases h : p < L ∧ 48 ≤ b p ∧ b p ≤ 57
  · rw [if_pos (key.2 h), decide_eq_true h, if_pos (by decide)]
    rfl
  · rw [if_neg (fun x => h (key.1 x)), decide_eq_false h, if_pos (by decide)]
    rfl
theorem z_fs0 (p i k : Nat) : f_X12_fails (mem ρ τ (sp σ p 0)) 188 (nI k) (nI i) = some (mem ρ τ (sp σ p (1 + 8 * i + k))) := by
  unfold f_X12_fails
  rw [z_ft, Option.bind_some, if_pos (show nI 0 = 0 from rfl), lit_1, lit_8, pk_mul, nI_add, nI_add, z_fp, Option.bind_some]
theorem z_fs1 (p : Nat) {e : Nat} (he : e ≠ 0) (h31 : e < 2 ^ 31) (x y : Int32) : f_X12_fails (mem ρ τ (sp σ p e)) 188 x y = some (mem ρ τ (sp σ p e)) := by
  unfold f_X12_fails
  rw [z_ft, Option.bind_some, if_neg (show ¬ nI e = 0 from fun h => he ((nI_eq (b := 0) h31 (by decide)).1 h)), Option.bind_some, z_fp, Option.bind_some]
theorem sgn_s {i c : Nat} (hX : TXs σ L b) (hc : c < 2 ^ 31) : sgn L b i = nI c ↔ (i < L ∧ b i = c) := by
  rw [sgn]
  by_cases h : i < L
  · have := (hX.2.2 i h).1
    rw [if_pos h, nI_eq (by omega) hc]
    exact ⟨fun x => ⟨h, x⟩, fun x => x.2⟩
  · rw [if_neg h]
    exact ⟨fun x => absurd x.symm (nI_nm1 hc), fun x => absurd x.1 h⟩
theorem z_blL (hX : TXs σ L b) (e : Nat) (K : Mm → Option Mm) : ∀ (k p f : Nat), L - p = k → p < 2 ^ 30 → k < f → f_X12_blanks_L0 K f (mem ρ τ (sp σ p e)) 188 = K (mem ρ τ (sp σ (skp L b p) e)) := by
  have hL := hX.1
  intro k
  induction k with
  | zero =>
    intro p f h1 h2 h3
    obtain ⟨f, rfl⟩ : ∃ k, f = k + 1 := ⟨f - 1, by omega⟩
    rw [f_X12_blanks_L0, ob_mem, Option.bind_some, z_sg hX e (by omega), bd_some, if_neg (show ¬ sgn L b p = 32 from fun h => by have := ((sgn_s (c := 32) hX (by decide)).1 h).1; omega), skp, rn_f (decide_eq_false (by omega))]
  | succ k ih =>
    intro p f h1 h2 h3
    obtain ⟨f, rfl⟩ : ∃ k, f = k + 1 := ⟨f - 1, by omega⟩
    have hp : p < L := by omega
    rw [f_X12_blanks_L0, ob_mem, Option.bind_some, z_sg hX e (by omega), bd_some]
    by_cases h : b p = 32
    · rw [if_pos (show sgn L b p = 32 from (sgn_s (c := 32) hX (by decide)).2 ⟨hp, h⟩), z_pl, Option.bind_some, lit_1, nI_add, z_pp, Option.bind_some, ih (p + 1) f (by omega) (by omega) (by omega), skp, skp, rn_t (p := p) (decide_eq_true ⟨hp, h⟩) hp]
    · rw [if_neg (show ¬ sgn L b p = 32 from fun x => h ((sgn_s (c := 32) hX (by decide)).1 x).2), skp, rn_f (decide_eq_false (fun x => h x.2))]
theorem z_bl (hX : TXs σ L b) {p : Nat} (e : Nat) (hp : p < 2 ^ 30) : f_X12_blanks (mem ρ τ (sp σ p e)) 188 = some (mem ρ τ (sp σ (skp L b p) e)) := by
  have hL := hX.1
  unfold f_X12_blanks
  rw [z_blL hX e _ (L - p) p FU rfl hp (by unfold FU; omega)]
theorem skp_31 {L p : Nat} (b : Nat → Nat) (hL : L ≤ 400) (hp : p < 2 ^ 30) : skp L b p < 2 ^ 30 := by
  by_cases h : p ≤ L
  · have := skp_le b h; omega
  · have : skp L b p = p := rn_f (decide_eq_false (fun x => by omega))
    omega
/-! words -/
theorem z_weL (hX : TXs σ L b) {a p : Nat} (e : Nat) (K : Mm → Nat → Nat → Int32 → Option (Int32 × Mm)) : ∀ (k q f : Nat), L - q = k → q < 2 ^ 30 → k < f → f_X12_stood_L5 K f (mem ρ τ (sp σ p e)) 188 a (nI q) = K (mem ρ τ (sp σ p e)) 188 a (nI (we L b q)) := by
  have hL := hX.1
  intro k
  induction k with
  | zero =>
    intro q f h1 h2 h3
    obtain ⟨f, rfl⟩ : ∃ k, f = k + 1 := ⟨f - 1, by omega⟩
    rw [f_X12_stood_L5, z_len hX, Option.bind_some, if_pos (nI_le (by omega) (by omega)), we, rn_f (decide_eq_false (by omega))]
  | succ k ih =>
    intro q f h1 h2 h3
    obtain ⟨f, rfl⟩ : ∃ k, f = k + 1 := ⟨f - 1, by omega⟩
    have hq : q < L := by omega
    have hb := byt_all _ (hX.2.2 q hq).1
    rw [f_X12_stood_L5, z_len hX, Option.bind_some, if_neg (nI_ge hq (by omega)), mR_38, Option.bind_some, z_b hX p e hq, Option.bind_some]
    by_cases h5 : byt (b q) < 97
    · have := hb.2.2.2.2.1.1 h5
      rw [if_pos h5, we, rn_f (decide_eq_false (by omega))]
    · have h5' : ¬ (b q < 97 ∨ 128 ≤ b q) := fun x => h5 (hb.2.2.2.2.1.2 x)
      rw [if_neg h5, Option.bind_some, z_b hX p e hq, Option.bind_some]
      by_cases h6 : (122 : Int32) < byt (b q)
      · have := hb.2.2.2.2.2.1 h6
        rw [if_pos h6, we, rn_f (decide_eq_false (by omega))]
      · have h6' : ¬ (122 < b q ∧ b q < 128) := fun x => h6 (hb.2.2.2.2.2.2 x)
        rw [if_neg h6, nm_q, oin1, nI_add, ih (q + 1) f (by omega) (by omega) (by omega), we, we, rn_t (p := q) (decide_eq_true (by omega)) hq]
theorem z_stL (hX : TXs σ L b) {a p e : Nat} (ha : a < 32) (K : Mm → Int32 → Option (Int32 × Mm)) : ∀ (w : List Nat) (i f : Nat) (s : Bool), (sByt a).drop i = w.map nI → (∀ c ∈ w, c < 128) → i ≤ sLen a → w.length < f → p + i + w.length ≤ L → f_X12_stood_L63 K f (mem ρ τ (sp σ p e)) 188 a (bI s) (nI i) = K (mem ρ τ (sp σ p e)) (bI (s && mwd L b w (p + i))) := by
  have hL := hX.1
  intro w
  induction w with
  | nil =>
    intro i f s h1 h2 h3 h4 h5
    obtain ⟨f, rfl⟩ : ∃ k, f = k + 1 := ⟨f - 1, by simp only [List.length_nil] at h4; omega⟩
    have hi : sLen a ≤ i := List.drop_eq_nil_iff.1 h1
    have d4 := sL_all a ha
    rw [f_X12_stood_L63, tL_at ha, Option.bind_some, if_pos (nI_le hi (by omega)), mwd, Bool.and_true]
  | cons c w ih =>
    intro i f s h1 h2 h3 h4 h5
    rw [List.length_cons] at h4 h5
    obtain ⟨f, rfl⟩ : ∃ k, f = k + 1 := ⟨f - 1, by omega⟩
    have h1' : (sByt a).drop i = nI c :: w.map nI := h1
    obtain ⟨d1, d2, d3⟩ := dr_at h1'
    have d4 := sL_all a ha
    have hc := h2 c (List.mem_cons_self ..)
    have hq : p + i < L := by omega
    have hb := (hX.2.2 _ hq).1
    have z := fun s' => ih (i + 1) f s' d3 (fun c hc => h2 c (List.mem_cons_of_mem _ hc)) (by omega) (by omega) (by omega)
    have eq : byt (b (p + i)) = nI c ↔ b (p + i) = c := by
      constructor
      · intro h
        by_cases h8 : b (p + i) < 128
        · rw [byt_lo _ h8] at h
          exact (nI_eq (by omega) (by omega)).1 h
        · have := byt_hi _ hb (by omega)
          rw [h] at this
          exact absurd this (nI_nlt (Nat.zero_le _) (by omega))
      · intro h
        rw [h, byt_lo _ hc]
    rw [f_X12_stood_L63, tL_at ha, Option.bind_some, if_neg (nI_ge d1 (by omega)), mwd]
    cases s with
    | false => rw [if_pos (show bI false = 0 from rfl), Bool.false_and]
    | true =>
      rw [if_neg (show ¬ bI true = 0 by decide), mR_38, Option.bind_some, z_pl, Option.bind_some, nI_add, z_b hX p e hq, Option.bind_some, tC_at ha h1', Option.bind_some, Bool.true_and]
      by_cases h : b (p + i) = c
      · have y := z true
        rw [Bool.true_and, show bI true = 1 from rfl, ← Nat.add_assoc] at y
        rw [if_pos (eq.2 h), nm_q, nm_q, oin1, nI_add, decide_eq_true ⟨hq, h⟩, Bool.true_and]
        exact y
      · have y := z false
        rw [Bool.false_and, show bI false = 0 from rfl] at y
        rw [if_neg (fun x => h (eq.1 x)), nm_q, nm_q, oin1, nI_add, decide_eq_false (fun x => h x.2), Bool.false_and]
        exact y
theorem z_st (hX : TXs σ L b) {a p : Nat} (e : Nat) (w : List Nat) (ha : a < 32) (hp : p < 2 ^ 30) (h1 : sByt a = w.map nI) (h2 : ∀ c ∈ w, c < 128) (hw : 0 < w.length) : f_X12_stood (mem ρ τ (sp σ p e)) 188 a = some (bI (isWd L b w p), mem ρ τ (sp σ p e)) := by
  have hL := hX.1
  have d4 := sL_all a ha
  have el : sLen a = w.length := by unfold sLen; rw [h1, List.length_map]
  have gw : p ≤ we L b p := rn_ge _ _ rfl
  have wle : we L b p < 2 ^ 30 := by
    by_cases h : p ≤ L
    · have := we_le b h; omega
    · have : we L b p = p := rn_f (decide_eq_false (fun x => by omega))
      omega
  unfold f_X12_stood
  rw [z_pl, Option.bind_some, nm_q, z_weL hX e _ (L - p) p FU rfl hp (by unfold FU; omega), z_pl, Option.bind_some, tL_at ha, Option.bind_some, nI_sub gw, el, isWd]
  by_cases h : we L b p = p + w.length
  · have z := z_stL (ρ := ρ) (τ := τ) (p := p) (e := e) hX ha (fun μ35 x36 =>
      (if x36 = 0 ∨ x36 = 1 then some (x36, μ35) else none)) w 0 FU true h1 h2 (Nat.zero_le _) (by unfold FU; omega) (by
        by_cases h' : p ≤ L
        · have := we_le b h'; omega
        · have : we L b p = p := rn_f (decide_eq_false (fun x => by omega))
          exfalso
          omega)
    rw [show nI 0 = (0 : Int32) from rfl, show bI true = 1 from rfl, Bool.true_and, Nat.add_zero] at z
    rw [if_pos (show nI (we L b p - p) = nI w.length by rw [h, Nat.add_sub_cancel_left]), nm_q, nm_q, z, decide_eq_true h, Bool.true_and]
    cases mwd L b w p
    · rw [if_pos (.inl rfl)]
    · rw [if_pos (.inr rfl)]
  · rw [if_neg (fun x => h (by have := (nI_eq (by omega) (by omega)).1 x; omega)), nm_q, nm_q, decide_eq_false h, Bool.false_and]
    obtain ⟨f', hf'⟩ : ∃ k, FU = k + 1 := ⟨FU - 1, by unfold FU; omega⟩
    rw [hf', f_X12_stood_L63, tL_at ha, Option.bind_some]
    by_cases h0 : nI (sLen a) ≤ 0
    · rw [if_pos h0, if_pos (.inl rfl)]; rfl
    · rw [if_neg h0, if_pos rfl, if_pos (.inl rfl)]; rfl
end STEXT
