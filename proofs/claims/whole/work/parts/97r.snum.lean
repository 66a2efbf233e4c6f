/-! The reference's numbers; whether the text goes on. -/
section SNUM
variable {σ : Sg} {L : Nat} {b : Nat → Nat}
theorem z_nuL (hX : TXs σ L b) (e s : Nat) (x : Int32) (K : Mm → Nat → Int32 → Int32 → Int32 → Option (Int32 × Mm)) (ρ : Mm) (τ : Nat → va_E) : ∀ (k p f : Nat), L - p = k → s ≤ p → p ≤ L → k < f → (∀ i, s ≤ i → i < p → tD L b i = true) → f_X12_digits_L25 K f (mem ρ τ (sp σ p e)) 188 x (nI s) (nI (nv b s (min 5 (p - s)))) = K (mem ρ τ (sp σ (de L b p) e)) 188 x (nI s) (nI (nv b s (min 5 (de L b p - s)))) := by
  have hL := hX.1
  intro k
  induction k with
  | zero =>
    intro p f h1 h2 h3 h4 hd
    obtain ⟨f, rfl⟩ : ∃ k, f = k + 1 := ⟨f - 1, by omega⟩
    have hD : tD L b p = false := decide_eq_false (by omega)
    rw [f_X12_digits_L25, ob_mem, Option.bind_some, z_dg hX e (by omega), bd_some, hD, if_pos (show bI false = 0 from rfl), de, rn_f hD]
  | succ k ih =>
    intro p f h1 h2 h3 h4 hd
    obtain ⟨f, rfl⟩ : ∃ k, f = k + 1 := ⟨f - 1, by omega⟩
    have hp : p < L := by omega
    rw [f_X12_digits_L25, ob_mem, Option.bind_some, z_dg hX e (by omega), bd_some]
    cases hD : tD L b p with
    | false => rw [if_pos (show bI false = 0 from rfl), de, rn_f hD]
    | true =>
      have hb := of_decide_eq_true hD
      have z := ih (p + 1) f (by omega) (by omega) (by omega) (by omega) (fun i h5 h6 => by
        by_cases h7 : i = p
        · rw [h7]; exact hD
        · exact hd i h5 (by omega))
      rw [de, rn_t (p := p) hD hp, if_neg (show ¬ bI true = 0 by decide), z_pl, Option.bind_some, nI_sub h2]
      by_cases h5 : 5 ≤ p - s
      · rw [show min 5 (p + 1 - s) = min 5 (p - s) by omega] at z
        rw [if_pos (show (5 : Int32) ≤ nI (p - s) from nI_le (a := 5) h5 (by omega)), nm_q, Option.bind_some, lit_1, nI_add, z_pp, Option.bind_some]
        exact z
      · rw [show min 5 (p + 1 - s) = (p - s) + 1 by omega, nv, show s + (p - s) = p by omega] at z
        have e1 : (10 : Int32) * nI (nv b s (min 5 (p - s))) + nI (b p) - 48 = nI (10 * nv b s (p - s) + (b p - 48)) := by
          rw [show min 5 (p - s) = p - s by omega, lit_10, lit_48, pk_mul, nI_add, nI_sub (by omega)]
          congr 1
          omega
        rw [if_neg (show ¬ (5 : Int32) ≤ nI (p - s) from nI_ge (b := 5) (by omega) (by decide)), ob_mem, Option.bind_some, z_sg hX e (by omega), bd_some, sgn, if_pos hp, nm_q, e1, z_pl, Option.bind_some, lit_1, nI_add, z_pp, Option.bind_some]
        exact z
theorem z_dgs (hX : TXs σ L b) {p : Nat} (hp : p ≤ L) (ρ : Mm) (τ : Nat → va_E) : f_X12_digits (mem ρ τ (sp σ p 0)) 188 99999 = if tD L b p = true then some (nI (nv b p (min 5 (de L b p - p))), mem ρ τ (sp σ (de L b p) (if 5 < de L b p - p then 1 + 8 * p + 1 else 0))) else some (0, mem ρ τ (sp σ p (1 + 8 * p + 0))) := by
  have hL := hX.1
  have hd := de_le b hp
  have ge : p ≤ de L b p := rn_ge _ _ rfl
  have hn := nv_5 L b p
  unfold f_X12_digits
  rw [ob_mem, Option.bind_some, z_dg hX 0 (by omega), bd_some]
  cases hD : tD L b p with
  | false => rw [if_pos (show bI false = 0 from rfl), z_pl, Option.bind_some, ob_mem, Option.bind_some, lit_0, z_fs0, Option.bind_some, if_neg (by decide)]
  | true =>
    have z := z_nuL hX 0 p 99999 (fun μ25 a26 x27 x28 x29 =>
    ((gI μ25 a26 12 29).bind fun v30 =>
    (if (5 : Int32) < (v30 - x28) then
    ((ob μ25 a26 12).bind fun _ =>
    ((f_X12_fails μ25 a26 (1 : Int32) x28).bind fun μ31 =>
    (some (x29, μ31))))
    else
    (if x29 ≤ x27 then
    (some (x29, μ25))
    else
    ((ob μ25 a26 12).bind fun _ =>
    ((f_X12_fails μ25 a26 (1 : Int32) x28).bind fun μ32 =>
    (some (x29, μ32)))))))) ρ τ (L - p) p FU rfl (Nat.le_refl _) hp (by unfold FU; omega) (fun i h1 h2 => by omega)
    rw [Nat.sub_self, Nat.min_zero, show nI (nv b p 0) = (0 : Int32) from rfl] at z
    rw [if_neg (show ¬ bI true = 0 by decide), z_pl, Option.bind_some, nm_q, nm_q, z, z_pl, Option.bind_some, nI_sub ge, if_pos rfl]
    generalize nv b p (min 5 (de L b p - p)) = v at *
    by_cases h5 : 5 < de L b p - p
    · rw [if_pos (show (5 : Int32) < nI (de L b p - p) from nI_lt (a := 5) h5 (by omega)), if_pos h5, ob_mem, Option.bind_some, lit_1, z_fs0, Option.bind_some]
    · rw [if_neg (show ¬ (5 : Int32) < nI (de L b p - p) from nI_nlt (a := 5) (Nat.le_of_not_lt h5) (by decide)), if_neg h5, if_pos (show nI v ≤ 99999 from nI_le (b := 99999) (Nat.le_of_lt_succ hn) (by decide))]
theorem z_amt (hX : TXs σ L b) {p lo hb : Nat} (hp : p ≤ L) (hlo : lo < 2 ^ 31) (hhb : hb < 2 ^ 31) : match amt L b p lo hb with
    | .inr (v, q) => ∀ ρ τ, f_X12_amount (mem ρ τ (sp σ p 0)) 188 (nI lo) (nI hb - 1) = some (nI v, mem ρ τ (sp σ q 0))
    | .inl e => ∃ v q, q ≤ L ∧ v < 100000 ∧ e ≠ 0 ∧ e < 4000 ∧ ∀ ρ τ, f_X12_amount (mem ρ τ (sp σ p 0)) 188 (nI lo) (nI hb - 1) = some (nI v, mem ρ τ (sp σ q e)) := by
  have hL := hX.1
  have hs := skp_le b hp
  have hd := de_le b hs
  have hn := nv_5 L b (skp L b p)
  have hbd : ∀ v, v < 100000 → (((nI lo).toInt64 ≤ (nI v).toInt64 ∧ (nI v).toInt64 ≤ (nI hb - 1).toInt64) ↔ (lo ≤ v ∧ v < hb)) := by
    intro v hv
    rw [i64le, i64le, i2l, i2l, i2l, nI_toInt hlo, nI_toInt (show v < 2 ^ 31 by omega)]
    have : (nI hb - 1).toInt = (hb : Int) - 1 := by
      rw [Int32.toInt_sub, nI_toInt hhb, show (1 : Int32).toInt = 1 from rfl, Int.bmod_eq_of_le (by omega) (by omega)]
    rw [this]
    omega
  have start : ∀ ρ τ, f_X12_amount (mem ρ τ (sp σ p 0)) 188 (nI lo) (nI hb - 1) = bd (f_X12_digits (mem ρ τ (sp σ (skp L b p) 0)) 188 (99999 : Int32)) fun v9 μ8 =>
    (nm v9 fun x10 =>
    ((gI μ8 188 12 30).bind fun v11 =>
    (if v11 = 0 then
    (bd (f_X12_in μ8 (x10).toInt64 (nI lo).toInt64 (nI hb - 1).toInt64) fun v13 μ12 =>
    (if v13 = 0 then
    ((ob μ12 188 12).bind fun _ =>
    ((f_X12_fails μ12 188 (1 : Int32) (nI (skp L b p))).bind fun μ14 =>
    (some (x10, μ14))))
    else
    (some (x10, μ12))))
    else
    (some (x10, μ8))))) := by
    intro ρ τ
    unfold f_X12_amount
    rw [ob_mem, Option.bind_some, z_bl hX 0 (by omega), Option.bind_some, z_pl, Option.bind_some, nm_q, z_ft, Option.bind_some, if_pos (show nI 0 = 0 from rfl), ob_mem, Option.bind_some]
  unfold amt
  cases hD : tD L b (skp L b p) with
  | false =>
    rw [if_neg (by decide)]
    refine ⟨0, skp L b p, hs, by omega, by omega, by omega, fun ρ τ => ?_⟩
    rw [start, z_dgs hX hs, hD, if_neg (by decide), bd_some, nm_q, z_ft, Option.bind_some, if_neg (show ¬ nI (1 + 8 * skp L b p + 0) = 0 from fun h => by have := (nI_eq (b := 0) (by omega) (by decide)).1 h; omega)]
    rfl
  | true =>
    rw [if_pos rfl]
    have dg := fun ρ τ => z_dgs (ρ := ρ) (τ := τ) hX hs
    simp only [hD, if_true] at dg
    generalize nv b (skp L b p) (min 5 (de L b (skp L b p) - skp L b p)) = v at *
    by_cases h5 : 5 < de L b (skp L b p) - skp L b p
    · rw [if_pos (.inl h5)]
      refine ⟨v, de L b (skp L b p), hd, hn, by omega, by omega, fun ρ τ => ?_⟩
      rw [start, dg, if_pos h5, bd_some, nm_q, z_ft, Option.bind_some, if_neg (show ¬ nI (1 + 8 * skp L b p + 1) = 0 from fun h => by have := (nI_eq (b := 0) (by omega) (by decide)).1 h; omega)]
    · by_cases h6 : lo ≤ v ∧ v < hb
      · rw [if_neg (by omega)]
        intro ρ τ
        rw [start, dg, if_neg h5, bd_some, nm_q, z_ft, Option.bind_some, if_pos (show nI 0 = 0 from rfl), s_in, bd_some, if_pos ((hbd v hn).2 h6), if_neg (by decide)]
      · rw [if_pos (by omega)]
        refine ⟨v, de L b (skp L b p), hd, hn, by omega, by omega, fun ρ τ => ?_⟩
        rw [start, dg, if_neg h5, bd_some, nm_q, z_ft, Option.bind_some, if_pos (show nI 0 = 0 from rfl), s_in, bd_some, if_neg (fun x => h6 ((hbd v hn).1 x)), if_pos rfl, ob_mem, Option.bind_some, lit_1, z_fs0, Option.bind_some]
theorem z_amD (hX : TXs σ L b) {p e : Nat} (hp : p < 2 ^ 30) (he : e ≠ 0) (h31 : e < 2 ^ 31) (x y : Int32) (ρ : Mm) (τ : Nat → va_E) : f_X12_amount (mem ρ τ (sp σ p e)) 188 x y = some (0, mem ρ τ (sp σ (skp L b p) e)) := by
  have ne : ¬ nI e = 0 := fun h => he ((nI_eq (b := 0) h31 (by decide)).1 h)
  unfold f_X12_amount
  rw [ob_mem, Option.bind_some, z_bl hX e hp, Option.bind_some, z_pl, Option.bind_some, nm_q, z_ft, Option.bind_some, if_neg ne, nm_q, Option.bind_some, if_neg ne]
theorem z_go (hX : TXs σ L b) {p : Nat} (hp : p ≤ L) (ρ : Mm) (τ : Nat → va_E) : f_X12_goesOn (mem ρ τ (sp σ p 0)) 188 = if skp L b p < L then (if b (skp L b p) = 59 then some (1, mem ρ τ (sp σ (skp L b p + 1) 0)) else some (0, mem ρ τ (sp σ (skp L b p + 1) (1 + 8 * skp L b p + 0)))) else some (0, mem ρ τ (sp σ (skp L b p + 1) 0)) := by
  have hL := hX.1
  have hs := skp_le b hp
  unfold f_X12_goesOn
  rw [ob_mem, Option.bind_some, z_bl hX 0 (by omega), Option.bind_some, z_ft, Option.bind_some, if_pos (show nI 0 = 0 from rfl), z_pl, Option.bind_some, z_len hX, Option.bind_some]
  by_cases h : skp L b p < L
  · have hb := (hX.2.2 _ h).1
    rw [if_neg (nI_ge h (by omega)), ob_mem, Option.bind_some, z_sg hX 0 (by omega), bd_some, if_pos h]
    by_cases h9 : b (skp L b p) = 59
    · rw [if_pos (show sgn L b (skp L b p) = 59 from (sgn_s (c := 59) hX (by decide)).2 ⟨h, h9⟩), z_ft, Option.bind_some, if_pos (show nI 0 = 0 from rfl), z_pl, Option.bind_some, z_len hX, Option.bind_some, if_neg (nI_ge h (by omega)), nm_q, Option.bind_some, lit_1, nI_add, z_pp, Option.bind_some, if_pos (by decide), if_pos h9]
    · rw [if_neg (show ¬ sgn L b (skp L b p) = 59 from fun x => h9 ((sgn_s (c := 59) hX (by decide)).1 x).2), z_pl, Option.bind_some, ob_mem, Option.bind_some, lit_0, z_fs0, Option.bind_some, z_ft, Option.bind_some, if_neg (show ¬ nI (1 + 8 * skp L b p + 0) = nI 0 from fun h => by have := (nI_eq (b := 0) (by omega) (by decide)).1 h; omega), nm_q, z_pl, Option.bind_some, lit_1, nI_add, z_pp, Option.bind_some, if_pos (by decide), if_neg h9]
  · rw [if_pos (nI_le (by omega) (by omega)), Option.bind_some, if_pos (show nI 0 = 0 from rfl), Option.bind_some, Option.bind_some, if_pos (nI_le (by omega) (by omega)), nm_q, Option.bind_some, lit_1, nI_add, z_pp, Option.bind_some, if_pos (by decide), if_neg h]
theorem z_goD (hX : TXs σ L b) {p e : Nat} (hp : p < 2 ^ 30) (he : e ≠ 0) (h31 : e < 2 ^ 31) (ρ : Mm) (τ : Nat → va_E) : f_X12_goesOn (mem ρ τ (sp σ p e)) 188 = some (0, mem ρ τ (sp σ (skp L b p + 1) e)) := by
  have ne : ¬ nI e = 0 := fun h => he ((nI_eq (b := 0) h31 (by decide)).1 h)
  unfold f_X12_goesOn
  rw [ob_mem, Option.bind_some, z_bl hX e hp, Option.bind_some, z_ft, Option.bind_some, if_neg ne, Option.bind_some, if_neg ne, nm_q, z_pl, Option.bind_some, lit_1, nI_add, z_pp, Option.bind_some, if_pos (by decide)]
end SNUM
