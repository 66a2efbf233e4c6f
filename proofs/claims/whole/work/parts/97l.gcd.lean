/-! Longs as numbers; the common divisor. -/
def lG (k : Nat) : Int64 := Int64.ofNat k
theorem lG_t {k : Nat} (h : k < 2 ^ 63) : (lG k).toInt = (k : Int) := Int64.toInt_ofNat_of_lt h
theorem lG_add (a b : Nat) : lG a + lG b = lG (a + b) := (Int64.ofNat_add a b).symm
theorem lG_mul (a b : Nat) : lG a * lG b = lG (a * b) := (Int64.ofNat_mul a b).symm
theorem lG_eq {a b : Nat} (ha : a < 2 ^ 63) (hb : b < 2 ^ 63) : lG a = lG b ↔ a = b := by
  constructor
  · intro h
    have := congrArg Int64.toInt h
    rw [lG_t ha, lG_t hb] at this
    omega
  · intro h; rw [h]
theorem lG_0 {a : Nat} (ha : a < 2 ^ 63) : lG a = 0 ↔ a = 0 := lG_eq (b := 0) ha (by decide)
theorem lG_div {a b : Nat} (ha : a < 2 ^ 63) (hb : b < 2 ^ 63) : lG a / lG b = lG (a / b) := by
  have h : a / b ≤ a := Nat.div_le_self a b
  refine Int64.toInt_inj.1 ?_
  rw [Int64.toInt_div, lG_t ha, lG_t hb, lG_t (by omega), ← Int.ofNat_tdiv]
  generalize a / b = c at *
  rw [Int.bmod_eq_of_le (by omega) (by omega)]
theorem lG_i {k : Nat} (h : k < 2 ^ 31) : (nI k).toInt64 = lG k := by
  refine Int64.toInt_inj.1 ?_
  rw [i2l, lG_t (by omega), nI_toInt h]
theorem lG_rm {a b : Nat} (ha : a < 2 ^ 63) (hb : b < 2 ^ 63) : lG a - lG a / lG b * lG b = lG (a % b) := by
  have e : a = a % b + a / b * b := by
    have := Nat.div_add_mod a b
    rw [Nat.mul_comm] at this
    omega
  rw [lG_div ha hb, lG_mul]
  have h2 : lG a = lG (a % b) + lG (a / b * b) := by rw [lG_add, ← e]
  rw [h2, Int64.add_sub_cancel]
theorem rm_q {α : Type} {a b : Nat} {F : Int64 → Option α} (ha : a < 2 ^ 63) (hb : b < 2 ^ 63) (h : b ≠ 0) : rmL (lG a) (lG b) F = F (lG (a % b)) := by
  unfold rmL
  rw [if_neg (fun e => h ((lG_0 hb).1 e)), lG_rm ha hb]
theorem dv_q {α : Type} {a b : Nat} {F : Int64 → Option α} (ha : a < 2 ^ 63) (hb : b < 2 ^ 63) (h : b ≠ 0) : dvL (lG a) (lG b) F = F (lG (a / b)) := by
  unfold dvL
  rw [if_neg (fun e => h ((lG_0 hb).1 e)), lG_div ha hb]
theorem lG_1 {g : Nat} (hg : g < 2 ^ 63) (h : 1 ≤ g) : 0 ≤ lg_cmp (lG g) (1 : Int64) := by
  have := lgc_lt (lG g) 1
  have h1 : ¬ lG g < 1 := by
    rw [i64lt, lG_t hg]
    have : (1 : Int64).toInt = 1 := rfl
    omega
  have h2 : ¬ lg_cmp (lG g) 1 < 0 := fun e => h1 (this.1 e)
  rw [i32lt] at h2
  rw [i32le]
  omega
theorem half {b r : Nat} (hr : 0 < r) (h : r < b) : 2 * (b % r) < b := by
  have h1 := Nat.mod_lt b hr
  have h2 := Nat.div_add_mod b r
  have h3 : 1 ≤ b / r := (Nat.le_div_iff_mul_le hr).2 (by omega)
  have h4 : r * 1 ≤ r * (b / r) := Nat.mul_le_mul (Nat.le_refl _) h3
  omega
theorem gcd_st (a b : Nat) : Nat.gcd b (a % b) = Nat.gcd a b := by
  rw [Nat.gcd_comm a b, Nat.gcd_rec b a, Nat.gcd_comm]
theorem s_divL (K : Mm → Int64 → Option (Int64 × Mm)) (μ : Mm) : ∀ (j f a b : Nat), a < 2 ^ 63 → b < 2 ^ 63 → b < 2 ^ j → 2 * j + 1 < f → f_X12_divisor_L6 K f μ (lG a) (lG b) = K μ (lG (Nat.gcd a b)) := by
  intro j
  induction j with
  | zero =>
    intro f a b ha hb h1 h2
    obtain ⟨f, rfl⟩ : ∃ k, f = k + 1 := ⟨f - 1, by omega⟩
    obtain rfl : b = 0 := by omega
    rw [f_X12_divisor_L6, if_pos (by rw [lg_eq0]; rfl), Nat.gcd_zero_right]
  | succ j ih =>
    intro f a b ha hb h1 h2
    obtain ⟨f, rfl⟩ : ∃ k, f = k + 2 := ⟨f - 2, by omega⟩
    have z0 : ∀ {x : Nat}, x < 2 ^ 63 → ((lg_cmp (lG x) (0 : Int64)) = 0 ↔ x = 0) := fun hx => by rw [lg_eq0]; exact lG_0 hx
    rw [f_X12_divisor_L6]
    by_cases b0 : b = 0
    · rw [if_pos ((z0 hb).2 b0), b0, Nat.gcd_zero_right]
    · have hm := Nat.mod_lt a (show 0 < b by omega)
      rw [if_neg (fun h => b0 ((z0 hb).1 h)), rm_q ha hb b0, nm_q, nm_q, nm_q, f_X12_divisor_L6, ← gcd_st a b]
      by_cases r0 : a % b = 0
      · rw [if_pos ((z0 (by omega)).2 r0), r0, Nat.gcd_zero_right]
      · have hh := half (show 0 < a % b by omega) hm
        have hm2 := Nat.mod_lt b (show 0 < a % b by omega)
        rw [if_neg (fun h => r0 ((z0 (by omega)).1 h)), rm_q hb (by omega) r0, nm_q, nm_q, nm_q, ← gcd_st b (a % b)]
        exact ih f (a % b) (b % (a % b)) (by omega) (by omega) (by rw [Nat.pow_succ] at h1; omega) (by omega)
theorem c_divL (K : Mm → Int64 → Option (Int64 × Mm)) (μ : Mm) : ∀ (j i f a b : Nat), a < 2 ^ 63 → b < 2 ^ 63 → b < 2 ^ j → 2 * j + 1 < f → i + 2 * j < 399 → f_X8_commonDivisor_L9 K f μ (lG a) (lG b) (nI i) = K μ (lG (Nat.gcd a b)) := by
  intro j
  induction j with
  | zero =>
    intro i f a b ha hb h1 h2 h3
    obtain ⟨f, rfl⟩ : ∃ k, f = k + 1 := ⟨f - 1, by omega⟩
    obtain rfl : b = 0 := by omega
    rw [f_X8_commonDivisor_L9, if_neg (show ¬ (400 : Int32) ≤ nI i from nI_ge (b := 400) (by omega) (by decide)), if_pos (by rw [lg_eq0]; rfl), Nat.gcd_zero_right]
  | succ j ih =>
    intro i f a b ha hb h1 h2 h3
    obtain ⟨f, rfl⟩ : ∃ k, f = k + 2 := ⟨f - 2, by omega⟩
    have z0 : ∀ {x : Nat}, x < 2 ^ 63 → ((lg_cmp (lG x) (0 : Int64)) = 0 ↔ x = 0) := fun hx => by rw [lg_eq0]; exact lG_0 hx
    rw [f_X8_commonDivisor_L9, if_neg (show ¬ (400 : Int32) ≤ nI i from nI_ge (b := 400) (by omega) (by decide))]
    by_cases b0 : b = 0
    · rw [if_pos ((z0 hb).2 b0), b0, Nat.gcd_zero_right]
    · have hm := Nat.mod_lt a (show 0 < b by omega)
      rw [if_neg (fun h => b0 ((z0 hb).1 h)), rm_q ha hb b0, nm_q, nm_q, nm_q, nm_q, oin1, nI_add, f_X8_commonDivisor_L9, if_neg (show ¬ (400 : Int32) ≤ nI (i + 1) from nI_ge (b := 400) (by omega) (by decide)), ← gcd_st a b]
      by_cases r0 : a % b = 0
      · rw [if_pos ((z0 (by omega)).2 r0), r0, Nat.gcd_zero_right]
      · have hh := half (show 0 < a % b by omega) hm
        have hm2 := Nat.mod_lt b (show 0 < a % b by omega)
        rw [if_neg (fun h => r0 ((z0 (by omega)).1 h)), rm_q hb (by omega) r0, nm_q, nm_q, nm_q, nm_q, oin1, nI_add, ← gcd_st b (a % b)]
        exact ih (i + 1 + 1) f (a % b) (b % (a % b)) (by omega) (by omega) (by rw [Nat.pow_succ] at h1; omega) (by omega) (by omega)
theorem s_div {a b : Nat} (ha : a < 2 ^ 63) (hb : b < 2 ^ 63) (μ : Mm) : f_X12_divisor μ (lG a) (lG b) = some (lG (Nat.gcd a b), μ) := by
  unfold f_X12_divisor
  rw [nm_q, nm_q, s_divL _ μ 63 FU a b ha hb hb (by unfold FU; omega)]
theorem c_div {a b : Nat} (ha : a < 2 ^ 63) (hb : b < 2 ^ 63) (μ : Mm) : f_X8_commonDivisor μ (lG a) (lG b) = some (lG (Nat.gcd a b), μ) := by
  unfold f_X8_commonDivisor
  have z := c_divL (fun μ14 w15 => (some (w15, μ14))) μ 63 0 FU a b ha hb hb (by unfold FU; omega) (by decide)
  rw [show nI 0 = (0 : Int32) from rfl] at z
  rw [nm_q, nm_q, nm_q, z]
theorem c_12L (K : Mm → Int64 → Option (Int64 × Mm)) (μ : Mm) {p : Nat} (hp : p < 2 ^ 31) : ∀ (k i f : Nat), i + k = p → k < f → f_X8_twelveTo_L4 K f μ (nI p) (lG (12 ^ i)) (nI i) = K μ (lG (12 ^ p)) := by
  intro k
  induction k with
  | zero =>
    intro i f h1 h2
    obtain ⟨f, rfl⟩ : ∃ k, f = k + 1 := ⟨f - 1, by omega⟩
    obtain rfl : i = p := by omega
    rw [f_X8_twelveTo_L4, if_pos (nI_le (Nat.le_refl _) hp)]
  | succ k ih =>
    intro i f h1 h2
    obtain ⟨f, rfl⟩ : ∃ k, f = k + 1 := ⟨f - 1, by omega⟩
    rw [f_X8_twelveTo_L4, if_neg (nI_ge (by omega) (by omega)), nm_q, nm_q, oin1, nI_add, show (12 : Int64) = lG 12 from rfl, lG_mul, ← Nat.pow_succ]
    exact ih (i + 1) f (by omega) (by omega)
theorem c_12 (μ : Mm) {p : Nat} (hp : p ≤ 9) : f_X8_twelveTo μ (nI p) = some (lG (12 ^ p), μ) := by
  have z := c_12L (fun μ9 w10 => (some (w10, μ9))) μ (show p < 2 ^ 31 by omega) p 0 FU (by omega) (by unfold FU; omega)
  rw [show nI 0 = (0 : Int32) from rfl, show lG (12 ^ 0) = (1 : Int64) from rfl] at z
  unfold f_X8_twelveTo
  rw [nm_q, nm_q, z]
