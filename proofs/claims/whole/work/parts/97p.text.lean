/-! Texts: blanks, words, numbers; the class's tape. -/
def run (P : Nat → Bool) : Nat → Nat → Nat
  | 0, p => p
  | k + 1, p => if P p = true then run P k (p + 1) else p
def rn (L : Nat) (P : Nat → Bool) (p : Nat) : Nat := run P (L - p) p
theorem rn_t {L : Nat} {P : Nat → Bool} {p : Nat} (h : P p = true) (hp : p < L) : rn L P p = rn L P (p + 1) := by
  unfold rn
  obtain ⟨k, hk⟩ : ∃ k, L - p = k + 1 := ⟨L - p - 1, by omega⟩
  rw [hk, show L - (p + 1) = k by omega, run, if_pos h]
theorem rn_f {L : Nat} {P : Nat → Bool} {p : Nat} (h : P p = false) : rn L P p = p := by
  unfold rn
  cases L - p with
  | zero => rfl
  | succ k => rw [run, if_neg (by rw [h]; decide)]
theorem rn_ge {L : Nat} {P : Nat → Bool} : ∀ (k p : Nat), L - p = k → p ≤ rn L P p
  | 0, p, h => by unfold rn; rw [h]; exact Nat.le_refl _
  | k + 1, p, h => by
    cases e : P p with
    | false => rw [rn_f e]; exact Nat.le_refl _
    | true =>
      have := rn_ge (L := L) (P := P) k (p + 1) (by omega)
      rw [rn_t e (by omega)]
      omega
theorem rn_L {L : Nat} {P : Nat → Bool} : ∀ (k p : Nat), L - p = k → p ≤ L → rn L P p ≤ L
  | 0, p, h, hp => by unfold rn; rw [h]; exact hp
  | k + 1, p, h, hp => by
    cases e : P p with
    | false => rw [rn_f e]; exact hp
    | true =>
      have := rn_L (L := L) (P := P) k (p + 1) (by omega) (by omega)
      rw [rn_t e (by omega)]
      omega
theorem rn_st {L : Nat} {P : Nat → Bool} (hP : ∀ i, P i = true → i < L) : ∀ (k p : Nat), L - p = k → P (rn L P p) = false
  | 0, p, h => by
    cases e : P p with
    | false => rw [rn_f e]; exact e
    | true => have := hP p e; omega
  | k + 1, p, h => by
    cases e : P p with
    | false => rw [rn_f e]; exact e
    | true =>
      rw [rn_t e (by omega)]
      exact rn_st hP k (p + 1) (by omega)
theorem rn_in {L : Nat} {P : Nat → Bool} {i : Nat} : ∀ (k p : Nat), L - p = k → p ≤ i → i < rn L P p → P i = true
  | 0, p, h, h1, h2 => by unfold rn at h2; rw [h] at h2; simp only [run] at h2; omega
  | k + 1, p, h, h1, h2 => by
    cases e : P p with
    | false => rw [rn_f e] at h2; omega
    | true =>
      rw [rn_t e (by omega)] at h2
      by_cases e2 : p = i
      · rw [← e2]; exact e
      · exact rn_in k (p + 1) (by omega) (by omega) h2
def tB (L : Nat) (b : Nat → Nat) (i : Nat) : Bool := decide (i < L ∧ b i = 32)
def tD (L : Nat) (b : Nat → Nat) (i : Nat) : Bool := decide (i < L ∧ 48 ≤ b i ∧ b i ≤ 57)
def tW (L : Nat) (b : Nat → Nat) (i : Nat) : Bool := decide (i < L ∧ 97 ≤ b i ∧ b i ≤ 122)
abbrev skp (L : Nat) (b : Nat → Nat) (p : Nat) : Nat := rn L (tB L b) p
abbrev we (L : Nat) (b : Nat → Nat) (p : Nat) : Nat := rn L (tW L b) p
abbrev de (L : Nat) (b : Nat → Nat) (p : Nat) : Nat := rn L (tD L b) p
theorem skp_ge (L : Nat) (b : Nat → Nat) (p : Nat) : p ≤ skp L b p := rn_ge _ p rfl
theorem skp_le {L : Nat} (b : Nat → Nat) {p : Nat} (h : p ≤ L) : skp L b p ≤ L := rn_L _ p rfl h
theorem we_le {L : Nat} (b : Nat → Nat) {p : Nat} (h : p ≤ L) : we L b p ≤ L := rn_L _ p rfl h
theorem de_le {L : Nat} (b : Nat → Nat) {p : Nat} (h : p ≤ L) : de L b p ≤ L := rn_L _ p rfl h
theorem skp_no (L : Nat) (b : Nat → Nat) (p : Nat) : ¬ (skp L b p < L ∧ b (skp L b p) = 32) := by
  have := rn_st (L := L) (P := tB L b) (fun i h => (of_decide_eq_true h).1) _ p rfl
  exact of_decide_eq_false this
theorem skp_i (L : Nat) (b : Nat → Nat) (p : Nat) : skp L b (skp L b p) = skp L b p := rn_f (decide_eq_false (skp_no L b p))
def sgn (L : Nat) (b : Nat → Nat) (i : Nat) : Int32 := if i < L then nI (b i) else -1
/-- a word here -/
def mwd (L : Nat) (b : Nat → Nat) : List Nat → Nat → Bool
  | [], _ => true
  | c :: w, q => decide (q < L ∧ b q = c) && mwd L b w (q + 1)
def isWd (L : Nat) (b : Nat → Nat) (w : List Nat) (p : Nat) : Bool := decide (we L b p = p + w.length) && mwd L b w p
def fw (L : Nat) (b : Nat → Nat) : List (List Nat) → Nat → Nat
  | [], _ => 0
  | w :: ws, p => if isWd L b w p = true then 0 else fw L b ws p + 1
theorem fw_le (L : Nat) (b : Nat → Nat) (p : Nat) : ∀ ws, fw L b ws p ≤ ws.length
  | [] => Nat.le_refl _
  | w :: ws => by
    rw [fw, List.length_cons]
    have := fw_le L b p ws
    split <;> omega
/-- a number's value by its first k digits -/
def nv (b : Nat → Nat) (s : Nat) : Nat → Nat
  | 0 => 0
  | k + 1 => 10 * nv b s k + (b (s + k) - 48)
/-- a number from lo to below hb: its value and the place behind -/
def amt (L : Nat) (b : Nat → Nat) (p lo hb : Nat) : Sum Nat (Nat × Nat) :=
  if tD L b (skp L b p) = true then
    (if 5 < de L b (skp L b p) - skp L b p ∨ nv b (skp L b p) (min 5 (de L b (skp L b p) - skp L b p)) < lo ∨ hb ≤ nv b (skp L b p) (min 5 (de L b (skp L b p) - skp L b p)) then .inl (1 + 8 * skp L b p + 1) else .inr (nv b (skp L b p) (min 5 (de L b (skp L b p) - skp L b p)), de L b (skp L b p)))
  else .inl (1 + 8 * skp L b p + 0)
theorem byt_all : ∀ b, b < 256 → (byt b = 32 ↔ b = 32) ∧ (byt b < 48 ↔ (b < 48 ∨ 128 ≤ b)) ∧ ((57 : Int32) < byt b ↔ (57 < b ∧ b < 128)) ∧ byt b &&& 255 = nI b ∧ (byt b < 97 ↔ (b < 97 ∨ 128 ≤ b)) ∧ ((122 : Int32) < byt b ↔ (122 < b ∧ b < 128)) := by decide +kernel
theorem byt_lo : ∀ b, b < 128 → byt b = nI b := by decide +kernel
theorem byt_hi : ∀ b, b < 256 → 128 ≤ b → byt b < 0 := by decide +kernel
def tp (T : Tc) (p e : Nat) : Tc := tI (tI T 129 2 (nI p)) 129 3 (nI e)
theorem tp1 (T : Tc) (p e r k : Nat) : (tp T p e).1 r k = if r = 129 ∧ k = 3 then nI e else if r = 129 ∧ k = 2 then nI p else T.1 r k := by
  unfold tp
  rw [tI1, tI1]
theorem tp2 (T : Tc) (p e : Nat) : (tp T p e).2 = T.2 := rfl
theorem tp_o (T : Tc) (p e : Nat) {r : Nat} (h : r ≠ 129) : (tp T p e).1 r = T.1 r := by
  funext k
  rw [tp1, if_neg (fun x => h x.1), if_neg (fun x => h x.1)]
theorem tp_q (T : Tc) (p e q : Nat) : tI (tp T p e) 129 2 (nI q) = tp T q e := by
  refine Prod.ext (funext fun r => funext fun k => ?_) rfl
  rw [tI1, tp1, tp1]
  by_cases h : r = 129
  · by_cases h2 : k = 2
    · rw [if_pos ⟨h, h2⟩, if_neg (by omega), if_pos ⟨h, h2⟩]
    · rw [if_neg (fun x => h2 x.2)]
      by_cases h3 : k = 3
      · rw [if_pos ⟨h, h3⟩, if_pos ⟨h, h3⟩]
      · rw [if_neg (fun x => h3 x.2), if_neg (fun x => h2 x.2), if_neg (fun x => h3 x.2), if_neg (fun x => h2 x.2)]
  · rw [if_neg (fun x => h x.1), if_neg (fun x => h x.1), if_neg (fun x => h x.1), if_neg (fun x => h x.1), if_neg (fun x => h x.1)]
theorem tp_f (T : Tc) (p e e' : Nat) : tI (tp T p e) 129 3 (nI e') = tp T p e' := by
  refine Prod.ext (funext fun r => funext fun k => ?_) rfl
  rw [tI1, tp1, tp1]
  by_cases h : r = 129 ∧ k = 3
  · rw [if_pos h, if_pos h]
  · rw [if_neg h, if_neg h, if_neg h]
theorem tp_I (T : Tc) (p e : Nat) {a k : Nat} {v : Int32} (h : a ≠ 129) : tI (tp T p e) a k v = tp (tI T a k v) p e := by
  refine Prod.ext (funext fun r => funext fun j => ?_) rfl
  rw [tI1, tp1, tp1, tI1]
  by_cases h1 : r = 129
  · rw [if_neg (fun x => h (by omega)), if_neg (show ¬ (r = a ∧ j = k) from fun x => h (by omega))]
  · rw [if_neg (show ¬ (r = 129 ∧ j = 3) from fun x => h1 x.1), if_neg (show ¬ (r = 129 ∧ j = 2) from fun x => h1 x.1), if_neg (show ¬ (r = 129 ∧ j = 3) from fun x => h1 x.1), if_neg (show ¬ (r = 129 ∧ j = 2) from fun x => h1 x.1)]
theorem tp_A (T : Tc) (p e a k : Nat) (v : Int32) : tA (tp T p e) a k v = tp (tA T a k v) p e := rfl
theorem tp_G (T : Tc) (p e a k : Nat) (v : Int64) : tG (tp T p e) a k v = tp (tG T a k v) p e := rfl
theorem tp_R (T : Tc) (p e a k v : Nat) : tR (tp T p e) a k v = tp (tR T a k v) p e := rfl
/-- the text on the class's tape -/
def TXc (T : Tc) (L : Nat) (b : Nat → Nat) : Prop := L ≤ 400 ∧ T.1 129 1 = nI L ∧ ∀ i, i < L → b i < 256 ∧ T.2.1 130 i = byt (b i)
section CTEXT
variable {n sl : Nat} {U : Nat → va_E} {S : Nat → Nat × Nat × Nat} {σ1 : Sg} {T : Tc} {L : Nat} {b : Nat → Nat}
theorem y_len (hX : TXc T L b) (p e : Nat) : gI (cn n sl U S (tp T p e) σ1) 129 9 1 = some (nI L) := by
  rw [x129_1, tp1, if_neg (by omega), if_neg (by omega), hX.2.1]
theorem y_pl (p e : Nat) : gI (cn n sl U S (tp T p e) σ1) 129 9 2 = some (nI p) := by
  rw [x129_2, tp1, if_neg (by omega), if_pos ⟨rfl, rfl⟩]
theorem y_ft (p e : Nat) : gI (cn n sl U S (tp T p e) σ1) 129 9 3 = some (nI e) := by
  rw [x129_3, tp1, if_pos ⟨rfl, rfl⟩]
theorem y_pp (p e q : Nat) : pV (cn n sl U S (tp T p e) σ1) 129 9 2 (.int (nI q)) = some (cn n sl U S (tp T q e) σ1) := by
  rw [x129_2p, tp_q]
theorem y_fp (p e q : Nat) : pV (cn n sl U S (tp T p e) σ1) 129 9 3 (.int (nI q)) = some (cn n sl U S (tp T p q) σ1) := by
  rw [x129_3p, tp_f]
theorem y_b (hX : TXc T L b) (p e : Nat) {i : Nat} (hi : i < L) : aI (cn n sl U S (tp T p e) σ1) 130 1 (nI i) = some (byt (b i)) := by
  have := hX.1
  rw [x130_r (by omega)]
  show some (T.2.1 130 i) = _
  rw [(hX.2.2 i hi).2]
theorem y_at (hX : TXc T L b) (p e : Nat) {i : Nat} (hi : i < 2 ^ 31) : f_X9_byteAt (cn n sl U S (tp T p e) σ1) 129 (nI i) = some (sgn L b i, cn n sl U S (tp T p e) σ1) := by
  have hL := hX.1
  unfold f_X9_byteAt
  rw [if_neg (show ¬ nI i < 0 from nI_nlt (Nat.zero_le _) hi), y_len hX, Option.bind_some, sgn]
  by_cases h : i < L
  · rw [if_neg (nI_ge h (by omega)), x129_0, Option.bind_some, y_b hX p e h, Option.bind_some, if_pos h, (byt_all _ (hX.2.2 i h).1).2.2.2.1]
  · rw [if_pos (nI_le (by omega) hi), if_neg h]
theorem y_dg (hX : TXc T L b) (p e : Nat) {i : Nat} (hi : i < 2 ^ 31) : f_X9_isDigitAt (cn n sl U S (tp T p e) σ1) 129 (nI i) = some (bI (tD L b i), cn n sl U S (tp T p e) σ1) := by
  have hL := hX.1
  unfold f_X9_isDigitAt
  rw [if_neg (show ¬ nI i < 0 from nI_nlt (Nat.zero_le _) hi), y_len hX, Option.bind_some, tD]
  by_cases h : i < L
  · have q := byt_all _ (hX.2.2 i h).1
    rw [if_neg (nI_ge h (by omega)), x129_0, Option.bind_some, y_b hX p e h, Option.bind_some]
    by_cases h1 : byt (b i) < 48
    · have := q.2.1.1 h1
      rw [if_pos h1, if_pos (by decide), decide_eq_false (by omega)]
      rfl
    · have h1' : ¬ (b i < 48 ∨ 128 ≤ b i) := fun x => h1 (q.2.1.2 x)
      rw [if_neg h1, Option.bind_some, y_b hX p e h, Option.bind_some]
      by_cases h2 : (57 : Int32) < byt (b i)
      · have := q.2.2.1.1 h2
        rw [if_pos h2, if_pos (by decide), decide_eq_false (by omega)]
        rfl
      · have h2' : ¬ (57 < b i ∧ b i < 128) := fun x => h2 (q.2.2.1.2 x)
        rw [if_neg h2, if_pos (by decide), decide_eq_true (by omega)]
        rfl
  · rw [if_pos (nI_le (by omega) hi), if_pos (by decide), decide_eq_false (fun x => h x.1)]
    rfl
theorem y_s0 (p : Nat) : f_X9_isSound (cn n sl U S (tp T p 0) σ1) 129 = some (1, cn n sl U S (tp T p 0) σ1) := by
  unfold f_X9_isSound
  rw [y_ft, Option.bind_some, if_pos (show nI 0 = 0 from rfl), if_pos (by decide)]
theorem y_s1 (p : Nat) {e : Nat} (he : e ≠ 0) (h31 : e < 2 ^ 31) : f_X9_isSound (cn n sl U S (tp T p e) σ1) 129 = some (0, cn n sl U S (tp T p e) σ1) := by
  unfold f_X9_isSound
  rw [y_ft, Option.bind_some, if_neg (show ¬ nI e = 0 from fun h => he ((nI_eq (b := 0) h31 (by decide)).1 h)), if_pos (by decide)]
theorem y_f0 (p i k : Nat) : f_X9_fail (cn n sl U S (tp T p 0) σ1) 129 (nI i) (nI k) = some (cn n sl U S (tp T p (1 + 8 * i + k)) σ1) := by
  unfold f_X9_fail
  rw [y_ft, Option.bind_some, if_pos (show nI 0 = 0 from rfl), lit_1, lit_8, pk_mul, nI_add, nI_add, y_fp, Option.bind_some]
theorem y_f1 (p : Nat) {e : Nat} (he : e ≠ 0) (h31 : e < 2 ^ 31) (x y : Int32) : f_X9_fail (cn n sl U S (tp T p e) σ1) 129 x y = some (cn n sl U S (tp T p e) σ1) := by
  unfold f_X9_fail
  rw [y_ft, Option.bind_some, if_neg (show ¬ nI e = 0 from fun h => he ((nI_eq (b := 0) h31 (by decide)).1 h))]
theorem y_skL (hX : TXc T L b) (e : Nat) (K : Mm → Nat → Option (Int32 × Mm)) : ∀ (k p f : Nat), L - p = k → p ≤ L → k < f → f_X9_skipBlanks_L0 K f (cn n sl U S (tp T p e) σ1) 129 = K (cn n sl U S (tp T (skp L b p) e) σ1) 129 := by
  have hL := hX.1
  intro k
  induction k with
  | zero =>
    intro p f h1 h2 h3
    obtain ⟨f, rfl⟩ : ∃ k, f = k + 1 := ⟨f - 1, by omega⟩
    rw [f_X9_skipBlanks_L0, y_pl, Option.bind_some, y_len hX, Option.bind_some, if_pos (nI_le (by omega) (by omega)), skp, rn_f (decide_eq_false (by omega))]
  | succ k ih =>
    intro p f h1 h2 h3
    obtain ⟨f, rfl⟩ : ∃ k, f = k + 1 := ⟨f - 1, by omega⟩
    have hp : p < L := by omega
    have q := byt_all _ (hX.2.2 p hp).1
    rw [f_X9_skipBlanks_L0, y_pl, Option.bind_some, y_len hX, Option.bind_some, if_neg (nI_ge hp (by omega)), x129_0, Option.bind_some, Option.bind_some, y_b hX p e hp, Option.bind_some]
    by_cases h : b p = 32
    · rw [if_pos (q.1.2 h), Option.bind_some, lit_1, nI_add, y_pp, Option.bind_some, ih (p + 1) f (by omega) (by omega) (by omega), skp, skp, rn_t (p := p) (decide_eq_true ⟨hp, h⟩) hp]
    · rw [if_neg (fun x => h (q.1.1 x)), skp, rn_f (decide_eq_false (fun x => h x.2))]
theorem y_sk (hX : TXc T L b) {p : Nat} (hp : p ≤ L) (e : Nat) : f_X9_skipBlanks (cn n sl U S (tp T p e) σ1) 129 = some (nI (skp L b p), cn n sl U S (tp T (skp L b p) e) σ1) := by
  have hL := hX.1
  unfold f_X9_skipBlanks
  rw [y_skL hX e _ (L - p) p FU rfl hp (by unfold FU; omega), y_pl, Option.bind_some]
theorem sgn_c {i c : Nat} (hX : TXc T L b) (hc : c < 2 ^ 31) : sgn L b i = nI c ↔ (i < L ∧ b i = c) := by
  rw [sgn]
  by_cases h : i < L
  · have := (hX.2.2 i h).1
    rw [if_pos h, nI_eq (by omega) hc]
    exact ⟨fun x => ⟨h, x⟩, fun x => x.2⟩
  · rw [if_neg h]
    exact ⟨fun x => absurd x.symm (nI_nm1 hc), fun x => absurd x.1 h⟩
theorem y_by (hX : TXc T L b) {p c : Nat} (hp : p ≤ L) (hc : c < 2 ^ 31) : f_X9_takesByte (cn n sl U S (tp T p 0) σ1) 129 (nI c) = if skp L b p < L ∧ b (skp L b p) = c then some (1, cn n sl U S (tp T (skp L b p + 1) 0) σ1) else some (0, cn n sl U S (tp T (skp L b p) 0) σ1) := by
  have hL := hX.1
  have hs := skp_le b hp
  unfold f_X9_takesByte
  rw [x129_o, Option.bind_some, y_s0, bd_some, if_neg (by decide), x129_o, Option.bind_some, y_sk hX hp, bd_some, x129_o, Option.bind_some, y_at hX _ _ (by omega), bd_some]
  by_cases h : skp L b p < L ∧ b (skp L b p) = c
  · rw [if_pos ((sgn_c hX hc).2 h), if_pos h, y_pl, Option.bind_some, lit_1, nI_add, y_pp, Option.bind_some, if_pos (by decide)]
  · rw [if_neg (fun x => h ((sgn_c hX hc).1 x)), if_neg h, if_pos (by decide)]
theorem y_byD (p : Nat) {e : Nat} (he : e ≠ 0) (h31 : e < 2 ^ 31) (x : Int32) : f_X9_takesByte (cn n sl U S (tp T p e) σ1) 129 x = some (0, cn n sl U S (tp T p e) σ1) := by
  unfold f_X9_takesByte
  rw [x129_o, Option.bind_some, y_s1 p he h31, bd_some, if_pos rfl, if_pos (by decide)]
theorem y_go (hX : TXc T L b) {p : Nat} (hp : p ≤ L) : f_X9_goesOn (cn n sl U S (tp T p 0) σ1) 129 = if skp L b p < L then (if b (skp L b p) = 59 then some (1, cn n sl U S (tp T (skp L b p + 1) 0) σ1) else some (0, cn n sl U S (tp T (skp L b p) (1 + 8 * skp L b p + 0)) σ1)) else some (0, cn n sl U S (tp T (skp L b p) 0) σ1) := by
  have hL := hX.1
  have hs := skp_le b hp
  unfold f_X9_goesOn
  rw [x129_o, Option.bind_some, lit_59, y_by hX hp (by decide)]
  by_cases h : skp L b p < L ∧ b (skp L b p) = 59
  · rw [if_pos h, bd_some, if_neg (by decide), if_pos (by decide), if_pos h.1, if_pos h.2]
  · rw [if_neg h, bd_some, if_pos rfl, x129_o, Option.bind_some, y_sk hX hs, bd_some, skp_i, y_len hX, Option.bind_some]
    by_cases h1 : skp L b p < L
    · rw [if_neg (nI_ge h1 (by omega)), y_pl, Option.bind_some, x129_o, Option.bind_some, lit_0, y_f0, Option.bind_some, if_pos (by decide), if_pos h1, if_neg (fun x => h ⟨h1, x⟩)]
    · rw [if_pos (nI_le (by omega) (by omega)), if_pos (by decide), if_neg h1]
/-! numbers -/
theorem nv_lt (b : Nat → Nat) (s : Nat) : ∀ k, (∀ j, j < k → 48 ≤ b (s + j) ∧ b (s + j) ≤ 57) → nv b s k < 10 ^ k
  | 0, _ => Nat.zero_lt_one
  | k + 1, h => by
    have := nv_lt b s k (fun j hj => h j (by omega))
    have := h k (by omega)
    rw [nv, Nat.pow_succ]
    omega
theorem y_nuL (hX : TXc T L b) (e s : Nat) (x y : Int32) (K : Mm → Nat → Int32 → Int32 → Int32 → Int32 → Option (Int32 × Mm)) : ∀ (k p f : Nat), L - p = k → s ≤ p → p ≤ L → k < f → (∀ i, s ≤ i → i < p → tD L b i = true) → f_X9_readNumber_L33 K f (cn n sl U S (tp T p e) σ1) 129 x y (nI s) (nI (nv b s (min 5 (p - s)))) = K (cn n sl U S (tp T (de L b p) e) σ1) 129 x y (nI s) (nI (nv b s (min 5 (de L b p - s)))) := by
  have hL := hX.1
  intro k
  induction k with
  | zero =>
    intro p f h1 h2 h3 h4 hd
    obtain ⟨f, rfl⟩ : ∃ k, f = k + 1 := ⟨f - 1, by omega⟩
    rw [f_X9_readNumber_L33, y_pl, Option.bind_some, y_len hX, Option.bind_some, if_pos (nI_le (by omega) (by omega)), de, rn_f (decide_eq_false (by omega))]
  | succ k ih =>
    intro p f h1 h2 h3 h4 hd
    obtain ⟨f, rfl⟩ : ∃ k, f = k + 1 := ⟨f - 1, by omega⟩
    have hp : p < L := by omega
    rw [f_X9_readNumber_L33, y_pl, Option.bind_some, y_len hX, Option.bind_some, if_neg (nI_ge hp (by omega)), Option.bind_some, x129_o, Option.bind_some, y_dg hX p e (by omega), bd_some]
    cases hD : tD L b p with
    | false => rw [if_pos (show bI false = 0 from rfl), de, rn_f hD]
    | true =>
      have hb := of_decide_eq_true hD
      have z := ih (p + 1) f (by omega) (by omega) (by omega) (by omega) (fun i h5 h6 => by
        by_cases h7 : i = p
        · rw [h7]; exact hD
        · exact hd i h5 (by omega))
      rw [de, rn_t (p := p) hD hp, if_neg (show ¬ bI true = 0 by decide), y_pl, Option.bind_some, nI_sub h2]
      by_cases h5 : 5 ≤ p - s
      · rw [show min 5 (p + 1 - s) = min 5 (p - s) by omega] at z
        rw [if_pos (show (5 : Int32) ≤ nI (p - s) from nI_le (a := 5) h5 (by omega)), Option.bind_some, lit_1, nI_add, y_pp, Option.bind_some]
        exact z
      · rw [show min 5 (p + 1 - s) = (p - s) + 1 by omega, nv, show s + (p - s) = p by omega] at z
        have e1 : (10 : Int32) * nI (nv b s (min 5 (p - s))) + nI (b p) - 48 = nI (10 * nv b s (p - s) + (b p - 48)) := by
          rw [show min 5 (p - s) = p - s by omega, lit_10, lit_48, pk_mul, nI_add, nI_sub (by omega)]
          congr 1
          omega
        rw [if_neg (show ¬ (5 : Int32) ≤ nI (p - s) from nI_ge (b := 5) (by omega) (by decide)), Option.bind_some, x129_o, Option.bind_some, y_at hX p e (by omega), bd_some, sgn, if_pos hp, nm_q, e1, y_pl, Option.bind_some, lit_1, nI_add, y_pp, Option.bind_some]
        exact z
theorem nv_5 (L : Nat) (b : Nat → Nat) (s : Nat) : nv b s (min 5 (de L b s - s)) < 100000 := by
  have h := nv_lt b s (min 5 (de L b s - s)) (fun j hj => (of_decide_eq_true (rn_in (L := L) (P := tD L b) (i := s + j) _ s rfl (by omega) (by show s + j < de L b s; omega))).2)
  exact Nat.lt_of_lt_of_le h (Nat.le_trans (Nat.pow_le_pow_right (by decide) (Nat.min_le_left 5 _)) (by decide))
theorem y_num (hX : TXc T L b) {p lo hb : Nat} (hp : p ≤ L) (hlo : lo < 2 ^ 31) (hhb : hb < 2 ^ 31) : match amt L b p lo hb with
    | .inr (v, q) => f_X9_readNumber (cn n sl U S (tp T p 0) σ1) 129 (nI lo) (nI hb - 1) = some (nI v, cn n sl U S (tp T q 0) σ1) ∧ q ≤ L ∧ lo ≤ v ∧ v < hb
    | .inl e => ∃ v q, q ≤ L ∧ f_X9_readNumber (cn n sl U S (tp T p 0) σ1) 129 (nI lo) (nI hb - 1) = some (nI v, cn n sl U S (tp T q e) σ1) ∧ e ≠ 0 ∧ e < 4000 ∧ v < 100000 := by
  have hL := hX.1
  have hs := skp_le b hp
  have hd := de_le b hs
  have hn := nv_5 L b (skp L b p)
  have dg := de_le b hs
  have ge : skp L b p ≤ de L b (skp L b p) := rn_ge _ _ rfl
  have z := y_nuL (n := n) (sl := sl) (U := U) (S := S) (σ1 := σ1) hX 0 (skp L b p) (nI lo) (nI hb - 1) (fun μ32 a33 x34 x35 x36 x37 =>
    ((gI μ32 a33 9 2).bind fun v38 =>
    (if (5 : Int32) < (v38 - x36) then
    ((ob μ32 a33 9).bind fun _ =>
    ((f_X9_fail μ32 a33 x36 (1 : Int32)).bind fun μ39 =>
    (some (x37, μ39))))
    else
    (if x37 < x34 then
    ((ob μ32 a33 9).bind fun _ =>
    ((f_X9_fail μ32 a33 x36 (1 : Int32)).bind fun μ40 =>
    (some (x37, μ40))))
    else
    (if x37 ≤ x35 then
    (some (x37, μ32))
    else
    ((ob μ32 a33 9).bind fun _ =>
    ((f_X9_fail μ32 a33 x36 (1 : Int32)).bind fun μ41 =>
    (some (x37, μ41))))))))) (L - skp L b p) (skp L b p) FU rfl (Nat.le_refl _) hs (by unfold FU; omega) (fun i h1 h2 => by omega)
  rw [Nat.sub_self, Nat.min_zero, show nI (nv b (skp L b p) 0) = (0 : Int32) from rfl] at z
  have hbd : ∀ v, v < 100000 → (nI v ≤ nI hb - 1 ↔ v < hb) := by
    intro v hv
    rw [i32le, nI_toInt (by omega)]
    have : (nI hb - 1).toInt = (hb : Int) - 1 := by
      rw [Int32.toInt_sub, nI_toInt hhb, show (1 : Int32).toInt = 1 from rfl, Int.bmod_eq_of_le (by omega) (by omega)]
    rw [this]
    omega
  have start : f_X9_readNumber (cn n sl U S (tp T p 0) σ1) 129 (nI lo) (nI hb - 1) = if tD L b (skp L b p) = true then f_X9_readNumber_L33 (fun μ32 a33 x34 x35 x36 x37 =>
    ((gI μ32 a33 9 2).bind fun v38 =>
    (if (5 : Int32) < (v38 - x36) then
    ((ob μ32 a33 9).bind fun _ =>
    ((f_X9_fail μ32 a33 x36 (1 : Int32)).bind fun μ39 =>
    (some (x37, μ39))))
    else
    (if x37 < x34 then
    ((ob μ32 a33 9).bind fun _ =>
    ((f_X9_fail μ32 a33 x36 (1 : Int32)).bind fun μ40 =>
    (some (x37, μ40))))
    else
    (if x37 ≤ x35 then
    (some (x37, μ32))
    else
    ((ob μ32 a33 9).bind fun _ =>
    ((f_X9_fail μ32 a33 x36 (1 : Int32)).bind fun μ41 =>
    (some (x37, μ41))))))))) FU (cn n sl U S (tp T (skp L b p) 0) σ1) 129 (nI lo) (nI hb - 1) (nI (skp L b p)) 0 else some (0, cn n sl U S (tp T (skp L b p) (1 + 8 * skp L b p + 0)) σ1) := by
    unfold f_X9_readNumber
    rw [x129_o, Option.bind_some, y_s0, bd_some, if_neg (by decide), x129_o, Option.bind_some, y_sk hX hp, bd_some, nm_q, x129_o, Option.bind_some, y_dg hX _ _ (by omega), bd_some]
    cases tD L b (skp L b p) with
    | false => rw [if_pos (show bI false = 0 from rfl), x129_o, Option.bind_some, lit_0, y_f0, Option.bind_some, if_neg (by decide)]
    | true => rw [if_neg (show ¬ bI true = 0 by decide), nm_q, if_pos rfl]
  rw [start]
  unfold amt
  cases hD : tD L b (skp L b p) with
  | false =>
    rw [if_neg (by decide), if_neg (by decide)]
    exact ⟨0, _, hs, rfl, by omega, by omega, by omega⟩
  | true =>
    rw [if_pos rfl, if_pos rfl, z, y_pl, Option.bind_some, nI_sub ge]
    generalize nv b (skp L b p) (min 5 (de L b (skp L b p) - skp L b p)) = v at *
    by_cases h5 : 5 < de L b (skp L b p) - skp L b p
    · rw [if_pos (show (5 : Int32) < nI (de L b (skp L b p) - skp L b p) from nI_lt (a := 5) h5 (by omega)), if_pos (.inl h5), x129_o, Option.bind_some, lit_1, y_f0, Option.bind_some]
      exact ⟨v, _, hd, rfl, by omega, by omega, hn⟩
    · rw [if_neg (show ¬ (5 : Int32) < nI (de L b (skp L b p) - skp L b p) from nI_nlt (a := 5) (Nat.le_of_not_lt h5) (by decide))]
      by_cases h6 : v < lo
      · rw [if_pos (nI_lt h6 hlo), if_pos (.inr (.inl h6)), x129_o, Option.bind_some, lit_1, y_f0, Option.bind_some]
        exact ⟨v, _, hd, rfl, by omega, by omega, hn⟩
      · rw [if_neg (nI_nlt (by omega) (by omega))]
        by_cases h7 : v < hb
        · rw [if_pos ((hbd v hn).2 h7), if_neg (by omega)]
          exact ⟨rfl, hd, by omega, h7⟩
        · rw [if_neg (fun x => h7 ((hbd v hn).1 x)), if_pos (.inr (.inr (by omega))), x129_o, Option.bind_some, lit_1, y_f0, Option.bind_some]
          exact ⟨v, _, hd, rfl, by omega, by omega, hn⟩
theorem y_nuD (p : Nat) {e : Nat} (he : e ≠ 0) (h31 : e < 2 ^ 31) (x y : Int32) : f_X9_readNumber (cn n sl U S (tp T p e) σ1) 129 x y = some (0, cn n sl U S (tp T p e) σ1) := by
  unfold f_X9_readNumber
  rw [x129_o, Option.bind_some, y_s1 p he h31, bd_some, if_pos rfl]
/-! words -/
theorem dr_at {a i : Nat} {x : Int32} {r : List Int32} (h : (sByt a).drop i = x :: r) : i < sLen a ∧ (sByt a).getD i 0 = x ∧ (sByt a).drop (i + 1) = r := by
  have hl : i < (sByt a).length := by
    apply Nat.lt_of_not_le
    intro h'
    rw [List.drop_eq_nil_of_le h'] at h
    cases h
  rw [List.drop_eq_getElem_cons hl] at h
  injection h with h1 h2
  refine ⟨hl, ?_, h2⟩
  rw [List.getD_eq_getElem?_getD, List.getElem?_eq_getElem hl]
  exact h1
theorem tC_at {a i : Nat} {x : Int32} {r : List Int32} (ha : a < 32) (h : (sByt a).drop i = x :: r) : tC a (nI i) = some x := by
  obtain ⟨h1, h2, -⟩ := dr_at h
  have h3 := sL_all a ha
  unfold tC
  rw [nI_clamp (by omega), if_pos ⟨ha, fun h => by
    rcases h with h | h
    · exact nI_nlt (Nat.zero_le _) (by omega) h
    · omega⟩, h2]
theorem tL_at {a : Nat} (ha : a < 32) : tL a = some (nI (sLen a)) := by
  unfold tL
  rw [if_pos (show a < sN from ha)]
  rfl
theorem y_wdL (hX : TXc T L b) {a p e size num : Nat} (ha : a < 32) (hp : p ≤ L) (hz : size < 500) (K1 : Mm → Nat → Int32 → Int32 → Option (Int32 × Mm)) (K2 : Mm → Option (Int32 × Mm)) (f' : Nat) : ∀ (w : List Nat) (i sp : Nat) (sm : Bool) (r : List Int32), (sByt a).drop i = w.map nI ++ 32 :: r → (∀ c ∈ w, c ≠ 32 ∧ c < 128) → sp + w.length < 200 → f_X9_takeWord_L62 K1 K2 (f' + (w.length + 1)) (cn n sl U S (tp T p e) σ1) 129 a (nI size) (nI num) (nI sp) (bI sm) (nI i) = if (sm && mwd L b w (p + sp)) = true ∧ sp + w.length = size then K1 (cn n sl U S (tp T p e) σ1) 129 (nI size) (nI num) else f_X9_takeWord_L62 K1 K2 f' (cn n sl U S (tp T p e) σ1) 129 a (nI size) (nI (num + 1)) 0 1 (nI (i + w.length + 1)) := by
  have hL := hX.1
  intro w
  induction w with
  | nil =>
    intro i sp sm r h1 h2 h3
    obtain ⟨d1, d2, d3⟩ := dr_at h1
    have d4 := sL_all a ha
    rw [show f' + (([] : List Nat).length + 1) = f' + 1 from rfl, f_X9_takeWord_L62, tL_at ha, Option.bind_some, if_neg (nI_ge d1 (by omega)), tC_at ha h1, Option.bind_some, if_pos rfl]
    cases sm with
    | false =>
      rw [if_pos (show bI false = 0 from rfl), nm_q, nm_q, nm_q, nm_q, oin1, nI_add, nI_add, if_neg (fun h => by cases h.1)]
      rfl
    | true =>
      rw [if_neg (show ¬ bI true = 0 by decide)]
      by_cases hs : sp = size
      · rw [if_pos (show nI sp = nI size by rw [hs]), if_pos ⟨rfl, by rw [← hs]; rfl⟩]
      · rw [if_neg (fun h => hs ((nI_eq (by simp only [List.length_nil] at h3; omega) (by omega)).1 h)), nm_q, nm_q, nm_q, nm_q, oin1, nI_add, nI_add, if_neg (fun h => hs h.2)]
        rfl
  | cons c w ih =>
    intro i sp sm r h1 h2 h3
    have h1' : (sByt a).drop i = nI c :: (w.map nI ++ 32 :: r) := h1
    obtain ⟨d1, d2, d3⟩ := dr_at h1'
    have d4 := sL_all a ha
    have hc := h2 c (List.mem_cons_self ..)
    rw [List.length_cons] at h3
    have z := fun sm' => ih (i + 1) (sp + 1) sm' r d3 (fun c hc => h2 c (List.mem_cons_of_mem _ hc)) (by omega)
    rw [show f' + ((c :: w).length + 1) = f' + (w.length + 1) + 1 from rfl, f_X9_takeWord_L62, tL_at ha, Option.bind_some, if_neg (nI_ge d1 (by omega)), tC_at ha h1', Option.bind_some, if_neg (show ¬ nI c = 32 from fun h => hc.1 ((nI_eq (b := 32) (by omega) (by decide)).1 h))]
    rw [show i + (c :: w).length + 1 = i + 1 + w.length + 1 by rw [List.length_cons]; omega, show sp + (c :: w).length = sp + 1 + w.length by rw [List.length_cons]; omega, mwd]
    cases sm with
    | false =>
      have y := z false
      rw [if_pos (show bI false = 0 from rfl), nm_q, nm_q, nm_q, oin1, nI_add, nI_add]
      rw [show (false && mwd L b w (p + (sp + 1))) = false from rfl, show bI false = 0 from rfl] at y
      rw [show (false && (decide (p + sp < L ∧ b (p + sp) = c) && mwd L b w (p + sp + 1))) = false from rfl]
      exact y
    | true =>
      rw [if_neg (show ¬ bI true = 0 by decide), Option.bind_some, y_pl, Option.bind_some, x129_o, Option.bind_some, nI_add, y_at hX p e (by omega), bd_some, Bool.true_and]
      by_cases hq : p + sp < L ∧ b (p + sp) = c
      · have y := z true
        rw [if_pos ((sgn_c hX (by omega)).2 hq).symm, nm_q, nm_q, nm_q, oin1, nI_add, nI_add, decide_eq_true hq, Bool.true_and]
        rw [Bool.true_and, show bI true = 1 from rfl, ← Nat.add_assoc] at y
        exact y
      · have y := z false
        rw [if_neg (fun h => hq ((sgn_c hX (by omega)).1 h.symm)), nm_q, nm_q, nm_q, oin1, nI_add, nI_add, decide_eq_false hq, Bool.false_and]
        rw [Bool.false_and, show bI false = 0 from rfl] at y
        exact y
def fltW : List (List Nat) → List Int32
  | [] => []
  | w :: ws => w.map nI ++ 32 :: fltW ws
theorem y_wsL (hX : TXc T L b) {a p e : Nat} (ha : a < 32) (hp : p ≤ L) (K1 : Mm → Nat → Int32 → Int32 → Option (Int32 × Mm)) (K2 : Mm → Option (Int32 × Mm)) : ∀ (ws : List (List Nat)) (i num f : Nat), (sByt a).drop i = fltW ws → (∀ w ∈ ws, w.length < 200 ∧ ∀ c ∈ w, c ≠ 32 ∧ c < 128) → (fltW ws).length < f → i ≤ sLen a → f_X9_takeWord_L62 K1 K2 f (cn n sl U S (tp T p e) σ1) 129 a (nI (we L b p - p)) (nI num) 0 1 (nI i) = if fw L b ws p < ws.length then K1 (cn n sl U S (tp T p e) σ1) 129 (nI (we L b p - p)) (nI (num + fw L b ws p)) else K2 (cn n sl U S (tp T p e) σ1) := by
  have hL := hX.1
  have hw := we_le b hp
  have gw : p ≤ we L b p := rn_ge _ _ rfl
  intro ws
  induction ws with
  | nil =>
    intro i num f h1 h2 h3 h4
    obtain ⟨f, rfl⟩ : ∃ k, f = k + 1 := ⟨f - 1, by simp only [fltW, List.length_nil] at h3; omega⟩
    have hi : sLen a ≤ i := List.drop_eq_nil_iff.1 h1
    have d4 := sL_all a ha
    rw [f_X9_takeWord_L62, tL_at ha, Option.bind_some, if_pos (nI_le hi (by omega)), if_neg (by show ¬ 0 < 0; omega)]
  | cons w ws ih =>
    intro i num f h1 h2 h3 h4
    have h3' : w.length + (fltW ws).length + 1 < f := by
      simp only [fltW, List.length_append, List.length_map, List.length_cons] at h3
      omega
    obtain ⟨f', rfl⟩ : ∃ k, f = k + (w.length + 1) := ⟨f - (w.length + 1), by omega⟩
    have hww := h2 w (List.mem_cons_self ..)
    have z := y_wdL (n := n) (sl := sl) (U := U) (S := S) (σ1 := σ1) (size := we L b p - p) (num := num) (e := e) hX ha hp (by omega) K1 K2 f' w i 0 true (fltW ws) h1 hww.2 (by omega)
    rw [show nI 0 = (0 : Int32) from rfl, show bI true = 1 from rfl] at z
    rw [z, Bool.true_and, Nat.add_zero, Nat.zero_add, fw]
    by_cases hm : isWd L b w p = true
    · have hm' := hm
      unfold isWd at hm'
      rw [Bool.and_eq_true] at hm'
      have e1 := of_decide_eq_true hm'.1
      rw [if_pos ⟨hm'.2, by omega⟩, if_pos hm, if_pos (by rw [List.length_cons]; omega)]
      rfl
    · have hm' : ¬ (mwd L b w p = true ∧ w.length = we L b p - p) := fun h => hm (by
        unfold isWd
        rw [Bool.and_eq_true]
        exact ⟨decide_eq_true (by omega), h.1⟩)
      have hdr : (sByt a).drop (i + w.length + 1) = fltW ws := by
        rw [Nat.add_assoc, ← List.drop_drop, h1, fltW]
        simp only [List.drop_append, List.length_map, List.drop_eq_nil_of_le, List.nil_append, Nat.le_succ, Nat.le_add_right]
        rw [show w.length + 1 - w.length = 1 by omega]
        rfl
      have hle : i + w.length + 1 ≤ sLen a := by
        have := congrArg List.length h1
        rw [List.length_drop, fltW, List.length_append, List.length_map, List.length_cons] at this
        unfold sLen at h4 ⊢
        omega
      rw [if_neg hm', if_neg hm, ih (i + w.length + 1) (num + 1) f' hdr (fun w hw => h2 w (List.mem_cons_of_mem _ hw)) (by omega) hle]
      by_cases hj : fw L b ws p < ws.length
      · rw [if_pos hj, if_pos (by rw [List.length_cons]; omega), Nat.add_assoc, Nat.add_comm 1]
      · rw [if_neg hj, if_neg (by rw [List.length_cons]; omega)]
theorem y_weL (hX : TXc T L b) {a p : Nat} (e : Nat) (hp : p ≤ L) (K : Mm → Nat → Nat → Int32 → Option (Int32 × Mm)) : ∀ (k i f : Nat), L - (p + i) = k → p + i ≤ L → k < f → f_X9_takeWord_L2 K f (cn n sl U S (tp T p e) σ1) 129 a (nI i) = K (cn n sl U S (tp T p e) σ1) 129 a (nI (we L b (p + i) - p)) := by
  have hL := hX.1
  intro k
  induction k with
  | zero =>
    intro i f h1 h2 h3
    obtain ⟨f, rfl⟩ : ∃ k, f = k + 1 := ⟨f - 1, by omega⟩
    rw [f_X9_takeWord_L2, y_pl, Option.bind_some, y_len hX, Option.bind_some, nI_add, if_pos (nI_le (by omega) (by omega)), we, rn_f (decide_eq_false (by omega)), Nat.add_sub_cancel_left]
  | succ k ih =>
    intro i f h1 h2 h3
    obtain ⟨f, rfl⟩ : ∃ k, f = k + 1 := ⟨f - 1, by omega⟩
    have hi : p + i < L := by omega
    have hb := (hX.2.2 _ hi).1
    rw [f_X9_takeWord_L2, y_pl, Option.bind_some, y_len hX, Option.bind_some, nI_add, if_neg (nI_ge hi (by omega)), Option.bind_some, x129_o, Option.bind_some, nI_add, y_at hX p e (by omega), bd_some, sgn, if_pos hi]
    by_cases h5 : b (p + i) < 97
    · rw [if_pos (show nI (b (p + i)) < 97 from nI_lt (b := 97) h5 (by decide)), we, rn_f (decide_eq_false (by omega)), Nat.add_sub_cancel_left]
    · rw [if_neg (show ¬ nI (b (p + i)) < 97 from nI_nlt (b := 97) (Nat.le_of_not_lt h5) (by omega)), y_pl, Option.bind_some, x129_o, Option.bind_some, nI_add, y_at hX p e (by omega), bd_some, sgn, if_pos hi]
      by_cases h6 : 122 < b (p + i)
      · rw [if_pos (show (122 : Int32) < nI (b (p + i)) from nI_lt (a := 122) h6 (by omega)), we, rn_f (decide_eq_false (by omega)), Nat.add_sub_cancel_left]
      · rw [if_neg (show ¬ (122 : Int32) < nI (b (p + i)) from nI_nlt (a := 122) (Nat.le_of_not_lt h6) (by decide)), nm_q, oin1, nI_add, ih (i + 1) f (by omega) (by omega) (by omega), we, we, rn_t (p := p + i) (decide_eq_true (by omega)) hi, Nat.add_assoc]
theorem y_wd (hX : TXc T L b) {a p : Nat} (e : Nat) (ws : List (List Nat)) (ha : a < 32) (hp : p ≤ L) (h1 : sByt a = fltW ws) (h2 : ∀ w ∈ ws, w.length < 200 ∧ ∀ c ∈ w, c ≠ 32 ∧ c < 128) : f_X9_takeWord (cn n sl U S (tp T p e) σ1) 129 a = if fw L b ws p < ws.length then some (nI (fw L b ws p), cn n sl U S (tp T (we L b p) e) σ1) else some (-1, cn n sl U S (tp T p e) σ1) := by
  have hL := hX.1
  have hl := sL_all a ha
  have gw : p ≤ we L b p := rn_ge _ _ rfl
  unfold f_X9_takeWord
  rw [nm_q]
  have z := y_weL (n := n) (sl := sl) (U := U) (S := S) (σ1 := σ1) (a := a) hX e hp (fun μ16 a17 a18 x19 =>
    (nm (0 : Int32) fun x20 =>
    (nm (0 : Int32) fun x21 =>
    (nm (1 : Int32) fun x22 =>
    (nm (0 : Int32) fun x23 =>
    f_X9_takeWord_L62 (fun μ54 a55 x56 x57 =>
    ((gI μ54 a55 9 2).bind fun v58 =>
    ((pV μ54 a55 9 2 (.int (v58 + x56))).bind fun μ59 =>
    (some (x57, μ59))))) (fun μ60 =>
    (some ((-1 : Int32), μ60))) FU μ16 a17 a18 x19 x20 x21 x22 x23))))) (L - p) 0 FU rfl hp (by unfold FU; omega)
  rw [show nI 0 = (0 : Int32) from rfl, Nat.add_zero] at z
  have y := y_wsL (n := n) (sl := sl) (U := U) (S := S) (σ1 := σ1) (a := a) (e := e) hX ha hp (fun μ54 a55 x56 x57 =>
    ((gI μ54 a55 9 2).bind fun v58 =>
    ((pV μ54 a55 9 2 (.int (v58 + x56))).bind fun μ59 =>
    (some (x57, μ59))))) (fun μ60 =>
    (some ((-1 : Int32), μ60))) ws 0 0 FU h1 h2 (by rw [← h1]; unfold sLen at hl; unfold FU; omega) (Nat.zero_le _)
  rw [show nI 0 = (0 : Int32) from rfl, Nat.zero_add] at y
  rw [z, nm_q, nm_q, nm_q, nm_q, y]
  by_cases hj : fw L b ws p < ws.length
  · rw [if_pos hj, if_pos hj, y_pl, Option.bind_some, nI_add, y_pp, Option.bind_some, show p + (we L b p - p) = we L b p by omega]
  · rw [if_neg hj, if_neg hj]
end CTEXT
