/-! Bits (the first rows: the kit's laws/BITS.to-paste, given for pasting). -/
def bt (x : Int32) (i : Nat) : Bool := x.toBitVec.getLsbD i
theorem b_ext {x y : Int32} (h : ∀ i, i < 32 → bt x i = bt y i) : x = y := Int32.toBitVec_inj.mp (BitVec.eq_of_getLsbD_eq (fun i hi => h i hi))
theorem b_or (x y : Int32) (i : Nat) : bt (x ||| y) i = (bt x i || bt y i) := by unfold bt; rw [Int32.toBitVec_or, BitVec.getLsbD_or]
theorem b_and (x y : Int32) (i : Nat) : bt (x &&& y) i = (bt x i && bt y i) := by unfold bt; rw [Int32.toBitVec_and, BitVec.getLsbD_and]
theorem b_xor (x y : Int32) (i : Nat) : bt (x ^^^ y) i = (bt x i ^^ bt y i) := by unfold bt; rw [Int32.toBitVec_xor, BitVec.getLsbD_xor]
theorem b_big {x : Int32} {i : Nat} (h : 32 ≤ i) : bt x i = false := BitVec.getLsbD_of_ge _ _ h
theorem b_255 (i : Nat) : bt 255 i = decide (i < 8) := by
  rcases Nat.lt_or_ge i 32 with h | h
  · exact (by decide +kernel : ∀ i, i < 32 → bt 255 i = decide (i < 8)) i h
  · rw [b_big h, decide_eq_false (by omega)]
theorem b_65535 (i : Nat) : bt 65535 i = decide (i < 16) := by
  rcases Nat.lt_or_ge i 32 with h | h
  · exact (by decide +kernel : ∀ i, i < 32 → bt 65535 i = decide (i < 16)) i h
  · rw [b_big h, decide_eq_false (by omega)]
theorem b_m1 : ∀ i, i < 32 → bt (-1) i = true := by decide +kernel
theorem b_0 (i : Nat) : bt 0 i = false := BitVec.getLsbD_zero
theorem s_l : ∀ n, n < 32 → ((nI n &&& 31).toBitVec.smod 32).toNat = n := by decide +kernel
theorem s_u : ∀ n, n < 32 → (((nI n).toUInt32 &&& Int32.toUInt32 31).toBitVec % 32).toNat = n := by decide +kernel
theorem b_shl (n : Nat) (hn : n < 32) (x : Int32) {i : Nat} (hi : i < 32) : bt (x <<< (nI n &&& 31)) i = (decide (n ≤ i) && bt x (i - n)) := by
  unfold bt
  rw [Int32.toBitVec_shiftLeft]
  show (x.toBitVec <<< ((nI n &&& 31).toBitVec.smod 32).toNat).getLsbD i = _
  rw [s_l n hn, BitVec.getLsbD_shiftLeft]
  rcases Nat.lt_or_ge i n with h | h
  · simp [h, Nat.not_le.mpr h]
  · simp [hi, h, Nat.not_lt.mpr h]
theorem b_ushr (n : Nat) (hn : n < 32) (x : Int32) (i : Nat) : bt ((x.toUInt32 >>> ((nI n).toUInt32 &&& Int32.toUInt32 31)).toInt32) i = bt x (n + i) := by
  show (x.toUInt32 >>> ((nI n).toUInt32 &&& Int32.toUInt32 31)).toBitVec.getLsbD i = x.toUInt32.toBitVec.getLsbD (n + i)
  rw [UInt32.toBitVec_shiftRight]
  show (x.toUInt32.toBitVec >>> (((nI n).toUInt32 &&& Int32.toUInt32 31).toBitVec % 32).toNat).getLsbD i = _
  rw [s_u n hn, BitVec.getLsbD_ushiftRight]
theorem b_sshr (n : Nat) (hn : n < 32) (x : Int32) {i : Nat} (hi : i < 32) : bt (x >>> (nI n &&& 31)) i = if n + i < 32 then bt x (n + i) else bt x 31 := by
  unfold bt
  rw [Int32.toBitVec_shiftRight]
  show (x.toBitVec.sshiftRight ((nI n &&& 31).toBitVec.smod 32).toNat).getLsbD i = _
  rw [s_l n hn, BitVec.getLsbD_sshiftRight, BitVec.msb_eq_getLsbD_last]
  simp [hi]
def fb_ct (p : Nat → Bool) : Nat → Nat
  | 0 => 0
  | n + 1 => fb_ct p n + (if p n then 1 else 0)
theorem fb_ct_succ (p : Nat → Bool) (n : Nat) : fb_ct p (n + 1) = fb_ct p n + (if p n then 1 else 0) := rfl
theorem fb_ct_le (p : Nat → Bool) : ∀ n, fb_ct p n ≤ n
  | 0 => Nat.le_refl _
  | n + 1 => by
    have h := fb_ct_le p n
    rw [fb_ct_succ]
    split <;> omega
theorem fb_ct_step (p : Nat → Bool) (m : Nat) : ∀ n, fb_ct p m ≤ fb_ct p (m + n)
  | 0 => Nat.le_refl _
  | n + 1 => by
    have h := fb_ct_step p m n
    show fb_ct p m ≤ fb_ct p (m + n + 1)
    rw [fb_ct_succ]
    omega
theorem fb_ct_mono (p : Nat → Bool) {m n : Nat} (h : m ≤ n) : fb_ct p m ≤ fb_ct p n := by
  have := fb_ct_step p m (n - m)
  rwa [Nat.add_sub_cancel' h] at this
theorem fb_ct_cong {p q : Nat → Bool} : ∀ {n : Nat}, (∀ k, k < n → p k = q k) → fb_ct p n = fb_ct q n
  | 0, _ => rfl
  | n + 1, h => by
    rw [fb_ct_succ, fb_ct_succ, fb_ct_cong (fun k hk => h k (by omega)), h n (by omega)]
/-- one place changed -/
theorem fb_ct_out (p : Nat → Bool) (b : Bool) {i n : Nat} (h : n ≤ i) : fb_ct (fun k => if k = i then b else p k) n = fb_ct p n :=
  fb_ct_cong fun k hk => if_neg (by omega)
theorem fb_ct_upd (p : Nat → Bool) (b : Bool) {i : Nat} : ∀ {n : Nat}, i < n → fb_ct (fun k => if k = i then b else p k) n + (if p i then 1 else 0) = fb_ct p n + (if b then 1 else 0)
  | 0, h => absurd h (Nat.not_lt_zero i)
  | n + 1, h => by
    rw [fb_ct_succ, fb_ct_succ]
    rcases Nat.lt_or_ge i n with q | q
    · have := fb_ct_upd p b q
      have e : (if n = i then b else p n) = p n := if_neg (by omega)
      rw [e]
      omega
    · have e : i = n := by omega
      subst e
      rw [fb_ct_out p b (Nat.le_refl _)]
      simp only [if_true]
      omega
theorem fb_ct_sub {p q : Nat → Bool} : ∀ {n : Nat}, (∀ k, k < n → p k = true → q k = true) → fb_ct p n ≤ fb_ct q n
  | 0, _ => Nat.le_refl _
  | n + 1, h => by
    have h1 := fb_ct_sub (n := n) (p := p) (q := q) (fun k hk => h k (by omega))
    have h2 := h n (by omega)
    rw [fb_ct_succ, fb_ct_succ]
    cases hp : p n <;> cases hq : q n <;> simp_all <;> omega
theorem fb_ct_or {p q : Nat → Bool} : ∀ {n : Nat}, (∀ k, k < n → ¬ (p k = true ∧ q k = true)) → fb_ct (fun k => p k || q k) n = fb_ct p n + fb_ct q n
  | 0, _ => rfl
  | n + 1, h => by
    have h1 := fb_ct_or (n := n) (p := p) (q := q) (fun k hk => h k (by omega))
    have h2 := h n (by omega)
    rw [fb_ct_succ, fb_ct_succ, fb_ct_succ, h1]
    cases hp : p n <;> cases hq : q n <;> simp_all <;> omega
theorem fb_ct_not (p : Nat → Bool) : ∀ n, fb_ct p n + fb_ct (fun k => !p k) n = n
  | 0 => rfl
  | n + 1 => by
    have h := fb_ct_not p n
    rw [fb_ct_succ, fb_ct_succ]
    cases p n <;> simp <;> omega
theorem fb_ct_split (p : Nat → Bool) (m : Nat) : ∀ n, fb_ct p (m + n) = fb_ct p m + fb_ct (fun k => p (m + k)) n
  | 0 => rfl
  | n + 1 => by
    have h := fb_ct_split p m n
    show fb_ct p (m + n + 1) = _
    rw [fb_ct_succ, fb_ct_succ, h, Nat.add_assoc]
theorem fb_ct_zero {p : Nat → Bool} : ∀ {n : Nat}, fb_ct p n = 0 ↔ ∀ k, k < n → p k = false
  | 0 => ⟨fun _ k hk => absurd hk (Nat.not_lt_zero k), fun _ => rfl⟩
  | n + 1 => by
    have h := fb_ct_zero (p := p) (n := n)
    rw [fb_ct_succ]
    constructor
    · intro e k hk
      have e1 : fb_ct p n = 0 := by omega
      rcases Nat.lt_or_ge k n with q | q
      · exact h.mp e1 k q
      · have ek : k = n := by omega
        subst ek
        cases hp : p k
        · rfl
        · simp [hp] at e
    · intro a
      rw [h.mpr (fun k hk => a k (by omega)), a n (by omega)]
      rfl
/-! longs by their bits -/
def btL (x : Int64) (i : Nat) : Bool := x.toBitVec.getLsbD i
theorem L_ext {x y : Int64} (h : ∀ i, i < 64 → btL x i = btL y i) : x = y := Int64.toBitVec_inj.mp (BitVec.eq_of_getLsbD_eq (fun i hi => h i hi))
theorem L_or (x y : Int64) (i : Nat) : btL (x ||| y) i = (btL x i || btL y i) := by unfold btL; rw [Int64.toBitVec_or, BitVec.getLsbD_or]
theorem L_and (x y : Int64) (i : Nat) : btL (x &&& y) i = (btL x i && btL y i) := by unfold btL; rw [Int64.toBitVec_and, BitVec.getLsbD_and]
theorem L_0 (i : Nat) : btL 0 i = false := BitVec.getLsbD_zero
theorem L_tp : ∀ k, k < 64 → ((1 : Int64) <<< ((nI k).toInt64 &&& 63)).toBitVec = BitVec.twoPow 64 k := by decide +kernel
theorem L_one {k : Nat} (hk : k < 64) (i : Nat) : btL ((1 : Int64) <<< ((nI k).toInt64 &&& 63)) i = decide (i = k) := by
  unfold btL
  rw [L_tp k hk, BitVec.getLsbD_twoPow]
  by_cases h : i = k
  · subst h; simp [hk]
  · simp [h, Ne.symm h]
theorem L_sm : ∀ n, n < 64 → (((nI n).toInt64 &&& 63).toBitVec.smod 64).toNat = n := by decide +kernel
theorem L_shr0 {n : Nat} (hn : n < 64) (x : Int64) : btL (x >>> ((nI n).toInt64 &&& 63)) 0 = btL x n := by
  unfold btL
  rw [Int64.toBitVec_shiftRight]
  show (x.toBitVec.sshiftRight (((nI n).toInt64 &&& 63).toBitVec.smod 64).toNat).getLsbD 0 = _
  rw [L_sm n hn, BitVec.getLsbD_sshiftRight]
  simp [hn]
theorem L_1 (i : Nat) : btL 1 i = decide (i = 0) := by
  rcases Nat.lt_or_ge i 64 with h | h
  · exact (by decide +kernel : ∀ i, i < 64 → btL 1 i = decide (i = 0)) i h
  · unfold btL; rw [BitVec.getLsbD_of_ge _ _ h, decide_eq_false (by omega)]
/-- one bit of a long -/
theorem L_bit {n : Nat} (hn : n < 64) (x : Int64) : ((x >>> ((nI n).toInt64 &&& 63)) &&& (1 : Int64)) = 0 ↔ btL x n = false := by
  constructor
  · intro h
    have h1 := congrArg (fun z => btL z 0) h
    simp only [L_and, L_shr0 hn, L_1, L_0] at h1
    simpa using h1
  · intro h
    refine L_ext fun i hi => ?_
    rw [L_and, L_1, L_0]
    by_cases h0 : i = 0
    · subst h0; rw [L_shr0 hn, h]; rfl
    · simp [h0]
theorem lg_eq0 (a b : Int64) : (lg_cmp a b = 0) = (a = b) := by
  unfold lg_cmp
  by_cases h1 : a > b
  · rw [if_pos h1]
    have h1 : b < a := h1
    exact propext ⟨fun h => absurd h (by decide), fun h => by subst h; rw [i64lt] at h1; omega⟩
  · rw [if_neg h1]
    by_cases h2 : a = b
    · rw [if_pos h2]; exact propext ⟨fun _ => h2, fun _ => rfl⟩
    · rw [if_neg h2]; exact propext ⟨fun h => absurd h (by decide), fun h => absurd h h2⟩
/-- one bit of an int -/
theorem I_bit {n : Nat} (hn : n < 31) (x : Int32) : ((x >>> (nI n &&& 31)) &&& (1 : Int32)) = 0 ↔ bt x n = false := by
  have e1 : ∀ i, i < 32 → bt 1 i = decide (i = 0) := by decide +kernel
  constructor
  · intro h
    have h1 := congrArg (fun z => bt z 0) h
    simp only [b_and, b_sshr n (by omega) x (show 0 < 32 by decide), e1 0 (by decide), b_0, Nat.add_zero, if_pos (show n < 32 by omega)] at h1
    simpa using h1
  · intro h
    refine b_ext fun i hi => ?_
    rw [b_and, e1 i hi, b_0]
    by_cases h0 : i = 0
    · subst h0; rw [b_sshr n (by omega) x hi, Nat.add_zero, if_pos (by omega), h]; rfl
    · simp [h0]
theorem I_bitv {n : Nat} (hn : n < 31) (x : Int32) : ((x >>> (nI n &&& 31)) &&& (1 : Int32)) = if bt x n then 1 else 0 := by
  have e1 : ∀ i, i < 32 → bt 1 i = decide (i = 0) := by decide +kernel
  refine b_ext fun i hi => ?_
  rw [b_and, e1 i hi]
  by_cases h0 : i = 0
  · subst h0
    rw [b_sshr n (by omega) x hi, Nat.add_zero, if_pos (by omega)]
    cases bt x n <;> rfl
  · rw [decide_eq_false h0, Bool.and_false]
    cases bt x n
    · rw [if_neg (by decide), b_0]
    · rw [if_pos rfl, e1 i hi, decide_eq_false h0]
theorem I_one {n : Nat} (hn : n < 32) (i : Nat) : bt ((1 : Int32) <<< (nI n &&& 31)) i = decide (i = n) := by
  rcases Nat.lt_or_ge i 32 with hi | hi
  · exact (by decide +kernel : ∀ n, n < 32 → ∀ i, i < 32 → bt ((1 : Int32) <<< (nI n &&& 31)) i = decide (i = n)) n hn i hi
  · rw [b_big hi, decide_eq_false (by omega)]
theorem bt_mI (p : Nat → Bool) (k : Nat) (hk : k ≤ 31) (i : Nat) : bt (mI p k) i = (decide (i < k) && p i) := by
  induction k with
  | zero => rw [mI, b_0]; simp
  | succ k ih =>
    rw [mI]
    by_cases h : p k
    · rw [if_pos h, b_or, ih (by omega), I_one (by omega)]
      by_cases hi : i = k
      · subst hi; simp [h]
      · have : (decide (i < k + 1)) = decide (i < k) := by simp; omega
        rw [this]; simp [hi]
    · rw [if_neg h, ih (by omega)]
      by_cases hi : i = k
      · subst hi; simp [h]
      · have : (decide (i < k + 1)) = decide (i < k) := by simp; omega
        rw [this]
/-- nets as bits -/
theorem btL_nbL (f : Nat → Int32) (k : Nat) (hf : ∀ i, i < k → isB (f i) 48) {c : Nat} (hc : c < 48) : btL (nbL f k) c = netK f (nI c) k := by
  induction k with
  | zero => rw [nbL, L_0]; rfl
  | succ k ih =>
    obtain ⟨j, h1, h2⟩ := hf k (by omega)
    rw [nbL, L_or, ih (fun i hi => hf i (by omega)), netK, h2, L_one (by omega)]
    congr 1
    by_cases h : c = j
    · subst h; simp
    · rw [decide_eq_false h, decide_eq_false (fun e => h ((nI_eq (by omega) (by omega)).1 e).symm)]
theorem isB.mono {x : Int32} {a b : Nat} (h : isB x a) (hab : a ≤ b) : isB x b := by
  obtain ⟨j, h1, h2⟩ := h
  exact ⟨j, by omega, h2⟩
theorem isB.cl {x : Int32} {a : Nat} (h : isB x a) (ha : a ≤ 2 ^ 31) : x = nI x.toNatClampNeg ∧ x.toNatClampNeg < a := by
  obtain ⟨j, h1, rfl⟩ := h
  rw [nI_clamp (by omega)]
  exact ⟨rfl, h1⟩
