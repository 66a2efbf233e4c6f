/-! How many bits a long has: Long.bitCount. -/
def vN (x : Int64) : Nat := x.toUInt64.toNat
theorem vN_lt (x : Int64) : vN x < 18446744073709551616 := x.toUInt64.toNat_lt
theorem vN_and (x y : Int64) : vN (x &&& y) = vN x &&& vN y := by
  show (x.toUInt64 &&& y.toUInt64).toNat = _
  rw [UInt64.toNat_and]; rfl
theorem vN_add (x y : Int64) : vN (x + y) = (vN x + vN y) % 18446744073709551616 := by
  show (x.toUInt64 + y.toUInt64).toNat = _
  rw [UInt64.toNat_add]; rfl
theorem vN_sub (x y : Int64) (h : vN y ≤ vN x) : vN (x - y) = vN x - vN y := by
  show (x.toUInt64 - y.toUInt64).toNat = _
  have := vN_lt x
  have e : (x.toUInt64 - y.toUInt64).toNat = (18446744073709551616 - y.toUInt64.toNat + x.toUInt64.toNat) % 18446744073709551616 := UInt64.toNat_sub _ _
  rw [e]
  show (18446744073709551616 - vN y + vN x) % 18446744073709551616 = _
  omega
theorem vN_shr (x : Int64) (s : UInt64) : vN (x.toUInt64 >>> s).toInt64 = vN x / 2 ^ (s.toNat % 64) := by
  show (x.toUInt64 >>> s).toNat = _
  rw [UInt64.toNat_shiftRight, Nat.shiftRight_eq_div_pow]; rfl
theorem vN_bt (x : Int64) (i : Nat) : btL x i = (vN x).testBit i := rfl
def mapB (f : Nat → Nat) : Nat → Nat → Nat
  | 0, _ => 0
  | k + 1, n => f (n % 256) + 256 * mapB f k (n / 256)
def mk8 (m : Nat) : Nat → Nat
  | 0 => 0
  | k + 1 => m + 256 * mk8 m k
theorem and_sp (a b : Nat) : a &&& b = (a % 256 &&& b % 256) + 256 * ((a / 256) &&& (b / 256)) := by
  have h1 : (a &&& b) % 2 ^ 8 = a % 2 ^ 8 &&& b % 2 ^ 8 := Nat.and_mod_two_pow
  have h2 : (a &&& b) / 2 ^ 8 = (a / 2 ^ 8) &&& (b / 2 ^ 8) := Nat.and_div_two_pow
  have h3 := Nat.div_add_mod (a &&& b) 256
  rw [show (2 : Nat) ^ 8 = 256 from rfl] at h1 h2
  rw [h1, h2] at h3
  omega
theorem mk_md {m : Nat} (hm : m < 256) (k : Nat) : mk8 m (k + 1) % 256 = m ∧ mk8 m (k + 1) / 256 = mk8 m k := by
  rw [mk8]; omega
theorem d1 : ∀ b, b < 256 → ∀ e, e < 2 → ((b / 2 + 128 * e) &&& 85) = ((b / 2) &&& 85) := by decide +kernel
theorem d2 : ∀ b, b < 256 → ∀ e, e < 4 → ((b / 4 + 64 * e) &&& 51) = ((b / 4) &&& 51) := by decide +kernel
def s1B (b : Nat) : Nat := b - ((b / 2) &&& 85)
def s2B (b : Nat) : Nat := (b &&& 51) + ((b / 4) &&& 51)
def s3B (b : Nat) : Nat := (b + b / 16) % 16
theorem st1 : ∀ (k n : Nat), n < 256 ^ k → ((n / 2) &&& mk8 85 k) ≤ n ∧ n - ((n / 2) &&& mk8 85 k) = mapB s1B k n
  | 0, n, h => by
    have : n = 0 := by simpa using h
    subst this
    exact ⟨Nat.zero_le _, rfl⟩
  | k + 1, n, h => by
    have hq : n / 256 < 256 ^ k := by rw [Nat.pow_succ] at h; omega
    obtain ⟨i1, i2⟩ := st1 k (n / 256) hq
    have e1 : n / 2 % 256 = n % 256 / 2 + 128 * (n / 256 % 2) := by omega
    have e2 : n / 2 / 256 = n / 256 / 2 := by omega
    have hb : n % 256 < 256 := Nat.mod_lt _ (by decide)
    rw [and_sp (n / 2), (mk_md (by decide) k).1, (mk_md (by decide) k).2, e1, e2, d1 _ hb _ (by omega), mapB, ← i2, s1B]
    have l1 : ((n % 256 / 2) &&& 85) ≤ n % 256 / 2 := Nat.and_le_left
    omega
theorem st2 : ∀ (k n : Nat), n < 256 ^ k → (n &&& mk8 51 k) + ((n / 4) &&& mk8 51 k) = mapB s2B k n
  | 0, n, h => by
    have : n = 0 := by simpa using h
    subst this
    rfl
  | k + 1, n, h => by
    have hq : n / 256 < 256 ^ k := by rw [Nat.pow_succ] at h; omega
    have i2 := st2 k (n / 256) hq
    have e1 : n / 4 % 256 = n % 256 / 4 + 64 * (n / 256 % 4) := by omega
    have e2 : n / 4 / 256 = n / 256 / 4 := by omega
    have hb : n % 256 < 256 := Nat.mod_lt _ (by decide)
    rw [and_sp (n / 4), and_sp n, (mk_md (by decide) k).1, (mk_md (by decide) k).2, e1, e2, d2 _ hb _ (by omega), mapB, ← i2, s2B]
    omega
def nib (b : Nat) : Prop := b % 16 ≤ 4 ∧ b / 16 ≤ 4
def allB (p : Nat → Prop) : Nat → Nat → Prop
  | 0, _ => True
  | k + 1, n => p (n % 256) ∧ allB p k (n / 256)
theorem nib_lo : ∀ (k n : Nat), allB nib k n → n < 256 ^ k → n % 16 ≤ 4
  | 0, n, _, h => by
    have : n = 0 := by simpa using h
    omega
  | k + 1, n, h, _ => by have := h.1.1; omega
theorem st3 : ∀ (k n : Nat), allB nib k n → n < 256 ^ k → ((n + n / 16) &&& mk8 15 k) = mapB s3B k n
  | 0, n, _, h => by
    show _ &&& 0 = 0
    exact Nat.and_zero _
  | k + 1, n, ha, h => by
    have hq : n / 256 < 256 ^ k := by rw [Nat.pow_succ] at h; omega
    obtain ⟨⟨a1, a2⟩, a3⟩ := ha
    have i2 := st3 k (n / 256) a3 hq
    have l := nib_lo k _ a3 hq
    have e1 : (n + n / 16) % 256 = n % 256 + n % 256 / 16 + 16 * (n / 256 % 16) := by omega
    have e2 : (n + n / 16) / 256 = n / 256 + n / 256 / 16 := by omega
    have e3 : ∀ x, x &&& 15 = x % 16 := fun x => Nat.and_two_pow_sub_one_eq_mod x 4
    rw [and_sp (n + n / 16), (mk_md (by decide) k).1, (mk_md (by decide) k).2, e1, e2, i2, mapB, e3, s3B]
    omega
theorem mapB_lt {f : Nat → Nat} (hf : ∀ b, b < 256 → f b < 256) : ∀ (k n : Nat), mapB f k n < 256 ^ k
  | 0, _ => Nat.one_pos
  | k + 1, n => by
    have h1 := mapB_lt hf k (n / 256)
    have h2 := hf (n % 256) (Nat.mod_lt _ (by decide))
    rw [mapB, Nat.pow_succ]; omega
theorem mapB_map {f g : Nat → Nat} (hf : ∀ b, b < 256 → f b < 256) : ∀ (k n : Nat), mapB g k (mapB f k n) = mapB (fun b => g (f b)) k n
  | 0, _ => rfl
  | k + 1, n => by
    have h2 := hf (n % 256) (Nat.mod_lt _ (by decide))
    rw [mapB, mapB, mapB, ← mapB_map hf k (n / 256)]
    rw [show (f (n % 256) + 256 * mapB f k (n / 256)) % 256 = f (n % 256) by omega, show (f (n % 256) + 256 * mapB f k (n / 256)) / 256 = mapB f k (n / 256) by omega]
theorem mapB_all {f : Nat → Nat} {p : Nat → Prop} (hf : ∀ b, b < 256 → f b < 256 ∧ p (f b)) : ∀ (k n : Nat), allB p k (mapB f k n)
  | 0, _ => trivial
  | k + 1, n => by
    have h2 := hf (n % 256) (Nat.mod_lt _ (by decide))
    rw [mapB, allB, show (f (n % 256) + 256 * mapB f k (n / 256)) % 256 = f (n % 256) by omega, show (f (n % 256) + 256 * mapB f k (n / 256)) / 256 = mapB f k (n / 256) by omega]
    exact ⟨h2.2, mapB_all hf k _⟩
theorem s1_lt : ∀ b, b < 256 → s1B b < 256 := by decide +kernel
theorem s2_lt : ∀ b, b < 256 → s2B b < 256 := by decide +kernel
theorem s2_ok : ∀ b, b < 256 → s2B (s1B b) < 256 ∧ (s2B (s1B b) % 16 ≤ 4 ∧ s2B (s1B b) / 16 ≤ 4) := by decide +kernel
theorem s3_ct : ∀ b, b < 256 → s3B (s2B (s1B b)) = fb_ct b.testBit 8 := by decide +kernel
/-- the sum of the bytes -/
def sumB : Nat → Nat → Nat
  | 0, _ => 0
  | k + 1, n => n % 256 + sumB k (n / 256)
theorem ct_sum : ∀ (k n : Nat), fb_ct n.testBit (8 * k) = sumB k (mapB (fun b => s3B (s2B (s1B b))) k n)
  | 0, _ => rfl
  | k + 1, n => by
    have hb : n % 256 < 256 := Nat.mod_lt _ (by decide)
    have hc : s3B (s2B (s1B (n % 256))) < 256 := by unfold s3B; omega
    rw [show 8 * (k + 1) = 8 + 8 * k by omega, fb_ct_split, mapB, sumB]
    rw [show (s3B (s2B (s1B (n % 256))) + 256 * mapB (fun b => s3B (s2B (s1B b))) k (n / 256)) % 256 = s3B (s2B (s1B (n % 256))) by omega, show (s3B (s2B (s1B (n % 256))) + 256 * mapB (fun b => s3B (s2B (s1B b))) k (n / 256)) / 256 = mapB (fun b => s3B (s2B (s1B b))) k (n / 256) by omega]
    rw [← ct_sum k (n / 256), s3_ct _ hb]
    congr 1
    · refine fb_ct_cong fun i hi => ?_
      rw [show (256 : Nat) = 2 ^ 8 from rfl, Nat.testBit_mod_two_pow, decide_eq_true hi, Bool.true_and]
    · refine fb_ct_cong fun i hi => ?_
      rw [show (256 : Nat) = 2 ^ 8 from rfl, Nat.testBit_div_two_pow, Nat.add_comm]
theorem sumB8 {m : Nat} (h : allB (fun b => b ≤ 8) 8 m) (hm : m < 256 ^ 8) : ((m + m / 256) + (m + m / 256) / 65536 + ((m + m / 256) + (m + m / 256) / 65536) / 4294967296) % 128 = sumB 8 m ∧ m + m / 256 < 18446744073709551616 ∧ (m + m / 256) + (m + m / 256) / 65536 < 18446744073709551616 ∧ (m + m / 256) + (m + m / 256) / 65536 + ((m + m / 256) + (m + m / 256) / 65536) / 4294967296 < 18446744073709551616 := by
  obtain ⟨h0, h1, h2, h3, h4, h5, h6, h7, -⟩ := h
  have h0 : m % 256 ≤ 8 := h0
  have h1 : m / 256 % 256 ≤ 8 := h1
  have h2 : m / 256 / 256 % 256 ≤ 8 := h2
  have h3 : m / 256 / 256 / 256 % 256 ≤ 8 := h3
  have h4 : m / 256 / 256 / 256 / 256 % 256 ≤ 8 := h4
  have h5 : m / 256 / 256 / 256 / 256 / 256 % 256 ≤ 8 := h5
  have h6 : m / 256 / 256 / 256 / 256 / 256 / 256 % 256 ≤ 8 := h6
  have h7 : m / 256 / 256 / 256 / 256 / 256 / 256 / 256 % 256 ≤ 8 := h7
  simp only [sumB]
  have hm : m < 18446744073709551616 := hm
  generalize f0 : m % 256 = c0 at *
  generalize f1 : m / 256 % 256 = c1 at *
  generalize f2 : m / 256 / 256 % 256 = c2 at *
  generalize f3 : m / 256 / 256 / 256 % 256 = c3 at *
  generalize f4 : m / 256 / 256 / 256 / 256 % 256 = c4 at *
  generalize f5 : m / 256 / 256 / 256 / 256 / 256 % 256 = c5 at *
  generalize f6 : m / 256 / 256 / 256 / 256 / 256 / 256 % 256 = c6 at *
  generalize f7 : m / 256 / 256 / 256 / 256 / 256 / 256 / 256 % 256 = c7 at *
  have a4 : m = (c0) + 256 * (c1) + 65536 * (c2) + 16777216 * (c3) + 4294967296 * (c4) + 1099511627776 * (c5) + 281474976710656 * (c6) + 72057594037927936 * (c7) := by omega
  have a4s : m / 256 = (c1) + 256 * (c2) + 65536 * (c3) + 16777216 * (c4) + 4294967296 * (c5) + 1099511627776 * (c6) + 281474976710656 * (c7) := by omega
  have a5 : m + m / 256 = (c0 + c1) + 256 * (c1 + c2) + 65536 * (c2 + c3) + 16777216 * (c3 + c4) + 4294967296 * (c4 + c5) + 1099511627776 * (c5 + c6) + 281474976710656 * (c6 + c7) + 72057594037927936 * (c7) := by omega
  clear f0 f1 f2 f3 f4 f5 f6 f7 a4 a4s
  generalize m + m / 256 = x5 at *
  have a5s : x5 / 65536 = (c2 + c3) + 256 * (c3 + c4) + 65536 * (c4 + c5) + 16777216 * (c5 + c6) + 4294967296 * (c6 + c7) + 1099511627776 * (c7) := by omega
  have a6 : x5 + x5 / 65536 = (c0 + c1 + c2 + c3) + 256 * (c1 + c2 + c3 + c4) + 65536 * (c2 + c3 + c4 + c5) + 16777216 * (c3 + c4 + c5 + c6) + 4294967296 * (c4 + c5 + c6 + c7) + 1099511627776 * (c5 + c6 + c7) + 281474976710656 * (c6 + c7) + 72057594037927936 * (c7) := by omega
  have b5 : x5 < 18446744073709551616 := by omega
  clear a5 a5s
  generalize x5 + x5 / 65536 = x6 at *
  have a6s : x6 / 4294967296 = (c4 + c5 + c6 + c7) + 256 * (c5 + c6 + c7) + 65536 * (c6 + c7) + 16777216 * (c7) := by omega
  have a7 : x6 + x6 / 4294967296 = (c0 + c1 + c2 + c3 + c4 + c5 + c6 + c7) + 256 * (c1 + c2 + c3 + c4 + c5 + c6 + c7) + 65536 * (c2 + c3 + c4 + c5 + c6 + c7) + 16777216 * (c3 + c4 + c5 + c6 + c7) + 4294967296 * (c4 + c5 + c6 + c7) + 1099511627776 * (c5 + c6 + c7) + 281474976710656 * (c6 + c7) + 72057594037927936 * (c7) := by omega
  have b6 : x6 < 18446744073709551616 := by omega
  clear a6 a6s
  generalize x6 + x6 / 4294967296 = x7 at *
  refine ⟨by omega, b5, b6, by omega⟩
theorem pop64 (μ : Mm) (w : Int64) : f_J13_bitCount_95d88 μ w = some (nI (fb_ct (btL w) 64), μ) := by
  unfold f_J13_bitCount_95d88
  simp only [nm]
  have L := vN_lt w
  have c55 : vN 6148914691236517205 = mk8 85 8 := by decide
  have c33 : vN 3689348814741910323 = mk8 51 8 := by decide
  have c0f : vN 1085102592571150095 = mk8 15 8 := by decide
  have k1 : ((1 : Int32).toInt64.toUInt64 &&& Int64.toUInt64 63).toNat % 64 = 1 := by decide
  have k2 : ((2 : Int32).toInt64.toUInt64 &&& Int64.toUInt64 63).toNat % 64 = 2 := by decide
  have k4 : ((4 : Int32).toInt64.toUInt64 &&& Int64.toUInt64 63).toNat % 64 = 4 := by decide
  have k8 : ((8 : Int32).toInt64.toUInt64 &&& Int64.toUInt64 63).toNat % 64 = 8 := by decide
  have k16 : ((16 : Int32).toInt64.toUInt64 &&& Int64.toUInt64 63).toNat % 64 = 16 := by decide
  have k32 : ((32 : Int32).toInt64.toUInt64 &&& Int64.toUInt64 63).toNat % 64 = 32 := by decide
  generalize e1 : w - ((((w).toUInt64 >>> (((1 : Int32)).toInt64.toUInt64 &&& Int64.toUInt64 63)).toInt64) &&& (6148914691236517205 : Int64)) = w2
  have v2 : vN w2 = mapB s1B 8 (vN w) := by
    obtain ⟨i1, i2⟩ := st1 8 (vN w) L
    rw [← e1, vN_sub, vN_and, vN_shr, c55, k1]
    · exact i2
    · rw [vN_and, vN_shr, c55, k1]; exact i1
  generalize e2 : ((w2 &&& (3689348814741910323 : Int64)) + ((((w2).toUInt64 >>> (((2 : Int32)).toInt64.toUInt64 &&& Int64.toUInt64 63)).toInt64) &&& (3689348814741910323 : Int64))) = w3
  have v3 : vN w3 = mapB s2B 8 (vN w2) := by
    have i2 := st2 8 (vN w2) (vN_lt w2)
    have i3 := mapB_lt s2_lt 8 (vN w2)
    rw [← e2, vN_add, vN_and, vN_and, vN_shr, c33, k2]
    rw [show 2 ^ 2 = 4 from rfl, i2]
    exact Nat.mod_eq_of_lt i3
  generalize e3 : ((w3 + (((w3).toUInt64 >>> (((4 : Int32)).toInt64.toUInt64 &&& Int64.toUInt64 63)).toInt64)) &&& (1085102592571150095 : Int64)) = w4
  have v4 : vN w4 = mapB s3B 8 (vN w3) := by
    have ha : allB nib 8 (vN w3) := by rw [v3, v2, mapB_map s1_lt]; exact mapB_all (f := fun b => s2B (s1B b)) (fun b hb => s2_ok b hb) 8 _
    have i2 := st3 8 (vN w3) ha (vN_lt w3)
    rw [← e3, vN_and, vN_add, vN_shr, c0f, k4, ← i2, show 2 ^ 4 = 16 from rfl]
    congr 1
    have h7 : vN w3 / 16 + vN w3 < 18446744073709551616 := by
      obtain ⟨-, -, -, -, -, -, -, h7, -⟩ := ha
      have := vN_lt w3
      have h8 := h7.2
      omega
    omega
  have v4' : vN w4 = mapB (fun b => s3B (s2B (s1B b))) 8 (vN w) := by
    rw [v4, v3, v2, mapB_map s1_lt, mapB_map (f := fun b => s2B (s1B b)) (fun b hb => (s2_ok b hb).1)]
  have hall : allB (fun b => b ≤ 8) 8 (vN w4) := by
    rw [v4']
    exact mapB_all (fun b hb => by rw [s3_ct b hb]; exact ⟨by have := fb_ct_le b.testBit 8; omega, fb_ct_le _ 8⟩) 8 _
  obtain ⟨t1, t2, t3, t4⟩ := sumB8 hall (vN_lt w4)
  generalize e5 : (w4 + (((w4).toUInt64 >>> (((8 : Int32)).toInt64.toUInt64 &&& Int64.toUInt64 63)).toInt64)) = w5
  have v5 : vN w5 = vN w4 + vN w4 / 256 := by
    rw [← e5, vN_add, vN_shr, k8]; exact Nat.mod_eq_of_lt t2
  generalize e6 : (w5 + (((w5).toUInt64 >>> (((16 : Int32)).toInt64.toUInt64 &&& Int64.toUInt64 63)).toInt64)) = w6
  have v6 : vN w6 = vN w5 + vN w5 / 65536 := by
    rw [← e6, vN_add, vN_shr, k16]
    exact Nat.mod_eq_of_lt (by rw [v5]; exact t3)
  generalize e7 : (w6 + (((w6).toUInt64 >>> (((32 : Int32)).toInt64.toUInt64 &&& Int64.toUInt64 63)).toInt64)) = w7
  have v7 : vN w7 = vN w6 + vN w6 / 4294967296 := by
    rw [← e7, vN_add, vN_shr, k32]
    exact Nat.mod_eq_of_lt (by rw [v6, v5]; exact t4)
  have ct : fb_ct (btL w) 64 = vN w7 % 128 := by
    rw [v7, v6, v5, t1, v4', ← ct_sum 8 (vN w)]
    rfl
  rw [ct]
  congr 2
  refine b_ext fun i hi => ?_
  rw [b_and]
  have q1 : bt 127 i = decide (i < 7) := (by decide +kernel : ∀ i, i < 32 → bt 127 i = decide (i < 7)) i hi
  have q2 : bt w7.toInt32 i = (vN w7).testBit i := by
    unfold bt
    rw [Int64.toBitVec_toInt32, BitVec.getLsbD_signExtend, if_pos (by omega), decide_eq_true hi, Bool.true_and]
    rfl
  have q3 : bt (nI (vN w7 % 128)) i = (vN w7 % 128).testBit i := by
    show (BitVec.ofNat 32 (vN w7 % 128)).getLsbD i = _
    rw [BitVec.getLsbD_ofNat, decide_eq_true hi, Bool.true_and]
  rw [q1, q2, q3, show (128 : Nat) = 2 ^ 7 from rfl, Nat.testBit_mod_two_pow, Bool.and_comm]
theorem ct1 (μ : Mm) : ∀ b, b < 256 → f_J6_bitCount_0f7a4 μ (nI b) = some (nI (fb_ct b.testBit 8), μ) := by
  have h : ∀ b, b < 256 → (f_J6_bitCount_0f7a4 (0, 0, fun _ => .inr (0, [])) (nI b)).map (·.1) = some (nI (fb_ct b.testBit 8)) := by decide +kernel
  intro b hb
  have h1 := h b hb
  unfold f_J6_bitCount_0f7a4 at h1 ⊢
  simp only [nm, Option.map_some, Option.some.injEq] at h1 ⊢
  rw [h1]
