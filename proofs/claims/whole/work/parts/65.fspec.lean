/-! Falls: numbers of bits, others in a cell, what a fall is. -/
def ct8 (x : Int32) : Nat := fb_ct (bt x) 8
theorem bc8 (μ : Mm) {x : Int32} (h : isB x 256) : f_J6_bitCount_0f7a4 μ x = some (nI (ct8 x), μ) := by
  obtain ⟨b, hb, rfl⟩ := h
  rw [ct1 μ b hb]
  unfold ct8
  rw [fb_ct_cong (fun k hk => bt_nI b k (by omega))]
theorem s_bitsL (μ : Mm) (x : Int32) (K : Mm → Int32 → Option (Int32 × Mm)) : ∀ (k i f : Nat), i + k = 16 → k < f → f_X12_bits_L4 K f μ x (nI (fb_ct (bt x) i)) (nI i) = K μ (nI (fb_ct (bt x) 16)) := by
  intro k
  induction k with
  | zero =>
    intro i f h1 h2
    obtain ⟨f, rfl⟩ : ∃ k, f = k + 1 := ⟨f - 1, by omega⟩
    obtain rfl : i = 16 := by omega
    rw [f_X12_bits_L4, if_pos (by decide)]
  | succ k ih =>
    intro i f h1 h2
    obtain ⟨f, rfl⟩ : ∃ k, f = k + 1 := ⟨f - 1, by omega⟩
    have ih1 := ih (i + 1) f (by omega) (by omega)
    rw [f_X12_bits_L4, if_neg (show ¬ (16 : Int32) ≤ nI i from nI_ge (b := 16) (by omega) (by decide)), nm_q, nm_q, I_bitv (by omega), oin1, nI_add]
    rw [fb_ct_succ] at ih1
    cases hb : bt x i
    · rw [hb, if_neg (by decide), Nat.add_zero] at ih1
      rw [if_neg (by decide), lit_0, nI_add, Nat.add_zero]; exact ih1
    · rw [hb, if_pos rfl] at ih1
      rw [if_pos rfl, lit_1, nI_add]; exact ih1
theorem s_bits (μ : Mm) {x : Int32} (h : isB x 256) : f_X12_bits μ x = some (nI (ct8 x), μ) := by
  have q := s_bitsL μ x (fun μ9 x10 => (some (x10, μ9))) 16 0 FU rfl (by unfold FU; omega)
  rw [show nI (fb_ct (bt x) 0) = (0 : Int32) from rfl, show nI 0 = (0 : Int32) from rfl] at q
  unfold f_X12_bits
  rw [nm_q, nm_q, q]
  unfold ct8
  rw [fb_ct_split (bt x) 8 8, fb_ct_zero.2 (fun k hk => isB8.1 h (8 + k) (by omega) (by omega)), Nat.add_zero]
/-- others than q in cell c, of k people -/
def othK (D : Dt) (q c : Nat) : Nat → Nat := fb_ct (fun p => decide (D 191 p = nI c) && !decide (p = q))
def oth (D : Dt) (q c : Nat) : Nat := othK D q c (dN D 2)
theorem s_othersL {ρ : Mm} {τ : Nat → va_E} {σ : Sg} {P q c : Nat} (hP : σ.2.1 189 2 = nI P) (hP5 : P ≤ 5) (hq : q < 5) (K : Mm → Int32 → Option (Int32 × Mm)) : ∀ (k i f : Nat), i + k = P → k < f → f_X12_othersIn_L5 K f (mem ρ τ σ) 188 (nI c) (nI q) (nI (othK (cur σ) q c i)) (nI i) = K (mem ρ τ σ) (nI (othK (cur σ) q c P)) := by
  intro k
  induction k with
  | zero =>
    intro i f h1 h2
    obtain ⟨f, rfl⟩ : ∃ k, f = k + 1 := ⟨f - 1, by omega⟩
    obtain rfl : i = P := by omega
    rw [f_X12_othersIn_L5]
    simp only [mR_1, sc_2, Option.bind_some, hP]
    rw [if_pos (nI_le (by omega) (by omega))]
  | succ k ih =>
    intro i f h1 h2
    obtain ⟨f, rfl⟩ : ∃ k, f = k + 1 := ⟨f - 1, by omega⟩
    have ih1 := ih (i + 1) f (by omega) (by omega)
    unfold othK at ih1 ⊢
    rw [fb_ct_succ] at ih1
    rw [f_X12_othersIn_L5]
    simp only [mR_1, mR_3, sc_2, Option.bind_some, hP, y191_r (show i < 5 by omega), nm, oin1, nI_add]
    rw [if_neg (nI_ge (by omega) (by omega))]
    by_cases h : i = q
    · subst h
      rw [if_pos rfl, lit_0, nI_add, Nat.add_zero]
      simp only [decide_true, Bool.not_true, Bool.and_false, Bool.false_eq_true, ↓reduceIte, Nat.add_zero] at ih1
      exact ih1
    · rw [if_neg (fun e => h ((nI_eq (by omega) (by omega)).1 e)), ← cu_191 (show i < 5 by omega)]
      simp only [h, decide_false, Bool.not_false, Bool.and_true] at ih1
      by_cases h2 : cur σ 191 i = nI c
      · rw [if_pos h2, lit_1, nI_add]
        rw [if_pos (decide_eq_true h2)] at ih1
        exact ih1
      · rw [if_neg h2, lit_0, nI_add, Nat.add_zero]
        rw [if_neg (by simp [h2]), Nat.add_zero] at ih1
        exact ih1
theorem s_othersIn {ρ : Mm} {τ : Nat → va_E} {σ : Sg} {nr q c : Nat} (hD : DG nr (cur σ)) (hq : q < dN (cur σ) 2) : f_X12_othersIn (mem ρ τ σ) 188 (nI c) (nI q) = some (nI (oth (cur σ) q c), mem ρ τ σ) := by
  have b := hD.bP
  have z := s_othersL (ρ := ρ) (τ := τ) (c := c) (P := dN (cur σ) 2) (q := q) hD.sP b (by omega) (fun μ21 x22 => (some (x22, μ21))) (dN (cur σ) 2) 0 FU (by omega) (by unfold FU; omega)
  rw [show nI (othK (cur σ) q c 0) = (0 : Int32) from rfl, show nI 0 = (0 : Int32) from rfl] at z
  unfold f_X12_othersIn
  rw [nm_q, nm_q, z]
  rfl
theorem bnot (x : Int32) {i : Nat} (hi : i < 32) : bt (x ^^^ (-1)) i = !bt x i := by
  rw [b_xor, b_m1 i hi, Bool.xor_true]
/-- the others as the class counts them -/
theorem c_oth {D : Dt} {nr q c : Nat} {f : Nat → Int32} (hD : DG nr D) (hq : q < dN D 2) (hf : ∀ p, p < dN D 2 → f p = D 191 p) : isB (mI (fun p => decide (f p = nI c)) (dN D 2) &&& (((1 : Int32) <<< (nI q &&& 31)) ^^^ (-1))) 256 ∧ ct8 (mI (fun p => decide (f p = nI c)) (dN D 2) &&& (((1 : Int32) <<< (nI q &&& 31)) ^^^ (-1))) = oth D q c := by
  have b := hD.bP
  refine ⟨isB8.2 fun i h1 h2 => ?_, ?_⟩
  · rw [b_and, bt_mI _ _ (by omega), decide_eq_false (by omega)]; rfl
  · unfold ct8 oth othK
    have h1 := fb_ct_split (bt (mI (fun p => decide (f p = nI c)) (dN D 2) &&& (((1 : Int32) <<< (nI q &&& 31)) ^^^ (-1)))) (dN D 2) (8 - dN D 2)
    rw [show dN D 2 + (8 - dN D 2) = 8 by omega] at h1
    have h0 : fb_ct (fun k => bt (mI (fun p => decide (f p = nI c)) (dN D 2) &&& (((1 : Int32) <<< (nI q &&& 31)) ^^^ (-1))) (dN D 2 + k)) (8 - dN D 2) = 0 := fb_ct_zero.2 fun k hk => by
      rw [b_and, bt_mI _ _ (by omega), decide_eq_false (by omega)]; rfl
    rw [h1, h0, Nat.add_zero]
    · refine fb_ct_cong fun k hk => ?_
      rw [b_and, bt_mI _ _ (by omega), bnot _ (by omega), I_one (by omega), decide_eq_true hk, Bool.true_and, hf k hk]
/-- force, steps, what broke, what was lost -/
abbrev Fst : Type := Int32 × Nat × Int32 × Int32
/-- the words of a touch -/
def wdF (D : Dt) (q t c : Nat) (drop : Int32) (x : Fst) : Nat → Int32 := fun i => if i = 0 then nI q else if i = 1 then nI t else if i = 2 then x.1 else if i = 3 then drop else if i = 4 then nI x.2.1 else if i = 5 then nI (dh D c) else if i = 6 then D 195 t else if i = 7 then D 196 t else if i = 8 then (if D 194 t = nI q then 1 else 0) else if i = 9 then nI (ct8 x.2.2.1) else if i = 10 then D 192 q else nI (oth D q c)
def tch (σ : Sg) (q c : Nat) (drop : Int32) (t : Nat) (x : Fst) : Fst := if LB σ (wdF (cur σ) q t c drop x) then (x.1, x.2.1, x.2.2.1 ||| ((1 : Int32) <<< (nI t &&& 31)), x.2.2.2 + LM σ (wdF (cur σ) q t c drop x)) else x
/-- lies whole in the cell -/
def whl (D : Dt) (c t : Nat) : Bool := decide (D 193 t = nI c) && !bt (D 189 7) t
def tchs (σ : Sg) (q c : Nat) (drop : Int32) : Nat → Fst → Fst
  | 0, x => x
  | k + 1, x => if whl (cur σ) c k then tch σ q c drop k (tchs σ q c drop k x) else tchs σ q c drop k x
def netB (D : Dt) (c : Nat) : Bool := netK (D 197) (nI c) (dN D 4)
def psh (D : Dt) (q d c : Nat) (p : Int32) : Int32 := if (p + (nI (dh D d) - nI (dh D c))) - D 192 q < 0 then 0 else (p + (nI (dh D d) - nI (dh D c))) - D 192 q
/-- a step from d to c -/
def stpF (σ : Sg) (q d c : Nat) (x : Fst) : Fst := if netB (cur σ) c then (0, x.2.1 + 1, x.2.2.1, x.2.2.2) else (if 0 < oth (cur σ) q c then ((tchs σ q c (nI (dh (cur σ) d) - nI (dh (cur σ) c)) (dN (cur σ) 3) (psh (cur σ) q d c x.1, x.2.1 + 1, x.2.2.1, x.2.2.2)).1 / 2, (tchs σ q c (nI (dh (cur σ) d) - nI (dh (cur σ) c)) (dN (cur σ) 3) (psh (cur σ) q d c x.1, x.2.1 + 1, x.2.2.1, x.2.2.2)).2) else tchs σ q c (nI (dh (cur σ) d) - nI (dh (cur σ) c)) (dN (cur σ) 3) (psh (cur σ) q d c x.1, x.2.1 + 1, x.2.2.1, x.2.2.2))
abbrev ldD (D : Dt) : Nat → Option Nat := lead (dN D 0) (dN D 1) (dh D)
def runF (σ : Sg) (q : Nat) : Nat → Nat → Option Nat → Fst → Nat × Fst
  | 0, c, _, x => (c, x)
  | _ + 1, c, none, x => (c, x)
  | k + 1, c, some d, x => runF σ q k d (if netB (cur σ) d then none else ldD (cur σ) d) (stpF σ q c d x)
