/-! Trays: the class counts. -/
section CTRAYS
variable {nr n sl g : Nat} {U : Nat → va_E} {S : Nat → Nat × Nat × Nat} {σ σ1 : Sg} {D : Dt}
/-- what the class has counted -/
def CA (T : Tc) (m : Nat) (a : Acc) : Prop := T.1 181 2 = nI a.1 ∧ (a.1 ≠ 0 → ∀ i, i < m → T.2.1 184 i = nI (a.2 i))
abbrev TrK (T T' : Tc) : Prop := agr (fun r => r ≠ 181 ∧ r ≠ 184) T T'
theorem c_addSets {T : Tc} {m c : Nat} {a : Acc} {π : Nat → Nat} {x y z : Int32} (hc : c < 65) (ha : a.1 < 2 ^ 30) (hA : CA T m a) (h0 : 0 < m → x = nI (π 0)) (h1 : 1 < m → y = nI (π 1)) (h2 : 2 < m → 0 < c → z = nI (π 2)) (hm : m ≤ 3) : ∃ T', f_X8_addSets (cn n sl U S T σ1) 181 x y z (nI c) = some (cn n sl U S T' σ1) ∧ CA T' m (a.1 + c, if a.1 = 0 then (if 0 < c then π else a.2) else a.2) ∧ TrK T T' := by
  have w0 : ∀ (T : Tc) v, sI (cn n sl U S T σ1) 184 0 (0 : Int32) v = some (cn n sl U S (tA T 184 0 v) σ1) := fun T v => x184_w (i := 0) (by decide)
  have w1 : ∀ (T : Tc) v, sI (cn n sl U S T σ1) 184 0 (1 : Int32) v = some (cn n sl U S (tA T 184 1 v) σ1) := fun T v => x184_w (i := 1) (by decide)
  have w2 : ∀ (T : Tc) v, sI (cn n sl U S T σ1) 184 0 (2 : Int32) v = some (cn n sl U S (tA T 184 2 v) σ1) := fun T v => x184_w (i := 2) (by decide)
  obtain ⟨a1, a2⟩ := hA
  unfold f_X8_addSets
  rw [x181_2, Option.bind_some, a1]
  by_cases e0 : a.1 = 0
  · rw [e0, if_pos (show nI 0 = 0 from rfl)]
    by_cases ec : c = 0
    · rw [ec, if_pos (show nI 0 ≤ 0 from by decide), Option.bind_some, x181_2p, Option.bind_some]
      refine ⟨_, rfl, ⟨?_, ?_⟩, agr_tI _ _ (fun h => h.1 rfl)⟩
      · rw [tI1, if_pos ⟨rfl, rfl⟩]; rfl
      · intro h; exact absurd rfl h
    · rw [if_neg (show ¬ nI c ≤ 0 from nI_ge (b := c) (a := 0) (by omega) (by omega)), x181_3, Option.bind_some, w0, Option.bind_some, x181_3, Option.bind_some, w1, Option.bind_some, x181_3, Option.bind_some, w2, Option.bind_some, x181_2, Option.bind_some, x181_2p, Option.bind_some]
      refine ⟨_, rfl, ⟨?_, ?_⟩, (((agr_tA _ _ (fun h => h.2 rfl)).trans (agr_tA _ _ (fun h => h.2 rfl))).trans (agr_tA _ _ (fun h => h.2 rfl))).trans (agr_tI _ _ (fun h => h.1 rfl))⟩
      · rw [tI1, if_pos ⟨rfl, rfl⟩, tA1, tA1, tA1, a1, e0, nI_add]
      · intro _ i hi
        rw [if_pos rfl, if_pos (by omega)]
        have ei : i = 0 ∨ i = 1 ∨ i = 2 := by omega
        rcases ei with rfl | rfl | rfl
        · rw [tI2, tA2, if_neg (by omega), tA2, if_neg (by omega), tA2, if_pos ⟨rfl, rfl⟩]; exact h0 hi
        · rw [tI2, tA2, if_neg (by omega), tA2, if_pos ⟨rfl, rfl⟩]; exact h1 hi
        · rw [tI2, tA2, if_pos ⟨rfl, rfl⟩]; exact h2 hi (by omega)
  · rw [if_neg (show ¬ nI a.1 = 0 from fun e => e0 ((nI_eq (b := 0) (by omega) (by decide)).1 e)), Option.bind_some, x181_2p, Option.bind_some]
    refine ⟨_, rfl, ⟨?_, ?_⟩, agr_tI _ _ (fun h => h.1 rfl)⟩
    · rw [tI1, if_pos ⟨rfl, rfl⟩, nI_add]
    · intro _ i hi
      rw [if_neg e0, tI2]; exact a2 e0 i hi
theorem c_lowL (K18 : Mm → Int32 → Option (Int32 × Mm)) (K26 : Mm → Option (Int32 × Mm)) (μ : Mm) (w : Int64) : ∀ (k i f : Nat), i + k = 48 → k < f → f_X8_lowestOf_L2 K18 K26 f μ w (nI i) = (match fiF (btL w) i k with | some v => K18 μ (nI v) | none => K26 μ) := by
  intro k
  induction k with
  | zero =>
    intro i f h1 h2
    obtain ⟨f, rfl⟩ : ∃ k, f = k + 1 := ⟨f - 1, by omega⟩
    obtain rfl : i = 48 := by omega
    rw [f_X8_lowestOf_L2, if_pos (by decide)]
    rfl
  | succ k ih =>
    intro i f h1 h2
    obtain ⟨f, rfl⟩ : ∃ k, f = k + 1 := ⟨f - 1, by omega⟩
    rw [f_X8_lowestOf_L2, if_neg (show ¬ (48 : Int32) ≤ nI i from nI_ge (b := 48) (by omega) (by decide)), fiF]
    cases hb : btL w i
    · rw [if_pos (lgb0 (by omega) hb), nm_q, oin1, nI_add, ih (i + 1) f (by omega) (by omega), if_neg (by decide)]
    · rw [if_neg (lgb1 (by omega) hb), if_pos rfl]
theorem c_low (μ : Mm) (w : Int64) : f_X8_lowestOf μ w = some (oI (fiF (btL w) 0 48), μ) := by
  have z := c_lowL (fun μ6 x7 => (some (x7, μ6))) (fun μ8 => (some ((-1 : Int32), μ8))) μ w 48 0 FU rfl (by unfold FU; omega)
  rw [show nI 0 = (0 : Int32) from rfl] at z
  unfold f_X8_lowestOf
  rw [nm_q, z]
  cases fiF (btL w) 0 48 <;> rfl
theorem L_neg2 : ∀ b, b < 48 → ∀ i, i < 64 → btL (-((2 : Int64) <<< ((nI b).toInt64 &&& 63))) i = decide (b < i) := by decide +kernel
theorem fi_skip {P Q : Nat → Bool} : ∀ (j s k : Nat), (∀ i, s ≤ i → i < s + j → P i = false) → (∀ i, s + j ≤ i → i < s + j + k → P i = Q i) → fiF P s (j + k) = fiF Q (s + j) k
  | 0, s, 0, _, _ => rfl
  | 0, s, k + 1, h1, h2 => by
    have := fi_skip (P := P) (Q := Q) 0 (s + 1) k (fun i a b => by omega) (fun i a b => h2 i (by omega) (by omega))
    rw [Nat.zero_add] at this ⊢
    rw [fiF, fiF, h2 s (by omega) (by omega), this]; rfl
  | j + 1, s, k, h1, h2 => by
    have := fi_skip (P := P) (Q := Q) j (s + 1) k (fun i a b => h1 i (by omega) (by omega)) (fun i a b => h2 i (by omega) (by omega))
    rw [show j + 1 + k = (j + k) + 1 by omega, fiF, h1 s (Nat.le_refl _) (by omega), if_neg (by decide), this, show s + 1 + j = s + (j + 1) by omega]
theorem fi_more {P : Nat → Bool} : ∀ (j k s : Nat), (∀ i, s + k ≤ i → i < s + k + j → P i = false) → fiF P s (k + j) = fiF P s k
  | 0, 0, s, h => rfl
  | j + 1, 0, s, h => by
    have e := fi_more j 0 (s + 1) (fun i a b => h i (by omega) (by omega))
    rw [Nat.zero_add] at e ⊢
    have e2 : fiF P s (j + 1) = fiF P (s + 1) j := by rw [fiF, h s (by omega) (by omega), if_neg (by decide)]
    rw [e2, e]; rfl
  | j, k + 1, s, h => by
    rw [show k + 1 + j = (k + j) + 1 by omega, fiF, fiF, fi_more j k (s + 1) (fun i a b => h i (by omega) (by omega))]
theorem ctF_cong {P Q : Nat → Bool} : ∀ (k s : Nat), (∀ i, s ≤ i → i < s + k → P i = Q i) → ctF P s k = ctF Q s k
  | 0, _, _ => rfl
  | k + 1, s, h => by rw [ctF, ctF, h s (Nat.le_refl _) (by omega), ctF_cong k (s + 1) (fun i a b => h i (by omega) (by omega))]
/-- the third cells, by bits and one by one -/
theorem third {w : Int64} {P : Nat → Bool} {b N : Nat} (hN : N ≤ 48) (hb : b < N) (h : ∀ i, i < 64 → btL w i = (decide (b < i) && decide (i < N) && P i)) : fb_ct (btL w) 64 = ctF P (b + 1) (N - (b + 1)) ∧ fiF (btL w) 0 48 = fiF P (b + 1) (N - (b + 1)) := by
  have lo : ∀ i, i < b + 1 → btL w i = false := fun i hi => by rw [h i (by omega), decide_eq_false (by omega)]; rfl
  have hi : ∀ i, N ≤ i → i < 64 → btL w i = false := fun i h1 h2 => by rw [h i h2, decide_eq_false (show ¬ i < N by omega)]; simp
  have mid : ∀ i, b + 1 ≤ i → i < N → btL w i = P i := fun i h1 h2 => by rw [h i (by omega), decide_eq_true (show b < i by omega), decide_eq_true h2]; rfl
  constructor
  · rw [ct_fb (P := btL w) (63 - b) (b + 1) 64 (by omega) lo (fun _ _ _ => rfl)]
    have := ct_more (P := btL w) (64 - N) (N - (b + 1)) (b + 1) (fun i h1 h2 => hi i (by omega) (by omega))
    rw [show N - (b + 1) + (64 - N) = 63 - b by omega] at this
    rw [this]
    exact ctF_cong _ _ (fun i h1 h2 => mid i h1 (by omega))
  · have e1 := fi_more (P := btL w) (48 - N) N 0 (fun i h1 h2 => hi i (by omega) (by omega))
    have e2 := fi_skip (P := btL w) (Q := P) (b + 1) 0 (N - (b + 1)) (fun i h1 h2 => lo i (by omega)) (fun i h1 h2 => mid i (by omega) (by omega))
    rw [show N + (48 - N) = 48 by omega] at e1
    rw [show b + 1 + (N - (b + 1)) = N by omega, Nat.zero_add] at e2
    rw [e1, e2]
theorem fiF_lt {P : Nat → Bool} : ∀ (k s : Nat) {v : Nat}, fiF P s k = some v → s ≤ v ∧ v < s + k
  | 0, s, v, h => by cases h
  | k + 1, s, v, h => by
    rw [fiF] at h
    split at h
    · cases h; omega
    · have := fiF_lt k (s + 1) h; omega
def Apt (D : Dt) (T : Tc) : Prop := ∀ c, c < nc D → ∀ x, x < 64 → btL (T.2.2.1 183 c) x = (decide (x < nc D) && apB D c x)
theorem c_behL {m a : Nat} {π : Nat → Nat} (hD : DG nr D) (hm : m = 2 ∨ m = 3) (ha : a < nc D) (K : Mm → Option Mm) : ∀ (k b f : Nat) (T : Tc) (acc : Acc), b + k = nc D → a < b → k < f → GR n S T g D → Apt D T → CA T m acc → acc.1 + k * 48 ≤ 2 ^ 29 → ∃ T', f_X8_setTraysBehind_L5 K f (cn n sl U S T σ1) 181 g (nI a) (nI m) (nI b) = K (cn n sl U S T' σ1) ∧ TrK T T' ∧ CA T' m (fld (fun v a' => if okP (apD D) (upN π 0 a) v 1 then trA (apD D) (nc D) (m - 2) 2 (upN (upN π 0 a) 1 v) (v + 1) a' else a') b k acc) := by
  have n48 := hD.n48
  intro k
  induction k with
  | zero =>
    intro b f T acc h1 hab h2 hG hA hC hB
    obtain ⟨f, rfl⟩ : ∃ k, f = k + 1 := ⟨f - 1, by omega⟩
    obtain rfl : b = nc D := by omega
    refine ⟨T, ?_, agr.refl _ _, hC⟩
    rw [f_X8_setTraysBehind_L5, g0_2 hG.gv, Option.bind_some, hG.cg.2.2.1, if_pos (nI_le (Nat.le_refl _) (Nat.lt_of_le_of_lt n48 (by decide)))]
  | succ k ih =>
    intro b f T acc h1 hab h2 hG hA hC hB
    obtain ⟨f, rfl⟩ : ∃ k, f = k + 1 := ⟨f - 1, by omega⟩
    have hb : b < nc D := by omega
    have b48 : b < 48 := by omega
    have a48 : a < 48 := by omega
    have hgl := hG.gv.loc
    have ok1 : okP (apD D) (upN π 0 a) b 1 = apD D a b := by
      show (true && apD D (upN π 0 a 0) b) = _
      rw [Bool.true_and]; rfl
    have bit : btL (T.2.2.1 183 a) b = apD D a b := by
      rw [hA a ha b (by omega), decide_eq_true hb, Bool.true_and]
      unfold apB
      rw [decide_eq_false (by omega)]; rfl
    rw [f_X8_setTraysBehind_L5, g0_2 hG.gv, Option.bind_some, hG.cg.2.2.1, if_neg (nI_ge hb (Nat.lt_of_le_of_lt n48 (by decide))), x181_1, Option.bind_some, x183_r a48, Option.bind_some, fld, ok1]
    cases hap : apD D a b
    · rw [hap] at bit
      rw [if_pos (lgb0 (by omega) bit), if_neg (by decide), nm_q, oin1, nI_add]
      exact ih (b + 1) f T acc (by omega) (by omega) (by omega) hG hA hC (by omega)
    · rw [hap] at bit
      rw [if_neg (lgb1 (by omega) bit), if_pos rfl]
      have nx : ∀ (T1 : Tc) (acc1 : Acc), TrK T T1 → CA T1 m acc1 → acc1.1 ≤ acc.1 + 48 → ∃ T', f_X8_setTraysBehind_L5 K f (cn n sl U S T1 σ1) 181 g (nI a) (nI m) (nI (b + 1)) = K (cn n sl U S T' σ1) ∧ TrK T T' ∧ CA T' m (fld (fun v a' => if okP (apD D) (upN π 0 a) v 1 then trA (apD D) (nc D) (m - 2) 2 (upN (upN π 0 a) 1 v) (v + 1) a' else a') (b + 1) k acc1) := by
        intro T1 acc1 k1 c1 l1
        have a3 := (k1 183 ⟨by decide, by decide⟩).2.2.1
        obtain ⟨T', z1, z2, z3⟩ := ih (b + 1) f T1 acc1 (by omega) (by omega) (by omega) (hG.ext hG.gv k1 (fun j hj => ⟨by omega, by omega⟩)) (fun c hc x hx => by rw [a3]; exact hA c hc x hx) c1 (by omega)
        exact ⟨T', z1, k1.trans z2, z3⟩
      rcases hm with rfl | rfl
      · obtain ⟨T1, z1, z2, z3⟩ := c_addSets (n := n) (sl := sl) (U := U) (S := S) (σ1 := σ1) (c := 1) (π := upN (upN π 0 a) 1 b) (x := nI a) (y := nI b) (z := -1) (by decide) (by omega) hC (fun _ => rfl) (fun _ => rfl) (fun h => by omega) (by decide)
        rw [show nI 1 = (1 : Int32) from rfl] at z1
        rw [if_pos (show nI 2 = (2 : Int32) from rfl), x181_o, Option.bind_some, z1, Option.bind_some, nm_q, oin1, nI_add]
        exact nx T1 _ z3 z2 (by show acc.1 + 1 ≤ _; omega)
      · have tf : trA (apD D) (nc D) (3 - 2) 2 (upN (upN π 0 a) 1 b) (b + 1) acc = fld (fun v a' => if okP (apD D) (upN (upN π 0 a) 1 b) v 2 then addA a' (upN (upN (upN π 0 a) 1 b) 2 v) else a') (b + 1) (nc D - (b + 1)) acc := rfl
        rw [tf, fld_last (fun v => okP (apD D) (upN (upN π 0 a) 1 b) v 2)]
        have hP : ∀ v, okP (apD D) (upN (upN π 0 a) 1 b) v 2 = (apD D a v && apD D b v) := fun v => by
          show ((true && apD D a v) && apD D b v) = _
          rw [Bool.true_and]
        obtain ⟨w, hw⟩ : ∃ w : Int64, w = (T.2.2.1 183 a &&& T.2.2.1 183 b) &&& (-((2 : Int64) <<< ((nI b).toInt64 &&& 63))) := ⟨_, rfl⟩
        obtain ⟨t1, t2⟩ := third (w := w) (P := fun v => okP (apD D) (upN (upN π 0 a) 1 b) v 2) n48 hb (fun i hi => by
          rw [hw, L_and, L_and, L_neg2 b b48 i hi, hA a ha i hi, hA b hb i hi, hP]
          unfold apB
          by_cases e1 : b < i
          · rw [decide_eq_true e1, decide_eq_false (show ¬ i = a by omega), decide_eq_false (show ¬ i = b by omega)]
            cases decide (i < nc D) <;> cases apD D a i <;> cases apD D b i <;> rfl
          · rw [decide_eq_false e1]; simp)
        have l64 := fb_ct_le (btL w) 64
        have l48 : ctF (fun v => okP (apD D) (upN (upN π 0 a) 1 b) v 2) (b + 1) (nc D - (b + 1)) ≤ 48 := by
          have : ∀ (P : Nat → Bool) (k s : Nat), ctF P s k ≤ k := by
            intro P k
            induction k with
            | zero => intro s; exact Nat.le_refl _
            | succ k ih => intro s; have := ih (s + 1); rw [ctF]; split <;> omega
          have := this (fun v => okP (apD D) (upN (upN π 0 a) 1 b) v 2) (nc D - (b + 1)) (b + 1)
          omega
        obtain ⟨T1, z1, z2, z3⟩ := c_addSets (n := n) (sl := sl) (U := U) (S := S) (σ1 := σ1) (c := fb_ct (btL w) 64) (π := match fiF (fun v => okP (apD D) (upN (upN π 0 a) 1 b) v 2) (b + 1) (nc D - (b + 1)) with | some v => upN (upN (upN π 0 a) 1 b) 2 v | none => upN (upN π 0 a) 1 b) (x := nI a) (y := nI b) (z := oI (fiF (btL w) 0 48)) (by omega) (by omega) hC (fun _ => by
            cases fiF (fun v => okP (apD D) (upN (upN π 0 a) 1 b) v 2) (b + 1) (nc D - (b + 1)) <;> rfl) (fun _ => by
            cases fiF (fun v => okP (apD D) (upN (upN π 0 a) 1 b) v 2) (b + 1) (nc D - (b + 1)) <;> rfl) (fun _ hc => by
            rw [t2]
            cases hf : fiF (fun v => okP (apD D) (upN (upN π 0 a) 1 b) v 2) (b + 1) (nc D - (b + 1)) with
            | none => have := (ct_fi _ _ _).2 hf; omega
            | some v => rfl) (by decide)
        have ez : CA T1 3 (acc.1 + ctF (fun v => okP (apD D) (upN (upN π 0 a) 1 b) v 2) (b + 1) (nc D - (b + 1)), if acc.1 = 0 then (match fiF (fun v => okP (apD D) (upN (upN π 0 a) 1 b) v 2) (b + 1) (nc D - (b + 1)) with | some v => upN (upN (upN π 0 a) 1 b) 2 v | none => acc.2) else acc.2) := by
          rw [t1] at z2
          cases hf : fiF (fun v => okP (apD D) (upN (upN π 0 a) 1 b) v 2) (b + 1) (nc D - (b + 1)) with
          | none =>
            have := (ct_fi _ _ _).2 hf
            rw [hf, this, if_neg (show ¬ 0 < 0 by omega)] at z2
            rw [this]
            exact z2
          | some v =>
            have : ctF (fun v => okP (apD D) (upN (upN π 0 a) 1 b) v 2) (b + 1) (nc D - (b + 1)) ≠ 0 := fun e => by
              rw [(ct_fi _ _ _).1 e] at hf; cases hf
            rw [hf, if_pos (show 0 < ctF (fun v => okP (apD D) (upN (upN π 0 a) 1 b) v 2) (b + 1) (nc D - (b + 1)) by omega)] at z2
            exact z2
        rw [if_neg (show ¬ nI 3 = (2 : Int32) by decide), Option.bind_some, x183_r a48, Option.bind_some, Option.bind_some, x183_r b48, Option.bind_some, ← hw, nm_q, c_low, bd_some, pop64, bd_some, x181_o, Option.bind_some, z1, Option.bind_some, nm_q, oin1, nI_add]
        exact nx T1 _ z3 ez (by show acc.1 + _ ≤ _; omega)
theorem fld_le2 {N m : Nat} {ap : Nat → Nat → Bool} {d : Nat} {π : Nat → Nat} (h : N ≤ 48) (k s : Nat) (a : Acc) : (fld (fun v a => if okP ap π v d then trA ap N m (d + 1) (upN π d v) (v + 1) a else a) s k a).1 ≤ a.1 + k * 48 ^ m := by
  refine fld_le (fun v a => ?_) k s a
  show (if okP ap π v d then trA ap N m (d + 1) (upN π d v) (v + 1) a else a).1 ≤ _
  split
  · have := trA_le ap N m (d + 1) (upN π d v) (v + 1) a
    have := Nat.pow_le_pow_left h m
    omega
  · exact Nat.le_add_right _ _
theorem c_setL {m : Nat} {π : Nat → Nat} (hD : DG nr D) (hm : m = 1 ∨ m = 2 ∨ m = 3) (K : Mm → Option Mm) : ∀ (k a f : Nat) (T : Tc) (acc : Acc), a + k = nc D → k < f → GR n S T g D → Apt D T → CA T m acc → acc.1 + k * 2304 ≤ 2 ^ 28 → ∃ T', f_X8_setTrays_L12 K f (cn n sl U S T σ1) 181 g (nI m) (nI a) = K (cn n sl U S T' σ1) ∧ TrK T T' ∧ CA T' m (fld (fun v a' => if okP (apD D) π v 0 then trA (apD D) (nc D) (m - 1) 1 (upN π 0 v) (v + 1) a' else a') a k acc) := by
  have n48 := hD.n48
  intro k
  induction k with
  | zero =>
    intro a f T acc h1 h2 hG hA hC hB
    obtain ⟨f, rfl⟩ : ∃ k, f = k + 1 := ⟨f - 1, by omega⟩
    obtain rfl : a = nc D := by omega
    refine ⟨T, ?_, agr.refl _ _, hC⟩
    rw [f_X8_setTrays_L12, g0_2 hG.gv, Option.bind_some, hG.cg.2.2.1, if_pos (nI_le (Nat.le_refl _) (Nat.lt_of_le_of_lt n48 (by decide)))]
  | succ k ih =>
    intro a f T acc h1 h2 hG hA hC hB
    obtain ⟨f, rfl⟩ : ∃ k, f = k + 1 := ⟨f - 1, by omega⟩
    have ha : a < nc D := by omega
    have hgl := hG.gv.loc
    have nx : ∀ (T1 : Tc) (acc1 : Acc), TrK T T1 → CA T1 m acc1 → acc1.1 ≤ acc.1 + 2304 → ∃ T', f_X8_setTrays_L12 K f (cn n sl U S T1 σ1) 181 g (nI m) (nI (a + 1)) = K (cn n sl U S T' σ1) ∧ TrK T T' ∧ CA T' m (fld (fun v a' => if okP (apD D) π v 0 then trA (apD D) (nc D) (m - 1) 1 (upN π 0 v) (v + 1) a' else a') (a + 1) k acc1) := by
      intro T1 acc1 k1 c1 l1
      have a3 := (k1 183 ⟨by decide, by decide⟩).2.2.1
      obtain ⟨T', z1, z2, z3⟩ := ih (a + 1) f T1 acc1 (by omega) (by omega) (hG.ext hG.gv k1 (fun j hj => ⟨by omega, by omega⟩)) (fun c hc x hx => by rw [a3]; exact hA c hc x hx) c1 (by omega)
      exact ⟨T', z1, k1.trans z2, z3⟩
    rw [f_X8_setTrays_L12, g0_2 hG.gv, Option.bind_some, hG.cg.2.2.1, if_neg (nI_ge ha (Nat.lt_of_le_of_lt n48 (by decide))), fld, if_pos (show okP (apD D) π a 0 = true from rfl)]
    by_cases em : m = 1
    · subst em
      obtain ⟨T1, z1, z2, z3⟩ := c_addSets (n := n) (sl := sl) (U := U) (S := S) (σ1 := σ1) (c := 1) (π := upN π 0 a) (x := nI a) (y := -1) (z := -1) (by decide) (by omega) hC (fun _ => rfl) (fun h => by omega) (fun h => by omega) (by decide)
      rw [show nI 1 = (1 : Int32) from rfl] at z1
      rw [if_pos (show nI 1 = (1 : Int32) from rfl), x181_o, Option.bind_some, z1, Option.bind_some, nm_q, oin1, nI_add]
      exact nx T1 _ z3 z2 (by show acc.1 + 1 ≤ _; omega)
    · have hm2 : m = 2 ∨ m = 3 := by omega
      have et : trA (apD D) (nc D) (m - 1) 1 (upN π 0 a) (a + 1) acc = fld (fun v a' => if okP (apD D) (upN π 0 a) v 1 then trA (apD D) (nc D) (m - 2) 2 (upN (upN π 0 a) 1 v) (v + 1) a' else a') (a + 1) (nc D - (a + 1)) acc := by
        rcases hm2 with rfl | rfl <;> rfl
      obtain ⟨T1, z1, z2, z3⟩ := c_behL (sl := sl) (U := U) (σ1 := σ1) (g := g) (π := π) hD hm2 ha (fun μ28 => (some μ28)) (nc D - (a + 1)) (a + 1) FU T acc (by omega) (by omega) (Nat.lt_of_le_of_lt (show nc D - (a + 1) ≤ 48 by omega) (by unfold FU; omega)) hG hA hC (by omega)
      have lb := fld_le2 (ap := apD D) (π := upN π 0 a) (d := 1) (m := m - 2) n48 (nc D - (a + 1)) (a + 1) acc
      have l2 : (nc D - (a + 1)) * 48 ^ (m - 2) ≤ 48 * 48 := Nat.mul_le_mul (by omega) (by rcases hm2 with rfl | rfl <;> decide)
      rw [← et] at z3 lb
      have m1 : ¬ nI m = (1 : Int32) := fun e => em ((nI_eq (b := 1) (by omega) (by decide)).1 e)
      rw [if_neg m1, x181_o, Option.bind_some]
      unfold f_X8_setTraysBehind
      rw [lit_1, nI_add, nm_q, z1, Option.bind_some, nm_q, oin1, nI_add]
      exact nx T1 _ z2 z3 (by omega)
theorem c_setTrays {m : Nat} {T : Tc} (π : Nat → Nat) (hD : DG nr D) (hm : m = 1 ∨ m = 2 ∨ m = 3) (hG : GR n S T g D) : ∃ T', f_X8_setTrays (cn n sl U S T σ1) 181 g (nI m) = some (cn n sl U S T' σ1) ∧ agr (fun r => ¬ (181 ≤ r ∧ r ≤ 184)) T T' ∧ CA T' m (trA (apD D) (nc D) m 0 π 0 (0, π)) := by
  have n48 := hD.n48
  have hgl := hG.gv.loc
  have ag : agr (fun r => r ≠ 181) T (tI T 181 2 0) := agr_tI _ _ (fun h => h rfl)
  have hG1 := hG.ext hG.gv ag (fun j hj => by omega)
  obtain ⟨T1, a1, a2, a3⟩ := c_apart (sl := sl) (U := U) (σ1 := σ1) hD hG1
  have hG2 := hG1.ext hG1.gv a2 (fun j hj => ⟨by show g + j ≠ 182; omega, by show g + j ≠ 183; omega⟩)
  obtain ⟨T', b1, b2, b3⟩ := c_setL (sl := sl) (U := U) (σ1 := σ1) (g := g) (π := π) hD hm (fun μ16 => (some μ16)) (nc D) 0 FU T1 (0, π) (by omega) (Nat.lt_of_le_of_lt n48 (by unfold FU; omega)) hG2 a3 ⟨by rw [(a2 181 ⟨by decide, by decide⟩).1, tI1, if_pos ⟨rfl, rfl⟩]; rfl, fun h => absurd rfl h⟩ (by show 0 + nc D * 2304 ≤ _; omega)
  refine ⟨T', ?_, ((ag.mono fun r hr => fun e => hr (by omega)).trans (a2.mono fun r hr => ⟨fun e => hr (by omega), fun e => hr (by omega)⟩)).trans (b2.mono fun r hr => ⟨fun e => hr (by omega), fun e => hr (by omega)⟩), ?_⟩
  · rw [show nI 0 = (0 : Int32) from rfl] at b1
    unfold f_X8_setTrays
    rw [x181_2p, Option.bind_some, x181_o, Option.bind_some, a1, Option.bind_some, nm_q, b1]
  · rcases hm with rfl | rfl | rfl <;> exact b3
end CTRAYS
