/-! The class's cells as a typed state: S the shapes ((0, class, 0) an object, (1, tag, length) an array, 2: raw), T what they hold, U the raw cells. -/
abbrev Tc : Type := (Nat → Nat → Int32) × (Nat → Nat → Int32) × (Nat → Nat → Int64) × (Nat → Nat → Nat) × (Nat → Nat → Option Nat)
def up2 {α : Type} (f : Nat → Nat → α) (r k : Nat) (v : α) : Nat → Nat → α := va_up f r (va_up (f r) k v)
theorem up2_self {α : Type} (f : Nat → Nat → α) (r k : Nat) (v : α) : up2 f r k v r k = v := by simp [up2, va_up]
theorem up2_k {α : Type} (f : Nat → Nat → α) {r k j : Nat} (v : α) (h : j ≠ k) : up2 f r k v r j = f r j := by simp [up2, va_up, h]
theorem up2_r {α : Type} (f : Nat → Nat → α) {r k q : Nat} (v : α) (h : q ≠ r) : up2 f r k v q = f q := by
  funext j
  simp [up2, va_up, h]
def tI (T : Tc) (r k : Nat) (v : Int32) : Tc := (up2 T.1 r k v, T.2.1, T.2.2.1, T.2.2.2.1, T.2.2.2.2)
def tA (T : Tc) (r i : Nat) (v : Int32) : Tc := (T.1, va_up T.2.1 r (upd (T.2.1 r) i v), T.2.2.1, T.2.2.2.1, T.2.2.2.2)
def tF (T : Tc) (r : Nat) (f : Nat → Int32) : Tc := (T.1, va_up T.2.1 r f, T.2.2.1, T.2.2.2.1, T.2.2.2.2)
def tJ (T : Tc) (r k : Nat) (v : Int64) : Tc := (T.1, T.2.1, up2 T.2.2.1 r k v, T.2.2.2.1, T.2.2.2.2)
def tG (T : Tc) (r i : Nat) (v : Int64) : Tc := (T.1, T.2.1, va_up T.2.2.1 r (vp_updL (T.2.2.1 r) i v), T.2.2.2.1, T.2.2.2.2)
def tR (T : Tc) (r k v : Nat) : Tc := (T.1, T.2.1, T.2.2.1, up2 T.2.2.2.1 r k v, T.2.2.2.2)
def tO (T : Tc) (r i : Nat) (v : Option Nat) : Tc := (T.1, T.2.1, T.2.2.1, T.2.2.2.1, va_up T.2.2.2.2 r (va_up (T.2.2.2.2 r) i v))
def fsT (T : Tc) (ci r : Nat) : List Value := match ci with
  | 0 => [.ref (T.2.2.2.1 r 0), .ref (T.2.2.2.1 r 1), .ref (T.2.2.2.1 r 2), .int (T.1 r 3), .int (T.1 r 4), .int (T.1 r 5), .int (T.1 r 6), .int (T.1 r 7), .int (T.1 r 8), .int (T.1 r 9), .int (T.1 r 10), .ref (T.2.2.2.1 r 11)]
  | 1 => [.int (T.1 r 0), .int (T.1 r 1), .int (T.1 r 2), .ref (T.2.2.2.1 r 3), .ref (T.2.2.2.1 r 4), .long (T.2.2.1 r 5), .int (T.1 r 6), .ref (T.2.2.2.1 r 7), .ref (T.2.2.2.1 r 8), .int (T.1 r 9), .ref (T.2.2.2.1 r 10), .ref (T.2.2.2.1 r 11), .ref (T.2.2.2.1 r 12), .ref (T.2.2.2.1 r 13), .ref (T.2.2.2.1 r 14)]
  | 2 => [.ref (T.2.2.2.1 r 0), .ref (T.2.2.2.1 r 1), .int (T.1 r 2)]
  | 3 => [.int (T.1 r 0), .ref (T.2.2.2.1 r 1), .int (T.1 r 2), .ref (T.2.2.2.1 r 3), .ref (T.2.2.2.1 r 4), .ref (T.2.2.2.1 r 5), .ref (T.2.2.2.1 r 6), .int (T.1 r 7)]
  | 4 => [.ref (T.2.2.2.1 r 0), .int (T.1 r 1), .int (T.1 r 2), .int (T.1 r 3), .ref (T.2.2.2.1 r 4)]
  | 5 => [.ref (T.2.2.2.1 r 0), .int (T.1 r 1), .ref (T.2.2.2.1 r 2), .ref (T.2.2.2.1 r 3), .ref (T.2.2.2.1 r 4), .ref (T.2.2.2.1 r 5), .int (T.1 r 6), .int (T.1 r 7), .ref (T.2.2.2.1 r 8)]
  | 6 => [.ref (T.2.2.2.1 r 0), .ref (T.2.2.2.1 r 1), .int (T.1 r 2), .int (T.1 r 3), .int (T.1 r 4), .ref (T.2.2.2.1 r 5), .ref (T.2.2.2.1 r 6), .ref (T.2.2.2.1 r 7), .ref (T.2.2.2.1 r 8)]
  | 7 => [.ref (T.2.2.2.1 r 0), .int (T.1 r 1), .int (T.1 r 2), .int (T.1 r 3), .ref (T.2.2.2.1 r 4), .ref (T.2.2.2.1 r 5), .int (T.1 r 6), .int (T.1 r 7), .int (T.1 r 8), .int (T.1 r 9), .ref (T.2.2.2.1 r 10), .ref (T.2.2.2.1 r 11), .ref (T.2.2.2.1 r 12)]
  | 8 => [.ref (T.2.2.2.1 r 0), .ref (T.2.2.2.1 r 1), .int (T.1 r 2), .ref (T.2.2.2.1 r 3), .ref (T.2.2.2.1 r 4), .ref (T.2.2.2.1 r 5)]
  | 9 => [.ref (T.2.2.2.1 r 0), .int (T.1 r 1), .int (T.1 r 2), .int (T.1 r 3)]
  | 10 => [.ref (T.2.2.2.1 r 0), .ref (T.2.2.2.1 r 1), .ref (T.2.2.2.1 r 2), .int (T.1 r 3), .int (T.1 r 4)]
  | 11 => [.ref (T.2.2.2.1 r 0), .ref (T.2.2.2.1 r 1), .ref (T.2.2.2.1 r 2), .ref (T.2.2.2.1 r 3), .ref (T.2.2.2.1 r 4), .int (T.1 r 5), .ref (T.2.2.2.1 r 6), .ref (T.2.2.2.1 r 7), .ref (T.2.2.2.1 r 8), .ref (T.2.2.2.1 r 9), .ref (T.2.2.2.1 r 10), .ref (T.2.2.2.1 r 11), .ref (T.2.2.2.1 r 12), .ref (T.2.2.2.1 r 13)]
  | _ => []
def cellT (U : Nat → va_E) (S : Nat → Nat × Nat × Nat) (T : Tc) (r : Nat) : va_E := if (S r).1 = 0 then .inr ((S r).2.1, fsT T (S r).2.1 r) else if (S r).1 = 1 then .inl ((S r).2.1, (S r).2.2, if (S r).2.1 = 3 then .inr (.inl (T.2.2.1 r)) else if (S r).2.1 < 3 then .inl (T.2.1 r) else .inr (.inr (.inr (.inr (T.2.2.2.2 r))))) else U r
abbrev cm (n sl : Nat) (U : Nat → va_E) (S : Nat → Nat × Nat × Nat) (T : Tc) (σ : Sg) : Mm := mem (n, sl, cellT U S T) (cellT U S T) σ
/-- a cell of the class's that is there -/
def Vd (n r : Nat) : Prop := 128 ≤ r ∧ (r < 188 ∨ 242 ≤ r ∧ r < 242 + n)
/-- T and T' hold the same but in r -/
def eqT (T T' : Tc) (r : Nat) : Prop := ∀ q, q ≠ r → T.1 q = T'.1 q ∧ T.2.1 q = T'.2.1 q ∧ T.2.2.1 q = T'.2.2.1 q ∧ T.2.2.2.1 q = T'.2.2.2.1 q ∧ T.2.2.2.2 q = T'.2.2.2.2 q
theorem fsT_congr {T T' : Tc} {q : Nat} (h : T.1 q = T'.1 q ∧ T.2.2.1 q = T'.2.2.1 q ∧ T.2.2.2.1 q = T'.2.2.2.1 q) (ci : Nat) : fsT T ci q = fsT T' ci q := by
  obtain ⟨h1, h2, h3⟩ := h
  unfold fsT
  rw [h1, h2, h3]
theorem cellT_congr {U : Nat → va_E} {S : Nat → Nat × Nat × Nat} {T T' : Tc} {r q : Nat} (h : eqT T T' r) (hq : q ≠ r) : cellT U S T q = cellT U S T' q := by
  obtain ⟨h1, h2, h3, h4, h5⟩ := h q hq
  unfold cellT
  rw [fsT_congr ⟨h1, h3, h4⟩, h2, h3, h5]
theorem cm_at {n sl : Nat} {U : Nat → va_E} {S : Nat → Nat × Nat × Nat} {T : Tc} {σ : Sg} {r : Nat} (h : Vd n r) : (cm n sl U S T σ).2.2 r = cellT U S T r ∧ 128 ≤ r ∧ r < (cm n sl U S T σ).1 := by
  obtain ⟨h1, h2⟩ := h
  refine ⟨?_, h1, ?_⟩
  · show (if r < 188 then cellT U S T r else if r < 242 then mcl σ r else cellT U S T r) = _
    by_cases h3 : r < 188
    · rw [if_pos h3]
    · rw [if_neg h3, if_neg (by omega)]
  · show r < 242 + n
    omega
theorem cm_up {n sl : Nat} {U : Nat → va_E} {S : Nat → Nat × Nat × Nat} {T T' : Tc} {σ : Sg} {r : Nat} (h : Vd n r) (he : eqT T T' r) : up (cm n sl U S T σ) r (cellT U S T' r) = cm n sl U S T' σ := by
  unfold up
  refine Prod.ext rfl (Prod.ext rfl (funext fun k => ?_))
  show va_up (fun k => if k < 188 then cellT U S T k else if k < 242 then mcl σ k else cellT U S T k) r (cellT U S T' r) k = (if k < 188 then cellT U S T' k else if k < 242 then mcl σ k else cellT U S T' k)
  by_cases hk : k = r
  · subst hk
    rw [va_up_self]
    by_cases h3 : k < 188
    · rw [if_pos h3]
    · rw [if_neg h3, if_neg (by have := h.2; omega)]
  · rw [va_up_ne _ _ hk, cellT_congr he hk]
theorem ob_cm {n sl : Nat} {U : Nat → va_E} {S : Nat → Nat × Nat × Nat} {T : Tc} {σ : Sg} {r ci : Nat} (h : Vd n r) (hs : S r = (0, ci, 0)) : ob (cm n sl U S T σ) r ci = some (fsT T ci r) := by
  obtain ⟨h1, h2, h3⟩ := cm_at (sl := sl) (U := U) (S := S) (T := T) (σ := σ) h
  unfold ob
  rw [if_pos ⟨h2, h3⟩, h1]
  unfold cellT
  rw [hs]
  show (if ci = ci then _ else _) = _
  rw [if_pos rfl]
theorem arr_cm {n sl : Nat} {U : Nat → va_E} {S : Nat → Nat × Nat × Nat} {T : Tc} {σ : Sg} {r t m : Nat} (h : Vd n r) (hs : S r = (1, t, m)) (ht : t < 3) : arr (cm n sl U S T σ) r t = some (m, .inl (T.2.1 r)) := by
  obtain ⟨h1, h2, h3⟩ := cm_at (sl := sl) (U := U) (S := S) (T := T) (σ := σ) h
  unfold arr
  rw [if_pos ⟨h2, h3⟩, h1]
  unfold cellT
  rw [hs]
  show (if t = t then some (m, if t = 3 then _ else if t < 3 then _ else _) else _) = _
  rw [if_pos rfl, if_neg (by omega), if_pos ht]
theorem arr_cmL {n sl : Nat} {U : Nat → va_E} {S : Nat → Nat × Nat × Nat} {T : Tc} {σ : Sg} {r m : Nat} (h : Vd n r) (hs : S r = (1, 3, m)) : arr (cm n sl U S T σ) r 3 = some (m, .inr (.inl (T.2.2.1 r))) := by
  obtain ⟨h1, h2, h3⟩ := cm_at (sl := sl) (U := U) (S := S) (T := T) (σ := σ) h
  unfold arr
  rw [if_pos ⟨h2, h3⟩, h1]
  unfold cellT
  rw [hs]
  rfl
theorem arr_cmO {n sl : Nat} {U : Nat → va_E} {S : Nat → Nat × Nat × Nat} {T : Tc} {σ : Sg} {r t m : Nat} (h : Vd n r) (hs : S r = (1, t, m)) (ht : 3 < t) : arr (cm n sl U S T σ) r t = some (m, .inr (.inr (.inr (.inr (T.2.2.2.2 r))))) := by
  obtain ⟨h1, h2, h3⟩ := cm_at (sl := sl) (U := U) (S := S) (T := T) (σ := σ) h
  unfold arr
  rw [if_pos ⟨h2, h3⟩, h1]
  unfold cellT
  rw [hs]
  show (if t = t then some (m, if t = 3 then _ else if t < 3 then _ else _) else _) = _
  rw [if_pos rfl, if_neg (by omega), if_neg (by omega)]
section CM
variable {n sl : Nat} {U : Nat → va_E} {S : Nat → Nat × Nat × Nat} {T : Tc} {σ : Sg} {r : Nat}
theorem gI_cmG {ci k : Nat} {x : Int32} (h : Vd n r) (hs : S r = (0, ci, 0)) (hk : (fsT T ci r)[k]? = some (.int x)) : gI (cm n sl U S T σ) r ci k = some x := by
  unfold gI
  rw [ob_cm h hs]
  show vI (fsT T ci r)[k]? = _
  rw [hk]; rfl
theorem gL_cmG {ci k : Nat} {x : Int64} (h : Vd n r) (hs : S r = (0, ci, 0)) (hk : (fsT T ci r)[k]? = some (.long x)) : gL (cm n sl U S T σ) r ci k = some x := by
  unfold gL
  rw [ob_cm h hs]
  show vL (fsT T ci r)[k]? = _
  rw [hk]; rfl
theorem gR_cmG {ci k x : Nat} (h : Vd n r) (hs : S r = (0, ci, 0)) (hk : (fsT T ci r)[k]? = some (.ref x)) : gR (cm n sl U S T σ) r ci k = some x := by
  unfold gR
  rw [ob_cm h hs]
  show vR (fsT T ci r)[k]? = _
  rw [hk]; rfl
theorem pV_cmG {ci k : Nat} {v : Value} {T' : Tc} (h : Vd n r) (hs : S r = (0, ci, 0)) (hk : k < (fsT T ci r).length) (he : eqT T T' r) (hf : (fsT T ci r).set k v = fsT T' ci r) : pV (cm n sl U S T σ) r ci k v = some (cm n sl U S T' σ) := by
  unfold pV
  rw [ob_cm h hs]
  show (if k < (fsT T ci r).length then some (up (cm n sl U S T σ) r (.inr (ci, (fsT T ci r).set k v))) else none) = _
  rw [if_pos hk, hf]
  have e : (Sum.inr (ci, fsT T' ci r) : va_E) = cellT U S T' r := by
    unfold cellT
    rw [hs]; rfl
  rw [e, cm_up h he]
theorem aI_cm {t m : Nat} (i : Int32) (h : Vd n r) (hs : S r = (1, t, m)) (ht : t < 3) : aI (cm n sl U S T σ) r t i = if i < 0 ∨ m ≤ i.toNatClampNeg then none else some (T.2.1 r i.toNatClampNeg) := by
  unfold aI
  rw [arr_cm h hs ht]; rfl
theorem aL_cm {m : Nat} (i : Int32) (h : Vd n r) (hs : S r = (1, 3, m)) : aL (cm n sl U S T σ) r 3 i = if i < 0 ∨ m ≤ i.toNatClampNeg then none else some (T.2.2.1 r i.toNatClampNeg) := by
  unfold aL
  rw [arr_cmL h hs]; rfl
theorem aR_cm {t m : Nat} (i : Int32) (h : Vd n r) (hs : S r = (1, t, m)) (ht : 3 < t) : aR (cm n sl U S T σ) r t i = if i < 0 ∨ m ≤ i.toNatClampNeg then none else some (T.2.2.2.2 r i.toNatClampNeg) := by
  unfold aR
  rw [arr_cmO h hs ht]; rfl
theorem aN_cm {t m : Nat} (h : Vd n r) (hs : S r = (1, t, m)) (ht : t < 3) : aN (cm n sl U S T σ) r t = some (Int32.ofNat m) := by
  unfold aN
  rw [arr_cm h hs ht]; rfl
theorem up_cmA {t m : Nat} (f : Nat → Int32) (h : Vd n r) (hs : S r = (1, t, m)) (ht : t < 3) : up (cm n sl U S T σ) r (.inl (t, m, .inl f)) = cm n sl U S (tF T r f) σ := by
  have he : eqT T (tF T r f) r := fun q hq => ⟨rfl, (va_up_ne _ _ hq).symm, rfl, rfl, rfl⟩
  have e : (Sum.inl (t, m, Sum.inl f) : va_E) = cellT U S (tF T r f) r := by
    unfold cellT
    rw [hs]
    show _ = (Sum.inl (t, m, if t = 3 then _ else if t < 3 then Sum.inl (va_up T.2.1 r f r) else _) : va_E)
    rw [if_neg (by omega), if_pos ht, va_up_self]
  rw [e, cm_up h he]
theorem sI_cm {t m : Nat} (i v : Int32) (h : Vd n r) (hs : S r = (1, t, m)) (ht : t < 3) : sI (cm n sl U S T σ) r t i v = if i < 0 ∨ m ≤ i.toNatClampNeg then none else some (cm n sl U S (tA T r i.toNatClampNeg (narT t v)) σ) := by
  unfold sI
  rw [arr_cm h hs ht]
  show (if i < 0 ∨ m ≤ i.toNatClampNeg then none else some (up (cm n sl U S T σ) r (.inl (t, m, .inl (upd (T.2.1 r) i.toNatClampNeg (narT t v)))))) = _
  rw [up_cmA _ h hs ht]; rfl
theorem sL_cm {m : Nat} (i : Int32) (v : Int64) (h : Vd n r) (hs : S r = (1, 3, m)) : sL (cm n sl U S T σ) r 3 i v = if i < 0 ∨ m ≤ i.toNatClampNeg then none else some (cm n sl U S (tG T r i.toNatClampNeg v) σ) := by
  unfold sL
  rw [arr_cmL h hs]
  show (if i < 0 ∨ m ≤ i.toNatClampNeg then none else some (up (cm n sl U S T σ) r (.inl (3, m, .inr (.inl (vp_updL (T.2.2.1 r) i.toNatClampNeg v)))))) = _
  have he : eqT T (tG T r i.toNatClampNeg v) r := fun q hq => ⟨rfl, rfl, (va_up_ne _ _ hq).symm, rfl, rfl⟩
  have e : (Sum.inl (3, m, Sum.inr (Sum.inl (vp_updL (T.2.2.1 r) i.toNatClampNeg v))) : va_E) = cellT U S (tG T r i.toNatClampNeg v) r := by
    unfold cellT
    rw [hs]
    show _ = (Sum.inl (3, m, Sum.inr (Sum.inl (va_up T.2.2.1 r (vp_updL (T.2.2.1 r) i.toNatClampNeg v) r))) : va_E)
    rw [va_up_self]
  rw [e, cm_up h he]
theorem sR_cm {t m ci v : Nat} (i : Int32) (h : Vd n r) (hs : S r = (1, t, m)) (ht : 3 < t) (hv : Vd n v) (hsv : S v = (0, ci, 0)) : sR (cm n sl U S T σ) r t i ci v = if i < 0 ∨ m ≤ i.toNatClampNeg then none else some (cm n sl U S (tO T r i.toNatClampNeg (some v)) σ) := by
  unfold sR
  rw [ob_cm hv hsv, arr_cmO h hs ht]
  show (if i < 0 ∨ m ≤ i.toNatClampNeg then none else some (up (cm n sl U S T σ) r (.inl (t, m, .inr (.inr (.inr (.inr (va_up (T.2.2.2.2 r) i.toNatClampNeg (some v))))))))) = _
  have he : eqT T (tO T r i.toNatClampNeg (some v)) r := fun q hq => ⟨rfl, rfl, rfl, rfl, (va_up_ne _ _ hq).symm⟩
  have e : (Sum.inl (t, m, Sum.inr (Sum.inr (Sum.inr (Sum.inr (va_up (T.2.2.2.2 r) i.toNatClampNeg (some v)))))) : va_E) = cellT U S (tO T r i.toNatClampNeg (some v)) r := by
    unfold cellT
    rw [hs]
    show _ = (Sum.inl (t, m, if t = 3 then _ else if t < 3 then _ else Sum.inr (Sum.inr (Sum.inr (Sum.inr (va_up T.2.2.2.2 r (va_up (T.2.2.2.2 r) i.toNatClampNeg (some v)) r))))) : va_E)
    rw [if_neg (by omega), if_neg (by omega), va_up_self]
  rw [e, cm_up h he]
theorem cpI_cm {a m0 m1 : Nat} (sp dp k : Int32) (ha : Vd n a) (hsa : S a = (1, 0, m0)) (h : Vd n r) (hs : S r = (1, 0, m1)) : cpI (cm n sl U S T σ) a sp r dp k = if sp < 0 ∨ dp < 0 ∨ k < 0 ∨ m0 < sp.toNatClampNeg + k.toNatClampNeg ∨ m1 < dp.toNatClampNeg + k.toNatClampNeg then none else some (cm n sl U S (tF T r (va_cpy (T.2.1 a) (T.2.1 r) sp.toNatClampNeg dp.toNatClampNeg k.toNatClampNeg)) σ) := by
  unfold cpI
  rw [arr_cm ha hsa (by decide), arr_cm h hs (by decide)]
  show (if sp < 0 ∨ dp < 0 ∨ k < 0 ∨ m0 < sp.toNatClampNeg + k.toNatClampNeg ∨ m1 < dp.toNatClampNeg + k.toNatClampNeg then none else some (up (cm n sl U S T σ) r (.inl (0, m1, .inl (va_cpy (T.2.1 a) (T.2.1 r) sp.toNatClampNeg dp.toNatClampNeg k.toNatClampNeg))))) = _
  rw [up_cmA _ h hs (by decide)]
theorem eq_tI (k : Nat) (v : Int32) : eqT T (tI T r k v) r := fun q hq => ⟨(up2_r _ _ hq).symm, rfl, rfl, rfl, rfl⟩
theorem eq_tJ (k : Nat) (v : Int64) : eqT T (tJ T r k v) r := fun q hq => ⟨rfl, rfl, (up2_r _ _ hq).symm, rfl, rfl⟩
theorem eq_tR (k v : Nat) : eqT T (tR T r k v) r := fun q hq => ⟨rfl, rfl, rfl, (up2_r _ _ hq).symm, rfl⟩
theorem cI_0_0 (h : Vd n r) (hs : S r = (0, 0, 0)) : gR (cm n sl U S T σ) r 0 0 = some (T.2.2.2.1 r 0) := gR_cmG h hs rfl
theorem cP_0_0 (h : Vd n r) (hs : S r = (0, 0, 0)) (v : Nat) : pV (cm n sl U S T σ) r 0 0 (.ref v) = some (cm n sl U S (tR T r 0 v) σ) := pV_cmG h hs (by show 0 < 12; decide) (eq_tR _ _) (by simp [fsT, tR, up2, va_up])
theorem cI_0_1 (h : Vd n r) (hs : S r = (0, 0, 0)) : gR (cm n sl U S T σ) r 0 1 = some (T.2.2.2.1 r 1) := gR_cmG h hs rfl
theorem cP_0_1 (h : Vd n r) (hs : S r = (0, 0, 0)) (v : Nat) : pV (cm n sl U S T σ) r 0 1 (.ref v) = some (cm n sl U S (tR T r 1 v) σ) := pV_cmG h hs (by show 1 < 12; decide) (eq_tR _ _) (by simp [fsT, tR, up2, va_up])
theorem cI_0_2 (h : Vd n r) (hs : S r = (0, 0, 0)) : gR (cm n sl U S T σ) r 0 2 = some (T.2.2.2.1 r 2) := gR_cmG h hs rfl
theorem cP_0_2 (h : Vd n r) (hs : S r = (0, 0, 0)) (v : Nat) : pV (cm n sl U S T σ) r 0 2 (.ref v) = some (cm n sl U S (tR T r 2 v) σ) := pV_cmG h hs (by show 2 < 12; decide) (eq_tR _ _) (by simp [fsT, tR, up2, va_up])
theorem cI_0_3 (h : Vd n r) (hs : S r = (0, 0, 0)) : gI (cm n sl U S T σ) r 0 3 = some (T.1 r 3) := gI_cmG h hs rfl
theorem cP_0_3 (h : Vd n r) (hs : S r = (0, 0, 0)) (v : Int32) : pV (cm n sl U S T σ) r 0 3 (.int v) = some (cm n sl U S (tI T r 3 v) σ) := pV_cmG h hs (by show 3 < 12; decide) (eq_tI _ _) (by simp [fsT, tI, up2, va_up])
theorem cI_0_4 (h : Vd n r) (hs : S r = (0, 0, 0)) : gI (cm n sl U S T σ) r 0 4 = some (T.1 r 4) := gI_cmG h hs rfl
theorem cP_0_4 (h : Vd n r) (hs : S r = (0, 0, 0)) (v : Int32) : pV (cm n sl U S T σ) r 0 4 (.int v) = some (cm n sl U S (tI T r 4 v) σ) := pV_cmG h hs (by show 4 < 12; decide) (eq_tI _ _) (by simp [fsT, tI, up2, va_up])
theorem cI_0_5 (h : Vd n r) (hs : S r = (0, 0, 0)) : gI (cm n sl U S T σ) r 0 5 = some (T.1 r 5) := gI_cmG h hs rfl
theorem cP_0_5 (h : Vd n r) (hs : S r = (0, 0, 0)) (v : Int32) : pV (cm n sl U S T σ) r 0 5 (.int v) = some (cm n sl U S (tI T r 5 v) σ) := pV_cmG h hs (by show 5 < 12; decide) (eq_tI _ _) (by simp [fsT, tI, up2, va_up])
theorem cI_0_6 (h : Vd n r) (hs : S r = (0, 0, 0)) : gI (cm n sl U S T σ) r 0 6 = some (T.1 r 6) := gI_cmG h hs rfl
theorem cP_0_6 (h : Vd n r) (hs : S r = (0, 0, 0)) (v : Int32) : pV (cm n sl U S T σ) r 0 6 (.int v) = some (cm n sl U S (tI T r 6 v) σ) := pV_cmG h hs (by show 6 < 12; decide) (eq_tI _ _) (by simp [fsT, tI, up2, va_up])
theorem cI_0_7 (h : Vd n r) (hs : S r = (0, 0, 0)) : gI (cm n sl U S T σ) r 0 7 = some (T.1 r 7) := gI_cmG h hs rfl
theorem cP_0_7 (h : Vd n r) (hs : S r = (0, 0, 0)) (v : Int32) : pV (cm n sl U S T σ) r 0 7 (.int v) = some (cm n sl U S (tI T r 7 v) σ) := pV_cmG h hs (by show 7 < 12; decide) (eq_tI _ _) (by simp [fsT, tI, up2, va_up])
theorem cI_0_8 (h : Vd n r) (hs : S r = (0, 0, 0)) : gI (cm n sl U S T σ) r 0 8 = some (T.1 r 8) := gI_cmG h hs rfl
theorem cP_0_8 (h : Vd n r) (hs : S r = (0, 0, 0)) (v : Int32) : pV (cm n sl U S T σ) r 0 8 (.int v) = some (cm n sl U S (tI T r 8 v) σ) := pV_cmG h hs (by show 8 < 12; decide) (eq_tI _ _) (by simp [fsT, tI, up2, va_up])
theorem cI_0_9 (h : Vd n r) (hs : S r = (0, 0, 0)) : gI (cm n sl U S T σ) r 0 9 = some (T.1 r 9) := gI_cmG h hs rfl
theorem cP_0_9 (h : Vd n r) (hs : S r = (0, 0, 0)) (v : Int32) : pV (cm n sl U S T σ) r 0 9 (.int v) = some (cm n sl U S (tI T r 9 v) σ) := pV_cmG h hs (by show 9 < 12; decide) (eq_tI _ _) (by simp [fsT, tI, up2, va_up])
theorem cI_0_10 (h : Vd n r) (hs : S r = (0, 0, 0)) : gI (cm n sl U S T σ) r 0 10 = some (T.1 r 10) := gI_cmG h hs rfl
theorem cP_0_10 (h : Vd n r) (hs : S r = (0, 0, 0)) (v : Int32) : pV (cm n sl U S T σ) r 0 10 (.int v) = some (cm n sl U S (tI T r 10 v) σ) := pV_cmG h hs (by show 10 < 12; decide) (eq_tI _ _) (by simp [fsT, tI, up2, va_up])
theorem cZ_0_10 (h : Vd n r) (hs : S r = (0, 0, 0)) (v : Int32) : pZ (cm n sl U S T σ) r 0 10 v = if v = 0 ∨ v = 1 then some (cm n sl U S (tI T r 10 v) σ) else none := by
  unfold pZ
  rw [cP_0_10 h hs]
theorem cI_0_11 (h : Vd n r) (hs : S r = (0, 0, 0)) : gR (cm n sl U S T σ) r 0 11 = some (T.2.2.2.1 r 11) := gR_cmG h hs rfl
theorem cI_1_0 (h : Vd n r) (hs : S r = (0, 1, 0)) : gI (cm n sl U S T σ) r 1 0 = some (T.1 r 0) := gI_cmG h hs rfl
theorem cP_1_0 (h : Vd n r) (hs : S r = (0, 1, 0)) (v : Int32) : pV (cm n sl U S T σ) r 1 0 (.int v) = some (cm n sl U S (tI T r 0 v) σ) := pV_cmG h hs (by show 0 < 15; decide) (eq_tI _ _) (by simp [fsT, tI, up2, va_up])
theorem cI_1_1 (h : Vd n r) (hs : S r = (0, 1, 0)) : gI (cm n sl U S T σ) r 1 1 = some (T.1 r 1) := gI_cmG h hs rfl
theorem cP_1_1 (h : Vd n r) (hs : S r = (0, 1, 0)) (v : Int32) : pV (cm n sl U S T σ) r 1 1 (.int v) = some (cm n sl U S (tI T r 1 v) σ) := pV_cmG h hs (by show 1 < 15; decide) (eq_tI _ _) (by simp [fsT, tI, up2, va_up])
theorem cI_1_2 (h : Vd n r) (hs : S r = (0, 1, 0)) : gI (cm n sl U S T σ) r 1 2 = some (T.1 r 2) := gI_cmG h hs rfl
theorem cP_1_2 (h : Vd n r) (hs : S r = (0, 1, 0)) (v : Int32) : pV (cm n sl U S T σ) r 1 2 (.int v) = some (cm n sl U S (tI T r 2 v) σ) := pV_cmG h hs (by show 2 < 15; decide) (eq_tI _ _) (by simp [fsT, tI, up2, va_up])
theorem cI_1_3 (h : Vd n r) (hs : S r = (0, 1, 0)) : gR (cm n sl U S T σ) r 1 3 = some (T.2.2.2.1 r 3) := gR_cmG h hs rfl
theorem cI_1_4 (h : Vd n r) (hs : S r = (0, 1, 0)) : gR (cm n sl U S T σ) r 1 4 = some (T.2.2.2.1 r 4) := gR_cmG h hs rfl
theorem cI_1_5 (h : Vd n r) (hs : S r = (0, 1, 0)) : gL (cm n sl U S T σ) r 1 5 = some (T.2.2.1 r 5) := gL_cmG h hs rfl
theorem cP_1_5 (h : Vd n r) (hs : S r = (0, 1, 0)) (v : Int64) : pV (cm n sl U S T σ) r 1 5 (.long v) = some (cm n sl U S (tJ T r 5 v) σ) := pV_cmG h hs (by show 5 < 15; decide) (eq_tJ _ _) (by simp [fsT, tJ, up2, va_up])
theorem cI_1_6 (h : Vd n r) (hs : S r = (0, 1, 0)) : gI (cm n sl U S T σ) r 1 6 = some (T.1 r 6) := gI_cmG h hs rfl
theorem cP_1_6 (h : Vd n r) (hs : S r = (0, 1, 0)) (v : Int32) : pV (cm n sl U S T σ) r 1 6 (.int v) = some (cm n sl U S (tI T r 6 v) σ) := pV_cmG h hs (by show 6 < 15; decide) (eq_tI _ _) (by simp [fsT, tI, up2, va_up])
theorem cI_1_7 (h : Vd n r) (hs : S r = (0, 1, 0)) : gR (cm n sl U S T σ) r 1 7 = some (T.2.2.2.1 r 7) := gR_cmG h hs rfl
theorem cI_1_8 (h : Vd n r) (hs : S r = (0, 1, 0)) : gR (cm n sl U S T σ) r 1 8 = some (T.2.2.2.1 r 8) := gR_cmG h hs rfl
theorem cI_1_9 (h : Vd n r) (hs : S r = (0, 1, 0)) : gI (cm n sl U S T σ) r 1 9 = some (T.1 r 9) := gI_cmG h hs rfl
theorem cP_1_9 (h : Vd n r) (hs : S r = (0, 1, 0)) (v : Int32) : pV (cm n sl U S T σ) r 1 9 (.int v) = some (cm n sl U S (tI T r 9 v) σ) := pV_cmG h hs (by show 9 < 15; decide) (eq_tI _ _) (by simp [fsT, tI, up2, va_up])
theorem cI_1_10 (h : Vd n r) (hs : S r = (0, 1, 0)) : gR (cm n sl U S T σ) r 1 10 = some (T.2.2.2.1 r 10) := gR_cmG h hs rfl
theorem cI_1_11 (h : Vd n r) (hs : S r = (0, 1, 0)) : gR (cm n sl U S T σ) r 1 11 = some (T.2.2.2.1 r 11) := gR_cmG h hs rfl
theorem cI_1_12 (h : Vd n r) (hs : S r = (0, 1, 0)) : gR (cm n sl U S T σ) r 1 12 = some (T.2.2.2.1 r 12) := gR_cmG h hs rfl
theorem cI_1_13 (h : Vd n r) (hs : S r = (0, 1, 0)) : gR (cm n sl U S T σ) r 1 13 = some (T.2.2.2.1 r 13) := gR_cmG h hs rfl
theorem cI_1_14 (h : Vd n r) (hs : S r = (0, 1, 0)) : gR (cm n sl U S T σ) r 1 14 = some (T.2.2.2.1 r 14) := gR_cmG h hs rfl
theorem cI_2_0 (h : Vd n r) (hs : S r = (0, 2, 0)) : gR (cm n sl U S T σ) r 2 0 = some (T.2.2.2.1 r 0) := gR_cmG h hs rfl
theorem cI_2_1 (h : Vd n r) (hs : S r = (0, 2, 0)) : gR (cm n sl U S T σ) r 2 1 = some (T.2.2.2.1 r 1) := gR_cmG h hs rfl
theorem cP_2_1 (h : Vd n r) (hs : S r = (0, 2, 0)) (v : Nat) : pV (cm n sl U S T σ) r 2 1 (.ref v) = some (cm n sl U S (tR T r 1 v) σ) := pV_cmG h hs (by show 1 < 3; decide) (eq_tR _ _) (by simp [fsT, tR, up2, va_up])
theorem cI_2_2 (h : Vd n r) (hs : S r = (0, 2, 0)) : gI (cm n sl U S T σ) r 2 2 = some (T.1 r 2) := gI_cmG h hs rfl
theorem cP_2_2 (h : Vd n r) (hs : S r = (0, 2, 0)) (v : Int32) : pV (cm n sl U S T σ) r 2 2 (.int v) = some (cm n sl U S (tI T r 2 v) σ) := pV_cmG h hs (by show 2 < 3; decide) (eq_tI _ _) (by simp [fsT, tI, up2, va_up])
theorem cI_3_0 (h : Vd n r) (hs : S r = (0, 3, 0)) : gI (cm n sl U S T σ) r 3 0 = some (T.1 r 0) := gI_cmG h hs rfl
theorem cP_3_0 (h : Vd n r) (hs : S r = (0, 3, 0)) (v : Int32) : pV (cm n sl U S T σ) r 3 0 (.int v) = some (cm n sl U S (tI T r 0 v) σ) := pV_cmG h hs (by show 0 < 8; decide) (eq_tI _ _) (by simp [fsT, tI, up2, va_up])
theorem cI_3_1 (h : Vd n r) (hs : S r = (0, 3, 0)) : gR (cm n sl U S T σ) r 3 1 = some (T.2.2.2.1 r 1) := gR_cmG h hs rfl
theorem cI_3_2 (h : Vd n r) (hs : S r = (0, 3, 0)) : gI (cm n sl U S T σ) r 3 2 = some (T.1 r 2) := gI_cmG h hs rfl
theorem cP_3_2 (h : Vd n r) (hs : S r = (0, 3, 0)) (v : Int32) : pV (cm n sl U S T σ) r 3 2 (.int v) = some (cm n sl U S (tI T r 2 v) σ) := pV_cmG h hs (by show 2 < 8; decide) (eq_tI _ _) (by simp [fsT, tI, up2, va_up])
theorem cI_3_3 (h : Vd n r) (hs : S r = (0, 3, 0)) : gR (cm n sl U S T σ) r 3 3 = some (T.2.2.2.1 r 3) := gR_cmG h hs rfl
theorem cI_3_4 (h : Vd n r) (hs : S r = (0, 3, 0)) : gR (cm n sl U S T σ) r 3 4 = some (T.2.2.2.1 r 4) := gR_cmG h hs rfl
theorem cI_3_5 (h : Vd n r) (hs : S r = (0, 3, 0)) : gR (cm n sl U S T σ) r 3 5 = some (T.2.2.2.1 r 5) := gR_cmG h hs rfl
theorem cI_3_6 (h : Vd n r) (hs : S r = (0, 3, 0)) : gR (cm n sl U S T σ) r 3 6 = some (T.2.2.2.1 r 6) := gR_cmG h hs rfl
theorem cI_3_7 (h : Vd n r) (hs : S r = (0, 3, 0)) : gI (cm n sl U S T σ) r 3 7 = some (T.1 r 7) := gI_cmG h hs rfl
theorem cP_3_7 (h : Vd n r) (hs : S r = (0, 3, 0)) (v : Int32) : pV (cm n sl U S T σ) r 3 7 (.int v) = some (cm n sl U S (tI T r 7 v) σ) := pV_cmG h hs (by show 7 < 8; decide) (eq_tI _ _) (by simp [fsT, tI, up2, va_up])
theorem cI_4_0 (h : Vd n r) (hs : S r = (0, 4, 0)) : gR (cm n sl U S T σ) r 4 0 = some (T.2.2.2.1 r 0) := gR_cmG h hs rfl
theorem cI_4_1 (h : Vd n r) (hs : S r = (0, 4, 0)) : gI (cm n sl U S T σ) r 4 1 = some (T.1 r 1) := gI_cmG h hs rfl
theorem cP_4_1 (h : Vd n r) (hs : S r = (0, 4, 0)) (v : Int32) : pV (cm n sl U S T σ) r 4 1 (.int v) = some (cm n sl U S (tI T r 1 v) σ) := pV_cmG h hs (by show 1 < 5; decide) (eq_tI _ _) (by simp [fsT, tI, up2, va_up])
theorem cI_4_2 (h : Vd n r) (hs : S r = (0, 4, 0)) : gI (cm n sl U S T σ) r 4 2 = some (T.1 r 2) := gI_cmG h hs rfl
theorem cP_4_2 (h : Vd n r) (hs : S r = (0, 4, 0)) (v : Int32) : pV (cm n sl U S T σ) r 4 2 (.int v) = some (cm n sl U S (tI T r 2 v) σ) := pV_cmG h hs (by show 2 < 5; decide) (eq_tI _ _) (by simp [fsT, tI, up2, va_up])
theorem cI_4_3 (h : Vd n r) (hs : S r = (0, 4, 0)) : gI (cm n sl U S T σ) r 4 3 = some (T.1 r 3) := gI_cmG h hs rfl
theorem cP_4_3 (h : Vd n r) (hs : S r = (0, 4, 0)) (v : Int32) : pV (cm n sl U S T σ) r 4 3 (.int v) = some (cm n sl U S (tI T r 3 v) σ) := pV_cmG h hs (by show 3 < 5; decide) (eq_tI _ _) (by simp [fsT, tI, up2, va_up])
theorem cI_4_4 (h : Vd n r) (hs : S r = (0, 4, 0)) : gR (cm n sl U S T σ) r 4 4 = some (T.2.2.2.1 r 4) := gR_cmG h hs rfl
theorem cI_5_0 (h : Vd n r) (hs : S r = (0, 5, 0)) : gR (cm n sl U S T σ) r 5 0 = some (T.2.2.2.1 r 0) := gR_cmG h hs rfl
theorem cI_5_1 (h : Vd n r) (hs : S r = (0, 5, 0)) : gI (cm n sl U S T σ) r 5 1 = some (T.1 r 1) := gI_cmG h hs rfl
theorem cP_5_1 (h : Vd n r) (hs : S r = (0, 5, 0)) (v : Int32) : pV (cm n sl U S T σ) r 5 1 (.int v) = some (cm n sl U S (tI T r 1 v) σ) := pV_cmG h hs (by show 1 < 9; decide) (eq_tI _ _) (by simp [fsT, tI, up2, va_up])
theorem cI_5_2 (h : Vd n r) (hs : S r = (0, 5, 0)) : gR (cm n sl U S T σ) r 5 2 = some (T.2.2.2.1 r 2) := gR_cmG h hs rfl
theorem cI_5_3 (h : Vd n r) (hs : S r = (0, 5, 0)) : gR (cm n sl U S T σ) r 5 3 = some (T.2.2.2.1 r 3) := gR_cmG h hs rfl
theorem cI_5_4 (h : Vd n r) (hs : S r = (0, 5, 0)) : gR (cm n sl U S T σ) r 5 4 = some (T.2.2.2.1 r 4) := gR_cmG h hs rfl
theorem cI_5_5 (h : Vd n r) (hs : S r = (0, 5, 0)) : gR (cm n sl U S T σ) r 5 5 = some (T.2.2.2.1 r 5) := gR_cmG h hs rfl
theorem cI_5_6 (h : Vd n r) (hs : S r = (0, 5, 0)) : gI (cm n sl U S T σ) r 5 6 = some (T.1 r 6) := gI_cmG h hs rfl
theorem cP_5_6 (h : Vd n r) (hs : S r = (0, 5, 0)) (v : Int32) : pV (cm n sl U S T σ) r 5 6 (.int v) = some (cm n sl U S (tI T r 6 v) σ) := pV_cmG h hs (by show 6 < 9; decide) (eq_tI _ _) (by simp [fsT, tI, up2, va_up])
theorem cZ_5_6 (h : Vd n r) (hs : S r = (0, 5, 0)) (v : Int32) : pZ (cm n sl U S T σ) r 5 6 v = if v = 0 ∨ v = 1 then some (cm n sl U S (tI T r 6 v) σ) else none := by
  unfold pZ
  rw [cP_5_6 h hs]
theorem cI_5_7 (h : Vd n r) (hs : S r = (0, 5, 0)) : gI (cm n sl U S T σ) r 5 7 = some (T.1 r 7) := gI_cmG h hs rfl
theorem cP_5_7 (h : Vd n r) (hs : S r = (0, 5, 0)) (v : Int32) : pV (cm n sl U S T σ) r 5 7 (.int v) = some (cm n sl U S (tI T r 7 v) σ) := pV_cmG h hs (by show 7 < 9; decide) (eq_tI _ _) (by simp [fsT, tI, up2, va_up])
theorem cZ_5_7 (h : Vd n r) (hs : S r = (0, 5, 0)) (v : Int32) : pZ (cm n sl U S T σ) r 5 7 v = if v = 0 ∨ v = 1 then some (cm n sl U S (tI T r 7 v) σ) else none := by
  unfold pZ
  rw [cP_5_7 h hs]
theorem cI_5_8 (h : Vd n r) (hs : S r = (0, 5, 0)) : gR (cm n sl U S T σ) r 5 8 = some (T.2.2.2.1 r 8) := gR_cmG h hs rfl
theorem cI_6_0 (h : Vd n r) (hs : S r = (0, 6, 0)) : gR (cm n sl U S T σ) r 6 0 = some (T.2.2.2.1 r 0) := gR_cmG h hs rfl
theorem cI_6_1 (h : Vd n r) (hs : S r = (0, 6, 0)) : gR (cm n sl U S T σ) r 6 1 = some (T.2.2.2.1 r 1) := gR_cmG h hs rfl
theorem cI_6_2 (h : Vd n r) (hs : S r = (0, 6, 0)) : gI (cm n sl U S T σ) r 6 2 = some (T.1 r 2) := gI_cmG h hs rfl
theorem cP_6_2 (h : Vd n r) (hs : S r = (0, 6, 0)) (v : Int32) : pV (cm n sl U S T σ) r 6 2 (.int v) = some (cm n sl U S (tI T r 2 v) σ) := pV_cmG h hs (by show 2 < 9; decide) (eq_tI _ _) (by simp [fsT, tI, up2, va_up])
theorem cI_6_3 (h : Vd n r) (hs : S r = (0, 6, 0)) : gI (cm n sl U S T σ) r 6 3 = some (T.1 r 3) := gI_cmG h hs rfl
theorem cP_6_3 (h : Vd n r) (hs : S r = (0, 6, 0)) (v : Int32) : pV (cm n sl U S T σ) r 6 3 (.int v) = some (cm n sl U S (tI T r 3 v) σ) := pV_cmG h hs (by show 3 < 9; decide) (eq_tI _ _) (by simp [fsT, tI, up2, va_up])
theorem cI_6_4 (h : Vd n r) (hs : S r = (0, 6, 0)) : gI (cm n sl U S T σ) r 6 4 = some (T.1 r 4) := gI_cmG h hs rfl
theorem cP_6_4 (h : Vd n r) (hs : S r = (0, 6, 0)) (v : Int32) : pV (cm n sl U S T σ) r 6 4 (.int v) = some (cm n sl U S (tI T r 4 v) σ) := pV_cmG h hs (by show 4 < 9; decide) (eq_tI _ _) (by simp [fsT, tI, up2, va_up])
theorem cI_6_5 (h : Vd n r) (hs : S r = (0, 6, 0)) : gR (cm n sl U S T σ) r 6 5 = some (T.2.2.2.1 r 5) := gR_cmG h hs rfl
theorem cI_6_6 (h : Vd n r) (hs : S r = (0, 6, 0)) : gR (cm n sl U S T σ) r 6 6 = some (T.2.2.2.1 r 6) := gR_cmG h hs rfl
theorem cI_6_7 (h : Vd n r) (hs : S r = (0, 6, 0)) : gR (cm n sl U S T σ) r 6 7 = some (T.2.2.2.1 r 7) := gR_cmG h hs rfl
theorem cI_6_8 (h : Vd n r) (hs : S r = (0, 6, 0)) : gR (cm n sl U S T σ) r 6 8 = some (T.2.2.2.1 r 8) := gR_cmG h hs rfl
theorem cI_7_0 (h : Vd n r) (hs : S r = (0, 7, 0)) : gR (cm n sl U S T σ) r 7 0 = some (T.2.2.2.1 r 0) := gR_cmG h hs rfl
theorem cP_7_0 (h : Vd n r) (hs : S r = (0, 7, 0)) (v : Nat) : pV (cm n sl U S T σ) r 7 0 (.ref v) = some (cm n sl U S (tR T r 0 v) σ) := pV_cmG h hs (by show 0 < 13; decide) (eq_tR _ _) (by simp [fsT, tR, up2, va_up])
theorem cI_7_1 (h : Vd n r) (hs : S r = (0, 7, 0)) : gI (cm n sl U S T σ) r 7 1 = some (T.1 r 1) := gI_cmG h hs rfl
theorem cP_7_1 (h : Vd n r) (hs : S r = (0, 7, 0)) (v : Int32) : pV (cm n sl U S T σ) r 7 1 (.int v) = some (cm n sl U S (tI T r 1 v) σ) := pV_cmG h hs (by show 1 < 13; decide) (eq_tI _ _) (by simp [fsT, tI, up2, va_up])
theorem cI_7_2 (h : Vd n r) (hs : S r = (0, 7, 0)) : gI (cm n sl U S T σ) r 7 2 = some (T.1 r 2) := gI_cmG h hs rfl
theorem cP_7_2 (h : Vd n r) (hs : S r = (0, 7, 0)) (v : Int32) : pV (cm n sl U S T σ) r 7 2 (.int v) = some (cm n sl U S (tI T r 2 v) σ) := pV_cmG h hs (by show 2 < 13; decide) (eq_tI _ _) (by simp [fsT, tI, up2, va_up])
theorem cI_7_3 (h : Vd n r) (hs : S r = (0, 7, 0)) : gI (cm n sl U S T σ) r 7 3 = some (T.1 r 3) := gI_cmG h hs rfl
theorem cP_7_3 (h : Vd n r) (hs : S r = (0, 7, 0)) (v : Int32) : pV (cm n sl U S T σ) r 7 3 (.int v) = some (cm n sl U S (tI T r 3 v) σ) := pV_cmG h hs (by show 3 < 13; decide) (eq_tI _ _) (by simp [fsT, tI, up2, va_up])
theorem cI_7_4 (h : Vd n r) (hs : S r = (0, 7, 0)) : gR (cm n sl U S T σ) r 7 4 = some (T.2.2.2.1 r 4) := gR_cmG h hs rfl
theorem cI_7_5 (h : Vd n r) (hs : S r = (0, 7, 0)) : gR (cm n sl U S T σ) r 7 5 = some (T.2.2.2.1 r 5) := gR_cmG h hs rfl
theorem cI_7_6 (h : Vd n r) (hs : S r = (0, 7, 0)) : gI (cm n sl U S T σ) r 7 6 = some (T.1 r 6) := gI_cmG h hs rfl
theorem cP_7_6 (h : Vd n r) (hs : S r = (0, 7, 0)) (v : Int32) : pV (cm n sl U S T σ) r 7 6 (.int v) = some (cm n sl U S (tI T r 6 v) σ) := pV_cmG h hs (by show 6 < 13; decide) (eq_tI _ _) (by simp [fsT, tI, up2, va_up])
theorem cI_7_7 (h : Vd n r) (hs : S r = (0, 7, 0)) : gI (cm n sl U S T σ) r 7 7 = some (T.1 r 7) := gI_cmG h hs rfl
theorem cP_7_7 (h : Vd n r) (hs : S r = (0, 7, 0)) (v : Int32) : pV (cm n sl U S T σ) r 7 7 (.int v) = some (cm n sl U S (tI T r 7 v) σ) := pV_cmG h hs (by show 7 < 13; decide) (eq_tI _ _) (by simp [fsT, tI, up2, va_up])
theorem cI_7_8 (h : Vd n r) (hs : S r = (0, 7, 0)) : gI (cm n sl U S T σ) r 7 8 = some (T.1 r 8) := gI_cmG h hs rfl
theorem cP_7_8 (h : Vd n r) (hs : S r = (0, 7, 0)) (v : Int32) : pV (cm n sl U S T σ) r 7 8 (.int v) = some (cm n sl U S (tI T r 8 v) σ) := pV_cmG h hs (by show 8 < 13; decide) (eq_tI _ _) (by simp [fsT, tI, up2, va_up])
theorem cI_7_9 (h : Vd n r) (hs : S r = (0, 7, 0)) : gI (cm n sl U S T σ) r 7 9 = some (T.1 r 9) := gI_cmG h hs rfl
theorem cP_7_9 (h : Vd n r) (hs : S r = (0, 7, 0)) (v : Int32) : pV (cm n sl U S T σ) r 7 9 (.int v) = some (cm n sl U S (tI T r 9 v) σ) := pV_cmG h hs (by show 9 < 13; decide) (eq_tI _ _) (by simp [fsT, tI, up2, va_up])
theorem cI_7_10 (h : Vd n r) (hs : S r = (0, 7, 0)) : gR (cm n sl U S T σ) r 7 10 = some (T.2.2.2.1 r 10) := gR_cmG h hs rfl
theorem cI_7_11 (h : Vd n r) (hs : S r = (0, 7, 0)) : gR (cm n sl U S T σ) r 7 11 = some (T.2.2.2.1 r 11) := gR_cmG h hs rfl
theorem cI_7_12 (h : Vd n r) (hs : S r = (0, 7, 0)) : gR (cm n sl U S T σ) r 7 12 = some (T.2.2.2.1 r 12) := gR_cmG h hs rfl
theorem cI_8_0 (h : Vd n r) (hs : S r = (0, 8, 0)) : gR (cm n sl U S T σ) r 8 0 = some (T.2.2.2.1 r 0) := gR_cmG h hs rfl
theorem cI_8_1 (h : Vd n r) (hs : S r = (0, 8, 0)) : gR (cm n sl U S T σ) r 8 1 = some (T.2.2.2.1 r 1) := gR_cmG h hs rfl
theorem cI_8_2 (h : Vd n r) (hs : S r = (0, 8, 0)) : gI (cm n sl U S T σ) r 8 2 = some (T.1 r 2) := gI_cmG h hs rfl
theorem cP_8_2 (h : Vd n r) (hs : S r = (0, 8, 0)) (v : Int32) : pV (cm n sl U S T σ) r 8 2 (.int v) = some (cm n sl U S (tI T r 2 v) σ) := pV_cmG h hs (by show 2 < 6; decide) (eq_tI _ _) (by simp [fsT, tI, up2, va_up])
theorem cI_8_3 (h : Vd n r) (hs : S r = (0, 8, 0)) : gR (cm n sl U S T σ) r 8 3 = some (T.2.2.2.1 r 3) := gR_cmG h hs rfl
theorem cI_8_4 (h : Vd n r) (hs : S r = (0, 8, 0)) : gR (cm n sl U S T σ) r 8 4 = some (T.2.2.2.1 r 4) := gR_cmG h hs rfl
theorem cI_8_5 (h : Vd n r) (hs : S r = (0, 8, 0)) : gR (cm n sl U S T σ) r 8 5 = some (T.2.2.2.1 r 5) := gR_cmG h hs rfl
theorem cI_9_0 (h : Vd n r) (hs : S r = (0, 9, 0)) : gR (cm n sl U S T σ) r 9 0 = some (T.2.2.2.1 r 0) := gR_cmG h hs rfl
theorem cI_9_1 (h : Vd n r) (hs : S r = (0, 9, 0)) : gI (cm n sl U S T σ) r 9 1 = some (T.1 r 1) := gI_cmG h hs rfl
theorem cP_9_1 (h : Vd n r) (hs : S r = (0, 9, 0)) (v : Int32) : pV (cm n sl U S T σ) r 9 1 (.int v) = some (cm n sl U S (tI T r 1 v) σ) := pV_cmG h hs (by show 1 < 4; decide) (eq_tI _ _) (by simp [fsT, tI, up2, va_up])
theorem cI_9_2 (h : Vd n r) (hs : S r = (0, 9, 0)) : gI (cm n sl U S T σ) r 9 2 = some (T.1 r 2) := gI_cmG h hs rfl
theorem cP_9_2 (h : Vd n r) (hs : S r = (0, 9, 0)) (v : Int32) : pV (cm n sl U S T σ) r 9 2 (.int v) = some (cm n sl U S (tI T r 2 v) σ) := pV_cmG h hs (by show 2 < 4; decide) (eq_tI _ _) (by simp [fsT, tI, up2, va_up])
theorem cI_9_3 (h : Vd n r) (hs : S r = (0, 9, 0)) : gI (cm n sl U S T σ) r 9 3 = some (T.1 r 3) := gI_cmG h hs rfl
theorem cP_9_3 (h : Vd n r) (hs : S r = (0, 9, 0)) (v : Int32) : pV (cm n sl U S T σ) r 9 3 (.int v) = some (cm n sl U S (tI T r 3 v) σ) := pV_cmG h hs (by show 3 < 4; decide) (eq_tI _ _) (by simp [fsT, tI, up2, va_up])
theorem cI_10_0 (h : Vd n r) (hs : S r = (0, 10, 0)) : gR (cm n sl U S T σ) r 10 0 = some (T.2.2.2.1 r 0) := gR_cmG h hs rfl
theorem cI_10_1 (h : Vd n r) (hs : S r = (0, 10, 0)) : gR (cm n sl U S T σ) r 10 1 = some (T.2.2.2.1 r 1) := gR_cmG h hs rfl
theorem cI_10_2 (h : Vd n r) (hs : S r = (0, 10, 0)) : gR (cm n sl U S T σ) r 10 2 = some (T.2.2.2.1 r 2) := gR_cmG h hs rfl
theorem cI_10_3 (h : Vd n r) (hs : S r = (0, 10, 0)) : gI (cm n sl U S T σ) r 10 3 = some (T.1 r 3) := gI_cmG h hs rfl
theorem cP_10_3 (h : Vd n r) (hs : S r = (0, 10, 0)) (v : Int32) : pV (cm n sl U S T σ) r 10 3 (.int v) = some (cm n sl U S (tI T r 3 v) σ) := pV_cmG h hs (by show 3 < 5; decide) (eq_tI _ _) (by simp [fsT, tI, up2, va_up])
theorem cI_10_4 (h : Vd n r) (hs : S r = (0, 10, 0)) : gI (cm n sl U S T σ) r 10 4 = some (T.1 r 4) := gI_cmG h hs rfl
theorem cP_10_4 (h : Vd n r) (hs : S r = (0, 10, 0)) (v : Int32) : pV (cm n sl U S T σ) r 10 4 (.int v) = some (cm n sl U S (tI T r 4 v) σ) := pV_cmG h hs (by show 4 < 5; decide) (eq_tI _ _) (by simp [fsT, tI, up2, va_up])
theorem cI_11_0 (h : Vd n r) (hs : S r = (0, 11, 0)) : gR (cm n sl U S T σ) r 11 0 = some (T.2.2.2.1 r 0) := gR_cmG h hs rfl
theorem cI_11_1 (h : Vd n r) (hs : S r = (0, 11, 0)) : gR (cm n sl U S T σ) r 11 1 = some (T.2.2.2.1 r 1) := gR_cmG h hs rfl
theorem cI_11_2 (h : Vd n r) (hs : S r = (0, 11, 0)) : gR (cm n sl U S T σ) r 11 2 = some (T.2.2.2.1 r 2) := gR_cmG h hs rfl
theorem cI_11_3 (h : Vd n r) (hs : S r = (0, 11, 0)) : gR (cm n sl U S T σ) r 11 3 = some (T.2.2.2.1 r 3) := gR_cmG h hs rfl
theorem cI_11_4 (h : Vd n r) (hs : S r = (0, 11, 0)) : gR (cm n sl U S T σ) r 11 4 = some (T.2.2.2.1 r 4) := gR_cmG h hs rfl
theorem cI_11_5 (h : Vd n r) (hs : S r = (0, 11, 0)) : gI (cm n sl U S T σ) r 11 5 = some (T.1 r 5) := gI_cmG h hs rfl
theorem cP_11_5 (h : Vd n r) (hs : S r = (0, 11, 0)) (v : Int32) : pV (cm n sl U S T σ) r 11 5 (.int v) = some (cm n sl U S (tI T r 5 v) σ) := pV_cmG h hs (by show 5 < 14; decide) (eq_tI _ _) (by simp [fsT, tI, up2, va_up])
theorem cI_11_6 (h : Vd n r) (hs : S r = (0, 11, 0)) : gR (cm n sl U S T σ) r 11 6 = some (T.2.2.2.1 r 6) := gR_cmG h hs rfl
theorem cI_11_7 (h : Vd n r) (hs : S r = (0, 11, 0)) : gR (cm n sl U S T σ) r 11 7 = some (T.2.2.2.1 r 7) := gR_cmG h hs rfl
theorem cI_11_8 (h : Vd n r) (hs : S r = (0, 11, 0)) : gR (cm n sl U S T σ) r 11 8 = some (T.2.2.2.1 r 8) := gR_cmG h hs rfl
theorem cI_11_9 (h : Vd n r) (hs : S r = (0, 11, 0)) : gR (cm n sl U S T σ) r 11 9 = some (T.2.2.2.1 r 9) := gR_cmG h hs rfl
theorem cI_11_10 (h : Vd n r) (hs : S r = (0, 11, 0)) : gR (cm n sl U S T σ) r 11 10 = some (T.2.2.2.1 r 10) := gR_cmG h hs rfl
theorem cI_11_11 (h : Vd n r) (hs : S r = (0, 11, 0)) : gR (cm n sl U S T σ) r 11 11 = some (T.2.2.2.1 r 11) := gR_cmG h hs rfl
theorem cI_11_12 (h : Vd n r) (hs : S r = (0, 11, 0)) : gR (cm n sl U S T σ) r 11 12 = some (T.2.2.2.1 r 12) := gR_cmG h hs rfl
theorem cI_11_13 (h : Vd n r) (hs : S r = (0, 11, 0)) : gR (cm n sl U S T σ) r 11 13 = some (T.2.2.2.1 r 13) := gR_cmG h hs rfl
end CM
/-- raw cells -/
theorem ob_raw {n sl : Nat} {U : Nat → va_E} {S : Nat → Nat × Nat × Nat} {T : Tc} {σ : Sg} {r ci : Nat} {fs : List Value} (h : Vd n r) (hs : S r = (2, 0, 0)) (hu : U r = .inr (ci, fs)) : ob (cm n sl U S T σ) r ci = some fs := by
  obtain ⟨h1, h2, h3⟩ := cm_at (sl := sl) (U := U) (S := S) (T := T) (σ := σ) h
  unfold ob
  rw [if_pos ⟨h2, h3⟩, h1]
  unfold cellT
  rw [hs]
  show (match U r with | .inr o => if o.1 = ci then some o.2 else none | .inl _ => none) = _
  rw [hu]
  show (if ci = ci then _ else _) = _
  rw [if_pos rfl]
