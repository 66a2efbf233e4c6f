/-! The memory as a state: the class's fixed cells 128 to 187 (τ), the reference's 188 to 241 (σ), what is made later (ρ). -/
abbrev Sg : Type := (Nat → Int32) × (Nat → Nat → Int32) × (Nat → Nat → Int64)
def mfs (σ : Sg) : List Value := [.int (σ.1 0), .ref 189, .ref 190, .ref 191, .ref 192, .ref 193, .ref 194, .ref 195, .ref 196, .ref 197, .ref 198, .ref 199, .ref 200, .ref 201, .ref 202, .ref 203, .ref 204, .ref 205, .ref 206, .ref 207, .ref 208, .ref 209, .ref 210, .ref 211, .ref 212, .ref 213, .ref 214, .int (σ.1 27), .int (σ.1 28), .int (σ.1 29), .int (σ.1 30), .int (σ.1 31), .int (σ.1 32), .int (σ.1 33), .int (σ.1 34), .int (σ.1 35), .int (σ.1 36), .int (σ.1 37), .ref 215, .ref 216, .ref 217, .ref 218, .ref 219, .ref 220, .ref 221, .ref 222, .ref 223, .ref 224, .ref 225, .int (σ.1 49), .int (σ.1 50), .int (σ.1 51), .int (σ.1 52), .ref 226, .ref 227, .int (σ.1 55), .int (σ.1 56), .int (σ.1 57), .ref 228, .ref 229, .ref 230, .ref 231, .ref 232, .int (σ.1 63), .int (σ.1 64), .ref 233, .ref 234, .ref 235, .ref 236, .ref 237, .ref 238, .ref 239, .int (σ.1 72), .ref 240, .ref 241, .int (σ.1 75), .int (σ.1 76)]
def mtl : List (Nat × Nat) := [(0, 11), (0, 48), (0, 5), (0, 5), (0, 8), (0, 8), (0, 8), (0, 8), (0, 4), (0, 8), (0, 10), (0, 10), (0, 8), (0, 8), (0, 7), (0, 48), (0, 5), (0, 5), (0, 8), (0, 8), (0, 8), (0, 8), (0, 4), (0, 8), (0, 10), (0, 10), (1, 400), (0, 1800), (0, 1800), (0, 6), (0, 72), (0, 72), (0, 72), (0, 402), (2, 72), (3, 12), (3, 300), (0, 280), (0, 1), (0, 11), (0, 11), (0, 11), (0, 11), (0, 11), (0, 8), (0, 4), (0, 4), (2, 48), (3, 48), (0, 8), (0, 8), (0, 2300), (2, 4)]
def mcl (σ : Sg) (k : Nat) : va_E := if k = 188 then .inr (12, mfs σ) else if (mtl.getD (k - 189) (0, 0)).1 = 3 then .inl (3, (mtl.getD (k - 189) (0, 0)).2, .inr (.inl (σ.2.2 k))) else .inl ((mtl.getD (k - 189) (0, 0)).1, (mtl.getD (k - 189) (0, 0)).2, .inl (σ.2.1 k))
def mem (ρ : Mm) (τ : Nat → va_E) (σ : Sg) : Mm := (242 + ρ.1, ρ.2.1, fun k => if k < 188 then τ k else if k < 242 then mcl σ k else ρ.2.2 k)
def stI (σ : Sg) (k : Nat) (v : Int32) : Sg := (va_up σ.1 k v, σ.2.1, σ.2.2)
def stA (σ : Sg) (r i : Nat) (v : Int32) : Sg := (σ.1, va_up σ.2.1 r (upd (σ.2.1 r) i v), σ.2.2)
def stL (σ : Sg) (r i : Nat) (v : Int64) : Sg := (σ.1, σ.2.1, va_up σ.2.2 r (vp_updL (σ.2.2 r) i v))
theorem mfs_len (σ : Sg) : (mfs σ).length = 77 := rfl
theorem ob_mem (ρ : Mm) (τ : Nat → va_E) (σ : Sg) : ob (mem ρ τ σ) 188 12 = some (mfs σ) := by
  unfold ob
  rw [if_pos ⟨by decide, by show 188 < 242 + ρ.1; omega⟩]
  rfl
theorem arr_mem (ρ : Mm) (τ : Nat → va_E) (σ : Sg) {r t n : Nat} (h1 : 189 ≤ r) (h2 : r < 242) (ht : mtl.getD (r - 189) (0, 0) = (t, n)) (h3 : t ≠ 3) : arr (mem ρ τ σ) r t = some (n, .inl (σ.2.1 r)) := by
  unfold arr
  rw [if_pos ⟨by omega, by show r < 242 + ρ.1; omega⟩]
  have e : (mem ρ τ σ).2.2 r = .inl (t, n, .inl (σ.2.1 r)) := by
    show (if r < 188 then τ r else if r < 242 then mcl σ r else ρ.2.2 r) = _
    rw [if_neg (by omega), if_pos h2, mcl, if_neg (by omega), ht, if_neg h3]
  rw [e]
  show (if t = t then _ else _) = _
  rw [if_pos rfl]
theorem arr_memL (ρ : Mm) (τ : Nat → va_E) (σ : Sg) {r n : Nat} (h1 : 189 ≤ r) (h2 : r < 242) (ht : mtl.getD (r - 189) (0, 0) = (3, n)) : arr (mem ρ τ σ) r 3 = some (n, .inr (.inl (σ.2.2 r))) := by
  unfold arr
  rw [if_pos ⟨by omega, by show r < 242 + ρ.1; omega⟩]
  have e : (mem ρ τ σ).2.2 r = .inl (3, n, .inr (.inl (σ.2.2 r))) := by
    show (if r < 188 then τ r else if r < 242 then mcl σ r else ρ.2.2 r) = _
    rw [if_neg (by omega), if_pos h2, mcl, if_neg (by omega), ht, if_pos rfl]
  rw [e]
  rfl
theorem up_mem0 (ρ : Mm) (τ : Nat → va_E) (σ σ' : Sg) (h : σ'.2 = σ.2) : up (mem ρ τ σ) 188 (.inr (12, mfs σ')) = mem ρ τ σ' := by
  obtain ⟨a, b⟩ := σ'
  obtain ⟨c, d⟩ := σ
  cases h
  unfold up mem
  refine Prod.ext rfl (Prod.ext rfl (funext fun k => ?_))
  show va_up _ 188 _ k = _
  by_cases hk : k = 188
  · subst hk
    rw [va_up_self]
    rfl
  · rw [va_up_ne _ _ hk]
    show (if k < 188 then τ k else if k < 242 then mcl _ k else ρ.2.2 k) = (if k < 188 then τ k else if k < 242 then mcl _ k else ρ.2.2 k)
    unfold mcl
    rw [if_neg hk, if_neg hk]
theorem up_memA (ρ : Mm) (τ : Nat → va_E) (σ : Sg) {r t n : Nat} (f : Nat → Int32) (h1 : 189 ≤ r) (h2 : r < 242) (ht : mtl.getD (r - 189) (0, 0) = (t, n)) (h3 : t ≠ 3) : up (mem ρ τ σ) r (.inl (t, n, .inl f)) = mem ρ τ (σ.1, va_up σ.2.1 r f, σ.2.2) := by
  unfold up mem
  refine Prod.ext rfl (Prod.ext rfl (funext fun k => ?_))
  show va_up _ r _ k = _
  by_cases hk : k = r
  · subst hk
    rw [va_up_self]
    show _ = (if k < 188 then τ k else if k < 242 then mcl _ k else ρ.2.2 k)
    rw [if_neg (by omega), if_pos h2, mcl, if_neg (by omega), ht, if_neg h3]
    show _ = Sum.inl (t, n, Sum.inl (va_up σ.2.1 k f k))
    rw [va_up_self]
  · rw [va_up_ne _ _ hk]
    show (if k < 188 then τ k else if k < 242 then mcl σ k else ρ.2.2 k) = (if k < 188 then τ k else if k < 242 then mcl (σ.1, va_up σ.2.1 r f, σ.2.2) k else ρ.2.2 k)
    have e : mcl (σ.1, va_up σ.2.1 r f, σ.2.2) k = mcl σ k := by
      unfold mcl
      show (if k = 188 then _ else if _ = 3 then _ else Sum.inl (_, _, Sum.inl (va_up σ.2.1 r f k))) = _
      rw [va_up_ne _ _ hk]
      rfl
    rw [e]
theorem up_memL (ρ : Mm) (τ : Nat → va_E) (σ : Sg) {r n : Nat} (f : Nat → Int64) (h1 : 189 ≤ r) (h2 : r < 242) (ht : mtl.getD (r - 189) (0, 0) = (3, n)) : up (mem ρ τ σ) r (.inl (3, n, .inr (.inl f))) = mem ρ τ (σ.1, σ.2.1, va_up σ.2.2 r f) := by
  unfold up mem
  refine Prod.ext rfl (Prod.ext rfl (funext fun k => ?_))
  show va_up _ r _ k = _
  by_cases hk : k = r
  · subst hk
    rw [va_up_self]
    show _ = (if k < 188 then τ k else if k < 242 then mcl _ k else ρ.2.2 k)
    rw [if_neg (by omega), if_pos h2, mcl, if_neg (by omega), ht, if_pos rfl]
    show _ = Sum.inl (3, n, Sum.inr (Sum.inl (va_up σ.2.2 k f k)))
    rw [va_up_self]
  · rw [va_up_ne _ _ hk]
    show (if k < 188 then τ k else if k < 242 then mcl σ k else ρ.2.2 k) = (if k < 188 then τ k else if k < 242 then mcl (σ.1, σ.2.1, va_up σ.2.2 r f) k else ρ.2.2 k)
    have e : mcl (σ.1, σ.2.1, va_up σ.2.2 r f) k = mcl σ k := by
      unfold mcl
      show (if k = 188 then _ else if _ = 3 then Sum.inl (3, _, Sum.inr (Sum.inl (va_up σ.2.2 r f k))) else _) = _
      rw [va_up_ne _ _ hk]
      rfl
    rw [e]
theorem gI_memG (ρ : Mm) (τ : Nat → va_E) (σ : Sg) {k : Nat} {x : Int32} (h : (mfs σ)[k]? = some (.int x)) : gI (mem ρ τ σ) 188 12 k = some x := by
  unfold gI
  rw [ob_mem]
  show vI (mfs σ)[k]? = _
  rw [h]
  rfl
theorem gR_memG (ρ : Mm) (τ : Nat → va_E) (σ : Sg) {k x : Nat} (h : (mfs σ)[k]? = some (.ref x)) : gR (mem ρ τ σ) 188 12 k = some x := by
  unfold gR
  rw [ob_mem]
  show vR (mfs σ)[k]? = _
  rw [h]
  rfl
theorem pV_memG (ρ : Mm) (τ : Nat → va_E) (σ : Sg) {k : Nat} {v : Int32} (hk : k < 77) (h : (mfs σ).set k (.int v) = mfs (stI σ k v)) : pV (mem ρ τ σ) 188 12 k (.int v) = some (mem ρ τ (stI σ k v)) := by
  unfold pV
  rw [ob_mem]
  show (if k < (mfs σ).length then some (up (mem ρ τ σ) 188 (.inr (12, (mfs σ).set k (.int v)))) else none) = _
  rw [if_pos (by rw [mfs_len]; exact hk), h, up_mem0 ρ τ σ (stI σ k v) rfl]
theorem pZ_memG (ρ : Mm) (τ : Nat → va_E) (σ : Sg) {k : Nat} {v : Int32} (hk : k < 77) (h : (mfs σ).set k (.int v) = mfs (stI σ k v)) : pZ (mem ρ τ σ) 188 12 k v = if v = 0 ∨ v = 1 then some (mem ρ τ (stI σ k v)) else none := by
  unfold pZ
  rw [pV_memG ρ τ σ hk h]
theorem aI_memG (ρ : Mm) (τ : Nat → va_E) (σ : Sg) {r t n : Nat} {i : Int32} (h1 : 189 ≤ r) (h2 : r < 242) (ht : mtl.getD (r - 189) (0, 0) = (t, n)) (h3 : t ≠ 3) : aI (mem ρ τ σ) r t i = if i < 0 ∨ n ≤ i.toNatClampNeg then none else some (σ.2.1 r i.toNatClampNeg) := by
  unfold aI
  rw [arr_mem ρ τ σ h1 h2 ht h3]
  rfl
theorem aL_memG (ρ : Mm) (τ : Nat → va_E) (σ : Sg) {r n : Nat} {i : Int32} (h1 : 189 ≤ r) (h2 : r < 242) (ht : mtl.getD (r - 189) (0, 0) = (3, n)) : aL (mem ρ τ σ) r 3 i = if i < 0 ∨ n ≤ i.toNatClampNeg then none else some (σ.2.2 r i.toNatClampNeg) := by
  unfold aL
  rw [arr_memL ρ τ σ h1 h2 ht]
  rfl
theorem aN_memG (ρ : Mm) (τ : Nat → va_E) (σ : Sg) {r t n : Nat} (h1 : 189 ≤ r) (h2 : r < 242) (ht : mtl.getD (r - 189) (0, 0) = (t, n)) (h3 : t ≠ 3) : aN (mem ρ τ σ) r t = some (Int32.ofNat n) := by
  unfold aN
  rw [arr_mem ρ τ σ h1 h2 ht h3]
  rfl
theorem sI_memG (ρ : Mm) (τ : Nat → va_E) (σ : Sg) {r t n : Nat} {i v : Int32} (h1 : 189 ≤ r) (h2 : r < 242) (ht : mtl.getD (r - 189) (0, 0) = (t, n)) (h3 : t ≠ 3) : sI (mem ρ τ σ) r t i v = if i < 0 ∨ n ≤ i.toNatClampNeg then none else some (mem ρ τ (stA σ r i.toNatClampNeg (narT t v))) := by
  unfold sI
  rw [arr_mem ρ τ σ h1 h2 ht h3]
  show (if i < 0 ∨ n ≤ i.toNatClampNeg then none else some (up (mem ρ τ σ) r (.inl (t, n, .inl (upd (σ.2.1 r) i.toNatClampNeg (narT t v)))))) = _
  rw [up_memA ρ τ σ _ h1 h2 ht h3]
  rfl
theorem sL_memG (ρ : Mm) (τ : Nat → va_E) (σ : Sg) {r n : Nat} {i : Int32} {v : Int64} (h1 : 189 ≤ r) (h2 : r < 242) (ht : mtl.getD (r - 189) (0, 0) = (3, n)) : sL (mem ρ τ σ) r 3 i v = if i < 0 ∨ n ≤ i.toNatClampNeg then none else some (mem ρ τ (stL σ r i.toNatClampNeg v)) := by
  unfold sL
  rw [arr_memL ρ τ σ h1 h2 ht]
  show (if i < 0 ∨ n ≤ i.toNatClampNeg then none else some (up (mem ρ τ σ) r (.inl (3, n, .inr (.inl (vp_updL (σ.2.2 r) i.toNatClampNeg v)))))) = _
  rw [up_memL ρ τ σ _ h1 h2 ht]
  rfl
theorem mI_0 (ρ : Mm) (τ : Nat → va_E) (σ : Sg) : gI (mem ρ τ σ) 188 12 0 = some (σ.1 0) := gI_memG ρ τ σ rfl
theorem mP_0 (ρ : Mm) (τ : Nat → va_E) (σ : Sg) (v : Int32) : pV (mem ρ τ σ) 188 12 0 (.int v) = some (mem ρ τ (stI σ 0 v)) := pV_memG ρ τ σ (by decide) rfl
theorem mR_1 (ρ : Mm) (τ : Nat → va_E) (σ : Sg) : gR (mem ρ τ σ) 188 12 1 = some 189 := gR_memG ρ τ σ rfl
theorem mA_189 (ρ : Mm) (τ : Nat → va_E) (σ : Sg) (i : Int32) : aI (mem ρ τ σ) 189 0 i = if i < 0 ∨ 11 ≤ i.toNatClampNeg then none else some (σ.2.1 189 i.toNatClampNeg) := aI_memG ρ τ σ (by decide) (by decide) rfl (by decide)
theorem mS_189 (ρ : Mm) (τ : Nat → va_E) (σ : Sg) (i v : Int32) : sI (mem ρ τ σ) 189 0 i v = if i < 0 ∨ 11 ≤ i.toNatClampNeg then none else some (mem ρ τ (stA σ 189 i.toNatClampNeg (v))) := sI_memG ρ τ σ (by decide) (by decide) rfl (by decide)
theorem mN_189 (ρ : Mm) (τ : Nat → va_E) (σ : Sg) : aN (mem ρ τ σ) 189 0 = some 11 := aN_memG ρ τ σ (by decide) (by decide) rfl (by decide)
theorem mR_2 (ρ : Mm) (τ : Nat → va_E) (σ : Sg) : gR (mem ρ τ σ) 188 12 2 = some 190 := gR_memG ρ τ σ rfl
theorem mA_190 (ρ : Mm) (τ : Nat → va_E) (σ : Sg) (i : Int32) : aI (mem ρ τ σ) 190 0 i = if i < 0 ∨ 48 ≤ i.toNatClampNeg then none else some (σ.2.1 190 i.toNatClampNeg) := aI_memG ρ τ σ (by decide) (by decide) rfl (by decide)
theorem mS_190 (ρ : Mm) (τ : Nat → va_E) (σ : Sg) (i v : Int32) : sI (mem ρ τ σ) 190 0 i v = if i < 0 ∨ 48 ≤ i.toNatClampNeg then none else some (mem ρ τ (stA σ 190 i.toNatClampNeg (v))) := sI_memG ρ τ σ (by decide) (by decide) rfl (by decide)
theorem mN_190 (ρ : Mm) (τ : Nat → va_E) (σ : Sg) : aN (mem ρ τ σ) 190 0 = some 48 := aN_memG ρ τ σ (by decide) (by decide) rfl (by decide)
theorem mR_3 (ρ : Mm) (τ : Nat → va_E) (σ : Sg) : gR (mem ρ τ σ) 188 12 3 = some 191 := gR_memG ρ τ σ rfl
theorem mA_191 (ρ : Mm) (τ : Nat → va_E) (σ : Sg) (i : Int32) : aI (mem ρ τ σ) 191 0 i = if i < 0 ∨ 5 ≤ i.toNatClampNeg then none else some (σ.2.1 191 i.toNatClampNeg) := aI_memG ρ τ σ (by decide) (by decide) rfl (by decide)
theorem mS_191 (ρ : Mm) (τ : Nat → va_E) (σ : Sg) (i v : Int32) : sI (mem ρ τ σ) 191 0 i v = if i < 0 ∨ 5 ≤ i.toNatClampNeg then none else some (mem ρ τ (stA σ 191 i.toNatClampNeg (v))) := sI_memG ρ τ σ (by decide) (by decide) rfl (by decide)
theorem mN_191 (ρ : Mm) (τ : Nat → va_E) (σ : Sg) : aN (mem ρ τ σ) 191 0 = some 5 := aN_memG ρ τ σ (by decide) (by decide) rfl (by decide)
theorem mR_4 (ρ : Mm) (τ : Nat → va_E) (σ : Sg) : gR (mem ρ τ σ) 188 12 4 = some 192 := gR_memG ρ τ σ rfl
theorem mA_192 (ρ : Mm) (τ : Nat → va_E) (σ : Sg) (i : Int32) : aI (mem ρ τ σ) 192 0 i = if i < 0 ∨ 5 ≤ i.toNatClampNeg then none else some (σ.2.1 192 i.toNatClampNeg) := aI_memG ρ τ σ (by decide) (by decide) rfl (by decide)
theorem mS_192 (ρ : Mm) (τ : Nat → va_E) (σ : Sg) (i v : Int32) : sI (mem ρ τ σ) 192 0 i v = if i < 0 ∨ 5 ≤ i.toNatClampNeg then none else some (mem ρ τ (stA σ 192 i.toNatClampNeg (v))) := sI_memG ρ τ σ (by decide) (by decide) rfl (by decide)
theorem mN_192 (ρ : Mm) (τ : Nat → va_E) (σ : Sg) : aN (mem ρ τ σ) 192 0 = some 5 := aN_memG ρ τ σ (by decide) (by decide) rfl (by decide)
theorem mR_5 (ρ : Mm) (τ : Nat → va_E) (σ : Sg) : gR (mem ρ τ σ) 188 12 5 = some 193 := gR_memG ρ τ σ rfl
theorem mA_193 (ρ : Mm) (τ : Nat → va_E) (σ : Sg) (i : Int32) : aI (mem ρ τ σ) 193 0 i = if i < 0 ∨ 8 ≤ i.toNatClampNeg then none else some (σ.2.1 193 i.toNatClampNeg) := aI_memG ρ τ σ (by decide) (by decide) rfl (by decide)
theorem mS_193 (ρ : Mm) (τ : Nat → va_E) (σ : Sg) (i v : Int32) : sI (mem ρ τ σ) 193 0 i v = if i < 0 ∨ 8 ≤ i.toNatClampNeg then none else some (mem ρ τ (stA σ 193 i.toNatClampNeg (v))) := sI_memG ρ τ σ (by decide) (by decide) rfl (by decide)
theorem mN_193 (ρ : Mm) (τ : Nat → va_E) (σ : Sg) : aN (mem ρ τ σ) 193 0 = some 8 := aN_memG ρ τ σ (by decide) (by decide) rfl (by decide)
theorem mR_6 (ρ : Mm) (τ : Nat → va_E) (σ : Sg) : gR (mem ρ τ σ) 188 12 6 = some 194 := gR_memG ρ τ σ rfl
theorem mA_194 (ρ : Mm) (τ : Nat → va_E) (σ : Sg) (i : Int32) : aI (mem ρ τ σ) 194 0 i = if i < 0 ∨ 8 ≤ i.toNatClampNeg then none else some (σ.2.1 194 i.toNatClampNeg) := aI_memG ρ τ σ (by decide) (by decide) rfl (by decide)
theorem mS_194 (ρ : Mm) (τ : Nat → va_E) (σ : Sg) (i v : Int32) : sI (mem ρ τ σ) 194 0 i v = if i < 0 ∨ 8 ≤ i.toNatClampNeg then none else some (mem ρ τ (stA σ 194 i.toNatClampNeg (v))) := sI_memG ρ τ σ (by decide) (by decide) rfl (by decide)
theorem mN_194 (ρ : Mm) (τ : Nat → va_E) (σ : Sg) : aN (mem ρ τ σ) 194 0 = some 8 := aN_memG ρ τ σ (by decide) (by decide) rfl (by decide)
theorem mR_7 (ρ : Mm) (τ : Nat → va_E) (σ : Sg) : gR (mem ρ τ σ) 188 12 7 = some 195 := gR_memG ρ τ σ rfl
theorem mA_195 (ρ : Mm) (τ : Nat → va_E) (σ : Sg) (i : Int32) : aI (mem ρ τ σ) 195 0 i = if i < 0 ∨ 8 ≤ i.toNatClampNeg then none else some (σ.2.1 195 i.toNatClampNeg) := aI_memG ρ τ σ (by decide) (by decide) rfl (by decide)
theorem mS_195 (ρ : Mm) (τ : Nat → va_E) (σ : Sg) (i v : Int32) : sI (mem ρ τ σ) 195 0 i v = if i < 0 ∨ 8 ≤ i.toNatClampNeg then none else some (mem ρ τ (stA σ 195 i.toNatClampNeg (v))) := sI_memG ρ τ σ (by decide) (by decide) rfl (by decide)
theorem mN_195 (ρ : Mm) (τ : Nat → va_E) (σ : Sg) : aN (mem ρ τ σ) 195 0 = some 8 := aN_memG ρ τ σ (by decide) (by decide) rfl (by decide)
theorem mR_8 (ρ : Mm) (τ : Nat → va_E) (σ : Sg) : gR (mem ρ τ σ) 188 12 8 = some 196 := gR_memG ρ τ σ rfl
theorem mA_196 (ρ : Mm) (τ : Nat → va_E) (σ : Sg) (i : Int32) : aI (mem ρ τ σ) 196 0 i = if i < 0 ∨ 8 ≤ i.toNatClampNeg then none else some (σ.2.1 196 i.toNatClampNeg) := aI_memG ρ τ σ (by decide) (by decide) rfl (by decide)
theorem mS_196 (ρ : Mm) (τ : Nat → va_E) (σ : Sg) (i v : Int32) : sI (mem ρ τ σ) 196 0 i v = if i < 0 ∨ 8 ≤ i.toNatClampNeg then none else some (mem ρ τ (stA σ 196 i.toNatClampNeg (v))) := sI_memG ρ τ σ (by decide) (by decide) rfl (by decide)
theorem mN_196 (ρ : Mm) (τ : Nat → va_E) (σ : Sg) : aN (mem ρ τ σ) 196 0 = some 8 := aN_memG ρ τ σ (by decide) (by decide) rfl (by decide)
theorem mR_9 (ρ : Mm) (τ : Nat → va_E) (σ : Sg) : gR (mem ρ τ σ) 188 12 9 = some 197 := gR_memG ρ τ σ rfl
theorem mA_197 (ρ : Mm) (τ : Nat → va_E) (σ : Sg) (i : Int32) : aI (mem ρ τ σ) 197 0 i = if i < 0 ∨ 4 ≤ i.toNatClampNeg then none else some (σ.2.1 197 i.toNatClampNeg) := aI_memG ρ τ σ (by decide) (by decide) rfl (by decide)
theorem mS_197 (ρ : Mm) (τ : Nat → va_E) (σ : Sg) (i v : Int32) : sI (mem ρ τ σ) 197 0 i v = if i < 0 ∨ 4 ≤ i.toNatClampNeg then none else some (mem ρ τ (stA σ 197 i.toNatClampNeg (v))) := sI_memG ρ τ σ (by decide) (by decide) rfl (by decide)
theorem mN_197 (ρ : Mm) (τ : Nat → va_E) (σ : Sg) : aN (mem ρ τ σ) 197 0 = some 4 := aN_memG ρ τ σ (by decide) (by decide) rfl (by decide)
theorem mR_10 (ρ : Mm) (τ : Nat → va_E) (σ : Sg) : gR (mem ρ τ σ) 188 12 10 = some 198 := gR_memG ρ τ σ rfl
theorem mA_198 (ρ : Mm) (τ : Nat → va_E) (σ : Sg) (i : Int32) : aI (mem ρ τ σ) 198 0 i = if i < 0 ∨ 8 ≤ i.toNatClampNeg then none else some (σ.2.1 198 i.toNatClampNeg) := aI_memG ρ τ σ (by decide) (by decide) rfl (by decide)
theorem mS_198 (ρ : Mm) (τ : Nat → va_E) (σ : Sg) (i v : Int32) : sI (mem ρ τ σ) 198 0 i v = if i < 0 ∨ 8 ≤ i.toNatClampNeg then none else some (mem ρ τ (stA σ 198 i.toNatClampNeg (v))) := sI_memG ρ τ σ (by decide) (by decide) rfl (by decide)
theorem mN_198 (ρ : Mm) (τ : Nat → va_E) (σ : Sg) : aN (mem ρ τ σ) 198 0 = some 8 := aN_memG ρ τ σ (by decide) (by decide) rfl (by decide)
theorem mR_11 (ρ : Mm) (τ : Nat → va_E) (σ : Sg) : gR (mem ρ τ σ) 188 12 11 = some 199 := gR_memG ρ τ σ rfl
theorem mA_199 (ρ : Mm) (τ : Nat → va_E) (σ : Sg) (i : Int32) : aI (mem ρ τ σ) 199 0 i = if i < 0 ∨ 10 ≤ i.toNatClampNeg then none else some (σ.2.1 199 i.toNatClampNeg) := aI_memG ρ τ σ (by decide) (by decide) rfl (by decide)
theorem mS_199 (ρ : Mm) (τ : Nat → va_E) (σ : Sg) (i v : Int32) : sI (mem ρ τ σ) 199 0 i v = if i < 0 ∨ 10 ≤ i.toNatClampNeg then none else some (mem ρ τ (stA σ 199 i.toNatClampNeg (v))) := sI_memG ρ τ σ (by decide) (by decide) rfl (by decide)
theorem mN_199 (ρ : Mm) (τ : Nat → va_E) (σ : Sg) : aN (mem ρ τ σ) 199 0 = some 10 := aN_memG ρ τ σ (by decide) (by decide) rfl (by decide)
theorem mR_12 (ρ : Mm) (τ : Nat → va_E) (σ : Sg) : gR (mem ρ τ σ) 188 12 12 = some 200 := gR_memG ρ τ σ rfl
theorem mA_200 (ρ : Mm) (τ : Nat → va_E) (σ : Sg) (i : Int32) : aI (mem ρ τ σ) 200 0 i = if i < 0 ∨ 10 ≤ i.toNatClampNeg then none else some (σ.2.1 200 i.toNatClampNeg) := aI_memG ρ τ σ (by decide) (by decide) rfl (by decide)
theorem mS_200 (ρ : Mm) (τ : Nat → va_E) (σ : Sg) (i v : Int32) : sI (mem ρ τ σ) 200 0 i v = if i < 0 ∨ 10 ≤ i.toNatClampNeg then none else some (mem ρ τ (stA σ 200 i.toNatClampNeg (v))) := sI_memG ρ τ σ (by decide) (by decide) rfl (by decide)
theorem mN_200 (ρ : Mm) (τ : Nat → va_E) (σ : Sg) : aN (mem ρ τ σ) 200 0 = some 10 := aN_memG ρ τ σ (by decide) (by decide) rfl (by decide)
theorem mR_13 (ρ : Mm) (τ : Nat → va_E) (σ : Sg) : gR (mem ρ τ σ) 188 12 13 = some 201 := gR_memG ρ τ σ rfl
theorem mA_201 (ρ : Mm) (τ : Nat → va_E) (σ : Sg) (i : Int32) : aI (mem ρ τ σ) 201 0 i = if i < 0 ∨ 8 ≤ i.toNatClampNeg then none else some (σ.2.1 201 i.toNatClampNeg) := aI_memG ρ τ σ (by decide) (by decide) rfl (by decide)
theorem mS_201 (ρ : Mm) (τ : Nat → va_E) (σ : Sg) (i v : Int32) : sI (mem ρ τ σ) 201 0 i v = if i < 0 ∨ 8 ≤ i.toNatClampNeg then none else some (mem ρ τ (stA σ 201 i.toNatClampNeg (v))) := sI_memG ρ τ σ (by decide) (by decide) rfl (by decide)
theorem mN_201 (ρ : Mm) (τ : Nat → va_E) (σ : Sg) : aN (mem ρ τ σ) 201 0 = some 8 := aN_memG ρ τ σ (by decide) (by decide) rfl (by decide)
theorem mR_14 (ρ : Mm) (τ : Nat → va_E) (σ : Sg) : gR (mem ρ τ σ) 188 12 14 = some 202 := gR_memG ρ τ σ rfl
theorem mA_202 (ρ : Mm) (τ : Nat → va_E) (σ : Sg) (i : Int32) : aI (mem ρ τ σ) 202 0 i = if i < 0 ∨ 8 ≤ i.toNatClampNeg then none else some (σ.2.1 202 i.toNatClampNeg) := aI_memG ρ τ σ (by decide) (by decide) rfl (by decide)
theorem mS_202 (ρ : Mm) (τ : Nat → va_E) (σ : Sg) (i v : Int32) : sI (mem ρ τ σ) 202 0 i v = if i < 0 ∨ 8 ≤ i.toNatClampNeg then none else some (mem ρ τ (stA σ 202 i.toNatClampNeg (v))) := sI_memG ρ τ σ (by decide) (by decide) rfl (by decide)
theorem mN_202 (ρ : Mm) (τ : Nat → va_E) (σ : Sg) : aN (mem ρ τ σ) 202 0 = some 8 := aN_memG ρ τ σ (by decide) (by decide) rfl (by decide)
theorem mR_15 (ρ : Mm) (τ : Nat → va_E) (σ : Sg) : gR (mem ρ τ σ) 188 12 15 = some 203 := gR_memG ρ τ σ rfl
theorem mA_203 (ρ : Mm) (τ : Nat → va_E) (σ : Sg) (i : Int32) : aI (mem ρ τ σ) 203 0 i = if i < 0 ∨ 7 ≤ i.toNatClampNeg then none else some (σ.2.1 203 i.toNatClampNeg) := aI_memG ρ τ σ (by decide) (by decide) rfl (by decide)
theorem mS_203 (ρ : Mm) (τ : Nat → va_E) (σ : Sg) (i v : Int32) : sI (mem ρ τ σ) 203 0 i v = if i < 0 ∨ 7 ≤ i.toNatClampNeg then none else some (mem ρ τ (stA σ 203 i.toNatClampNeg (v))) := sI_memG ρ τ σ (by decide) (by decide) rfl (by decide)
theorem mN_203 (ρ : Mm) (τ : Nat → va_E) (σ : Sg) : aN (mem ρ τ σ) 203 0 = some 7 := aN_memG ρ τ σ (by decide) (by decide) rfl (by decide)
theorem mR_16 (ρ : Mm) (τ : Nat → va_E) (σ : Sg) : gR (mem ρ τ σ) 188 12 16 = some 204 := gR_memG ρ τ σ rfl
theorem mA_204 (ρ : Mm) (τ : Nat → va_E) (σ : Sg) (i : Int32) : aI (mem ρ τ σ) 204 0 i = if i < 0 ∨ 48 ≤ i.toNatClampNeg then none else some (σ.2.1 204 i.toNatClampNeg) := aI_memG ρ τ σ (by decide) (by decide) rfl (by decide)
theorem mS_204 (ρ : Mm) (τ : Nat → va_E) (σ : Sg) (i v : Int32) : sI (mem ρ τ σ) 204 0 i v = if i < 0 ∨ 48 ≤ i.toNatClampNeg then none else some (mem ρ τ (stA σ 204 i.toNatClampNeg (v))) := sI_memG ρ τ σ (by decide) (by decide) rfl (by decide)
theorem mN_204 (ρ : Mm) (τ : Nat → va_E) (σ : Sg) : aN (mem ρ τ σ) 204 0 = some 48 := aN_memG ρ τ σ (by decide) (by decide) rfl (by decide)
theorem mR_17 (ρ : Mm) (τ : Nat → va_E) (σ : Sg) : gR (mem ρ τ σ) 188 12 17 = some 205 := gR_memG ρ τ σ rfl
theorem mA_205 (ρ : Mm) (τ : Nat → va_E) (σ : Sg) (i : Int32) : aI (mem ρ τ σ) 205 0 i = if i < 0 ∨ 5 ≤ i.toNatClampNeg then none else some (σ.2.1 205 i.toNatClampNeg) := aI_memG ρ τ σ (by decide) (by decide) rfl (by decide)
theorem mS_205 (ρ : Mm) (τ : Nat → va_E) (σ : Sg) (i v : Int32) : sI (mem ρ τ σ) 205 0 i v = if i < 0 ∨ 5 ≤ i.toNatClampNeg then none else some (mem ρ τ (stA σ 205 i.toNatClampNeg (v))) := sI_memG ρ τ σ (by decide) (by decide) rfl (by decide)
theorem mN_205 (ρ : Mm) (τ : Nat → va_E) (σ : Sg) : aN (mem ρ τ σ) 205 0 = some 5 := aN_memG ρ τ σ (by decide) (by decide) rfl (by decide)
theorem mR_18 (ρ : Mm) (τ : Nat → va_E) (σ : Sg) : gR (mem ρ τ σ) 188 12 18 = some 206 := gR_memG ρ τ σ rfl
theorem mA_206 (ρ : Mm) (τ : Nat → va_E) (σ : Sg) (i : Int32) : aI (mem ρ τ σ) 206 0 i = if i < 0 ∨ 5 ≤ i.toNatClampNeg then none else some (σ.2.1 206 i.toNatClampNeg) := aI_memG ρ τ σ (by decide) (by decide) rfl (by decide)
theorem mS_206 (ρ : Mm) (τ : Nat → va_E) (σ : Sg) (i v : Int32) : sI (mem ρ τ σ) 206 0 i v = if i < 0 ∨ 5 ≤ i.toNatClampNeg then none else some (mem ρ τ (stA σ 206 i.toNatClampNeg (v))) := sI_memG ρ τ σ (by decide) (by decide) rfl (by decide)
theorem mN_206 (ρ : Mm) (τ : Nat → va_E) (σ : Sg) : aN (mem ρ τ σ) 206 0 = some 5 := aN_memG ρ τ σ (by decide) (by decide) rfl (by decide)
theorem mR_19 (ρ : Mm) (τ : Nat → va_E) (σ : Sg) : gR (mem ρ τ σ) 188 12 19 = some 207 := gR_memG ρ τ σ rfl
theorem mA_207 (ρ : Mm) (τ : Nat → va_E) (σ : Sg) (i : Int32) : aI (mem ρ τ σ) 207 0 i = if i < 0 ∨ 8 ≤ i.toNatClampNeg then none else some (σ.2.1 207 i.toNatClampNeg) := aI_memG ρ τ σ (by decide) (by decide) rfl (by decide)
theorem mS_207 (ρ : Mm) (τ : Nat → va_E) (σ : Sg) (i v : Int32) : sI (mem ρ τ σ) 207 0 i v = if i < 0 ∨ 8 ≤ i.toNatClampNeg then none else some (mem ρ τ (stA σ 207 i.toNatClampNeg (v))) := sI_memG ρ τ σ (by decide) (by decide) rfl (by decide)
theorem mN_207 (ρ : Mm) (τ : Nat → va_E) (σ : Sg) : aN (mem ρ τ σ) 207 0 = some 8 := aN_memG ρ τ σ (by decide) (by decide) rfl (by decide)
theorem mR_20 (ρ : Mm) (τ : Nat → va_E) (σ : Sg) : gR (mem ρ τ σ) 188 12 20 = some 208 := gR_memG ρ τ σ rfl
theorem mA_208 (ρ : Mm) (τ : Nat → va_E) (σ : Sg) (i : Int32) : aI (mem ρ τ σ) 208 0 i = if i < 0 ∨ 8 ≤ i.toNatClampNeg then none else some (σ.2.1 208 i.toNatClampNeg) := aI_memG ρ τ σ (by decide) (by decide) rfl (by decide)
theorem mS_208 (ρ : Mm) (τ : Nat → va_E) (σ : Sg) (i v : Int32) : sI (mem ρ τ σ) 208 0 i v = if i < 0 ∨ 8 ≤ i.toNatClampNeg then none else some (mem ρ τ (stA σ 208 i.toNatClampNeg (v))) := sI_memG ρ τ σ (by decide) (by decide) rfl (by decide)
theorem mN_208 (ρ : Mm) (τ : Nat → va_E) (σ : Sg) : aN (mem ρ τ σ) 208 0 = some 8 := aN_memG ρ τ σ (by decide) (by decide) rfl (by decide)
theorem mR_21 (ρ : Mm) (τ : Nat → va_E) (σ : Sg) : gR (mem ρ τ σ) 188 12 21 = some 209 := gR_memG ρ τ σ rfl
theorem mA_209 (ρ : Mm) (τ : Nat → va_E) (σ : Sg) (i : Int32) : aI (mem ρ τ σ) 209 0 i = if i < 0 ∨ 8 ≤ i.toNatClampNeg then none else some (σ.2.1 209 i.toNatClampNeg) := aI_memG ρ τ σ (by decide) (by decide) rfl (by decide)
theorem mS_209 (ρ : Mm) (τ : Nat → va_E) (σ : Sg) (i v : Int32) : sI (mem ρ τ σ) 209 0 i v = if i < 0 ∨ 8 ≤ i.toNatClampNeg then none else some (mem ρ τ (stA σ 209 i.toNatClampNeg (v))) := sI_memG ρ τ σ (by decide) (by decide) rfl (by decide)
theorem mN_209 (ρ : Mm) (τ : Nat → va_E) (σ : Sg) : aN (mem ρ τ σ) 209 0 = some 8 := aN_memG ρ τ σ (by decide) (by decide) rfl (by decide)
theorem mR_22 (ρ : Mm) (τ : Nat → va_E) (σ : Sg) : gR (mem ρ τ σ) 188 12 22 = some 210 := gR_memG ρ τ σ rfl
theorem mA_210 (ρ : Mm) (τ : Nat → va_E) (σ : Sg) (i : Int32) : aI (mem ρ τ σ) 210 0 i = if i < 0 ∨ 8 ≤ i.toNatClampNeg then none else some (σ.2.1 210 i.toNatClampNeg) := aI_memG ρ τ σ (by decide) (by decide) rfl (by decide)
theorem mS_210 (ρ : Mm) (τ : Nat → va_E) (σ : Sg) (i v : Int32) : sI (mem ρ τ σ) 210 0 i v = if i < 0 ∨ 8 ≤ i.toNatClampNeg then none else some (mem ρ τ (stA σ 210 i.toNatClampNeg (v))) := sI_memG ρ τ σ (by decide) (by decide) rfl (by decide)
theorem mN_210 (ρ : Mm) (τ : Nat → va_E) (σ : Sg) : aN (mem ρ τ σ) 210 0 = some 8 := aN_memG ρ τ σ (by decide) (by decide) rfl (by decide)
theorem mR_23 (ρ : Mm) (τ : Nat → va_E) (σ : Sg) : gR (mem ρ τ σ) 188 12 23 = some 211 := gR_memG ρ τ σ rfl
theorem mA_211 (ρ : Mm) (τ : Nat → va_E) (σ : Sg) (i : Int32) : aI (mem ρ τ σ) 211 0 i = if i < 0 ∨ 4 ≤ i.toNatClampNeg then none else some (σ.2.1 211 i.toNatClampNeg) := aI_memG ρ τ σ (by decide) (by decide) rfl (by decide)
theorem mS_211 (ρ : Mm) (τ : Nat → va_E) (σ : Sg) (i v : Int32) : sI (mem ρ τ σ) 211 0 i v = if i < 0 ∨ 4 ≤ i.toNatClampNeg then none else some (mem ρ τ (stA σ 211 i.toNatClampNeg (v))) := sI_memG ρ τ σ (by decide) (by decide) rfl (by decide)
theorem mN_211 (ρ : Mm) (τ : Nat → va_E) (σ : Sg) : aN (mem ρ τ σ) 211 0 = some 4 := aN_memG ρ τ σ (by decide) (by decide) rfl (by decide)
theorem mR_24 (ρ : Mm) (τ : Nat → va_E) (σ : Sg) : gR (mem ρ τ σ) 188 12 24 = some 212 := gR_memG ρ τ σ rfl
theorem mA_212 (ρ : Mm) (τ : Nat → va_E) (σ : Sg) (i : Int32) : aI (mem ρ τ σ) 212 0 i = if i < 0 ∨ 8 ≤ i.toNatClampNeg then none else some (σ.2.1 212 i.toNatClampNeg) := aI_memG ρ τ σ (by decide) (by decide) rfl (by decide)
theorem mS_212 (ρ : Mm) (τ : Nat → va_E) (σ : Sg) (i v : Int32) : sI (mem ρ τ σ) 212 0 i v = if i < 0 ∨ 8 ≤ i.toNatClampNeg then none else some (mem ρ τ (stA σ 212 i.toNatClampNeg (v))) := sI_memG ρ τ σ (by decide) (by decide) rfl (by decide)
theorem mN_212 (ρ : Mm) (τ : Nat → va_E) (σ : Sg) : aN (mem ρ τ σ) 212 0 = some 8 := aN_memG ρ τ σ (by decide) (by decide) rfl (by decide)
theorem mR_25 (ρ : Mm) (τ : Nat → va_E) (σ : Sg) : gR (mem ρ τ σ) 188 12 25 = some 213 := gR_memG ρ τ σ rfl
theorem mA_213 (ρ : Mm) (τ : Nat → va_E) (σ : Sg) (i : Int32) : aI (mem ρ τ σ) 213 0 i = if i < 0 ∨ 10 ≤ i.toNatClampNeg then none else some (σ.2.1 213 i.toNatClampNeg) := aI_memG ρ τ σ (by decide) (by decide) rfl (by decide)
theorem mS_213 (ρ : Mm) (τ : Nat → va_E) (σ : Sg) (i v : Int32) : sI (mem ρ τ σ) 213 0 i v = if i < 0 ∨ 10 ≤ i.toNatClampNeg then none else some (mem ρ τ (stA σ 213 i.toNatClampNeg (v))) := sI_memG ρ τ σ (by decide) (by decide) rfl (by decide)
theorem mN_213 (ρ : Mm) (τ : Nat → va_E) (σ : Sg) : aN (mem ρ τ σ) 213 0 = some 10 := aN_memG ρ τ σ (by decide) (by decide) rfl (by decide)
theorem mR_26 (ρ : Mm) (τ : Nat → va_E) (σ : Sg) : gR (mem ρ τ σ) 188 12 26 = some 214 := gR_memG ρ τ σ rfl
theorem mA_214 (ρ : Mm) (τ : Nat → va_E) (σ : Sg) (i : Int32) : aI (mem ρ τ σ) 214 0 i = if i < 0 ∨ 10 ≤ i.toNatClampNeg then none else some (σ.2.1 214 i.toNatClampNeg) := aI_memG ρ τ σ (by decide) (by decide) rfl (by decide)
theorem mS_214 (ρ : Mm) (τ : Nat → va_E) (σ : Sg) (i v : Int32) : sI (mem ρ τ σ) 214 0 i v = if i < 0 ∨ 10 ≤ i.toNatClampNeg then none else some (mem ρ τ (stA σ 214 i.toNatClampNeg (v))) := sI_memG ρ τ σ (by decide) (by decide) rfl (by decide)
theorem mN_214 (ρ : Mm) (τ : Nat → va_E) (σ : Sg) : aN (mem ρ τ σ) 214 0 = some 10 := aN_memG ρ τ σ (by decide) (by decide) rfl (by decide)
theorem mI_27 (ρ : Mm) (τ : Nat → va_E) (σ : Sg) : gI (mem ρ τ σ) 188 12 27 = some (σ.1 27) := gI_memG ρ τ σ rfl
theorem mP_27 (ρ : Mm) (τ : Nat → va_E) (σ : Sg) (v : Int32) : pV (mem ρ τ σ) 188 12 27 (.int v) = some (mem ρ τ (stI σ 27 v)) := pV_memG ρ τ σ (by decide) rfl
theorem mI_28 (ρ : Mm) (τ : Nat → va_E) (σ : Sg) : gI (mem ρ τ σ) 188 12 28 = some (σ.1 28) := gI_memG ρ τ σ rfl
theorem mP_28 (ρ : Mm) (τ : Nat → va_E) (σ : Sg) (v : Int32) : pV (mem ρ τ σ) 188 12 28 (.int v) = some (mem ρ τ (stI σ 28 v)) := pV_memG ρ τ σ (by decide) rfl
theorem mI_29 (ρ : Mm) (τ : Nat → va_E) (σ : Sg) : gI (mem ρ τ σ) 188 12 29 = some (σ.1 29) := gI_memG ρ τ σ rfl
theorem mP_29 (ρ : Mm) (τ : Nat → va_E) (σ : Sg) (v : Int32) : pV (mem ρ τ σ) 188 12 29 (.int v) = some (mem ρ τ (stI σ 29 v)) := pV_memG ρ τ σ (by decide) rfl
theorem mI_30 (ρ : Mm) (τ : Nat → va_E) (σ : Sg) : gI (mem ρ τ σ) 188 12 30 = some (σ.1 30) := gI_memG ρ τ σ rfl
theorem mP_30 (ρ : Mm) (τ : Nat → va_E) (σ : Sg) (v : Int32) : pV (mem ρ τ σ) 188 12 30 (.int v) = some (mem ρ τ (stI σ 30 v)) := pV_memG ρ τ σ (by decide) rfl
theorem mI_31 (ρ : Mm) (τ : Nat → va_E) (σ : Sg) : gI (mem ρ τ σ) 188 12 31 = some (σ.1 31) := gI_memG ρ τ σ rfl
theorem mP_31 (ρ : Mm) (τ : Nat → va_E) (σ : Sg) (v : Int32) : pV (mem ρ τ σ) 188 12 31 (.int v) = some (mem ρ τ (stI σ 31 v)) := pV_memG ρ τ σ (by decide) rfl
theorem mI_32 (ρ : Mm) (τ : Nat → va_E) (σ : Sg) : gI (mem ρ τ σ) 188 12 32 = some (σ.1 32) := gI_memG ρ τ σ rfl
theorem mP_32 (ρ : Mm) (τ : Nat → va_E) (σ : Sg) (v : Int32) : pV (mem ρ τ σ) 188 12 32 (.int v) = some (mem ρ τ (stI σ 32 v)) := pV_memG ρ τ σ (by decide) rfl
theorem mI_33 (ρ : Mm) (τ : Nat → va_E) (σ : Sg) : gI (mem ρ τ σ) 188 12 33 = some (σ.1 33) := gI_memG ρ τ σ rfl
theorem mP_33 (ρ : Mm) (τ : Nat → va_E) (σ : Sg) (v : Int32) : pV (mem ρ τ σ) 188 12 33 (.int v) = some (mem ρ τ (stI σ 33 v)) := pV_memG ρ τ σ (by decide) rfl
theorem mI_34 (ρ : Mm) (τ : Nat → va_E) (σ : Sg) : gI (mem ρ τ σ) 188 12 34 = some (σ.1 34) := gI_memG ρ τ σ rfl
theorem mP_34 (ρ : Mm) (τ : Nat → va_E) (σ : Sg) (v : Int32) : pV (mem ρ τ σ) 188 12 34 (.int v) = some (mem ρ τ (stI σ 34 v)) := pV_memG ρ τ σ (by decide) rfl
theorem mI_35 (ρ : Mm) (τ : Nat → va_E) (σ : Sg) : gI (mem ρ τ σ) 188 12 35 = some (σ.1 35) := gI_memG ρ τ σ rfl
theorem mP_35 (ρ : Mm) (τ : Nat → va_E) (σ : Sg) (v : Int32) : pV (mem ρ τ σ) 188 12 35 (.int v) = some (mem ρ τ (stI σ 35 v)) := pV_memG ρ τ σ (by decide) rfl
theorem mI_36 (ρ : Mm) (τ : Nat → va_E) (σ : Sg) : gI (mem ρ τ σ) 188 12 36 = some (σ.1 36) := gI_memG ρ τ σ rfl
theorem mP_36 (ρ : Mm) (τ : Nat → va_E) (σ : Sg) (v : Int32) : pV (mem ρ τ σ) 188 12 36 (.int v) = some (mem ρ τ (stI σ 36 v)) := pV_memG ρ τ σ (by decide) rfl
theorem mI_37 (ρ : Mm) (τ : Nat → va_E) (σ : Sg) : gI (mem ρ τ σ) 188 12 37 = some (σ.1 37) := gI_memG ρ τ σ rfl
theorem mP_37 (ρ : Mm) (τ : Nat → va_E) (σ : Sg) (v : Int32) : pV (mem ρ τ σ) 188 12 37 (.int v) = some (mem ρ τ (stI σ 37 v)) := pV_memG ρ τ σ (by decide) rfl
theorem mR_38 (ρ : Mm) (τ : Nat → va_E) (σ : Sg) : gR (mem ρ τ σ) 188 12 38 = some 215 := gR_memG ρ τ σ rfl
theorem mA_215 (ρ : Mm) (τ : Nat → va_E) (σ : Sg) (i : Int32) : aI (mem ρ τ σ) 215 1 i = if i < 0 ∨ 400 ≤ i.toNatClampNeg then none else some (σ.2.1 215 i.toNatClampNeg) := aI_memG ρ τ σ (by decide) (by decide) rfl (by decide)
theorem mS_215 (ρ : Mm) (τ : Nat → va_E) (σ : Sg) (i v : Int32) : sI (mem ρ τ σ) 215 1 i v = if i < 0 ∨ 400 ≤ i.toNatClampNeg then none else some (mem ρ τ (stA σ 215 i.toNatClampNeg (narT 1 v))) := sI_memG ρ τ σ (by decide) (by decide) rfl (by decide)
theorem mN_215 (ρ : Mm) (τ : Nat → va_E) (σ : Sg) : aN (mem ρ τ σ) 215 1 = some 400 := aN_memG ρ τ σ (by decide) (by decide) rfl (by decide)
theorem mR_39 (ρ : Mm) (τ : Nat → va_E) (σ : Sg) : gR (mem ρ τ σ) 188 12 39 = some 216 := gR_memG ρ τ σ rfl
theorem mA_216 (ρ : Mm) (τ : Nat → va_E) (σ : Sg) (i : Int32) : aI (mem ρ τ σ) 216 0 i = if i < 0 ∨ 1800 ≤ i.toNatClampNeg then none else some (σ.2.1 216 i.toNatClampNeg) := aI_memG ρ τ σ (by decide) (by decide) rfl (by decide)
theorem mS_216 (ρ : Mm) (τ : Nat → va_E) (σ : Sg) (i v : Int32) : sI (mem ρ τ σ) 216 0 i v = if i < 0 ∨ 1800 ≤ i.toNatClampNeg then none else some (mem ρ τ (stA σ 216 i.toNatClampNeg (v))) := sI_memG ρ τ σ (by decide) (by decide) rfl (by decide)
theorem mN_216 (ρ : Mm) (τ : Nat → va_E) (σ : Sg) : aN (mem ρ τ σ) 216 0 = some 1800 := aN_memG ρ τ σ (by decide) (by decide) rfl (by decide)
theorem mR_40 (ρ : Mm) (τ : Nat → va_E) (σ : Sg) : gR (mem ρ τ σ) 188 12 40 = some 217 := gR_memG ρ τ σ rfl
theorem mA_217 (ρ : Mm) (τ : Nat → va_E) (σ : Sg) (i : Int32) : aI (mem ρ τ σ) 217 0 i = if i < 0 ∨ 1800 ≤ i.toNatClampNeg then none else some (σ.2.1 217 i.toNatClampNeg) := aI_memG ρ τ σ (by decide) (by decide) rfl (by decide)
theorem mS_217 (ρ : Mm) (τ : Nat → va_E) (σ : Sg) (i v : Int32) : sI (mem ρ τ σ) 217 0 i v = if i < 0 ∨ 1800 ≤ i.toNatClampNeg then none else some (mem ρ τ (stA σ 217 i.toNatClampNeg (v))) := sI_memG ρ τ σ (by decide) (by decide) rfl (by decide)
theorem mN_217 (ρ : Mm) (τ : Nat → va_E) (σ : Sg) : aN (mem ρ τ σ) 217 0 = some 1800 := aN_memG ρ τ σ (by decide) (by decide) rfl (by decide)
theorem mR_41 (ρ : Mm) (τ : Nat → va_E) (σ : Sg) : gR (mem ρ τ σ) 188 12 41 = some 218 := gR_memG ρ τ σ rfl
theorem mA_218 (ρ : Mm) (τ : Nat → va_E) (σ : Sg) (i : Int32) : aI (mem ρ τ σ) 218 0 i = if i < 0 ∨ 6 ≤ i.toNatClampNeg then none else some (σ.2.1 218 i.toNatClampNeg) := aI_memG ρ τ σ (by decide) (by decide) rfl (by decide)
theorem mS_218 (ρ : Mm) (τ : Nat → va_E) (σ : Sg) (i v : Int32) : sI (mem ρ τ σ) 218 0 i v = if i < 0 ∨ 6 ≤ i.toNatClampNeg then none else some (mem ρ τ (stA σ 218 i.toNatClampNeg (v))) := sI_memG ρ τ σ (by decide) (by decide) rfl (by decide)
theorem mN_218 (ρ : Mm) (τ : Nat → va_E) (σ : Sg) : aN (mem ρ τ σ) 218 0 = some 6 := aN_memG ρ τ σ (by decide) (by decide) rfl (by decide)
theorem mR_42 (ρ : Mm) (τ : Nat → va_E) (σ : Sg) : gR (mem ρ τ σ) 188 12 42 = some 219 := gR_memG ρ τ σ rfl
theorem mA_219 (ρ : Mm) (τ : Nat → va_E) (σ : Sg) (i : Int32) : aI (mem ρ τ σ) 219 0 i = if i < 0 ∨ 72 ≤ i.toNatClampNeg then none else some (σ.2.1 219 i.toNatClampNeg) := aI_memG ρ τ σ (by decide) (by decide) rfl (by decide)
theorem mS_219 (ρ : Mm) (τ : Nat → va_E) (σ : Sg) (i v : Int32) : sI (mem ρ τ σ) 219 0 i v = if i < 0 ∨ 72 ≤ i.toNatClampNeg then none else some (mem ρ τ (stA σ 219 i.toNatClampNeg (v))) := sI_memG ρ τ σ (by decide) (by decide) rfl (by decide)
theorem mN_219 (ρ : Mm) (τ : Nat → va_E) (σ : Sg) : aN (mem ρ τ σ) 219 0 = some 72 := aN_memG ρ τ σ (by decide) (by decide) rfl (by decide)
theorem mR_43 (ρ : Mm) (τ : Nat → va_E) (σ : Sg) : gR (mem ρ τ σ) 188 12 43 = some 220 := gR_memG ρ τ σ rfl
theorem mA_220 (ρ : Mm) (τ : Nat → va_E) (σ : Sg) (i : Int32) : aI (mem ρ τ σ) 220 0 i = if i < 0 ∨ 72 ≤ i.toNatClampNeg then none else some (σ.2.1 220 i.toNatClampNeg) := aI_memG ρ τ σ (by decide) (by decide) rfl (by decide)
theorem mS_220 (ρ : Mm) (τ : Nat → va_E) (σ : Sg) (i v : Int32) : sI (mem ρ τ σ) 220 0 i v = if i < 0 ∨ 72 ≤ i.toNatClampNeg then none else some (mem ρ τ (stA σ 220 i.toNatClampNeg (v))) := sI_memG ρ τ σ (by decide) (by decide) rfl (by decide)
theorem mN_220 (ρ : Mm) (τ : Nat → va_E) (σ : Sg) : aN (mem ρ τ σ) 220 0 = some 72 := aN_memG ρ τ σ (by decide) (by decide) rfl (by decide)
theorem mR_44 (ρ : Mm) (τ : Nat → va_E) (σ : Sg) : gR (mem ρ τ σ) 188 12 44 = some 221 := gR_memG ρ τ σ rfl
theorem mA_221 (ρ : Mm) (τ : Nat → va_E) (σ : Sg) (i : Int32) : aI (mem ρ τ σ) 221 0 i = if i < 0 ∨ 72 ≤ i.toNatClampNeg then none else some (σ.2.1 221 i.toNatClampNeg) := aI_memG ρ τ σ (by decide) (by decide) rfl (by decide)
theorem mS_221 (ρ : Mm) (τ : Nat → va_E) (σ : Sg) (i v : Int32) : sI (mem ρ τ σ) 221 0 i v = if i < 0 ∨ 72 ≤ i.toNatClampNeg then none else some (mem ρ τ (stA σ 221 i.toNatClampNeg (v))) := sI_memG ρ τ σ (by decide) (by decide) rfl (by decide)
theorem mN_221 (ρ : Mm) (τ : Nat → va_E) (σ : Sg) : aN (mem ρ τ σ) 221 0 = some 72 := aN_memG ρ τ σ (by decide) (by decide) rfl (by decide)
theorem mR_45 (ρ : Mm) (τ : Nat → va_E) (σ : Sg) : gR (mem ρ τ σ) 188 12 45 = some 222 := gR_memG ρ τ σ rfl
theorem mA_222 (ρ : Mm) (τ : Nat → va_E) (σ : Sg) (i : Int32) : aI (mem ρ τ σ) 222 0 i = if i < 0 ∨ 402 ≤ i.toNatClampNeg then none else some (σ.2.1 222 i.toNatClampNeg) := aI_memG ρ τ σ (by decide) (by decide) rfl (by decide)
theorem mS_222 (ρ : Mm) (τ : Nat → va_E) (σ : Sg) (i v : Int32) : sI (mem ρ τ σ) 222 0 i v = if i < 0 ∨ 402 ≤ i.toNatClampNeg then none else some (mem ρ τ (stA σ 222 i.toNatClampNeg (v))) := sI_memG ρ τ σ (by decide) (by decide) rfl (by decide)
theorem mN_222 (ρ : Mm) (τ : Nat → va_E) (σ : Sg) : aN (mem ρ τ σ) 222 0 = some 402 := aN_memG ρ τ σ (by decide) (by decide) rfl (by decide)
theorem mR_46 (ρ : Mm) (τ : Nat → va_E) (σ : Sg) : gR (mem ρ τ σ) 188 12 46 = some 223 := gR_memG ρ τ σ rfl
theorem mA_223 (ρ : Mm) (τ : Nat → va_E) (σ : Sg) (i : Int32) : aI (mem ρ τ σ) 223 2 i = if i < 0 ∨ 72 ≤ i.toNatClampNeg then none else some (σ.2.1 223 i.toNatClampNeg) := aI_memG ρ τ σ (by decide) (by decide) rfl (by decide)
theorem mS_223 (ρ : Mm) (τ : Nat → va_E) (σ : Sg) (i v : Int32) : sI (mem ρ τ σ) 223 2 i v = if i < 0 ∨ 72 ≤ i.toNatClampNeg then none else some (mem ρ τ (stA σ 223 i.toNatClampNeg (narT 2 v))) := sI_memG ρ τ σ (by decide) (by decide) rfl (by decide)
theorem mN_223 (ρ : Mm) (τ : Nat → va_E) (σ : Sg) : aN (mem ρ τ σ) 223 2 = some 72 := aN_memG ρ τ σ (by decide) (by decide) rfl (by decide)
theorem mR_47 (ρ : Mm) (τ : Nat → va_E) (σ : Sg) : gR (mem ρ τ σ) 188 12 47 = some 224 := gR_memG ρ τ σ rfl
theorem mL_224 (ρ : Mm) (τ : Nat → va_E) (σ : Sg) (i : Int32) : aL (mem ρ τ σ) 224 3 i = if i < 0 ∨ 12 ≤ i.toNatClampNeg then none else some (σ.2.2 224 i.toNatClampNeg) := aL_memG ρ τ σ (by decide) (by decide) rfl
theorem mS_224 (ρ : Mm) (τ : Nat → va_E) (σ : Sg) (i : Int32) (v : Int64) : sL (mem ρ τ σ) 224 3 i v = if i < 0 ∨ 12 ≤ i.toNatClampNeg then none else some (mem ρ τ (stL σ 224 i.toNatClampNeg v)) := sL_memG ρ τ σ (by decide) (by decide) rfl
theorem mR_48 (ρ : Mm) (τ : Nat → va_E) (σ : Sg) : gR (mem ρ τ σ) 188 12 48 = some 225 := gR_memG ρ τ σ rfl
theorem mL_225 (ρ : Mm) (τ : Nat → va_E) (σ : Sg) (i : Int32) : aL (mem ρ τ σ) 225 3 i = if i < 0 ∨ 300 ≤ i.toNatClampNeg then none else some (σ.2.2 225 i.toNatClampNeg) := aL_memG ρ τ σ (by decide) (by decide) rfl
theorem mS_225 (ρ : Mm) (τ : Nat → va_E) (σ : Sg) (i : Int32) (v : Int64) : sL (mem ρ τ σ) 225 3 i v = if i < 0 ∨ 300 ≤ i.toNatClampNeg then none else some (mem ρ τ (stL σ 225 i.toNatClampNeg v)) := sL_memG ρ τ σ (by decide) (by decide) rfl
theorem mI_49 (ρ : Mm) (τ : Nat → va_E) (σ : Sg) : gI (mem ρ τ σ) 188 12 49 = some (σ.1 49) := gI_memG ρ τ σ rfl
theorem mP_49 (ρ : Mm) (τ : Nat → va_E) (σ : Sg) (v : Int32) : pV (mem ρ τ σ) 188 12 49 (.int v) = some (mem ρ τ (stI σ 49 v)) := pV_memG ρ τ σ (by decide) rfl
theorem mI_50 (ρ : Mm) (τ : Nat → va_E) (σ : Sg) : gI (mem ρ τ σ) 188 12 50 = some (σ.1 50) := gI_memG ρ τ σ rfl
theorem mP_50 (ρ : Mm) (τ : Nat → va_E) (σ : Sg) (v : Int32) : pV (mem ρ τ σ) 188 12 50 (.int v) = some (mem ρ τ (stI σ 50 v)) := pV_memG ρ τ σ (by decide) rfl
theorem mI_51 (ρ : Mm) (τ : Nat → va_E) (σ : Sg) : gI (mem ρ τ σ) 188 12 51 = some (σ.1 51) := gI_memG ρ τ σ rfl
theorem mP_51 (ρ : Mm) (τ : Nat → va_E) (σ : Sg) (v : Int32) : pV (mem ρ τ σ) 188 12 51 (.int v) = some (mem ρ τ (stI σ 51 v)) := pV_memG ρ τ σ (by decide) rfl
theorem mI_52 (ρ : Mm) (τ : Nat → va_E) (σ : Sg) : gI (mem ρ τ σ) 188 12 52 = some (σ.1 52) := gI_memG ρ τ σ rfl
theorem mP_52 (ρ : Mm) (τ : Nat → va_E) (σ : Sg) (v : Int32) : pV (mem ρ τ σ) 188 12 52 (.int v) = some (mem ρ τ (stI σ 52 v)) := pV_memG ρ τ σ (by decide) rfl
theorem mR_53 (ρ : Mm) (τ : Nat → va_E) (σ : Sg) : gR (mem ρ τ σ) 188 12 53 = some 226 := gR_memG ρ τ σ rfl
theorem mA_226 (ρ : Mm) (τ : Nat → va_E) (σ : Sg) (i : Int32) : aI (mem ρ τ σ) 226 0 i = if i < 0 ∨ 280 ≤ i.toNatClampNeg then none else some (σ.2.1 226 i.toNatClampNeg) := aI_memG ρ τ σ (by decide) (by decide) rfl (by decide)
theorem mS_226 (ρ : Mm) (τ : Nat → va_E) (σ : Sg) (i v : Int32) : sI (mem ρ τ σ) 226 0 i v = if i < 0 ∨ 280 ≤ i.toNatClampNeg then none else some (mem ρ τ (stA σ 226 i.toNatClampNeg (v))) := sI_memG ρ τ σ (by decide) (by decide) rfl (by decide)
theorem mN_226 (ρ : Mm) (τ : Nat → va_E) (σ : Sg) : aN (mem ρ τ σ) 226 0 = some 280 := aN_memG ρ τ σ (by decide) (by decide) rfl (by decide)
theorem mR_54 (ρ : Mm) (τ : Nat → va_E) (σ : Sg) : gR (mem ρ τ σ) 188 12 54 = some 227 := gR_memG ρ τ σ rfl
theorem mA_227 (ρ : Mm) (τ : Nat → va_E) (σ : Sg) (i : Int32) : aI (mem ρ τ σ) 227 0 i = if i < 0 ∨ 1 ≤ i.toNatClampNeg then none else some (σ.2.1 227 i.toNatClampNeg) := aI_memG ρ τ σ (by decide) (by decide) rfl (by decide)
theorem mS_227 (ρ : Mm) (τ : Nat → va_E) (σ : Sg) (i v : Int32) : sI (mem ρ τ σ) 227 0 i v = if i < 0 ∨ 1 ≤ i.toNatClampNeg then none else some (mem ρ τ (stA σ 227 i.toNatClampNeg (v))) := sI_memG ρ τ σ (by decide) (by decide) rfl (by decide)
theorem mN_227 (ρ : Mm) (τ : Nat → va_E) (σ : Sg) : aN (mem ρ τ σ) 227 0 = some 1 := aN_memG ρ τ σ (by decide) (by decide) rfl (by decide)
theorem mI_55 (ρ : Mm) (τ : Nat → va_E) (σ : Sg) : gI (mem ρ τ σ) 188 12 55 = some (σ.1 55) := gI_memG ρ τ σ rfl
theorem mP_55 (ρ : Mm) (τ : Nat → va_E) (σ : Sg) (v : Int32) : pV (mem ρ τ σ) 188 12 55 (.int v) = some (mem ρ τ (stI σ 55 v)) := pV_memG ρ τ σ (by decide) rfl
theorem mI_56 (ρ : Mm) (τ : Nat → va_E) (σ : Sg) : gI (mem ρ τ σ) 188 12 56 = some (σ.1 56) := gI_memG ρ τ σ rfl
theorem mP_56 (ρ : Mm) (τ : Nat → va_E) (σ : Sg) (v : Int32) : pV (mem ρ τ σ) 188 12 56 (.int v) = some (mem ρ τ (stI σ 56 v)) := pV_memG ρ τ σ (by decide) rfl
theorem mI_57 (ρ : Mm) (τ : Nat → va_E) (σ : Sg) : gI (mem ρ τ σ) 188 12 57 = some (σ.1 57) := gI_memG ρ τ σ rfl
theorem mP_57 (ρ : Mm) (τ : Nat → va_E) (σ : Sg) (v : Int32) : pZ (mem ρ τ σ) 188 12 57 v = if v = 0 ∨ v = 1 then some (mem ρ τ (stI σ 57 v)) else none := pZ_memG ρ τ σ (by decide) rfl
theorem mR_58 (ρ : Mm) (τ : Nat → va_E) (σ : Sg) : gR (mem ρ τ σ) 188 12 58 = some 228 := gR_memG ρ τ σ rfl
theorem mA_228 (ρ : Mm) (τ : Nat → va_E) (σ : Sg) (i : Int32) : aI (mem ρ τ σ) 228 0 i = if i < 0 ∨ 11 ≤ i.toNatClampNeg then none else some (σ.2.1 228 i.toNatClampNeg) := aI_memG ρ τ σ (by decide) (by decide) rfl (by decide)
theorem mS_228 (ρ : Mm) (τ : Nat → va_E) (σ : Sg) (i v : Int32) : sI (mem ρ τ σ) 228 0 i v = if i < 0 ∨ 11 ≤ i.toNatClampNeg then none else some (mem ρ τ (stA σ 228 i.toNatClampNeg (v))) := sI_memG ρ τ σ (by decide) (by decide) rfl (by decide)
theorem mN_228 (ρ : Mm) (τ : Nat → va_E) (σ : Sg) : aN (mem ρ τ σ) 228 0 = some 11 := aN_memG ρ τ σ (by decide) (by decide) rfl (by decide)
theorem mR_59 (ρ : Mm) (τ : Nat → va_E) (σ : Sg) : gR (mem ρ τ σ) 188 12 59 = some 229 := gR_memG ρ τ σ rfl
theorem mA_229 (ρ : Mm) (τ : Nat → va_E) (σ : Sg) (i : Int32) : aI (mem ρ τ σ) 229 0 i = if i < 0 ∨ 11 ≤ i.toNatClampNeg then none else some (σ.2.1 229 i.toNatClampNeg) := aI_memG ρ τ σ (by decide) (by decide) rfl (by decide)
theorem mS_229 (ρ : Mm) (τ : Nat → va_E) (σ : Sg) (i v : Int32) : sI (mem ρ τ σ) 229 0 i v = if i < 0 ∨ 11 ≤ i.toNatClampNeg then none else some (mem ρ τ (stA σ 229 i.toNatClampNeg (v))) := sI_memG ρ τ σ (by decide) (by decide) rfl (by decide)
theorem mN_229 (ρ : Mm) (τ : Nat → va_E) (σ : Sg) : aN (mem ρ τ σ) 229 0 = some 11 := aN_memG ρ τ σ (by decide) (by decide) rfl (by decide)
theorem mR_60 (ρ : Mm) (τ : Nat → va_E) (σ : Sg) : gR (mem ρ τ σ) 188 12 60 = some 230 := gR_memG ρ τ σ rfl
theorem mA_230 (ρ : Mm) (τ : Nat → va_E) (σ : Sg) (i : Int32) : aI (mem ρ τ σ) 230 0 i = if i < 0 ∨ 11 ≤ i.toNatClampNeg then none else some (σ.2.1 230 i.toNatClampNeg) := aI_memG ρ τ σ (by decide) (by decide) rfl (by decide)
theorem mS_230 (ρ : Mm) (τ : Nat → va_E) (σ : Sg) (i v : Int32) : sI (mem ρ τ σ) 230 0 i v = if i < 0 ∨ 11 ≤ i.toNatClampNeg then none else some (mem ρ τ (stA σ 230 i.toNatClampNeg (v))) := sI_memG ρ τ σ (by decide) (by decide) rfl (by decide)
theorem mN_230 (ρ : Mm) (τ : Nat → va_E) (σ : Sg) : aN (mem ρ τ σ) 230 0 = some 11 := aN_memG ρ τ σ (by decide) (by decide) rfl (by decide)
theorem mR_61 (ρ : Mm) (τ : Nat → va_E) (σ : Sg) : gR (mem ρ τ σ) 188 12 61 = some 231 := gR_memG ρ τ σ rfl
theorem mA_231 (ρ : Mm) (τ : Nat → va_E) (σ : Sg) (i : Int32) : aI (mem ρ τ σ) 231 0 i = if i < 0 ∨ 11 ≤ i.toNatClampNeg then none else some (σ.2.1 231 i.toNatClampNeg) := aI_memG ρ τ σ (by decide) (by decide) rfl (by decide)
theorem mS_231 (ρ : Mm) (τ : Nat → va_E) (σ : Sg) (i v : Int32) : sI (mem ρ τ σ) 231 0 i v = if i < 0 ∨ 11 ≤ i.toNatClampNeg then none else some (mem ρ τ (stA σ 231 i.toNatClampNeg (v))) := sI_memG ρ τ σ (by decide) (by decide) rfl (by decide)
theorem mN_231 (ρ : Mm) (τ : Nat → va_E) (σ : Sg) : aN (mem ρ τ σ) 231 0 = some 11 := aN_memG ρ τ σ (by decide) (by decide) rfl (by decide)
theorem mR_62 (ρ : Mm) (τ : Nat → va_E) (σ : Sg) : gR (mem ρ τ σ) 188 12 62 = some 232 := gR_memG ρ τ σ rfl
theorem mA_232 (ρ : Mm) (τ : Nat → va_E) (σ : Sg) (i : Int32) : aI (mem ρ τ σ) 232 0 i = if i < 0 ∨ 11 ≤ i.toNatClampNeg then none else some (σ.2.1 232 i.toNatClampNeg) := aI_memG ρ τ σ (by decide) (by decide) rfl (by decide)
theorem mS_232 (ρ : Mm) (τ : Nat → va_E) (σ : Sg) (i v : Int32) : sI (mem ρ τ σ) 232 0 i v = if i < 0 ∨ 11 ≤ i.toNatClampNeg then none else some (mem ρ τ (stA σ 232 i.toNatClampNeg (v))) := sI_memG ρ τ σ (by decide) (by decide) rfl (by decide)
theorem mN_232 (ρ : Mm) (τ : Nat → va_E) (σ : Sg) : aN (mem ρ τ σ) 232 0 = some 11 := aN_memG ρ τ σ (by decide) (by decide) rfl (by decide)
theorem mI_63 (ρ : Mm) (τ : Nat → va_E) (σ : Sg) : gI (mem ρ τ σ) 188 12 63 = some (σ.1 63) := gI_memG ρ τ σ rfl
theorem mP_63 (ρ : Mm) (τ : Nat → va_E) (σ : Sg) (v : Int32) : pV (mem ρ τ σ) 188 12 63 (.int v) = some (mem ρ τ (stI σ 63 v)) := pV_memG ρ τ σ (by decide) rfl
theorem mI_64 (ρ : Mm) (τ : Nat → va_E) (σ : Sg) : gI (mem ρ τ σ) 188 12 64 = some (σ.1 64) := gI_memG ρ τ σ rfl
theorem mP_64 (ρ : Mm) (τ : Nat → va_E) (σ : Sg) (v : Int32) : pV (mem ρ τ σ) 188 12 64 (.int v) = some (mem ρ τ (stI σ 64 v)) := pV_memG ρ τ σ (by decide) rfl
theorem mR_65 (ρ : Mm) (τ : Nat → va_E) (σ : Sg) : gR (mem ρ τ σ) 188 12 65 = some 233 := gR_memG ρ τ σ rfl
theorem mA_233 (ρ : Mm) (τ : Nat → va_E) (σ : Sg) (i : Int32) : aI (mem ρ τ σ) 233 0 i = if i < 0 ∨ 8 ≤ i.toNatClampNeg then none else some (σ.2.1 233 i.toNatClampNeg) := aI_memG ρ τ σ (by decide) (by decide) rfl (by decide)
theorem mS_233 (ρ : Mm) (τ : Nat → va_E) (σ : Sg) (i v : Int32) : sI (mem ρ τ σ) 233 0 i v = if i < 0 ∨ 8 ≤ i.toNatClampNeg then none else some (mem ρ τ (stA σ 233 i.toNatClampNeg (v))) := sI_memG ρ τ σ (by decide) (by decide) rfl (by decide)
theorem mN_233 (ρ : Mm) (τ : Nat → va_E) (σ : Sg) : aN (mem ρ τ σ) 233 0 = some 8 := aN_memG ρ τ σ (by decide) (by decide) rfl (by decide)
theorem mR_66 (ρ : Mm) (τ : Nat → va_E) (σ : Sg) : gR (mem ρ τ σ) 188 12 66 = some 234 := gR_memG ρ τ σ rfl
theorem mA_234 (ρ : Mm) (τ : Nat → va_E) (σ : Sg) (i : Int32) : aI (mem ρ τ σ) 234 0 i = if i < 0 ∨ 4 ≤ i.toNatClampNeg then none else some (σ.2.1 234 i.toNatClampNeg) := aI_memG ρ τ σ (by decide) (by decide) rfl (by decide)
theorem mS_234 (ρ : Mm) (τ : Nat → va_E) (σ : Sg) (i v : Int32) : sI (mem ρ τ σ) 234 0 i v = if i < 0 ∨ 4 ≤ i.toNatClampNeg then none else some (mem ρ τ (stA σ 234 i.toNatClampNeg (v))) := sI_memG ρ τ σ (by decide) (by decide) rfl (by decide)
theorem mN_234 (ρ : Mm) (τ : Nat → va_E) (σ : Sg) : aN (mem ρ τ σ) 234 0 = some 4 := aN_memG ρ τ σ (by decide) (by decide) rfl (by decide)
theorem mR_67 (ρ : Mm) (τ : Nat → va_E) (σ : Sg) : gR (mem ρ τ σ) 188 12 67 = some 235 := gR_memG ρ τ σ rfl
theorem mA_235 (ρ : Mm) (τ : Nat → va_E) (σ : Sg) (i : Int32) : aI (mem ρ τ σ) 235 0 i = if i < 0 ∨ 4 ≤ i.toNatClampNeg then none else some (σ.2.1 235 i.toNatClampNeg) := aI_memG ρ τ σ (by decide) (by decide) rfl (by decide)
theorem mS_235 (ρ : Mm) (τ : Nat → va_E) (σ : Sg) (i v : Int32) : sI (mem ρ τ σ) 235 0 i v = if i < 0 ∨ 4 ≤ i.toNatClampNeg then none else some (mem ρ τ (stA σ 235 i.toNatClampNeg (v))) := sI_memG ρ τ σ (by decide) (by decide) rfl (by decide)
theorem mN_235 (ρ : Mm) (τ : Nat → va_E) (σ : Sg) : aN (mem ρ τ σ) 235 0 = some 4 := aN_memG ρ τ σ (by decide) (by decide) rfl (by decide)
theorem mR_68 (ρ : Mm) (τ : Nat → va_E) (σ : Sg) : gR (mem ρ τ σ) 188 12 68 = some 236 := gR_memG ρ τ σ rfl
theorem mA_236 (ρ : Mm) (τ : Nat → va_E) (σ : Sg) (i : Int32) : aI (mem ρ τ σ) 236 2 i = if i < 0 ∨ 48 ≤ i.toNatClampNeg then none else some (σ.2.1 236 i.toNatClampNeg) := aI_memG ρ τ σ (by decide) (by decide) rfl (by decide)
theorem mS_236 (ρ : Mm) (τ : Nat → va_E) (σ : Sg) (i v : Int32) : sI (mem ρ τ σ) 236 2 i v = if i < 0 ∨ 48 ≤ i.toNatClampNeg then none else some (mem ρ τ (stA σ 236 i.toNatClampNeg (narT 2 v))) := sI_memG ρ τ σ (by decide) (by decide) rfl (by decide)
theorem mN_236 (ρ : Mm) (τ : Nat → va_E) (σ : Sg) : aN (mem ρ τ σ) 236 2 = some 48 := aN_memG ρ τ σ (by decide) (by decide) rfl (by decide)
theorem mR_69 (ρ : Mm) (τ : Nat → va_E) (σ : Sg) : gR (mem ρ τ σ) 188 12 69 = some 237 := gR_memG ρ τ σ rfl
theorem mL_237 (ρ : Mm) (τ : Nat → va_E) (σ : Sg) (i : Int32) : aL (mem ρ τ σ) 237 3 i = if i < 0 ∨ 48 ≤ i.toNatClampNeg then none else some (σ.2.2 237 i.toNatClampNeg) := aL_memG ρ τ σ (by decide) (by decide) rfl
theorem mS_237 (ρ : Mm) (τ : Nat → va_E) (σ : Sg) (i : Int32) (v : Int64) : sL (mem ρ τ σ) 237 3 i v = if i < 0 ∨ 48 ≤ i.toNatClampNeg then none else some (mem ρ τ (stL σ 237 i.toNatClampNeg v)) := sL_memG ρ τ σ (by decide) (by decide) rfl
theorem mR_70 (ρ : Mm) (τ : Nat → va_E) (σ : Sg) : gR (mem ρ τ σ) 188 12 70 = some 238 := gR_memG ρ τ σ rfl
theorem mA_238 (ρ : Mm) (τ : Nat → va_E) (σ : Sg) (i : Int32) : aI (mem ρ τ σ) 238 0 i = if i < 0 ∨ 8 ≤ i.toNatClampNeg then none else some (σ.2.1 238 i.toNatClampNeg) := aI_memG ρ τ σ (by decide) (by decide) rfl (by decide)
theorem mS_238 (ρ : Mm) (τ : Nat → va_E) (σ : Sg) (i v : Int32) : sI (mem ρ τ σ) 238 0 i v = if i < 0 ∨ 8 ≤ i.toNatClampNeg then none else some (mem ρ τ (stA σ 238 i.toNatClampNeg (v))) := sI_memG ρ τ σ (by decide) (by decide) rfl (by decide)
theorem mN_238 (ρ : Mm) (τ : Nat → va_E) (σ : Sg) : aN (mem ρ τ σ) 238 0 = some 8 := aN_memG ρ τ σ (by decide) (by decide) rfl (by decide)
theorem mR_71 (ρ : Mm) (τ : Nat → va_E) (σ : Sg) : gR (mem ρ τ σ) 188 12 71 = some 239 := gR_memG ρ τ σ rfl
theorem mA_239 (ρ : Mm) (τ : Nat → va_E) (σ : Sg) (i : Int32) : aI (mem ρ τ σ) 239 0 i = if i < 0 ∨ 8 ≤ i.toNatClampNeg then none else some (σ.2.1 239 i.toNatClampNeg) := aI_memG ρ τ σ (by decide) (by decide) rfl (by decide)
theorem mS_239 (ρ : Mm) (τ : Nat → va_E) (σ : Sg) (i v : Int32) : sI (mem ρ τ σ) 239 0 i v = if i < 0 ∨ 8 ≤ i.toNatClampNeg then none else some (mem ρ τ (stA σ 239 i.toNatClampNeg (v))) := sI_memG ρ τ σ (by decide) (by decide) rfl (by decide)
theorem mN_239 (ρ : Mm) (τ : Nat → va_E) (σ : Sg) : aN (mem ρ τ σ) 239 0 = some 8 := aN_memG ρ τ σ (by decide) (by decide) rfl (by decide)
theorem mI_72 (ρ : Mm) (τ : Nat → va_E) (σ : Sg) : gI (mem ρ τ σ) 188 12 72 = some (σ.1 72) := gI_memG ρ τ σ rfl
theorem mP_72 (ρ : Mm) (τ : Nat → va_E) (σ : Sg) (v : Int32) : pV (mem ρ τ σ) 188 12 72 (.int v) = some (mem ρ τ (stI σ 72 v)) := pV_memG ρ τ σ (by decide) rfl
theorem mR_73 (ρ : Mm) (τ : Nat → va_E) (σ : Sg) : gR (mem ρ τ σ) 188 12 73 = some 240 := gR_memG ρ τ σ rfl
theorem mA_240 (ρ : Mm) (τ : Nat → va_E) (σ : Sg) (i : Int32) : aI (mem ρ τ σ) 240 0 i = if i < 0 ∨ 2300 ≤ i.toNatClampNeg then none else some (σ.2.1 240 i.toNatClampNeg) := aI_memG ρ τ σ (by decide) (by decide) rfl (by decide)
theorem mS_240 (ρ : Mm) (τ : Nat → va_E) (σ : Sg) (i v : Int32) : sI (mem ρ τ σ) 240 0 i v = if i < 0 ∨ 2300 ≤ i.toNatClampNeg then none else some (mem ρ τ (stA σ 240 i.toNatClampNeg (v))) := sI_memG ρ τ σ (by decide) (by decide) rfl (by decide)
theorem mN_240 (ρ : Mm) (τ : Nat → va_E) (σ : Sg) : aN (mem ρ τ σ) 240 0 = some 2300 := aN_memG ρ τ σ (by decide) (by decide) rfl (by decide)
theorem mR_74 (ρ : Mm) (τ : Nat → va_E) (σ : Sg) : gR (mem ρ τ σ) 188 12 74 = some 241 := gR_memG ρ τ σ rfl
theorem mA_241 (ρ : Mm) (τ : Nat → va_E) (σ : Sg) (i : Int32) : aI (mem ρ τ σ) 241 2 i = if i < 0 ∨ 4 ≤ i.toNatClampNeg then none else some (σ.2.1 241 i.toNatClampNeg) := aI_memG ρ τ σ (by decide) (by decide) rfl (by decide)
theorem mS_241 (ρ : Mm) (τ : Nat → va_E) (σ : Sg) (i v : Int32) : sI (mem ρ τ σ) 241 2 i v = if i < 0 ∨ 4 ≤ i.toNatClampNeg then none else some (mem ρ τ (stA σ 241 i.toNatClampNeg (narT 2 v))) := sI_memG ρ τ σ (by decide) (by decide) rfl (by decide)
theorem mN_241 (ρ : Mm) (τ : Nat → va_E) (σ : Sg) : aN (mem ρ τ σ) 241 2 = some 4 := aN_memG ρ τ σ (by decide) (by decide) rfl (by decide)
theorem mI_75 (ρ : Mm) (τ : Nat → va_E) (σ : Sg) : gI (mem ρ τ σ) 188 12 75 = some (σ.1 75) := gI_memG ρ τ σ rfl
theorem mP_75 (ρ : Mm) (τ : Nat → va_E) (σ : Sg) (v : Int32) : pV (mem ρ τ σ) 188 12 75 (.int v) = some (mem ρ τ (stI σ 75 v)) := pV_memG ρ τ σ (by decide) rfl
theorem mI_76 (ρ : Mm) (τ : Nat → va_E) (σ : Sg) : gI (mem ρ τ σ) 188 12 76 = some (σ.1 76) := gI_memG ρ τ σ rfl
theorem mP_76 (ρ : Mm) (τ : Nat → va_E) (σ : Sg) (v : Int32) : pZ (mem ρ τ σ) 188 12 76 v = if v = 0 ∨ v = 1 then some (mem ρ τ (stI σ 76 v)) else none := pZ_memG ρ τ σ (by decide) rfl
