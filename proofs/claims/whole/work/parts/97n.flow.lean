/-! Chances: the reference's flow. -/
def sm (f : Nat → Nat) : Nat → Nat
  | 0 => 0
  | n + 1 => sm f n + f n
theorem sm_cong {f g : Nat → Nat} : ∀ {n : Nat}, (∀ c, c < n → f c = g c) → sm f n = sm g n
  | 0, _ => rfl
  | n + 1, h => by
    rw [sm, sm, sm_cong (n := n) (fun c hc => h c (by omega)), h n (by omega)]
theorem sm_one {f g : Nat → Nat} {a : Nat} : ∀ {n : Nat}, a < n → (∀ c, c < n → c ≠ a → f c = g c) → sm f n + g a = sm g n + f a
  | 0, h, _ => by omega
  | n + 1, ha, h => by
    rw [sm, sm]
    by_cases e : a = n
    · have := sm_cong (n := n) (f := f) (g := g) (fun c hc => h c (by omega) (by omega))
      rw [e]
      omega
    · have := sm_one (n := n) (f := f) (g := g) (a := a) (by omega) (fun c hc => h c (by omega))
      have := h n (by omega) (fun h => e h.symm)
      omega
theorem sm_0 : ∀ n, sm (fun _ => 0) n = 0
  | 0 => rfl
  | n + 1 => by rw [sm, sm_0 n]
theorem sm_pick {f : Nat → Nat} {a n : Nat} (ha : a < n) (h : ∀ c, c < n → c ≠ a → f c = 0) : sm f n = f a := by
  have := sm_one (f := f) (g := fun _ => 0) ha h
  rw [sm_0] at this
  omega
theorem sm_le {f : Nat → Nat} {a : Nat} : ∀ {n : Nat}, a < n → f a ≤ sm f n
  | 0, h => by omega
  | n + 1, ha => by
    rw [sm]
    by_cases e : a = n
    · rw [e]; omega
    · have := sm_le (f := f) (a := a) (n := n) (by omega)
      omega
theorem sdS_mul (D : Dt) (g : Nat → Nat) (c a : Nat) : ∀ k, a * sdS D g c k = sdS D (fun e => a * g e) c k
  | 0 => rfl
  | k + 1 => by
    rw [sdS, sdS, Nat.mul_add, sdS_mul D g c a k]
    cases lowD D c k with
    | none => rfl
    | some e => rfl
/-- q is added at each lower side -/
def ad (D : Dt) (q c : Nat) (F : Nat → Nat) : Nat → Nat → Nat
  | 0 => F
  | k + 1 => match lowD D c k with
    | none => ad D q c F k
    | some e => upN (ad D q c F k) e (ad D q c F k e + q)
theorem ad_self {nr : Nat} {D : Dt} (hD : DG nr D) {q c : Nat} {F : Nat → Nat} (hc : c < nc D) : ∀ k, ad D q c F k c = F c
  | 0 => rfl
  | k + 1 => by
    have ih := ad_self hD hc (q := q) (F := F) k
    rw [ad]
    cases hl : lowD D c k with
    | none => exact ih
    | some e =>
      have z := low_lt (hD.c0 hc) hc hl
      show (if c = e then _ else _) = _
      rw [if_neg (fun h => by rw [← h] at z; omega)]
      exact ih
theorem ad_sm {nr : Nat} {D : Dt} (hD : DG nr D) {q c : Nat} {F : Nat → Nat} (v : Nat → Nat) (hc : c < nc D) : ∀ k, sm (fun x => ad D q c F k x * v x) (nc D) = sm (fun x => F x * v x) (nc D) + q * sdS D v c k
  | 0 => rfl
  | k + 1 => by
    have ih := ad_sm hD (q := q) (F := F) v hc k
    rw [ad, sdS]
    cases hl : lowD D c k with
    | none => exact ih
    | some e =>
      have z := low_lt (hD.c0 hc) hc hl
      have o := sm_one (f := fun x => upN (ad D q c F k) e (ad D q c F k e + q) x * v x) (g := fun x => ad D q c F k x * v x) z.1 (fun c _ hne => by
        show (if c = e then _ else _) * _ = _
        rw [if_neg hne])
      have o' : sm (fun x => upN (ad D q c F k) e (ad D q c F k e + q) x * v x) (nc D) + ad D q c F k e * v e = sm (fun x => ad D q c F k x * v x) (nc D) + (if e = e then ad D q c F k e + q else ad D q c F k e) * v e := o
      rw [if_pos rfl, Nat.add_mul] at o'
      show sm (fun x => upN (ad D q c F k) e (ad D q c F k e + q) x * v x) (nc D) = _ + q * (sdS D v c k + v e)
      rw [Nat.mul_add]
      omega
theorem ad_dv {nr : Nat} {D : Dt} (hD : DG nr D) {q c : Nat} {F : Nat → Nat} (hc : c < nc D) (hq : ∀ e, e < nc D → dh D e < dh D c → 12 ^ dh D e ∣ q) {x : Nat} (hx : 12 ^ dh D x ∣ F x) : ∀ k, 12 ^ dh D x ∣ ad D q c F k x
  | 0 => hx
  | k + 1 => by
    have ih := ad_dv hD hc hq hx k
    rw [ad]
    cases hl : lowD D c k with
    | none => exact ih
    | some e =>
      have z := low_lt (hD.c0 hc) hc hl
      show _ ∣ (if x = e then _ else _)
      by_cases h : x = e
      · rw [if_pos h]
        have := hq e z.1 z.2
        rw [← h] at this ⊢
        exact Nat.dvd_add ih this
      · rw [if_neg h]; exact ih
abbrev wt (D : Dt) (o c : Nat) : Nat := shD D o c * 12 ^ (9 - dh D c)
section FLOW
variable {nr : Nat} {D : Dt} {o : Nat}
theorem wt_o (hD : DG nr D) (ho : o < nc D) : wt D o o = 12 ^ 9 := by
  have := hD.h9 o
  rw [wt, sh_e hD ho, if_pos rfl, ← Nat.pow_add]
  congr 1
  omega
theorem wt_w (hD : DG nr D) {c : Nat} (hc : c < nc D) (he : c ≠ o) : wys D c * wt D o c = sdS D (wt D o) c 4 := by
  by_cases hw : wys D c = 0
  · rw [hw, Nat.zero_mul]
    have := sdS_le hD (g := wt D o) (c := c) (B := 12 ^ 9) hc (fun e he _ => by
      have h1 := shN_le hD (o := o) 10 e he
      have h2 := hD.h9 e
      have h3 : 12 ^ dh D e * 12 ^ (9 - dh D e) = 12 ^ 9 := by rw [← Nat.pow_add]; congr 1; omega
      rw [← h3]
      exact Nat.mul_le_mul h1 (Nat.le_refl _)) 4
    rw [show sdS D (fun _ => 1) c 4 = 0 from hw] at this
    omega
  · rw [wt, sh_e hD hc, if_neg he, if_neg hw, Nat.mul_comm (sdS _ _ _ _), ← Nat.mul_assoc, sdS_mul]
    refine sdS_cong hD hc (fun e he hl => ?_) 4
    have h9 := hD.h9 c
    have k1 := Nat.mul_div_cancel' (wys_12 hw (k := dh D c - dh D e) (by omega))
    show wys D c * 12 ^ (9 - dh D c) * (shD D o e * (12 ^ (dh D c - dh D e) / wys D c)) = shD D o e * 12 ^ (9 - dh D e)
    rw [show 9 - dh D e = (9 - dh D c) + (dh D c - dh D e) by omega, Nat.pow_add]
    generalize 12 ^ (dh D c - dh D e) = X at *
    generalize X / wys D c = Y at *
    rw [← k1]
    generalize wys D c = W at *
    generalize 12 ^ (9 - dh D c) = Z at *
    generalize shD D o e = V at *
    simp only [Nat.mul_assoc, Nat.mul_comm, Nat.mul_left_comm]
theorem sh_low (hD : DG nr D) : ∀ (k e : Nat), e < nc D → dh D e < dh D o → shN D o k e = 0
  | 0, _, _, _ => rfl
  | k + 1, e, he, hl => by
    rw [shN, if_neg (fun h => by rw [h] at hl; omega)]
    split
    · rfl
    · have := sdS_le hD (g := fun e' => shN D o k e' * (12 ^ (dh D e - dh D e') / wys D e)) (c := e) (B := 0) he (fun e' h1 h2 => by
        show shN D o k e' * _ ≤ 0
        rw [sh_low hD k e' h1 (by omega), Nat.zero_mul]
        exact Nat.le_refl _) 4
      omega
theorem wys_0 (hD : DG nr D) {c : Nat} (hc : c < nc D) (h : dh D c = 0) : wys D c = 0 := by
  have := sdS_le hD (g := fun _ => 1) (c := c) (B := 0) hc (fun e' h1 h2 => by omega) 4
  have : wys D c ≤ _ := this
  omega
abbrev pr (D : Dt) (h i c : Nat) : Prop := h < dh D c ∨ (dh D c = h ∧ c < i)
def vt (D : Dt) (o h i c : Nat) : Nat := if c = o then 12 ^ 9 else if pr D h i c then 0 else wt D o c
def ut (D : Dt) (h i c : Nat) : Nat := if pr D h i c then 0 else 1
def FI (D : Dt) (o a h i : Nat) (F : Nat → Nat) : Prop := (sm (fun c => F c * ut D h i c) (nc D) ≤ 12 ^ 9) ∧ (∀ c, c < nc D → ¬ pr D h i c → 12 ^ dh D c ∣ F c) ∧ (sm (fun c => F c * vt D o h i c) (nc D) = 12 ^ 9 * wt D o a)
theorem FI.b {a h i : Nat} {F : Nat → Nat} (x : FI D o a h i F) : sm (fun c => F c * ut D h i c) (nc D) ≤ 12 ^ 9 := x.1
theorem FI.d {a h i : Nat} {F : Nat → Nat} (x : FI D o a h i F) : ∀ c, c < nc D → ¬ pr D h i c → 12 ^ dh D c ∣ F c := x.2.1
theorem FI.v {a h i : Nat} {F : Nat → Nat} (x : FI D o a h i F) : sm (fun c => F c * vt D o h i c) (nc D) = 12 ^ 9 * wt D o a := x.2.2
theorem FI.lt {a h i : Nat} {F : Nat → Nat} (hI : FI D o a h i F) {c : Nat} (hc : c < nc D) (hp : ¬ pr D h i c) : F c ≤ 12 ^ 9 := by
  have := sm_le (f := fun c => F c * ut D h i c) hc
  have h1 : F c * ut D h i c ≤ sm (fun c => F c * ut D h i c) (nc D) := this
  rw [ut, if_neg hp, Nat.mul_one] at h1
  exact Nat.le_trans h1 hI.b
theorem FI.cong {a h i h' i' : Nat} {F : Nat → Nat} (hI : FI D o a h i F) (hp : ∀ c, c < nc D → (pr D h i c ↔ pr D h' i' c)) : FI D o a h' i' F := by
  have e1 : ∀ c, c < nc D → F c * ut D h' i' c = F c * ut D h i c := fun c hc => by
    rw [ut, ut]
    by_cases e : pr D h i c
    · rw [if_pos e, if_pos ((hp c hc).1 e)]
    · rw [if_neg e, if_neg (fun h => e ((hp c hc).2 h))]
  have e2 : ∀ c, c < nc D → F c * vt D o h' i' c = F c * vt D o h i c := fun c hc => by
    rw [vt, vt]
    by_cases e : pr D h i c
    · rw [if_pos e, if_pos ((hp c hc).1 e)]
    · rw [if_neg e, if_neg (fun h => e ((hp c hc).2 h))]
  refine ⟨?_, fun c hc h => hI.d c hc (fun e => h ((hp c hc).1 e)), ?_⟩
  · rw [sm_cong e1]; exact hI.b
  · rw [sm_cong e2]; exact hI.v
theorem FI.go (hD : DG nr D) (ho : o < nc D) {a i : Nat} {F : Nat → Nat} (hi : i < nc D) (h1 : 0 < dh D i) (hI : FI D o a (dh D i) i F) : FI D o a (dh D i) (i + 1) (if wys D i = 0 then F else ad D (F i / wys D i) i F 4) := by
  have np : ¬ pr D (dh D i) i i := fun h => by rcases h with h | ⟨_, h⟩ <;> omega
  have yp : pr D (dh D i) (i + 1) i := .inr ⟨rfl, Nat.lt_succ_self i⟩
  have sp : ∀ c, c ≠ i → (pr D (dh D i) (i + 1) c ↔ pr D (dh D i) i c) := fun c hne => by
    constructor
    · rintro (h | ⟨h, h'⟩)
      · exact .inl h
      · exact .inr ⟨h, by omega⟩
    · rintro (h | ⟨h, h'⟩)
      · exact .inl h
      · exact .inr ⟨h, by omega⟩
  have lp : ∀ e, dh D e < dh D i → ¬ pr D (dh D i) (i + 1) e := fun e he h => by rcases h with h | ⟨h, _⟩ <;> omega
  -- the counts
  have u1 := sm_one (f := fun c => F c * ut D (dh D i) (i + 1) c) (g := fun c => F c * ut D (dh D i) i c) hi (fun c _ hne => by
    show _ * ut D (dh D i) (i + 1) c = _ * ut D (dh D i) i c
    rw [ut, ut]
    by_cases e : pr D (dh D i) i c
    · rw [if_pos e, if_pos ((sp c hne).2 e)]
    · rw [if_neg e, if_neg (fun h => e ((sp c hne).1 h))])
  have u2 : sm (fun c => F c * ut D (dh D i) (i + 1) c) (nc D) + F i = sm (fun c => F c * ut D (dh D i) i c) (nc D) := by
    have : sm (fun c => F c * ut D (dh D i) (i + 1) c) (nc D) + F i * ut D (dh D i) i i = sm (fun c => F c * ut D (dh D i) i c) (nc D) + F i * ut D (dh D i) (i + 1) i := u1
    rw [ut, ut, if_neg np, if_pos yp, Nat.mul_one, Nat.mul_zero] at this
    exact this
  have v1 := sm_one (f := fun c => F c * vt D o (dh D i) (i + 1) c) (g := fun c => F c * vt D o (dh D i) i c) hi (fun c _ hne => by
    show _ * vt D o (dh D i) (i + 1) c = _ * vt D o (dh D i) i c
    rw [vt, vt]
    by_cases e : pr D (dh D i) i c
    · rw [if_pos e, if_pos ((sp c hne).2 e)]
    · rw [if_neg e, if_neg (fun h => e ((sp c hne).1 h))])
  have v1 : sm (fun c => F c * vt D o (dh D i) (i + 1) c) (nc D) + F i * vt D o (dh D i) i i = sm (fun c => F c * vt D o (dh D i) i c) (nc D) + F i * vt D o (dh D i) (i + 1) i := v1
  have hIv := hI.v
  have hIb := hI.b
  by_cases hw : wys D i = 0
  · rw [if_pos hw]
    refine ⟨by omega, fun c hc h => hI.d c hc (fun e => ?_), ?_⟩
    · exact h (by rcases e with e | ⟨e, e'⟩; exact .inl e; exact .inr ⟨e, by omega⟩)
    · rw [vt, vt] at v1
      by_cases e : i = o
      · rw [if_pos e, if_pos e] at v1; omega
      · have w0 : wt D o i = 0 := by rw [wt, sh_e hD hi, if_neg e, if_pos hw, Nat.zero_mul]
        rw [if_neg e, if_neg e, if_neg np, if_pos yp, w0] at v1
        omega
  · rw [if_neg hw]
    have dvd := hI.d i hi np
    have ex : wys D i * (F i / wys D i) = F i := Nat.mul_div_cancel' (Nat.dvd_trans (wys_12 hw h1) dvd)
    have u3 := ad_sm hD (q := F i / wys D i) (F := F) (ut D (dh D i) (i + 1)) hi 4
    have u4 : sdS D (ut D (dh D i) (i + 1)) i 4 = wys D i := sdS_cong hD hi (fun e _ hl => by rw [ut, if_neg (lp e hl)]) 4
    have v3 := ad_sm hD (q := F i / wys D i) (F := F) (vt D o (dh D i) (i + 1)) hi 4
    have v4 : sdS D (vt D o (dh D i) (i + 1)) i 4 = sdS D (wt D o) i 4 := sdS_cong hD hi (fun e _ hl => by
      rw [vt]
      by_cases h : e = o
      · rw [if_pos h, h, wt_o hD ho]
      · rw [if_neg h, if_neg (lp e hl)]) 4
    rw [u4, Nat.mul_comm, ex] at u3
    rw [v4] at v3
    refine ⟨by omega, fun c hc h => ad_dv hD hi (fun e he hl => ?_) (hI.d c hc (fun e => h (by rcases e with e | ⟨e, e'⟩; exact .inl e; exact .inr ⟨e, by omega⟩))) 4, ?_⟩
    · obtain ⟨t, ht⟩ := dvd
      obtain ⟨m, hm⟩ := wys_12 hw (k := dh D i - dh D e) (by omega)
      have e1 : F i = wys D i * (12 ^ dh D e * (m * t)) := by
        rw [ht, show dh D i = dh D e + (dh D i - dh D e) by omega, Nat.pow_add, hm]
        simp only [Nat.mul_assoc, Nat.mul_comm, Nat.mul_left_comm]
      rw [e1, Nat.mul_div_cancel_left _ (by omega)]
      exact Nat.dvd_mul_right _ _
    · rw [v3, ← hIv]
      rw [vt, vt] at v1
      by_cases e : i = o
      · rw [if_pos e, if_pos e] at v1
        have z : sdS D (wt D o) i 4 = 0 := by
          have := sdS_le hD (g := wt D o) (c := i) (B := 0) hi (fun e' h1 h2 => by
            rw [wt, show shD D o e' = 0 from sh_low hD 10 e' h1 (by rw [← e]; exact h2), Nat.zero_mul]; exact Nat.le_refl _) 4
          omega
        rw [z, Nat.mul_zero]
        omega
      · rw [if_neg e, if_neg e, if_neg np, if_pos yp, Nat.mul_zero] at v1
        have k2 : F i / wys D i * sdS D (wt D o) i 4 = F i * wt D o i := by
          rw [← wt_w hD hi e, ← Nat.mul_assoc, Nat.mul_comm (F i / wys D i), ex]
        omega
theorem FI.start (hD : DG nr D) (ho : o < nc D) {a : Nat} (ha : a < nc D) : FI D o a 9 0 (upN (fun _ => 0) a (12 ^ 9)) := by
  have np : ∀ c, ¬ pr D 9 0 c := fun c h => by
    have := hD.h9 c
    rcases h with h | ⟨_, h⟩ <;> omega
  have ea : upN (fun _ => 0) a (12 ^ 9) a = 12 ^ 9 := if_pos rfl
  have eb : ∀ c, c ≠ a → upN (fun _ => 0) a (12 ^ 9) c = 0 := fun c h => if_neg h
  refine ⟨?_, fun c hc _ => ?_, ?_⟩
  · rw [sm_pick ha (fun c _ h => by show upN (fun _ => 0) a (12 ^ 9) c * _ = 0; rw [eb c h, Nat.zero_mul]), ut, if_neg (np a), ea]
    exact Nat.le_refl _
  · by_cases e : c = a
    · rw [e, ea]
      exact Nat.pow_dvd_pow _ (hD.h9 a)
    · rw [eb c e]; exact Nat.dvd_zero _
  · rw [sm_pick ha (fun c _ h => by show upN (fun _ => 0) a (12 ^ 9) c * _ = 0; rw [eb c h, Nat.zero_mul]), ea, vt]
    by_cases e : a = o
    · rw [if_pos e, e, wt_o hD ho]
    · rw [if_neg e, if_neg (np a)]
theorem FI.fin (hD : DG nr D) (ho : o < nc D) {a : Nat} {F : Nat → Nat} (hI : FI D o a 0 0 F) : F o = wt D o a := by
  have v := hI.v
  rw [sm_pick ho (fun c hc h => by
    show F c * vt D o 0 0 c = 0
    rw [vt, if_neg h]
    by_cases e : dh D c = 0
    · rw [if_neg (fun h => by rcases h with h | ⟨_, h⟩ <;> omega), wt, sh_e hD hc, if_neg h, if_pos (wys_0 hD hc e), Nat.zero_mul, Nat.mul_zero]
    · rw [if_pos (.inl (by omega)), Nat.mul_zero]), vt, if_pos rfl, Nat.mul_comm] at v
  exact Nat.eq_of_mul_eq_mul_left (by decide) v
end FLOW
