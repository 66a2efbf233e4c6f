/-! Ways down by the class. -/
theorem wdF_l (D : Dt) (q t c : Nat) (drop : Int32) {x y : Fst} (h1 : x.1 = y.1) (h2 : x.2.1 = y.2.1) (h3 : x.2.2.1 = y.2.2.1) : wdF D q t c drop x = wdF D q t c drop y := by
  unfold wdF
  rw [h1, h2, h3]
def e3 (x y : Fst) : Prop := x.1 = y.1 ∧ x.2.1 = y.2.1 ∧ x.2.2.1 = y.2.2.1
theorem tch_l (σ : Sg) (q c : Nat) (drop : Int32) (t : Nat) {x y : Fst} (h : e3 x y) : e3 (tch σ q c drop t x) (tch σ q c drop t y) := by
  unfold tch
  rw [wdF_l (cur σ) q t c drop h.1 h.2.1 h.2.2]
  cases LB σ (wdF (cur σ) q t c drop y)
  · exact h
  · exact ⟨h.1, h.2.1, by show x.2.2.1 ||| _ = y.2.2.1 ||| _; rw [h.2.2]⟩
theorem tchs_l (σ : Sg) (q c : Nat) (drop : Int32) {x y : Fst} (h : e3 x y) : ∀ k, e3 (tchs σ q c drop k x) (tchs σ q c drop k y)
  | 0 => h
  | k + 1 => by
    rw [tchs, tchs]
    cases whl (cur σ) c k
    · exact tchs_l σ q c drop h k
    · exact tch_l σ q c drop k (tchs_l σ q c drop h k)
theorem stpF_l (σ : Sg) (q d c : Nat) {x y : Fst} (h : e3 x y) : e3 (stpF σ q d c x) (stpF σ q d c y) := by
  have k := tchs_l σ q c (nI (dh (cur σ) d) - nI (dh (cur σ) c)) (x := (psh (cur σ) q d c x.1, x.2.1 + 1, x.2.2.1, x.2.2.2)) (y := (psh (cur σ) q d c y.1, y.2.1 + 1, y.2.2.1, y.2.2.2)) ⟨by show psh (cur σ) q d c x.1 = psh (cur σ) q d c y.1; rw [h.1], by show x.2.1 + 1 = y.2.1 + 1; rw [h.2.1], h.2.2⟩ (dN (cur σ) 3)
  unfold stpF
  cases netB (cur σ) c
  · by_cases ho : 0 < oth (cur σ) q c
    · rw [if_neg (by decide), if_pos ho, if_neg (by decide), if_pos ho]
      exact ⟨by
        show (tchs σ q c _ _ (psh (cur σ) q d c x.1, x.2.1 + 1, x.2.2.1, x.2.2.2)).1 / 2 = (tchs σ q c _ _ (psh (cur σ) q d c y.1, y.2.1 + 1, y.2.2.1, y.2.2.2)).1 / 2
        rw [k.1], k.2.1, k.2.2⟩
    · rw [if_neg (by decide), if_neg ho, if_neg (by decide), if_neg ho]
      exact k
  · rw [if_pos rfl, if_pos rfl]
    exact ⟨rfl, by show x.2.1 + 1 = y.2.1 + 1; rw [h.2.1], h.2.2⟩
def wayW (σ : Sg) (q : Nat) (f : Int32) : Int32 := wrS (cur σ) q f (dN (cur σ) 3)
abbrev lowD (D : Dt) (c s : Nat) : Option Nat := low (dN D 0) (dN D 1) (dh D) c s
/-- the best of all ways from a cell on -/
def wayN (σ : Sg) (q : Nat) : Nat → Nat → Nat → Bool → Int32 → Int32 → (Nat → Int32) → Bst → Bst
  | 0, d, _, _, _, f, π, b => tkW b (wayW σ q f) d π
  | k + 1, d, c, nb, p, f, π, b => if nb || (ldD (cur σ) c).isNone then tkW b (wayW σ q f) d π else
    let st := fun (s : Nat) (b : Bst) => match lowD (cur σ) c s with
      | none => b
      | some e => wayN σ q k (d + 1) e (netB (cur σ) e) (stpF σ q c e (p, d, f, 0)).1 (stpF σ q c e (p, d, f, 0)).2.2.1 (upd π d (nI s)) b
    st 3 (st 2 (st 1 (st 0 b)))
def wayS (σ : Sg) (q k d c : Nat) (p f : Int32) (π : Nat → Int32) (s : Nat) (b : Bst) : Bst := match lowD (cur σ) c s with
  | none => b
  | some e => wayN σ q k (d + 1) e (netB (cur σ) e) (stpF σ q c e (p, d, f, 0)).1 (stpF σ q c e (p, d, f, 0)).2.2.1 (upd π d (nI s)) b
def wayL (σ : Sg) (q k d c : Nat) (p f : Int32) (π : Nat → Int32) : Nat → Nat → Bst → Bst
  | _, 0, b => b
  | s, j + 1, b => wayL σ q k d c p f π (s + 1) j (wayS σ q k d c p f π s b)
theorem wayN_s (σ : Sg) (q k d c : Nat) (nb : Bool) (p f : Int32) (π : Nat → Int32) (b : Bst) : wayN σ q (k + 1) d c nb p f π b = if nb || (ldD (cur σ) c).isNone then tkW b (wayW σ q f) d π else wayL σ q k d c p f π 0 4 b := by
  rw [wayN]
  rfl
theorem tkW_9 {b : Bst} {w : Int32} {st : Nat} {π : Nat → Int32} (h : b.2.1 ≤ 9) (hs : st ≤ 9) : (tkW b w st π).2.1 ≤ 9 := by
  unfold tkW
  split
  · exact hs
  · exact h
theorem wayN_9 (σ : Sg) (q : Nat) : ∀ (k d c : Nat) (nb : Bool) (p f : Int32) (π : Nat → Int32) (b : Bst), k + d ≤ 9 → b.2.1 ≤ 9 → (wayN σ q k d c nb p f π b).2.1 ≤ 9
  | 0, d, _, _, _, _, _, b, h, hb => tkW_9 hb (by omega)
  | k + 1, d, c, nb, p, f, π, b, h, hb => by
    have hs : ∀ s b, b.2.1 ≤ 9 → (wayS σ q k d c p f π s b).2.1 ≤ 9 := by
      intro s b hb
      unfold wayS
      cases lowD (cur σ) c s with
      | none => exact hb
      | some e => exact wayN_9 σ q k (d + 1) e _ _ _ _ b (by omega) hb
    rw [wayN_s]
    split
    · exact tkW_9 hb (by omega)
    · exact hs 3 _ (hs 2 _ (hs 1 _ (hs 0 _ hb)))
theorem wayS_9 {σ : Sg} {q k d c : Nat} {p f : Int32} {π : Nat → Int32} {s : Nat} {b : Bst} (h : k + 1 + d ≤ 9) (hb : b.2.1 ≤ 9) : (wayS σ q k d c p f π s b).2.1 ≤ 9 := by
  unfold wayS
  cases lowD (cur σ) c s with
  | none => exact hb
  | some e => exact wayN_9 σ q k (d + 1) e _ _ _ _ b (by omega) hb
/-- what a walk down keeps -/
def Wk (lw : Nat) (T T' : Tc) : Prop := agr (fun r => Fa lw r ∧ r ≠ 176 ∧ r ≠ 177 ∧ r ≠ 178) T T' ∧ T'.2.2.2.1 174 = T.2.2.2.1 174 ∧ T'.1 174 3 = T.1 174 3 ∧ T'.1 174 4 = T.1 174 4 ∧ T'.2.1 175 0 = T.2.1 175 0 ∧ T'.2.1 175 10 = T.2.1 175 10
theorem Wk.refl (lw : Nat) (T : Tc) : Wk lw T T := ⟨agr.refl _ _, rfl, rfl, rfl, rfl, rfl⟩
theorem Wk.trans {lw : Nat} {T T' T'' : Tc} (h : Wk lw T T') (h' : Wk lw T' T'') : Wk lw T T'' := ⟨h.1.trans h'.1, h'.2.1.trans h.2.1, h'.2.2.1.trans h.2.2.1, h'.2.2.2.1.trans h.2.2.2.1, h'.2.2.2.2.1.trans h.2.2.2.2.1, h'.2.2.2.2.2.trans h.2.2.2.2.2⟩
theorem Wk.fs {lw : Nat} {T T' : Tc} (h : Fs lw T T') : Wk lw T T' := ⟨h.1.mono fun _ hr => hr.1, h.2⟩
theorem CF.wk {nr n a lw q : Nat} {S : Nat → Nat × Nat × Nat} {σ : Sg} {T T' : Tc} (h : CF nr n S T σ a lw q) (hk : Wk lw T T') : CF nr n S T' σ a lw q := by
  obtain ⟨h1, h2, h3, h4, h5, h6, h7, h8, h9, h10, h11⟩ := h
  obtain ⟨l, m, hv⟩ := h4.rv
  obtain ⟨k1, k2, k3, k4, k5, k6⟩ := hk
  have hsl := h3.sv.loc
  have hgl := h3.la.gv.loc
  have hl := hv.loc
  have okS : ∀ j, j < 6 → Fa lw (a + j) ∧ a + j ≠ 176 ∧ a + j ≠ 177 ∧ a + j ≠ 178 := fun j hj => ⟨h3.sv.fa hv hj, by omega, by omega, by omega⟩
  have okG : ∀ j, j < 15 → Fa lw (T.2.2.2.1 a 0 + j) ∧ T.2.2.2.1 a 0 + j ≠ 176 ∧ T.2.2.2.1 a 0 + j ≠ 177 ∧ T.2.2.2.1 a 0 + j ≠ 178 := fun j hj => ⟨h3.la.gv.fa hv hj, by omega, by omega, by omega⟩
  have e := fun j hj => k1 (a + j) (okS j hj)
  have e0 := e 0 (by decide)
  rw [Nat.add_zero] at e0
  have w3 : SRw n S T' a (cur σ) := by
    refine ⟨h3.sv, ?_, ?_, ?_⟩
    · rw [e0.2.2.2.1]; exact h3.la.ext h3.la.gv k1 okG
    · rw [(e 1 (by decide)).2.1]; exact h3.pc
    · rw [(e 2 (by decide)).2.1]; exact h3.tc
  have w4 : RLw n S T' σ lw := by
    have ok : ∀ j, j < 7 → j ≠ 1 → Fa lw (lw + j) ∧ lw + j ≠ 176 ∧ lw + j ≠ 177 ∧ lw + j ≠ 178 := fun j a b => ⟨⟨by omega, by omega, by omega⟩, by omega, by omega, by omega⟩
    rcases h4 with ⟨g1, g2, g3, g4⟩ | ⟨r, l, m, g1, g2, g3⟩
    · have e := k1 lw (ok 0 (by decide) (by decide))
      exact .inl ⟨g1, g2, by rw [e.1]; exact g3, by rw [e.1]; exact g4⟩
    · exact .inr ⟨r, l, m, g1, g2, g3.ext g3.rv k1 (ok 0 (by decide) (by decide)) (fun j x y => ok j y (by omega)) rfl (fun _ _ => ⟨rfl, rfl⟩) (fun _ _ => ⟨rfl, rfl, rfl, rfl⟩) (fun _ _ _ _ _ => rfl)⟩
  exact ⟨h1, h2, w3, w4, by rw [k2]; exact h5, by rw [k2, e0.2.2.2.1]; exact h6, by rw [k2]; exact h7, by rw [k3]; exact h8, by rw [k4]; exact h9, by rw [k5]; exact h10, by rw [k6]; exact h11⟩
