/-! Falls from anywhere with all things whole; clues that fit. -/
theorem DG.mod {nr : Nat} {D D' : Dt} (hD : DG nr D) (k1 : ∀ k, k ≠ 7 → k ≠ 9 → D' 189 k = D 189 k) (k7 : isB (D' 189 7) 256) (k9 : 0 ≤ D' 189 9) (h1 : ∀ q, q < dN D 2 → isB (D' 191 q) (nc D)) (hr : ∀ r, r ≠ 189 → r ≠ 191 → D' r = D r) : DG nr D' := by
  have nk : ∀ k, k ≠ 7 → k ≠ 9 → dN D' k = dN D k := fun k a b => by unfold dN; rw [k1 k a b]
  have nM : dM D' = dM D := by unfold dM; rw [hr 0 (by decide) (by decide)]
  have e7 := k7.cl (by decide)
  have hh : dh D' = dh D := by funext c; unfold dh; rw [hr 190 (by decide) (by decide)]
  have enc : nc D' = nc D := by unfold nc; rw [nk 0 (by decide) (by decide), nk 1 (by decide) (by decide)]
  have hT : ∀ i, rwT D' i = rwT D i := fun i => by funext q; unfold rwT; rw [nM, hr 226 (by decide) (by decide), hr 193 (by decide) (by decide)]
  unfold DG
  simp only [enc, nM, hT, hh, nk 0 (by decide) (by decide), nk 1 (by decide) (by decide), nk 2 (by decide) (by decide), nk 3 (by decide) (by decide), nk 4 (by decide) (by decide), nk 5 (by decide) (by decide), nk 6 (by decide) (by decide), nk 8 (by decide) (by decide), k1 0 (by decide) (by decide), k1 1 (by decide) (by decide), k1 2 (by decide) (by decide), k1 3 (by decide) (by decide), k1 4 (by decide) (by decide), k1 5 (by decide) (by decide), k1 6 (by decide) (by decide), k1 8 (by decide) (by decide), k1 10 (by decide) (by decide), hr 0 (by decide) (by decide), hr 190 (by decide) (by decide), hr 196 (by decide) (by decide), hr 197 (by decide) (by decide), hr 198 (by decide) (by decide), hr 199 (by decide) (by decide), hr 200 (by decide) (by decide), hr 201 (by decide) (by decide), hr 202 (by decide) (by decide)]
  refine ⟨hD.sC, hD.bC, hD.sR, hD.bR, hD.sP, hD.bP, hD.sT, hD.bT, hD.sN, hD.bN, hD.sL, hD.bL, hD.sA, hD.bA, e7.1, e7.2, hD.sK, hD.bK, hD.sM, hD.bM, hD.gr, hD.hh, hD.h9, ?_, hD.th, ?_, hD.wo, hD.ne, hD.nd, hD.ho, hD.al, hD.as_, hD.ct, hD.cb, k9, hD.fo⟩
  · intro k hk q hq
    unfold rwA
    rw [nM, hr 226 (by decide) (by decide)]
    by_cases h : k < dM D
    · rw [if_pos h]
      have := hD.at_ k hk q hq
      unfold rwA at this
      rw [if_pos h] at this
      exact this
    · rw [if_neg h]; exact h1 q hq
  · intro k hk
    unfold rwB
    rw [nM, hr 226 (by decide) (by decide)]
    by_cases h : k < dM D
    · rw [if_pos h]
      have := hD.br k hk
      unfold rwB at this
      rw [if_pos h] at this
      exact this
    · rw [if_neg h]; exact k7
theorem gs_mod {D D' : Dt} (k1 : ∀ k, k ≠ 7 → k ≠ 9 → D' 189 k = D 189 k) (hr : ∀ r, r ≠ 189 → r ≠ 191 → D' r = D r) : gsame D D' := ⟨fun k hk => k1 k (by omega) (by omega), fun r h => hr r (by omega) (by omega)⟩
/-- all things whole -/
def zz (σ : Sg) : Sg := stA σ 189 7 0
section ZZ
variable {nr n a lw q : Nat} {S : Nat → Nat × Nat × Nat} {T : Tc} {σ σ1 : Sg}
theorem zz_189 (k : Nat) (h : k ≠ 7) : cur (zz σ) 189 k = cur σ 189 k := by
  unfold cur zz
  rw [stA2, if_neg (show ¬ (189 = 189 ∧ k = 7) by omega)]
  rfl
theorem zz_r (r : Nat) (h : r ≠ 189) : cur (zz σ) r = cur σ r := by
  funext i
  unfold cur zz
  rw [stA2, if_neg (show ¬ (r = 189 ∧ i = 7) by omega), stA1]
theorem zz_7 : cur (zz σ) 189 7 = 0 := by
  show (stA σ 189 7 0).2.1 189 7 = 0
  rw [stA2, if_pos ⟨rfl, rfl⟩]
theorem zz_DG (hD : DG nr (cur σ)) : DG nr (cur (zz σ)) := hD.mod (fun k h _ => zz_189 k h) (by rw [zz_7]; exact ⟨0, by decide, rfl⟩) (by rw [zz_189 9 (by decide)]; exact hD.dx) (fun q hq => by rw [zz_r 191 (by decide)]; exact hD.at0 hq) (fun r h _ => zz_r r h)
theorem zz_gs : gsame (cur σ) (cur (zz σ)) := gs_mod (fun k h _ => zz_189 k h) (fun r h _ => zz_r r h)
theorem zz_dN (k : Nat) (h : k ≠ 7) : dN (cur (zz σ)) k = dN (cur σ) k := by unfold dN; rw [zz_189 k h]
theorem zz_nc : nc (cur (zz σ)) = nc (cur σ) := by unfold nc; rw [zz_dN 0 (by decide), zz_dN 1 (by decide)]
theorem zz_SRw (h : SRw n S T a (cur σ)) : SRw n S T a (cur (zz σ)) := by
  refine ⟨h.sv, h.la.D zz_gs, ?_, ?_⟩
  · rw [zz_dN 2 (by decide), zz_r 191 (by decide)]; exact h.pc
  · rw [zz_dN 3 (by decide), zz_r 193 (by decide)]; exact h.tc
theorem zz_RLw (h : RLw n S T σ lw) : RLw n S T (zz σ) lw := by
  have e : ∀ r, r ≠ 189 → (zz σ).2.1 r = σ.2.1 r := fun r hr => by funext i; unfold zz; rw [stA2, if_neg (by omega)]
  have e10 : (zz σ).2.1 189 10 = σ.2.1 189 10 := by unfold zz; rw [stA2, if_neg (by omega)]
  rcases h with ⟨h1, h2⟩ | ⟨r, l, m, h1, h2, h3⟩
  · exact .inl ⟨by rw [e10]; exact h1, h2⟩
  · refine .inr ⟨r, l, m, h1, by rw [e10]; exact h2, ?_⟩
    unfold RR at h3 ⊢
    rw [e 216 (by decide), e 217 (by decide), e 218 (by decide), e 219 (by decide), e 220 (by decide), e 221 (by decide), e 223 (by decide)]
    exact h3
theorem zz_Sm (h : Eqm σ σ1) : Sm (zz σ) (zz σ1) := fun r hr => by
  funext i
  unfold zz
  rw [stA2, stA2]
  by_cases e : r = 189 ∧ i = 7
  · rw [if_pos e, if_pos e]
  · rw [if_neg e, if_neg e, h.sm r hr]
theorem RLw.ns {T' : Tc} (h : RLw n S T σ lw) (ha : agr (Ns S) T T') : RLw n S T' σ lw := by
  obtain ⟨l, m, hv⟩ := h.rv
  have ok : ∀ j, j < 7 → j ≠ 1 → Ns S (lw + j) := fun j h1 h2 => hv.ns j h1 h2
  rcases h with ⟨h1, h2, h3, h4⟩ | ⟨r, l, m, h1, h2, h3⟩
  · have e := ha lw (ok 0 (by decide) (by decide))
    exact .inl ⟨h1, h2, by rw [e.1]; exact h3, by rw [e.1]; exact h4⟩
  · exact .inr ⟨r, l, m, h1, h2, h3.ext h3.rv ha (ok 0 (by decide) (by decide)) (fun j h1 h2 => ok j h2 (by omega)) rfl (fun _ _ => ⟨rfl, rfl⟩) (fun _ _ => ⟨rfl, rfl, rfl, rfl⟩) (fun _ _ _ _ _ => rfl)⟩
end ZZ
/-- what a fall from c to the side s breaks -/
def brZ (σ : Sg) (q c s : Nat) : Int32 := (runF (zz σ) q 9 c (nxt (cur (zz σ)) c s) (0, 0, 0, 0)).2.2.2.1
def ctN (D : Dt) (k : Nat) : Nat := (D 201 k).toNatClampNeg
def fitK (D : Dt) (f : Int32) : Nat → Bool
  | 0 => true
  | k + 1 => fitK D f k && decide ((if bt f (ctN D k) then (1 : Int32) else 0) = D 202 k)
theorem sub_iff (f m : Int32) : (f &&& m) = m ↔ ∀ i, i < 32 → bt m i = true → bt f i = true := by
  constructor
  · intro h i hi hm
    have := congrArg (fun z => bt z i) h
    simp only [b_and, hm, Bool.and_true] at this
    exact this
  · intro h
    refine b_ext fun i hi => ?_
    rw [b_and]
    cases hm : bt m i
    · simp
    · rw [h i hi hm]; rfl
theorem dis_iff (f m : Int32) : (f &&& m) = 0 ↔ ∀ i, i < 32 → bt m i = true → bt f i = false := by
  constructor
  · intro h i hi hm
    have := congrArg (fun z => bt z i) h
    simp only [b_and, hm, Bool.and_true, b_0] at this
    exact this
  · intro h
    refine b_ext fun i hi => ?_
    rw [b_and, b_0]
    cases hm : bt m i
    · simp
    · rw [h i hi hm]; rfl
theorem cm_bt {D : Dt} {b : Int32} : ∀ (k : Nat), (∀ i, i < k → isB (D 201 i) 8) → ∀ i, bt (cmK D b k) i = true ↔ ∃ j, j < k ∧ D 202 j = b ∧ ctN D j = i
  | 0, _, i => by
    rw [cmK, b_0]
    exact ⟨fun h => absurd h (by decide), fun ⟨j, hj, _⟩ => absurd hj (by omega)⟩
  | k + 1, h, i => by
    have ih := cm_bt (D := D) (b := b) k (fun i hi => h i (by omega)) i
    have e := (h k (by omega)).cl (by decide)
    rw [cmK]
    by_cases hb : D 202 k = b
    · rw [if_pos hb, b_or, Bool.or_eq_true, ih, e.1, I_one (by omega)]
      constructor
      · rintro (⟨j, h1, h2, h3⟩ | h1)
        · exact ⟨j, by omega, h2, h3⟩
        · refine ⟨k, by omega, hb, ?_⟩
          have := of_decide_eq_true h1
          unfold ctN; omega
      · rintro ⟨j, h1, h2, h3⟩
        by_cases hj : j = k
        · subst hj
          right
          exact decide_eq_true (by unfold ctN at h3; omega)
        · exact .inl ⟨j, by omega, h2, h3⟩
    · rw [if_neg hb, ih]
      constructor
      · rintro ⟨j, h1, h2, h3⟩; exact ⟨j, by omega, h2, h3⟩
      · rintro ⟨j, h1, h2, h3⟩
        refine ⟨j, ?_, h2, h3⟩
        by_cases hj : j = k
        · subst hj; exact absurd h2 hb
        · omega
theorem fitK_iff {D : Dt} {f : Int32} : ∀ (k : Nat), fitK D f k = true ↔ ∀ j, j < k → (if bt f (ctN D j) then (1 : Int32) else 0) = D 202 j
  | 0 => ⟨fun _ j hj => by omega, fun _ => rfl⟩
  | k + 1 => by
    rw [fitK, Bool.and_eq_true, fitK_iff k, decide_eq_true_eq]
    constructor
    · rintro ⟨h1, h2⟩ j hj
      by_cases e : j = k
      · subst e; exact h2
      · exact h1 j (by omega)
    · intro h
      exact ⟨fun j hj => h j (by omega), h k (by omega)⟩
theorem fit_c {nr : Nat} {D : Dt} (hD : DG nr D) (f : Int32) : ((f &&& cmK D 1 (dN D 8)) = cmK D 1 (dN D 8) ∧ (f &&& cmK D 0 (dN D 8)) = 0) ↔ fitK D f (dN D 8) = true := by
  have bT := hD.bT
  have h8 : ∀ i, i < dN D 8 → isB (D 201 i) 8 := fun i hi => (hD.ct i hi).mono bT
  have c8 : ∀ i, i < dN D 8 → ctN D i < 8 := fun i hi => ((h8 i hi).cl (by decide)).2
  rw [sub_iff, dis_iff, fitK_iff]
  constructor
  · rintro ⟨h1, h2⟩ j hj
    have := c8 j hj
    obtain ⟨v, hv, e⟩ := hD.cb j hj
    rcases (show v = 0 ∨ v = 1 by omega) with rfl | rfl
    · rw [h2 (ctN D j) (by omega) ((cm_bt _ h8 _).2 ⟨j, hj, e, rfl⟩), e]; rfl
    · rw [h1 (ctN D j) (by omega) ((cm_bt _ h8 _).2 ⟨j, hj, e, rfl⟩), e]; rfl
  · intro h
    refine ⟨fun i hi hb => ?_, fun i hi hb => ?_⟩
    · obtain ⟨j, h1, h2, h3⟩ := (cm_bt _ h8 _).1 hb
      have := h j h1
      rw [h2, h3] at this
      cases hf : bt f i
      · rw [hf] at this; exact absurd this (by decide)
      · rfl
    · obtain ⟨j, h1, h2, h3⟩ := (cm_bt _ h8 _).1 hb
      have := h j h1
      rw [h2, h3] at this
      cases hf : bt f i
      · rfl
      · rw [hf] at this; exact absurd this (by decide)
