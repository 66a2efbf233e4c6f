/-! Lessons. -/
def laD (D : Dt) (i : Nat) : Nat := (D 199 i).toNatClampNeg
def soD (D : Dt) (i : Nat) : Nat := (D 200 i).toNatClampNeg
def hoD (D : Dt) (i : Nat) : Nat := (D 198 i).toNatClampNeg
theorem les_e (D : Dt) : les D = lsK (dN D 5) (dN D 6) (laD D) (soD D) (hoD D) (dN D 5) := rfl
/-- a lesson that l comes after has no end -/
def wtB (la so : Nat → Nat) (E : Nat → Option Nat) (l k : Nat) : Bool := decide (la k = l) && (E (so k)).isNone
theorem stOf_none (la so : Nat → Nat) (E : Nat → Option Nat) (l : Nat) : ∀ k, stOf la so E l k = none ↔ ∃ j, j < k ∧ wtB la so E l j = true
  | 0 => ⟨fun h => (by cases h), fun ⟨j, hj, _⟩ => absurd hj (by omega)⟩
  | k + 1 => by
    have ih := stOf_none la so E l k
    rw [stOf]
    by_cases h : la k = l
    · rw [if_pos h]
      cases hs : stOf la so E l k with
      | none =>
        obtain ⟨j, h1, h2⟩ := ih.1 hs
        exact ⟨fun _ => ⟨j, by omega, h2⟩, fun _ => rfl⟩
      | some a =>
        cases he : E (so k) with
        | none => exact ⟨fun _ => ⟨k, by omega, by unfold wtB; rw [decide_eq_true h, he]; rfl⟩, fun _ => rfl⟩
        | some b =>
          constructor
          · intro h; cases h
          · rintro ⟨j, h1, h2⟩
            exfalso
            by_cases hj : j = k
            · subst hj; unfold wtB at h2; rw [he] at h2; simp at h2
            · have := ih.2 ⟨j, by omega, h2⟩
              rw [hs] at this; cases this
    · rw [if_neg h, ih]
      constructor
      · rintro ⟨j, h1, h2⟩; exact ⟨j, by omega, h2⟩
      · rintro ⟨j, h1, h2⟩
        refine ⟨j, ?_, h2⟩
        by_cases hj : j = k
        · subst hj; unfold wtB at h2; rw [decide_eq_false h] at h2; simp at h2
        · omega
/-- l can be next -/
def nxP (A : Nat) (la so : Nat → Nat) (E : Nat → Option Nat) (l : Nat) : Prop := E l = none ∧ stOf la so E l A ≠ none
theorem lnx_spec (A : Nat) (la so : Nat → Nat) (E : Nat → Option Nat) : ∀ L, (lnx A la so E L = none → ∀ j, j < L → ¬ nxP A la so E j) ∧ ∀ l, lnx A la so E L = some l → l < L ∧ nxP A la so E l ∧ ∀ j, j < l → ¬ nxP A la so E j
  | 0 => ⟨fun _ j hj => absurd hj (by omega), fun l h => (by cases h)⟩
  | L + 1 => by
    obtain ⟨i1, i2⟩ := lnx_spec A la so E L
    rw [lnx]
    cases hl : lnx A la so E L with
    | some x =>
      refine ⟨fun h => (by cases h), fun l h => ?_⟩
      cases h
      obtain ⟨h1, h2, h3⟩ := i2 _ hl
      exact ⟨by omega, h2, h3⟩
    | none =>
      have i1 := i1 hl
      by_cases h : E L = none ∧ stOf la so E L A ≠ none
      · refine ⟨fun e => ?_, fun l e => ?_⟩
        · have e : (if E L = none ∧ stOf la so E L A ≠ none then some L else none) = none := e
          rw [if_pos h] at e; cases e
        · have e : (if E L = none ∧ stOf la so E L A ≠ none then some L else none) = some l := e
          rw [if_pos h] at e; cases e
          exact ⟨by omega, h, i1⟩
      · refine ⟨fun e j hj => ?_, fun l e => ?_⟩
        · by_cases hj2 : j = L
          · subst hj2; exact h
          · exact i1 j (by omega)
        · have e : (if E L = none ∧ stOf la so E L A ≠ none then some L else none) = some l := e
          rw [if_neg h] at e; cases e
def ctE (E : Nat → Option Nat) (L : Nat) : Nat := fb_ct (fun l => (E l).isSome) L
theorem lsK_ct (L A : Nat) (la so ho : Nat → Nat) : ∀ k, lnx A la so (lsK L A la so ho k).1 L = none ∨ ctE (lsK L A la so ho k).1 L = k
  | 0 => .inr (by unfold ctE; rw [fb_ct_zero]; intro k _; rfl)
  | k + 1 => by
    rw [lsK]
    rcases lsK_ct L A la so ho k with h | h
    · left
      have e : lst L A la so ho (lsK L A la so ho k) = lsK L A la so ho k := by unfold lst; rw [h]
      rw [e]; exact h
    · cases hl : lnx A la so (lsK L A la so ho k).1 L with
      | none =>
        left
        have e : lst L A la so ho (lsK L A la so ho k) = lsK L A la so ho k := by unfold lst; rw [hl]
        rw [e]; exact hl
      | some l =>
        right
        obtain ⟨h1, h2, h3⟩ := (lnx_spec A la so _ L).2 l hl
        have e : (lst L A la so ho (lsK L A la so ho k)).1 = fun x => if x = l then some ((stOf la so (lsK L A la so ho k).1 l A).getD 0 + ho l) else (lsK L A la so ho k).1 x := by unfold lst; rw [hl]
        rw [e]
        unfold ctE at h ⊢
        have := fb_ct_upd (fun l => ((lsK L A la so ho k).1 l).isSome) true h1
        rw [show (fun k_1 => if k_1 = l then true else ((lsK L A la so ho k).1 k_1).isSome) = (fun l_1 => ((if l_1 = l then some ((stOf la so (lsK L A la so ho k).1 l A).getD 0 + ho l) else (lsK L A la so ho k).1 l_1).isSome)) from funext fun x => by by_cases hx : x = l <;> simp [hx]] at this
        rw [h2.1] at this
        simp at this
        exact this.trans (congrArg (· + 1) h)
theorem fb_full {p : Nat → Bool} : ∀ {n : Nat}, fb_ct p n = n → ∀ k, k < n → p k = true
  | 0, _, k, hk => absurd hk (by omega)
  | n + 1, h, k, hk => by
    rw [fb_ct_succ] at h
    have h1 := fb_ct_le p n
    cases hp : p n
    · rw [hp] at h; simp at h; omega
    · rw [hp] at h
      simp at h
      by_cases e : k = n
      · subst e; exact hp
      · exact fb_full h k (by omega)
theorem lsK_end (L A : Nat) (la so ho : Nat → Nat) : lnx A la so (lsK L A la so ho L).1 L = none := by
  rcases lsK_ct L A la so ho L with h | h
  · exact h
  · cases hl : lnx A la so (lsK L A la so ho L).1 L with
    | none => rfl
    | some l =>
      obtain ⟨h1, h2, h3⟩ := (lnx_spec A la so _ L).2 l hl
      have := fb_full h l h1
      rw [h2.1] at this; cases this
theorem lsK_stay {L A : Nat} {la so ho : Nat → Nat} {k : Nat} (h : lnx A la so (lsK L A la so ho k).1 L = none) : ∀ j, lsK L A la so ho (k + j) = lsK L A la so ho k
  | 0 => rfl
  | j + 1 => by
    show lst L A la so ho (lsK L A la so ho (k + j)) = _
    rw [lsK_stay h j]
    unfold lst; rw [h]
/-- numbers stay small -/
def lsB (s : (Nat → Option Nat) × (Nat → Nat) × Nat) : Prop := (∀ l v, s.1 l = some v → v ≤ 20 * s.2.2) ∧ ∀ k, k < s.2.2 → s.2.1 k < 8
theorem stOf_le {la so : Nat → Nat} {E : Nat → Option Nat} {l b : Nat} (hb : ∀ l v, E l = some v → v ≤ b) : ∀ (k : Nat) {v : Nat}, stOf la so E l k = some v → v ≤ b
  | 0, v, h => by cases h; omega
  | k + 1, v, h => by
    rw [stOf] at h
    by_cases hl : la k = l
    · rw [if_pos hl] at h
      cases hs : stOf la so E l k with
      | none => rw [hs] at h; cases h
      | some a =>
        cases he : E (so k) with
        | none => rw [hs, he] at h; cases h
        | some c =>
          rw [hs, he] at h
          have h : some (max a c) = some v := h
          cases h
          exact Nat.max_le.2 ⟨stOf_le hb k hs, hb _ _ he⟩
    · rw [if_neg hl] at h
      exact stOf_le hb k h
theorem lsK_b {L A : Nat} {la so ho : Nat → Nat} (hL : L ≤ 8) (hh : ∀ l, l < L → ho l ≤ 20) : ∀ k, lsB (lsK L A la so ho k) ∧ (lsK L A la so ho k).2.2 ≤ k
  | 0 => ⟨⟨fun l v h => (by cases h), fun k h => absurd h (Nat.not_lt_zero _)⟩, Nat.le_refl _⟩
  | k + 1 => by
    obtain ⟨⟨h1, h2⟩, h3⟩ := lsK_b (A := A) (la := la) (so := so) hL hh k
    rw [lsK]
    cases hl : lnx A la so (lsK L A la so ho k).1 L with
    | none =>
      have e : lst L A la so ho (lsK L A la so ho k) = lsK L A la so ho k := by unfold lst; rw [hl]
      rw [e]; exact ⟨⟨h1, h2⟩, by omega⟩
    | some l =>
      obtain ⟨g1, g2, g3⟩ := (lnx_spec A la so _ L).2 l hl
      have e : lst L A la so ho (lsK L A la so ho k) = (fun x => if x = l then some ((stOf la so (lsK L A la so ho k).1 l A).getD 0 + ho l) else (lsK L A la so ho k).1 x, fun x => if x = (lsK L A la so ho k).2.2 then l else (lsK L A la so ho k).2.1 x, (lsK L A la so ho k).2.2 + 1) := by unfold lst; rw [hl]
      rw [e]
      refine ⟨⟨fun l' v hv => ?_, fun j hj => ?_⟩, by show (lsK L A la so ho k).2.2 + 1 ≤ k + 1; omega⟩
      · have hv : (if l' = l then some ((stOf la so (lsK L A la so ho k).1 l A).getD 0 + ho l) else (lsK L A la so ho k).1 l') = some v := hv
        show v ≤ 20 * ((lsK L A la so ho k).2.2 + 1)
        by_cases hx : l' = l
        · rw [if_pos hx] at hv
          cases hv
          have hs : (stOf la so (lsK L A la so ho k).1 l A).getD 0 ≤ 20 * (lsK L A la so ho k).2.2 := by
            cases hst : stOf la so (lsK L A la so ho k).1 l A with
            | none => exact Nat.zero_le _
            | some z => exact stOf_le h1 A hst
          have := hh l g1
          omega
        · rw [if_neg hx] at hv
          have := h1 l' v hv
          omega
      · show (if j = (lsK L A la so ho k).2.2 then l else (lsK L A la so ho k).2.1 j) < 8
        by_cases hx : j = (lsK L A la so ho k).2.2
        · rw [if_pos hx]; omega
        · rw [if_neg hx]
          exact h2 j (by have hj : j < (lsK L A la so ho k).2.2 + 1 := hj; omega)
section LES
variable {nr n : Nat} {S : Nat → Nat × Nat × Nat} {T : Tc} {σ σ1 : Sg} {E : Nat → Option Nat}
theorem DG.la (hD : DG nr (cur σ)) {k : Nat} (hk : k < dN (cur σ) 6) : cur σ 199 k = nI (laD (cur σ) k) ∧ laD (cur σ) k < dN (cur σ) 5 := (hD.al k hk).cl (by have := hD.bL; omega)
theorem DG.so (hD : DG nr (cur σ)) {k : Nat} (hk : k < dN (cur σ) 6) : cur σ 200 k = nI (soD (cur σ) k) ∧ soD (cur σ) k < dN (cur σ) 5 := (hD.as_ k hk).cl (by have := hD.bL; omega)
theorem DG.hoo (hD : DG nr (cur σ)) {k : Nat} (hk : k < dN (cur σ) 5) : cur σ 198 k = nI (hoD (cur σ) k) ∧ hoD (cur σ) k < 21 := (hD.ho k hk).1.cl (by decide)
theorem o2_m2 {o : Option Nat} (h : ∀ v, o = some v → v < 2 ^ 31) : (o2I o nI = -2) = (o = none) := by
  cases o with
  | none => exact propext ⟨fun _ => rfl, fun _ => rfl⟩
  | some v => exact propext ⟨fun e => absurd e (nI_m2 (h v rfl)), fun e => (by cases e)⟩
theorem s_readyL (hD : DG nr (cur σ)) (he : Eqm σ σ1) (hE : ∀ l, l < 8 → σ1.2.1 238 l = o2I (E l) nI) (hb : ∀ l v, E l = some v → v < 1000) {l : Nat} (hl : l < 8) (K1 K2 : Mm → Option (Int32 × Mm)) (ρ : Mm) (τ : Nat → va_E) : ∀ (k i f : Nat), i + k = dN (cur σ) 6 → k < f → f_X12_isReady_L2 K1 K2 f (mem ρ τ σ1) 188 (nI l) (nI i) = (if anyF (wtB (laD (cur σ)) (soD (cur σ)) E l) i k then K1 (mem ρ τ σ1) else K2 (mem ρ τ σ1)) := by
  have bL := hD.bL
  have bA := hD.bA
  intro k
  induction k with
  | zero =>
    intro i f h1 h2
    obtain ⟨f, rfl⟩ : ∃ k, f = k + 1 := ⟨f - 1, by omega⟩
    rw [f_X12_isReady_L2, mR_1, Option.bind_some, sc_6, Option.bind_some, cs_6, he.cu, hD.sA, if_pos (nI_le (by omega) (by omega))]
    rfl
  | succ k ih =>
    intro i f h1 h2
    obtain ⟨f, rfl⟩ : ∃ k, f = k + 1 := ⟨f - 1, by omega⟩
    have i10 : i < 10 := by omega
    have hla := hD.la (show i < dN (cur σ) 6 by omega)
    have hso := hD.so (show i < dN (cur σ) 6 by omega)
    have e1 : σ1.2.1 199 i = nI (laD (cur σ) i) := by rw [he.2.2.2.2 199 (by unfold PerM; omega), ← cu_199 i10]; exact hla.1
    have e2 : σ1.2.1 200 i = nI (soD (cur σ) i) := by rw [he.2.2.2.2 200 (by unfold PerM; omega), ← cu_200 i10]; exact hso.1
    have z := ih (i + 1) f (by omega) (by omega)
    rw [f_X12_isReady_L2, mR_1, Option.bind_some, sc_6, Option.bind_some, cs_6, he.cu, hD.sA, if_neg (nI_ge (by omega) (by omega)), mR_11, Option.bind_some, y199_r i10, Option.bind_some, e1, anyF]
    by_cases hc : laD (cur σ) i = l
    · rw [if_pos (by rw [hc]), mR_70, Option.bind_some, mR_12, Option.bind_some, y200_r i10, Option.bind_some, e2, y238_r (by omega), Option.bind_some, hE _ (by omega)]
      have em := o2_m2 (o := E (soD (cur σ) i)) (fun v hv => by have := hb _ v hv; omega)
      cases ho : E (soD (cur σ) i) with
      | none =>
        rw [if_pos (show o2I none nI = -2 from rfl), show wtB (laD (cur σ)) (soD (cur σ)) E l i = true by unfold wtB; rw [decide_eq_true hc, ho]; rfl, Bool.true_or, if_pos rfl]
      | some v =>
        rw [show o2I (some v) nI = nI v from rfl, if_neg (nI_m2 (show v < 2 ^ 31 by have := hb _ v ho; omega)), nm_q, oin1, nI_add, show wtB (laD (cur σ)) (soD (cur σ)) E l i = false by unfold wtB; rw [ho]; simp, Bool.false_or]
        exact z
    · rw [if_neg (fun e => hc ((nI_eq (by omega) (by omega)).1 e)), nm_q, oin1, nI_add, show wtB (laD (cur σ)) (soD (cur σ)) E l i = false by unfold wtB; rw [decide_eq_false hc]; rfl, Bool.false_or]
      exact z
theorem s_isReady (hD : DG nr (cur σ)) (he : Eqm σ σ1) (hE : ∀ l, l < 8 → σ1.2.1 238 l = o2I (E l) nI) (hb : ∀ l v, E l = some v → v < 1000) {l : Nat} (hl : l < 8) (ρ : Mm) (τ : Nat → va_E) : f_X12_isReady (mem ρ τ σ1) 188 (nI l) = some (if stOf (laD (cur σ)) (soD (cur σ)) E l (dN (cur σ) 6) ≠ none then (1 : Int32) else 0, mem ρ τ σ1) := by
  have bA := hD.bA
  have z := s_readyL hD he hE hb hl (fun μ17 =>
    (if (0 : Int32) = 0 ∨ (0 : Int32) = 1 then some ((0 : Int32), μ17) else none)) (fun μ18 =>
    (if (1 : Int32) = 0 ∨ (1 : Int32) = 1 then some ((1 : Int32), μ18) else none)) ρ τ (dN (cur σ) 6) 0 FU (by omega) (by unfold FU; omega)
  rw [show nI 0 = (0 : Int32) from rfl] at z
  unfold f_X12_isReady
  rw [nm_q, z, z01, z11]
  have h1 := stOf_none (laD (cur σ)) (soD (cur σ)) E l (dN (cur σ) 6)
  have h2 := anyF_iff (wtB (laD (cur σ)) (soD (cur σ)) E l) (dN (cur σ) 6) 0
  cases ha : anyF (wtB (laD (cur σ)) (soD (cur σ)) E l) 0 (dN (cur σ) 6)
  · rw [if_neg (by decide), if_pos]
    intro hs
    obtain ⟨j, g1, g2⟩ := h1.1 hs
    rw [h2.2 ⟨j, by omega, by omega, g2⟩] at ha
    cases ha
  · obtain ⟨j, g1, g2, g3⟩ := h2.1 ha
    rw [if_pos rfl, if_neg (fun h => h (h1.2 ⟨j, by omega, g3⟩))]
theorem s_beginL (hD : DG nr (cur σ)) (he : Eqm σ σ1) (hE : ∀ l, l < 8 → σ1.2.1 238 l = o2I (E l) nI) (hb : ∀ l v, E l = some v → v < 1000) {l B : Nat} (hl : l < 8) (hB : stOf (laD (cur σ)) (soD (cur σ)) E l (dN (cur σ) 6) = some B) (K : Mm → Int32 → Option (Int32 × Mm)) (ρ : Mm) (τ : Nat → va_E) : ∀ (k i b f : Nat), i + k = dN (cur σ) 6 → k < f → stOf (laD (cur σ)) (soD (cur σ)) E l i = some b → f_X12_beginOf_L4 K f (mem ρ τ σ1) 188 (nI l) (nI b) (nI i) = K (mem ρ τ σ1) (nI B) := by
  have bL := hD.bL
  have bA := hD.bA
  have nn := (stOf_none (laD (cur σ)) (soD (cur σ)) E l (dN (cur σ) 6))
  intro k
  induction k with
  | zero =>
    intro i b f h1 h2 hs
    obtain ⟨f, rfl⟩ : ∃ k, f = k + 1 := ⟨f - 1, by omega⟩
    have ei : i = dN (cur σ) 6 := by omega
    rw [ei, hB] at hs
    cases hs
    rw [f_X12_beginOf_L4, mR_1, Option.bind_some, sc_6, Option.bind_some, cs_6, he.cu, hD.sA, if_pos (nI_le (by omega) (by omega))]
  | succ k ih =>
    intro i b f h1 h2 hs
    obtain ⟨f, rfl⟩ : ∃ k, f = k + 1 := ⟨f - 1, by omega⟩
    have i10 : i < 10 := by omega
    have hla := hD.la (show i < dN (cur σ) 6 by omega)
    have hso := hD.so (show i < dN (cur σ) 6 by omega)
    have e1 : σ1.2.1 199 i = nI (laD (cur σ) i) := by rw [he.2.2.2.2 199 (by unfold PerM; omega), ← cu_199 i10]; exact hla.1
    have e2 : σ1.2.1 200 i = nI (soD (cur σ) i) := by rw [he.2.2.2.2 200 (by unfold PerM; omega), ← cu_200 i10]; exact hso.1
    have hb0 : b < 1000 := by
      have := stOf_le (la := laD (cur σ)) (so := soD (cur σ)) (l := l) (b := 999) (fun l v h => by have := hb l v h; omega) i hs
      omega
    rw [f_X12_beginOf_L4, mR_1, Option.bind_some, sc_6, Option.bind_some, cs_6, he.cu, hD.sA, if_neg (nI_ge (by omega) (by omega)), mR_11, Option.bind_some, y199_r i10, Option.bind_some, e1]
    by_cases hc : laD (cur σ) i = l
    · cases ho : E (soD (cur σ) i) with
      | none =>
        have := nn.2 ⟨i, by omega, by unfold wtB; rw [decide_eq_true hc, ho]; rfl⟩
        rw [hB] at this; cases this
      | some v =>
        have hv := hb _ v ho
        have hs2 : stOf (laD (cur σ)) (soD (cur σ)) E l (i + 1) = some (max b v) := by rw [stOf, if_pos hc, hs, ho]
        have z := ih (i + 1) (max b v) f (by omega) (by omega) hs2
        rw [if_pos (by rw [hc]), mR_70, Option.bind_some, mR_12, Option.bind_some, y200_r i10, Option.bind_some, e2, y238_r (by omega), Option.bind_some, hE _ (by omega), ho, show o2I (some v) nI = nI v from rfl]
        by_cases hvb : v ≤ b
        · rw [if_pos (nI_le hvb (by omega)), nm_q, nm_q, oin1, nI_add]
          rw [Nat.max_eq_left hvb] at z
          exact z
        · rw [if_neg (nI_ge (by omega) (by omega)), Option.bind_some, Option.bind_some, y200_r i10, Option.bind_some, e2, y238_r (by omega), Option.bind_some, hE _ (by omega), ho, show o2I (some v) nI = nI v from rfl, nm_q, nm_q, oin1, nI_add]
          rw [Nat.max_eq_right (by omega)] at z
          exact z
    · have hs2 : stOf (laD (cur σ)) (soD (cur σ)) E l (i + 1) = some b := by rw [stOf, if_neg hc, hs]
      have z := ih (i + 1) b f (by omega) (by omega) hs2
      rw [if_neg (fun e => hc ((nI_eq (by omega) (by omega)).1 e)), nm_q, nm_q, oin1, nI_add]
      exact z
theorem s_nextL (hD : DG nr (cur σ)) (he : Eqm σ σ1) (hE : ∀ l, l < 8 → σ1.2.1 238 l = o2I (E l) nI) (hb : ∀ l v, E l = some v → v < 1000) (K : Mm → Nat → Int32 → Option Mm) (ρ : Mm) (τ : Nat → va_E) : ∀ (i : Nat) (o : Option Nat) (f : Nat), i ≤ dN (cur σ) 5 → i + 1 < f → (o = none → ∀ j, i ≤ j → j < dN (cur σ) 5 → ¬ nxP (dN (cur σ) 6) (laD (cur σ)) (soD (cur σ)) E j) → (∀ l, o = some l → i ≤ l ∧ l < dN (cur σ) 5 ∧ nxP (dN (cur σ) 6) (laD (cur σ)) (soD (cur σ)) E l ∧ ∀ j, i ≤ j → j < l → ¬ nxP (dN (cur σ) 6) (laD (cur σ)) (soD (cur σ)) E j) → f_X12_laysLessons_L44 K f (mem ρ τ σ1) 188 (oI o) (nI i - 1) = K (mem ρ τ σ1) 188 (oI (lnx (dN (cur σ) 6) (laD (cur σ)) (soD (cur σ)) E (dN (cur σ) 5))) := by
  have bL := hD.bL
  intro i
  induction i with
  | zero =>
    intro o f h1 h2 h3 h4
    obtain ⟨f, rfl⟩ : ∃ k, f = k + 1 := ⟨f - 1, by omega⟩
    have sp := lnx_spec (dN (cur σ) 6) (laD (cur σ)) (soD (cur σ)) E (dN (cur σ) 5)
    have eo : o = lnx (dN (cur σ) 6) (laD (cur σ)) (soD (cur σ)) E (dN (cur σ) 5) := by
      cases hl : lnx (dN (cur σ) 6) (laD (cur σ)) (soD (cur σ)) E (dN (cur σ) 5) with
      | none =>
        cases ho : o with
        | none => rfl
        | some l =>
          obtain ⟨_, g1, g2, _⟩ := h4 l ho
          exact absurd g2 (sp.1 hl l g1)
      | some l =>
        obtain ⟨g1, g2, g3⟩ := sp.2 l hl
        cases ho : o with
        | none => exact absurd g2 (h3 ho l (by omega) g1)
        | some l' =>
          obtain ⟨_, k1, k2, k3⟩ := h4 l' ho
          rcases Nat.lt_trichotomy l l' with h | h | h
          · exact absurd g2 (k3 l (by omega) h)
          · rw [h]
          · exact absurd k2 (g3 l' h)
    rw [f_X12_laysLessons_L44, if_pos (by decide), eo]
  | succ i ih =>
    intro o f h1 h2 h3 h4
    obtain ⟨f, rfl⟩ : ∃ k, f = k + 1 := ⟨f - 1, by omega⟩
    have i8 : i < 8 := by omega
    have em := o2_m2 (o := E i) (fun v hv => by have := hb _ v hv; omega)
    have ed : nI i + Int32.ofInt (-1) = nI i - 1 := by rw [Int32.sub_eq_add_neg]; rfl
    have keep : ¬ nxP (dN (cur σ) 6) (laD (cur σ)) (soD (cur σ)) E i → f_X12_laysLessons_L44 K f (mem ρ τ σ1) 188 (oI o) (nI i - 1) = K (mem ρ τ σ1) 188 (oI (lnx (dN (cur σ) 6) (laD (cur σ)) (soD (cur σ)) E (dN (cur σ) 5))) := by
      intro hn
      refine ih o f (by omega) (by omega) (fun ho j g1 g2 => ?_) (fun l ho => ?_)
      · by_cases e : j = i
        · subst e; exact hn
        · exact h3 ho j (by omega) g2
      · obtain ⟨g1, g2, g3, g4⟩ := h4 l ho
        refine ⟨by omega, g2, g3, fun j k1 k2 => ?_⟩
        by_cases e : j = i
        · subst e; exact hn
        · exact g4 j (by omega) k2
    rw [f_X12_laysLessons_L44, nI_pred, if_neg (show ¬ nI i < 0 from nI_nlt (b := 0) (by omega) (by omega)), mR_70, Option.bind_some, y238_r i8, Option.bind_some, hE i i8]
    cases ho : E i with
    | some v =>
      rw [show o2I (some v) nI = nI v from rfl, if_neg (nI_m2 (show v < 2 ^ 31 by have := hb _ v ho; omega)), nm_q, nm_q, ed]
      exact keep (fun h => by rw [h.1] at ho; cases ho)
    | none =>
      rw [if_pos (show o2I none nI = -2 from rfl), ob_mem, Option.bind_some, s_isReady hD he hE hb i8, bd_some]
      by_cases hs : stOf (laD (cur σ)) (soD (cur σ)) E i (dN (cur σ) 6) = none
      · rw [show (if stOf (laD (cur σ)) (soD (cur σ)) E i (dN (cur σ) 6) ≠ none then (1 : Int32) else 0) = 0 from if_neg (fun h => h hs), if_pos rfl, nm_q, nm_q, ed]
        exact keep (fun h => h.2 hs)
      · rw [show (if stOf (laD (cur σ)) (soD (cur σ)) E i (dN (cur σ) 6) ≠ none then (1 : Int32) else 0) = 1 from if_pos hs, if_neg (by decide), nm_q, nm_q, ed]
        exact ih (some i) f (by omega) (by omega) (fun h => by cases h) (fun l hl => by cases hl; exact ⟨Nat.le_refl _, by omega, ⟨ho, hs⟩, fun j k1 k2 => by omega⟩)
end LES
