/-! Rows carried into an image and back. -/
def flat (σ : Sg) (j : Nat) : Int32 := if j < 1 then σ.1 55 else if j < 12 then σ.2.1 189 (j - 1) else if j < 60 then σ.2.1 190 (j - 12) else if j < 65 then σ.2.1 191 (j - 60) else if j < 70 then σ.2.1 192 (j - 65) else if j < 78 then σ.2.1 193 (j - 70) else if j < 86 then σ.2.1 194 (j - 78) else if j < 94 then σ.2.1 195 (j - 86) else if j < 102 then σ.2.1 196 (j - 94) else if j < 106 then σ.2.1 197 (j - 102) else if j < 114 then σ.2.1 198 (j - 106) else if j < 124 then σ.2.1 199 (j - 114) else if j < 134 then σ.2.1 200 (j - 124) else if j < 142 then σ.2.1 201 (j - 134) else if j < 150 then σ.2.1 202 (j - 142) else σ.2.1 226 (j - 150)
theorem put_put {α : Type} (f g h : Nat → α) (a q n : Nat) (e : ∀ i, i < n → h i = g (q + i)) : fb_put (fb_put f g a q) h (a + q) n = fb_put f g a (q + n) := by
  funext k
  unfold fb_put
  by_cases h1 : a + q ≤ k ∧ k < a + q + n
  · rw [if_pos h1, if_pos (by omega), e _ (by omega)]
    congr 1; omega
  · rw [if_neg h1]
    by_cases h2 : a ≤ k ∧ k < a + q
    · rw [if_pos h2, if_pos (by omega)]
    · rw [if_neg h2, if_neg (by omega)]
def cFw (σ : Sg) (r p i : Nat) : Sg := (va_up σ.1 75 (nI (p + i)), va_up σ.2.1 240 (fb_put (σ.2.1 240) (σ.2.1 r) p i), σ.2.2)
def cBw (σ : Sg) (r p i : Nat) : Sg := (va_up σ.1 75 (nI (p + i)), va_up σ.2.1 r (fb_put (σ.2.1 r) (fun k => σ.2.1 240 (p + k)) 0 i), σ.2.2)
theorem cFw_0 (σ : Sg) (r : Nat) {p : Nat} (h : σ.1 75 = nI p) : cFw σ r p 0 = σ := by
  unfold cFw
  rw [Nat.add_zero, fb_put_0, ← h, va_id, va_id]
theorem cBw_0 (σ : Sg) (r : Nat) {p : Nat} (h : σ.1 75 = nI p) : cBw σ r p 0 = σ := by
  unfold cBw
  rw [Nat.add_zero, fb_put_0, ← h, va_id, va_id]
theorem cFw_step (σ : Sg) {r : Nat} (p i : Nat) : stI (stA (cFw σ r p i) 240 (p + i) (σ.2.1 r i)) 75 (nI (p + i + 1)) = cFw σ r p (i + 1) := by
  unfold cFw stI stA
  simp only [va_up_self, va_uu]
  rw [fb_put_succ, Nat.add_assoc]
theorem cBw_step (σ : Sg) (r p i : Nat) : stI (stA (cBw σ r p i) r i (σ.2.1 240 (p + i))) 75 (nI (p + i + 1)) = cBw σ r p (i + 1) := by
  unfold cBw stI stA
  simp only [va_up_self, va_uu]
  have := fb_put_succ (σ.2.1 r) (fun k => σ.2.1 240 (p + k)) 0 i
  rw [Nat.zero_add] at this
  rw [this, Nat.add_assoc]
section CARRY
variable {r L : Nat}
theorem s_cF (hN : ∀ (ρ : Mm) (τ : Nat → va_E) (σ : Sg), aN (mem ρ τ σ) r 0 = some (nI L)) (hr : ∀ (ρ : Mm) (τ : Nat → va_E) (σ : Sg) (i : Nat), i < L → aI (mem ρ τ σ) r 0 (nI i) = some (σ.2.1 r i)) {σ : Sg} {p : Nat} (h76 : σ.1 76 = 0) (h75 : σ.1 75 = nI p) (hr0 : r ≠ 240) (hL : L ≤ 280) (hp : p + L ≤ 2300) (ρ : Mm) (τ : Nat → va_E) : f_X12_carryRow (mem ρ τ σ) 188 r = some (mem ρ τ (cFw σ r p L)) := by
  have key : ∀ (k i f : Nat), i + k = L → k < f → f_X12_carryRow_L2 (fun μ23 => (some μ23)) f (mem ρ τ (cFw σ r p i)) 188 r (nI i) = some (mem ρ τ (cFw σ r p L)) := by
    intro k
    induction k with
    | zero =>
      intro i f h1 h2
      obtain ⟨f, rfl⟩ : ∃ k, f = k + 1 := ⟨f - 1, by omega⟩
      obtain rfl : i = L := by omega
      rw [f_X12_carryRow_L2, hN, Option.bind_some, if_pos (nI_le (by omega) (by omega))]
    | succ k ih =>
      intro i f h1 h2
      obtain ⟨f, rfl⟩ : ∃ k, f = k + 1 := ⟨f - 1, by omega⟩
      have e76 : (cFw σ r p i).1 76 = 0 := by
        show va_up σ.1 75 (nI (p + i)) 76 = _
        rw [va_up_ne _ _ (by decide)]; exact h76
      have e75 : (cFw σ r p i).1 75 = nI (p + i) := by
        show va_up σ.1 75 (nI (p + i)) 75 = _
        rw [va_up_self]
      have er : (cFw σ r p i).2.1 r i = σ.2.1 r i := by
        show va_up σ.2.1 240 (fb_put (σ.2.1 240) (σ.2.1 r) p i) r i = _
        rw [va_up_ne _ _ hr0]
      rw [f_X12_carryRow_L2, hN, Option.bind_some, if_neg (nI_ge (by omega) (by omega)), mI_76, Option.bind_some, e76, if_pos rfl, mR_73, Option.bind_some, mI_75, Option.bind_some, e75, hr _ _ _ i (by omega), Option.bind_some, er, y240_w (by omega), Option.bind_some, mI_75, Option.bind_some, stA1, e75, lit_1, nI_add, mP_75, Option.bind_some, nm_q, oin1, nI_add, cFw_step]
      exact ih (i + 1) f (by omega) (by omega)
  have z := key L 0 FU (by omega) (by unfold FU; omega)
  rw [cFw_0 σ r h75, show nI 0 = (0 : Int32) from rfl] at z
  unfold f_X12_carryRow
  rw [nm_q]
  exact z
theorem s_cB (hN : ∀ (ρ : Mm) (τ : Nat → va_E) (σ : Sg), aN (mem ρ τ σ) r 0 = some (nI L)) (hw : ∀ (ρ : Mm) (τ : Nat → va_E) (σ : Sg) (i : Nat) (v : Int32), i < L → sI (mem ρ τ σ) r 0 (nI i) v = some (mem ρ τ (stA σ r i v))) {σ : Sg} {p : Nat} (h76 : σ.1 76 = 1) (h75 : σ.1 75 = nI p) (hr0 : r ≠ 240) (hL : L ≤ 280) (hp : p + L ≤ 2300) (ρ : Mm) (τ : Nat → va_E) : f_X12_carryRow (mem ρ τ σ) 188 r = some (mem ρ τ (cBw σ r p L)) := by
  have key : ∀ (k i f : Nat), i + k = L → k < f → f_X12_carryRow_L2 (fun μ23 => (some μ23)) f (mem ρ τ (cBw σ r p i)) 188 r (nI i) = some (mem ρ τ (cBw σ r p L)) := by
    intro k
    induction k with
    | zero =>
      intro i f h1 h2
      obtain ⟨f, rfl⟩ : ∃ k, f = k + 1 := ⟨f - 1, by omega⟩
      obtain rfl : i = L := by omega
      rw [f_X12_carryRow_L2, hN, Option.bind_some, if_pos (nI_le (by omega) (by omega))]
    | succ k ih =>
      intro i f h1 h2
      obtain ⟨f, rfl⟩ : ∃ k, f = k + 1 := ⟨f - 1, by omega⟩
      have e76 : (cBw σ r p i).1 76 = 1 := by
        show va_up σ.1 75 (nI (p + i)) 76 = _
        rw [va_up_ne _ _ (by decide)]; exact h76
      have e75 : (cBw σ r p i).1 75 = nI (p + i) := by
        show va_up σ.1 75 (nI (p + i)) 75 = _
        rw [va_up_self]
      have er : (cBw σ r p i).2.1 240 (p + i) = σ.2.1 240 (p + i) := by
        show va_up σ.2.1 r (fb_put (σ.2.1 r) (fun k => σ.2.1 240 (p + k)) 0 i) 240 (p + i) = _
        rw [va_up_ne _ _ (Ne.symm hr0)]
      rw [f_X12_carryRow_L2, hN, Option.bind_some, if_neg (nI_ge (by omega) (by omega)), mI_76, Option.bind_some, e76, if_neg (by decide), mR_73, Option.bind_some, mI_75, Option.bind_some, e75, y240_r (by omega), Option.bind_some, er, hw _ _ _ i _ (by omega), Option.bind_some, mI_75, Option.bind_some, stA1, e75, lit_1, nI_add, mP_75, Option.bind_some, nm_q, oin1, nI_add, cBw_step]
      exact ih (i + 1) f (by omega) (by omega)
  have z := key L 0 FU (by omega) (by unfold FU; omega)
  rw [cBw_0 σ r h75, show nI 0 = (0 : Int32) from rfl] at z
  unfold f_X12_carryRow
  rw [nm_q]
  exact z
end CARRY
/-- rows up to offset q are in image k -/
def Pf (σ σ1 : Sg) (k q : Nat) : Prop := σ1.1 75 = nI (460 * k + q) ∧ σ1.1 76 = 0 ∧ (∀ j, j ≠ 75 → j ≠ 76 → σ1.1 j = σ.1 j) ∧ σ1.2.1 240 = fb_put (σ.2.1 240) (flat σ) (460 * k) q ∧ (∀ r, r ≠ 240 → r ≠ 227 → σ1.2.1 r = σ.2.1 r) ∧ σ1.2.1 227 0 = σ.1 55 ∧ σ1.2.2 = σ.2.2
theorem Pf.step {σ σ1 : Sg} {k q L r : Nat} (h : Pf σ σ1 k q) (hN : ∀ (ρ : Mm) (τ : Nat → va_E) (σ : Sg), aN (mem ρ τ σ) r 0 = some (nI L)) (hr : ∀ (ρ : Mm) (τ : Nat → va_E) (σ : Sg) (i : Nat), i < L → aI (mem ρ τ σ) r 0 (nI i) = some (σ.2.1 r i)) (hr0 : r ≠ 240) (hk : k < 5) (hq : q + L ≤ 430) (hL : L ≤ 280) (hf : ∀ i, i < L → σ1.2.1 r i = flat σ (q + i)) : ∃ σ2, (∀ ρ τ, f_X12_carryRow (mem ρ τ σ1) 188 r = some (mem ρ τ σ2)) ∧ Pf σ σ2 k (q + L) := by
  obtain ⟨h1, h2, h3, h4, h5, h6, h7⟩ := h
  refine ⟨cFw σ1 r (460 * k + q) L, fun ρ τ => s_cF hN hr h2 h1 hr0 hL (by omega) ρ τ, ?_, ?_, ?_, ?_, ?_, ?_, h7⟩
  · show va_up σ1.1 75 (nI (460 * k + q + L)) 75 = _
    rw [va_up_self, Nat.add_assoc]
  · show va_up σ1.1 75 (nI (460 * k + q + L)) 76 = _
    rw [va_up_ne _ _ (by decide)]; exact h2
  · intro j a b
    show va_up σ1.1 75 (nI (460 * k + q + L)) j = _
    rw [va_up_ne _ _ a]; exact h3 j a b
  · show va_up σ1.2.1 240 (fb_put (σ1.2.1 240) (σ1.2.1 r) (460 * k + q) L) 240 = _
    rw [va_up_self, h4]
    exact put_put _ _ _ _ _ _ hf
  · intro q' a b
    show va_up σ1.2.1 240 (fb_put (σ1.2.1 240) (σ1.2.1 r) (460 * k + q) L) q' = _
    rw [va_up_ne _ _ a]; exact h5 q' a b
  · show va_up σ1.2.1 240 (fb_put (σ1.2.1 240) (σ1.2.1 r) (460 * k + q) L) 227 0 = _
    rw [va_up_ne _ _ (by decide)]; exact h6
theorem Pf.s189 {σ σ1 : Sg} {k : Nat} (h : Pf σ σ1 k 1) (hk : k < 5) : ∃ σ2, (∀ ρ τ, f_X12_carryRow (mem ρ τ σ1) 188 189 = some (mem ρ τ σ2)) ∧ Pf σ σ2 k 12 := h.step (L := 11) (fun ρ τ σ => mN_189 ρ τ σ) (fun _ _ _ i hi => y189_r hi) (by decide) hk (by decide) (by decide) (fun i hi => by
  rw [h.2.2.2.2.1 189 (by decide) (by decide)]
  unfold flat
  rw [if_neg (show ¬ 1 + i < 1 by omega), if_pos (show 1 + i < 12 by omega), Nat.add_sub_cancel_left])
theorem Pf.s190 {σ σ1 : Sg} {k : Nat} (h : Pf σ σ1 k 12) (hk : k < 5) : ∃ σ2, (∀ ρ τ, f_X12_carryRow (mem ρ τ σ1) 188 190 = some (mem ρ τ σ2)) ∧ Pf σ σ2 k 60 := h.step (L := 48) (fun ρ τ σ => mN_190 ρ τ σ) (fun _ _ _ i hi => y190_r hi) (by decide) hk (by decide) (by decide) (fun i hi => by
  rw [h.2.2.2.2.1 190 (by decide) (by decide)]
  unfold flat
  rw [if_neg (show ¬ 12 + i < 1 by omega), if_neg (show ¬ 12 + i < 12 by omega), if_pos (show 12 + i < 60 by omega), Nat.add_sub_cancel_left])
theorem Pf.s191 {σ σ1 : Sg} {k : Nat} (h : Pf σ σ1 k 60) (hk : k < 5) : ∃ σ2, (∀ ρ τ, f_X12_carryRow (mem ρ τ σ1) 188 191 = some (mem ρ τ σ2)) ∧ Pf σ σ2 k 65 := h.step (L := 5) (fun ρ τ σ => mN_191 ρ τ σ) (fun _ _ _ i hi => y191_r hi) (by decide) hk (by decide) (by decide) (fun i hi => by
  rw [h.2.2.2.2.1 191 (by decide) (by decide)]
  unfold flat
  rw [if_neg (show ¬ 60 + i < 1 by omega), if_neg (show ¬ 60 + i < 12 by omega), if_neg (show ¬ 60 + i < 60 by omega), if_pos (show 60 + i < 65 by omega), Nat.add_sub_cancel_left])
theorem Pf.s192 {σ σ1 : Sg} {k : Nat} (h : Pf σ σ1 k 65) (hk : k < 5) : ∃ σ2, (∀ ρ τ, f_X12_carryRow (mem ρ τ σ1) 188 192 = some (mem ρ τ σ2)) ∧ Pf σ σ2 k 70 := h.step (L := 5) (fun ρ τ σ => mN_192 ρ τ σ) (fun _ _ _ i hi => y192_r hi) (by decide) hk (by decide) (by decide) (fun i hi => by
  rw [h.2.2.2.2.1 192 (by decide) (by decide)]
  unfold flat
  rw [if_neg (show ¬ 65 + i < 1 by omega), if_neg (show ¬ 65 + i < 12 by omega), if_neg (show ¬ 65 + i < 60 by omega), if_neg (show ¬ 65 + i < 65 by omega), if_pos (show 65 + i < 70 by omega), Nat.add_sub_cancel_left])
theorem Pf.s193 {σ σ1 : Sg} {k : Nat} (h : Pf σ σ1 k 70) (hk : k < 5) : ∃ σ2, (∀ ρ τ, f_X12_carryRow (mem ρ τ σ1) 188 193 = some (mem ρ τ σ2)) ∧ Pf σ σ2 k 78 := h.step (L := 8) (fun ρ τ σ => mN_193 ρ τ σ) (fun _ _ _ i hi => y193_r hi) (by decide) hk (by decide) (by decide) (fun i hi => by
  rw [h.2.2.2.2.1 193 (by decide) (by decide)]
  unfold flat
  rw [if_neg (show ¬ 70 + i < 1 by omega), if_neg (show ¬ 70 + i < 12 by omega), if_neg (show ¬ 70 + i < 60 by omega), if_neg (show ¬ 70 + i < 65 by omega), if_neg (show ¬ 70 + i < 70 by omega), if_pos (show 70 + i < 78 by omega), Nat.add_sub_cancel_left])
theorem Pf.s194 {σ σ1 : Sg} {k : Nat} (h : Pf σ σ1 k 78) (hk : k < 5) : ∃ σ2, (∀ ρ τ, f_X12_carryRow (mem ρ τ σ1) 188 194 = some (mem ρ τ σ2)) ∧ Pf σ σ2 k 86 := h.step (L := 8) (fun ρ τ σ => mN_194 ρ τ σ) (fun _ _ _ i hi => y194_r hi) (by decide) hk (by decide) (by decide) (fun i hi => by
  rw [h.2.2.2.2.1 194 (by decide) (by decide)]
  unfold flat
  rw [if_neg (show ¬ 78 + i < 1 by omega), if_neg (show ¬ 78 + i < 12 by omega), if_neg (show ¬ 78 + i < 60 by omega), if_neg (show ¬ 78 + i < 65 by omega), if_neg (show ¬ 78 + i < 70 by omega), if_neg (show ¬ 78 + i < 78 by omega), if_pos (show 78 + i < 86 by omega), Nat.add_sub_cancel_left])
theorem Pf.s195 {σ σ1 : Sg} {k : Nat} (h : Pf σ σ1 k 86) (hk : k < 5) : ∃ σ2, (∀ ρ τ, f_X12_carryRow (mem ρ τ σ1) 188 195 = some (mem ρ τ σ2)) ∧ Pf σ σ2 k 94 := h.step (L := 8) (fun ρ τ σ => mN_195 ρ τ σ) (fun _ _ _ i hi => y195_r hi) (by decide) hk (by decide) (by decide) (fun i hi => by
  rw [h.2.2.2.2.1 195 (by decide) (by decide)]
  unfold flat
  rw [if_neg (show ¬ 86 + i < 1 by omega), if_neg (show ¬ 86 + i < 12 by omega), if_neg (show ¬ 86 + i < 60 by omega), if_neg (show ¬ 86 + i < 65 by omega), if_neg (show ¬ 86 + i < 70 by omega), if_neg (show ¬ 86 + i < 78 by omega), if_neg (show ¬ 86 + i < 86 by omega), if_pos (show 86 + i < 94 by omega), Nat.add_sub_cancel_left])
theorem Pf.s196 {σ σ1 : Sg} {k : Nat} (h : Pf σ σ1 k 94) (hk : k < 5) : ∃ σ2, (∀ ρ τ, f_X12_carryRow (mem ρ τ σ1) 188 196 = some (mem ρ τ σ2)) ∧ Pf σ σ2 k 102 := h.step (L := 8) (fun ρ τ σ => mN_196 ρ τ σ) (fun _ _ _ i hi => y196_r hi) (by decide) hk (by decide) (by decide) (fun i hi => by
  rw [h.2.2.2.2.1 196 (by decide) (by decide)]
  unfold flat
  rw [if_neg (show ¬ 94 + i < 1 by omega), if_neg (show ¬ 94 + i < 12 by omega), if_neg (show ¬ 94 + i < 60 by omega), if_neg (show ¬ 94 + i < 65 by omega), if_neg (show ¬ 94 + i < 70 by omega), if_neg (show ¬ 94 + i < 78 by omega), if_neg (show ¬ 94 + i < 86 by omega), if_neg (show ¬ 94 + i < 94 by omega), if_pos (show 94 + i < 102 by omega), Nat.add_sub_cancel_left])
theorem Pf.s197 {σ σ1 : Sg} {k : Nat} (h : Pf σ σ1 k 102) (hk : k < 5) : ∃ σ2, (∀ ρ τ, f_X12_carryRow (mem ρ τ σ1) 188 197 = some (mem ρ τ σ2)) ∧ Pf σ σ2 k 106 := h.step (L := 4) (fun ρ τ σ => mN_197 ρ τ σ) (fun _ _ _ i hi => y197_r hi) (by decide) hk (by decide) (by decide) (fun i hi => by
  rw [h.2.2.2.2.1 197 (by decide) (by decide)]
  unfold flat
  rw [if_neg (show ¬ 102 + i < 1 by omega), if_neg (show ¬ 102 + i < 12 by omega), if_neg (show ¬ 102 + i < 60 by omega), if_neg (show ¬ 102 + i < 65 by omega), if_neg (show ¬ 102 + i < 70 by omega), if_neg (show ¬ 102 + i < 78 by omega), if_neg (show ¬ 102 + i < 86 by omega), if_neg (show ¬ 102 + i < 94 by omega), if_neg (show ¬ 102 + i < 102 by omega), if_pos (show 102 + i < 106 by omega), Nat.add_sub_cancel_left])
theorem Pf.s198 {σ σ1 : Sg} {k : Nat} (h : Pf σ σ1 k 106) (hk : k < 5) : ∃ σ2, (∀ ρ τ, f_X12_carryRow (mem ρ τ σ1) 188 198 = some (mem ρ τ σ2)) ∧ Pf σ σ2 k 114 := h.step (L := 8) (fun ρ τ σ => mN_198 ρ τ σ) (fun _ _ _ i hi => y198_r hi) (by decide) hk (by decide) (by decide) (fun i hi => by
  rw [h.2.2.2.2.1 198 (by decide) (by decide)]
  unfold flat
  rw [if_neg (show ¬ 106 + i < 1 by omega), if_neg (show ¬ 106 + i < 12 by omega), if_neg (show ¬ 106 + i < 60 by omega), if_neg (show ¬ 106 + i < 65 by omega), if_neg (show ¬ 106 + i < 70 by omega), if_neg (show ¬ 106 + i < 78 by omega), if_neg (show ¬ 106 + i < 86 by omega), if_neg (show ¬ 106 + i < 94 by omega), if_neg (show ¬ 106 + i < 102 by omega), if_neg (show ¬ 106 + i < 106 by omega), if_pos (show 106 + i < 114 by omega), Nat.add_sub_cancel_left])
theorem Pf.s199 {σ σ1 : Sg} {k : Nat} (h : Pf σ σ1 k 114) (hk : k < 5) : ∃ σ2, (∀ ρ τ, f_X12_carryRow (mem ρ τ σ1) 188 199 = some (mem ρ τ σ2)) ∧ Pf σ σ2 k 124 := h.step (L := 10) (fun ρ τ σ => mN_199 ρ τ σ) (fun _ _ _ i hi => y199_r hi) (by decide) hk (by decide) (by decide) (fun i hi => by
  rw [h.2.2.2.2.1 199 (by decide) (by decide)]
  unfold flat
  rw [if_neg (show ¬ 114 + i < 1 by omega), if_neg (show ¬ 114 + i < 12 by omega), if_neg (show ¬ 114 + i < 60 by omega), if_neg (show ¬ 114 + i < 65 by omega), if_neg (show ¬ 114 + i < 70 by omega), if_neg (show ¬ 114 + i < 78 by omega), if_neg (show ¬ 114 + i < 86 by omega), if_neg (show ¬ 114 + i < 94 by omega), if_neg (show ¬ 114 + i < 102 by omega), if_neg (show ¬ 114 + i < 106 by omega), if_neg (show ¬ 114 + i < 114 by omega), if_pos (show 114 + i < 124 by omega), Nat.add_sub_cancel_left])
theorem Pf.s200 {σ σ1 : Sg} {k : Nat} (h : Pf σ σ1 k 124) (hk : k < 5) : ∃ σ2, (∀ ρ τ, f_X12_carryRow (mem ρ τ σ1) 188 200 = some (mem ρ τ σ2)) ∧ Pf σ σ2 k 134 := h.step (L := 10) (fun ρ τ σ => mN_200 ρ τ σ) (fun _ _ _ i hi => y200_r hi) (by decide) hk (by decide) (by decide) (fun i hi => by
  rw [h.2.2.2.2.1 200 (by decide) (by decide)]
  unfold flat
  rw [if_neg (show ¬ 124 + i < 1 by omega), if_neg (show ¬ 124 + i < 12 by omega), if_neg (show ¬ 124 + i < 60 by omega), if_neg (show ¬ 124 + i < 65 by omega), if_neg (show ¬ 124 + i < 70 by omega), if_neg (show ¬ 124 + i < 78 by omega), if_neg (show ¬ 124 + i < 86 by omega), if_neg (show ¬ 124 + i < 94 by omega), if_neg (show ¬ 124 + i < 102 by omega), if_neg (show ¬ 124 + i < 106 by omega), if_neg (show ¬ 124 + i < 114 by omega), if_neg (show ¬ 124 + i < 124 by omega), if_pos (show 124 + i < 134 by omega), Nat.add_sub_cancel_left])
theorem Pf.s201 {σ σ1 : Sg} {k : Nat} (h : Pf σ σ1 k 134) (hk : k < 5) : ∃ σ2, (∀ ρ τ, f_X12_carryRow (mem ρ τ σ1) 188 201 = some (mem ρ τ σ2)) ∧ Pf σ σ2 k 142 := h.step (L := 8) (fun ρ τ σ => mN_201 ρ τ σ) (fun _ _ _ i hi => y201_r hi) (by decide) hk (by decide) (by decide) (fun i hi => by
  rw [h.2.2.2.2.1 201 (by decide) (by decide)]
  unfold flat
  rw [if_neg (show ¬ 134 + i < 1 by omega), if_neg (show ¬ 134 + i < 12 by omega), if_neg (show ¬ 134 + i < 60 by omega), if_neg (show ¬ 134 + i < 65 by omega), if_neg (show ¬ 134 + i < 70 by omega), if_neg (show ¬ 134 + i < 78 by omega), if_neg (show ¬ 134 + i < 86 by omega), if_neg (show ¬ 134 + i < 94 by omega), if_neg (show ¬ 134 + i < 102 by omega), if_neg (show ¬ 134 + i < 106 by omega), if_neg (show ¬ 134 + i < 114 by omega), if_neg (show ¬ 134 + i < 124 by omega), if_neg (show ¬ 134 + i < 134 by omega), if_pos (show 134 + i < 142 by omega), Nat.add_sub_cancel_left])
theorem Pf.s202 {σ σ1 : Sg} {k : Nat} (h : Pf σ σ1 k 142) (hk : k < 5) : ∃ σ2, (∀ ρ τ, f_X12_carryRow (mem ρ τ σ1) 188 202 = some (mem ρ τ σ2)) ∧ Pf σ σ2 k 150 := h.step (L := 8) (fun ρ τ σ => mN_202 ρ τ σ) (fun _ _ _ i hi => y202_r hi) (by decide) hk (by decide) (by decide) (fun i hi => by
  rw [h.2.2.2.2.1 202 (by decide) (by decide)]
  unfold flat
  rw [if_neg (show ¬ 142 + i < 1 by omega), if_neg (show ¬ 142 + i < 12 by omega), if_neg (show ¬ 142 + i < 60 by omega), if_neg (show ¬ 142 + i < 65 by omega), if_neg (show ¬ 142 + i < 70 by omega), if_neg (show ¬ 142 + i < 78 by omega), if_neg (show ¬ 142 + i < 86 by omega), if_neg (show ¬ 142 + i < 94 by omega), if_neg (show ¬ 142 + i < 102 by omega), if_neg (show ¬ 142 + i < 106 by omega), if_neg (show ¬ 142 + i < 114 by omega), if_neg (show ¬ 142 + i < 124 by omega), if_neg (show ¬ 142 + i < 134 by omega), if_neg (show ¬ 142 + i < 142 by omega), if_pos (show 142 + i < 150 by omega), Nat.add_sub_cancel_left])
theorem Pf.s226 {σ σ1 : Sg} {k : Nat} (h : Pf σ σ1 k 150) (hk : k < 5) : ∃ σ2, (∀ ρ τ, f_X12_carryRow (mem ρ τ σ1) 188 226 = some (mem ρ τ σ2)) ∧ Pf σ σ2 k 430 := h.step (L := 280) (fun ρ τ σ => mN_226 ρ τ σ) (fun _ _ _ i hi => y226_r hi) (by decide) hk (by decide) (by decide) (fun i hi => by
  rw [h.2.2.2.2.1 226 (by decide) (by decide)]
  unfold flat
  rw [if_neg (show ¬ 150 + i < 1 by omega), if_neg (show ¬ 150 + i < 12 by omega), if_neg (show ¬ 150 + i < 60 by omega), if_neg (show ¬ 150 + i < 65 by omega), if_neg (show ¬ 150 + i < 70 by omega), if_neg (show ¬ 150 + i < 78 by omega), if_neg (show ¬ 150 + i < 86 by omega), if_neg (show ¬ 150 + i < 94 by omega), if_neg (show ¬ 150 + i < 102 by omega), if_neg (show ¬ 150 + i < 106 by omega), if_neg (show ¬ 150 + i < 114 by omega), if_neg (show ¬ 150 + i < 124 by omega), if_neg (show ¬ 150 + i < 134 by omega), if_neg (show ¬ 150 + i < 142 by omega), if_neg (show ¬ 150 + i < 150 by omega), Nat.add_sub_cancel_left])
theorem s_carryF {σ : Sg} {k : Nat} (hk : k < 5) : ∃ σ', (∀ ρ τ, f_X12_carriesAll (mem ρ τ σ) 188 (nI k) 0 = some (mem ρ τ σ')) ∧ Pf σ σ' k 430 := by
  have h0 : Pf σ (stA (stI (stI σ 75 (nI (460 * k))) 76 0) 227 0 (σ.1 55)) k 0 := by
    refine ⟨?_, ?_, fun j a b => ?_, ?_, fun r a b => ?_, ?_, rfl⟩
    · rw [stA1, stI1, if_neg (by decide), stI1, if_pos rfl]; rfl
    · rw [stA1, stI1, if_pos rfl]
    · rw [stA1, stI1, if_neg b, stI1, if_neg a]
    · rw [fb_put_0]; funext i; rw [stA2, if_neg (by omega)]; rfl
    · funext i; rw [stA2, if_neg (by omega)]; rfl
    · rw [stA2, if_pos ⟨rfl, rfl⟩]
  obtain ⟨σ1, a1, b1⟩ := h0.step (L := 1) (r := 227) (fun ρ τ σ => mN_227 ρ τ σ) (fun _ _ _ i hi => y227_r hi) (by decide) hk (by decide) (by decide) (fun i hi => by
    obtain rfl : i = 0 := by omega
    rw [h0.2.2.2.2.2.1]; rfl)
  have b1' : Pf σ (stI σ1 55 (σ1.2.1 227 0)) k 1 := by
    obtain ⟨g1, g2, g3, g4, g5, g6, g7⟩ := b1
    refine ⟨by rw [stI1, if_neg (by decide)]; exact g1, by rw [stI1, if_neg (by decide)]; exact g2, fun j a b => ?_, g4, g5, g6, g7⟩
    rw [stI1]
    by_cases e : j = 55
    · rw [if_pos e, e, g6]
    · rw [if_neg e]; exact g3 j a b
  obtain ⟨σ2, a2, b2⟩ := Pf.s189 b1' hk
  obtain ⟨σ3, a3, b3⟩ := Pf.s190 b2 hk
  obtain ⟨σ4, a4, b4⟩ := Pf.s191 b3 hk
  obtain ⟨σ5, a5, b5⟩ := Pf.s192 b4 hk
  obtain ⟨σ6, a6, b6⟩ := Pf.s193 b5 hk
  obtain ⟨σ7, a7, b7⟩ := Pf.s194 b6 hk
  obtain ⟨σ8, a8, b8⟩ := Pf.s195 b7 hk
  obtain ⟨σ9, a9, b9⟩ := Pf.s196 b8 hk
  obtain ⟨σ10, a10, b10⟩ := Pf.s197 b9 hk
  obtain ⟨σ11, a11, b11⟩ := Pf.s198 b10 hk
  obtain ⟨σ12, a12, b12⟩ := Pf.s199 b11 hk
  obtain ⟨σ13, a13, b13⟩ := Pf.s200 b12 hk
  obtain ⟨σ14, a14, b14⟩ := Pf.s201 b13 hk
  obtain ⟨σ15, a15, b15⟩ := Pf.s202 b14 hk
  obtain ⟨σ16, a16, b16⟩ := Pf.s226 b15 hk
  refine ⟨σ16, fun ρ τ => ?_, b16⟩
  unfold f_X12_carriesAll
  rw [lit_460, pk_mul, mP_75, Option.bind_some, mP_76, z01, Option.bind_some, mR_54, Option.bind_some, mI_55, Option.bind_some, show sI (mem ρ τ (stI (stI σ 75 (nI (460 * k))) 76 0)) 227 0 (0 : Int32) ((stI (stI σ 75 (nI (460 * k))) 76 0).1 55) = some (mem ρ τ (stA (stI (stI σ 75 (nI (460 * k))) 76 0) 227 0 (σ.1 55))) by
    rw [stI1, if_neg (by decide), stI1, if_neg (by decide)]; exact y227_w (i := 0) (by decide), Option.bind_some, mR_54, Option.bind_some, ob_mem, Option.bind_some, a1, Option.bind_some, mR_54, Option.bind_some, show aI (mem ρ τ σ1) 227 0 (0 : Int32) = some (σ1.2.1 227 0) from y227_r (i := 0) (by decide), Option.bind_some, mP_55, Option.bind_some, mR_1, Option.bind_some, ob_mem, Option.bind_some, a2, Option.bind_some, mR_2, Option.bind_some, ob_mem, Option.bind_some, a3, Option.bind_some, mR_3, Option.bind_some, ob_mem, Option.bind_some, a4, Option.bind_some, mR_4, Option.bind_some, ob_mem, Option.bind_some, a5, Option.bind_some, mR_5, Option.bind_some, ob_mem, Option.bind_some, a6, Option.bind_some, mR_6, Option.bind_some, ob_mem, Option.bind_some, a7, Option.bind_some, mR_7, Option.bind_some, ob_mem, Option.bind_some, a8, Option.bind_some, mR_8, Option.bind_some, ob_mem, Option.bind_some, a9, Option.bind_some, mR_9, Option.bind_some, ob_mem, Option.bind_some, a10, Option.bind_some, mR_10, Option.bind_some, ob_mem, Option.bind_some, a11, Option.bind_some, mR_11, Option.bind_some, ob_mem, Option.bind_some, a12, Option.bind_some, mR_12, Option.bind_some, ob_mem, Option.bind_some, a13, Option.bind_some, mR_13, Option.bind_some, ob_mem, Option.bind_some, a14, Option.bind_some, mR_14, Option.bind_some, ob_mem, Option.bind_some, a15, Option.bind_some, mR_53, Option.bind_some, ob_mem, Option.bind_some, a16, Option.bind_some]
