/-! Images: what carrying does to the state. -/
def rowsL : List Nat := [189, 190, 191, 192, 193, 194, 195, 196, 197, 198, 199, 200, 201, 202, 226]
theorem dj_rows : ∀ a ∈ rowsL, ∀ b ∈ rowsL, a ≠ b → (dof a + dlen a ≤ dof b ∨ dof b + dlen b ≤ dof a) := by decide +kernel
theorem in_rows : ∀ a ∈ rowsL, dof a + dlen a ≤ 430 ∧ 1 ≤ dof a ∧ a ≠ 0 ∧ a ≠ 240 ∧ a ≠ 227 := by decide +kernel
theorem dlen_rows {r i : Nat} (h : i < dlen r) : r = 0 ∨ r ∈ rowsL := by
  unfold dlen at h
  by_cases h0 : r = 0
  · exact .inl h0
  · right
    rw [if_neg h0] at h
    by_cases h1 : r = 226
    · subst h1; decide
    · rw [if_neg h1] at h
      by_cases h2 : 189 ≤ r ∧ r ≤ 202
      · rcases (show r = 189 ∨ r = 190 ∨ r = 191 ∨ r = 192 ∨ r = 193 ∨ r = 194 ∨ r = 195 ∨ r = 196 ∨ r = 197 ∨ r = 198 ∨ r = 199 ∨ r = 200 ∨ r = 201 ∨ r = 202 by omega) with rfl | rfl | rfl | rfl | rfl | rfl | rfl | rfl | rfl | rfl | rfl | rfl | rfl | rfl <;> decide
      · rw [if_neg h2] at h; omega
theorem fl_189 (σ : Sg) {i : Nat} (h : i < 11) : flat σ (1 + i) = σ.2.1 189 i := by
  unfold flat
  rw [if_neg (show ¬ 1 + i < 1 by omega), if_pos (show 1 + i < 12 by omega), Nat.add_sub_cancel_left]
theorem fl_190 (σ : Sg) {i : Nat} (h : i < 48) : flat σ (12 + i) = σ.2.1 190 i := by
  unfold flat
  rw [if_neg (show ¬ 12 + i < 1 by omega), if_neg (show ¬ 12 + i < 12 by omega), if_pos (show 12 + i < 60 by omega), Nat.add_sub_cancel_left]
theorem fl_191 (σ : Sg) {i : Nat} (h : i < 5) : flat σ (60 + i) = σ.2.1 191 i := by
  unfold flat
  rw [if_neg (show ¬ 60 + i < 1 by omega), if_neg (show ¬ 60 + i < 12 by omega), if_neg (show ¬ 60 + i < 60 by omega), if_pos (show 60 + i < 65 by omega), Nat.add_sub_cancel_left]
theorem fl_192 (σ : Sg) {i : Nat} (h : i < 5) : flat σ (65 + i) = σ.2.1 192 i := by
  unfold flat
  rw [if_neg (show ¬ 65 + i < 1 by omega), if_neg (show ¬ 65 + i < 12 by omega), if_neg (show ¬ 65 + i < 60 by omega), if_neg (show ¬ 65 + i < 65 by omega), if_pos (show 65 + i < 70 by omega), Nat.add_sub_cancel_left]
theorem fl_193 (σ : Sg) {i : Nat} (h : i < 8) : flat σ (70 + i) = σ.2.1 193 i := by
  unfold flat
  rw [if_neg (show ¬ 70 + i < 1 by omega), if_neg (show ¬ 70 + i < 12 by omega), if_neg (show ¬ 70 + i < 60 by omega), if_neg (show ¬ 70 + i < 65 by omega), if_neg (show ¬ 70 + i < 70 by omega), if_pos (show 70 + i < 78 by omega), Nat.add_sub_cancel_left]
theorem fl_194 (σ : Sg) {i : Nat} (h : i < 8) : flat σ (78 + i) = σ.2.1 194 i := by
  unfold flat
  rw [if_neg (show ¬ 78 + i < 1 by omega), if_neg (show ¬ 78 + i < 12 by omega), if_neg (show ¬ 78 + i < 60 by omega), if_neg (show ¬ 78 + i < 65 by omega), if_neg (show ¬ 78 + i < 70 by omega), if_neg (show ¬ 78 + i < 78 by omega), if_pos (show 78 + i < 86 by omega), Nat.add_sub_cancel_left]
theorem fl_195 (σ : Sg) {i : Nat} (h : i < 8) : flat σ (86 + i) = σ.2.1 195 i := by
  unfold flat
  rw [if_neg (show ¬ 86 + i < 1 by omega), if_neg (show ¬ 86 + i < 12 by omega), if_neg (show ¬ 86 + i < 60 by omega), if_neg (show ¬ 86 + i < 65 by omega), if_neg (show ¬ 86 + i < 70 by omega), if_neg (show ¬ 86 + i < 78 by omega), if_neg (show ¬ 86 + i < 86 by omega), if_pos (show 86 + i < 94 by omega), Nat.add_sub_cancel_left]
theorem fl_196 (σ : Sg) {i : Nat} (h : i < 8) : flat σ (94 + i) = σ.2.1 196 i := by
  unfold flat
  rw [if_neg (show ¬ 94 + i < 1 by omega), if_neg (show ¬ 94 + i < 12 by omega), if_neg (show ¬ 94 + i < 60 by omega), if_neg (show ¬ 94 + i < 65 by omega), if_neg (show ¬ 94 + i < 70 by omega), if_neg (show ¬ 94 + i < 78 by omega), if_neg (show ¬ 94 + i < 86 by omega), if_neg (show ¬ 94 + i < 94 by omega), if_pos (show 94 + i < 102 by omega), Nat.add_sub_cancel_left]
theorem fl_197 (σ : Sg) {i : Nat} (h : i < 4) : flat σ (102 + i) = σ.2.1 197 i := by
  unfold flat
  rw [if_neg (show ¬ 102 + i < 1 by omega), if_neg (show ¬ 102 + i < 12 by omega), if_neg (show ¬ 102 + i < 60 by omega), if_neg (show ¬ 102 + i < 65 by omega), if_neg (show ¬ 102 + i < 70 by omega), if_neg (show ¬ 102 + i < 78 by omega), if_neg (show ¬ 102 + i < 86 by omega), if_neg (show ¬ 102 + i < 94 by omega), if_neg (show ¬ 102 + i < 102 by omega), if_pos (show 102 + i < 106 by omega), Nat.add_sub_cancel_left]
theorem fl_198 (σ : Sg) {i : Nat} (h : i < 8) : flat σ (106 + i) = σ.2.1 198 i := by
  unfold flat
  rw [if_neg (show ¬ 106 + i < 1 by omega), if_neg (show ¬ 106 + i < 12 by omega), if_neg (show ¬ 106 + i < 60 by omega), if_neg (show ¬ 106 + i < 65 by omega), if_neg (show ¬ 106 + i < 70 by omega), if_neg (show ¬ 106 + i < 78 by omega), if_neg (show ¬ 106 + i < 86 by omega), if_neg (show ¬ 106 + i < 94 by omega), if_neg (show ¬ 106 + i < 102 by omega), if_neg (show ¬ 106 + i < 106 by omega), if_pos (show 106 + i < 114 by omega), Nat.add_sub_cancel_left]
theorem fl_199 (σ : Sg) {i : Nat} (h : i < 10) : flat σ (114 + i) = σ.2.1 199 i := by
  unfold flat
  rw [if_neg (show ¬ 114 + i < 1 by omega), if_neg (show ¬ 114 + i < 12 by omega), if_neg (show ¬ 114 + i < 60 by omega), if_neg (show ¬ 114 + i < 65 by omega), if_neg (show ¬ 114 + i < 70 by omega), if_neg (show ¬ 114 + i < 78 by omega), if_neg (show ¬ 114 + i < 86 by omega), if_neg (show ¬ 114 + i < 94 by omega), if_neg (show ¬ 114 + i < 102 by omega), if_neg (show ¬ 114 + i < 106 by omega), if_neg (show ¬ 114 + i < 114 by omega), if_pos (show 114 + i < 124 by omega), Nat.add_sub_cancel_left]
theorem fl_200 (σ : Sg) {i : Nat} (h : i < 10) : flat σ (124 + i) = σ.2.1 200 i := by
  unfold flat
  rw [if_neg (show ¬ 124 + i < 1 by omega), if_neg (show ¬ 124 + i < 12 by omega), if_neg (show ¬ 124 + i < 60 by omega), if_neg (show ¬ 124 + i < 65 by omega), if_neg (show ¬ 124 + i < 70 by omega), if_neg (show ¬ 124 + i < 78 by omega), if_neg (show ¬ 124 + i < 86 by omega), if_neg (show ¬ 124 + i < 94 by omega), if_neg (show ¬ 124 + i < 102 by omega), if_neg (show ¬ 124 + i < 106 by omega), if_neg (show ¬ 124 + i < 114 by omega), if_neg (show ¬ 124 + i < 124 by omega), if_pos (show 124 + i < 134 by omega), Nat.add_sub_cancel_left]
theorem fl_201 (σ : Sg) {i : Nat} (h : i < 8) : flat σ (134 + i) = σ.2.1 201 i := by
  unfold flat
  rw [if_neg (show ¬ 134 + i < 1 by omega), if_neg (show ¬ 134 + i < 12 by omega), if_neg (show ¬ 134 + i < 60 by omega), if_neg (show ¬ 134 + i < 65 by omega), if_neg (show ¬ 134 + i < 70 by omega), if_neg (show ¬ 134 + i < 78 by omega), if_neg (show ¬ 134 + i < 86 by omega), if_neg (show ¬ 134 + i < 94 by omega), if_neg (show ¬ 134 + i < 102 by omega), if_neg (show ¬ 134 + i < 106 by omega), if_neg (show ¬ 134 + i < 114 by omega), if_neg (show ¬ 134 + i < 124 by omega), if_neg (show ¬ 134 + i < 134 by omega), if_pos (show 134 + i < 142 by omega), Nat.add_sub_cancel_left]
theorem fl_202 (σ : Sg) {i : Nat} (h : i < 8) : flat σ (142 + i) = σ.2.1 202 i := by
  unfold flat
  rw [if_neg (show ¬ 142 + i < 1 by omega), if_neg (show ¬ 142 + i < 12 by omega), if_neg (show ¬ 142 + i < 60 by omega), if_neg (show ¬ 142 + i < 65 by omega), if_neg (show ¬ 142 + i < 70 by omega), if_neg (show ¬ 142 + i < 78 by omega), if_neg (show ¬ 142 + i < 86 by omega), if_neg (show ¬ 142 + i < 94 by omega), if_neg (show ¬ 142 + i < 102 by omega), if_neg (show ¬ 142 + i < 106 by omega), if_neg (show ¬ 142 + i < 114 by omega), if_neg (show ¬ 142 + i < 124 by omega), if_neg (show ¬ 142 + i < 134 by omega), if_neg (show ¬ 142 + i < 142 by omega), if_pos (show 142 + i < 150 by omega), Nat.add_sub_cancel_left]
theorem fl_226 (σ : Sg) {i : Nat} (h : i < 280) : flat σ (150 + i) = σ.2.1 226 i := by
  unfold flat
  rw [if_neg (show ¬ 150 + i < 1 by omega), if_neg (show ¬ 150 + i < 12 by omega), if_neg (show ¬ 150 + i < 60 by omega), if_neg (show ¬ 150 + i < 65 by omega), if_neg (show ¬ 150 + i < 70 by omega), if_neg (show ¬ 150 + i < 78 by omega), if_neg (show ¬ 150 + i < 86 by omega), if_neg (show ¬ 150 + i < 94 by omega), if_neg (show ¬ 150 + i < 102 by omega), if_neg (show ¬ 150 + i < 106 by omega), if_neg (show ¬ 150 + i < 114 by omega), if_neg (show ¬ 150 + i < 124 by omega), if_neg (show ¬ 150 + i < 134 by omega), if_neg (show ¬ 150 + i < 142 by omega), if_neg (show ¬ 150 + i < 150 by omega), Nat.add_sub_cancel_left]
theorem flat_at (σ : Sg) {r i : Nat} (h : i < dlen r) : flat σ (dof r + i) = if r = 0 then σ.1 55 else σ.2.1 r i := by
  rcases dlen_rows h with rfl | hr
  · have : i < 1 := h
    obtain rfl : i = 0 := by omega
    rfl
  · have h0 := (in_rows r hr).2.2.1
    rw [if_neg h0]
    have hr : r = 189 ∨ r = 190 ∨ r = 191 ∨ r = 192 ∨ r = 193 ∨ r = 194 ∨ r = 195 ∨ r = 196 ∨ r = 197 ∨ r = 198 ∨ r = 199 ∨ r = 200 ∨ r = 201 ∨ r = 202 ∨ r = 226 := by simpa [rowsL] using hr
    rcases hr with rfl | rfl | rfl | rfl | rfl | rfl | rfl | rfl | rfl | rfl | rfl | rfl | rfl | rfl | rfl
    · exact fl_189 σ h
    · exact fl_190 σ h
    · exact fl_191 σ h
    · exact fl_192 σ h
    · exact fl_193 σ h
    · exact fl_194 σ h
    · exact fl_195 σ h
    · exact fl_196 σ h
    · exact fl_197 σ h
    · exact fl_198 σ h
    · exact fl_199 σ h
    · exact fl_200 σ h
    · exact fl_201 σ h
    · exact fl_202 σ h
    · exact fl_226 σ h
theorem dof_lt {r i : Nat} (h : i < dlen r) : dof r + i < 430 := by
  rcases dlen_rows h with rfl | hr
  · have : i < 1 := h
    show 0 + i < 430; omega
  · have := (in_rows r hr).1
    omega
section IMG
variable {σ σ1 : Sg} {k : Nat}
theorem Pf.cu (h : Pf σ σ1 k 430) : cur σ1 = cur σ := by
  funext r i
  unfold cur
  by_cases hi : i < dlen r
  · rw [if_pos hi, if_pos hi]
    by_cases h0 : r = 0
    · rw [if_pos h0, if_pos h0, h.2.2.1 55 (by decide) (by decide)]
    · rw [if_neg h0, if_neg h0]
      rcases dlen_rows hi with e | hr
      · exact absurd e h0
      · have q := in_rows r hr
        rw [h.2.2.2.2.1 r q.2.2.2.1 q.2.2.2.2]
  · rw [if_neg hi, if_neg hi]
theorem Pf.im (h : Pf σ σ1 k 430) : img σ1 k = cur σ := by
  funext r i
  unfold img cur
  by_cases hi : i < dlen r
  · rw [if_pos hi, if_pos hi, h.2.2.2.1, Nat.add_assoc, fb_put_in (by omega) (by have := dof_lt hi; omega), Nat.add_sub_cancel_left, flat_at σ hi]
  · rw [if_neg hi, if_neg hi]
theorem Pf.im2 (h : Pf σ σ1 k 430) {j : Nat} (hj : j ≠ k) : img σ1 j = img σ j := by
  funext r i
  unfold img
  by_cases hi : i < dlen r
  · rw [if_pos hi, if_pos hi, h.2.2.2.1, Nat.add_assoc, fb_put_out (by have := dof_lt hi; omega)]
  · rw [if_neg hi, if_neg hi]
/-- rows up to offset q are back -/
def Pb (σ σ1 : Sg) (k q : Nat) : Prop := σ1.1 75 = nI (460 * k + q) ∧ σ1.1 76 = 1 ∧ (∀ j, j ≠ 75 → j ≠ 76 → j ≠ 55 → σ1.1 j = σ.1 j) ∧ σ1.2.1 240 = σ.2.1 240 ∧ (∀ r, r ≠ 227 → ¬ r ∈ rowsL → σ1.2.1 r = σ.2.1 r) ∧ (∀ r, r ∈ rowsL → ∀ i, σ1.2.1 r i = if i < dlen r ∧ dof r + i < q then σ.2.1 240 (460 * k + dof r + i) else σ.2.1 r i) ∧ σ1.2.2 = σ.2.2
theorem Pb.step {q L r : Nat} (h : Pb σ σ1 k q) (hN : ∀ (ρ : Mm) (τ : Nat → va_E) (σ : Sg), aN (mem ρ τ σ) r 0 = some (nI L)) (hw : ∀ (ρ : Mm) (τ : Nat → va_E) (σ : Sg) (i : Nat) (v : Int32), i < L → sI (mem ρ τ σ) r 0 (nI i) v = some (mem ρ τ (stA σ r i v))) (hr : r ∈ rowsL) (hk : k < 5) (e1 : dof r = q) (e2 : dlen r = L) (hL : L ≤ 280) : ∃ σ2, (∀ ρ τ, f_X12_carryRow (mem ρ τ σ1) 188 r = some (mem ρ τ σ2)) ∧ Pb σ σ2 k (q + L) ∧ σ2.1 55 = σ1.1 55 := by
  obtain ⟨h1, h2, h3, h4, h5, h6, h7⟩ := h
  obtain ⟨i1, i2, i3, i4, i5⟩ := in_rows r hr
  refine ⟨cBw σ1 r (460 * k + q) L, fun ρ τ => s_cB hN hw h2 h1 i4 hL (by omega) ρ τ, ⟨?_, ?_, ?_, ?_, ?_, ?_, h7⟩, ?_⟩
  · show va_up σ1.1 75 (nI (460 * k + q + L)) 75 = _
    rw [va_up_self, Nat.add_assoc]
  · show va_up σ1.1 75 (nI (460 * k + q + L)) 76 = _
    rw [va_up_ne _ _ (by decide)]; exact h2
  · intro j a b c
    show va_up σ1.1 75 (nI (460 * k + q + L)) j = _
    rw [va_up_ne _ _ a]; exact h3 j a b c
  · show va_up σ1.2.1 r (fb_put (σ1.2.1 r) (fun k' => σ1.2.1 240 (460 * k + q + k')) 0 L) 240 = _
    rw [va_up_ne _ _ (Ne.symm i4)]; exact h4
  · intro r' a b
    show va_up σ1.2.1 r (fb_put (σ1.2.1 r) (fun k' => σ1.2.1 240 (460 * k + q + k')) 0 L) r' = _
    rw [va_up_ne _ _ (show r' ≠ r from fun e => b (by rw [e]; exact hr))]; exact h5 r' a b
  · intro r' hr' i
    show va_up σ1.2.1 r (fb_put (σ1.2.1 r) (fun k' => σ1.2.1 240 (460 * k + q + k')) 0 L) r' i = _
    by_cases e : r' = r
    · subst e
      rw [va_up_self]
      by_cases hi : i < L
      · rw [fb_put_in (by omega) (by omega), if_pos ⟨by omega, by omega⟩, h4, e1]; rfl
      · rw [fb_put_out (by omega), if_neg (by omega), h6 r' hr' i, if_neg (by omega)]
    · rw [va_up_ne _ _ e, h6 r' hr' i]
      have d := dj_rows r' hr' r hr e
      by_cases hi : i < dlen r' ∧ dof r' + i < q
      · rw [if_pos hi, if_pos ⟨hi.1, by omega⟩]
      · rw [if_neg hi, if_neg (by omega)]
  · show va_up σ1.1 75 (nI (460 * k + q + L)) 55 = _
    rw [va_up_ne _ _ (by decide)]
theorem Pb.cu (h : Pb σ σ1 k 430) (h55 : σ1.1 55 = σ.2.1 240 (460 * k)) : cur σ1 = img σ k := by
  funext r i
  unfold cur img
  by_cases hi : i < dlen r
  · rw [if_pos hi, if_pos hi]
    rcases dlen_rows hi with rfl | hr
    · have : i < 1 := hi
      obtain rfl : i = 0 := by omega
      rw [if_pos rfl, h55]; rfl
    · rw [if_neg (in_rows r hr).2.2.1, h.2.2.2.2.2.1 r hr i, if_pos ⟨hi, dof_lt hi⟩]
  · rw [if_neg hi, if_neg hi]
theorem s_carryB (hk : k < 5) : ∃ σ', (∀ ρ τ, f_X12_carriesAll (mem ρ τ σ) 188 (nI k) 1 = some (mem ρ τ σ')) ∧ Pb σ σ' k 430 ∧ σ'.1 55 = σ.2.1 240 (460 * k) := by
  have z1 : ∀ ρ τ, f_X12_carryRow (mem ρ τ (stA (stI (stI σ 75 (nI (460 * k))) 76 1) 227 0 (σ.1 55))) 188 227 = some (mem ρ τ (cBw (stA (stI (stI σ 75 (nI (460 * k))) 76 1) 227 0 (σ.1 55)) 227 (460 * k) 1)) := fun ρ τ => s_cB (L := 1) (fun ρ τ σ => mN_227 ρ τ σ) (fun _ _ _ i v hi => y227_w hi) (by rw [stA1, stI1, if_pos rfl]) (by rw [stA1, stI1, if_neg (by decide), stI1, if_pos rfl]) (by decide) (by decide) (by omega) ρ τ
  have e240 : (stA (stI (stI σ 75 (nI (460 * k))) 76 1) 227 0 (σ.1 55)).2.1 240 = σ.2.1 240 := by funext i; rw [stA2, if_neg (by omega)]; rfl
  have er : ∀ r, r ≠ 227 → (stA (stI (stI σ 75 (nI (460 * k))) 76 1) 227 0 (σ.1 55)).2.1 r = σ.2.1 r := by intro r hr; funext i; rw [stA2, if_neg (by omega)]; rfl
  have ej : ∀ j, j ≠ 75 → j ≠ 76 → (stA (stI (stI σ 75 (nI (460 * k))) 76 1) 227 0 (σ.1 55)).1 j = σ.1 j := by intro j a b; rw [stA1, stI1, if_neg b, stI1, if_neg a]
  have e76 : (stA (stI (stI σ 75 (nI (460 * k))) 76 1) 227 0 (σ.1 55)).1 76 = 1 := by rw [stA1, stI1, if_pos rfl]
  have beg : ∀ ρ τ, sI (mem ρ τ (stI (stI σ 75 (nI (460 * k))) 76 1)) 227 0 (0 : Int32) ((stI (stI σ 75 (nI (460 * k))) 76 1).1 55) = some (mem ρ τ (stA (stI (stI σ 75 (nI (460 * k))) 76 1) 227 0 (σ.1 55))) := by
    intro ρ τ
    rw [stI1, if_neg (by decide), stI1, if_neg (by decide)]; exact y227_w (i := 0) (by decide)
  have e22 : (stA (stI (stI σ 75 (nI (460 * k))) 76 1) 227 0 (σ.1 55)).2.2 = σ.2.2 := rfl
  generalize stA (stI (stI σ 75 (nI (460 * k))) 76 1) 227 0 (σ.1 55) = σ0 at z1 e240 er ej e76 beg e22
  have v0 : (cBw σ0 227 (460 * k) 1).2.1 227 0 = σ.2.1 240 (460 * k) := by
    show va_up σ0.2.1 227 (fb_put (σ0.2.1 227) (fun k' => σ0.2.1 240 (460 * k + k')) 0 1) 227 0 = _
    rw [va_up_self, fb_put_in (by omega) (by omega), e240]; rfl
  have b1 : Pb σ (stI (cBw σ0 227 (460 * k) 1) 55 (σ.2.1 240 (460 * k))) k 1 := by
    refine ⟨?_, ?_, ?_, ?_, ?_, ?_, ?_⟩
    · rw [stI1, if_neg (by decide)]
      show va_up σ0.1 75 (nI (460 * k + 1)) 75 = _
      rw [va_up_self]
    · rw [stI1, if_neg (by decide)]
      show va_up σ0.1 75 (nI (460 * k + 1)) 76 = _
      rw [va_up_ne _ _ (by decide)]; exact e76
    · intro j a b c
      rw [stI1, if_neg c]
      show va_up σ0.1 75 (nI (460 * k + 1)) j = _
      rw [va_up_ne _ _ a]; exact ej j a b
    · show va_up σ0.2.1 227 (fb_put (σ0.2.1 227) (fun k' => σ0.2.1 240 (460 * k + k')) 0 1) 240 = _
      rw [va_up_ne _ _ (by decide)]; exact e240
    · intro r a b
      show va_up σ0.2.1 227 (fb_put (σ0.2.1 227) (fun k' => σ0.2.1 240 (460 * k + k')) 0 1) r = _
      rw [va_up_ne _ _ a]; exact er r a
    · intro r hr i
      have q := in_rows r hr
      show va_up σ0.2.1 227 (fb_put (σ0.2.1 227) (fun k' => σ0.2.1 240 (460 * k + k')) 0 1) r i = _
      rw [va_up_ne _ _ q.2.2.2.2, er r q.2.2.2.2, if_neg (by omega)]
    · exact e22
  obtain ⟨σ2, a2, b2, c2⟩ := Pb.step (r := 189) (L := 11) b1 (fun ρ τ σ => mN_189 ρ τ σ) (fun _ _ _ i v hi => y189_w hi) (by decide) hk rfl rfl (by decide)
  obtain ⟨σ3, a3, b3, c3⟩ := Pb.step (r := 190) (L := 48) b2 (fun ρ τ σ => mN_190 ρ τ σ) (fun _ _ _ i v hi => y190_w hi) (by decide) hk rfl rfl (by decide)
  obtain ⟨σ4, a4, b4, c4⟩ := Pb.step (r := 191) (L := 5) b3 (fun ρ τ σ => mN_191 ρ τ σ) (fun _ _ _ i v hi => y191_w hi) (by decide) hk rfl rfl (by decide)
  obtain ⟨σ5, a5, b5, c5⟩ := Pb.step (r := 192) (L := 5) b4 (fun ρ τ σ => mN_192 ρ τ σ) (fun _ _ _ i v hi => y192_w hi) (by decide) hk rfl rfl (by decide)
  obtain ⟨σ6, a6, b6, c6⟩ := Pb.step (r := 193) (L := 8) b5 (fun ρ τ σ => mN_193 ρ τ σ) (fun _ _ _ i v hi => y193_w hi) (by decide) hk rfl rfl (by decide)
  obtain ⟨σ7, a7, b7, c7⟩ := Pb.step (r := 194) (L := 8) b6 (fun ρ τ σ => mN_194 ρ τ σ) (fun _ _ _ i v hi => y194_w hi) (by decide) hk rfl rfl (by decide)
  obtain ⟨σ8, a8, b8, c8⟩ := Pb.step (r := 195) (L := 8) b7 (fun ρ τ σ => mN_195 ρ τ σ) (fun _ _ _ i v hi => y195_w hi) (by decide) hk rfl rfl (by decide)
  obtain ⟨σ9, a9, b9, c9⟩ := Pb.step (r := 196) (L := 8) b8 (fun ρ τ σ => mN_196 ρ τ σ) (fun _ _ _ i v hi => y196_w hi) (by decide) hk rfl rfl (by decide)
  obtain ⟨σ10, a10, b10, c10⟩ := Pb.step (r := 197) (L := 4) b9 (fun ρ τ σ => mN_197 ρ τ σ) (fun _ _ _ i v hi => y197_w hi) (by decide) hk rfl rfl (by decide)
  obtain ⟨σ11, a11, b11, c11⟩ := Pb.step (r := 198) (L := 8) b10 (fun ρ τ σ => mN_198 ρ τ σ) (fun _ _ _ i v hi => y198_w hi) (by decide) hk rfl rfl (by decide)
  obtain ⟨σ12, a12, b12, c12⟩ := Pb.step (r := 199) (L := 10) b11 (fun ρ τ σ => mN_199 ρ τ σ) (fun _ _ _ i v hi => y199_w hi) (by decide) hk rfl rfl (by decide)
  obtain ⟨σ13, a13, b13, c13⟩ := Pb.step (r := 200) (L := 10) b12 (fun ρ τ σ => mN_200 ρ τ σ) (fun _ _ _ i v hi => y200_w hi) (by decide) hk rfl rfl (by decide)
  obtain ⟨σ14, a14, b14, c14⟩ := Pb.step (r := 201) (L := 8) b13 (fun ρ τ σ => mN_201 ρ τ σ) (fun _ _ _ i v hi => y201_w hi) (by decide) hk rfl rfl (by decide)
  obtain ⟨σ15, a15, b15, c15⟩ := Pb.step (r := 202) (L := 8) b14 (fun ρ τ σ => mN_202 ρ τ σ) (fun _ _ _ i v hi => y202_w hi) (by decide) hk rfl rfl (by decide)
  obtain ⟨σ16, a16, b16, c16⟩ := Pb.step (r := 226) (L := 280) b15 (fun ρ τ σ => mN_226 ρ τ σ) (fun _ _ _ i v hi => y226_w hi) (by decide) hk rfl rfl (by decide)
  refine ⟨σ16, fun ρ τ => ?_, b16, ?_⟩
  · unfold f_X12_carriesAll
    rw [lit_460, pk_mul, mP_75, Option.bind_some, mP_76, z11, Option.bind_some, mR_54, Option.bind_some, mI_55, Option.bind_some, beg, Option.bind_some, mR_54, Option.bind_some, ob_mem, Option.bind_some, z1, Option.bind_some, mR_54, Option.bind_some, show aI (mem ρ τ (cBw σ0 227 (460 * k) 1)) 227 0 (0 : Int32) = some ((cBw σ0 227 (460 * k) 1).2.1 227 0) from y227_r (i := 0) (by decide), Option.bind_some, v0, mP_55, Option.bind_some, mR_1, Option.bind_some, ob_mem, Option.bind_some, a2, Option.bind_some, mR_2, Option.bind_some, ob_mem, Option.bind_some, a3, Option.bind_some, mR_3, Option.bind_some, ob_mem, Option.bind_some, a4, Option.bind_some, mR_4, Option.bind_some, ob_mem, Option.bind_some, a5, Option.bind_some, mR_5, Option.bind_some, ob_mem, Option.bind_some, a6, Option.bind_some, mR_6, Option.bind_some, ob_mem, Option.bind_some, a7, Option.bind_some, mR_7, Option.bind_some, ob_mem, Option.bind_some, a8, Option.bind_some, mR_8, Option.bind_some, ob_mem, Option.bind_some, a9, Option.bind_some, mR_9, Option.bind_some, ob_mem, Option.bind_some, a10, Option.bind_some, mR_10, Option.bind_some, ob_mem, Option.bind_some, a11, Option.bind_some, mR_11, Option.bind_some, ob_mem, Option.bind_some, a12, Option.bind_some, mR_12, Option.bind_some, ob_mem, Option.bind_some, a13, Option.bind_some, mR_13, Option.bind_some, ob_mem, Option.bind_some, a14, Option.bind_some, mR_14, Option.bind_some, ob_mem, Option.bind_some, a15, Option.bind_some, mR_53, Option.bind_some, ob_mem, Option.bind_some, a16, Option.bind_some]
  · rw [c16, c15, c14, c13, c12, c11, c10, c9, c8, c7, c6, c5, c4, c3, c2, stI1, if_pos rfl]
end IMG
