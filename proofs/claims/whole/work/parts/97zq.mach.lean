/-! Rules: the reference's tests, with what is open. -/
def RO (σ0 σ : Sg) (O : List Nat) (d : Nat) : Prop := (∀ k, k ≠ 34 → k ≠ 36 → σ.1 k = σ0.1 k) ∧ (∀ q, q ≠ 222 → σ.2.1 q = σ0.2.1 q) ∧ σ.1 34 = nI d ∧ σ.1 36 = nI O.length ∧ ∀ i, i < O.length → σ.2.1 222 i = nI (O.getD i 0)
theorem getN_app {es : List Nat} {x : Nat} {i : Nat} (hi : i < es.length + 1) : (es ++ [x]).getD i 0 = if i = es.length then x else es.getD i 0 := by
  by_cases h : i = es.length
  · rw [if_pos h, h]
    simp
  · rw [if_neg h]
    simp only [List.getD_eq_getElem?_getD]
    rw [List.getElem?_append_left (by omega)]
theorem bs_A (σ : Sg) (r p c : Nat) (es : List (Nat × Nat)) (e i : Nat) (v : Int32) : stA (sX σ r p c es e) 222 i v = sX (stA σ 222 i v) r p c es e := by
  rw [sp_A]
  congr 1
  refine Prod.ext rfl (Prod.ext (funext fun q => funext fun j => ?_) rfl)
  rw [stA2, rcS2, rcS2, stA2]
  by_cases h : q = 222 ∧ j = i
  · rw [if_pos h, if_neg (fun x => by omega), if_pos h]
  · rw [if_neg h, if_neg h]
theorem bs_I (σ : Sg) (r p c : Nat) (es : List (Nat × Nat)) (e : Nat) {k : Nat} (v : Int32) (hk : k = 34 ∨ k = 36) : stI (sX σ r p c es e) k v = sX (stI σ k v) r p c es e := by
  rw [sp_I _ _ _ (by omega) (by omega)]
  congr 1
  refine Prod.ext (funext fun j => ?_) rfl
  rw [stI1, rcS1, rcS1, stI1]
  by_cases h : j = k
  · rw [if_pos h, if_neg (by omega), if_neg (by omega), if_pos h]
  · rw [if_neg h, if_neg h]
section MACH
variable {σ0 σ : Sg} {L r : Nat} {b : Nat → Nat} {O : List Nat} {d : Nat}
theorem RO.tx (h : RO σ0 σ O d) (hX : TXs σ0 L b) : TXs σ L b := ⟨hX.1, by rw [h.1 28 (by decide) (by decide)]; exact hX.2.1, fun i hi => by rw [h.2.1 215 (by decide)]; exact hX.2.2 i hi⟩
theorem RO.sk (h : RO σ0 σ O d) (hK : SK σ0 r) : SK σ r := ⟨hK.1, by rw [h.1 31 (by decide) (by decide)]; exact hK.2.1, by rw [h.1 37 (by decide) (by decide)]; exact hK.2.2⟩
theorem RO.push (h : RO σ0 σ O d) (k : Nat) : RO σ0 (stI (stA σ 222 O.length (nI k)) 36 (nI (O.length + 1))) (O ++ [k]) d := by
  obtain ⟨a1, a2, a3, a4, a5⟩ := h
  refine ⟨fun j h1 h2 => by rw [stI1, if_neg h2]; exact a1 j h1 h2, fun q hq => ?_, by rw [stI1, if_neg (by decide)]; exact a3, by rw [stI1, if_pos rfl, List.length_append]; rfl, fun i hi => ?_⟩
  · funext j
    show (stA σ 222 O.length (nI k)).2.1 q j = _
    rw [stA2, if_neg (fun x => hq x.1), a2 q hq]
  · rw [List.length_append] at hi
    have hi : i < O.length + 1 := hi
    show (stA σ 222 O.length (nI k)).2.1 222 i = _
    rw [stA2, getN_app hi]
    by_cases e : i = O.length
    · rw [if_pos ⟨rfl, e⟩, if_pos e]
    · rw [if_neg (fun x => e x.2), if_neg e]
      exact a5 i (by omega)
theorem RO.deep (h : RO σ0 σ O d) (d' : Nat) : RO σ0 (stI σ 34 (nI d')) O d' := by
  obtain ⟨a1, a2, a3, a4, a5⟩ := h
  exact ⟨fun j h1 h2 => by rw [stI1, if_neg h1]; exact a1 j h1 h2, a2, by rw [stI1, if_pos rfl], by rw [stI1, if_neg (by decide)]; exact a4, a5⟩
theorem RO.pop {k : Nat} (h : RO σ0 σ (O ++ [k]) d) : RO σ0 (stI σ 36 (nI O.length)) O d := by
  obtain ⟨a1, a2, a3, a4, a5⟩ := h
  refine ⟨fun j h1 h2 => by rw [stI1, if_neg h2]; exact a1 j h1 h2, a2, by rw [stI1, if_neg (by decide)]; exact a3, by rw [stI1, if_pos rfl], fun i hi => ?_⟩
  have := a5 i (by rw [List.length_append]; show i < O.length + 1; omega)
  rw [getN_app (by omega), if_neg (by omega)] at this
  exact this
theorem q_34 (p c : Nat) (es : List (Nat × Nat)) (e : Nat) (ρ : Mm) (τ : Nat → va_E) : gI (mem ρ τ (sX σ r p c es e)) 188 12 34 = some (σ.1 34) := by
  rw [mI_34, sp1, if_neg (by decide), if_neg (by decide), rcS1, if_neg (by decide), if_neg (by decide)]
theorem q_36 (p c : Nat) (es : List (Nat × Nat)) (e : Nat) (ρ : Mm) (τ : Nat → va_E) : gI (mem ρ τ (sX σ r p c es e)) 188 12 36 = some (σ.1 36) := by
  rw [mI_36, sp1, if_neg (by decide), if_neg (by decide), rcS1, if_neg (by decide), if_neg (by decide)]
theorem s_top {k : Nat} (h : RO σ0 σ (O ++ [k]) d) (hO : O.length < 400) (p c : Nat) (es : List (Nat × Nat)) (e : Nat) (ρ : Mm) (τ : Nat → va_E) : f_X12_top (mem ρ τ (sX σ r p c es e)) 188 = some (nI k, mem ρ τ (sX σ r p c es e)) := by
  have l : (O ++ [k]).length = O.length + 1 := by rw [List.length_append]; rfl
  have a4 := h.2.2.2.1
  have a5 := h.2.2.2.2 O.length (by omega)
  rw [getN_app (by omega), if_pos rfl] at a5
  rw [l] at a4
  unfold f_X12_top
  rw [q_36, Option.bind_some, a4, if_neg (show ¬ nI (O.length + 1) = 0 from fun x => by have := (nI_eq (b := 0) (by omega) (by decide)).1 x; omega), mR_45, Option.bind_some, Option.bind_some, lit_1, nI_sub (by omega), Nat.add_sub_cancel, y222_r (by omega), Option.bind_some]
  have : (sX σ r p c es e).2.1 222 O.length = σ.2.1 222 O.length := by
    show (rcS σ r c es).2.1 222 O.length = _
    rw [rcS2, if_neg (fun x => by omega)]
  rw [this, a5]
theorem s_top0 (h : RO σ0 σ [] d) (p c : Nat) (es : List (Nat × Nat)) (e : Nat) (ρ : Mm) (τ : Nat → va_E) : f_X12_top (mem ρ τ (sX σ r p c es e)) 188 = some (-1, mem ρ τ (sX σ r p c es e)) := by
  unfold f_X12_top
  rw [q_36, Option.bind_some, h.2.2.2.1, if_pos (show nI ([] : List Nat).length = 0 from rfl)]
theorem s_pushes (h : RO σ0 σ O d) (hO : O.length < 400) (k p c : Nat) (es : List (Nat × Nat)) (e : Nat) (ρ : Mm) (τ : Nat → va_E) (G : Mm → Option Mm) : ((gR (mem ρ τ (sX σ r p c es e)) 188 12 45).bind fun v37 =>
    ((gI (mem ρ τ (sX σ r p c es e)) 188 12 36).bind fun v38 =>
    ((sI (mem ρ τ (sX σ r p c es e)) v37 0 v38 (nI k)).bind fun μ39 =>
    ((gI μ39 188 12 36).bind fun v40 =>
    ((pV μ39 188 12 36 (.int (v40 + (1 : Int32)))).bind fun μ41 =>
    G μ41))))) = G (mem ρ τ (sX (stI (stA σ 222 O.length (nI k)) 36 (nI (O.length + 1))) r p c es e)) := by
  rw [mR_45, Option.bind_some, q_36, Option.bind_some, h.2.2.2.1, y222_w (by omega), Option.bind_some, bs_A, q_36, Option.bind_some, stA1, h.2.2.2.1, lit_1, nI_add, mP_36, bs_I _ _ _ _ _ _ _ (.inr rfl), Option.bind_some]
theorem s_opens1 (h : RO σ0 σ O d) (hO : O.length < 400) {k : Nat} (hk : k = 10 ∨ k = 11) (p c : Nat) (es : List (Nat × Nat)) (e : Nat) (ρ : Mm) (τ : Nat → va_E) : f_X12_opens (mem ρ τ (sX σ r p c es e)) 188 (nI k) = some (mem ρ τ (sX (stI (stA σ 222 O.length (nI k)) 36 (nI (O.length + 1))) r p c es e)) := by
  unfold f_X12_opens
  have k9 : ¬ nI k = 9 := by rcases hk with rfl | rfl <;> decide
  have k12 : ¬ nI k = 12 := by rcases hk with rfl | rfl <;> decide
  rw [if_neg k9, if_neg k12]
  exact s_pushes h hO k p c es e ρ τ _
theorem s_opens2 (h : RO σ0 σ O d) (hO : O.length < 400) (hd : d < 10) {k : Nat} (hk : k = 9 ∨ k = 12) (p c : Nat) (es : List (Nat × Nat)) (ρ : Mm) (τ : Nat → va_E) : f_X12_opens (mem ρ τ (sX σ r p c es 0)) 188 (nI k) = some (mem ρ τ (sX (stI (stA (stI σ 34 (nI (d + 1))) 222 O.length (nI k)) 36 (nI (O.length + 1))) r p c es 0)) := by
  have n10 : ¬ nI d = 10 := fun x => by have := (nI_eq (b := 10) (by omega) (by decide)).1 x; omega
  have hd' := h.deep (d + 1)
  unfold f_X12_opens
  rcases hk with rfl | rfl
  · rw [if_pos (show nI 9 = 9 from rfl), q_34, Option.bind_some, h.2.2.1, if_neg n10, Option.bind_some, show nI d + 1 = nI (d + 1) from by rw [lit_1, nI_add], mP_34, bs_I _ _ _ _ _ _ _ (.inl rfl), Option.bind_some]
    exact s_pushes hd' hO 9 p c es 0 ρ τ _
  · rw [if_neg (show ¬ nI 12 = 9 by decide), if_pos (show nI 12 = 12 from rfl), q_34, Option.bind_some, h.2.2.1, if_neg n10, Option.bind_some, show nI d + 1 = nI (d + 1) from by rw [lit_1, nI_add], mP_34, bs_I _ _ _ _ _ _ _ (.inl rfl), Option.bind_some]
    exact s_pushes hd' hO 12 p c es 0 ρ τ _
theorem s_opens3 (h : RO σ0 σ O d) (hO : O.length < 400) (hd : d = 10) {k : Nat} (hk : k = 9 ∨ k = 12) (p c : Nat) (es : List (Nat × Nat)) (ρ : Mm) (τ : Nat → va_E) : f_X12_opens (mem ρ τ (sX σ r p c es 0)) 188 (nI k) = some (mem ρ τ (sX (stI (stA (stI σ 34 (nI (d + 1))) 222 O.length (nI k)) 36 (nI (O.length + 1))) r p c es (1 + 8 * p + 2))) := by
  have e10 : nI d = 10 := by rw [hd]; rfl
  have hd' := h.deep (d + 1)
  unfold f_X12_opens
  rcases hk with rfl | rfl
  · rw [if_pos (show nI 9 = 9 from rfl), q_34, Option.bind_some, h.2.2.1, if_pos e10, z_pl, Option.bind_some, ob_mem, Option.bind_some, lit_2, z_fs0, Option.bind_some, q_34, Option.bind_some, h.2.2.1, show nI d + 1 = nI (d + 1) from by rw [lit_1, nI_add], mP_34, bs_I _ _ _ _ _ _ _ (.inl rfl), Option.bind_some]
    exact s_pushes hd' hO 9 p c es _ ρ τ _
  · rw [if_neg (show ¬ nI 12 = 9 by decide), if_pos (show nI 12 = 12 from rfl), q_34, Option.bind_some, h.2.2.1, if_pos e10, z_pl, Option.bind_some, ob_mem, Option.bind_some, lit_2, z_fs0, Option.bind_some, q_34, Option.bind_some, h.2.2.1, show nI d + 1 = nI (d + 1) from by rw [lit_1, nI_add], mP_34, bs_I _ _ _ _ _ _ _ (.inl rfl), Option.bind_some]
    exact s_pushes hd' hO 12 p c es _ ρ τ _
theorem an_step {k : Nat} (h : RO σ0 σ (O ++ [k]) d) (hK : SK σ0 r) (hO : O.length < 400) (hk : k = 9 ∨ k = 10 ∨ k = 11) (hd : k = 9 → 1 ≤ d) (hd2 : d < 2 ^ 31) {p c : Nat} {es : List (Nat × Nat)} (hl : es.length < 300) : ∃ σ', RO σ0 σ' O (if k = 9 then d - 1 else d) ∧ ∀ (K : Mm → Option Mm) (g : Nat) ρ τ, f_X12_answers_L0 K (g + 1) (mem ρ τ (sX σ r p c es 0)) 188 (nI k) = f_X12_answers_L0 K g (mem ρ τ (sX σ' r p c (es ++ [(k, 0)]) 0)) 188 (nI k) := by
  have l : (O ++ [k]).length = O.length + 1 := by rw [List.length_append]; rfl
  have a4 := h.2.2.2.1
  rw [l] at a4
  have hp := h.pop
  refine ⟨_, hp.deep (if k = 9 then d - 1 else d), fun K g ρ τ => ?_⟩
  have hK' := h.sk hK
  rw [f_X12_answers_L0, ob_mem, Option.bind_some, s_top h hO, bd_some, if_pos rfl, z_ft, Option.bind_some, if_pos (show nI 0 = 0 from rfl), ob_mem, Option.bind_some, show f_X12_entry (mem ρ τ (sX σ r p c es 0)) 188 (nI k) 0 = _ from s_entry hK' (k, 0) hl, Option.bind_some, q_36, Option.bind_some, a4, show nI (O.length + 1) - 1 = nI O.length from by rw [lit_1, nI_sub (by omega), Nat.add_sub_cancel], mP_36, bs_I _ _ _ _ _ _ _ (.inr rfl), Option.bind_some, q_34, Option.bind_some, hp.2.2.1]
  by_cases k9 : k = 9
  · rw [if_pos (show nI k = 9 by rw [k9]; rfl), if_pos k9, show nI d - 1 = nI (d - 1) from by rw [lit_1, nI_sub (hd k9)], mP_34, bs_I _ _ _ _ _ _ _ (.inl rfl), Option.bind_some]
  · rw [if_neg (show ¬ nI k = 9 from fun x => k9 ((nI_eq (b := 9) (by omega) (by decide)).1 x)), if_neg k9, show nI d - 0 = nI d from Int32.sub_zero _, mP_34, bs_I _ _ _ _ _ _ _ (.inl rfl), Option.bind_some]
theorem an_stop {k j : Nat} (h : RO σ0 σ (O ++ [j]) d) (hO : O.length < 400) (hk : k < 100) (hj : j < 100) (hne : j ≠ k) {p c : Nat} {es : List (Nat × Nat)} (K : Mm → Option Mm) {g : Nat} (hg : 0 < g) (ρ : Mm) (τ : Nat → va_E) : f_X12_answers_L0 K g (mem ρ τ (sX σ r p c es 0)) 188 (nI k) = K (mem ρ τ (sX σ r p c es 0)) := by
  obtain ⟨g, rfl⟩ : ∃ k, g = k + 1 := ⟨g - 1, by omega⟩
  rw [f_X12_answers_L0, ob_mem, Option.bind_some, s_top h hO, bd_some, if_neg (fun x => hne ((nI_eq (by omega) (by omega)).1 x))]
theorem an_stop0 {k : Nat} (h : RO σ0 σ [] d) (hk : k < 100) {p c : Nat} {es : List (Nat × Nat)} (K : Mm → Option Mm) {g : Nat} (hg : 0 < g) (ρ : Mm) (τ : Nat → va_E) : f_X12_answers_L0 K g (mem ρ τ (sX σ r p c es 0)) 188 (nI k) = K (mem ρ τ (sX σ r p c es 0)) := by
  obtain ⟨g, rfl⟩ : ∃ k, g = k + 1 := ⟨g - 1, by omega⟩
  rw [f_X12_answers_L0, ob_mem, Option.bind_some, s_top0 h, bd_some, if_neg (fun x => nI_nm1 (show k < 2 ^ 31 by omega) x.symm)]
end MACH
