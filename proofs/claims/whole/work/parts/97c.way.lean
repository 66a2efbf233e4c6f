/-! Ways down: what one comes to, the better of two. -/
def wrS (D : Dt) (q : Nat) (f : Int32) : Nat → Int32
  | 0 => 0
  | k + 1 => if bt f k && !decide (D 194 k = nI q) then wrS D q f k + D 196 k else wrS D q f k
/-- the best so far: worth (-1: none), steps, sides -/
abbrev Bst : Type := Int32 × Nat × (Nat → Int32)
def btr (b : Bst) (w : Int32) (st : Nat) : Bool := decide (b.1 = -1) || decide (w < b.1) || (decide (w = b.1) && decide (st < b.2.1))
def tkW (b : Bst) (w : Int32) (st : Nat) (π : Nat → Int32) : Bst := if btr b w st then (w, st, π) else b
section WAY
variable {nr n sl a lw q : Nat} {U : Nat → va_E} {S : Nat → Nat × Nat × Nat} {T : Tc} {σ σ1 : Sg} {f : Int32}
theorem c_worthL (hF : CF nr n S T σ a lw q) (hf : T.1 174 8 = f) (K : Mm → Int32 → Option (Int32 × Mm)) : ∀ (k i m : Nat), i + k = dN (cur σ) 3 → k < m → f_X0_worthOfOthersBroken_L4 K m (cn n sl U S T σ1) 174 (wrS (cur σ) q f i) (nI i) = K (cn n sl U S T σ1) (wrS (cur σ) q f (dN (cur σ) 3)) := by
  have bT := hF.1.bT
  have hG := hF.2.2.1.la
  have hg := hG.gv
  have h1 := hF.2.2.2.2.2.1
  have h3 := hF.2.2.2.2.2.2.2.1
  intro k
  induction k with
  | zero =>
    intro i m e1 e2
    obtain ⟨m, rfl⟩ : ∃ k, m = k + 1 := ⟨m - 1, by omega⟩
    have ei : i = dN (cur σ) 3 := by omega
    rw [f_X0_worthOfOthersBroken_L4, x174_1, Option.bind_some, h1, g0_9 hg, Option.bind_some, hG.th, hF.1.sT, if_pos (nI_le (by omega) (by omega)), ei]
  | succ k ih =>
    intro i m e1 e2
    obtain ⟨m, rfl⟩ : ∃ k, m = k + 1 := ⟨m - 1, by omega⟩
    have i8 : i < 8 := by omega
    have z := ih (i + 1) m (by omega) (by omega)
    rw [wrS] at z
    rw [f_X0_worthOfOthersBroken_L4, x174_1, Option.bind_some, h1, g0_9 hg, Option.bind_some, hG.th, hF.1.sT, if_neg (nI_ge (by omega) (by omega)), x174_8, Option.bind_some, hf]
    cases hb : bt f i
    · rw [hb, Bool.false_and, if_neg (by decide)] at z
      rw [if_pos ((I_bit (by omega) f).2 hb), nm_q, oin1, nI_add]
      exact z
    · rw [if_neg (fun e => by have := (I_bit (by omega) f).1 e; rw [hb] at this; cases this), Option.bind_some, g0_11 hg, Option.bind_some, g6_r hg i8, Option.bind_some, x174_3, Option.bind_some, h3, hG.ow i (by omega)]
      by_cases ho : cur σ 194 i = nI q
      · rw [hb, decide_eq_true ho] at z
        rw [if_pos ho, nm_q, oin1, nI_add]
        exact z
      · rw [hb, decide_eq_false ho] at z
        rw [if_neg ho, Option.bind_some, g0_13 hg, Option.bind_some, g8_r hg i8, Option.bind_some, hG.wo i (by omega), nm_q, nm_q, oin1, nI_add]
        exact z
theorem c_worth (hF : CF nr n S T σ a lw q) (hf : T.1 174 8 = f) : f_X0_worthOfOthersBroken (cn n sl U S T σ1) 174 = some (wrS (cur σ) q f (dN (cur σ) 3), cn n sl U S T σ1) := by
  have bT := hF.1.bT
  have z := c_worthL (sl := sl) (U := U) (σ1 := σ1) hF hf (fun μ21 x22 => (some (x22, μ21))) (dN (cur σ) 3) 0 FU (by omega) (by unfold FU; omega)
  rw [show nI 0 = (0 : Int32) from rfl, show wrS (cur σ) q f 0 = 0 from rfl] at z
  unfold f_X0_worthOfOthersBroken
  rw [nm_q, nm_q, z]
theorem s_worthL (hD : DG nr (cur σ)) (he : Eqm σ σ1) (K : Mm → Int32 → Option (Int32 × Mm)) (ρ : Mm) (τ : Nat → va_E) : ∀ (k i m : Nat), i + k = dN (cur σ) 3 → k < m → f_X12_worthOf_L5 K m (mem ρ τ σ1) 188 f (nI q) (wrS (cur σ) q f i) (nI i) = K (mem ρ τ σ1) (wrS (cur σ) q f (dN (cur σ) 3)) := by
  have bT := hD.bT
  intro k
  induction k with
  | zero =>
    intro i m e1 e2
    obtain ⟨m, rfl⟩ : ∃ k, m = k + 1 := ⟨m - 1, by omega⟩
    have ei : i = dN (cur σ) 3 := by omega
    rw [f_X12_worthOf_L5, mR_1, Option.bind_some, sc_3, Option.bind_some, cs_3, he.cu, hD.sT, if_pos (nI_le (by omega) (by omega)), ei]
  | succ k ih =>
    intro i m e1 e2
    obtain ⟨m, rfl⟩ : ∃ k, m = k + 1 := ⟨m - 1, by omega⟩
    have i8 : i < 8 := by omega
    have z := ih (i + 1) m (by omega) (by omega)
    rw [wrS] at z
    have e4 : σ1.2.1 194 i = cur σ 194 i := by rw [he.2.2.2.2 194 (by unfold PerM; omega), cu_194 i8]
    have e6 : σ1.2.1 196 i = cur σ 196 i := by rw [he.2.2.2.2 196 (by unfold PerM; omega), cu_196 i8]
    rw [f_X12_worthOf_L5, mR_1, Option.bind_some, sc_3, Option.bind_some, cs_3, he.cu, hD.sT, if_neg (nI_ge (by omega) (by omega)), s_has _ _ (show i < 31 by omega), bd_some]
    cases hb : bt f i
    · rw [hb, Bool.false_and, if_neg (by decide)] at z
      rw [i0f, if_pos rfl, nm_q, nm_q, add0, oin1, nI_add]
      exact z
    · rw [i1t, if_neg (by decide), mR_6, Option.bind_some, y194_r i8, Option.bind_some, e4]
      by_cases ho : cur σ 194 i = nI q
      · rw [hb, decide_eq_true ho] at z
        rw [if_pos ho, nm_q, nm_q, add0, oin1, nI_add]
        exact z
      · rw [hb, decide_eq_false ho] at z
        rw [if_neg ho, mR_8, Option.bind_some, y196_r i8, Option.bind_some, e6, nm_q, nm_q, oin1, nI_add]
        exact z
theorem s_worth (hD : DG nr (cur σ)) (he : Eqm σ σ1) (ρ : Mm) (τ : Nat → va_E) : f_X12_worthOf (mem ρ τ σ1) 188 f (nI q) = some (wrS (cur σ) q f (dN (cur σ) 3), mem ρ τ σ1) := by
  have bT := hD.bT
  have z := s_worthL (f := f) (q := q) hD he (fun μ25 x26 => (some (x26, μ25))) ρ τ (dN (cur σ) 3) 0 FU (by omega) (by unfold FU; omega)
  rw [show nI 0 = (0 : Int32) from rfl, show wrS (cur σ) q f 0 = 0 from rfl] at z
  unfold f_X12_worthOf
  rw [nm_q, nm_q, z]
/-- the class holds the best -/
def CB (T : Tc) (b : Bst) : Prop := T.1 176 3 = b.1 ∧ T.1 176 4 = nI b.2.1 ∧ ∀ i, i < b.2.1 → T.2.1 178 i = b.2.2 i
theorem c_compare {b : Bst} {st : Nat} {π : Nat → Int32} (hF : CF nr n S T σ a lw q) (hf : T.1 174 8 = f) (hs : T.1 174 7 = nI st) (hst : st ≤ 9) (hb : CB T b) (hb9 : b.2.1 ≤ 9) (hπ : ∀ i, i < st → T.2.1 177 i = π i) : ∃ T', f_X10_compare (cn n sl U S T σ1) 176 = some (cn n sl U S T' σ1) ∧ CB T' (tkW b (wrS (cur σ) q f (dN (cur σ) 3)) st π) ∧ agr (fun r => r ≠ 176 ∧ r ≠ 178) T T' := by
  obtain ⟨b1, b2, b3⟩ := hb
  have c9 : ∀ {T : Tc}, cpI (cn n sl U S T σ1) 177 0 178 0 9 = some (cn n sl U S (tF T 178 (va_cpy (T.2.1 177) (T.2.1 178) 0 0 9)) σ1) := fun {T} => cnC (x := 0) (y := 0) (z := 9) (vd_f (by decide) (by decide)) rfl (vd_f (by decide) (by decide)) rfl (by decide) (by decide) (by decide) (by decide)
  have take : ∃ T', ((pV (cn n sl U S T σ1) 176 10 3 (.int (wrS (cur σ) q f (dN (cur σ) 3)))).bind fun μ7 => ((gR μ7 176 10 0).bind fun v8 => ((gI μ7 v8 0 7).bind fun v9 => ((pV μ7 176 10 4 (.int v9)).bind fun μ10 => ((gR μ10 176 10 1).bind fun v11 => ((gR μ10 176 10 2).bind fun v12 => ((cpI μ10 v11 (0 : Int32) v12 (0 : Int32) (9 : Int32)).bind fun μ13 => (some μ13)))))))) = some (cn n sl U S T' σ1) ∧ CB T' (wrS (cur σ) q f (dN (cur σ) 3), st, π) ∧ agr (fun r => r ≠ 176 ∧ r ≠ 178) T T' := by
    refine ⟨tF (tI (tI T 176 3 (wrS (cur σ) q f (dN (cur σ) 3))) 176 4 (nI st)) 178 (va_cpy (T.2.1 177) (T.2.1 178) 0 0 9), ?_, ⟨?_, ?_, ?_⟩, ?_⟩
    · rw [x176_3p, Option.bind_some, x176_0, Option.bind_some, x174_7, Option.bind_some, show (tI T 176 3 (wrS (cur σ) q f (dN (cur σ) 3))).1 174 7 = nI st by rw [tI1, if_neg (by omega)]; exact hs, x176_4p, Option.bind_some, x176_1, Option.bind_some, x176_2, Option.bind_some, c9, Option.bind_some]
      rfl
    · rw [tF1, tI1, if_neg (by omega), tI1, if_pos ⟨rfl, rfl⟩]
    · rw [tF1, tI1, if_pos ⟨rfl, rfl⟩]
    · intro i hi
      have hi : i < st := hi
      rw [tF2, if_pos rfl, pk_cpy_in (by omega) (by omega), show 0 + (i - 0) = i by omega]
      exact hπ i hi
    · exact ((agr_tI _ _ (fun h => h.1 rfl)).trans (agr_tI _ _ (fun h => h.1 rfl))).trans (agr_tF _ (fun h => h.2 rfl))
  have keep : CB T b := ⟨b1, b2, b3⟩
  unfold f_X10_compare
  rw [x176_0, Option.bind_some, x174_o, Option.bind_some, c_worth hF hf, bd_some, nm_q, x176_3, Option.bind_some, b1]
  unfold tkW btr
  by_cases h1 : b.1 = -1
  · rw [if_pos h1, decide_eq_true h1]
    exact take
  · rw [if_neg h1, decide_eq_false h1, Option.bind_some]
    by_cases h2 : wrS (cur σ) q f (dN (cur σ) 3) < b.1
    · rw [if_pos h2, decide_eq_true h2]
      exact take
    · rw [if_neg h2, decide_eq_false h2, Option.bind_some]
      by_cases h3 : wrS (cur σ) q f (dN (cur σ) 3) = b.1
      · rw [if_pos h3, decide_eq_true h3, x176_0, Option.bind_some, x174_7, Option.bind_some, x176_4, Option.bind_some, hs, b2]
        by_cases h4 : st < b.2.1
        · rw [if_neg (nI_ge h4 (by omega)), decide_eq_true h4]
          exact take
        · rw [if_pos (nI_le (by omega) (by omega)), decide_eq_false h4]
          exact ⟨T, rfl, keep, agr.refl _ _⟩
      · rw [if_neg h3, decide_eq_false h3]
        exact ⟨T, rfl, keep, agr.refl _ _⟩
end WAY
