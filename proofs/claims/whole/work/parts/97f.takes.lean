/-! Ways down by the reference: taking one. -/
def RB (σ1 : Sg) (b : Bst) : Prop := σ1.1 63 = b.1 ∧ (b.1 ≠ -1 → σ1.1 64 = nI b.2.1) ∧ ∀ i, i < b.2.1 → σ1.2.1 232 i = b.2.2 i
section TAKES
variable {nr q : Nat} {σ σ1 : Sg} {f : Int32}
theorem s_copyL (K : Mm → Option Mm) : ∀ (k i : Nat) (σ1 : Sg) (m : Nat), i + k = 11 → k < m → (∀ t, t < i → σ1.2.1 232 t = σ1.2.1 229 t) → ∃ σ', (∀ ρ τ, f_X12_copies_L2 K m (mem ρ τ σ1) 229 232 (nI i) = K (mem ρ τ σ')) ∧ σ'.1 = σ1.1 ∧ (∀ r, r ≠ 232 → σ'.2.1 r = σ1.2.1 r) ∧ σ'.2.2 = σ1.2.2 ∧ ∀ t, t < 11 → σ'.2.1 232 t = σ1.2.1 229 t := by
  intro k
  induction k with
  | zero =>
    intro i σ1 m h1 h2 h3
    obtain ⟨m, rfl⟩ : ∃ k, m = k + 1 := ⟨m - 1, by omega⟩
    obtain rfl : i = 11 := by omega
    refine ⟨σ1, fun ρ τ => ?_, rfl, fun _ _ => rfl, rfl, h3⟩
    rw [f_X12_copies_L2, mN_229, Option.bind_some, if_pos (by decide)]
  | succ k ih =>
    intro i σ1 m h1 h2 h3
    obtain ⟨m, rfl⟩ : ∃ k, m = k + 1 := ⟨m - 1, by omega⟩
    have i11 : i < 11 := by omega
    have e9 : ∀ t, (stA σ1 232 i (σ1.2.1 229 i)).2.1 229 t = σ1.2.1 229 t := fun t => by rw [stA2, if_neg (by omega)]
    obtain ⟨σ', z1, z2, z3, z4, z5⟩ := ih (i + 1) (stA σ1 232 i (σ1.2.1 229 i)) m (by omega) (by omega) (fun t ht => by
      rw [e9, stA2]
      by_cases e : t = i
      · rw [if_pos ⟨rfl, e⟩, e]
      · rw [if_neg (fun h => e h.2)]; exact h3 t (by omega))
    refine ⟨σ', fun ρ τ => ?_, z2, fun r hr => ?_, z4, fun t ht => ?_⟩
    · rw [f_X12_copies_L2, mN_229, Option.bind_some, if_neg (show ¬ (11 : Int32) ≤ nI i from nI_ge (b := 11) (by omega) (by decide)), y229_r i11, Option.bind_some, y232_w i11, Option.bind_some, nm_q, oin1, nI_add]
      exact z1 ρ τ
    · rw [z3 r hr]; funext j; rw [stA2, if_neg (fun h => hr h.1)]
    · rw [z5 t ht, e9]
theorem s_copies : ∃ σ', (∀ ρ τ, f_X12_copies (mem ρ τ σ1) 229 232 = some (mem ρ τ σ')) ∧ σ'.1 = σ1.1 ∧ (∀ r, r ≠ 232 → σ'.2.1 r = σ1.2.1 r) ∧ σ'.2.2 = σ1.2.2 ∧ ∀ t, t < 11 → σ'.2.1 232 t = σ1.2.1 229 t := by
  obtain ⟨σ', z1, z2⟩ := s_copyL (fun μ11 => (some μ11)) 11 0 σ1 FU rfl (by unfold FU; omega) (fun t ht => by omega)
  refine ⟨σ', fun ρ τ => ?_, z2⟩
  have z1 := z1 ρ τ
  rw [show nI 0 = (0 : Int32) from rfl] at z1
  unfold f_X12_copies
  rw [nm_q]
  exact z1
theorem s_takes {b : Bst} {st : Nat} {π : Nat → Int32} (hD : DG nr (cur σ)) (he : Eqm σ σ1) (hf : σ1.1 51 = f) (hst : st ≤ 10) (hb : RB σ1 b) (hb9 : b.2.1 ≤ 9) (hπ : ∀ i, i < st → σ1.2.1 229 i = π i) : ∃ σ', (∀ ρ τ, f_X12_takesWay (mem ρ τ σ1) 188 (nI q) (nI st) = some (mem ρ τ σ')) ∧ RB σ' (tkW b (wayW σ q f) st π) ∧ (∀ j, j ≠ 63 → j ≠ 64 → σ'.1 j = σ1.1 j) ∧ (∀ r, r ≠ 232 → σ'.2.1 r = σ1.2.1 r) := by
  obtain ⟨b1, b2, b3⟩ := hb
  obtain ⟨σ', c1, c2, c3, c4, c5⟩ := s_copies (σ1 := stI (stI σ1 63 (wayW σ q f)) 64 (nI st))
  have take : ∃ σ', (∀ ρ τ, ((pV (mem ρ τ σ1) 188 12 63 (.int (wayW σ q f))).bind fun μ9 => ((pV μ9 188 12 64 (.int (nI st))).bind fun μ10 => ((gR μ10 188 12 59).bind fun v11 => ((gR μ10 188 12 62).bind fun v12 => ((f_X12_copies μ10 v11 v12).bind fun μ13 => (some μ13)))))) = some (mem ρ τ σ')) ∧ RB σ' (wayW σ q f, st, π) ∧ (∀ j, j ≠ 63 → j ≠ 64 → σ'.1 j = σ1.1 j) ∧ (∀ r, r ≠ 232 → σ'.2.1 r = σ1.2.1 r) := by
    refine ⟨σ', fun ρ τ => ?_, ⟨?_, ?_, ?_⟩, fun j a b => ?_, fun r hr => ?_⟩
    · rw [mP_63, Option.bind_some, mP_64, Option.bind_some, mR_59, Option.bind_some, mR_62, Option.bind_some, c1, Option.bind_some]
    · rw [c2, stI1, if_neg (by decide), stI1, if_pos rfl]
    · intro _; rw [c2, stI1, if_pos rfl]
    · intro i hi
      have hi : i < st := hi
      rw [c5 i (by omega)]
      exact hπ i hi
    · rw [c2, stI1, if_neg b, stI1, if_neg a]
    · rw [c3 r hr]; rfl
  have keep : ∃ σ', (∀ ρ τ, some (mem ρ τ σ1) = some (mem ρ τ σ')) ∧ RB σ' b ∧ (∀ j, j ≠ 63 → j ≠ 64 → σ'.1 j = σ1.1 j) ∧ (∀ r, r ≠ 232 → σ'.2.1 r = σ1.2.1 r) := ⟨σ1, fun _ _ => rfl, ⟨b1, b2, b3⟩, fun _ _ _ => rfl, fun _ _ => rfl⟩
  have unf : ∀ ρ τ, f_X12_takesWay (mem ρ τ σ1) 188 (nI q) (nI st) = (if b.1 = (-1 : Int32) then
    ((pV (mem ρ τ σ1) 188 12 63 (.int (wayW σ q f))).bind fun μ9 => ((pV μ9 188 12 64 (.int (nI st))).bind fun μ10 => ((gR μ10 188 12 59).bind fun v11 => ((gR μ10 188 12 62).bind fun v12 => ((f_X12_copies μ10 v11 v12).bind fun μ13 => (some μ13)))))) else (if wayW σ q f < b.1 then
    ((pV (mem ρ τ σ1) 188 12 63 (.int (wayW σ q f))).bind fun μ9 => ((pV μ9 188 12 64 (.int (nI st))).bind fun μ10 => ((gR μ10 188 12 59).bind fun v11 => ((gR μ10 188 12 62).bind fun v12 => ((f_X12_copies μ10 v11 v12).bind fun μ13 => (some μ13)))))) else (if wayW σ q f = b.1 then (if σ1.1 64 ≤ nI st then some (mem ρ τ σ1) else
    ((pV (mem ρ τ σ1) 188 12 63 (.int (wayW σ q f))).bind fun μ9 => ((pV μ9 188 12 64 (.int (nI st))).bind fun μ10 => ((gR μ10 188 12 59).bind fun v11 => ((gR μ10 188 12 62).bind fun v12 => ((f_X12_copies μ10 v11 v12).bind fun μ13 => (some μ13))))))) else some (mem ρ τ σ1)))) := by
    intro ρ τ
    unfold f_X12_takesWay
    rw [mI_51, Option.bind_some, hf, ob_mem, Option.bind_some, s_worth hD he, bd_some, nm_q, mI_63, Option.bind_some, b1, Option.bind_some, Option.bind_some, mI_64, Option.bind_some]
    rfl
  unfold tkW btr
  by_cases h1 : b.1 = -1
  · rw [decide_eq_true h1]
    obtain ⟨σ2, t1, t2⟩ := take
    exact ⟨σ2, fun ρ τ => by rw [unf, if_pos h1]; exact t1 ρ τ, t2⟩
  · rw [decide_eq_false h1]
    by_cases h2 : wayW σ q f < b.1
    · rw [decide_eq_true h2]
      obtain ⟨σ2, t1, t2⟩ := take
      exact ⟨σ2, fun ρ τ => by rw [unf, if_neg h1, if_pos h2]; exact t1 ρ τ, t2⟩
    · rw [decide_eq_false h2]
      by_cases h3 : wayW σ q f = b.1
      · rw [decide_eq_true h3]
        by_cases h4 : st < b.2.1
        · rw [decide_eq_true h4]
          obtain ⟨σ2, t1, t2⟩ := take
          exact ⟨σ2, fun ρ τ => by rw [unf, if_neg h1, if_neg h2, if_pos h3, b2 h1, if_neg (nI_ge h4 (by omega))]; exact t1 ρ τ, t2⟩
        · rw [decide_eq_false h4]
          obtain ⟨σ2, t1, t2⟩ := keep
          exact ⟨σ2, fun ρ τ => by rw [unf, if_neg h1, if_neg h2, if_pos h3, b2 h1, if_pos (nI_le (by omega) (by omega))]; exact t1 ρ τ, t2⟩
      · rw [decide_eq_false h3]
        obtain ⟨σ2, t1, t2⟩ := keep
        exact ⟨σ2, fun ρ τ => by rw [unf, if_neg h1, if_neg h2, if_neg h3]; exact t1 ρ τ, t2⟩
end TAKES
