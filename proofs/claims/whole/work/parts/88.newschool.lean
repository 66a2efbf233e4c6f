/-! A new school. -/
theorem c_newSchool {n sl g : Nat} {U : Nat → va_E} {S : Nat → Nat × Nat × Nat} {T : Tc} {σ : Sg} : ∃ (U1 : Nat → va_E) (S1 : Nat → Nat × Nat × Nat), nO (cn n sl U S T σ) 7 13 [.null, .int 0, .int 0, .int 0, .null, .null, .int 0, .int 0, .int 0, .int 0, .null, .null, .null] = some (242 + n + 0, cn (n + 1) (sl + 13) U1 S1 T σ) ∧ ∃ (U' : Nat → va_E) (S' : Nat → Nat × Nat × Nat) (T' : Tc), f_X7_init (cn (n + 1) (sl + 13) U1 S1 T σ) (242 + n + 0) g = some (cn (n + 6) ((((((sl + 13) + 5) + 8) + 20) + 20) + 20) U' S' T' σ) ∧ SV (n + 6) S' (242 + n) ∧ (∀ r, r < 242 + n → S' r = S r) ∧ agr (fun r => r < 242 + n) T T' ∧ T'.2.2.2.1 (242 + n) 0 = g := by
  obtain ⟨U0, e0⟩ := raw_start (n := n) (sl := sl) (U := U) (S := S) (T := T) (σ := σ)
  have c0 : NC U0 n [] := fun i hi => absurd hi (Nat.not_lt_zero _)
  obtain ⟨U1, e1, c1⟩ := raw_nO (l := []) (sl := sl) (S := S) (T := T) (σ := σ) c0 7 13 [.null, .int 0, .int 0, .int 0, .null, .null, .int 0, .int 0, .int 0, .int 0, .null, .null, .null]
  have e1 : nO (cn (n + 0) sl U0 (Sr S n) T σ) 7 13 [.null, .int 0, .int 0, .int 0, .null, .null, .int 0, .int 0, .int 0, .int 0, .null, .null, .null] = some (242 + n + 0, cn (n + 1) (sl + 13) U1 (Sr S n) T σ) := e1
  have c1 : NC U1 n [(.inr (7, [.null, .int 0, .int 0, .int 0, .null, .null, .int 0, .int 0, .int 0, .int 0, .null, .null, .null]) : va_E)] := c1
  obtain ⟨U2, e2, c2⟩ := raw_pV (l := [(.inr (7, [.null, .int 0, .int 0, .int 0, .null, .null, .int 0, .int 0, .int 0, .int 0, .null, .null, .null]) : va_E)]) (sl := (sl + 13)) (S := S) (T := T) (σ := σ) c1 (i := 0) (ci := 7) (fs := [.null, .int 0, .int 0, .int 0, .null, .null, .int 0, .int 0, .int 0, .int 0, .null, .null, .null]) (by simp) rfl 1 (.int (-1)) (by simp)
  have e2 : pV (cn (n + 1) (sl + 13) U1 (Sr S n) T σ) (242 + n + 0) 7 1 (.int (-1)) = some (cn (n + 1) (sl + 13) U2 (Sr S n) T σ) := e2
  have c2 : NC U2 n [(.inr (7, [.null, .int (-1), .int 0, .int 0, .null, .null, .int 0, .int 0, .int 0, .int 0, .null, .null, .null]) : va_E)] := c2
  obtain ⟨U3, e3, c3⟩ := raw_pV (l := [(.inr (7, [.null, .int (-1), .int 0, .int 0, .null, .null, .int 0, .int 0, .int 0, .int 0, .null, .null, .null]) : va_E)]) (sl := (sl + 13)) (S := S) (T := T) (σ := σ) c2 (i := 0) (ci := 7) (fs := [.null, .int (-1), .int 0, .int 0, .null, .null, .int 0, .int 0, .int 0, .int 0, .null, .null, .null]) (by simp) rfl 2 (.int 0) (by simp)
  have e3 : pV (cn (n + 1) (sl + 13) U2 (Sr S n) T σ) (242 + n + 0) 7 2 (.int 0) = some (cn (n + 1) (sl + 13) U3 (Sr S n) T σ) := e3
  have c3 : NC U3 n [(.inr (7, [.null, .int (-1), .int 0, .int 0, .null, .null, .int 0, .int 0, .int 0, .int 0, .null, .null, .null]) : va_E)] := c3
  obtain ⟨U4, e4, c4⟩ := raw_pV (l := [(.inr (7, [.null, .int (-1), .int 0, .int 0, .null, .null, .int 0, .int 0, .int 0, .int 0, .null, .null, .null]) : va_E)]) (sl := (sl + 13)) (S := S) (T := T) (σ := σ) c3 (i := 0) (ci := 7) (fs := [.null, .int (-1), .int 0, .int 0, .null, .null, .int 0, .int 0, .int 0, .int 0, .null, .null, .null]) (by simp) rfl 3 (.int 0) (by simp)
  have e4 : pV (cn (n + 1) (sl + 13) U3 (Sr S n) T σ) (242 + n + 0) 7 3 (.int 0) = some (cn (n + 1) (sl + 13) U4 (Sr S n) T σ) := e4
  have c4 : NC U4 n [(.inr (7, [.null, .int (-1), .int 0, .int 0, .null, .null, .int 0, .int 0, .int 0, .int 0, .null, .null, .null]) : va_E)] := c4
  obtain ⟨U5, e5, c5⟩ := raw_nA (l := [(.inr (7, [.null, .int (-1), .int 0, .int 0, .null, .null, .int 0, .int 0, .int 0, .int 0, .null, .null, .null]) : va_E)]) (sl := (sl + 13)) (S := S) (T := T) (σ := σ) c4 0 (k := 5) (by decide)
  have e5 : nA (cn (n + 1) (sl + 13) U4 (Sr S n) T σ) 0 (5 : Int32) = some (242 + n + 1, cn (n + 2) ((sl + 13) + 5) U5 (Sr S n) T σ) := e5
  have c5 : NC U5 n [(.inr (7, [.null, .int (-1), .int 0, .int 0, .null, .null, .int 0, .int 0, .int 0, .int 0, .null, .null, .null]) : va_E), (.inl (0, 5, .inl (fun _ => 0)) : va_E)] := c5
  obtain ⟨U6, e6, c6⟩ := raw_pV (l := [(.inr (7, [.null, .int (-1), .int 0, .int 0, .null, .null, .int 0, .int 0, .int 0, .int 0, .null, .null, .null]) : va_E), (.inl (0, 5, .inl (fun _ => 0)) : va_E)]) (sl := ((sl + 13) + 5)) (S := S) (T := T) (σ := σ) c5 (i := 0) (ci := 7) (fs := [.null, .int (-1), .int 0, .int 0, .null, .null, .int 0, .int 0, .int 0, .int 0, .null, .null, .null]) (by simp) rfl 4 (.ref (242 + n + 1)) (by simp)
  have e6 : pV (cn (n + 2) ((sl + 13) + 5) U5 (Sr S n) T σ) (242 + n + 0) 7 4 (.ref (242 + n + 1)) = some (cn (n + 2) ((sl + 13) + 5) U6 (Sr S n) T σ) := e6
  have c6 : NC U6 n [(.inr (7, [.null, .int (-1), .int 0, .int 0, .ref (242 + n + 1), .null, .int 0, .int 0, .int 0, .int 0, .null, .null, .null]) : va_E), (.inl (0, 5, .inl (fun _ => 0)) : va_E)] := c6
  obtain ⟨U7, e7, c7⟩ := raw_nA (l := [(.inr (7, [.null, .int (-1), .int 0, .int 0, .ref (242 + n + 1), .null, .int 0, .int 0, .int 0, .int 0, .null, .null, .null]) : va_E), (.inl (0, 5, .inl (fun _ => 0)) : va_E)]) (sl := ((sl + 13) + 5)) (S := S) (T := T) (σ := σ) c6 0 (k := 8) (by decide)
  have e7 : nA (cn (n + 2) ((sl + 13) + 5) U6 (Sr S n) T σ) 0 (8 : Int32) = some (242 + n + 2, cn (n + 3) (((sl + 13) + 5) + 8) U7 (Sr S n) T σ) := e7
  have c7 : NC U7 n [(.inr (7, [.null, .int (-1), .int 0, .int 0, .ref (242 + n + 1), .null, .int 0, .int 0, .int 0, .int 0, .null, .null, .null]) : va_E), (.inl (0, 5, .inl (fun _ => 0)) : va_E), (.inl (0, 8, .inl (fun _ => 0)) : va_E)] := c7
  obtain ⟨U8, e8, c8⟩ := raw_pV (l := [(.inr (7, [.null, .int (-1), .int 0, .int 0, .ref (242 + n + 1), .null, .int 0, .int 0, .int 0, .int 0, .null, .null, .null]) : va_E), (.inl (0, 5, .inl (fun _ => 0)) : va_E), (.inl (0, 8, .inl (fun _ => 0)) : va_E)]) (sl := (((sl + 13) + 5) + 8)) (S := S) (T := T) (σ := σ) c7 (i := 0) (ci := 7) (fs := [.null, .int (-1), .int 0, .int 0, .ref (242 + n + 1), .null, .int 0, .int 0, .int 0, .int 0, .null, .null, .null]) (by simp) rfl 5 (.ref (242 + n + 2)) (by simp)
  have e8 : pV (cn (n + 3) (((sl + 13) + 5) + 8) U7 (Sr S n) T σ) (242 + n + 0) 7 5 (.ref (242 + n + 2)) = some (cn (n + 3) (((sl + 13) + 5) + 8) U8 (Sr S n) T σ) := e8
  have c8 : NC U8 n [(.inr (7, [.null, .int (-1), .int 0, .int 0, .ref (242 + n + 1), .ref (242 + n + 2), .int 0, .int 0, .int 0, .int 0, .null, .null, .null]) : va_E), (.inl (0, 5, .inl (fun _ => 0)) : va_E), (.inl (0, 8, .inl (fun _ => 0)) : va_E)] := c8
  obtain ⟨U9, e9, c9⟩ := raw_pV (l := [(.inr (7, [.null, .int (-1), .int 0, .int 0, .ref (242 + n + 1), .ref (242 + n + 2), .int 0, .int 0, .int 0, .int 0, .null, .null, .null]) : va_E), (.inl (0, 5, .inl (fun _ => 0)) : va_E), (.inl (0, 8, .inl (fun _ => 0)) : va_E)]) (sl := (((sl + 13) + 5) + 8)) (S := S) (T := T) (σ := σ) c8 (i := 0) (ci := 7) (fs := [.null, .int (-1), .int 0, .int 0, .ref (242 + n + 1), .ref (242 + n + 2), .int 0, .int 0, .int 0, .int 0, .null, .null, .null]) (by simp) rfl 6 (.int 0) (by simp)
  have e9 : pV (cn (n + 3) (((sl + 13) + 5) + 8) U8 (Sr S n) T σ) (242 + n + 0) 7 6 (.int 0) = some (cn (n + 3) (((sl + 13) + 5) + 8) U9 (Sr S n) T σ) := e9
  have c9 : NC U9 n [(.inr (7, [.null, .int (-1), .int 0, .int 0, .ref (242 + n + 1), .ref (242 + n + 2), .int 0, .int 0, .int 0, .int 0, .null, .null, .null]) : va_E), (.inl (0, 5, .inl (fun _ => 0)) : va_E), (.inl (0, 8, .inl (fun _ => 0)) : va_E)] := c9
  obtain ⟨U10, e10, c10⟩ := raw_pV (l := [(.inr (7, [.null, .int (-1), .int 0, .int 0, .ref (242 + n + 1), .ref (242 + n + 2), .int 0, .int 0, .int 0, .int 0, .null, .null, .null]) : va_E), (.inl (0, 5, .inl (fun _ => 0)) : va_E), (.inl (0, 8, .inl (fun _ => 0)) : va_E)]) (sl := (((sl + 13) + 5) + 8)) (S := S) (T := T) (σ := σ) c9 (i := 0) (ci := 7) (fs := [.null, .int (-1), .int 0, .int 0, .ref (242 + n + 1), .ref (242 + n + 2), .int 0, .int 0, .int 0, .int 0, .null, .null, .null]) (by simp) rfl 7 (.int 0) (by simp)
  have e10 : pV (cn (n + 3) (((sl + 13) + 5) + 8) U9 (Sr S n) T σ) (242 + n + 0) 7 7 (.int 0) = some (cn (n + 3) (((sl + 13) + 5) + 8) U10 (Sr S n) T σ) := e10
  have c10 : NC U10 n [(.inr (7, [.null, .int (-1), .int 0, .int 0, .ref (242 + n + 1), .ref (242 + n + 2), .int 0, .int 0, .int 0, .int 0, .null, .null, .null]) : va_E), (.inl (0, 5, .inl (fun _ => 0)) : va_E), (.inl (0, 8, .inl (fun _ => 0)) : va_E)] := c10
  obtain ⟨U11, e11, c11⟩ := raw_pV (l := [(.inr (7, [.null, .int (-1), .int 0, .int 0, .ref (242 + n + 1), .ref (242 + n + 2), .int 0, .int 0, .int 0, .int 0, .null, .null, .null]) : va_E), (.inl (0, 5, .inl (fun _ => 0)) : va_E), (.inl (0, 8, .inl (fun _ => 0)) : va_E)]) (sl := (((sl + 13) + 5) + 8)) (S := S) (T := T) (σ := σ) c10 (i := 0) (ci := 7) (fs := [.null, .int (-1), .int 0, .int 0, .ref (242 + n + 1), .ref (242 + n + 2), .int 0, .int 0, .int 0, .int 0, .null, .null, .null]) (by simp) rfl 8 (.int 0) (by simp)
  have e11 : pV (cn (n + 3) (((sl + 13) + 5) + 8) U10 (Sr S n) T σ) (242 + n + 0) 7 8 (.int 0) = some (cn (n + 3) (((sl + 13) + 5) + 8) U11 (Sr S n) T σ) := e11
  have c11 : NC U11 n [(.inr (7, [.null, .int (-1), .int 0, .int 0, .ref (242 + n + 1), .ref (242 + n + 2), .int 0, .int 0, .int 0, .int 0, .null, .null, .null]) : va_E), (.inl (0, 5, .inl (fun _ => 0)) : va_E), (.inl (0, 8, .inl (fun _ => 0)) : va_E)] := c11
  obtain ⟨U12, e12, c12⟩ := raw_pV (l := [(.inr (7, [.null, .int (-1), .int 0, .int 0, .ref (242 + n + 1), .ref (242 + n + 2), .int 0, .int 0, .int 0, .int 0, .null, .null, .null]) : va_E), (.inl (0, 5, .inl (fun _ => 0)) : va_E), (.inl (0, 8, .inl (fun _ => 0)) : va_E)]) (sl := (((sl + 13) + 5) + 8)) (S := S) (T := T) (σ := σ) c11 (i := 0) (ci := 7) (fs := [.null, .int (-1), .int 0, .int 0, .ref (242 + n + 1), .ref (242 + n + 2), .int 0, .int 0, .int 0, .int 0, .null, .null, .null]) (by simp) rfl 9 (.int 0) (by simp)
  have e12 : pV (cn (n + 3) (((sl + 13) + 5) + 8) U11 (Sr S n) T σ) (242 + n + 0) 7 9 (.int 0) = some (cn (n + 3) (((sl + 13) + 5) + 8) U12 (Sr S n) T σ) := e12
  have c12 : NC U12 n [(.inr (7, [.null, .int (-1), .int 0, .int 0, .ref (242 + n + 1), .ref (242 + n + 2), .int 0, .int 0, .int 0, .int 0, .null, .null, .null]) : va_E), (.inl (0, 5, .inl (fun _ => 0)) : va_E), (.inl (0, 8, .inl (fun _ => 0)) : va_E)] := c12
  obtain ⟨U13, e13, c13⟩ := raw_nA (l := [(.inr (7, [.null, .int (-1), .int 0, .int 0, .ref (242 + n + 1), .ref (242 + n + 2), .int 0, .int 0, .int 0, .int 0, .null, .null, .null]) : va_E), (.inl (0, 5, .inl (fun _ => 0)) : va_E), (.inl (0, 8, .inl (fun _ => 0)) : va_E)]) (sl := (((sl + 13) + 5) + 8)) (S := S) (T := T) (σ := σ) c12 0 (k := 20) (by decide)
  have e13 : nA (cn (n + 3) (((sl + 13) + 5) + 8) U12 (Sr S n) T σ) 0 (20 : Int32) = some (242 + n + 3, cn (n + 4) ((((sl + 13) + 5) + 8) + 20) U13 (Sr S n) T σ) := e13
  have c13 : NC U13 n [(.inr (7, [.null, .int (-1), .int 0, .int 0, .ref (242 + n + 1), .ref (242 + n + 2), .int 0, .int 0, .int 0, .int 0, .null, .null, .null]) : va_E), (.inl (0, 5, .inl (fun _ => 0)) : va_E), (.inl (0, 8, .inl (fun _ => 0)) : va_E), (.inl (0, 20, .inl (fun _ => 0)) : va_E)] := c13
  obtain ⟨U14, e14, c14⟩ := raw_pV (l := [(.inr (7, [.null, .int (-1), .int 0, .int 0, .ref (242 + n + 1), .ref (242 + n + 2), .int 0, .int 0, .int 0, .int 0, .null, .null, .null]) : va_E), (.inl (0, 5, .inl (fun _ => 0)) : va_E), (.inl (0, 8, .inl (fun _ => 0)) : va_E), (.inl (0, 20, .inl (fun _ => 0)) : va_E)]) (sl := ((((sl + 13) + 5) + 8) + 20)) (S := S) (T := T) (σ := σ) c13 (i := 0) (ci := 7) (fs := [.null, .int (-1), .int 0, .int 0, .ref (242 + n + 1), .ref (242 + n + 2), .int 0, .int 0, .int 0, .int 0, .null, .null, .null]) (by simp) rfl 10 (.ref (242 + n + 3)) (by simp)
  have e14 : pV (cn (n + 4) ((((sl + 13) + 5) + 8) + 20) U13 (Sr S n) T σ) (242 + n + 0) 7 10 (.ref (242 + n + 3)) = some (cn (n + 4) ((((sl + 13) + 5) + 8) + 20) U14 (Sr S n) T σ) := e14
  have c14 : NC U14 n [(.inr (7, [.null, .int (-1), .int 0, .int 0, .ref (242 + n + 1), .ref (242 + n + 2), .int 0, .int 0, .int 0, .int 0, .ref (242 + n + 3), .null, .null]) : va_E), (.inl (0, 5, .inl (fun _ => 0)) : va_E), (.inl (0, 8, .inl (fun _ => 0)) : va_E), (.inl (0, 20, .inl (fun _ => 0)) : va_E)] := c14
  obtain ⟨U15, e15, c15⟩ := raw_nA (l := [(.inr (7, [.null, .int (-1), .int 0, .int 0, .ref (242 + n + 1), .ref (242 + n + 2), .int 0, .int 0, .int 0, .int 0, .ref (242 + n + 3), .null, .null]) : va_E), (.inl (0, 5, .inl (fun _ => 0)) : va_E), (.inl (0, 8, .inl (fun _ => 0)) : va_E), (.inl (0, 20, .inl (fun _ => 0)) : va_E)]) (sl := ((((sl + 13) + 5) + 8) + 20)) (S := S) (T := T) (σ := σ) c14 0 (k := 20) (by decide)
  have e15 : nA (cn (n + 4) ((((sl + 13) + 5) + 8) + 20) U14 (Sr S n) T σ) 0 (20 : Int32) = some (242 + n + 4, cn (n + 5) (((((sl + 13) + 5) + 8) + 20) + 20) U15 (Sr S n) T σ) := e15
  have c15 : NC U15 n [(.inr (7, [.null, .int (-1), .int 0, .int 0, .ref (242 + n + 1), .ref (242 + n + 2), .int 0, .int 0, .int 0, .int 0, .ref (242 + n + 3), .null, .null]) : va_E), (.inl (0, 5, .inl (fun _ => 0)) : va_E), (.inl (0, 8, .inl (fun _ => 0)) : va_E), (.inl (0, 20, .inl (fun _ => 0)) : va_E), (.inl (0, 20, .inl (fun _ => 0)) : va_E)] := c15
  obtain ⟨U16, e16, c16⟩ := raw_pV (l := [(.inr (7, [.null, .int (-1), .int 0, .int 0, .ref (242 + n + 1), .ref (242 + n + 2), .int 0, .int 0, .int 0, .int 0, .ref (242 + n + 3), .null, .null]) : va_E), (.inl (0, 5, .inl (fun _ => 0)) : va_E), (.inl (0, 8, .inl (fun _ => 0)) : va_E), (.inl (0, 20, .inl (fun _ => 0)) : va_E), (.inl (0, 20, .inl (fun _ => 0)) : va_E)]) (sl := (((((sl + 13) + 5) + 8) + 20) + 20)) (S := S) (T := T) (σ := σ) c15 (i := 0) (ci := 7) (fs := [.null, .int (-1), .int 0, .int 0, .ref (242 + n + 1), .ref (242 + n + 2), .int 0, .int 0, .int 0, .int 0, .ref (242 + n + 3), .null, .null]) (by simp) rfl 11 (.ref (242 + n + 4)) (by simp)
  have e16 : pV (cn (n + 5) (((((sl + 13) + 5) + 8) + 20) + 20) U15 (Sr S n) T σ) (242 + n + 0) 7 11 (.ref (242 + n + 4)) = some (cn (n + 5) (((((sl + 13) + 5) + 8) + 20) + 20) U16 (Sr S n) T σ) := e16
  have c16 : NC U16 n [(.inr (7, [.null, .int (-1), .int 0, .int 0, .ref (242 + n + 1), .ref (242 + n + 2), .int 0, .int 0, .int 0, .int 0, .ref (242 + n + 3), .ref (242 + n + 4), .null]) : va_E), (.inl (0, 5, .inl (fun _ => 0)) : va_E), (.inl (0, 8, .inl (fun _ => 0)) : va_E), (.inl (0, 20, .inl (fun _ => 0)) : va_E), (.inl (0, 20, .inl (fun _ => 0)) : va_E)] := c16
  obtain ⟨U17, e17, c17⟩ := raw_nA (l := [(.inr (7, [.null, .int (-1), .int 0, .int 0, .ref (242 + n + 1), .ref (242 + n + 2), .int 0, .int 0, .int 0, .int 0, .ref (242 + n + 3), .ref (242 + n + 4), .null]) : va_E), (.inl (0, 5, .inl (fun _ => 0)) : va_E), (.inl (0, 8, .inl (fun _ => 0)) : va_E), (.inl (0, 20, .inl (fun _ => 0)) : va_E), (.inl (0, 20, .inl (fun _ => 0)) : va_E)]) (sl := (((((sl + 13) + 5) + 8) + 20) + 20)) (S := S) (T := T) (σ := σ) c16 0 (k := 20) (by decide)
  have e17 : nA (cn (n + 5) (((((sl + 13) + 5) + 8) + 20) + 20) U16 (Sr S n) T σ) 0 (20 : Int32) = some (242 + n + 5, cn (n + 6) ((((((sl + 13) + 5) + 8) + 20) + 20) + 20) U17 (Sr S n) T σ) := e17
  have c17 : NC U17 n [(.inr (7, [.null, .int (-1), .int 0, .int 0, .ref (242 + n + 1), .ref (242 + n + 2), .int 0, .int 0, .int 0, .int 0, .ref (242 + n + 3), .ref (242 + n + 4), .null]) : va_E), (.inl (0, 5, .inl (fun _ => 0)) : va_E), (.inl (0, 8, .inl (fun _ => 0)) : va_E), (.inl (0, 20, .inl (fun _ => 0)) : va_E), (.inl (0, 20, .inl (fun _ => 0)) : va_E), (.inl (0, 20, .inl (fun _ => 0)) : va_E)] := c17
  obtain ⟨U18, e18, c18⟩ := raw_pV (l := [(.inr (7, [.null, .int (-1), .int 0, .int 0, .ref (242 + n + 1), .ref (242 + n + 2), .int 0, .int 0, .int 0, .int 0, .ref (242 + n + 3), .ref (242 + n + 4), .null]) : va_E), (.inl (0, 5, .inl (fun _ => 0)) : va_E), (.inl (0, 8, .inl (fun _ => 0)) : va_E), (.inl (0, 20, .inl (fun _ => 0)) : va_E), (.inl (0, 20, .inl (fun _ => 0)) : va_E), (.inl (0, 20, .inl (fun _ => 0)) : va_E)]) (sl := ((((((sl + 13) + 5) + 8) + 20) + 20) + 20)) (S := S) (T := T) (σ := σ) c17 (i := 0) (ci := 7) (fs := [.null, .int (-1), .int 0, .int 0, .ref (242 + n + 1), .ref (242 + n + 2), .int 0, .int 0, .int 0, .int 0, .ref (242 + n + 3), .ref (242 + n + 4), .null]) (by simp) rfl 12 (.ref (242 + n + 5)) (by simp)
  have e18 : pV (cn (n + 6) ((((((sl + 13) + 5) + 8) + 20) + 20) + 20) U17 (Sr S n) T σ) (242 + n + 0) 7 12 (.ref (242 + n + 5)) = some (cn (n + 6) ((((((sl + 13) + 5) + 8) + 20) + 20) + 20) U18 (Sr S n) T σ) := e18
  have c18 : NC U18 n [(.inr (7, [.null, .int (-1), .int 0, .int 0, .ref (242 + n + 1), .ref (242 + n + 2), .int 0, .int 0, .int 0, .int 0, .ref (242 + n + 3), .ref (242 + n + 4), .ref (242 + n + 5)]) : va_E), (.inl (0, 5, .inl (fun _ => 0)) : va_E), (.inl (0, 8, .inl (fun _ => 0)) : va_E), (.inl (0, 20, .inl (fun _ => 0)) : va_E), (.inl (0, 20, .inl (fun _ => 0)) : va_E), (.inl (0, 20, .inl (fun _ => 0)) : va_E)] := c18
  obtain ⟨U19, e19, c19⟩ := raw_pV (l := [(.inr (7, [.null, .int (-1), .int 0, .int 0, .ref (242 + n + 1), .ref (242 + n + 2), .int 0, .int 0, .int 0, .int 0, .ref (242 + n + 3), .ref (242 + n + 4), .ref (242 + n + 5)]) : va_E), (.inl (0, 5, .inl (fun _ => 0)) : va_E), (.inl (0, 8, .inl (fun _ => 0)) : va_E), (.inl (0, 20, .inl (fun _ => 0)) : va_E), (.inl (0, 20, .inl (fun _ => 0)) : va_E), (.inl (0, 20, .inl (fun _ => 0)) : va_E)]) (sl := ((((((sl + 13) + 5) + 8) + 20) + 20) + 20)) (S := S) (T := T) (σ := σ) c18 (i := 0) (ci := 7) (fs := [.null, .int (-1), .int 0, .int 0, .ref (242 + n + 1), .ref (242 + n + 2), .int 0, .int 0, .int 0, .int 0, .ref (242 + n + 3), .ref (242 + n + 4), .ref (242 + n + 5)]) (by simp) rfl 0 (.ref g) (by simp)
  have e19 : pV (cn (n + 6) ((((((sl + 13) + 5) + 8) + 20) + 20) + 20) U18 (Sr S n) T σ) (242 + n + 0) 7 0 (.ref g) = some (cn (n + 6) ((((((sl + 13) + 5) + 8) + 20) + 20) + 20) U19 (Sr S n) T σ) := e19
  have c19 : NC U19 n [(.inr (7, [.ref g, .int (-1), .int 0, .int 0, .ref (242 + n + 1), .ref (242 + n + 2), .int 0, .int 0, .int 0, .int 0, .ref (242 + n + 3), .ref (242 + n + 4), .ref (242 + n + 5)]) : va_E), (.inl (0, 5, .inl (fun _ => 0)) : va_E), (.inl (0, 8, .inl (fun _ => 0)) : va_E), (.inl (0, 20, .inl (fun _ => 0)) : va_E), (.inl (0, 20, .inl (fun _ => 0)) : va_E), (.inl (0, 20, .inl (fun _ => 0)) : va_E)] := c19
  refine ⟨U1, Sr S n, by rw [e0]; exact e1, ?_⟩
  obtain ⟨T', wT⟩ : ∃ Y : Tc, Y = ((fun r => if r = 242 + n then (fun k => if k = 1 then -1 else 0) else T.1 r, fun r => if 242 + n < r ∧ r < 242 + n + 6 then (fun _ => 0) else T.2.1 r, T.2.2.1, up2 T.2.2.2.1 (242 + n) 0 g, T.2.2.2.2) : Tc) := ⟨_, rfl⟩
  have t1 : T'.1 (242 + n) = fun k => if k = 1 then -1 else 0 := by rw [wT]; exact if_pos rfl
  have t2 : ∀ j, 0 < j → j < 6 → T'.2.1 (242 + n + j) = fun _ => 0 := fun j h1 h2 => by rw [wT]; exact if_pos (by omega)
  have t4 : T'.2.2.2.1 (242 + n) 0 = g := by rw [wT]; exact up2_self _ _ _ _
  have ag : agr (fun r => r < 242 + n ∨ 242 + n + 6 ≤ r) T T' := by
    intro r hr
    rw [wT]
    exact ⟨if_neg (by omega), if_neg (by omega), rfl, up2_r _ _ (by omega), rfl⟩
  have hS : ∀ j, j < 6 → ovS (fun r => if r < 242 + n then S r else [(0, 7, 0), (1, 0, 5), (1, 0, 8), (1, 0, 20), (1, 0, 20), (1, 0, 20)].getD (r - (242 + n)) (2, 0, 0)) (242 + n + j) = [(0, 7, 0), (1, 0, 5), (1, 0, 8), (1, 0, 20), (1, 0, 20), (1, 0, 20)].getD j (2, 0, 0) := by
    intro j hj
    rw [ovS_hi (by omega), if_neg (by omega), show 242 + n + j - (242 + n) = j by omega]
  have re := raw_end (sl := ((((((sl + 13) + 5) + 8) + 20) + 20) + 20)) (σ := σ) (S := S) (T := T) (T' := T') (sh := [(0, 7, 0), (1, 0, 5), (1, 0, 8), (1, 0, 20), (1, 0, 20), (1, 0, 20)]) c19 rfl ag (by
    intro i hi
    have hi : i < 6 := hi
    have hSi := hS i hi
    unfold cellT
    rw [hSi]
    rcases (show i = 0 ∨ i = 1 ∨ i = 2 ∨ i = 3 ∨ i = 4 ∨ i = 5 by omega) with rfl | rfl | rfl | rfl | rfl | rfl
    · have h0 := hS 0 (by decide)
      show (Sum.inr (7, fsT (ovT _ T') 7 (242 + n + 0)) : va_E) = _
      have o : ∀ k, (ovT (fun r => if r < 242 + n then S r else [(0, 7, 0), (1, 0, 5), (1, 0, 8), (1, 0, 20), (1, 0, 20), (1, 0, 20)].getD (r - (242 + n)) (2, 0, 0)) T').2.2.2.1 (242 + n + 0) k = (ovF 7 (242 + n + 0) k).getD (T'.2.2.2.1 (242 + n + 0) k) := by
        intro k
        show ovG _ T'.2.2.2.1 (242 + n + 0) k = _
        unfold ovG
        rw [h0]; rfl
      have t1' : (ovT (fun r => if r < 242 + n then S r else [(0, 7, 0), (1, 0, 5), (1, 0, 8), (1, 0, 20), (1, 0, 20), (1, 0, 20)].getD (r - (242 + n)) (2, 0, 0)) T').1 (242 + n + 0) = fun k => if k = 1 then -1 else 0 := t1
      unfold fsT
      simp only [o, t1']
      show (Sum.inr (7, [Value.ref (T'.2.2.2.1 (242 + n) 0), .int (-1), .int 0, .int 0, .ref (242 + n + 1), .ref (242 + n + 2), .int 0, .int 0, .int 0, .int 0, .ref (242 + n + 3), .ref (242 + n + 4), .ref (242 + n + 5)]) : va_E) = _
      rw [t4]
      rfl
    · show (Sum.inl (0, 5, Sum.inl (T'.2.1 (242 + n + 1))) : va_E) = _
      rw [t2 1 (by decide) (by decide)]; rfl
    · show (Sum.inl (0, 8, Sum.inl (T'.2.1 (242 + n + 2))) : va_E) = _
      rw [t2 2 (by decide) (by decide)]; rfl
    · show (Sum.inl (0, 20, Sum.inl (T'.2.1 (242 + n + 3))) : va_E) = _
      rw [t2 3 (by decide) (by decide)]; rfl
    · show (Sum.inl (0, 20, Sum.inl (T'.2.1 (242 + n + 4))) : va_E) = _
      rw [t2 4 (by decide) (by decide)]; rfl
    · show (Sum.inl (0, 20, Sum.inl (T'.2.1 (242 + n + 5))) : va_E) = _
      rw [t2 5 (by decide) (by decide)]; rfl)
  refine ⟨U19, fun r => if r < 242 + n then S r else [(0, 7, 0), (1, 0, 5), (1, 0, 8), (1, 0, 20), (1, 0, 20), (1, 0, 20)].getD (r - (242 + n)) (2, 0, 0), T', ?_, ?_, ?_, ag.mono (fun r hr => .inl hr), t4⟩
  · refine Eq.trans ?_ (congrArg some re)
    unfold f_X7_init
    rw [e2, Option.bind_some, e3, Option.bind_some, e4, Option.bind_some, e5, bd_some, e6, Option.bind_some, e7, bd_some, e8, Option.bind_some, e9, Option.bind_some, e10, Option.bind_some, e11, Option.bind_some, e12, Option.bind_some, e13, bd_some, e14, Option.bind_some, e15, bd_some, e16, Option.bind_some, e17, bd_some, e18, Option.bind_some, e19, Option.bind_some]
    rfl
  · intro j hj
    have hj : j < 6 := hj
    exact ⟨⟨by omega, .inr ⟨by omega, by omega⟩⟩, hS j hj⟩
  · intro r hr
    exact if_pos hr
