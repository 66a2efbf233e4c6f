/-! A new rule. -/
section RAWC
variable {n sl : Nat} {U : Nat → va_E} {S : Nat → Nat × Nat × Nat} {T : Tc} {σ : Sg}
theorem raw_pu {l : List va_E} (h : NC U n l) (N : Nat) (e : va_E) : ∃ U', pu (cn (n + l.length) sl U (Sr S n) T σ) N e = cn (n + (l ++ [e]).length) (sl + N) U' (Sr S n) T σ ∧ NC U' n (l ++ [e]) := by
  refine ⟨va_up U (242 + (n + l.length)) e, ?_, fun i hi => ?_⟩
  · rw [raw_push (by omega), List.length_append]
    rfl
  · rw [List.length_append] at hi
    have hi : i < l.length + 1 := hi
    by_cases e : i = l.length
    · subst e
      rw [show 242 + n + l.length = 242 + (n + l.length) by omega, va_up_self]
      simp
    · rw [va_up_ne _ _ (by omega), h i (by omega)]
      simp [List.getElem?_append_left (show i < l.length by omega)]
theorem raw_arr {l : List va_E} (h : NC U n l) {i : Nat} (hi : i < l.length) {t : Nat} {x : vp_A} (he : l.getD i (.inr (0, [])) = .inl (t, x)) : arr (cn (n + l.length) sl U (Sr S n) T σ) (242 + n + i) t = some x := by
  obtain ⟨a1, a2, a3⟩ := raw_at (sl := sl) (S := S) (T := T) (σ := σ) h hi
  unfold arr
  rw [if_pos ⟨a2, a3⟩, a1, he]
  exact if_pos rfl
theorem raw_cp {l : List va_E} (h : NC U n l) {q N k : Nat} (h1 : 128 ≤ q) (h2 : q < 188) (hs : ovS (Sr S n) q = (1, 0, N)) (hk : k ≤ N) (hN : N ≤ 400) : ∃ U' g, f_J7_copyOf_59c91 (cn (n + l.length) sl U (Sr S n) T σ) q (nI k) = some (242 + n + l.length, cn (n + (l ++ [(.inl (0, k, .inl g) : va_E)]).length) (sl + k) U' (Sr S n) T σ) ∧ NC U' n (l ++ [(.inl (0, k, .inl g) : va_E)]) ∧ ∀ i, i < k → g i = T.2.1 q i := by
  have hv : ∀ m, Vd m q := fun m => vd_f h1 h2
  have ln : ∀ m sl U, aN (cn m sl U (Sr S n) T σ) q 0 = some (nI N) := fun m sl U => cnN (hv m) hs (by decide)
  have ar : ∀ m sl U, arr (cn m sl U (Sr S n) T σ) q 0 = some (N, .inl (T.2.1 q)) := fun m sl U => arr_cm (hv m) hs (by decide)
  by_cases e : k = N
  · obtain ⟨U', e1, c1⟩ := raw_pu (sl := sl) (S := S) (T := T) (σ := σ) h N (.inl (0, N, .inl (T.2.1 q)))
    refine ⟨U', T.2.1 q, ?_, by rw [e]; exact c1, fun i _ => rfl⟩
    unfold f_J7_copyOf_59c91
    rw [ln, Option.bind_some, if_pos (by rw [e])]
    have cl : clI (cn (n + l.length) sl U (Sr S n) T σ) q = some (242 + n + l.length, cn (n + (l ++ [(.inl (0, N, .inl (T.2.1 q)) : va_E)]).length) (sl + N) U' (Sr S n) T σ) := by
      unfold clI
      rw [ar, Option.bind_some]
      show some (242 + (n + l.length), pu (cn (n + l.length) sl U (Sr S n) T σ) N (.inl (0, N, .inl (T.2.1 q)))) = _
      rw [e1, show 242 + (n + l.length) = 242 + n + l.length by omega]
    rw [cl, bd_some, raw_arr c1 (i := l.length) (x := (N, .inl (T.2.1 q))) (by simp) (by simp), Option.bind_some, e]
  · obtain ⟨U1, e1, c1⟩ := raw_nA (sl := sl) (S := S) (T := T) (σ := σ) h 0 (k := k) (by omega)
    rw [if_neg (show ¬ 0 = 3 by decide), if_pos (show 0 < 3 by decide)] at e1 c1
    refine ⟨va_up U1 (242 + n + l.length) (.inl (0, k, .inl (va_cpy (T.2.1 q) (fun _ => 0) 0 0 k))), va_cpy (T.2.1 q) (fun _ => 0) 0 0 k, ?_, fun j hj => ?_, fun i hi => ?_⟩
    · have cp : cpI (cn (n + (l ++ [(.inl (0, k, .inl (fun _ => 0)) : va_E)]).length) (sl + k) U1 (Sr S n) T σ) q 0 (242 + n + l.length) 0 (nI k) = some (cn (n + (l ++ [(.inl (0, k, .inl (fun _ => 0)) : va_E)]).length) (sl + k) (va_up U1 (242 + n + l.length) (.inl (0, k, .inl (va_cpy (T.2.1 q) (fun _ => 0) 0 0 k)))) (Sr S n) T σ) := by
        unfold cpI
        rw [ar, Option.bind_some, raw_arr c1 (i := l.length) (x := (k, .inl (fun _ => 0))) (by simp) (by simp), Option.bind_some]
        show (if (0 : Int32) < 0 ∨ (0 : Int32) < 0 ∨ nI k < 0 ∨ N < (0 : Int32).toNatClampNeg + (nI k).toNatClampNeg ∨ k < (0 : Int32).toNatClampNeg + (nI k).toNatClampNeg then none else some (up _ (242 + n + l.length) (.inl (0, k, .inl (va_cpy (T.2.1 q) (fun _ => 0) (0 : Int32).toNatClampNeg (0 : Int32).toNatClampNeg (nI k).toNatClampNeg))))) = _
        rw [nI_clamp (by omega), show (0 : Int32).toNatClampNeg = 0 from rfl, if_neg, raw_up (by omega) (by omega)]
        rintro (x | x | x | x | x)
        · exact absurd x (by decide)
        · exact absurd x (by decide)
        · exact nI_pos (by omega) x
        · omega
        · omega
      unfold f_J7_copyOf_59c91
      rw [ln, Option.bind_some, if_neg (fun x => e ((nI_eq (by omega) (by omega)).1 x)), e1, bd_some, nm_q, ln, Option.bind_some, if_pos (nI_lt (by omega) (by omega)), cp, Option.bind_some, List.length_append, List.length_append]
      rfl
    · rw [List.length_append] at hj
      have hj : j < l.length + 1 := hj
      by_cases e : j = l.length
      · subst e
        rw [va_up_self]
        simp
      · rw [va_up_ne _ _ (by omega), c1 j (by rw [List.length_append]; show j < l.length + 1; omega)]
        simp [List.getElem?_append_left (show j < l.length by omega)]
    · show (if 0 ≤ i ∧ i < 0 + k then T.2.1 q (0 + (i - 0)) else _) = _
      rw [if_pos (by omega), show 0 + (i - 0) = i by omega]
end RAWC
def f_ini (μ0 : Mm) (a1 : Nat) (a2 : Nat) (F : Mm → Option Mm) : Option Mm :=
 (bd (nA μ0 3 (32 : Int32)) fun a3 μ4 =>
    ((pV μ4 a1 5 8 (.ref a3)).bind fun μ5 =>
    ((gR μ5 a2 6 1).bind fun v6 =>
    ((gI μ5 a2 6 2).bind fun v7 =>
    (bd (f_J7_copyOf_59c91 μ5 v6 v7) fun v9 μ8 =>
    ((pV μ8 a1 5 0 (.ref v9)).bind fun μ10 =>
    ((gI μ10 a2 6 4).bind fun v11 =>
    ((pV μ10 a1 5 1 (.int v11)).bind fun μ12 =>
    ((gR μ12 a2 6 5).bind fun v13 =>
    ((gI μ12 a1 5 1).bind fun v14 =>
    (bd (f_J7_copyOf_59c91 μ12 v13 v14) fun v16 μ15 =>
    ((pV μ15 a1 5 2 (.ref v16)).bind fun μ17 =>
    ((gR μ17 a2 6 6).bind fun v18 =>
    ((gI μ17 a1 5 1).bind fun v19 =>
    (bd (f_J7_copyOf_59c91 μ17 v18 v19) fun v21 μ20 =>
    ((pV μ20 a1 5 3 (.ref v21)).bind fun μ22 =>
    ((gR μ22 a2 6 7).bind fun v23 =>
    ((gI μ22 a1 5 1).bind fun v24 =>
    (bd (f_J7_copyOf_59c91 μ22 v23 v24) fun v26 μ25 =>
    ((pV μ25 a1 5 4 (.ref v26)).bind fun μ27 =>
    ((gR μ27 a2 6 8).bind fun v28 =>
    ((gI μ27 a1 5 1).bind fun v29 =>
    (bd (f_J7_copyOf_59c91 μ27 v28 v29) fun v31 μ30 =>
    ((pV μ30 a1 5 5 (.ref v31)).bind fun μ32 => F μ32))))))))))))))))))))))))
theorem c_newRule {n sl l m : Nat} {U : Nat → va_E} {S : Nat → Nat × Nat × Nat} {T : Tc} {σ : Sg} (hl : l ≤ 300) (hm : m ≤ 12) (h2 : T.1 147 2 = nI l) (h4 : T.1 147 4 = nI m) : ∃ (U1 : Nat → va_E) (S1 : Nat → Nat × Nat × Nat), nO (cn n sl U S T σ) 5 9 [.null, .int 0, .null, .null, .null, .null, .int 0, .int 0, .null] = some (242 + n + 0, cn (n + 1) (sl + 9) U1 S1 T σ) ∧ ∃ (U' : Nat → va_E) (S' : Nat → Nat × Nat × Nat) (T' : Tc), (∀ F, f_ini (cn (n + 1) (sl + 9) U1 S1 T σ) (242 + n + 0) 147 F = F (cn (n + 7) (((((((sl + 9) + 32) + l) + m) + m) + m) + m) U' S' T' σ)) ∧ RV (n + 7) S' (242 + n) l m ∧ (∀ r, r < 242 + n → S' r = S r) ∧ agr (fun r => r < 242 + n) T T' ∧ T'.1 (242 + n) 1 = nI m ∧ T'.1 (242 + n) 6 = 0 ∧ T'.1 (242 + n) 7 = 0 ∧ (∀ i, i < l → T'.2.1 (242 + n + 2) i = T.2.1 148 i) ∧ (∀ i, i < m → T'.2.1 (242 + n + 3) i = T.2.1 149 i) ∧ (∀ i, i < m → T'.2.1 (242 + n + 4) i = T.2.1 150 i) ∧ (∀ i, i < m → T'.2.1 (242 + n + 5) i = T.2.1 151 i) ∧ (∀ i, i < m → T'.2.1 (242 + n + 6) i = T.2.1 152 i) := by
  obtain ⟨U0, e0⟩ := raw_start (n := n) (sl := sl) (U := U) (S := S) (T := T) (σ := σ)
  have c0 : NC U0 n [] := fun i hi => absurd hi (Nat.not_lt_zero _)
  obtain ⟨U1, e1, c1⟩ := raw_nO (l := []) (sl := sl) (S := S) (T := T) (σ := σ) c0 5 9 [.null, .int 0, .null, .null, .null, .null, .int 0, .int 0, .null]
  have e1 : nO (cn (n + 0) sl U0 (Sr S n) T σ) 5 9 [.null, .int 0, .null, .null, .null, .null, .int 0, .int 0, .null] = some (242 + n + 0, cn (n + 1) (sl + 9) U1 (Sr S n) T σ) := e1
  have c1 : NC U1 n [(.inr (5, [.null, .int 0, .null, .null, .null, .null, .int 0, .int 0, .null]) : va_E)] := c1
  obtain ⟨U2, e2, c2⟩ := raw_nA (l := [(.inr (5, [.null, .int 0, .null, .null, .null, .null, .int 0, .int 0, .null]) : va_E)]) (sl := (sl + 9)) (S := S) (T := T) (σ := σ) c1 3 (k := 32) (by decide)
  have e2 : nA (cn (n + 1) (sl + 9) U1 (Sr S n) T σ) 3 (32 : Int32) = some (242 + n + 1, cn (n + 2) ((sl + 9) + 32) U2 (Sr S n) T σ) := e2
  have c2 : NC U2 n [(.inr (5, [.null, .int 0, .null, .null, .null, .null, .int 0, .int 0, .null]) : va_E), (.inl (3, 32, .inr (.inl (fun _ => 0))) : va_E)] := c2
  obtain ⟨U3, e3, c3⟩ := raw_pV (l := [(.inr (5, [.null, .int 0, .null, .null, .null, .null, .int 0, .int 0, .null]) : va_E), (.inl (3, 32, .inr (.inl (fun _ => 0))) : va_E)]) (sl := ((sl + 9) + 32)) (S := S) (T := T) (σ := σ) c2 (i := 0) (ci := 5) (fs := [.null, .int 0, .null, .null, .null, .null, .int 0, .int 0, .null]) (by simp) rfl 8 (.ref (242 + n + 1)) (by simp)
  have e3 : pV (cn (n + 2) ((sl + 9) + 32) U2 (Sr S n) T σ) (242 + n + 0) 5 8 (.ref (242 + n + 1)) = some (cn (n + 2) ((sl + 9) + 32) U3 (Sr S n) T σ) := e3
  have c3 : NC U3 n [(.inr (5, [.null, .int 0, .null, .null, .null, .null, .int 0, .int 0, .ref (242 + n + 1)]) : va_E), (.inl (3, 32, .inr (.inl (fun _ => 0))) : va_E)] := c3
  obtain ⟨U4, g2, e4, c4, p2⟩ := raw_cp (l := [(.inr (5, [.null, .int 0, .null, .null, .null, .null, .int 0, .int 0, .ref (242 + n + 1)]) : va_E), (.inl (3, 32, .inr (.inl (fun _ => 0))) : va_E)]) (sl := ((sl + 9) + 32)) (S := S) (T := T) (σ := σ) c3 (q := 148) (N := 400) (k := l) (by decide) (by decide) rfl (by omega) (by decide)
  have e4 : f_J7_copyOf_59c91 (cn (n + 2) ((sl + 9) + 32) U3 (Sr S n) T σ) 148 (nI l) = some (242 + n + 2, cn (n + 3) (((sl + 9) + 32) + l) U4 (Sr S n) T σ) := e4
  have c4 : NC U4 n [(.inr (5, [.null, .int 0, .null, .null, .null, .null, .int 0, .int 0, .ref (242 + n + 1)]) : va_E), (.inl (3, 32, .inr (.inl (fun _ => 0))) : va_E), (.inl (0, l, .inl g2) : va_E)] := c4
  obtain ⟨U5, e5, c5⟩ := raw_pV (l := [(.inr (5, [.null, .int 0, .null, .null, .null, .null, .int 0, .int 0, .ref (242 + n + 1)]) : va_E), (.inl (3, 32, .inr (.inl (fun _ => 0))) : va_E), (.inl (0, l, .inl g2) : va_E)]) (sl := (((sl + 9) + 32) + l)) (S := S) (T := T) (σ := σ) c4 (i := 0) (ci := 5) (fs := [.null, .int 0, .null, .null, .null, .null, .int 0, .int 0, .ref (242 + n + 1)]) (by simp) rfl 0 (.ref (242 + n + 2)) (by simp)
  have e5 : pV (cn (n + 3) (((sl + 9) + 32) + l) U4 (Sr S n) T σ) (242 + n + 0) 5 0 (.ref (242 + n + 2)) = some (cn (n + 3) (((sl + 9) + 32) + l) U5 (Sr S n) T σ) := e5
  have c5 : NC U5 n [(.inr (5, [.ref (242 + n + 2), .int 0, .null, .null, .null, .null, .int 0, .int 0, .ref (242 + n + 1)]) : va_E), (.inl (3, 32, .inr (.inl (fun _ => 0))) : va_E), (.inl (0, l, .inl g2) : va_E)] := c5
  obtain ⟨U6, e6, c6⟩ := raw_pV (l := [(.inr (5, [.ref (242 + n + 2), .int 0, .null, .null, .null, .null, .int 0, .int 0, .ref (242 + n + 1)]) : va_E), (.inl (3, 32, .inr (.inl (fun _ => 0))) : va_E), (.inl (0, l, .inl g2) : va_E)]) (sl := (((sl + 9) + 32) + l)) (S := S) (T := T) (σ := σ) c5 (i := 0) (ci := 5) (fs := [.ref (242 + n + 2), .int 0, .null, .null, .null, .null, .int 0, .int 0, .ref (242 + n + 1)]) (by simp) rfl 1 (.int (nI m)) (by simp)
  have e6 : pV (cn (n + 3) (((sl + 9) + 32) + l) U5 (Sr S n) T σ) (242 + n + 0) 5 1 (.int (nI m)) = some (cn (n + 3) (((sl + 9) + 32) + l) U6 (Sr S n) T σ) := e6
  have c6 : NC U6 n [(.inr (5, [.ref (242 + n + 2), .int (nI m), .null, .null, .null, .null, .int 0, .int 0, .ref (242 + n + 1)]) : va_E), (.inl (3, 32, .inr (.inl (fun _ => 0))) : va_E), (.inl (0, l, .inl g2) : va_E)] := c6
  have d3 : gI (cn (n + 3) (((sl + 9) + 32) + l) U6 (Sr S n) T σ) (242 + n + 0) 5 1 = some (nI m) := by
    unfold gI
    rw [show ob (cn (n + 3) (((sl + 9) + 32) + l) U6 (Sr S n) T σ) (242 + n + 0) 5 = some [.ref (242 + n + 2), .int (nI m), .null, .null, .null, .null, .int 0, .int 0, .ref (242 + n + 1)] from raw_ob (l := [(.inr (5, [.ref (242 + n + 2), .int (nI m), .null, .null, .null, .null, .int 0, .int 0, .ref (242 + n + 1)]) : va_E), (.inl (3, 32, .inr (.inl (fun _ => 0))) : va_E), (.inl (0, l, .inl g2) : va_E)]) (sl := (((sl + 9) + 32) + l)) (S := S) (T := T) (σ := σ) c6 (i := 0) (by simp) rfl]
    rfl
  obtain ⟨U7, g3, e7, c7, p3⟩ := raw_cp (l := [(.inr (5, [.ref (242 + n + 2), .int (nI m), .null, .null, .null, .null, .int 0, .int 0, .ref (242 + n + 1)]) : va_E), (.inl (3, 32, .inr (.inl (fun _ => 0))) : va_E), (.inl (0, l, .inl g2) : va_E)]) (sl := (((sl + 9) + 32) + l)) (S := S) (T := T) (σ := σ) c6 (q := 149) (N := 12) (k := m) (by decide) (by decide) rfl (by omega) (by decide)
  have e7 : f_J7_copyOf_59c91 (cn (n + 3) (((sl + 9) + 32) + l) U6 (Sr S n) T σ) 149 (nI m) = some (242 + n + 3, cn (n + 4) ((((sl + 9) + 32) + l) + m) U7 (Sr S n) T σ) := e7
  have c7 : NC U7 n [(.inr (5, [.ref (242 + n + 2), .int (nI m), .null, .null, .null, .null, .int 0, .int 0, .ref (242 + n + 1)]) : va_E), (.inl (3, 32, .inr (.inl (fun _ => 0))) : va_E), (.inl (0, l, .inl g2) : va_E), (.inl (0, m, .inl g3) : va_E)] := c7
  obtain ⟨U8, e8, c8⟩ := raw_pV (l := [(.inr (5, [.ref (242 + n + 2), .int (nI m), .null, .null, .null, .null, .int 0, .int 0, .ref (242 + n + 1)]) : va_E), (.inl (3, 32, .inr (.inl (fun _ => 0))) : va_E), (.inl (0, l, .inl g2) : va_E), (.inl (0, m, .inl g3) : va_E)]) (sl := ((((sl + 9) + 32) + l) + m)) (S := S) (T := T) (σ := σ) c7 (i := 0) (ci := 5) (fs := [.ref (242 + n + 2), .int (nI m), .null, .null, .null, .null, .int 0, .int 0, .ref (242 + n + 1)]) (by simp) rfl 2 (.ref (242 + n + 3)) (by simp)
  have e8 : pV (cn (n + 4) ((((sl + 9) + 32) + l) + m) U7 (Sr S n) T σ) (242 + n + 0) 5 2 (.ref (242 + n + 3)) = some (cn (n + 4) ((((sl + 9) + 32) + l) + m) U8 (Sr S n) T σ) := e8
  have c8 : NC U8 n [(.inr (5, [.ref (242 + n + 2), .int (nI m), .ref (242 + n + 3), .null, .null, .null, .int 0, .int 0, .ref (242 + n + 1)]) : va_E), (.inl (3, 32, .inr (.inl (fun _ => 0))) : va_E), (.inl (0, l, .inl g2) : va_E), (.inl (0, m, .inl g3) : va_E)] := c8
  have d4 : gI (cn (n + 4) ((((sl + 9) + 32) + l) + m) U8 (Sr S n) T σ) (242 + n + 0) 5 1 = some (nI m) := by
    unfold gI
    rw [show ob (cn (n + 4) ((((sl + 9) + 32) + l) + m) U8 (Sr S n) T σ) (242 + n + 0) 5 = some [.ref (242 + n + 2), .int (nI m), .ref (242 + n + 3), .null, .null, .null, .int 0, .int 0, .ref (242 + n + 1)] from raw_ob (l := [(.inr (5, [.ref (242 + n + 2), .int (nI m), .ref (242 + n + 3), .null, .null, .null, .int 0, .int 0, .ref (242 + n + 1)]) : va_E), (.inl (3, 32, .inr (.inl (fun _ => 0))) : va_E), (.inl (0, l, .inl g2) : va_E), (.inl (0, m, .inl g3) : va_E)]) (sl := ((((sl + 9) + 32) + l) + m)) (S := S) (T := T) (σ := σ) c8 (i := 0) (by simp) rfl]
    rfl
  obtain ⟨U9, g4, e9, c9, p4⟩ := raw_cp (l := [(.inr (5, [.ref (242 + n + 2), .int (nI m), .ref (242 + n + 3), .null, .null, .null, .int 0, .int 0, .ref (242 + n + 1)]) : va_E), (.inl (3, 32, .inr (.inl (fun _ => 0))) : va_E), (.inl (0, l, .inl g2) : va_E), (.inl (0, m, .inl g3) : va_E)]) (sl := ((((sl + 9) + 32) + l) + m)) (S := S) (T := T) (σ := σ) c8 (q := 150) (N := 12) (k := m) (by decide) (by decide) rfl (by omega) (by decide)
  have e9 : f_J7_copyOf_59c91 (cn (n + 4) ((((sl + 9) + 32) + l) + m) U8 (Sr S n) T σ) 150 (nI m) = some (242 + n + 4, cn (n + 5) (((((sl + 9) + 32) + l) + m) + m) U9 (Sr S n) T σ) := e9
  have c9 : NC U9 n [(.inr (5, [.ref (242 + n + 2), .int (nI m), .ref (242 + n + 3), .null, .null, .null, .int 0, .int 0, .ref (242 + n + 1)]) : va_E), (.inl (3, 32, .inr (.inl (fun _ => 0))) : va_E), (.inl (0, l, .inl g2) : va_E), (.inl (0, m, .inl g3) : va_E), (.inl (0, m, .inl g4) : va_E)] := c9
  obtain ⟨U10, e10, c10⟩ := raw_pV (l := [(.inr (5, [.ref (242 + n + 2), .int (nI m), .ref (242 + n + 3), .null, .null, .null, .int 0, .int 0, .ref (242 + n + 1)]) : va_E), (.inl (3, 32, .inr (.inl (fun _ => 0))) : va_E), (.inl (0, l, .inl g2) : va_E), (.inl (0, m, .inl g3) : va_E), (.inl (0, m, .inl g4) : va_E)]) (sl := (((((sl + 9) + 32) + l) + m) + m)) (S := S) (T := T) (σ := σ) c9 (i := 0) (ci := 5) (fs := [.ref (242 + n + 2), .int (nI m), .ref (242 + n + 3), .null, .null, .null, .int 0, .int 0, .ref (242 + n + 1)]) (by simp) rfl 3 (.ref (242 + n + 4)) (by simp)
  have e10 : pV (cn (n + 5) (((((sl + 9) + 32) + l) + m) + m) U9 (Sr S n) T σ) (242 + n + 0) 5 3 (.ref (242 + n + 4)) = some (cn (n + 5) (((((sl + 9) + 32) + l) + m) + m) U10 (Sr S n) T σ) := e10
  have c10 : NC U10 n [(.inr (5, [.ref (242 + n + 2), .int (nI m), .ref (242 + n + 3), .ref (242 + n + 4), .null, .null, .int 0, .int 0, .ref (242 + n + 1)]) : va_E), (.inl (3, 32, .inr (.inl (fun _ => 0))) : va_E), (.inl (0, l, .inl g2) : va_E), (.inl (0, m, .inl g3) : va_E), (.inl (0, m, .inl g4) : va_E)] := c10
  have d5 : gI (cn (n + 5) (((((sl + 9) + 32) + l) + m) + m) U10 (Sr S n) T σ) (242 + n + 0) 5 1 = some (nI m) := by
    unfold gI
    rw [show ob (cn (n + 5) (((((sl + 9) + 32) + l) + m) + m) U10 (Sr S n) T σ) (242 + n + 0) 5 = some [.ref (242 + n + 2), .int (nI m), .ref (242 + n + 3), .ref (242 + n + 4), .null, .null, .int 0, .int 0, .ref (242 + n + 1)] from raw_ob (l := [(.inr (5, [.ref (242 + n + 2), .int (nI m), .ref (242 + n + 3), .ref (242 + n + 4), .null, .null, .int 0, .int 0, .ref (242 + n + 1)]) : va_E), (.inl (3, 32, .inr (.inl (fun _ => 0))) : va_E), (.inl (0, l, .inl g2) : va_E), (.inl (0, m, .inl g3) : va_E), (.inl (0, m, .inl g4) : va_E)]) (sl := (((((sl + 9) + 32) + l) + m) + m)) (S := S) (T := T) (σ := σ) c10 (i := 0) (by simp) rfl]
    rfl
  obtain ⟨U11, g5, e11, c11, p5⟩ := raw_cp (l := [(.inr (5, [.ref (242 + n + 2), .int (nI m), .ref (242 + n + 3), .ref (242 + n + 4), .null, .null, .int 0, .int 0, .ref (242 + n + 1)]) : va_E), (.inl (3, 32, .inr (.inl (fun _ => 0))) : va_E), (.inl (0, l, .inl g2) : va_E), (.inl (0, m, .inl g3) : va_E), (.inl (0, m, .inl g4) : va_E)]) (sl := (((((sl + 9) + 32) + l) + m) + m)) (S := S) (T := T) (σ := σ) c10 (q := 151) (N := 12) (k := m) (by decide) (by decide) rfl (by omega) (by decide)
  have e11 : f_J7_copyOf_59c91 (cn (n + 5) (((((sl + 9) + 32) + l) + m) + m) U10 (Sr S n) T σ) 151 (nI m) = some (242 + n + 5, cn (n + 6) ((((((sl + 9) + 32) + l) + m) + m) + m) U11 (Sr S n) T σ) := e11
  have c11 : NC U11 n [(.inr (5, [.ref (242 + n + 2), .int (nI m), .ref (242 + n + 3), .ref (242 + n + 4), .null, .null, .int 0, .int 0, .ref (242 + n + 1)]) : va_E), (.inl (3, 32, .inr (.inl (fun _ => 0))) : va_E), (.inl (0, l, .inl g2) : va_E), (.inl (0, m, .inl g3) : va_E), (.inl (0, m, .inl g4) : va_E), (.inl (0, m, .inl g5) : va_E)] := c11
  obtain ⟨U12, e12, c12⟩ := raw_pV (l := [(.inr (5, [.ref (242 + n + 2), .int (nI m), .ref (242 + n + 3), .ref (242 + n + 4), .null, .null, .int 0, .int 0, .ref (242 + n + 1)]) : va_E), (.inl (3, 32, .inr (.inl (fun _ => 0))) : va_E), (.inl (0, l, .inl g2) : va_E), (.inl (0, m, .inl g3) : va_E), (.inl (0, m, .inl g4) : va_E), (.inl (0, m, .inl g5) : va_E)]) (sl := ((((((sl + 9) + 32) + l) + m) + m) + m)) (S := S) (T := T) (σ := σ) c11 (i := 0) (ci := 5) (fs := [.ref (242 + n + 2), .int (nI m), .ref (242 + n + 3), .ref (242 + n + 4), .null, .null, .int 0, .int 0, .ref (242 + n + 1)]) (by simp) rfl 4 (.ref (242 + n + 5)) (by simp)
  have e12 : pV (cn (n + 6) ((((((sl + 9) + 32) + l) + m) + m) + m) U11 (Sr S n) T σ) (242 + n + 0) 5 4 (.ref (242 + n + 5)) = some (cn (n + 6) ((((((sl + 9) + 32) + l) + m) + m) + m) U12 (Sr S n) T σ) := e12
  have c12 : NC U12 n [(.inr (5, [.ref (242 + n + 2), .int (nI m), .ref (242 + n + 3), .ref (242 + n + 4), .ref (242 + n + 5), .null, .int 0, .int 0, .ref (242 + n + 1)]) : va_E), (.inl (3, 32, .inr (.inl (fun _ => 0))) : va_E), (.inl (0, l, .inl g2) : va_E), (.inl (0, m, .inl g3) : va_E), (.inl (0, m, .inl g4) : va_E), (.inl (0, m, .inl g5) : va_E)] := c12
  have d6 : gI (cn (n + 6) ((((((sl + 9) + 32) + l) + m) + m) + m) U12 (Sr S n) T σ) (242 + n + 0) 5 1 = some (nI m) := by
    unfold gI
    rw [show ob (cn (n + 6) ((((((sl + 9) + 32) + l) + m) + m) + m) U12 (Sr S n) T σ) (242 + n + 0) 5 = some [.ref (242 + n + 2), .int (nI m), .ref (242 + n + 3), .ref (242 + n + 4), .ref (242 + n + 5), .null, .int 0, .int 0, .ref (242 + n + 1)] from raw_ob (l := [(.inr (5, [.ref (242 + n + 2), .int (nI m), .ref (242 + n + 3), .ref (242 + n + 4), .ref (242 + n + 5), .null, .int 0, .int 0, .ref (242 + n + 1)]) : va_E), (.inl (3, 32, .inr (.inl (fun _ => 0))) : va_E), (.inl (0, l, .inl g2) : va_E), (.inl (0, m, .inl g3) : va_E), (.inl (0, m, .inl g4) : va_E), (.inl (0, m, .inl g5) : va_E)]) (sl := ((((((sl + 9) + 32) + l) + m) + m) + m)) (S := S) (T := T) (σ := σ) c12 (i := 0) (by simp) rfl]
    rfl
  obtain ⟨U13, g6, e13, c13, p6⟩ := raw_cp (l := [(.inr (5, [.ref (242 + n + 2), .int (nI m), .ref (242 + n + 3), .ref (242 + n + 4), .ref (242 + n + 5), .null, .int 0, .int 0, .ref (242 + n + 1)]) : va_E), (.inl (3, 32, .inr (.inl (fun _ => 0))) : va_E), (.inl (0, l, .inl g2) : va_E), (.inl (0, m, .inl g3) : va_E), (.inl (0, m, .inl g4) : va_E), (.inl (0, m, .inl g5) : va_E)]) (sl := ((((((sl + 9) + 32) + l) + m) + m) + m)) (S := S) (T := T) (σ := σ) c12 (q := 152) (N := 12) (k := m) (by decide) (by decide) rfl (by omega) (by decide)
  have e13 : f_J7_copyOf_59c91 (cn (n + 6) ((((((sl + 9) + 32) + l) + m) + m) + m) U12 (Sr S n) T σ) 152 (nI m) = some (242 + n + 6, cn (n + 7) (((((((sl + 9) + 32) + l) + m) + m) + m) + m) U13 (Sr S n) T σ) := e13
  have c13 : NC U13 n [(.inr (5, [.ref (242 + n + 2), .int (nI m), .ref (242 + n + 3), .ref (242 + n + 4), .ref (242 + n + 5), .null, .int 0, .int 0, .ref (242 + n + 1)]) : va_E), (.inl (3, 32, .inr (.inl (fun _ => 0))) : va_E), (.inl (0, l, .inl g2) : va_E), (.inl (0, m, .inl g3) : va_E), (.inl (0, m, .inl g4) : va_E), (.inl (0, m, .inl g5) : va_E), (.inl (0, m, .inl g6) : va_E)] := c13
  obtain ⟨U14, e14, c14⟩ := raw_pV (l := [(.inr (5, [.ref (242 + n + 2), .int (nI m), .ref (242 + n + 3), .ref (242 + n + 4), .ref (242 + n + 5), .null, .int 0, .int 0, .ref (242 + n + 1)]) : va_E), (.inl (3, 32, .inr (.inl (fun _ => 0))) : va_E), (.inl (0, l, .inl g2) : va_E), (.inl (0, m, .inl g3) : va_E), (.inl (0, m, .inl g4) : va_E), (.inl (0, m, .inl g5) : va_E), (.inl (0, m, .inl g6) : va_E)]) (sl := (((((((sl + 9) + 32) + l) + m) + m) + m) + m)) (S := S) (T := T) (σ := σ) c13 (i := 0) (ci := 5) (fs := [.ref (242 + n + 2), .int (nI m), .ref (242 + n + 3), .ref (242 + n + 4), .ref (242 + n + 5), .null, .int 0, .int 0, .ref (242 + n + 1)]) (by simp) rfl 5 (.ref (242 + n + 6)) (by simp)
  have e14 : pV (cn (n + 7) (((((((sl + 9) + 32) + l) + m) + m) + m) + m) U13 (Sr S n) T σ) (242 + n + 0) 5 5 (.ref (242 + n + 6)) = some (cn (n + 7) (((((((sl + 9) + 32) + l) + m) + m) + m) + m) U14 (Sr S n) T σ) := e14
  have c14 : NC U14 n [(.inr (5, [.ref (242 + n + 2), .int (nI m), .ref (242 + n + 3), .ref (242 + n + 4), .ref (242 + n + 5), .ref (242 + n + 6), .int 0, .int 0, .ref (242 + n + 1)]) : va_E), (.inl (3, 32, .inr (.inl (fun _ => 0))) : va_E), (.inl (0, l, .inl g2) : va_E), (.inl (0, m, .inl g3) : va_E), (.inl (0, m, .inl g4) : va_E), (.inl (0, m, .inl g5) : va_E), (.inl (0, m, .inl g6) : va_E)] := c14
  refine ⟨U1, Sr S n, by rw [e0]; exact e1, ?_⟩
  obtain ⟨T', wT⟩ : ∃ Y : Tc, Y = ((fun r => if r = 242 + n then (fun k => if k = 1 then nI m else 0) else T.1 r, fun r => if r = 242 + n + 2 then g2 else if r = 242 + n + 3 then g3 else if r = 242 + n + 4 then g4 else if r = 242 + n + 5 then g5 else if r = 242 + n + 6 then g6 else T.2.1 r, fun r => if 242 + n ≤ r ∧ r < 242 + n + 7 then (fun _ => 0) else T.2.2.1 r, T.2.2.2.1, T.2.2.2.2) : Tc) := ⟨_, rfl⟩
  have t1 : T'.1 (242 + n) = fun k => if k = 1 then nI m else 0 := by rw [wT]; exact if_pos rfl
  have t22 : T'.2.1 (242 + n + 2) = g2 := by rw [wT]; exact if_pos rfl
  have t23 : T'.2.1 (242 + n + 3) = g3 := by rw [wT]; show (if _ then _ else _) = _; rw [if_neg (by omega), if_pos rfl]
  have t24 : T'.2.1 (242 + n + 4) = g4 := by rw [wT]; show (if _ then _ else _) = _; rw [if_neg (by omega), if_neg (by omega), if_pos rfl]
  have t25 : T'.2.1 (242 + n + 5) = g5 := by rw [wT]; show (if _ then _ else _) = _; rw [if_neg (by omega), if_neg (by omega), if_neg (by omega), if_pos rfl]
  have t26 : T'.2.1 (242 + n + 6) = g6 := by rw [wT]; show (if _ then _ else _) = _; rw [if_neg (by omega), if_neg (by omega), if_neg (by omega), if_neg (by omega), if_pos rfl]
  have t3 : ∀ j, j < 7 → T'.2.2.1 (242 + n + j) = fun _ => 0 := fun j h1 => by rw [wT]; exact if_pos (by omega)
  have ag : agr (fun r => r < 242 + n ∨ 242 + n + 7 ≤ r) T T' := by
    intro r hr
    rw [wT]
    exact ⟨if_neg (by omega), by show (if _ then _ else _) = _; rw [if_neg (by omega), if_neg (by omega), if_neg (by omega), if_neg (by omega), if_neg (by omega)], if_neg (by omega), rfl, rfl⟩
  have hS : ∀ j, j < 7 → ovS (fun r => if r < 242 + n then S r else [(0, 5, 0), (1, 3, 32), (1, 0, l), (1, 0, m), (1, 0, m), (1, 0, m), (1, 0, m)].getD (r - (242 + n)) (2, 0, 0)) (242 + n + j) = [(0, 5, 0), (1, 3, 32), (1, 0, l), (1, 0, m), (1, 0, m), (1, 0, m), (1, 0, m)].getD j (2, 0, 0) := by
    intro j hj
    rw [ovS_hi (by omega), if_neg (by omega), show 242 + n + j - (242 + n) = j by omega]
  have re := raw_end (sl := (((((((sl + 9) + 32) + l) + m) + m) + m) + m)) (σ := σ) (S := S) (T := T) (T' := T') (sh := [(0, 5, 0), (1, 3, 32), (1, 0, l), (1, 0, m), (1, 0, m), (1, 0, m), (1, 0, m)]) c14 rfl ag (by
    intro i hi
    have hi : i < 7 := hi
    have hSi := hS i hi
    unfold cellT
    rw [hSi]
    rcases (show i = 0 ∨ i = 1 ∨ i = 2 ∨ i = 3 ∨ i = 4 ∨ i = 5 ∨ i = 6 by omega) with rfl | rfl | rfl | rfl | rfl | rfl | rfl
    · have h0 := hS 0 (by decide)
      show (Sum.inr (5, fsT (ovT _ T') 5 (242 + n + 0)) : va_E) = _
      have o : ∀ k, (ovT (fun r => if r < 242 + n then S r else [(0, 5, 0), (1, 3, 32), (1, 0, l), (1, 0, m), (1, 0, m), (1, 0, m), (1, 0, m)].getD (r - (242 + n)) (2, 0, 0)) T').2.2.2.1 (242 + n + 0) k = (ovF 5 (242 + n + 0) k).getD (T'.2.2.2.1 (242 + n + 0) k) := by
        intro k
        show ovG _ T'.2.2.2.1 (242 + n + 0) k = _
        unfold ovG
        rw [h0]; rfl
      have t1' : (ovT (fun r => if r < 242 + n then S r else [(0, 5, 0), (1, 3, 32), (1, 0, l), (1, 0, m), (1, 0, m), (1, 0, m), (1, 0, m)].getD (r - (242 + n)) (2, 0, 0)) T').1 (242 + n + 0) = fun k => if k = 1 then nI m else 0 := t1
      unfold fsT
      simp only [o, t1']
      show (Sum.inr (5, [.ref (242 + n + 0 + 2), .int (nI m), .ref (242 + n + 0 + 3), .ref (242 + n + 0 + 4), .ref (242 + n + 0 + 5), .ref (242 + n + 0 + 6), .int 0, .int 0, .ref (242 + n + 0 + 1)]) : va_E) = _
      rfl
    · show (Sum.inl (3, 32, Sum.inr (Sum.inl (T'.2.2.1 (242 + n + 1)))) : va_E) = _
      rw [t3 1 (by decide)]; rfl
    · show (Sum.inl (0, l, Sum.inl (T'.2.1 (242 + n + 2))) : va_E) = _
      rw [t22]; rfl
    · show (Sum.inl (0, m, Sum.inl (T'.2.1 (242 + n + 3))) : va_E) = _
      rw [t23]; rfl
    · show (Sum.inl (0, m, Sum.inl (T'.2.1 (242 + n + 4))) : va_E) = _
      rw [t24]; rfl
    · show (Sum.inl (0, m, Sum.inl (T'.2.1 (242 + n + 5))) : va_E) = _
      rw [t25]; rfl
    · show (Sum.inl (0, m, Sum.inl (T'.2.1 (242 + n + 6))) : va_E) = _
      rw [t26]; rfl)
  refine ⟨U14, (fun r => if r < 242 + n then S r else [(0, 5, 0), (1, 3, 32), (1, 0, l), (1, 0, m), (1, 0, m), (1, 0, m), (1, 0, m)].getD (r - (242 + n)) (2, 0, 0)), T', fun F => ?_, ?_, ?_, ag.mono (fun r hr => .inl hr), by rw [t1]; rfl, by rw [t1]; rfl, by rw [t1]; rfl, by rw [t22]; exact p2, by rw [t23]; exact p3, by rw [t24]; exact p4, by rw [t25]; exact p5, by rw [t26]; exact p6⟩
  · refine Eq.trans ?_ (congrArg F re)
    unfold f_ini
    rw [e2, bd_some, e3, Option.bind_some, x147_1, Option.bind_some, x147_2, h2, Option.bind_some, e4, bd_some, e5, Option.bind_some, x147_4, h4, Option.bind_some, e6, Option.bind_some, x147_5, Option.bind_some, d3, Option.bind_some, e7, bd_some, e8, Option.bind_some, x147_6, Option.bind_some, d4, Option.bind_some, e9, bd_some, e10, Option.bind_some, x147_7, Option.bind_some, d5, Option.bind_some, e11, bd_some, e12, Option.bind_some, x147_8, Option.bind_some, d6, Option.bind_some, e13, bd_some, e14, Option.bind_some]
    rfl
  · intro j hj
    have hj : j < 7 := hj
    exact ⟨⟨by omega, .inr ⟨by omega, by omega⟩⟩, hS j hj⟩
  · intro r hr
    exact if_pos hr
