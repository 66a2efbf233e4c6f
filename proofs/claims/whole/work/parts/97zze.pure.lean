/-! The law's function answers 1 on every script, within the room. -/
theorem law_start {α : Type} (F : Mm → Nat → Nat → Option α) : (bd (nO μF 11 14 [.null, .null, .null, .null, .null, .int 0, .null, .null, .null, .null, .null, .null, .null, .null]) fun a2 μ3 =>
    ((f_X11_init μ3 a2).bind fun μ4 =>
    (nm a2 fun a5 =>
    (bd (nO μ4 12 77 [.int 0, .null, .null, .null, .null, .null, .null, .null, .null, .null, .null, .null, .null, .null, .null, .null, .null, .null, .null, .null, .null, .null, .null, .null, .null, .null, .null, .int 0, .int 0, .int 0, .int 0, .int 0, .int 0, .int 0, .int 0, .int 0, .int 0, .int 0, .null, .null, .null, .null, .null, .null, .null, .null, .null, .null, .null, .int 0, .int 0, .int 0, .int 0, .null, .null, .int 0, .int 0, .int 0, .null, .null, .null, .null, .null, .int 0, .int 0, .null, .null, .null, .null, .null, .null, .null, .int 0, .null, .null, .int 0, .int 0]) fun a6 μ7 =>
    ((f_X12_init μ7 a6).bind fun μ8 =>
    (nm a6 fun a9 => F μ8 a5 a9)))))) = F μS 128 188 := by
  have a1 : nO μF 11 14 [.null, .null, .null, .null, .null, .int 0, .null, .null, .null, .null, .null, .null, .null, .null] = some (128, pu μF 14 (.inr (11, fA))) := rfl
  have a2 : f_X11_init (pu μF 14 (.inr (11, fA))) 128 = some μC := stC_e.1
  have a3 : nO μC 12 77 fB = some (μC.1, pu μC 77 (.inr (12, fB))) := rfl
  have a4 : f_X12_init (pu μC 77 (.inr (12, fB))) 188 = some μS := stM_e.1
  rw [a1, bd_some, a2, Option.bind_some, nm_q]
  show (bd (nO μC 12 77 fB) fun a6 μ7 => ((f_X12_init μ7 a6).bind fun μ8 => (nm a6 fun a9 => F μ8 128 a9))) = _
  rw [a3, bd_some, stC_e.2, a4, Option.bind_some, nm_q]
theorem law_pure (L : Nat) (xs : Nat → Int32) (hL : L ≤ 3072) : ∃ μ' : Mm, f_L_law L xs μF 127 = some (1, μ') ∧ μ'.1 ≤ 600128 ∧ μ'.2.1 ≤ 7302249 := by
  have fu : 1000 < FU := by unfold FU; omega
  have k5 : (L - 0) / 6 ≤ 512 := by omega
  unfold f_L_law
  refine (exists_congr fun μ' => by rw [law_start]).mpr ?_
  have sl0 := stM_e.2.2
  have sc := st_cn
  have sr := st_rel
  generalize hT : tS μS = T at sc sr
  generalize hs : sS0 μS = σ at sc sr
  generalize hm : μS = μ at sc sl0 ⊢
  rw [nm_q]
  rw [← sc]
  obtain ⟨n', sl', U', S', T', σ', p1, p2, p3⟩ := law_loop (xs := xs) (K1081 := fun μ311 => (if (1 : Int32) = 0 ∨ (1 : Int32) = 1 then some ((1 : Int32), μ311) else none)) hL ((L - 0) / 6) 0 FU 0 μ.2.1 0 μ.2.2 S0 T σ rfl (Nat.zero_le _) (.inl rfl) (by omega) sr
  refine ⟨cn n' sl' U' S' T' σ', p1.trans (if_pos (.inr rfl)), ?_, ?_⟩
  · show 242 + n' ≤ 600128
    omega
  · show sl' ≤ 7302249
    omega
