/-! The call back. -/
theorem in03' {x : Int32} : isN x 4 ↔ (¬ x < 0 ∧ ¬ (4 : Int32) ≤ x) := by
  unfold isN
  rw [i32le, i32lt, i32lt, i32le]
  have e1 : (4 : Int32).toInt = 4 := rfl
  have e2 : (nI 4).toInt = 4 := rfl
  omega
theorem Pb.eqs {σ σ1 : Sg} {k q : Nat} (h : Pb σ σ1 k q) : Eqs σ σ1 := ⟨h.2.2.1 28 (by decide) (by decide) (by decide), h.2.2.1 32 (by decide) (by decide) (by decide), h.2.2.1 37 (by decide) (by decide) (by decide), fun r hr => by
  by_cases e : r = 240
  · rw [e]; exact h.2.2.2.1
  · refine h.2.2.2.2.1 r (by omega) (fun hm => ?_)
    have hm : r = 189 ∨ r = 190 ∨ r = 191 ∨ r = 192 ∨ r = 193 ∨ r = 194 ∨ r = 195 ∨ r = 196 ∨ r = 197 ∨ r = 198 ∨ r = 199 ∨ r = 200 ∨ r = 201 ∨ r = 202 ∨ r = 226 := by simpa [rowsL] using hm
    omega⟩
theorem DG.b8 {nr : Nat} {D : Dt} (h : DG nr D) : isB (D 189 7) 256 := by rw [h.sB]; exact ⟨_, h.bB, rfl⟩
theorem op_back (x : Int32) : OpR (fun μ => f_X11_back μ 128 x) (fun μ => f_X12_back μ 188 x) := by
  refine OpR.s fun n sl U S T σ nr hR => ?_
  have hR' := hR
  obtain ⟨hN, hTP, hRU, hIM, hD, hS⟩ := hR
  show ∃ v T' σ', f_X11_back (cn n sl U S T σ) 128 x = some (v, cn n sl U S T' σ) ∧ (∀ ρ τ, f_X12_back (mem ρ τ σ) 188 x = some (v, mem ρ τ σ')) ∧ REL n S T' σ' nr
  unfold f_X11_back f_X12_back
  by_cases hx : isN x 4
  · rw [if_neg (in03'.1 hx).1, if_neg (in03'.1 hx).2]
    obtain ⟨k, hk, rfl⟩ := isN_of (by decide) hx
    rw [x128_8, Option.bind_some, x173_r hk, Option.bind_some]
    rcases hIM k hk with ⟨e1, e2⟩ | ⟨e1, a, e2, e3, e4, e5⟩
    · refine ⟨-1, T, σ, ?_, fun ρ τ => ?_, hR'⟩
      · rw [if_pos e2]
      · rw [s_in, bd_some, if_pos (in03.2 hx), if_neg (by decide), mR_74, Option.bind_some, y241_r hk, Option.bind_some, e1, if_pos (show nI 0 = 0 from rfl)]
    · obtain ⟨T', t1, t2⟩ := c_copyFrom (sl := sl) (U := U) (T := T) (σ1 := σ) hS.sv e4.sv (show 161 ≠ a by omega)
      obtain ⟨σ', s1, s2, s3⟩ := s_carryB (σ := σ) (k := k) (show k < 5 by omega)
      have cu := s2.cu s3
      have hS' : SR n S T' 161 (cur σ') := by rw [cu]; exact t2.sr hS.sv e4 e5
      have hD' : DG nr (cur σ') := by rw [cu]; exact e5
      refine ⟨nI (ct8 (cur σ' 189 7)), T', σ', ?_, fun ρ τ => ?_, ?_⟩
      · rw [e2, if_neg (by intro e; cases e), x128_6, Option.bind_some, Option.bind_some, x173_r hk, Option.bind_some, e2, Option.bind_some, s0_o hS.sv, Option.bind_some, t1, Option.bind_some, x128_6, Option.bind_some, s0_3 hS.sv, Option.bind_some, hS'.br, bc8 _ hD'.b8, bd_some]
      · rw [s_in, bd_some, if_pos (in03.2 hx), if_neg (by decide), mR_74, Option.bind_some, y241_r hk, Option.bind_some, e1, if_neg (by decide), ob_mem, Option.bind_some, s1, Option.bind_some, mR_1, Option.bind_some, sc_7, Option.bind_some, cs_7, s_bits _ hD'.b8, bd_some]
      · exact hR'.sch (t2.1.mono fun r hr => by have := hr.2; show r < 161 ∨ 161 + 6 ≤ r; omega) s2.eqs hD' hS'
  · refine ⟨-1, T, σ, ?_, fun ρ τ => ?_, hR'⟩
    · by_cases h1 : x < 0
      · rw [if_pos h1]
      · rw [if_neg h1, if_pos]
        by_cases h2 : (4 : Int32) ≤ x
        · exact h2
        · exact absurd (in03'.2 ⟨h1, h2⟩) hx
    · rw [s_in, bd_some, if_neg (fun h => hx (in03.1 h)), if_pos rfl]
