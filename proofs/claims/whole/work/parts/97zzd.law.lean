/-! The law's loop. -/
theorem lg_same (v : Int64) : lg_cmp v v = 0 := by
  unfold lg_cmp
  rw [if_neg Int64.lt_irrefl, if_pos rfl]
theorem sS_at {L : Nat} {xs : Nat → Int32} {i : Nat} (h : i < L) (hL : L ≤ 3072) : sS L xs 127 (nI i) = some (xs i) := by
  unfold sS
  rw [nI_clamp (by omega), if_pos ⟨rfl, fun x => x.elim (fun y => nI_pos (by omega) y) (fun y => by omega)⟩]
section LAW
variable {L : Nat} {xs : Nat → Int32} {K229 K252 K265 K278 K301 K334 K367 K400 K433 K466 K499 K522 K535 K578 K601 K634 K683 K716 K749 K782 K815 K859 K892 K915 K938 K961 K1004 K1027 K1050 K1073 K1081 : Mm → Option (Int32 × Mm)} {n sl nr : Nat} {U : Nat → va_E} {S : Nat → Nat × Nat × Nat} {T : Tc} {σ : Sg}
theorem law_step (hL : L ≤ 3072) {i : Nat} (hi : i + 6 ≤ L) (hR : REL n S T σ nr) (f : Nat) : ∃ (n' sl' nr' : Nat) (U' : Nat → va_E) (S' : Nat → Nat × Nat × Nat) (T' : Tc) (σ' : Sg), f_L_law_L18 L xs K229 K252 K265 K278 K301 K334 K367 K400 K433 K466 K499 K522 K535 K578 K601 K634 K683 K716 K749 K782 K815 K859 K892 K915 K938 K961 K1004 K1027 K1050 K1073 K1081 (f + 1) (cn n sl U S T σ) 127 128 188 (nI i) = f_L_law_L18 L xs K229 K252 K265 K278 K301 K334 K367 K400 K433 K466 K499 K522 K535 K578 K601 K634 K683 K716 K749 K782 K815 K859 K892 K915 K938 K961 K1004 K1027 K1050 K1073 K1081 f (cn n' sl' U' S' T' σ') 127 128 188 (nI (i + 6)) ∧ REL n' S' T' σ' nr' ∧ n' ≤ n + 15 ∧ sl' ≤ sl + 1000 := by
  have s0 : sS L xs 127 (nI i) = some (xs i) := sS_at (by omega) hL
  have s1 : sS L xs 127 (nI i + 1) = some (xs (i + 1)) := by rw [show (1 : Int32) = nI 1 from rfl, nI_add]; exact sS_at (by omega) hL
  have s2 : sS L xs 127 (nI i + 2) = some (xs (i + 2)) := by rw [show (2 : Int32) = nI 2 from rfl, nI_add]; exact sS_at (by omega) hL
  have s3 : sS L xs 127 (nI i + 3) = some (xs (i + 3)) := by rw [show (3 : Int32) = nI 3 from rfl, nI_add]; exact sS_at (by omega) hL
  have s4 : sS L xs 127 (nI i + 4) = some (xs (i + 4)) := by rw [show (4 : Int32) = nI 4 from rfl, nI_add]; exact sS_at (by omega) hL
  have s5 : sS L xs 127 (nI i + 5) = some (xs (i + 5)) := by rw [show (5 : Int32) = nI 5 from rfl, nI_add]; exact sS_at (by omega) hL
  have six : nI i + Int32.ofInt 6 = nI (i + 6) := by rw [show Int32.ofInt 6 = nI 6 from rfl, nI_add]
  have g0 : sG L 127 = some (nI L) := if_pos rfl
  have g6 : ¬ nI L - 6 < nI i := by
    rw [show (6 : Int32) = nI 6 from rfl, nI_sub (by omega)]
    exact nI_nlt (by omega) (by omega)
  have oC : ∀ {n sl U S T σ}, ob (cn n sl U S T σ) 128 11 = some (fsT (ovT S T) 11 128) := x128_o
  have oM : ∀ {n sl U S T σ}, ob (cn n sl U S T σ) 188 12 = some (mfs σ) := ob_mem _ _ _
  rw [f_L_law_L18, g0, Option.bind_some, if_neg g6, s0, Option.bind_some]
  generalize hz : xs i &&& 31 = z
  by_cases h0 : z = 0
  · obtain ⟨v, n', sl', U', S', T', σ', nr', p1, p2, p3, p4, p5⟩ := op_feed (xs (i + 1)) (xs (i + 2)) (xs (i + 3)) (xs (i + 4)) (xs (i + 5)) n sl U S T σ nr hR
    have p1 : f_X11_feed (cn n sl U S T σ) 128 (xs (i + 1)) (xs (i + 2)) (xs (i + 3)) (xs (i + 4)) (xs (i + 5)) = _ := p1
    have p2 : f_X12_feed (cn n' sl' U' S' T' σ) 188 (xs (i + 1)) (xs (i + 2)) (xs (i + 3)) (xs (i + 4)) (xs (i + 5)) = _ := p2
    refine ⟨n', sl', nr', U', S', T', σ', ?_, p3, p4, p5⟩
    rw [if_pos h0, s1, Option.bind_some, s2, Option.bind_some, s3, Option.bind_some, s4, Option.bind_some, s5, Option.bind_some, oC, Option.bind_some, p1, bd_some, Option.bind_some, Option.bind_some, Option.bind_some, Option.bind_some, Option.bind_some, oM, Option.bind_some, p2, bd_some, if_pos rfl, nm_q, six]
  rw [if_neg h0]
  by_cases h1 : z = 1
  · obtain ⟨v, n', sl', U', S', T', σ', nr', p1, p2, p3, p4, p5⟩ := op_end (xs (i + 1)) n sl U S T σ nr hR
    have p1 : f_X11_end (cn n sl U S T σ) 128 (xs (i + 1)) = _ := p1
    have p2 : f_X12_end (cn n' sl' U' S' T' σ) 188 (xs (i + 1)) = _ := p2
    refine ⟨n', sl', nr', U', S', T', σ', ?_, p3, p4, p5⟩
    rw [if_pos h1, s1, Option.bind_some, oC, Option.bind_some, p1, bd_some, Option.bind_some, oM, Option.bind_some, p2, bd_some, if_pos rfl, nm_q, six]
  rw [if_neg h1]
  by_cases h2 : z = 2
  · obtain ⟨v, n', sl', U', S', T', σ', nr', p1, p2, p3, p4, p5⟩ := op_ground n sl U S T σ nr hR
    have p1 : f_X11_ground (cn n sl U S T σ) 128 = _ := p1
    have p2 : f_X12_ground (cn n' sl' U' S' T' σ) 188 = _ := p2
    refine ⟨n', sl', nr', U', S', T', σ', ?_, p3, p4, p5⟩
    rw [if_pos h2, oC, Option.bind_some, p1, bd_some, oM, Option.bind_some, p2, bd_some, if_pos rfl, nm_q, six]
  rw [if_neg h2]
  by_cases h3 : z = 3
  · obtain ⟨v, n', sl', U', S', T', σ', nr', p1, p2, p3, p4, p5⟩ := op_rule n sl U S T σ nr hR
    have p1 : f_X11_rule (cn n sl U S T σ) 128 = _ := p1
    have p2 : f_X12_rule (cn n' sl' U' S' T' σ) 188 = _ := p2
    refine ⟨n', sl', nr', U', S', T', σ', ?_, p3, p4, p5⟩
    rw [if_pos h3, oC, Option.bind_some, p1, bd_some, oM, Option.bind_some, p2, bd_some, if_pos rfl, nm_q, six]
  rw [if_neg h3]
  by_cases h4 : z = 4
  · obtain ⟨v, n', sl', U', S', T', σ', nr', p1, p2, p3, p4, p5⟩ := op_force (xs (i + 1)) n sl U S T σ nr hR
    have p1 : f_X11_force (cn n sl U S T σ) 128 (xs (i + 1)) = _ := p1
    have p2 : f_X12_force (cn n' sl' U' S' T' σ) 188 (xs (i + 1)) = _ := p2
    refine ⟨n', sl', nr', U', S', T', σ', ?_, p3, p4, p5⟩
    rw [if_pos h4, s1, Option.bind_some, oC, Option.bind_some, p1, bd_some, Option.bind_some, oM, Option.bind_some, p2, bd_some, if_pos rfl, nm_q, six]
  rw [if_neg h4]
  by_cases h5 : z = 5
  · obtain ⟨v, n', sl', U', S', T', σ', nr', p1, p2, p3, p4, p5⟩ := op_cell (xs (i + 1)) (xs (i + 2)) n sl U S T σ nr hR
    have p1 : f_X11_cell (cn n sl U S T σ) 128 (xs (i + 1)) (xs (i + 2)) = _ := p1
    have p2 : f_X12_cell (cn n' sl' U' S' T' σ) 188 (xs (i + 1)) (xs (i + 2)) = _ := p2
    refine ⟨n', sl', nr', U', S', T', σ', ?_, p3, p4, p5⟩
    rw [if_pos h5, s1, Option.bind_some, s2, Option.bind_some, oC, Option.bind_some, p1, bd_some, Option.bind_some, Option.bind_some, oM, Option.bind_some, p2, bd_some, if_pos rfl, nm_q, six]
  rw [if_neg h5]
  by_cases h6 : z = 6
  · obtain ⟨v, n', sl', U', S', T', σ', nr', p1, p2, p3, p4, p5⟩ := op_person (xs (i + 1)) (xs (i + 2)) n sl U S T σ nr hR
    have p1 : f_X11_person (cn n sl U S T σ) 128 (xs (i + 1)) (xs (i + 2)) = _ := p1
    have p2 : f_X12_person (cn n' sl' U' S' T' σ) 188 (xs (i + 1)) (xs (i + 2)) = _ := p2
    refine ⟨n', sl', nr', U', S', T', σ', ?_, p3, p4, p5⟩
    rw [if_pos h6, s1, Option.bind_some, s2, Option.bind_some, oC, Option.bind_some, p1, bd_some, Option.bind_some, Option.bind_some, oM, Option.bind_some, p2, bd_some, if_pos rfl, nm_q, six]
  rw [if_neg h6]
  by_cases h7 : z = 7
  · obtain ⟨v, n', sl', U', S', T', σ', nr', p1, p2, p3, p4, p5⟩ := op_thing (xs (i + 1)) (xs (i + 2)) n sl U S T σ nr hR
    have p1 : f_X11_thing (cn n sl U S T σ) 128 (xs (i + 1)) (xs (i + 2)) = _ := p1
    have p2 : f_X12_thing (cn n' sl' U' S' T' σ) 188 (xs (i + 1)) (xs (i + 2)) = _ := p2
    refine ⟨n', sl', nr', U', S', T', σ', ?_, p3, p4, p5⟩
    rw [if_pos h7, s1, Option.bind_some, s2, Option.bind_some, oC, Option.bind_some, p1, bd_some, Option.bind_some, Option.bind_some, oM, Option.bind_some, p2, bd_some, if_pos rfl, nm_q, six]
  rw [if_neg h7]
  by_cases h8 : z = 8
  · obtain ⟨v, n', sl', U', S', T', σ', nr', p1, p2, p3, p4, p5⟩ := op_fall (xs (i + 1)) (xs (i + 2)) n sl U S T σ nr hR
    have p1 : f_X11_fall (cn n sl U S T σ) 128 (xs (i + 1)) (xs (i + 2)) = _ := p1
    have p2 : f_X12_fall (cn n' sl' U' S' T' σ) 188 (xs (i + 1)) (xs (i + 2)) = _ := p2
    refine ⟨n', sl', nr', U', S', T', σ', ?_, p3, p4, p5⟩
    rw [if_pos h8, s1, Option.bind_some, s2, Option.bind_some, oC, Option.bind_some, p1, bd_some, Option.bind_some, Option.bind_some, oM, Option.bind_some, p2, bd_some, if_pos rfl, nm_q, six]
  rw [if_neg h8]
  by_cases h9 : z = 9
  · obtain ⟨v, n', sl', U', S', T', σ', nr', p1, p2, p3, p4, p5⟩ := op_walk (xs (i + 1)) (xs (i + 2)) n sl U S T σ nr hR
    have p1 : f_X11_walk (cn n sl U S T σ) 128 (xs (i + 1)) (xs (i + 2)) = _ := p1
    have p2 : f_X12_walk (cn n' sl' U' S' T' σ) 188 (xs (i + 1)) (xs (i + 2)) = _ := p2
    refine ⟨n', sl', nr', U', S', T', σ', ?_, p3, p4, p5⟩
    rw [if_pos h9, s1, Option.bind_some, s2, Option.bind_some, oC, Option.bind_some, p1, bd_some, Option.bind_some, Option.bind_some, oM, Option.bind_some, p2, bd_some, if_pos rfl, nm_q, six]
  rw [if_neg h9]
  by_cases h10 : z = 10
  · obtain ⟨v, n', sl', U', S', T', σ', nr', p1, p2, p3, p4, p5⟩ := op_put (xs (i + 1)) (xs (i + 2)) n sl U S T σ nr hR
    have p1 : f_X11_put (cn n sl U S T σ) 128 (xs (i + 1)) (xs (i + 2)) = _ := p1
    have p2 : f_X12_put_ (cn n' sl' U' S' T' σ) 188 (xs (i + 1)) (xs (i + 2)) = _ := p2
    refine ⟨n', sl', nr', U', S', T', σ', ?_, p3, p4, p5⟩
    rw [if_pos h10, s1, Option.bind_some, s2, Option.bind_some, oC, Option.bind_some, p1, bd_some, Option.bind_some, Option.bind_some, oM, Option.bind_some, p2, bd_some, if_pos rfl, nm_q, six]
  rw [if_neg h10]
  by_cases h11 : z = 11
  · obtain ⟨v, n', sl', U', S', T', σ', nr', p1, p2, p3, p4, p5⟩ := op_mend (xs (i + 1)) n sl U S T σ nr hR
    have p1 : f_X11_mend (cn n sl U S T σ) 128 (xs (i + 1)) = _ := p1
    have p2 : f_X12_mend (cn n' sl' U' S' T' σ) 188 (xs (i + 1)) = _ := p2
    refine ⟨n', sl', nr', U', S', T', σ', ?_, p3, p4, p5⟩
    rw [if_pos h11, s1, Option.bind_some, oC, Option.bind_some, p1, bd_some, Option.bind_some, oM, Option.bind_some, p2, bd_some, if_pos rfl, nm_q, six]
  rw [if_neg h11]
  by_cases h12 : z = 12
  · obtain ⟨v, n', sl', U', S', T', σ', nr', p1, p2, p3, p4, p5⟩ := op_undo n sl U S T σ nr hR
    have p1 : f_X11_undo (cn n sl U S T σ) 128 = _ := p1
    have p2 : f_X12_undo (cn n' sl' U' S' T' σ) 188 = _ := p2
    refine ⟨n', sl', nr', U', S', T', σ', ?_, p3, p4, p5⟩
    rw [if_pos h12, oC, Option.bind_some, p1, bd_some, oM, Option.bind_some, p2, bd_some, if_pos rfl, nm_q, six]
  rw [if_neg h12]
  by_cases h13 : z = 13
  · obtain ⟨v, n', sl', U', S', T', σ', nr', p1, p2, p3, p4, p5⟩ := op_would (xs (i + 1)) (xs (i + 2)) (xs (i + 3)) n sl U S T σ nr hR
    have p1 : f_X11_would (cn n sl U S T σ) 128 (xs (i + 1)) (xs (i + 2)) (xs (i + 3)) = _ := p1
    have p2 : f_X12_would (cn n' sl' U' S' T' σ) 188 (xs (i + 1)) (xs (i + 2)) (xs (i + 3)) = _ := p2
    refine ⟨n', sl', nr', U', S', T', σ', ?_, p3, p4, p5⟩
    rw [if_pos h13, s1, Option.bind_some, s2, Option.bind_some, s3, Option.bind_some, oC, Option.bind_some, p1, bd_some, Option.bind_some, Option.bind_some, Option.bind_some, oM, Option.bind_some, p2, bd_some, if_pos rfl, nm_q, six]
  rw [if_neg h13]
  by_cases h14 : z = 14
  · obtain ⟨v, n', sl', U', S', T', σ', nr', p1, p2, p3, p4, p5⟩ := op_lean (xs (i + 1)) n sl U S T σ nr hR
    have p1 : f_X11_lean (cn n sl U S T σ) 128 (xs (i + 1)) = _ := p1
    have p2 : f_X12_lean (cn n' sl' U' S' T' σ) 188 (xs (i + 1)) = _ := p2
    refine ⟨n', sl', nr', U', S', T', σ', ?_, p3, p4, p5⟩
    rw [if_pos h14, s1, Option.bind_some, oC, Option.bind_some, p1, bd_some, Option.bind_some, oM, Option.bind_some, p2, bd_some, if_pos rfl, nm_q, six]
  rw [if_neg h14]
  by_cases h15 : z = 15
  · obtain ⟨v, n', sl', U', S', T', σ', nr', p1, p2, p3, p4, p5⟩ := op_way (xs (i + 1)) (xs (i + 2)) n sl U S T σ nr hR
    have p1 : f_X11_way (cn n sl U S T σ) 128 (xs (i + 1)) (xs (i + 2)) = _ := p1
    have p2 : f_X12_way (cn n' sl' U' S' T' σ) 188 (xs (i + 1)) (xs (i + 2)) = _ := p2
    refine ⟨n', sl', nr', U', S', T', σ', ?_, p3, p4, p5⟩
    rw [if_pos h15, s1, Option.bind_some, s2, Option.bind_some, oC, Option.bind_some, p1, bd_some, Option.bind_some, Option.bind_some, oM, Option.bind_some, p2, bd_some, if_pos rfl, nm_q, six]
  rw [if_neg h15]
  by_cases h16 : z = 16
  · by_cases hc : xs (i + 2) = 0
    · obtain ⟨v, n', sl', U', S', T', σ', nr', p1, p2, p3, p4, p5⟩ := op_clue (xs (i + 1)) 0 n sl U S T σ nr hR
      have p1 : f_X11_clue (cn n sl U S T σ) 128 (xs (i + 1)) 0 = _ := p1
      have p2 : f_X12_clue (cn n' sl' U' S' T' σ) 188 (xs (i + 1)) 0 = _ := p2
      refine ⟨n', sl', nr', U', S', T', σ', ?_, p3, p4, p5⟩
      rw [if_pos h16, s1, Option.bind_some, s2, Option.bind_some, if_pos hc, oC, Option.bind_some, p1, bd_some, Option.bind_some, Option.bind_some, if_pos hc, oM, Option.bind_some, p2, bd_some, if_pos rfl, nm_q, six]
    · obtain ⟨v, n', sl', U', S', T', σ', nr', p1, p2, p3, p4, p5⟩ := op_clue (xs (i + 1)) 1 n sl U S T σ nr hR
      have p1 : f_X11_clue (cn n sl U S T σ) 128 (xs (i + 1)) 1 = _ := p1
      have p2 : f_X12_clue (cn n' sl' U' S' T' σ) 188 (xs (i + 1)) 1 = _ := p2
      refine ⟨n', sl', nr', U', S', T', σ', ?_, p3, p4, p5⟩
      rw [if_pos h16, s1, Option.bind_some, s2, Option.bind_some, if_neg hc, oC, Option.bind_some, p1, bd_some, Option.bind_some, Option.bind_some, if_neg hc, oM, Option.bind_some, p2, bd_some, if_pos rfl, nm_q, six]
  rw [if_neg h16]
  by_cases h17 : z = 17
  · obtain ⟨v, n', sl', U', S', T', σ', nr', p1, p2, p3, p4, p5⟩ := op_from (xs (i + 1)) (xs (i + 2)) n sl U S T σ nr hR
    have p1 : f_X11_from (cn n sl U S T σ) 128 (xs (i + 1)) (xs (i + 2)) = _ := p1
    have p2 : f_X12_from (cn n' sl' U' S' T' σ) 188 (xs (i + 1)) (xs (i + 2)) = _ := p2
    refine ⟨n', sl', nr', U', S', T', σ', ?_, p3, p4, p5⟩
    rw [if_pos h17, s1, Option.bind_some, s2, Option.bind_some, oC, Option.bind_some, p1, bd_some, Option.bind_some, Option.bind_some, oM, Option.bind_some, p2, bd_some, if_pos rfl, nm_q, six]
  rw [if_neg h17]
  by_cases h18 : z = 18
  · obtain ⟨v, n', sl', U', S', T', σ', nr', p1, p2, p3, p4, p5⟩ := op_shard (xs (i + 1)) (xs (i + 2)) n sl U S T σ nr hR
    have p1 : f_X11_shard (cn n sl U S T σ) 128 (xs (i + 1)) (xs (i + 2)) = _ := p1
    have p2 : f_X12_shard (cn n' sl' U' S' T' σ) 188 (xs (i + 1)) (xs (i + 2)) = _ := p2
    refine ⟨n', sl', nr', U', S', T', σ', ?_, p3, p4, p5⟩
    rw [if_pos h18, s1, Option.bind_some, s2, Option.bind_some, oC, Option.bind_some, p1, bd_some, Option.bind_some, Option.bind_some, oM, Option.bind_some, p2, bd_some, if_pos rfl, nm_q, six]
  rw [if_neg h18]
  by_cases h19 : z = 19
  · obtain ⟨v, n', sl', U', S', T', σ', nr', p1, p2, p3, p4, p5⟩ := op_trays (xs (i + 1)) (xs (i + 2)) n sl U S T σ nr hR
    have p1 : f_X11_trays (cn n sl U S T σ) 128 (xs (i + 1)) (xs (i + 2)) = _ := p1
    have p2 : f_X12_trays (cn n' sl' U' S' T' σ) 188 (xs (i + 1)) (xs (i + 2)) = _ := p2
    refine ⟨n', sl', nr', U', S', T', σ', ?_, p3, p4, p5⟩
    rw [if_pos h19, s1, Option.bind_some, s2, Option.bind_some, oC, Option.bind_some, p1, bd_some, Option.bind_some, Option.bind_some, oM, Option.bind_some, p2, bd_some, if_pos rfl, nm_q, six]
  rw [if_neg h19]
  by_cases h20 : z = 20
  · obtain ⟨v, n', sl', U', S', T', σ', nr', p1, p2, p3, p4, p5⟩ := op_game (xs (i + 1)) (xs (i + 2)) n sl U S T σ nr hR
    have p1 : f_X11_game (cn n sl U S T σ) 128 (xs (i + 1)) (xs (i + 2)) = _ := p1
    have p2 : f_X12_game (cn n' sl' U' S' T' σ) 188 (xs (i + 1)) (xs (i + 2)) = _ := p2
    refine ⟨n', sl', nr', U', S', T', σ', ?_, p3, p4, p5⟩
    rw [if_pos h20, s1, Option.bind_some, s2, Option.bind_some, oC, Option.bind_some, p1, bd_some, Option.bind_some, Option.bind_some, oM, Option.bind_some, p2, bd_some, if_pos rfl, nm_q, six]
  rw [if_neg h20]
  by_cases h21 : z = 21
  · obtain ⟨v, n', sl', U', S', T', σ', nr', p1, p2, p3, p4, p5⟩ := op_chance (xs (i + 1)) (xs (i + 2)) (xs (i + 3)) n sl U S T σ nr hR
    have p1 : f_X11_chance (cn n sl U S T σ) 128 (xs (i + 1)) (xs (i + 2)) (xs (i + 3)) = _ := p1
    have p2 : f_X12_chance (cn n' sl' U' S' T' σ) 188 (xs (i + 1)) (xs (i + 2)) (xs (i + 3)) = _ := p2
    refine ⟨n', sl', nr', U', S', T', σ', ?_, p3, p4, p5⟩
    rw [if_pos h21, s1, Option.bind_some, s2, Option.bind_some, s3, Option.bind_some, oC, Option.bind_some, p1, bd_some, Option.bind_some, Option.bind_some, Option.bind_some, oM, Option.bind_some, p2, bd_some, if_pos (lg_same v), nm_q, six]
  rw [if_neg h21]
  by_cases h22 : z = 22
  · obtain ⟨v, n', sl', U', S', T', σ', nr', p1, p2, p3, p4, p5⟩ := op_insure (xs (i + 1)) (xs (i + 2)) n sl U S T σ nr hR
    have p1 : f_X11_insure (cn n sl U S T σ) 128 (xs (i + 1)) (xs (i + 2)) = _ := p1
    have p2 : f_X12_insure (cn n' sl' U' S' T' σ) 188 (xs (i + 1)) (xs (i + 2)) = _ := p2
    refine ⟨n', sl', nr', U', S', T', σ', ?_, p3, p4, p5⟩
    rw [if_pos h22, s1, Option.bind_some, s2, Option.bind_some, oC, Option.bind_some, p1, bd_some, Option.bind_some, Option.bind_some, oM, Option.bind_some, p2, bd_some, if_pos rfl, nm_q, six]
  rw [if_neg h22]
  by_cases h23 : z = 23
  · obtain ⟨v, n', sl', U', S', T', σ', nr', p1, p2, p3, p4, p5⟩ := op_lesson (xs (i + 1)) n sl U S T σ nr hR
    have p1 : f_X11_lesson (cn n sl U S T σ) 128 (xs (i + 1)) = _ := p1
    have p2 : f_X12_lesson (cn n' sl' U' S' T' σ) 188 (xs (i + 1)) = _ := p2
    refine ⟨n', sl', nr', U', S', T', σ', ?_, p3, p4, p5⟩
    rw [if_pos h23, s1, Option.bind_some, oC, Option.bind_some, p1, bd_some, Option.bind_some, oM, Option.bind_some, p2, bd_some, if_pos rfl, nm_q, six]
  rw [if_neg h23]
  by_cases h24 : z = 24
  · obtain ⟨v, n', sl', U', S', T', σ', nr', p1, p2, p3, p4, p5⟩ := op_order (xs (i + 1)) n sl U S T σ nr hR
    have p1 : f_X11_order (cn n sl U S T σ) 128 (xs (i + 1)) = _ := p1
    have p2 : f_X12_order (cn n' sl' U' S' T' σ) 188 (xs (i + 1)) = _ := p2
    refine ⟨n', sl', nr', U', S', T', σ', ?_, p3, p4, p5⟩
    rw [if_pos h24, s1, Option.bind_some, oC, Option.bind_some, p1, bd_some, Option.bind_some, oM, Option.bind_some, p2, bd_some, if_pos rfl, nm_q, six]
  rw [if_neg h24]
  by_cases h25 : z = 25
  · obtain ⟨v, n', sl', U', S', T', σ', nr', p1, p2, p3, p4, p5⟩ := op_seed (xs (i + 1)) n sl U S T σ nr hR
    have p1 : f_X11_seed (cn n sl U S T σ) 128 (xs (i + 1)) = _ := p1
    have p2 : f_X12_seed (cn n' sl' U' S' T' σ) 188 (xs (i + 1)) = _ := p2
    refine ⟨n', sl', nr', U', S', T', σ', ?_, p3, p4, p5⟩
    rw [if_pos h25, s1, Option.bind_some, oC, Option.bind_some, p1, bd_some, Option.bind_some, oM, Option.bind_some, p2, bd_some, if_pos rfl, nm_q, six]
  rw [if_neg h25]
  by_cases h26 : z = 26
  · obtain ⟨v, n', sl', U', S', T', σ', nr', p1, p2, p3, p4, p5⟩ := op_terms (xs (i + 1)) (xs (i + 2)) (xs (i + 3)) n sl U S T σ nr hR
    have p1 : f_X11_terms (cn n sl U S T σ) 128 (xs (i + 1)) (xs (i + 2)) (xs (i + 3)) = _ := p1
    have p2 : f_X12_terms (cn n' sl' U' S' T' σ) 188 (xs (i + 1)) (xs (i + 2)) (xs (i + 3)) = _ := p2
    refine ⟨n', sl', nr', U', S', T', σ', ?_, p3, p4, p5⟩
    rw [if_pos h26, s1, Option.bind_some, s2, Option.bind_some, s3, Option.bind_some, oC, Option.bind_some, p1, bd_some, Option.bind_some, Option.bind_some, Option.bind_some, oM, Option.bind_some, p2, bd_some, if_pos rfl, nm_q, six]
  rw [if_neg h26]
  by_cases h27 : z = 27
  · obtain ⟨v, n', sl', U', S', T', σ', nr', p1, p2, p3, p4, p5⟩ := op_count (xs (i + 1)) n sl U S T σ nr hR
    have p1 : f_X11_count (cn n sl U S T σ) 128 (xs (i + 1)) = _ := p1
    have p2 : f_X12_count (cn n' sl' U' S' T' σ) 188 (xs (i + 1)) = _ := p2
    refine ⟨n', sl', nr', U', S', T', σ', ?_, p3, p4, p5⟩
    rw [if_pos h27, s1, Option.bind_some, oC, Option.bind_some, p1, bd_some, Option.bind_some, oM, Option.bind_some, p2, bd_some, if_pos rfl, nm_q, six]
  rw [if_neg h27]
  by_cases h28 : z = 28
  · obtain ⟨v, n', sl', U', S', T', σ', nr', p1, p2, p3, p4, p5⟩ := op_image (xs (i + 1)) n sl U S T σ nr hR
    have p1 : f_X11_image (cn n sl U S T σ) 128 (xs (i + 1)) = _ := p1
    have p2 : f_X12_image (cn n' sl' U' S' T' σ) 188 (xs (i + 1)) = _ := p2
    refine ⟨n', sl', nr', U', S', T', σ', ?_, p3, p4, p5⟩
    rw [if_pos h28, s1, Option.bind_some, oC, Option.bind_some, p1, bd_some, Option.bind_some, oM, Option.bind_some, p2, bd_some, if_pos rfl, nm_q, six]
  rw [if_neg h28]
  by_cases h29 : z = 29
  · obtain ⟨v, n', sl', U', S', T', σ', nr', p1, p2, p3, p4, p5⟩ := op_back (xs (i + 1)) n sl U S T σ nr hR
    have p1 : f_X11_back (cn n sl U S T σ) 128 (xs (i + 1)) = _ := p1
    have p2 : f_X12_back (cn n' sl' U' S' T' σ) 188 (xs (i + 1)) = _ := p2
    refine ⟨n', sl', nr', U', S', T', σ', ?_, p3, p4, p5⟩
    rw [if_pos h29, s1, Option.bind_some, oC, Option.bind_some, p1, bd_some, Option.bind_some, oM, Option.bind_some, p2, bd_some, if_pos rfl, nm_q, six]
  rw [if_neg h29]
  exact ⟨n, sl, nr, U, S, T, σ, by rw [nm_q, six], hR, by omega, by omega⟩
theorem law_loop (hL : L ≤ 3072) : ∀ (k i f n sl nr : Nat) (U : Nat → va_E) (S : Nat → Nat × Nat × Nat) (T : Tc) (σ : Sg), (L - i) / 6 = k → i ≤ L → (i = 0 ∨ 6 ≤ L) → k < f → REL n S T σ nr → ∃ (n' sl' : Nat) (U' : Nat → va_E) (S' : Nat → Nat × Nat × Nat) (T' : Tc) (σ' : Sg), f_L_law_L18 L xs K229 K252 K265 K278 K301 K334 K367 K400 K433 K466 K499 K522 K535 K578 K601 K634 K683 K716 K749 K782 K815 K859 K892 K915 K938 K961 K1004 K1027 K1050 K1073 K1081 f (cn n sl U S T σ) 127 128 188 (nI i) = K1081 (cn n' sl' U' S' T' σ') ∧ n' ≤ n + 15 * k ∧ sl' ≤ sl + 1000 * k := by
  intro k
  induction k with
  | zero =>
    intro i f n sl nr U S T σ h1 h2 h0 h3 hR
    obtain ⟨f, rfl⟩ : ∃ k, f = k + 1 := ⟨f - 1, by omega⟩
    refine ⟨n, sl, U, S, T, σ, ?_, by omega, by omega⟩
    have g0 : sG L 127 = some (nI L) := if_pos rfl
    have g6 : nI L - 6 < nI i := by
      by_cases h6 : 6 ≤ L
      · rw [show (6 : Int32) = nI 6 from rfl, nI_sub h6]
        exact nI_lt (by omega) (by omega)
      · have e : i = 0 := by omega
        rw [e]
        rcases (show L = 0 ∨ L = 1 ∨ L = 2 ∨ L = 3 ∨ L = 4 ∨ L = 5 by omega) with e | e | e | e | e | e <;> (rw [e]; decide)
    rw [f_L_law_L18, g0, Option.bind_some, if_pos g6]
  | succ k ih =>
    intro i f n sl nr U S T σ h1 h2 h0 h3 hR
    obtain ⟨f, rfl⟩ : ∃ k, f = k + 1 := ⟨f - 1, by omega⟩
    obtain ⟨n', sl', nr', U', S', T', σ', p1, p2, p3, p4⟩ := law_step (xs := xs) (K229 := K229) (K252 := K252) (K265 := K265) (K278 := K278) (K301 := K301) (K334 := K334) (K367 := K367) (K400 := K400) (K433 := K433) (K466 := K466) (K499 := K499) (K522 := K522) (K535 := K535) (K578 := K578) (K601 := K601) (K634 := K634) (K683 := K683) (K716 := K716) (K749 := K749) (K782 := K782) (K815 := K815) (K859 := K859) (K892 := K892) (K915 := K915) (K938 := K938) (K961 := K961) (K1004 := K1004) (K1027 := K1027) (K1050 := K1050) (K1073 := K1073) (K1081 := K1081) (sl := sl) (U := U) hL (i := i) (by omega) hR f
    obtain ⟨n2, sl2, U2, S2, T2, σ2, q1, q2, q3⟩ := ih (i + 6) f n' sl' nr' U' S' T' σ' (by omega) (by omega) (by omega) (by omega) p2
    exact ⟨n2, sl2, U2, S2, T2, σ2, p1.trans q1, by omega, by omega⟩
end LAW
