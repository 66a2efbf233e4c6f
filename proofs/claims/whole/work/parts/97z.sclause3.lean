/-! Grounds: things, afters, the reference's clauses. -/
section SCLAUSE3
variable {σ : Sg} {L : Nat} {b : Nat → Nat} {d : Dr}
theorem z_aft (hX : TXs σ L b) (hQ : SQ σ d) (hd : DOK d) (hr : d 0 6 < 10) {p : Nat} (hp : p ≤ L) : sRes σ L b (gAft L b p d) (fun ρ τ => f_X12_groundPart (mem ρ τ (sp σ p 0)) 188 (nI 6)) := by
  have hL := hX.1
  have l8 := hd.2.2.2.1.2.2.2.1
  obtain ⟨v, q, e, a1, a2, a3, a4, a5⟩ := z_any hX hp (e0 := 0) (lo := 0) (hb := d 0 5) (by decide) (by decide) (by omega)
  have x1 := hX.ext (frm_A σ 213 (d 0 6) (nI v) (by decide))
  have hs := skp_le b a2
  have am2 : amt L b (skp L b q) 0 (d 0 5) = amt L b q 0 (d 0 5) := by unfold amt; rw [skp_i]
  obtain ⟨v', q', e', c1, c2, c3, c4, c5⟩ := z_any x1 hs a3 (lo := 0) (hb := d 0 5) (by decide) (by omega)
  rw [am2] at c5
  have s5 := hQ.2.1 5 (by decide)
  have s6 := hQ.2.1 6 (by decide)
  obtain ⟨E, hE⟩ : ∃ E, E = if e' = 0 ∧ v' = v then 1 + 8 * skp L b q + 1 else e' := ⟨_, rfl⟩
  have fr : frm σ (stA (stA (stA σ 213 (d 0 6) (nI v)) 214 (d 0 6) (nI v')) 203 6 (nI (d 0 6 + 1))) := ((frm_A _ _ _ _ (by decide)).trans (frm_A _ _ _ _ (by decide))).trans (frm_A _ _ _ _ (by decide))
  have r5 : ∀ q e, (sp (stA σ 213 (d 0 6) (nI v)) q e).2.1 203 5 = nI (d 0 5) := fun q e => by show (stA σ 213 (d 0 6) (nI v)).2.1 203 5 = _; rw [stA2, if_neg (by omega), s5]
  have r6 : ∀ q e, (sp (stA (stA σ 213 (d 0 6) (nI v)) 214 (d 0 6) (nI v')) q e).2.1 203 6 = nI (d 0 6) := fun q e => by show (stA (stA σ 213 (d 0 6) (nI v)) 214 (d 0 6) (nI v')).2.1 203 6 = _; rw [stA2, stA2, if_neg (by omega), if_neg (by omega), s6]
  have w1 : ∀ q e, (sp (stA (stA σ 213 (d 0 6) (nI v)) 214 (d 0 6) (nI v')) q e).2.1 214 (d 0 6) = nI v' := fun q e => by show (stA (stA σ 213 (d 0 6) (nI v)) 214 (d 0 6) (nI v')).2.1 214 (d 0 6) = _; rw [stA2, if_pos ⟨rfl, rfl⟩]
  have w2 : ∀ q e, (sp (stA (stA σ 213 (d 0 6) (nI v)) 214 (d 0 6) (nI v')) q e).2.1 213 (d 0 6) = nI v := fun q e => by show (stA (stA σ 213 (d 0 6) (nI v)) 214 (d 0 6) (nI v')).2.1 213 (d 0 6) = _; rw [stA2, stA2, if_neg (by omega), if_pos ⟨rfl, rfl⟩]
  have go : ∀ ρ τ, f_X12_groundPart (mem ρ τ (sp σ p 0)) 188 (nI 6) = some (mem ρ τ (sp (stA (stA (stA σ 213 (d 0 6) (nI v)) 214 (d 0 6) (nI v')) 203 6 (nI (d 0 6 + 1))) q' E)) := by
    intro ρ τ
    unfold f_X12_groundPart f_X12_readsAfter
    rw [if_neg (show ¬ nI 6 = 0 by decide), if_neg (show ¬ nI 6 = 1 by decide), if_neg (show ¬ nI 6 = 2 by decide), if_neg (show ¬ nI 6 = 3 by decide), if_neg (show ¬ nI 6 = 4 by decide), if_neg (show ¬ nI 6 = 5 by decide), ob_mem, Option.bind_some, mR_15, Option.bind_some, lit_6, z_sc hQ (by decide), Option.bind_some, nm_q, mR_25, Option.bind_some, Option.bind_some, lit_5, z_sc hQ (by decide), Option.bind_some, Option.bind_some, show (0 : Int32) = nI 0 from rfl, a1, bd_some, y213_w hr, Option.bind_some, sp_A, ob_mem, Option.bind_some, z_bl x1 e (by omega), Option.bind_some, z_pl, Option.bind_some, nm_q, mR_26, Option.bind_some, mR_15, Option.bind_some, y203_r (by decide), Option.bind_some, r5, ob_mem, Option.bind_some, c1, bd_some, y214_w hr, Option.bind_some, sp_A, z_ft, Option.bind_some]
    by_cases e0 : e' = 0
    · rw [if_pos (show nI e' = nI 0 by rw [e0]), mR_26, Option.bind_some, y214_r hr, Option.bind_some, w1, mR_25, Option.bind_some, y213_r hr, Option.bind_some, w2]
      by_cases ev : v' = v
      · rw [if_pos (show nI v' = nI v by rw [ev]), ob_mem, Option.bind_some, e0, lit_1, z_fs0, Option.bind_some, mR_15, Option.bind_some, y203_r (by decide), Option.bind_some, r6, nI_add, y203_w (by decide), Option.bind_some, sp_A, Option.bind_some, hE, if_pos ⟨e0, ev⟩]
      · rw [if_neg (fun h => ev ((nI_eq (by omega) (by omega)).1 h)), mR_15, Option.bind_some, y203_r (by decide), Option.bind_some, r6, lit_1, nI_add, y203_w (by decide), Option.bind_some, sp_A, Option.bind_some, hE, if_neg (fun h => ev h.2)]
    · rw [if_neg (show ¬ nI e' = nI 0 from fun h => e0 ((nI_eq (by omega) (by decide)).1 h)), mR_15, Option.bind_some, y203_r (by decide), Option.bind_some, r6, lit_1, nI_add, y203_w (by decide), Option.bind_some, sp_A, Option.bind_some, hE, if_neg (fun h => e0 h.1)]
  unfold gAft
  rcases a5 with ⟨h, -⟩ | ⟨-, ne, am⟩ | ⟨-, e0, am, l1, l2⟩
  · exact absurd rfl h
  · rw [am, sb_l]
    have ee : e' = e := by rcases c5 with ⟨_, h⟩ | ⟨h, _⟩ | ⟨h, _⟩; exact h; exact absurd h ne; exact absurd h ne
    rw [if_neg (fun h => ne (by omega))] at hE
    exact ⟨_, q', E, go, c2, fr, by omega, by omega, by omega⟩
  · rw [am, sb_r]
    show sRes σ L b (sb (amt L b q 0 (d 0 5)) _) _
    rcases c5 with ⟨h, -⟩ | ⟨-, ne, am3⟩ | ⟨-, e1, am3, l3, l4⟩
    · exact absurd e0 h
    · rw [am3, sb_l]
      rw [if_neg (fun h => ne h.1)] at hE
      exact ⟨_, q', E, go, c2, fr, hE, by omega, by omega⟩
    · rw [am3, sb_r]
      show sRes σ L b (if v = v' then .inl (1 + 8 * skp L b q + 1) else .inr (q', _)) _
      by_cases ev : v = v'
      · rw [if_pos ⟨e1, ev.symm⟩] at hE
        rw [if_pos ev]
        exact ⟨_, q', E, go, c2, fr, hE, by omega, by omega⟩
      · rw [if_neg (fun h => ev h.2.symm)] at hE
        rw [if_neg ev]
        refine ⟨_, q', E, go, c2, fr, .inl ⟨by omega, rfl, hQ.add (by decide) (by decide) rfl (fun k hk => ?_) (fun j x j2 j11 => ?_) ?_⟩⟩
        · rw [stA2, stA2, stA2]
          by_cases h : k = 6
          · rw [if_pos ⟨rfl, h⟩, if_pos h]
          · rw [if_neg (fun y => h y.2), if_neg (by omega), if_neg (by omega), if_neg h]
        · rw [stA2, stA2, stA2]
          have k := (cx_i j2 j11).2.2.2.2
          by_cases h : cx j = 6 ∧ x = d 0 6
          · have := k.1 h.1
            rw [if_pos h, if_neg (by omega)]
            by_cases e2 : j = 10
            · rw [if_neg (by omega), if_pos (by omega), if_pos e2]
            · rw [if_pos (by omega), if_neg e2]
          · rw [if_neg h, if_neg (by omega), if_neg (fun y => h ⟨k.2 (by omega), y.2⟩), if_neg (fun y => h ⟨k.2 (by omega), y.2⟩)]
        · funext x
          rw [stA2, stA2, stA2, if_neg (by omega), if_neg (by omega), if_neg (by omega)]
theorem z_thng (hX : TXs σ L b) (hQ : SQ σ d) (hd : DOK d) (hr : d 0 3 < 8) {p : Nat} (hp : p ≤ L) : sRes σ L b (gThng L b p d) (fun ρ τ => f_X12_groundPart (mem ρ τ (sp σ p 0)) 188 (nI 3)) := by
  have hL := hX.1
  have p5 := hd.2.2.2.1.1
  have h48 : d 0 0 * d 0 1 ≤ 8 * 6 := Nat.mul_le_mul hd.1.2 hd.2.1.2
  obtain ⟨v, q, e, a1, a2, a3, a4, a5⟩ := z_any hX hp (e0 := 0) (lo := 0) (hb := d 0 0 * d 0 1) (by decide) (by decide) (by omega)
  obtain ⟨σ1, w1⟩ : ∃ σ1, σ1 = stA σ 207 (d 0 3) (nI v) := ⟨_, rfl⟩
  have f1 : frm σ σ1 := by rw [w1]; exact frm_A _ _ _ _ (by decide)
  have x1 := hX.ext f1
  have hs := skp_le b a2
  have am2 : amt L b (skp L b q) 0 100000 = amt L b q 0 100000 := by unfold amt; rw [skp_i]
  obtain ⟨v', q', e', c1, c2, c3, c4, c5⟩ := z_any x1 hs a3 (lo := 0) (hb := 100000) (by decide) (by decide)
  rw [am2] at c5
  obtain ⟨E, hE⟩ : ∃ E, E = if e' = 0 ∧ v' ≠ 9 ∧ d 0 2 ≤ v' then 1 + 8 * skp L b q + 1 else e' := ⟨_, rfl⟩
  have E4 : E < 4000 := by rw [hE]; split <;> omega
  obtain ⟨σ2, w2⟩ : ∃ σ2, σ2 = stA σ1 208 (d 0 3) (nI v') := ⟨_, rfl⟩
  have f2 : frm σ σ2 := f1.trans (by rw [w2]; exact frm_A _ _ _ _ (by decide))
  obtain ⟨v2, q2, e2, g1, g2, g3, g4, g5⟩ := z_any (hX.ext f2) c2 E4 (lo := 1) (hb := 31) (by decide) (by decide)
  obtain ⟨σ3, w3⟩ : ∃ σ3, σ3 = stA σ2 209 (d 0 3) (nI v2) := ⟨_, rfl⟩
  have f3 : frm σ σ3 := f2.trans (by rw [w3]; exact frm_A _ _ _ _ (by decide))
  obtain ⟨v3, q3, e3, h1, h2, h3, h4, h5⟩ := z_any (hX.ext f3) g2 g3 (lo := 0) (hb := 61) (by decide) (by decide)
  obtain ⟨σ4, w4⟩ : ∃ σ4, σ4 = stA σ3 210 (d 0 3) (nI v3) := ⟨_, rfl⟩
  have s3 := hQ.2.1 3 (by decide)
  have s2 := hQ.2.1 2 (by decide)
  have r3 : ∀ q e, (sp σ4 q e).2.1 203 3 = nI (d 0 3) := fun q e => by show σ4.2.1 203 3 = _; rw [w4, w3, w2, w1, stA2, stA2, stA2, stA2, if_neg (by omega), if_neg (by omega), if_neg (by omega), if_neg (by omega), s3]
  have r2 : ∀ q e, (sp σ1 q e).2.1 203 2 = nI (d 0 2) := fun q e => by show σ1.2.1 203 2 = _; rw [w1, stA2, if_neg (by omega), s2]
  have f4 : frm σ (stA σ4 203 3 (nI (d 0 3 + 1))) := (f3.trans (by rw [w4]; exact frm_A _ _ _ _ (by decide))).trans (frm_A _ _ _ _ (by decide))
  have go : ∀ ρ τ, f_X12_groundPart (mem ρ τ (sp σ p 0)) 188 (nI 3) = some (mem ρ τ (sp (stA σ4 203 3 (nI (d 0 3 + 1))) q3 e3)) := by
    intro ρ τ
    have c1' : f_X12_amount (mem ρ τ (sp σ1 (skp L b q) e)) 188 (nI 0) 99999 = some (nI v', mem ρ τ (sp σ1 q' e')) := c1 ρ τ
    have g1' : f_X12_amount (mem ρ τ (sp σ2 q' E)) 188 1 30 = some (nI v2, mem ρ τ (sp σ2 q2 e2)) := g1 ρ τ
    have h1' : f_X12_amount (mem ρ τ (sp σ3 q2 e2)) 188 (nI 0) 60 = some (nI v3, mem ρ τ (sp σ3 q3 e3)) := h1 ρ τ
    have cont : ((gR (mem ρ τ (sp σ1 q' E)) 188 12 20).bind fun v18 =>
    ((sI (mem ρ τ (sp σ1 q' E)) v18 0 (nI (d 0 3)) (nI v')).bind fun μ19 =>
    ((gR μ19 188 12 21).bind fun v20 =>
    ((ob μ19 188 12).bind fun _ =>
    (bd (f_X12_amount μ19 188 (1 : Int32) (30 : Int32)) fun v22 μ21 =>
    ((sI μ21 v20 0 (nI (d 0 3)) v22).bind fun μ23 =>
    ((gR μ23 188 12 22).bind fun v24 =>
    ((ob μ23 188 12).bind fun _ =>
    (bd (f_X12_amount μ23 188 (nI 0) (60 : Int32)) fun v26 μ25 =>
    ((sI μ25 v24 0 (nI (d 0 3)) v26).bind fun μ27 =>
    ((gR μ27 188 12 15).bind fun v28 =>
    ((aI μ27 v28 0 (nI 3)).bind fun v29 =>
    ((sI μ27 v28 0 (nI 3) (v29 + (1 : Int32))).bind fun μ30 =>
    (some μ30)))))))))))))) = some (mem ρ τ (sp (stA σ4 203 3 (nI (d 0 3 + 1))) q3 e3)) := by
      rw [mR_20, Option.bind_some, y208_w hr, Option.bind_some, sp_A, ← w2, mR_21, Option.bind_some, ob_mem, Option.bind_some, g1', bd_some, y209_w hr, Option.bind_some, sp_A, ← w3, mR_22, Option.bind_some, ob_mem, Option.bind_some, h1', bd_some, y210_w hr, Option.bind_some, sp_A, ← w4, mR_15, Option.bind_some, y203_r (by decide), Option.bind_some, r3, lit_1, nI_add, y203_w (by decide), Option.bind_some, sp_A]
    unfold f_X12_groundPart f_X12_readsThing
    rw [if_neg (show ¬ nI 3 = 0 by decide), if_neg (show ¬ nI 3 = 1 by decide), if_neg (show ¬ nI 3 = 2 by decide), if_pos (show nI 3 = 3 from rfl), ob_mem, Option.bind_some, mR_15, Option.bind_some, lit_3, z_sc hQ (by decide), Option.bind_some, nm_q, mR_19, Option.bind_some, Option.bind_some, z_nc (hQ.2.1 0 (by decide)) (hQ.2.1 1 (by decide)), bd_some, ob_mem, Option.bind_some, show (0 : Int32) = nI 0 from rfl, a1, bd_some, y207_w hr, Option.bind_some, sp_A, ← w1, ob_mem, Option.bind_some, z_bl x1 e (by omega), Option.bind_some, z_pl, Option.bind_some, nm_q, ob_mem, Option.bind_some, c1', bd_some, nm_q, z_ft, Option.bind_some]
    by_cases e0 : e' = 0
    · rw [if_pos (show nI e' = nI 0 by rw [e0])]
      by_cases v9 : v' = 9
      · rw [if_neg (fun h => h.2.1 v9)] at hE
        rw [if_pos (show nI v' = 9 by rw [v9]; rfl), ← hE, cont, Option.bind_some]
      · rw [if_neg (show ¬ nI v' = 9 from fun h => v9 ((nI_eq (b := 9) (by omega) (by decide)).1 h)), mR_15, Option.bind_some, lit_2, y203_r (by decide), Option.bind_some, r2]
        by_cases lt : v' < d 0 2
        · rw [if_neg (fun h => by omega)] at hE
          rw [if_pos (nI_lt lt (by omega)), ← hE, cont, Option.bind_some]
        · rw [if_pos ⟨e0, v9, by omega⟩] at hE
          rw [if_neg (nI_nlt (by omega) (by omega)), ob_mem, Option.bind_some, e0, show f_X12_fails (mem ρ τ (sp σ1 q' 0)) 188 1 (nI (skp L b q)) = _ from z_fs0 (k := 1) q' (skp L b q), Option.bind_some, ← hE, cont, Option.bind_some]
    · rw [if_neg (fun h => e0 h.1)] at hE
      rw [if_neg (show ¬ nI e' = nI 0 from fun h => e0 ((nI_eq (by omega) (by decide)).1 h)), ← hE, cont, Option.bind_some]
  unfold gThng
  rcases a5 with ⟨h, -⟩ | ⟨-, ne, am⟩ | ⟨-, e0, am, l1, l2⟩
  · exact absurd rfl h
  · rw [am, sb_l]
    have ee : e' = e := by rcases c5 with ⟨_, h⟩ | ⟨h, _⟩ | ⟨h, _⟩; exact h; exact absurd h ne; exact absurd h ne
    rw [if_neg (fun h => ne (by omega))] at hE
    have e2e : e2 = E := by rcases g5 with ⟨_, h⟩ | ⟨h, _⟩ | ⟨h, _⟩; exact h; omega; omega
    have e3e : e3 = e2 := by rcases h5 with ⟨_, h⟩ | ⟨h, _⟩ | ⟨h, _⟩; exact h; omega; omega
    exact ⟨_, q3, e3, go, h2, f4, by omega, by omega, by omega⟩
  · rw [am, sb_r]
    show sRes σ L b (sb (gOwn L b q d) _) _
    unfold gOwn
    rcases c5 with ⟨h, -⟩ | ⟨-, ne, am3⟩ | ⟨-, e1, am3, l3, l4⟩
    · exact absurd e0 h
    · rw [am3, sb_l, sb_l]
      rw [if_neg (fun h => ne h.1)] at hE
      have e2e : e2 = E := by rcases g5 with ⟨_, h⟩ | ⟨h, _⟩ | ⟨h, _⟩; exact h; omega; omega
      have e3e : e3 = e2 := by rcases h5 with ⟨_, h⟩ | ⟨h, _⟩ | ⟨h, _⟩; exact h; omega; omega
      exact ⟨_, q3, e3, go, h2, f4, by omega, by omega, by omega⟩
    · rw [am3, sb_r]
      show sRes σ L b (sb (if v' ≠ 9 ∧ d 0 2 ≤ v' then .inl (1 + 8 * skp L b q + 1) else .inr (v', q')) _) _
      by_cases ow : v' ≠ 9 ∧ d 0 2 ≤ v'
      · rw [if_pos ow, sb_l]
        rw [if_pos ⟨e1, ow⟩] at hE
        have e2e : e2 = E := by rcases g5 with ⟨_, h⟩ | ⟨h, _⟩ | ⟨h, _⟩; exact h; omega; omega
        have e3e : e3 = e2 := by rcases h5 with ⟨_, h⟩ | ⟨h, _⟩ | ⟨h, _⟩; exact h; omega; omega
        exact ⟨_, q3, e3, go, h2, f4, by omega, by omega, by omega⟩
      · rw [if_neg ow, sb_r]
        rw [if_neg (fun h => ow h.2)] at hE
        show sRes σ L b (sb (amt L b q' 1 31) _) _
        rcases g5 with ⟨h, -⟩ | ⟨-, ne, am4⟩ | ⟨-, e20, am4, l5, l6⟩
        · omega
        · rw [am4, sb_l]
          have e3e : e3 = e2 := by rcases h5 with ⟨_, h⟩ | ⟨h, _⟩ | ⟨h, _⟩; exact h; omega; omega
          exact ⟨_, q3, e3, go, h2, f4, by omega, by omega, by omega⟩
        · rw [am4, sb_r]
          show sRes σ L b (sb (amt L b q2 0 61) _) _
          rcases h5 with ⟨h, -⟩ | ⟨-, ne, am5⟩ | ⟨-, e30, am5, l7, l8⟩
          · omega
          · rw [am5, sb_l]
            exact ⟨_, q3, e3, go, h2, f4, rfl, ne, h3⟩
          · rw [am5, sb_r]
            refine ⟨_, q3, e3, go, h2, f4, .inl ⟨e30, rfl, hQ.add (by decide) (by decide) (by rw [w4, w3, w2, w1]; rfl) (fun k hk => ?_) (fun j x j2 j11 => ?_) ?_⟩⟩
            · rw [w4, w3, w2, w1, stA2, stA2, stA2, stA2, stA2]
              by_cases h : k = 3
              · rw [if_pos ⟨rfl, h⟩, if_pos h]
              · rw [if_neg (fun y => h y.2), if_neg (by omega), if_neg (by omega), if_neg (by omega), if_neg (by omega), if_neg h]
            · rw [w4, w3, w2, w1, stA2, stA2, stA2, stA2, stA2]
              have k := (cx_i j2 j11).2.1
              by_cases h : cx j = 3 ∧ x = d 0 3
              · have := k.1 h.1
                rw [if_pos h, if_neg (by omega)]
                by_cases e4 : j = 4
                · rw [if_neg (by omega), if_neg (by omega), if_neg (by omega), if_pos (by omega), if_pos e4]
                · by_cases e5 : j = 5
                  · rw [if_neg (by omega), if_neg (by omega), if_pos (by omega), if_neg e4, if_pos e5]
                  · by_cases e6 : j = 6
                    · rw [if_neg (by omega), if_pos (by omega), if_neg e4, if_neg e5, if_pos e6]
                    · rw [if_pos (by omega), if_neg e4, if_neg e5, if_neg e6]
              · rw [if_neg h, if_neg (by omega), if_neg (fun y => h ⟨k.2 (by omega), y.2⟩), if_neg (fun y => h ⟨k.2 (by omega), y.2⟩), if_neg (fun y => h ⟨k.2 (by omega), y.2⟩), if_neg (fun y => h ⟨k.2 (by omega), y.2⟩)]
            · funext x
              rw [w4, w3, w2, w1, stA2, stA2, stA2, stA2, stA2, if_neg (by omega), if_neg (by omega), if_neg (by omega), if_neg (by omega), if_neg (by omega)]
end SCLAUSE3
