/-! Grounds: the reference's clauses. -/
section SCLAUSE2
variable {σ : Sg} {L : Nat} {b : Nat → Nat} {d : Dr}
theorem z_any (hX : TXs σ L b) {p e0 lo hb : Nat} (hp : p ≤ L) (h4 : e0 < 4000) (hlo : lo < 2 ^ 31) (hhb : hb < 2 ^ 31) : ∃ v q e, (∀ ρ τ, f_X12_amount (mem ρ τ (sp σ p e0)) 188 (nI lo) (nI hb - 1) = some (nI v, mem ρ τ (sp σ q e))) ∧ q ≤ L ∧ e < 4000 ∧ v < 100000 ∧ ((e0 ≠ 0 ∧ e = e0) ∨ (e0 = 0 ∧ e ≠ 0 ∧ amt L b p lo hb = .inl e) ∨ (e0 = 0 ∧ e = 0 ∧ amt L b p lo hb = .inr (v, q) ∧ lo ≤ v ∧ v < hb)) := by
  have hL := hX.1
  by_cases h0 : e0 = 0
  · rw [h0]
    rcases z_nm hX hp hlo hhb with ⟨e, v, q, a1, a2, a3, a4, a5, a6⟩ | ⟨v, q, a1, a2, a3, a4, a5⟩
    · exact ⟨v, q, e, a2, a5, a4, a6, .inr (.inl ⟨rfl, a3, a1⟩)⟩
    · have hv : v < 100000 := by
        have := a1
        unfold amt at this
        split at this
        · split at this
          · cases this
          · have h5 := nv_5 L b (skp L b p)
            injection this with this
            injection this with t1 t2
            omega
        · cases this
      exact ⟨v, q, 0, a2, a3, by decide, hv, .inr (.inr ⟨rfl, rfl, a1, a4, a5⟩)⟩
  · exact ⟨0, skp L b p, e0, fun ρ τ => z_amD hX (by omega) h0 (by omega) _ _ ρ τ, skp_le b hp, h4, by decide, .inl ⟨h0, rfl⟩⟩
theorem z_pers (hX : TXs σ L b) (hQ : SQ σ d) (hd : DOK d) (hr : d 0 2 < 5) {p : Nat} (hp : p ≤ L) : sRes σ L b (gPers L b p d) (fun ρ τ => f_X12_groundPart (mem ρ τ (sp σ p 0)) 188 (nI 2)) := by
  have hL := hX.1
  have h48 : d 0 0 * d 0 1 ≤ 8 * 6 := Nat.mul_le_mul hd.1.2 hd.2.1.2
  obtain ⟨v, q, e, a1, a2, a3, a4, a5⟩ := z_any hX hp (e0 := 0) (lo := 0) (hb := d 0 0 * d 0 1) (by decide) (by decide) (by omega)
  have x1 := hX.ext (frm_A σ 205 (d 0 2) (nI v) (by decide))
  obtain ⟨v', q', e', c1, c2, c3, c4, c5⟩ := z_any x1 a2 a3 (lo := 0) (hb := 10) (by decide) (by decide)
  have c1' : ∀ ρ τ, f_X12_amount (mem ρ τ (sp (stA σ 205 (d 0 2) (nI v)) q e)) 188 (nI 0) 9 = some (nI v', mem ρ τ (sp (stA σ 205 (d 0 2) (nI v)) q' e')) := c1
  have s2 := hQ.2.1 2 (by decide)
  have fr : frm σ (stA (stA (stA σ 205 (d 0 2) (nI v)) 206 (d 0 2) (nI v')) 203 2 (nI (d 0 2 + 1))) := ((frm_A _ _ _ _ (by decide)).trans (frm_A _ _ _ _ (by decide))).trans (frm_A _ _ _ _ (by decide))
  have go : ∀ ρ τ, f_X12_groundPart (mem ρ τ (sp σ p 0)) 188 (nI 2) = some (mem ρ τ (sp (stA (stA (stA σ 205 (d 0 2) (nI v)) 206 (d 0 2) (nI v')) 203 2 (nI (d 0 2 + 1))) q' e')) := by
    intro ρ τ
    unfold f_X12_groundPart
    rw [if_neg (show ¬ nI 2 = 0 by decide), if_neg (show ¬ nI 2 = 1 by decide), if_pos (show nI 2 = 2 from rfl), mR_15, Option.bind_some, lit_2, z_sc hQ (by decide), Option.bind_some, nm_q, mR_17, Option.bind_some, ob_mem, Option.bind_some, z_nc (hQ.2.1 0 (by decide)) (hQ.2.1 1 (by decide)), bd_some, ob_mem, Option.bind_some, show (0 : Int32) = nI 0 from rfl, a1, bd_some, y205_w hr, Option.bind_some, sp_A, mR_18, Option.bind_some, ob_mem, Option.bind_some, c1', bd_some, y206_w hr, Option.bind_some, sp_A, mR_15, Option.bind_some, y203_r (by decide), Option.bind_some, show (sp (stA (stA σ 205 (d 0 2) (nI v)) 206 (d 0 2) (nI v')) q' e').2.1 203 2 = nI (d 0 2) by show (stA (stA σ 205 (d 0 2) (nI v)) 206 (d 0 2) (nI v')).2.1 203 2 = _; rw [stA2, stA2, if_neg (by omega), if_neg (by omega), s2], lit_1, nI_add, y203_w (by decide), Option.bind_some, sp_A]
  unfold gPers
  rcases a5 with ⟨h, -⟩ | ⟨-, ne, am⟩ | ⟨-, e0, am, l1, l2⟩
  · exact absurd rfl h
  · rw [am, sb_l]
    have ee : e' = e := by rcases c5 with ⟨_, h⟩ | ⟨h, _⟩ | ⟨h, _⟩; exact h; exact absurd h ne; exact absurd h ne
    exact ⟨_, q', e', go, c2, fr, ee, by omega, c3⟩
  · rw [am, sb_r]
    show sRes σ L b (sb (amt L b q 0 10) _) _
    rcases c5 with ⟨h, -⟩ | ⟨-, ne, am2⟩ | ⟨-, e1, am2, l3, l4⟩
    · exact absurd e0 h
    · rw [am2, sb_l]
      exact ⟨_, q', e', go, c2, fr, rfl, ne, c3⟩
    · rw [am2, sb_r]
      refine ⟨_, q', e', go, c2, fr, .inl ⟨e1, rfl, hQ.add (by decide) (by decide) rfl (fun k hk => ?_) (fun j x j2 j11 => ?_) ?_⟩⟩
      · rw [stA2, stA2, stA2]
        by_cases h : k = 2
        · rw [if_pos ⟨rfl, h⟩, if_pos h]
        · rw [if_neg (fun y => h y.2), if_neg (by omega), if_neg (by omega), if_neg h]
      · rw [stA2, stA2, stA2]
        have k := (cx_i j2 j11).1
        by_cases h : cx j = 2 ∧ x = d 0 2
        · have := k.1 h.1
          rw [if_pos h, if_neg (by omega)]
          by_cases e2 : j = 2
          · rw [if_neg (by omega), if_pos (by omega), if_pos e2]
          · rw [if_pos (by omega), if_neg e2]
        · rw [if_neg h, if_neg (by omega), if_neg (fun y => h ⟨k.2 (by omega), y.2⟩), if_neg (fun y => h ⟨k.2 (by omega), y.2⟩)]
      · funext x
        rw [stA2, stA2, stA2, if_neg (by omega), if_neg (by omega), if_neg (by omega)]
theorem z_less (hX : TXs σ L b) (hQ : SQ σ d) (hr : d 0 5 < 8) {p : Nat} (hp : p ≤ L) : sRes σ L b (gLess L b p d) (fun ρ τ => f_X12_groundPart (mem ρ τ (sp σ p 0)) 188 (nI 5)) := by
  have hL := hX.1
  obtain ⟨v, q, e, a1, a2, a3, a4, a5⟩ := z_any hX hp (e0 := 0) (lo := 1) (hb := 21) (by decide) (by decide) (by decide)
  have a1' : ∀ ρ τ, f_X12_amount (mem ρ τ (sp σ p 0)) 188 (nI 1) 20 = some (nI v, mem ρ τ (sp σ q e)) := a1
  have s5 := hQ.2.1 5 (by decide)
  have fr : frm σ (stA (stA σ 212 (d 0 5) (nI v)) 203 5 (nI (d 0 5 + 1))) := (frm_A _ _ _ _ (by decide)).trans (frm_A _ _ _ _ (by decide))
  have go : ∀ ρ τ, f_X12_groundPart (mem ρ τ (sp σ p 0)) 188 (nI 5) = some (mem ρ τ (sp (stA (stA σ 212 (d 0 5) (nI v)) 203 5 (nI (d 0 5 + 1))) q e)) := by
    intro ρ τ
    unfold f_X12_groundPart
    rw [if_neg (show ¬ nI 5 = 0 by decide), if_neg (show ¬ nI 5 = 1 by decide), if_neg (show ¬ nI 5 = 2 by decide), if_neg (show ¬ nI 5 = 3 by decide), if_neg (show ¬ nI 5 = 4 by decide), if_pos (show nI 5 = 5 from rfl), mR_24, Option.bind_some, mR_15, Option.bind_some, lit_5, z_sc hQ (by decide), Option.bind_some, ob_mem, Option.bind_some, lit_1, a1', bd_some, y212_w hr, Option.bind_some, sp_A, mR_15, Option.bind_some, y203_r (by decide), Option.bind_some, show (sp (stA σ 212 (d 0 5) (nI v)) q e).2.1 203 5 = nI (d 0 5) by show (stA σ 212 (d 0 5) (nI v)).2.1 203 5 = _; rw [stA2, if_neg (by omega), s5], nI_add, y203_w (by decide), Option.bind_some, sp_A]
  refine ⟨_, q, e, go, a2, fr, ?_⟩
  unfold gLess
  rcases a5 with ⟨h, -⟩ | ⟨-, ne, am⟩ | ⟨-, e0, am, l1, l2⟩
  · exact absurd rfl h
  · rw [am, sb_l]
    exact ⟨rfl, ne, a3⟩
  · rw [am, sb_r]
    refine .inl ⟨e0, rfl, hQ.add (by decide) (by decide) rfl (fun k hk => ?_) (fun j x j2 j11 => ?_) ?_⟩
    · rw [stA2, stA2]
      by_cases h : k = 5
      · rw [if_pos ⟨rfl, h⟩, if_pos h]
      · rw [if_neg (fun y => h y.2), if_neg (by omega), if_neg h]
    · rw [stA2, stA2]
      have k := (cx_i j2 j11).2.2.2.1
      by_cases h : cx j = 5 ∧ x = d 0 5
      · have := k.1 h.1
        rw [if_pos h, if_neg (by omega), if_pos (by omega)]
      · rw [if_neg h, if_neg (by omega), if_neg (fun y => h ⟨k.2 (by omega), y.2⟩)]
    · funext x
      rw [stA2, stA2, if_neg (by omega), if_neg (by omega)]
def eN (d : Dr) (c s E i : Nat) : Nat := if E = 0 ∧ inN d c i = true then 1 + 8 * s + 1 else E
theorem z_netL {q E c m s : Nat} (hQ : SQ σ d) (hd : DOK d) (hm : m = d 0 4) (hc : c < 100000) (hE : E < 4000) (hs : s ≤ 400) (K : Mm → Nat → Int32 → Int32 → Option Mm) (ρ : Mm) (τ : Nat → va_E) : ∀ (k i f : Nat), i + k = m → k < f → f_X12_readsNet_L31 K f (mem ρ τ (sp σ q (eN d c s E i))) 188 (nI m) (nI s) (nI c) (nI i) = K (mem ρ τ (sp σ q (eN d c s E m))) 188 (nI m) (nI c) := by
  have m4 := hd.2.2.2.1.2.2.1
  have h48 : d 0 0 * d 0 1 ≤ 8 * 6 := Nat.mul_le_mul hd.1.2 hd.2.1.2
  have n48 : ∀ i, i < d 0 4 → d 8 i < 48 := fun i hi => Nat.lt_of_lt_of_le (hd.2.2.2.2.2.1 8 (by decide) (by decide) i hi) (by show d 0 0 * d 0 1 ≤ 48; omega)
  intro k
  induction k with
  | zero =>
    intro i f h1 h2
    obtain ⟨f, rfl⟩ : ∃ k, f = k + 1 := ⟨f - 1, by omega⟩
    obtain rfl : i = m := by omega
    rw [f_X12_readsNet_L31, if_pos (nI_le (Nat.le_refl _) (by omega))]
  | succ k ih =>
    intro i f h1 h2
    obtain ⟨f, rfl⟩ : ∃ k, f = k + 1 := ⟨f - 1, by omega⟩
    have z := ih (i + 1) f (by omega) (by omega)
    have hi := hQ.2.2.2 8 (by decide) (by decide) i (show i < d 0 4 by omega)
    have h8 := n48 i (by omega)
    rw [f_X12_readsNet_L31, if_neg (nI_ge (by omega) (by omega)), mR_23, Option.bind_some, y211_r (by omega), Option.bind_some, show ∀ e, (sp σ q e).2.1 211 i = nI (d 8 i) from fun _ => hi]
    by_cases e : d 8 i = c
    · have t : inN d c (i + 1) = true := by rw [inN, decide_eq_true e, Bool.or_true]
      rw [if_pos (show nI (d 8 i) = nI c by rw [e]), z_ft, Option.bind_some]
      by_cases e0 : E = 0
      · have ez : eN d c s E (i + 1) = 1 + 8 * s + 1 := if_pos ⟨e0, t⟩
        rw [ez] at z
        by_cases hN : inN d c i = true
        · have ei : eN d c s E i = 1 + 8 * s + 1 := if_pos ⟨e0, hN⟩
          rw [ei, if_neg (show ¬ nI (1 + 8 * s + 1) = 0 from fun h => by have := (nI_eq (b := 0) (by omega) (by decide)).1 h; omega), nm_q, oin1, nI_add]
          exact z
        · have ei : eN d c s E i = 0 := (if_neg (fun h => hN h.2)).trans e0
          rw [ei, if_pos (show nI 0 = 0 from rfl), ob_mem, Option.bind_some, lit_1, z_fs0, Option.bind_some, nm_q, oin1, nI_add]
          exact z
      · have ei : eN d c s E i = E := if_neg (fun h => e0 h.1)
        have ez : eN d c s E (i + 1) = E := if_neg (fun h => e0 h.1)
        rw [ez] at z
        rw [ei, if_neg (show ¬ nI E = 0 from fun h => e0 ((nI_eq (b := 0) (by omega) (by decide)).1 h)), nm_q, oin1, nI_add]
        exact z
    · have ez : eN d c s E (i + 1) = eN d c s E i := by
        unfold eN
        rw [inN, decide_eq_false e, Bool.or_false]
      rw [ez] at z
      rw [if_neg (fun h => e ((nI_eq (by omega) (by omega)).1 h)), nm_q, oin1, nI_add]
      exact z
theorem z_net (hX : TXs σ L b) (hQ : SQ σ d) (hd : DOK d) (hr : d 0 4 < 4) {p : Nat} (hp : p ≤ L) : sRes σ L b (gNet L b p d) (fun ρ τ => f_X12_groundPart (mem ρ τ (sp σ p 0)) 188 (nI 4)) := by
  have hL := hX.1
  have hs := skp_le b hp
  have h48 : d 0 0 * d 0 1 ≤ 8 * 6 := Nat.mul_le_mul hd.1.2 hd.2.1.2
  have am : amt L b (skp L b p) 0 (d 0 0 * d 0 1) = amt L b p 0 (d 0 0 * d 0 1) := by unfold amt; rw [skp_i]
  obtain ⟨v, q, e, a1, a2, a3, a4, a5⟩ := z_any hX hs (e0 := 0) (lo := 0) (hb := d 0 0 * d 0 1) (by decide) (by decide) (by omega)
  have s4 := hQ.2.1 4 (by decide)
  have fr : frm σ (stA (stA σ 211 (d 0 4) (nI v)) 203 4 (nI (d 0 4 + 1))) := (frm_A _ _ _ _ (by decide)).trans (frm_A _ _ _ _ (by decide))
  have go : ∀ ρ τ, f_X12_groundPart (mem ρ τ (sp σ p 0)) 188 (nI 4) = some (mem ρ τ (sp (stA (stA σ 211 (d 0 4) (nI v)) 203 4 (nI (d 0 4 + 1))) q (eN d v (skp L b p) e (d 0 4)))) := by
    intro ρ τ
    have w := z_netL (q := q) (E := e) (c := v) (s := skp L b p) hQ hd rfl a4 a3 (by omega) (fun μ26 a27 x28 x29 =>
    ((gR μ26 a27 12 23).bind fun v30 =>
    ((sI μ26 v30 0 x28 x29).bind fun μ31 =>
    ((gR μ31 a27 12 15).bind fun v32 =>
    ((aI μ31 v32 0 (4 : Int32)).bind fun v33 =>
    ((sI μ31 v32 0 (4 : Int32) (v33 + (1 : Int32))).bind fun μ34 =>
    (some μ34))))))) ρ τ (d 0 4) 0 FU (by omega) (by unfold FU; omega)
    rw [show eN d v (skp L b p) e 0 = e from if_neg (fun h => by cases h.2)] at w
    unfold f_X12_groundPart f_X12_readsNet
    rw [if_neg (show ¬ nI 4 = 0 by decide), if_neg (show ¬ nI 4 = 1 by decide), if_neg (show ¬ nI 4 = 2 by decide), if_neg (show ¬ nI 4 = 3 by decide), if_pos (show nI 4 = 4 from rfl), ob_mem, Option.bind_some, mR_15, Option.bind_some, show aI (mem ρ τ (sp σ p 0)) 203 0 (4 : Int32) = some (nI (d 0 4)) from z_sc hQ (k := 4) (by decide) p 0 ρ τ, Option.bind_some, nm_q, Option.bind_some, z_bl hX 0 (by omega), Option.bind_some, z_pl, Option.bind_some, nm_q, ob_mem, Option.bind_some, z_nc (hQ.2.1 0 (by decide)) (hQ.2.1 1 (by decide)), bd_some, ob_mem, Option.bind_some, show (0 : Int32) = nI 0 from rfl, a1, bd_some, nm_q, nm_q, w, mR_23, Option.bind_some, y211_w hr, Option.bind_some, sp_A, mR_15, Option.bind_some, lit_4, y203_r (by decide), Option.bind_some, show ∀ e, (sp (stA σ 211 (d 0 4) (nI v)) q e).2.1 203 4 = nI (d 0 4) from fun e => by show (stA σ 211 (d 0 4) (nI v)).2.1 203 4 = _; rw [stA2, if_neg (by omega), s4], lit_1, nI_add, y203_w (by decide), Option.bind_some, sp_A, Option.bind_some]
  unfold gNet
  rw [← am]
  rcases a5 with ⟨h, -⟩ | ⟨-, ne, am⟩ | ⟨-, e0, am, l1, l2⟩
  · exact absurd rfl h
  · rw [am, sb_l]
    exact ⟨_, q, e, fun ρ τ => (go ρ τ).trans (by rw [eN, if_neg (fun h => ne h.1)]), a2, fr, rfl, ne, a3⟩
  · rw [am, sb_r]
    show sRes σ L b (if inN d v (d 0 4) = true then _ else _) _
    by_cases hN : inN d v (d 0 4) = true
    · rw [if_pos hN]
      exact ⟨_, q, _, fun ρ τ => (go ρ τ).trans (by rw [eN, if_pos ⟨e0, hN⟩]), a2, fr, rfl, by omega, by omega⟩
    · rw [if_neg hN]
      refine ⟨_, q, e, fun ρ τ => (go ρ τ).trans (by rw [eN, if_neg (fun h => hN h.2)]), a2, fr, .inl ⟨e0, rfl, hQ.add (by decide) (by decide) rfl (fun k hk => ?_) (fun j x j2 j11 => ?_) ?_⟩⟩
      · rw [stA2, stA2]
        by_cases h : k = 4
        · rw [if_pos ⟨rfl, h⟩, if_pos h]
        · rw [if_neg (fun y => h y.2), if_neg (by omega), if_neg h]
      · rw [stA2, stA2]
        have k := (cx_i j2 j11).2.2.1
        by_cases h : cx j = 4 ∧ x = d 0 4
        · have := k.1 h.1
          rw [if_pos h, if_neg (by omega), if_pos (by omega)]
        · rw [if_neg h, if_neg (by omega), if_neg (fun y => h ⟨k.2 (by omega), y.2⟩)]
      · funext x
        rw [stA2, stA2, if_neg (by omega), if_neg (by omega)]
end SCLAUSE2
