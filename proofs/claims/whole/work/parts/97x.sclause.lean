/-! Grounds: what the reference reads. -/
def SQ (σ : Sg) (d : Dr) : Prop := σ.1 27 = nI (d 0 7) ∧ (∀ k, k < 7 → σ.2.1 203 k = nI (d 0 k)) ∧ (∀ c, c < 48 → σ.2.1 204 c = nI (d 1 c)) ∧ (∀ j, 2 ≤ j → j ≤ 11 → ∀ i, i < d 0 (cx j) → σ.2.1 (203 + j) i = nI (d j i))
def frm (σ σ' : Sg) : Prop := (∀ k, k ≠ 27 → σ'.1 k = σ.1 k) ∧ (∀ r, ¬ (203 ≤ r ∧ r ≤ 214) → σ'.2.1 r = σ.2.1 r)
theorem frm.refl (σ : Sg) : frm σ σ := ⟨fun _ _ => rfl, fun _ _ => rfl⟩
theorem frm.trans {σ σ' σ'' : Sg} (h : frm σ σ') (h' : frm σ' σ'') : frm σ σ'' := ⟨fun k hk => (h'.1 k hk).trans (h.1 k hk), fun r hr => (h'.2 r hr).trans (h.2 r hr)⟩
theorem frm_A (σ : Sg) (r i : Nat) (v : Int32) (h : 203 ≤ r ∧ r ≤ 214) : frm σ (stA σ r i v) := ⟨fun _ _ => rfl, fun q hq => by
  funext j
  rw [stA2, if_neg (fun x => hq (by omega))]⟩
theorem frm_I (σ : Sg) (v : Int32) : frm σ (stI σ 27 v) := ⟨fun k hk => by rw [stI1, if_neg hk], fun _ _ => rfl⟩
theorem TXs.ext {σ σ' : Sg} {L : Nat} {b : Nat → Nat} (h : TXs σ L b) (hf : frm σ σ') : TXs σ' L b := by
  refine ⟨h.1, by rw [hf.1 28 (by decide)]; exact h.2.1, fun i hi => ?_⟩
  rw [hf.2 215 (by omega)]
  exact h.2.2 i hi
theorem SQ.add {σ σ' : Sg} {c : Nat} {d : Dr} {v : Nat → Nat} (h : SQ σ d) (hc : 2 ≤ c) (hc6 : c ≤ 6) (e0 : σ'.1 27 = σ.1 27) (e1 : ∀ k, k < 7 → σ'.2.1 203 k = if k = c then nI (d 0 c + 1) else σ.2.1 203 k) (e2 : ∀ j x, 2 ≤ j → j ≤ 11 → σ'.2.1 (203 + j) x = if cx j = c ∧ x = d 0 c then nI (v j) else σ.2.1 (203 + j) x) (e3 : σ'.2.1 204 = σ.2.1 204) : SQ σ' (rec_ d c v) := by
  obtain ⟨a1, a2, a3, a4⟩ := h
  refine ⟨by rw [e0, rec_s (by omega)]; exact a1, fun k hk => ?_, fun x hx => by rw [e3, rec_1]; exact a3 x hx, fun j j2 j11 i hi => ?_⟩
  · rw [e1 k hk]
    by_cases e : k = c
    · rw [if_pos e, e, rec_c]
    · rw [if_neg e, rec_s e]
      exact a2 k hk
  · rw [e2 j i j2 j11, rec_r j2 j11]
    by_cases e : cx j = c ∧ i = d 0 c
    · rw [if_pos e, if_pos e]
    · rw [if_neg e, if_neg e]
      exact a4 j j2 j11 i (rec_n hi e)
def sRes (σ : Sg) (L : Nat) (b : Nat → Nat) (R : Sum Nat (Nat × Dr)) (F : Mm → (Nat → va_E) → Option Mm) : Prop := ∃ σ' q e, (∀ ρ τ, F ρ τ = some (mem ρ τ (sp σ' q e))) ∧ q ≤ L ∧ frm σ σ' ∧ (match R with
  | .inl e' => e = e' ∧ e ≠ 0 ∧ e < 4000
  | .inr a => (e = 0 ∧ q = a.1 ∧ SQ σ' a.2) ∨ (e = 1 + 8 * a.1 + 0 ∧ tD L b a.1 = true))
section SCLAUSE
variable {σ : Sg} {L : Nat} {b : Nat → Nat} {d : Dr}
theorem z_nm (hX : TXs σ L b) {p lo hb : Nat} (hp : p ≤ L) (hlo : lo < 2 ^ 31) (hhb : hb < 2 ^ 31) : (∃ e v q, amt L b p lo hb = .inl e ∧ (∀ ρ τ, f_X12_amount (mem ρ τ (sp σ p 0)) 188 (nI lo) (nI hb - 1) = some (nI v, mem ρ τ (sp σ q e))) ∧ e ≠ 0 ∧ e < 4000 ∧ q ≤ L ∧ v < 100000) ∨ (∃ v q, amt L b p lo hb = .inr (v, q) ∧ (∀ ρ τ, f_X12_amount (mem ρ τ (sp σ p 0)) 188 (nI lo) (nI hb - 1) = some (nI v, mem ρ τ (sp σ q 0))) ∧ q ≤ L ∧ lo ≤ v ∧ v < hb) := by
  have a := z_amt hX hp hlo hhb
  cases h : amt L b p lo hb with
  | inl e =>
    rw [h] at a
    obtain ⟨v, q, a1, a2, a3, a4, a5⟩ := a
    exact .inl ⟨e, v, q, rfl, a5, a3, a4, a1, a2⟩
  | inr x =>
    obtain ⟨v, q⟩ := x
    rw [h] at a
    have k := amt_ok h hp
    exact .inr ⟨v, q, rfl, a, k.2.2, k.1, k.2.1⟩
theorem z_sc (hQ : SQ σ d) {k : Nat} (hk : k < 7) (p e : Nat) (ρ : Mm) (τ : Nat → va_E) : aI (mem ρ τ (sp σ p e)) 203 0 (nI k) = some (nI (d 0 k)) := by
  rw [y203_r hk]
  exact congrArg some (hQ.2.1 k hk)
theorem z_nc {σ : Sg} (h0 : σ.2.1 203 0 = nI (d 0 0)) (h1 : σ.2.1 203 1 = nI (d 0 1)) (p e : Nat) (ρ : Mm) (τ : Nat → va_E) : f_X12_newCells (mem ρ τ (sp σ p e)) 188 = some (nI (d 0 0 * d 0 1), mem ρ τ (sp σ p e)) := by
  unfold f_X12_newCells
  rw [mR_15, Option.bind_some, show (0 : Int32) = nI 0 from rfl, y203_r (by decide), Option.bind_some, Option.bind_some, lit_1, y203_r (by decide), Option.bind_some, show (sp σ p e).2.1 203 0 = nI (d 0 0) from h0, show (sp σ p e).2.1 203 1 = nI (d 0 1) from h1, pk_mul]
theorem z_size (hX : TXs σ L b) (hQ : SQ σ d) {p : Nat} (hp : p ≤ L) : sRes σ L b (gSize L b p d) (fun ρ τ => f_X12_groundPart (mem ρ τ (sp σ p 0)) 188 (nI 0)) := by
  have hL := hX.1
  unfold gSize
  rcases z_nm hX hp (lo := 2) (hb := 9) (by decide) (by decide) with ⟨e, v, q, a1, a2, a3, a4, a5, a6⟩ | ⟨v, q, a1, a2, a3, a4, a5⟩
  · have a2' : ∀ ρ τ, f_X12_amount (mem ρ τ (sp σ p 0)) 188 2 8 = some (nI v, mem ρ τ (sp σ q e)) := a2
    have x1 := hX.ext (frm_A σ 203 0 (nI v) (by decide))
    rw [a1, sb_l]
    refine ⟨stA (stA σ 203 0 (nI v)) 203 1 0, skp L b q, e, fun ρ τ => ?_, skp_le b a5, (frm_A _ _ _ _ (by decide)).trans (frm_A _ _ _ _ (by decide)), rfl, a3, a4⟩
    show f_X12_groundPart (mem ρ τ (sp σ p 0)) 188 (nI 0) = _
    unfold f_X12_groundPart
    rw [if_pos (show nI 0 = (0 : Int32) from rfl), mR_15, Option.bind_some, ob_mem, Option.bind_some, a2', bd_some, show sI (mem ρ τ (sp σ q e)) 203 0 (0 : Int32) (nI v) = _ from y203_w (i := 0) (by decide), Option.bind_some, sp_A, mR_15, Option.bind_some, ob_mem, Option.bind_some, z_amD x1 (by omega) a3 (by omega), bd_some, lit_1, y203_w (by decide), Option.bind_some, sp_A]
  · have a2' : ∀ ρ τ, f_X12_amount (mem ρ τ (sp σ p 0)) 188 2 8 = some (nI v, mem ρ τ (sp σ q 0)) := a2
    have x1 := hX.ext (frm_A σ 203 0 (nI v) (by decide))
    rw [a1, sb_r]
    show sRes σ L b (sb (amt L b q 2 7) _) _
    have go : ∀ v' q' e' ρ τ, f_X12_amount (mem ρ τ (sp (stA σ 203 0 (nI v)) q 0)) 188 (nI 2) (nI 7 - 1) = some (nI v', mem ρ τ (sp (stA σ 203 0 (nI v)) q' e')) → f_X12_groundPart (mem ρ τ (sp σ p 0)) 188 (nI 0) = some (mem ρ τ (sp (stA (stA σ 203 0 (nI v)) 203 1 (nI v')) q' e')) := by
      intro v' q' e' ρ τ h
      have h' : f_X12_amount (mem ρ τ (sp (stA σ 203 0 (nI v)) q 0)) 188 2 6 = some (nI v', mem ρ τ (sp (stA σ 203 0 (nI v)) q' e')) := h
      unfold f_X12_groundPart
      rw [if_pos (show nI 0 = (0 : Int32) from rfl), mR_15, Option.bind_some, ob_mem, Option.bind_some, a2', bd_some, show sI (mem ρ τ (sp σ q 0)) 203 0 (0 : Int32) (nI v) = _ from y203_w (i := 0) (by decide), Option.bind_some, sp_A, mR_15, Option.bind_some, ob_mem, Option.bind_some, h', bd_some, lit_1, y203_w (by decide), Option.bind_some, sp_A]
    rcases z_nm x1 a3 (lo := 2) (hb := 7) (by decide) (by decide) with ⟨e, v', q', c1, c2, c3, c4, c5, c6⟩ | ⟨v', q', c1, c2, c3, c4, c5⟩
    · rw [c1, sb_l]
      exact ⟨stA (stA σ 203 0 (nI v)) 203 1 (nI v'), q', e, fun ρ τ => go v' q' e ρ τ (c2 ρ τ), c5, (frm_A _ _ _ _ (by decide)).trans (frm_A _ _ _ _ (by decide)), rfl, c3, c4⟩
    · rw [c1, sb_r]
      refine ⟨stA (stA σ 203 0 (nI v)) 203 1 (nI v'), q', 0, fun ρ τ => go v' q' 0 ρ τ (c2 ρ τ), c3, (frm_A _ _ _ _ (by decide)).trans (frm_A _ _ _ _ (by decide)), .inl ⟨rfl, rfl, ?_⟩⟩
      show SQ _ (du (du d 0 0 v) 0 1 v')
      obtain ⟨b1, b2, b3, b4⟩ := hQ
      have sN : ∀ k, k ≠ 0 → k ≠ 1 → du (du d 0 0 v) 0 1 v' 0 k = d 0 k := fun k h0 h1 => (if_neg (fun x => h1 x.2)).trans (if_neg (fun x => h0 x.2))
      have rN : ∀ j x, 1 ≤ j → du (du d 0 0 v) 0 1 v' j x = d j x := fun j x h => (if_neg (fun x => by omega)).trans (if_neg (fun x => by omega))
      refine ⟨?_, fun k hk => ?_, fun x hx => ?_, fun j j2 j11 i hi => ?_⟩
      · rw [sN 7 (by decide) (by decide)]; exact b1
      · rw [stA2, stA2]
        by_cases e1 : k = 1
        · rw [if_pos ⟨rfl, e1⟩, e1]
          exact congrArg nI (if_pos ⟨rfl, rfl⟩).symm
        · rw [if_neg (fun x => e1 x.2)]
          by_cases e0 : k = 0
          · rw [if_pos ⟨rfl, e0⟩, e0]
            exact congrArg nI ((if_neg (fun x => by omega)).trans (if_pos ⟨rfl, rfl⟩)).symm
          · rw [if_neg (fun x => e0 x.2), sN k e0 e1]
            exact b2 k hk
      · rw [stA2, stA2, if_neg (by omega), if_neg (by omega), rN 1 x (by omega)]
        exact b3 x hx
      · have := cx_b j
        rw [sN _ (by omega) (by omega)] at hi
        rw [stA2, stA2, if_neg (by omega), if_neg (by omega), rN j i (by omega)]
        exact b4 j j2 j11 i hi
theorem z_rowL {t : Nat} (K : Mm → Nat → Option Mm) : ∀ (k c p : Nat) (σ : Sg) (d : Dr) (f : Nat), c + k = d 0 0 → k + 1 < f → TXs σ L b → SQ σ d → d 0 7 = t → d 0 0 * t + d 0 0 ≤ 48 → p ≤ L → ∃ σ' q d', frm σ σ' ∧ SQ σ' d' ∧ q ≤ L ∧ d' 0 = d 0 ∧ ((rowK L b k c p d = .inl (1 + 8 * q + 0) ∧ ∀ ρ τ, f_X12_readsRow_L6 K f (mem ρ τ (sp σ p 0)) 188 (nI c) = K (mem ρ τ (sp σ' q (1 + 8 * q + 0))) 188) ∨ (rowK L b k c p d = .inr (q, d') ∧ ∀ ρ τ, f_X12_readsRow_L6 K f (mem ρ τ (sp σ p 0)) 188 (nI c) = K (mem ρ τ (sp σ' q 0)) 188)) := by
  intro k
  induction k with
  | zero =>
    intro c p σ d f h1 h2 hX hQ h7 h48 hp
    obtain ⟨f, rfl⟩ : ∃ k, f = k + 1 := ⟨f - 1, by omega⟩
    refine ⟨σ, p, d, frm.refl _, hQ, hp, rfl, .inr ⟨rfl, fun ρ τ => ?_⟩⟩
    rw [f_X12_readsRow_L6, mR_15, Option.bind_some, show (0 : Int32) = nI 0 from rfl, z_sc hQ (by decide), Option.bind_some, if_pos (nI_le (by omega) (by omega))]
  | succ k ih =>
    intro c p σ d f h1 h2 hX hQ h7 h48 hp
    have hL := hX.1
    obtain ⟨f, rfl⟩ : ∃ k, f = k + 2 := ⟨f - 2, by omega⟩
    rw [rowK]
    cases hD : tD L b p with
    | false =>
      have ne : ¬ nI (1 + 8 * p + 0) = nI 0 := fun h => by have := (nI_eq (b := 0) (by omega) (by decide)).1 h; omega
      refine ⟨σ, p, d, frm.refl _, hQ, hp, rfl, .inl ⟨by rw [if_neg (by decide)], fun ρ τ => ?_⟩⟩
      rw [f_X12_readsRow_L6, mR_15, Option.bind_some, show (0 : Int32) = nI 0 from rfl, z_sc hQ (by decide), Option.bind_some, if_neg (nI_ge (by omega) (by omega)), z_ft, Option.bind_some, if_pos rfl, ob_mem, Option.bind_some, z_dg hX 0 (by omega), bd_some, hD, if_pos (show bI false = nI 0 from rfl), z_pl, Option.bind_some, ob_mem, Option.bind_some, z_fs0, Option.bind_some, nm_q, oin1, nI_add]
      rw [f_X12_readsRow_L6, mR_15, Option.bind_some, show (0 : Int32) = nI 0 from rfl, z_sc hQ (by decide), Option.bind_some]
      by_cases hc : d 0 0 ≤ c + 1
      · rw [if_pos (nI_le hc (by omega))]
      · rw [if_neg (nI_ge (by omega) (by omega)), z_ft, Option.bind_some, if_neg ne]
    | true =>
      have hb := of_decide_eq_true hD
      have es : du d 1 (d 0 0 * d 0 7 + c) (b p - 48) 0 = d 0 := funext fun k => if_neg (fun x => by omega)
      have hQ' : SQ (stA σ 204 (d 0 0 * d 0 7 + c) (nI (b p - 48))) (du d 1 (d 0 0 * d 0 7 + c) (b p - 48)) := by
        obtain ⟨b1, b2, b3, b4⟩ := hQ
        have rN : ∀ j x, 2 ≤ j → du d 1 (d 0 0 * d 0 7 + c) (b p - 48) j x = d j x := fun j x h => if_neg (fun x => by omega)
        refine ⟨?_, fun k hk => ?_, fun x hx => ?_, fun j j2 j11 i hi => ?_⟩
        · rw [es]; exact b1
        · rw [es, stA2, if_neg (by omega)]; exact b2 k hk
        · rw [stA2]
          show _ = nI (if 1 = 1 ∧ x = d 0 0 * d 0 7 + c then b p - 48 else d 1 x)
          by_cases e1 : x = d 0 0 * d 0 7 + c
          · rw [if_pos ⟨rfl, e1⟩, if_pos ⟨rfl, e1⟩]
          · rw [if_neg (fun x => e1 x.2), if_neg (fun x => e1 x.2)]
            exact b3 x hx
        · rw [es] at hi
          rw [stA2, if_neg (by omega), rN j i j2]
          exact b4 j j2 j11 i hi
      have fr := frm_A σ 204 (d 0 0 * d 0 7 + c) (nI (b p - 48)) (by decide)
      obtain ⟨σ', q, d', z1, z2, z3, z4, z5⟩ := ih (c + 1) (p + 1) _ _ (f + 1) (by rw [es]; omega) (by omega) (hX.ext fr) hQ' (by rw [es]; exact h7) (by rw [es]; exact h48) (by omega)
      rw [es] at z4
      have st : ∀ ρ τ, f_X12_readsRow_L6 K (f + 2) (mem ρ τ (sp σ p 0)) 188 (nI c) = f_X12_readsRow_L6 K (f + 1) (mem ρ τ (sp (stA σ 204 (d 0 0 * d 0 7 + c) (nI (b p - 48))) (p + 1) 0)) 188 (nI (c + 1)) := by
        intro ρ τ
        rw [f_X12_readsRow_L6, mR_15, Option.bind_some, show (0 : Int32) = nI 0 from rfl, z_sc hQ (by decide), Option.bind_some, if_neg (nI_ge (by omega) (by omega)), z_ft, Option.bind_some, if_pos rfl, ob_mem, Option.bind_some, z_dg hX 0 (by omega), bd_some, hD, if_neg (show ¬ bI true = nI 0 by decide), mR_16, Option.bind_some, mR_15, Option.bind_some, z_sc hQ (by decide), Option.bind_some, mI_27, show (sp σ p 0).1 27 = nI (d 0 7) by rw [sp1, if_neg (by decide), if_neg (by decide)]; exact hQ.1, Option.bind_some, ob_mem, Option.bind_some, z_sg hX 0 (by omega), bd_some, sgn, if_pos hb.1, lit_48, nI_sub hb.2.1, pk_mul, nI_add, y204_w (by rw [h7]; omega), Option.bind_some, sp_A, z_pl, Option.bind_some, lit_1, nI_add, z_pp, Option.bind_some, nm_q, oin1, nI_add]
      refine ⟨σ', q, d', fr.trans z1, z2, z3, z4, ?_⟩
      rw [if_pos rfl]
      rcases z5 with ⟨y1, y2⟩ | ⟨y1, y2⟩
      · exact .inl ⟨y1, fun ρ τ => by rw [st, y2]⟩
      · exact .inr ⟨y1, fun ρ τ => by rw [st, y2]⟩
theorem SQ.told {d : Dr} {v : Nat} (h : SQ σ d) : SQ (stI σ 27 (nI v)) (du d 0 7 v) := by
  obtain ⟨b1, b2, b3, b4⟩ := h
  have s : ∀ k, k ≠ 7 → du d 0 7 v 0 k = d 0 k := fun k hk => if_neg (fun x => hk x.2)
  have r : ∀ j x, 1 ≤ j → du d 0 7 v j x = d j x := fun j x h => if_neg (fun x => by omega)
  refine ⟨?_, fun k hk => ?_, fun x hx => ?_, fun j j2 j11 i hi => ?_⟩
  · rw [stI1, if_pos rfl]
    exact congrArg nI (if_pos ⟨rfl, rfl⟩).symm
  · rw [s k (by omega)]; exact b2 k hk
  · rw [r 1 x (by omega)]; exact b3 x hx
  · have := cx_b j
    rw [s _ (by omega)] at hi
    rw [r j i (by omega)]
    exact b4 j j2 j11 i hi
theorem z_row (hX : TXs σ L b) (hQ : SQ σ d) (hd : DOK d) (hr : d 0 7 < d 0 1) {p : Nat} (hp : p ≤ L) : sRes σ L b (gRow L b p d) (fun ρ τ => f_X12_groundPart (mem ρ τ (sp σ p 0)) 188 (nI 1)) := by
  have hL := hX.1
  have hs := skp_le b hp
  have h48 : d 0 0 * d 0 7 + d 0 0 ≤ 48 := by
    have h1 : d 0 0 * (d 0 7 + 1) ≤ 8 * 6 := Nat.mul_le_mul hd.1.2 (by have := hd.2.1; omega)
    rw [Nat.mul_succ] at h1
    exact h1
  have ft := fun (σ : Sg) (p e : Nat) (ρ : Mm) (τ : Nat → va_E) => show gI (mem ρ τ (sp σ p e)) 188 12 27 = some (σ.1 27) by rw [mI_27, sp1, if_neg (by decide), if_neg (by decide)]
  obtain ⟨σ', q, d', z1, z2, z3, z4, z5⟩ := z_rowL (L := L) (b := b) (t := d 0 7) (fun μ24 a25 =>
    ((gI μ24 a25 12 30).bind fun v26 =>
    (if v26 = 0 then
    ((ob μ24 a25 12).bind fun _ =>
    (bd (f_X12_isDigit μ24 a25) fun v28 μ27 =>
    (if v28 = 0 then
    ((gI μ27 a25 12 27).bind fun v29 =>
    ((pV μ27 a25 12 27 (.int (v29 + (1 : Int32)))).bind fun μ30 =>
    (some μ30)))
    else
    ((gI μ27 a25 12 29).bind fun v31 =>
    ((ob μ27 a25 12).bind fun _ =>
    ((f_X12_fails μ27 a25 (0 : Int32) v31).bind fun μ32 =>
    ((gI μ32 a25 12 27).bind fun v33 =>
    ((pV μ32 a25 12 27 (.int (v33 + (1 : Int32)))).bind fun μ34 =>
    (some μ34)))))))))
    else
    ((gI μ24 a25 12 27).bind fun v35 =>
    ((pV μ24 a25 12 27 (.int (v35 + (1 : Int32)))).bind fun μ36 =>
    (some μ36)))))) (d 0 0) 0 (skp L b p) σ d FU (by omega) (by have := hd.1.2; unfold FU; omega) hX hQ rfl h48 hs
  have st : ∀ ρ τ, f_X12_groundPart (mem ρ τ (sp σ p 0)) 188 (nI 1) = (f_X12_readsRow_L6 (fun μ24 a25 =>
    ((gI μ24 a25 12 30).bind fun v26 =>
    (if v26 = 0 then
    ((ob μ24 a25 12).bind fun _ =>
    (bd (f_X12_isDigit μ24 a25) fun v28 μ27 =>
    (if v28 = 0 then
    ((gI μ27 a25 12 27).bind fun v29 =>
    ((pV μ27 a25 12 27 (.int (v29 + (1 : Int32)))).bind fun μ30 =>
    (some μ30)))
    else
    ((gI μ27 a25 12 29).bind fun v31 =>
    ((ob μ27 a25 12).bind fun _ =>
    ((f_X12_fails μ27 a25 (0 : Int32) v31).bind fun μ32 =>
    ((gI μ32 a25 12 27).bind fun v33 =>
    ((pV μ32 a25 12 27 (.int (v33 + (1 : Int32)))).bind fun μ34 =>
    (some μ34)))))))))
    else
    ((gI μ24 a25 12 27).bind fun v35 =>
    ((pV μ24 a25 12 27 (.int (v35 + (1 : Int32)))).bind fun μ36 =>
    (some μ36)))))) FU (mem ρ τ (sp σ (skp L b p) 0)) 188 (nI 0)).bind some := by
    intro ρ τ
    unfold f_X12_groundPart f_X12_readsRow
    rw [if_neg (show ¬ nI 1 = 0 by decide), if_pos (show nI 1 = 1 from rfl), ob_mem, Option.bind_some, Option.bind_some, z_bl hX 0 (by omega), Option.bind_some, nm_q, show nI 0 = (0 : Int32) from rfl]
  have mv : ∀ (σ : Sg) (q e : Nat) (x : Int32) ρ τ, pV (mem ρ τ (sp σ q e)) 188 12 27 (.int x) = some (mem ρ τ (sp (stI σ 27 x) q e)) := fun σ q e x ρ τ => by rw [mP_27, sp_I _ _ _ (by decide) (by decide)]
  unfold gRow
  rcases z5 with ⟨y1, y2⟩ | ⟨y1, y2⟩
  · rw [y1, sb_l]
    have ne : ¬ nI (1 + 8 * q + 0) = 0 := fun h => by have := (nI_eq (b := 0) (by omega) (by decide)).1 h; omega
    refine ⟨stI σ' 27 (σ'.1 27 + 1), q, 1 + 8 * q + 0, fun ρ τ => ?_, z3, z1.trans (frm_I _ _), rfl, by omega, by omega⟩
    show f_X12_groundPart (mem ρ τ (sp σ p 0)) 188 (nI 1) = _
    rw [st, y2, z_ft, Option.bind_some, if_neg ne, ft, Option.bind_some, mv, Option.bind_some, Option.bind_some]
  · rw [y1, sb_r]
    cases hD : tD L b q with
    | false =>
      refine ⟨stI σ' 27 (nI (d 0 7 + 1)), q, 0, fun ρ τ => ?_, z3, z1.trans (frm_I _ _), .inl ⟨rfl, rfl, z2.told⟩⟩
      show f_X12_groundPart (mem ρ τ (sp σ p 0)) 188 (nI 1) = _
      rw [st, y2, z_ft, Option.bind_some, if_pos (show nI 0 = 0 from rfl), ob_mem, Option.bind_some, z_dg (hX.ext z1) 0 (by omega), bd_some, hD, if_pos (show bI false = 0 from rfl), ft, Option.bind_some, z2.1, lit_1, nI_add, mv, Option.bind_some, Option.bind_some, z4]
    | true =>
      refine ⟨stI σ' 27 (σ'.1 27 + 1), q, 1 + 8 * q + 0, fun ρ τ => ?_, z3, z1.trans (frm_I _ _), .inr ⟨rfl, hD⟩⟩
      show f_X12_groundPart (mem ρ τ (sp σ p 0)) 188 (nI 1) = _
      rw [st, y2, z_ft, Option.bind_some, if_pos (show nI 0 = 0 from rfl), ob_mem, Option.bind_some, z_dg (hX.ext z1) 0 (by omega), bd_some, hD, if_neg (show ¬ bI true = 0 by decide), z_pl, Option.bind_some, ob_mem, Option.bind_some, lit_0, z_fs0, Option.bind_some, ft, Option.bind_some, mv, Option.bind_some, Option.bind_some]
end SCLAUSE
