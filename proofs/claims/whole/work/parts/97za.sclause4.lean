/-! Grounds: the reference's clauses, and that drafts stay sound. -/
theorem fw_get {L : Nat} {b : Nat → Nat} {p : Nat} : ∀ {ws : List (List Nat)} {k : Nat}, fw L b ws p = k → k < ws.length → isWd L b (ws.getD k []) p = true
  | [], k, _, h => by cases h
  | w :: ws, k, h, hk => by
    rw [fw] at h
    by_cases e : isWd L b w p = true
    · rw [if_pos e] at h
      rw [← h]
      exact e
    · rw [if_neg e] at h
      obtain ⟨j, rfl⟩ : ∃ j, k = j + 1 := ⟨k - 1, by omega⟩
      exact fw_get (ws := ws) (k := j) (by omega) (by simp only [List.length_cons] at hk; omega)
section SCLAUSE4
variable {σ : Sg} {L : Nat} {b : Nat → Nat} {d : Dr}
theorem z_word (k : Nat) (hk : k < 7) (μ : Mm) : f_X12_groundWord μ (nI k) = some (9 + k, μ) ∧ 9 + k < 32 ∧ sByt (9 + k) = (gWs.getD k []).map nI ∧ (∀ c ∈ gWs.getD k [], c < 128) ∧ 0 < (gWs.getD k []).length := by
  have hc : k = 0 ∨ k = 1 ∨ k = 2 ∨ k = 3 ∨ k = 4 ∨ k = 5 ∨ k = 6 := by omega
  rcases hc with rfl | rfl | rfl | rfl | rfl | rfl | rfl
  all_goals exact ⟨rfl, by decide, by decide +kernel, by decide +kernel, by decide⟩
theorem fw_st {p k : Nat} (ws : List (List Nat)) (hk : k < gWs.length) (h : gWs.drop k = ws) : fw L b ws p = if isWd L b (gWs.getD k []) p = true then 0 else fw L b (gWs.drop (k + 1)) p + 1 := by
  rw [← h, List.drop_eq_getElem_cons hk, fw, List.getD_eq_getElem?_getD, List.getElem?_eq_getElem hk]
  rfl
theorem z_wdL (hX : TXs σ L b) {s m : Nat} (hs : s < 2 ^ 30) (x : Int32) (K : Mm → Nat → Int32 → Int32 → Int32 → Option Mm) (ρ : Mm) (τ : Nat → va_E) : ∀ (j k f : Nat), k + j = 7 → j < f → f_X12_groundClause_L11 K f (mem ρ τ (sp σ s 0)) 188 (nI m) x (nI k) = K (mem ρ τ (sp σ s 0)) 188 (nI m) x (nI (k + fw L b (gWs.drop k) s)) := by
  intro j
  induction j with
  | zero =>
    intro k f h1 h2
    obtain ⟨f, rfl⟩ : ∃ k, f = k + 1 := ⟨f - 1, by omega⟩
    obtain rfl : k = 7 := by omega
    rw [f_X12_groundClause_L11, if_pos (by decide)]
    rfl
  | succ j ih =>
    intro k f h1 h2
    obtain ⟨f, rfl⟩ : ∃ k, f = k + 1 := ⟨f - 1, by omega⟩
    obtain ⟨w1, w2, w3, w4, w5⟩ := z_word k (by omega) (mem ρ τ (sp σ s 0))
    rw [f_X12_groundClause_L11, if_neg (show ¬ (7 : Int32) ≤ nI k from nI_ge (b := 7) (by omega) (by decide)), w1, bd_some, ob_mem, Option.bind_some, z_st hX 0 _ w2 hs w3 w4 w5, bd_some, fw_st (gWs.drop k) (show k < 7 by omega) rfl]
    cases e : isWd L b (gWs.getD k []) s with
    | false => rw [if_pos (show bI false = 0 from rfl), nm_q, oin1, nI_add, ih (k + 1) f (by omega) (by omega), if_neg (by decide), Nat.add_assoc, Nat.add_comm 1]
    | true => rw [if_neg (show ¬ bI true = 0 by decide), if_pos rfl, Nat.add_zero]
theorem z_full (hQ : SQ σ d) (hd : DOK d) {k m p : Nat} (h1 : 1 ≤ k) (h6 : k ≤ 6) (hm : m ≠ 0) (hm40 : m < 40) (ρ : Mm) (τ : Nat → va_E) : f_X12_isFull (mem ρ τ (sp σ p 0)) 188 (nI k) (nI m) = some (bI (gFull d k), mem ρ τ (sp σ p 0)) := by
  have ct : gI (mem ρ τ (sp σ p 0)) 188 12 27 = some (nI (d 0 7)) := by rw [mI_27, sp1, if_neg (by decide), if_neg (by decide), hQ.1]
  have key : ∀ (x m : Nat) (μ : Mm), x < 2 ^ 31 → m < 2 ^ 31 → (if nI x = nI m then (if (1 : Int32) = 0 ∨ (1 : Int32) = 1 then some ((1 : Int32), μ) else none) else (if (0 : Int32) = 0 ∨ (0 : Int32) = 1 then some ((0 : Int32), μ) else none)) = some (bI (decide (x = m)), μ) := by
    intro x m μ h hm
    by_cases e : x = m
    · rw [if_pos (by rw [e]), if_pos (by decide), decide_eq_true e]; rfl
    · rw [if_neg (fun y => e ((nI_eq h hm).1 y)), if_pos (by decide), decide_eq_false e]; rfl
  have k0 : ¬ nI k = 0 := fun x => by have := (nI_eq (b := 0) (by omega) (by decide)).1 x; omega
  have m0 : ¬ nI m = 0 := fun x => hm ((nI_eq (b := 0) (by omega) (by decide)).1 x)
  have m40 : ¬ nI m = 40 := fun x => by have := (nI_eq (b := 40) (by omega) (by decide)).1 x; omega
  obtain ⟨a1, a2, a3, a4, -⟩ := hd
  unfold gFull f_X12_isFull
  rw [if_neg m40, if_neg k0, if_neg m0, if_pos (show (0 : Int32) = 0 from rfl)]
  have hk : k = 1 ∨ k = 2 ∨ k = 3 ∨ k = 4 ∨ k = 5 ∨ k = 6 := by omega
  rcases hk with rfl | rfl | rfl | rfl | rfl | rfl
  · rw [if_pos (show nI 1 = 1 from rfl), ct, Option.bind_some, mR_15, Option.bind_some, lit_1, z_sc hQ (by decide), Option.bind_some]
    refine (key _ _ _ (by omega) (by omega)).trans ?_
    congr 3
    exact decide_eq_decide.2 (by omega)
  · rw [if_neg (show ¬ nI 2 = 1 by decide), if_pos (show nI 2 = 2 from rfl), mR_15, Option.bind_some, lit_2, z_sc hQ (by decide), Option.bind_some]
    refine (key _ 5 _ (by omega) (by omega)).trans ?_
    congr 3
    exact decide_eq_decide.2 (by omega)
  · rw [if_neg (show ¬ nI 3 = 1 by decide), if_neg (show ¬ nI 3 = 2 by decide), if_pos (show nI 3 = 3 from rfl), mR_15, Option.bind_some, lit_3, z_sc hQ (by decide), Option.bind_some]
    refine (key _ 8 _ (by omega) (by omega)).trans ?_
    congr 3
    exact decide_eq_decide.2 (by omega)
  · rw [if_neg (show ¬ nI 4 = 1 by decide), if_neg (show ¬ nI 4 = 2 by decide), if_neg (show ¬ nI 4 = 3 by decide), if_pos (show nI 4 = 4 from rfl), mR_15, Option.bind_some, lit_4, z_sc hQ (by decide), Option.bind_some]
    refine (key _ 4 _ (by omega) (by omega)).trans ?_
    congr 3
    exact decide_eq_decide.2 (by omega)
  · rw [if_neg (show ¬ nI 5 = 1 by decide), if_neg (show ¬ nI 5 = 2 by decide), if_neg (show ¬ nI 5 = 3 by decide), if_neg (show ¬ nI 5 = 4 by decide), if_pos (show nI 5 = 5 from rfl), mR_15, Option.bind_some, lit_5, z_sc hQ (by decide), Option.bind_some]
    refine (key _ 8 _ (by omega) (by omega)).trans ?_
    congr 3
    exact decide_eq_decide.2 (by omega)
  · rw [if_neg (show ¬ nI 6 = 1 by decide), if_neg (show ¬ nI 6 = 2 by decide), if_neg (show ¬ nI 6 = 3 by decide), if_neg (show ¬ nI 6 = 4 by decide), if_neg (show ¬ nI 6 = 5 by decide), if_pos (show nI 6 = 6 from rfl), mR_15, Option.bind_some, lit_6, z_sc hQ (by decide), Option.bind_some]
    refine (key _ 10 _ (by omega) (by omega)).trans ?_
    congr 3
    exact decide_eq_decide.2 (by omega)
theorem z_clause (hX : TXs σ L b) (hQ : SQ σ d) {m p : Nat} (hm : m ≤ 40) (hd : 0 < m → DOK d) (hp : p ≤ L) : sRes σ L b (gCl L b m p d) (fun ρ τ => f_X12_groundClause (mem ρ τ (sp σ p 0)) 188 (nI m)) := by
  have hL := hX.1
  have hs := skp_le b hp
  have hw := we_le b hs
  have f7 : fw L b gWs (skp L b p) ≤ 7 := fw_le L b (skp L b p) gWs
  have hget := fun (h : fw L b gWs (skp L b p) < 7) => fw_get (L := L) (b := b) (p := skp L b p) (ws := gWs) rfl h
  have start : ∀ ρ τ, f_X12_groundClause (mem ρ τ (sp σ p 0)) 188 (nI m) = (if nI (fw L b gWs (skp L b p)) = (7 : Int32) then
    ((ob (mem ρ τ (sp σ (skp L b p) 0)) 188 12).bind fun _ =>
    ((f_X12_fails (mem ρ τ (sp σ (skp L b p) 0)) 188 (0 : Int32) (nI (skp L b p))).bind fun μ21 =>
    (some μ21)))
    else
    ((ob (mem ρ τ (sp σ (skp L b p) 0)) 188 12).bind fun _ =>
    (bd (f_X12_isFull (mem ρ τ (sp σ (skp L b p) 0)) 188 (nI (fw L b gWs (skp L b p))) (nI m)) fun v23 μ22 =>
    (if v23 = 0 then
    ((gI μ22 188 12 29).bind fun v24 =>
    (bd (f_X12_groundWord μ22 (nI (fw L b gWs (skp L b p)))) fun v26 μ25 =>
    ((tL v26).bind fun v27 =>
    ((pV μ25 188 12 29 (.int (v24 + v27))).bind fun μ28 =>
    ((ob μ28 188 12).bind fun _ =>
    ((f_X12_groundPart μ28 188 (nI (fw L b gWs (skp L b p)))).bind fun μ29 =>
    (some μ29)))))))
    else
    ((ob μ22 188 12).bind fun _ =>
    ((f_X12_fails μ22 188 (4 : Int32) (nI (skp L b p))).bind fun μ30 =>
    (some μ30))))))) := by
    intro ρ τ
    unfold f_X12_groundClause
    have z := z_wdL (m := m) hX (show skp L b p < 2 ^ 30 by omega) (nI (skp L b p)) (fun μ16 a17 x18 x19 x20 =>
    (if x20 = (7 : Int32) then
    ((ob μ16 a17 12).bind fun _ =>
    ((f_X12_fails μ16 a17 (0 : Int32) x19).bind fun μ21 =>
    (some μ21)))
    else
    ((ob μ16 a17 12).bind fun _ =>
    (bd (f_X12_isFull μ16 a17 x20 x18) fun v23 μ22 =>
    (if v23 = 0 then
    ((gI μ22 a17 12 29).bind fun v24 =>
    (bd (f_X12_groundWord μ22 x20) fun v26 μ25 =>
    ((tL v26).bind fun v27 =>
    ((pV μ25 a17 12 29 (.int (v24 + v27))).bind fun μ28 =>
    ((ob μ28 a17 12).bind fun _ =>
    ((f_X12_groundPart μ28 a17 x20).bind fun μ29 =>
    (some μ29)))))))
    else
    ((ob μ22 a17 12).bind fun _ =>
    ((f_X12_fails μ22 a17 (4 : Int32) x19).bind fun μ30 =>
    (some μ30)))))))) ρ τ 7 0 FU rfl (by unfold FU; omega)
    rw [show nI 0 = (0 : Int32) from rfl, Nat.zero_add, List.drop_zero] at z
    rw [ob_mem, Option.bind_some, z_bl hX 0 (by omega), Option.bind_some, z_pl, Option.bind_some, nm_q, nm_q, z]
  unfold gCl
  generalize hk : fw L b gWs (skp L b p) = k at *
  by_cases k7 : k = 7
  · rw [if_pos k7]
    refine ⟨σ, skp L b p, 1 + 8 * skp L b p + 0, fun ρ τ => ?_, hs, frm.refl _, rfl, by omega, by omega⟩
    refine (start ρ τ).trans ?_
    rw [if_pos (show nI k = 7 by rw [k7]; rfl), ob_mem, Option.bind_some, lit_0, z_fs0, Option.bind_some]
  · rw [if_neg k7]
    have k7' : ¬ nI k = 7 := fun x => k7 ((nI_eq (b := 7) (by omega) (by decide)).1 x)
    have failed : (∀ ρ τ, f_X12_isFull (mem ρ τ (sp σ (skp L b p) 0)) 188 (nI k) (nI m) = some (1, mem ρ τ (sp σ (skp L b p) 0))) → sRes σ L b (.inl (1 + 8 * skp L b p + 4)) (fun ρ τ => f_X12_groundClause (mem ρ τ (sp σ p 0)) 188 (nI m)) := by
      intro h
      refine ⟨σ, skp L b p, 1 + 8 * skp L b p + 4, fun ρ τ => ?_, hs, frm.refl _, rfl, by omega, by omega⟩
      refine (start ρ τ).trans ?_
      rw [if_neg k7', ob_mem, Option.bind_some, h, bd_some, if_neg (by decide), ob_mem, Option.bind_some, lit_4, z_fs0, Option.bind_some]
    have going : (∀ ρ τ, f_X12_isFull (mem ρ τ (sp σ (skp L b p) 0)) 188 (nI k) (nI m) = some (0, mem ρ τ (sp σ (skp L b p) 0))) → ∀ R, sRes σ L b R (fun ρ τ => f_X12_groundPart (mem ρ τ (sp σ (we L b (skp L b p)) 0)) 188 (nI k)) → sRes σ L b R (fun ρ τ => f_X12_groundClause (mem ρ τ (sp σ p 0)) 188 (nI m)) := by
      intro h R hR
      obtain ⟨σ', q, e, r1, r2, r3⟩ := hR
      refine ⟨σ', q, e, fun ρ τ => ?_, r2, r3⟩
      refine (start ρ τ).trans ?_
      obtain ⟨w1, w2, w3, w4, w5⟩ := z_word k (by omega) (mem ρ τ (sp σ (skp L b p) 0))
      have iw := hget (by omega)
      unfold isWd at iw
      rw [Bool.and_eq_true] at iw
      have wl := of_decide_eq_true iw.1
      have sl : sLen (9 + k) = (gWs.getD k []).length := by unfold sLen; rw [w3, List.length_map]
      rw [if_neg k7', ob_mem, Option.bind_some, h, bd_some, if_pos rfl, z_pl, Option.bind_some, w1, bd_some, tL_at w2, Option.bind_some, nI_add, sl, ← wl, z_pp, Option.bind_some, ob_mem, Option.bind_some]
      have r1' := r1 ρ τ
      simp only [] at r1'
      rw [r1', Option.bind_some]
    have dead : ∀ μ : Mm, (if (1 : Int32) = 0 ∨ (1 : Int32) = 1 then some ((1 : Int32), μ) else none) = some (1, μ) := fun _ => rfl
    by_cases m40 : m = 40
    · rw [if_pos (.inl m40)]
      exact failed (fun ρ τ => by unfold f_X12_isFull; rw [if_pos (show nI m = 40 by rw [m40]; rfl), dead])
    · have m40' : ¬ nI m = 40 := fun x => m40 ((nI_eq (b := 40) (by omega) (by decide)).1 x)
      by_cases m0 : m = 0
      · have m0' : nI m = 0 := by rw [m0]; rfl
        by_cases k0 : k = 0
        · have k0' : nI k = 0 := by rw [k0]; rfl
          have gf : gFull d k = false := by rw [k0]; rfl
          rw [if_neg (fun x => by rw [gf] at x; rcases x with x | x | x; omega; exact x ⟨fun _ => m0, fun _ => k0⟩; cases x), gPart, if_pos k0]
          refine going (fun ρ τ => ?_) _ (by rw [k0]; exact z_size hX hQ hw)
          unfold f_X12_isFull
          rw [if_neg m40', if_pos k0', if_pos m0', if_pos rfl, if_neg (show ¬ nI k = 1 by rw [k0]; decide), if_neg (show ¬ nI k = 2 by rw [k0]; decide), if_neg (show ¬ nI k = 3 by rw [k0]; decide), if_neg (show ¬ nI k = 4 by rw [k0]; decide), if_neg (show ¬ nI k = 5 by rw [k0]; decide), if_neg (show ¬ nI k = 6 by rw [k0]; decide), if_pos (by decide)]
        · have k0' : ¬ nI k = 0 := fun x => k0 ((nI_eq (b := 0) (by omega) (by decide)).1 x)
          rw [if_pos (.inr (.inl (fun x => k0 (x.2 m0))))]
          exact failed (fun ρ τ => by unfold f_X12_isFull; rw [if_neg m40', if_neg k0', if_pos m0', if_neg (show ¬ (0 : Int32) = 1 by decide), dead])
      · have m0' : ¬ nI m = 0 := fun x => m0 ((nI_eq (b := 0) (by omega) (by decide)).1 x)
        by_cases k0 : k = 0
        · have k0' : nI k = 0 := by rw [k0]; rfl
          rw [if_pos (.inr (.inl (fun x => m0 (x.1 k0))))]
          exact failed (fun ρ τ => by unfold f_X12_isFull; rw [if_neg m40', if_pos k0', if_neg m0', if_neg (show ¬ (1 : Int32) = 0 by decide), dead])
        · have dd := hd (by omega)
          have zf := fun ρ τ => z_full (p := skp L b p) (k := k) (m := m) hQ dd (by omega) (by omega) m0 (by omega) ρ τ
          cases gf : gFull d k with
          | true =>
            rw [if_pos (.inr (.inr rfl))]
            exact failed (fun ρ τ => by rw [zf, gf]; rfl)
          | false =>
            rw [if_neg (fun x => by rcases x with x | x | x; exact m40 x; exact x ⟨fun h => absurd h k0, fun h => absurd h m0⟩; cases x), gPart, if_neg k0]
            refine going (fun ρ τ => by rw [zf, gf]; rfl) _ ?_
            unfold gFull at gf
            have gf := of_decide_eq_false gf
            obtain ⟨a1, a2, a3, a4, -⟩ := hd (by omega)
            have hk' : k = 1 ∨ k = 2 ∨ k = 3 ∨ k = 4 ∨ k = 5 ∨ k = 6 := by omega
            rcases hk' with h | h | h | h | h | h
            · rw [if_pos h, h]
              exact z_row hX hQ dd (by omega) hw
            · rw [if_neg (by omega), if_pos h, h]
              exact z_pers hX hQ dd (by omega) hw
            · rw [if_neg (by omega), if_neg (by omega), if_pos h, h]
              exact z_thng hX hQ dd (by omega) hw
            · rw [if_neg (by omega), if_neg (by omega), if_neg (by omega), if_pos h, h]
              exact z_net hX hQ dd (by omega) hw
            · rw [if_neg (by omega), if_neg (by omega), if_neg (by omega), if_neg (by omega), if_pos h, h]
              exact z_less hX hQ (by omega) hw
            · rw [if_neg (by omega), if_neg (by omega), if_neg (by omega), if_neg (by omega), if_neg (by omega), h]
              exact z_aft hX hQ dd (by omega) hw
end SCLAUSE4
