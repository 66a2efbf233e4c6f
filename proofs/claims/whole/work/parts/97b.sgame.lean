/-! The reference's game. -/
section SGAME
variable {nr : Nat} {σ σ1 : Sg}
theorem s_lowX (hD : DG nr (cur σ)) (he : Eqm σ σ1) {c s : Nat} (hc : c < nc (cur σ)) (hs : s < 4) (ρ : Mm) (τ : Nat → va_E) : f_X12_lower (mem ρ τ σ1) 188 (nI c) (nI s) = some (oI (low (dN (cur σ) 0) (dN (cur σ) 1) (dh (cur σ)) c s), mem ρ τ σ1) := by
  have h1 : DG nr (cur σ1) := by rw [he.cu]; exact hD
  have mg := h1.mg
  rw [he.cu] at mg
  exact s_lower mg (hD.gs (Nat.lt_of_le_of_lt (Nat.zero_le _) hc)) hc hs
theorem s_celX (hD : DG nr (cur σ)) (he : Eqm σ σ1) (ρ : Mm) (τ : Nat → va_E) : f_X12_cells (mem ρ τ σ1) 188 = some (nI (nc (cur σ)), mem ρ τ σ1) := by
  have h1 : DG nr (cur σ1) := by rw [he.cu]; exact hD
  have mg := h1.mg
  rw [he.cu] at mg
  exact s_cells mg
theorem s_loserL {W : Nat → Bool} {c : Nat} (hD : DG nr (cur σ)) (he : Eqm σ σ1) (hc : c < nc (cur σ)) (hW : ∀ d, d < nc (cur σ) → dh (cur σ) d < dh (cur σ) c → σ1.2.1 236 d = bI (W d)) (K1 : Mm → Int32 → Option (Int32 × Mm)) (K2 : Mm → Option (Int32 × Mm)) (ρ : Mm) (τ : Nat → va_E) : ∀ (k s f : Nat), s + k = 4 → k < f → f_X12_winningFrom_L2 K1 K2 f (mem ρ τ σ1) 188 (nI c) (nI s) = (match sdF (dN (cur σ) 0) (dN (cur σ) 1) (dh (cur σ)) W c s k with
    | none => K2 (mem ρ τ σ1)
    | some t => K1 (mem ρ τ σ1) (nI t)) := by
  intro k
  induction k with
  | zero =>
    intro s f h1 h2
    obtain ⟨f, rfl⟩ : ∃ k, f = k + 1 := ⟨f - 1, by omega⟩
    obtain rfl : s = 4 := by omega
    rw [f_X12_winningFrom_L2, if_pos (by decide)]
    rfl
  | succ k ih =>
    intro s f h1 h2
    obtain ⟨f, rfl⟩ : ∃ k, f = k + 1 := ⟨f - 1, by omega⟩
    have z := ih (s + 1) f (by omega) (by omega)
    rw [f_X12_winningFrom_L2, if_neg (show ¬ (4 : Int32) ≤ nI s from nI_ge (b := 4) (by omega) (by decide)), ob_mem, Option.bind_some, s_lowX hD he hc (by omega), bd_some, nm_q, sdF]
    cases hl : low (dN (cur σ) 0) (dN (cur σ) 1) (dh (cur σ)) c s with
    | none =>
      rw [if_pos (show oI none = -1 from rfl), nm_q, oin1, nI_add]
      exact z
    | some d =>
      have q := low_lt (hD.c0 hc) hc hl
      have d48 : d < 48 := Nat.lt_of_lt_of_le q.1 hD.n48
      rw [show oI (some d) = nI d from rfl, if_neg (nI_nm1 (by omega)), mR_68, Option.bind_some, y236_r d48, Option.bind_some, hW d q.1 q.2]
      cases hw : W d
      · rw [if_pos (show bI false = 0 from rfl)]
        show _ = (match (if W d then _ else some s) with
          | none => _
          | some t => _)
        rw [hw]; rfl
      · rw [if_neg (show ¬ bI true = 0 by decide), nm_q, oin1, nI_add, z]
        show _ = (match (if W d then _ else some s) with
          | none => _
          | some t => _)
        rw [hw]; rfl
theorem s_loser {W : Nat → Bool} {c : Nat} (hD : DG nr (cur σ)) (he : Eqm σ σ1) (hc : c < nc (cur σ)) (hW : ∀ d, d < nc (cur σ) → dh (cur σ) d < dh (cur σ) c → σ1.2.1 236 d = bI (W d)) (ρ : Mm) (τ : Nat → va_E) : f_X12_winningFrom (mem ρ τ σ1) 188 (nI c) = some (oI (sdD (cur σ) W c), mem ρ τ σ1) := by
  have z := s_loserL hD he hc hW (fun μ14 x15 => (some (x15, μ14))) (fun μ16 => (some ((-1 : Int32), μ16))) ρ τ 4 0 FU rfl (by unfold FU; omega)
  rw [show nI 0 = (0 : Int32) from rfl] at z
  unfold f_X12_winningFrom
  rw [nm_q, z]
  cases hs : sdF (dN (cur σ) 0) (dN (cur σ) 1) (dh (cur σ)) W c 0 4 with
  | none => rw [show sdD (cur σ) W c = none from hs]; rfl
  | some t => rw [show sdD (cur σ) W c = some t from hs]; rfl
theorem s_winL1 {H : Nat} {x w : Int32} (hD : DG nr (cur σ)) (K : Mm → Nat → Int32 → Int32 → Int32 → Option (Int32 × Mm)) : ∀ (k i : Nat) (σ1 : Sg) (f : Nat), i + k = nc (cur σ) → k < f → H ≤ 9 → Eqm σ σ1 → Wn (cur σ) (σ1.2.1 236) H i → ∃ σ', (∀ ρ τ, f_X12_game_L31 K f (mem ρ τ σ1) 188 x w (nI H) (nI i) = K (mem ρ τ σ') 188 x w (nI H)) ∧ Eqm σ σ' ∧ Wn (cur σ) (σ'.2.1 236) (H + 1) 0 := by
  have n48 := hD.n48
  intro k
  induction k with
  | zero =>
    intro i σ1 f h1 h2 hH he hW
    obtain ⟨f, rfl⟩ : ∃ k, f = k + 1 := ⟨f - 1, by omega⟩
    have ei : i = nc (cur σ) := by omega
    refine ⟨σ1, fun ρ τ => ?_, he, fun c hc hh => hW c hc (by omega)⟩
    rw [f_X12_game_L31, ob_mem, Option.bind_some, s_celX hD he, bd_some, if_pos (nI_le (Nat.le_of_eq ei.symm) (by omega))]
  | succ k ih =>
    intro i σ1 f h1 h2 hH he hW
    obtain ⟨f, rfl⟩ : ∃ k, f = k + 1 := ⟨f - 1, by omega⟩
    have hi : i < nc (cur σ) := by omega
    have i48 : i < 48 := by omega
    have h9 := hD.h9 i
    have eh : σ1.2.1 190 i = nI (dh (cur σ) i) := by rw [he.2.2.2.2 190 (by unfold PerM; omega), ← cu_190 i48]; exact hD.hh i i48
    by_cases hh : dh (cur σ) i = H
    · have we := win_e hD hi
      have sm := sd_m1 (D := cur σ) (winD (cur σ)) i
      obtain ⟨σ', z1, z2, z3⟩ := ih (i + 1) (stA σ1 236 i (bI (winD (cur σ) i))) f (by omega) (by omega) hH (he.trans (eqm_stA _ _ _ (by unfold PerM; omega))) (fun c hc hx => by
        rw [stA2]
        by_cases e : c = i
        · rw [if_pos ⟨rfl, e⟩, e]
        · rw [if_neg (fun h => e h.2)]; exact hW c hc (by omega))
      refine ⟨σ', fun ρ τ => ?_, z2, z3⟩
      have z1 := z1 ρ τ
      rw [f_X12_game_L31, ob_mem, Option.bind_some, s_celX hD he, bd_some, if_neg (nI_ge hi (Nat.lt_of_le_of_lt n48 (by decide))), mR_2, Option.bind_some, y190_r i48, Option.bind_some, eh, if_pos (by rw [hh]), mR_68, Option.bind_some, ob_mem, Option.bind_some, s_loser (W := winD (cur σ)) hD he hi (fun d hd hlt => hW d hd (.inl (by omega))), bd_some]
      cases hs : (sdD (cur σ) (winD (cur σ)) i).isSome
      · rw [we, hs] at z1
        rw [if_pos (by rw [sm]; exact hs), y236_w i48, show narT 2 0 = bI false from rfl, Option.bind_some, nm_q, oin1, nI_add]
        exact z1
      · rw [we, hs] at z1
        rw [if_neg (by rw [sm, hs]; decide), y236_w i48, show narT 2 1 = bI true from rfl, Option.bind_some, nm_q, oin1, nI_add]
        exact z1
    · obtain ⟨σ', z1, z2, z3⟩ := ih (i + 1) σ1 f (by omega) (by omega) hH he (fun c hc hx => by
        by_cases e : c = i
        · subst e; exact hW c hc (by omega)
        · exact hW c hc (by omega))
      refine ⟨σ', fun ρ τ => ?_, z2, z3⟩
      rw [f_X12_game_L31, ob_mem, Option.bind_some, s_celX hD he, bd_some, if_neg (nI_ge hi (Nat.lt_of_le_of_lt n48 (by decide))), mR_2, Option.bind_some, y190_r i48, Option.bind_some, eh, if_neg (fun e => hh ((nI_eq (by omega) (by omega)).1 e)), nm_q, oin1, nI_add]
      exact z1 ρ τ
theorem s_winL2 {x w : Int32} (hD : DG nr (cur σ)) (K : Mm → Nat → Int32 → Int32 → Option (Int32 × Mm)) : ∀ (k H : Nat) (σ1 : Sg) (f : Nat), H + k = 10 → k < f → Eqm σ σ1 → Wn (cur σ) (σ1.2.1 236) H 0 → ∃ σ', (∀ ρ τ, f_X12_game_L22 K f (mem ρ τ σ1) 188 x w (nI H) = K (mem ρ τ σ') 188 x w) ∧ Eqm σ σ' ∧ Wn (cur σ) (σ'.2.1 236) 10 0 := by
  have n48 := hD.n48
  intro k
  induction k with
  | zero =>
    intro H σ1 f h1 h2 he hW
    obtain ⟨f, rfl⟩ : ∃ k, f = k + 1 := ⟨f - 1, by omega⟩
    obtain rfl : H = 10 := by omega
    refine ⟨σ1, fun ρ τ => ?_, he, hW⟩
    rw [f_X12_game_L22, if_pos (by decide)]
  | succ k ih =>
    intro H σ1 f h1 h2 he hW
    obtain ⟨f, rfl⟩ : ∃ k, f = k + 1 := ⟨f - 1, by omega⟩
    obtain ⟨σ2, a1, a2, a3⟩ := s_winL1 (x := x) (w := w) (H := H) hD (fun μ31 a32 x33 x34 x35 =>
    (nm (x35 + Int32.ofInt (1)) fun x36 =>
    f_X12_game_L22 K f μ31 a32 x33 x34 x36)) (nc (cur σ)) 0 σ1 FU (by omega) (Nat.lt_of_le_of_lt n48 (by unfold FU; omega)) (by omega) he hW
    obtain ⟨σ', z1, z2, z3⟩ := ih (H + 1) σ2 f (by omega) (by omega) a2 a3
    refine ⟨σ', fun ρ τ => ?_, z2, z3⟩
    have a1 := a1 ρ τ
    rw [show nI 0 = (0 : Int32) from rfl] at a1
    rw [f_X12_game_L22, if_neg (show ¬ (10 : Int32) ≤ nI H from nI_ge (b := 10) (by omega) (by decide)), nm_q, a1, nm_q, oin1, nI_add]
    exact z1 ρ τ
end SGAME
theorem op_game (x w : Int32) : OpR (fun μ => f_X11_game μ 128 x w) (fun μ => f_X12_game μ 188 x w) := by
  refine OpR.q fun n sl U S T σ nr hR => ?_
  obtain ⟨hN, hTP, hRU, hIM, hD, hS⟩ := hR
  have n48 := hD.n48
  show ∃ v T' σ', f_X11_game (cn n sl U S T σ) 128 x w = some (v, cn n sl U S T' σ) ∧ agr (Ns S) T T' ∧ (∀ ρ τ, f_X12_game (mem ρ τ σ) 188 x w = some (v, mem ρ τ σ')) ∧ Eqm σ σ'
  unfold f_X11_game f_X12_game
  rw [x128_o, Option.bind_some, c_isCell hS, bd_some]
  by_cases hq : isN x (nc (cur σ))
  · have e2 : isN w 2 ↔ (¬ w < 0 ∧ w ≤ 1) := by
      unfold isN
      rw [i32le, i32lt, i32lt, i32le]
      have e1 : (1 : Int32).toInt = 1 := rfl
      have e2 : (nI 2).toInt = 2 := rfl
      omega
    by_cases hw : isN w 2
    · obtain ⟨c, hc, rfl⟩ := isN_of (by omega) hq
      obtain ⟨k, hk, rfl⟩ := isN_of (by decide) hw
      have c48 : c < 48 := Nat.lt_of_lt_of_le hc n48
      have h9 := hD.h9 c
      obtain ⟨T', a1, a2⟩ := c_winSide (sl := sl) (U := U) (σ1 := σ) hD hc hS.la
      obtain ⟨σ', b1, b2, b3⟩ := s_winL2 (x := nI c) (w := nI k) hD (fun μ37 a38 x39 x40 =>
    (if x40 = 0 then
    ((gR μ37 a38 12 68).bind fun v41 =>
    ((aI μ37 v41 2 x39).bind fun v42 =>
    (if v42 = 0 then
    (some ((0 : Int32), μ37))
    else
    (some ((1 : Int32), μ37)))))
    else
    ((gR μ37 a38 12 68).bind fun v43 =>
    ((aI μ37 v43 2 x39).bind fun v44 =>
    (if v44 = 0 then
    (some ((-2 : Int32), μ37))
    else
    ((ob μ37 a38 12).bind fun _ =>
    (bd (f_X12_winningFrom μ37 a38 x39) fun v46 μ45 =>
    (some (v46, μ45))))))))) 10 0 σ FU rfl (by unfold FU; omega) (Eqm.refl σ) (fun _ _ h => by omega)
      have we := win_e hD hc
      have wc : σ'.2.1 236 c = bI (winD (cur σ) c) := b3 c hc (.inl (by omega))
      have ls : ∀ ρ τ, f_X12_winningFrom (mem ρ τ σ') 188 (nI c) = some (oI (sdD (cur σ) (winD (cur σ)) c), mem ρ τ σ') := s_loser hD b2 hc (fun d hd hlt => b3 d hd (.inl (by have := hD.h9 d; omega)))
      have sm := sd_m1 (D := cur σ) (winD (cur σ)) c
      have n1 : agr (Ns S) T T' := ns_scr a2 (.inr (by omega))
      rw [if_pos hq, if_neg (by decide), if_neg (e2.1 hw).1, if_pos (e2.1 hw).2, x128_12, Option.bind_some, x128_6, Option.bind_some, s0_0 hS.sv, Option.bind_some, x181_o, Option.bind_some, a1, bd_some, nm_q]
      refine ⟨if nI k = 0 then bI (winD (cur σ) c) else if winD (cur σ) c then oI (sdD (cur σ) (winD (cur σ)) c) else -2, T', σ', ?_, n1, fun ρ τ => ?_, b2⟩
      · cases hs : (sdD (cur σ) (winD (cur σ)) c).isSome
        · have hm : oI (sdD (cur σ) (winD (cur σ)) c) = -1 := by rw [sm]; exact hs
          rw [we, hs]
          by_cases hk0 : nI k = 0
          · rw [if_pos hk0, if_pos hk0, if_pos hm]; rfl
          · rw [if_neg hk0, if_neg hk0, if_pos hm]; rfl
        · have hm : ¬ oI (sdD (cur σ) (winD (cur σ)) c) = -1 := by rw [sm, hs]; decide
          rw [we, hs]
          by_cases hk0 : nI k = 0
          · rw [if_pos hk0, if_pos hk0, if_neg hm]; rfl
          · rw [if_neg hk0, if_neg hk0, if_neg hm, if_pos rfl]
      · have b1 := b1 ρ τ
        rw [show nI 0 = (0 : Int32) from rfl] at b1
        rw [ob_mem, Option.bind_some, s_isC hD, bd_some, if_pos hq, if_neg (by decide), s_in, bd_some, if_pos (in01.2 hw), if_neg (by decide), nm_q, b1]
        by_cases hk0 : nI k = 0
        · rw [if_pos hk0, if_pos hk0, mR_68, Option.bind_some, y236_r c48, Option.bind_some, wc]
          cases winD (cur σ) c
          · rw [if_pos (show bI false = 0 from rfl)]; rfl
          · rw [if_neg (show ¬ bI true = 0 by decide)]; rfl
        · rw [if_neg hk0, if_neg hk0, mR_68, Option.bind_some, y236_r c48, Option.bind_some, wc]
          cases hwin : winD (cur σ) c
          · rw [if_pos (show bI false = 0 from rfl)]; rfl
          · rw [if_neg (show ¬ bI true = 0 by decide), ob_mem, Option.bind_some, ls, bd_some, if_pos rfl]
    · refine ⟨-1, T, σ, ?_, agr.refl _ _, fun ρ τ => ?_, Eqm.refl _⟩
      · rw [if_pos hq, if_neg (by decide)]
        by_cases h1 : w < 0
        · rw [if_pos h1]
        · rw [if_neg h1, if_neg (fun h => hw (e2.2 ⟨h1, h⟩))]
      · rw [ob_mem, Option.bind_some, s_isC hD, bd_some, if_pos hq, if_neg (by decide), s_in, bd_some, if_neg (fun h => hw (in01.1 h)), if_pos rfl]
  · refine ⟨-1, T, σ, ?_, agr.refl _ _, fun ρ τ => ?_, Eqm.refl _⟩
    · rw [if_neg hq, if_pos rfl]
    · rw [ob_mem, Option.bind_some, s_isC hD, bd_some, if_neg hq, if_pos rfl]
