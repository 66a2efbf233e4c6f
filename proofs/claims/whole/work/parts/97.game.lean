/-! The game. -/
/-- the first of k sides from s on to a lower cell that does not win -/
def sdF (C R : Nat) (h : Nat → Nat) (W : Nat → Bool) (c : Nat) : Nat → Nat → Option Nat
  | _, 0 => none
  | s, k + 1 => match low C R h c s with
    | none => sdF C R h W c (s + 1) k
    | some d => if W d then sdF C R h W c (s + 1) k else some s
def winF (C R : Nat) (h : Nat → Nat) : Nat → Nat → Bool
  | 0, _ => false
  | k + 1, c => (sdF C R h (winF C R h k) c 0 4).isSome
theorem sdF_congr {C R : Nat} {h : Nat → Nat} {W W' : Nat → Bool} {c : Nat} (hC : 0 < C) (hc : c < C * R) (hw : ∀ d, d < C * R → h d < h c → W d = W' d) : ∀ (k s : Nat), sdF C R h W c s k = sdF C R h W' c s k
  | 0, _ => rfl
  | k + 1, s => by
    rw [sdF, sdF]
    cases hl : low C R h c s with
    | none => exact sdF_congr hC hc hw k (s + 1)
    | some d =>
      have q := low_lt hC hc hl
      show (if W d then sdF C R h W c (s + 1) k else some s) = (if W' d then sdF C R h W' c (s + 1) k else some s)
      rw [hw d q.1 q.2, sdF_congr hC hc hw k (s + 1)]
theorem winF_stay {C R : Nat} {h : Nat → Nat} (hC : 0 < C) : ∀ (k c : Nat), c < C * R → h c < k → winF C R h (k + 1) c = winF C R h k c
  | 0, _, _, hk => by omega
  | k + 1, c, hc, hk => by
    rw [winF, winF]
    congr 1
    exact sdF_congr hC hc (fun d hd hlt => winF_stay hC k d hd (by omega)) 4 0
theorem winF_9 {C R : Nat} {h : Nat → Nat} (hC : 0 < C) {c : Nat} (hc : c < C * R) : ∀ (j k : Nat), h c < k → winF C R h (k + j) c = winF C R h k c
  | 0, _, _ => rfl
  | j + 1, k, hk => by
    show winF C R h (k + j + 1) c = _
    rw [winF_stay hC (k + j) c hc (by omega), winF_9 hC hc j k hk]
abbrev winD (D : Dt) : Nat → Bool := winF (dN D 0) (dN D 1) (dh D) 10
abbrev sdD (D : Dt) (W : Nat → Bool) (c : Nat) : Option Nat := sdF (dN D 0) (dN D 1) (dh D) W c 0 4
theorem win_e {nr : Nat} {D : Dt} (hD : DG nr D) {c : Nat} (hc : c < nc D) : winD D c = (sdD D (winD D) c).isSome := by
  have hC := hD.c0 hc
  have h9 := hD.h9 c
  have e : winF (dN D 0) (dN D 1) (dh D) (10 + 1) c = winF (dN D 0) (dN D 1) (dh D) 10 c := winF_stay hC 10 c hc (by omega)
  rw [winD, ← e, winF]
def bI (b : Bool) : Int32 := if b then 1 else 0
theorem bI_0 (b : Bool) : (bI b = 0) = (b = false) := by cases b <;> simp [bI]
theorem nar_b (b : Bool) : narT 2 (bI b) = bI b := by cases b <;> rfl
/-- the row of wins is right below a height, and at it below a cell -/
def Wn (D : Dt) (f : Nat → Int32) (h i : Nat) : Prop := ∀ c, c < nc D → dh D c < h ∨ (dh D c = h ∧ c < i) → f c = bI (winD D c)
section GAME
variable {nr n sl g : Nat} {U : Nat → va_E} {S : Nat → Nat × Nat × Nat} {σ σ1 : Sg} {D : Dt}
theorem c_loserL {T : Tc} {W : Nat → Bool} {c : Nat} (hG : GR n S T g D) (hD : DG nr D) (hc : c < nc D) (hW : ∀ d, d < nc D → dh D d < dh D c → T.2.1 185 d = bI (W d)) (K1 : Mm → Int32 → Option (Int32 × Mm)) (K2 : Mm → Option (Int32 × Mm)) : ∀ (k s f : Nat), s + k = 4 → k < f → f_X8_sideToLoser_L2 K1 K2 f (cn n sl U S T σ1) 181 g (nI c) (nI s) = (match sdF (dN D 0) (dN D 1) (dh D) W c s k with
    | none => K2 (cn n sl U S T σ1)
    | some t => K1 (cn n sl U S T σ1) (nI t)) := by
  have gs := hD.gs (Nat.lt_of_le_of_lt (Nat.zero_le _) hc)
  intro k
  induction k with
  | zero =>
    intro s f h1 h2
    obtain ⟨f, rfl⟩ : ∃ k, f = k + 1 := ⟨f - 1, by omega⟩
    obtain rfl : s = 4 := by omega
    rw [f_X8_sideToLoser_L2, if_pos (by decide)]
    rfl
  | succ k ih =>
    intro s f h1 h2
    obtain ⟨f, rfl⟩ : ∃ k, f = k + 1 := ⟨f - 1, by omega⟩
    have z := ih (s + 1) f (by omega) (by omega)
    rw [f_X8_sideToLoser_L2, if_neg (show ¬ (4 : Int32) ≤ nI s from nI_ge (b := 4) (by omega) (by decide)), g0_o hG.gv, Option.bind_some, c_lower hG.gv hG.cg gs hc (by omega), bd_some, nm_q, sdF]
    cases hl : low (dN D 0) (dN D 1) (dh D) c s with
    | none =>
      rw [if_pos (show oI none = -1 from rfl), nm_q, oin1, nI_add]
      exact z
    | some d =>
      have q := low_lt (hD.c0 hc) hc hl
      have d48 : d < 48 := Nat.lt_of_lt_of_le q.1 hD.n48
      rw [show oI (some d) = nI d from rfl, if_neg (nI_nm1 (by omega)), x181_4, Option.bind_some, x185_r d48, Option.bind_some, hW d q.1 q.2]
      cases hw : W d
      · rw [if_pos (show bI false = 0 from rfl)]
        show _ = (match (if W d then _ else some s) with
          | none => _
          | some t => _)
        rw [hw]; rfl
      · rw [if_neg (show ¬ bI true = 0 by decide), nm_q, oin1, nI_add, z]
        show _ = (match (if W d then _ else some s) with
          | none => _
          | some t => _)
        rw [hw]; rfl
theorem c_loser {T : Tc} {W : Nat → Bool} {c : Nat} (hG : GR n S T g D) (hD : DG nr D) (hc : c < nc D) (hW : ∀ d, d < nc D → dh D d < dh D c → T.2.1 185 d = bI (W d)) : f_X8_sideToLoser (cn n sl U S T σ1) 181 g (nI c) = some (oI (sdD D W c), cn n sl U S T σ1) := by
  have z := c_loserL (sl := sl) (U := U) (σ1 := σ1) hG hD hc hW (fun μ16 x17 => (some (x17, μ16))) (fun μ18 => (some ((-1 : Int32), μ18))) 4 0 FU rfl (by unfold FU; omega)
  rw [show nI 0 = (0 : Int32) from rfl] at z
  unfold f_X8_sideToLoser
  rw [nm_q, z]
  cases hs : sdF (dN D 0) (dN D 1) (dh D) W c 0 4 with
  | none => rw [show sdD D W c = none from hs]; rfl
  | some t => rw [show sdD D W c = some t from hs]; rfl
theorem sdF_lt {C R : Nat} {h : Nat → Nat} {W : Nat → Bool} {c : Nat} : ∀ (k s t : Nat), sdF C R h W c s k = some t → t < s + k
  | 0, _, _, e => by cases e
  | k + 1, s, t, e => by
    rw [sdF] at e
    cases hl : low C R h c s with
    | none =>
      rw [hl] at e
      have := sdF_lt k (s + 1) t e
      omega
    | some d =>
      rw [hl] at e
      have e : (if W d then sdF C R h W c (s + 1) k else some s) = some t := e
      split at e
      · have := sdF_lt k (s + 1) t e
        omega
      · cases e; omega
theorem sd_m1 (W : Nat → Bool) (c : Nat) : (oI (sdD D W c) = -1) = ((sdD D W c).isSome = false) := by
  cases h : sdD D W c with
  | none => exact propext ⟨fun _ => rfl, fun _ => rfl⟩
  | some t =>
    have := sdF_lt 4 0 t h
    exact propext ⟨fun e => absurd e (nI_nm1 (show t < 2 ^ 31 by omega)), fun e => by cases e⟩
theorem c_winL1 {H : Nat} {x : Int32} (hD : DG nr D) (K : Mm → Nat → Nat → Int32 → Int32 → Option (Int32 × Mm)) : ∀ (k i : Nat) (T : Tc) (f : Nat), i + k = nc D → k < f → H ≤ 9 → GR n S T g D → Wn D (T.2.1 185) H i → ∃ T', f_X8_winningSide_L15 K f (cn n sl U S T σ1) 181 g x (nI H) (nI i) = K (cn n sl U S T' σ1) 181 g x (nI H) ∧ agr (Oth 185) T T' ∧ Wn D (T'.2.1 185) (H + 1) 0 := by
  have n48 := hD.n48
  intro k
  induction k with
  | zero =>
    intro i T f h1 h2 hH hG hW
    obtain ⟨f, rfl⟩ : ∃ k, f = k + 1 := ⟨f - 1, by omega⟩
    have ei : i = nc D := by omega
    refine ⟨T, ?_, agr.refl _ _, fun c hc hh => hW c hc (by omega)⟩
    rw [f_X8_winningSide_L15, g0_2 hG.gv, Option.bind_some, hG.cg.2.2.1, if_pos (nI_le (Nat.le_of_eq ei.symm) (by omega))]
  | succ k ih =>
    intro i T f h1 h2 hH hG hW
    obtain ⟨f, rfl⟩ : ∃ k, f = k + 1 := ⟨f - 1, by omega⟩
    have hi : i < nc D := by omega
    have i48 : i < 48 := by omega
    have h9 := hD.h9 i
    have hgl := hG.gv.loc
    rw [f_X8_winningSide_L15, g0_2 hG.gv, Option.bind_some, hG.cg.2.2.1, if_neg (nI_ge hi (Nat.lt_of_le_of_lt n48 (by decide))), g0_3 hG.gv, Option.bind_some, g1_r hG.gv i48, Option.bind_some, hG.cg.2.2.2 i hi]
    by_cases hh : dh D i = H
    · have ls := c_loser (sl := sl) (U := U) (σ1 := σ1) (W := winD D) hG hD hi (fun d hd hlt => hW d hd (.inl (by omega)))
      have nx : ∀ b : Bool, b = winD D i → ∃ T', f_X8_winningSide_L15 K f (cn n sl U S (tA T 185 i (bI b)) σ1) 181 g x (nI H) (nI (i + 1)) = K (cn n sl U S T' σ1) 181 g x (nI H) ∧ agr (Oth 185) T T' ∧ Wn D (T'.2.1 185) (H + 1) 0 := by
        intro b hb
        have ag : agr (Oth 185) T (tA T 185 i (bI b)) := agr_tA _ _ (fun h => h rfl)
        obtain ⟨T', z1, z2, z3⟩ := ih (i + 1) (tA T 185 i (bI b)) f (by omega) (by omega) hH (hG.ext hG.gv ag (fun j hj => by show _ ≠ 185; omega)) (fun c hc hx => by
          rw [tA2]
          by_cases e : c = i
          · rw [if_pos ⟨rfl, e⟩, e, hb]
          · rw [if_neg (fun h => e h.2)]; exact hW c hc (by omega))
        exact ⟨T', z1, ag.trans z2, z3⟩
      have we := win_e hD hi
      have sm := sd_m1 (D := D) (winD D) i
      rw [if_pos (by rw [hh]), x181_4, Option.bind_some, x181_o, Option.bind_some, ls, bd_some]
      cases hs : (sdD D (winD D) i).isSome
      · obtain ⟨T', z1, z2⟩ := nx false (by rw [we, hs])
        refine ⟨T', ?_, z2⟩
        rw [if_pos (by rw [sm]; exact hs), x185_w i48, show narT 2 0 = bI false from rfl, Option.bind_some, nm_q, oin1, nI_add]
        exact z1
      · obtain ⟨T', z1, z2⟩ := nx true (by rw [we, hs])
        refine ⟨T', ?_, z2⟩
        rw [if_neg (by rw [sm, hs]; decide), x185_w i48, show narT 2 1 = bI true from rfl, Option.bind_some, nm_q, oin1, nI_add]
        exact z1
    · obtain ⟨T', z1, z2, z3⟩ := ih (i + 1) T f (by omega) (by omega) hH hG (fun c hc hx => by
        by_cases e : c = i
        · subst e; exact hW c hc (by omega)
        · exact hW c hc (by omega))
      refine ⟨T', ?_, z2, z3⟩
      rw [if_neg (fun e => hh ((nI_eq (by omega) (by omega)).1 e)), nm_q, oin1, nI_add]
      exact z1
theorem c_winL2 {c : Nat} (hD : DG nr D) (hc : c < nc D) (K : Mm → Nat → Nat → Int32 → Option (Int32 × Mm)) : ∀ (k H : Nat) (T : Tc) (f : Nat), H + k = dh D c → k < f → GR n S T g D → Wn D (T.2.1 185) H 0 → ∃ T', f_X8_winningSide_L2 K f (cn n sl U S T σ1) 181 g (nI c) (nI H) = K (cn n sl U S T' σ1) 181 g (nI c) ∧ agr (Oth 185) T T' ∧ Wn D (T'.2.1 185) (dh D c) 0 := by
  have n48 := hD.n48
  have h9 := hD.h9 c
  have c48 : c < 48 := Nat.lt_of_lt_of_le hc n48
  intro k
  induction k with
  | zero =>
    intro H T f h1 h2 hG hW
    obtain ⟨f, rfl⟩ : ∃ k, f = k + 1 := ⟨f - 1, by omega⟩
    have eH : H = dh D c := by omega
    refine ⟨T, ?_, agr.refl _ _, by rw [← eH]; exact hW⟩
    rw [f_X8_winningSide_L2, g0_3 hG.gv, Option.bind_some, g1_r hG.gv c48, Option.bind_some, hG.cg.2.2.2 c hc, if_pos (nI_le (by omega) (by omega))]
  | succ k ih =>
    intro H T f h1 h2 hG hW
    obtain ⟨f, rfl⟩ : ∃ k, f = k + 1 := ⟨f - 1, by omega⟩
    have hgl := hG.gv.loc
    obtain ⟨T1, a1, a2, a3⟩ := c_winL1 (sl := sl) (U := U) (σ1 := σ1) (g := g) (x := nI c) (H := H) hD (fun μ28 a29 a30 x31 x32 =>
    (nm (x32 + Int32.ofInt (1)) fun x33 =>
    f_X8_winningSide_L2 K f μ28 a29 a30 x31 x33)) (nc D) 0 T FU (by omega) (Nat.lt_of_le_of_lt n48 (by unfold FU; omega)) (by omega) hG hW
    rw [show nI 0 = (0 : Int32) from rfl] at a1
    obtain ⟨T', z1, z2, z3⟩ := ih (H + 1) T1 f (by omega) (by omega) (hG.ext hG.gv a2 (fun j hj => by show _ ≠ 185; omega)) a3
    refine ⟨T', ?_, a2.trans z2, z3⟩
    rw [f_X8_winningSide_L2, g0_3 hG.gv, Option.bind_some, g1_r hG.gv c48, Option.bind_some, hG.cg.2.2.2 c hc, if_neg (nI_ge (by omega) (by omega)), nm_q, a1, nm_q, oin1, nI_add]
    exact z1
theorem c_winSide {T : Tc} {c : Nat} (hD : DG nr D) (hc : c < nc D) (hG : GR n S T g D) : ∃ T', f_X8_winningSide (cn n sl U S T σ1) 181 g (nI c) = some (oI (sdD D (winD D) c), cn n sl U S T' σ1) ∧ agr (Oth 185) T T' := by
  have hgl := hG.gv.loc
  have h9 := hD.h9 c
  obtain ⟨T', z1, z2, z3⟩ := c_winL2 (sl := sl) (U := U) (σ1 := σ1) hD hc (fun μ34 a35 a36 x37 =>
    ((ob μ34 a35 8).bind fun _ =>
    (bd (f_X8_sideToLoser μ34 a35 a36 x37) fun v39 μ38 =>
    (some (v39, μ38))))) (dh D c) 0 T FU (by omega) (by unfold FU; omega) hG (fun _ _ h => by omega)
  rw [show nI 0 = (0 : Int32) from rfl] at z1
  refine ⟨T', ?_, z2⟩
  unfold f_X8_winningSide
  rw [nm_q, z1, x181_o, Option.bind_some, c_loser (W := winD D) (hG.ext hG.gv z2 (fun j hj => by show _ ≠ 185; omega)) hD hc (fun d hd hlt => z3 d hd (.inl hlt)), bd_some]
end GAME
