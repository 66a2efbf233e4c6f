/-! Chances: the reference's loops; the call. -/
def wF (σ : Sg) (k : Nat) (F : Nat → Nat) : Sg := (σ.1, σ.2.1, fun r i => if r = 237 ∧ i < k then lG (F i) else σ.2.2 r i)
section CHANCE
variable {nr : Nat} {σ : Sg}
theorem wF_e (σ : Sg) (k : Nat) (F : Nat → Nat) : Eqm σ (wF σ k F) := ⟨rfl, rfl, rfl, rfl, fun _ _ => rfl⟩
theorem wF_0 (σ : Sg) (F : Nat → Nat) : wF σ 0 F = σ := by
  refine Prod.ext rfl (Prod.ext rfl (funext fun q => funext fun j => ?_))
  show (if q = 237 ∧ j < 0 then lG (F j) else σ.2.2 q j) = _
  rw [if_neg (fun h => by omega)]
theorem wF_s (σ : Sg) (k : Nat) (F : Nat → Nat) : stL (wF σ k F) 237 k (lG (F k)) = wF σ (k + 1) F := by
  refine Prod.ext rfl (Prod.ext rfl (funext fun q => funext fun j => ?_))
  rw [stL3]
  show (if q = 237 ∧ j = k then lG (F k) else if q = 237 ∧ j < k then lG (F j) else σ.2.2 q j) = if q = 237 ∧ j < k + 1 then lG (F j) else σ.2.2 q j
  by_cases hq : q = 237
  · by_cases hj : j = k
    · rw [if_pos ⟨hq, hj⟩, if_pos ⟨hq, by omega⟩, hj]
    · rw [if_neg (fun h => hj h.2)]
      by_cases h48 : j < k
      · rw [if_pos ⟨hq, h48⟩, if_pos ⟨hq, by omega⟩]
      · rw [if_neg (fun h => h48 h.2), if_neg (fun h => by omega)]
  · rw [if_neg (fun h => hq h.1), if_neg (fun h => hq h.1), if_neg (fun h => hq h.1)]
theorem wF_r {F : Nat → Nat} {i : Nat} (hi : i < 48) (ρ : Mm) (τ : Nat → va_E) : aL (mem ρ τ (wF σ 48 F)) 237 3 (nI i) = some (lG (F i)) := by
  rw [y237_r hi]
  show some (if 237 = 237 ∧ i < 48 then lG (F i) else _) = _
  rw [if_pos ⟨rfl, hi⟩]
theorem wF_w {F : Nat → Nat} {i v : Nat} (hi : i < 48) (ρ : Mm) (τ : Nat → va_E) : sL (mem ρ τ (wF σ 48 F)) 237 3 (nI i) (lG v) = some (mem ρ τ (wF σ 48 (upN F i v))) := by
  have e : stL (wF σ 48 F) 237 i (lG v) = wF σ 48 (upN F i v) := by
    refine Prod.ext rfl (Prod.ext rfl (funext fun q => funext fun j => ?_))
    rw [stL3]
    show (if q = 237 ∧ j = i then lG v else if q = 237 ∧ j < 48 then lG (F j) else σ.2.2 q j) = if q = 237 ∧ j < 48 then lG (if j = i then v else F j) else σ.2.2 q j
    by_cases hq : q = 237
    · by_cases hj : j = i
      · rw [if_pos ⟨hq, hj⟩, if_pos ⟨hq, by omega⟩, if_pos hj]
      · rw [if_neg (fun h => hj h.2), if_neg hj]
    · rw [if_neg (fun h => hq h.1), if_neg (fun h => hq h.1), if_neg (fun h => hq h.1)]
  rw [y237_w hi, e]
theorem s_flL1 {x : Int32} (K : Mm → Nat → Int32 → Option Mm) (ρ : Mm) (τ : Nat → va_E) : ∀ (k i f : Nat), i + k = 48 → k < f → f_X12_flowsFrom_L2 K f (mem ρ τ (wF σ i (fun _ => 0))) 188 x (nI i) = K (mem ρ τ (wF σ 48 (fun _ => 0))) 188 x := by
  intro k
  induction k with
  | zero =>
    intro i f h1 h2
    obtain ⟨f, rfl⟩ : ∃ k, f = k + 1 := ⟨f - 1, by omega⟩
    obtain rfl : i = 48 := by omega
    rw [f_X12_flowsFrom_L2, if_pos (by decide)]
  | succ k ih =>
    intro i f h1 h2
    obtain ⟨f, rfl⟩ : ∃ k, f = k + 1 := ⟨f - 1, by omega⟩
    have e : stL (wF σ i (fun _ => 0)) 237 i (0 : Int64) = wF σ (i + 1) (fun _ => 0) := wF_s σ i (fun _ => 0)
    rw [f_X12_flowsFrom_L2, if_neg (show ¬ (48 : Int32) ≤ nI i from nI_ge (b := 48) (by omega) (by decide)), mR_69, Option.bind_some, y237_w (by omega), Option.bind_some, e, nm_q, oin1, nI_add]
    exact ih (i + 1) f (by omega) (by omega)
theorem s_flH (hD : DG nr (cur σ)) {σ1 : Sg} (he : Eqm σ σ1) {c : Nat} (hc : c < nc (cur σ)) (ρ : Mm) (τ : Nat → va_E) : aI (mem ρ τ σ1) 190 0 (nI c) = some (nI (dh (cur σ) c)) := by
  have h1 : DG nr (cur σ1) := by rw [he.cu]; exact hD
  have mg := h1.mg
  rw [he.cu] at mg
  exact h_at mg hD.n48 hc
theorem s_flL2 {F : Nat → Nat} {c : Nat} (hD : DG nr (cur σ)) (hc : c < nc (cur σ)) (K : Mm → Nat → Int32 → Int32 → Int32 → Option Mm) (ρ : Mm) (τ : Nat → va_E) : ∀ (k s f : Nat), s + k = 4 → k < f → f_X12_flowsFrom_L53 K f (mem ρ τ (wF σ 48 F)) 188 (nI (dh (cur σ) c)) (nI c) (nI (sdS (cur σ) (fun _ => 1) c s)) (nI s) = K (mem ρ τ (wF σ 48 F)) 188 (nI (dh (cur σ) c)) (nI c) (nI (wys (cur σ) c)) := by
  have he := wF_e σ 48 F
  intro k
  induction k with
  | zero =>
    intro s f h1 h2
    obtain ⟨f, rfl⟩ : ∃ k, f = k + 1 := ⟨f - 1, by omega⟩
    obtain rfl : s = 4 := by omega
    rw [f_X12_flowsFrom_L53, if_pos (by decide)]
    rfl
  | succ k ih =>
    intro s f h1 h2
    obtain ⟨f, rfl⟩ : ∃ k, f = k + 1 := ⟨f - 1, by omega⟩
    have z := ih (s + 1) f (by omega) (by omega)
    rw [sdS] at z
    rw [f_X12_flowsFrom_L53, if_neg (show ¬ (4 : Int32) ≤ nI s from nI_ge (b := 4) (by omega) (by decide)), mR_2, Option.bind_some, s_flH hD he hc, Option.bind_some, if_pos rfl, ob_mem, Option.bind_some, s_lowX hD he hc (by omega), bd_some]
    cases hl : low (dN (cur σ) 0) (dN (cur σ) 1) (dh (cur σ)) c s with
    | none =>
      rw [show lowD (cur σ) c s = none from hl] at z
      rw [if_pos (show oI none = -1 from rfl), nm_q, nm_q, add0, oin1, nI_add]
      exact z
    | some e =>
      have q := low_lt (hD.c0 hc) hc hl
      rw [show lowD (cur σ) c s = some e from hl] at z
      rw [show oI (some e) = nI e from rfl, if_neg (nI_nm1 (Nat.lt_of_lt_of_le q.1 (Nat.le_trans hD.n48 (by decide)))), nm_q, nm_q, lit_1, nI_add, oin1, nI_add]
      exact z
theorem s_flL3 {F : Nat → Nat} {c : Nat} {x : Int32} (hD : DG nr (cur σ)) (hc : c < nc (cur σ)) (hw : wys (cur σ) c ≠ 0) (hF : F c ≤ 12 ^ 9) (K : Mm → Nat → Int32 → Int32 → Option Mm) (ρ : Mm) (τ : Nat → va_E) : ∀ (k s f : Nat), s + k = 4 → k < f → f_X12_flowsFrom_L99 K f (mem ρ τ (wF σ 48 (ad (cur σ) (F c / wys (cur σ) c) c F s))) 188 x (nI c) (nI (wys (cur σ) c)) (nI s) = K (mem ρ τ (wF σ 48 (ad (cur σ) (F c / wys (cur σ) c) c F 4))) 188 x (nI c) := by
  have n48 := hD.n48
  have w4 := wys_4 (cur σ) c
  have c48 : c < 48 := Nat.lt_of_lt_of_le hc n48
  have F63 : F c < 2 ^ 63 := Nat.lt_of_le_of_lt hF (by decide)
  intro k
  induction k with
  | zero =>
    intro s f h1 h2
    obtain ⟨f, rfl⟩ : ∃ k, f = k + 1 := ⟨f - 1, by omega⟩
    obtain rfl : s = 4 := by omega
    rw [f_X12_flowsFrom_L99, if_pos (by decide)]
  | succ k ih =>
    intro s f h1 h2
    obtain ⟨f, rfl⟩ : ∃ k, f = k + 1 := ⟨f - 1, by omega⟩
    have z := ih (s + 1) f (by omega) (by omega)
    have he := fun G => wF_e σ 48 G
    have sf := ad_self hD (q := F c / wys (cur σ) c) (F := F) hc s
    rw [ad] at z
    rw [f_X12_flowsFrom_L99, if_neg (show ¬ (4 : Int32) ≤ nI s from nI_ge (b := 4) (by omega) (by decide)), if_neg (show ¬ nI (wys (cur σ) c) ≤ 0 from nI_ge (a := 0) (by omega) (by omega)), ob_mem, Option.bind_some, s_lowX hD (he _) hc (by omega), bd_some]
    cases hl : low (dN (cur σ) 0) (dN (cur σ) 1) (dh (cur σ)) c s with
    | none =>
      rw [show lowD (cur σ) c s = none from hl] at z
      rw [if_pos (show oI none = -1 from rfl), nm_q, oin1, nI_add]
      exact z
    | some e =>
      have q := low_lt (hD.c0 hc) hc hl
      have e48 : e < 48 := Nat.lt_of_lt_of_le q.1 n48
      rw [show lowD (cur σ) c s = some e from hl] at z
      rw [show oI (some e) = nI e from rfl, if_neg (nI_nm1 (by omega)), mR_69, Option.bind_some, ob_mem, Option.bind_some, s_lowX hD (he _) hc (by omega), bd_some, hl, show oI (some e) = nI e from rfl, wF_r e48, Option.bind_some, mR_69, Option.bind_some, wF_r c48, Option.bind_some, sf, lG_i (by omega), dv_q F63 (by omega) hw, lG_add, wF_w e48, Option.bind_some, nm_q, oin1, nI_add]
      exact z
theorem s_flL4 {a o h : Nat} (hD : DG nr (cur σ)) (ho : o < nc (cur σ)) (hh : 0 < h) (h9 : h ≤ 9) (K : Mm → Nat → Int32 → Option Mm) : ∀ (k i f : Nat) (F : Nat → Nat), i + k = nc (cur σ) → k < f → FI (cur σ) o a h i F → ∃ F', (∀ ρ τ, f_X12_flowsFrom_L39 K f (mem ρ τ (wF σ 48 F)) 188 (nI h) (nI i) = K (mem ρ τ (wF σ 48 F')) 188 (nI h)) ∧ FI (cur σ) o a h (nc (cur σ)) F' := by
  have n48 := hD.n48
  intro k
  induction k with
  | zero =>
    intro i f F h1 h2 hI
    obtain ⟨f, rfl⟩ : ∃ k, f = k + 1 := ⟨f - 1, by omega⟩
    have ei : i = nc (cur σ) := by omega
    refine ⟨F, fun ρ τ => ?_, by rw [← ei]; exact hI⟩
    rw [f_X12_flowsFrom_L39, ob_mem, Option.bind_some, s_celX hD (wF_e _ _ _), bd_some, if_pos (nI_le (Nat.le_of_eq ei.symm) (by omega))]
  | succ k ih =>
    intro i f F h1 h2 hI
    obtain ⟨f, rfl⟩ : ∃ k, f = k + 1 := ⟨f - 1, by omega⟩
    have hi : i < nc (cur σ) := by omega
    have i9 := hD.h9 i
    have w4 := wys_4 (cur σ) i
    by_cases e : dh (cur σ) i = h
    · have hI1 : FI (cur σ) o a (dh (cur σ) i) i F := by rw [e]; exact hI
      have g := FI.go hD ho hi (by omega) hI1
      obtain ⟨F', z1, z2⟩ := ih (i + 1) f _ (by omega) (by omega) (by rw [e] at g; exact g)
      refine ⟨F', fun ρ τ => ?_, z2⟩
      rw [← z1 ρ τ, ← e]
      have y := s_flL2 (F := F) hD hi (fun μ39 a40 x41 x42 x43 =>
    (nm (0 : Int32) fun x44 =>
    f_X12_flowsFrom_L99 (fun μ62 a63 x64 x65 =>
    (nm (x65 + Int32.ofInt (1)) fun x66 =>
    f_X12_flowsFrom_L39 K f μ62 a63 x64 x66)) FU μ39 a40 x41 x42 x43 x44)) ρ τ 4 0 FU rfl (by unfold FU; omega)
      rw [show nI 0 = (0 : Int32) from rfl, show nI (sdS (cur σ) (fun _ => 1) i 0) = (0 : Int32) from rfl] at y
      rw [f_X12_flowsFrom_L39, ob_mem, Option.bind_some, s_celX hD (wF_e _ _ _), bd_some, if_neg (nI_ge hi (Nat.lt_of_le_of_lt n48 (by decide))), nm_q, nm_q, y, nm_q]
      by_cases hw : wys (cur σ) i = 0
      · rw [if_pos hw, hw]
        obtain ⟨f', hf'⟩ : ∃ k, FU = k + 1 := ⟨FU - 1, by unfold FU; omega⟩
        rw [hf', f_X12_flowsFrom_L99, if_neg (show ¬ (4 : Int32) ≤ 0 by decide), if_pos (show nI 0 ≤ 0 by decide), nm_q, oin1, nI_add]
      · have x := s_flL3 (x := nI (dh (cur σ) i)) hD hi hw (hI1.lt hi (fun h => by rcases h with h | ⟨_, h⟩ <;> omega)) (fun μ62 a63 x64 x65 =>
    (nm (x65 + Int32.ofInt (1)) fun x66 =>
    f_X12_flowsFrom_L39 K f μ62 a63 x64 x66)) ρ τ 4 0 FU rfl (by unfold FU; omega)
        rw [show nI 0 = (0 : Int32) from rfl, ad] at x
        rw [if_neg hw, x, nm_q, oin1, nI_add]
    · obtain ⟨F', z1, z2⟩ := ih (i + 1) f F (by omega) (by omega) (hI.cong (fun c hc => by
        constructor
        · rintro (h | ⟨h, h'⟩)
          · exact .inl h
          · exact .inr ⟨h, by omega⟩
        · rintro (h | ⟨h, h'⟩)
          · exact .inl h
          · refine .inr ⟨h, ?_⟩
            by_cases ec : c = i
            · rw [ec] at h; exact absurd h e
            · omega))
      refine ⟨F', fun ρ τ => ?_, z2⟩
      rw [← z1 ρ τ]
      obtain ⟨f', hf'⟩ : ∃ k, FU = k + 1 := ⟨FU - 1, by unfold FU; omega⟩
      rw [f_X12_flowsFrom_L39, ob_mem, Option.bind_some, s_celX hD (wF_e _ _ _), bd_some, if_neg (nI_ge hi (Nat.lt_of_le_of_lt n48 (by decide))), nm_q, nm_q, hf', f_X12_flowsFrom_L53, if_neg (show ¬ (4 : Int32) ≤ 0 by decide), mR_2, Option.bind_some, s_flH hD (wF_e _ _ _) hi, Option.bind_some, if_neg (fun hx => e ((nI_eq (by omega) (by omega)).1 hx)), nm_q, f_X12_flowsFrom_L99, if_neg (show ¬ (4 : Int32) ≤ 0 by decide), if_pos (show (0 : Int32) ≤ 0 by decide), nm_q, oin1, nI_add]
theorem s_flL5 {a o : Nat} (hD : DG nr (cur σ)) (ho : o < nc (cur σ)) : ∀ (h f : Nat) (F : Nat → Nat), h < f → h ≤ 9 → FI (cur σ) o a h 0 F → ∃ F', (∀ ρ τ, f_X12_flowsFrom_L33 (fun μ71 => (some μ71)) f (mem ρ τ (wF σ 48 F)) 188 (nI h) = some (mem ρ τ (wF σ 48 F'))) ∧ FI (cur σ) o a 0 0 F' := by
  have n48 := hD.n48
  intro h
  induction h with
  | zero =>
    intro f F h1 h2 hI
    obtain ⟨f, rfl⟩ : ∃ k, f = k + 1 := ⟨f - 1, by omega⟩
    refine ⟨F, fun ρ τ => ?_, hI⟩
    rw [f_X12_flowsFrom_L33, if_pos (show nI 0 ≤ 0 by decide)]
  | succ h ih =>
    intro f F h1 h2 hI
    obtain ⟨f, rfl⟩ : ∃ k, f = k + 1 := ⟨f - 1, by omega⟩
    obtain ⟨F1, z1, z2⟩ := s_flL4 hD ho (Nat.succ_pos h) h2 (fun μ67 a68 x69 =>
    (nm (x69 + Int32.ofInt (-1)) fun x70 =>
    f_X12_flowsFrom_L33 (fun μ71 => (some μ71)) f μ67 a68 x70)) (nc (cur σ)) 0 FU F (by omega) (Nat.lt_of_le_of_lt n48 (by unfold FU; omega)) hI
    obtain ⟨F2, y1, y2⟩ := ih f F1 (by omega) (by omega) (z2.cong (fun c hc => by
      constructor
      · rintro (h | ⟨h, h'⟩)
        · exact .inl (by omega)
        · exact .inl (by omega)
      · rintro (q | ⟨q, q'⟩)
        · by_cases e : dh (cur σ) c = h + 1
          · exact .inr ⟨by omega, hc⟩
          · exact .inl (by omega)
        · omega))
    refine ⟨F2, fun ρ τ => ?_, y2⟩
    have w := z1 ρ τ
    rw [show nI 0 = (0 : Int32) from rfl] at w
    rw [f_X12_flowsFrom_L33, if_neg (show ¬ nI (h + 1) ≤ 0 from nI_ge (a := 0) (by omega) (by omega)), nm_q, w, nm_q, oinm1, nI_pm]
    exact y1 ρ τ
theorem s_flows {a o : Nat} (hD : DG nr (cur σ)) (ha : a < nc (cur σ)) (ho : o < nc (cur σ)) : ∃ F, (∀ ρ τ, f_X12_flowsFrom (mem ρ τ σ) 188 (nI a) = some (mem ρ τ (wF σ 48 F))) ∧ F o = wt (cur σ) o a := by
  have n48 := hD.n48
  obtain ⟨F, z1, z2⟩ := s_flL5 hD ho 9 FU _ (by unfold FU; omega) (Nat.le_refl _) (FI.start hD ho ha)
  refine ⟨F, fun ρ τ => ?_, z2.fin hD ho⟩
  have y := s_flL1 (σ := σ) (x := nI a) (fun μ10 a11 x12 =>
    ((gR μ10 a11 12 69).bind fun v13 =>
    ((sL μ10 v13 3 x12 (5159780352 : Int64)).bind fun μ14 =>
    (nm (9 : Int32) fun x15 =>
    f_X12_flowsFrom_L33 (fun μ71 =>
    (some μ71)) FU μ14 a11 x15)))) ρ τ 48 0 FU rfl (by unfold FU; omega)
  rw [wF_0, show nI 0 = (0 : Int32) from rfl] at y
  unfold f_X12_flowsFrom
  rw [nm_q, y, mR_69, Option.bind_some, show (5159780352 : Int64) = lG (12 ^ 9) from rfl, wF_w (by omega), Option.bind_some, nm_q]
  exact z1 ρ τ
theorem op_chance (x y w : Int32) : OpR (fun μ => f_X11_chance μ 128 x y w) (fun μ => f_X12_chance μ 188 x y w) := by
  refine OpR.q fun n sl U S T σ nr hR => ?_
  have hR0 := hR
  obtain ⟨hN, hTP, hRU, hIM, hD, hS⟩ := hR
  have n48 := hD.n48
  have hsv := hS.sv
  have hv := hS.la.gv
  have hgl := hv.loc
  show ∃ v T' σ', f_X11_chance (cn n sl U S T σ) 128 x y w = some (v, cn n sl U S T' σ) ∧ agr (Ns S) T T' ∧ (∀ ρ τ, f_X12_chance (mem ρ τ σ) 188 x y w = some (v, mem ρ τ σ')) ∧ Eqm σ σ'
  have c2 : (¬ w < 0 ∧ w ≤ (1 : Int32)) ↔ isN w 2 := by
    unfold isN
    rw [i32lt, i32le, i32le, i32lt]
    have q1 : (0 : Int32).toInt = 0 := rfl
    have q2 : (1 : Int32).toInt = 1 := rfl
    have q3 : (nI 2).toInt = 2 := rfl
    omega
  have ic := fun v => c_isCell (sl := sl) (U := U) (σ := σ) hS v
  unfold f_X11_chance f_X12_chance
  rw [x128_o, Option.bind_some, ic, bd_some]
  by_cases h1 : isN x (nc (cur σ))
  · rw [if_pos h1, if_neg (by decide), x128_o, Option.bind_some, ic, bd_some]
    by_cases h2 : isN y (nc (cur σ))
    · rw [if_pos h2, if_neg (by decide)]
      by_cases h3 : isN w 2
      · obtain ⟨a, ha, rfl⟩ := isN_of (Nat.lt_of_le_of_lt n48 (by decide)) h1
        obtain ⟨o, ho, rfl⟩ := isN_of (Nat.lt_of_le_of_lt n48 (by decide)) h2
        obtain ⟨F, f1, f2⟩ := s_flows hD ha ho
        obtain ⟨T', a1, a2⟩ := c_share (sl := sl) (U := U) (σ1 := σ) (o := o) hD ha ho hS.la
        have h9 := hD.h9 a
        have n1 : agr (Ns S) T T' := a2.mono fun r hr e => hr (.inr (.inl (by omega)))
        have le := shN_le hD (o := o) 10 a ha
        have p9 := p12 h9
        have b12 : 12 ^ dh (cur σ) a < 2 ^ 63 := Nat.lt_of_le_of_lt p9 (by decide)
        have bs : shD (cur σ) o a < 2 ^ 63 := Nat.lt_of_le_of_lt le b12
        have wle : wt (cur σ) o a ≤ 12 ^ 9 := by
          have h3 : 12 ^ dh (cur σ) a * 12 ^ (9 - dh (cur σ) a) = 12 ^ 9 := by rw [← Nat.pow_add]; congr 1; omega
          rw [← h3]
          exact Nat.mul_le_mul le (Nat.le_refl _)
        have bw : wt (cur σ) o a < 2 ^ 63 := Nat.lt_of_le_of_lt wle (by decide)
        have bM : 12 ^ 9 < 2 ^ 63 := by decide
        have p0 : 0 < 12 ^ dh (cur σ) a := Nat.pow_pos (by decide)
        have k0 : 0 < 12 ^ (9 - dh (cur σ) a) := Nat.pow_pos (by decide)
        have g0 : 0 < Nat.gcd (12 ^ dh (cur σ) a) (shD (cur σ) o a) := Nat.gcd_pos_of_pos_left _ p0
        have gl : Nat.gcd (12 ^ dh (cur σ) a) (shD (cur σ) o a) ≤ 12 ^ dh (cur σ) a := Nat.gcd_le_left _ p0
        have eM : 12 ^ 9 = 12 ^ dh (cur σ) a * 12 ^ (9 - dh (cur σ) a) := by rw [← Nat.pow_add]; congr 1; omega
        have eG : Nat.gcd (12 ^ 9) (wt (cur σ) o a) = Nat.gcd (12 ^ dh (cur σ) a) (shD (cur σ) o a) * 12 ^ (9 - dh (cur σ) a) := by
          rw [eM]
          exact Nat.gcd_mul_right _ _ _
        have G0 : 0 < Nat.gcd (12 ^ 9) (wt (cur σ) o a) := by rw [eG]; exact Nat.mul_pos g0 k0
        have GL : Nat.gcd (12 ^ 9) (wt (cur σ) o a) ≤ 12 ^ 9 := Nat.gcd_le_left _ (by decide)
        have e1 : 12 ^ 9 / Nat.gcd (12 ^ 9) (wt (cur σ) o a) = 12 ^ dh (cur σ) a / Nat.gcd (12 ^ dh (cur σ) a) (shD (cur σ) o a) := by
          rw [eG]
          conv => lhs; arg 1; rw [eM]
          exact Nat.mul_div_mul_right _ _ k0
        have e2 : wt (cur σ) o a / Nat.gcd (12 ^ 9) (wt (cur σ) o a) = shD (cur σ) o a / Nat.gcd (12 ^ dh (cur σ) a) (shD (cur σ) o a) := by
          rw [eG]
          exact Nat.mul_div_mul_right _ _ k0
        have a48 : a < 48 := Nat.lt_of_lt_of_le ha n48
        have o48 : o < 48 := Nat.lt_of_lt_of_le ho n48
        refine ⟨if w = 0 then lG (shD (cur σ) o a / Nat.gcd (12 ^ dh (cur σ) a) (shD (cur σ) o a)) else lG (12 ^ dh (cur σ) a / Nat.gcd (12 ^ dh (cur σ) a) (shD (cur σ) o a)), T', wF σ 48 F, ?_, n1, fun ρ τ => ?_, wF_e _ _ _⟩
        · rw [if_neg (c2.2 h3).1, if_pos (c2.2 h3).2, x128_6, Option.bind_some, s0_0 hsv, Option.bind_some, g0_3 hv, Option.bind_some, g1_r hv a48, Option.bind_some, hS.la.cg.2.2.2 a ha, c_12 _ h9, bd_some, nm_q, x128_12, Option.bind_some, x128_6, Option.bind_some, s0_0 hsv, Option.bind_some, x181_o, Option.bind_some, a1, bd_some, nm_q, c_div b12 bs, bd_some, nm_q, if_pos (lG_1 (by omega) g0)]
          by_cases w0 : w = 0
          · rw [if_pos w0, if_pos w0, dv_q bs (by omega) (by omega)]
          · rw [if_neg w0, if_neg w0, dv_q b12 (by omega) (by omega)]
        · rw [ob_mem, Option.bind_some, s_isC hD, bd_some, if_pos h1, if_neg (by decide), ob_mem, Option.bind_some, s_isC hD, bd_some, if_pos h2, if_neg (by decide), s_in, bd_some, if_pos (in01.2 h3), if_neg (by decide), ob_mem, Option.bind_some, f1, Option.bind_some, mR_69, Option.bind_some, wF_r o48, Option.bind_some, f2, show (5159780352 : Int64) = lG (12 ^ 9) from rfl, s_div bM bw, bd_some, nm_q]
          by_cases w0 : w = 0
          · rw [if_pos w0, if_pos w0, mR_69, Option.bind_some, wF_r o48, Option.bind_some, f2, dv_q bw (by omega) (by omega), e2]
          · rw [if_neg w0, if_neg w0, dv_q bM (by omega) (by omega), e1]
      · refine ⟨-1, T, σ, ?_, agr.refl _ _, fun ρ τ => ?_, Eqm.refl _⟩
        · by_cases hy : w < 0
          · rw [if_pos hy]
          · rw [if_neg hy, if_neg (fun h => h3 (c2.1 ⟨hy, h⟩))]
        · rw [ob_mem, Option.bind_some, s_isC hD, bd_some, if_pos h1, if_neg (by decide), ob_mem, Option.bind_some, s_isC hD, bd_some, if_pos h2, if_neg (by decide), s_in, bd_some, if_neg (fun h => h3 (in01.1 h)), if_pos rfl]
    · refine ⟨-1, T, σ, ?_, agr.refl _ _, fun ρ τ => ?_, Eqm.refl _⟩
      · rw [if_neg h2, if_pos rfl]
      · rw [ob_mem, Option.bind_some, s_isC hD, bd_some, if_pos h1, if_neg (by decide), ob_mem, Option.bind_some, s_isC hD, bd_some, if_neg h2, if_pos rfl]
  · refine ⟨-1, T, σ, ?_, agr.refl _ _, fun ρ τ => ?_, Eqm.refl _⟩
    · rw [if_neg h1, if_pos rfl]
    · rw [ob_mem, Option.bind_some, s_isC hD, bd_some, if_neg h1, if_pos rfl]
end CHANCE
