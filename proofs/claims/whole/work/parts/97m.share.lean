/-! Chances: the class's shares. -/
/-- a sum over the sides with a lower cell -/
def sdS (D : Dt) (g : Nat → Nat) (c : Nat) : Nat → Nat
  | 0 => 0
  | s + 1 => sdS D g c s + (match lowD D c s with | none => 0 | some e => g e)
def wys (D : Dt) (c : Nat) : Nat := sdS D (fun _ => 1) c 4
theorem sdS_cong {nr : Nat} {D : Dt} (hD : DG nr D) {g g' : Nat → Nat} {c : Nat} (hc : c < nc D) (h : ∀ e, e < nc D → dh D e < dh D c → g e = g' e) : ∀ k, sdS D g c k = sdS D g' c k
  | 0 => rfl
  | k + 1 => by
    rw [sdS, sdS, sdS_cong hD hc h k]
    cases hl : lowD D c k with
    | none => rfl
    | some e =>
      have q := low_lt (hD.c0 hc) hc hl
      show _ + g e = _ + g' e
      rw [h e q.1 q.2]
theorem sdS_le {nr : Nat} {D : Dt} (hD : DG nr D) {g : Nat → Nat} {c B : Nat} (hc : c < nc D) (h : ∀ e, e < nc D → dh D e < dh D c → g e ≤ B) : ∀ k, sdS D g c k ≤ sdS D (fun _ => 1) c k * B
  | 0 => Nat.zero_le _
  | k + 1 => by
    have ih := sdS_le hD hc h k
    rw [sdS, sdS]
    cases hl : lowD D c k with
    | none => exact ih
    | some e =>
      have q := low_lt (hD.c0 hc) hc hl
      have := h e q.1 q.2
      show sdS D g c k + g e ≤ (sdS D (fun _ => 1) c k + 1) * B
      rw [Nat.succ_mul]
      omega
theorem wys_k (D : Dt) (c : Nat) : ∀ k, sdS D (fun _ => 1) c k ≤ k
  | 0 => Nat.le_refl _
  | k + 1 => by
    have ih := wys_k D c k
    rw [sdS]
    cases lowD D c k with
    | none => show _ + 0 ≤ _; omega
    | some e => show _ + 1 ≤ _; omega
theorem wys_4 (D : Dt) (c : Nat) : wys D c ≤ 4 := wys_k D c 4
theorem wys_12 {D : Dt} {c : Nat} (h : wys D c ≠ 0) {k : Nat} (hk : 0 < k) : wys D c ∣ 12 ^ k := by
  have h4 := wys_4 D c
  obtain ⟨j, rfl⟩ : ∃ j, k = j + 1 := ⟨k - 1, by omega⟩
  have e : wys D c ∣ 12 := by
    have : wys D c = 1 ∨ wys D c = 2 ∨ wys D c = 3 ∨ wys D c = 4 := by omega
    rcases this with e | e | e | e <;> rw [e] <;> decide
  rw [Nat.pow_succ]
  exact Nat.dvd_trans e (Nat.dvd_mul_left _ _)
def shN (D : Dt) (o : Nat) : Nat → Nat → Nat
  | 0, _ => 0
  | k + 1, c => if c = o then 12 ^ dh D c else if wys D c = 0 then 0 else sdS D (fun e => shN D o k e * (12 ^ (dh D c - dh D e) / wys D c)) c 4
theorem shN_stay {nr : Nat} {D : Dt} {o : Nat} (hD : DG nr D) : ∀ (k c : Nat), c < nc D → dh D c < k → shN D o (k + 1) c = shN D o k c
  | 0, _, _, h => by omega
  | k + 1, c, hc, h => by
    have e := sdS_cong hD (g := fun e => shN D o (k + 1) e * (12 ^ (dh D c - dh D e) / wys D c)) (g' := fun e => shN D o k e * (12 ^ (dh D c - dh D e) / wys D c)) hc (fun e he hl => by
      show shN D o (k + 1) e * _ = shN D o k e * _
      rw [shN_stay hD k e he (by omega)]) 4
    have e1 : shN D o (k + 1 + 1) c = if c = o then 12 ^ dh D c else if wys D c = 0 then 0 else sdS D (fun e => shN D o (k + 1) e * (12 ^ (dh D c - dh D e) / wys D c)) c 4 := rfl
    have e2 : shN D o (k + 1) c = if c = o then 12 ^ dh D c else if wys D c = 0 then 0 else sdS D (fun e => shN D o k e * (12 ^ (dh D c - dh D e) / wys D c)) c 4 := rfl
    rw [e1, e2, e]
abbrev shD (D : Dt) (o : Nat) : Nat → Nat := shN D o 10
theorem sh_e {nr : Nat} {D : Dt} {o : Nat} (hD : DG nr D) {c : Nat} (hc : c < nc D) : shD D o c = if c = o then 12 ^ dh D c else if wys D c = 0 then 0 else sdS D (fun e => shD D o e * (12 ^ (dh D c - dh D e) / wys D c)) c 4 := by
  have h9 := hD.h9 c
  exact (shN_stay hD 10 c hc (by omega)).symm
theorem shN_le {nr : Nat} {D : Dt} {o : Nat} (hD : DG nr D) : ∀ (k c : Nat), c < nc D → shN D o k c ≤ 12 ^ dh D c
  | 0, _, _ => Nat.zero_le _
  | k + 1, c, hc => by
    rw [shN]
    split
    · exact Nat.le_refl _
    · split
      · exact Nat.zero_le _
      · rename_i hw
        have h := sdS_le hD (g := fun e => shN D o k e * (12 ^ (dh D c - dh D e) / wys D c)) (B := 12 ^ dh D c / wys D c) hc (fun e he hl => by
          have h1 := shN_le hD k e he (o := o)
          have h2 : 12 ^ dh D e * (12 ^ (dh D c - dh D e) / wys D c) ≤ 12 ^ dh D e * 12 ^ (dh D c - dh D e) / wys D c := Nat.mul_div_le_mul_div_assoc _ _ _
          rw [← Nat.pow_add, show dh D e + (dh D c - dh D e) = dh D c by omega] at h2
          exact Nat.le_trans (Nat.mul_le_mul h1 (Nat.le_refl _)) h2) 4
        exact Nat.le_trans h (Nat.mul_div_le _ _)
theorem p12 {k : Nat} (h : k ≤ 9) : 12 ^ k ≤ 5159780352 := Nat.le_trans (Nat.pow_le_pow_right (by decide) h) (by decide)
theorem nI_sub {a b : Nat} (h : b ≤ a) : nI a - nI b = nI (a - b) := by
  have e : nI a = nI (a - b) + nI b := by rw [nI_add]; congr 1; omega
  rw [e]
  exact Int32.add_sub_cancel _ _
section SHARE
variable {nr n sl g : Nat} {U : Nat → va_E} {S : Nat → Nat × Nat × Nat} {σ σ1 : Sg} {D : Dt}
theorem c_shL1 {T : Tc} {c : Nat} (hG : GR n S T g D) (hD : DG nr D) (hc : c < nc D) (K : Mm → Nat → Nat → Int32 → Int32 → Option (Int64 × Mm)) : ∀ (k s f : Nat), s + k = 4 → k < f → f_X8_shareFrom_L21 K f (cn n sl U S T σ1) 181 g (nI c) (nI (sdS D (fun _ => 1) c s)) (nI s) = K (cn n sl U S T σ1) 181 g (nI c) (nI (wys D c)) := by
  have gs := hD.gs (Nat.lt_of_le_of_lt (Nat.zero_le _) hc)
  intro k
  induction k with
  | zero =>
    intro s f h1 h2
    obtain ⟨f, rfl⟩ : ∃ k, f = k + 1 := ⟨f - 1, by omega⟩
    obtain rfl : s = 4 := by omega
    rw [f_X8_shareFrom_L21, if_pos (by decide)]
    rfl
  | succ k ih =>
    intro s f h1 h2
    obtain ⟨f, rfl⟩ : ∃ k, f = k + 1 := ⟨f - 1, by omega⟩
    have z := ih (s + 1) f (by omega) (by omega)
    rw [sdS] at z
    rw [f_X8_shareFrom_L21, if_neg (show ¬ (4 : Int32) ≤ nI s from nI_ge (b := 4) (by omega) (by decide)), g0_o hG.gv, Option.bind_some, c_lower hG.gv hG.cg gs hc (by omega), bd_some]
    cases hl : low (dN D 0) (dN D 1) (dh D) c s with
    | none =>
      rw [show lowD D c s = none from hl] at z
      rw [if_pos (show oI none = -1 from rfl), nm_q, nm_q, add0, oin1, nI_add]
      exact z
    | some e =>
      have q := low_lt (hD.c0 hc) hc hl
      rw [show lowD D c s = some e from hl] at z
      rw [show oI (some e) = nI e from rfl, if_neg (nI_nm1 (Nat.lt_of_lt_of_le q.1 (Nat.le_trans hD.n48 (by decide)))), nm_q, nm_q, lit_1, nI_add, oin1, nI_add]
      exact z
theorem c_shL2 {T : Tc} {c o : Nat} (hG : GR n S T g D) (hD : DG nr D) (hc : c < nc D) (hw : wys D c ≠ 0) (hW : ∀ d, d < nc D → dh D d < dh D c → T.2.2.1 186 d = lG (shD D o d)) (K : Mm → Int64 → Option (Int64 × Mm)) : ∀ (k s f : Nat), s + k = 4 → k < f → f_X8_shareFrom_L67 K f (cn n sl U S T σ1) 181 g (nI c) (nI (wys D c)) (lG (sdS D (fun e => shD D o e * (12 ^ (dh D c - dh D e) / wys D c)) c s)) (nI s) = K (cn n sl U S T σ1) (lG (sdS D (fun e => shD D o e * (12 ^ (dh D c - dh D e) / wys D c)) c 4)) := by
  have n48 := hD.n48
  have gs := hD.gs (Nat.lt_of_le_of_lt (Nat.zero_le _) hc)
  have w4 := wys_4 D c
  intro k
  induction k with
  | zero =>
    intro s f h1 h2
    obtain ⟨f, rfl⟩ : ∃ k, f = k + 1 := ⟨f - 1, by omega⟩
    obtain rfl : s = 4 := by omega
    rw [f_X8_shareFrom_L67, if_pos (by decide)]
  | succ k ih =>
    intro s f h1 h2
    obtain ⟨f, rfl⟩ : ∃ k, f = k + 1 := ⟨f - 1, by omega⟩
    have z := ih (s + 1) f (by omega) (by omega)
    rw [sdS] at z
    rw [f_X8_shareFrom_L67, if_neg (show ¬ (4 : Int32) ≤ nI s from nI_ge (b := 4) (by omega) (by decide)), g0_o hG.gv, Option.bind_some, c_lower hG.gv hG.cg gs hc (by omega), bd_some, nm_q]
    cases hl : low (dN D 0) (dN D 1) (dh D) c s with
    | none =>
      rw [show lowD D c s = none from hl] at z
      rw [if_pos (show oI none = -1 from rfl), nm_q, oin1, nI_add]
      exact z
    | some e =>
      have q := low_lt (hD.c0 hc) hc hl
      have e48 : e < 48 := Nat.lt_of_lt_of_le q.1 n48
      have hc9 := hD.h9 c
      have b12 : 12 ^ (dh D c - dh D e) < 2 ^ 63 := Nat.lt_of_le_of_lt (p12 (by omega)) (by decide)
      rw [show lowD D c s = some e from hl] at z
      rw [show oI (some e) = nI e from rfl, if_neg (nI_nm1 (by omega)), x181_5, Option.bind_some, x186_r e48, Option.bind_some, hW e q.1 q.2, g0_o hG.gv, Option.bind_some, c_dropTo hG.gv hG.cg n48 hc q.1, bd_some, nI_sub (Nat.le_of_lt q.2), c_12 _ (by omega), bd_some, lG_i (by omega), dv_q b12 (by omega) hw, nm_q, nm_q, oin1, nI_add, lG_mul, lG_add]
      exact z
theorem c_shareF {T : Tc} {c o : Nat} (hG : GR n S T g D) (hD : DG nr D) (hc : c < nc D) (ho : o < nc D) (hW : ∀ d, d < nc D → dh D d < dh D c → T.2.2.1 186 d = lG (shD D o d)) : f_X8_shareFrom (cn n sl U S T σ1) 181 g (nI c) (nI o) = some (lG (shD D o c), cn n sl U S T σ1) := by
  have n48 := hD.n48
  have c48 : c < 48 := Nat.lt_of_lt_of_le hc n48
  have o48 : o < 48 := Nat.lt_of_lt_of_le ho n48
  have w4 := wys_4 D c
  unfold f_X8_shareFrom
  rw [sh_e hD hc]
  by_cases e : c = o
  · rw [if_pos (show nI c = nI o by rw [e]), if_pos e, g0_3 hG.gv, Option.bind_some, g1_r hG.gv c48, Option.bind_some, hG.cg.2.2.2 c hc, c_12 _ (hD.h9 c), bd_some]
  · have z := c_shL1 (sl := sl) (U := U) (σ1 := σ1) hG hD hc (fun μ22 a23 a24 x25 x26 =>
    (if x26 = 0 then
    (some ((0 : Int64), μ22))
    else
    (nm (0 : Int64) fun w27 =>
    (nm (0 : Int32) fun x28 =>
    f_X8_shareFrom_L67 (fun μ48 w49 =>
    (some (w49, μ48))) FU μ22 a23 a24 x25 x26 w27 x28)))) 4 0 FU rfl (by unfold FU; omega)
    rw [show nI 0 = (0 : Int32) from rfl, show nI (sdS D (fun _ => 1) c 0) = (0 : Int32) from rfl] at z
    rw [if_neg (fun h => e ((nI_eq (by omega) (by omega)).1 h)), nm_q, nm_q, z, if_neg e]
    by_cases hw : wys D c = 0
    · rw [hw, if_pos (show nI 0 = 0 from rfl), if_pos rfl]; rfl
    · have y := c_shL2 (sl := sl) (U := U) (σ1 := σ1) (o := o) hG hD hc hw hW (fun μ48 w49 => (some (w49, μ48))) 4 0 FU rfl (by unfold FU; omega)
      rw [show nI 0 = (0 : Int32) from rfl, show lG (sdS D (fun e => shD D o e * (12 ^ (dh D c - dh D e) / wys D c)) c 0) = (0 : Int64) from rfl] at y
      rw [if_neg (show ¬ nI (wys D c) = 0 from fun h => hw ((nI_eq (b := 0) (by omega) (by decide)).1 h)), nm_q, nm_q, y, if_neg hw]
def Sn (D : Dt) (o : Nat) (f : Nat → Int64) (h i : Nat) : Prop := ∀ c, c < nc D → dh D c < h ∨ (dh D c = h ∧ c < i) → f c = lG (shD D o c)
theorem c_shL3 {H o : Nat} {x : Int32} (hD : DG nr D) (ho : o < nc D) (K : Mm → Nat → Nat → Int32 → Int32 → Int32 → Option (Int64 × Mm)) : ∀ (k i : Nat) (T : Tc) (f : Nat), i + k = nc D → k < f → H ≤ 9 → GR n S T g D → Sn D o (T.2.2.1 186) H i → ∃ T', f_X8_shareOfTwelfths_L17 K f (cn n sl U S T σ1) 181 g x (nI o) (nI H) (nI i) = K (cn n sl U S T' σ1) 181 g x (nI o) (nI H) ∧ agr (Oth 186) T T' ∧ Sn D o (T'.2.2.1 186) (H + 1) 0 := by
  have n48 := hD.n48
  intro k
  induction k with
  | zero =>
    intro i T f h1 h2 hH hG hW
    obtain ⟨f, rfl⟩ : ∃ k, f = k + 1 := ⟨f - 1, by omega⟩
    have ei : i = nc D := by omega
    refine ⟨T, ?_, agr.refl _ _, fun c hc hh => hW c hc (by omega)⟩
    rw [f_X8_shareOfTwelfths_L17, g0_2 hG.gv, Option.bind_some, hG.cg.2.2.1, if_pos (nI_le (Nat.le_of_eq ei.symm) (by omega))]
  | succ k ih =>
    intro i T f h1 h2 hH hG hW
    obtain ⟨f, rfl⟩ : ∃ k, f = k + 1 := ⟨f - 1, by omega⟩
    have hi : i < nc D := by omega
    have i48 : i < 48 := by omega
    have h9 := hD.h9 i
    have hgl := hG.gv.loc
    rw [f_X8_shareOfTwelfths_L17, g0_2 hG.gv, Option.bind_some, hG.cg.2.2.1, if_neg (nI_ge hi (Nat.lt_of_le_of_lt n48 (by decide))), g0_3 hG.gv, Option.bind_some, g1_r hG.gv i48, Option.bind_some, hG.cg.2.2.2 i hi]
    by_cases hh : dh D i = H
    · have ls := c_shareF (sl := sl) (U := U) (σ1 := σ1) (o := o) hG hD hi ho (fun d hd hlt => hW d hd (.inl (by omega)))
      have ag : agr (Oth 186) T (tG T 186 i (lG (shD D o i))) := agr_tG _ _ (fun h => h rfl)
      obtain ⟨T', z1, z2, z3⟩ := ih (i + 1) (tG T 186 i (lG (shD D o i))) f (by omega) (by omega) hH (hG.ext hG.gv ag (fun j hj => by show _ ≠ 186; omega)) (fun c hc hx => by
          rw [tG3]
          by_cases e : c = i
          · rw [if_pos ⟨rfl, e⟩, e]
          · rw [if_neg (fun h => e h.2)]; exact hW c hc (by omega))
      refine ⟨T', ?_, ag.trans z2, z3⟩
      rw [if_pos (show nI (dh D i) = nI H by rw [hh]), x181_5, Option.bind_some, x181_o, Option.bind_some, ls, bd_some, x186_w i48, Option.bind_some, nm_q, oin1, nI_add]
      exact z1
    · obtain ⟨T', z1, z2, z3⟩ := ih (i + 1) T f (by omega) (by omega) hH hG (fun c hc hx => hW c hc (by
        rcases hx with h | ⟨h, h'⟩
        · exact .inl h
        · by_cases e : c = i
          · exact absurd (by rw [← e]; exact h) hh
          · exact .inr ⟨h, by omega⟩))
      refine ⟨T', ?_, z2, z3⟩
      rw [if_neg (fun h => hh ((nI_eq (by omega) (by omega)).1 h)), nm_q, oin1, nI_add]
      exact z1
theorem c_shL4 {c o : Nat} (hD : DG nr D) (hc : c < nc D) (ho : o < nc D) (K : Mm → Nat → Nat → Int32 → Int32 → Option (Int64 × Mm)) : ∀ (k H : Nat) (T : Tc) (f : Nat), H + k = dh D c → k < f → GR n S T g D → Sn D o (T.2.2.1 186) H 0 → ∃ T', f_X8_shareOfTwelfths_L3 K f (cn n sl U S T σ1) 181 g (nI c) (nI o) (nI H) = K (cn n sl U S T' σ1) 181 g (nI c) (nI o) ∧ agr (Oth 186) T T' ∧ Sn D o (T'.2.2.1 186) (dh D c) 0 := by
  have n48 := hD.n48
  have h9 := hD.h9 c
  have c48 : c < 48 := Nat.lt_of_lt_of_le hc n48
  intro k
  induction k with
  | zero =>
    intro H T f h1 h2 hG hW
    obtain ⟨f, rfl⟩ : ∃ k, f = k + 1 := ⟨f - 1, by omega⟩
    have eH : H = dh D c := by omega
    refine ⟨T, ?_, agr.refl _ _, by rw [← eH]; exact hW⟩
    rw [f_X8_shareOfTwelfths_L3, g0_3 hG.gv, Option.bind_some, g1_r hG.gv c48, Option.bind_some, hG.cg.2.2.2 c hc, if_pos (nI_le (by omega) (by omega))]
  | succ k ih =>
    intro H T f h1 h2 hG hW
    obtain ⟨f, rfl⟩ : ∃ k, f = k + 1 := ⟨f - 1, by omega⟩
    have hgl := hG.gv.loc
    obtain ⟨T1, a1, a2, a3⟩ := c_shL3 (sl := sl) (U := U) (σ1 := σ1) (g := g) (x := nI c) (H := H) hD ho (fun μ29 a30 a31 x32 x33 x34 =>
    (nm (x34 + Int32.ofInt (1)) fun x35 =>
    f_X8_shareOfTwelfths_L3 K f μ29 a30 a31 x32 x33 x35)) (nc D) 0 T FU (by omega) (Nat.lt_of_le_of_lt n48 (by unfold FU; omega)) (by omega) hG hW
    rw [show nI 0 = (0 : Int32) from rfl] at a1
    obtain ⟨T', z1, z2, z3⟩ := ih (H + 1) T1 f (by omega) (by omega) (hG.ext hG.gv a2 (fun j hj => by show _ ≠ 186; omega)) a3
    refine ⟨T', ?_, a2.trans z2, z3⟩
    rw [f_X8_shareOfTwelfths_L3, g0_3 hG.gv, Option.bind_some, g1_r hG.gv c48, Option.bind_some, hG.cg.2.2.2 c hc, if_neg (nI_ge (by omega) (by omega)), nm_q, a1, nm_q, oin1, nI_add]
    exact z1
theorem c_share {T : Tc} {c o : Nat} (hD : DG nr D) (hc : c < nc D) (ho : o < nc D) (hG : GR n S T g D) : ∃ T', f_X8_shareOfTwelfths (cn n sl U S T σ1) 181 g (nI c) (nI o) = some (lG (shD D o c), cn n sl U S T' σ1) ∧ agr (Oth 186) T T' := by
  have hgl := hG.gv.loc
  have h9 := hD.h9 c
  obtain ⟨T', z1, z2, z3⟩ := c_shL4 (sl := sl) (U := U) (σ1 := σ1) (g := g) hD hc ho (fun μ36 a37 a38 x39 x40 =>
    ((ob μ36 a37 8).bind fun _ =>
    (bd (f_X8_shareFrom μ36 a37 a38 x39 x40) fun v42 μ41 =>
    (some (v42, μ41))))) (dh D c) 0 T FU (by omega) (by unfold FU; omega) hG (fun c hc h => by omega)
  rw [show nI 0 = (0 : Int32) from rfl] at z1
  have ls := c_shareF (sl := sl) (U := U) (σ1 := σ1) (o := o) (hG.ext hG.gv z2 (fun j hj => by show _ ≠ 186; omega)) hD hc ho (fun d hd hlt => z3 d hd (.inl hlt))
  refine ⟨T', ?_, z2⟩
  unfold f_X8_shareOfTwelfths
  rw [nm_q, z1, x181_o, Option.bind_some, ls, bd_some]
end SHARE
