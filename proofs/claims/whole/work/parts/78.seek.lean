/-! Where one can have fallen from: the class. -/
abbrev Os : Type := Nat × Nat × Nat × (Nat → Nat)
def okZ (σ : Sg) (q c s : Nat) : Bool := fitK (cur σ) (brZ σ q c s) (dN (cur σ) 8)
def orA (σ : Sg) (q c s : Nat) (x : Os) : Os := (x.1 + 1, if x.1 = 0 then c else x.2.1, if x.1 = 0 then s else x.2.2.1, fun t => x.2.2.2 t + (if bt (brZ σ q c s) t then 1 else 0))
def orS (σ : Sg) (q c s : Nat) (x : Os) : Os := if okZ σ q c s then orA σ q c s x else x
def orD (σ : Sg) (q c : Nat) : Nat → Os → Os
  | 0, x => x
  | k + 1, x => orS σ q c k (orD σ q c k x)
def orC (σ : Sg) (q : Nat) : Nat → Os → Os
  | 0, x => x
  | k + 1, x => orD σ q k 5 (orC σ q k x)
theorem orS_n (σ : Sg) (q c s : Nat) (x : Os) : x.1 ≤ (orS σ q c s x).1 ∧ (orS σ q c s x).1 ≤ x.1 + 1 := by
  unfold orS orA
  split
  · exact ⟨by show x.1 ≤ x.1 + 1; omega, Nat.le_refl _⟩
  · exact ⟨Nat.le_refl _, by omega⟩
theorem orD_n (σ : Sg) (q c : Nat) : ∀ (k : Nat) (x : Os), (orD σ q c k x).1 ≤ x.1 + k
  | 0, _ => Nat.le_refl _
  | k + 1, x => by
    have h1 := orD_n σ q c k x
    have h2 := (orS_n σ q c k (orD σ q c k x)).2
    rw [orD]; omega
theorem orC_n (σ : Sg) (q : Nat) : ∀ (k : Nat) (x : Os), (orC σ q k x).1 ≤ x.1 + 5 * k
  | 0, _ => Nat.le_refl _
  | k + 1, x => by
    have h1 := orC_n σ q k x
    have h2 := orD_n σ q k 5 (orC σ q k x)
    rw [orC]; omega
def CO (T : Tc) (x : Os) : Prop := T.1 179 1 = nI x.1 ∧ (0 < x.1 → T.1 179 2 = nI x.2.1 ∧ T.1 179 3 = nI x.2.2.1) ∧ ∀ t, t < 8 → T.2.1 180 t = nI (x.2.2.2 t)
abbrev Fo : Nat → Prop := fun r => r ≠ 179 ∧ r ≠ 180
theorem Fo.ns {S : Nat → Nat × Nat × Nat} {T T' : Tc} (h : agr Fo T T') : agr (Ns S) T T' := h.mono fun r hr => ⟨fun e => hr (.inr (.inl (by omega))), fun e => hr (.inr (.inl (by omega)))⟩
section SEEK
variable {nr n sl lw q c s : Nat} {U : Nat → va_E} {S : Nat → Nat × Nat × Nat} {σ σ1 : Sg}
theorem c_addL {B : Int32} {br : Nat → Nat} (K : Mm → Option Mm) : ∀ (k i : Nat) (T : Tc) (f : Nat), i + k = 8 → k < f → T.1 174 8 = B → (∀ t, t < i → T.2.1 180 t = nI (br t + (if bt B t then 1 else 0))) → (∀ t, i ≤ t → t < 8 → T.2.1 180 t = nI (br t)) → ∃ T', f_X4_add_L29 K f (cn n sl U S T σ1) 179 (nI i) = K (cn n sl U S T' σ1) ∧ agr (Oth 180) T T' ∧ ∀ t, t < 8 → T'.2.1 180 t = nI (br t + (if bt B t then 1 else 0)) := by
  intro k
  induction k with
  | zero =>
    intro i T f h1 h2 h3 h4 h5
    obtain ⟨f, rfl⟩ : ∃ k, f = k + 1 := ⟨f - 1, by omega⟩
    obtain rfl : i = 8 := by omega
    refine ⟨T, ?_, agr.refl _ _, h4⟩
    rw [f_X4_add_L29, if_pos (by decide)]
  | succ k ih =>
    intro i T f h1 h2 h3 h4 h5
    obtain ⟨f, rfl⟩ : ∃ k, f = k + 1 := ⟨f - 1, by omega⟩
    have i8 : i < 8 := by omega
    have ev : nI (br i) + ((B >>> (nI i &&& 31)) &&& 1) = nI (br i + (if bt B i then 1 else 0)) := by
      rw [I_bitv (by omega)]
      cases bt B i
      · rw [if_neg (by decide), if_neg (by decide), lit_0, nI_add]
      · rw [if_pos rfl, if_pos rfl, lit_1, nI_add]
    obtain ⟨T', z1, z2, z3⟩ := ih (i + 1) (tA T 180 i (nI (br i + (if bt B i then 1 else 0)))) f (by omega) (by omega) h3 (fun t ht => by
      rw [tA2]
      by_cases e : t = i
      · rw [if_pos ⟨rfl, e⟩, e]
      · rw [if_neg (fun h => e h.2)]; exact h4 t (by omega)) (fun t h8 h9 => by
      rw [tA2, if_neg (by omega)]; exact h5 t (by omega) h9)
    refine ⟨T', ?_, (agr_tA _ _ (fun h => h rfl)).trans z2, z3⟩
    rw [f_X4_add_L29, if_neg (show ¬ (8 : Int32) ≤ nI i from nI_ge (b := 8) (by omega) (by decide)), x179_4, Option.bind_some, x180_r i8, Option.bind_some, x179_0, Option.bind_some, x174_8, Option.bind_some, h3, h5 i (Nat.le_refl _) i8, ev, x180_w i8, Option.bind_some, nm_q, oin1, nI_add]
    exact z1
theorem c_add {T : Tc} {x : Os} (hC : CO T x) (hn : x.1 ≤ 1000) (hB : T.1 174 8 = brZ σ q c s) : ∃ T', f_X4_add (cn n sl U S T σ1) 179 (nI c) (nI s) = some (cn n sl U S T' σ1) ∧ CO T' (orA σ q c s x) ∧ agr Fo T T' := by
  obtain ⟨h1, h2, h3⟩ := hC
  have c79 : ¬ Fo 179 := fun h => h.1 rfl
  have c80 : ∀ {T T' : Tc}, agr (Oth 180) T T' → agr Fo T T' := fun h => h.mono fun r hr => hr.2
  unfold f_X4_add
  rw [x179_1, Option.bind_some, h1]
  by_cases h0 : x.1 = 0
  · obtain ⟨T', z1, z2, z3⟩ := c_addL (n := n) (sl := sl) (U := U) (S := S) (σ1 := σ1) (B := brZ σ q c s) (br := x.2.2.2) (fun μ18 => (some μ18)) 8 0 (tI (tI (tI T 179 2 (nI c)) 179 3 (nI s)) 179 1 (nI (x.1 + 1))) FU rfl (by unfold FU; omega) hB (fun t ht => by omega) (fun t _ ht => h3 t ht)
    rw [show nI 0 = (0 : Int32) from rfl] at z1
    have e := z2 179 (by decide)
    refine ⟨T', ?_, ⟨?_, fun _ => ⟨?_, ?_⟩, z3⟩, ((agr_tI _ _ c79).trans ((agr_tI _ _ c79).trans (agr_tI _ _ c79))).trans (c80 z2)⟩
    · rw [if_pos (by rw [h0]; rfl), x179_2p, Option.bind_some, x179_3p, Option.bind_some, x179_1, Option.bind_some, show (tI (tI T 179 2 (nI c)) 179 3 (nI s)).1 179 1 + (1 : Int32) = nI (x.1 + 1) by rw [tI1, tI1, if_neg (by decide), if_neg (by decide), h1, lit_1, nI_add], x179_1p, Option.bind_some, nm_q]
      exact z1
    · rw [e.1]; simp [tI1]; rfl
    · rw [e.1]; simp [tI1, orA, h0]
    · rw [e.1]; simp [tI1, orA, h0]
  · obtain ⟨T', z1, z2, z3⟩ := c_addL (n := n) (sl := sl) (U := U) (S := S) (σ1 := σ1) (B := brZ σ q c s) (br := x.2.2.2) (fun μ18 => (some μ18)) 8 0 (tI T 179 1 (nI (x.1 + 1))) FU rfl (by unfold FU; omega) hB (fun t ht => by omega) (fun t _ ht => h3 t ht)
    rw [show nI 0 = (0 : Int32) from rfl] at z1
    have e := z2 179 (by decide)
    have h2 := h2 (by omega)
    refine ⟨T', ?_, ⟨?_, fun _ => ⟨?_, ?_⟩, z3⟩, (agr_tI _ _ c79).trans (c80 z2)⟩
    · rw [if_neg (nI_ne0 (by omega) (by omega)), Option.bind_some, lit_1, nI_add, x179_1p, Option.bind_some, nm_q]
      exact z1
    · rw [e.1]; simp [tI1]; rfl
    · rw [e.1]; simp [tI1, orA, h0, h2.1]
    · rw [e.1]; simp [tI1, orA, h0, h2.2]
theorem c_fits {T : Tc} (hS : SR n S T 161 (cur σ)) (hD : DG nr (cur σ)) (f : Int32) : f_X7_fitsClues (cn n sl U S T σ1) 161 f = some (if fitK (cur σ) f (dN (cur σ) 8) then (1 : Int32) else 0, cn n sl U S T σ1) := by
  have h := fit_c hD f
  unfold f_X7_fitsClues
  rw [s0_7 hS.sv, Option.bind_some, Option.bind_some, hS.cb]
  by_cases h1 : (f &&& cmK (cur σ) 1 (dN (cur σ) 8)) = cmK (cur σ) 1 (dN (cur σ) 8)
  · rw [if_pos h1, s0_8 hS.sv, Option.bind_some, hS.cw]
    by_cases h2 : (f &&& cmK (cur σ) 0 (dN (cur σ) 8)) = 0
    · rw [if_pos h2, z11, h.1 ⟨h1, h2⟩]; rfl
    · rw [if_neg h2, z01]
      cases hf : fitK (cur σ) f (dN (cur σ) 8)
      · rfl
      · exact absurd (h.2 hf).2 h2
  · rw [if_neg h1, z01]
    cases hf : fitK (cur σ) f (dN (cur σ) 8)
    · rfl
    · exact absurd (h.2 hf).1 h1
/-- the class falls from a cell with all things whole -/
theorem c_fallZ {T : Tc} (hR : REL n S T σ nr) (hL : RLw n S T σ lw) (hq : q < dN (cur σ) 2) (hc : c < nc (cur σ)) (hs : s < 5) : ∃ T0 T', f_X0_begin (cn n sl U S T σ1) 174 161 lw (nI q) = some (cn n sl U S T0 σ1) ∧ f_X0_run (cn n sl U S (tI (tI T0 174 5 (nI c)) 174 4 0) σ1) 174 (nI s) = some (cn n sl U S T' σ1) ∧ agr (Fa lw) T T' ∧ T'.1 174 8 = brZ σ q c s := by
  obtain ⟨hN, hTP, hRU, hIM, hD, hS⟩ := hR
  obtain ⟨T0, a1, a2, a3, a4, a5, a6⟩ := c_begin (sl := sl) (U := U) (σ1 := σ1) hD hq hS.w hS.br hL
  obtain ⟨l, m, hv⟩ := hL.rv
  have z4 : ¬ Fa lw 174 := fun h => h.1 rfl
  have ag : agr (Fa lw) T0 (tI (tI T0 174 5 (nI c)) 174 4 0) := (agr_tI _ _ z4).trans (agr_tI _ _ z4)
  have F : CF nr n S (tI (tI T0 174 5 (nI c)) 174 4 0) (zz σ) 161 lw q := by
    obtain ⟨b1, b2, b3, b4, b5, b6, b7, b8, b9, b10, b11⟩ := a2
    refine ⟨zz_DG hD, by rw [zz_dN 2 (by decide)]; exact hq, zz_SRw (b3.fa hv ag), zz_RLw (b4.fa ag), b5, b6, b7, ?_, ?_, b10, ?_⟩
    · rw [tI1, tI1, if_neg (by decide), if_neg (by decide)]; exact b8
    · rw [zz_7, tI1, if_pos ⟨rfl, rfl⟩]
    · rw [zz_r 192 (by decide)]; exact b11
  have X : CX (tI (tI T0 174 5 (nI c)) 174 4 0) (0, 0, 0, 0) := by
    obtain ⟨b1, b2, b3, b4⟩ := a3
    refine ⟨?_, ?_, ?_, ?_⟩ <;> (rw [tI1, tI1, if_neg (by decide), if_neg (by decide)]; assumption)
  obtain ⟨T', d1, d2, d3, d4⟩ := c_run (sl := sl) (U := U) (σ1 := σ1) (s := s) (d := c) F X (isB8.2 fun i _ _ => b_0 i) (by rw [tI1, tI1, if_neg (by decide), if_pos ⟨rfl, rfl⟩]) (by rw [zz_nc]; exact hc) hs
  exact ⟨T0, T', a1, d1, (a6.trans ag).trans d2.1, d3.2.2.1⟩
theorem c_seekL1 (hq : q < dN (cur σ) 2) (hc : c < nc (cur σ)) (K : Mm → Nat → Nat → Nat → Int32 → Int32 → Option Mm) (x : Os) (hx : x.1 ≤ 900) : ∀ (k s : Nat) (T : Tc) (f : Nat), s + k = 5 → k < f → REL n S T σ nr → RLw n S T σ lw → CO T (orD σ q c s x) → ∃ T', f_X4_seek_L31 K f (cn n sl U S T σ) 179 161 lw (nI q) (nI c) (nI s) = K (cn n sl U S T' σ) 179 161 lw (nI q) (nI c) ∧ agr (Ns S) T T' ∧ CO T' (orD σ q c 5 x) := by
  intro k
  induction k with
  | zero =>
    intro s T f h1 h2 hR hL hC
    obtain ⟨f, rfl⟩ : ∃ k, f = k + 1 := ⟨f - 1, by omega⟩
    obtain rfl : s = 5 := by omega
    refine ⟨T, ?_, agr.refl _ _, hC⟩
    rw [f_X4_seek_L31, if_pos (by decide)]
  | succ k ih =>
    intro s T f h1 h2 hR hL hC
    obtain ⟨f, rfl⟩ : ∃ k, f = k + 1 := ⟨f - 1, by omega⟩
    obtain ⟨l, m, hv⟩ := hL.rv
    have hl := hv.loc
    have hD := hR.2.2.2.2.1
    obtain ⟨T0, T1, a1, a2, a3, a4⟩ := c_fallZ (sl := sl) (U := U) (σ1 := σ) hR hL hq hc (show s < 5 by omega)
    have n1 := fa_ns hv a3
    have R1 := hR.scr n1 (Eqm.refl σ)
    have C1 : CO T1 (orD σ q c s x) := by
      have e1 := a3 179 ⟨by decide, by decide, by omega⟩
      have e2 := a3 180 ⟨by decide, by decide, by omega⟩
      unfold CO
      rw [e1.1, e2.2.1]; exact hC
    have hn := orD_n σ q c s x
    have ft := c_fits (n := n) (sl := sl) (U := U) (S := S) (σ1 := σ) R1.2.2.2.2.2 hD (brZ σ q c s)
    have eo : fitK (cur σ) (brZ σ q c s) (dN (cur σ) 8) = okZ σ q c s := rfl
    rw [eo] at ft
    rw [f_X4_seek_L31, if_neg (show ¬ (5 : Int32) ≤ nI s from nI_ge (b := 5) (by omega) (by decide)), x179_0, Option.bind_some, x174_o, Option.bind_some, a1, Option.bind_some, x179_0, Option.bind_some, x174_5p, Option.bind_some, x179_0, Option.bind_some, x174_4p, Option.bind_some, x179_0, Option.bind_some, x174_o, Option.bind_some, a2, Option.bind_some, x179_0, Option.bind_some, x174_8, Option.bind_some, a4, s0_o R1.2.2.2.2.2.sv, Option.bind_some, ft, bd_some]
    cases hb : okZ σ q c s
    · obtain ⟨T', z1, z2, z3⟩ := ih (s + 1) T1 f (by omega) (by omega) R1 (hL.ns n1) (by rw [orD, orS, hb]; exact C1)
      refine ⟨T', ?_, n1.trans z2, z3⟩
      rw [i0f, if_pos rfl, nm_q, oin1, nI_add]
      exact z1
    · obtain ⟨T2, b1, b2, b3⟩ := c_add (n := n) (sl := sl) (U := U) (S := S) (σ1 := σ) C1 (by omega) a4
      have n2 := n1.trans (Fo.ns (S := S) b3)
      obtain ⟨T', z1, z2, z3⟩ := ih (s + 1) T2 f (by omega) (by omega) (hR.scr n2 (Eqm.refl σ)) (hL.ns n2) (by rw [orD, orS, hb]; exact b2)
      refine ⟨T', ?_, n2.trans z2, z3⟩
      rw [i1t, if_neg (by decide), x179_o, Option.bind_some, b1, Option.bind_some, nm_q, oin1, nI_add]
      exact z1
theorem c_seekL2 (hq : q < dN (cur σ) 2) (K : Mm → Option Mm) (x : Os) (hx : x.1 = 0) : ∀ (k c : Nat) (T : Tc) (f : Nat), c + k = nc (cur σ) → k < f → REL n S T σ nr → RLw n S T σ lw → CO T (orC σ q c x) → ∃ T', f_X4_seek_L16 K f (cn n sl U S T σ) 179 161 lw (nI q) (nI c) = K (cn n sl U S T' σ) ∧ agr (Ns S) T T' ∧ CO T' (orC σ q (nc (cur σ)) x) := by
  intro k
  induction k with
  | zero =>
    intro c T f h1 h2 hR hL hC
    obtain ⟨f, rfl⟩ : ∃ k, f = k + 1 := ⟨f - 1, by omega⟩
    have ec : c = nc (cur σ) := by omega
    have hS := hR.2.2.2.2.2
    have n48 := hR.2.2.2.2.1.n48
    refine ⟨T, ?_, agr.refl _ _, by rw [← ec]; exact hC⟩
    rw [f_X4_seek_L16, s0_0 hS.sv, Option.bind_some, g0_2 hS.la.gv, Option.bind_some, hS.la.cg.2.2.1, if_pos (nI_le (Nat.le_of_eq ec.symm) (by omega))]
  | succ k ih =>
    intro c T f h1 h2 hR hL hC
    obtain ⟨f, rfl⟩ : ∃ k, f = k + 1 := ⟨f - 1, by omega⟩
    have hS := hR.2.2.2.2.2
    have n48 := hR.2.2.2.2.1.n48
    have hn := orC_n σ q c x
    have hc : c < nc (cur σ) := by omega
    obtain ⟨T1, a1, a2, a3⟩ := c_seekL1 (n := n) (sl := sl) (U := U) (S := S) (lw := lw) hq hc (fun μ38 a39 a40 a41 x42 x43 =>
    (nm (x43 + Int32.ofInt (1)) fun x44 =>
    f_X4_seek_L16 K f μ38 a39 a40 a41 x42 x44)) (orC σ q c x) (by omega) 5 0 T FU rfl (by unfold FU; omega) hR hL hC
    rw [show nI 0 = (0 : Int32) from rfl] at a1
    obtain ⟨T', z1, z2, z3⟩ := ih (c + 1) T1 f (by omega) (by omega) (hR.scr a2 (Eqm.refl σ)) (hL.ns a2) a3
    refine ⟨T', ?_, a2.trans z2, z3⟩
    rw [f_X4_seek_L16, s0_0 hS.sv, Option.bind_some, g0_2 hS.la.gv, Option.bind_some, hS.la.cg.2.2.1, if_neg (nI_ge hc (Nat.lt_of_le_of_lt n48 (by decide))), nm_q, a1, nm_q, oin1, nI_add]
    exact z1
theorem c_fill8 (K : Mm → Option Mm) : ∀ (k i : Nat) (T : Tc) (f : Nat), i + k = 8 → k < f → (∀ t, t < i → T.2.1 180 t = nI 0) → ∃ T', f_J7_fill_53178_L5 K f (cn n sl U S T σ1) 180 0 (nI i) (nI 8) = K (cn n sl U S T' σ1) ∧ agr (Oth 180) T T' ∧ ∀ t, t < 8 → T'.2.1 180 t = nI 0 := by
  intro k
  induction k with
  | zero =>
    intro i T f h1 h2 h4
    obtain ⟨f, rfl⟩ : ∃ k, f = k + 1 := ⟨f - 1, by omega⟩
    obtain rfl : i = 8 := by omega
    refine ⟨T, ?_, agr.refl _ _, h4⟩
    rw [f_J7_fill_53178_L5, if_pos (by decide)]
  | succ k ih =>
    intro i T f h1 h2 h4
    obtain ⟨f, rfl⟩ : ∃ k, f = k + 1 := ⟨f - 1, by omega⟩
    have i8 : i < 8 := by omega
    obtain ⟨T', z1, z2, z3⟩ := ih (i + 1) (tA T 180 i 0) f (by omega) (by omega) (fun t ht => by
      rw [tA2]
      by_cases e : t = i
      · rw [if_pos ⟨rfl, e⟩]; rfl
      · rw [if_neg (fun h => e h.2)]; exact h4 t (by omega))
    refine ⟨T', ?_, (agr_tA _ _ (fun h => h rfl)).trans z2, z3⟩
    rw [f_J7_fill_53178_L5, if_neg (nI_ge (by omega) (by omega)), x180_w i8, Option.bind_some, nm_q, oin1, nI_add]
    exact z1
theorem c_seek {T : Tc} (hR : REL n S T σ nr) (hL : RLw n S T σ lw) (hq : q < dN (cur σ) 2) : ∃ T', f_X4_seek (cn n sl U S T σ) 179 161 lw (nI q) = some (cn n sl U S T' σ) ∧ agr (Ns S) T T' ∧ CO T' (orC σ q (nc (cur σ)) (0, 0, 0, fun _ => 0)) := by
  have n48 := hR.2.2.2.2.1.n48
  obtain ⟨T1, a1, a2, a3⟩ := c_fill8 (n := n) (sl := sl) (U := U) (S := S) (σ1 := σ) (fun μ12 => (some μ12)) 8 0 (tI T 179 1 0) FU rfl (by unfold FU; omega) (fun t ht => by omega)
  rw [show nI 0 = (0 : Int32) from rfl] at a1
  have n1 : agr (Ns S) T T1 := Fo.ns ((agr_tI _ _ (fun h => h.1 rfl)).trans (a2.mono fun r hr => hr.2))
  obtain ⟨T', z1, z2, z3⟩ := c_seekL2 (n := n) (sl := sl) (U := U) (S := S) (lw := lw) hq (fun μ45 => (some μ45)) (0, 0, 0, fun _ => 0) rfl (nc (cur σ)) 0 T1 FU (by omega) (Nat.lt_of_le_of_lt n48 (by unfold FU; omega)) (hR.scr n1 (Eqm.refl σ)) (hL.ns n1) ⟨by rw [(a2 179 (by decide)).1, tI1, if_pos ⟨rfl, rfl⟩]; rfl, fun h => absurd h (by show ¬ 0 < 0; omega), a3⟩
  rw [show nI 0 = (0 : Int32) from rfl] at z1
  refine ⟨T', ?_, n1.trans z2, z3⟩
  unfold f_X4_seek f_J7_fill_53178
  rw [x179_1p, Option.bind_some, x179_4, Option.bind_some, nm_q, x180_n, Option.bind_some, nm_q, a1, Option.bind_some, nm_q]
  exact z1
end SEEK
