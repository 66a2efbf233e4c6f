/-! Terms. -/
section TERMS
variable {nr n sl : Nat} {U : Nat → va_E} {S : Nat → Nat × Nat × Nat} {σ σ1 σk : Sg}
theorem plK_ok (hP : 0 < dN (cur σk) 2) (hC : 0 < nc (cur σk)) : ∀ (k : Nat) (σs : Sg) (tt : Nat → Int32), Sk σk σs → DG nr (cur σs) → Sk σk (plK k σs tt).1 ∧ DG nr (cur (plK k σs tt).1)
  | 0, _, _, h, h' => ⟨h, h'⟩
  | k + 1, σs, tt, h, h' => by
    have hP' : 0 < dN (cur σs) 2 := by rw [h.dN (by decide) (by decide)]; exact hP
    have hC' : 0 < nc (cur σs) := by rw [h.nc]; exact hC
    exact plK_ok hP hC k (plB σs) (plT σs tt) (h.trans (plB_Sk h' hP')) (plB_DG h' hP' hC')
theorem c_playL (hP : 0 < dN (cur σk) 2) (hC : 0 < nc (cur σk)) {m : Nat} (hm : m ≤ 40) (K : Mm → Option Mm) : ∀ (k i : Nat) (T : Tc) (σs : Sg) (tt : Nat → Int32) (f : Nat), i + k = m → k < f → REL n S T σk nr → Sk σk σs → DG nr (cur σs) → SRt n S T (cur σs) → (∀ w, w < 3 → T.2.1 187 w = tt w) → ∃ T', f_X11_playTerm_L36 K f (cn n sl U S T σ1) 128 (nI m) (nI (dN (cur σk) 2)) (nI (nc (cur σk))) (nI i) = K (cn n sl U S T' σ1) ∧ agr (Ns S) T T' ∧ SRt n S T' (cur (plK k σs tt).1) ∧ ∀ w, w < 3 → T'.2.1 187 w = (plK k σs tt).2 w := by
  intro k
  induction k with
  | zero =>
    intro i T σs tt f h1 h2 hR sk hD hS ht
    obtain ⟨f, rfl⟩ : ∃ k, f = k + 1 := ⟨f - 1, by omega⟩
    obtain rfl : i = m := by omega
    refine ⟨T, ?_, agr.refl _ _, hS, ht⟩
    rw [f_X11_playTerm_L36, if_pos (nI_le (by omega) (by omega))]
  | succ k ih =>
    intro i T σs tt f h1 h2 hR sk hD hS ht
    obtain ⟨f, rfl⟩ : ∃ k, f = k + 1 := ⟨f - 1, by omega⟩
    have hP' : 0 < dN (cur σs) 2 := by rw [sk.dN (by decide) (by decide)]; exact hP
    have hC' : 0 < nc (cur σs) := by rw [sk.nc]; exact hC
    obtain ⟨T1, a1, a2, a3, a4⟩ := c_play1 (sl := sl) (U := U) (σ1 := σ1) hR sk hD hS hP hC ht (nI m) (nI i) K f (nI_ge (by omega) (by omega))
    obtain ⟨T', z1, z2, z3, z4⟩ := ih (i + 1) T1 (plB σs) (plT σs tt) f (by omega) (by omega) (hR.scr a2 (Eqm.refl σk)) (sk.trans (plB_Sk hD hP')) (plB_DG hD hP' hC') a3 a4
    refine ⟨T', ?_, a2.trans z2, z3, z4⟩
    rw [a1, oin1, nI_add]
    exact z1
/-- a term from x on -/
def trX (σ : Sg) (x : Int32) : Sg := stA σ 189 9 x
def trK (m : Nat) (σ : Sg) (x : Int32) (tt : Nat → Int32) : Int32 × (Nat → Int32) := if 0 < dN (cur σ) 2 then (cur (plK m (trX σ x) tt).1 189 9, (plK m (trX σ x) tt).2) else (x, tt)
def trM (m : Nat) (σ : Sg) : Nat → Int32 → (Nat → Int32) → Nat → Int32
  | 0, _, tt => tt
  | k + 1, x, tt => trM m σ k (trK m σ x tt).1 (trK m σ x tt).2
theorem trX_9 (x : Int32) : cur (trX σk x) 189 9 = x := by
  unfold trX
  rw [cu_A _ (by decide) (show 9 < dlen 189 by decide), if_pos ⟨rfl, rfl⟩]
theorem trX_7 (x : Int32) : cur (trX σk x) 189 7 = cur σk 189 7 := by
  unfold trX
  rw [cu_A _ (by decide) (show 9 < dlen 189 by decide), if_neg (by omega)]
theorem trX_191 (x : Int32) : cur (trX σk x) 191 = cur σk 191 := by
  funext i
  unfold trX
  rw [cu_A _ (by decide) (show 9 < dlen 189 by decide), if_neg (by omega)]
theorem trX_DG {x : Int32} (hD : DG nr (cur σk)) (hx : 0 ≤ x) : DG nr (cur (trX σk x)) := by
  have sk : Sk σk (trX σk x) := Sk.s189 _ _ (.inr rfl)
  exact hD.mod (fun _ a b => sk.c189 a b) (by rw [trX_7]; exact hD.b8) (by rw [trX_9]; exact hx) (fun q hq => by rw [trX_191]; exact hD.at0 hq) (fun _ a b => sk.cr a b)
theorem trK_x {m : Nat} {x : Int32} {tt : Nat → Int32} (hD : DG nr (cur σk)) (hx : 0 ≤ x) (hC : 0 < nc (cur σk)) : 0 ≤ (trK m σk x tt).1 := by
  unfold trK
  split
  · rename_i hP
    exact (plK_ok hP hC m (trX σk x) tt (Sk.s189 _ _ (.inr rfl)) (trX_DG hD hx)).2.dx
  · exact hx
theorem c_playTerm {T : Tc} {m : Nat} {x : Int32} {tt : Nat → Int32} (hm : m ≤ 40) (hR : REL n S T σk nr) (hC : 0 < nc (cur σk)) (hx : 0 ≤ x) (hS : SRt n S T (cur (trX σk x))) (ht : ∀ w, w < 3 → T.2.1 187 w = tt w) : ∃ T', f_X11_playTerm (cn n sl U S T σ1) 128 (nI m) = some (cn n sl U S T' σ1) ∧ agr (Ns S) T T' ∧ T'.1 167 2 = (trK m σk x tt).1 ∧ ∀ w, w < 3 → T'.2.1 187 w = (trK m σk x tt).2 w := by
  have hD := hR.2.2.2.2.1
  have bP := hD.bP
  have n48 := hD.n48
  have sk : Sk σk (trX σk x) := Sk.s189 _ _ (.inr rfl)
  have e6 : T.1 (T.2.2.2.1 167 0) 6 = nI (dN (cur σk) 2) := by rw [hS.1.la.pe, sk.c189 (by decide) (by decide)]; exact hD.sP
  have e2 : T.1 (T.2.2.2.1 167 0) 2 = nI (nc (cur σk)) := by
    have := hS.1.la.cg.2.2.1
    rw [show dN (cur (trX σk x)) 0 * dN (cur (trX σk x)) 1 = nc (cur (trX σk x)) from rfl, sk.nc] at this
    exact this
  unfold f_X11_playTerm
  rw [x128_7, Option.bind_some, s0_0 sv_167, Option.bind_some, g0_6 hS.1.la.gv, Option.bind_some, nm_q, Option.bind_some, s0_0 sv_167, Option.bind_some, g0_2 hS.1.la.gv, Option.bind_some, nm_q, e6, e2]
  unfold trK
  by_cases hP : 0 < dN (cur σk) 2
  · obtain ⟨T', z1, z2, z3, z4⟩ := c_playL (sl := sl) (U := U) (σ1 := σ1) hP hC hm (fun μ70 => (some μ70)) m 0 T (trX σk x) tt FU (by omega) (by unfold FU; omega) hR sk (trX_DG hD hx) hS ht
    rw [show nI 0 = (0 : Int32) from rfl] at z1
    refine ⟨T', ?_, z2, ?_, ?_⟩
    · rw [if_neg (show ¬ nI (dN (cur σk) 2) < 1 from nI_nlt (b := 1) (by omega) (by omega)), if_pos (show (1 : Int32) ≤ nI (nc (cur σk)) from nI_le (a := 1) (by omega) (by omega)), nm_q]
      exact z1
    · rw [if_pos hP]; exact z3.2.2
    · rw [if_pos hP]; exact z4
  · refine ⟨T, ?_, agr.refl _ _, ?_, ?_⟩
    · rw [if_pos (show nI (dN (cur σk) 2) < 1 from nI_lt (b := 1) (by omega) (by decide))]
    · rw [if_neg hP, hS.2.2, trX_9]
    · rw [if_neg hP]; exact ht
theorem c_termsL {m M : Nat} {w : Int32} (hm : m ≤ 40) (hM : M ≤ 20) (hC : 0 < nc (cur σk)) (K : Mm → Nat → Int32 → Option (Int32 × Mm)) : ∀ (k i : Nat) (T : Tc) (x : Int32) (tt : Nat → Int32) (f : Nat), i + k = M → k < f → REL n S T σk nr → 0 ≤ x → (∀ w, w < 3 → T.2.1 187 w = tt w) → ∃ T', f_X11_terms_L68 K f (cn n sl U S T σ1) 128 (nI M) (nI m) w x (nI i) = K (cn n sl U S T' σ1) 128 w ∧ agr (Ns S) T T' ∧ ∀ w, w < 3 → T'.2.1 187 w = trM m σk k x tt w := by
  intro k
  induction k with
  | zero =>
    intro i T x tt f h1 h2 hR hx ht
    obtain ⟨f, rfl⟩ : ∃ k, f = k + 1 := ⟨f - 1, by omega⟩
    obtain rfl : i = M := by omega
    refine ⟨T, ?_, agr.refl _ _, ht⟩
    rw [f_X11_terms_L68, if_pos (nI_le (by omega) (by omega))]
  | succ k ih =>
    intro i T x tt f h1 h2 hR hx ht
    obtain ⟨f, rfl⟩ : ∃ k, f = k + 1 := ⟨f - 1, by omega⟩
    have hD := hR.2.2.2.2.1
    have hS := hR.2.2.2.2.2
    obtain ⟨T1, c1, c2⟩ := c_copyFrom (sl := sl) (U := U) (T := T) (σ1 := σ1) (sv_167 (n := n) (S := S)) hS.sv (show 167 ≠ 161 by decide)
    have S1 := c2.sr sv_167 hS hD
    have n1 : agr (Ns S) T T1 := c2.1.mono fun r hr => by
      show r < 167 ∨ 167 + 6 ≤ r
      by_cases h : 167 ≤ r ∧ r ≤ 172
      · exact absurd (.inl h) hr
      · omega
    have n2 : agr (Ns S) T (tI T1 167 2 x) := n1.trans (ns_scr (agr_tI _ _ (fun h => h rfl)) (.inl (by omega)))
    have S2 : SRt n S (tI T1 167 2 x) (cur (trX σk x)) := by
      have sk : Sk σk (trX σk x) := Sk.s189 _ _ (.inr rfl)
      refine ⟨S1.w.upd (agr_tI _ _ (fun h => h.1 rfl)) rfl sk.gs (fun p hp => by rw [trX_191]; exact S1.pc p hp) (sk.cr (by decide) (by decide)), ?_, ?_⟩
      · rw [tI1, if_neg (by omega), trX_7]; exact S1.br
      · rw [tI1, if_pos ⟨rfl, rfl⟩, trX_9]
    have t87 : (tI T1 167 2 x).2.1 187 = T.2.1 187 := by
      rw [tI2]; exact (c2.1 187 (.inr (by omega))).2.1
    obtain ⟨T3, p1, p2, p3, p4⟩ := c_playTerm (sl := sl) (U := U) (σ1 := σ1) (m := m) (tt := tt) hm (hR.scr n2 (Eqm.refl σk)) hC hx S2 (by rw [t87]; exact ht)
    obtain ⟨T', z1, z2, z3⟩ := ih (i + 1) T3 (trK m σk x tt).1 (trK m σk x tt).2 f (by omega) (by omega) (hR.scr (n2.trans p2) (Eqm.refl σk)) (trK_x hD hx hC) p4
    refine ⟨T', ?_, (n2.trans p2).trans z2, z3⟩
    rw [f_X11_terms_L68, if_neg (nI_ge (by omega) (by omega)), x128_7, Option.bind_some, x128_6, Option.bind_some, s0_o sv_167, Option.bind_some, c1, Option.bind_some, x128_7, Option.bind_some, s0_2p sv_167, Option.bind_some, x128_o, Option.bind_some, p1, Option.bind_some, x128_7, Option.bind_some, s0_2 sv_167, Option.bind_some, p3, nm_q, nm_q, oin1, nI_add]
    exact z1
end TERMS
