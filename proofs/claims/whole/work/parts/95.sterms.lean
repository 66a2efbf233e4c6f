/-! Terms by the reference. -/
theorem eqm_A {σ σ1 : Sg} (h : Eqm σ σ1) (r i : Nat) (v : Int32) : Eqm (stA σ r i v) (stA σ1 r i v) := ⟨h.1, h.2.1, h.2.2.1, h.2.2.2.1, fun q hq => by
  funext j
  rw [stA2, stA2]
  by_cases e : q = r ∧ j = i
  · rw [if_pos e, if_pos e]
  · rw [if_neg e, if_neg e, h.2.2.2.2 q hq]⟩
theorem stA_same (σ : Sg) (r i : Nat) (u v : Int32) : stA (stA σ r i u) r i v = stA σ r i v := by
  unfold stA
  refine Prod.ext rfl (Prod.ext ?_ rfl)
  show va_up (va_up σ.2.1 r (upd (σ.2.1 r) i u)) r (upd (va_up σ.2.1 r (upd (σ.2.1 r) i u) r) i v) = va_up σ.2.1 r (upd (σ.2.1 r) i v)
  rw [va_up_self, va_uu]
  congr 1
  funext j
  by_cases e : j = i
  · subst e; rw [pk_us, pk_us]
  · rw [pk_un e, pk_un e, pk_un e]
theorem stA_comm (σ : Sg) {r r' : Nat} (i i' : Nat) (u v : Int32) (h : r ≠ r') : stA (stA σ r i u) r' i' v = stA (stA σ r' i' v) r i u := by
  unfold stA
  refine Prod.ext rfl (Prod.ext ?_ rfl)
  show va_up (va_up σ.2.1 r (upd (σ.2.1 r) i u)) r' (upd (va_up σ.2.1 r (upd (σ.2.1 r) i u) r') i' v) = va_up (va_up σ.2.1 r' (upd (σ.2.1 r') i' v)) r (upd (va_up σ.2.1 r' (upd (σ.2.1 r') i' v) r) i u)
  rw [va_up_ne _ _ (Ne.symm h), va_up_ne _ _ h]
  funext q
  by_cases e : q = r
  · subst e; rw [va_up_ne _ _ h, va_up_self, va_up_self]
  · by_cases e' : q = r'
    · subst e'; rw [va_up_self, va_up_ne _ _ e, va_up_self]
    · rw [va_up_ne _ _ e', va_up_ne _ _ e, va_up_ne _ _ e, va_up_ne _ _ e']
section STERM
variable {nr n lw : Nat} {S : Nat → Nat × Nat × Nat} {T : Tc} {σ1 σk σs : Sg}
def plV (σ : Sg) (w : Nat) : Int32 := if w = 0 then mkI (plF σ).2.2.2.2 else if w = 1 then nI (ct8 (plF σ).2.2.2.1) else (plF σ).2.1
theorem plT_w (σ : Sg) (tt : Nat → Int32) {w : Nat} (hw : w < 3) : plT σ tt w = tt w + plV σ w := by
  unfold plT plV
  rcases (show w = 0 ∨ w = 1 ∨ w = 2 by omega) with rfl | rfl | rfl
  · rw [if_pos rfl, if_pos rfl]
  · rw [if_neg (by decide), if_pos rfl, if_neg (by decide), if_pos rfl]
  · rw [if_neg (by decide), if_neg (by decide), if_neg (by decide), if_neg (by decide)]
theorem s_play1 (hL : RLw n S T σs lw) (hD : DG nr (cur σs)) (hP : 0 < dN (cur σs) 2) (hC : 0 < nc (cur σs)) (he : Eqm σs σ1) (M m was z i2 i : Int32) {w : Nat} (hw : w < 3) (K : Mm → Nat → Int32 → Int32 → Int32 → Int32 → Int32 → Int32 → Option (Int32 × Mm)) (f : Nat) (hlt : ¬ m ≤ i) : ∃ σ', (∀ ρ τ, f_X12_terms_L86 K (f + 1) (mem ρ τ σ1) 188 M m (nI w) was z i2 i = f_X12_terms_L86 K f (mem ρ τ σ') 188 M m (nI w) was (z + plV σs w) i2 (i + Int32.ofInt 1)) ∧ Eqm (plB σs) σ' := by
  have bP := hD.bP
  have n48 := hD.n48
  have hx := hD.xN
  have hq : plQ σs < dN (cur σs) 2 := Nat.mod_lt _ hP
  have q5 : plQ σs < 5 := by omega
  have hs5 : plS σs < 5 := Nat.mod_lt _ (by decide)
  have dA := plA_DG hD hP hC
  have skA := plA_Sk hD hP
  have ok := plF_ok hD hP hC
  have x1 : σ1.2.1 189 9 = nI (xN σs) := by rw [he.2.2.2.2 189 (by unfold PerM; omega)]; exact hx.1
  have cel : ∀ σ', Sk σ1 σ' → ∀ ρ τ, f_X12_cells (mem ρ τ σ') 188 = some (nI (nc (cur σs)), mem ρ τ σ') := by
    intro σ' sk ρ τ
    unfold f_X12_cells
    rw [mR_1, Option.bind_some, sc_0, Option.bind_some, Option.bind_some, sc_1, Option.bind_some, sk.2.2.2.1 0 (by decide) (by decide), sk.2.2.2.1 1 (by decide) (by decide), he.2.2.2.2 189 (by unfold PerM; omega), cs_0, cs_1, hD.sC, hD.sR, pk_mul]
  obtain ⟨σd, wd⟩ : ∃ Y : Sg, Y = stA (stA (stA (stA σ1 189 9 (nI (drN (xN σs)))) 189 9 (nI (drN (drN (xN σs))))) 191 (plQ σs) (nI (plC σs))) 189 9 (nI (drN (drN (drN (xN σs))))) := ⟨_, rfl⟩
  have hed : Eqm (plA σs) σd := by
    rw [wd, stA_same, stA_comm σ1 9 (plQ σs) _ _ (by decide), stA_same]
    exact eqm_A (eqm_A he _ _ _) _ _ _
  have cd : cur σd = cur (plA σs) := hed.cu
  have dd : DG nr (cur σd) := by rw [cd]; exact dA
  have c191 : cur σd 191 (plQ σs) = nI (plC σs) := by rw [cd, plA_191 hD hP, if_pos rfl]
  have hcc : plC σs < nc (cur σs) := Nat.mod_lt _ hC
  have edA : dAt (cur σd) (plQ σs) = plC σs := by unfold dAt; rw [c191, nI_clamp (by omega)]
  obtain ⟨σ3, f1, f2⟩ := s_falls (q := plQ σs) (d := plC σs) (s := plS σs) dd (sm_RLw hed.sm (skA.RLw hL)) (by rw [cd, skA.dN (by decide) (by decide)]; exact hq) (by rw [cd, skA.nc]; exact hcc) hs5
  have efl : runF σd (plQ σs) 9 (plC σs) (nxt (cur σd) (plC σs) (plS σs)) (0, 0, 0, 0) = plF σs := by
    have := sm_flF hed.sm (plQ σs) (plS σs)
    unfold flF at this
    rw [edA] at this
    rw [this]
    rfl
  rw [efl] at f1 f2
  have o7 : σ3.2.1 189 7 = cur σs 189 7 := by
    rw [f2.1]
    show cur σd 189 7 = _
    rw [cd, plA_7 hD hP]
  obtain ⟨σ5, w5⟩ : ∃ Y : Sg, Y = stA (stA σ3 191 (plQ σs) (nI (plF σs).1)) 189 7 (cur σs 189 7 ||| (plF σs).2.2.2.1) := ⟨_, rfl⟩
  have he5 : Eqm (plB σs) σ5 := by
    rw [w5]
    exact eqm_A (eqm_A (hed.trans f2.eqm) _ _ _) _ _ _
  have now : ∀ ρ τ, f_X12_fallsNow (mem ρ τ σd) 188 (nI (plQ σs)) (nI (plS σs)) = some (mkI (plF σs).2.2.2.2, mem ρ τ σ5) := by
    intro ρ τ
    unfold f_X12_fallsNow
    rw [mR_3, Option.bind_some, Option.bind_some, y191_r q5, Option.bind_some, ob_mem, Option.bind_some, ← cu_191 q5, c191, f1, bd_some, y191_w q5, Option.bind_some, mR_1, Option.bind_some, sc_7, Option.bind_some, mI_51, Option.bind_some, stA1, f2.2.2.2.2.1, stA2, if_neg (by omega), o7, sp_7, Option.bind_some, ← w5, ob_mem, Option.bind_some, s_markOf (x := (plF σs).2) (show σ5.1 52 = _ by rw [w5]; exact f2.2.2.2.2.2.1), bd_some]
  refine ⟨σ5, fun ρ τ => ?_, he5⟩
  have hp2 : σ1.2.1 189 2 = nI (dN (cur σs) 2) := by rw [he.2.2.2.2 189 (by unfold PerM; omega)]; exact hD.sP
  have k1 : Sk σ1 (stA σ1 189 9 (nI (drN (xN σs)))) := Sk.s189 _ _ (.inr rfl)
  rw [f_X12_terms_L86, if_neg hlt, mR_1, Option.bind_some, sc_2, Option.bind_some, hp2, if_neg (show ¬ nI (dN (cur σs) 2) ≤ 0 from nI_ge (a := 0) hP (by omega)), Option.bind_some, sc_2, Option.bind_some, hp2, ob_mem, Option.bind_some, s_draw x1 hx.2 hP (by omega), bd_some, nm_q, mR_3, Option.bind_some, ob_mem, Option.bind_some, cel _ k1, bd_some, ob_mem, Option.bind_some, s_draw (j := drN (xN σs)) (by rw [stA2, if_pos ⟨rfl, rfl⟩]) (drN_lt _) hC (by omega), bd_some]
  rw [show drN (xN σs) / 65536 % dN (cur σs) 2 = plQ σs from rfl, show drN (drN (xN σs)) / 65536 % nc (cur σs) = plC σs from rfl, y191_w q5, Option.bind_some, ob_mem, Option.bind_some, show (5 : Int32) = nI 5 from rfl, s_draw (j := drN (drN (xN σs))) (by rw [stA2, if_neg (by omega), stA2, if_pos ⟨rfl, rfl⟩]) (drN_lt _) (by decide) (by decide), bd_some, show drN (drN (drN (xN σs))) / 65536 % 5 = plS σs from rfl, ← wd, ob_mem, Option.bind_some, now, bd_some, nm_q]
  unfold plV
  have e51 : σ5.1 51 = (plF σs).2.2.2.1 := by rw [w5]; exact f2.2.2.2.2.1
  have e49 : σ5.1 49 = (plF σs).2.1 := by rw [w5]; exact f2.2.2.1
  rcases (show w = 0 ∨ w = 1 ∨ w = 2 by omega) with rfl | rfl | rfl
  · rw [if_pos (show nI 0 = 0 from rfl), nm_q, nm_q, if_pos rfl]
  · rw [if_neg (show ¬ nI 1 = 0 by decide), if_pos (show nI 1 = 1 from rfl), mI_51, Option.bind_some, e51, s_bits _ ok.2, bd_some, nm_q, nm_q, if_neg (by decide), if_pos rfl]
  · rw [if_neg (show ¬ nI 2 = 0 by decide), if_neg (show ¬ nI 2 = 1 by decide), mI_49, Option.bind_some, e49, nm_q, nm_q, if_neg (by decide), if_neg (by decide)]
theorem s_playL (hL : RLw n S T σk lw) (hP : 0 < dN (cur σk) 2) (hC : 0 < nc (cur σk)) {m w : Nat} (hm : m ≤ 40) (hw : w < 3) (M was i2 : Int32) (K : Mm → Nat → Int32 → Int32 → Int32 → Int32 → Int32 → Int32 → Option (Int32 × Mm)) : ∀ (k i : Nat) (σ1 σs : Sg) (tt : Nat → Int32) (f : Nat), i + k = m → k < f → Sk σk σs → DG nr (cur σs) → Eqm σs σ1 → ∃ σ', (∀ ρ τ, f_X12_terms_L86 K f (mem ρ τ σ1) 188 M (nI m) (nI w) was (tt w) i2 (nI i) = K (mem ρ τ σ') 188 M (nI m) (nI w) was ((plK k σs tt).2 w) i2) ∧ Eqm (plK k σs tt).1 σ' := by
  intro k
  induction k with
  | zero =>
    intro i σ1 σs tt f h1 h2 sk hD he
    obtain ⟨f, rfl⟩ : ∃ k, f = k + 1 := ⟨f - 1, by omega⟩
    obtain rfl : i = m := by omega
    refine ⟨σ1, fun ρ τ => ?_, he⟩
    rw [f_X12_terms_L86, if_pos (nI_le (by omega) (by omega))]
    rfl
  | succ k ih =>
    intro i σ1 σs tt f h1 h2 sk hD he
    obtain ⟨f, rfl⟩ : ∃ k, f = k + 1 := ⟨f - 1, by omega⟩
    have hP' : 0 < dN (cur σs) 2 := by rw [sk.dN (by decide) (by decide)]; exact hP
    have hC' : 0 < nc (cur σs) := by rw [sk.nc]; exact hC
    obtain ⟨σ2, a1, a2⟩ := s_play1 (sk.RLw hL) hD hP' hC' he M (nI m) was (tt w) i2 (nI i) hw K f (nI_ge (by omega) (by omega))
    obtain ⟨σ', z1, z2⟩ := ih (i + 1) σ2 (plB σs) (plT σs tt) f (by omega) (by omega) (sk.trans (plB_Sk hD hP')) (plB_DG hD hP' hC') a2
    refine ⟨σ', fun ρ τ => ?_, z2⟩
    rw [a1, oin1, nI_add, ← plT_w σs tt hw]
    exact z1 ρ τ
end STERM
