/-! A term played: what it is. -/
theorem rmI_n {α : Type} {a d : Nat} (ha : a < 2 ^ 31) (h0 : 0 < d) (hd : d < 2 ^ 31) (F : Int32 → Option α) : rmI (nI a) (nI d) F = F (nI (a % d)) := by
  unfold rmI
  rw [if_neg (nI_ne0 h0 hd), pk_rem ha h0 hd]
theorem dvI_n {α : Type} {a d : Nat} (ha : a < 2 ^ 31) (h0 : 0 < d) (hd : d < 2 ^ 31) (F : Int32 → Option α) : dvI (nI a) (nI d) F = F (nI (a / d)) := by
  unfold dvI
  rw [if_neg (nI_ne0 h0 hd), pk_div ha h0 hd]
theorem cu_A {σ : Sg} {r i : Nat} (v : Int32) (hr : r ≠ 0) (hi : i < dlen r) (r' i' : Nat) : cur (stA σ r i v) r' i' = if r' = r ∧ i' = i then v else cur σ r' i' := by
  unfold cur
  by_cases h : r' = r ∧ i' = i
  · rw [if_pos h, h.1, h.2, if_pos hi, if_neg hr, stA2, if_pos ⟨rfl, rfl⟩]
  · rw [if_neg h]
    by_cases h1 : i' < dlen r'
    · rw [if_pos h1, if_pos h1, stA1]
      by_cases h0 : r' = 0
      · rw [if_pos h0, if_pos h0]
      · rw [if_neg h0, if_neg h0, stA2, if_neg h]
    · rw [if_neg h1, if_neg h1]
def xN (σ : Sg) : Nat := (cur σ 189 9).toNatClampNeg
def plQ (σ : Sg) : Nat := drN (xN σ) / 65536 % dN (cur σ) 2
def plC (σ : Sg) : Nat := drN (drN (xN σ)) / 65536 % nc (cur σ)
def plS (σ : Sg) : Nat := drN (drN (drN (xN σ))) / 65536 % 5
def plA (σ : Sg) : Sg := stA (stA σ 191 (plQ σ) (nI (plC σ))) 189 9 (nI (drN (drN (drN (xN σ)))))
def plF (σ : Sg) : Nat × Fst := flF (plA σ) (plQ σ) (plS σ)
def plB (σ : Sg) : Sg := stA (stA (plA σ) 191 (plQ σ) (nI (plF σ).1)) 189 7 (cur σ 189 7 ||| (plF σ).2.2.2.1)
/-- only where people are, what is broken and x differ -/
def Sk (σ σ' : Sg) : Prop := σ'.1 = σ.1 ∧ σ'.2.2 = σ.2.2 ∧ (∀ r, r ≠ 189 → r ≠ 191 → σ'.2.1 r = σ.2.1 r) ∧ (∀ k, k ≠ 7 → k ≠ 9 → σ'.2.1 189 k = σ.2.1 189 k) ∧ ∀ i, 5 ≤ i → σ'.2.1 191 i = σ.2.1 191 i
theorem Sk.refl (σ : Sg) : Sk σ σ := ⟨rfl, rfl, fun _ _ _ => rfl, fun _ _ _ => rfl, fun _ _ => rfl⟩
theorem Sk.trans {a b c : Sg} (h : Sk a b) (h' : Sk b c) : Sk a c := ⟨h'.1.trans h.1, h'.2.1.trans h.2.1, fun r x y => (h'.2.2.1 r x y).trans (h.2.2.1 r x y), fun k x y => (h'.2.2.2.1 k x y).trans (h.2.2.2.1 k x y), fun i x => (h'.2.2.2.2 i x).trans (h.2.2.2.2 i x)⟩
theorem Sk.s191 (σ : Sg) {i : Nat} (v : Int32) (hi : i < 5) : Sk σ (stA σ 191 i v) := ⟨rfl, rfl, fun r a b => by funext j; rw [stA2, if_neg (fun h => b h.1)], fun k _ _ => by rw [stA2, if_neg (by omega)], fun j hj => by rw [stA2, if_neg (by omega)]⟩
theorem Sk.s189 (σ : Sg) {i : Nat} (v : Int32) (hi : i = 7 ∨ i = 9) : Sk σ (stA σ 189 i v) := ⟨rfl, rfl, fun r a b => by funext j; rw [stA2, if_neg (fun h => a h.1)], fun k a b => by rw [stA2, if_neg (by omega)], fun j hj => by rw [stA2, if_neg (by omega)]⟩
section PLAY
variable {nr n sl : Nat} {U : Nat → va_E} {S : Nat → Nat × Nat × Nat} {T : Tc} {σ σ1 σs : Sg}
theorem Sk.cr (h : Sk σ σs) {r : Nat} (h1 : r ≠ 189) (h2 : r ≠ 191) : cur σs r = cur σ r := by
  funext i
  unfold cur
  rw [h.1, h.2.2.1 r h1 h2]
theorem Sk.c189 (h : Sk σ σs) {k : Nat} (h1 : k ≠ 7) (h2 : k ≠ 9) : cur σs 189 k = cur σ 189 k := by
  unfold cur
  rw [h.2.2.2.1 k h1 h2]
  rfl
theorem Sk.dN (h : Sk σ σs) {k : Nat} (h1 : k ≠ 7) (h2 : k ≠ 9) : dN (cur σs) k = dN (cur σ) k := by
  show (cur σs 189 k).toNatClampNeg = (cur σ 189 k).toNatClampNeg
  rw [h.c189 h1 h2]
theorem Sk.nc (h : Sk σ σs) : nc (cur σs) = nc (cur σ) := by
  show _ * _ = _ * _
  rw [h.dN (by decide) (by decide), h.dN (by decide) (by decide)]
theorem Sk.gs (h : Sk σ σs) : gsame (cur σ) (cur σs) := gs_mod (fun _ a b => h.c189 a b) (fun _ a b => h.cr a b)
theorem Sk.RLw {lw : Nat} (h : Sk σ σs) (hL : RLw n S T σ lw) : RLw n S T σs lw := by
  have e := fun r a b => h.2.2.1 r a b
  have e10 := h.2.2.2.1 10 (by decide) (by decide)
  rcases hL with ⟨h1, h2⟩ | ⟨r, l, m, h1, h2, h3⟩
  · exact .inl ⟨by rw [e10]; exact h1, h2⟩
  · refine .inr ⟨r, l, m, h1, by rw [e10]; exact h2, ?_⟩
    unfold RR at h3 ⊢
    rw [e 216 (by decide) (by decide), e 217 (by decide) (by decide), e 218 (by decide) (by decide), e 219 (by decide) (by decide), e 220 (by decide) (by decide), e 221 (by decide) (by decide), e 223 (by decide) (by decide)]
    exact h3
theorem DG.xN (hD : DG nr (cur σ)) : cur σ 189 9 = nI (xN σ) ∧ xN σ < 2 ^ 31 := ⟨nI_cl _ hD.dx, Int32.toNatClampNeg_lt _⟩
theorem plA_Sk (hD : DG nr (cur σ)) (hP : 0 < dN (cur σ) 2) : Sk σ (plA σ) := by
  have bP := hD.bP
  have hq : plQ σ < dN (cur σ) 2 := Nat.mod_lt _ hP
  exact (Sk.s191 σ _ (by omega)).trans (Sk.s189 _ _ (.inr rfl))
theorem plA_191 (hD : DG nr (cur σ)) (hP : 0 < dN (cur σ) 2) (p : Nat) : cur (plA σ) 191 p = if p = plQ σ then nI (plC σ) else cur σ 191 p := by
  have bP := hD.bP
  have hq : plQ σ < dN (cur σ) 2 := Nat.mod_lt _ hP
  unfold plA
  rw [cu_A _ (by decide) (show 9 < dlen 189 by decide), if_neg (by omega), cu_A _ (by decide) (show plQ σ < dlen 191 by show plQ σ < 5; omega)]
  by_cases h : p = plQ σ
  · rw [if_pos ⟨rfl, h⟩, if_pos h]
  · rw [if_neg (fun e => h e.2), if_neg h]
theorem plA_9 : cur (plA σ) 189 9 = nI (drN (drN (drN (xN σ)))) := by
  unfold plA
  rw [cu_A _ (by decide) (show 9 < dlen 189 by decide), if_pos ⟨rfl, rfl⟩]
theorem plA_7 (hD : DG nr (cur σ)) (hP : 0 < dN (cur σ) 2) : cur (plA σ) 189 7 = cur σ 189 7 := by
  have bP := hD.bP
  have hq : plQ σ < dN (cur σ) 2 := Nat.mod_lt _ hP
  unfold plA
  rw [cu_A _ (by decide) (show 9 < dlen 189 by decide), if_neg (by omega), cu_A _ (by decide) (show plQ σ < dlen 191 by show plQ σ < 5; omega), if_neg (by omega)]
theorem plA_DG (hD : DG nr (cur σ)) (hP : 0 < dN (cur σ) 2) (hC : 0 < nc (cur σ)) : DG nr (cur (plA σ)) := by
  have sk := plA_Sk hD hP
  refine hD.mod (fun _ a b => sk.c189 a b) (by rw [plA_7 hD hP]; exact hD.b8) (by rw [plA_9]; exact nI_pos' (drN_lt _)) (fun q hq => ?_) (fun _ a b => sk.cr a b)
  rw [plA_191 hD hP]
  by_cases h : q = plQ σ
  · rw [if_pos h]; exact ⟨_, Nat.mod_lt _ hC, rfl⟩
  · rw [if_neg h]; exact hD.at0 hq
theorem plB_Sk (hD : DG nr (cur σ)) (hP : 0 < dN (cur σ) 2) : Sk σ (plB σ) := by
  have bP := hD.bP
  have hq : plQ σ < dN (cur σ) 2 := Nat.mod_lt _ hP
  exact ((plA_Sk hD hP).trans (Sk.s191 _ _ (by omega))).trans (Sk.s189 _ _ (.inl rfl))
theorem plB_191 (hD : DG nr (cur σ)) (hP : 0 < dN (cur σ) 2) (p : Nat) : cur (plB σ) 191 p = if p = plQ σ then nI (plF σ).1 else cur σ 191 p := by
  have bP := hD.bP
  have hq : plQ σ < dN (cur σ) 2 := Nat.mod_lt _ hP
  unfold plB
  rw [cu_A _ (by decide) (show 7 < dlen 189 by decide), if_neg (by omega), cu_A _ (by decide) (show plQ σ < dlen 191 by show plQ σ < 5; omega)]
  by_cases h : p = plQ σ
  · rw [if_pos ⟨rfl, h⟩, if_pos h]
  · rw [if_neg (fun e => h e.2), if_neg h, plA_191 hD hP, if_neg h]
theorem plB_7 : cur (plB σ) 189 7 = cur σ 189 7 ||| (plF σ).2.2.2.1 := by
  unfold plB
  rw [cu_A _ (by decide) (show 7 < dlen 189 by decide), if_pos ⟨rfl, rfl⟩]
theorem plB_9 (hD : DG nr (cur σ)) (hP : 0 < dN (cur σ) 2) : cur (plB σ) 189 9 = nI (drN (drN (drN (xN σ)))) := by
  have bP := hD.bP
  have hq : plQ σ < dN (cur σ) 2 := Nat.mod_lt _ hP
  unfold plB
  rw [cu_A _ (by decide) (show 7 < dlen 189 by decide), if_neg (by omega), cu_A _ (by decide) (show plQ σ < dlen 191 by show plQ σ < 5; omega), if_neg (by omega), plA_9]
theorem plF_ok (hD : DG nr (cur σ)) (hP : 0 < dN (cur σ) 2) (hC : 0 < nc (cur σ)) : (plF σ).1 < nc (cur σ) ∧ isB (plF σ).2.2.2.1 256 := by
  have dA := plA_DG hD hP hC
  have sk := plA_Sk hD hP
  have h := flF_c (s := plS σ) (q := plQ σ) dA (by rw [sk.dN (by decide) (by decide)]; exact Nat.mod_lt _ hP)
  rw [sk.nc] at h
  exact ⟨h, flF_8 dA⟩
theorem plB_DG (hD : DG nr (cur σ)) (hP : 0 < dN (cur σ) 2) (hC : 0 < nc (cur σ)) : DG nr (cur (plB σ)) := by
  have sk := plB_Sk hD hP
  have ok := plF_ok hD hP hC
  refine hD.mod (fun _ a b => sk.c189 a b) (by rw [plB_7]; exact isB_or hD.b8 ok.2) (by rw [plB_9 hD hP]; exact nI_pos' (drN_lt _)) (fun q hq => ?_) (fun _ a b => sk.cr a b)
  rw [plB_191 hD hP]
  by_cases h : q = plQ σ
  · rw [if_pos h]; exact ⟨_, ok.1, rfl⟩
  · rw [if_neg h]; exact hD.at0 hq
/-- the class's spare school follows -/
def SRt (n : Nat) (S : Nat → Nat × Nat × Nat) (T : Tc) (D : Dt) : Prop := SRw n S T 167 D ∧ T.1 167 3 = D 189 7 ∧ T.1 167 2 = D 189 9
theorem c_draw {j : Nat} (hx : T.1 167 2 = nI j) (hj : j < 2 ^ 31) : f_X7_nextDraw (cn n sl U S T σ1) 167 = some (nI (drN j / 65536), cn n sl U S (tI T 167 2 (nI (drN j))) σ1) := by
  unfold f_X7_nextDraw
  rw [s0_2 sv_167, Option.bind_some, hx]
  unfold rmL
  rw [if_neg (by decide)]
  show (pV (cn n sl U S T σ1) 167 7 2 (.int ((zdr (nI j) - zdr (nI j) / 2147483648 * 2147483648).toInt32))).bind _ = _
  rw [nd_eq hj, s0_2p sv_167, Option.bind_some, s0_2 sv_167, Option.bind_some, show (tI T 167 2 (nI (drN j))).1 167 2 = nI (drN j) by rw [tI1, if_pos ⟨rfl, rfl⟩], show (65536 : Int32) = nI 65536 from rfl, dvI_n (drN_lt j) (by decide) (by decide)]
theorem s_draw {j d : Nat} (hx : σ1.2.1 189 9 = nI j) (hj : j < 2 ^ 31) (h0 : 0 < d) (hd : d < 2 ^ 31) (ρ : Mm) (τ : Nat → va_E) : f_X12_draws (mem ρ τ σ1) 188 (nI d) = some (nI (drN j / 65536 % d), mem ρ τ (stA σ1 189 9 (nI (drN j)))) := by
  have hl := drN_lt j
  unfold f_X12_draws
  rw [mR_1, Option.bind_some, Option.bind_some, sc_9, Option.bind_some, hx]
  unfold rmL
  rw [if_neg (by decide)]
  show (sI (mem ρ τ σ1) 189 0 (9 : Int32) ((zdr (nI j) - zdr (nI j) / 2147483648 * 2147483648).toInt32)).bind _ = _
  rw [nd_eq hj, sp_9, Option.bind_some, mR_1, Option.bind_some, sc_9, Option.bind_some, stA2, if_pos ⟨rfl, rfl⟩, show (65536 : Int32) = nI 65536 from rfl, dvI_n hl (by decide) (by decide), rmI_n (Nat.lt_of_le_of_lt (Nat.div_le_self _ _) hl) h0 hd]
end PLAY
