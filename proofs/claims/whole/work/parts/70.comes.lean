/-! The reference's falls, whole. -/
def onI (o : Option Nat) : Int32 := match o with
  | none => 0
  | some _ => 1
/-- what broke lies no lower -/
def Hi (D : Dt) (c : Nat) (x : Fst) : Prop := ∀ t, t < dN D 3 → bt x.2.2.1 t = true → ∀ e, e < nc D → D 193 t = nI e → dh D c ≤ dh D e
section COMES
variable {nr n lw q t c d : Nat} {S : Nat → Nat × Nat × Nat} {T : Tc} {σ : Sg} {drop : Int32} {x x0 : Fst}
theorem tch_bt {i u : Nat} (hi : i < 32) (hu : u < 32) (h : i < u) : bt (tch σ q c drop i x).2.2.1 u = bt x.2.2.1 u := by
  unfold tch
  split
  · show bt (x.2.2.1 ||| ((1 : Int32) <<< (nI i &&& 31))) u = _
    rw [b_or, I_one hi, decide_eq_false (by omega), Bool.or_false]
  · rfl
theorem tchs_bt : ∀ (i : Nat) {u : Nat}, u < 32 → i ≤ u → bt (tchs σ q c drop i x).2.2.1 u = bt x.2.2.1 u
  | 0, _, _, _ => rfl
  | i + 1, u, h1, h2 => by
    rw [tchs]
    split
    · rw [tch_bt (by omega) h1 (by omega), tchs_bt i h1 (by omega)]
    · exact tchs_bt i h1 (by omega)
theorem tch_in {i u : Nat} (hi : i < 32) (h : bt (tch σ q c drop i x).2.2.1 u = true) : bt x.2.2.1 u = true ∨ u = i := by
  unfold tch at h
  split at h
  · have h : bt (x.2.2.1 ||| ((1 : Int32) <<< (nI i &&& 31))) u = true := h
    rw [b_or, I_one hi, Bool.or_eq_true] at h
    rcases h with h | h
    · exact .inl h
    · exact .inr (of_decide_eq_true h)
  · exact .inl h
theorem tchs_in : ∀ (i : Nat) {u : Nat}, i ≤ 8 → bt (tchs σ q c drop i x).2.2.1 u = true → bt x.2.2.1 u = true ∨ cur σ 193 u = nI c
  | 0, _, _, h => .inl h
  | i + 1, u, hi, h => by
    rw [tchs] at h
    by_cases hw : whl (cur σ) c i = true
    · rw [if_pos hw] at h
      rcases tch_in (by omega) h with h | h
      · exact tchs_in i (by omega) h
      · right
        rw [h]
        unfold whl at hw
        rw [Bool.and_eq_true] at hw
        exact of_decide_eq_true hw.1
    · rw [if_neg hw] at h
      exact tchs_in i (by omega) h
theorem Hi.stp (hD : DG nr (cur σ)) (h : Hi (cur σ) d x) (hc : c < nc (cur σ)) (hlt : dh (cur σ) c < dh (cur σ) d) : Hi (cur σ) c (stpF σ q d c x) := by
  have bT := hD.bT
  have n48 := hD.n48
  intro t ht hb e he hte
  have key : bt x.2.2.1 t = true ∨ cur σ 193 t = nI c := by
    unfold stpF at hb
    split at hb
    · exact .inl hb
    · split at hb
      · exact tchs_in (x := (psh (cur σ) q d c x.1, x.2.1 + 1, x.2.2.1, x.2.2.2)) _ (by omega) hb
      · exact tchs_in (x := (psh (cur σ) q d c x.1, x.2.1 + 1, x.2.2.1, x.2.2.2)) _ (by omega) hb
  rcases key with k | k
  · have := h t ht k e he hte
    omega
  · rw [k] at hte
    have : c = e := (nI_eq (Nat.lt_of_lt_of_le hc (by omega)) (Nat.lt_of_lt_of_le he (by omega))).1 hte
    rw [this]; omega
theorem RX.dg {σ1 : Sg} (h : RX σ σ1 x) (hD : DG nr (cur σ)) : DG nr (cur σ1) := by rw [h.cu]; exact hD
theorem s_leadX {σ1 : Sg} (h : RX σ σ1 x) (hD : DG nr (cur σ)) (hc : c < nc (cur σ)) (ρ : Mm) (τ : Nat → va_E) : f_X12_leadsTo (mem ρ τ σ1) 188 (nI c) = some (oI (ldD (cur σ) c), mem ρ τ σ1) := by
  have h1 := h.dg hD
  have e := h.cu
  have gs := hD.gs (Nat.lt_of_le_of_lt (Nat.zero_le _) hc)
  have mg := h1.mg
  rw [e] at mg
  exact s_lead mg gs hc
theorem netK_congr {f g : Nat → Int32} {x : Int32} : ∀ (k : Nat), (∀ i, i < k → f i = g i) → netK f x k = netK g x k
  | 0, _ => rfl
  | k + 1, h => by rw [netK, netK, netK_congr k (fun i hi => h i (by omega)), h k (by omega)]
theorem s_netX {σ1 : Sg} (h : RX σ σ1 x) (hD : DG nr (cur σ)) (ρ : Mm) (τ : Nat → va_E) : f_X12_isNet (mem ρ τ σ1) 188 (nI c) = some (if netB (cur σ) c then (1 : Int32) else 0, mem ρ τ σ1) := by
  have b := hD.bN
  rw [s_isNet (N := dN (cur σ) 4) (by rw [h.1]; exact hD.sN) b]
  unfold netB
  rw [netK_congr (f := σ1.2.1 197) (g := cur σ 197) _ (fun i hi => by rw [h.1, cu_197 (by omega)])]
theorem s_othX {σ1 : Sg} (h : RX σ σ1 x) (hD : DG nr (cur σ)) (hq : q < dN (cur σ) 2) (ρ : Mm) (τ : Nat → va_E) : f_X12_othersIn (mem ρ τ σ1) 188 (nI c) (nI q) = some (nI (oth (cur σ) q c), mem ρ τ σ1) := by
  have h1 := h.dg hD
  have z := s_othersIn (ρ := ρ) (τ := τ) (c := c) (q := q) h1 (by rw [h.cu]; exact hq)
  rw [h.cu] at z
  exact z
theorem s_comesL (hD : DG nr (cur σ)) (hL : RLw n S T σ lw) (hq : q < dN (cur σ) 2) (hc : c < nc (cur σ)) (hB : isB x0.2.2.1 256) (hH : Hi (cur σ) d x0) (hlt : dh (cur σ) c < dh (cur σ) d) (K : Mm → Nat → Int32 → Int32 → Option (Int32 × Mm)) : ∀ (k i : Nat) (σ1 : Sg) (f : Nat), i + k = dN (cur σ) 3 → k < f → RX σ σ1 (tchs σ q c drop i x0) → ∃ σ', (∀ ρ τ, f_X12_comesTo_L72 K f (mem ρ τ σ1) 188 (nI q) (nI c) drop (nI (oth (cur σ) q c)) (nI i) = K (mem ρ τ σ') 188 (nI c) (nI (oth (cur σ) q c))) ∧ RX σ σ' (tchs σ q c drop (dN (cur σ) 3) x0) := by
  have bT := hD.bT
  intro k
  induction k with
  | zero =>
    intro i σ1 f h1 h2 hX
    obtain ⟨f, rfl⟩ : ∃ k, f = k + 1 := ⟨f - 1, by omega⟩
    have ei : i = dN (cur σ) 3 := by omega
    refine ⟨σ1, fun ρ τ => ?_, by rw [← ei]; exact hX⟩
    rw [f_X12_comesTo_L72, mR_1, Option.bind_some, sc_3, Option.bind_some, hX.1, cs_3, hD.sT, if_pos (nI_le (by omega) (by omega))]
  | succ k ih =>
    intro i σ1 f h1 h2 hX
    obtain ⟨f, rfl⟩ : ∃ k, f = k + 1 := ⟨f - 1, by omega⟩
    have i8 : i < 8 := by omega
    have fb : cur σ 193 i = nI c → bt (tchs σ q c drop i x0).2.2.1 i = false := by
      intro he
      rw [tchs_bt i (by omega) (Nat.le_refl _)]
      cases hb : bt x0.2.2.1 i
      · rfl
      · have := hH i (by omega) hb c hc he
        omega
    by_cases ht : cur σ 193 i = nI c
    · have fb := fb ht
      cases hb : bt (cur σ 189 7) i
      · have hw : whl (cur σ) c i = true := by unfold whl; rw [decide_eq_true ht, hb]; rfl
        obtain ⟨σ2, q1, q2⟩ := s_touches (t := i) (c := c) (drop := drop) hD hL hq (by omega) hc hX (tchs_8 hB i (by omega))
        obtain ⟨σ', z1, z2⟩ := ih (i + 1) σ2 f (by omega) (by omega) (by rw [tchs, if_pos hw]; exact q2)
        refine ⟨σ', fun ρ τ => ?_, z2⟩
        rw [f_X12_comesTo_L72, mR_1, Option.bind_some, sc_3, Option.bind_some, hX.1, cs_3, hD.sT, if_neg (nI_ge (by omega) (by omega)), mR_5, Option.bind_some, y193_r i8, Option.bind_some, hX.1, ← cu_193 i8, if_pos ht, Option.bind_some, sc_7, Option.bind_some, mI_51, Option.bind_some, s_has _ _ (show i < 31 by omega), bd_some, hX.1, cs_7, hX.2.2.2.2.1, b_or, hb, fb, Bool.or_false, i0f, if_pos rfl, ob_mem, Option.bind_some, q1, Option.bind_some, nm_q, oin1, nI_add]
        exact z1 ρ τ
      · have hw : ¬ whl (cur σ) c i = true := by unfold whl; rw [hb]; simp
        obtain ⟨σ', z1, z2⟩ := ih (i + 1) σ1 f (by omega) (by omega) (by rw [tchs, if_neg hw]; exact hX)
        refine ⟨σ', fun ρ τ => ?_, z2⟩
        rw [f_X12_comesTo_L72, mR_1, Option.bind_some, sc_3, Option.bind_some, hX.1, cs_3, hD.sT, if_neg (nI_ge (by omega) (by omega)), mR_5, Option.bind_some, y193_r i8, Option.bind_some, hX.1, ← cu_193 i8, if_pos ht, Option.bind_some, sc_7, Option.bind_some, mI_51, Option.bind_some, s_has _ _ (show i < 31 by omega), bd_some, hX.1, cs_7, b_or, hb, Bool.true_or, i1t, if_neg (by decide), nm_q, oin1, nI_add]
        exact z1 ρ τ
    · have hw : ¬ whl (cur σ) c i = true := by unfold whl; rw [decide_eq_false ht]; simp
      obtain ⟨σ', z1, z2⟩ := ih (i + 1) σ1 f (by omega) (by omega) (by rw [tchs, if_neg hw]; exact hX)
      refine ⟨σ', fun ρ τ => ?_, z2⟩
      rw [f_X12_comesTo_L72, mR_1, Option.bind_some, sc_3, Option.bind_some, hX.1, cs_3, hD.sT, if_neg (nI_ge (by omega) (by omega)), mR_5, Option.bind_some, y193_r i8, Option.bind_some, hX.1, ← cu_193 i8, if_neg ht, nm_q, oin1, nI_add]
      exact z1 ρ τ
theorem s_comesE {σ1 : Sg} (hD : DG nr (cur σ)) (hL : RLw n S T σ lw) (hq : q < dN (cur σ) 2) (hc : c < nc (cur σ)) (hB : isB x.2.2.1 256) (hH : Hi (cur σ) d x) (hlt : dh (cur σ) c < dh (cur σ) d) (hX : RX σ σ1 (psh (cur σ) q d c x.1, x.2.1 + 1, x.2.2.1, x.2.2.2)) : ∃ σ', (∀ ρ τ, (bd (f_X12_isNet (mem ρ τ σ1) 188 (nI c)) fun v15 μ14 =>
    (if v15 = 0 then
    ((ob μ14 188 12).bind fun _ =>
    (bd (f_X12_othersIn μ14 188 (nI c) (nI q)) fun v17 μ16 =>
    (nm v17 fun x18 =>
    (nm (0 : Int32) fun x19 =>
    f_X12_comesTo_L72 (fun μ39 a40 x41 x42 =>
    (if x42 ≤ 0 then
    ((gI μ39 a40 12 49).bind fun v43 =>
    ((pV μ39 a40 12 49 (.int v43)).bind fun μ44 =>
    ((ob μ44 a40 12).bind fun _ =>
    (bd (f_X12_leadsTo μ44 a40 x41) fun v46 μ45 =>
    (if v46 = (-1 : Int32) then
    (if (0 : Int32) = 0 ∨ (0 : Int32) = 1 then some ((0 : Int32), μ45) else none)
    else
    (if (1 : Int32) = 0 ∨ (1 : Int32) = 1 then some ((1 : Int32), μ45) else none))))))
    else
    ((gI μ39 a40 12 49).bind fun v47 =>
    (dvI v47 (2 : Int32) fun v48 =>
    ((pV μ39 a40 12 49 (.int v48)).bind fun μ49 =>
    ((ob μ49 a40 12).bind fun _ =>
    (bd (f_X12_leadsTo μ49 a40 x41) fun v51 μ50 =>
    (if v51 = (-1 : Int32) then
    (if (0 : Int32) = 0 ∨ (0 : Int32) = 1 then some ((0 : Int32), μ50) else none)
    else
    (if (1 : Int32) = 0 ∨ (1 : Int32) = 1 then some ((1 : Int32), μ50) else none))))))))) FU μ16 188 (nI q) (nI c) (nI (dh (cur σ) d) - nI (dh (cur σ) c)) x18 x19))))
    else
    ((pV μ14 188 12 49 (.int (0 : Int32))).bind fun μ52 =>
    (if (0 : Int32) = 0 ∨ (0 : Int32) = 1 then some ((0 : Int32), μ52) else none)))) = some (onI (if netB (cur σ) c then none else ldD (cur σ) c), mem ρ τ σ')) ∧ RX σ σ' (stpF σ q d c x) := by
  have bT := hD.bT
  have bP := hD.bP
  have c48 : c < 48 := Nat.lt_of_lt_of_le hc hD.n48
  have ho : oth (cur σ) q c ≤ 5 := by
    unfold oth othK
    exact Nat.le_trans (fb_ct_le _ _) bP
  cases hn : netB (cur σ) c
  · obtain ⟨σ2, z1, z2⟩ := s_comesL (x0 := (psh (cur σ) q d c x.1, x.2.1 + 1, x.2.2.1, x.2.2.2)) (drop := nI (dh (cur σ) d) - nI (dh (cur σ) c)) hD hL hq hc hB hH hlt (fun μ39 a40 x41 x42 =>
    (if x42 ≤ 0 then
    ((gI μ39 a40 12 49).bind fun v43 =>
    ((pV μ39 a40 12 49 (.int v43)).bind fun μ44 =>
    ((ob μ44 a40 12).bind fun _ =>
    (bd (f_X12_leadsTo μ44 a40 x41) fun v46 μ45 =>
    (if v46 = (-1 : Int32) then
    (if (0 : Int32) = 0 ∨ (0 : Int32) = 1 then some ((0 : Int32), μ45) else none)
    else
    (if (1 : Int32) = 0 ∨ (1 : Int32) = 1 then some ((1 : Int32), μ45) else none))))))
    else
    ((gI μ39 a40 12 49).bind fun v47 =>
    (dvI v47 (2 : Int32) fun v48 =>
    ((pV μ39 a40 12 49 (.int v48)).bind fun μ49 =>
    ((ob μ49 a40 12).bind fun _ =>
    (bd (f_X12_leadsTo μ49 a40 x41) fun v51 μ50 =>
    (if v51 = (-1 : Int32) then
    (if (0 : Int32) = 0 ∨ (0 : Int32) = 1 then some ((0 : Int32), μ50) else none)
    else
    (if (1 : Int32) = 0 ∨ (1 : Int32) = 1 then some ((1 : Int32), μ50) else none))))))))) (dN (cur σ) 3) 0 σ1 FU (by omega) (by unfold FU; omega) hX
    rw [show nI 0 = (0 : Int32) from rfl] at z1
    have fin : ∀ (σ3 : Sg) (y : Fst), RX σ σ3 y → ∀ ρ τ, (bd (f_X12_leadsTo (mem ρ τ σ3) 188 (nI c)) fun v46 μ45 => (if v46 = (-1 : Int32) then (if (0 : Int32) = 0 ∨ (0 : Int32) = 1 then some ((0 : Int32), μ45) else none) else (if (1 : Int32) = 0 ∨ (1 : Int32) = 1 then some ((1 : Int32), μ45) else none))) = some (onI (ldD (cur σ) c), mem ρ τ σ3) := by
      intro σ3 y h3 ρ τ
      rw [s_leadX h3 hD hc, bd_some]
      cases hl : ldD (cur σ) c with
      | none => rw [if_pos (show oI none = -1 from rfl)]; rfl
      | some e =>
        have he := (lead_lt (hD.c0 hc) hc hl).1
        have e48 : e < 48 := Nat.lt_of_lt_of_le he hD.n48
        rw [show oI (some e) = nI e from rfl, if_neg (nI_nm1 (by omega))]; rfl
    unfold stpF
    rw [hn]
    by_cases ho0 : 0 < oth (cur σ) q c
    · have r3 : RX σ (stI σ2 49 (σ2.1 49 / 2)) ((tchs σ q c (nI (dh (cur σ) d) - nI (dh (cur σ) c)) (dN (cur σ) 3) (psh (cur σ) q d c x.1, x.2.1 + 1, x.2.2.1, x.2.2.2)).1 / 2, (tchs σ q c (nI (dh (cur σ) d) - nI (dh (cur σ) c)) (dN (cur σ) 3) (psh (cur σ) q d c x.1, x.2.1 + 1, x.2.2.1, x.2.2.2)).2) := by
        obtain ⟨y1, y2, y3, y4, y5, y6, y7⟩ := z2
        refine ⟨y1, fun k a b c d => ?_, ?_, ?_, ?_, ?_, y7⟩
        · rw [stI1, if_neg a]; exact y2 k a b c d
        · rw [stI1, if_pos rfl, y3]
        · rw [stI1, if_neg (by decide)]; exact y4
        · rw [stI1, if_neg (by decide)]; exact y5
        · rw [stI1, if_neg (by decide)]; exact y6
      refine ⟨stI σ2 49 (σ2.1 49 / 2), fun ρ τ => ?_, ?_⟩
      · rw [s_netX hX hD, bd_some, hn, i0f, if_pos rfl, ob_mem, Option.bind_some, s_othX hX hD hq, bd_some, nm_q, nm_q, z1 ρ τ]
        show (if nI (oth (cur σ) q c) ≤ 0 then _ else _) = _
        rw [if_neg (show ¬ nI (oth (cur σ) q c) ≤ 0 from nI_ge (a := 0) ho0 (by omega)), mI_49, Option.bind_some]
        unfold dvI
        rw [if_neg (by decide)]
        show (pV (mem ρ τ σ2) 188 12 49 (.int (σ2.1 49 / 2))).bind _ = _
        rw [mP_49, Option.bind_some, ob_mem, Option.bind_some, fin _ _ r3 ρ τ]
        rfl
      · rw [if_neg (by decide), if_pos ho0]; exact r3
    · have r3 : RX σ (stI σ2 49 (σ2.1 49)) (tchs σ q c (nI (dh (cur σ) d) - nI (dh (cur σ) c)) (dN (cur σ) 3) (psh (cur σ) q d c x.1, x.2.1 + 1, x.2.2.1, x.2.2.2)) := by
        obtain ⟨y1, y2, y3, y4, y5, y6, y7⟩ := z2
        refine ⟨y1, fun k a b c d => ?_, ?_, ?_, ?_, ?_, y7⟩
        · rw [stI1, if_neg a]; exact y2 k a b c d
        · rw [stI1, if_pos rfl, y3]
        · rw [stI1, if_neg (by decide)]; exact y4
        · rw [stI1, if_neg (by decide)]; exact y5
        · rw [stI1, if_neg (by decide)]; exact y6
      refine ⟨stI σ2 49 (σ2.1 49), fun ρ τ => ?_, ?_⟩
      · rw [s_netX hX hD, bd_some, hn, i0f, if_pos rfl, ob_mem, Option.bind_some, s_othX hX hD hq, bd_some, nm_q, nm_q, z1 ρ τ]
        show (if nI (oth (cur σ) q c) ≤ 0 then _ else _) = _
        rw [if_pos (show nI (oth (cur σ) q c) ≤ 0 from nI_le (b := 0) (by omega) (by decide)), mI_49, Option.bind_some, mP_49, Option.bind_some, ob_mem, Option.bind_some, fin _ _ r3 ρ τ]
        rfl
      · rw [if_neg (by decide), if_neg ho0]; exact r3
  · refine ⟨stI σ1 49 0, fun ρ τ => ?_, ?_⟩
    · rw [s_netX hX hD, bd_some, hn, i1t, if_neg (by decide), mP_49, Option.bind_some, z01]
      rfl
    · unfold stpF
      rw [hn, if_pos rfl]
      obtain ⟨y1, y2, y3, y4, y5, y6, y7⟩ := hX
      refine ⟨y1, fun k a b c d => ?_, ?_, ?_, ?_, ?_, y7⟩
      · rw [stI1, if_neg a]; exact y2 k a b c d
      · rw [stI1, if_pos rfl]
      · rw [stI1, if_neg (by decide)]; exact y4
      · rw [stI1, if_neg (by decide)]; exact y5
      · rw [stI1, if_neg (by decide)]; exact y6
end COMES
