/-! Grounds: where each cell leads to, lessons in their row: the class. -/
section LEADS
variable {n sl g : Nat} {U : Nat → va_E} {S : Nat → Nat × Nat × Nat} {σ1 : Sg} {C R : Nat} {h : Nat → Nat}
theorem c_ldL {T : Tc} (hv : GV n S g) (hG : CG T g C R h) (hS : GS C R h) {c : Nat} (hc : c < C * R) (K : Mm → Nat → Int32 → Int32 → Option Mm) : ∀ (k s f : Nat), s + k = 4 → k < f → f_X1_findLeads_L14 K f (cn n sl U S T σ1) g (nI c) (oI (leadK C R h c s)) (nI s) = K (cn n sl U S T σ1) g (nI c) (oI (lead C R h c)) := by
  have hn := hS.n
  have g5 := hS.2.2.2.2
  have hC : 0 < C := by have := hS.1; omega
  intro k
  induction k with
  | zero =>
    intro s f h1 h2
    obtain ⟨f, rfl⟩ : ∃ k, f = k + 1 := ⟨f - 1, by omega⟩
    obtain rfl : s = 4 := by omega
    rw [f_X1_findLeads_L14, if_pos (by decide)]
    rfl
  | succ k ih =>
    intro s f h1 h2
    obtain ⟨f, rfl⟩ : ∃ k, f = k + 1 := ⟨f - 1, by omega⟩
    have z := ih (s + 1) f (by omega) (by omega)
    rw [leadK] at z
    rw [f_X1_findLeads_L14, if_neg (show ¬ (4 : Int32) ≤ nI s from nI_ge (b := 4) (by omega) (by decide)), g0_o hv, Option.bind_some, c_lower hv hG hS hc (by omega), bd_some, nm_q]
    cases hl : low C R h c s with
    | none =>
      rw [hl] at z
      rw [if_pos (show oI none = -1 from rfl), nm_q, oin1, nI_add]
      exact z
    | some d =>
      have q := low_lt hC hc hl
      rw [hl] at z
      rw [show oI (some d) = nI d from rfl, if_neg (nI_nm1 (by omega))]
      cases hb : leadK C R h c s with
      | none =>
        rw [hb] at z
        rw [if_pos (show oI none = -1 from rfl), nm_q, nm_q, oin1, nI_add]
        exact z
      | some e =>
        have q2 := leadK_lt hC hc s hb
        rw [hb] at z
        have he := g5 e
        have hd := g5 d
        rw [show oI (some e) = nI e from rfl, if_neg (nI_nm1 (by omega)), g0_3 hv, Option.bind_some, g1_r hv (by omega), Option.bind_some, hG.2.2.2 d q.1, Option.bind_some, g1_r hv (by omega), Option.bind_some, hG.2.2.2 e q2.1]
        by_cases hlt : h d < h e
        · rw [show bet h (some e) (some d) = some d from if_pos hlt] at z
          rw [if_neg (nI_ge hlt (by omega)), nm_q, nm_q, oin1, nI_add]
          exact z
        · rw [show bet h (some e) (some d) = some e from if_neg hlt] at z
          rw [if_pos (nI_le (by omega) (by omega)), nm_q, oin1, nI_add]
          exact z
theorem c_leads {T : Tc} (hv : GV n S g) (hG : CG T g C R h) (hS : GS C R h) : ∃ T', f_X1_findLeads (cn n sl U S T σ1) g = some (cn n sl U S T' σ1) ∧ agr (Oth (g + 2)) T T' ∧ CL T' g C R h := by
  have hn := hS.n
  have key : ∀ (k i : Nat) (T : Tc) (f : Nat), i + k = C * R → k < f → CG T g C R h → (∀ c, c < i → T.2.1 (g + 2) c = oI (lead C R h c)) → ∃ T', f_X1_findLeads_L2 (fun μ32 => (some μ32)) f (cn n sl U S T σ1) g (nI i) = some (cn n sl U S T' σ1) ∧ agr (Oth (g + 2)) T T' ∧ CL T' g C R h := by
    intro k
    induction k with
    | zero =>
      intro i T f h1 h2 hG hL
      obtain ⟨f, rfl⟩ : ∃ k, f = k + 1 := ⟨f - 1, by omega⟩
      refine ⟨T, ?_, agr.refl _ _, fun c hc => hL c (by omega)⟩
      rw [f_X1_findLeads_L2, g0_2 hv, Option.bind_some, hG.2.2.1, if_pos (nI_le (by omega) (by omega))]
    | succ k ih =>
      intro i T f h1 h2 hG hL
      obtain ⟨f, rfl⟩ : ∃ k, f = k + 1 := ⟨f - 1, by omega⟩
      have hi : i < C * R := by omega
      have ag : agr (Oth (g + 2)) T (tA T (g + 2) i (oI (lead C R h i))) := agr_tA _ _ (fun h => h rfl)
      have hG' : CG (tA T (g + 2) i (oI (lead C R h i))) g C R h := ⟨hG.1, hG.2.1, hG.2.2.1, fun c hc => by rw [tA2, if_neg (by omega)]; exact hG.2.2.2 c hc⟩
      obtain ⟨T', z1, z2, z3⟩ := ih (i + 1) _ f (by omega) (by omega) hG' (fun c hc => by
        rw [tA2]
        by_cases e : c = i
        · rw [if_pos ⟨rfl, e⟩, e]
        · rw [if_neg (fun x => e x.2)]; exact hL c (by omega))
      refine ⟨T', ?_, ag.trans z2, z3⟩
      have y := c_ldL (sl := sl) (U := U) (σ1 := σ1) hv hG hS hi (fun μ25 a26 x27 x28 =>
    ((gR μ25 a26 1 4).bind fun v29 =>
    ((sI μ25 v29 0 x27 x28).bind fun μ30 =>
    (nm (x27 + Int32.ofInt (1)) fun x31 =>
    f_X1_findLeads_L2 (fun μ32 => (some μ32)) f μ30 a26 x31)))) 4 0 FU rfl (by unfold FU; omega)
      rw [show nI 0 = (0 : Int32) from rfl, show oI (leadK C R h i 0) = -1 from rfl] at y
      rw [f_X1_findLeads_L2, g0_2 hv, Option.bind_some, hG.2.2.1, if_neg (nI_ge hi (by omega)), nm_q, nm_q, y, g0_4 hv, Option.bind_some, g2_w hv (by omega), Option.bind_some, nm_q, oin1, nI_add]
      exact z1
  obtain ⟨T', z1, z2, z3⟩ := key (C * R) 0 T FU (by omega) (by unfold FU; omega) hG (fun c hc => by omega)
  refine ⟨T', ?_, z2, z3⟩
  unfold f_X1_findLeads
  rw [nm_q]
  exact z1
end LEADS
section LROW
variable {n sl g : Nat} {U : Nat → va_E} {S : Nat → Nat × Nat × Nat} {σ1 : Sg} {L A : Nat} {la so ho : Nat → Nat}
/-- the class's lessons as they were told -/
def LRw (T : Tc) (g L A : Nat) (la so ho : Nat → Nat) : Prop := L ≤ 8 ∧ A ≤ 10 ∧ T.1 (g + 9) 0 = nI L ∧ T.1 (g + 9) 2 = nI A ∧ (∀ k, k < A → T.2.1 (g + 11) k = nI (la k) ∧ T.2.1 (g + 12) k = nI (so k) ∧ la k < L ∧ so k < L) ∧ ∀ l, l < L → T.2.1 (g + 10) l = nI (ho l) ∧ ho l ≤ 20
theorem c_stL {T : Tc} {E : Nat → Option Nat} (hv : GV n S g) (hR : LRw T g L A la so ho) (hE : ∀ l, l < 8 → T.2.1 (g + 13) l = oI (E l)) (hb : ∀ l v, E l = some v → v < 1000) {l : Nat} (hl : l < 8) (K37 : Mm → Option (Int32 × Mm)) (K61 : Mm → Int32 → Option (Int32 × Mm)) : ∀ (k i a f : Nat), i + k = A → k < f → stOf la so E l i = some a → f_X3_startOf_L4 K37 K61 f (cn n sl U S T σ1) (g + 9) (nI l) (nI a) (nI i) = match stOf la so E l A with
    | none => K37 (cn n sl U S T σ1)
    | some v => K61 (cn n sl U S T σ1) (nI v) := by
  obtain ⟨l8, a10, r0, r2, r3, r4⟩ := hR
  intro k
  induction k with
  | zero =>
    intro i a f h1 h2 h3
    obtain ⟨f, rfl⟩ : ∃ k, f = k + 1 := ⟨f - 1, by omega⟩
    obtain rfl : i = A := by omega
    rw [f_X3_startOf_L4, g9_2 hv, Option.bind_some, r2, if_pos (nI_le (Nat.le_refl _) (by omega)), h3]
  | succ k ih =>
    intro i a f h1 h2 h3
    obtain ⟨f, rfl⟩ : ∃ k, f = k + 1 := ⟨f - 1, by omega⟩
    obtain ⟨b1, b2, b3, b4⟩ := r3 i (by omega)
    have ha : a < 1000 := by
      have := stOf_le (la := la) (so := so) (E := E) (l := l) (b := 999) (fun l v h => by have := hb l v h; omega) i h3
      omega
    have st : stOf la so E l (i + 1) = if la i = l then (match stOf la so E l i, E (so i) with
      | some a, some b => some (max a b)
      | _, _ => none) else stOf la so E l i := rfl
    rw [f_X3_startOf_L4, g9_2 hv, Option.bind_some, r2, if_neg (nI_ge (by omega) (by omega)), g9_3 hv, Option.bind_some, g11_r hv (by omega), Option.bind_some, b1]
    by_cases e : la i = l
    · rw [if_pos (show nI (la i) = nI l by rw [e]), g9_5 hv, Option.bind_some, g9_4 hv, Option.bind_some, g12_r hv (by omega), Option.bind_some, b2, g13_r hv (by omega), Option.bind_some, hE _ (by omega)]
      rw [if_pos e, h3] at st
      cases hs : E (so i) with
      | none =>
        rw [hs] at st
        have : stOf la so E l A = none := by
          rw [stOf_none]
          refine ⟨i, by omega, ?_⟩
          unfold wtB
          rw [decide_eq_true e, hs]
          rfl
        rw [if_pos (show oI none = -1 from rfl), this]
      | some v =>
        rw [hs] at st
        have hv' := hb _ _ hs
        have z := ih (i + 1) (max a v) f (by omega) (by omega) st
        have mx : (if nI a < nI v then nI v else nI a) = nI (max a v) := by
          by_cases c : a < v
          · rw [if_pos (nI_lt c (by omega)), Nat.max_eq_right (by omega)]
          · rw [if_neg (nI_nlt (by omega) (by omega)), Nat.max_eq_left (by omega)]
        rw [show oI (some v) = nI v from rfl, if_neg (nI_nm1 (by omega)), Option.bind_some, Option.bind_some, g12_r hv (by omega), Option.bind_some, b2, g13_r hv (by omega), Option.bind_some, hE _ (by omega), hs, show oI (some v) = nI v from rfl, mx, nm_q, nm_q, oin1, nI_add]
        exact z
    · rw [if_neg e, h3] at st
      rw [if_neg (fun x => e ((nI_eq (by omega) (by omega)).1 x)), nm_q, oin1, nI_add]
      exact ih (i + 1) a f (by omega) (by omega) st
theorem c_startOf {T : Tc} {E : Nat → Option Nat} (hv : GV n S g) (hR : LRw T g L A la so ho) (hE : ∀ l, l < 8 → T.2.1 (g + 13) l = oI (E l)) (hb : ∀ l v, E l = some v → v < 1000) {l : Nat} (hl : l < 8) : f_X3_startOf (cn n sl U S T σ1) (g + 9) (nI l) = some (oI (stOf la so E l A), cn n sl U S T σ1) := by
  have z := c_stL (sl := sl) (U := U) (σ1 := σ1) hv hR hE hb hl (fun μ23 => (some ((-1 : Int32), μ23))) (fun μ24 x25 => (some (x25, μ24))) A 0 0 FU (by omega) (by have := hR.2.1; unfold FU; omega) rfl
  rw [show nI 0 = (0 : Int32) from rfl] at z
  unfold f_X3_startOf
  rw [nm_q, nm_q, z]
  cases stOf la so E l A with
  | none => rfl
  | some v => rfl
theorem c_nextL {T : Tc} {E : Nat → Option Nat} (hv : GV n S g) (hR : LRw T g L A la so ho) (hE : ∀ l, l < 8 → T.2.1 (g + 13) l = oI (E l)) (hb : ∀ l v, E l = some v → v < 1000) (K29 : Mm → Int32 → Option (Int32 × Mm)) (K37 : Mm → Option (Int32 × Mm)) : ∀ (k i f : Nat), i + k = L → k < f → (∀ j, j < i → ¬ nxP A la so E j) → f_X3_leastNext_L2 K29 K37 f (cn n sl U S T σ1) (g + 9) (nI i) = match lnx A la so E L with
    | none => K37 (cn n sl U S T σ1)
    | some l => K29 (cn n sl U S T σ1) (nI l) := by
  have l8 := hR.1
  have r0 := hR.2.2.1
  have sp := lnx_spec A la so E L
  intro k
  induction k with
  | zero =>
    intro i f h1 h2 h3
    obtain ⟨f, rfl⟩ : ∃ k, f = k + 1 := ⟨f - 1, by omega⟩
    obtain rfl : i = L := by omega
    rw [f_X3_leastNext_L2, g9_0 hv, Option.bind_some, r0, if_pos (nI_le (Nat.le_refl _) (by omega))]
    cases hn : lnx A la so E i with
    | none => rfl
    | some l =>
      have := sp.2 l hn
      exact absurd this.2.1 (h3 l this.1)
  | succ k ih =>
    intro i f h1 h2 h3
    obtain ⟨f, rfl⟩ : ∃ k, f = k + 1 := ⟨f - 1, by omega⟩
    have nx : ¬ nxP A la so E i → f_X3_leastNext_L2 K29 K37 f (cn n sl U S T σ1) (g + 9) (nI (i + 1)) = match lnx A la so E L with
        | none => K37 (cn n sl U S T σ1)
        | some l => K29 (cn n sl U S T σ1) (nI l) := fun hx => ih (i + 1) f (by omega) (by omega) (fun j hj => by
      by_cases e : j = i
      · rw [e]; exact hx
      · exact h3 j (by omega))
    rw [f_X3_leastNext_L2, g9_0 hv, Option.bind_some, r0, if_neg (nI_ge (by omega) (by omega)), g9_5 hv, Option.bind_some, g13_r hv (by omega), Option.bind_some, hE i (by omega)]
    cases he : E i with
    | some v =>
      have := hb _ _ he
      rw [show oI (some v) = nI v from rfl, if_neg (nI_nm1 (by omega)), nm_q, oin1, nI_add]
      exact nx (fun x => by rw [x.1] at he; cases he)
    | none =>
      rw [if_pos (show oI none = -1 from rfl), g9_o hv, Option.bind_some, c_startOf hv hR hE hb (by omega), bd_some]
      cases hs : stOf la so E i A with
      | none =>
        rw [if_pos (show oI none = -1 from rfl), nm_q, oin1, nI_add]
        exact nx (fun x => x.2 hs)
      | some v =>
        have hv' := stOf_le (la := la) (so := so) (E := E) (l := i) (b := 999) (fun l v h => by have := hb l v h; omega) A hs
        have np : nxP A la so E i := ⟨he, by rw [hs]; intro x; cases x⟩
        rw [show oI (some v) = nI v from rfl, if_neg (nI_nm1 (by omega))]
        cases hn : lnx A la so E L with
        | none => exact absurd np (sp.1 hn i (by omega))
        | some l =>
          have q := sp.2 l hn
          have : l = i := by
            rcases Nat.lt_trichotomy l i with h | h | h
            · exact absurd q.2.1 (h3 l h)
            · exact h
            · exact absurd np (q.2.2 i h)
          rw [this]
theorem c_next {T : Tc} {E : Nat → Option Nat} (hv : GV n S g) (hR : LRw T g L A la so ho) (hE : ∀ l, l < 8 → T.2.1 (g + 13) l = oI (E l)) (hb : ∀ l v, E l = some v → v < 1000) : f_X3_leastNext (cn n sl U S T σ1) (g + 9) = some (oI (lnx A la so E L), cn n sl U S T σ1) := by
  have z := c_nextL (sl := sl) (U := U) (σ1 := σ1) hv hR hE hb (fun μ12 x13 => (some (x13, μ12))) (fun μ14 => (some ((-1 : Int32), μ14))) L 0 FU (by omega) (by have := hR.1; unfold FU; omega) (fun j hj => by omega)
  rw [show nI 0 = (0 : Int32) from rfl] at z
  unfold f_X3_leastNext
  rw [nm_q, z]
  cases lnx A la so E L with
  | none => rfl
  | some v => rfl
def LSt (T : Tc) (g : Nat) (s : (Nat → Option Nat) × (Nat → Nat) × Nat) : Prop := (∀ l, l < 8 → T.2.1 (g + 13) l = oI (s.1 l)) ∧ T.1 (g + 9) 7 = nI s.2.2 ∧ ∀ k, k < s.2.2 → T.2.1 (g + 14) k = nI (s.2.1 k)
def LFr (g : Nat) (T T' : Tc) : Prop := agr (fun r => r ≠ g + 9 ∧ r ≠ g + 13 ∧ r ≠ g + 14) T T' ∧ (∀ k, k ≠ 7 → T'.1 (g + 9) k = T.1 (g + 9) k)
theorem LFr.lr {T T' : Tc} (h : LFr g T T') (hR : LRw T g L A la so ho) : LRw T' g L A la so ho := by
  obtain ⟨a1, a2, a3, a4, a5, a6⟩ := hR
  have x10 := (h.1 (g + 10) (by omega)).2.1
  have x11 := (h.1 (g + 11) (by omega)).2.1
  have x12 := (h.1 (g + 12) (by omega)).2.1
  refine ⟨a1, a2, by rw [h.2 0 (by decide)]; exact a3, by rw [h.2 2 (by decide)]; exact a4, fun k hk => ?_, fun l hl => ?_⟩
  · rw [x11, x12]; exact a5 k hk
  · rw [x10]; exact a6 l hl
theorem LFr.trans {T T' T'' : Tc} (h : LFr g T T') (h' : LFr g T' T'') : LFr g T T'' := ⟨h.1.trans h'.1, fun k hk => (h'.2 k hk).trans (h.2 k hk)⟩
theorem c_rwL (hv : GV n S g) : ∀ (k i : Nat) (T : Tc) (f : Nat), i + k = L → k < f → LRw T g L A la so ho → LSt T g (lsK L A la so ho i) → ∃ T', f_X3_setInRow_L15 (fun μ24 => (some μ24)) (fun μ25 => (some μ25)) f (cn n sl U S T σ1) (g + 9) (nI i) = some (cn n sl U S T' σ1) ∧ LFr g T T' ∧ LSt T' g (lsK L A la so ho L) := by
  intro k
  induction k with
  | zero =>
    intro i T f h1 h2 hR hs
    obtain ⟨f, rfl⟩ : ∃ k, f = k + 1 := ⟨f - 1, by omega⟩
    obtain rfl : i = L := by omega
    refine ⟨T, ?_, ⟨agr.refl _ _, fun _ _ => rfl⟩, hs⟩
    rw [f_X3_setInRow_L15, g9_0 hv, Option.bind_some, hR.2.2.1, if_pos (nI_le (Nat.le_refl _) (by have := hR.1; omega))]
  | succ k ih =>
    intro i T f h1 h2 hR hs
    obtain ⟨f, rfl⟩ : ∃ k, f = k + 1 := ⟨f - 1, by omega⟩
    have l8 := hR.1
    obtain ⟨b1, b2⟩ := lsK_b (L := L) (A := A) (la := la) (so := so) (ho := ho) l8 (fun l hl => (hR.2.2.2.2.2 l hl).2) i
    have hb : ∀ l v, (lsK L A la so ho i).1 l = some v → v < 1000 := fun l v h => by have := b1.1 l v h; omega
    have ls : lsK L A la so ho (i + 1) = lst L A la so ho (lsK L A la so ho i) := rfl
    have stay := fun h => lsK_stay (L := L) (A := A) (la := la) (so := so) (ho := ho) (k := i) h (L - i)
    rw [f_X3_setInRow_L15, g9_0 hv, Option.bind_some, hR.2.2.1, if_neg (nI_ge (by omega) (by omega)), g9_o hv, Option.bind_some, c_next hv hR hs.1 hb, bd_some, nm_q]
    generalize lsK L A la so ho i = s at *
    cases hn : lnx A la so s.1 L with
    | none =>
      have e := stay hn
      rw [show i + (L - i) = L by omega] at e
      refine ⟨T, ?_, ⟨agr.refl _ _, fun _ _ => rfl⟩, by rw [e]; exact hs⟩
      rw [if_pos (show oI none = -1 from rfl)]
    | some l =>
      have q := (lnx_spec A la so s.1 L).2 l hn
      obtain ⟨v, hst⟩ : ∃ v, stOf la so s.1 l A = some v := by
        cases h : stOf la so s.1 l A with
        | none => exact absurd h q.2.1.2
        | some v => exact ⟨v, rfl⟩
      have c2 := hs.2.1
      have r4 := hR.2.2.2.2.2 l q.1
      rw [lst, hn] at ls
      simp only [hst, Option.getD_some] at ls
      obtain ⟨T1, w1⟩ : ∃ T1, T1 = tI (tA (tA T (g + 13) l (nI (v + ho l))) (g + 14) s.2.2 (nI l)) (g + 9) 7 (nI (s.2.2 + 1)) := ⟨_, rfl⟩
      have fr : LFr g T T1 := by
        rw [w1]
        refine ⟨((agr_tA _ _ (fun h => h.2.1 rfl)).trans (agr_tA _ _ (fun h => h.2.2 rfl))).trans (agr_tI _ _ (fun h => h.1 rfl)), fun k hk => ?_⟩
        rw [tI1, if_neg (fun x => hk x.2)]
        rfl
      have s1 : LSt T1 g (lsK L A la so ho (i + 1)) := by
        rw [ls, w1]
        refine ⟨fun x hx => ?_, ?_, fun j hj => ?_⟩
        · show (tA (tA T (g + 13) l (nI (v + ho l))) (g + 14) s.2.2 (nI l)).2.1 (g + 13) x = oI (if x = l then some (v + ho l) else s.1 x)
          rw [tA2, if_neg (by omega), tA2]
          by_cases e : x = l
          · rw [if_pos ⟨rfl, e⟩, if_pos e]; rfl
          · rw [if_neg (fun y => e y.2), if_neg e]
            exact hs.1 x hx
        · rw [tI1, if_pos ⟨rfl, rfl⟩]
        · have hj : j < s.2.2 + 1 := hj
          show (tA (tA T (g + 13) l (nI (v + ho l))) (g + 14) s.2.2 (nI l)).2.1 (g + 14) j = nI (if j = s.2.2 then l else s.2.1 j)
          rw [tA2]
          by_cases e : j = s.2.2
          · rw [if_pos ⟨rfl, e⟩, if_pos e]
          · rw [if_neg (fun y => e y.2), tA2, if_neg (by omega), if_neg e]
            exact hs.2.2 j (by omega)
      obtain ⟨T', z1, z2, z3⟩ := ih (i + 1) T1 f (by omega) (by omega) (fr.lr hR) s1
      refine ⟨T', ?_, fr.trans z2, z3⟩
      rw [show oI (some l) = nI l from rfl, if_neg (nI_nm1 (by omega)), g9_5 hv, Option.bind_some, g9_o hv, Option.bind_some, c_startOf hv hR hs.1 hb (by omega), bd_some, hst, show oI (some v) = nI v from rfl, g9_1 hv, Option.bind_some, g10_r hv (by omega), Option.bind_some, r4.1, nI_add, g13_w hv (by omega), Option.bind_some, g9_6 hv, Option.bind_some, g9_7 hv, Option.bind_some, tA1, c2, g14_w hv (by omega), Option.bind_some, g9_7 hv, Option.bind_some, tA1, tA1, c2, lit_1, nI_add, g9_7p hv, Option.bind_some, nm_q, oin1, nI_add, ← w1]
      exact z1
theorem c_fillE (hv : GV n S g) (K : Mm → Option Mm) : ∀ (k i : Nat) (T : Tc) (f : Nat), i + k = 8 → k < f → (∀ t, t < i → T.2.1 (g + 13) t = -1) → ∃ T', f_J7_fill_53178_L5 K f (cn n sl U S T σ1) (g + 13) (-1) (nI i) (nI 8) = K (cn n sl U S T' σ1) ∧ agr (Oth (g + 13)) T T' ∧ ∀ t, t < 8 → T'.2.1 (g + 13) t = -1 := by
  intro k
  induction k with
  | zero =>
    intro i T f h1 h2 h4
    obtain ⟨f, rfl⟩ : ∃ k, f = k + 1 := ⟨f - 1, by omega⟩
    obtain rfl : i = 8 := by omega
    refine ⟨T, ?_, agr.refl _ _, h4⟩
    rw [f_J7_fill_53178_L5, if_pos (by decide)]
  | succ k ih =>
    intro i T f h1 h2 h4
    obtain ⟨f, rfl⟩ : ∃ k, f = k + 1 := ⟨f - 1, by omega⟩
    have i8 : i < 8 := by omega
    obtain ⟨T', z1, z2, z3⟩ := ih (i + 1) (tA T (g + 13) i (-1)) f (by omega) (by omega) (fun t ht => by
      rw [tA2]
      by_cases e : t = i
      · rw [if_pos ⟨rfl, e⟩]
      · rw [if_neg (fun h => e h.2)]; exact h4 t (by omega))
    refine ⟨T', ?_, (agr_tA _ _ (fun h => h rfl)).trans z2, z3⟩
    rw [f_J7_fill_53178_L5, if_neg (nI_ge (by omega) (by omega)), g13_w hv i8, Option.bind_some, nm_q, oin1, nI_add]
    exact z1
theorem c_inRow {T : Tc} (hv : GV n S g) (hR : LRw T g L A la so ho) : ∃ T', f_X3_setInRow (cn n sl U S T σ1) (g + 9) = some (cn n sl U S T' σ1) ∧ LFr g T T' ∧ LSt T' g (lsK L A la so ho L) := by
  obtain ⟨T1, a1, a2, a3⟩ := c_fillE (sl := sl) (U := U) (σ1 := σ1) hv (fun μ12 => (some μ12)) 8 0 T FU rfl (by unfold FU; omega) (fun t ht => by omega)
  rw [show nI 0 = (0 : Int32) from rfl] at a1
  have q9 := a2 (g + 9) (show g + 9 ≠ g + 13 by omega)
  have fr : LFr g T (tI T1 (g + 9) 7 0) := ⟨(a2.mono (fun r hr => hr.2.1)).trans (agr_tI _ _ (fun h => h.1 rfl)), fun k hk => by rw [tI1, if_neg (fun x => hk x.2), q9.1]⟩
  have st : LSt (tI T1 (g + 9) 7 0) g (lsK L A la so ho 0) := ⟨fun l hl => a3 l hl, by rw [tI1, if_pos ⟨rfl, rfl⟩]; rfl, fun k hk => absurd hk (Nat.not_lt_zero _)⟩
  obtain ⟨T', z1, z2, z3⟩ := c_rwL (sl := sl) (U := U) (σ1 := σ1) (L := L) (A := A) (la := la) (so := so) (ho := ho) hv L 0 _ FU (by omega) (by have := hR.1; unfold FU; omega) (fr.lr hR) st
  rw [show nI 0 = (0 : Int32) from rfl] at z1
  refine ⟨T', ?_, fr.trans z2, z3⟩
  unfold f_X3_setInRow f_J7_fill_53178
  rw [g9_5 hv, Option.bind_some, nm_q, g13_n hv, Option.bind_some, nm_q, a1, Option.bind_some, g9_7p hv, Option.bind_some, nm_q]
  exact z1
end LROW
