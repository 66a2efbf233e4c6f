/-! Clues. -/
/-- the clues are others, all else is as it was -/
theorem clue_REL {n nr : Nat} {S : Nat → Nat × Nat × Nat} {T T' : Tc} {σ σ' : Sg} (hR : REL n S T σ nr) (k : Nat) (hk : k ≤ 8) (s1 : σ'.1 = σ.1) (s2 : ∀ r, r ≠ 189 → r ≠ 201 → r ≠ 202 → σ'.2.1 r = σ.2.1 r) (s3 : ∀ i, i ≠ 8 → σ'.2.1 189 i = σ.2.1 189 i) (s4 : σ'.2.1 189 8 = nI k) (s5 : ∀ i, i < k → isB (σ'.2.1 201 i) (dN (cur σ) 3) ∧ isB (σ'.2.1 202 i) 2)
    (t1 : agr (fun r => r ≠ 161) T T') (t2 : ∀ i, i ≠ 6 → i ≠ 7 → i ≠ 8 → T'.1 161 i = T.1 161 i) (t3 : T'.2 = T.2) (t4 : T'.1 161 6 = nI k) (t5 : T'.1 161 7 = cmK (cur σ') 1 k) (t6 : T'.1 161 8 = cmK (cur σ') 0 k) : REL n S T' σ' nr := by
  obtain ⟨hN, hTP, hRU, hIM, hD, hS⟩ := id hR
  have c189 : ∀ i, i ≠ 8 → cur σ' 189 i = cur σ 189 i := by
    intro i hi
    unfold cur
    by_cases hl : i < dlen 189
    · rw [if_pos hl, if_pos hl, if_neg (by decide), if_neg (by decide), s3 i hi]
    · rw [if_neg hl, if_neg hl]
  have cr : ∀ r, r ≠ 189 → r ≠ 201 → r ≠ 202 → cur σ' r = cur σ r := by
    intro r h1 h2 h3
    funext i
    unfold cur
    rw [s2 r h1 h2 h3, s1]
  have c8 : cur σ' 189 8 = nI k := s4
  have g : gsame (cur σ) (cur σ') := ⟨fun i hi => c189 i (by omega), fun r hr => cr r (by omega) (by omega) (by omega)⟩
  have nk : ∀ i, i ≠ 8 → dN (cur σ') i = dN (cur σ) i := fun i hi => by unfold dN; rw [c189 i hi]
  have n8 : dN (cur σ') 8 = k := by unfold dN; rw [c8, nI_clamp (by omega)]
  have nM : dM (cur σ') = dM (cur σ) := by unfold dM; rw [cr 0 (by decide) (by decide) (by decide)]
  have hB : ∀ i, rwB (cur σ') i = rwB (cur σ) i := fun i => by unfold rwB; rw [nM, cr 226 (by decide) (by decide) (by decide), c189 7 (by decide)]
  have hA : ∀ i, rwA (cur σ') i = rwA (cur σ) i := fun i => by funext q; unfold rwA; rw [nM, cr 226 (by decide) (by decide) (by decide), cr 191 (by decide) (by decide) (by decide)]
  have hT : ∀ i, rwT (cur σ') i = rwT (cur σ) i := fun i => by funext q; unfold rwT; rw [nM, cr 226 (by decide) (by decide) (by decide), cr 193 (by decide) (by decide) (by decide)]
  have enc : nc (cur σ') = nc (cur σ) := by unfold nc; rw [nk 0 (by decide), nk 1 (by decide)]
  have gl := hS.la.gv.loc
  refine hR.sch (t1.mono fun r hr => by have := hr.2; omega) ⟨by rw [s1], by rw [s1], by rw [s1], fun r hr => s2 r (by omega) (by omega) (by omega)⟩ ?_ ?_
  · unfold DG
    simp only [enc, n8, nM, hB, hA, hT, nk 0 (by decide), nk 1 (by decide), nk 2 (by decide), nk 3 (by decide), nk 4 (by decide), nk 5 (by decide), nk 6 (by decide), nk 7 (by decide), g.hh, c8, c189 0 (by decide), c189 1 (by decide), c189 2 (by decide), c189 3 (by decide), c189 4 (by decide), c189 5 (by decide), c189 6 (by decide), c189 7 (by decide), c189 9 (by decide), c189 10 (by decide), cr 0 (by decide) (by decide) (by decide), cr 190 (by decide) (by decide) (by decide), cr 196 (by decide) (by decide) (by decide), cr 197 (by decide) (by decide) (by decide), cr 198 (by decide) (by decide) (by decide), cr 199 (by decide) (by decide) (by decide), cr 200 (by decide) (by decide) (by decide)]
    refine ⟨hD.sC, hD.bC, hD.sR, hD.bR, hD.sP, hD.bP, hD.sT, hD.bT, hD.sN, hD.bN, hD.sL, hD.bL, hD.sA, hD.bA, hD.sB, hD.bB, trivial, hk, hD.sM, hD.bM, hD.gr, hD.hh, hD.h9, hD.at_, hD.th, hD.br, hD.wo, hD.ne, hD.nd, hD.ho, hD.al, hD.as_, ?_, ?_, hD.dx, hD.fo⟩
    · intro i hi; rw [cu_201 (by omega)]; exact (s5 i hi).1
    · intro i hi; rw [cu_202 (by omega)]; exact (s5 i hi).2
  · unfold SR actR
    simp only [n8, nM, hB, hA, hT, nk 2 (by decide), nk 3 (by decide), c8, c189 7 (by decide), c189 9 (by decide), c189 10 (by decide), cr 0 (by decide) (by decide) (by decide), cr 191 (by decide) (by decide) (by decide), cr 193 (by decide) (by decide) (by decide), t3]
    refine ⟨hS.sv, (hS.la.ext hS.la.gv t1 (fun j hj => by omega)).D g, ?_, ?_, ?_, hS.pc, hS.tc, t4, t5, t6, ?_, hS.hb, hS.hm⟩
    · rw [t2 1 (by decide) (by decide) (by decide)]; exact hS.fo
    · rw [t2 2 (by decide) (by decide) (by decide)]; exact hS.xx
    · rw [t2 3 (by decide) (by decide) (by decide)]; exact hS.br
    · rw [t2 9 (by decide) (by decide) (by decide)]; exact hS.ac
theorem cmK_congr {D D' : Dt} {b : Int32} {k : Nat} (h : ∀ i, i < k → D' 201 i = D 201 i ∧ D' 202 i = D 202 i) : cmK D' b k = cmK D b k := by
  induction k with
  | zero => rfl
  | succ k ih => rw [cmK, cmK, ih (fun i hi => h i (by omega)), (h k (by omega)).1, (h k (by omega)).2]
theorem op_clue (x b : Int32) : OpR (fun μ => f_X11_clue μ 128 x b) (fun μ => f_X12_clue μ 188 x b) := by
  refine OpR.s fun n sl U S T σ nr hR => ?_
  obtain ⟨hN, hTP, hRU, hIM, hD, hS⟩ := id hR
  have hsv := hS.sv
  have bT := hD.bT
  have bK := hD.bK
  have e8 : σ.2.1 189 8 = nI (dN (cur σ) 8) := hD.sK
  unfold f_X11_clue f_X12_clue f_X7_forgetClues f_X7_addClue
  by_cases h1 : x = -1
  · refine ⟨0, tI (tI (tI T 161 6 0) 161 7 0) 161 8 0, stA σ 189 8 0, ?_, fun ρ τ => ?_, ?_⟩
    · simp only [if_pos h1, x128_6, Option.bind_some, s0_o hsv, s0_6p hsv, s0_7p hsv, s0_8p hsv]
    · simp only [if_pos h1, mR_1, Option.bind_some, sp_8]
    · refine clue_REL hR 0 (by decide) rfl (fun r h1 h2 h3 => by funext i; rw [stA2, if_neg (by omega)]) (fun i hi => by rw [stA2, if_neg (by omega)]) (by rw [stA2, if_pos ⟨rfl, rfl⟩]; rfl) (fun i hi => by omega) ?_ ?_ rfl ?_ ?_ ?_
      · exact ((agr_tI _ _ (by omega)).trans (agr_tI _ _ (by omega))).trans (agr_tI _ _ (by omega))
      · intro i h1 h2 h3; simp [tI1, h1, h2, h3]
      · simp [tI1]; rfl
      · simp [tI1, cmK]
      · simp [tI1, cmK]
  · simp only [if_neg h1, x128_o, x128_6, Option.bind_some, bd_some, c_isThing hS hD, s_isThing hD, ob_mem, mR_1, sc_8, e8, nm]
    by_cases hq : isN x (dN (cur σ) 3)
    · obtain ⟨j, hj, rfl⟩ := isN_of (by omega) hq
      by_cases h8 : dN (cur σ) 8 < 8
      · let k := dN (cur σ) 8
        have hk : k < 8 := h8
        let v : Int32 := if b = 0 then 0 else 1
        let σ1 : Sg := stA (stA (stA σ 201 k (nI j)) 202 k v) 189 8 (nI (k + 1))
        have hne : ¬ nI (dN (cur σ) 8) = (8 : Int32) := fun e => by have := (nI_eq (b := 8) (by omega) (by decide)).1 e; omega
        have e0 : ∀ i, i < k → cur σ1 201 i = cur σ 201 i ∧ cur σ1 202 i = cur σ 202 i := by
          intro i hi
          rw [cu_201 (by omega), cu_202 (by omega), cu_201 (by omega), cu_202 (by omega)]
          simp [σ1, stA2, show i ≠ k by omega]
        have e1 : cur σ1 201 k = nI j := by rw [cu_201 hk]; simp [σ1, stA2]
        have e2 : cur σ1 202 k = v := by rw [cu_202 hk]; simp [σ1, stA2]
        have hrel : ∀ T' : Tc, agr (fun r => r ≠ 161) T T' → (∀ i, i ≠ 6 → i ≠ 7 → i ≠ 8 → T'.1 161 i = T.1 161 i) → T'.2 = T.2 → T'.1 161 6 = nI (k + 1) → T'.1 161 7 = cmK (cur σ1) 1 (k + 1) → T'.1 161 8 = cmK (cur σ1) 0 (k + 1) → REL n S T' σ1 nr := by
          intro T' a1 a2 a3 a4 a5 a6
          refine clue_REL hR (k + 1) (by omega) rfl ?_ ?_ ?_ ?_ a1 a2 a3 a4 a5 a6
          · intro r h1 h2 h3; funext i; simp [σ1, stA2, h1, h2, h3]
          · intro i hi; simp [σ1, stA2, hi]
          · simp [σ1, stA2]
          · intro i hi
            by_cases e : i < k
            · have := e0 i e
              rw [cu_201 (by omega), cu_202 (by omega)] at this
              rw [this.1, this.2]
              exact ⟨hD.ct i e, hD.cb i e⟩
            · have : i = k := by omega
              subst this
              rw [cu_201 hk] at e1
              rw [cu_202 hk] at e2
              rw [e1, e2]
              refine ⟨⟨j, hj, rfl⟩, ?_⟩
              by_cases hb : b = 0
              · exact ⟨0, by decide, by simp [v, hb]; rfl⟩
              · exact ⟨1, by decide, by simp [v, hb]; rfl⟩
        have href : ∀ ρ τ, (sI (mem ρ τ (stA (stA σ 201 k (nI j)) 202 k v)) 189 0 (8 : Int32) (nI (k + 1))) = some (mem ρ τ σ1) := fun ρ τ => sp_8 _ _ _ _
        have e88 : (stA (stA σ 201 k (nI j)) 202 k v).2.1 189 8 = nI k := by simp [stA2]; exact e8
        have hck : T.1 161 6 = nI k := hS.ck.trans hD.sK
        by_cases hb : b = 0
        · have hv : v = 0 := by simp [v, hb]
          rw [hv] at href e88 e2
          refine ⟨nI (k + 1), tI (tI T 161 8 (T.1 161 8 ||| ((1 : Int32) <<< (nI j &&& 31)))) 161 6 (nI (k + 1)), σ1, ?_, fun ρ τ => ?_, hrel _ ?_ ?_ rfl ?_ ?_ ?_⟩
          · simp only [if_pos hq, i10, ↓reduceIte, x128_6, s0_6 hsv, hck, if_pos (show nI k < (8 : Int32) from nI_lt (b := 8) hk (by decide)), s0_o hsv, Option.bind_some, hb, s0_8 hsv, s0_8p hsv, s0_6p hsv, tI1, nI_1]
            simp [hck, nI_1]
          · simp only [if_pos hq, i10, ↓reduceIte, if_neg hne, mR_13, mR_14, mR_1, Option.bind_some, y201_w hk, y202_w hk, hb, sc_8, e88, nI_1, href]
            rw [show nI (dN (cur σ) 8) = nI k from rfl]
            simp only [y201_w hk, y202_w hk, Option.bind_some, mR_1, sc_8, e88, nI_1, href, mR_13, mR_14]
            try rfl
          · exact (agr_tI _ _ (by omega)).trans (agr_tI _ _ (by omega))
          · intro i h1 h2 h3; simp [tI1, h1, h3]
          · simp [tI1]
          · rw [cmK, cmK_congr e0, e2, if_neg (by decide)]; simp [tI1]; exact hS.cb
          · rw [cmK, cmK_congr e0, e2, if_pos rfl, e1]; simp [tI1]
            exact congrArg (· ||| (1 : Int32) <<< (nI j &&& 31)) hS.cw
        · have hv : v = 1 := by simp [v, hb]
          rw [hv] at href e88 e2
          refine ⟨nI (k + 1), tI (tI T 161 7 (T.1 161 7 ||| ((1 : Int32) <<< (nI j &&& 31)))) 161 6 (nI (k + 1)), σ1, ?_, fun ρ τ => ?_, hrel _ ?_ ?_ rfl ?_ ?_ ?_⟩
          · simp only [if_pos hq, i10, ↓reduceIte, x128_6, s0_6 hsv, hck, if_pos (show nI k < (8 : Int32) from nI_lt (b := 8) hk (by decide)), s0_o hsv, Option.bind_some, hb, s0_7 hsv, s0_7p hsv, s0_6p hsv, tI1, nI_1]
            simp [hck, nI_1]
          · simp only [if_pos hq, i10, ↓reduceIte, if_neg hne, mR_13, mR_14, mR_1, Option.bind_some, y201_w hk, y202_w hk, hb, sc_8, e88, nI_1, href]
            rw [show nI (dN (cur σ) 8) = nI k from rfl]
            simp only [y201_w hk, y202_w hk, Option.bind_some, mR_1, sc_8, e88, nI_1, href, mR_13, mR_14]
            try rfl
          · exact (agr_tI _ _ (by omega)).trans (agr_tI _ _ (by omega))
          · intro i h1 h2 h3; simp [tI1, h1, h2]
          · simp [tI1]
          · rw [cmK, cmK_congr e0, e2, if_pos rfl, e1]; simp [tI1]
            exact congrArg (· ||| (1 : Int32) <<< (nI j &&& 31)) hS.cb
          · rw [cmK, cmK_congr e0, e2, if_neg (by decide)]; simp [tI1]; exact hS.cw
      · have e : dN (cur σ) 8 = 8 := by omega
        refine ⟨-2, T, σ, ?_, fun ρ τ => ?_, hR⟩
        · simp only [if_pos hq, i10, ↓reduceIte, x128_6, Option.bind_some, s0_6 hsv, hS.ck.trans hD.sK, e, if_neg (show ¬ nI 8 < (8 : Int32) by decide)]
        · simp only [if_pos hq, i10, ↓reduceIte, e, if_pos (show nI 8 = (8 : Int32) from rfl)]
    · simp only [if_neg hq, ↓reduceIte]
      exact ⟨-2, T, σ, rfl, fun _ _ => rfl, hR⟩
