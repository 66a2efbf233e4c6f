/-! An act keeps the relation. -/
/-- who moved, from where, and how the state follows -/
def Mv (D D' : Dt) (x y : Int32) : Prop := (∃ q, q < dN D 2 ∧ x = nI q ∧ y = D 191 q ∧ isB (D' 191 q) (nc D) ∧ (∀ p, p < dN D 2 → p ≠ q → D' 191 p = D 191 p) ∧ ∀ t, t < dN D 3 → D' 193 t = D 193 t) ∨ (∃ t, t < dN D 3 ∧ x = nI (5 + t) ∧ y = D 193 t ∧ isB (D' 193 t) (nc D) ∧ (∀ p, p < dN D 3 → p ≠ t → D' 193 p = D 193 p) ∧ ∀ q, q < dN D 2 → D' 191 q = D 191 q)
def Ak (D D' : Dt) (m off : Nat) : Prop := (∀ k, k ≠ 7 → D' 189 k = D 189 k) ∧ (∀ r, r = 190 ∨ r = 192 ∨ 194 ≤ r ∧ r ≤ 202 → D' r = D r) ∧ D' 0 0 = nI (m + 1) ∧ (∀ j, j < 14 * m → D' 226 j = D 226 (j + 14 * off)) ∧ D' 226 (14 * m) = D 189 7 ∧ (∀ q, q < 5 → D' 226 (14 * m + 1 + q) = D 191 q) ∧ (∀ t, t < 8 → D' 226 (14 * m + 6 + t) = D 193 t) ∧ isB (D' 189 7) 256
section ACT
variable {nr : Nat} {D D' : Dt} {m off : Nat} {x y : Int32}
theorem Ak.n (h : Ak D D' m off) {k : Nat} (hk : k ≠ 7) : dN D' k = dN D k := by unfold dN; rw [h.1 k hk]
theorem Ak.M (h : Ak D D' m off) (hm : m < 20) : dM D' = m + 1 := by unfold dM; rw [h.2.2.1, nI_clamp (by omega)]
theorem Ak.gs (h : Ak D D' m off) : gsame D D' := ⟨fun k hk => h.1 k (by omega), fun r hr => h.2.1 r (by omega)⟩
theorem wrp.lt {M : Nat} (h : wrp M m off) : m < 20 ∧ m + off = M := by unfold wrp at h; omega
theorem Ak.rows (h : Ak D D' m off) (hw : wrp (dM D) m off) (bP : dN D 2 ≤ 5) (bT : dN D 3 ≤ 8) : (∀ k, k ≤ m → rwB D' k = rwB D (k + off) ∧ (∀ q, q < dN D 2 → rwA D' k q = rwA D (k + off) q) ∧ ∀ t, t < dN D 3 → rwT D' k t = rwT D (k + off) t) ∧ rwB D' (m + 1) = D' 189 7 ∧ (∀ q, rwA D' (m + 1) q = D' 191 q) ∧ ∀ t, rwT D' (m + 1) t = D' 193 t := by
  obtain ⟨w1, w2⟩ := hw.lt
  have hM := h.M w1
  obtain ⟨-, -, -, h4, h5, h6, h7, -⟩ := h
  refine ⟨fun k hk => ?_, ?_, ?_, ?_⟩
  · unfold rwB rwA rwT
    rw [hM, if_pos (by omega)]
    by_cases hkm : k < m
    · rw [if_pos (by omega)]
      refine ⟨by rw [h4 _ (by omega)]; congr 1; omega, fun q hq => ?_, fun t ht => ?_⟩
      · rw [if_pos (by omega), if_pos (by omega), h4 _ (by omega)]; congr 1; omega
      · rw [if_pos (by omega), if_pos (by omega), h4 _ (by omega)]; congr 1; omega
    · have : k = m := by omega
      subst this
      rw [if_neg (by omega)]
      refine ⟨h5, fun q hq => ?_, fun t ht => ?_⟩
      · rw [if_pos (by omega), if_neg (by omega)]; exact h6 q (by omega)
      · rw [if_pos (by omega), if_neg (by omega)]; exact h7 t (by omega)
  · unfold rwB; rw [hM, if_neg (by omega)]
  · intro q; unfold rwA; rw [hM, if_neg (by omega)]
  · intro q; unfold rwT; rw [hM, if_neg (by omega)]
theorem act_DG (hD : DG nr D) (h : Ak D D' m off) (hw : wrp (dM D) m off) (hv : Mv D D' x y) : DG nr D' := by
  obtain ⟨w1, w2⟩ := hw.lt
  have hM := h.M w1
  obtain ⟨hr, hB, hA, hT⟩ := h.rows hw hD.bP hD.bT
  have n0 := h.n (k := 0) (by decide)
  have n1 := h.n (k := 1) (by decide)
  have n2 := h.n (k := 2) (by decide)
  have n3 := h.n (k := 3) (by decide)
  have n4 := h.n (k := 4) (by decide)
  have n5 := h.n (k := 5) (by decide)
  have n6 := h.n (k := 6) (by decide)
  have n8 := h.n (k := 8) (by decide)
  have g := h.gs
  have eh : dh D' = dh D := g.hh
  have eB : D' 189 7 = nI (dN D' 7) ∧ dN D' 7 < 256 := (h.2.2.2.2.2.2.2).cl (by decide)
  have cA : ∀ q, q < dN D 2 → isB (D' 191 q) (nc D) := by
    intro q hq
    rcases hv with ⟨p, h1, h2, h3, h4, h5, h6⟩ | ⟨t, h1, h2, h3, h4, h5, h6⟩
    · by_cases e : q = p
      · subst e; exact h4
      · rw [h5 q hq e]; exact hD.at0 hq
    · rw [h6 q hq]; exact hD.at0 hq
  have cT : ∀ q, q < dN D 3 → isB (D' 193 q) (nc D) := by
    intro q hq
    rcases hv with ⟨p, h1, h2, h3, h4, h5, h6⟩ | ⟨t, h1, h2, h3, h4, h5, h6⟩
    · rw [h6 q hq]; exact hD.th0 hq
    · by_cases e : q = t
      · subst e; exact h4
      · rw [h5 q hq e]; exact hD.th0 hq
  have enc : nc D' = nc D := by unfold nc; rw [n0, n1]
  unfold DG
  rw [n0, n1, n2, n3, n4, n5, n6, n8, hM, enc, eh, h.1 0 (by decide), h.1 1 (by decide), h.1 2 (by decide), h.1 3 (by decide), h.1 4 (by decide), h.1 5 (by decide), h.1 6 (by decide), h.1 8 (by decide), h.1 9 (by decide), h.1 10 (by decide), h.2.1 190 (by omega), h.2.1 196 (by omega), h.2.1 197 (by omega), h.2.1 198 (by omega), h.2.1 199 (by omega), h.2.1 200 (by omega), h.2.1 201 (by omega), h.2.1 202 (by omega)]
  refine ⟨hD.sC, hD.bC, hD.sR, hD.bR, hD.sP, hD.bP, hD.sT, hD.bT, hD.sN, hD.bN, hD.sL, hD.bL, hD.sA, hD.bA, eB.1, eB.2, hD.sK, hD.bK, h.2.2.1, by omega, hD.gr, hD.hh, hD.h9, ?_, ?_, ?_, hD.wo, hD.ne, hD.nd, hD.ho, hD.al, hD.as_, hD.ct, hD.cb, hD.dx, hD.fo⟩
  · intro k hk q hq
    by_cases e : k = m + 1
    · subst e; rw [hA]; exact cA q hq
    · rw [(hr k (by omega)).2.1 q hq]; exact hD.at_ _ (by omega) q hq
  · intro k hk q hq
    by_cases e : k = m + 1
    · subst e; rw [hT]; exact cT q hq
    · rw [(hr k (by omega)).2.2 q hq]; exact hD.th _ (by omega) q hq
  · intro k hk
    by_cases e : k = m + 1
    · subst e; rw [hB]; exact h.2.2.2.2.2.2.2
    · rw [(hr k (by omega)).1]; exact hD.br _ (by omega)
theorem act_SR {n : Nat} {S : Nat → Nat × Nat × Nat} {T T' : Tc} (hS : SR n S T 161 D) (hD : DG nr D) (h : Ak D D' m off) (hw : wrp (dM D) m off) (hv : Mv D D' x y)
    (ha : agr (Nm S) T T') (hl : T'.2.2.2.1 161 0 = T.2.2.2.1 161 0) (hf : ∀ k, k = 1 ∨ k = 2 ∨ k = 6 ∨ k = 7 ∨ k = 8 → T'.1 161 k = T.1 161 k) (h3 : T'.1 161 3 = D' 189 7) (h9 : T'.1 161 9 = nI (m + 1)) (hp : ∀ p, p < dN D 2 → T'.2.1 (161 + 1) p = D' 191 p) (ht : ∀ t, t < dN D 3 → T'.2.1 (161 + 2) t = D' 193 t)
    (hk : ∀ k, k < m → T'.2.1 (161 + 3) k = T.2.1 (161 + 3) (k + off) ∧ T'.2.1 (161 + 4) k = T.2.1 (161 + 4) (k + off) ∧ T'.2.1 (161 + 5) k = T.2.1 (161 + 5) (k + off)) (hx : T'.2.1 (161 + 3) m = x) (hy : T'.2.1 (161 + 4) m = y) (hb : T'.2.1 (161 + 5) m = D 189 7) : SR n S T' 161 D' := by
  obtain ⟨w1, w2⟩ := hw.lt
  have hM := h.M w1
  obtain ⟨hr, hB, hA, hT⟩ := h.rows hw hD.bP hD.bT
  have n2 := h.n (k := 2) (by decide)
  have n3 := h.n (k := 3) (by decide)
  have n8 := h.n (k := 8) (by decide)
  have gl := hS.la.gv.loc
  have cm : ∀ b k, cmK D' b k = cmK D b k := by
    intro b k
    induction k with
    | zero => rfl
    | succ k ih => rw [cmK, cmK, ih, h.2.1 201 (by omega), h.2.1 202 (by omega)]
  have rB : ∀ k, k ≤ m → rwB D' k = rwB D (k + off) := fun k hk => (hr k hk).1
  unfold SR
  rw [hl, n2, n3, n8, hM, cm, cm, h.1 8 (by decide), h.1 9 (by decide), h.1 10 (by decide), h.2.2.1]
  refine ⟨hS.sv, ?_, ?_, ?_, h3, hp, ht, ?_, ?_, ?_, h9, ?_, ?_⟩
  · exact (hS.la.ext hS.la.gv ha (fun j hj => ⟨hS.la.gv.ns j hj, by omega⟩)).D h.gs
  · rw [hf 1 (by omega)]; exact hS.fo
  · rw [hf 2 (by omega)]; exact hS.xx
  · rw [hf 6 (by omega)]; exact hS.ck
  · rw [hf 7 (by omega)]; exact hS.cb
  · rw [hf 8 (by omega)]; exact hS.cw
  · intro k hk2
    rw [rB k (by omega)]
    by_cases e : k < m
    · rw [(hk k e).2.2]; exact hS.hb _ (by omega)
    · have : k = m := by omega
      subst this
      rw [hb]
      unfold rwB
      rw [if_neg (by omega)]
  · intro k hk2
    by_cases e : k < m
    · rw [(hk k e).1, (hk k e).2.1]
      have := hS.hm (k + off) (by omega)
      unfold actR at this ⊢
      rw [n2, n3]
      rcases this with ⟨q, a1, a2, a3, a4⟩ | ⟨q, a1, a2, a3, a4⟩
      · refine .inl ⟨q, a1, a2, fun p hp2 => ?_, fun t ht2 => ?_⟩
        · rw [(hr k (by omega)).2.1 p hp2, (hr (k + 1) (by omega)).2.1 p hp2, a3 p hp2, show k + 1 + off = k + off + 1 by omega]
        · rw [(hr k (by omega)).2.2 t ht2, (hr (k + 1) (by omega)).2.2 t ht2, a4 t ht2, show k + 1 + off = k + off + 1 by omega]
      · refine .inr ⟨q, a1, a2, fun p hp2 => ?_, fun t ht2 => ?_⟩
        · rw [(hr k (by omega)).2.2 p hp2, (hr (k + 1) (by omega)).2.2 p hp2, a3 p hp2, show k + 1 + off = k + off + 1 by omega]
        · rw [(hr k (by omega)).2.1 t ht2, (hr (k + 1) (by omega)).2.1 t ht2, a4 t ht2, show k + 1 + off = k + off + 1 by omega]
    · have : k = m := by omega
      subst this
      have cA : ∀ q, rwA D (k + off) q = D 191 q := fun q => by unfold rwA; rw [if_neg (by omega)]
      have cT : ∀ q, rwT D (k + off) q = D 193 q := fun q => by unfold rwT; rw [if_neg (by omega)]
      rw [hx, hy]
      unfold actR
      rw [n2, n3]
      rcases hv with ⟨q, a1, a2, a3, a4, a5, a6⟩ | ⟨q, a1, a2, a3, a4, a5, a6⟩
      · refine .inl ⟨q, a1, a2, fun p hp2 => ?_, fun t ht2 => ?_⟩
        · rw [(hr k (by omega)).2.1 p hp2, cA, hA]
          by_cases e2 : p = q
          · subst e2; rw [if_pos rfl, a3]
          · rw [if_neg e2, a5 p hp2 e2]
        · rw [(hr k (by omega)).2.2 t ht2, cT, hT, a6 t ht2]
      · refine .inr ⟨q, a1, a2, fun p hp2 => ?_, fun t ht2 => ?_⟩
        · rw [(hr k (by omega)).2.2 p hp2, cT, hT]
          by_cases e2 : p = q
          · subst e2; rw [if_pos rfl, a3]
          · rw [if_neg e2, a5 p hp2 e2]
        · rw [(hr k (by omega)).2.1 t ht2, cA, hA, a6 t ht2]
end ACT
/-- from the reference's keepsAct and what follows it -/
theorem Kp.ak {σ σ1 σ2 : Sg} {m off : Nat} (h : Kp σ σ1 m off) (hm : m < 20) (ho : off ≤ 1) (hmo : m + off ≤ 20) (h55 : σ2.1 55 = σ1.1 55) (hk : ∀ k, k ≠ 7 → σ2.2.1 189 k = σ1.2.1 189 k) (hr : ∀ r, r ≠ 189 → r ≠ 191 → r ≠ 193 → σ2.2.1 r = σ1.2.1 r) (hb : isB (σ2.2.1 189 7) 256) : Ak (cur σ) (cur σ2) m off := by
  obtain ⟨h1, h2, h3, h4, h5, h6, h7, h8⟩ := h
  refine ⟨?_, ?_, ?_, ?_, ?_, ?_, ?_, hb⟩
  · intro k hk2
    unfold cur
    by_cases hl : k < dlen 189
    · rw [if_pos hl, if_pos hl, if_neg (by decide), if_neg (by decide), hk k hk2, h3 189 (by decide)]
    · rw [if_neg hl, if_neg hl]
  · intro r hr2
    funext i
    unfold cur
    rw [if_neg (show r ≠ 0 by omega), if_neg (show r ≠ 0 by omega), hr r (by omega) (by omega) (by omega), h3 r (by omega)]
  · show σ2.1 55 = _
    rw [h55, h1]
  · intro j hj
    rw [cu_226 (by omega), cu_226 (by omega), hr 226 (by decide) (by decide) (by decide), h5 j hj]
  · rw [cu_226 (by omega), hr 226 (by decide) (by decide) (by decide), h6]; rfl
  · intro q hq
    rw [cu_226 (by omega), hr 226 (by decide) (by decide) (by decide), h7 q hq, cu_191 hq]
  · intro q hq
    rw [cu_226 (by omega), hr 226 (by decide) (by decide) (by decide), h8 q hq, cu_193 hq]
