/-! The whole relation; what keeps it. -/
def byt (b : Nat) : Int32 := narT 1 (nI b)
def TP (T : Tc) (σ : Sg) : Prop := ∃ L, L ≤ 400 ∧ T.1 129 1 = nI L ∧ σ.1 28 = nI L ∧ ∀ i, i < L → ∃ b, b < 256 ∧ T.2.1 130 i = byt b ∧ σ.2.1 215 i = byt b
def RU (n : Nat) (S : Nat → Nat × Nat × Nat) (T : Tc) (σ : Sg) (nr : Nat) : Prop := ∀ k, k < nr → ∃ a l m, T.2.2.2.2 160 k = some a ∧ RR n S T a σ k l m
def IMr (n : Nat) (S : Nat → Nat × Nat × Nat) (T : Tc) (σ : Sg) (nr : Nat) : Prop := ∀ k, k < 4 → (σ.2.1 241 k = nI 0 ∧ T.2.2.2.2 173 k = none) ∨ (σ.2.1 241 k = nI 1 ∧ ∃ a, T.2.2.2.2 173 k = some a ∧ 242 ≤ a ∧ SR n S T a (img σ k) ∧ DG nr (img σ k))
def NO (T : Tc) (σ : Sg) (nr : Nat) : Prop := nr ≤ 6 ∧ T.1 128 5 = nI nr ∧ σ.1 32 = nI nr ∧ σ.1 37 = nI 12 ∧ T.1 153 1 = nI 0 ∧ T.1 153 6 = nI 0 ∧ T.1 153 7 = nI 0 ∧ ∀ j k a, j < 4 → k < 4 → T.2.2.2.2 173 j = some a → T.2.2.2.2 173 k = some a → j = k
def REL (n : Nat) (S : Nat → Nat × Nat × Nat) (T : Tc) (σ : Sg) (nr : Nat) : Prop := NO T σ nr ∧ TP T σ ∧ RU n S T σ nr ∧ IMr n S T σ nr ∧ DG nr (cur σ) ∧ SR n S T 161 (cur σ)
def agr (P : Nat → Prop) (T T' : Tc) : Prop := ∀ r, P r → T'.1 r = T.1 r ∧ T'.2.1 r = T.2.1 r ∧ T'.2.2.1 r = T.2.2.1 r ∧ T'.2.2.2.1 r = T.2.2.2.1 r ∧ T'.2.2.2.2 r = T.2.2.2.2 r
theorem agr.refl (P : Nat → Prop) (T : Tc) : agr P T T := fun _ _ => ⟨rfl, rfl, rfl, rfl, rfl⟩
theorem agr.trans {P : Nat → Prop} {T T' T'' : Tc} (h : agr P T T') (h' : agr P T' T'') : agr P T T'' := fun r hr => by
  obtain ⟨a, b, c, d, e⟩ := h r hr
  obtain ⟨a', b', c', d', e'⟩ := h' r hr
  exact ⟨a'.trans a, b'.trans b, c'.trans c, d'.trans d, e'.trans e⟩
theorem agr.mono {P Q : Nat → Prop} {T T' : Tc} (h : agr P T T') (hq : ∀ r, Q r → P r) : agr Q T T' := fun r hr => h r (hq r hr)
theorem agr_tI {P : Nat → Prop} {T : Tc} {r : Nat} (k : Nat) (v : Int32) (h : ¬ P r) : agr P T (tI T r k v) := fun q hq => by
  have hne : q ≠ r := fun e => h (e ▸ hq)
  exact ⟨up2_r _ _ hne, rfl, rfl, rfl, rfl⟩
theorem agr_tA {P : Nat → Prop} {T : Tc} {r : Nat} (k : Nat) (v : Int32) (h : ¬ P r) : agr P T (tA T r k v) := fun q hq => by
  have hne : q ≠ r := fun e => h (e ▸ hq)
  exact ⟨rfl, va_up_ne _ _ hne, rfl, rfl, rfl⟩
theorem agr_tF {P : Nat → Prop} {T : Tc} {r : Nat} (f : Nat → Int32) (h : ¬ P r) : agr P T (tF T r f) := fun q hq => by
  have hne : q ≠ r := fun e => h (e ▸ hq)
  exact ⟨rfl, va_up_ne _ _ hne, rfl, rfl, rfl⟩
theorem agr_tG {P : Nat → Prop} {T : Tc} {r : Nat} (k : Nat) (v : Int64) (h : ¬ P r) : agr P T (tG T r k v) := fun q hq => by
  have hne : q ≠ r := fun e => h (e ▸ hq)
  exact ⟨rfl, rfl, va_up_ne _ _ hne, rfl, rfl⟩
theorem agr_tJ {P : Nat → Prop} {T : Tc} {r : Nat} (k : Nat) (v : Int64) (h : ¬ P r) : agr P T (tJ T r k v) := fun q hq => by
  have hne : q ≠ r := fun e => h (e ▸ hq)
  exact ⟨rfl, rfl, up2_r _ _ hne, rfl, rfl⟩
theorem agr_tR {P : Nat → Prop} {T : Tc} {r : Nat} (k v : Nat) (h : ¬ P r) : agr P T (tR T r k v) := fun q hq => by
  have hne : q ≠ r := fun e => h (e ▸ hq)
  exact ⟨rfl, rfl, rfl, up2_r _ _ hne, rfl⟩
theorem agr_tO {P : Nat → Prop} {T : Tc} {r : Nat} (k : Nat) (v : Option Nat) (h : ¬ P r) : agr P T (tO T r k v) := fun q hq => by
  have hne : q ≠ r := fun e => h (e ▸ hq)
  exact ⟨rfl, rfl, rfl, rfl, va_up_ne _ _ hne⟩
/-- where a ground, a school, a rule can lie -/
theorem head_loc {n : Nat} {S : Nat → Nat × Nat × Nat} {a : Nat} {x : Nat × Nat × Nat} (hv : Vd n a) (hs : ovS S a = x) : 242 ≤ a ∨ ∃ j, j < 60 ∧ a = 128 + j ∧ shp.getD j (2, 0, 0) = x := by
  obtain ⟨h1, h2 | h2⟩ := hv
  · right
    refine ⟨a - 128, by omega, by omega, ?_⟩
    unfold ovS at hs
    rw [if_pos h2] at hs
    exact hs
  · exact .inl h2.1
theorem GV.loc {n : Nat} {S : Nat → Nat × Nat × Nat} {g : Nat} (h : GV n S g) : g = 132 ∨ 242 ≤ g := by
  rcases head_loc (h 0 (show 0 < 15 by decide)).1 (h 0 (show 0 < 15 by decide)).2 with h1 | ⟨j, h1, h2, h3⟩
  · exact .inr h1
  · left
    have : ∀ j, j < 60 → shp.getD j (2, 0, 0) = (0, 1, 0) → j = 4 := by decide
    have := this j h1 h3
    omega
theorem SV.loc {n : Nat} {S : Nat → Nat × Nat × Nat} {g : Nat} (h : SV n S g) : g = 161 ∨ g = 167 ∨ 242 ≤ g := by
  rcases head_loc (h 0 (show 0 < 6 by decide)).1 (h 0 (show 0 < 6 by decide)).2 with h1 | ⟨j, h1, h2, h3⟩
  · exact .inr (.inr h1)
  · have : ∀ j, j < 60 → shp.getD j (2, 0, 0) = (0, 7, 0) → j = 33 ∨ j = 39 := by decide
    rcases this j h1 h3 with h | h
    · left; omega
    · right; left; omega
theorem RV.loc {n : Nat} {S : Nat → Nat × Nat × Nat} {g l m : Nat} (h : RV n S g l m) : g = 153 ∨ 242 ≤ g := by
  rcases head_loc (h 0 (show 0 < 7 by decide)).1 (h 0 (show 0 < 7 by decide)).2 with h1 | ⟨j, h1, h2, h3⟩
  · exact .inr h1
  · left
    have : ∀ j, j < 60 → shp.getD j (2, 0, 0) = (0, 5, 0) → j = 25 := by decide
    have := this j h1 h3
    omega
theorem sq_dj {n : Nat} {S : Nat → Nat × Nat × Nat} {a g : Nat} {l m : List (Nat × Nat × Nat)} (ha : sq n S a l) (hg : sq n S g m) (h1 : ∀ k, k < m.length → m.getD k (2, 0, 0) ≠ l.getD 0 (2, 0, 0)) (h2 : ∀ k, k < l.length → l.getD k (2, 0, 0) ≠ m.getD 0 (2, 0, 0)) {i j : Nat} (hi : i < l.length) (hj : j < m.length) : a + i ≠ g + j := by
  intro e
  by_cases hij : i ≤ j
  · have e1 : a = g + (j - i) := by omega
    have h3 := (hg (j - i) (by omega)).2
    have h4 := (ha 0 (by omega)).2
    rw [Nat.add_zero] at h4
    rw [← e1, h4] at h3
    exact h1 (j - i) (by omega) h3.symm
  · have e1 : g = a + (i - j) := by omega
    have h3 := (ha (i - j) (by omega)).2
    have h4 := (hg 0 (by omega)).2
    rw [Nat.add_zero] at h4
    rw [← e1, h4] at h3
    exact h2 (i - j) (by omega) h3.symm
theorem GR.ext {n n' : Nat} {S S' : Nat → Nat × Nat × Nat} {T T' : Tc} {g : Nat} {D : Dt} {P : Nat → Prop} (h : GR n S T g D) (hg : GV n' S' g) (ha : agr P T T') (hp : ∀ j, j < 15 → P (g + j)) : GR n' S' T' g D := by
  obtain ⟨h1, h2, h3, h4, h5, h6, h7, h8, h9, h10, h11, h12, h13, h14, h15⟩ := h
  have e := fun j hj => ha (g + j) (hp j hj)
  have e0 := e 0 (by decide)
  rw [Nat.add_zero] at e0
  refine ⟨hg, ?_, ?_, ?_, ?_, ?_, ?_, ?_, ?_, ?_, ?_, ?_, ?_, ?_, ?_⟩
  · unfold CG; rw [e0.1, (e 1 (by decide)).2.1]; exact h2
  · unfold CL; rw [(e 2 (by decide)).2.1]; exact h3
  · rw [e0.1]; exact h4
  · rw [(e 4 (by decide)).2.1]; exact h5
  · rw [e0.1]; exact h6
  · rw [(e 6 (by decide)).2.1]; exact h7
  · rw [(e 7 (by decide)).2.1]; exact h8
  · rw [(e 8 (by decide)).2.1]; exact h9
  · rw [e0.2.2.1]; exact h10
  · rw [(e 9 (by decide)).1]; exact h11
  · rw [(e 9 (by decide)).1]; exact h12
  · rw [(e 13 (by decide)).2.1]; exact h13
  · rw [(e 9 (by decide)).1]; exact h14
  · rw [(e 14 (by decide)).2.1]; exact h15
/-- two states have one ground -/
def gsame (D D' : Dt) : Prop := (∀ k, k < 7 → D' 189 k = D 189 k) ∧ ∀ r, r = 190 ∨ r = 192 ∨ 194 ≤ r ∧ r ≤ 200 → D' r = D r
theorem gsame.n {D D' : Dt} (h : gsame D D') {k : Nat} (hk : k < 7) : dN D' k = dN D k := by
  unfold dN
  rw [h.1 k hk]
theorem gsame.hh {D D' : Dt} (h : gsame D D') : dh D' = dh D := by
  funext c
  unfold dh
  rw [h.2 190 (.inl rfl)]
theorem gsame.ls {D D' : Dt} (h : gsame D D') : les D' = les D := by
  unfold les
  rw [h.n (by decide), h.n (by decide), h.2 198 (by omega), h.2 199 (by omega), h.2 200 (by omega)]
theorem GR.D {n : Nat} {S : Nat → Nat × Nat × Nat} {T : Tc} {g : Nat} {D D' : Dt} (h : GR n S T g D) (e : gsame D D') : GR n S T g D' := by
  obtain ⟨h1, h2, h3, h4, h5, h6, h7, h8, h9, h10, h11, h12, h13, h14, h15⟩ := h
  have d0 := e.n (k := 0) (by decide)
  have d1 := e.n (k := 1) (by decide)
  have d2 := e.n (k := 2) (by decide)
  have d3 := e.n (k := 3) (by decide)
  have d4 := e.n (k := 4) (by decide)
  have d5 := e.n (k := 5) (by decide)
  have d6 := e.n (k := 6) (by decide)
  unfold GR
  rw [d0, d1, d2, d3, d4, d5, e.hh, e.ls, e.1 2 (by decide), e.1 3 (by decide), e.1 5 (by decide), e.1 6 (by decide), e.2 192 (by omega), e.2 194 (by omega), e.2 195 (by omega), e.2 196 (by omega), e.2 197 (by omega)]
  exact ⟨h1, h2, h3, h4, h5, h6, h7, h8, h9, h10, h11, h12, h13, h14, h15⟩
theorem SR.ext {n n' : Nat} {S S' : Nat → Nat × Nat × Nat} {T T' : Tc} {a : Nat} {D : Dt} {P : Nat → Prop} (h : SR n S T a D) (hs : SV n' S' a) (hg : GV n' S' (T.2.2.2.1 a 0)) (ha : agr P T T') (hp : ∀ j, j < 6 → P (a + j)) (hq : ∀ j, j < 15 → P (T.2.2.2.1 a 0 + j)) : SR n' S' T' a D := by
  obtain ⟨h1, h2, h3, h4, h5, h6, h7, h8, h9, h10, h11, h12, h13⟩ := h
  have e := fun j hj => ha (a + j) (hp j hj)
  have e0 := e 0 (by decide)
  rw [Nat.add_zero] at e0
  refine ⟨hs, ?_, ?_, ?_, ?_, ?_, ?_, ?_, ?_, ?_, ?_, ?_, ?_⟩
  · rw [e0.2.2.2.1]; exact h2.ext hg ha hq
  · rw [e0.1]; exact h3
  · rw [e0.1]; exact h4
  · rw [e0.1]; exact h5
  · rw [(e 1 (by decide)).2.1]; exact h6
  · rw [(e 2 (by decide)).2.1]; exact h7
  · rw [e0.1]; exact h8
  · rw [e0.1]; exact h9
  · rw [e0.1]; exact h10
  · rw [e0.1]; exact h11
  · rw [(e 5 (by decide)).2.1]; exact h12
  · rw [(e 3 (by decide)).2.1, (e 4 (by decide)).2.1]; exact h13
theorem RR.ext {n n' : Nat} {S S' : Nat → Nat × Nat × Nat} {T T' : Tc} {σ σ' : Sg} {a r l m : Nat} {P : Nat → Prop} (h : RR n S T a σ r l m) (hv : RV n' S' a l m) (ha : agr P T T') (h0 : P a) (hp : ∀ j, 2 ≤ j → j < 7 → P (a + j)) (h18 : σ'.2.1 218 r = σ.2.1 218 r) (h16 : ∀ i, i < 300 → σ'.2.1 216 (300 * r + i) = σ.2.1 216 (300 * r + i) ∧ σ'.2.1 217 (300 * r + i) = σ.2.1 217 (300 * r + i)) (h19 : ∀ c, c < 12 → σ'.2.1 219 (12 * r + c) = σ.2.1 219 (12 * r + c) ∧ σ'.2.1 220 (12 * r + c) = σ.2.1 220 (12 * r + c) ∧ σ'.2.1 221 (12 * r + c) = σ.2.1 221 (12 * r + c) ∧ σ'.2.1 223 (12 * r + c) = σ.2.1 223 (12 * r + c)) (hev : ∀ i k w, i + k ≤ 300 → ∀ st, evl (fun i => σ'.2.1 216 (300 * r + i)) (fun i => σ'.2.1 217 (300 * r + i)) w i k st = evl (fun i => σ.2.1 216 (300 * r + i)) (fun i => σ.2.1 217 (300 * r + i)) w i k st) : RR n' S' T' a σ' r l m := by
  obtain ⟨h1, h2, h3, h4, h5, h6, h7, h8, h9, h10⟩ := h
  have e := fun j hj hk => ha (a + j) (hp j hj hk)
  have e0 := ha a h0
  refine ⟨hv, h2, h3, ?_, ?_, ?_, ?_, ?_, ?_, ?_⟩
  · rw [e0.1]; exact h4
  · rw [h18]; exact h5
  · intro i hi
    rw [(e 2 (by decide) (by decide)).2.1, (h16 i (by omega)).1, (h16 i (by omega)).2]
    exact h6 i hi
  · intro c hc
    rw [(e 3 (by decide) (by decide)).2.1, (h19 c (by omega)).2.2.2]
    exact h7 c hc
  · intro c hc
    obtain ⟨x, y, z, q1, q2, q3, q4⟩ := h8 c hc
    refine ⟨x, y, z, q1, q2, q3, ?_⟩
    rw [(e 3 (by decide) (by decide)).2.1, (e 4 (by decide) (by decide)).2.1, (e 5 (by decide) (by decide)).2.1, (e 6 (by decide) (by decide)).2.1, (h19 c (by omega)).1, (h19 c (by omega)).2.1, (h19 c (by omega)).2.2.1]
    obtain ⟨w1, w2, w3, w4, w5, w6, w7, w8, w9⟩ := q4
    refine ⟨w1, w2, w3, w4, w5, w6, fun hh w => ?_, fun hh w => ?_, w9⟩
    · rw [hev x (y - x) w (by omega)]; exact w7 hh w
    · rw [hev y (z - y) w (by omega)]; exact w8 hh w
  · rw [e0.1, (e 3 (by decide) (by decide)).2.1]; exact h9
  · rw [e0.1, (e 3 (by decide) (by decide)).2.1]; exact h10
/-- what questions may change -/
def Scr (S : Nat → Nat × Nat × Nat) (r : Nat) : Prop := (167 ≤ r ∧ r ≤ 172) ∨ (174 ≤ r ∧ r ≤ 187) ∨ ovS S r = (1, 3, 32)
abbrev Ns (S : Nat → Nat × Nat × Nat) : Nat → Prop := fun r => ¬ Scr S r
def PerM (r : Nat) : Prop := (189 ≤ r ∧ r ≤ 202) ∨ (215 ≤ r ∧ r ≤ 221) ∨ r = 223 ∨ r = 226 ∨ r = 240 ∨ r = 241
def Eqm (σ σ' : Sg) : Prop := σ'.1 28 = σ.1 28 ∧ σ'.1 32 = σ.1 32 ∧ σ'.1 37 = σ.1 37 ∧ σ'.1 55 = σ.1 55 ∧ ∀ r, PerM r → σ'.2.1 r = σ.2.1 r
theorem Eqm.refl (σ : Sg) : Eqm σ σ := ⟨rfl, rfl, rfl, rfl, fun _ _ => rfl⟩
theorem Eqm.trans {σ σ' σ'' : Sg} (h : Eqm σ σ') (h' : Eqm σ' σ'') : Eqm σ σ'' := ⟨h'.1.trans h.1, h'.2.1.trans h.2.1, h'.2.2.1.trans h.2.2.1, h'.2.2.2.1.trans h.2.2.2.1, fun r hr => (h'.2.2.2.2 r hr).trans (h.2.2.2.2 r hr)⟩
theorem Eqm.cu {σ σ' : Sg} (h : Eqm σ σ') : cur σ' = cur σ := by
  funext r i
  unfold cur
  by_cases h1 : i < dlen r
  · rw [if_pos h1, if_pos h1]
    by_cases h2 : r = 0
    · rw [if_pos h2, if_pos h2, h.2.2.2.1]
    · rw [if_neg h2, if_neg h2]
      by_cases h3 : PerM r
      · rw [h.2.2.2.2 r h3]
      · exfalso
        unfold dlen at h1
        rw [if_neg h2] at h1
        by_cases h4 : r = 226
        · exact h3 (by unfold PerM; omega)
        · rw [if_neg h4] at h1
          by_cases h5 : 189 ≤ r ∧ r ≤ 202
          · exact h3 (.inl h5)
          · rw [if_neg h5] at h1; omega
  · rw [if_neg h1, if_neg h1]
theorem Eqm.im {σ σ' : Sg} (h : Eqm σ σ') (k : Nat) : img σ' k = img σ k := by
  funext r i
  unfold img
  rw [h.2.2.2.2 240 (by unfold PerM; omega)]
theorem ns_f {S : Nat → Nat × Nat × Nat} {r : Nat} (h : r < 167 ∨ r = 173 ∨ 188 ≤ r) (h2 : ovS S r ≠ (1, 3, 32)) : Ns S r := by
  rintro (h1 | h1 | h1)
  · omega
  · omega
  · exact h2 h1
theorem ns_sq {n : Nat} {S : Nat → Nat × Nat × Nat} {a : Nat} {l : List (Nat × Nat × Nat)} (h : sq n S a l) (hl : a + l.length ≤ 167 ∨ 188 ≤ a) {j : Nat} (hj : j < l.length) (hs : l.getD j (2, 0, 0) ≠ (1, 3, 32)) : Ns S (a + j) := ns_f (by omega) (by rw [(h j hj).2]; exact hs)
theorem GV.ns {n : Nat} {S : Nat → Nat × Nat × Nat} {g : Nat} (h : GV n S g) (j : Nat) (hj : j < 15) : Ns S (g + j) := by
  refine ns_sq h ?_ hj ?_
  · rcases h.loc with h1 | h1
    · left; show g + 15 ≤ 167; omega
    · right; omega
  · have : ∀ j, j < 15 → [(0, 1, 0), (1, 0, 48), (1, 0, 48), (1, 0, 5), (1, 0, 5), (1, 0, 8), (1, 0, 8), (1, 0, 8), (1, 0, 8), (0, 3, 0), (1, 0, 8), (1, 0, 10), (1, 0, 10), (1, 0, 8), (1, 0, 8)].getD j (2, 0, 0) ≠ (1, 3, 32) := by decide
    exact this j hj
theorem SV.ns {n : Nat} {S : Nat → Nat × Nat × Nat} {g : Nat} (h : SV n S g) (h7 : g ≠ 167) (j : Nat) (hj : j < 6) : Ns S (g + j) := by
  refine ns_sq h ?_ hj ?_
  · rcases h.loc with h1 | h1 | h1
    · left; show g + 6 ≤ 167; omega
    · exact absurd h1 h7
    · right; omega
  · have : ∀ j, j < 6 → [(0, 7, 0), (1, 0, 5), (1, 0, 8), (1, 0, 20), (1, 0, 20), (1, 0, 20)].getD j (2, 0, 0) ≠ (1, 3, 32) := by decide
    exact this j hj
theorem RV.ns {n : Nat} {S : Nat → Nat × Nat × Nat} {g l m : Nat} (h : RV n S g l m) (j : Nat) (hj : j < 7) (h1 : j ≠ 1) : Ns S (g + j) := by
  refine ns_sq h ?_ hj ?_
  · rcases h.loc with h1 | h1
    · left; show g + 7 ≤ 167; omega
    · right; omega
  · rcases (show j = 0 ∨ j = 2 ∨ j = 3 ∨ j = 4 ∨ j = 5 ∨ j = 6 by omega) with rfl | rfl | rfl | rfl | rfl | rfl <;> (intro e; cases e)
theorem evl_same {σ σ' : Sg} (h : Eqm σ σ') : σ'.2.1 216 = σ.2.1 216 ∧ σ'.2.1 217 = σ.2.1 217 := ⟨h.2.2.2.2 216 (by unfold PerM; omega), h.2.2.2.2 217 (by unfold PerM; omega)⟩
/-- questions keep the relation -/
theorem REL.scr {n nr : Nat} {S : Nat → Nat × Nat × Nat} {T T' : Tc} {σ σ' : Sg} (h : REL n S T σ nr) (hT : agr (Ns S) T T') (hσ : Eqm σ σ') : REL n S T' σ' nr := by
  obtain ⟨⟨a1, a2, a3, a4, a5, a6, a7, a8⟩, ⟨L, b1, b2, b3, b4⟩, hR, hI, hD, hS⟩ := h
  have q28 := hT 128 (ns_f (by omega) (by intro e; cases e))
  have q53 := hT 153 (ns_f (by omega) (by intro e; cases e))
  have q73 := hT 173 (ns_f (by omega) (by intro e; cases e))
  have q60 := hT 160 (ns_f (by omega) (by intro e; cases e))
  have q29 := hT 129 (ns_f (by omega) (by intro e; cases e))
  have q30 := hT 130 (ns_f (by omega) (by intro e; cases e))
  refine ⟨⟨a1, ?_, ?_, ?_, ?_, ?_, ?_, ?_⟩, ⟨L, b1, ?_, ?_, ?_⟩, ?_, ?_, ?_, ?_⟩
  · rw [q28.1]; exact a2
  · rw [hσ.2.1]; exact a3
  · rw [hσ.2.2.1]; exact a4
  · rw [q53.1]; exact a5
  · rw [q53.1]; exact a6
  · rw [q53.1]; exact a7
  · rw [q73.2.2.2.2]; exact a8
  · rw [q29.1]; exact b2
  · rw [hσ.1]; exact b3
  · rw [q30.2.1, hσ.2.2.2.2 215 (by unfold PerM; omega)]; exact b4
  · intro k hk
    obtain ⟨a, l, m, c1, c2⟩ := hR k hk
    refine ⟨a, l, m, by rw [q60.2.2.2.2]; exact c1, ?_⟩
    have p := fun r hr => hσ.2.2.2.2 r hr
    refine c2.ext c2.rv hT (c2.rv.ns 0 (by decide) (by decide)) (fun j h2 h7 => c2.rv.ns j h7 (by omega)) ?_ ?_ ?_ ?_
    · rw [p 218 (by unfold PerM; omega)]
    · intro i _; rw [p 216 (by unfold PerM; omega), p 217 (by unfold PerM; omega)]; exact ⟨rfl, rfl⟩
    · intro i _; rw [p 219 (by unfold PerM; omega), p 220 (by unfold PerM; omega), p 221 (by unfold PerM; omega), p 223 (by unfold PerM; omega)]; exact ⟨rfl, rfl, rfl, rfl⟩
    · intro i k w _ st; rw [p 216 (by unfold PerM; omega), p 217 (by unfold PerM; omega)]
  · intro k hk
    rcases hI k hk with ⟨c1, c2⟩ | ⟨c1, a, c2, c3, c4, c5⟩
    · left
      rw [q73.2.2.2.2, hσ.2.2.2.2 241 (by unfold PerM; omega)]
      exact ⟨c1, c2⟩
    · right
      rw [q73.2.2.2.2, hσ.2.2.2.2 241 (by unfold PerM; omega), hσ.im]
      exact ⟨c1, a, c2, c3, c4.ext c4.sv c4.la.gv hT (c4.sv.ns (by omega)) c4.la.gv.ns, c5⟩
  · rw [hσ.cu]; exact hD
  · rw [hσ.cu]
    exact hS.ext hS.sv hS.la.gv hT (hS.sv.ns (by decide)) hS.la.gv.ns
