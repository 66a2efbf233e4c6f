/-! Calls in pairs: what keeps the relation; the simple calls. -/
theorem cu_189 {σ : Sg} {i : Nat} (h : i < 11) : cur σ 189 i = σ.2.1 189 i := by unfold cur; rw [if_pos (show i < dlen 189 from h), if_neg (by decide)]
theorem cu_190 {σ : Sg} {i : Nat} (h : i < 48) : cur σ 190 i = σ.2.1 190 i := by unfold cur; rw [if_pos (show i < dlen 190 from h), if_neg (by decide)]
theorem cu_191 {σ : Sg} {i : Nat} (h : i < 5) : cur σ 191 i = σ.2.1 191 i := by unfold cur; rw [if_pos (show i < dlen 191 from h), if_neg (by decide)]
theorem cu_192 {σ : Sg} {i : Nat} (h : i < 5) : cur σ 192 i = σ.2.1 192 i := by unfold cur; rw [if_pos (show i < dlen 192 from h), if_neg (by decide)]
theorem cu_193 {σ : Sg} {i : Nat} (h : i < 8) : cur σ 193 i = σ.2.1 193 i := by unfold cur; rw [if_pos (show i < dlen 193 from h), if_neg (by decide)]
theorem cu_194 {σ : Sg} {i : Nat} (h : i < 8) : cur σ 194 i = σ.2.1 194 i := by unfold cur; rw [if_pos (show i < dlen 194 from h), if_neg (by decide)]
theorem cu_195 {σ : Sg} {i : Nat} (h : i < 8) : cur σ 195 i = σ.2.1 195 i := by unfold cur; rw [if_pos (show i < dlen 195 from h), if_neg (by decide)]
theorem cu_196 {σ : Sg} {i : Nat} (h : i < 8) : cur σ 196 i = σ.2.1 196 i := by unfold cur; rw [if_pos (show i < dlen 196 from h), if_neg (by decide)]
theorem cu_197 {σ : Sg} {i : Nat} (h : i < 4) : cur σ 197 i = σ.2.1 197 i := by unfold cur; rw [if_pos (show i < dlen 197 from h), if_neg (by decide)]
theorem cu_198 {σ : Sg} {i : Nat} (h : i < 8) : cur σ 198 i = σ.2.1 198 i := by unfold cur; rw [if_pos (show i < dlen 198 from h), if_neg (by decide)]
theorem cu_199 {σ : Sg} {i : Nat} (h : i < 10) : cur σ 199 i = σ.2.1 199 i := by unfold cur; rw [if_pos (show i < dlen 199 from h), if_neg (by decide)]
theorem cu_200 {σ : Sg} {i : Nat} (h : i < 10) : cur σ 200 i = σ.2.1 200 i := by unfold cur; rw [if_pos (show i < dlen 200 from h), if_neg (by decide)]
theorem cu_201 {σ : Sg} {i : Nat} (h : i < 8) : cur σ 201 i = σ.2.1 201 i := by unfold cur; rw [if_pos (show i < dlen 201 from h), if_neg (by decide)]
theorem cu_202 {σ : Sg} {i : Nat} (h : i < 8) : cur σ 202 i = σ.2.1 202 i := by unfold cur; rw [if_pos (show i < dlen 202 from h), if_neg (by decide)]
theorem cu_226 {σ : Sg} {i : Nat} (h : i < 280) : cur σ 226 i = σ.2.1 226 i := by unfold cur; rw [if_pos (show i < dlen 226 from h), if_neg (by decide)]
theorem cs_0 {σ : Sg} : σ.2.1 189 0 = cur σ 189 0 := rfl
theorem cs_1 {σ : Sg} : σ.2.1 189 1 = cur σ 189 1 := rfl
theorem cs_2 {σ : Sg} : σ.2.1 189 2 = cur σ 189 2 := rfl
theorem cs_3 {σ : Sg} : σ.2.1 189 3 = cur σ 189 3 := rfl
theorem cs_4 {σ : Sg} : σ.2.1 189 4 = cur σ 189 4 := rfl
theorem cs_5 {σ : Sg} : σ.2.1 189 5 = cur σ 189 5 := rfl
theorem cs_6 {σ : Sg} : σ.2.1 189 6 = cur σ 189 6 := rfl
theorem cs_7 {σ : Sg} : σ.2.1 189 7 = cur σ 189 7 := rfl
theorem cs_8 {σ : Sg} : σ.2.1 189 8 = cur σ 189 8 := rfl
theorem cs_9 {σ : Sg} : σ.2.1 189 9 = cur σ 189 9 := rfl
theorem cs_10 {σ : Sg} : σ.2.1 189 10 = cur σ 189 10 := rfl
theorem c00 {σ : Sg} : σ.1 55 = cur σ 0 0 := rfl
theorem DG.n48 {nr : Nat} {D : Dt} (h : DG nr D) : nc D ≤ 48 := Nat.le_trans (Nat.mul_le_mul h.bC h.bR) (by decide)
theorem DG.gs {nr : Nat} {D : Dt} (h : DG nr D) (h0 : 0 < nc D) : GS (dN D 0) (dN D 1) (dh D) := by
  rcases h.gr with ⟨g1, _⟩ | ⟨g1, g2⟩
  · rw [nc, g1, Nat.zero_mul] at h0; omega
  · exact ⟨g1, h.bC, g2, h.bR, h.h9⟩
theorem DG.mg {nr : Nat} {σ : Sg} (h : DG nr (cur σ)) : MG σ (dN (cur σ) 0) (dN (cur σ) 1) (dh (cur σ)) := by
  refine ⟨h.sC, h.sR, fun c hc => ?_⟩
  have := h.n48
  have hc2 : c < 48 := Nat.lt_of_lt_of_le hc this
  rw [← cu_190 hc2]
  exact h.hh c hc2
theorem DG.at0 {nr : Nat} {D : Dt} (h : DG nr D) {q : Nat} (hq : q < dN D 2) : isB (D 191 q) (nc D) := by
  have := h.at_ (dM D) (Nat.le_refl _) q hq
  unfold rwA at this
  rw [if_neg (by omega)] at this
  exact this
theorem DG.th0 {nr : Nat} {D : Dt} (h : DG nr D) {t : Nat} (ht : t < dN D 3) : isB (D 193 t) (nc D) := by
  have := h.th (dM D) (Nat.le_refl _) t ht
  unfold rwT at this
  rw [if_neg (by omega)] at this
  exact this
def OpR {α : Type} (F G : Mm → Option (α × Mm)) : Prop := ∀ (n sl : Nat) (U : Nat → va_E) (S : Nat → Nat × Nat × Nat) (T : Tc) (σ : Sg) (nr : Nat), REL n S T σ nr → ∃ (v : α) (n' sl' : Nat) (U' : Nat → va_E) (S' : Nat → Nat × Nat × Nat) (T' : Tc) (σ' : Sg) (nr' : Nat), F (cn n sl U S T σ) = some (v, cn n' sl' U' S' T' σ) ∧ G (cn n' sl' U' S' T' σ) = some (v, cn n' sl' U' S' T' σ') ∧ REL n' S' T' σ' nr' ∧ n' ≤ n + 15 ∧ sl' ≤ sl + 1000
/-- a question -/
theorem OpR.q {α : Type} {F G : Mm → Option (α × Mm)} (h : ∀ (n sl : Nat) (U : Nat → va_E) (S : Nat → Nat × Nat × Nat) (T : Tc) (σ : Sg) (nr : Nat), REL n S T σ nr → ∃ (v : α) (T' : Tc) (σ' : Sg), F (cn n sl U S T σ) = some (v, cn n sl U S T' σ) ∧ agr (Ns S) T T' ∧ (∀ ρ τ, G (mem ρ τ σ) = some (v, mem ρ τ σ')) ∧ Eqm σ σ') : OpR F G := by
  intro n sl U S T σ nr hR
  obtain ⟨v, T', σ', h1, h2, h3, h4⟩ := h n sl U S T σ nr hR
  exact ⟨v, n, sl, U, S, T', σ', nr, h1, h3 _ _, hR.scr h2 h4, by omega, by omega⟩
theorem OpR.q0 {α : Type} {F G : Mm → Option (α × Mm)} (h : ∀ (n sl : Nat) (U : Nat → va_E) (S : Nat → Nat × Nat × Nat) (T : Tc) (σ : Sg) (nr : Nat), REL n S T σ nr → ∃ (v : α), F (cn n sl U S T σ) = some (v, cn n sl U S T σ) ∧ (∀ ρ τ, G (mem ρ τ σ) = some (v, mem ρ τ σ))) : OpR F G := OpR.q fun n sl U S T σ nr hR => by
  obtain ⟨v, h1, h3⟩ := h n sl U S T σ nr hR
  exact ⟨v, T, σ, h1, agr.refl _ _, h3, Eqm.refl _⟩
abbrev Nm (S : Nat → Nat × Nat × Nat) : Nat → Prop := fun r => Ns S r ∧ ¬ (161 ≤ r ∧ r ≤ 166)
def Eqs (σ σ' : Sg) : Prop := σ'.1 28 = σ.1 28 ∧ σ'.1 32 = σ.1 32 ∧ σ'.1 37 = σ.1 37 ∧ ∀ r, (215 ≤ r ∧ r ≤ 221) ∨ r = 223 ∨ r = 240 ∨ r = 241 → σ'.2.1 r = σ.2.1 r
theorem Eqs.im {σ σ' : Sg} (h : Eqs σ σ') (k : Nat) : img σ' k = img σ k := by
  funext r i
  unfold img
  rw [h.2.2.2 240 (by omega)]
theorem REL.sch {n nr : Nat} {S : Nat → Nat × Nat × Nat} {T T' : Tc} {σ σ' : Sg} (h : REL n S T σ nr) (hT : agr (Nm S) T T') (hσ : Eqs σ σ') (hD' : DG nr (cur σ')) (hS' : SR n S T' 161 (cur σ')) : REL n S T' σ' nr := by
  obtain ⟨⟨a1, a2, a3, a4, a5, a6, a7, a8⟩, ⟨L, b1, b2, b3, b4⟩, hR, hI, hD, hS⟩ := h
  have q28 := hT 128 ⟨ns_f (by omega) (by intro e; cases e), by omega⟩
  have q53 := hT 153 ⟨ns_f (by omega) (by intro e; cases e), by omega⟩
  have q73 := hT 173 ⟨ns_f (by omega) (by intro e; cases e), by omega⟩
  have q60 := hT 160 ⟨ns_f (by omega) (by intro e; cases e), by omega⟩
  have q29 := hT 129 ⟨ns_f (by omega) (by intro e; cases e), by omega⟩
  have q30 := hT 130 ⟨ns_f (by omega) (by intro e; cases e), by omega⟩
  have gn : ∀ {g}, GV n S g → ∀ j, j < 15 → Nm S (g + j) := fun {g} hg j hj => ⟨hg.ns j hj, by have := hg.loc; omega⟩
  have p := fun r hr => hσ.2.2.2 r hr
  refine ⟨⟨a1, ?_, ?_, ?_, ?_, ?_, ?_, ?_⟩, ⟨L, b1, ?_, ?_, ?_⟩, ?_, ?_, hD', hS'⟩
  · rw [q28.1]; exact a2
  · rw [hσ.2.1]; exact a3
  · rw [hσ.2.2.1]; exact a4
  · rw [q53.1]; exact a5
  · rw [q53.1]; exact a6
  · rw [q53.1]; exact a7
  · rw [q73.2.2.2.2]; exact a8
  · rw [q29.1]; exact b2
  · rw [hσ.1]; exact b3
  · rw [q30.2.1, p 215 (by omega)]; exact b4
  · intro k hk
    obtain ⟨a, l, m, c1, c2⟩ := hR k hk
    have hl := c2.rv.loc
    refine ⟨a, l, m, by rw [q60.2.2.2.2]; exact c1, ?_⟩
    refine c2.ext c2.rv hT ⟨c2.rv.ns 0 (by decide) (by decide), by omega⟩ (fun j h2 h7 => ⟨c2.rv.ns j h7 (by omega), by omega⟩) ?_ ?_ ?_ ?_
    · rw [p 218 (by omega)]
    · intro i _; rw [p 216 (by omega), p 217 (by omega)]; exact ⟨rfl, rfl⟩
    · intro i _; rw [p 219 (by omega), p 220 (by omega), p 221 (by omega), p 223 (by omega)]; exact ⟨rfl, rfl, rfl, rfl⟩
    · intro i k w _ st; rw [p 216 (by omega), p 217 (by omega)]
  · intro k hk
    rcases hI k hk with ⟨c1, c2⟩ | ⟨c1, a, c2, c3, c4, c5⟩
    · left
      rw [q73.2.2.2.2, p 241 (by omega)]
      exact ⟨c1, c2⟩
    · right
      rw [q73.2.2.2.2, p 241 (by omega), hσ.im]
      exact ⟨c1, a, c2, c3, c4.ext c4.sv c4.la.gv hT (fun j hj => ⟨c4.sv.ns (by omega) j hj, by omega⟩) (gn c4.la.gv), c5⟩
/-- an act or the like: only the school changes -/
theorem OpR.s {α : Type} {F G : Mm → Option (α × Mm)} (h : ∀ (n sl : Nat) (U : Nat → va_E) (S : Nat → Nat × Nat × Nat) (T : Tc) (σ : Sg) (nr : Nat), REL n S T σ nr → ∃ (v : α) (T' : Tc) (σ' : Sg), F (cn n sl U S T σ) = some (v, cn n sl U S T' σ) ∧ (∀ ρ τ, G (mem ρ τ σ) = some (v, mem ρ τ σ')) ∧ REL n S T' σ' nr) : OpR F G := by
  intro n sl U S T σ nr hR
  obtain ⟨v, T', σ', h1, h3, h4⟩ := h n sl U S T σ nr hR
  exact ⟨v, n, sl, U, S, T', σ', nr, h1, h3 _ _, h4, by omega, by omega⟩
theorem isN_of {x : Int32} {n : Nat} (hn : n < 2 ^ 31) (h : isN x n) : ∃ j, j < n ∧ x = nI j := (isN_iff hn).1 h
theorem isN_n {x : Int32} {m : Int32} {n : Nat} (hm : m = nI n) : (¬ x < 0 ∧ ¬ m ≤ x) ↔ isN x n := by
  subst hm
  unfold isN
  rw [i32lt, i32le, i32le, i32lt]
  have : (0 : Int32).toInt = 0 := rfl
  omega
section SIMPLE
variable {n sl nr : Nat} {U : Nat → va_E} {S : Nat → Nat × Nat × Nat} {T : Tc} {σ : Sg} {ρ : Mm} {τ : Nat → va_E} {D : Dt}
theorem c_isPerson (hS : SR n S T 161 D) (hD : DG nr D) (x : Int32) : f_X11_isPerson (cn n sl U S T σ) 128 x = some (if isN x (dN D 2) then (1 : Int32) else 0, cn n sl U S T σ) := by
  have hv := hS.la.gv
  have hsv := hS.sv
  unfold f_X11_isPerson
  simp only [x128_6, s0_0 hsv, g0_6 hv, Option.bind_some, hS.la.pe, ↓z01, ↓z11]
  have e := isN_n (x := x) hD.sP
  by_cases h1 : x < 0
  · rw [if_pos h1, if_neg (fun h => (e.2 h).1 h1)]
  · rw [if_neg h1]
    by_cases h2 : D 189 2 ≤ x
    · rw [if_pos h2, if_neg (fun h => (e.2 h).2 h2)]
    · rw [if_neg h2, if_pos (e.1 ⟨h1, h2⟩)]
theorem c_isThing (hS : SR n S T 161 D) (hD : DG nr D) (x : Int32) : f_X11_isThing (cn n sl U S T σ) 128 x = some (if isN x (dN D 3) then (1 : Int32) else 0, cn n sl U S T σ) := by
  have hv := hS.la.gv
  have hsv := hS.sv
  unfold f_X11_isThing
  simp only [x128_6, s0_0 hsv, g0_9 hv, Option.bind_some, hS.la.th, ↓z01, ↓z11]
  have e := isN_n (x := x) hD.sT
  by_cases h1 : x < 0
  · rw [if_pos h1, if_neg (fun h => (e.2 h).1 h1)]
  · rw [if_neg h1]
    by_cases h2 : D 189 3 ≤ x
    · rw [if_pos h2, if_neg (fun h => (e.2 h).2 h2)]
    · rw [if_neg h2, if_pos (e.1 ⟨h1, h2⟩)]
theorem c_isCell (hS : SR n S T 161 D) (x : Int32) : f_X11_isCell (cn n sl U S T σ) 128 x = some (if isN x (nc D) then (1 : Int32) else 0, cn n sl U S T σ) := by
  have hv := hS.la.gv
  have hsv := hS.sv
  unfold f_X11_isCell
  simp only [x128_6, s0_0 hsv, g0_2 hv, Option.bind_some, hS.la.cg.2.2.1, ↓z01, ↓z11]
  have e := isN_n (x := x) (n := nc D) rfl
  by_cases h1 : x < 0
  · rw [if_pos h1, if_neg (fun h => (e.2 h).1 h1)]
  · rw [if_neg h1]
    by_cases h2 : nI (dN D 0 * dN D 1) ≤ x
    · rw [if_pos h2, if_neg (fun h => (e.2 h).2 h2)]
    · rw [if_neg h2, if_pos (e.1 ⟨h1, h2⟩)]
theorem s_isPerson (hD : DG nr (cur σ)) (x : Int32) : f_X12_isPerson (mem ρ τ σ) 188 x = some (if isN x (dN (cur σ) 2) then (1 : Int32) else 0, mem ρ τ σ) := by
  have := hD.bP
  unfold f_X12_isPerson
  simp only [mR_1, sc_2, Option.bind_some, cs_2, bd_some, s_in, hD.sP]
  rw [zb (fun v => (v, mem ρ τ σ))]
  simp only [in_n (show dN (cur σ) 2 < 2 ^ 31 by omega)]
theorem s_isThing (hD : DG nr (cur σ)) (x : Int32) : f_X12_isThing (mem ρ τ σ) 188 x = some (if isN x (dN (cur σ) 3) then (1 : Int32) else 0, mem ρ τ σ) := by
  have := hD.bT
  unfold f_X12_isThing
  simp only [mR_1, sc_3, Option.bind_some, cs_3, bd_some, s_in, hD.sT]
  rw [zb (fun v => (v, mem ρ τ σ))]
  simp only [in_n (show dN (cur σ) 3 < 2 ^ 31 by omega)]
theorem s_isC (hD : DG nr (cur σ)) (x : Int32) : f_X12_isCell (mem ρ τ σ) 188 x = some (if isN x (nc (cur σ)) then (1 : Int32) else 0, mem ρ τ σ) := s_isCell hD.mg hD.n48 x
end SIMPLE
theorem i10 : ((1 : Int32) = 0) = False := eq_false (by decide)
theorem i00 : ((0 : Int32) = 0) = True := eq_true rfl
theorem op_person (q w : Int32) : OpR (fun μ => f_X11_person μ 128 q w) (fun μ => f_X12_person μ 188 q w) := by
  refine OpR.q0 fun n sl U S T σ nr hR => ?_
  obtain ⟨hN, hTP, hRU, hIM, hD, hS⟩ := hR
  have b := hD.bP
  have hv := hS.la.gv
  have hsv := hS.sv
  unfold f_X11_person f_X12_person
  simp only [x128_o, x128_6, Option.bind_some, bd_some, c_isPerson hS hD, s_isPerson hD, ob_mem, mR_3, mR_4, s0_0 hsv, s0_4 hsv, g0_8 hv]
  by_cases hq : isN q (dN (cur σ) 2)
  · obtain ⟨j, hj, rfl⟩ := isN_of (by omega) hq
    simp only [if_pos hq, i10, ↓reduceIte, y191_r (show j < 5 by omega), y192_r (show j < 5 by omega), s1_r hsv (show j < 5 by omega), g4_r hv (show j < 5 by omega), Option.bind_some, hS.pc j hj, hS.la.so j hj, cu_191 (show j < 5 by omega), cu_192 (show j < 5 by omega)]
    by_cases h0 : w = 0
    · simp only [if_pos h0]; exact ⟨_, rfl, fun _ _ => rfl⟩
    · by_cases h1 : w = 1
      · simp only [if_neg h0, if_pos h1]; exact ⟨_, rfl, fun _ _ => rfl⟩
      · simp only [if_neg h0, if_neg h1]; exact ⟨_, rfl, fun _ _ => rfl⟩
  · simp only [if_neg hq, ↓reduceIte]; exact ⟨_, rfl, fun _ _ => rfl⟩
