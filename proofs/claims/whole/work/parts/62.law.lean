/-! What a rule says, on both sides. -/
theorem stL3r (σ : Sg) (r k : Nat) (v : Int64) : (stL σ r k v).2.2 r = vp_updL (σ.2.2 r) k v := by
  show va_up σ.2.2 r (vp_updL (σ.2.2 r) k v) r = _
  rw [va_up_self]
theorem stL3n (σ : Sg) {r q : Nat} (k : Nat) (v : Int64) (h : q ≠ r) : (stL σ r k v).2.2 q = σ.2.2 q := by
  show va_up σ.2.2 r (vp_updL (σ.2.2 r) k v) q = _
  rw [va_up_ne _ _ h]
/-- only the stack changes -/
def Stk (σ σ' : Sg) : Prop := σ'.1 = σ.1 ∧ σ'.2.1 = σ.2.1 ∧ ∀ r, r ≠ 225 → σ'.2.2 r = σ.2.2 r
theorem Stk.refl (σ : Sg) : Stk σ σ := ⟨rfl, rfl, fun _ _ => rfl⟩
theorem Stk.trans {a b c : Sg} (h : Stk a b) (h' : Stk b c) : Stk a c := ⟨h'.1.trans h.1, h'.2.1.trans h.2.1, fun r hr => (h'.2.2 r hr).trans (h.2.2 r hr)⟩
theorem Stk.st (σ : Sg) (i : Nat) (v : Int64) : Stk σ (stL σ 225 i v) := ⟨rfl, rfl, fun _ h => stL3n σ i v h⟩
theorem s_ansL {r z : Nat} (hr6 : r < 6) (hz : z ≤ 300) {so nu : Nat → Int32} {w : Nat → Int64} (K : Mm → Nat → Option (Int64 × Mm)) : ∀ (k i : Nat) (σ : Sg) (st st' : List Int64) (f : Nat), i + k = z → k < f → (∀ i, i < z → σ.2.1 216 (300 * r + i) = so i ∧ σ.2.1 217 (300 * r + i) = nu i ∧ entOk (so i) (nu i)) → (∀ i, i < 12 → σ.2.2 224 i = w i) → rp (σ.2.2 225) st → st.length ≤ 31 → evl so nu w i k st = some st' → ∃ σ', (∀ ρ τ, f_X12_answer_L6 K f (mem ρ τ σ) 188 (nI r) (nI z) (nI st.length) (nI i) = K (mem ρ τ σ') 188) ∧ rp (σ'.2.2 225) st' ∧ Stk σ σ' := by
  intro k
  induction k with
  | zero =>
    intro i σ st st' f h1 h2 hco hw hr hs he
    obtain ⟨f, rfl⟩ : ∃ k, f = k + 1 := ⟨f - 1, by omega⟩
    cases he
    refine ⟨σ, fun ρ τ => ?_, hr, Stk.refl _⟩
    rw [f_X12_answer_L6, if_pos (nI_le (by omega) (by omega))]
  | succ k ih =>
    intro i σ st st' f h1 h2 hco hw hr hs he
    obtain ⟨f, rfl⟩ : ∃ k, f = k + 1 := ⟨f - 1, by omega⟩
    rw [evl_s] at he
    obtain ⟨s1, he1, he2⟩ := bindS he
    obtain ⟨hc0, hc1, hc2⟩ := hco i (by omega)
    have fin : ∀ (i' : Nat) (v : Int64), rp ((stL σ 225 i' v).2.2 225) s1 → s1.length ≤ 31 → ∃ σ', (∀ ρ τ, f_X12_answer_L6 K f (mem ρ τ (stL σ 225 i' v)) 188 (nI r) (nI z) (nI s1.length) (nI (i + 1)) = K (mem ρ τ σ') 188) ∧ rp (σ'.2.2 225) st' ∧ Stk σ σ' := by
      intro i' v hr' hs'
      obtain ⟨σ', q1, q2, q3⟩ := ih (i + 1) (stL σ 225 i' v) s1 st' f (by omega) (by omega) hco (fun i hi => by rw [stL3n _ _ _ (by decide)]; exact hw i hi) hr' hs' he2
      exact ⟨σ', q1, q2, (Stk.st σ i' v).trans q3⟩
    have e300 : ∀ ρ τ, aI (mem ρ τ σ) 216 0 ((300 : Int32) * nI r + nI i) = some (so i) ∧ aI (mem ρ τ σ) 217 0 ((300 : Int32) * nI r + nI i) = some (nu i) := by
      intro ρ τ
      rw [lit_300, pk_mul, nI_add, y216_r (by omega), y217_r (by omega), hc0, hc1]
      exact ⟨rfl, rfl⟩
    rcases hc2 with ⟨e1, j, hj, e2⟩ | ⟨e1, j, hj, e2⟩ | ⟨j, hj1, hj2, hj3, e1⟩
    · rw [e1, e2] at he1
      simp only [ev1, true_or, ↓reduceIte] at he1
      by_cases hlt : st.length < 31
      · rw [if_pos hlt] at he1
        cases he1
        obtain ⟨σ', q1, q2⟩ := fin st.length (nI j).toInt64 (by rw [stL3r]; exact rp_push hr) (by show st.length + 1 ≤ 31; omega)
        refine ⟨σ', fun ρ τ => ?_, q2⟩
        rw [f_X12_answer_L6, if_neg (nI_ge (show i < z by omega) (by omega))]
        simp only [mR_39, mR_40, mR_47, mR_48, Option.bind_some, (e300 ρ τ).1, (e300 ρ τ).2, nm, oin1, oinm1, nI_add]
        simp only [e1, e2, ↓reduceIte]
        rw [y225_w (by omega)]
        simp only [Option.bind_some]
        exact q1 ρ τ
      · rw [if_neg hlt] at he1; cases he1
    · rw [e1, e2] at he1
      have e10 : ¬ (1 : Int32) = 0 := by decide
      simp only [ev1, or_true, ↓reduceIte, e10] at he1
      by_cases hlt : st.length < 31
      · rw [if_pos hlt] at he1
        cases he1
        obtain ⟨σ', q1, q2⟩ := fin st.length (w j) (by rw [stL3r, nI_clamp (by omega)]; exact rp_push hr) (by show st.length + 1 ≤ 31; omega)
        refine ⟨σ', fun ρ τ => ?_, q2⟩
        rw [f_X12_answer_L6, if_neg (nI_ge (show i < z by omega) (by omega))]
        simp only [mR_39, mR_40, mR_47, mR_48, Option.bind_some, (e300 ρ τ).1, (e300 ρ τ).2, nm, oin1, oinm1, nI_add]
        simp only [e1, e2, e10, ↓reduceIte]
        rw [y224_r hj]
        simp only [Option.bind_some]
        rw [y225_w (by omega), hw j hj]
        simp only [Option.bind_some]
        exact q1 ρ τ
      · rw [if_neg hlt] at he1; cases he1
    · rw [e1] at he1
      have en0 : ¬ nI j = 0 := nI_ne0 (by omega) (by omega)
      have en1 : ¬ nI j = 1 := fun h => by have := (nI_eq (show j < 2 ^ 31 by omega) (show 1 < 2 ^ 31 by decide)).1 h; omega
      unfold ev1 at he1
      rw [if_neg (fun h => h.elim en0 en1)] at he1
      by_cases h9 : j = 9
      · subst h9
        rw [if_pos (show nI 9 = (9 : Int32) from rfl)] at he1
        cases st with
        | nil => cases he1
        | cons x t =>
          cases he1
          have hs : t.length + 1 ≤ 31 := hs
          obtain ⟨σ', q1, q2⟩ := fin t.length (1 - x) (by rw [stL3r]; exact rp_push hr.2) hs
          refine ⟨σ', fun ρ τ => ?_, q2⟩
          rw [f_X12_answer_L6, if_neg (nI_ge (show i < z by omega) (by omega))]
          simp only [mR_39, mR_40, mR_47, mR_48, Option.bind_some, (e300 ρ τ).1, (e300 ρ τ).2, nm, oin1, oinm1, nI_add]
          simp only [e1]
          rw [if_neg en0, if_neg en1, if_pos (show nI 9 = (9 : Int32) from rfl), show nI (List.length (x :: t)) - 1 = nI t.length from nI_pred _, y225_r (by omega)]
          simp only [Option.bind_some]
          rw [y225_w (by omega), hr.1]
          simp only [Option.bind_some]
          exact q1 ρ τ
      · have h9' : ¬ nI j = 9 := (fun h => h9 ((nI_eq (show j < 2 ^ 31 by omega) (show 9 < 2 ^ 31 by decide)).1 h))
        rw [if_neg h9'] at he1
        cases st with
        | nil => cases he1
        | cons b t =>
          cases t with
          | nil => cases he1
          | cons x t =>
            cases he1
            have hs : t.length + 1 + 1 ≤ 31 := hs
            obtain ⟨σ', q1, q2⟩ := fin t.length (bth (nI j) x b) (by rw [stL3r]; exact rp_push hr.2.2) (by show t.length + 1 ≤ 31; omega)
            refine ⟨σ', fun ρ τ => ?_, q2⟩
            rw [f_X12_answer_L6, if_neg (nI_ge (show i < z by omega) (by omega))]
            simp only [mR_39, mR_40, mR_47, mR_48, Option.bind_some, (e300 ρ τ).1, (e300 ρ τ).2, nm, oin1, oinm1, nI_add]
            have e2 : nI (List.length (b :: x :: t)) + mo = nI (t.length + 1) := nI_pm _
            simp only [e1]
            rw [if_neg en0, if_neg en1, if_neg h9', e2, nI_pred, y225_r (by omega), y225_r (by omega)]
            simp only [Option.bind_some]
            rw [s_both _ hj1 hj2 hj3 h9]
            simp only [bd_some]
            rw [y225_w (by omega), hr.2.1, show σ.2.2 225 (t.length + 1) = b from hr.1]
            simp only [Option.bind_some]
            exact q1 ρ τ
theorem RR.oth {n : Nat} {S : Nat → Nat × Nat × Nat} {T T' : Tc} {σ : Sg} {a r l m : Nat} (h : RR n S T a σ r l m) (ha : agr (Oth (a + 1)) T T') : RR n S T' a σ r l m := h.ext h.rv ha (by show a ≠ a + 1; omega) (fun j h1 h2 => by show a + j ≠ a + 1; omega) rfl (fun _ _ => ⟨rfl, rfl⟩) (fun _ _ => ⟨rfl, rfl, rfl, rfl⟩) (fun _ _ _ _ _ => rfl)
theorem RR.sg {n : Nat} {S : Nat → Nat × Nat × Nat} {T : Tc} {σ σ' : Sg} {a r l m : Nat} (h : RR n S T a σ r l m) (hs : σ'.2.1 = σ.2.1) : RR n S T a σ' r l m := by
  unfold RR at h ⊢
  rw [hs]; exact h
abbrev rSo (σ : Sg) (r : Nat) : Nat → Int32 := fun i => σ.2.1 216 (300 * r + i)
abbrev rNu (σ : Sg) (r : Nat) : Nat → Int32 := fun i => σ.2.1 217 (300 * r + i)
/-- the class has the words w, the reference too -/
def Wds (T : Tc) (σ : Sg) (w : Nat → Int32) : Prop := ∀ i, i < 12 → T.2.1 175 i = w i ∧ σ.2.2 224 i = (w i).toInt64
theorem c_worked {n sl a l m r x y : Nat} {U : Nat → va_E} {S : Nat → Nat × Nat × Nat} {T : Tc} {σ σ0 : Sg} {w : Nat → Int32} {v : Int64} (h : RR n S T a σ0 r l m) (hw : ∀ i, i < 12 → T.2.1 175 i = w i) (hx : x ≤ y) (hy : y ≤ l) (he : evl (rSo σ0 r) (rNu σ0 r) (fun i => (w i).toInt64) x (y - x) [] = some [v]) : ∃ T', f_X5_worked (cn n sl U S T σ) a (nI x) (nI y) 175 = some (v, cn n sl U S T' σ) ∧ agr (Oth (a + 1)) T T' := by
  have hl := h.l3
  unfold f_X5_worked
  simp only [nm]
  obtain ⟨T', q1, q2, q3⟩ := c_workL (n := n) (sl := sl) (U := U) (S := S) (σ := σ) h.rv hl (w := fun i => (w i).toInt64) (z := y) hy (fun μ43 a44 x45 =>
    (if x45 ≤ 0 then
    (some ((0 : Int64), μ43))
    else
    ((gR μ43 a44 5 8).bind fun v46 =>
    ((aL μ43 v46 3 (0 : Int32)).bind fun v47 =>
    (some (v47, μ43)))))) (y - x) x T [] [v] FU (by omega) (by unfold FU; omega) h.co (fun i hi => by rw [hw i hi]) trivial (by decide) he
  refine ⟨T', ?_, q3⟩
  rw [show nI ([] : List Int64).length = (0 : Int32) from rfl] at q1
  rw [q1]
  show (if nI 1 ≤ 0 then _ else _) = _
  rw [if_neg (show ¬ nI 1 ≤ 0 by decide), r0_8 h.rv]
  simp only [Option.bind_some]
  rw [lit_0, r1_r h.rv (by decide)]
  simp only [Option.bind_some]
  rw [show T'.2.2.1 (a + 1) 0 = v from q2.1]
theorem s_answer {n a l m r x y : Nat} {S : Nat → Nat × Nat × Nat} {T : Tc} {σ : Sg} {w : Nat → Int32} {v : Int64} (h : RR n S T a σ r l m) (hr6 : r < 6) (hw : ∀ i, i < 12 → σ.2.2 224 i = (w i).toInt64) (hx : x ≤ y) (hy : y ≤ l) (he : evl (rSo σ r) (rNu σ r) (fun i => (w i).toInt64) x (y - x) [] = some [v]) : ∃ σ', (∀ ρ τ, f_X12_answer (mem ρ τ σ) 188 (nI r) (nI x) (nI y) = some (v, mem ρ τ σ')) ∧ Stk σ σ' := by
  have hl := h.l3
  obtain ⟨σ', q1, q2, q3⟩ := s_ansL (r := r) (z := y) hr6 (by omega) (so := rSo σ r) (nu := rNu σ r) (w := fun i => (w i).toInt64) (fun μ51 a52 =>
    ((gR μ51 a52 12 48).bind fun v53 =>
    ((aL μ51 v53 3 (0 : Int32)).bind fun v54 =>
    (some (v54, μ51))))) (y - x) x σ [] [v] FU (by omega) (by unfold FU; omega) (fun i hi => ⟨rfl, rfl, (h.co i (by omega)).2⟩) hw trivial (by decide) he
  refine ⟨σ', fun ρ τ => ?_, q3⟩
  unfold f_X12_answer
  simp only [nm]
  have z := q1 ρ τ
  rw [show nI ([] : List Int64).length = (0 : Int32) from rfl] at z
  rw [z]
  simp only [mR_48, Option.bind_some]
  rw [lit_0, y225_r (by decide)]
  simp only [Option.bind_some]
  rw [show σ'.2.2 225 0 = v from q2.1]
/-- some k places from i on have p -/
def anyF (p : Nat → Bool) : Nat → Nat → Bool
  | _, 0 => false
  | i, k + 1 => p i || anyF p (i + 1) k
theorem anyF_iff (p : Nat → Bool) : ∀ (k i : Nat), anyF p i k = true ↔ ∃ c, i ≤ c ∧ c < i + k ∧ p c = true
  | 0, i => ⟨fun h => absurd h (by rw [anyF]; decide), fun ⟨c, h1, h2, _⟩ => absurd h2 (by omega)⟩
  | k + 1, i => by
    rw [anyF, Bool.or_eq_true, anyF_iff p k (i + 1)]
    constructor
    · rintro (h | ⟨c, h1, h2, h3⟩)
      · exact ⟨i, by omega, by omega, h⟩
      · exact ⟨c, by omega, by omega, h3⟩
    · rintro ⟨c, h1, h2, h3⟩
      by_cases hc : c = i
      · subst hc; exact .inl h3
      · exact .inr ⟨c, by omega, by omega, h3⟩
def evV (so nu : Nat → Int32) (w : Nat → Int64) (i k : Nat) : Int64 := match evl so nu w i k [] with
  | some [v] => v
  | _ => 0
theorem evV_of {so nu : Nat → Int32} {w : Nat → Int64} {i k : Nat} {v : Int64} (h : evl so nu w i k [] = some [v]) : evV so nu w i k = v := by unfold evV; rw [h]
abbrev rX (σ : Sg) (r c : Nat) : Nat := (σ.2.1 219 (12 * r + c)).toNatClampNeg
abbrev rY (σ : Sg) (r c : Nat) : Nat := (σ.2.1 220 (12 * r + c)).toNatClampNeg
abbrev rZ (σ : Sg) (r c : Nat) : Nat := (σ.2.1 221 (12 * r + c)).toNatClampNeg
def tstV (σ : Sg) (r : Nat) (w : Nat → Int32) (c : Nat) : Int64 := evV (rSo σ r) (rNu σ r) (fun i => (w i).toInt64) (rY σ r c) (rZ σ r c - rY σ r c)
def sumV (σ : Sg) (r : Nat) (w : Nat → Int32) (c : Nat) : Int64 := evV (rSo σ r) (rNu σ r) (fun i => (w i).toInt64) (rX σ r c) (rY σ r c - rX σ r c)
def kndB (σ : Sg) (r : Nat) (b : Int32) (c : Nat) : Bool := decide (σ.2.1 223 (12 * r + c) = b)
def brkB (σ : Sg) (r : Nat) (w : Nat → Int32) (c : Nat) : Bool := kndB σ r 1 c && decide (tstV σ r w c = 1)
def mrkB (σ : Sg) (r : Nat) (w : Nat → Int32) (c : Nat) : Bool := kndB σ r 0 c && (decide (rY σ r c = rZ σ r c) || decide (tstV σ r w c = 1))
def clp (v : Int64) : Int32 := if v < 0 then 0 else if 100 < v then 100 else v.toInt32
def mrkV (σ : Sg) (r : Nat) (w : Nat → Int32) : Nat → Nat → Int32
  | _, 0 => 0
  | c, k + 1 => if mrkB σ r w c then clp (sumV σ r w c) else mrkV σ r w (c + 1) k
/-- one clause, whole -/
theorem RR.one {n : Nat} {S : Nat → Nat × Nat × Nat} {T : Tc} {a : Nat} {σ : Sg} {r l m : Nat} (h : RR n S T a σ r l m) {c : Nat} (hc : c < m) : rX σ r c ≤ rY σ r c ∧ rY σ r c ≤ rZ σ r c ∧ rZ σ r c ≤ l ∧ T.2.1 (a + 4) c = nI (rX σ r c) ∧ σ.2.1 219 (12 * r + c) = nI (rX σ r c) ∧ T.2.1 (a + 5) c = nI (rY σ r c) ∧ σ.2.1 220 (12 * r + c) = nI (rY σ r c) ∧ T.2.1 (a + 6) c = nI (rZ σ r c) ∧ σ.2.1 221 (12 * r + c) = nI (rZ σ r c) ∧ (kndB σ r 0 c = true → ∀ w : Nat → Int32, evl (rSo σ r) (rNu σ r) (fun i => (w i).toInt64) (rX σ r c) (rY σ r c - rX σ r c) [] = some [sumV σ r w c]) ∧ (rY σ r c < rZ σ r c → ∀ w : Nat → Int32, (tstV σ r w c = 0 ∨ tstV σ r w c = 1) ∧ evl (rSo σ r) (rNu σ r) (fun i => (w i).toInt64) (rY σ r c) (rZ σ r c - rY σ r c) [] = some [tstV σ r w c]) ∧ (kndB σ r 1 c = true → rY σ r c < rZ σ r c) ∧ ((kndB σ r 1 c = true ∧ kndB σ r 0 c = false ∧ T.2.1 (a + 3) c = nI 0) ∨ (kndB σ r 1 c = false ∧ kndB σ r 0 c = true ∧ T.2.1 (a + 3) c = nI 1)) := by
  obtain ⟨x, y, z, h1, h2, h3, h4, h5, h6, h7, h8, h9, h10, h11, h12⟩ := h.pl c hc
  have hl := h.l3
  have ex : rX σ r c = x := by unfold rX; rw [h5, nI_clamp (by omega)]
  have ey : rY σ r c = y := by unfold rY; rw [h7, nI_clamp (by omega)]
  have ez : rZ σ r c = z := by unfold rZ; rw [h9, nI_clamp (by omega)]
  have hk : (kndB σ r 1 c = true ∧ kndB σ r 0 c = false ∧ T.2.1 (a + 3) c = nI 0) ∨ (kndB σ r 1 c = false ∧ kndB σ r 0 c = true ∧ T.2.1 (a + 3) c = nI 1) := by
    unfold kndB
    rcases h.ki c hc with ⟨k1, k2⟩ | ⟨k1, k2⟩
    · left; rw [k2, k1]; exact ⟨rfl, rfl, rfl⟩
    · right; rw [k2, k1]; exact ⟨rfl, rfl, rfl⟩
  unfold sumV tstV
  rw [ex, ey, ez]
  refine ⟨h1, h2, h3, h4, h5, h6, h7, h8, h9, fun hb w => ?_, fun hb w => ?_, fun hb => ?_, hk⟩
  · rcases hk with ⟨k1, k2, k3⟩ | ⟨k1, k2, k3⟩
    · rw [k2] at hb; cases hb
    · obtain ⟨v, hv⟩ := h10 k3 (fun i => (w i).toInt64)
      rw [evV_of hv]; exact hv
  · obtain ⟨v, hv0, hv⟩ := h11 hb (fun i => (w i).toInt64)
    rw [evV_of hv]; exact ⟨hv0, hv⟩
  · rcases hk with ⟨k1, k2, k3⟩ | ⟨k1, k2, k3⟩
    · exact h12 k3
    · rw [k1] at hb; cases hb
