/-! Rules: one rule more. -/
theorem DG.up {nr : Nat} {D : Dt} (h : DG nr D) : DG (nr + 1) D := by
  obtain ⟨a1, a2, a3, a4, a5, a6, a7, a8, a9, a10, a11, a12, a13, a14, a15, a16, a17, a18, a19, a20, a21, a22, a23, a24, a25, a26, a27, a28, a29, a30, a31, a32, a33, a34, a35, h⟩ := h
  refine ⟨a1, a2, a3, a4, a5, a6, a7, a8, a9, a10, a11, a12, a13, a14, a15, a16, a17, a18, a19, a20, a21, a22, a23, a24, a25, a26, a27, a28, a29, a30, a31, a32, a33, a34, a35, ?_⟩
  rcases h with h | ⟨j, h1, h2⟩
  · exact .inl h
  · exact .inr ⟨j, by omega, h2⟩
theorem evl_cong {so nu so' nu' : Nat → Int32} {w : Nat → Int64} : ∀ (k i : Nat) (st : List Int64), (∀ j, i ≤ j → j < i + k → so' j = so j ∧ nu' j = nu j) → evl so' nu' w i k st = evl so nu w i k st
  | 0, _, _, _ => rfl
  | k + 1, i, st, h => by
    rw [evl_s, evl_s, (h i (by omega) (by omega)).1, (h i (by omega) (by omega)).2]
    cases ev1 (so i) (nu i) w st with
    | none => rfl
    | some st' => exact evl_cong k (i + 1) st' (fun j h1 h2 => h j (by omega) (by omega))
theorem evl_L {so nu : Nat → Int32} {w : Nat → Int64} {es : List (Nat × Nat)} (he : ∀ j, j < es.length → so j = nI (es.getD j (0, 0)).1 ∧ nu j = nI (es.getD j (0, 0)).2) : ∀ (k i : Nat) (st : List Int64), i + k ≤ es.length → evl so nu w i k st = evL w ((es.drop i).take k) st
  | 0, i, st, _ => by rw [List.take_zero]; rfl
  | k + 1, i, st, h => by
    have hi : i < es.length := by omega
    have e : es.getD i (0, 0) = es[i] := by rw [List.getD_eq_getElem?_getD, List.getElem?_eq_getElem hi]; rfl
    rw [List.drop_eq_getElem_cons hi, List.take_succ_cons, evl_s, (he i hi).1, (he i hi).2, e]
    show _ = (ev1 (nI es[i].1) (nI es[i].2) w st).bind (evL w ((es.drop (i + 1)).take k))
    cases ev1 (nI es[i].1) (nI es[i].2) w st with
    | none => rfl
    | some st' => exact evl_L he k (i + 1) st' (by omega)
theorem REL.rl {n nr : Nat} {S : Nat → Nat × Nat × Nat} {T : Tc} {σ σ' : Sg} (h : REL n S T σ nr) (h1 : ∀ k, k = 28 ∨ k = 32 ∨ k = 37 ∨ k = 55 → σ'.1 k = σ.1 k) (h2 : ∀ r, (189 ≤ r ∧ r ≤ 202) ∨ r = 215 ∨ r = 226 ∨ r = 240 ∨ r = 241 → σ'.2.1 r = σ.2.1 r) (h3 : ∀ k, k < nr → σ'.2.1 218 k = σ.2.1 218 k) (h4 : ∀ i, i < 300 * nr → σ'.2.1 216 i = σ.2.1 216 i ∧ σ'.2.1 217 i = σ.2.1 217 i) (h5 : ∀ i, i < 12 * nr → σ'.2.1 219 i = σ.2.1 219 i ∧ σ'.2.1 220 i = σ.2.1 220 i ∧ σ'.2.1 221 i = σ.2.1 221 i ∧ σ'.2.1 223 i = σ.2.1 223 i) : REL n S T σ' nr := by
  obtain ⟨⟨a1, a2, a3, a4, a5, a6, a7, a8⟩, ⟨L, b1, b2, b3, b4⟩, hR, hI, hD, hS⟩ := h
  have ec : cur σ' = cur σ := by
    funext r i
    unfold cur
    by_cases c1 : i < dlen r
    · rw [if_pos c1, if_pos c1]
      by_cases c2 : r = 0
      · rw [if_pos c2, if_pos c2, h1 55 (by omega)]
      · rw [if_neg c2, if_neg c2]
        by_cases c3 : r = 226 ∨ 189 ≤ r ∧ r ≤ 202
        · rw [h2 r (by omega)]
        · exfalso
          unfold dlen at c1
          rw [if_neg c2, if_neg (by omega), if_neg (by omega)] at c1
          omega
    · rw [if_neg c1, if_neg c1]
  have ei : ∀ k, img σ' k = img σ k := by
    intro k; funext r i; unfold img; rw [h2 240 (by omega)]
  refine ⟨⟨a1, a2, by rw [h1 32 (by omega)]; exact a3, by rw [h1 37 (by omega)]; exact a4, a5, a6, a7, a8⟩, ⟨L, b1, b2, by rw [h1 28 (by omega)]; exact b3, by rw [h2 215 (by omega)]; exact b4⟩, ?_, ?_, ?_, ?_⟩
  · intro k hk
    obtain ⟨a, l, m, c1, c2⟩ := hR k hk
    have k3 : 300 * k + 300 ≤ 300 * nr := by omega
    have k12 : 12 * k + 12 ≤ 12 * nr := by omega
    refine ⟨a, l, m, c1, c2.ext c2.rv (agr.refl (fun _ => True) T) trivial (fun _ _ _ => trivial) (h3 k hk) (fun i hi => h4 _ (by omega)) (fun c hc => h5 _ (by omega)) (fun i j w hij st => ?_)⟩
    exact evl_cong j i st (fun x x1 x2 => h4 _ (by omega))
  · intro k hk
    rcases hI k hk with ⟨c1, c2⟩ | ⟨c1, a, c2, c3, c4, c5⟩
    · left
      rw [h2 241 (by omega)]
      exact ⟨c1, c2⟩
    · right
      rw [h2 241 (by omega), ei]
      exact ⟨c1, a, c2, c3, c4, c5⟩
  · rw [ec]; exact hD
  · rw [ec]; exact hS
theorem REL.add {n nr a l m : Nat} {S : Nat → Nat × Nat × Nat} {T T' : Tc} {σ σ' : Sg} (h : REL n S T σ nr) (h6 : nr < 6) (hT : agr (fun r => r ≠ 128 ∧ r ≠ 160) T T') (h128 : T'.1 128 5 = nI (nr + 1)) (h160o : ∀ k, k < nr → T'.2.2.2.2 160 k = T.2.2.2.2 160 k) (h160 : T'.2.2.2.2 160 nr = some a) (hr : RR n S T' a σ' nr l m) (s1 : ∀ k, k = 28 ∨ k = 37 ∨ k = 55 → σ'.1 k = σ.1 k) (s32 : σ'.1 32 = nI (nr + 1)) (s2 : σ'.2 = σ.2) : REL n S T' σ' (nr + 1) := by
  obtain ⟨⟨a1, a2, a3, a4, a5, a6, a7, a8⟩, ⟨L, b1, b2, b3, b4⟩, hR, hI, hD, hS⟩ := h
  have q53 := hT 153 (by omega)
  have q73 := hT 173 (by omega)
  have q29 := hT 129 (by omega)
  have q30 := hT 130 (by omega)
  have ec : cur σ' = cur σ := by
    funext r i
    unfold cur
    rw [s1 55 (by omega), s2]
  have ei : ∀ k, img σ' k = img σ k := by
    intro k; funext r i; unfold img; rw [s2]
  refine ⟨⟨by omega, h128, s32, by rw [s1 37 (by omega)]; exact a4, by rw [q53.1]; exact a5, by rw [q53.1]; exact a6, by rw [q53.1]; exact a7, by rw [q73.2.2.2.2]; exact a8⟩, ⟨L, b1, by rw [q29.1]; exact b2, by rw [s1 28 (by omega)]; exact b3, by rw [q30.2.1, s2]; exact b4⟩, ?_, ?_, ?_, ?_⟩
  · intro k hk
    by_cases e : k = nr
    · subst e
      exact ⟨a, l, m, h160, hr⟩
    · obtain ⟨a', l', m', c1, c2⟩ := hR k (by omega)
      have loc := c2.rv.loc
      exact ⟨a', l', m', by rw [h160o k (by omega)]; exact c1, c2.ext c2.rv hT (by omega) (fun j j2 j7 => by omega) (by rw [s2]) (fun i _ => by rw [s2]; exact ⟨rfl, rfl⟩) (fun i _ => by rw [s2]; exact ⟨rfl, rfl, rfl, rfl⟩) (fun i k w _ st => by rw [s2])⟩
  · intro k hk
    rcases hI k hk with ⟨c1, c2⟩ | ⟨c1, a, c2, c3, c4, c5⟩
    · left
      rw [q73.2.2.2.2, s2]
      exact ⟨c1, c2⟩
    · right
      have loc := c4.la.gv.loc
      rw [q73.2.2.2.2, s2, ei]
      exact ⟨c1, a, c2, c3, c4.ext c4.sv c4.la.gv hT (fun j hj => by omega) (fun j hj => by omega), c5.up⟩
  · rw [ec]; exact hD.up
  · rw [ec]
    have loc := hS.la.gv.loc
    exact hS.ext hS.sv hS.la.gv hT (fun j hj => by omega) (fun j hj => by omega)
/-! what a rule tells -/
def anyK (T : Tc) (a i v : Nat) : Int32 := if (∃ c, c < i ∧ T.2.1 (a + 3) c = nI v) then nI 1 else nI 0
theorem anyK_s (T : Tc) (a i v : Nat) : anyK T a (i + 1) v = if T.2.1 (a + 3) i = nI v then nI 1 else anyK T a i v := by
  unfold anyK
  by_cases h : T.2.1 (a + 3) i = nI v
  · rw [if_pos h, if_pos ⟨i, by omega, h⟩]
  · rw [if_neg h]
    by_cases h2 : ∃ c, c < i ∧ T.2.1 (a + 3) c = nI v
    · rw [if_pos h2, if_pos (h2.elim fun c hc => ⟨c, by omega, hc.2⟩)]
    · rw [if_neg h2, if_neg (fun ⟨c, c1, c2⟩ => by
        by_cases e : c = i
        · rw [e] at c2; exact h c2
        · exact h2 ⟨c, by omega, c2⟩)]
theorem anyK_01 (T : Tc) (a i v : Nat) : anyK T a i v = 0 ∨ anyK T a i v = 1 := by
  unfold anyK
  split
  · exact .inr rfl
  · exact .inl rfl
section TELL
variable {n sl a l m : Nat} {U : Nat → va_E} {S : Nat → Nat × Nat × Nat} {T : Tc} {σ : Sg}
theorem c_tells (hR : RV n S a l m) (hm : m ≤ 12) (h1 : T.1 a 1 = nI m) (hk : ∀ c, c < m → T.2.1 (a + 3) c = nI 0 ∨ T.2.1 (a + 3) c = nI 1) (K : Mm → Nat → Int32 → Int32 → Option Mm) : ∀ (k i f : Nat), i + k = m → k < f → f_X5_init_L102 K f (cn n sl U S T σ) a (anyK T a i 0) (anyK T a i 1) (nI i) = K (cn n sl U S T σ) a (anyK T a m 0) (anyK T a m 1) := by
  intro k
  induction k with
  | zero =>
    intro i f h2 h3
    obtain ⟨f, rfl⟩ : ∃ k, f = k + 1 := ⟨f - 1, by omega⟩
    obtain rfl : i = m := by omega
    rw [f_X5_init_L102, r0_1 hR, Option.bind_some, h1, if_pos (Int32.le_refl _)]
  | succ k ih =>
    intro i f h2 h3
    obtain ⟨f, rfl⟩ : ∃ k, f = k + 1 := ⟨f - 1, by omega⟩
    have hi : i < m := by omega
    have o1 : ∀ x : Int32, (x = 0 ∨ x = 1) → x ||| 1 = nI 1 := by rintro x (rfl | rfl) <;> decide
    have o0 : ∀ x : Int32, (x = 0 ∨ x = 1) → x ||| 0 = x := by rintro x (rfl | rfl) <;> decide
    have z := ih (i + 1) f (by omega) (by omega)
    rw [anyK_s, anyK_s] at z
    rw [f_X5_init_L102, r0_1 hR, Option.bind_some, h1, if_neg (show ¬ nI m ≤ nI i from nI_ge hi (by omega)), r0_2 hR, Option.bind_some, r3_r hR (by omega) hi, Option.bind_some]
    rcases hk i hi with e | e
    · rw [e, if_pos rfl, if_neg (show ¬ nI 0 = nI 1 by decide)] at z
      rw [e, if_pos (show nI 0 = 0 from rfl), nm_q, Option.bind_some, r3_r hR (by omega) hi, Option.bind_some, e, if_neg (show ¬ nI 0 = 1 by decide), nm_q, oin1, nI_add, nm_q, o1 _ (anyK_01 _ _ _ _), o0 _ (anyK_01 _ _ _ _)]
      exact z
    · rw [e, if_neg (show ¬ nI 1 = nI 0 by decide), if_pos rfl] at z
      rw [e, if_neg (show ¬ nI 1 = 0 by decide), nm_q, Option.bind_some, r3_r hR (by omega) hi, Option.bind_some, e, if_pos (show nI 1 = 1 from rfl), nm_q, oin1, nI_add, nm_q, o1 _ (anyK_01 _ _ _ _), o0 _ (anyK_01 _ _ _ _)]
      exact z
end TELL
theorem f_ini_e (μ : Mm) (a b : Nat) : f_X5_init μ a b = f_ini μ a b (fun μ32 => f_X5_init_L102 (fun μ57 a58 x59 x60 =>
    ((pZ μ57 a58 5 6 x59).bind fun μ61 =>
    ((pZ μ61 a58 5 7 x60).bind fun μ62 =>
    (some μ62)))) FU μ32 a 0 0 0) := rfl
