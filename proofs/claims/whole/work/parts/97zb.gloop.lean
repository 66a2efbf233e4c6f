/-! Grounds: all clauses. -/
theorem DOK.hgt {d : Dr} (h : DOK d) {i v : Nat} (hv : v ≤ 9) : DOK (du d 1 i v) := by
  obtain ⟨a1, a2, a3, a4, a5, a6, a7, a8⟩ := h
  have s : ∀ k, du d 1 i v 0 k = d 0 k := fun k => if_neg (fun x => by omega)
  have r : ∀ j x, 2 ≤ j → du d 1 i v j x = d j x := fun j x h => if_neg (fun x => by omega)
  have hh : ∀ j, hiD (du d 1 i v) j = hiD d j := fun j => by unfold hiD; rw [s, s, s]
  refine ⟨by rw [s]; exact a1, by rw [s]; exact a2, by rw [s, s]; exact a3, by rw [s, s, s, s, s]; exact a4, fun c => ?_, fun j j2 j11 i hi => ?_, fun i hi => ?_, fun i j hi hj => ?_⟩
  · show (if 1 = 1 ∧ c = i then v else d 1 c) ≤ 9
    split
    · exact hv
    · exact a5 c
  · rw [s] at hi
    rw [r j i j2, hh]
    exact a6 j j2 j11 i hi
  · rw [s] at hi
    rw [r 9 i (by omega)]
    exact a7 i hi
  · rw [s] at hi hj
    rw [r 8 i (by omega), r 8 j (by omega)]
    exact a8 i j hi hj
theorem DOK.told {d : Dr} (h : DOK d) {v : Nat} (hv : v ≤ d 0 1) : DOK (du d 0 7 v) := by
  obtain ⟨a1, a2, a3, a4, a5, a6, a7, a8⟩ := h
  have s : ∀ k, k ≠ 7 → du d 0 7 v 0 k = d 0 k := fun k hk => if_neg (fun x => hk x.2)
  have s7 : du d 0 7 v 0 7 = v := if_pos ⟨rfl, rfl⟩
  have r : ∀ j x, 1 ≤ j → du d 0 7 v j x = d j x := fun j x h => if_neg (fun x => by omega)
  have hh : ∀ j, hiD (du d 0 7 v) j = hiD d j := fun j => by unfold hiD; rw [s 0 (by decide), s 1 (by decide), s 5 (by decide)]
  refine ⟨by rw [s 0 (by decide)]; exact a1, by rw [s 1 (by decide)]; exact a2, by rw [s7, s 1 (by decide)]; exact hv, by rw [s 2 (by decide), s 3 (by decide), s 4 (by decide), s 5 (by decide), s 6 (by decide)]; exact a4, fun c => ?_, fun j j2 j11 i hi => ?_, fun i hi => ?_, fun i j hi hj => ?_⟩
  · rw [r 1 c (by omega)]; exact a5 c
  · have := cx_b j
    rw [s _ (by omega)] at hi
    rw [r j i (by omega), hh]
    exact a6 j j2 j11 i hi
  · rw [s 5 (by decide)] at hi
    rw [r 9 i (by omega)]
    exact a7 i hi
  · rw [s 4 (by decide)] at hi hj
    rw [r 8 i (by omega), r 8 j (by omega)]
    exact a8 i j hi hj
section GLOOP
variable {L : Nat} {b : Nat → Nat}
theorem rowK_ok : ∀ {k c p : Nat} {d : Dr} {q : Nat} {d' : Dr}, rowK L b k c p d = .inr (q, d') → DOK d → p ≤ L → DOK d' ∧ q ≤ L ∧ d' 0 = d 0
  | 0, c, p, d, q, d', h, hd, hp => by
    rw [rowK] at h
    injection h with h
    injection h with h1 h2
    rw [← h1, ← h2]
    exact ⟨hd, hp, rfl⟩
  | k + 1, c, p, d, q, d', h, hd, hp => by
    rw [rowK] at h
    cases hD : tD L b p with
    | false => rw [hD, if_neg (by decide)] at h; cases h
    | true =>
      have hb := of_decide_eq_true hD
      rw [hD, if_pos rfl] at h
      obtain ⟨z1, z2, z3⟩ := rowK_ok h (hd.hgt (by omega)) (by omega)
      exact ⟨z1, z2, by rw [z3]; exact funext fun k => if_neg (fun x => by omega)⟩
theorem sb_ok {α β : Type} {x : Sum Nat α} {f : α → Sum Nat β} {y : β} (h : sb x f = .inr y) : ∃ a, x = .inr a ∧ f a = .inr y := by
  cases x with
  | inl e => cases h
  | inr a => exact ⟨a, rfl, h⟩
theorem gPart_ok {k p q : Nat} {d d' : Dr} (hk : k ≠ 0) (h6 : k ≤ 6) (hf : gFull d k = false) (h : gPart L b k p d = .inr (q, d')) (hd : DOK d) (hp : p ≤ L) : DOK d' ∧ q ≤ L := by
  unfold gFull at hf
  have hf := of_decide_eq_false hf
  have d0 := hd
  obtain ⟨a1, a2, a3, a4, -⟩ := d0
  unfold gPart at h
  rw [if_neg hk] at h
  have hk' : k = 1 ∨ k = 2 ∨ k = 3 ∨ k = 4 ∨ k = 5 ∨ k = 6 := by omega
  rcases hk' with e | e | e | e | e | e
  · rw [if_pos e] at h
    obtain ⟨a, x1, x2⟩ := sb_ok h
    obtain ⟨y1, y2, y3⟩ := rowK_ok (q := a.1) (d' := a.2) x1 hd (skp_le b hp)
    injection x2 with x2
    injection x2 with x3 x4
    rw [← x3, ← x4]
    exact ⟨y1.told (by rw [y3]; omega), y2⟩
  · rw [if_neg (by omega), if_pos e] at h
    obtain ⟨⟨v, r⟩, x1, x2⟩ := sb_ok h
    obtain ⟨⟨w, s⟩, y1, y2⟩ := sb_ok x2
    have A := amt_ok x1 hp
    have B := amt_ok y1 A.2.2
    injection y2 with y2
    injection y2 with y3 y4
    rw [← y3, ← y4]
    refine ⟨hd.add (by decide) (by decide) (by rw [if_pos rfl]; omega) (fun j j2 j11 hj => ?_) (fun h => by cases h) (fun h => by cases h), B.2.2⟩
    have k := (cx_i j2 j11).1.1 hj
    by_cases e2 : j = 2
    · rw [if_pos e2, e2]
      exact A.2.1
    · obtain rfl : j = 3 := by omega
      exact B.2.1
  · rw [if_neg (by omega), if_neg (by omega), if_pos e] at h
    obtain ⟨⟨v, r⟩, x1, x2⟩ := sb_ok h
    obtain ⟨⟨o, s⟩, y1, y2⟩ := sb_ok x2
    obtain ⟨⟨u, t⟩, z1, z2⟩ := sb_ok y2
    obtain ⟨⟨w, z⟩, w1, w2⟩ := sb_ok z2
    have A := amt_ok x1 hp
    have O : o < 10 ∧ s ≤ L := by
      obtain ⟨⟨o', s'⟩, p1, p2⟩ := sb_ok y1
      have B := amt_ok p1 A.2.2
      have p2' : (if o' ≠ 9 ∧ d 0 2 ≤ o' then .inl (1 + 8 * skp L b r + 1) else .inr (o', s') : Sum Nat (Nat × Nat)) = .inr (o, s) := p2
      by_cases c : o' ≠ 9 ∧ d 0 2 ≤ o'
      · rw [if_pos c] at p2'; cases p2'
      · rw [if_neg c] at p2'
        injection p2' with p2'
        injection p2' with p3 p4
        omega
    have B := amt_ok z1 O.2
    have C := amt_ok w1 B.2.2
    injection w2 with w2
    injection w2 with w3 w4
    rw [← w3, ← w4]
    refine ⟨hd.add (by decide) (by decide) (by rw [if_neg (by decide), if_pos rfl]; omega) (fun j j2 j11 hj => ?_) (fun h => by cases h) (fun h => by cases h), C.2.2⟩
    have k := (cx_i j2 j11).2.1.1 hj
    by_cases e4 : j = 4
    · rw [if_pos e4, e4]
      exact A.2.1
    · by_cases e5 : j = 5
      · rw [if_neg e4, if_pos e5, e5]
        exact O.1
      · by_cases e6 : j = 6
        · rw [if_neg e4, if_neg e5, if_pos e6, e6]
          exact B.2.1
        · obtain rfl : j = 7 := by omega
          exact C.2.1
  · rw [if_neg (by omega), if_neg (by omega), if_neg (by omega), if_pos e] at h
    obtain ⟨⟨v, r⟩, x1, x2⟩ := sb_ok h
    have A := amt_ok x1 hp
    have x2' : (if inN d v (d 0 4) = true then .inl (1 + 8 * skp L b p + 1) else .inr (r, rec_ d 4 (fun _ => v)) : Sum Nat (Nat × Dr)) = .inr (q, d') := x2
    by_cases c : inN d v (d 0 4) = true
    · rw [if_pos c] at x2'; cases x2'
    · rw [if_neg c] at x2'
      injection x2' with x2'
      injection x2' with y3 y4
      rw [← y3, ← y4]
      refine ⟨hd.add (by decide) (by decide) (by rw [if_neg (by decide), if_neg (by decide), if_pos rfl]; omega) (fun j j2 j11 hj => ?_) (fun h => by cases h) (fun _ i hi he => c (inN_t.2 ⟨i, hi, he⟩)), A.2.2⟩
      obtain rfl := (cx_i j2 j11).2.2.1.1 hj
      exact A.2.1
  · rw [if_neg (by omega), if_neg (by omega), if_neg (by omega), if_neg (by omega), if_pos e] at h
    obtain ⟨⟨v, r⟩, x1, x2⟩ := sb_ok h
    have A := amt_ok x1 hp
    injection x2 with x2
    injection x2 with y3 y4
    rw [← y3, ← y4]
    refine ⟨hd.add (by decide) (by decide) (by rw [if_neg (by decide), if_neg (by decide), if_neg (by decide), if_pos rfl]; omega) (fun j j2 j11 hj => ?_) (fun _ => A.1) (fun h => by cases h), A.2.2⟩
    obtain rfl := (cx_i j2 j11).2.2.2.1.1 hj
    exact A.2.1
  · rw [if_neg (by omega), if_neg (by omega), if_neg (by omega), if_neg (by omega), if_neg (by omega)] at h
    obtain ⟨⟨v, r⟩, x1, x2⟩ := sb_ok h
    obtain ⟨⟨w, s⟩, y1, y2⟩ := sb_ok x2
    have A := amt_ok x1 hp
    have B := amt_ok y1 A.2.2
    have y2' : (if v = w then .inl (1 + 8 * skp L b r + 1) else .inr (s, rec_ d 6 (fun r => if r = 10 then v else w)) : Sum Nat (Nat × Dr)) = .inr (q, d') := y2
    by_cases c : v = w
    · rw [if_pos c] at y2'; cases y2'
    · rw [if_neg c] at y2'
      injection y2' with y2'
      injection y2' with y3 y4
      rw [← y3, ← y4]
      refine ⟨hd.add (by decide) (by decide) (by rw [if_neg (by decide), if_neg (by decide), if_neg (by decide), if_neg (by decide)]; omega) (fun j j2 j11 hj => ?_) (fun h => by cases h) (fun h => by cases h), B.2.2⟩
      have k := (cx_i j2 j11).2.2.2.2.1 hj
      by_cases e2 : j = 10
      · rw [if_pos e2, e2]
        exact A.2.1
      · obtain rfl : j = 11 := by omega
        exact B.2.1
theorem gCl_ok {m p q : Nat} {d d' : Dr} (h : gCl L b m p d = .inr (q, d')) (hd : 0 < m → DOK d) (h0 : m = 0 → ∀ j x, d j x = 0) (hp : p ≤ L) : DOK d' ∧ q ≤ L ∧ m < 40 ∨ (DOK d' ∧ q ≤ L) := by
  right
  have f7 : fw L b gWs (skp L b p) ≤ 7 := fw_le L b (skp L b p) gWs
  have hw := we_le b (skp_le b hp)
  unfold gCl at h
  generalize fw L b gWs (skp L b p) = k at *
  by_cases k7 : k = 7
  · rw [if_pos k7] at h; cases h
  · rw [if_neg k7] at h
    by_cases c : m = 40 ∨ ¬ (k = 0 ↔ m = 0) ∨ gFull d k = true
    · rw [if_pos c] at h; cases h
    · rw [if_neg c] at h
      have c1 : m ≠ 40 := fun x => c (.inl x)
      have c2 : (k = 0 ↔ m = 0) := Classical.byContradiction fun x => c (.inr (.inl x))
      have c3 : gFull d k = false := by
        cases e : gFull d k with
        | false => rfl
        | true => exact absurd (.inr (.inr e)) c
      by_cases k0 : k = 0
      · unfold gPart at h
        rw [if_pos k0] at h
        obtain ⟨⟨v, r⟩, x1, x2⟩ := sb_ok h
        obtain ⟨⟨w, s⟩, y1, y2⟩ := sb_ok x2
        have A := amt_ok x1 hw
        have B := amt_ok y1 A.2.2
        injection y2 with y2
        injection y2 with y3 y4
        have z := h0 (c2.1 k0)
        rw [← y3, ← y4]
        have sN : ∀ k, k ≠ 0 → k ≠ 1 → du (du d 0 0 v) 0 1 w 0 k = 0 := fun k h0 h1 => ((if_neg (fun x => h1 x.2)).trans (if_neg (fun x => h0 x.2))).trans (z 0 k)
        have rN : ∀ j x, 1 ≤ j → du (du d 0 0 v) 0 1 w j x = 0 := fun j x h => ((if_neg (fun x => by omega)).trans (if_neg (fun x => by omega))).trans (z j x)
        have s0 : du (du d 0 0 v) 0 1 w 0 0 = v := (if_neg (fun x => by omega)).trans (if_pos ⟨rfl, rfl⟩)
        have s1 : du (du d 0 0 v) 0 1 w 0 1 = w := if_pos ⟨rfl, rfl⟩
        show DOK (du (du d 0 0 v) 0 1 w) ∧ s ≤ L
        refine ⟨⟨by rw [s0]; omega, by rw [s1]; omega, by rw [sN 7 (by decide) (by decide)]; omega, by rw [sN 2 (by decide) (by decide), sN 3 (by decide) (by decide), sN 4 (by decide) (by decide), sN 5 (by decide) (by decide), sN 6 (by decide) (by decide)]; omega, fun c => by rw [rN 1 c (by omega)]; omega, fun j j2 j11 i hi => ?_, fun i hi => ?_, fun i j hi hj => ?_⟩, B.2.2⟩
        · have := cx_b j
          rw [sN _ (by omega) (by omega)] at hi
          omega
        · rw [sN 5 (by decide) (by decide)] at hi
          omega
        · rw [sN 4 (by decide) (by decide)] at hi
          omega
      · exact gPart_ok k0 (by omega) c3 h (hd (by omega)) hw
end GLOOP
section GLOOPC
variable {n sl : Nat} {U : Nat → va_E} {S : Nat → Nat × Nat × Nat} {σ1 : Sg} {L g : Nat} {b : Nat → Nat}
theorem c_stop (K : Mm → Nat → Option (Int32 × Mm)) (μ : Mm) (m f : Nat) (hm : m ≤ 41) : f_X2_readAll_L27 K (f + 1) μ 131 0 (nI m) = K μ 131 := by
  rw [f_X2_readAll_L27]
  by_cases h : (40 : Int32) < nI m
  · rw [if_pos h]
  · rw [if_neg h, if_pos rfl]
theorem c_allL (hG : GV n S g) (K : Mm → Nat → Option (Int32 × Mm)) : ∀ (k m p : Nat) (T : Tc) (d : Dr) (f : Nat), m + k = 40 → k + 1 < f → TXc T L b → CR T g d → (0 < m → DOK d) → (m = 0 → ∀ j x, d j x = 0) → p ≤ L → ∃ T' q e, f_X2_readAll_L27 K f (cn n sl U S (tp T p 0) σ1) 131 1 (nI m) = K (cn n sl U S (tp T' q e) σ1) 131 ∧ q ≤ L ∧ agr (Od g) T T' ∧ (match gAll L b (k + 1) m p d with
    | .inl e' => e = e' ∧ e ≠ 0 ∧ e < 4000
    | .inr d' => e = 0 ∧ CR T' g d' ∧ DOK d') := by
  have hgl := hG.loc
  intro k
  induction k with
  | zero =>
    intro m p T d f h1 h2 hX hC hd h0 hp
    obtain ⟨f, rfl⟩ : ∃ k, f = k + 2 := ⟨f - 2, by omega⟩
    obtain rfl : m = 40 := by omega
    obtain ⟨T', q, e, c1, c2, c3, c4⟩ := c_clause (n := n) (sl := sl) (U := U) (S := S) (σ1 := σ1) hX hG hC (Nat.le_refl 40) hd hp
    have ge : ∃ e', gCl L b 40 p d = .inl e' := by
      unfold gCl
      by_cases k7 : fw L b gWs (skp L b p) = 7
      · exact ⟨_, if_pos k7⟩
      · exact ⟨_, by rw [if_neg k7, if_pos (.inl rfl)]⟩
    obtain ⟨e', ge⟩ := ge
    rw [ge] at c4
    obtain ⟨c5, c6, c7⟩ := c4
    refine ⟨T', q, e, ?_, c2, c3, ?_⟩
    · rw [f_X2_readAll_L27, if_neg (by decide), if_neg (by decide), x131_o, Option.bind_some, c1, Option.bind_some, x131_0, Option.bind_some, x129_o, Option.bind_some, y_s1 q c6 (by omega), bd_some, if_pos rfl, nm_q, nm_q, oin1, nI_add, c_stop _ _ _ _ (by omega)]
    · rw [gAll, ge, sb_l]
      exact ⟨c5, c6, c7⟩
  | succ k ih =>
    intro m p T d f h1 h2 hX hC hd h0 hp
    obtain ⟨f, rfl⟩ : ∃ k, f = k + 2 := ⟨f - 2, by omega⟩
    have hL := hX.1
    obtain ⟨T', q, e, c1, c2, c3, c4⟩ := c_clause (n := n) (sl := sl) (U := U) (S := S) (σ1 := σ1) hX hG hC (show m ≤ 40 by omega) hd hp
    have start : f_X2_readAll_L27 K (f + 2) (cn n sl U S (tp T p 0) σ1) 131 1 (nI m) = (bd (f_X9_isSound (cn n sl U S (tp T' q e) σ1) 129) fun v17 μ16 =>
    (if v17 = 0 then
    (nm (0 : Int32) fun x18 =>
    (nm (nI m + Int32.ofInt (1)) fun x19 =>
    f_X2_readAll_L27 K (f + 1) μ16 131 x18 x19))
    else
    ((gR μ16 131 2 0).bind fun v20 =>
    ((ob μ16 v20 9).bind fun _ =>
    (bd (f_X9_goesOn μ16 v20) fun v22 μ21 =>
    (if v22 = 0 then
    (nm (0 : Int32) fun x23 =>
    (nm (nI m + Int32.ofInt (1)) fun x24 =>
    f_X2_readAll_L27 K (f + 1) μ21 131 x23 x24))
    else
    (nm (1 : Int32) fun x25 =>
    (nm (nI m + Int32.ofInt (1)) fun x26 =>
    f_X2_readAll_L27 K (f + 1) μ21 131 x25 x26)))))))) := by
      rw [f_X2_readAll_L27, if_neg (show ¬ (40 : Int32) < nI m from nI_nlt (a := 40) (by omega) (by decide)), if_neg (by decide), x131_o, Option.bind_some, c1, Option.bind_some, x131_0, Option.bind_some, x129_o, Option.bind_some]
    rw [start, gAll]
    cases hg : gCl L b m p d with
    | inl e' =>
      rw [hg] at c4
      obtain ⟨c5, c6, c7⟩ := c4
      refine ⟨T', q, e, ?_, c2, c3, ?_⟩
      · rw [y_s1 q c6 (by omega), bd_some, if_pos rfl, nm_q, nm_q, oin1, nI_add, c_stop _ _ _ _ (by omega)]
      · rw [sb_l]
        exact ⟨c5, c6, c7⟩
    | inr x =>
      obtain ⟨q', d'⟩ := x
      rw [hg] at c4
      obtain ⟨c5, c6, c7⟩ := c4
      have c6 : q = q' := c6
      have c7 : CR T' g d' := c7
      subst c6
      subst c5
      have dk : DOK d' := by
        rcases gCl_ok hg hd h0 hp with h | h
        · exact h.1
        · exact h.1
      have hX' := hX.ext c3 hgl
      have hs := skp_le b c2
      rw [sb_r]
      show ∃ T'_1 q_1 e, _ ∧ _ ∧ _ ∧ (match (sb (gGo L b q) fun m_1 => if m_1.1 = true then gAll L b (k + 1) (m + 1) m_1.2 d' else .inr d') with
        | .inl e' => e = e' ∧ e ≠ 0 ∧ e < 4000
        | .inr d' => e = 0 ∧ CR T'_1 g d' ∧ DOK d')
      rw [y_s0, bd_some, if_neg (by decide), x131_0, Option.bind_some, x129_o, Option.bind_some, y_go hX' c2, gGo]
      by_cases h3 : skp L b q < L
      · rw [if_pos h3, if_pos h3]
        by_cases h4 : b (skp L b q) = 59
        · obtain ⟨T2, q2, e2, z1, z2, z3, z4⟩ := ih (m + 1) (skp L b q + 1) T' d' (f + 1) (by omega) (by omega) hX' c7 (fun _ => dk) (fun h => by omega) (by omega)
          rw [if_pos h4, if_pos h4, bd_some, if_neg (by decide), nm_q, nm_q, oin1, nI_add, sb_r]
          exact ⟨T2, q2, e2, z1, z2, c3.trans z3, z4⟩
        · rw [if_neg h4, if_neg h4, bd_some, if_pos rfl, nm_q, nm_q, oin1, nI_add, c_stop _ _ _ _ (by omega), sb_l]
          exact ⟨T', _, _, rfl, hs, c3, rfl, by omega, by omega⟩
      · rw [if_neg h3, if_neg h3, bd_some, if_pos rfl, nm_q, nm_q, oin1, nI_add, c_stop _ _ _ _ (by omega), sb_r]
        exact ⟨T', _, _, rfl, hs, c3, rfl, c7, dk⟩
end GLOOPC
section GLOOPS
variable {L : Nat} {b : Nat → Nat}
theorem z_stop (K : Mm → Nat → Option Mm) (μ : Mm) (x : Int32) (f : Nat) : f_X12_readsAll_L55 K (f + 1) μ 188 x 0 = K μ 188 := by
  rw [f_X12_readsAll_L55, if_pos rfl]
theorem z_allL (K : Mm → Nat → Option Mm) : ∀ (k m p : Nat) (σ : Sg) (d : Dr) (f : Nat), m + k = 40 → k + 1 < f → TXs σ L b → SQ σ d → (0 < m → DOK d) → (m = 0 → ∀ j x, d j x = 0) → p ≤ L → ∃ σ' q e, (∀ ρ τ, f_X12_readsAll_L55 K f (mem ρ τ (sp σ p 0)) 188 (nI m) 1 = K (mem ρ τ (sp σ' q e)) 188) ∧ frm σ σ' ∧ (match gAll L b (k + 1) m p d with
    | .inl e' => e = e' ∧ e ≠ 0 ∧ e < 4000
    | .inr d' => e = 0 ∧ SQ σ' d') := by
  intro k
  induction k with
  | zero =>
    intro m p σ d f h1 h2 hX hQ hd h0 hp
    have hL := hX.1
    obtain ⟨f, rfl⟩ : ∃ k, f = k + 2 := ⟨f - 2, by omega⟩
    obtain rfl : m = 40 := by omega
    obtain ⟨σ', q, e, c1, c2, c3, c4⟩ := z_clause hX hQ (Nat.le_refl 40) hd hp
    have ge : ∃ e', gCl L b 40 p d = .inl e' := by
      unfold gCl
      by_cases k7 : fw L b gWs (skp L b p) = 7
      · exact ⟨_, if_pos k7⟩
      · exact ⟨_, by rw [if_neg k7, if_pos (.inl rfl)]⟩
    obtain ⟨e', ge⟩ := ge
    rw [ge] at c4
    obtain ⟨c5, c6, c7⟩ := c4
    refine ⟨σ', skp L b q + 1, e, fun ρ τ => ?_, c3, ?_⟩
    · have c1' : f_X12_groundClause (mem ρ τ (sp σ p 0)) 188 (nI 40) = some (mem ρ τ (sp σ' q e)) := c1 ρ τ
      rw [f_X12_readsAll_L55, if_neg (by decide), ob_mem, Option.bind_some, c1', Option.bind_some, nm_q, ob_mem, Option.bind_some, z_goD (hX.ext c3) (by omega) c6 (by omega), bd_some, nm_q, z_stop]
    · rw [gAll, ge, sb_l]
      exact ⟨c5, c6, c7⟩
  | succ k ih =>
    intro m p σ d f h1 h2 hX hQ hd h0 hp
    have hL := hX.1
    obtain ⟨f, rfl⟩ : ∃ k, f = k + 2 := ⟨f - 2, by omega⟩
    obtain ⟨σ', q, e, c1, c2, c3, c4⟩ := z_clause hX hQ (show m ≤ 40 by omega) hd hp
    have hX' := hX.ext c3
    have start : ∀ ρ τ, f_X12_readsAll_L55 K (f + 2) (mem ρ τ (sp σ p 0)) 188 (nI m) 1 = bd (f_X12_goesOn (mem ρ τ (sp σ' q e)) 188) fun v28 μ27 => f_X12_readsAll_L55 K (f + 1) μ27 188 (nI (m + 1)) v28 := by
      intro ρ τ
      have c1' : f_X12_groundClause (mem ρ τ (sp σ p 0)) 188 (nI m) = some (mem ρ τ (sp σ' q e)) := c1 ρ τ
      rw [f_X12_readsAll_L55, if_neg (by decide), ob_mem, Option.bind_some, c1', Option.bind_some, nm_q, oin1, nI_add, ob_mem, Option.bind_some]
      rfl
    rw [gAll]
    cases hg : gCl L b m p d with
    | inl e' =>
      rw [hg] at c4
      obtain ⟨c5, c6, c7⟩ := c4
      refine ⟨σ', skp L b q + 1, e, fun ρ τ => ?_, c3, ?_⟩
      · rw [start, z_goD hX' (by omega) c6 (by omega), bd_some, z_stop]
      · rw [sb_l]
        exact ⟨c5, c6, c7⟩
    | inr x =>
      obtain ⟨q', d'⟩ := x
      rw [hg] at c4
      have ok := gCl_ok hg hd h0 hp
      have dk : DOK d' ∧ q' ≤ L := by
        rcases ok with h | h
        · exact ⟨h.1, h.2.1⟩
        · exact h
      rw [sb_r]
      show ∃ σ'_1 q_1 e, _ ∧ _ ∧ (match (sb (gGo L b q') fun m_1 => if m_1.1 = true then gAll L b (k + 1) (m + 1) m_1.2 d' else .inr d') with
        | .inl e' => e = e' ∧ e ≠ 0 ∧ e < 4000
        | .inr d' => e = 0 ∧ SQ σ'_1 d')
      rcases c4 with ⟨c5, c6, c7⟩ | ⟨c5, c6⟩
      · have c6 : q = q' := c6
        have c7 : SQ σ' d' := c7
        subst c6
        subst c5
        have hs := skp_le b c2
        rw [gGo]
        by_cases h3 : skp L b q < L
        · rw [if_pos h3]
          by_cases h4 : b (skp L b q) = 59
          · obtain ⟨σ2, q2, e2, z1, z2, z3⟩ := ih (m + 1) (skp L b q + 1) σ' d' (f + 1) (by omega) (by omega) hX' c7 (fun _ => dk.1) (fun h => by omega) (by omega)
            rw [if_pos h4, sb_r]
            refine ⟨σ2, q2, e2, fun ρ τ => ?_, c3.trans z2, z3⟩
            rw [start, z_go hX' c2, if_pos h3, if_pos h4, bd_some]
            exact z1 ρ τ
          · rw [if_neg h4, sb_l]
            refine ⟨σ', skp L b q + 1, 1 + 8 * skp L b q + 0, fun ρ τ => ?_, c3, rfl, by omega, by omega⟩
            rw [start, z_go hX' c2, if_pos h3, if_neg h4, bd_some, z_stop]
        · rw [if_neg h3, sb_r]
          refine ⟨σ', skp L b q + 1, 0, fun ρ τ => ?_, c3, rfl, c7⟩
          rw [start, z_go hX' c2, if_neg h3, bd_some, z_stop]
      · have c5 : e = 1 + 8 * q' + 0 := c5
        have c6 : tD L b q' = true := c6
        have hb := of_decide_eq_true c6
        have sk : skp L b q' = q' := rn_f (decide_eq_false (fun x => by omega))
        rw [gGo, sk, if_pos hb.1, if_neg (by omega), sb_l]
        refine ⟨σ', skp L b q + 1, e, fun ρ τ => ?_, c3, c5, by omega, by omega⟩
        rw [start, z_goD hX' (by omega) (by omega) (by omega), bd_some, z_stop]
end GLOOPS
