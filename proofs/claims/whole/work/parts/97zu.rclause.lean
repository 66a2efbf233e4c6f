/-! Rules: a clause, and all of them. -/
abbrev Cl : Type := Nat × Nat × Nat × Nat
def rKs : List (List Nat) := [[98, 114, 101, 97, 107], [109, 97, 114, 107]]
section RCL
variable (L : Nat) (b : Nat → Nat)
def rS1 (w : Nat) (s : Rt) : Sum Nat Rt := if w = 1 then rSum L b s else .inr s
def rS2 (w : Nat) (s : Rt) : Sum Nat Rt := if w = 0 then (rTF L b 30).1 0 s else if isWd L b wIf (skp L b s.1) = true then (rTF L b 30).1 0 (rAt s (we L b (skp L b s.1))) else .inr (rAt s (skp L b s.1))
def rCl (n : Nat) (s : Rt) : Sum Nat (Rt × Cl) := if fw L b rKs (skp L b s.1) = 2 then .inl (1 + 8 * skp L b s.1 + 0) else if n = 12 then .inl (1 + 8 * skp L b s.1 + 4) else sb (rS1 L b (fw L b rKs (skp L b s.1)) (rAt s (we L b (skp L b s.1)))) fun s1 => sb (rS2 L b (fw L b rKs (skp L b s.1)) s1) fun s2 => .inr (s2, (fw L b rKs (skp L b s.1), s.2.2.length, s1.2.2.length, s2.2.2.length))
def rRl : Nat → Rt → List Cl → Sum Nat (List (Nat × Nat) × List Cl)
  | 0, _, _ => .inl 0
  | f + 1, s, cls => sb (rCl L b cls.length s) fun a => sb (gGo L b a.1.1) fun m => if m.1 = true then rRl f (rAt a.1 m.2) (cls ++ [a.2]) else .inr (a.1.2.2, cls ++ [a.2])
end RCL
def clOk (es : List (Nat × Nat)) (c : Cl) : Prop := c.1 < 2 ∧ c.2.1 ≤ c.2.2.1 ∧ c.2.2.1 ≤ c.2.2.2 ∧ c.2.2.2 ≤ es.length ∧ (c.1 = 1 → ∀ w, ∃ v, evL w ((es.drop c.2.1).take (c.2.2.1 - c.2.1)) [] = some [v]) ∧ (c.2.2.1 < c.2.2.2 → ∀ w, ∃ v, (v = 0 ∨ v = 1) ∧ evL w ((es.drop c.2.2.1).take (c.2.2.2 - c.2.2.1)) [] = some [v]) ∧ (c.1 = 0 → c.2.2.1 < c.2.2.2)
theorem seg_app {es g : List (Nat × Nat)} {x y : Nat} (h : y ≤ es.length) (hx : x ≤ y) : ((es ++ g).drop x).take (y - x) = (es.drop x).take (y - x) := by
  rw [List.drop_append_of_le_length (by omega), List.take_append_of_le_length (by rw [List.length_drop]; omega)]
theorem clOk.app {es g : List (Nat × Nat)} {c : Cl} (h : clOk es c) : clOk (es ++ g) c := by
  obtain ⟨a1, a2, a3, a4, a5, a6, a7⟩ := h
  refine ⟨a1, a2, a3, by rw [List.length_append]; omega, fun h w => ?_, fun h w => ?_, a7⟩
  · rw [seg_app (by omega) a2]; exact a5 h w
  · rw [seg_app a4 a3]; exact a6 h w
section RCLO
variable {L : Nat} {b : Nat → Nat}
theorem rS1_ok {w : Nat} {s s' : Rt} (h : rS1 L b w s = .inr s') (hp : s.1 ≤ L) (hc : s.2.1 ≤ 60) : ∃ g, Go L s s' g ∧ (w = 1 → ∀ x, ∃ v, evL x g [] = some [v]) ∧ 3 * g.length + 14 * s.2.1 ≤ 14 * s'.2.1 := by
  unfold rS1 at h
  split at h
  · obtain ⟨g, g1, g2, g3, g4, g5, -⟩ := rSum_ok h hp hc
    exact ⟨g, g1, fun _ x => g5 x [] (by decide), by omega⟩
  · injection h with h
    subst h
    rename_i hw
    exact ⟨[], ⟨Nat.le_refl _, hp, Nat.le_refl _, hc, (List.append_nil _).symm, fun x hx => by cases hx⟩, fun h => absurd h hw, by show 3 * 0 + _ ≤ _; omega⟩
theorem rS2_ok {w : Nat} {s s' : Rt} (h : rS2 L b w s = .inr s') (hp : s.1 ≤ L) (hc : s.2.1 ≤ 60) : ∃ g, Go L s s' g ∧ (0 < g.length → ∀ x, ∃ v, (v = 0 ∨ v = 1) ∧ evL x g [] = some [v]) ∧ (w = 0 → 0 < g.length) ∧ 3 * g.length + 14 * s.2.1 ≤ 14 * s'.2.1 := by
  have F := (rTF_ok (L := L) (b := b) 30 0 (by decide)).1
  have ne : ∀ g, BP (6 + 2 * (10 - 0)) g → 0 < g.length := by
    intro g hg
    cases g with
    | nil =>
      obtain ⟨v, -, hv⟩ := hg (fun _ => 0) [] (by decide)
      cases hv
    | cons x y => exact Nat.succ_pos _
  have hs := skp_le b hp
  have gs := skp_ge L b s.1
  have hw := we_le b hs
  have gw : skp L b s.1 ≤ we L b (skp L b s.1) := rn_ge _ _ rfl
  unfold rS2 at h
  split at h
  · obtain ⟨g, g1, g2, g3, g4, g5⟩ := F _ _ h hp hc
    exact ⟨g, g1, fun _ x => g5 x [] (by decide), fun _ => ne g g5, by omega⟩
  · rename_i w0
    split at h
    · obtain ⟨g, g1, g2, g3, g4, g5⟩ := F _ _ h hw hc
      have g4 : 3 * g.length + 33 + 14 * s.2.1 ≤ 14 * s'.2.1 + 3 * (10 - 0) := g4
      exact ⟨g, g1.from (by omega), fun _ x => g5 x [] (by decide), fun _ => ne g g5, by omega⟩
    · injection h with h
      subst h
      exact ⟨[], ⟨gs, hs, Nat.le_refl _, hc, (List.append_nil _).symm, fun x hx => by cases hx⟩, fun h => absurd h (by decide), fun h => absurd h w0, by show 3 * 0 + 14 * s.2.1 ≤ 14 * s.2.1; omega⟩
theorem rCl_ok {n : Nat} {s s' : Rt} {cl : Cl} (h : rCl L b n s = .inr (s', cl)) (hp : s.1 ≤ L) (hc : s.2.1 ≤ 60) (hJ : 3 * s.2.2.length ≤ 14 * s.2.1) : n ≠ 12 ∧ ∃ g, Go L s s' g ∧ clOk s'.2.2 cl ∧ 3 * s'.2.2.length ≤ 14 * s'.2.1 := by
  have hs := skp_le b hp
  have gs := skp_ge L b s.1
  have hw := we_le b hs
  have gw : skp L b s.1 ≤ we L b (skp L b s.1) := rn_ge _ _ rfl
  have fl := fw_le L b (skp L b s.1) rKs
  have fl : fw L b rKs (skp L b s.1) ≤ 2 := fl
  unfold rCl at h
  split at h
  · cases h
  · rename_i f2
    split at h
    · cases h
    · rename_i n12
      refine ⟨n12, ?_⟩
      obtain ⟨s1, x1, x2⟩ := sb_ok h
      obtain ⟨s2, y1, y2⟩ := sb_ok x2
      injection y2 with y2
      injection y2 with y3 y4
      subst y3
      subst y4
      obtain ⟨g1, G1, e1, l1⟩ := rS1_ok x1 hw hc
      have G1 : Go L s s1 g1 := G1.from (by omega)
      have l1 : 3 * g1.length + 14 * s.2.1 ≤ 14 * s1.2.1 := l1
      obtain ⟨g2, G2, e2, n2, l2⟩ := rS2_ok y1 G1.2.1 G1.2.2.2.1
      have E1 : s1.2.2 = s.2.2 ++ g1 := G1.2.2.2.2.1
      have E2 : s2.2.2 = s.2.2 ++ (g1 ++ g2) := by rw [G2.2.2.2.2.1, E1, List.append_assoc]
      have L1 : s1.2.2.length = s.2.2.length + g1.length := by rw [E1, List.length_append]
      have L2 : s2.2.2.length = s.2.2.length + g1.length + g2.length := by rw [E2, List.length_append, List.length_append]; omega
      refine ⟨g1 ++ g2, G1.trans G2, ⟨by show fw L b rKs (skp L b s.1) < 2; omega, by show s.2.2.length ≤ s1.2.2.length; omega, by show s1.2.2.length ≤ s2.2.2.length; omega, Nat.le_refl _, fun h w => ?_, fun h w => ?_, fun h => ?_⟩, by omega⟩
      · show ∃ v, evL w ((s2.2.2.drop s.2.2.length).take (s1.2.2.length - s.2.2.length)) [] = some [v]
        rw [E2, List.drop_left, L1, Nat.add_sub_cancel_left, List.take_left]
        exact e1 h w
      · show ∃ v, (v = 0 ∨ v = 1) ∧ evL w ((s2.2.2.drop s1.2.2.length).take (s2.2.2.length - s1.2.2.length)) [] = some [v]
        have h : s1.2.2.length < s2.2.2.length := h
        rw [show s2.2.2 = s1.2.2 ++ g2 from G2.2.2.2.2.1, List.drop_left, List.length_append, Nat.add_sub_cancel_left, List.take_length]
        exact e2 (by omega) w
      · show s1.2.2.length < s2.2.2.length
        have := n2 h
        omega
theorem rCl_er (hL : L ≤ 400) {n : Nat} {s : Rt} {e : Nat} (h : rCl L b n s = .inl e) (hp : s.1 ≤ L) (hc : s.2.1 ≤ 60) : e ≠ 0 ∧ e < 4000 := by
  have hs := skp_le b hp
  have hw := we_le b hs
  unfold rCl at h
  split at h
  · injection h with h; omega
  · split at h
    · injection h with h; omega
    · cases h1 : rS1 L b (fw L b rKs (skp L b s.1)) (rAt s (we L b (skp L b s.1))) with
      | inl e1 =>
        rw [h1, sb_l] at h
        injection h with h
        subst h
        unfold rS1 at h1
        split at h1
        · exact rSum_er hL h1 hw hc
        · cases h1
      | inr s1 =>
        obtain ⟨g1, G1, -⟩ := rS1_ok h1 hw hc
        have hs1 := skp_le b G1.2.1
        have hw1 := we_le b hs1
        rw [h1, sb_r] at h
        cases h2 : rS2 L b (fw L b rKs (skp L b s.1)) s1 with
        | inr s2 => rw [h2, sb_r] at h; cases h
        | inl e2 =>
          rw [h2, sb_l] at h
          injection h with h
          subst h
          have F := (rTF_er (b := b) hL 30 0 (by decide)).1 (by decide)
          unfold rS2 at h2
          split at h2
          · exact F _ _ h2 G1.2.1 G1.2.2.2.1
          · split at h2
            · exact F _ _ h2 hw1 G1.2.2.2.1
            · cases h2
theorem rRl_ok : ∀ (f : Nat) {s : Rt} {cls cls' : List Cl} {es : List (Nat × Nat)}, rRl L b f s cls = .inr (es, cls') → s.1 ≤ L → s.2.1 ≤ 60 → 3 * s.2.2.length ≤ 14 * s.2.1 → (∀ x ∈ s.2.2, EO x) → (∀ c ∈ cls, clOk s.2.2 c) → cls.length ≤ 12 → cls'.length ≤ 12 ∧ es.length ≤ 280 ∧ (∀ x ∈ es, EO x) ∧ ∀ c ∈ cls', clOk es c
  | 0, s, cls, cls', es, h, _, _, _, _, _, _ => by cases h
  | f + 1, s, cls, cls', es, h, hp, hc, hJ, hE, hO, hl => by
    rw [rRl] at h
    obtain ⟨⟨s', cl⟩, x1, x2⟩ := sb_ok h
    obtain ⟨n12, g, G, c1, J⟩ := rCl_ok x1 hp hc hJ
    obtain ⟨m, y1, y2⟩ := sb_ok x2
    have E : s'.2.2 = s.2.2 ++ g := G.2.2.2.2.1
    have hE' : ∀ x ∈ s'.2.2, EO x := by
      intro x hx
      rw [E, List.mem_append] at hx
      exact hx.elim (hE x) (G.2.2.2.2.2 x)
    have hO' : ∀ c ∈ cls ++ [cl], clOk s'.2.2 c := by
      intro c hx
      rw [List.mem_append, List.mem_singleton] at hx
      rcases hx with hx | hx
      · rw [E]; exact (hO c hx).app
      · rw [hx]; exact c1
    have ll : (cls ++ [cl]).length = cls.length + 1 := by rw [List.length_append]; rfl
    have pm : m.1 = true → m.2 ≤ L := by
      intro hm
      have y1 : gGo L b s'.1 = .inr m := y1
      unfold gGo at y1
      split at y1
      · split at y1
        · injection y1 with y1
          rw [← y1]
          show skp L b s'.1 + 1 ≤ L
          omega
        · cases y1
      · injection y1 with y1
        rw [← y1] at hm
        cases hm
    split at y2
    · rename_i hm
      exact rRl_ok f y2 (pm hm) G.2.2.2.1 J hE' hO' (by show (cls ++ [cl]).length ≤ 12; omega)
    · injection y2 with y2
      injection y2 with y3 y4
      subst y3
      subst y4
      have : s'.2.1 ≤ 60 := G.2.2.2.1
      exact ⟨by show (cls ++ [cl]).length ≤ 12; omega, by show s'.2.2.length ≤ 280; omega, hE', hO'⟩
end RCLO
