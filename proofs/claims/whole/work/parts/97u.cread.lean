/-! Grounds: the class's readers. -/
def cRes (n sl : Nat) (U : Nat → va_E) (S : Nat → Nat × Nat × Nat) (σ1 : Sg) (T : Tc) (L g : Nat) (R : Sum Nat (Nat × Dr)) (F : Option Mm) : Prop := ∃ T' q e, F = some (cn n sl U S (tp T' q e) σ1) ∧ q ≤ L ∧ agr (Od g) T T' ∧ (match R with
  | .inl e' => e = e' ∧ e ≠ 0 ∧ e < 4000
  | .inr a => e = 0 ∧ q = a.1 ∧ CR T' g a.2)
section CREAD
variable {n sl : Nat} {U : Nat → va_E} {S : Nat → Nat × Nat × Nat} {σ1 : Sg} {T : Tc} {L g : Nat} {b : Nat → Nat} {d : Dr}
theorem w131 {p e : Nat} (h : T.2.2.2.1 131 1 = g) : gR (cn n sl U S (tp T p e) σ1) 131 2 1 = some g := by
  rw [x131_1]
  exact congrArg some h
theorem y_nm (hX : TXc T L b) {p lo hb : Nat} (hp : p ≤ L) (hlo : lo < 2 ^ 31) (hhb : hb < 2 ^ 31) : (∃ e v q, amt L b p lo hb = .inl e ∧ f_X9_readNumber (cn n sl U S (tp T p 0) σ1) 129 (nI lo) (nI hb - 1) = some (nI v, cn n sl U S (tp T q e) σ1) ∧ e ≠ 0 ∧ e < 4000 ∧ q ≤ L ∧ v < 100000) ∨ (∃ v q, amt L b p lo hb = .inr (v, q) ∧ f_X9_readNumber (cn n sl U S (tp T p 0) σ1) 129 (nI lo) (nI hb - 1) = some (nI v, cn n sl U S (tp T q 0) σ1) ∧ q ≤ L ∧ lo ≤ v ∧ v < hb) := by
  have a := y_num (n := n) (sl := sl) (U := U) (S := S) (σ1 := σ1) hX hp hlo hhb
  cases h : amt L b p lo hb with
  | inl e =>
    rw [h] at a
    obtain ⟨v, q, a1, a2, a3, a4, a5⟩ := a
    exact .inl ⟨e, v, q, rfl, a2, a3, a4, a1, a5⟩
  | inr x =>
    obtain ⟨v, q⟩ := x
    rw [h] at a
    exact .inr ⟨v, q, rfl, a⟩
theorem c_size (hX : TXc T L b) (hG : GV n S g) (hC : CR T g d) {p : Nat} (hp : p ≤ L) : cRes n sl U S σ1 T L g (gSize L b p d) (f_X2_readSize (cn n sl U S (tp T p 0) σ1) 131) := by
  have hgl := hG.loc
  have g129 : g ≠ 129 := by omega
  have w := fun (T : Tc) (h : T.2.2.2.1 131 1 = g) (p e : Nat) => show gR (cn n sl U S (tp T p e) σ1) 131 2 1 = some g by rw [x131_1]; exact congrArg some h
  unfold gSize f_X2_readSize
  rw [x131_0, Option.bind_some, x129_o, Option.bind_some, show (2 : Int32) = nI 2 from rfl, show (8 : Int32) = nI 9 - 1 from rfl, show (6 : Int32) = nI 7 - 1 from rfl]
  rcases y_nm (n := n) (sl := sl) (U := U) (S := S) (σ1 := σ1) hX hp (lo := 2) (hb := 9) (by decide) (by decide) with ⟨e, v, q, a1, a2, a3, a4, a5, a6⟩ | ⟨v, q, a1, a2, a3, a4, a5⟩
  · rw [a1, sb_l, a2, bd_some, nm_q, x131_0, Option.bind_some, x129_o, Option.bind_some, y_nuD q a3 (by omega), bd_some, nm_q, x131_0, Option.bind_some, x129_o, Option.bind_some, y_s1 q a3 (by omega), bd_some, if_pos rfl]
    exact ⟨T, q, e, rfl, a5, agr.refl _ _, rfl, a3, a4⟩
  · rw [a1, sb_r, a2, bd_some, nm_q, x131_0, Option.bind_some, x129_o, Option.bind_some]
    rcases y_nm (n := n) (sl := sl) (U := U) (S := S) (σ1 := σ1) hX a3 (lo := 2) (hb := 7) (by decide) (by decide) with ⟨e, v', q', c1, c2, c3, c4, c5, c6⟩ | ⟨v', q', c1, c2, c3, c4, c5⟩
    · rw [c1, sb_l, c2, bd_some, nm_q, x131_0, Option.bind_some, x129_o, Option.bind_some, y_s1 q' c3 (by omega), bd_some, if_pos rfl]
      exact ⟨T, q', e, rfl, c5, agr.refl _ _, rfl, c3, c4⟩
    · rw [c1, sb_r, c2, bd_some, nm_q, x131_0, Option.bind_some, x129_o, Option.bind_some, y_s0, bd_some, if_neg (by decide), w T hC.1, Option.bind_some, g0_0p hG, Option.bind_some, tp_I _ _ _ g129, w131 (g := g) (by exact hC.1), Option.bind_some, g0_1p hG, Option.bind_some, tp_I _ _ _ g129, w131 (g := g) (by exact hC.1), Option.bind_some, g0_2p hG, Option.bind_some, tp_I _ _ _ g129]
      exact ⟨_, q', 0, rfl, c3, ((agr_tI _ _ (fun h => h.2 (by omega))).trans (agr_tI _ _ (fun h => h.2 (by omega)))).trans (agr_tI _ _ (fun h => h.2 (by omega))), rfl, rfl, hC.size hgl⟩
theorem c_rowL (hG : GV n S g) {t : Nat} (K51 K114 : Mm → Nat → Option Mm) : ∀ (k c p : Nat) (T : Tc) (d : Dr) (f : Nat), c + k = d 0 0 → k < f → TXc T L b → CR T g d → d 0 7 = t → t * d 0 0 + d 0 0 ≤ 48 → p ≤ L → ∃ T' q d', agr (Od g) T T' ∧ CR T' g d' ∧ q ≤ L ∧ d' 0 = d 0 ∧ ((rowK L b k c p d = .inl (1 + 8 * q + 0) ∧ f_X2_readRow_L23 K51 K114 f (cn n sl U S (tp T p 0) σ1) 131 (nI (t * d 0 0)) (nI c) = K51 (cn n sl U S (tp T' q 0) σ1) 131) ∨ (rowK L b k c p d = .inr (q, d') ∧ f_X2_readRow_L23 K51 K114 f (cn n sl U S (tp T p 0) σ1) 131 (nI (t * d 0 0)) (nI c) = K114 (cn n sl U S (tp T' q 0) σ1) 131)) := by
  have hgl := hG.loc
  have g129 : g ≠ 129 := by omega
  have w := fun (T : Tc) (h : T.2.2.2.1 131 1 = g) (p e : Nat) => show gR (cn n sl U S (tp T p e) σ1) 131 2 1 = some g by rw [x131_1]; exact congrArg some h
  have f0 := fun (T : Tc) (p e : Nat) => show gI (cn n sl U S (tp T p e) σ1) g 1 0 = some (T.1 g 0) by rw [g0_0 hG, tp_o _ _ _ g129]
  intro k
  induction k with
  | zero =>
    intro c p T d f h1 h2 hX hC h7 h48 hp
    obtain ⟨f, rfl⟩ : ∃ k, f = k + 1 := ⟨f - 1, by omega⟩
    have c0 : T.1 g 0 = nI (d 0 0) := hC.2.1 0 (by decide) (by decide)
    refine ⟨T, p, d, agr.refl _ _, hC, hp, rfl, .inr ⟨rfl, ?_⟩⟩
    rw [f_X2_readRow_L23, w T hC.1, Option.bind_some, f0, Option.bind_some, c0, if_pos (nI_le (by omega) (by omega))]
  | succ k ih =>
    intro c p T d f h1 h2 hX hC h7 h48 hp
    obtain ⟨f, rfl⟩ : ∃ k, f = k + 1 := ⟨f - 1, by omega⟩
    have hL := hX.1
    have c0 : T.1 g 0 = nI (d 0 0) := hC.2.1 0 (by decide) (by decide)
    rw [f_X2_readRow_L23, w T hC.1, Option.bind_some, f0, Option.bind_some, c0, if_neg (nI_ge (by omega) (by omega)), x131_0, Option.bind_some, Option.bind_some, y_pl, Option.bind_some, x129_o, Option.bind_some, y_dg hX p 0 (by omega), bd_some, rowK]
    cases hD : tD L b p with
    | false =>
      refine ⟨T, p, d, agr.refl _ _, hC, hp, rfl, .inl ⟨?_, ?_⟩⟩
      · rw [if_neg (by decide)]
      · rw [if_pos (show bI false = 0 from rfl)]
    | true =>
      have hb := of_decide_eq_true hD
      have hC' := hC.hgt (i := d 0 0 * d 0 7 + c) (v := b p - 48) hgl
      have hX' : TXc (tA T (g + 1) (d 0 0 * d 0 7 + c) (nI (b p - 48))) L b := hX.ext (g := g) (agr_tA _ _ (fun h => h.2 (by omega))) hgl
      have es : du d 1 (d 0 0 * d 0 7 + c) (b p - 48) 0 = d 0 := funext fun k => if_neg (fun x => by omega)
      obtain ⟨T', q, d', z1, z2, z3, z4, z5⟩ := ih (c + 1) (p + 1) _ (du d 1 (d 0 0 * d 0 7 + c) (b p - 48)) f (by rw [es]; omega) (by omega) hX' hC' (by rw [es]; exact h7) (by rw [es]; exact h48) (by omega)
      rw [es] at z4 z5
      refine ⟨T', q, d', (agr_tA _ _ (fun h => h.2 (by omega))).trans z1, z2, z3, z4, ?_⟩
      rw [if_pos rfl]
      have st : ∀ X : Option Mm, f_X2_readRow_L23 K51 K114 f (cn n sl U S (tp (tA T (g + 1) (d 0 0 * d 0 7 + c) (nI (b p - 48))) (p + 1) 0) σ1) 131 (nI (t * d 0 0)) (nI (c + 1)) = X → (if bI true = 0 then K51 (cn n sl U S (tp T p 0) σ1) 131 else
          ((gR (cn n sl U S (tp T p 0) σ1) 131 2 1).bind fun v20 =>
    ((gR (cn n sl U S (tp T p 0) σ1) v20 1 3).bind fun v21 =>
    ((gR (cn n sl U S (tp T p 0) σ1) 131 2 0).bind fun v22 =>
    ((gR (cn n sl U S (tp T p 0) σ1) 131 2 0).bind fun v23 =>
    ((gI (cn n sl U S (tp T p 0) σ1) v23 9 2).bind fun v24 =>
    ((ob (cn n sl U S (tp T p 0) σ1) v22 9).bind fun _ =>
    (bd (f_X9_byteAt (cn n sl U S (tp T p 0) σ1) v22 v24) fun v26 μ25 =>
    ((sI μ25 v21 0 (nI (t * d 0 0) + nI c) (v26 - (48 : Int32))).bind fun μ27 =>
    ((gR μ27 131 2 0).bind fun v28 =>
    ((gI μ27 v28 9 2).bind fun v29 =>
    ((pV μ27 v28 9 2 (.int (v29 + (1 : Int32)))).bind fun μ30 =>
    (nm (nI c + Int32.ofInt (1)) fun x31 =>
    f_X2_readRow_L23 K51 K114 f μ30 131 (nI (t * d 0 0)) x31))))))))))))) = X := by
        intro X hX0
        rw [if_neg (show ¬ bI true = 0 by decide), w T hC.1, Option.bind_some, g0_3 hG, Option.bind_some, x131_0, Option.bind_some, Option.bind_some, y_pl, Option.bind_some, x129_o, Option.bind_some, y_at hX p 0 (by omega), bd_some, sgn, if_pos hb.1, lit_48, nI_sub hb.2.1, nI_add, g1_w hG (by omega), Option.bind_some, tp_A, x131_0, Option.bind_some, y_pl, Option.bind_some, lit_1, nI_add, y_pp, Option.bind_some, nm_q, oin1, nI_add, show t * d 0 0 + c = d 0 0 * d 0 7 + c by rw [h7, Nat.mul_comm]]
        exact hX0
      rcases z5 with ⟨y1, y2⟩ | ⟨y1, y2⟩
      · exact .inl ⟨y1, st _ y2⟩
      · exact .inr ⟨y1, st _ y2⟩
theorem c_row (hX : TXc T L b) (hG : GV n S g) (hC : CR T g d) (hd : DOK d) (hr : d 0 7 < d 0 1) {p : Nat} (hp : p ≤ L) : cRes n sl U S σ1 T L g (gRow L b p d) (f_X2_readRow (cn n sl U S (tp T p 0) σ1) 131) := by
  have hgl := hG.loc
  have hL := hX.1
  have g129 : g ≠ 129 := by omega
  have w := fun (T : Tc) (h : T.2.2.2.1 131 1 = g) (p e : Nat) => show gR (cn n sl U S (tp T p e) σ1) 131 2 1 = some g by rw [x131_1]; exact congrArg some h
  have f0 := fun (T : Tc) (p e : Nat) => show gI (cn n sl U S (tp T p e) σ1) g 1 0 = some (T.1 g 0) by rw [g0_0 hG, tp_o _ _ _ g129]
  have ft := fun (T : Tc) (p e : Nat) => show gI (cn n sl U S (tp T p e) σ1) 131 2 2 = some (T.1 131 2) by rw [x131_2, tp_o _ _ _ (by decide)]
  have c0 : T.1 g 0 = nI (d 0 0) := hC.2.1 0 (by decide) (by decide)
  have ct : T.1 131 2 = nI (d 0 7) := hC.2.1 7 (by decide) (by decide)
  have h48 : d 0 7 * d 0 0 + d 0 0 ≤ 48 := by
    have h1 : (d 0 7 + 1) * d 0 0 ≤ 6 * 8 := Nat.mul_le_mul (by have := hd.2.1; omega) hd.1.2
    rw [Nat.succ_mul] at h1
    exact h1
  obtain ⟨T', q, d', z1, z2, z3, z4, z5⟩ := c_rowL (L := L) (b := b) (sl := sl) (U := U) (σ1 := σ1) hG (t := d 0 7) (fun μ32 a33 =>
    ((gR μ32 a33 2 0).bind fun v34 =>
    ((gR μ32 a33 2 0).bind fun v35 =>
    ((gI μ32 v35 9 2).bind fun v36 =>
    ((ob μ32 v34 9).bind fun _ =>
    ((f_X9_fail μ32 v34 v36 (0 : Int32)).bind fun μ37 =>
    (some μ37))))))) (fun μ38 a39 =>
    ((gI μ38 a39 2 2).bind fun v40 =>
    ((pV μ38 a39 2 2 (.int (v40 + (1 : Int32)))).bind fun μ41 =>
    (some μ41)))) (d 0 0) 0 (skp L b p) T d FU (by omega) (by have := hd.1.2; unfold FU; omega) hX hC rfl h48 (skp_le b hp)
  have hs := skp_le b hp
  rw [show nI 0 = (0 : Int32) from rfl] at z5
  unfold gRow f_X2_readRow
  rw [x131_0, Option.bind_some, x129_o, Option.bind_some, y_sk hX hp, bd_some, ft, Option.bind_some, ct, w T hC.1, Option.bind_some, f0, Option.bind_some, c0, nm_q, nm_q, pk_mul]
  rcases z5 with ⟨y1, y2⟩ | ⟨y1, y2⟩
  · rw [y1, y2, sb_l, x131_0, Option.bind_some, Option.bind_some, y_pl, Option.bind_some, x129_o, Option.bind_some, lit_0, y_f0, Option.bind_some]
    exact ⟨T', q, _, rfl, z3, z1, rfl, by omega, by omega⟩
  · have ct' : T'.1 131 2 = nI (d' 0 7) := z2.2.1 7 (by decide) (by decide)
    rw [y1, y2, sb_r, ft, Option.bind_some, lit_1, ct', nI_add, x131_2p, Option.bind_some, tp_I _ _ _ (by decide), show d 0 7 = d' 0 7 by rw [z4]]
    exact ⟨_, q, 0, rfl, z3, z1.trans (agr_tI _ _ (fun h => h.1 rfl)), rfl, rfl, z2.told hgl⟩
theorem c_cell (hX : TXc T L b) (hG : GV n S g) (hC : CR T g d) (hd : DOK d) {p : Nat} (hp : p ≤ L) : (∃ e v q, amt L b p 0 (d 0 0 * d 0 1) = .inl e ∧ f_X2_readCell (cn n sl U S (tp T p 0) σ1) 131 = some (nI v, cn n sl U S (tp T q e) σ1) ∧ e ≠ 0 ∧ e < 4000 ∧ q ≤ L ∧ v < 100000) ∨ (∃ v q, amt L b p 0 (d 0 0 * d 0 1) = .inr (v, q) ∧ f_X2_readCell (cn n sl U S (tp T p 0) σ1) 131 = some (nI v, cn n sl U S (tp T q 0) σ1) ∧ q ≤ L ∧ 0 ≤ v ∧ v < d 0 0 * d 0 1) := by
  have hgl := hG.loc
  have g129 : g ≠ 129 := by omega
  have h48 : d 0 0 * d 0 1 ≤ 8 * 6 := Nat.mul_le_mul hd.1.2 hd.2.1.2
  have e : f_X2_readCell (cn n sl U S (tp T p 0) σ1) 131 = f_X9_readNumber (cn n sl U S (tp T p 0) σ1) 129 (nI 0) (nI (d 0 0 * d 0 1) - 1) := by
    unfold f_X2_readCell
    rw [x131_0, Option.bind_some, x131_1, show (tp T p 0).2.2.2.1 131 1 = g from hC.1, Option.bind_some, g0_2 hG, tp_o _ _ _ g129, hC.2.2.1, Option.bind_some, x129_o, Option.bind_some, show nI 0 = (0 : Int32) from rfl]
    cases f_X9_readNumber (cn n sl U S (tp T p 0) σ1) 129 0 (nI (d 0 0 * d 0 1) - 1) with
    | none => rfl
    | some x => rfl
  rw [e]
  exact y_nm hX hp (by decide) (by omega)
end CREAD
