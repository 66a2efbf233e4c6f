/-! Ways down by the reference: the search. -/
def wX : Nat → Nat
  | 0 => 0
  | k + 1 => 5 + 4 * wX k
def RS (σ σ1 : Sg) (n c : Nat) (p f : Int32) (π : Nat → Int32) (s : Nat) (b : Bst) : Prop := Eqm σ σ1 ∧ σ1.2.1 228 n = nI c ∧ σ1.2.1 229 n = nI s - 1 ∧ σ1.2.1 230 n = p ∧ σ1.2.1 231 n = f ∧ (∀ i, i < n → σ1.2.1 229 i = π i) ∧ RB σ1 b
def Fr (n : Nat) (σ1 σ' : Sg) : Prop := ∀ i, i < n → σ'.2.1 228 i = σ1.2.1 228 i ∧ σ'.2.1 229 i = σ1.2.1 229 i ∧ σ'.2.1 230 i = σ1.2.1 230 i ∧ σ'.2.1 231 i = σ1.2.1 231 i
theorem Fr.trans {n : Nat} {a b c : Sg} (h : Fr n a b) (h' : Fr n b c) : Fr n a c := fun i hi => by
  obtain ⟨x1, x2, x3, x4⟩ := h i hi
  obtain ⟨y1, y2, y3, y4⟩ := h' i hi
  exact ⟨y1.trans x1, y2.trans x2, y3.trans x3, y4.trans x4⟩
theorem sub_add1 (s : Nat) : nI s - 1 + 1 = nI s := by
  rw [Int32.sub_eq_add_neg, Int32.add_assoc, show (-1 + 1 : Int32) = 0 from rfl, Int32.add_zero]
section FINDS
variable {nr n0 lw q : Nat} {S : Nat → Nat × Nat × Nat} {T : Tc} {σ : Sg}
theorem s_findS (hD : DG nr (cur σ)) (hL : RLw n0 S T σ lw) (hq : q < dN (cur σ) 2) (K : Mm → Option Mm) {k : Nat} (child : ∀ (n c : Nat) (p f : Int32) (π : Nat → Int32) (b : Bst) (σ1 : Sg), dh (cur σ) c ≤ k → 0 < dh (cur σ) c → k + n ≤ 9 → c < nc (cur σ) → netB (cur σ) c = false → (ldD (cur σ) c).isNone = false → isB f 256 → Hi (cur σ) c (p, n, f, 0) → b.2.1 ≤ 9 → RS σ σ1 n c p f π 0 b → ∃ t σ', t ≤ wX k ∧ (∀ F ρ τ, f_X12_findsWay_L65 K (F + t) (mem ρ τ σ1) 188 (nI q) (nI n) = f_X12_findsWay_L65 K F (mem ρ τ σ') 188 (nI q) (nI n + Int32.ofInt (-1))) ∧ Eqm σ σ' ∧ RB σ' (wayN σ q k n c false p f π b) ∧ Fr n σ1 σ') : ∀ (j s n c : Nat) (p f : Int32) (π : Nat → Int32) (b : Bst) (σ1 : Sg), s + j = 4 → dh (cur σ) c ≤ k + 1 → k + 1 + n ≤ 9 → c < nc (cur σ) → isB f 256 → Hi (cur σ) c (p, n, f, 0) → b.2.1 ≤ 9 → RS σ σ1 n c p f π s b → ∃ t σ', t ≤ 1 + j * (1 + wX k) ∧ (∀ F ρ τ, f_X12_findsWay_L65 K (F + t) (mem ρ τ σ1) 188 (nI q) (nI n) = f_X12_findsWay_L65 K F (mem ρ τ σ') 188 (nI q) (nI n + Int32.ofInt (-1))) ∧ Eqm σ σ' ∧ RB σ' (wayL σ q k n c p f π s j b) ∧ Fr n σ1 σ' := by
  have n48 := hD.n48
  intro j
  induction j with
  | zero =>
    intro s n c p f π b σ1 hs hk hn hc hB hH hb9 hR
    obtain rfl : s = 4 := by omega
    obtain ⟨r1, r2, r3, r4, r5, r6, r7⟩ := hR
    have n11 : n < 11 := by omega
    refine ⟨1, stA σ1 229 n (nI 4), by omega, fun F ρ τ => ?_, r1.trans (eqm_stA _ _ _ (by unfold PerM; omega)), ⟨r7.1, r7.2.1, fun i hi => by rw [stA2, if_neg (by omega)]; exact r7.2.2 i hi⟩, fun i hi => ⟨by rw [stA2, if_neg (by omega)], by rw [stA2, if_neg (by omega)], by rw [stA2, if_neg (by omega)], by rw [stA2, if_neg (by omega)]⟩⟩
    have a9 : (stA σ1 229 n (nI 4)).2.1 229 n = nI 4 := by rw [stA2, if_pos ⟨rfl, rfl⟩]
    rw [f_X12_findsWay_L65, if_neg (show ¬ nI n < 0 from nI_nlt (b := 0) (by omega) (by omega)), mR_59, Option.bind_some, y229_r n11, Option.bind_some, r3, sub_add1, y229_w n11, Option.bind_some, mR_59, Option.bind_some, y229_r n11, Option.bind_some, a9, if_pos (show (4 : Int32) ≤ nI 4 by decide), nm_q, Option.bind_some, y229_r n11, Option.bind_some, a9, if_pos (show nI 4 = 4 from rfl), nm_q]
  | succ j ih =>
    intro s n c p f π b σ1 hs hk hn hc hB hH hb9 hR
    obtain ⟨r1, r2, r3, r4, r5, r6, r7⟩ := hR
    have n11 : n < 11 := by omega
    have n11' : n + 1 < 11 := by omega
    obtain ⟨σa, wa⟩ : ∃ Y : Sg, Y = stA σ1 229 n (nI s) := ⟨_, rfl⟩
    have ea : Eqm σ σa := by rw [wa]; exact r1.trans (eqm_stA _ _ _ (by unfold PerM; omega))
    have a9 : σa.2.1 229 n = nI s := by rw [wa, stA2, if_pos ⟨rfl, rfl⟩]
    have ar : ∀ r, r ≠ 229 → σa.2.1 r = σ1.2.1 r := fun r hr => by rw [wa]; funext i; rw [stA2, if_neg (fun h => hr h.1)]
    have a9' : ∀ i, i ≠ n → σa.2.1 229 i = σ1.2.1 229 i := fun i hi => by rw [wa, stA2, if_neg (fun h => hi h.2)]
    have fra : Fr n σ1 σa := fun i hi => ⟨by rw [ar 228 (by decide)], a9' i (by omega), by rw [ar 230 (by decide)], by rw [ar 231 (by decide)]⟩
    have rba : RB σa b := ⟨by rw [wa]; exact r7.1, by rw [wa]; exact r7.2.1, fun i hi => by rw [ar 232 (by decide)]; exact r7.2.2 i hi⟩
    have h4 : ¬ (4 : Int32) ≤ nI s := nI_ge (b := 4) (by omega) (by decide)
    have h44 : ¬ nI s = (4 : Int32) := fun e => by
      have : nI s = nI 4 := e
      have := (nI_eq (by omega) (by decide)).1 this
      omega
    have head : ∀ F ρ τ, f_X12_findsWay_L65 K (F + 1) (mem ρ τ σ1) 188 (nI q) (nI n) = (if oI (lowD (cur σ) c s) = (-1 : Int32) then f_X12_findsWay_L65 K F (mem ρ τ σa) 188 (nI q) (nI n) else
    ((gR (mem ρ τ σa) 188 12 60).bind fun v71 =>
    ((aI (mem ρ τ σa) v71 0 (nI n)).bind fun v72 =>
    ((pV (mem ρ τ σa) 188 12 49 (.int v72)).bind fun μ73 =>
    ((gR μ73 188 12 61).bind fun v74 =>
    ((aI μ73 v74 0 (nI n)).bind fun v75 =>
    ((pV μ73 188 12 51 (.int v75)).bind fun μ76 =>
    ((pV μ76 188 12 50 (.int (nI n))).bind fun μ77 =>
    ((gR μ77 188 12 2).bind fun v78 =>
    ((gR μ77 188 12 58).bind fun v79 =>
    ((aI μ77 v79 0 (nI n)).bind fun v80 =>
    ((aI μ77 v78 0 v80).bind fun v81 =>
    ((gR μ77 188 12 2).bind fun v82 =>
    ((aI μ77 v82 0 (oI (lowD (cur σ) c s))).bind fun v83 =>
    ((ob μ77 188 12).bind fun _ =>
    (bd (f_X12_comesTo μ77 188 (nI q) (oI (lowD (cur σ) c s)) (v81 - v83)) fun v85 μ84 =>
    (nm v85 fun x86 =>
    (if x86 = 0 then
    ((ob μ84 188 12).bind fun _ =>
    ((f_X12_takesWay μ84 188 (nI q) (nI n + (1 : Int32))).bind fun μ87 =>
    f_X12_findsWay_L65 K F μ87 188 (nI q) (nI n)))
    else
    (nm (nI n + Int32.ofInt (1)) fun x88 =>
    ((gR μ84 188 12 58).bind fun v89 =>
    ((sI μ84 v89 0 x88 (oI (lowD (cur σ) c s))).bind fun μ90 =>
    ((gR μ90 188 12 59).bind fun v91 =>
    ((sI μ90 v91 0 x88 (-1 : Int32)).bind fun μ92 =>
    ((gR μ92 188 12 60).bind fun v93 =>
    ((gI μ92 188 12 49).bind fun v94 =>
    ((sI μ92 v93 0 x88 v94).bind fun μ95 =>
    ((gR μ95 188 12 61).bind fun v96 =>
    ((gI μ95 188 12 51).bind fun v97 =>
    ((sI μ95 v96 0 x88 v97).bind fun μ98 =>
    f_X12_findsWay_L65 K F μ98 188 (nI q) x88)))))))))))))))))))))))))))))  := by
      intro F ρ τ
      rw [f_X12_findsWay_L65, if_neg (show ¬ nI n < 0 from nI_nlt (b := 0) (by omega) (by omega)), mR_59, Option.bind_some, y229_r n11, Option.bind_some, r3, sub_add1, y229_w n11, Option.bind_some, ← wa, mR_59, Option.bind_some, y229_r n11, Option.bind_some, a9, if_neg h4, mR_58, Option.bind_some, y228_r n11, Option.bind_some, Option.bind_some, y229_r n11, Option.bind_some, a9, ar 228 (by decide), r2, ob_mem, Option.bind_some, s_lowX hD ea hc (by omega), bd_some, nm_q, mR_59, Option.bind_some, y229_r n11, Option.bind_some, a9, if_neg h44]
    cases hw : lowD (cur σ) c s with
    | none =>
      have es : wayS σ q k n c p f π s b = b := by unfold wayS; rw [hw]
      obtain ⟨t, σ', z1, z2, z3, z4, z5⟩ := ih (s + 1) n c p f π b σa (by omega) hk hn hc hB hH hb9 ⟨ea, by rw [ar 228 (by decide)]; exact r2, by rw [a9, nI_pred], by rw [ar 230 (by decide)]; exact r4, by rw [ar 231 (by decide)]; exact r5, fun i hi => by rw [a9' i (by omega)]; exact r6 i hi, rba⟩
      refine ⟨t + 1, σ', ?_, fun F ρ τ => ?_, z3, by rw [wayL, es]; exact z4, fra.trans z5⟩
      · have : (j + 1) * (1 + wX k) = j * (1 + wX k) + (1 + wX k) := Nat.succ_mul _ _
        omega
      · rw [show F + (t + 1) = (F + t) + 1 by omega, head, hw, if_pos (show oI none = -1 from rfl)]
        exact z2 F ρ τ
    | some e =>
      have he := low_lt (hD.c0 hc) hc hw
      have e48 : e < 48 := Nat.lt_of_lt_of_le he.1 n48
      have c48 : c < 48 := Nat.lt_of_lt_of_le hc n48
      obtain ⟨σx, wx⟩ : ∃ Y : Sg, Y = stI (stI (stI σa 49 p) 51 f) 50 (nI n) := ⟨_, rfl⟩
      have ex : Eqm σ σx := by rw [wx]; exact ((ea.trans (eqm_stI _ _ (by omega))).trans (eqm_stI _ _ (by omega))).trans (eqm_stI _ _ (by omega))
      have x2 : σx.2.1 = σa.2.1 := by rw [wx]; rfl
      have xj : ∀ j, j ≠ 49 → j ≠ 50 → j ≠ 51 → σx.1 j = σa.1 j := fun j u v w => by rw [wx, stI1, if_neg v, stI1, if_neg w, stI1, if_neg u]
      have cx : cur σx = cur σ := ex.cu
      have rx : RX σx σx (p, n, f, σx.1 52) := ⟨rfl, fun _ _ _ _ _ => rfl, by rw [wx, stI1, if_neg (by decide), stI1, if_neg (by decide), stI1, if_pos rfl], by rw [wx, stI1, if_pos rfl], by rw [wx, stI1, if_neg (by decide), stI1, if_pos rfl], rfl, fun _ _ _ => rfl⟩
      obtain ⟨σ2, g1, g2⟩ := s_comesTo (x := (p, n, f, σx.1 52)) (c := e) (d := c) (q := q) (by rw [cx]; exact hD) (sm_RLw ex.sm hL) (by rw [cx]; exact hq) (by rw [cx]; exact he.1) hB (by rw [cx]; exact hH) (by rw [cx]; exact he.2) rx
      rw [cx] at g1
      rw [sm_stpF ex.sm] at g2
      have st := stpF_l σ q c e (x := (p, n, f, σx.1 52)) (y := (p, n, f, 0)) ⟨rfl, rfl, rfl⟩
      have q49 : σ2.1 49 = (stpF σ q c e (p, n, f, 0)).1 := g2.2.2.1.trans st.1
      have q51 : σ2.1 51 = (stpF σ q c e (p, n, f, 0)).2.2.1 := g2.2.2.2.2.1.trans st.2.2
      have e2 : Eqm σ σ2 := ex.trans g2.eqm
      have q2 : σ2.2.1 = σa.2.1 := g2.1.trans x2
      have qj : ∀ j, j ≠ 49 → j ≠ 50 → j ≠ 51 → j ≠ 52 → σ2.1 j = σa.1 j := fun j u v w y => (g2.2.1 j u v w y).trans (xj j u v w)
      have rb2 : RB σ2 b := ⟨by rw [qj 63 (by decide) (by decide) (by decide) (by decide)]; exact rba.1, by intro h; rw [qj 64 (by decide) (by decide) (by decide) (by decide)]; exact rba.2.1 h, fun i hi => by rw [q2]; exact rba.2.2 i hi⟩
      have B2 : isB (stpF σ q c e (p, n, f, 0)).2.2.1 256 := stpF_8 (x := (p, n, f, 0)) hD hB
      have H2 : Hi (cur σ) e (stpF σ q c e (p, n, f, 0)) := hH.stp hD he.1 he.2
      have p2 : ∀ i, i < n + 1 → σ2.2.1 229 i = upd π n (nI s) i := by
        intro i hi
        rw [q2]
        by_cases ei : i = n
        · rw [ei, a9, pk_us]
        · rw [a9' i ei, pk_un ei]; exact r6 i (by omega)
      have es : wayS σ q k n c p f π s b = wayN σ q k (n + 1) e (netB (cur σ) e) (stpF σ q c e (p, n, f, 0)).1 (stpF σ q c e (p, n, f, 0)).2.2.1 (upd π n (nI s)) b := by unfold wayS; rw [hw]
      have head2 : ∀ F ρ τ, f_X12_findsWay_L65 K (F + 1) (mem ρ τ σ1) 188 (nI q) (nI n) = (if onI (if netB (cur σ) e then none else ldD (cur σ) e) = 0 then
    ((ob (mem ρ τ σ2) 188 12).bind fun _ =>
    ((f_X12_takesWay (mem ρ τ σ2) 188 (nI q) (nI n + (1 : Int32))).bind fun μ87 =>
    f_X12_findsWay_L65 K F μ87 188 (nI q) (nI n)))
    else
    (nm (nI n + Int32.ofInt (1)) fun x88 =>
    ((gR (mem ρ τ σ2) 188 12 58).bind fun v89 =>
    ((sI (mem ρ τ σ2) v89 0 x88 (nI e)).bind fun μ90 =>
    ((gR μ90 188 12 59).bind fun v91 =>
    ((sI μ90 v91 0 x88 (-1 : Int32)).bind fun μ92 =>
    ((gR μ92 188 12 60).bind fun v93 =>
    ((gI μ92 188 12 49).bind fun v94 =>
    ((sI μ92 v93 0 x88 v94).bind fun μ95 =>
    ((gR μ95 188 12 61).bind fun v96 =>
    ((gI μ95 188 12 51).bind fun v97 =>
    ((sI μ95 v96 0 x88 v97).bind fun μ98 =>
    f_X12_findsWay_L65 K F μ98 188 (nI q) x88)))))))))))) := by
        intro F ρ τ
        have hcx : aI (mem ρ τ σx) 190 0 (nI c) = some (nI (dh (cur σ) c)) := by
          rw [y190_r c48, ex.2.2.2.2 190 (by unfold PerM; omega), ← cu_190 c48, hD.hh c c48]
        have hex : aI (mem ρ τ σx) 190 0 (nI e) = some (nI (dh (cur σ) e)) := by
          rw [y190_r e48, ex.2.2.2.2 190 (by unfold PerM; omega), ← cu_190 e48, hD.hh e e48]
        rw [head, hw, show oI (some e) = nI e from rfl, if_neg (nI_nm1 (by omega)), mR_60, Option.bind_some, y230_r n11, Option.bind_some, ar 230 (by decide), r4, mP_49, Option.bind_some, mR_61, Option.bind_some, y231_r n11, Option.bind_some, show (stI σa 49 p).2.1 231 n = f by rw [stI2, ar 231 (by decide)]; exact r5, mP_51, Option.bind_some, mP_50, Option.bind_some, ← wx, mR_2, Option.bind_some, mR_58, Option.bind_some, y228_r n11, Option.bind_some, show σx.2.1 228 n = nI c by rw [x2, ar 228 (by decide)]; exact r2, hcx, Option.bind_some, Option.bind_some, hex, Option.bind_some, ob_mem, Option.bind_some, g1, bd_some, nm_q]
      have fin : ∀ (b' : Bst) (σ3 : Sg) (t1 : Nat), t1 ≤ wX k → b'.2.1 ≤ 9 → b' = wayS σ q k n c p f π s b → Eqm σ σ3 → RB σ3 b' → σ3.2.1 228 n = nI c → σ3.2.1 229 n = nI s → σ3.2.1 230 n = p → σ3.2.1 231 n = f → Fr n σ2 σ3 → (∀ F ρ τ, f_X12_findsWay_L65 K (F + t1 + 1) (mem ρ τ σ1) 188 (nI q) (nI n) = f_X12_findsWay_L65 K F (mem ρ τ σ3) 188 (nI q) (nI n)) → ∃ t σ', t ≤ 1 + (j + 1) * (1 + wX k) ∧ (∀ F ρ τ, f_X12_findsWay_L65 K (F + t) (mem ρ τ σ1) 188 (nI q) (nI n) = f_X12_findsWay_L65 K F (mem ρ τ σ') 188 (nI q) (nI n + Int32.ofInt (-1))) ∧ Eqm σ σ' ∧ RB σ' (wayL σ q k n c p f π s (j + 1) b) ∧ Fr n σ1 σ' := by
        intro b' σ3 t1 ht1 hb' eb' e3 rb3 v228 v229 v230 v231 fr3 run
        have fr13 : Fr n σ1 σ3 := by
          intro i hi
          obtain ⟨y1, y2, y3, y4⟩ := fr3 i hi
          obtain ⟨u1, u2, u3, u4⟩ := fra i hi
          rw [q2] at y1 y2 y3 y4
          exact ⟨y1.trans u1, y2.trans u2, y3.trans u3, y4.trans u4⟩
        obtain ⟨t, σ', z1, z2, z3, z4, z5⟩ := ih (s + 1) n c p f π b' σ3 (by omega) hk hn hc hB hH hb' ⟨e3, v228, by rw [v229, nI_pred], v230, v231, fun i hi => by rw [(fr13 i hi).2.1]; exact r6 i hi, rb3⟩
        refine ⟨t + t1 + 1, σ', ?_, fun F ρ τ => ?_, z3, by rw [wayL, ← eb']; exact z4, fr13.trans z5⟩
        · have : (j + 1) * (1 + wX k) = j * (1 + wX k) + (1 + wX k) := Nat.succ_mul _ _
          omega
        · rw [show F + (t + t1 + 1) = (F + t) + t1 + 1 by omega, run]
          exact z2 F ρ τ
      by_cases hon : netB (cur σ) e = true ∨ ldD (cur σ) e = none
      · have on0 : onI (if netB (cur σ) e then none else ldD (cur σ) e) = 0 := by
          rcases hon with h | h
          · rw [h]; rfl
          · rw [h]; cases netB (cur σ) e <;> rfl
        have ewN : wayN σ q k (n + 1) e (netB (cur σ) e) (stpF σ q c e (p, n, f, 0)).1 (stpF σ q c e (p, n, f, 0)).2.2.1 (upd π n (nI s)) b = tkW b (wayW σ q (stpF σ q c e (p, n, f, 0)).2.2.1) (n + 1) (upd π n (nI s)) := by
          cases k with
          | zero => rw [wayN]
          | succ k =>
            rw [wayN_s, if_pos]
            rcases hon with h | h
            · rw [h]; rfl
            · rw [h]; cases netB (cur σ) e <;> rfl
        obtain ⟨σ3, t1, t2, t3, t4⟩ := s_takes (q := q) (π := upd π n (nI s)) hD e2 q51 (show n + 1 ≤ 10 by omega) rb2 hb9 p2
        have e3 : Eqm σ σ3 := e2.trans ⟨t3 28 (by decide) (by decide), t3 32 (by decide) (by decide), t3 37 (by decide) (by decide), t3 55 (by decide) (by decide), fun r hr => t4 r (by unfold PerM at hr; omega)⟩
        refine fin _ σ3 0 (Nat.zero_le _) (tkW_9 hb9 (by omega)) (by rw [es, ewN]) e3 t2 ?_ ?_ ?_ ?_ ?_ (fun F ρ τ => ?_)
        · rw [t4 228 (by decide), q2, ar 228 (by decide)]; exact r2
        · rw [t4 229 (by decide), q2]; exact a9
        · rw [t4 230 (by decide), q2, ar 230 (by decide)]; exact r4
        · rw [t4 231 (by decide), q2, ar 231 (by decide)]; exact r5
        · intro i hi; rw [t4 228 (by decide), t4 229 (by decide), t4 230 (by decide), t4 231 (by decide)]; exact ⟨rfl, rfl, rfl, rfl⟩
        · rw [show F + 0 + 1 = F + 1 by omega, head2, if_pos on0, ob_mem, Option.bind_some, lit_1, nI_add, t1, Option.bind_some]
      · have hnet : netB (cur σ) e = false := by
          cases h : netB (cur σ) e
          · rfl
          · exact absurd (.inl h) hon
        have hl0 : (ldD (cur σ) e).isNone = false := by
          cases h : ldD (cur σ) e with
          | none => exact absurd (.inr h) hon
          | some z => rfl
        have on1 : ¬ onI (if netB (cur σ) e then none else ldD (cur σ) e) = 0 := by
          rw [hnet]
          cases h : ldD (cur σ) e with
          | none => exact absurd (.inr h) hon
          | some z => exact (by decide : ¬ (1 : Int32) = 0)
        have hpos : 0 < dh (cur σ) e := by
          cases h : ldD (cur σ) e with
          | none => exact absurd (.inr h) hon
          | some z => have := (lead_lt (hD.c0 hc) he.1 h).2; omega
        obtain ⟨σ4, w4⟩ : ∃ Y : Sg, Y = stA (stA (stA (stA σ2 228 (n + 1) (nI e)) 229 (n + 1) (-1)) 230 (n + 1) (stpF σ q c e (p, n, f, 0)).1) 231 (n + 1) (stpF σ q c e (p, n, f, 0)).2.2.1 := ⟨_, rfl⟩
        have e4 : Eqm σ σ4 := by
          rw [w4]
          exact (((e2.trans (eqm_stA _ _ _ (by unfold PerM; omega))).trans (eqm_stA _ _ _ (by unfold PerM; omega))).trans (eqm_stA _ _ _ (by unfold PerM; omega))).trans (eqm_stA _ _ _ (by unfold PerM; omega))
        have f4 : Fr (n + 1) σ2 σ4 := by
          intro i hi
          rw [w4]
          refine ⟨?_, ?_, ?_, ?_⟩
          · rw [stA2, if_neg (by omega), stA2, if_neg (by omega), stA2, if_neg (by omega), stA2, if_neg (by omega)]
          · rw [stA2, if_neg (by omega), stA2, if_neg (by omega), stA2, if_neg (by omega), stA2, if_neg (by omega)]
          · rw [stA2, if_neg (by omega), stA2, if_neg (by omega), stA2, if_neg (by omega), stA2, if_neg (by omega)]
          · rw [stA2, if_neg (by omega), stA2, if_neg (by omega), stA2, if_neg (by omega), stA2, if_neg (by omega)]
        have rs4 : RS σ σ4 (n + 1) e (stpF σ q c e (p, n, f, 0)).1 (stpF σ q c e (p, n, f, 0)).2.2.1 (upd π n (nI s)) 0 b := by
          refine ⟨e4, ?_, ?_, ?_, ?_, fun i hi => by rw [(f4 i hi).2.1]; exact p2 i hi, ⟨?_, ?_, fun i hi => ?_⟩⟩
          · rw [w4, stA2, if_neg (by omega), stA2, if_neg (by omega), stA2, if_neg (by omega), stA2, if_pos ⟨rfl, rfl⟩]
          · rw [w4, stA2, if_neg (by omega), stA2, if_neg (by omega), stA2, if_pos ⟨rfl, rfl⟩]; rfl
          · rw [w4, stA2, if_neg (by omega), stA2, if_pos ⟨rfl, rfl⟩]
          · rw [w4, stA2, if_pos ⟨rfl, rfl⟩]
          · rw [w4]; exact rb2.1
          · rw [w4]; exact rb2.2.1
          · rw [w4, stA2, if_neg (by omega), stA2, if_neg (by omega), stA2, if_neg (by omega), stA2, if_neg (by omega)]; exact rb2.2.2 i hi
        obtain ⟨t1, σ5, d1, d2, d3, d4, d5⟩ := child (n + 1) e _ _ (upd π n (nI s)) b σ4 (by omega) hpos (by omega) he.1 hnet hl0 B2 (fun t ht hb => H2 t ht hb) hb9 rs4
        have f25 := f4.trans d5
        refine fin _ σ5 t1 d1 (wayN_9 σ q k (n + 1) e false _ _ _ b (by omega) hb9) (by rw [es, hnet]) d3 d4 ?_ ?_ ?_ ?_ (fun i hi => f25 i (by omega)) (fun F ρ τ => ?_)
        · rw [(f25 n (by omega)).1, q2, ar 228 (by decide)]; exact r2
        · rw [(f25 n (by omega)).2.1, q2]; exact a9
        · rw [(f25 n (by omega)).2.2.1, q2, ar 230 (by decide)]; exact r4
        · rw [(f25 n (by omega)).2.2.2, q2, ar 231 (by decide)]; exact r5
        · have z := d2 F ρ τ
          rw [oinm1, nI_pm] at z
          rw [head2, if_neg on1, nm_q, oin1, nI_add, mR_58, Option.bind_some, y228_w n11', Option.bind_some, mR_59, Option.bind_some, y229_w n11', Option.bind_some, mR_60, Option.bind_some, mI_49, Option.bind_some, stA1, stA1, q49, y230_w n11', Option.bind_some, mR_61, Option.bind_some, mI_51, Option.bind_some, stA1, stA1, stA1, q51, y231_w n11', Option.bind_some, ← w4]
          exact z
end FINDS
