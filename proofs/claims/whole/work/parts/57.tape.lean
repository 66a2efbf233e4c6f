/-! Clues and the tape. -/
theorem fb_rng (x : Int32) : -2147483648 ≤ x.toInt ∧ x.toInt < 2147483648 := by
  have h1 := Int32.le_toInt x
  have h2 := Int32.toInt_lt x
  omega
theorem fb_bmod {z : Int} (h1 : -2147483648 ≤ z) (h2 : z < 2147483648) : z.bmod (2 ^ 32) = z := by
  rw [Int.bmod_eq_of_le (by omega) (by omega)]
theorem fb_byte {x : Int32} (h1 : -128 ≤ x.toInt) (h2 : x.toInt < 128) : x.toInt8.toInt32 = x := by
  apply Int32.toInt_inj.1
  rw [Int8.toInt_toInt32, Int32.toInt_toInt8, Int.bmod_eq_of_le (by omega) (by omega)]
theorem fb_byte_rng (x : Int32) : -128 ≤ x.toInt8.toInt32.toInt ∧ x.toInt8.toInt32.toInt < 128 := by
  rw [Int8.toInt_toInt32]
  have h1 := Int8.le_toInt x.toInt8
  have h2 := Int8.toInt_lt x.toInt8
  omega
theorem fb_byte_twice (x : Int32) : x.toInt8.toInt32.toInt8.toInt32 = x.toInt8.toInt32 := fb_byte (fb_byte_rng x).1 (fb_byte_rng x).2
abbrev Nt (S : Nat → Nat × Nat × Nat) : Nat → Prop := fun r => Ns S r ∧ ¬ (r = 129 ∨ r = 130 ∨ r = 131 ∨ 147 ≤ r ∧ r ≤ 152)
def Eqt (σ σ' : Sg) : Prop := (∀ k, k = 32 ∨ k = 37 ∨ k = 55 → σ'.1 k = σ.1 k) ∧ ∀ r, (189 ≤ r ∧ r ≤ 202) ∨ (216 ≤ r ∧ r ≤ 221) ∨ r = 223 ∨ r = 226 ∨ r = 240 ∨ r = 241 → σ'.2.1 r = σ.2.1 r
theorem REL.tp {n nr : Nat} {S : Nat → Nat × Nat × Nat} {T T' : Tc} {σ σ' : Sg} (h : REL n S T σ nr) (hT : agr (Nt S) T T') (hσ : Eqt σ σ') (hTP : TP T' σ') : REL n S T' σ' nr := by
  obtain ⟨⟨a1, a2, a3, a4, a5, a6, a7, a8⟩, -, hR, hI, hD, hS⟩ := h
  have q28 := hT 128 ⟨ns_f (by omega) (by intro e; cases e), by omega⟩
  have q53 := hT 153 ⟨ns_f (by omega) (by intro e; cases e), by omega⟩
  have q73 := hT 173 ⟨ns_f (by omega) (by intro e; cases e), by omega⟩
  have q60 := hT 160 ⟨ns_f (by omega) (by intro e; cases e), by omega⟩
  have ec : cur σ' = cur σ := by
    funext r i
    unfold cur
    by_cases h1 : i < dlen r
    · rw [if_pos h1, if_pos h1]
      by_cases h2 : r = 0
      · rw [if_pos h2, if_pos h2, hσ.1 55 (by omega)]
      · rw [if_neg h2, if_neg h2]
        by_cases h3 : r = 226 ∨ 189 ≤ r ∧ r ≤ 202
        · rw [hσ.2 r (by omega)]
        · exfalso
          unfold dlen at h1
          rw [if_neg h2, if_neg (by omega), if_neg (by omega)] at h1
          omega
    · rw [if_neg h1, if_neg h1]
  have ei : ∀ k, img σ' k = img σ k := by
    intro k; funext r i; unfold img; rw [hσ.2 240 (by omega)]
  refine ⟨⟨a1, ?_, ?_, ?_, ?_, ?_, ?_, ?_⟩, hTP, ?_, ?_, ?_, ?_⟩
  · rw [q28.1]; exact a2
  · rw [hσ.1 32 (by omega)]; exact a3
  · rw [hσ.1 37 (by omega)]; exact a4
  · rw [q53.1]; exact a5
  · rw [q53.1]; exact a6
  · rw [q53.1]; exact a7
  · rw [q73.2.2.2.2]; exact a8
  · intro k hk
    obtain ⟨a, l, m, c1, c2⟩ := hR k hk
    refine ⟨a, l, m, by rw [q60.2.2.2.2]; exact c1, ?_⟩
    have p := fun r hr => hσ.2 r hr
    refine c2.ext c2.rv hT ⟨c2.rv.ns 0 (by decide) (by decide), by have := c2.rv.loc; omega⟩ (fun j h2 h7 => ⟨c2.rv.ns j h7 (by omega), by have := c2.rv.loc; omega⟩) ?_ ?_ ?_ ?_
    · rw [p 218 (by omega)]
    · intro i _; rw [p 216 (by omega), p 217 (by omega)]; exact ⟨rfl, rfl⟩
    · intro i _; rw [p 219 (by omega), p 220 (by omega), p 221 (by omega), p 223 (by omega)]; exact ⟨rfl, rfl, rfl, rfl⟩
    · intro i k w _ st; rw [p 216 (by omega), p 217 (by omega)]
  · intro k hk
    rcases hI k hk with ⟨c1, c2⟩ | ⟨c1, a, c2, c3, c4, c5⟩
    · left
      rw [q73.2.2.2.2, hσ.2 241 (by omega)]
      exact ⟨c1, c2⟩
    · right
      rw [q73.2.2.2.2, hσ.2 241 (by omega), ei]
      exact ⟨c1, a, c2, c3, c4.ext c4.sv c4.la.gv hT (fun j hj => ⟨c4.sv.ns (by omega) j hj, by omega⟩) (fun j hj => ⟨c4.la.gv.ns j hj, by have := c4.la.gv.loc; omega⟩), c5⟩
  · rw [ec]; exact hD
  · rw [ec]
    exact hS.ext hS.sv hS.la.gv hT (fun j hj => ⟨hS.sv.ns (by decide) j hj, by omega⟩) (fun j hj => ⟨hS.la.gv.ns j hj, by have := hS.la.gv.loc; omega⟩)

theorem byt_cast (z : Int32) : ∃ b, b < 256 ∧ narT 1 z.toInt8.toInt32 = byt b := by
  refine ⟨z.toBitVec.toNat % 256, Nat.mod_lt _ (by decide), ?_⟩
  have h : ∀ x, narT 1 x = x.toInt8.toInt32 := fun x => rfl
  unfold byt
  rw [h, h]
  have e : z.toInt8 = (nI (z.toBitVec.toNat % 256)).toInt8 := by
    apply Int8.toBitVec_inj.mp
    rw [Int32.toBitVec_toInt8, Int32.toBitVec_toInt8]
    apply BitVec.eq_of_getLsbD_eq
    intro i hi
    rw [BitVec.getLsbD_signExtend, BitVec.getLsbD_signExtend, if_pos (by omega), if_pos (by omega)]
    have e1 : (nI (z.toBitVec.toNat % 256)).toBitVec.getLsbD i = (z.toBitVec.toNat % 256).testBit i := by
      show (BitVec.ofNat 32 _).getLsbD i = _
      rw [BitVec.getLsbD_ofNat, decide_eq_true (show i < 32 by omega), Bool.true_and]
    rw [e1, show (256 : Nat) = 2 ^ 8 from rfl, Nat.testBit_mod_two_pow, decide_eq_true hi, Bool.true_and]
    rfl
  rw [← e, fb_byte_twice]
theorem op_end (x : Int32) : OpR (fun μ => f_X11_end μ 128 x) (fun μ => f_X12_end μ 188 x) := by
  refine OpR.s fun n sl U S T σ nr hR => ?_
  have hR' := hR
  obtain ⟨hN, ⟨L, l1, l2, l3, l4⟩, hRU, hIM, hD, hS⟩ := hR
  unfold f_X11_end f_X12_end
  simp only [x128_0, Option.bind_some, x129_1, x129_1p, l2, l3, mI_28, mP_28]
  by_cases h1 : x < 0
  · simp only [if_pos h1]
    exact ⟨-1, T, σ, rfl, fun _ _ => rfl, hR'⟩
  · simp only [if_neg h1]
    by_cases h2 : x ≤ nI L
    · simp only [if_pos h2]
      obtain ⟨j, j1, rfl⟩ := nI_of h1
      have j2 : j ≤ L := (nI_leI j1 (by omega)).1 h2
      refine ⟨nI j, tI T 129 1 (nI j), stI σ 28 (nI j), rfl, fun _ _ => rfl, hR'.tp (agr_tI _ _ (fun h => h.2 (by omega))) ⟨fun k hk => by rw [stI1, if_neg (by omega)], fun r hr => rfl⟩ ⟨j, by omega, ?_, ?_, ?_⟩⟩
      · rw [tI1, if_pos ⟨rfl, rfl⟩]
      · rw [stI1, if_pos rfl]
      · intro i hi; exact l4 i (by omega)
    · simp only [if_neg h2]
      exact ⟨-1, T, σ, rfl, fun _ _ => rfl, hR'⟩
/-- four bytes behind one another -/
def ap4 (f : Nat → Int32) (L : Nat) (x : Int32) : Nat → Nat → Int32
  | 0 => f
  | k + 1 => upd (ap4 f L x k) (L + k) (narT 1 (x >>> ((24 - 8 * nI k) &&& 31)).toInt8.toInt32)
theorem ap4_lt (f : Nat → Int32) (L : Nat) (x : Int32) {i : Nat} (hi : i < L) : ∀ k, ap4 f L x k i = f i
  | 0 => rfl
  | k + 1 => by rw [ap4, pk_un (by omega)]; exact ap4_lt f L x hi k
theorem ap4_eq {f g : Nat → Int32} (L : Nat) (x : Int32) : ∀ (k i : Nat), L ≤ i → i < L + k → ∃ b, b < 256 ∧ ap4 f L x k i = byt b ∧ ap4 g L x k i = byt b
  | 0, i, h1, h2 => by omega
  | k + 1, i, h1, h2 => by
    rw [ap4, ap4]
    by_cases e : i = L + k
    · subst e
      rw [pk_us, pk_us]
      obtain ⟨b, h3, h4⟩ := byt_cast (x >>> ((24 - 8 * nI k) &&& 31))
      exact ⟨b, h3, h4, h4⟩
    · rw [pk_un e, pk_un e]
      exact ap4_eq L x k i h1 (by omega)
theorem sub8 : ∀ k, k < 4 → 24 - 8 * nI k + Int32.ofInt (-8) = 24 - 8 * nI (k + 1) ∧ ¬ (24 - 8 * nI k) < 0 := by decide +kernel
theorem c_append {n sl : Nat} {U : Nat → va_E} {S : Nat → Nat × Nat × Nat} {T : Tc} {σ : Sg} {L : Nat} (hL : L + 4 ≤ 400) (h1 : T.1 129 1 = nI L) (x : Int32) : f_X9_append (cn n sl U S T σ) 129 x = some (cn n sl U S (tI (tF T 130 (ap4 (T.2.1 130) L x 4)) 129 1 (nI (L + 4))) σ) := by
  unfold f_X9_append
  simp only [nm]
  have key : ∀ (K : Mm → Option Mm) (k m : Nat), k ≤ 4 → 4 - k < m → f_X9_append_L3 K m (cn n sl U S (tI (tF T 130 (ap4 (T.2.1 130) L x k)) 129 1 (nI (L + k))) σ) 129 x (24 - 8 * nI k) = K (cn n sl U S (tI (tF T 130 (ap4 (T.2.1 130) L x 4)) 129 1 (nI (L + 4))) σ) := by
    intro K
    refine lpU (fun m k => f_X9_append_L3 K m (cn n sl U S (tI (tF T 130 (ap4 (T.2.1 130) L x k)) 129 1 (nI (L + k))) σ) 129 x (24 - 8 * nI k) = K (cn n sl U S (tI (tF T 130 (ap4 (T.2.1 130) L x 4)) 129 1 (nI (L + 4))) σ)) 4 ?_ ?_
    · intro m
      rw [f_X9_append_L3, if_pos (by decide)]
    · intro m k hk ih
      rw [f_X9_append_L3, if_neg (sub8 k hk).2]
      have e1 : (tI (tF T 130 (ap4 (T.2.1 130) L x k)) 129 1 (nI (L + k))).1 129 1 = nI (L + k) := by rw [tI1, if_pos ⟨rfl, rfl⟩]
      simp only [x129_1, x129_0, x130_n, Option.bind_some, e1, nm, (sub8 k hk).1]
      rw [if_neg (show ¬ nI 400 ≤ nI (L + k) from nI_ge (by omega) (by decide))]
      simp only [x130_w (show L + k < 400 by omega), Option.bind_some, x129_1, x129_1p, tA1, e1, nI_1]
      have e2 : tI (tA (tI (tF T 130 (ap4 (T.2.1 130) L x k)) 129 1 (nI (L + k))) 130 (L + k) (narT 1 (x >>> ((24 - 8 * nI k) &&& 31)).toInt8.toInt32)) 129 1 (nI (L + k + 1)) = tI (tF T 130 (ap4 (T.2.1 130) L x (k + 1))) 129 1 (nI (L + (k + 1))) := by
        refine Prod.ext ?_ (Prod.ext ?_ rfl)
        · funext r j
          rw [tI1, tI1, tA1, tI1, show L + k + 1 = L + (k + 1) by omega]
          by_cases e : r = 129 ∧ j = 1
          · rw [if_pos e, if_pos e]
          · rw [if_neg e, if_neg e, if_neg e]; rfl
        · funext r j
          rw [tI2, tI2, tA2, tI2, tF2, tF2, ap4]
          by_cases e : r = 130
          · subst e
            rw [if_pos rfl, if_pos rfl]
            by_cases e2 : j = L + k
            · subst e2; rw [if_pos ⟨rfl, rfl⟩, pk_us]
            · rw [if_neg (fun h => e2 h.2), pk_un e2]
          · rw [if_neg (fun h => e h.1), if_neg e, if_neg e]
      rw [e2]
      exact ih
  have z := key (fun μ17 => some μ17) 0 FU (by omega) (FUb (by omega))
  have e0 : tI (tF T 130 (ap4 (T.2.1 130) L x 0)) 129 1 (nI (L + 0)) = T := by
    refine Prod.ext ?_ (Prod.ext ?_ rfl)
    · funext r j
      rw [tI1]
      by_cases e : r = 129 ∧ j = 1
      · rw [if_pos e, e.1, e.2, Nat.add_zero, h1]
      · rw [if_neg e]; rfl
    · funext r
      rw [tI2, tF2]
      by_cases e : r = 130
      · rw [if_pos e, e]; rfl
      · rw [if_neg e]
  rw [e0] at z
  exact z
theorem s_append {ρ : Mm} {τ : Nat → va_E} {σ : Sg} {L : Nat} (hL : L + 4 ≤ 400) (h1 : σ.1 28 = nI L) (x : Int32) : f_X12_put (mem ρ τ σ) 188 x = some (mem ρ τ (va_up σ.1 28 (nI (L + 4)), va_up σ.2.1 215 (ap4 (σ.2.1 215) L x 4), σ.2.2)) := by
  unfold f_X12_put
  simp only [nm]
  have key : ∀ (K : Mm → Option Mm) (k m : Nat), k ≤ 4 → 4 - k < m → f_X12_put_L3 K m (mem ρ τ (va_up σ.1 28 (nI (L + k)), va_up σ.2.1 215 (ap4 (σ.2.1 215) L x k), σ.2.2)) 188 x (24 - 8 * nI k) = K (mem ρ τ (va_up σ.1 28 (nI (L + 4)), va_up σ.2.1 215 (ap4 (σ.2.1 215) L x 4), σ.2.2)) := by
    intro K
    refine lpU (fun m k => f_X12_put_L3 K m (mem ρ τ (va_up σ.1 28 (nI (L + k)), va_up σ.2.1 215 (ap4 (σ.2.1 215) L x k), σ.2.2)) 188 x (24 - 8 * nI k) = K (mem ρ τ (va_up σ.1 28 (nI (L + 4)), va_up σ.2.1 215 (ap4 (σ.2.1 215) L x 4), σ.2.2))) 4 ?_ ?_
    · intro m
      rw [f_X12_put_L3, if_pos (by decide)]
    · intro m k hk ih
      rw [f_X12_put_L3, if_neg (sub8 k hk).2]
      simp only [mR_38, mI_28, Option.bind_some, va_up_self, y215_w (show L + k < 400 by omega), nm, (sub8 k hk).1, stA1, mP_28, nI_1]
      have e2 : stI (stA (va_up σ.1 28 (nI (L + k)), va_up σ.2.1 215 (ap4 (σ.2.1 215) L x k), σ.2.2) 215 (L + k) (narT 1 (x >>> ((24 - 8 * nI k) &&& 31)).toInt8.toInt32)) 28 (nI (L + k + 1)) = (va_up σ.1 28 (nI (L + (k + 1))), va_up σ.2.1 215 (ap4 (σ.2.1 215) L x (k + 1)), σ.2.2) := by
        unfold stI stA
        show (va_up (va_up σ.1 28 _) 28 _, va_up (va_up σ.2.1 215 _) 215 (upd (va_up σ.2.1 215 (ap4 (σ.2.1 215) L x k) 215) (L + k) _), σ.2.2) = _
        rw [va_uu, va_uu, va_up_self]; rfl
      rw [e2]
      exact ih
  have z := key (fun μ17 => some μ17) 0 FU (by omega) (FUb (by omega))
  have e0 : va_up σ.1 28 (nI (L + 0)) = σ.1 := by rw [Nat.add_zero, ← h1, va_id]
  have e1 : va_up σ.2.1 215 (ap4 (σ.2.1 215) L x 0) = σ.2.1 := va_id _ _
  rw [e0, e1] at z
  exact z
/-- one number more on both tapes -/
theorem feed1 {n sl nr : Nat} {U : Nat → va_E} {S : Nat → Nat × Nat × Nat} {T : Tc} {σ σ0 : Sg} {L : Nat} (hL : L + 4 ≤ 400) (hR : REL n S T σ nr) (hT : T.1 129 1 = nI L) (hs : σ.1 28 = nI L) (x : Int32) : ∃ T' σ', f_X9_append (cn n sl U S T σ0) 129 x = some (cn n sl U S T' σ0) ∧ (∀ ρ τ, f_X12_put (mem ρ τ σ) 188 x = some (mem ρ τ σ')) ∧ REL n S T' σ' nr ∧ T'.1 129 1 = nI (L + 4) ∧ σ'.1 28 = nI (L + 4) := by
  refine ⟨_, _, c_append hL hT x, fun _ _ => s_append hL hs x, ?_, ?_, ?_⟩
  · obtain ⟨hN, ⟨L', l1, l2, l3, l4⟩, -⟩ := id hR
    have : L' = L := (nI_eq (by omega) (by omega)).1 (l2.symm.trans hT)
    subst this
    refine hR.tp ((agr_tF _ (fun h => h.2 (by omega))).trans (agr_tI _ _ (fun h => h.2 (by omega)))) ⟨fun k hk => va_up_ne _ _ (by omega), fun r hr => va_up_ne _ _ (by omega)⟩ ⟨L' + 4, hL, ?_, ?_, ?_⟩
    · rw [tI1, if_pos ⟨rfl, rfl⟩]
    · exact va_up_self σ.1 28 _
    · intro i hi
      rw [tI2, tF2, if_pos rfl]
      show ∃ b, b < 256 ∧ _ ∧ va_up σ.2.1 215 (ap4 (σ.2.1 215) L' x 4) 215 i = _
      rw [va_up_self]
      by_cases h : i < L'
      · rw [ap4_lt _ _ _ h, ap4_lt _ _ _ h]; exact l4 i h
      · exact ap4_eq L' x 4 i (by omega) (by omega)
  · rw [tI1, if_pos ⟨rfl, rfl⟩]
  · exact va_up_self σ.1 28 _
theorem op_feed (a b c d e : Int32) : OpR (fun μ => f_X11_feed μ 128 a b c d e) (fun μ => f_X12_feed μ 188 a b c d e) := by
  refine OpR.s fun n sl U S T σ nr hR => ?_
  obtain ⟨hN, ⟨L, l1, l2, l3, l4⟩, -⟩ := id hR
  unfold f_X11_feed f_X12_feed
  simp only [x128_0, x129_o, Option.bind_some, x129_1, l2, l3, mI_28, ob_mem]
  have e20 : nI L + 20 = nI (L + 20) := nI_add L 20
  rw [e20]
  by_cases h : nI (L + 20) ≤ 400
  · have h' : L + 20 ≤ 400 := (nI_leI (b := 400) (by omega) (by decide)).1 h
    obtain ⟨T1, σ1, a1, a2, a3, a4, a5⟩ := feed1 (sl := sl) (U := U) (σ0 := σ) (by omega) hR l2 l3 a
    obtain ⟨T2, σ2, b1, b2, b3, b4, b5⟩ := feed1 (sl := sl) (U := U) (σ0 := σ) (by omega) a3 a4 a5 b
    obtain ⟨T3, σ3, c1, c2, c3, c4, c5⟩ := feed1 (sl := sl) (U := U) (σ0 := σ) (by omega) b3 b4 b5 c
    obtain ⟨T4, σ4, d1, d2, d3, d4, d5⟩ := feed1 (sl := sl) (U := U) (σ0 := σ) (by omega) c3 c4 c5 d
    obtain ⟨T5, σ5, e1, e2, e3, e4, e5⟩ := feed1 (sl := sl) (U := U) (σ0 := σ) (by omega) d3 d4 d5 e
    refine ⟨nI (L + 4 + 4 + 4 + 4 + 4), T5, σ5, ?_, fun ρ τ => ?_, e3⟩
    · simp only [if_pos h, a1, b1, c1, d1, e1, Option.bind_some, x128_0, x129_o, x129_1, e4]
    · simp only [if_pos h, a2, b2, c2, d2, e2, Option.bind_some, ob_mem, mI_28, e5]
  · simp only [if_neg h]
    exact ⟨-1, T, σ, rfl, fun _ _ => rfl, hR⟩
