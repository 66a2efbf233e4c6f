/-! What holds at the law's entry. -/
theorem inst_X0 : Cond.instantiable RX0 12 ∈ gtbl := inT (inT2 (List.mem_of_getElem? (i := 121) (by decide +kernel))) (by decide +kernel)
theorem inst_X1 : Cond.instantiable RX1 15 ∈ gtbl := inT (inT1 (List.mem_of_getElem? (i := 62) (by decide +kernel))) (by decide +kernel)
theorem inst_X2 : Cond.instantiable RX2 3 ∈ gtbl := inT (inT1 (List.mem_of_getElem? (i := 56) (by decide +kernel))) (by decide +kernel)
theorem inst_X3 : Cond.instantiable RX3 8 ∈ gtbl := inT (inT1 (List.mem_of_getElem? (i := 68) (by decide +kernel))) (by decide +kernel)
theorem inst_X4 : Cond.instantiable RX4 5 ∈ gtbl := inT (inT2 (List.mem_of_getElem? (i := 202) (by decide +kernel))) (by decide +kernel)
theorem inst_X5 : Cond.instantiable RX5 9 ∈ gtbl := inT (inT2 (List.mem_of_getElem? (i := 10) (by decide +kernel))) (by decide +kernel)
theorem inst_X6 : Cond.instantiable RX6 9 ∈ gtbl := inT (inT1 (List.mem_of_getElem? (i := 209) (by decide +kernel))) (by decide +kernel)
theorem inst_X7 : Cond.instantiable RX7 13 ∈ gtbl := inT (inT2 (List.mem_of_getElem? (i := 62) (by decide +kernel))) (by decide +kernel)
theorem inst_X8 : Cond.instantiable RX8 6 ∈ gtbl := inT (inT2 (List.mem_of_getElem? (i := 227) (by decide +kernel))) (by decide +kernel)
theorem inst_X9 : Cond.instantiable RX9 4 ∈ gtbl := inT (inT1 (List.mem_of_getElem? (i := 32) (by decide +kernel))) (by decide +kernel)
theorem inst_X10 : Cond.instantiable RX10 5 ∈ gtbl := inT (inT2 (List.mem_of_getElem? (i := 177) (by decide +kernel))) (by decide +kernel)
theorem inst_X11 : Cond.instantiable RX11 14 ∈ gtbl := inT (inT1 (List.mem_of_getElem? (i := 24) (by decide +kernel))) (by decide +kernel)
theorem inst_X12 : Cond.instantiable RX12 77 ∈ gtbl := inT (inT5 (List.mem_of_getElem? (i := 213) (by decide +kernel))) (by decide +kernel)
theorem cls_all : ∀ (k : Nat) (q : vw_C), classes[k]? = some q → Cond.instantiable q.1 q.2.2 ∈ gtbl ∧ ∀ w ∈ u_ws q.1 q.2.1 q.2.2, w ∈ gtbl
  | 0, _, h => by cases h; exact ⟨inst_X0, inX0⟩
  | 1, _, h => by cases h; exact ⟨inst_X1, inX1⟩
  | 2, _, h => by cases h; exact ⟨inst_X2, inX2⟩
  | 3, _, h => by cases h; exact ⟨inst_X3, inX3⟩
  | 4, _, h => by cases h; exact ⟨inst_X4, inX4⟩
  | 5, _, h => by cases h; exact ⟨inst_X5, inX5⟩
  | 6, _, h => by cases h; exact ⟨inst_X6, inX6⟩
  | 7, _, h => by cases h; exact ⟨inst_X7, inX7⟩
  | 8, _, h => by cases h; exact ⟨inst_X8, inX8⟩
  | 9, _, h => by cases h; exact ⟨inst_X9, inX9⟩
  | 10, _, h => by cases h; exact ⟨inst_X10, inX10⟩
  | 11, _, h => by cases h; exact ⟨inst_X11, inX11⟩
  | 12, _, h => by cases h; exact ⟨inst_X12, inX12⟩
  | k + 13, _, h => by simp [classes] at h
/-- what the Statement gives of a text -/
def rowS (i : Nat) : List Cond := Cond.exactly (.string (sOwn i) (sIdx i)) "java/lang/String" :: Cond.eq (.field (.string (sOwn i) (sIdx i)) "java/lang/String" "coder" "B") (.int 0) :: Cond.arrayOf (.field (.string (sOwn i) (sIdx i)) "java/lang/String" "value" "[B") .byte :: Cond.eq (.length (.field (.string (sOwn i) (sIdx i)) "java/lang/String" "value" "[B")) (.int (Int32.ofNat (sLen i))) :: (List.range (sLen i)).map (fun j => Cond.eq (.elem (.field (.string (sOwn i) (sIdx i)) "java/lang/String" "value" "[B") (.int (Int32.ofNat j))) (.int ((sByt i).getD j 0)))
theorem sc_all : (flatC (Jvm.Cond.and given_1 narrow_1)).drop 35 = (List.range sN).flatMap rowS := by decide +kernel
theorem sc_in {i : Nat} (hi : i < sN) {w : Cond} (h : w ∈ rowS i) : w ∈ flatC (Jvm.Cond.and given_1 narrow_1) := by
  have h1 : w ∈ (flatC (Jvm.Cond.and given_1 narrow_1)).drop 35 := by
    rw [sc_all]
    exact List.mem_flatMap.mpr ⟨i, List.mem_range.mpr hi, h⟩
  exact List.mem_of_mem_drop h1
theorem sc_ex : ∀ i, i < sN → Cond.exactly (.string (sOwn i) (sIdx i)) "java/lang/String" ∈ flatC (Jvm.Cond.and given_1 narrow_1) := fun i hi => sc_in hi (List.mem_of_getElem? (i := 0) rfl)
theorem sc_co : ∀ i, i < sN → Cond.eq (.field (.string (sOwn i) (sIdx i)) "java/lang/String" "coder" "B") (.int 0) ∈ flatC (Jvm.Cond.and given_1 narrow_1) := fun i hi => sc_in hi (List.mem_of_getElem? (i := 1) rfl)
theorem sc_ar : ∀ i, i < sN → Cond.arrayOf (.field (.string (sOwn i) (sIdx i)) "java/lang/String" "value" "[B") .byte ∈ flatC (Jvm.Cond.and given_1 narrow_1) := fun i hi => sc_in hi (List.mem_of_getElem? (i := 2) rfl)
theorem sc_le : ∀ i, i < sN → Cond.eq (.length (.field (.string (sOwn i) (sIdx i)) "java/lang/String" "value" "[B")) (.int (Int32.ofNat (sLen i))) ∈ flatC (Jvm.Cond.and given_1 narrow_1) := fun i hi => sc_in hi (List.mem_of_getElem? (i := 3) rfl)
theorem sc_el : ∀ i, i < sN → ∀ j, j < sLen i → Cond.eq (.elem (.field (.string (sOwn i) (sIdx i)) "java/lang/String" "value" "[B") (.int (Int32.ofNat j))) (.int ((sByt i).getD j 0)) ∈ flatC (Jvm.Cond.and given_1 narrow_1) := fun i hi j hj => sc_in hi (List.mem_cons_of_mem _ (List.mem_cons_of_mem _ (List.mem_cons_of_mem _ (List.mem_cons_of_mem _ (List.mem_map.mpr ⟨j, List.mem_range.mpr hj, rfl⟩)))))
theorem sc_rfL : (List.range sN).map (fun i => Cond.stringRef (sOwn i) (sIdx i) (sTx i)) = ([569, 766, 789, 791, 798, 799, 814, 826, 829, 1448, 1449, 1450, 1451, 1452, 1453, 1454, 1530, 1531, 1555, 1556, 1557, 1558, 1559, 1560, 1561, 1562, 1563, 1564, 1565, 1578, 1595, 1596] : List Nat).filterMap (fun i => tables_1[i]?) := by decide +kernel
theorem sc_rf : ∀ i, i < sN → Cond.stringRef (sOwn i) (sIdx i) (sTx i) ∈ tables_1 := fun i hi => by
  have h : Cond.stringRef (sOwn i) (sIdx i) (sTx i) ∈ (List.range sN).map (fun i => Cond.stringRef (sOwn i) (sIdx i) (sTx i)) := List.mem_map.mpr ⟨i, List.mem_range.mpr hi, rfl⟩
  rw [sc_rfL] at h
  obtain ⟨k, -, hk⟩ := List.mem_filterMap.mp h
  exact List.mem_of_getElem? hk
theorem sc_ne : ∀ q ∈ nests, Cond.methodLinkNest q.1 q.2.1 q.2.2.1 q.2.2.2 ∈ tables_1 := List.forall_mem_cons.mpr ⟨inT1 (List.mem_of_getElem? (i := 33) (by decide +kernel)), List.forall_mem_cons.mpr ⟨inT1 (List.mem_of_getElem? (i := 63) (by decide +kernel)), List.forall_mem_cons.mpr ⟨inT1 (List.mem_of_getElem? (i := 69) (by decide +kernel)), List.forall_mem_cons.mpr ⟨inT2 (List.mem_of_getElem? (i := 228) (by decide +kernel)), fun _ h => absurd h List.not_mem_nil⟩⟩⟩⟩
theorem sc_cs : Cond.eq (.static "java/lang/String" "COMPACT_STRINGS" "Z") (.int 1) ∈ flatC (Jvm.Cond.and given_1 narrow_1) := List.mem_of_getElem? (i := 4) (by decide +kernel)
theorem sc_fm : Cond.isRef (.static "jdk/internal/util/Preconditions" "SIOOBE_FORMATTER" "Ljava/util/function/BiFunction;") ∈ flatC (Jvm.Cond.and given_1 narrow_1) := List.mem_of_getElem? (i := 5) (by decide +kernel)
theorem sc_w1 : Cond.laysStatic "java/lang/String" "COMPACT_STRINGS" "Z" ∈ tables_1 ∧ Cond.initialized "java/lang/String" ∈ tables_1 ∧ Cond.laysStatic "jdk/internal/util/Preconditions" "SIOOBE_FORMATTER" "Ljava/util/function/BiFunction;" ∈ tables_1 ∧ Cond.initialized "jdk/internal/util/Preconditions" ∈ tables_1 ∧ Cond.arrayOver (.object "FallSchool$Rule") ∈ tables_1 ∧ Cond.arrayOver (.object "FallSchool$School") ∈ tables_1 ∧ Cond.castable "[I" "java/lang/Cloneable" ∈ tables_1 := ⟨inT3 (List.mem_of_getElem? (i := 107) (by decide +kernel)), inT1 (List.mem_of_getElem? (i := 17) (by decide +kernel)), inT3 (List.mem_of_getElem? (i := 123) (by decide +kernel)), inT1 (List.mem_of_getElem? (i := 19) (by decide +kernel)), inT2 (List.mem_of_getElem? (i := 60) (by decide +kernel)), inT2 (List.mem_of_getElem? (i := 119) (by decide +kernel)), inT2 (List.mem_of_getElem? (i := 23) (by decide +kernel))⟩
theorem arr_K {args : Array Value} {s : State} {ty : FieldType} (h : (Cond.arrayClass ty).before args s = true) (hp : ∀ C, ty ≠ .object C) : ∃ cA : ClassId, ArrOfT s cA ty ∧ va_RA s cA ty := by
  obtain ⟨c, k, comp, h1, h2, h3⟩ := Cond.arrayClass_spec h
  refine ⟨c, fun n z => ⟨fun k h => (by cases h), k, h2, comp, h3⟩, ?_⟩
  cases ty with
  | object C => exact absurd rfl (hp C)
  | _ => exact h1
theorem arr_KO {args : Array Value} {s : State} {C : String} (h : (Cond.arrayOver (.object C)).before args s = true) : ∃ cA : ClassId, ArrOfT s cA (.object C) ∧ va_RA s cA (.object C) := by
  obtain ⟨comp, c, k, h1, h2, h3, h4, h5⟩ := Cond.arrayOver_spec h
  exact ⟨c, fun n z => ⟨fun k h => (by cases h), k, h3, comp, h4⟩, k, comp, h3, h4, h1, h5⟩
set_option maxHeartbeats 4000000 in
theorem law_KK {args : Array Value} {s : State} (hts : ∀ w ∈ lw_tbl, w.before args s = true) (hgv : (Jvm.Cond.and given_1 narrow_1).before args s = true) {b L : Nat} {xs : Nat → Int32} (hX : va_X b L xs s s.heap) (hbl : b < s.heap.size) : ∃ G : GG, KK G s ∧ gB G = s.heap.size ∧ G.2.2.2.2 = (L, xs) ∧ G.2.2.1 127 = b := by
  have hs := flat_of_before _ hgv
  have hT : ∀ w ∈ tables_1, w.before args s = true := fun w h => hts w (List.mem_append_right _ h)
  have hg : ∀ w ∈ gtbl, w.before args s = true := fun w h => hts w (List.mem_filter.mp h).1
  have hA : ∀ a : Nat, a < s.heap.size → ¬ (fun q : Nat => s.heap.size ≤ q) a := fun a h => Nat.not_le.mpr h
  have hcls : ∀ k : Nat, ∃ D : ClassId × (Nat → Nat), ∀ q : vw_C, classes[k]? = some q → u_Kn s q.1 q.2.1 q.2.2 D.1 D.2 := by
    intro k
    cases hk : classes[k]? with
    | none => exact ⟨(0, fun _ => 0), fun q h => by cases h⟩
    | some q =>
      obtain ⟨h1, h2⟩ := cls_all k q hk
      obtain ⟨cC, iS, h3⟩ := u_known hg h2 (hg _ h1)
      exact ⟨(cC, iS), fun q' h => by cases h; exact h3⟩
  obtain ⟨fD, hD⟩ := Classical.axiomOfChoice hcls
  obtain ⟨c0, k0⟩ := arr_K (hg _ ac_int) (fun C h => by cases h)
  obtain ⟨c1, k1⟩ := arr_K (hg _ ac_byte) (fun C h => by cases h)
  obtain ⟨c2, k2⟩ := arr_K (hg _ ac_boolean) (fun C h => by cases h)
  obtain ⟨c3, k3⟩ := arr_K (hg _ ac_long) (fun C h => by cases h)
  obtain ⟨w1, w2, w3, w4, w5, w6, w7⟩ := sc_w1
  obtain ⟨c4, k4⟩ := arr_KO (hT _ w5)
  obtain ⟨c5, k5⟩ := arr_KO (hT _ w6)
  have hst : ∀ i : Nat, ∃ q : Nat × Nat, i < sN → vk_R (sOwn i) (sIdx i) (sTx i) q.1 s ∧ vk_S 1 [sLen i] [sByt i] (fun _ => q.1) (fun _ => q.2) (fun q => s.heap.size ≤ q) s s.heap := by
    intro i
    by_cases hi : i < sN
    · have hl := sL_all i hi
      obtain ⟨adK, adV, h1, h2⟩ := vk_Sof (args := args) (s := s) (N := 1) (tm := fun _ => Term.string (sOwn i) (sIdx i)) (len := [sLen i]) (byt := [sByt i]) (A := fun q => s.heap.size ≤ q) (fun j hj => by
          have : j = 0 := by omega
          subst this
          show sLen i < _
          omega) (fun j _ => hs _ (sc_ex i hi)) (fun j _ => hs _ (sc_co i hi)) (fun j _ => hs _ (sc_ar i hi)) (fun j hj => by
          have : j = 0 := by omega
          subst this
          exact hs _ (sc_le i hi)) (fun j hj q hq => by
          have : j = 0 := by omega
          subst this
          exact hs _ (sc_el i hi q hq)) (fun a c ha hc hne => absurd (show a = c by omega) hne) hA
      refine ⟨(adK 0, adV 0), fun _ => ⟨vk_R.of (hT _ (sc_rf i hi)) (h2 0 (by omega)), ⟨fun j hj => ?_, fun a c ha hc _ => by omega⟩⟩⟩
      have : j = 0 := by omega
      subst this
      exact h1.1 0 hj
    · exact ⟨(0, 0), fun h => absurd h hi⟩
  obtain ⟨fS, hS⟩ := Classical.axiomOfChoice hst
  have hz := va_Zof (A := fun q => s.heap.size ≤ q) (hT _ w1) (hT _ w2) (va_eqi (hs _ sc_cs)) hA
  obtain ⟨fm, hfm⟩ : ∃ fm : Nat, va_Z "jdk/internal/util/Preconditions" "SIOOBE_FORMATTER" "Ljava/util/function/BiFunction;" .null (fun q => s.heap.size ≤ q) s s.heap ∨ va_Z "jdk/internal/util/Preconditions" "SIOOBE_FORMATTER" "Ljava/util/function/BiFunction;" (.ref fm) (fun q => s.heap.size ≤ q) s s.heap := by
    rcases va_Zqof (A := fun q => s.heap.size ≤ q) (hT _ w3) (hT _ w4) (hs _ sc_fm) hA with h | ⟨t, h⟩
    · exact ⟨0, Or.inl h⟩
    · exact ⟨t, Or.inr h⟩
  refine ⟨((fun k => (fD k).1, fun k => (fD k).2), (fun t => if t = 0 then c0 else if t = 1 then c1 else if t = 2 then c2 else if t = 3 then c3 else if t = 4 then c4 else c5), (fun k => if k < 32 then (fS k).1 else if k < 64 then (fS (k - 32)).2 else if k = 126 then fm else b), s.heap.size, L, xs), ⟨⟨fun k q hq => hD k q hq, fun k q hq => ?_⟩, ?_⟩, rfl, rfl, rfl⟩
  · match k, hq with
    | 0, hq => cases hq; exact k0
    | 1, hq => cases hq; exact k1
    | 2, hq => cases hq; exact k2
    | 3, hq => cases hq; exact k3
    | 4, hq => cases hq; exact k4
    | 5, hq => cases hq; exact k5
    | k + 6, hq => simp [tysG] at hq
  · refine ⟨fun i hi => ?_, hz, hfm, hX, hbl, va_AO.of (hT _ w5), va_AO.of (hT _ w6), va_Nw.of rfl (hT _ w7), fun q hq => va_Nw.of rfl (hT _ (sc_ne q hq))⟩
    have hi2 : i < 32 := hi
    have h9 := hS i hi
    show vk_R _ _ _ (if i < 32 then (fS i).1 else _) s ∧ vk_S 1 _ _ (fun _ => if i < 32 then (fS i).1 else _) (fun _ => if 32 + i < 32 then _ else if 32 + i < 64 then (fS (32 + i - 32)).2 else _) _ s s.heap
    rw [if_pos hi2, if_neg (by omega), if_pos (by omega), Nat.add_sub_cancel_left]
    exact h9
theorem W.mono {p : Program} {l : Launch} {e : Env} {R : Room} {s : State} {m : MethodId} {args : Array Value} {below : List Frame} {meth : Method} {c : Code} {H : Heap} {locs : List Loc} {cells slots : Nat} {Q Q' : State → Prop} {g : JFrame} (k : W p l e R s m args below meth c H locs cells slots Q g) (h : ∀ t, Q t → Q' t) : W p l e R s m args below meth c H locs cells slots Q' g := by
  intro T hT X
  obtain ⟨t, a1, b1⟩ := k T hT X
  exact ⟨t, a1, h t b1⟩
/-- the empty memory -/
def μE : Mm := (128, 0, fun _ => .inr (0, []))
theorem Rel.start {G : GG} {H : Heap} (h : gB G = H.size) : Rel G μE H := ⟨Nat.le_refl _, h.symm, fun k h1 h2 => absurd h2 (Nat.not_lt.mpr h1)⟩
