/-! Loops' fuel, fewer locals, division, the texts' own methods. -/
def FU : Nat := 1000000000000
def dvI {α : Type} (x z : Int32) (F : Int32 → Option α) : Option α := if z = 0 then none else F (x / z)
def rmI {α : Type} (x z : Int32) (F : Int32 → Option α) : Option α := if z = 0 then none else F (x - x / z * z)
def dvL {α : Type} (x z : Int64) (F : Int64 → Option α) : Option α := if z = 0 then none else F (x / z)
def rmL {α : Type} (x z : Int64) (F : Int64 → Option α) : Option α := if z = 0 then none else F (x - x / z * z)
section RZ
variable {l : Launch} {G : GG} {d : Nat} {y : MethodName} {cc : ByteArray} {nL : Nat} {ret : Option FieldType} {pc : Nat} {ls : List (Nat × Value)} {st : List Value} {μ : Mm} {r : Option Value} {μ' : Mm}
theorem Ev.sub {ls' : List (Nat × Value)} (ks : List Nat) (h : ks.filterMap (fun k => ls[k]?) = ls') (k : Ev l G d y cc nL ret pc ls' st μ r μ') : Ev l G d y cc nL ret pc ls st μ r μ' := by
  refine ⟨k.1, ?_⟩
  intro p e R s m args below meth c H locs cells slots la hC hR hRel hh hlocs hl
  refine k.2 p e R s m args below meth c H locs cells slots la hC hR hRel hh hlocs ⟨hl.1, hl.2.1, fun q hq => ?_⟩
  obtain ⟨q0, h0, rfl⟩ := List.mem_map.mp hq
  rw [← h] at h0
  obtain ⟨j, -, hj⟩ := List.mem_filterMap.mp h0
  exact hl.2.2 _ (List.mem_map.mpr ⟨q0, List.mem_of_getElem? hj, rfl⟩)
theorem E_idiv2 {α : Type} {x z : Int32} {F : Int32 → Option α} {res : α} (hd : decode cc pc = .ok (.idiv, 1)) (hf : dvI x z F = some res) (k : ∀ v, F v = some res → Ev l G d y cc nL ret (pc + 1) ls (.int v :: st) μ r μ') : Ev l G d y cc nL ret pc ls (.int z :: .int x :: st) μ r μ' := E_idiv hd hf (k _)
theorem E_irem2 {α : Type} {x z : Int32} {F : Int32 → Option α} {res : α} (hd : decode cc pc = .ok (.irem, 1)) (hf : rmI x z F = some res) (k : ∀ v, F v = some res → Ev l G d y cc nL ret (pc + 1) ls (.int v :: st) μ r μ') : Ev l G d y cc nL ret pc ls (.int z :: .int x :: st) μ r μ' := E_irem hd hf (k _)
theorem E_ldiv2 {α : Type} {x z : Int64} {F : Int64 → Option α} {res : α} (hd : decode cc pc = .ok (.ldiv, 1)) (hf : dvL x z F = some res) (k : ∀ v, F v = some res → Ev l G d y cc nL ret (pc + 1) ls (.long v :: st) μ r μ') : Ev l G d y cc nL ret pc ls (.long z :: .long x :: st) μ r μ' := E_ldiv hd hf (k _)
theorem E_lrem2 {α : Type} {x z : Int64} {F : Int64 → Option α} {res : α} (hd : decode cc pc = .ok (.lrem, 1)) (hf : rmL x z F = some res) (k : ∀ v, F v = some res → Ev l G d y cc nL ret (pc + 1) ls (.long v :: st) μ r μ') : Ev l G d y cc nL ret pc ls (.long z :: .long x :: st) μ r μ' := E_lrem hd hf (k _)
end RZ
theorem wc_clone : Cond.methodLink RJ7 316 ⟨"[I", "clone", "()Ljava/lang/Object;"⟩ ∈ gtbl ∧ Cond.sameMethod "[I" "java/lang/Object" "clone" "()Ljava/lang/Object;" ∈ gtbl ∧ Cond.native ⟨"java/lang/Object", "clone", "()Ljava/lang/Object;"⟩ ∈ gtbl ∧ Cond.instanceMethod ⟨"java/lang/Object", "clone", "()Ljava/lang/Object;"⟩ ∈ gtbl ∧ Cond.selects "[I" ⟨"[I", "clone", "()Ljava/lang/Object;"⟩ ⟨"java/lang/Object", "clone", "()Ljava/lang/Object;"⟩ ∈ gtbl := ⟨ml_J7_316, inT (inT2 (List.mem_of_getElem? (i := 19) (by decide +kernel))) (by decide +kernel), inT (inT2 (List.mem_of_getElem? (i := 20) (by decide +kernel))) (by decide +kernel), inT (inT2 (List.mem_of_getElem? (i := 21) (by decide +kernel))) (by decide +kernel), inT (inT2 (List.mem_of_getElem? (i := 22) (by decide +kernel))) (by decide +kernel)⟩
theorem dJ0_coder_7d493_0 : decode cJ0_coder_7d493 0 = .ok (.getstatic 38, 3) := by decide +kernel
theorem dJ0_coder_7d493_3 : decode cJ0_coder_7d493 3 = .ok (.ifCond .eq 10, 3) := by decide +kernel
theorem dJ0_coder_7d493_6 : decode cJ0_coder_7d493 6 = .ok (.aload_n 0, 1) := by decide +kernel
theorem dJ0_coder_7d493_7 : decode cJ0_coder_7d493 7 = .ok (.getfield 15, 3) := by decide +kernel
theorem dJ0_coder_7d493_10 : decode cJ0_coder_7d493 10 = .ok (.goto 4, 3) := by decide +kernel
theorem dJ0_coder_7d493_13 : decode cJ0_coder_7d493 13 = .ok (.iconst 1, 1) := by decide +kernel
theorem dJ0_coder_7d493_14 : decode cJ0_coder_7d493 14 = .ok (.ireturn, 1) := by decide +kernel
theorem dJ0_isLatin1_aae02_0 : decode cJ0_isLatin1_aae02 0 = .ok (.getstatic 38, 3) := by decide +kernel
theorem dJ0_isLatin1_aae02_3 : decode cJ0_isLatin1_aae02 3 = .ok (.ifCond .eq 14, 3) := by decide +kernel
theorem dJ0_isLatin1_aae02_6 : decode cJ0_isLatin1_aae02 6 = .ok (.aload_n 0, 1) := by decide +kernel
theorem dJ0_isLatin1_aae02_7 : decode cJ0_isLatin1_aae02 7 = .ok (.getfield 15, 3) := by decide +kernel
theorem dJ0_isLatin1_aae02_10 : decode cJ0_isLatin1_aae02 10 = .ok (.ifCond .ne 7, 3) := by decide +kernel
theorem dJ0_isLatin1_aae02_13 : decode cJ0_isLatin1_aae02 13 = .ok (.iconst 1, 1) := by decide +kernel
theorem dJ0_isLatin1_aae02_14 : decode cJ0_isLatin1_aae02 14 = .ok (.goto 4, 3) := by decide +kernel
theorem dJ0_isLatin1_aae02_17 : decode cJ0_isLatin1_aae02 17 = .ok (.iconst 0, 1) := by decide +kernel
theorem dJ0_isLatin1_aae02_18 : decode cJ0_isLatin1_aae02 18 = .ok (.ireturn, 1) := by decide +kernel
theorem dJ0_length_8abf5_0 : decode cJ0_length_8abf5 0 = .ok (.aload_n 0, 1) := by decide +kernel
theorem dJ0_length_8abf5_1 : decode cJ0_length_8abf5 1 = .ok (.getfield 9, 3) := by decide +kernel
theorem dJ0_length_8abf5_4 : decode cJ0_length_8abf5 4 = .ok (.arraylength, 1) := by decide +kernel
theorem dJ0_length_8abf5_5 : decode cJ0_length_8abf5 5 = .ok (.aload_n 0, 1) := by decide +kernel
theorem dJ0_length_8abf5_6 : decode cJ0_length_8abf5 6 = .ok (.invokevirtual 335, 3) := by decide +kernel
theorem dJ0_length_8abf5_9 : decode cJ0_length_8abf5 9 = .ok (.ishr, 1) := by decide +kernel
theorem dJ0_length_8abf5_10 : decode cJ0_length_8abf5 10 = .ok (.ireturn, 1) := by decide +kernel
theorem dJ3_checkIndex_8e157_0 : decode cJ3_checkIndex_8e157 0 = .ok (.iload_n 0, 1) := by decide +kernel
theorem dJ3_checkIndex_8e157_1 : decode cJ3_checkIndex_8e157 1 = .ok (.ifCond .lt 8, 3) := by decide +kernel
theorem dJ3_checkIndex_8e157_4 : decode cJ3_checkIndex_8e157 4 = .ok (.iload_n 0, 1) := by decide +kernel
theorem dJ3_checkIndex_8e157_5 : decode cJ3_checkIndex_8e157 5 = .ok (.iload_n 1, 1) := by decide +kernel
theorem dJ3_checkIndex_8e157_6 : decode cJ3_checkIndex_8e157 6 = .ok (.if_icmp .lt 10, 3) := by decide +kernel
theorem dJ3_checkIndex_8e157_9 : decode cJ3_checkIndex_8e157 9 = .ok (.aload_n 2, 1) := by decide +kernel
theorem dJ3_checkIndex_8e157_10 : decode cJ3_checkIndex_8e157 10 = .ok (.iload_n 0, 1) := by decide +kernel
theorem dJ3_checkIndex_8e157_11 : decode cJ3_checkIndex_8e157 11 = .ok (.iload_n 1, 1) := by decide +kernel
theorem dJ3_checkIndex_8e157_12 : decode cJ3_checkIndex_8e157 12 = .ok (.invokestatic 95, 3) := by decide +kernel
theorem dJ3_checkIndex_8e157_15 : decode cJ3_checkIndex_8e157 15 = .ok (.athrow, 1) := by decide +kernel
theorem dJ3_checkIndex_8e157_16 : decode cJ3_checkIndex_8e157 16 = .ok (.iload_n 0, 1) := by decide +kernel
theorem dJ3_checkIndex_8e157_17 : decode cJ3_checkIndex_8e157 17 = .ok (.ireturn, 1) := by decide +kernel
theorem dJ0_checkIndex_df160_0 : decode cJ0_checkIndex_df160 0 = .ok (.iload_n 0, 1) := by decide +kernel
theorem dJ0_checkIndex_df160_1 : decode cJ0_checkIndex_df160 1 = .ok (.iload_n 1, 1) := by decide +kernel
theorem dJ0_checkIndex_df160_2 : decode cJ0_checkIndex_df160 2 = .ok (.getstatic 1053, 3) := by decide +kernel
theorem dJ0_checkIndex_df160_5 : decode cJ0_checkIndex_df160 5 = .ok (.invokestatic 1059, 3) := by decide +kernel
theorem dJ0_checkIndex_df160_8 : decode cJ0_checkIndex_df160 8 = .ok (.pop, 1) := by decide +kernel
theorem dJ0_checkIndex_df160_9 : decode cJ0_checkIndex_df160 9 = .ok (.return_, 1) := by decide +kernel
theorem dJ1_charAt_3b067_0 : decode cJ1_charAt_3b067 0 = .ok (.iload_n 1, 1) := by decide +kernel
theorem dJ1_charAt_3b067_1 : decode cJ1_charAt_3b067 1 = .ok (.aload_n 0, 1) := by decide +kernel
theorem dJ1_charAt_3b067_2 : decode cJ1_charAt_3b067 2 = .ok (.arraylength, 1) := by decide +kernel
theorem dJ1_charAt_3b067_3 : decode cJ1_charAt_3b067 3 = .ok (.invokestatic 9, 3) := by decide +kernel
theorem dJ1_charAt_3b067_6 : decode cJ1_charAt_3b067 6 = .ok (.aload_n 0, 1) := by decide +kernel
theorem dJ1_charAt_3b067_7 : decode cJ1_charAt_3b067 7 = .ok (.iload_n 1, 1) := by decide +kernel
theorem dJ1_charAt_3b067_8 : decode cJ1_charAt_3b067 8 = .ok (.baload, 1) := by decide +kernel
theorem dJ1_charAt_3b067_9 : decode cJ1_charAt_3b067 9 = .ok (.sipush 255, 3) := by decide +kernel
theorem dJ1_charAt_3b067_12 : decode cJ1_charAt_3b067 12 = .ok (.iand, 1) := by decide +kernel
theorem dJ1_charAt_3b067_13 : decode cJ1_charAt_3b067 13 = .ok (.i2c, 1) := by decide +kernel
theorem dJ1_charAt_3b067_14 : decode cJ1_charAt_3b067 14 = .ok (.ireturn, 1) := by decide +kernel
theorem dJ0_charAt_5068e_0 : decode cJ0_charAt_5068e 0 = .ok (.aload_n 0, 1) := by decide +kernel
theorem dJ0_charAt_5068e_1 : decode cJ0_charAt_5068e 1 = .ok (.invokevirtual 492, 3) := by decide +kernel
theorem dJ0_charAt_5068e_4 : decode cJ0_charAt_5068e 4 = .ok (.ifCond .eq 12, 3) := by decide +kernel
theorem dJ0_charAt_5068e_7 : decode cJ0_charAt_5068e 7 = .ok (.aload_n 0, 1) := by decide +kernel
theorem dJ0_charAt_5068e_8 : decode cJ0_charAt_5068e 8 = .ok (.getfield 9, 3) := by decide +kernel
theorem dJ0_charAt_5068e_11 : decode cJ0_charAt_5068e 11 = .ok (.iload_n 1, 1) := by decide +kernel
theorem dJ0_charAt_5068e_12 : decode cJ0_charAt_5068e 12 = .ok (.invokestatic 495, 3) := by decide +kernel
theorem dJ0_charAt_5068e_15 : decode cJ0_charAt_5068e 15 = .ok (.ireturn, 1) := by decide +kernel
theorem dJ0_charAt_5068e_16 : decode cJ0_charAt_5068e 16 = .ok (.aload_n 0, 1) := by decide +kernel
theorem dJ0_charAt_5068e_17 : decode cJ0_charAt_5068e 17 = .ok (.getfield 9, 3) := by decide +kernel
theorem dJ0_charAt_5068e_20 : decode cJ0_charAt_5068e 20 = .ok (.iload_n 1, 1) := by decide +kernel
theorem dJ0_charAt_5068e_21 : decode cJ0_charAt_5068e 21 = .ok (.invokestatic 498, 3) := by decide +kernel
theorem dJ0_charAt_5068e_24 : decode cJ0_charAt_5068e 24 = .ok (.ireturn, 1) := by decide +kernel
section RY
variable {l : Launch} {G : GG} {μ : Mm}
theorem v_coder {i : Nat} (hi : i < sN) : EvM l G 1 yJ0_coder_7d493 cJ0_coder_7d493 1 (some .byte) [.ref i] μ (some (.int 0)) μ := by
  show Ev l G 1 yJ0_coder_7d493 cJ0_coder_7d493 1 (some .byte) 0 [(0, .ref i)] [] μ _ _
  refine E_getC (pc := 0) dJ0_coder_7d493_0 wf_J0_38 ?_
  refine E_if_eq (α := Nat) (pc := 3) (tgt := 13) (A := none) (B := some 0) (res := 0) dJ0_coder_7d493_3 (by decide) rfl (fun hf => by cases hf) (fun hf => ?_)
  refine E_aload_n (pc := 6) dJ0_coder_7d493_6 rfl ?_
  refine E_tcod (pc := 7) dJ0_coder_7d493_7 hi wf_J0_15 ?_
  refine E_goto (pc := 10) (tgt := 14) dJ0_coder_7d493_10 (by decide) ?_
  exact E_nret (pc := 14) dJ0_coder_7d493_14 rfl rfl rfl
theorem v_latin {i : Nat} (hi : i < sN) : EvM l G 1 yJ0_isLatin1_aae02 cJ0_isLatin1_aae02 1 (some .boolean) [.ref i] μ (some (.int 1)) μ := by
  show Ev l G 1 yJ0_isLatin1_aae02 cJ0_isLatin1_aae02 1 (some .boolean) 0 [(0, .ref i)] [] μ _ _
  refine E_getC (pc := 0) dJ0_isLatin1_aae02_0 wf_J0_38 ?_
  refine E_if_eq (α := Nat) (pc := 3) (tgt := 17) (A := none) (B := some 0) (res := 0) dJ0_isLatin1_aae02_3 (by decide) rfl (fun hf => by cases hf) (fun hf => ?_)
  refine E_aload_n (pc := 6) dJ0_isLatin1_aae02_6 rfl ?_
  refine E_tcod (pc := 7) dJ0_isLatin1_aae02_7 hi wf_J0_15 ?_
  refine E_if_ne (α := Nat) (pc := 10) (tgt := 17) (A := some 0) (B := none) (res := 0) dJ0_isLatin1_aae02_10 (by decide) rfl (fun hf => ?_) (fun hf => by cases hf)
  refine E_iconst (pc := 13) (v := (1 : Int32)) dJ0_isLatin1_aae02_13 (by decide) ?_
  refine E_goto (pc := 14) (tgt := 18) dJ0_isLatin1_aae02_14 (by decide) ?_
  exact E_nret (pc := 18) dJ0_isLatin1_aae02_18 rfl rfl rfl
theorem v_length {i : Nat} (hi : i < sN) : EvM l G 2 yJ0_length_8abf5 cJ0_length_8abf5 1 (some .int) [.ref i] μ (some (.int (Int32.ofNat (sLen i)))) μ := by
  show Ev l G 2 yJ0_length_8abf5 cJ0_length_8abf5 1 (some .int) 0 [(0, .ref i)] [] μ _ _
  refine E_aload_n (pc := 0) dJ0_length_8abf5_0 rfl ?_
  refine E_tval (pc := 1) dJ0_length_8abf5_1 hi wf_J0_9 ?_
  refine E_tlen (pc := 4) dJ0_length_8abf5_4 hi ?_
  refine E_aload_n (pc := 5) dJ0_length_8abf5_5 rfl ?_
  refine E_VT (pc := 6) (As := []) (rest := [.int (Int32.ofNat (sLen i))]) (d2 := 1) dJ0_length_8abf5_6 ml_J0_335 mf_J0_coder_7d493 im_J0_coder_7d493 hi rfl rfl (by decide) (Nat.le_of_ble_eq_true rfl) (Nat.le_of_ble_eq_true rfl) rfl (v_coder hi) ?_
  refine E_ishr (pc := 9) dJ0_length_8abf5_9 ?_
  have e1 : (Int32.ofNat (sLen i)) >>> ((0 : Int32) &&& 31) = Int32.ofNat (sLen i) := (by decide +kernel : ∀ n, n < 128 → Int32.ofNat n >>> ((0 : Int32) &&& 31) = Int32.ofNat n) _ (sL_all i hi)
  rw [e1]
  exact E_iret (pc := 10) dJ0_length_8abf5_10 rfl rfl
theorem v_check3 {x n : Int32} {v : Value} (hv : v = .null ∨ v = .ref 126) (h1 : ¬ x < 0) (h2 : x < n) : EvM l G 1 yJ3_checkIndex_8e157 cJ3_checkIndex_8e157 3 (some .int) [.int x, .int n, v] μ (some (.int x)) μ := by
  have e0 : EvM l G 1 yJ3_checkIndex_8e157 cJ3_checkIndex_8e157 3 (some .int) [.int x, .int n, v] μ (some (.int x)) μ = Ev l G 1 yJ3_checkIndex_8e157 cJ3_checkIndex_8e157 3 (some .int) 0 [(0, .int x), (1, .int n), (2, v)] [] μ (some (.int x)) μ := by
    rcases hv with rfl | rfl <;> rfl
  rw [e0]
  refine E_iload_n (pc := 0) dJ3_checkIndex_8e157_0 rfl ?_
  refine E_if_lt (α := Nat) (pc := 1) (tgt := 9) (A := none) (B := some 0) (res := 0) dJ3_checkIndex_8e157_1 (by decide) (if_neg h1) (fun hf => by cases hf) (fun hf => ?_)
  refine E_iload_n (pc := 4) dJ3_checkIndex_8e157_4 rfl ?_
  refine E_iload_n (pc := 5) dJ3_checkIndex_8e157_5 rfl ?_
  refine E_icmp_lt (α := Nat) (pc := 6) (tgt := 16) (A := some 0) (B := none) (res := 0) dJ3_checkIndex_8e157_6 (by decide) (if_pos h2) (fun hf => ?_) (fun hf => by cases hf)
  refine E_iload_n (pc := 16) dJ3_checkIndex_8e157_16 rfl ?_
  exact E_iret (pc := 17) dJ3_checkIndex_8e157_17 rfl rfl
theorem v_check2 {x n : Int32} (h1 : ¬ x < 0) (h2 : x < n) : EvM l G 2 yJ0_checkIndex_df160 cJ0_checkIndex_df160 2 none [.int x, .int n] μ none μ := by
  show Ev l G 2 yJ0_checkIndex_df160 cJ0_checkIndex_df160 2 none 0 [(0, .int x), (1, .int n)] [] μ _ _
  refine E_iload_n (pc := 0) dJ0_checkIndex_df160_0 rfl ?_
  refine E_iload_n (pc := 1) dJ0_checkIndex_df160_1 rfl ?_
  refine E_getF (pc := 2) dJ0_checkIndex_df160_2 wf_J0_1053 (fun v hv => ?_)
  refine E_S (pc := 5) (As := [.int x, .int n, v]) (rest := []) (d2 := 1) dJ0_checkIndex_df160_5 ml_J0_1059 mf_J3_checkIndex_8e157 st_J3_checkIndex_8e157 rfl (by decide) (by rcases hv with rfl | rfl <;> exact (Nat.le_of_ble_eq_true rfl)) (Nat.le_of_ble_eq_true rfl) rfl (v_check3 hv h1 h2) ?_
  refine E_pop (pc := 8) (v := .int x) dJ0_checkIndex_df160_8 rfl ?_
  exact E_vret (pc := 9) dJ0_checkIndex_df160_9 rfl rfl
theorem v_lat_at {i : Nat} {x : Int32} (hi : i < sN) (hx : ¬ (x < 0 ∨ sLen i ≤ x.toNatClampNeg)) : EvM l G 3 yJ1_charAt_3b067 cJ1_charAt_3b067 2 (some .char) [.ref (32 + i), .int x] μ (some (.int ((sByt i).getD x.toNatClampNeg 0))) μ := by
  show Ev l G 3 yJ1_charAt_3b067 cJ1_charAt_3b067 2 (some .char) 0 [(0, .ref (32 + i)), (1, .int x)] [] μ _ _
  have h1 : ¬ x < 0 := fun h => hx (Or.inl h)
  have h2 : x < Int32.ofNat (sLen i) := by
    have hl := sL_all i hi
    obtain ⟨j, hj, rfl⟩ := nI_of h1
    rw [nI_clamp hj] at hx
    exact nI_lt (by omega) (by omega)
  refine E_iload_n (pc := 0) dJ1_charAt_3b067_0 rfl ?_
  refine E_aload_n (pc := 1) dJ1_charAt_3b067_1 rfl ?_
  refine E_tlen (pc := 2) dJ1_charAt_3b067_2 hi ?_
  refine E_S (pc := 3) (As := [.int x, .int (Int32.ofNat (sLen i))]) (rest := []) (r2 := none) (d2 := 2) dJ1_charAt_3b067_3 ml_J1_9 mf_J0_checkIndex_df160 st_J0_checkIndex_df160 rfl (by decide) (Nat.le_of_ble_eq_true rfl) (Nat.le_of_ble_eq_true rfl) rfl (v_check2 h1 h2) ?_
  refine E_aload_n (pc := 6) dJ1_charAt_3b067_6 rfl ?_
  refine E_iload_n (pc := 7) dJ1_charAt_3b067_7 rfl ?_
  refine E_tbyt (pc := 8) dJ1_charAt_3b067_8 hi hx ?_
  refine E_sipush (pc := 9) (v := (255 : Int32)) dJ1_charAt_3b067_9 (by decide) ?_
  refine E_iand (pc := 12) dJ1_charAt_3b067_12 ?_
  refine E_i2c (pc := 13) dJ1_charAt_3b067_13 (sB_at hi).1 ?_
  exact E_nret (pc := 14) dJ1_charAt_3b067_14 rfl (sB_at hi).2 rfl
theorem v_charAt {i : Nat} {x : Int32} (hi : i < sN) (hx : ¬ (x < 0 ∨ sLen i ≤ x.toNatClampNeg)) : EvM l G 4 yJ0_charAt_5068e cJ0_charAt_5068e 2 (some .char) [.ref i, .int x] μ (some (.int ((sByt i).getD x.toNatClampNeg 0))) μ := by
  show Ev l G 4 yJ0_charAt_5068e cJ0_charAt_5068e 2 (some .char) 0 [(0, .ref i), (1, .int x)] [] μ _ _
  refine E_aload_n (pc := 0) dJ0_charAt_5068e_0 rfl ?_
  refine E_VT (pc := 1) (As := []) (rest := []) (d2 := 1) dJ0_charAt_5068e_1 ml_J0_492 mf_J0_isLatin1_aae02 im_J0_isLatin1_aae02 hi rfl rfl (by decide) (Nat.le_of_ble_eq_true rfl) (Nat.le_of_ble_eq_true rfl) rfl (v_latin hi) ?_
  refine E_if_eq (α := Nat) (pc := 4) (tgt := 16) (A := none) (B := some 0) (res := 0) dJ0_charAt_5068e_4 (by decide) rfl (fun hf => by cases hf) (fun hf => ?_)
  refine E_aload_n (pc := 7) dJ0_charAt_5068e_7 rfl ?_
  refine E_tval (pc := 8) dJ0_charAt_5068e_8 hi wf_J0_9 ?_
  refine E_iload_n (pc := 11) dJ0_charAt_5068e_11 rfl ?_
  refine E_S (pc := 12) (As := [.ref (32 + i), .int x]) (rest := []) (d2 := 3) dJ0_charAt_5068e_12 ml_J0_495 mf_J1_charAt_3b067 st_J1_charAt_3b067 rfl (by decide) (Nat.le_of_ble_eq_true rfl) (Nat.le_of_ble_eq_true rfl) rfl (v_lat_at hi hx) ?_
  exact E_nret (pc := 15) dJ0_charAt_5068e_15 rfl (sB_at hi).2 rfl
end RY
section RX
variable {l : Launch} {G : GG} {d : Nat} {y : MethodName} {cc : ByteArray} {nL : Nat} {ret : Option FieldType} {pc : Nat} {ls : List (Nat × Value)} {st : List Value} {μ : Mm} {r : Option Value} {μ' : Mm}
theorem E_slen {α : Type} {idx i : Nat} {F : Int32 → Option α} {res : α} (hd : decode cc pc = .ok (.invokevirtual idx, 3)) (hl : Cond.methodLink y.cls idx yJ0_length_8abf5 ∈ gtbl) (h1d : 5 ≤ d) (hst : (st.map fun v => v.category).sum ≤ 8) (hf : (tL i).bind F = some res) (k : ∀ v, F v = some res → Ev l G d y cc nL ret (pc + 3) ls (.int v :: st) μ r μ') : Ev l G d y cc nL ret pc ls (.ref i :: st) μ r μ' := by
  obtain ⟨v, h1, h2⟩ := bindS hf
  unfold tL at h1
  by_cases h0 : i < sN
  · rw [if_pos h0] at h1
    cases h1
    exact E_VT (As := []) (rest := st) (d2 := 2) hd hl mf_J0_length_8abf5 im_J0_length_8abf5 h0 rfl rfl (by omega) (Nat.le_of_ble_eq_true rfl) hst rfl (v_length h0) (k _ h2)
  · rw [if_neg h0] at h1; cases h1
theorem E_schr {α : Type} {idx i : Nat} {x : Int32} {F : Int32 → Option α} {res : α} (hd : decode cc pc = .ok (.invokevirtual idx, 3)) (hl : Cond.methodLink y.cls idx yJ0_charAt_5068e ∈ gtbl) (h1d : 5 ≤ d) (hst : (st.map fun v => v.category).sum ≤ 8) (hf : (tC i x).bind F = some res) (k : ∀ v, F v = some res → Ev l G d y cc nL ret (pc + 3) ls (.int v :: st) μ r μ') : Ev l G d y cc nL ret pc ls (.int x :: .ref i :: st) μ r μ' := by
  obtain ⟨v, h1, h2⟩ := bindS hf
  unfold tC at h1
  by_cases h0 : i < sN ∧ ¬ (x < 0 ∨ sLen i ≤ x.toNatClampNeg)
  · rw [if_pos h0] at h1
    cases h1
    exact E_VT (As := [.int x]) (rest := st) (d2 := 4) hd hl mf_J0_charAt_5068e im_J0_charAt_5068e h0.1 rfl rfl (by omega) (Nat.le_of_ble_eq_true rfl) hst rfl (v_charAt h0.1 h0.2) (k _ h2)
  · rw [if_neg h0] at h1; cases h1
end RX
