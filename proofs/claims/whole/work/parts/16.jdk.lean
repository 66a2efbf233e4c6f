theorem dJ6_bitCount_0f7a4_0 : decode cJ6_bitCount_0f7a4 0 = .ok (.iload_n 0, 1) := by decide +kernel
theorem dJ6_bitCount_0f7a4_1 : decode cJ6_bitCount_0f7a4 1 = .ok (.iload_n 0, 1) := by decide +kernel
theorem dJ6_bitCount_0f7a4_2 : decode cJ6_bitCount_0f7a4 2 = .ok (.iconst 1, 1) := by decide +kernel
theorem dJ6_bitCount_0f7a4_3 : decode cJ6_bitCount_0f7a4 3 = .ok (.iushr, 1) := by decide +kernel
theorem dJ6_bitCount_0f7a4_4 : decode cJ6_bitCount_0f7a4 4 = .ok (.ldc_w 265, 3) := by decide +kernel
theorem dJ6_bitCount_0f7a4_7 : decode cJ6_bitCount_0f7a4 7 = .ok (.iand, 1) := by decide +kernel
theorem dJ6_bitCount_0f7a4_8 : decode cJ6_bitCount_0f7a4 8 = .ok (.isub, 1) := by decide +kernel
theorem dJ6_bitCount_0f7a4_9 : decode cJ6_bitCount_0f7a4 9 = .ok (.istore_n 0, 1) := by decide +kernel
theorem dJ6_bitCount_0f7a4_10 : decode cJ6_bitCount_0f7a4 10 = .ok (.iload_n 0, 1) := by decide +kernel
theorem dJ6_bitCount_0f7a4_11 : decode cJ6_bitCount_0f7a4 11 = .ok (.ldc_w 266, 3) := by decide +kernel
theorem dJ6_bitCount_0f7a4_14 : decode cJ6_bitCount_0f7a4 14 = .ok (.iand, 1) := by decide +kernel
theorem dJ6_bitCount_0f7a4_15 : decode cJ6_bitCount_0f7a4 15 = .ok (.iload_n 0, 1) := by decide +kernel
theorem dJ6_bitCount_0f7a4_16 : decode cJ6_bitCount_0f7a4 16 = .ok (.iconst 2, 1) := by decide +kernel
theorem dJ6_bitCount_0f7a4_17 : decode cJ6_bitCount_0f7a4 17 = .ok (.iushr, 1) := by decide +kernel
theorem dJ6_bitCount_0f7a4_18 : decode cJ6_bitCount_0f7a4 18 = .ok (.ldc_w 266, 3) := by decide +kernel
theorem dJ6_bitCount_0f7a4_21 : decode cJ6_bitCount_0f7a4 21 = .ok (.iand, 1) := by decide +kernel
theorem dJ6_bitCount_0f7a4_22 : decode cJ6_bitCount_0f7a4 22 = .ok (.iadd, 1) := by decide +kernel
theorem dJ6_bitCount_0f7a4_23 : decode cJ6_bitCount_0f7a4 23 = .ok (.istore_n 0, 1) := by decide +kernel
theorem dJ6_bitCount_0f7a4_24 : decode cJ6_bitCount_0f7a4 24 = .ok (.iload_n 0, 1) := by decide +kernel
theorem dJ6_bitCount_0f7a4_25 : decode cJ6_bitCount_0f7a4 25 = .ok (.iload_n 0, 1) := by decide +kernel
theorem dJ6_bitCount_0f7a4_26 : decode cJ6_bitCount_0f7a4 26 = .ok (.iconst 4, 1) := by decide +kernel
theorem dJ6_bitCount_0f7a4_27 : decode cJ6_bitCount_0f7a4 27 = .ok (.iushr, 1) := by decide +kernel
theorem dJ6_bitCount_0f7a4_28 : decode cJ6_bitCount_0f7a4 28 = .ok (.iadd, 1) := by decide +kernel
theorem dJ6_bitCount_0f7a4_29 : decode cJ6_bitCount_0f7a4 29 = .ok (.ldc_w 267, 3) := by decide +kernel
theorem dJ6_bitCount_0f7a4_32 : decode cJ6_bitCount_0f7a4 32 = .ok (.iand, 1) := by decide +kernel
theorem dJ6_bitCount_0f7a4_33 : decode cJ6_bitCount_0f7a4 33 = .ok (.istore_n 0, 1) := by decide +kernel
theorem dJ6_bitCount_0f7a4_34 : decode cJ6_bitCount_0f7a4 34 = .ok (.iload_n 0, 1) := by decide +kernel
theorem dJ6_bitCount_0f7a4_35 : decode cJ6_bitCount_0f7a4 35 = .ok (.iload_n 0, 1) := by decide +kernel
theorem dJ6_bitCount_0f7a4_36 : decode cJ6_bitCount_0f7a4 36 = .ok (.bipush 8, 2) := by decide +kernel
theorem dJ6_bitCount_0f7a4_38 : decode cJ6_bitCount_0f7a4 38 = .ok (.iushr, 1) := by decide +kernel
theorem dJ6_bitCount_0f7a4_39 : decode cJ6_bitCount_0f7a4 39 = .ok (.iadd, 1) := by decide +kernel
theorem dJ6_bitCount_0f7a4_40 : decode cJ6_bitCount_0f7a4 40 = .ok (.istore_n 0, 1) := by decide +kernel
theorem dJ6_bitCount_0f7a4_41 : decode cJ6_bitCount_0f7a4 41 = .ok (.iload_n 0, 1) := by decide +kernel
theorem dJ6_bitCount_0f7a4_42 : decode cJ6_bitCount_0f7a4 42 = .ok (.iload_n 0, 1) := by decide +kernel
theorem dJ6_bitCount_0f7a4_43 : decode cJ6_bitCount_0f7a4 43 = .ok (.bipush 16, 2) := by decide +kernel
theorem dJ6_bitCount_0f7a4_45 : decode cJ6_bitCount_0f7a4 45 = .ok (.iushr, 1) := by decide +kernel
theorem dJ6_bitCount_0f7a4_46 : decode cJ6_bitCount_0f7a4 46 = .ok (.iadd, 1) := by decide +kernel
theorem dJ6_bitCount_0f7a4_47 : decode cJ6_bitCount_0f7a4 47 = .ok (.istore_n 0, 1) := by decide +kernel
theorem dJ6_bitCount_0f7a4_48 : decode cJ6_bitCount_0f7a4 48 = .ok (.iload_n 0, 1) := by decide +kernel
theorem dJ6_bitCount_0f7a4_49 : decode cJ6_bitCount_0f7a4 49 = .ok (.bipush 63, 2) := by decide +kernel
theorem dJ6_bitCount_0f7a4_51 : decode cJ6_bitCount_0f7a4 51 = .ok (.iand, 1) := by decide +kernel
theorem dJ6_bitCount_0f7a4_52 : decode cJ6_bitCount_0f7a4 52 = .ok (.ireturn, 1) := by decide +kernel
abbrev D_J6_bitCount_0f7a4 : Nat := 1
set_option maxRecDepth 100000 in
def f_J6_bitCount_0f7a4 (μ0 : Mm) (x1 : Int32) : Option (Int32 × Mm) :=
 (nm (x1 - ((((x1).toUInt32 >>> (((1 : Int32)).toUInt32 &&& Int32.toUInt32 31)).toInt32) &&& (1431655765 : Int32))) fun x2 =>
    (nm ((x2 &&& (858993459 : Int32)) + ((((x2).toUInt32 >>> (((2 : Int32)).toUInt32 &&& Int32.toUInt32 31)).toInt32) &&& (858993459 : Int32))) fun x3 =>
    (nm ((x3 + (((x3).toUInt32 >>> (((4 : Int32)).toUInt32 &&& Int32.toUInt32 31)).toInt32)) &&& (252645135 : Int32)) fun x4 =>
    (nm (x4 + (((x4).toUInt32 >>> (((8 : Int32)).toUInt32 &&& Int32.toUInt32 31)).toInt32)) fun x5 =>
    (nm (x5 + (((x5).toUInt32 >>> (((16 : Int32)).toUInt32 &&& Int32.toUInt32 31)).toInt32)) fun x6 =>
    (some ((x6 &&& (63 : Int32)), μ0)))))))
set_option maxHeartbeats 4000000 in
set_option maxRecDepth 100000 in
theorem f_J6_bitCount_0f7a4_ok {l : Launch} {G : GG} {μ0 : Mm} {x1 : Int32} {r : Int32} {μ' : Mm} (hf : f_J6_bitCount_0f7a4 μ0 x1 = some (r, μ')) : EvM l G D_J6_bitCount_0f7a4 yJ6_bitCount_0f7a4 cJ6_bitCount_0f7a4 1 (some .int) [.int x1] μ0 (some (.int r)) μ' := by
  show Ev l G D_J6_bitCount_0f7a4 yJ6_bitCount_0f7a4 cJ6_bitCount_0f7a4 1 (some .int) 0 [(0, .int x1)] [] μ0 (some (.int r)) μ'
  unfold f_J6_bitCount_0f7a4 at hf
  refine E_iload_n (pc := 0) dJ6_bitCount_0f7a4_0 rfl ?_
  refine E_iload_n (pc := 1) dJ6_bitCount_0f7a4_1 rfl ?_
  refine E_iconst (pc := 2) (v := (1 : Int32)) dJ6_bitCount_0f7a4_2 (by decide) ?_
  refine E_iushr (pc := 3) dJ6_bitCount_0f7a4_3 ?_
  refine E_ldcw (pc := 4) (v := (1431655765 : Int32)) dJ6_bitCount_0f7a4_4 co_J6_265 ?_
  refine E_iand (pc := 7) dJ6_bitCount_0f7a4_7 ?_
  refine E_isub (pc := 8) dJ6_bitCount_0f7a4_8 ?_
  refine E_istore_n (pc := 9) (ls' := fun x2 => [(0, .int x2)]) dJ6_bitCount_0f7a4_9 (by decide) (fun _ => rfl) hf (fun x2 hf => ?_)
  refine E_iload_n (pc := 10) dJ6_bitCount_0f7a4_10 rfl ?_
  refine E_ldcw (pc := 11) (v := (858993459 : Int32)) dJ6_bitCount_0f7a4_11 co_J6_266 ?_
  refine E_iand (pc := 14) dJ6_bitCount_0f7a4_14 ?_
  refine E_iload_n (pc := 15) dJ6_bitCount_0f7a4_15 rfl ?_
  refine E_iconst (pc := 16) (v := (2 : Int32)) dJ6_bitCount_0f7a4_16 (by decide) ?_
  refine E_iushr (pc := 17) dJ6_bitCount_0f7a4_17 ?_
  refine E_ldcw (pc := 18) (v := (858993459 : Int32)) dJ6_bitCount_0f7a4_18 co_J6_266 ?_
  refine E_iand (pc := 21) dJ6_bitCount_0f7a4_21 ?_
  refine E_iadd (pc := 22) dJ6_bitCount_0f7a4_22 ?_
  refine E_istore_n (pc := 23) (ls' := fun x3 => [(0, .int x3)]) dJ6_bitCount_0f7a4_23 (by decide) (fun _ => rfl) hf (fun x3 hf => ?_)
  refine E_iload_n (pc := 24) dJ6_bitCount_0f7a4_24 rfl ?_
  refine E_iload_n (pc := 25) dJ6_bitCount_0f7a4_25 rfl ?_
  refine E_iconst (pc := 26) (v := (4 : Int32)) dJ6_bitCount_0f7a4_26 (by decide) ?_
  refine E_iushr (pc := 27) dJ6_bitCount_0f7a4_27 ?_
  refine E_iadd (pc := 28) dJ6_bitCount_0f7a4_28 ?_
  refine E_ldcw (pc := 29) (v := (252645135 : Int32)) dJ6_bitCount_0f7a4_29 co_J6_267 ?_
  refine E_iand (pc := 32) dJ6_bitCount_0f7a4_32 ?_
  refine E_istore_n (pc := 33) (ls' := fun x4 => [(0, .int x4)]) dJ6_bitCount_0f7a4_33 (by decide) (fun _ => rfl) hf (fun x4 hf => ?_)
  refine E_iload_n (pc := 34) dJ6_bitCount_0f7a4_34 rfl ?_
  refine E_iload_n (pc := 35) dJ6_bitCount_0f7a4_35 rfl ?_
  refine E_bipush (pc := 36) (v := (8 : Int32)) dJ6_bitCount_0f7a4_36 (by decide) ?_
  refine E_iushr (pc := 38) dJ6_bitCount_0f7a4_38 ?_
  refine E_iadd (pc := 39) dJ6_bitCount_0f7a4_39 ?_
  refine E_istore_n (pc := 40) (ls' := fun x5 => [(0, .int x5)]) dJ6_bitCount_0f7a4_40 (by decide) (fun _ => rfl) hf (fun x5 hf => ?_)
  refine E_iload_n (pc := 41) dJ6_bitCount_0f7a4_41 rfl ?_
  refine E_iload_n (pc := 42) dJ6_bitCount_0f7a4_42 rfl ?_
  refine E_bipush (pc := 43) (v := (16 : Int32)) dJ6_bitCount_0f7a4_43 (by decide) ?_
  refine E_iushr (pc := 45) dJ6_bitCount_0f7a4_45 ?_
  refine E_iadd (pc := 46) dJ6_bitCount_0f7a4_46 ?_
  refine E_istore_n (pc := 47) (ls' := fun x6 => [(0, .int x6)]) dJ6_bitCount_0f7a4_47 (by decide) (fun _ => rfl) hf (fun x6 hf => ?_)
  refine E_iload_n (pc := 48) dJ6_bitCount_0f7a4_48 rfl ?_
  refine E_bipush (pc := 49) (v := (63 : Int32)) dJ6_bitCount_0f7a4_49 (by decide) ?_
  refine E_iand (pc := 51) dJ6_bitCount_0f7a4_51 ?_
  exact E_iret (pc := 52) dJ6_bitCount_0f7a4_52 rfl hf
theorem dJ13_bitCount_95d88_0 : decode cJ13_bitCount_95d88 0 = .ok (.lload_n 0, 1) := by decide +kernel
theorem dJ13_bitCount_95d88_1 : decode cJ13_bitCount_95d88 1 = .ok (.lload_n 0, 1) := by decide +kernel
theorem dJ13_bitCount_95d88_2 : decode cJ13_bitCount_95d88 2 = .ok (.iconst 1, 1) := by decide +kernel
theorem dJ13_bitCount_95d88_3 : decode cJ13_bitCount_95d88 3 = .ok (.lushr, 1) := by decide +kernel
theorem dJ13_bitCount_95d88_4 : decode cJ13_bitCount_95d88 4 = .ok (.ldc2_w 314, 3) := by decide +kernel
theorem dJ13_bitCount_95d88_7 : decode cJ13_bitCount_95d88 7 = .ok (.land, 1) := by decide +kernel
theorem dJ13_bitCount_95d88_8 : decode cJ13_bitCount_95d88 8 = .ok (.lsub, 1) := by decide +kernel
theorem dJ13_bitCount_95d88_9 : decode cJ13_bitCount_95d88 9 = .ok (.lstore_n 0, 1) := by decide +kernel
theorem dJ13_bitCount_95d88_10 : decode cJ13_bitCount_95d88 10 = .ok (.lload_n 0, 1) := by decide +kernel
theorem dJ13_bitCount_95d88_11 : decode cJ13_bitCount_95d88 11 = .ok (.ldc2_w 316, 3) := by decide +kernel
theorem dJ13_bitCount_95d88_14 : decode cJ13_bitCount_95d88 14 = .ok (.land, 1) := by decide +kernel
theorem dJ13_bitCount_95d88_15 : decode cJ13_bitCount_95d88 15 = .ok (.lload_n 0, 1) := by decide +kernel
theorem dJ13_bitCount_95d88_16 : decode cJ13_bitCount_95d88 16 = .ok (.iconst 2, 1) := by decide +kernel
theorem dJ13_bitCount_95d88_17 : decode cJ13_bitCount_95d88 17 = .ok (.lushr, 1) := by decide +kernel
theorem dJ13_bitCount_95d88_18 : decode cJ13_bitCount_95d88 18 = .ok (.ldc2_w 316, 3) := by decide +kernel
theorem dJ13_bitCount_95d88_21 : decode cJ13_bitCount_95d88 21 = .ok (.land, 1) := by decide +kernel
theorem dJ13_bitCount_95d88_22 : decode cJ13_bitCount_95d88 22 = .ok (.ladd, 1) := by decide +kernel
theorem dJ13_bitCount_95d88_23 : decode cJ13_bitCount_95d88 23 = .ok (.lstore_n 0, 1) := by decide +kernel
theorem dJ13_bitCount_95d88_24 : decode cJ13_bitCount_95d88 24 = .ok (.lload_n 0, 1) := by decide +kernel
theorem dJ13_bitCount_95d88_25 : decode cJ13_bitCount_95d88 25 = .ok (.lload_n 0, 1) := by decide +kernel
theorem dJ13_bitCount_95d88_26 : decode cJ13_bitCount_95d88 26 = .ok (.iconst 4, 1) := by decide +kernel
theorem dJ13_bitCount_95d88_27 : decode cJ13_bitCount_95d88 27 = .ok (.lushr, 1) := by decide +kernel
theorem dJ13_bitCount_95d88_28 : decode cJ13_bitCount_95d88 28 = .ok (.ladd, 1) := by decide +kernel
theorem dJ13_bitCount_95d88_29 : decode cJ13_bitCount_95d88 29 = .ok (.ldc2_w 318, 3) := by decide +kernel
theorem dJ13_bitCount_95d88_32 : decode cJ13_bitCount_95d88 32 = .ok (.land, 1) := by decide +kernel
theorem dJ13_bitCount_95d88_33 : decode cJ13_bitCount_95d88 33 = .ok (.lstore_n 0, 1) := by decide +kernel
theorem dJ13_bitCount_95d88_34 : decode cJ13_bitCount_95d88 34 = .ok (.lload_n 0, 1) := by decide +kernel
theorem dJ13_bitCount_95d88_35 : decode cJ13_bitCount_95d88 35 = .ok (.lload_n 0, 1) := by decide +kernel
theorem dJ13_bitCount_95d88_36 : decode cJ13_bitCount_95d88 36 = .ok (.bipush 8, 2) := by decide +kernel
theorem dJ13_bitCount_95d88_38 : decode cJ13_bitCount_95d88 38 = .ok (.lushr, 1) := by decide +kernel
theorem dJ13_bitCount_95d88_39 : decode cJ13_bitCount_95d88 39 = .ok (.ladd, 1) := by decide +kernel
theorem dJ13_bitCount_95d88_40 : decode cJ13_bitCount_95d88 40 = .ok (.lstore_n 0, 1) := by decide +kernel
theorem dJ13_bitCount_95d88_41 : decode cJ13_bitCount_95d88 41 = .ok (.lload_n 0, 1) := by decide +kernel
theorem dJ13_bitCount_95d88_42 : decode cJ13_bitCount_95d88 42 = .ok (.lload_n 0, 1) := by decide +kernel
theorem dJ13_bitCount_95d88_43 : decode cJ13_bitCount_95d88 43 = .ok (.bipush 16, 2) := by decide +kernel
theorem dJ13_bitCount_95d88_45 : decode cJ13_bitCount_95d88 45 = .ok (.lushr, 1) := by decide +kernel
theorem dJ13_bitCount_95d88_46 : decode cJ13_bitCount_95d88 46 = .ok (.ladd, 1) := by decide +kernel
theorem dJ13_bitCount_95d88_47 : decode cJ13_bitCount_95d88 47 = .ok (.lstore_n 0, 1) := by decide +kernel
theorem dJ13_bitCount_95d88_48 : decode cJ13_bitCount_95d88 48 = .ok (.lload_n 0, 1) := by decide +kernel
theorem dJ13_bitCount_95d88_49 : decode cJ13_bitCount_95d88 49 = .ok (.lload_n 0, 1) := by decide +kernel
theorem dJ13_bitCount_95d88_50 : decode cJ13_bitCount_95d88 50 = .ok (.bipush 32, 2) := by decide +kernel
theorem dJ13_bitCount_95d88_52 : decode cJ13_bitCount_95d88 52 = .ok (.lushr, 1) := by decide +kernel
theorem dJ13_bitCount_95d88_53 : decode cJ13_bitCount_95d88 53 = .ok (.ladd, 1) := by decide +kernel
theorem dJ13_bitCount_95d88_54 : decode cJ13_bitCount_95d88 54 = .ok (.lstore_n 0, 1) := by decide +kernel
theorem dJ13_bitCount_95d88_55 : decode cJ13_bitCount_95d88 55 = .ok (.lload_n 0, 1) := by decide +kernel
theorem dJ13_bitCount_95d88_56 : decode cJ13_bitCount_95d88 56 = .ok (.l2i, 1) := by decide +kernel
theorem dJ13_bitCount_95d88_57 : decode cJ13_bitCount_95d88 57 = .ok (.bipush 127, 2) := by decide +kernel
theorem dJ13_bitCount_95d88_59 : decode cJ13_bitCount_95d88 59 = .ok (.iand, 1) := by decide +kernel
theorem dJ13_bitCount_95d88_60 : decode cJ13_bitCount_95d88 60 = .ok (.ireturn, 1) := by decide +kernel
abbrev D_J13_bitCount_95d88 : Nat := 1
set_option maxRecDepth 100000 in
def f_J13_bitCount_95d88 (μ0 : Mm) (w1 : Int64) : Option (Int32 × Mm) :=
 (nm (w1 - ((((w1).toUInt64 >>> (((1 : Int32)).toInt64.toUInt64 &&& Int64.toUInt64 63)).toInt64) &&& (6148914691236517205 : Int64))) fun w2 =>
    (nm ((w2 &&& (3689348814741910323 : Int64)) + ((((w2).toUInt64 >>> (((2 : Int32)).toInt64.toUInt64 &&& Int64.toUInt64 63)).toInt64) &&& (3689348814741910323 : Int64))) fun w3 =>
    (nm ((w3 + (((w3).toUInt64 >>> (((4 : Int32)).toInt64.toUInt64 &&& Int64.toUInt64 63)).toInt64)) &&& (1085102592571150095 : Int64)) fun w4 =>
    (nm (w4 + (((w4).toUInt64 >>> (((8 : Int32)).toInt64.toUInt64 &&& Int64.toUInt64 63)).toInt64)) fun w5 =>
    (nm (w5 + (((w5).toUInt64 >>> (((16 : Int32)).toInt64.toUInt64 &&& Int64.toUInt64 63)).toInt64)) fun w6 =>
    (nm (w6 + (((w6).toUInt64 >>> (((32 : Int32)).toInt64.toUInt64 &&& Int64.toUInt64 63)).toInt64)) fun w7 =>
    (some (((w7).toInt32 &&& (127 : Int32)), μ0))))))))
set_option maxHeartbeats 4000000 in
set_option maxRecDepth 100000 in
theorem f_J13_bitCount_95d88_ok {l : Launch} {G : GG} {μ0 : Mm} {w1 : Int64} {r : Int32} {μ' : Mm} (hf : f_J13_bitCount_95d88 μ0 w1 = some (r, μ')) : EvM l G D_J13_bitCount_95d88 yJ13_bitCount_95d88 cJ13_bitCount_95d88 2 (some .int) [.long w1] μ0 (some (.int r)) μ' := by
  show Ev l G D_J13_bitCount_95d88 yJ13_bitCount_95d88 cJ13_bitCount_95d88 2 (some .int) 0 [(0, .long w1)] [] μ0 (some (.int r)) μ'
  unfold f_J13_bitCount_95d88 at hf
  refine E_lload_n (pc := 0) dJ13_bitCount_95d88_0 rfl ?_
  refine E_lload_n (pc := 1) dJ13_bitCount_95d88_1 rfl ?_
  refine E_iconst (pc := 2) (v := (1 : Int32)) dJ13_bitCount_95d88_2 (by decide) ?_
  refine E_lushr (pc := 3) dJ13_bitCount_95d88_3 ?_
  refine E_ldc2 (pc := 4) (v := (6148914691236517205 : Int64)) dJ13_bitCount_95d88_4 co_J13_314 ?_
  refine E_land (pc := 7) dJ13_bitCount_95d88_7 ?_
  refine E_lsub (pc := 8) dJ13_bitCount_95d88_8 ?_
  refine E_lstore_n (pc := 9) (ls' := fun w2 => [(0, .long w2)]) dJ13_bitCount_95d88_9 (by decide) (fun _ => rfl) hf (fun w2 hf => ?_)
  refine E_lload_n (pc := 10) dJ13_bitCount_95d88_10 rfl ?_
  refine E_ldc2 (pc := 11) (v := (3689348814741910323 : Int64)) dJ13_bitCount_95d88_11 co_J13_316 ?_
  refine E_land (pc := 14) dJ13_bitCount_95d88_14 ?_
  refine E_lload_n (pc := 15) dJ13_bitCount_95d88_15 rfl ?_
  refine E_iconst (pc := 16) (v := (2 : Int32)) dJ13_bitCount_95d88_16 (by decide) ?_
  refine E_lushr (pc := 17) dJ13_bitCount_95d88_17 ?_
  refine E_ldc2 (pc := 18) (v := (3689348814741910323 : Int64)) dJ13_bitCount_95d88_18 co_J13_316 ?_
  refine E_land (pc := 21) dJ13_bitCount_95d88_21 ?_
  refine E_ladd (pc := 22) dJ13_bitCount_95d88_22 ?_
  refine E_lstore_n (pc := 23) (ls' := fun w3 => [(0, .long w3)]) dJ13_bitCount_95d88_23 (by decide) (fun _ => rfl) hf (fun w3 hf => ?_)
  refine E_lload_n (pc := 24) dJ13_bitCount_95d88_24 rfl ?_
  refine E_lload_n (pc := 25) dJ13_bitCount_95d88_25 rfl ?_
  refine E_iconst (pc := 26) (v := (4 : Int32)) dJ13_bitCount_95d88_26 (by decide) ?_
  refine E_lushr (pc := 27) dJ13_bitCount_95d88_27 ?_
  refine E_ladd (pc := 28) dJ13_bitCount_95d88_28 ?_
  refine E_ldc2 (pc := 29) (v := (1085102592571150095 : Int64)) dJ13_bitCount_95d88_29 co_J13_318 ?_
  refine E_land (pc := 32) dJ13_bitCount_95d88_32 ?_
  refine E_lstore_n (pc := 33) (ls' := fun w4 => [(0, .long w4)]) dJ13_bitCount_95d88_33 (by decide) (fun _ => rfl) hf (fun w4 hf => ?_)
  refine E_lload_n (pc := 34) dJ13_bitCount_95d88_34 rfl ?_
  refine E_lload_n (pc := 35) dJ13_bitCount_95d88_35 rfl ?_
  refine E_bipush (pc := 36) (v := (8 : Int32)) dJ13_bitCount_95d88_36 (by decide) ?_
  refine E_lushr (pc := 38) dJ13_bitCount_95d88_38 ?_
  refine E_ladd (pc := 39) dJ13_bitCount_95d88_39 ?_
  refine E_lstore_n (pc := 40) (ls' := fun w5 => [(0, .long w5)]) dJ13_bitCount_95d88_40 (by decide) (fun _ => rfl) hf (fun w5 hf => ?_)
  refine E_lload_n (pc := 41) dJ13_bitCount_95d88_41 rfl ?_
  refine E_lload_n (pc := 42) dJ13_bitCount_95d88_42 rfl ?_
  refine E_bipush (pc := 43) (v := (16 : Int32)) dJ13_bitCount_95d88_43 (by decide) ?_
  refine E_lushr (pc := 45) dJ13_bitCount_95d88_45 ?_
  refine E_ladd (pc := 46) dJ13_bitCount_95d88_46 ?_
  refine E_lstore_n (pc := 47) (ls' := fun w6 => [(0, .long w6)]) dJ13_bitCount_95d88_47 (by decide) (fun _ => rfl) hf (fun w6 hf => ?_)
  refine E_lload_n (pc := 48) dJ13_bitCount_95d88_48 rfl ?_
  refine E_lload_n (pc := 49) dJ13_bitCount_95d88_49 rfl ?_
  refine E_bipush (pc := 50) (v := (32 : Int32)) dJ13_bitCount_95d88_50 (by decide) ?_
  refine E_lushr (pc := 52) dJ13_bitCount_95d88_52 ?_
  refine E_ladd (pc := 53) dJ13_bitCount_95d88_53 ?_
  refine E_lstore_n (pc := 54) (ls' := fun w7 => [(0, .long w7)]) dJ13_bitCount_95d88_54 (by decide) (fun _ => rfl) hf (fun w7 hf => ?_)
  refine E_lload_n (pc := 55) dJ13_bitCount_95d88_55 rfl ?_
  refine E_l2i (pc := 56) dJ13_bitCount_95d88_56 ?_
  refine E_bipush (pc := 57) (v := (127 : Int32)) dJ13_bitCount_95d88_57 (by decide) ?_
  refine E_iand (pc := 59) dJ13_bitCount_95d88_59 ?_
  exact E_iret (pc := 60) dJ13_bitCount_95d88_60 rfl hf
theorem dJ7_fill_53178_0 : decode cJ7_fill_53178 0 = .ok (.iconst 0, 1) := by decide +kernel
theorem dJ7_fill_53178_1 : decode cJ7_fill_53178 1 = .ok (.istore_n 2, 1) := by decide +kernel
theorem dJ7_fill_53178_2 : decode cJ7_fill_53178 2 = .ok (.aload_n 0, 1) := by decide +kernel
theorem dJ7_fill_53178_3 : decode cJ7_fill_53178 3 = .ok (.arraylength, 1) := by decide +kernel
theorem dJ7_fill_53178_4 : decode cJ7_fill_53178 4 = .ok (.istore_n 3, 1) := by decide +kernel
theorem dJ7_fill_53178_5 : decode cJ7_fill_53178 5 = .ok (.iload_n 2, 1) := by decide +kernel
theorem dJ7_fill_53178_6 : decode cJ7_fill_53178 6 = .ok (.iload_n 3, 1) := by decide +kernel
theorem dJ7_fill_53178_7 : decode cJ7_fill_53178 7 = .ok (.if_icmp .ge 13, 3) := by decide +kernel
theorem dJ7_fill_53178_10 : decode cJ7_fill_53178 10 = .ok (.aload_n 0, 1) := by decide +kernel
theorem dJ7_fill_53178_11 : decode cJ7_fill_53178 11 = .ok (.iload_n 2, 1) := by decide +kernel
theorem dJ7_fill_53178_12 : decode cJ7_fill_53178 12 = .ok (.iload_n 1, 1) := by decide +kernel
theorem dJ7_fill_53178_13 : decode cJ7_fill_53178 13 = .ok (.iastore, 1) := by decide +kernel
theorem dJ7_fill_53178_14 : decode cJ7_fill_53178 14 = .ok (.iinc 2 1, 3) := by decide +kernel
theorem dJ7_fill_53178_17 : decode cJ7_fill_53178 17 = .ok (.goto (-12), 3) := by decide +kernel
theorem dJ7_fill_53178_20 : decode cJ7_fill_53178 20 = .ok (.return_, 1) := by decide +kernel
abbrev D_J7_fill_53178 : Nat := 1
def f_J7_fill_53178_L5 (K20 : Mm → Option Mm) : Nat → Mm → Nat → Int32 → Int32 → Int32 → Option Mm
  | 0, _, _, _, _, _ => none
  | n + 1, μ0, a6, x7, x8, x9 =>
    (if x9 ≤ x8 then
    K20 μ0
    else
    ((sI μ0 a6 0 x8 x7).bind fun μ10 =>
    (nm (x8 + Int32.ofInt (1)) fun x11 =>
    f_J7_fill_53178_L5 K20 n μ10 a6 x7 x11 x9)))
set_option maxHeartbeats 4000000 in
set_option maxRecDepth 100000 in
theorem f_J7_fill_53178_L5_ok {l : Launch} {G : GG} {K20 : Mm → Option Mm} {μ' : Mm} (n : Nat) (μ0 : Mm) (a6 : Nat) (x7 : Int32) (x8 : Int32) (x9 : Int32) (hf : f_J7_fill_53178_L5 K20 n μ0 a6 x7 x8 x9 = some μ') (hK20 : ∀ (μ1 : Mm), K20 μ1  = some μ' → Ev l G D_J7_fill_53178 yJ7_fill_53178 cJ7_fill_53178 4 none 20 [] [] μ1 none μ') : Ev l G D_J7_fill_53178 yJ7_fill_53178 cJ7_fill_53178 4 none 5 [(0, .ref a6), (1, .int x7), (2, .int x8), (3, .int x9)] [] μ0 none μ' := by
  induction n generalizing μ0 a6 x7 x8 x9 with
  | zero => cases hf
  | succ n ih0 =>
    have ih : ∀ (μ0 : Mm) (a6 : Nat) (x7 : Int32) (x8 : Int32) (x9 : Int32), f_J7_fill_53178_L5 K20 n μ0 a6 x7 x8 x9 = some μ' → Ev l G D_J7_fill_53178 yJ7_fill_53178 cJ7_fill_53178 4 none 5 [(0, .ref a6), (1, .int x7), (2, .int x8), (3, .int x9)] [] μ0 none μ' := fun μ0 a6 x7 x8 x9 hf => ih0 μ0 a6 x7 x8 x9 hf
    rw [f_J7_fill_53178_L5] at hf
    refine E_iload_n (pc := 5) dJ7_fill_53178_5 rfl ?_
    refine E_iload_n (pc := 6) dJ7_fill_53178_6 rfl ?_
    refine E_icmp_ge (pc := 7) (tgt := 20) dJ7_fill_53178_7 (by decide) hf (fun hf => ?_) (fun hf => ?_)
    · refine Ev.sub [] rfl ?_
      exact hK20 _ hf
    · refine E_aload_n (pc := 10) dJ7_fill_53178_10 rfl ?_
      refine E_iload_n (pc := 11) dJ7_fill_53178_11 rfl ?_
      refine E_iload_n (pc := 12) dJ7_fill_53178_12 rfl ?_
      refine E_iast (pc := 13) dJ7_fill_53178_13 hf (fun μ10 hf => ?_)
      refine E_iinc (pc := 14) (ls' := fun x11 => [(2, .int x11), (0, .ref a6), (1, .int x7), (3, .int x9)]) dJ7_fill_53178_14 rfl (by decide) (fun _ => rfl) hf (fun x11 hf => ?_)
      refine E_goto (pc := 17) (tgt := 5) dJ7_fill_53178_17 (by decide) ?_
      refine Ev.sub [1, 2, 0, 3] rfl ?_
      exact ih _ _ _ _ _ hf
set_option maxRecDepth 100000 in
def f_J7_fill_53178 (μ0 : Mm) (a1 : Nat) (x2 : Int32) : Option Mm :=
 (nm (0 : Int32) fun x3 =>
    ((aN μ0 a1 0).bind fun v4 =>
    (nm v4 fun x5 =>
    f_J7_fill_53178_L5 (fun μ12 =>
    (some μ12)) FU μ0 a1 x2 x3 x5)))
set_option maxHeartbeats 4000000 in
set_option maxRecDepth 100000 in
theorem f_J7_fill_53178_ok {l : Launch} {G : GG} {μ0 : Mm} {a1 : Nat} {x2 : Int32} {μ' : Mm} (hf : f_J7_fill_53178 μ0 a1 x2 = some μ') : EvM l G D_J7_fill_53178 yJ7_fill_53178 cJ7_fill_53178 4 none [.ref a1, .int x2] μ0 none μ' := by
  show Ev l G D_J7_fill_53178 yJ7_fill_53178 cJ7_fill_53178 4 none 0 [(0, .ref a1), (1, .int x2)] [] μ0 none μ'
  unfold f_J7_fill_53178 at hf
  refine E_iconst (pc := 0) (v := (0 : Int32)) dJ7_fill_53178_0 (by decide) ?_
  refine E_istore_n (pc := 1) (ls' := fun x3 => [(2, .int x3), (0, .ref a1), (1, .int x2)]) dJ7_fill_53178_1 (by decide) (fun _ => rfl) hf (fun x3 hf => ?_)
  refine E_aload_n (pc := 2) dJ7_fill_53178_2 rfl ?_
  refine E_alen (pc := 3) 0 dJ7_fill_53178_3 (by decide) hf (fun v4 hf => ?_)
  refine E_istore_n (pc := 4) (ls' := fun x5 => [(3, .int x5), (2, .int x3), (0, .ref a1), (1, .int x2)]) dJ7_fill_53178_4 (by decide) (fun _ => rfl) hf (fun x5 hf => ?_)
  refine Ev.sub [2, 3, 1, 0] rfl ?_
  refine f_J7_fill_53178_L5_ok  _ _ _ _ _ _ hf (fun μ12 hf => ?_)
  · exact E_vret (pc := 20) dJ7_fill_53178_20 rfl hf
theorem dJ7_copyOf_59c91_0 : decode cJ7_copyOf_59c91 0 = .ok (.iload_n 1, 1) := by decide +kernel
theorem dJ7_copyOf_59c91_1 : decode cJ7_copyOf_59c91 1 = .ok (.aload_n 0, 1) := by decide +kernel
theorem dJ7_copyOf_59c91_2 : decode cJ7_copyOf_59c91 2 = .ok (.arraylength, 1) := by decide +kernel
theorem dJ7_copyOf_59c91_3 : decode cJ7_copyOf_59c91 3 = .ok (.if_icmp .ne 11, 3) := by decide +kernel
theorem dJ7_copyOf_59c91_6 : decode cJ7_copyOf_59c91 6 = .ok (.aload_n 0, 1) := by decide +kernel
theorem dJ7_copyOf_59c91_7 : decode cJ7_copyOf_59c91 7 = .ok (.invokevirtual 316, 3) := by decide +kernel
theorem dJ7_copyOf_59c91_10 : decode cJ7_copyOf_59c91 10 = .ok (.checkcast 317, 3) := by decide +kernel
theorem dJ7_copyOf_59c91_13 : decode cJ7_copyOf_59c91 13 = .ok (.areturn, 1) := by decide +kernel
theorem dJ7_copyOf_59c91_14 : decode cJ7_copyOf_59c91 14 = .ok (.iload_n 1, 1) := by decide +kernel
theorem dJ7_copyOf_59c91_15 : decode cJ7_copyOf_59c91 15 = .ok (.newarray .int, 2) := by decide +kernel
theorem dJ7_copyOf_59c91_17 : decode cJ7_copyOf_59c91 17 = .ok (.astore_n 2, 1) := by decide +kernel
theorem dJ7_copyOf_59c91_18 : decode cJ7_copyOf_59c91 18 = .ok (.aload_n 0, 1) := by decide +kernel
theorem dJ7_copyOf_59c91_19 : decode cJ7_copyOf_59c91 19 = .ok (.iconst 0, 1) := by decide +kernel
theorem dJ7_copyOf_59c91_20 : decode cJ7_copyOf_59c91 20 = .ok (.aload_n 2, 1) := by decide +kernel
theorem dJ7_copyOf_59c91_21 : decode cJ7_copyOf_59c91 21 = .ok (.iconst 0, 1) := by decide +kernel
theorem dJ7_copyOf_59c91_22 : decode cJ7_copyOf_59c91 22 = .ok (.aload_n 0, 1) := by decide +kernel
theorem dJ7_copyOf_59c91_23 : decode cJ7_copyOf_59c91 23 = .ok (.arraylength, 1) := by decide +kernel
theorem dJ7_copyOf_59c91_24 : decode cJ7_copyOf_59c91 24 = .ok (.iload_n 1, 1) := by decide +kernel
theorem dJ7_copyOf_59c91_25 : decode cJ7_copyOf_59c91 25 = .ok (.invokestatic 304, 3) := by decide +kernel
theorem dJ7_copyOf_59c91_28 : decode cJ7_copyOf_59c91 28 = .ok (.invokestatic 150, 3) := by decide +kernel
theorem dJ7_copyOf_59c91_31 : decode cJ7_copyOf_59c91 31 = .ok (.aload_n 2, 1) := by decide +kernel
theorem dJ7_copyOf_59c91_32 : decode cJ7_copyOf_59c91 32 = .ok (.areturn, 1) := by decide +kernel
abbrev D_J7_copyOf_59c91 : Nat := 1
set_option maxRecDepth 100000 in
def f_J7_copyOf_59c91 (μ0 : Mm) (a1 : Nat) (x2 : Int32) : Option (Nat × Mm) :=
 ((aN μ0 a1 0).bind fun v3 =>
    (if x2 = v3 then
    (bd (clI μ0 a1) fun a4 μ5 =>
    ((arr μ5 a4 0).bind fun _ =>
    (some (a4, μ5))))
    else
    (bd (nA μ0 0 x2) fun a6 μ7 =>
    (nm a6 fun a8 =>
    ((aN μ7 a1 0).bind fun v9 =>
    ((cpI μ7 a1 (0 : Int32) a8 (0 : Int32) (if x2 < v9 then x2 else v9)).bind fun μ10 =>
    (some (a8, μ10))))))))
set_option maxHeartbeats 4000000 in
set_option maxRecDepth 100000 in
theorem f_J7_copyOf_59c91_ok {l : Launch} {G : GG} {μ0 : Mm} {a1 : Nat} {x2 : Int32} {r : Nat} {μ' : Mm} (hf : f_J7_copyOf_59c91 μ0 a1 x2 = some (r, μ')) : EvM l G D_J7_copyOf_59c91 yJ7_copyOf_59c91 cJ7_copyOf_59c91 3 (some (.array .int)) [.ref a1, .int x2] μ0 (some (.ref r)) μ' := by
  show Ev l G D_J7_copyOf_59c91 yJ7_copyOf_59c91 cJ7_copyOf_59c91 3 (some (.array .int)) 0 [(0, .ref a1), (1, .int x2)] [] μ0 (some (.ref r)) μ'
  unfold f_J7_copyOf_59c91 at hf
  refine E_iload_n (pc := 0) dJ7_copyOf_59c91_0 rfl ?_
  refine E_aload_n (pc := 1) dJ7_copyOf_59c91_1 rfl ?_
  refine E_alen (pc := 2) 0 dJ7_copyOf_59c91_2 (by decide) hf (fun v3 hf => ?_)
  refine E_icmp_ne (pc := 3) (tgt := 14) dJ7_copyOf_59c91_3 (by decide) hf (fun hf => ?_) (fun hf => ?_)
  · refine E_aload_n (pc := 6) dJ7_copyOf_59c91_6 rfl ?_
    refine E_clone2 (pc := 7) dJ7_copyOf_59c91_7 (by decide) (Nat.le_of_ble_eq_true rfl) wc_clone hf (fun a4 μ5 hf => ?_)
    refine E_castA (pc := 10) dJ7_copyOf_59c91_10 cl_J7_317 hf (fun hf => ?_)
    exact E_aret (pc := 13) dJ7_copyOf_59c91_13 rfl (Or.inr ⟨_, rfl⟩) hf
  · refine E_iload_n (pc := 14) dJ7_copyOf_59c91_14 rfl ?_
    refine E_newa2 (pc := 15) dJ7_copyOf_59c91_15 (by decide) ac_int hf (fun a6 μ7 hf => ?_)
    refine E_astore_n (pc := 17) (ls' := fun a8 => [(2, .ref a8), (0, .ref a1), (1, .int x2)]) dJ7_copyOf_59c91_17 (by decide) (fun _ => rfl) hf (fun a8 hf => ?_)
    refine E_aload_n (pc := 18) dJ7_copyOf_59c91_18 rfl ?_
    refine E_iconst (pc := 19) (v := (0 : Int32)) dJ7_copyOf_59c91_19 (by decide) ?_
    refine E_aload_n (pc := 20) dJ7_copyOf_59c91_20 rfl ?_
    refine E_iconst (pc := 21) (v := (0 : Int32)) dJ7_copyOf_59c91_21 (by decide) ?_
    refine E_aload_n (pc := 22) dJ7_copyOf_59c91_22 rfl ?_
    refine E_alen (pc := 23) 0 dJ7_copyOf_59c91_23 (by decide) hf (fun v9 hf => ?_)
    refine E_iload_n (pc := 24) dJ7_copyOf_59c91_24 rfl ?_
    refine E_min (pc := 25) dJ7_copyOf_59c91_25 ml_J7_304 (by decide) (Nat.le_of_ble_eq_true rfl) ?_
    refine E_copy (pc := 28) dJ7_copyOf_59c91_28 (by decide) (Nat.le_of_ble_eq_true rfl) ml_J7_150 hf (fun μ10 hf => ?_)
    refine E_aload_n (pc := 31) dJ7_copyOf_59c91_31 rfl ?_
    exact E_aret (pc := 32) dJ7_copyOf_59c91_32 rfl (Or.inr ⟨_, rfl⟩) hf
