theorem dX6_init_0 : decode cX6_init 0 = .ok (.aload_n 0, 1) := by decide +kernel
theorem dX6_init_1 : decode cX6_init 1 = .ok (.invokespecial 3, 3) := by decide +kernel
theorem dX6_init_4 : decode cX6_init 4 = .ok (.aload_n 0, 1) := by decide +kernel
theorem dX6_init_5 : decode cX6_init 5 = .ok (.sipush 400, 3) := by decide +kernel
theorem dX6_init_8 : decode cX6_init 8 = .ok (.newarray .int, 2) := by decide +kernel
theorem dX6_init_10 : decode cX6_init 10 = .ok (.putfield 9, 3) := by decide +kernel
theorem dX6_init_13 : decode cX6_init 13 = .ok (.aload_n 0, 1) := by decide +kernel
theorem dX6_init_14 : decode cX6_init 14 = .ok (.iconst 0, 1) := by decide +kernel
theorem dX6_init_15 : decode cX6_init 15 = .ok (.putfield 15, 3) := by decide +kernel
theorem dX6_init_18 : decode cX6_init 18 = .ok (.aload_n 0, 1) := by decide +kernel
theorem dX6_init_19 : decode cX6_init 19 = .ok (.iconst 0, 1) := by decide +kernel
theorem dX6_init_20 : decode cX6_init 20 = .ok (.putfield 19, 3) := by decide +kernel
theorem dX6_init_23 : decode cX6_init 23 = .ok (.aload_n 0, 1) := by decide +kernel
theorem dX6_init_24 : decode cX6_init 24 = .ok (.iconst 0, 1) := by decide +kernel
theorem dX6_init_25 : decode cX6_init 25 = .ok (.putfield 22, 3) := by decide +kernel
theorem dX6_init_28 : decode cX6_init 28 = .ok (.aload_n 0, 1) := by decide +kernel
theorem dX6_init_29 : decode cX6_init 29 = .ok (.bipush 12, 2) := by decide +kernel
theorem dX6_init_31 : decode cX6_init 31 = .ok (.newarray .int, 2) := by decide +kernel
theorem dX6_init_33 : decode cX6_init 33 = .ok (.putfield 25, 3) := by decide +kernel
theorem dX6_init_36 : decode cX6_init 36 = .ok (.aload_n 0, 1) := by decide +kernel
theorem dX6_init_37 : decode cX6_init 37 = .ok (.bipush 12, 2) := by decide +kernel
theorem dX6_init_39 : decode cX6_init 39 = .ok (.newarray .int, 2) := by decide +kernel
theorem dX6_init_41 : decode cX6_init 41 = .ok (.putfield 28, 3) := by decide +kernel
theorem dX6_init_44 : decode cX6_init 44 = .ok (.aload_n 0, 1) := by decide +kernel
theorem dX6_init_45 : decode cX6_init 45 = .ok (.bipush 12, 2) := by decide +kernel
theorem dX6_init_47 : decode cX6_init 47 = .ok (.newarray .int, 2) := by decide +kernel
theorem dX6_init_49 : decode cX6_init 49 = .ok (.putfield 31, 3) := by decide +kernel
theorem dX6_init_52 : decode cX6_init 52 = .ok (.aload_n 0, 1) := by decide +kernel
theorem dX6_init_53 : decode cX6_init 53 = .ok (.bipush 12, 2) := by decide +kernel
theorem dX6_init_55 : decode cX6_init 55 = .ok (.newarray .int, 2) := by decide +kernel
theorem dX6_init_57 : decode cX6_init 57 = .ok (.putfield 34, 3) := by decide +kernel
theorem dX6_init_60 : decode cX6_init 60 = .ok (.aload_n 0, 1) := by decide +kernel
theorem dX6_init_61 : decode cX6_init 61 = .ok (.aload_n 1, 1) := by decide +kernel
theorem dX6_init_62 : decode cX6_init 62 = .ok (.putfield 37, 3) := by decide +kernel
theorem dX6_init_65 : decode cX6_init 65 = .ok (.return_, 1) := by decide +kernel
abbrev D_X6_init : Nat := 1
set_option maxRecDepth 100000 in
def f_X6_init (μ0 : Mm) (a1 : Nat) (a2 : Nat) : Option Mm :=
 (bd (nA μ0 0 (400 : Int32)) fun a3 μ4 =>
    ((pV μ4 a1 6 1 (.ref a3)).bind fun μ5 =>
    ((pV μ5 a1 6 2 (.int (0 : Int32))).bind fun μ6 =>
    ((pV μ6 a1 6 3 (.int (0 : Int32))).bind fun μ7 =>
    ((pV μ7 a1 6 4 (.int (0 : Int32))).bind fun μ8 =>
    (bd (nA μ8 0 (12 : Int32)) fun a9 μ10 =>
    ((pV μ10 a1 6 5 (.ref a9)).bind fun μ11 =>
    (bd (nA μ11 0 (12 : Int32)) fun a12 μ13 =>
    ((pV μ13 a1 6 6 (.ref a12)).bind fun μ14 =>
    (bd (nA μ14 0 (12 : Int32)) fun a15 μ16 =>
    ((pV μ16 a1 6 7 (.ref a15)).bind fun μ17 =>
    (bd (nA μ17 0 (12 : Int32)) fun a18 μ19 =>
    ((pV μ19 a1 6 8 (.ref a18)).bind fun μ20 =>
    ((pV μ20 a1 6 0 (.ref a2)).bind fun μ21 =>
    (some μ21)))))))))))))))
set_option maxHeartbeats 4000000 in
set_option maxRecDepth 100000 in
theorem f_X6_init_ok {l : Launch} {G : GG} {μ0 : Mm} {a1 : Nat} {a2 : Nat} {μ' : Mm} (hf : f_X6_init μ0 a1 a2 = some μ') : EvM l G D_X6_init yX6_init cX6_init 2 none [.ref a1, .ref a2] μ0 none μ' := by
  show Ev l G D_X6_init yX6_init cX6_init 2 none 0 [(0, .ref a1), (1, .ref a2)] [] μ0 none μ'
  unfold f_X6_init at hf
  refine E_aload_n (pc := 0) dX6_init_0 rfl ?_
  refine E_objI (pc := 1) dX6_init_1 (by decide) (Nat.le_of_ble_eq_true rfl) ml_X6_3 ?_
  refine E_aload_n (pc := 4) dX6_init_4 rfl ?_
  refine E_sipush (pc := 5) (v := (400 : Int32)) dX6_init_5 (by decide) ?_
  refine E_newa2 (pc := 8) dX6_init_8 (by decide) ac_int hf (fun a3 μ4 hf => ?_)
  refine E_putA (pc := 10) dX6_init_10 pl_X6_9 hf (fun μ5 hf => ?_)
  refine E_aload_n (pc := 13) dX6_init_13 rfl ?_
  refine E_iconst (pc := 14) (v := (0 : Int32)) dX6_init_14 (by decide) ?_
  refine E_putI (pc := 15) dX6_init_15 (pl_X6_15 _) hf (fun μ6 hf => ?_)
  refine E_aload_n (pc := 18) dX6_init_18 rfl ?_
  refine E_iconst (pc := 19) (v := (0 : Int32)) dX6_init_19 (by decide) ?_
  refine E_putI (pc := 20) dX6_init_20 (pl_X6_19 _) hf (fun μ7 hf => ?_)
  refine E_aload_n (pc := 23) dX6_init_23 rfl ?_
  refine E_iconst (pc := 24) (v := (0 : Int32)) dX6_init_24 (by decide) ?_
  refine E_putI (pc := 25) dX6_init_25 (pl_X6_22 _) hf (fun μ8 hf => ?_)
  refine E_aload_n (pc := 28) dX6_init_28 rfl ?_
  refine E_bipush (pc := 29) (v := (12 : Int32)) dX6_init_29 (by decide) ?_
  refine E_newa2 (pc := 31) dX6_init_31 (by decide) ac_int hf (fun a9 μ10 hf => ?_)
  refine E_putA (pc := 33) dX6_init_33 pl_X6_25 hf (fun μ11 hf => ?_)
  refine E_aload_n (pc := 36) dX6_init_36 rfl ?_
  refine E_bipush (pc := 37) (v := (12 : Int32)) dX6_init_37 (by decide) ?_
  refine E_newa2 (pc := 39) dX6_init_39 (by decide) ac_int hf (fun a12 μ13 hf => ?_)
  refine E_putA (pc := 41) dX6_init_41 pl_X6_28 hf (fun μ14 hf => ?_)
  refine E_aload_n (pc := 44) dX6_init_44 rfl ?_
  refine E_bipush (pc := 45) (v := (12 : Int32)) dX6_init_45 (by decide) ?_
  refine E_newa2 (pc := 47) dX6_init_47 (by decide) ac_int hf (fun a15 μ16 hf => ?_)
  refine E_putA (pc := 49) dX6_init_49 pl_X6_31 hf (fun μ17 hf => ?_)
  refine E_aload_n (pc := 52) dX6_init_52 rfl ?_
  refine E_bipush (pc := 53) (v := (12 : Int32)) dX6_init_53 (by decide) ?_
  refine E_newa2 (pc := 55) dX6_init_55 (by decide) ac_int hf (fun a18 μ19 hf => ?_)
  refine E_putA (pc := 57) dX6_init_57 pl_X6_34 hf (fun μ20 hf => ?_)
  refine E_aload_n (pc := 60) dX6_init_60 rfl ?_
  refine E_aload_n (pc := 61) dX6_init_61 rfl ?_
  refine E_putR (pc := 62) dX6_init_62 pl_X6_37 hf (fun μ21 hf => ?_)
  exact E_vret (pc := 65) dX6_init_65 rfl hf
theorem dX6_emit_0 : decode cX6_emit 0 = .ok (.aload_n 0, 1) := by decide +kernel
theorem dX6_emit_1 : decode cX6_emit 1 = .ok (.getfield 37, 3) := by decide +kernel
theorem dX6_emit_4 : decode cX6_emit 4 = .ok (.invokevirtual 49, 3) := by decide +kernel
theorem dX6_emit_7 : decode cX6_emit 7 = .ok (.ifCond .eq 35, 3) := by decide +kernel
theorem dX6_emit_10 : decode cX6_emit 10 = .ok (.aload_n 0, 1) := by decide +kernel
theorem dX6_emit_11 : decode cX6_emit 11 = .ok (.getfield 15, 3) := by decide +kernel
theorem dX6_emit_14 : decode cX6_emit 14 = .ok (.aload_n 0, 1) := by decide +kernel
theorem dX6_emit_15 : decode cX6_emit 15 = .ok (.getfield 9, 3) := by decide +kernel
theorem dX6_emit_18 : decode cX6_emit 18 = .ok (.arraylength, 1) := by decide +kernel
theorem dX6_emit_19 : decode cX6_emit 19 = .ok (.if_icmp .ge 23, 3) := by decide +kernel
theorem dX6_emit_22 : decode cX6_emit 22 = .ok (.aload_n 0, 1) := by decide +kernel
theorem dX6_emit_23 : decode cX6_emit 23 = .ok (.getfield 9, 3) := by decide +kernel
theorem dX6_emit_26 : decode cX6_emit 26 = .ok (.aload_n 0, 1) := by decide +kernel
theorem dX6_emit_27 : decode cX6_emit 27 = .ok (.getfield 15, 3) := by decide +kernel
theorem dX6_emit_30 : decode cX6_emit 30 = .ok (.iload_n 1, 1) := by decide +kernel
theorem dX6_emit_31 : decode cX6_emit 31 = .ok (.iastore, 1) := by decide +kernel
theorem dX6_emit_32 : decode cX6_emit 32 = .ok (.aload_n 0, 1) := by decide +kernel
theorem dX6_emit_33 : decode cX6_emit 33 = .ok (.dup, 1) := by decide +kernel
theorem dX6_emit_34 : decode cX6_emit 34 = .ok (.getfield 15, 3) := by decide +kernel
theorem dX6_emit_37 : decode cX6_emit 37 = .ok (.iconst 1, 1) := by decide +kernel
theorem dX6_emit_38 : decode cX6_emit 38 = .ok (.iadd, 1) := by decide +kernel
theorem dX6_emit_39 : decode cX6_emit 39 = .ok (.putfield 15, 3) := by decide +kernel
theorem dX6_emit_42 : decode cX6_emit 42 = .ok (.return_, 1) := by decide +kernel
abbrev D_X6_emit : Nat := 2
set_option maxRecDepth 100000 in
def f_X6_emit (μ0 : Mm) (a1 : Nat) (x2 : Int32) : Option Mm :=
 ((gR μ0 a1 6 0).bind fun v3 =>
    ((ob μ0 v3 9).bind fun _ =>
    (bd (f_X9_isSound μ0 v3) fun v5 μ4 =>
    (if v5 = 0 then
    (some μ4)
    else
    ((gI μ4 a1 6 2).bind fun v6 =>
    ((gR μ4 a1 6 1).bind fun v7 =>
    ((aN μ4 v7 0).bind fun v8 =>
    (if v8 ≤ v6 then
    (some μ4)
    else
    ((gR μ4 a1 6 1).bind fun v9 =>
    ((gI μ4 a1 6 2).bind fun v10 =>
    ((sI μ4 v9 0 v10 x2).bind fun μ11 =>
    ((gI μ11 a1 6 2).bind fun v12 =>
    ((pV μ11 a1 6 2 (.int (v12 + (1 : Int32)))).bind fun μ13 =>
    (some μ13))))))))))))))
set_option maxHeartbeats 4000000 in
set_option maxRecDepth 100000 in
theorem f_X6_emit_ok {l : Launch} {G : GG} {μ0 : Mm} {a1 : Nat} {x2 : Int32} {μ' : Mm} (hf : f_X6_emit μ0 a1 x2 = some μ') : EvM l G D_X6_emit yX6_emit cX6_emit 2 none [.ref a1, .int x2] μ0 none μ' := by
  show Ev l G D_X6_emit yX6_emit cX6_emit 2 none 0 [(0, .ref a1), (1, .int x2)] [] μ0 none μ'
  unfold f_X6_emit at hf
  refine E_aload_n (pc := 0) dX6_emit_0 rfl ?_
  refine E_getR (pc := 1) dX6_emit_1 fl_X6_37 hf (fun v3 hf => ?_)
  refine E_Vi (pc := 4) (d2 := D_X9_isSound) (ci := 9) [] dX6_emit_4 ml_X6_49 mf_X9_isSound im_X9_isSound rfl rfl rfl (by decide) (Nat.le_of_ble_eq_true rfl) (Nat.le_of_ble_eq_true rfl) rfl (fun _ _ h => f_X9_isSound_ok h) hf (fun v5 μ4 hf => ?_)
  refine E_if_eq (pc := 7) (tgt := 42) dX6_emit_7 (by decide) hf (fun hf => ?_) (fun hf => ?_)
  · exact E_vret (pc := 42) dX6_emit_42 rfl hf
  · refine E_aload_n (pc := 10) dX6_emit_10 rfl ?_
    refine E_getI (pc := 11) dX6_emit_11 fl_X6_15 hf (fun v6 hf => ?_)
    refine E_aload_n (pc := 14) dX6_emit_14 rfl ?_
    refine E_getR (pc := 15) dX6_emit_15 fl_X6_9 hf (fun v7 hf => ?_)
    refine E_alen (pc := 18) 0 dX6_emit_18 (by decide) hf (fun v8 hf => ?_)
    refine E_icmp_ge (pc := 19) (tgt := 42) dX6_emit_19 (by decide) hf (fun hf => ?_) (fun hf => ?_)
    · exact E_vret (pc := 42) dX6_emit_42 rfl hf
    · refine E_aload_n (pc := 22) dX6_emit_22 rfl ?_
      refine E_getR (pc := 23) dX6_emit_23 fl_X6_9 hf (fun v9 hf => ?_)
      refine E_aload_n (pc := 26) dX6_emit_26 rfl ?_
      refine E_getI (pc := 27) dX6_emit_27 fl_X6_15 hf (fun v10 hf => ?_)
      refine E_iload_n (pc := 30) dX6_emit_30 rfl ?_
      refine E_iast (pc := 31) dX6_emit_31 hf (fun μ11 hf => ?_)
      refine E_aload_n (pc := 32) dX6_emit_32 rfl ?_
      refine E_dup (pc := 33) dX6_emit_33 rfl ?_
      refine E_getI (pc := 34) dX6_emit_34 fl_X6_15 hf (fun v12 hf => ?_)
      refine E_iconst (pc := 37) (v := (1 : Int32)) dX6_emit_37 (by decide) ?_
      refine E_iadd (pc := 38) dX6_emit_38 ?_
      refine E_putI (pc := 39) dX6_emit_39 (pl_X6_15 _) hf (fun μ13 hf => ?_)
      exact E_vret (pc := 42) dX6_emit_42 rfl hf
theorem dX6_addPart_0 : decode cX6_addPart 0 = .ok (.aload_n 0, 1) := by decide +kernel
theorem dX6_addPart_1 : decode cX6_addPart 1 = .ok (.dup, 1) := by decide +kernel
theorem dX6_addPart_2 : decode cX6_addPart 2 = .ok (.getfield 19, 3) := by decide +kernel
theorem dX6_addPart_5 : decode cX6_addPart 5 = .ok (.iconst 1, 1) := by decide +kernel
theorem dX6_addPart_6 : decode cX6_addPart 6 = .ok (.iadd, 1) := by decide +kernel
theorem dX6_addPart_7 : decode cX6_addPart 7 = .ok (.putfield 19, 3) := by decide +kernel
theorem dX6_addPart_10 : decode cX6_addPart 10 = .ok (.aload_n 0, 1) := by decide +kernel
theorem dX6_addPart_11 : decode cX6_addPart 11 = .ok (.getfield 19, 3) := by decide +kernel
theorem dX6_addPart_14 : decode cX6_addPart 14 = .ok (.bipush 60, 2) := by decide +kernel
theorem dX6_addPart_16 : decode cX6_addPart 16 = .ok (.if_icmp .le 12, 3) := by decide +kernel
theorem dX6_addPart_19 : decode cX6_addPart 19 = .ok (.aload_n 0, 1) := by decide +kernel
theorem dX6_addPart_20 : decode cX6_addPart 20 = .ok (.getfield 37, 3) := by decide +kernel
theorem dX6_addPart_23 : decode cX6_addPart 23 = .ok (.iload_n 1, 1) := by decide +kernel
theorem dX6_addPart_24 : decode cX6_addPart 24 = .ok (.iconst 3, 1) := by decide +kernel
theorem dX6_addPart_25 : decode cX6_addPart 25 = .ok (.invokevirtual 66, 3) := by decide +kernel
theorem dX6_addPart_28 : decode cX6_addPart 28 = .ok (.return_, 1) := by decide +kernel
abbrev D_X6_addPart : Nat := 2
set_option maxRecDepth 100000 in
def f_X6_addPart (μ0 : Mm) (a1 : Nat) (x2 : Int32) : Option Mm :=
 ((gI μ0 a1 6 3).bind fun v3 =>
    ((pV μ0 a1 6 3 (.int (v3 + (1 : Int32)))).bind fun μ4 =>
    ((gI μ4 a1 6 3).bind fun v5 =>
    (if v5 ≤ (60 : Int32) then
    (some μ4)
    else
    ((gR μ4 a1 6 0).bind fun v6 =>
    ((ob μ4 v6 9).bind fun _ =>
    ((f_X9_fail μ4 v6 x2 (3 : Int32)).bind fun μ7 =>
    (some μ7))))))))
set_option maxHeartbeats 4000000 in
set_option maxRecDepth 100000 in
theorem f_X6_addPart_ok {l : Launch} {G : GG} {μ0 : Mm} {a1 : Nat} {x2 : Int32} {μ' : Mm} (hf : f_X6_addPart μ0 a1 x2 = some μ') : EvM l G D_X6_addPart yX6_addPart cX6_addPart 2 none [.ref a1, .int x2] μ0 none μ' := by
  show Ev l G D_X6_addPart yX6_addPart cX6_addPart 2 none 0 [(0, .ref a1), (1, .int x2)] [] μ0 none μ'
  unfold f_X6_addPart at hf
  refine E_aload_n (pc := 0) dX6_addPart_0 rfl ?_
  refine E_dup (pc := 1) dX6_addPart_1 rfl ?_
  refine E_getI (pc := 2) dX6_addPart_2 fl_X6_19 hf (fun v3 hf => ?_)
  refine E_iconst (pc := 5) (v := (1 : Int32)) dX6_addPart_5 (by decide) ?_
  refine E_iadd (pc := 6) dX6_addPart_6 ?_
  refine E_putI (pc := 7) dX6_addPart_7 (pl_X6_19 _) hf (fun μ4 hf => ?_)
  refine E_aload_n (pc := 10) dX6_addPart_10 rfl ?_
  refine E_getI (pc := 11) dX6_addPart_11 fl_X6_19 hf (fun v5 hf => ?_)
  refine E_bipush (pc := 14) (v := (60 : Int32)) dX6_addPart_14 (by decide) ?_
  refine E_icmp_le (pc := 16) (tgt := 28) dX6_addPart_16 (by decide) hf (fun hf => ?_) (fun hf => ?_)
  · exact E_vret (pc := 28) dX6_addPart_28 rfl hf
  · refine E_aload_n (pc := 19) dX6_addPart_19 rfl ?_
    refine E_getR (pc := 20) dX6_addPart_20 fl_X6_37 hf (fun v6 hf => ?_)
    refine E_iload_n (pc := 23) dX6_addPart_23 rfl ?_
    refine E_iconst (pc := 24) (v := (3 : Int32)) dX6_addPart_24 (by decide) ?_
    refine E_Vv (pc := 25) (d2 := D_X9_fail) (ci := 9) [.int x2, .int (3 : Int32)] dX6_addPart_25 ml_X6_66 mf_X9_fail im_X9_fail rfl rfl rfl (by decide) (Nat.le_of_ble_eq_true rfl) (Nat.le_of_ble_eq_true rfl) rfl (fun _ h => f_X9_fail_ok h) hf (fun μ7 hf => ?_)
    exact E_vret (pc := 28) dX6_addPart_28 rfl hf
theorem dX6_readValue_0 : decode cX6_readValue 0 = .ok (.aload_n 0, 1) := by decide +kernel
theorem dX6_readValue_1 : decode cX6_readValue 1 = .ok (.getfield 37, 3) := by decide +kernel
theorem dX6_readValue_4 : decode cX6_readValue 4 = .ok (.invokevirtual 56, 3) := by decide +kernel
theorem dX6_readValue_7 : decode cX6_readValue 7 = .ok (.istore_n 1, 1) := by decide +kernel
theorem dX6_readValue_8 : decode cX6_readValue 8 = .ok (.aload_n 0, 1) := by decide +kernel
theorem dX6_readValue_9 : decode cX6_readValue 9 = .ok (.getfield 37, 3) := by decide +kernel
theorem dX6_readValue_12 : decode cX6_readValue 12 = .ok (.iload_n 1, 1) := by decide +kernel
theorem dX6_readValue_13 : decode cX6_readValue 13 = .ok (.invokevirtual 134, 3) := by decide +kernel
theorem dX6_readValue_16 : decode cX6_readValue 16 = .ok (.ifCond .eq 23, 3) := by decide +kernel
theorem dX6_readValue_19 : decode cX6_readValue 19 = .ok (.aload_n 0, 1) := by decide +kernel
theorem dX6_readValue_20 : decode cX6_readValue 20 = .ok (.aload_n 0, 1) := by decide +kernel
theorem dX6_readValue_21 : decode cX6_readValue 21 = .ok (.getfield 37, 3) := by decide +kernel
theorem dX6_readValue_24 : decode cX6_readValue 24 = .ok (.iconst 0, 1) := by decide +kernel
theorem dX6_readValue_25 : decode cX6_readValue 25 = .ok (.ldc 137, 2) := by decide +kernel
theorem dX6_readValue_27 : decode cX6_readValue 27 = .ok (.invokevirtual 138, 3) := by decide +kernel
theorem dX6_readValue_30 : decode cX6_readValue 30 = .ok (.invokevirtual 91, 3) := by decide +kernel
theorem dX6_readValue_33 : decode cX6_readValue 33 = .ok (.aload_n 0, 1) := by decide +kernel
theorem dX6_readValue_34 : decode cX6_readValue 34 = .ok (.iload_n 1, 1) := by decide +kernel
theorem dX6_readValue_35 : decode cX6_readValue 35 = .ok (.invokevirtual 115, 3) := by decide +kernel
theorem dX6_readValue_38 : decode cX6_readValue 38 = .ok (.return_, 1) := by decide +kernel
theorem dX6_readValue_39 : decode cX6_readValue 39 = .ok (.aload_n 0, 1) := by decide +kernel
theorem dX6_readValue_40 : decode cX6_readValue 40 = .ok (.getfield 37, 3) := by decide +kernel
theorem dX6_readValue_43 : decode cX6_readValue 43 = .ok (.ldc 142, 2) := by decide +kernel
theorem dX6_readValue_45 : decode cX6_readValue 45 = .ok (.invokevirtual 62, 3) := by decide +kernel
theorem dX6_readValue_48 : decode cX6_readValue 48 = .ok (.istore_n 2, 1) := by decide +kernel
theorem dX6_readValue_49 : decode cX6_readValue 49 = .ok (.iload_n 2, 1) := by decide +kernel
theorem dX6_readValue_50 : decode cX6_readValue 50 = .ok (.iconst (-1), 1) := by decide +kernel
theorem dX6_readValue_51 : decode cX6_readValue 51 = .ok (.if_icmp .ne 13, 3) := by decide +kernel
theorem dX6_readValue_54 : decode cX6_readValue 54 = .ok (.aload_n 0, 1) := by decide +kernel
theorem dX6_readValue_55 : decode cX6_readValue 55 = .ok (.getfield 37, 3) := by decide +kernel
theorem dX6_readValue_58 : decode cX6_readValue 58 = .ok (.iload_n 1, 1) := by decide +kernel
theorem dX6_readValue_59 : decode cX6_readValue 59 = .ok (.iconst 0, 1) := by decide +kernel
theorem dX6_readValue_60 : decode cX6_readValue 60 = .ok (.invokevirtual 66, 3) := by decide +kernel
theorem dX6_readValue_63 : decode cX6_readValue 63 = .ok (.return_, 1) := by decide +kernel
theorem dX6_readValue_64 : decode cX6_readValue 64 = .ok (.aload_n 0, 1) := by decide +kernel
theorem dX6_readValue_65 : decode cX6_readValue 65 = .ok (.ldc 144, 2) := by decide +kernel
theorem dX6_readValue_67 : decode cX6_readValue 67 = .ok (.iload_n 2, 1) := by decide +kernel
theorem dX6_readValue_68 : decode cX6_readValue 68 = .ok (.iadd, 1) := by decide +kernel
theorem dX6_readValue_69 : decode cX6_readValue 69 = .ok (.invokevirtual 91, 3) := by decide +kernel
theorem dX6_readValue_72 : decode cX6_readValue 72 = .ok (.aload_n 0, 1) := by decide +kernel
theorem dX6_readValue_73 : decode cX6_readValue 73 = .ok (.iload_n 1, 1) := by decide +kernel
theorem dX6_readValue_74 : decode cX6_readValue 74 = .ok (.invokevirtual 115, 3) := by decide +kernel
theorem dX6_readValue_77 : decode cX6_readValue 77 = .ok (.return_, 1) := by decide +kernel
abbrev D_X6_readValue : Nat := 8
set_option maxRecDepth 100000 in
def f_X6_readValue (μ0 : Mm) (a1 : Nat) : Option Mm :=
 ((gR μ0 a1 6 0).bind fun v2 =>
    ((ob μ0 v2 9).bind fun _ =>
    (bd (f_X9_skipBlanks μ0 v2) fun v4 μ3 =>
    (nm v4 fun x5 =>
    ((gR μ3 a1 6 0).bind fun v6 =>
    ((ob μ3 v6 9).bind fun _ =>
    (bd (f_X9_isDigitAt μ3 v6 x5) fun v8 μ7 =>
    (if v8 = 0 then
    ((gR μ7 a1 6 0).bind fun v9 =>
    ((ob μ7 v9 9).bind fun _ =>
    (bd (f_X9_takeWord μ7 v9 (2 : Nat)) fun v11 μ10 =>
    (nm v11 fun x12 =>
    (if x12 = (-1 : Int32) then
    ((gR μ10 a1 6 0).bind fun v13 =>
    ((ob μ10 v13 9).bind fun _ =>
    ((f_X9_fail μ10 v13 x5 (0 : Int32)).bind fun μ14 =>
    (some μ14))))
    else
    ((ob μ10 a1 6).bind fun _ =>
    ((f_X6_emit μ10 a1 ((100000 : Int32) + x12)).bind fun μ15 =>
    ((ob μ15 a1 6).bind fun _ =>
    ((f_X6_addPart μ15 a1 x5).bind fun μ16 =>
    (some μ16))))))))))
    else
    ((gR μ7 a1 6 0).bind fun v17 =>
    ((ob μ7 v17 9).bind fun _ =>
    (bd (f_X9_readNumber μ7 v17 (0 : Int32) (99999 : Int32)) fun v19 μ18 =>
    ((ob μ18 a1 6).bind fun _ =>
    ((f_X6_emit μ18 a1 v19).bind fun μ20 =>
    ((ob μ20 a1 6).bind fun _ =>
    ((f_X6_addPart μ20 a1 x5).bind fun μ21 =>
    (some μ21))))))))))))))))
set_option maxHeartbeats 4000000 in
set_option maxRecDepth 100000 in
theorem f_X6_readValue_ok {l : Launch} {G : GG} {μ0 : Mm} {a1 : Nat} {μ' : Mm} (hf : f_X6_readValue μ0 a1 = some μ') : EvM l G D_X6_readValue yX6_readValue cX6_readValue 3 none [.ref a1] μ0 none μ' := by
  show Ev l G D_X6_readValue yX6_readValue cX6_readValue 3 none 0 [(0, .ref a1)] [] μ0 none μ'
  unfold f_X6_readValue at hf
  refine E_aload_n (pc := 0) dX6_readValue_0 rfl ?_
  refine E_getR (pc := 1) dX6_readValue_1 fl_X6_37 hf (fun v2 hf => ?_)
  refine E_Vi (pc := 4) (d2 := D_X9_skipBlanks) (ci := 9) [] dX6_readValue_4 ml_X6_56 mf_X9_skipBlanks im_X9_skipBlanks rfl rfl rfl (by decide) (Nat.le_of_ble_eq_true rfl) (Nat.le_of_ble_eq_true rfl) rfl (fun _ _ h => f_X9_skipBlanks_ok h) hf (fun v4 μ3 hf => ?_)
  refine E_istore_n (pc := 7) (ls' := fun x5 => [(1, .int x5), (0, .ref a1)]) dX6_readValue_7 (by decide) (fun _ => rfl) hf (fun x5 hf => ?_)
  refine E_aload_n (pc := 8) dX6_readValue_8 rfl ?_
  refine E_getR (pc := 9) dX6_readValue_9 fl_X6_37 hf (fun v6 hf => ?_)
  refine E_iload_n (pc := 12) dX6_readValue_12 rfl ?_
  refine E_Vi (pc := 13) (d2 := D_X9_isDigitAt) (ci := 9) [.int x5] dX6_readValue_13 ml_X6_134 mf_X9_isDigitAt im_X9_isDigitAt rfl rfl rfl (by decide) (Nat.le_of_ble_eq_true rfl) (Nat.le_of_ble_eq_true rfl) rfl (fun _ _ h => f_X9_isDigitAt_ok h) hf (fun v8 μ7 hf => ?_)
  refine E_if_eq (pc := 16) (tgt := 39) dX6_readValue_16 (by decide) hf (fun hf => ?_) (fun hf => ?_)
  · refine E_aload_n (pc := 39) dX6_readValue_39 rfl ?_
    refine E_getR (pc := 40) dX6_readValue_40 fl_X6_37 hf (fun v9 hf => ?_)
    refine E_ldcS (pc := 43) (2 : Nat) dX6_readValue_43 (by decide) ⟨rfl, rfl⟩ ?_
    refine E_Vi (pc := 45) (d2 := D_X9_takeWord) (ci := 9) [.ref (2 : Nat)] dX6_readValue_45 ml_X6_62 mf_X9_takeWord im_X9_takeWord rfl rfl rfl (by decide) (Nat.le_of_ble_eq_true rfl) (Nat.le_of_ble_eq_true rfl) rfl (fun _ _ h => f_X9_takeWord_ok h) hf (fun v11 μ10 hf => ?_)
    refine E_istore_n (pc := 48) (ls' := fun x12 => [(2, .int x12), (1, .int x5), (0, .ref a1)]) dX6_readValue_48 (by decide) (fun _ => rfl) hf (fun x12 hf => ?_)
    refine E_iload_n (pc := 49) dX6_readValue_49 rfl ?_
    refine E_iconst (pc := 50) (v := (-1 : Int32)) dX6_readValue_50 (by decide) ?_
    refine E_icmp_ne (pc := 51) (tgt := 64) dX6_readValue_51 (by decide) hf (fun hf => ?_) (fun hf => ?_)
    · refine E_aload_n (pc := 54) dX6_readValue_54 rfl ?_
      refine E_getR (pc := 55) dX6_readValue_55 fl_X6_37 hf (fun v13 hf => ?_)
      refine E_iload_n (pc := 58) dX6_readValue_58 rfl ?_
      refine E_iconst (pc := 59) (v := (0 : Int32)) dX6_readValue_59 (by decide) ?_
      refine E_Vv (pc := 60) (d2 := D_X9_fail) (ci := 9) [.int x5, .int (0 : Int32)] dX6_readValue_60 ml_X6_66 mf_X9_fail im_X9_fail rfl rfl rfl (by decide) (Nat.le_of_ble_eq_true rfl) (Nat.le_of_ble_eq_true rfl) rfl (fun _ h => f_X9_fail_ok h) hf (fun μ14 hf => ?_)
      exact E_vret (pc := 63) dX6_readValue_63 rfl hf
    · refine E_aload_n (pc := 64) dX6_readValue_64 rfl ?_
      refine E_ldc (pc := 65) (v := (100000 : Int32)) dX6_readValue_65 co_X6_144 ?_
      refine E_iload_n (pc := 67) dX6_readValue_67 rfl ?_
      refine E_iadd (pc := 68) dX6_readValue_68 ?_
      refine E_Vv (pc := 69) (d2 := D_X6_emit) (ci := 6) [.int ((100000 : Int32) + x12)] dX6_readValue_69 ml_X6_91 mf_X6_emit im_X6_emit rfl rfl rfl (by decide) (Nat.le_of_ble_eq_true rfl) (Nat.le_of_ble_eq_true rfl) rfl (fun _ h => f_X6_emit_ok h) hf (fun μ15 hf => ?_)
      refine E_aload_n (pc := 72) dX6_readValue_72 rfl ?_
      refine E_iload_n (pc := 73) dX6_readValue_73 rfl ?_
      refine E_Vv (pc := 74) (d2 := D_X6_addPart) (ci := 6) [.int x5] dX6_readValue_74 ml_X6_115 mf_X6_addPart im_X6_addPart rfl rfl rfl (by decide) (Nat.le_of_ble_eq_true rfl) (Nat.le_of_ble_eq_true rfl) rfl (fun _ h => f_X6_addPart_ok h) hf (fun μ16 hf => ?_)
      exact E_vret (pc := 77) dX6_readValue_77 rfl hf
  · refine E_aload_n (pc := 19) dX6_readValue_19 rfl ?_
    refine E_aload_n (pc := 20) dX6_readValue_20 rfl ?_
    refine E_getR (pc := 21) dX6_readValue_21 fl_X6_37 hf (fun v17 hf => ?_)
    refine E_iconst (pc := 24) (v := (0 : Int32)) dX6_readValue_24 (by decide) ?_
    refine E_ldc (pc := 25) (v := (99999 : Int32)) dX6_readValue_25 co_X6_137 ?_
    refine E_Vi (pc := 27) (d2 := D_X9_readNumber) (ci := 9) [.int (0 : Int32), .int (99999 : Int32)] dX6_readValue_27 ml_X6_138 mf_X9_readNumber im_X9_readNumber rfl rfl rfl (by decide) (Nat.le_of_ble_eq_true rfl) (Nat.le_of_ble_eq_true rfl) rfl (fun _ _ h => f_X9_readNumber_ok h) hf (fun v19 μ18 hf => ?_)
    refine E_Vv (pc := 30) (d2 := D_X6_emit) (ci := 6) [.int v19] dX6_readValue_30 ml_X6_91 mf_X6_emit im_X6_emit rfl rfl rfl (by decide) (Nat.le_of_ble_eq_true rfl) (Nat.le_of_ble_eq_true rfl) rfl (fun _ h => f_X6_emit_ok h) hf (fun μ20 hf => ?_)
    refine E_aload_n (pc := 33) dX6_readValue_33 rfl ?_
    refine E_iload_n (pc := 34) dX6_readValue_34 rfl ?_
    refine E_Vv (pc := 35) (d2 := D_X6_addPart) (ci := 6) [.int x5] dX6_readValue_35 ml_X6_115 mf_X6_addPart im_X6_addPart rfl rfl rfl (by decide) (Nat.le_of_ble_eq_true rfl) (Nat.le_of_ble_eq_true rfl) rfl (fun _ h => f_X6_addPart_ok h) hf (fun μ21 hf => ?_)
    exact E_vret (pc := 38) dX6_readValue_38 rfl hf
theorem dX6_readSum_0 : decode cX6_readSum 0 = .ok (.iconst (-1), 1) := by decide +kernel
theorem dX6_readSum_1 : decode cX6_readSum 1 = .ok (.istore_n 1, 1) := by decide +kernel
theorem dX6_readSum_2 : decode cX6_readSum 2 = .ok (.aload_n 0, 1) := by decide +kernel
theorem dX6_readSum_3 : decode cX6_readSum 3 = .ok (.invokevirtual 122, 3) := by decide +kernel
theorem dX6_readSum_6 : decode cX6_readSum 6 = .ok (.iconst 0, 1) := by decide +kernel
theorem dX6_readSum_7 : decode cX6_readSum 7 = .ok (.istore_n 2, 1) := by decide +kernel
theorem dX6_readSum_8 : decode cX6_readSum 8 = .ok (.iload_n 2, 1) := by decide +kernel
theorem dX6_readSum_9 : decode cX6_readSum 9 = .ok (.sipush 400, 3) := by decide +kernel
theorem dX6_readSum_12 : decode cX6_readSum 12 = .ok (.if_icmp .ge 72, 3) := by decide +kernel
theorem dX6_readSum_15 : decode cX6_readSum 15 = .ok (.aload_n 0, 1) := by decide +kernel
theorem dX6_readSum_16 : decode cX6_readSum 16 = .ok (.getfield 37, 3) := by decide +kernel
theorem dX6_readSum_19 : decode cX6_readSum 19 = .ok (.ldc 125, 2) := by decide +kernel
theorem dX6_readSum_21 : decode cX6_readSum 21 = .ok (.invokevirtual 127, 3) := by decide +kernel
theorem dX6_readSum_24 : decode cX6_readSum 24 = .ok (.istore_n 3, 1) := by decide +kernel
theorem dX6_readSum_25 : decode cX6_readSum 25 = .ok (.iload_n 3, 1) := by decide +kernel
theorem dX6_readSum_26 : decode cX6_readSum 26 = .ok (.iconst (-1), 1) := by decide +kernel
theorem dX6_readSum_27 : decode cX6_readSum 27 = .ok (.if_icmp .eq 18, 3) := by decide +kernel
theorem dX6_readSum_30 : decode cX6_readSum 30 = .ok (.aload_n 0, 1) := by decide +kernel
theorem dX6_readSum_31 : decode cX6_readSum 31 = .ok (.invokevirtual 122, 3) := by decide +kernel
theorem dX6_readSum_34 : decode cX6_readSum 34 = .ok (.aload_n 0, 1) := by decide +kernel
theorem dX6_readSum_35 : decode cX6_readSum 35 = .ok (.ldc 130, 2) := by decide +kernel
theorem dX6_readSum_37 : decode cX6_readSum 37 = .ok (.iload_n 3, 1) := by decide +kernel
theorem dX6_readSum_38 : decode cX6_readSum 38 = .ok (.iadd, 1) := by decide +kernel
theorem dX6_readSum_39 : decode cX6_readSum 39 = .ok (.invokevirtual 91, 3) := by decide +kernel
theorem dX6_readSum_42 : decode cX6_readSum 42 = .ok (.goto 36, 3) := by decide +kernel
theorem dX6_readSum_45 : decode cX6_readSum 45 = .ok (.iload_n 1, 1) := by decide +kernel
theorem dX6_readSum_46 : decode cX6_readSum 46 = .ok (.iconst (-1), 1) := by decide +kernel
theorem dX6_readSum_47 : decode cX6_readSum 47 = .ok (.if_icmp .eq 11, 3) := by decide +kernel
theorem dX6_readSum_50 : decode cX6_readSum 50 = .ok (.aload_n 0, 1) := by decide +kernel
theorem dX6_readSum_51 : decode cX6_readSum 51 = .ok (.ldc 131, 2) := by decide +kernel
theorem dX6_readSum_53 : decode cX6_readSum 53 = .ok (.iload_n 1, 1) := by decide +kernel
theorem dX6_readSum_54 : decode cX6_readSum 54 = .ok (.iadd, 1) := by decide +kernel
theorem dX6_readSum_55 : decode cX6_readSum 55 = .ok (.invokevirtual 91, 3) := by decide +kernel
theorem dX6_readSum_58 : decode cX6_readSum 58 = .ok (.aload_n 0, 1) := by decide +kernel
theorem dX6_readSum_59 : decode cX6_readSum 59 = .ok (.getfield 37, 3) := by decide +kernel
theorem dX6_readSum_62 : decode cX6_readSum 62 = .ok (.ldc 132, 2) := by decide +kernel
theorem dX6_readSum_64 : decode cX6_readSum 64 = .ok (.invokevirtual 127, 3) := by decide +kernel
theorem dX6_readSum_67 : decode cX6_readSum 67 = .ok (.istore_n 1, 1) := by decide +kernel
theorem dX6_readSum_68 : decode cX6_readSum 68 = .ok (.iload_n 1, 1) := by decide +kernel
theorem dX6_readSum_69 : decode cX6_readSum 69 = .ok (.iconst (-1), 1) := by decide +kernel
theorem dX6_readSum_70 : decode cX6_readSum 70 = .ok (.if_icmp .ne 4, 3) := by decide +kernel
theorem dX6_readSum_73 : decode cX6_readSum 73 = .ok (.return_, 1) := by decide +kernel
theorem dX6_readSum_74 : decode cX6_readSum 74 = .ok (.aload_n 0, 1) := by decide +kernel
theorem dX6_readSum_75 : decode cX6_readSum 75 = .ok (.invokevirtual 122, 3) := by decide +kernel
theorem dX6_readSum_78 : decode cX6_readSum 78 = .ok (.iinc 2 1, 3) := by decide +kernel
theorem dX6_readSum_81 : decode cX6_readSum 81 = .ok (.goto (-73), 3) := by decide +kernel
theorem dX6_readSum_84 : decode cX6_readSum 84 = .ok (.return_, 1) := by decide +kernel
abbrev D_X6_readSum : Nat := 9
def f_X6_readSum_L8 (K73 : Mm → Option Mm) (K84 : Mm → Option Mm) : Nat → Mm → Nat → Int32 → Int32 → Option Mm
  | 0, _, _, _, _ => none
  | n + 1, μ0, a5, x6, x7 =>
    (if (400 : Int32) ≤ x7 then
    K84 μ0
    else
    ((gR μ0 a5 6 0).bind fun v8 =>
    ((ob μ0 v8 9).bind fun _ =>
    (bd (f_X9_takeOneOf μ0 v8 (3 : Nat)) fun v10 μ9 =>
    (nm v10 fun x11 =>
    (if x11 = (-1 : Int32) then
    (if x6 = (-1 : Int32) then
    ((gR μ9 a5 6 0).bind fun v12 =>
    ((ob μ9 v12 9).bind fun _ =>
    (bd (f_X9_takeOneOf μ9 v12 (4 : Nat)) fun v14 μ13 =>
    (nm v14 fun x15 =>
    (if x15 = (-1 : Int32) then
    K73 μ13
    else
    ((ob μ13 a5 6).bind fun _ =>
    ((f_X6_readValue μ13 a5).bind fun μ16 =>
    (nm (x7 + Int32.ofInt (1)) fun x17 =>
    f_X6_readSum_L8 K73 K84 n μ16 a5 x15 x17))))))))
    else
    ((ob μ9 a5 6).bind fun _ =>
    ((f_X6_emit μ9 a5 ((100015 : Int32) + x6)).bind fun μ18 =>
    ((gR μ18 a5 6 0).bind fun v19 =>
    ((ob μ18 v19 9).bind fun _ =>
    (bd (f_X9_takeOneOf μ18 v19 (4 : Nat)) fun v21 μ20 =>
    (nm v21 fun x22 =>
    (if x22 = (-1 : Int32) then
    K73 μ20
    else
    ((ob μ20 a5 6).bind fun _ =>
    ((f_X6_readValue μ20 a5).bind fun μ23 =>
    (nm (x7 + Int32.ofInt (1)) fun x24 =>
    f_X6_readSum_L8 K73 K84 n μ23 a5 x22 x24)))))))))))
    else
    ((ob μ9 a5 6).bind fun _ =>
    ((f_X6_readValue μ9 a5).bind fun μ25 =>
    ((ob μ25 a5 6).bind fun _ =>
    ((f_X6_emit μ25 a5 ((100017 : Int32) + x11)).bind fun μ26 =>
    (nm (x7 + Int32.ofInt (1)) fun x27 =>
    f_X6_readSum_L8 K73 K84 n μ26 a5 x6 x27)))))))))))
set_option maxHeartbeats 4000000 in
set_option maxRecDepth 100000 in
theorem f_X6_readSum_L8_ok {l : Launch} {G : GG} {K73 : Mm → Option Mm} {K84 : Mm → Option Mm} {μ' : Mm} (n : Nat) (μ0 : Mm) (a5 : Nat) (x6 : Int32) (x7 : Int32) (hf : f_X6_readSum_L8 K73 K84 n μ0 a5 x6 x7 = some μ') (hK73 : ∀ (μ1 : Mm), K73 μ1  = some μ' → Ev l G D_X6_readSum yX6_readSum cX6_readSum 4 none 73 [] [] μ1 none μ') (hK84 : ∀ (μ1 : Mm), K84 μ1  = some μ' → Ev l G D_X6_readSum yX6_readSum cX6_readSum 4 none 84 [] [] μ1 none μ') : Ev l G D_X6_readSum yX6_readSum cX6_readSum 4 none 8 [(0, .ref a5), (1, .int x6), (2, .int x7)] [] μ0 none μ' := by
  induction n generalizing μ0 a5 x6 x7 with
  | zero => cases hf
  | succ n ih0 =>
    have ih : ∀ (μ0 : Mm) (a5 : Nat) (x6 : Int32) (x7 : Int32), f_X6_readSum_L8 K73 K84 n μ0 a5 x6 x7 = some μ' → Ev l G D_X6_readSum yX6_readSum cX6_readSum 4 none 8 [(0, .ref a5), (1, .int x6), (2, .int x7)] [] μ0 none μ' := fun μ0 a5 x6 x7 hf => ih0 μ0 a5 x6 x7 hf
    rw [f_X6_readSum_L8] at hf
    refine E_iload_n (pc := 8) dX6_readSum_8 rfl ?_
    refine E_sipush (pc := 9) (v := (400 : Int32)) dX6_readSum_9 (by decide) ?_
    refine E_icmp_ge (pc := 12) (tgt := 84) dX6_readSum_12 (by decide) hf (fun hf => ?_) (fun hf => ?_)
    · refine Ev.sub [] rfl ?_
      exact hK84 _ hf
    · refine E_aload_n (pc := 15) dX6_readSum_15 rfl ?_
      refine E_getR (pc := 16) dX6_readSum_16 fl_X6_37 hf (fun v8 hf => ?_)
      refine E_ldcS (pc := 19) (3 : Nat) dX6_readSum_19 (by decide) ⟨rfl, rfl⟩ ?_
      refine E_Vi (pc := 21) (d2 := D_X9_takeOneOf) (ci := 9) [.ref (3 : Nat)] dX6_readSum_21 ml_X6_127 mf_X9_takeOneOf im_X9_takeOneOf rfl rfl rfl (by decide) (Nat.le_of_ble_eq_true rfl) (Nat.le_of_ble_eq_true rfl) rfl (fun _ _ h => f_X9_takeOneOf_ok h) hf (fun v10 μ9 hf => ?_)
      refine E_istore_n (pc := 24) (ls' := fun x11 => [(3, .int x11), (0, .ref a5), (1, .int x6), (2, .int x7)]) dX6_readSum_24 (by decide) (fun _ => rfl) hf (fun x11 hf => ?_)
      refine E_iload_n (pc := 25) dX6_readSum_25 rfl ?_
      refine E_iconst (pc := 26) (v := (-1 : Int32)) dX6_readSum_26 (by decide) ?_
      refine E_icmp_eq (pc := 27) (tgt := 45) dX6_readSum_27 (by decide) hf (fun hf => ?_) (fun hf => ?_)
      · refine E_iload_n (pc := 45) dX6_readSum_45 rfl ?_
        refine E_iconst (pc := 46) (v := (-1 : Int32)) dX6_readSum_46 (by decide) ?_
        refine E_icmp_eq (pc := 47) (tgt := 58) dX6_readSum_47 (by decide) hf (fun hf => ?_) (fun hf => ?_)
        · refine E_aload_n (pc := 58) dX6_readSum_58 rfl ?_
          refine E_getR (pc := 59) dX6_readSum_59 fl_X6_37 hf (fun v12 hf => ?_)
          refine E_ldcS (pc := 62) (4 : Nat) dX6_readSum_62 (by decide) ⟨rfl, rfl⟩ ?_
          refine E_Vi (pc := 64) (d2 := D_X9_takeOneOf) (ci := 9) [.ref (4 : Nat)] dX6_readSum_64 ml_X6_127 mf_X9_takeOneOf im_X9_takeOneOf rfl rfl rfl (by decide) (Nat.le_of_ble_eq_true rfl) (Nat.le_of_ble_eq_true rfl) rfl (fun _ _ h => f_X9_takeOneOf_ok h) hf (fun v14 μ13 hf => ?_)
          refine E_istore_n (pc := 67) (ls' := fun x15 => [(1, .int x15), (3, .int x11), (0, .ref a5), (2, .int x7)]) dX6_readSum_67 (by decide) (fun _ => rfl) hf (fun x15 hf => ?_)
          refine E_iload_n (pc := 68) dX6_readSum_68 rfl ?_
          refine E_iconst (pc := 69) (v := (-1 : Int32)) dX6_readSum_69 (by decide) ?_
          refine E_icmp_ne (pc := 70) (tgt := 74) dX6_readSum_70 (by decide) hf (fun hf => ?_) (fun hf => ?_)
          · refine Ev.sub [] rfl ?_
            exact hK73 _ hf
          · refine E_aload_n (pc := 74) dX6_readSum_74 rfl ?_
            refine E_Vv (pc := 75) (d2 := D_X6_readValue) (ci := 6) [] dX6_readSum_75 ml_X6_122 mf_X6_readValue im_X6_readValue rfl rfl rfl (by decide) (Nat.le_of_ble_eq_true rfl) (Nat.le_of_ble_eq_true rfl) rfl (fun _ h => f_X6_readValue_ok h) hf (fun μ16 hf => ?_)
            refine E_iinc (pc := 78) (ls' := fun x17 => [(2, .int x17), (1, .int x15), (3, .int x11), (0, .ref a5)]) dX6_readSum_78 rfl (by decide) (fun _ => rfl) hf (fun x17 hf => ?_)
            refine E_goto (pc := 81) (tgt := 8) dX6_readSum_81 (by decide) ?_
            refine Ev.sub [3, 1, 0] rfl ?_
            exact ih _ _ _ _ hf
        · refine E_aload_n (pc := 50) dX6_readSum_50 rfl ?_
          refine E_ldc (pc := 51) (v := (100015 : Int32)) dX6_readSum_51 co_X6_131 ?_
          refine E_iload_n (pc := 53) dX6_readSum_53 rfl ?_
          refine E_iadd (pc := 54) dX6_readSum_54 ?_
          refine E_Vv (pc := 55) (d2 := D_X6_emit) (ci := 6) [.int ((100015 : Int32) + x6)] dX6_readSum_55 ml_X6_91 mf_X6_emit im_X6_emit rfl rfl rfl (by decide) (Nat.le_of_ble_eq_true rfl) (Nat.le_of_ble_eq_true rfl) rfl (fun _ h => f_X6_emit_ok h) hf (fun μ18 hf => ?_)
          refine E_aload_n (pc := 58) dX6_readSum_58 rfl ?_
          refine E_getR (pc := 59) dX6_readSum_59 fl_X6_37 hf (fun v19 hf => ?_)
          refine E_ldcS (pc := 62) (4 : Nat) dX6_readSum_62 (by decide) ⟨rfl, rfl⟩ ?_
          refine E_Vi (pc := 64) (d2 := D_X9_takeOneOf) (ci := 9) [.ref (4 : Nat)] dX6_readSum_64 ml_X6_127 mf_X9_takeOneOf im_X9_takeOneOf rfl rfl rfl (by decide) (Nat.le_of_ble_eq_true rfl) (Nat.le_of_ble_eq_true rfl) rfl (fun _ _ h => f_X9_takeOneOf_ok h) hf (fun v21 μ20 hf => ?_)
          refine E_istore_n (pc := 67) (ls' := fun x22 => [(1, .int x22), (3, .int x11), (0, .ref a5), (2, .int x7)]) dX6_readSum_67 (by decide) (fun _ => rfl) hf (fun x22 hf => ?_)
          refine E_iload_n (pc := 68) dX6_readSum_68 rfl ?_
          refine E_iconst (pc := 69) (v := (-1 : Int32)) dX6_readSum_69 (by decide) ?_
          refine E_icmp_ne (pc := 70) (tgt := 74) dX6_readSum_70 (by decide) hf (fun hf => ?_) (fun hf => ?_)
          · refine Ev.sub [] rfl ?_
            exact hK73 _ hf
          · refine E_aload_n (pc := 74) dX6_readSum_74 rfl ?_
            refine E_Vv (pc := 75) (d2 := D_X6_readValue) (ci := 6) [] dX6_readSum_75 ml_X6_122 mf_X6_readValue im_X6_readValue rfl rfl rfl (by decide) (Nat.le_of_ble_eq_true rfl) (Nat.le_of_ble_eq_true rfl) rfl (fun _ h => f_X6_readValue_ok h) hf (fun μ23 hf => ?_)
            refine E_iinc (pc := 78) (ls' := fun x24 => [(2, .int x24), (1, .int x22), (3, .int x11), (0, .ref a5)]) dX6_readSum_78 rfl (by decide) (fun _ => rfl) hf (fun x24 hf => ?_)
            refine E_goto (pc := 81) (tgt := 8) dX6_readSum_81 (by decide) ?_
            refine Ev.sub [3, 1, 0] rfl ?_
            exact ih _ _ _ _ hf
      · refine E_aload_n (pc := 30) dX6_readSum_30 rfl ?_
        refine E_Vv (pc := 31) (d2 := D_X6_readValue) (ci := 6) [] dX6_readSum_31 ml_X6_122 mf_X6_readValue im_X6_readValue rfl rfl rfl (by decide) (Nat.le_of_ble_eq_true rfl) (Nat.le_of_ble_eq_true rfl) rfl (fun _ h => f_X6_readValue_ok h) hf (fun μ25 hf => ?_)
        refine E_aload_n (pc := 34) dX6_readSum_34 rfl ?_
        refine E_ldc (pc := 35) (v := (100017 : Int32)) dX6_readSum_35 co_X6_130 ?_
        refine E_iload_n (pc := 37) dX6_readSum_37 rfl ?_
        refine E_iadd (pc := 38) dX6_readSum_38 ?_
        refine E_Vv (pc := 39) (d2 := D_X6_emit) (ci := 6) [.int ((100017 : Int32) + x11)] dX6_readSum_39 ml_X6_91 mf_X6_emit im_X6_emit rfl rfl rfl (by decide) (Nat.le_of_ble_eq_true rfl) (Nat.le_of_ble_eq_true rfl) rfl (fun _ h => f_X6_emit_ok h) hf (fun μ26 hf => ?_)
        refine E_goto (pc := 42) (tgt := 78) dX6_readSum_42 (by decide) ?_
        refine E_iinc (pc := 78) (ls' := fun x27 => [(2, .int x27), (3, .int x11), (0, .ref a5), (1, .int x6)]) dX6_readSum_78 rfl (by decide) (fun _ => rfl) hf (fun x27 hf => ?_)
        refine E_goto (pc := 81) (tgt := 8) dX6_readSum_81 (by decide) ?_
        refine Ev.sub [2, 3, 0] rfl ?_
        exact ih _ _ _ _ hf
set_option maxRecDepth 100000 in
def f_X6_readSum (μ0 : Mm) (a1 : Nat) : Option Mm :=
 (nm (-1 : Int32) fun x2 =>
    ((ob μ0 a1 6).bind fun _ =>
    ((f_X6_readValue μ0 a1).bind fun μ3 =>
    (nm (0 : Int32) fun x4 =>
    f_X6_readSum_L8 (fun μ28 =>
    (some μ28)) (fun μ29 =>
    (some μ29)) FU μ3 a1 x2 x4))))
set_option maxHeartbeats 4000000 in
set_option maxRecDepth 100000 in
theorem f_X6_readSum_ok {l : Launch} {G : GG} {μ0 : Mm} {a1 : Nat} {μ' : Mm} (hf : f_X6_readSum μ0 a1 = some μ') : EvM l G D_X6_readSum yX6_readSum cX6_readSum 4 none [.ref a1] μ0 none μ' := by
  show Ev l G D_X6_readSum yX6_readSum cX6_readSum 4 none 0 [(0, .ref a1)] [] μ0 none μ'
  unfold f_X6_readSum at hf
  refine E_iconst (pc := 0) (v := (-1 : Int32)) dX6_readSum_0 (by decide) ?_
  refine E_istore_n (pc := 1) (ls' := fun x2 => [(1, .int x2), (0, .ref a1)]) dX6_readSum_1 (by decide) (fun _ => rfl) hf (fun x2 hf => ?_)
  refine E_aload_n (pc := 2) dX6_readSum_2 rfl ?_
  refine E_Vv (pc := 3) (d2 := D_X6_readValue) (ci := 6) [] dX6_readSum_3 ml_X6_122 mf_X6_readValue im_X6_readValue rfl rfl rfl (by decide) (Nat.le_of_ble_eq_true rfl) (Nat.le_of_ble_eq_true rfl) rfl (fun _ h => f_X6_readValue_ok h) hf (fun μ3 hf => ?_)
  refine E_iconst (pc := 6) (v := (0 : Int32)) dX6_readSum_6 (by decide) ?_
  refine E_istore_n (pc := 7) (ls' := fun x4 => [(2, .int x4), (1, .int x2), (0, .ref a1)]) dX6_readSum_7 (by decide) (fun _ => rfl) hf (fun x4 hf => ?_)
  refine Ev.sub [2, 1, 0] rfl ?_
  refine f_X6_readSum_L8_ok  _ _ _ _ _ hf (fun μ28 hf => ?_) (fun μ29 hf => ?_)
  · exact E_vret (pc := 73) dX6_readSum_73 rfl hf
  · exact E_vret (pc := 84) dX6_readSum_84 rfl hf
theorem dX6_readSign_0 : decode cX6_readSign 0 = .ok (.aload_n 0, 1) := by decide +kernel
theorem dX6_readSign_1 : decode cX6_readSign 1 = .ok (.getfield 37, 3) := by decide +kernel
theorem dX6_readSign_4 : decode cX6_readSign 4 = .ok (.invokevirtual 56, 3) := by decide +kernel
theorem dX6_readSign_7 : decode cX6_readSign 7 = .ok (.istore_n 1, 1) := by decide +kernel
theorem dX6_readSign_8 : decode cX6_readSign 8 = .ok (.aload_n 0, 1) := by decide +kernel
theorem dX6_readSign_9 : decode cX6_readSign 9 = .ok (.getfield 37, 3) := by decide +kernel
theorem dX6_readSign_12 : decode cX6_readSign 12 = .ok (.bipush 60, 2) := by decide +kernel
theorem dX6_readSign_14 : decode cX6_readSign 14 = .ok (.invokevirtual 97, 3) := by decide +kernel
theorem dX6_readSign_17 : decode cX6_readSign 17 = .ok (.istore_n 2, 1) := by decide +kernel
theorem dX6_readSign_18 : decode cX6_readSign 18 = .ok (.iload_n 2, 1) := by decide +kernel
theorem dX6_readSign_19 : decode cX6_readSign 19 = .ok (.ifCond .ne 19, 3) := by decide +kernel
theorem dX6_readSign_22 : decode cX6_readSign 22 = .ok (.aload_n 0, 1) := by decide +kernel
theorem dX6_readSign_23 : decode cX6_readSign 23 = .ok (.getfield 37, 3) := by decide +kernel
theorem dX6_readSign_26 : decode cX6_readSign 26 = .ok (.bipush 62, 2) := by decide +kernel
theorem dX6_readSign_28 : decode cX6_readSign 28 = .ok (.invokevirtual 97, 3) := by decide +kernel
theorem dX6_readSign_31 : decode cX6_readSign 31 = .ok (.ifCond .eq 7, 3) := by decide +kernel
theorem dX6_readSign_34 : decode cX6_readSign 34 = .ok (.iconst 1, 1) := by decide +kernel
theorem dX6_readSign_35 : decode cX6_readSign 35 = .ok (.goto 4, 3) := by decide +kernel
theorem dX6_readSign_38 : decode cX6_readSign 38 = .ok (.iconst 0, 1) := by decide +kernel
theorem dX6_readSign_39 : decode cX6_readSign 39 = .ok (.istore_n 3, 1) := by decide +kernel
theorem dX6_readSign_40 : decode cX6_readSign 40 = .ok (.aload_n 0, 1) := by decide +kernel
theorem dX6_readSign_41 : decode cX6_readSign 41 = .ok (.getfield 37, 3) := by decide +kernel
theorem dX6_readSign_44 : decode cX6_readSign 44 = .ok (.aload_n 0, 1) := by decide +kernel
theorem dX6_readSign_45 : decode cX6_readSign 45 = .ok (.getfield 37, 3) := by decide +kernel
theorem dX6_readSign_48 : decode cX6_readSign 48 = .ok (.getfield 103, 3) := by decide +kernel
theorem dX6_readSign_51 : decode cX6_readSign 51 = .ok (.invokevirtual 110, 3) := by decide +kernel
theorem dX6_readSign_54 : decode cX6_readSign 54 = .ok (.bipush 61, 2) := by decide +kernel
theorem dX6_readSign_56 : decode cX6_readSign 56 = .ok (.if_icmp .ne 7, 3) := by decide +kernel
theorem dX6_readSign_59 : decode cX6_readSign 59 = .ok (.iconst 1, 1) := by decide +kernel
theorem dX6_readSign_60 : decode cX6_readSign 60 = .ok (.goto 4, 3) := by decide +kernel
theorem dX6_readSign_63 : decode cX6_readSign 63 = .ok (.iconst 0, 1) := by decide +kernel
theorem dX6_readSign_64 : decode cX6_readSign 64 = .ok (.istore 4, 2) := by decide +kernel
theorem dX6_readSign_66 : decode cX6_readSign 66 = .ok (.iload_n 2, 1) := by decide +kernel
theorem dX6_readSign_67 : decode cX6_readSign 67 = .ok (.ifCond .ne 24, 3) := by decide +kernel
theorem dX6_readSign_70 : decode cX6_readSign 70 = .ok (.iload_n 3, 1) := by decide +kernel
theorem dX6_readSign_71 : decode cX6_readSign 71 = .ok (.ifCond .ne 20, 3) := by decide +kernel
theorem dX6_readSign_74 : decode cX6_readSign 74 = .ok (.iload 4, 2) := by decide +kernel
theorem dX6_readSign_76 : decode cX6_readSign 76 = .ok (.ifCond .ne 15, 3) := by decide +kernel
theorem dX6_readSign_79 : decode cX6_readSign 79 = .ok (.aload_n 0, 1) := by decide +kernel
theorem dX6_readSign_80 : decode cX6_readSign 80 = .ok (.getfield 37, 3) := by decide +kernel
theorem dX6_readSign_83 : decode cX6_readSign 83 = .ok (.iload_n 1, 1) := by decide +kernel
theorem dX6_readSign_84 : decode cX6_readSign 84 = .ok (.iconst 0, 1) := by decide +kernel
theorem dX6_readSign_85 : decode cX6_readSign 85 = .ok (.invokevirtual 66, 3) := by decide +kernel
theorem dX6_readSign_88 : decode cX6_readSign 88 = .ok (.ldc 114, 2) := by decide +kernel
theorem dX6_readSign_90 : decode cX6_readSign 90 = .ok (.ireturn, 1) := by decide +kernel
theorem dX6_readSign_91 : decode cX6_readSign 91 = .ok (.iload 4, 2) := by decide +kernel
theorem dX6_readSign_93 : decode cX6_readSign 93 = .ok (.ifCond .eq 16, 3) := by decide +kernel
theorem dX6_readSign_96 : decode cX6_readSign 96 = .ok (.aload_n 0, 1) := by decide +kernel
theorem dX6_readSign_97 : decode cX6_readSign 97 = .ok (.getfield 37, 3) := by decide +kernel
theorem dX6_readSign_100 : decode cX6_readSign 100 = .ok (.dup, 1) := by decide +kernel
theorem dX6_readSign_101 : decode cX6_readSign 101 = .ok (.getfield 103, 3) := by decide +kernel
theorem dX6_readSign_104 : decode cX6_readSign 104 = .ok (.iconst 1, 1) := by decide +kernel
theorem dX6_readSign_105 : decode cX6_readSign 105 = .ok (.iadd, 1) := by decide +kernel
theorem dX6_readSign_106 : decode cX6_readSign 106 = .ok (.putfield 103, 3) := by decide +kernel
theorem dX6_readSign_109 : decode cX6_readSign 109 = .ok (.aload_n 0, 1) := by decide +kernel
theorem dX6_readSign_110 : decode cX6_readSign 110 = .ok (.iload_n 1, 1) := by decide +kernel
theorem dX6_readSign_111 : decode cX6_readSign 111 = .ok (.invokevirtual 115, 3) := by decide +kernel
theorem dX6_readSign_114 : decode cX6_readSign 114 = .ok (.iload_n 2, 1) := by decide +kernel
theorem dX6_readSign_115 : decode cX6_readSign 115 = .ok (.ifCond .eq 16, 3) := by decide +kernel
theorem dX6_readSign_118 : decode cX6_readSign 118 = .ok (.iload 4, 2) := by decide +kernel
theorem dX6_readSign_120 : decode cX6_readSign 120 = .ok (.ifCond .eq 8, 3) := by decide +kernel
theorem dX6_readSign_123 : decode cX6_readSign 123 = .ok (.ldc 118, 2) := by decide +kernel
theorem dX6_readSign_125 : decode cX6_readSign 125 = .ok (.goto 5, 3) := by decide +kernel
theorem dX6_readSign_128 : decode cX6_readSign 128 = .ok (.ldc 119, 2) := by decide +kernel
theorem dX6_readSign_130 : decode cX6_readSign 130 = .ok (.ireturn, 1) := by decide +kernel
theorem dX6_readSign_131 : decode cX6_readSign 131 = .ok (.iload_n 3, 1) := by decide +kernel
theorem dX6_readSign_132 : decode cX6_readSign 132 = .ok (.ifCond .eq 16, 3) := by decide +kernel
theorem dX6_readSign_135 : decode cX6_readSign 135 = .ok (.iload 4, 2) := by decide +kernel
theorem dX6_readSign_137 : decode cX6_readSign 137 = .ok (.ifCond .eq 8, 3) := by decide +kernel
theorem dX6_readSign_140 : decode cX6_readSign 140 = .ok (.ldc 120, 2) := by decide +kernel
theorem dX6_readSign_142 : decode cX6_readSign 142 = .ok (.goto 5, 3) := by decide +kernel
theorem dX6_readSign_145 : decode cX6_readSign 145 = .ok (.ldc 121, 2) := by decide +kernel
theorem dX6_readSign_147 : decode cX6_readSign 147 = .ok (.ireturn, 1) := by decide +kernel
theorem dX6_readSign_148 : decode cX6_readSign 148 = .ok (.ldc 114, 2) := by decide +kernel
theorem dX6_readSign_150 : decode cX6_readSign 150 = .ok (.ireturn, 1) := by decide +kernel
abbrev D_X6_readSign : Nat := 3
set_option maxRecDepth 100000 in
def f_X6_readSign (μ0 : Mm) (a1 : Nat) : Option (Int32 × Mm) :=
 ((gR μ0 a1 6 0).bind fun v2 =>
    ((ob μ0 v2 9).bind fun _ =>
    (bd (f_X9_skipBlanks μ0 v2) fun v4 μ3 =>
    (nm v4 fun x5 =>
    ((gR μ3 a1 6 0).bind fun v6 =>
    ((ob μ3 v6 9).bind fun _ =>
    (bd (f_X9_takesByte μ3 v6 (60 : Int32)) fun v8 μ7 =>
    (nm v8 fun x9 =>
    (if x9 = 0 then
    ((gR μ7 a1 6 0).bind fun v10 =>
    ((ob μ7 v10 9).bind fun _ =>
    (bd (f_X9_takesByte μ7 v10 (62 : Int32)) fun v12 μ11 =>
    (if v12 = 0 then
    (nm (0 : Int32) fun x13 =>
    ((gR μ11 a1 6 0).bind fun v14 =>
    ((gR μ11 a1 6 0).bind fun v15 =>
    ((gI μ11 v15 9 2).bind fun v16 =>
    ((ob μ11 v14 9).bind fun _ =>
    (bd (f_X9_byteAt μ11 v14 v16) fun v18 μ17 =>
    (if v18 = (61 : Int32) then
    (nm (1 : Int32) fun x19 =>
    (if x9 = 0 then
    (if x13 = 0 then
    (if x19 = 0 then
    ((gR μ17 a1 6 0).bind fun v20 =>
    ((ob μ17 v20 9).bind fun _ =>
    ((f_X9_fail μ17 v20 x5 (0 : Int32)).bind fun μ21 =>
    (some ((100022 : Int32), μ21)))))
    else
    (if x19 = 0 then
    ((ob μ17 a1 6).bind fun _ =>
    ((f_X6_addPart μ17 a1 x5).bind fun μ22 =>
    (if x9 = 0 then
    (if x13 = 0 then
    (some ((100022 : Int32), μ22))
    else
    (if x19 = 0 then
    (some ((100024 : Int32), μ22))
    else
    (some ((100023 : Int32), μ22))))
    else
    (if x19 = 0 then
    (some ((100020 : Int32), μ22))
    else
    (some ((100021 : Int32), μ22))))))
    else
    ((gR μ17 a1 6 0).bind fun v23 =>
    ((gI μ17 v23 9 2).bind fun v24 =>
    ((pV μ17 v23 9 2 (.int (v24 + (1 : Int32)))).bind fun μ25 =>
    ((ob μ25 a1 6).bind fun _ =>
    ((f_X6_addPart μ25 a1 x5).bind fun μ26 =>
    (if x9 = 0 then
    (if x13 = 0 then
    (some ((100022 : Int32), μ26))
    else
    (if x19 = 0 then
    (some ((100024 : Int32), μ26))
    else
    (some ((100023 : Int32), μ26))))
    else
    (if x19 = 0 then
    (some ((100020 : Int32), μ26))
    else
    (some ((100021 : Int32), μ26)))))))))))
    else
    (if x19 = 0 then
    ((ob μ17 a1 6).bind fun _ =>
    ((f_X6_addPart μ17 a1 x5).bind fun μ27 =>
    (if x9 = 0 then
    (if x13 = 0 then
    (some ((100022 : Int32), μ27))
    else
    (if x19 = 0 then
    (some ((100024 : Int32), μ27))
    else
    (some ((100023 : Int32), μ27))))
    else
    (if x19 = 0 then
    (some ((100020 : Int32), μ27))
    else
    (some ((100021 : Int32), μ27))))))
    else
    ((gR μ17 a1 6 0).bind fun v28 =>
    ((gI μ17 v28 9 2).bind fun v29 =>
    ((pV μ17 v28 9 2 (.int (v29 + (1 : Int32)))).bind fun μ30 =>
    ((ob μ30 a1 6).bind fun _ =>
    ((f_X6_addPart μ30 a1 x5).bind fun μ31 =>
    (if x9 = 0 then
    (if x13 = 0 then
    (some ((100022 : Int32), μ31))
    else
    (if x19 = 0 then
    (some ((100024 : Int32), μ31))
    else
    (some ((100023 : Int32), μ31))))
    else
    (if x19 = 0 then
    (some ((100020 : Int32), μ31))
    else
    (some ((100021 : Int32), μ31)))))))))))
    else
    (if x19 = 0 then
    ((ob μ17 a1 6).bind fun _ =>
    ((f_X6_addPart μ17 a1 x5).bind fun μ32 =>
    (if x9 = 0 then
    (if x13 = 0 then
    (some ((100022 : Int32), μ32))
    else
    (if x19 = 0 then
    (some ((100024 : Int32), μ32))
    else
    (some ((100023 : Int32), μ32))))
    else
    (if x19 = 0 then
    (some ((100020 : Int32), μ32))
    else
    (some ((100021 : Int32), μ32))))))
    else
    ((gR μ17 a1 6 0).bind fun v33 =>
    ((gI μ17 v33 9 2).bind fun v34 =>
    ((pV μ17 v33 9 2 (.int (v34 + (1 : Int32)))).bind fun μ35 =>
    ((ob μ35 a1 6).bind fun _ =>
    ((f_X6_addPart μ35 a1 x5).bind fun μ36 =>
    (if x9 = 0 then
    (if x13 = 0 then
    (some ((100022 : Int32), μ36))
    else
    (if x19 = 0 then
    (some ((100024 : Int32), μ36))
    else
    (some ((100023 : Int32), μ36))))
    else
    (if x19 = 0 then
    (some ((100020 : Int32), μ36))
    else
    (some ((100021 : Int32), μ36))))))))))))
    else
    (nm (0 : Int32) fun x37 =>
    (if x9 = 0 then
    (if x13 = 0 then
    (if x37 = 0 then
    ((gR μ17 a1 6 0).bind fun v38 =>
    ((ob μ17 v38 9).bind fun _ =>
    ((f_X9_fail μ17 v38 x5 (0 : Int32)).bind fun μ39 =>
    (some ((100022 : Int32), μ39)))))
    else
    (if x37 = 0 then
    ((ob μ17 a1 6).bind fun _ =>
    ((f_X6_addPart μ17 a1 x5).bind fun μ40 =>
    (if x9 = 0 then
    (if x13 = 0 then
    (some ((100022 : Int32), μ40))
    else
    (if x37 = 0 then
    (some ((100024 : Int32), μ40))
    else
    (some ((100023 : Int32), μ40))))
    else
    (if x37 = 0 then
    (some ((100020 : Int32), μ40))
    else
    (some ((100021 : Int32), μ40))))))
    else
    ((gR μ17 a1 6 0).bind fun v41 =>
    ((gI μ17 v41 9 2).bind fun v42 =>
    ((pV μ17 v41 9 2 (.int (v42 + (1 : Int32)))).bind fun μ43 =>
    ((ob μ43 a1 6).bind fun _ =>
    ((f_X6_addPart μ43 a1 x5).bind fun μ44 =>
    (if x9 = 0 then
    (if x13 = 0 then
    (some ((100022 : Int32), μ44))
    else
    (if x37 = 0 then
    (some ((100024 : Int32), μ44))
    else
    (some ((100023 : Int32), μ44))))
    else
    (if x37 = 0 then
    (some ((100020 : Int32), μ44))
    else
    (some ((100021 : Int32), μ44)))))))))))
    else
    (if x37 = 0 then
    ((ob μ17 a1 6).bind fun _ =>
    ((f_X6_addPart μ17 a1 x5).bind fun μ45 =>
    (if x9 = 0 then
    (if x13 = 0 then
    (some ((100022 : Int32), μ45))
    else
    (if x37 = 0 then
    (some ((100024 : Int32), μ45))
    else
    (some ((100023 : Int32), μ45))))
    else
    (if x37 = 0 then
    (some ((100020 : Int32), μ45))
    else
    (some ((100021 : Int32), μ45))))))
    else
    ((gR μ17 a1 6 0).bind fun v46 =>
    ((gI μ17 v46 9 2).bind fun v47 =>
    ((pV μ17 v46 9 2 (.int (v47 + (1 : Int32)))).bind fun μ48 =>
    ((ob μ48 a1 6).bind fun _ =>
    ((f_X6_addPart μ48 a1 x5).bind fun μ49 =>
    (if x9 = 0 then
    (if x13 = 0 then
    (some ((100022 : Int32), μ49))
    else
    (if x37 = 0 then
    (some ((100024 : Int32), μ49))
    else
    (some ((100023 : Int32), μ49))))
    else
    (if x37 = 0 then
    (some ((100020 : Int32), μ49))
    else
    (some ((100021 : Int32), μ49)))))))))))
    else
    (if x37 = 0 then
    ((ob μ17 a1 6).bind fun _ =>
    ((f_X6_addPart μ17 a1 x5).bind fun μ50 =>
    (if x9 = 0 then
    (if x13 = 0 then
    (some ((100022 : Int32), μ50))
    else
    (if x37 = 0 then
    (some ((100024 : Int32), μ50))
    else
    (some ((100023 : Int32), μ50))))
    else
    (if x37 = 0 then
    (some ((100020 : Int32), μ50))
    else
    (some ((100021 : Int32), μ50))))))
    else
    ((gR μ17 a1 6 0).bind fun v51 =>
    ((gI μ17 v51 9 2).bind fun v52 =>
    ((pV μ17 v51 9 2 (.int (v52 + (1 : Int32)))).bind fun μ53 =>
    ((ob μ53 a1 6).bind fun _ =>
    ((f_X6_addPart μ53 a1 x5).bind fun μ54 =>
    (if x9 = 0 then
    (if x13 = 0 then
    (some ((100022 : Int32), μ54))
    else
    (if x37 = 0 then
    (some ((100024 : Int32), μ54))
    else
    (some ((100023 : Int32), μ54))))
    else
    (if x37 = 0 then
    (some ((100020 : Int32), μ54))
    else
    (some ((100021 : Int32), μ54)))))))))))))))))))
    else
    (nm (1 : Int32) fun x55 =>
    ((gR μ11 a1 6 0).bind fun v56 =>
    ((gR μ11 a1 6 0).bind fun v57 =>
    ((gI μ11 v57 9 2).bind fun v58 =>
    ((ob μ11 v56 9).bind fun _ =>
    (bd (f_X9_byteAt μ11 v56 v58) fun v60 μ59 =>
    (if v60 = (61 : Int32) then
    (nm (1 : Int32) fun x61 =>
    (if x9 = 0 then
    (if x55 = 0 then
    (if x61 = 0 then
    ((gR μ59 a1 6 0).bind fun v62 =>
    ((ob μ59 v62 9).bind fun _ =>
    ((f_X9_fail μ59 v62 x5 (0 : Int32)).bind fun μ63 =>
    (some ((100022 : Int32), μ63)))))
    else
    (if x61 = 0 then
    ((ob μ59 a1 6).bind fun _ =>
    ((f_X6_addPart μ59 a1 x5).bind fun μ64 =>
    (if x9 = 0 then
    (if x55 = 0 then
    (some ((100022 : Int32), μ64))
    else
    (if x61 = 0 then
    (some ((100024 : Int32), μ64))
    else
    (some ((100023 : Int32), μ64))))
    else
    (if x61 = 0 then
    (some ((100020 : Int32), μ64))
    else
    (some ((100021 : Int32), μ64))))))
    else
    ((gR μ59 a1 6 0).bind fun v65 =>
    ((gI μ59 v65 9 2).bind fun v66 =>
    ((pV μ59 v65 9 2 (.int (v66 + (1 : Int32)))).bind fun μ67 =>
    ((ob μ67 a1 6).bind fun _ =>
    ((f_X6_addPart μ67 a1 x5).bind fun μ68 =>
    (if x9 = 0 then
    (if x55 = 0 then
    (some ((100022 : Int32), μ68))
    else
    (if x61 = 0 then
    (some ((100024 : Int32), μ68))
    else
    (some ((100023 : Int32), μ68))))
    else
    (if x61 = 0 then
    (some ((100020 : Int32), μ68))
    else
    (some ((100021 : Int32), μ68)))))))))))
    else
    (if x61 = 0 then
    ((ob μ59 a1 6).bind fun _ =>
    ((f_X6_addPart μ59 a1 x5).bind fun μ69 =>
    (if x9 = 0 then
    (if x55 = 0 then
    (some ((100022 : Int32), μ69))
    else
    (if x61 = 0 then
    (some ((100024 : Int32), μ69))
    else
    (some ((100023 : Int32), μ69))))
    else
    (if x61 = 0 then
    (some ((100020 : Int32), μ69))
    else
    (some ((100021 : Int32), μ69))))))
    else
    ((gR μ59 a1 6 0).bind fun v70 =>
    ((gI μ59 v70 9 2).bind fun v71 =>
    ((pV μ59 v70 9 2 (.int (v71 + (1 : Int32)))).bind fun μ72 =>
    ((ob μ72 a1 6).bind fun _ =>
    ((f_X6_addPart μ72 a1 x5).bind fun μ73 =>
    (if x9 = 0 then
    (if x55 = 0 then
    (some ((100022 : Int32), μ73))
    else
    (if x61 = 0 then
    (some ((100024 : Int32), μ73))
    else
    (some ((100023 : Int32), μ73))))
    else
    (if x61 = 0 then
    (some ((100020 : Int32), μ73))
    else
    (some ((100021 : Int32), μ73)))))))))))
    else
    (if x61 = 0 then
    ((ob μ59 a1 6).bind fun _ =>
    ((f_X6_addPart μ59 a1 x5).bind fun μ74 =>
    (if x9 = 0 then
    (if x55 = 0 then
    (some ((100022 : Int32), μ74))
    else
    (if x61 = 0 then
    (some ((100024 : Int32), μ74))
    else
    (some ((100023 : Int32), μ74))))
    else
    (if x61 = 0 then
    (some ((100020 : Int32), μ74))
    else
    (some ((100021 : Int32), μ74))))))
    else
    ((gR μ59 a1 6 0).bind fun v75 =>
    ((gI μ59 v75 9 2).bind fun v76 =>
    ((pV μ59 v75 9 2 (.int (v76 + (1 : Int32)))).bind fun μ77 =>
    ((ob μ77 a1 6).bind fun _ =>
    ((f_X6_addPart μ77 a1 x5).bind fun μ78 =>
    (if x9 = 0 then
    (if x55 = 0 then
    (some ((100022 : Int32), μ78))
    else
    (if x61 = 0 then
    (some ((100024 : Int32), μ78))
    else
    (some ((100023 : Int32), μ78))))
    else
    (if x61 = 0 then
    (some ((100020 : Int32), μ78))
    else
    (some ((100021 : Int32), μ78))))))))))))
    else
    (nm (0 : Int32) fun x79 =>
    (if x9 = 0 then
    (if x55 = 0 then
    (if x79 = 0 then
    ((gR μ59 a1 6 0).bind fun v80 =>
    ((ob μ59 v80 9).bind fun _ =>
    ((f_X9_fail μ59 v80 x5 (0 : Int32)).bind fun μ81 =>
    (some ((100022 : Int32), μ81)))))
    else
    (if x79 = 0 then
    ((ob μ59 a1 6).bind fun _ =>
    ((f_X6_addPart μ59 a1 x5).bind fun μ82 =>
    (if x9 = 0 then
    (if x55 = 0 then
    (some ((100022 : Int32), μ82))
    else
    (if x79 = 0 then
    (some ((100024 : Int32), μ82))
    else
    (some ((100023 : Int32), μ82))))
    else
    (if x79 = 0 then
    (some ((100020 : Int32), μ82))
    else
    (some ((100021 : Int32), μ82))))))
    else
    ((gR μ59 a1 6 0).bind fun v83 =>
    ((gI μ59 v83 9 2).bind fun v84 =>
    ((pV μ59 v83 9 2 (.int (v84 + (1 : Int32)))).bind fun μ85 =>
    ((ob μ85 a1 6).bind fun _ =>
    ((f_X6_addPart μ85 a1 x5).bind fun μ86 =>
    (if x9 = 0 then
    (if x55 = 0 then
    (some ((100022 : Int32), μ86))
    else
    (if x79 = 0 then
    (some ((100024 : Int32), μ86))
    else
    (some ((100023 : Int32), μ86))))
    else
    (if x79 = 0 then
    (some ((100020 : Int32), μ86))
    else
    (some ((100021 : Int32), μ86)))))))))))
    else
    (if x79 = 0 then
    ((ob μ59 a1 6).bind fun _ =>
    ((f_X6_addPart μ59 a1 x5).bind fun μ87 =>
    (if x9 = 0 then
    (if x55 = 0 then
    (some ((100022 : Int32), μ87))
    else
    (if x79 = 0 then
    (some ((100024 : Int32), μ87))
    else
    (some ((100023 : Int32), μ87))))
    else
    (if x79 = 0 then
    (some ((100020 : Int32), μ87))
    else
    (some ((100021 : Int32), μ87))))))
    else
    ((gR μ59 a1 6 0).bind fun v88 =>
    ((gI μ59 v88 9 2).bind fun v89 =>
    ((pV μ59 v88 9 2 (.int (v89 + (1 : Int32)))).bind fun μ90 =>
    ((ob μ90 a1 6).bind fun _ =>
    ((f_X6_addPart μ90 a1 x5).bind fun μ91 =>
    (if x9 = 0 then
    (if x55 = 0 then
    (some ((100022 : Int32), μ91))
    else
    (if x79 = 0 then
    (some ((100024 : Int32), μ91))
    else
    (some ((100023 : Int32), μ91))))
    else
    (if x79 = 0 then
    (some ((100020 : Int32), μ91))
    else
    (some ((100021 : Int32), μ91)))))))))))
    else
    (if x79 = 0 then
    ((ob μ59 a1 6).bind fun _ =>
    ((f_X6_addPart μ59 a1 x5).bind fun μ92 =>
    (if x9 = 0 then
    (if x55 = 0 then
    (some ((100022 : Int32), μ92))
    else
    (if x79 = 0 then
    (some ((100024 : Int32), μ92))
    else
    (some ((100023 : Int32), μ92))))
    else
    (if x79 = 0 then
    (some ((100020 : Int32), μ92))
    else
    (some ((100021 : Int32), μ92))))))
    else
    ((gR μ59 a1 6 0).bind fun v93 =>
    ((gI μ59 v93 9 2).bind fun v94 =>
    ((pV μ59 v93 9 2 (.int (v94 + (1 : Int32)))).bind fun μ95 =>
    ((ob μ95 a1 6).bind fun _ =>
    ((f_X6_addPart μ95 a1 x5).bind fun μ96 =>
    (if x9 = 0 then
    (if x55 = 0 then
    (some ((100022 : Int32), μ96))
    else
    (if x79 = 0 then
    (some ((100024 : Int32), μ96))
    else
    (some ((100023 : Int32), μ96))))
    else
    (if x79 = 0 then
    (some ((100020 : Int32), μ96))
    else
    (some ((100021 : Int32), μ96)))))))))))))))))))))))
    else
    (nm (0 : Int32) fun x97 =>
    ((gR μ7 a1 6 0).bind fun v98 =>
    ((gR μ7 a1 6 0).bind fun v99 =>
    ((gI μ7 v99 9 2).bind fun v100 =>
    ((ob μ7 v98 9).bind fun _ =>
    (bd (f_X9_byteAt μ7 v98 v100) fun v102 μ101 =>
    (if v102 = (61 : Int32) then
    (nm (1 : Int32) fun x103 =>
    (if x9 = 0 then
    (if x97 = 0 then
    (if x103 = 0 then
    ((gR μ101 a1 6 0).bind fun v104 =>
    ((ob μ101 v104 9).bind fun _ =>
    ((f_X9_fail μ101 v104 x5 (0 : Int32)).bind fun μ105 =>
    (some ((100022 : Int32), μ105)))))
    else
    (if x103 = 0 then
    ((ob μ101 a1 6).bind fun _ =>
    ((f_X6_addPart μ101 a1 x5).bind fun μ106 =>
    (if x9 = 0 then
    (if x97 = 0 then
    (some ((100022 : Int32), μ106))
    else
    (if x103 = 0 then
    (some ((100024 : Int32), μ106))
    else
    (some ((100023 : Int32), μ106))))
    else
    (if x103 = 0 then
    (some ((100020 : Int32), μ106))
    else
    (some ((100021 : Int32), μ106))))))
    else
    ((gR μ101 a1 6 0).bind fun v107 =>
    ((gI μ101 v107 9 2).bind fun v108 =>
    ((pV μ101 v107 9 2 (.int (v108 + (1 : Int32)))).bind fun μ109 =>
    ((ob μ109 a1 6).bind fun _ =>
    ((f_X6_addPart μ109 a1 x5).bind fun μ110 =>
    (if x9 = 0 then
    (if x97 = 0 then
    (some ((100022 : Int32), μ110))
    else
    (if x103 = 0 then
    (some ((100024 : Int32), μ110))
    else
    (some ((100023 : Int32), μ110))))
    else
    (if x103 = 0 then
    (some ((100020 : Int32), μ110))
    else
    (some ((100021 : Int32), μ110)))))))))))
    else
    (if x103 = 0 then
    ((ob μ101 a1 6).bind fun _ =>
    ((f_X6_addPart μ101 a1 x5).bind fun μ111 =>
    (if x9 = 0 then
    (if x97 = 0 then
    (some ((100022 : Int32), μ111))
    else
    (if x103 = 0 then
    (some ((100024 : Int32), μ111))
    else
    (some ((100023 : Int32), μ111))))
    else
    (if x103 = 0 then
    (some ((100020 : Int32), μ111))
    else
    (some ((100021 : Int32), μ111))))))
    else
    ((gR μ101 a1 6 0).bind fun v112 =>
    ((gI μ101 v112 9 2).bind fun v113 =>
    ((pV μ101 v112 9 2 (.int (v113 + (1 : Int32)))).bind fun μ114 =>
    ((ob μ114 a1 6).bind fun _ =>
    ((f_X6_addPart μ114 a1 x5).bind fun μ115 =>
    (if x9 = 0 then
    (if x97 = 0 then
    (some ((100022 : Int32), μ115))
    else
    (if x103 = 0 then
    (some ((100024 : Int32), μ115))
    else
    (some ((100023 : Int32), μ115))))
    else
    (if x103 = 0 then
    (some ((100020 : Int32), μ115))
    else
    (some ((100021 : Int32), μ115)))))))))))
    else
    (if x103 = 0 then
    ((ob μ101 a1 6).bind fun _ =>
    ((f_X6_addPart μ101 a1 x5).bind fun μ116 =>
    (if x9 = 0 then
    (if x97 = 0 then
    (some ((100022 : Int32), μ116))
    else
    (if x103 = 0 then
    (some ((100024 : Int32), μ116))
    else
    (some ((100023 : Int32), μ116))))
    else
    (if x103 = 0 then
    (some ((100020 : Int32), μ116))
    else
    (some ((100021 : Int32), μ116))))))
    else
    ((gR μ101 a1 6 0).bind fun v117 =>
    ((gI μ101 v117 9 2).bind fun v118 =>
    ((pV μ101 v117 9 2 (.int (v118 + (1 : Int32)))).bind fun μ119 =>
    ((ob μ119 a1 6).bind fun _ =>
    ((f_X6_addPart μ119 a1 x5).bind fun μ120 =>
    (if x9 = 0 then
    (if x97 = 0 then
    (some ((100022 : Int32), μ120))
    else
    (if x103 = 0 then
    (some ((100024 : Int32), μ120))
    else
    (some ((100023 : Int32), μ120))))
    else
    (if x103 = 0 then
    (some ((100020 : Int32), μ120))
    else
    (some ((100021 : Int32), μ120))))))))))))
    else
    (nm (0 : Int32) fun x121 =>
    (if x9 = 0 then
    (if x97 = 0 then
    (if x121 = 0 then
    ((gR μ101 a1 6 0).bind fun v122 =>
    ((ob μ101 v122 9).bind fun _ =>
    ((f_X9_fail μ101 v122 x5 (0 : Int32)).bind fun μ123 =>
    (some ((100022 : Int32), μ123)))))
    else
    (if x121 = 0 then
    ((ob μ101 a1 6).bind fun _ =>
    ((f_X6_addPart μ101 a1 x5).bind fun μ124 =>
    (if x9 = 0 then
    (if x97 = 0 then
    (some ((100022 : Int32), μ124))
    else
    (if x121 = 0 then
    (some ((100024 : Int32), μ124))
    else
    (some ((100023 : Int32), μ124))))
    else
    (if x121 = 0 then
    (some ((100020 : Int32), μ124))
    else
    (some ((100021 : Int32), μ124))))))
    else
    ((gR μ101 a1 6 0).bind fun v125 =>
    ((gI μ101 v125 9 2).bind fun v126 =>
    ((pV μ101 v125 9 2 (.int (v126 + (1 : Int32)))).bind fun μ127 =>
    ((ob μ127 a1 6).bind fun _ =>
    ((f_X6_addPart μ127 a1 x5).bind fun μ128 =>
    (if x9 = 0 then
    (if x97 = 0 then
    (some ((100022 : Int32), μ128))
    else
    (if x121 = 0 then
    (some ((100024 : Int32), μ128))
    else
    (some ((100023 : Int32), μ128))))
    else
    (if x121 = 0 then
    (some ((100020 : Int32), μ128))
    else
    (some ((100021 : Int32), μ128)))))))))))
    else
    (if x121 = 0 then
    ((ob μ101 a1 6).bind fun _ =>
    ((f_X6_addPart μ101 a1 x5).bind fun μ129 =>
    (if x9 = 0 then
    (if x97 = 0 then
    (some ((100022 : Int32), μ129))
    else
    (if x121 = 0 then
    (some ((100024 : Int32), μ129))
    else
    (some ((100023 : Int32), μ129))))
    else
    (if x121 = 0 then
    (some ((100020 : Int32), μ129))
    else
    (some ((100021 : Int32), μ129))))))
    else
    ((gR μ101 a1 6 0).bind fun v130 =>
    ((gI μ101 v130 9 2).bind fun v131 =>
    ((pV μ101 v130 9 2 (.int (v131 + (1 : Int32)))).bind fun μ132 =>
    ((ob μ132 a1 6).bind fun _ =>
    ((f_X6_addPart μ132 a1 x5).bind fun μ133 =>
    (if x9 = 0 then
    (if x97 = 0 then
    (some ((100022 : Int32), μ133))
    else
    (if x121 = 0 then
    (some ((100024 : Int32), μ133))
    else
    (some ((100023 : Int32), μ133))))
    else
    (if x121 = 0 then
    (some ((100020 : Int32), μ133))
    else
    (some ((100021 : Int32), μ133)))))))))))
    else
    (if x121 = 0 then
    ((ob μ101 a1 6).bind fun _ =>
    ((f_X6_addPart μ101 a1 x5).bind fun μ134 =>
    (if x9 = 0 then
    (if x97 = 0 then
    (some ((100022 : Int32), μ134))
    else
    (if x121 = 0 then
    (some ((100024 : Int32), μ134))
    else
    (some ((100023 : Int32), μ134))))
    else
    (if x121 = 0 then
    (some ((100020 : Int32), μ134))
    else
    (some ((100021 : Int32), μ134))))))
    else
    ((gR μ101 a1 6 0).bind fun v135 =>
    ((gI μ101 v135 9 2).bind fun v136 =>
    ((pV μ101 v135 9 2 (.int (v136 + (1 : Int32)))).bind fun μ137 =>
    ((ob μ137 a1 6).bind fun _ =>
    ((f_X6_addPart μ137 a1 x5).bind fun μ138 =>
    (if x9 = 0 then
    (if x97 = 0 then
    (some ((100022 : Int32), μ138))
    else
    (if x121 = 0 then
    (some ((100024 : Int32), μ138))
    else
    (some ((100023 : Int32), μ138))))
    else
    (if x121 = 0 then
    (some ((100020 : Int32), μ138))
    else
    (some ((100021 : Int32), μ138))))))))))))))))))))))))))))
set_option maxHeartbeats 4000000 in
set_option maxRecDepth 100000 in
theorem f_X6_readSign_ok {l : Launch} {G : GG} {μ0 : Mm} {a1 : Nat} {r : Int32} {μ' : Mm} (hf : f_X6_readSign μ0 a1 = some (r, μ')) : EvM l G D_X6_readSign yX6_readSign cX6_readSign 5 (some .int) [.ref a1] μ0 (some (.int r)) μ' := by
  show Ev l G D_X6_readSign yX6_readSign cX6_readSign 5 (some .int) 0 [(0, .ref a1)] [] μ0 (some (.int r)) μ'
  unfold f_X6_readSign at hf
  refine E_aload_n (pc := 0) dX6_readSign_0 rfl ?_
  refine E_getR (pc := 1) dX6_readSign_1 fl_X6_37 hf (fun v2 hf => ?_)
  refine E_Vi (pc := 4) (d2 := D_X9_skipBlanks) (ci := 9) [] dX6_readSign_4 ml_X6_56 mf_X9_skipBlanks im_X9_skipBlanks rfl rfl rfl (by decide) (Nat.le_of_ble_eq_true rfl) (Nat.le_of_ble_eq_true rfl) rfl (fun _ _ h => f_X9_skipBlanks_ok h) hf (fun v4 μ3 hf => ?_)
  refine E_istore_n (pc := 7) (ls' := fun x5 => [(1, .int x5), (0, .ref a1)]) dX6_readSign_7 (by decide) (fun _ => rfl) hf (fun x5 hf => ?_)
  refine E_aload_n (pc := 8) dX6_readSign_8 rfl ?_
  refine E_getR (pc := 9) dX6_readSign_9 fl_X6_37 hf (fun v6 hf => ?_)
  refine E_bipush (pc := 12) (v := (60 : Int32)) dX6_readSign_12 (by decide) ?_
  refine E_Vi (pc := 14) (d2 := D_X9_takesByte) (ci := 9) [.int (60 : Int32)] dX6_readSign_14 ml_X6_97 mf_X9_takesByte im_X9_takesByte rfl rfl rfl (by decide) (Nat.le_of_ble_eq_true rfl) (Nat.le_of_ble_eq_true rfl) rfl (fun _ _ h => f_X9_takesByte_ok h) hf (fun v8 μ7 hf => ?_)
  refine E_istore_n (pc := 17) (ls' := fun x9 => [(2, .int x9), (1, .int x5), (0, .ref a1)]) dX6_readSign_17 (by decide) (fun _ => rfl) hf (fun x9 hf => ?_)
  refine E_iload_n (pc := 18) dX6_readSign_18 rfl ?_
  refine E_if_ne (pc := 19) (tgt := 38) dX6_readSign_19 (by decide) hf (fun hf => ?_) (fun hf => ?_)
  · refine E_aload_n (pc := 22) dX6_readSign_22 rfl ?_
    refine E_getR (pc := 23) dX6_readSign_23 fl_X6_37 hf (fun v10 hf => ?_)
    refine E_bipush (pc := 26) (v := (62 : Int32)) dX6_readSign_26 (by decide) ?_
    refine E_Vi (pc := 28) (d2 := D_X9_takesByte) (ci := 9) [.int (62 : Int32)] dX6_readSign_28 ml_X6_97 mf_X9_takesByte im_X9_takesByte rfl rfl rfl (by decide) (Nat.le_of_ble_eq_true rfl) (Nat.le_of_ble_eq_true rfl) rfl (fun _ _ h => f_X9_takesByte_ok h) hf (fun v12 μ11 hf => ?_)
    refine E_if_eq (pc := 31) (tgt := 38) dX6_readSign_31 (by decide) hf (fun hf => ?_) (fun hf => ?_)
    · refine E_iconst (pc := 38) (v := (0 : Int32)) dX6_readSign_38 (by decide) ?_
      refine E_istore_n (pc := 39) (ls' := fun x13 => [(3, .int x13), (2, .int x9), (1, .int x5), (0, .ref a1)]) dX6_readSign_39 (by decide) (fun _ => rfl) hf (fun x13 hf => ?_)
      refine E_aload_n (pc := 40) dX6_readSign_40 rfl ?_
      refine E_getR (pc := 41) dX6_readSign_41 fl_X6_37 hf (fun v14 hf => ?_)
      refine E_aload_n (pc := 44) dX6_readSign_44 rfl ?_
      refine E_getR (pc := 45) dX6_readSign_45 fl_X6_37 hf (fun v15 hf => ?_)
      refine E_getI (pc := 48) dX6_readSign_48 fl_X6_103 hf (fun v16 hf => ?_)
      refine E_Vi (pc := 51) (d2 := D_X9_byteAt) (ci := 9) [.int v16] dX6_readSign_51 ml_X6_110 mf_X9_byteAt im_X9_byteAt rfl rfl rfl (by decide) (Nat.le_of_ble_eq_true rfl) (Nat.le_of_ble_eq_true rfl) rfl (fun _ _ h => f_X9_byteAt_ok h) hf (fun v18 μ17 hf => ?_)
      refine E_bipush (pc := 54) (v := (61 : Int32)) dX6_readSign_54 (by decide) ?_
      refine E_icmp_ne (pc := 56) (tgt := 63) dX6_readSign_56 (by decide) hf (fun hf => ?_) (fun hf => ?_)
      · refine E_iconst (pc := 59) (v := (1 : Int32)) dX6_readSign_59 (by decide) ?_
        refine E_goto (pc := 60) (tgt := 64) dX6_readSign_60 (by decide) ?_
        refine E_istore (pc := 64) (ls' := fun x19 => [(4, .int x19), (3, .int x13), (2, .int x9), (1, .int x5), (0, .ref a1)]) dX6_readSign_64 (by decide) (fun _ => rfl) hf (fun x19 hf => ?_)
        refine E_iload_n (pc := 66) dX6_readSign_66 rfl ?_
        refine E_if_ne (pc := 67) (tgt := 91) dX6_readSign_67 (by decide) hf (fun hf => ?_) (fun hf => ?_)
        · refine E_iload_n (pc := 70) dX6_readSign_70 rfl ?_
          refine E_if_ne (pc := 71) (tgt := 91) dX6_readSign_71 (by decide) hf (fun hf => ?_) (fun hf => ?_)
          · refine E_iload (pc := 74) dX6_readSign_74 rfl ?_
            refine E_if_ne (pc := 76) (tgt := 91) dX6_readSign_76 (by decide) hf (fun hf => ?_) (fun hf => ?_)
            · refine E_aload_n (pc := 79) dX6_readSign_79 rfl ?_
              refine E_getR (pc := 80) dX6_readSign_80 fl_X6_37 hf (fun v20 hf => ?_)
              refine E_iload_n (pc := 83) dX6_readSign_83 rfl ?_
              refine E_iconst (pc := 84) (v := (0 : Int32)) dX6_readSign_84 (by decide) ?_
              refine E_Vv (pc := 85) (d2 := D_X9_fail) (ci := 9) [.int x5, .int (0 : Int32)] dX6_readSign_85 ml_X6_66 mf_X9_fail im_X9_fail rfl rfl rfl (by decide) (Nat.le_of_ble_eq_true rfl) (Nat.le_of_ble_eq_true rfl) rfl (fun _ h => f_X9_fail_ok h) hf (fun μ21 hf => ?_)
              refine E_ldc (pc := 88) (v := (100022 : Int32)) dX6_readSign_88 co_X6_114 ?_
              exact E_iret (pc := 90) dX6_readSign_90 rfl hf
            · refine E_iload (pc := 91) dX6_readSign_91 rfl ?_
              refine E_if_eq (pc := 93) (tgt := 109) dX6_readSign_93 (by decide) hf (fun hf => ?_) (fun hf => ?_)
              · refine E_aload_n (pc := 109) dX6_readSign_109 rfl ?_
                refine E_iload_n (pc := 110) dX6_readSign_110 rfl ?_
                refine E_Vv (pc := 111) (d2 := D_X6_addPart) (ci := 6) [.int x5] dX6_readSign_111 ml_X6_115 mf_X6_addPart im_X6_addPart rfl rfl rfl (by decide) (Nat.le_of_ble_eq_true rfl) (Nat.le_of_ble_eq_true rfl) rfl (fun _ h => f_X6_addPart_ok h) hf (fun μ22 hf => ?_)
                refine E_iload_n (pc := 114) dX6_readSign_114 rfl ?_
                refine E_if_eq (pc := 115) (tgt := 131) dX6_readSign_115 (by decide) hf (fun hf => ?_) (fun hf => ?_)
                · refine E_iload_n (pc := 131) dX6_readSign_131 rfl ?_
                  refine E_if_eq (pc := 132) (tgt := 148) dX6_readSign_132 (by decide) hf (fun hf => ?_) (fun hf => ?_)
                  · refine E_ldc (pc := 148) (v := (100022 : Int32)) dX6_readSign_148 co_X6_114 ?_
                    exact E_iret (pc := 150) dX6_readSign_150 rfl hf
                  · refine E_iload (pc := 135) dX6_readSign_135 rfl ?_
                    refine E_if_eq (pc := 137) (tgt := 145) dX6_readSign_137 (by decide) hf (fun hf => ?_) (fun hf => ?_)
                    · refine E_ldc (pc := 145) (v := (100024 : Int32)) dX6_readSign_145 co_X6_121 ?_
                      exact E_iret (pc := 147) dX6_readSign_147 rfl hf
                    · refine E_ldc (pc := 140) (v := (100023 : Int32)) dX6_readSign_140 co_X6_120 ?_
                      refine E_goto (pc := 142) (tgt := 147) dX6_readSign_142 (by decide) ?_
                      exact E_iret (pc := 147) dX6_readSign_147 rfl hf
                · refine E_iload (pc := 118) dX6_readSign_118 rfl ?_
                  refine E_if_eq (pc := 120) (tgt := 128) dX6_readSign_120 (by decide) hf (fun hf => ?_) (fun hf => ?_)
                  · refine E_ldc (pc := 128) (v := (100020 : Int32)) dX6_readSign_128 co_X6_119 ?_
                    exact E_iret (pc := 130) dX6_readSign_130 rfl hf
                  · refine E_ldc (pc := 123) (v := (100021 : Int32)) dX6_readSign_123 co_X6_118 ?_
                    refine E_goto (pc := 125) (tgt := 130) dX6_readSign_125 (by decide) ?_
                    exact E_iret (pc := 130) dX6_readSign_130 rfl hf
              · refine E_aload_n (pc := 96) dX6_readSign_96 rfl ?_
                refine E_getR (pc := 97) dX6_readSign_97 fl_X6_37 hf (fun v23 hf => ?_)
                refine E_dup (pc := 100) dX6_readSign_100 rfl ?_
                refine E_getI (pc := 101) dX6_readSign_101 fl_X6_103 hf (fun v24 hf => ?_)
                refine E_iconst (pc := 104) (v := (1 : Int32)) dX6_readSign_104 (by decide) ?_
                refine E_iadd (pc := 105) dX6_readSign_105 ?_
                refine E_putI (pc := 106) dX6_readSign_106 (pl_X6_103 _) hf (fun μ25 hf => ?_)
                refine E_aload_n (pc := 109) dX6_readSign_109 rfl ?_
                refine E_iload_n (pc := 110) dX6_readSign_110 rfl ?_
                refine E_Vv (pc := 111) (d2 := D_X6_addPart) (ci := 6) [.int x5] dX6_readSign_111 ml_X6_115 mf_X6_addPart im_X6_addPart rfl rfl rfl (by decide) (Nat.le_of_ble_eq_true rfl) (Nat.le_of_ble_eq_true rfl) rfl (fun _ h => f_X6_addPart_ok h) hf (fun μ26 hf => ?_)
                refine E_iload_n (pc := 114) dX6_readSign_114 rfl ?_
                refine E_if_eq (pc := 115) (tgt := 131) dX6_readSign_115 (by decide) hf (fun hf => ?_) (fun hf => ?_)
                · refine E_iload_n (pc := 131) dX6_readSign_131 rfl ?_
                  refine E_if_eq (pc := 132) (tgt := 148) dX6_readSign_132 (by decide) hf (fun hf => ?_) (fun hf => ?_)
                  · refine E_ldc (pc := 148) (v := (100022 : Int32)) dX6_readSign_148 co_X6_114 ?_
                    exact E_iret (pc := 150) dX6_readSign_150 rfl hf
                  · refine E_iload (pc := 135) dX6_readSign_135 rfl ?_
                    refine E_if_eq (pc := 137) (tgt := 145) dX6_readSign_137 (by decide) hf (fun hf => ?_) (fun hf => ?_)
                    · refine E_ldc (pc := 145) (v := (100024 : Int32)) dX6_readSign_145 co_X6_121 ?_
                      exact E_iret (pc := 147) dX6_readSign_147 rfl hf
                    · refine E_ldc (pc := 140) (v := (100023 : Int32)) dX6_readSign_140 co_X6_120 ?_
                      refine E_goto (pc := 142) (tgt := 147) dX6_readSign_142 (by decide) ?_
                      exact E_iret (pc := 147) dX6_readSign_147 rfl hf
                · refine E_iload (pc := 118) dX6_readSign_118 rfl ?_
                  refine E_if_eq (pc := 120) (tgt := 128) dX6_readSign_120 (by decide) hf (fun hf => ?_) (fun hf => ?_)
                  · refine E_ldc (pc := 128) (v := (100020 : Int32)) dX6_readSign_128 co_X6_119 ?_
                    exact E_iret (pc := 130) dX6_readSign_130 rfl hf
                  · refine E_ldc (pc := 123) (v := (100021 : Int32)) dX6_readSign_123 co_X6_118 ?_
                    refine E_goto (pc := 125) (tgt := 130) dX6_readSign_125 (by decide) ?_
                    exact E_iret (pc := 130) dX6_readSign_130 rfl hf
          · refine E_iload (pc := 91) dX6_readSign_91 rfl ?_
            refine E_if_eq (pc := 93) (tgt := 109) dX6_readSign_93 (by decide) hf (fun hf => ?_) (fun hf => ?_)
            · refine E_aload_n (pc := 109) dX6_readSign_109 rfl ?_
              refine E_iload_n (pc := 110) dX6_readSign_110 rfl ?_
              refine E_Vv (pc := 111) (d2 := D_X6_addPart) (ci := 6) [.int x5] dX6_readSign_111 ml_X6_115 mf_X6_addPart im_X6_addPart rfl rfl rfl (by decide) (Nat.le_of_ble_eq_true rfl) (Nat.le_of_ble_eq_true rfl) rfl (fun _ h => f_X6_addPart_ok h) hf (fun μ27 hf => ?_)
              refine E_iload_n (pc := 114) dX6_readSign_114 rfl ?_
              refine E_if_eq (pc := 115) (tgt := 131) dX6_readSign_115 (by decide) hf (fun hf => ?_) (fun hf => ?_)
              · refine E_iload_n (pc := 131) dX6_readSign_131 rfl ?_
                refine E_if_eq (pc := 132) (tgt := 148) dX6_readSign_132 (by decide) hf (fun hf => ?_) (fun hf => ?_)
                · refine E_ldc (pc := 148) (v := (100022 : Int32)) dX6_readSign_148 co_X6_114 ?_
                  exact E_iret (pc := 150) dX6_readSign_150 rfl hf
                · refine E_iload (pc := 135) dX6_readSign_135 rfl ?_
                  refine E_if_eq (pc := 137) (tgt := 145) dX6_readSign_137 (by decide) hf (fun hf => ?_) (fun hf => ?_)
                  · refine E_ldc (pc := 145) (v := (100024 : Int32)) dX6_readSign_145 co_X6_121 ?_
                    exact E_iret (pc := 147) dX6_readSign_147 rfl hf
                  · refine E_ldc (pc := 140) (v := (100023 : Int32)) dX6_readSign_140 co_X6_120 ?_
                    refine E_goto (pc := 142) (tgt := 147) dX6_readSign_142 (by decide) ?_
                    exact E_iret (pc := 147) dX6_readSign_147 rfl hf
              · refine E_iload (pc := 118) dX6_readSign_118 rfl ?_
                refine E_if_eq (pc := 120) (tgt := 128) dX6_readSign_120 (by decide) hf (fun hf => ?_) (fun hf => ?_)
                · refine E_ldc (pc := 128) (v := (100020 : Int32)) dX6_readSign_128 co_X6_119 ?_
                  exact E_iret (pc := 130) dX6_readSign_130 rfl hf
                · refine E_ldc (pc := 123) (v := (100021 : Int32)) dX6_readSign_123 co_X6_118 ?_
                  refine E_goto (pc := 125) (tgt := 130) dX6_readSign_125 (by decide) ?_
                  exact E_iret (pc := 130) dX6_readSign_130 rfl hf
            · refine E_aload_n (pc := 96) dX6_readSign_96 rfl ?_
              refine E_getR (pc := 97) dX6_readSign_97 fl_X6_37 hf (fun v28 hf => ?_)
              refine E_dup (pc := 100) dX6_readSign_100 rfl ?_
              refine E_getI (pc := 101) dX6_readSign_101 fl_X6_103 hf (fun v29 hf => ?_)
              refine E_iconst (pc := 104) (v := (1 : Int32)) dX6_readSign_104 (by decide) ?_
              refine E_iadd (pc := 105) dX6_readSign_105 ?_
              refine E_putI (pc := 106) dX6_readSign_106 (pl_X6_103 _) hf (fun μ30 hf => ?_)
              refine E_aload_n (pc := 109) dX6_readSign_109 rfl ?_
              refine E_iload_n (pc := 110) dX6_readSign_110 rfl ?_
              refine E_Vv (pc := 111) (d2 := D_X6_addPart) (ci := 6) [.int x5] dX6_readSign_111 ml_X6_115 mf_X6_addPart im_X6_addPart rfl rfl rfl (by decide) (Nat.le_of_ble_eq_true rfl) (Nat.le_of_ble_eq_true rfl) rfl (fun _ h => f_X6_addPart_ok h) hf (fun μ31 hf => ?_)
              refine E_iload_n (pc := 114) dX6_readSign_114 rfl ?_
              refine E_if_eq (pc := 115) (tgt := 131) dX6_readSign_115 (by decide) hf (fun hf => ?_) (fun hf => ?_)
              · refine E_iload_n (pc := 131) dX6_readSign_131 rfl ?_
                refine E_if_eq (pc := 132) (tgt := 148) dX6_readSign_132 (by decide) hf (fun hf => ?_) (fun hf => ?_)
                · refine E_ldc (pc := 148) (v := (100022 : Int32)) dX6_readSign_148 co_X6_114 ?_
                  exact E_iret (pc := 150) dX6_readSign_150 rfl hf
                · refine E_iload (pc := 135) dX6_readSign_135 rfl ?_
                  refine E_if_eq (pc := 137) (tgt := 145) dX6_readSign_137 (by decide) hf (fun hf => ?_) (fun hf => ?_)
                  · refine E_ldc (pc := 145) (v := (100024 : Int32)) dX6_readSign_145 co_X6_121 ?_
                    exact E_iret (pc := 147) dX6_readSign_147 rfl hf
                  · refine E_ldc (pc := 140) (v := (100023 : Int32)) dX6_readSign_140 co_X6_120 ?_
                    refine E_goto (pc := 142) (tgt := 147) dX6_readSign_142 (by decide) ?_
                    exact E_iret (pc := 147) dX6_readSign_147 rfl hf
              · refine E_iload (pc := 118) dX6_readSign_118 rfl ?_
                refine E_if_eq (pc := 120) (tgt := 128) dX6_readSign_120 (by decide) hf (fun hf => ?_) (fun hf => ?_)
                · refine E_ldc (pc := 128) (v := (100020 : Int32)) dX6_readSign_128 co_X6_119 ?_
                  exact E_iret (pc := 130) dX6_readSign_130 rfl hf
                · refine E_ldc (pc := 123) (v := (100021 : Int32)) dX6_readSign_123 co_X6_118 ?_
                  refine E_goto (pc := 125) (tgt := 130) dX6_readSign_125 (by decide) ?_
                  exact E_iret (pc := 130) dX6_readSign_130 rfl hf
        · refine E_iload (pc := 91) dX6_readSign_91 rfl ?_
          refine E_if_eq (pc := 93) (tgt := 109) dX6_readSign_93 (by decide) hf (fun hf => ?_) (fun hf => ?_)
          · refine E_aload_n (pc := 109) dX6_readSign_109 rfl ?_
            refine E_iload_n (pc := 110) dX6_readSign_110 rfl ?_
            refine E_Vv (pc := 111) (d2 := D_X6_addPart) (ci := 6) [.int x5] dX6_readSign_111 ml_X6_115 mf_X6_addPart im_X6_addPart rfl rfl rfl (by decide) (Nat.le_of_ble_eq_true rfl) (Nat.le_of_ble_eq_true rfl) rfl (fun _ h => f_X6_addPart_ok h) hf (fun μ32 hf => ?_)
            refine E_iload_n (pc := 114) dX6_readSign_114 rfl ?_
            refine E_if_eq (pc := 115) (tgt := 131) dX6_readSign_115 (by decide) hf (fun hf => ?_) (fun hf => ?_)
            · refine E_iload_n (pc := 131) dX6_readSign_131 rfl ?_
              refine E_if_eq (pc := 132) (tgt := 148) dX6_readSign_132 (by decide) hf (fun hf => ?_) (fun hf => ?_)
              · refine E_ldc (pc := 148) (v := (100022 : Int32)) dX6_readSign_148 co_X6_114 ?_
                exact E_iret (pc := 150) dX6_readSign_150 rfl hf
              · refine E_iload (pc := 135) dX6_readSign_135 rfl ?_
                refine E_if_eq (pc := 137) (tgt := 145) dX6_readSign_137 (by decide) hf (fun hf => ?_) (fun hf => ?_)
                · refine E_ldc (pc := 145) (v := (100024 : Int32)) dX6_readSign_145 co_X6_121 ?_
                  exact E_iret (pc := 147) dX6_readSign_147 rfl hf
                · refine E_ldc (pc := 140) (v := (100023 : Int32)) dX6_readSign_140 co_X6_120 ?_
                  refine E_goto (pc := 142) (tgt := 147) dX6_readSign_142 (by decide) ?_
                  exact E_iret (pc := 147) dX6_readSign_147 rfl hf
            · refine E_iload (pc := 118) dX6_readSign_118 rfl ?_
              refine E_if_eq (pc := 120) (tgt := 128) dX6_readSign_120 (by decide) hf (fun hf => ?_) (fun hf => ?_)
              · refine E_ldc (pc := 128) (v := (100020 : Int32)) dX6_readSign_128 co_X6_119 ?_
                exact E_iret (pc := 130) dX6_readSign_130 rfl hf
              · refine E_ldc (pc := 123) (v := (100021 : Int32)) dX6_readSign_123 co_X6_118 ?_
                refine E_goto (pc := 125) (tgt := 130) dX6_readSign_125 (by decide) ?_
                exact E_iret (pc := 130) dX6_readSign_130 rfl hf
          · refine E_aload_n (pc := 96) dX6_readSign_96 rfl ?_
            refine E_getR (pc := 97) dX6_readSign_97 fl_X6_37 hf (fun v33 hf => ?_)
            refine E_dup (pc := 100) dX6_readSign_100 rfl ?_
            refine E_getI (pc := 101) dX6_readSign_101 fl_X6_103 hf (fun v34 hf => ?_)
            refine E_iconst (pc := 104) (v := (1 : Int32)) dX6_readSign_104 (by decide) ?_
            refine E_iadd (pc := 105) dX6_readSign_105 ?_
            refine E_putI (pc := 106) dX6_readSign_106 (pl_X6_103 _) hf (fun μ35 hf => ?_)
            refine E_aload_n (pc := 109) dX6_readSign_109 rfl ?_
            refine E_iload_n (pc := 110) dX6_readSign_110 rfl ?_
            refine E_Vv (pc := 111) (d2 := D_X6_addPart) (ci := 6) [.int x5] dX6_readSign_111 ml_X6_115 mf_X6_addPart im_X6_addPart rfl rfl rfl (by decide) (Nat.le_of_ble_eq_true rfl) (Nat.le_of_ble_eq_true rfl) rfl (fun _ h => f_X6_addPart_ok h) hf (fun μ36 hf => ?_)
            refine E_iload_n (pc := 114) dX6_readSign_114 rfl ?_
            refine E_if_eq (pc := 115) (tgt := 131) dX6_readSign_115 (by decide) hf (fun hf => ?_) (fun hf => ?_)
            · refine E_iload_n (pc := 131) dX6_readSign_131 rfl ?_
              refine E_if_eq (pc := 132) (tgt := 148) dX6_readSign_132 (by decide) hf (fun hf => ?_) (fun hf => ?_)
              · refine E_ldc (pc := 148) (v := (100022 : Int32)) dX6_readSign_148 co_X6_114 ?_
                exact E_iret (pc := 150) dX6_readSign_150 rfl hf
              · refine E_iload (pc := 135) dX6_readSign_135 rfl ?_
                refine E_if_eq (pc := 137) (tgt := 145) dX6_readSign_137 (by decide) hf (fun hf => ?_) (fun hf => ?_)
                · refine E_ldc (pc := 145) (v := (100024 : Int32)) dX6_readSign_145 co_X6_121 ?_
                  exact E_iret (pc := 147) dX6_readSign_147 rfl hf
                · refine E_ldc (pc := 140) (v := (100023 : Int32)) dX6_readSign_140 co_X6_120 ?_
                  refine E_goto (pc := 142) (tgt := 147) dX6_readSign_142 (by decide) ?_
                  exact E_iret (pc := 147) dX6_readSign_147 rfl hf
            · refine E_iload (pc := 118) dX6_readSign_118 rfl ?_
              refine E_if_eq (pc := 120) (tgt := 128) dX6_readSign_120 (by decide) hf (fun hf => ?_) (fun hf => ?_)
              · refine E_ldc (pc := 128) (v := (100020 : Int32)) dX6_readSign_128 co_X6_119 ?_
                exact E_iret (pc := 130) dX6_readSign_130 rfl hf
              · refine E_ldc (pc := 123) (v := (100021 : Int32)) dX6_readSign_123 co_X6_118 ?_
                refine E_goto (pc := 125) (tgt := 130) dX6_readSign_125 (by decide) ?_
                exact E_iret (pc := 130) dX6_readSign_130 rfl hf
      · refine E_iconst (pc := 63) (v := (0 : Int32)) dX6_readSign_63 (by decide) ?_
        refine E_istore (pc := 64) (ls' := fun x37 => [(4, .int x37), (3, .int x13), (2, .int x9), (1, .int x5), (0, .ref a1)]) dX6_readSign_64 (by decide) (fun _ => rfl) hf (fun x37 hf => ?_)
        refine E_iload_n (pc := 66) dX6_readSign_66 rfl ?_
        refine E_if_ne (pc := 67) (tgt := 91) dX6_readSign_67 (by decide) hf (fun hf => ?_) (fun hf => ?_)
        · refine E_iload_n (pc := 70) dX6_readSign_70 rfl ?_
          refine E_if_ne (pc := 71) (tgt := 91) dX6_readSign_71 (by decide) hf (fun hf => ?_) (fun hf => ?_)
          · refine E_iload (pc := 74) dX6_readSign_74 rfl ?_
            refine E_if_ne (pc := 76) (tgt := 91) dX6_readSign_76 (by decide) hf (fun hf => ?_) (fun hf => ?_)
            · refine E_aload_n (pc := 79) dX6_readSign_79 rfl ?_
              refine E_getR (pc := 80) dX6_readSign_80 fl_X6_37 hf (fun v38 hf => ?_)
              refine E_iload_n (pc := 83) dX6_readSign_83 rfl ?_
              refine E_iconst (pc := 84) (v := (0 : Int32)) dX6_readSign_84 (by decide) ?_
              refine E_Vv (pc := 85) (d2 := D_X9_fail) (ci := 9) [.int x5, .int (0 : Int32)] dX6_readSign_85 ml_X6_66 mf_X9_fail im_X9_fail rfl rfl rfl (by decide) (Nat.le_of_ble_eq_true rfl) (Nat.le_of_ble_eq_true rfl) rfl (fun _ h => f_X9_fail_ok h) hf (fun μ39 hf => ?_)
              refine E_ldc (pc := 88) (v := (100022 : Int32)) dX6_readSign_88 co_X6_114 ?_
              exact E_iret (pc := 90) dX6_readSign_90 rfl hf
            · refine E_iload (pc := 91) dX6_readSign_91 rfl ?_
              refine E_if_eq (pc := 93) (tgt := 109) dX6_readSign_93 (by decide) hf (fun hf => ?_) (fun hf => ?_)
              · refine E_aload_n (pc := 109) dX6_readSign_109 rfl ?_
                refine E_iload_n (pc := 110) dX6_readSign_110 rfl ?_
                refine E_Vv (pc := 111) (d2 := D_X6_addPart) (ci := 6) [.int x5] dX6_readSign_111 ml_X6_115 mf_X6_addPart im_X6_addPart rfl rfl rfl (by decide) (Nat.le_of_ble_eq_true rfl) (Nat.le_of_ble_eq_true rfl) rfl (fun _ h => f_X6_addPart_ok h) hf (fun μ40 hf => ?_)
                refine E_iload_n (pc := 114) dX6_readSign_114 rfl ?_
                refine E_if_eq (pc := 115) (tgt := 131) dX6_readSign_115 (by decide) hf (fun hf => ?_) (fun hf => ?_)
                · refine E_iload_n (pc := 131) dX6_readSign_131 rfl ?_
                  refine E_if_eq (pc := 132) (tgt := 148) dX6_readSign_132 (by decide) hf (fun hf => ?_) (fun hf => ?_)
                  · refine E_ldc (pc := 148) (v := (100022 : Int32)) dX6_readSign_148 co_X6_114 ?_
                    exact E_iret (pc := 150) dX6_readSign_150 rfl hf
                  · refine E_iload (pc := 135) dX6_readSign_135 rfl ?_
                    refine E_if_eq (pc := 137) (tgt := 145) dX6_readSign_137 (by decide) hf (fun hf => ?_) (fun hf => ?_)
                    · refine E_ldc (pc := 145) (v := (100024 : Int32)) dX6_readSign_145 co_X6_121 ?_
                      exact E_iret (pc := 147) dX6_readSign_147 rfl hf
                    · refine E_ldc (pc := 140) (v := (100023 : Int32)) dX6_readSign_140 co_X6_120 ?_
                      refine E_goto (pc := 142) (tgt := 147) dX6_readSign_142 (by decide) ?_
                      exact E_iret (pc := 147) dX6_readSign_147 rfl hf
                · refine E_iload (pc := 118) dX6_readSign_118 rfl ?_
                  refine E_if_eq (pc := 120) (tgt := 128) dX6_readSign_120 (by decide) hf (fun hf => ?_) (fun hf => ?_)
                  · refine E_ldc (pc := 128) (v := (100020 : Int32)) dX6_readSign_128 co_X6_119 ?_
                    exact E_iret (pc := 130) dX6_readSign_130 rfl hf
                  · refine E_ldc (pc := 123) (v := (100021 : Int32)) dX6_readSign_123 co_X6_118 ?_
                    refine E_goto (pc := 125) (tgt := 130) dX6_readSign_125 (by decide) ?_
                    exact E_iret (pc := 130) dX6_readSign_130 rfl hf
              · refine E_aload_n (pc := 96) dX6_readSign_96 rfl ?_
                refine E_getR (pc := 97) dX6_readSign_97 fl_X6_37 hf (fun v41 hf => ?_)
                refine E_dup (pc := 100) dX6_readSign_100 rfl ?_
                refine E_getI (pc := 101) dX6_readSign_101 fl_X6_103 hf (fun v42 hf => ?_)
                refine E_iconst (pc := 104) (v := (1 : Int32)) dX6_readSign_104 (by decide) ?_
                refine E_iadd (pc := 105) dX6_readSign_105 ?_
                refine E_putI (pc := 106) dX6_readSign_106 (pl_X6_103 _) hf (fun μ43 hf => ?_)
                refine E_aload_n (pc := 109) dX6_readSign_109 rfl ?_
                refine E_iload_n (pc := 110) dX6_readSign_110 rfl ?_
                refine E_Vv (pc := 111) (d2 := D_X6_addPart) (ci := 6) [.int x5] dX6_readSign_111 ml_X6_115 mf_X6_addPart im_X6_addPart rfl rfl rfl (by decide) (Nat.le_of_ble_eq_true rfl) (Nat.le_of_ble_eq_true rfl) rfl (fun _ h => f_X6_addPart_ok h) hf (fun μ44 hf => ?_)
                refine E_iload_n (pc := 114) dX6_readSign_114 rfl ?_
                refine E_if_eq (pc := 115) (tgt := 131) dX6_readSign_115 (by decide) hf (fun hf => ?_) (fun hf => ?_)
                · refine E_iload_n (pc := 131) dX6_readSign_131 rfl ?_
                  refine E_if_eq (pc := 132) (tgt := 148) dX6_readSign_132 (by decide) hf (fun hf => ?_) (fun hf => ?_)
                  · refine E_ldc (pc := 148) (v := (100022 : Int32)) dX6_readSign_148 co_X6_114 ?_
                    exact E_iret (pc := 150) dX6_readSign_150 rfl hf
                  · refine E_iload (pc := 135) dX6_readSign_135 rfl ?_
                    refine E_if_eq (pc := 137) (tgt := 145) dX6_readSign_137 (by decide) hf (fun hf => ?_) (fun hf => ?_)
                    · refine E_ldc (pc := 145) (v := (100024 : Int32)) dX6_readSign_145 co_X6_121 ?_
                      exact E_iret (pc := 147) dX6_readSign_147 rfl hf
                    · refine E_ldc (pc := 140) (v := (100023 : Int32)) dX6_readSign_140 co_X6_120 ?_
                      refine E_goto (pc := 142) (tgt := 147) dX6_readSign_142 (by decide) ?_
                      exact E_iret (pc := 147) dX6_readSign_147 rfl hf
                · refine E_iload (pc := 118) dX6_readSign_118 rfl ?_
                  refine E_if_eq (pc := 120) (tgt := 128) dX6_readSign_120 (by decide) hf (fun hf => ?_) (fun hf => ?_)
                  · refine E_ldc (pc := 128) (v := (100020 : Int32)) dX6_readSign_128 co_X6_119 ?_
                    exact E_iret (pc := 130) dX6_readSign_130 rfl hf
                  · refine E_ldc (pc := 123) (v := (100021 : Int32)) dX6_readSign_123 co_X6_118 ?_
                    refine E_goto (pc := 125) (tgt := 130) dX6_readSign_125 (by decide) ?_
                    exact E_iret (pc := 130) dX6_readSign_130 rfl hf
          · refine E_iload (pc := 91) dX6_readSign_91 rfl ?_
            refine E_if_eq (pc := 93) (tgt := 109) dX6_readSign_93 (by decide) hf (fun hf => ?_) (fun hf => ?_)
            · refine E_aload_n (pc := 109) dX6_readSign_109 rfl ?_
              refine E_iload_n (pc := 110) dX6_readSign_110 rfl ?_
              refine E_Vv (pc := 111) (d2 := D_X6_addPart) (ci := 6) [.int x5] dX6_readSign_111 ml_X6_115 mf_X6_addPart im_X6_addPart rfl rfl rfl (by decide) (Nat.le_of_ble_eq_true rfl) (Nat.le_of_ble_eq_true rfl) rfl (fun _ h => f_X6_addPart_ok h) hf (fun μ45 hf => ?_)
              refine E_iload_n (pc := 114) dX6_readSign_114 rfl ?_
              refine E_if_eq (pc := 115) (tgt := 131) dX6_readSign_115 (by decide) hf (fun hf => ?_) (fun hf => ?_)
              · refine E_iload_n (pc := 131) dX6_readSign_131 rfl ?_
                refine E_if_eq (pc := 132) (tgt := 148) dX6_readSign_132 (by decide) hf (fun hf => ?_) (fun hf => ?_)
                · refine E_ldc (pc := 148) (v := (100022 : Int32)) dX6_readSign_148 co_X6_114 ?_
                  exact E_iret (pc := 150) dX6_readSign_150 rfl hf
                · refine E_iload (pc := 135) dX6_readSign_135 rfl ?_
                  refine E_if_eq (pc := 137) (tgt := 145) dX6_readSign_137 (by decide) hf (fun hf => ?_) (fun hf => ?_)
                  · refine E_ldc (pc := 145) (v := (100024 : Int32)) dX6_readSign_145 co_X6_121 ?_
                    exact E_iret (pc := 147) dX6_readSign_147 rfl hf
                  · refine E_ldc (pc := 140) (v := (100023 : Int32)) dX6_readSign_140 co_X6_120 ?_
                    refine E_goto (pc := 142) (tgt := 147) dX6_readSign_142 (by decide) ?_
                    exact E_iret (pc := 147) dX6_readSign_147 rfl hf
              · refine E_iload (pc := 118) dX6_readSign_118 rfl ?_
                refine E_if_eq (pc := 120) (tgt := 128) dX6_readSign_120 (by decide) hf (fun hf => ?_) (fun hf => ?_)
                · refine E_ldc (pc := 128) (v := (100020 : Int32)) dX6_readSign_128 co_X6_119 ?_
                  exact E_iret (pc := 130) dX6_readSign_130 rfl hf
                · refine E_ldc (pc := 123) (v := (100021 : Int32)) dX6_readSign_123 co_X6_118 ?_
                  refine E_goto (pc := 125) (tgt := 130) dX6_readSign_125 (by decide) ?_
                  exact E_iret (pc := 130) dX6_readSign_130 rfl hf
            · refine E_aload_n (pc := 96) dX6_readSign_96 rfl ?_
              refine E_getR (pc := 97) dX6_readSign_97 fl_X6_37 hf (fun v46 hf => ?_)
              refine E_dup (pc := 100) dX6_readSign_100 rfl ?_
              refine E_getI (pc := 101) dX6_readSign_101 fl_X6_103 hf (fun v47 hf => ?_)
              refine E_iconst (pc := 104) (v := (1 : Int32)) dX6_readSign_104 (by decide) ?_
              refine E_iadd (pc := 105) dX6_readSign_105 ?_
              refine E_putI (pc := 106) dX6_readSign_106 (pl_X6_103 _) hf (fun μ48 hf => ?_)
              refine E_aload_n (pc := 109) dX6_readSign_109 rfl ?_
              refine E_iload_n (pc := 110) dX6_readSign_110 rfl ?_
              refine E_Vv (pc := 111) (d2 := D_X6_addPart) (ci := 6) [.int x5] dX6_readSign_111 ml_X6_115 mf_X6_addPart im_X6_addPart rfl rfl rfl (by decide) (Nat.le_of_ble_eq_true rfl) (Nat.le_of_ble_eq_true rfl) rfl (fun _ h => f_X6_addPart_ok h) hf (fun μ49 hf => ?_)
              refine E_iload_n (pc := 114) dX6_readSign_114 rfl ?_
              refine E_if_eq (pc := 115) (tgt := 131) dX6_readSign_115 (by decide) hf (fun hf => ?_) (fun hf => ?_)
              · refine E_iload_n (pc := 131) dX6_readSign_131 rfl ?_
                refine E_if_eq (pc := 132) (tgt := 148) dX6_readSign_132 (by decide) hf (fun hf => ?_) (fun hf => ?_)
                · refine E_ldc (pc := 148) (v := (100022 : Int32)) dX6_readSign_148 co_X6_114 ?_
                  exact E_iret (pc := 150) dX6_readSign_150 rfl hf
                · refine E_iload (pc := 135) dX6_readSign_135 rfl ?_
                  refine E_if_eq (pc := 137) (tgt := 145) dX6_readSign_137 (by decide) hf (fun hf => ?_) (fun hf => ?_)
                  · refine E_ldc (pc := 145) (v := (100024 : Int32)) dX6_readSign_145 co_X6_121 ?_
                    exact E_iret (pc := 147) dX6_readSign_147 rfl hf
                  · refine E_ldc (pc := 140) (v := (100023 : Int32)) dX6_readSign_140 co_X6_120 ?_
                    refine E_goto (pc := 142) (tgt := 147) dX6_readSign_142 (by decide) ?_
                    exact E_iret (pc := 147) dX6_readSign_147 rfl hf
              · refine E_iload (pc := 118) dX6_readSign_118 rfl ?_
                refine E_if_eq (pc := 120) (tgt := 128) dX6_readSign_120 (by decide) hf (fun hf => ?_) (fun hf => ?_)
                · refine E_ldc (pc := 128) (v := (100020 : Int32)) dX6_readSign_128 co_X6_119 ?_
                  exact E_iret (pc := 130) dX6_readSign_130 rfl hf
                · refine E_ldc (pc := 123) (v := (100021 : Int32)) dX6_readSign_123 co_X6_118 ?_
                  refine E_goto (pc := 125) (tgt := 130) dX6_readSign_125 (by decide) ?_
                  exact E_iret (pc := 130) dX6_readSign_130 rfl hf
        · refine E_iload (pc := 91) dX6_readSign_91 rfl ?_
          refine E_if_eq (pc := 93) (tgt := 109) dX6_readSign_93 (by decide) hf (fun hf => ?_) (fun hf => ?_)
          · refine E_aload_n (pc := 109) dX6_readSign_109 rfl ?_
            refine E_iload_n (pc := 110) dX6_readSign_110 rfl ?_
            refine E_Vv (pc := 111) (d2 := D_X6_addPart) (ci := 6) [.int x5] dX6_readSign_111 ml_X6_115 mf_X6_addPart im_X6_addPart rfl rfl rfl (by decide) (Nat.le_of_ble_eq_true rfl) (Nat.le_of_ble_eq_true rfl) rfl (fun _ h => f_X6_addPart_ok h) hf (fun μ50 hf => ?_)
            refine E_iload_n (pc := 114) dX6_readSign_114 rfl ?_
            refine E_if_eq (pc := 115) (tgt := 131) dX6_readSign_115 (by decide) hf (fun hf => ?_) (fun hf => ?_)
            · refine E_iload_n (pc := 131) dX6_readSign_131 rfl ?_
              refine E_if_eq (pc := 132) (tgt := 148) dX6_readSign_132 (by decide) hf (fun hf => ?_) (fun hf => ?_)
              · refine E_ldc (pc := 148) (v := (100022 : Int32)) dX6_readSign_148 co_X6_114 ?_
                exact E_iret (pc := 150) dX6_readSign_150 rfl hf
              · refine E_iload (pc := 135) dX6_readSign_135 rfl ?_
                refine E_if_eq (pc := 137) (tgt := 145) dX6_readSign_137 (by decide) hf (fun hf => ?_) (fun hf => ?_)
                · refine E_ldc (pc := 145) (v := (100024 : Int32)) dX6_readSign_145 co_X6_121 ?_
                  exact E_iret (pc := 147) dX6_readSign_147 rfl hf
                · refine E_ldc (pc := 140) (v := (100023 : Int32)) dX6_readSign_140 co_X6_120 ?_
                  refine E_goto (pc := 142) (tgt := 147) dX6_readSign_142 (by decide) ?_
                  exact E_iret (pc := 147) dX6_readSign_147 rfl hf
            · refine E_iload (pc := 118) dX6_readSign_118 rfl ?_
              refine E_if_eq (pc := 120) (tgt := 128) dX6_readSign_120 (by decide) hf (fun hf => ?_) (fun hf => ?_)
              · refine E_ldc (pc := 128) (v := (100020 : Int32)) dX6_readSign_128 co_X6_119 ?_
                exact E_iret (pc := 130) dX6_readSign_130 rfl hf
              · refine E_ldc (pc := 123) (v := (100021 : Int32)) dX6_readSign_123 co_X6_118 ?_
                refine E_goto (pc := 125) (tgt := 130) dX6_readSign_125 (by decide) ?_
                exact E_iret (pc := 130) dX6_readSign_130 rfl hf
          · refine E_aload_n (pc := 96) dX6_readSign_96 rfl ?_
            refine E_getR (pc := 97) dX6_readSign_97 fl_X6_37 hf (fun v51 hf => ?_)
            refine E_dup (pc := 100) dX6_readSign_100 rfl ?_
            refine E_getI (pc := 101) dX6_readSign_101 fl_X6_103 hf (fun v52 hf => ?_)
            refine E_iconst (pc := 104) (v := (1 : Int32)) dX6_readSign_104 (by decide) ?_
            refine E_iadd (pc := 105) dX6_readSign_105 ?_
            refine E_putI (pc := 106) dX6_readSign_106 (pl_X6_103 _) hf (fun μ53 hf => ?_)
            refine E_aload_n (pc := 109) dX6_readSign_109 rfl ?_
            refine E_iload_n (pc := 110) dX6_readSign_110 rfl ?_
            refine E_Vv (pc := 111) (d2 := D_X6_addPart) (ci := 6) [.int x5] dX6_readSign_111 ml_X6_115 mf_X6_addPart im_X6_addPart rfl rfl rfl (by decide) (Nat.le_of_ble_eq_true rfl) (Nat.le_of_ble_eq_true rfl) rfl (fun _ h => f_X6_addPart_ok h) hf (fun μ54 hf => ?_)
            refine E_iload_n (pc := 114) dX6_readSign_114 rfl ?_
            refine E_if_eq (pc := 115) (tgt := 131) dX6_readSign_115 (by decide) hf (fun hf => ?_) (fun hf => ?_)
            · refine E_iload_n (pc := 131) dX6_readSign_131 rfl ?_
              refine E_if_eq (pc := 132) (tgt := 148) dX6_readSign_132 (by decide) hf (fun hf => ?_) (fun hf => ?_)
              · refine E_ldc (pc := 148) (v := (100022 : Int32)) dX6_readSign_148 co_X6_114 ?_
                exact E_iret (pc := 150) dX6_readSign_150 rfl hf
              · refine E_iload (pc := 135) dX6_readSign_135 rfl ?_
                refine E_if_eq (pc := 137) (tgt := 145) dX6_readSign_137 (by decide) hf (fun hf => ?_) (fun hf => ?_)
                · refine E_ldc (pc := 145) (v := (100024 : Int32)) dX6_readSign_145 co_X6_121 ?_
                  exact E_iret (pc := 147) dX6_readSign_147 rfl hf
                · refine E_ldc (pc := 140) (v := (100023 : Int32)) dX6_readSign_140 co_X6_120 ?_
                  refine E_goto (pc := 142) (tgt := 147) dX6_readSign_142 (by decide) ?_
                  exact E_iret (pc := 147) dX6_readSign_147 rfl hf
            · refine E_iload (pc := 118) dX6_readSign_118 rfl ?_
              refine E_if_eq (pc := 120) (tgt := 128) dX6_readSign_120 (by decide) hf (fun hf => ?_) (fun hf => ?_)
              · refine E_ldc (pc := 128) (v := (100020 : Int32)) dX6_readSign_128 co_X6_119 ?_
                exact E_iret (pc := 130) dX6_readSign_130 rfl hf
              · refine E_ldc (pc := 123) (v := (100021 : Int32)) dX6_readSign_123 co_X6_118 ?_
                refine E_goto (pc := 125) (tgt := 130) dX6_readSign_125 (by decide) ?_
                exact E_iret (pc := 130) dX6_readSign_130 rfl hf
    · refine E_iconst (pc := 34) (v := (1 : Int32)) dX6_readSign_34 (by decide) ?_
      refine E_goto (pc := 35) (tgt := 39) dX6_readSign_35 (by decide) ?_
      refine E_istore_n (pc := 39) (ls' := fun x55 => [(3, .int x55), (2, .int x9), (1, .int x5), (0, .ref a1)]) dX6_readSign_39 (by decide) (fun _ => rfl) hf (fun x55 hf => ?_)
      refine E_aload_n (pc := 40) dX6_readSign_40 rfl ?_
      refine E_getR (pc := 41) dX6_readSign_41 fl_X6_37 hf (fun v56 hf => ?_)
      refine E_aload_n (pc := 44) dX6_readSign_44 rfl ?_
      refine E_getR (pc := 45) dX6_readSign_45 fl_X6_37 hf (fun v57 hf => ?_)
      refine E_getI (pc := 48) dX6_readSign_48 fl_X6_103 hf (fun v58 hf => ?_)
      refine E_Vi (pc := 51) (d2 := D_X9_byteAt) (ci := 9) [.int v58] dX6_readSign_51 ml_X6_110 mf_X9_byteAt im_X9_byteAt rfl rfl rfl (by decide) (Nat.le_of_ble_eq_true rfl) (Nat.le_of_ble_eq_true rfl) rfl (fun _ _ h => f_X9_byteAt_ok h) hf (fun v60 μ59 hf => ?_)
      refine E_bipush (pc := 54) (v := (61 : Int32)) dX6_readSign_54 (by decide) ?_
      refine E_icmp_ne (pc := 56) (tgt := 63) dX6_readSign_56 (by decide) hf (fun hf => ?_) (fun hf => ?_)
      · refine E_iconst (pc := 59) (v := (1 : Int32)) dX6_readSign_59 (by decide) ?_
        refine E_goto (pc := 60) (tgt := 64) dX6_readSign_60 (by decide) ?_
        refine E_istore (pc := 64) (ls' := fun x61 => [(4, .int x61), (3, .int x55), (2, .int x9), (1, .int x5), (0, .ref a1)]) dX6_readSign_64 (by decide) (fun _ => rfl) hf (fun x61 hf => ?_)
        refine E_iload_n (pc := 66) dX6_readSign_66 rfl ?_
        refine E_if_ne (pc := 67) (tgt := 91) dX6_readSign_67 (by decide) hf (fun hf => ?_) (fun hf => ?_)
        · refine E_iload_n (pc := 70) dX6_readSign_70 rfl ?_
          refine E_if_ne (pc := 71) (tgt := 91) dX6_readSign_71 (by decide) hf (fun hf => ?_) (fun hf => ?_)
          · refine E_iload (pc := 74) dX6_readSign_74 rfl ?_
            refine E_if_ne (pc := 76) (tgt := 91) dX6_readSign_76 (by decide) hf (fun hf => ?_) (fun hf => ?_)
            · refine E_aload_n (pc := 79) dX6_readSign_79 rfl ?_
              refine E_getR (pc := 80) dX6_readSign_80 fl_X6_37 hf (fun v62 hf => ?_)
              refine E_iload_n (pc := 83) dX6_readSign_83 rfl ?_
              refine E_iconst (pc := 84) (v := (0 : Int32)) dX6_readSign_84 (by decide) ?_
              refine E_Vv (pc := 85) (d2 := D_X9_fail) (ci := 9) [.int x5, .int (0 : Int32)] dX6_readSign_85 ml_X6_66 mf_X9_fail im_X9_fail rfl rfl rfl (by decide) (Nat.le_of_ble_eq_true rfl) (Nat.le_of_ble_eq_true rfl) rfl (fun _ h => f_X9_fail_ok h) hf (fun μ63 hf => ?_)
              refine E_ldc (pc := 88) (v := (100022 : Int32)) dX6_readSign_88 co_X6_114 ?_
              exact E_iret (pc := 90) dX6_readSign_90 rfl hf
            · refine E_iload (pc := 91) dX6_readSign_91 rfl ?_
              refine E_if_eq (pc := 93) (tgt := 109) dX6_readSign_93 (by decide) hf (fun hf => ?_) (fun hf => ?_)
              · refine E_aload_n (pc := 109) dX6_readSign_109 rfl ?_
                refine E_iload_n (pc := 110) dX6_readSign_110 rfl ?_
                refine E_Vv (pc := 111) (d2 := D_X6_addPart) (ci := 6) [.int x5] dX6_readSign_111 ml_X6_115 mf_X6_addPart im_X6_addPart rfl rfl rfl (by decide) (Nat.le_of_ble_eq_true rfl) (Nat.le_of_ble_eq_true rfl) rfl (fun _ h => f_X6_addPart_ok h) hf (fun μ64 hf => ?_)
                refine E_iload_n (pc := 114) dX6_readSign_114 rfl ?_
                refine E_if_eq (pc := 115) (tgt := 131) dX6_readSign_115 (by decide) hf (fun hf => ?_) (fun hf => ?_)
                · refine E_iload_n (pc := 131) dX6_readSign_131 rfl ?_
                  refine E_if_eq (pc := 132) (tgt := 148) dX6_readSign_132 (by decide) hf (fun hf => ?_) (fun hf => ?_)
                  · refine E_ldc (pc := 148) (v := (100022 : Int32)) dX6_readSign_148 co_X6_114 ?_
                    exact E_iret (pc := 150) dX6_readSign_150 rfl hf
                  · refine E_iload (pc := 135) dX6_readSign_135 rfl ?_
                    refine E_if_eq (pc := 137) (tgt := 145) dX6_readSign_137 (by decide) hf (fun hf => ?_) (fun hf => ?_)
                    · refine E_ldc (pc := 145) (v := (100024 : Int32)) dX6_readSign_145 co_X6_121 ?_
                      exact E_iret (pc := 147) dX6_readSign_147 rfl hf
                    · refine E_ldc (pc := 140) (v := (100023 : Int32)) dX6_readSign_140 co_X6_120 ?_
                      refine E_goto (pc := 142) (tgt := 147) dX6_readSign_142 (by decide) ?_
                      exact E_iret (pc := 147) dX6_readSign_147 rfl hf
                · refine E_iload (pc := 118) dX6_readSign_118 rfl ?_
                  refine E_if_eq (pc := 120) (tgt := 128) dX6_readSign_120 (by decide) hf (fun hf => ?_) (fun hf => ?_)
                  · refine E_ldc (pc := 128) (v := (100020 : Int32)) dX6_readSign_128 co_X6_119 ?_
                    exact E_iret (pc := 130) dX6_readSign_130 rfl hf
                  · refine E_ldc (pc := 123) (v := (100021 : Int32)) dX6_readSign_123 co_X6_118 ?_
                    refine E_goto (pc := 125) (tgt := 130) dX6_readSign_125 (by decide) ?_
                    exact E_iret (pc := 130) dX6_readSign_130 rfl hf
              · refine E_aload_n (pc := 96) dX6_readSign_96 rfl ?_
                refine E_getR (pc := 97) dX6_readSign_97 fl_X6_37 hf (fun v65 hf => ?_)
                refine E_dup (pc := 100) dX6_readSign_100 rfl ?_
                refine E_getI (pc := 101) dX6_readSign_101 fl_X6_103 hf (fun v66 hf => ?_)
                refine E_iconst (pc := 104) (v := (1 : Int32)) dX6_readSign_104 (by decide) ?_
                refine E_iadd (pc := 105) dX6_readSign_105 ?_
                refine E_putI (pc := 106) dX6_readSign_106 (pl_X6_103 _) hf (fun μ67 hf => ?_)
                refine E_aload_n (pc := 109) dX6_readSign_109 rfl ?_
                refine E_iload_n (pc := 110) dX6_readSign_110 rfl ?_
                refine E_Vv (pc := 111) (d2 := D_X6_addPart) (ci := 6) [.int x5] dX6_readSign_111 ml_X6_115 mf_X6_addPart im_X6_addPart rfl rfl rfl (by decide) (Nat.le_of_ble_eq_true rfl) (Nat.le_of_ble_eq_true rfl) rfl (fun _ h => f_X6_addPart_ok h) hf (fun μ68 hf => ?_)
                refine E_iload_n (pc := 114) dX6_readSign_114 rfl ?_
                refine E_if_eq (pc := 115) (tgt := 131) dX6_readSign_115 (by decide) hf (fun hf => ?_) (fun hf => ?_)
                · refine E_iload_n (pc := 131) dX6_readSign_131 rfl ?_
                  refine E_if_eq (pc := 132) (tgt := 148) dX6_readSign_132 (by decide) hf (fun hf => ?_) (fun hf => ?_)
                  · refine E_ldc (pc := 148) (v := (100022 : Int32)) dX6_readSign_148 co_X6_114 ?_
                    exact E_iret (pc := 150) dX6_readSign_150 rfl hf
                  · refine E_iload (pc := 135) dX6_readSign_135 rfl ?_
                    refine E_if_eq (pc := 137) (tgt := 145) dX6_readSign_137 (by decide) hf (fun hf => ?_) (fun hf => ?_)
                    · refine E_ldc (pc := 145) (v := (100024 : Int32)) dX6_readSign_145 co_X6_121 ?_
                      exact E_iret (pc := 147) dX6_readSign_147 rfl hf
                    · refine E_ldc (pc := 140) (v := (100023 : Int32)) dX6_readSign_140 co_X6_120 ?_
                      refine E_goto (pc := 142) (tgt := 147) dX6_readSign_142 (by decide) ?_
                      exact E_iret (pc := 147) dX6_readSign_147 rfl hf
                · refine E_iload (pc := 118) dX6_readSign_118 rfl ?_
                  refine E_if_eq (pc := 120) (tgt := 128) dX6_readSign_120 (by decide) hf (fun hf => ?_) (fun hf => ?_)
                  · refine E_ldc (pc := 128) (v := (100020 : Int32)) dX6_readSign_128 co_X6_119 ?_
                    exact E_iret (pc := 130) dX6_readSign_130 rfl hf
                  · refine E_ldc (pc := 123) (v := (100021 : Int32)) dX6_readSign_123 co_X6_118 ?_
                    refine E_goto (pc := 125) (tgt := 130) dX6_readSign_125 (by decide) ?_
                    exact E_iret (pc := 130) dX6_readSign_130 rfl hf
          · refine E_iload (pc := 91) dX6_readSign_91 rfl ?_
            refine E_if_eq (pc := 93) (tgt := 109) dX6_readSign_93 (by decide) hf (fun hf => ?_) (fun hf => ?_)
            · refine E_aload_n (pc := 109) dX6_readSign_109 rfl ?_
              refine E_iload_n (pc := 110) dX6_readSign_110 rfl ?_
              refine E_Vv (pc := 111) (d2 := D_X6_addPart) (ci := 6) [.int x5] dX6_readSign_111 ml_X6_115 mf_X6_addPart im_X6_addPart rfl rfl rfl (by decide) (Nat.le_of_ble_eq_true rfl) (Nat.le_of_ble_eq_true rfl) rfl (fun _ h => f_X6_addPart_ok h) hf (fun μ69 hf => ?_)
              refine E_iload_n (pc := 114) dX6_readSign_114 rfl ?_
              refine E_if_eq (pc := 115) (tgt := 131) dX6_readSign_115 (by decide) hf (fun hf => ?_) (fun hf => ?_)
              · refine E_iload_n (pc := 131) dX6_readSign_131 rfl ?_
                refine E_if_eq (pc := 132) (tgt := 148) dX6_readSign_132 (by decide) hf (fun hf => ?_) (fun hf => ?_)
                · refine E_ldc (pc := 148) (v := (100022 : Int32)) dX6_readSign_148 co_X6_114 ?_
                  exact E_iret (pc := 150) dX6_readSign_150 rfl hf
                · refine E_iload (pc := 135) dX6_readSign_135 rfl ?_
                  refine E_if_eq (pc := 137) (tgt := 145) dX6_readSign_137 (by decide) hf (fun hf => ?_) (fun hf => ?_)
                  · refine E_ldc (pc := 145) (v := (100024 : Int32)) dX6_readSign_145 co_X6_121 ?_
                    exact E_iret (pc := 147) dX6_readSign_147 rfl hf
                  · refine E_ldc (pc := 140) (v := (100023 : Int32)) dX6_readSign_140 co_X6_120 ?_
                    refine E_goto (pc := 142) (tgt := 147) dX6_readSign_142 (by decide) ?_
                    exact E_iret (pc := 147) dX6_readSign_147 rfl hf
              · refine E_iload (pc := 118) dX6_readSign_118 rfl ?_
                refine E_if_eq (pc := 120) (tgt := 128) dX6_readSign_120 (by decide) hf (fun hf => ?_) (fun hf => ?_)
                · refine E_ldc (pc := 128) (v := (100020 : Int32)) dX6_readSign_128 co_X6_119 ?_
                  exact E_iret (pc := 130) dX6_readSign_130 rfl hf
                · refine E_ldc (pc := 123) (v := (100021 : Int32)) dX6_readSign_123 co_X6_118 ?_
                  refine E_goto (pc := 125) (tgt := 130) dX6_readSign_125 (by decide) ?_
                  exact E_iret (pc := 130) dX6_readSign_130 rfl hf
            · refine E_aload_n (pc := 96) dX6_readSign_96 rfl ?_
              refine E_getR (pc := 97) dX6_readSign_97 fl_X6_37 hf (fun v70 hf => ?_)
              refine E_dup (pc := 100) dX6_readSign_100 rfl ?_
              refine E_getI (pc := 101) dX6_readSign_101 fl_X6_103 hf (fun v71 hf => ?_)
              refine E_iconst (pc := 104) (v := (1 : Int32)) dX6_readSign_104 (by decide) ?_
              refine E_iadd (pc := 105) dX6_readSign_105 ?_
              refine E_putI (pc := 106) dX6_readSign_106 (pl_X6_103 _) hf (fun μ72 hf => ?_)
              refine E_aload_n (pc := 109) dX6_readSign_109 rfl ?_
              refine E_iload_n (pc := 110) dX6_readSign_110 rfl ?_
              refine E_Vv (pc := 111) (d2 := D_X6_addPart) (ci := 6) [.int x5] dX6_readSign_111 ml_X6_115 mf_X6_addPart im_X6_addPart rfl rfl rfl (by decide) (Nat.le_of_ble_eq_true rfl) (Nat.le_of_ble_eq_true rfl) rfl (fun _ h => f_X6_addPart_ok h) hf (fun μ73 hf => ?_)
              refine E_iload_n (pc := 114) dX6_readSign_114 rfl ?_
              refine E_if_eq (pc := 115) (tgt := 131) dX6_readSign_115 (by decide) hf (fun hf => ?_) (fun hf => ?_)
              · refine E_iload_n (pc := 131) dX6_readSign_131 rfl ?_
                refine E_if_eq (pc := 132) (tgt := 148) dX6_readSign_132 (by decide) hf (fun hf => ?_) (fun hf => ?_)
                · refine E_ldc (pc := 148) (v := (100022 : Int32)) dX6_readSign_148 co_X6_114 ?_
                  exact E_iret (pc := 150) dX6_readSign_150 rfl hf
                · refine E_iload (pc := 135) dX6_readSign_135 rfl ?_
                  refine E_if_eq (pc := 137) (tgt := 145) dX6_readSign_137 (by decide) hf (fun hf => ?_) (fun hf => ?_)
                  · refine E_ldc (pc := 145) (v := (100024 : Int32)) dX6_readSign_145 co_X6_121 ?_
                    exact E_iret (pc := 147) dX6_readSign_147 rfl hf
                  · refine E_ldc (pc := 140) (v := (100023 : Int32)) dX6_readSign_140 co_X6_120 ?_
                    refine E_goto (pc := 142) (tgt := 147) dX6_readSign_142 (by decide) ?_
                    exact E_iret (pc := 147) dX6_readSign_147 rfl hf
              · refine E_iload (pc := 118) dX6_readSign_118 rfl ?_
                refine E_if_eq (pc := 120) (tgt := 128) dX6_readSign_120 (by decide) hf (fun hf => ?_) (fun hf => ?_)
                · refine E_ldc (pc := 128) (v := (100020 : Int32)) dX6_readSign_128 co_X6_119 ?_
                  exact E_iret (pc := 130) dX6_readSign_130 rfl hf
                · refine E_ldc (pc := 123) (v := (100021 : Int32)) dX6_readSign_123 co_X6_118 ?_
                  refine E_goto (pc := 125) (tgt := 130) dX6_readSign_125 (by decide) ?_
                  exact E_iret (pc := 130) dX6_readSign_130 rfl hf
        · refine E_iload (pc := 91) dX6_readSign_91 rfl ?_
          refine E_if_eq (pc := 93) (tgt := 109) dX6_readSign_93 (by decide) hf (fun hf => ?_) (fun hf => ?_)
          · refine E_aload_n (pc := 109) dX6_readSign_109 rfl ?_
            refine E_iload_n (pc := 110) dX6_readSign_110 rfl ?_
            refine E_Vv (pc := 111) (d2 := D_X6_addPart) (ci := 6) [.int x5] dX6_readSign_111 ml_X6_115 mf_X6_addPart im_X6_addPart rfl rfl rfl (by decide) (Nat.le_of_ble_eq_true rfl) (Nat.le_of_ble_eq_true rfl) rfl (fun _ h => f_X6_addPart_ok h) hf (fun μ74 hf => ?_)
            refine E_iload_n (pc := 114) dX6_readSign_114 rfl ?_
            refine E_if_eq (pc := 115) (tgt := 131) dX6_readSign_115 (by decide) hf (fun hf => ?_) (fun hf => ?_)
            · refine E_iload_n (pc := 131) dX6_readSign_131 rfl ?_
              refine E_if_eq (pc := 132) (tgt := 148) dX6_readSign_132 (by decide) hf (fun hf => ?_) (fun hf => ?_)
              · refine E_ldc (pc := 148) (v := (100022 : Int32)) dX6_readSign_148 co_X6_114 ?_
                exact E_iret (pc := 150) dX6_readSign_150 rfl hf
              · refine E_iload (pc := 135) dX6_readSign_135 rfl ?_
                refine E_if_eq (pc := 137) (tgt := 145) dX6_readSign_137 (by decide) hf (fun hf => ?_) (fun hf => ?_)
                · refine E_ldc (pc := 145) (v := (100024 : Int32)) dX6_readSign_145 co_X6_121 ?_
                  exact E_iret (pc := 147) dX6_readSign_147 rfl hf
                · refine E_ldc (pc := 140) (v := (100023 : Int32)) dX6_readSign_140 co_X6_120 ?_
                  refine E_goto (pc := 142) (tgt := 147) dX6_readSign_142 (by decide) ?_
                  exact E_iret (pc := 147) dX6_readSign_147 rfl hf
            · refine E_iload (pc := 118) dX6_readSign_118 rfl ?_
              refine E_if_eq (pc := 120) (tgt := 128) dX6_readSign_120 (by decide) hf (fun hf => ?_) (fun hf => ?_)
              · refine E_ldc (pc := 128) (v := (100020 : Int32)) dX6_readSign_128 co_X6_119 ?_
                exact E_iret (pc := 130) dX6_readSign_130 rfl hf
              · refine E_ldc (pc := 123) (v := (100021 : Int32)) dX6_readSign_123 co_X6_118 ?_
                refine E_goto (pc := 125) (tgt := 130) dX6_readSign_125 (by decide) ?_
                exact E_iret (pc := 130) dX6_readSign_130 rfl hf
          · refine E_aload_n (pc := 96) dX6_readSign_96 rfl ?_
            refine E_getR (pc := 97) dX6_readSign_97 fl_X6_37 hf (fun v75 hf => ?_)
            refine E_dup (pc := 100) dX6_readSign_100 rfl ?_
            refine E_getI (pc := 101) dX6_readSign_101 fl_X6_103 hf (fun v76 hf => ?_)
            refine E_iconst (pc := 104) (v := (1 : Int32)) dX6_readSign_104 (by decide) ?_
            refine E_iadd (pc := 105) dX6_readSign_105 ?_
            refine E_putI (pc := 106) dX6_readSign_106 (pl_X6_103 _) hf (fun μ77 hf => ?_)
            refine E_aload_n (pc := 109) dX6_readSign_109 rfl ?_
            refine E_iload_n (pc := 110) dX6_readSign_110 rfl ?_
            refine E_Vv (pc := 111) (d2 := D_X6_addPart) (ci := 6) [.int x5] dX6_readSign_111 ml_X6_115 mf_X6_addPart im_X6_addPart rfl rfl rfl (by decide) (Nat.le_of_ble_eq_true rfl) (Nat.le_of_ble_eq_true rfl) rfl (fun _ h => f_X6_addPart_ok h) hf (fun μ78 hf => ?_)
            refine E_iload_n (pc := 114) dX6_readSign_114 rfl ?_
            refine E_if_eq (pc := 115) (tgt := 131) dX6_readSign_115 (by decide) hf (fun hf => ?_) (fun hf => ?_)
            · refine E_iload_n (pc := 131) dX6_readSign_131 rfl ?_
              refine E_if_eq (pc := 132) (tgt := 148) dX6_readSign_132 (by decide) hf (fun hf => ?_) (fun hf => ?_)
              · refine E_ldc (pc := 148) (v := (100022 : Int32)) dX6_readSign_148 co_X6_114 ?_
                exact E_iret (pc := 150) dX6_readSign_150 rfl hf
              · refine E_iload (pc := 135) dX6_readSign_135 rfl ?_
                refine E_if_eq (pc := 137) (tgt := 145) dX6_readSign_137 (by decide) hf (fun hf => ?_) (fun hf => ?_)
                · refine E_ldc (pc := 145) (v := (100024 : Int32)) dX6_readSign_145 co_X6_121 ?_
                  exact E_iret (pc := 147) dX6_readSign_147 rfl hf
                · refine E_ldc (pc := 140) (v := (100023 : Int32)) dX6_readSign_140 co_X6_120 ?_
                  refine E_goto (pc := 142) (tgt := 147) dX6_readSign_142 (by decide) ?_
                  exact E_iret (pc := 147) dX6_readSign_147 rfl hf
            · refine E_iload (pc := 118) dX6_readSign_118 rfl ?_
              refine E_if_eq (pc := 120) (tgt := 128) dX6_readSign_120 (by decide) hf (fun hf => ?_) (fun hf => ?_)
              · refine E_ldc (pc := 128) (v := (100020 : Int32)) dX6_readSign_128 co_X6_119 ?_
                exact E_iret (pc := 130) dX6_readSign_130 rfl hf
              · refine E_ldc (pc := 123) (v := (100021 : Int32)) dX6_readSign_123 co_X6_118 ?_
                refine E_goto (pc := 125) (tgt := 130) dX6_readSign_125 (by decide) ?_
                exact E_iret (pc := 130) dX6_readSign_130 rfl hf
      · refine E_iconst (pc := 63) (v := (0 : Int32)) dX6_readSign_63 (by decide) ?_
        refine E_istore (pc := 64) (ls' := fun x79 => [(4, .int x79), (3, .int x55), (2, .int x9), (1, .int x5), (0, .ref a1)]) dX6_readSign_64 (by decide) (fun _ => rfl) hf (fun x79 hf => ?_)
        refine E_iload_n (pc := 66) dX6_readSign_66 rfl ?_
        refine E_if_ne (pc := 67) (tgt := 91) dX6_readSign_67 (by decide) hf (fun hf => ?_) (fun hf => ?_)
        · refine E_iload_n (pc := 70) dX6_readSign_70 rfl ?_
          refine E_if_ne (pc := 71) (tgt := 91) dX6_readSign_71 (by decide) hf (fun hf => ?_) (fun hf => ?_)
          · refine E_iload (pc := 74) dX6_readSign_74 rfl ?_
            refine E_if_ne (pc := 76) (tgt := 91) dX6_readSign_76 (by decide) hf (fun hf => ?_) (fun hf => ?_)
            · refine E_aload_n (pc := 79) dX6_readSign_79 rfl ?_
              refine E_getR (pc := 80) dX6_readSign_80 fl_X6_37 hf (fun v80 hf => ?_)
              refine E_iload_n (pc := 83) dX6_readSign_83 rfl ?_
              refine E_iconst (pc := 84) (v := (0 : Int32)) dX6_readSign_84 (by decide) ?_
              refine E_Vv (pc := 85) (d2 := D_X9_fail) (ci := 9) [.int x5, .int (0 : Int32)] dX6_readSign_85 ml_X6_66 mf_X9_fail im_X9_fail rfl rfl rfl (by decide) (Nat.le_of_ble_eq_true rfl) (Nat.le_of_ble_eq_true rfl) rfl (fun _ h => f_X9_fail_ok h) hf (fun μ81 hf => ?_)
              refine E_ldc (pc := 88) (v := (100022 : Int32)) dX6_readSign_88 co_X6_114 ?_
              exact E_iret (pc := 90) dX6_readSign_90 rfl hf
            · refine E_iload (pc := 91) dX6_readSign_91 rfl ?_
              refine E_if_eq (pc := 93) (tgt := 109) dX6_readSign_93 (by decide) hf (fun hf => ?_) (fun hf => ?_)
              · refine E_aload_n (pc := 109) dX6_readSign_109 rfl ?_
                refine E_iload_n (pc := 110) dX6_readSign_110 rfl ?_
                refine E_Vv (pc := 111) (d2 := D_X6_addPart) (ci := 6) [.int x5] dX6_readSign_111 ml_X6_115 mf_X6_addPart im_X6_addPart rfl rfl rfl (by decide) (Nat.le_of_ble_eq_true rfl) (Nat.le_of_ble_eq_true rfl) rfl (fun _ h => f_X6_addPart_ok h) hf (fun μ82 hf => ?_)
                refine E_iload_n (pc := 114) dX6_readSign_114 rfl ?_
                refine E_if_eq (pc := 115) (tgt := 131) dX6_readSign_115 (by decide) hf (fun hf => ?_) (fun hf => ?_)
                · refine E_iload_n (pc := 131) dX6_readSign_131 rfl ?_
                  refine E_if_eq (pc := 132) (tgt := 148) dX6_readSign_132 (by decide) hf (fun hf => ?_) (fun hf => ?_)
                  · refine E_ldc (pc := 148) (v := (100022 : Int32)) dX6_readSign_148 co_X6_114 ?_
                    exact E_iret (pc := 150) dX6_readSign_150 rfl hf
                  · refine E_iload (pc := 135) dX6_readSign_135 rfl ?_
                    refine E_if_eq (pc := 137) (tgt := 145) dX6_readSign_137 (by decide) hf (fun hf => ?_) (fun hf => ?_)
                    · refine E_ldc (pc := 145) (v := (100024 : Int32)) dX6_readSign_145 co_X6_121 ?_
                      exact E_iret (pc := 147) dX6_readSign_147 rfl hf
                    · refine E_ldc (pc := 140) (v := (100023 : Int32)) dX6_readSign_140 co_X6_120 ?_
                      refine E_goto (pc := 142) (tgt := 147) dX6_readSign_142 (by decide) ?_
                      exact E_iret (pc := 147) dX6_readSign_147 rfl hf
                · refine E_iload (pc := 118) dX6_readSign_118 rfl ?_
                  refine E_if_eq (pc := 120) (tgt := 128) dX6_readSign_120 (by decide) hf (fun hf => ?_) (fun hf => ?_)
                  · refine E_ldc (pc := 128) (v := (100020 : Int32)) dX6_readSign_128 co_X6_119 ?_
                    exact E_iret (pc := 130) dX6_readSign_130 rfl hf
                  · refine E_ldc (pc := 123) (v := (100021 : Int32)) dX6_readSign_123 co_X6_118 ?_
                    refine E_goto (pc := 125) (tgt := 130) dX6_readSign_125 (by decide) ?_
                    exact E_iret (pc := 130) dX6_readSign_130 rfl hf
              · refine E_aload_n (pc := 96) dX6_readSign_96 rfl ?_
                refine E_getR (pc := 97) dX6_readSign_97 fl_X6_37 hf (fun v83 hf => ?_)
                refine E_dup (pc := 100) dX6_readSign_100 rfl ?_
                refine E_getI (pc := 101) dX6_readSign_101 fl_X6_103 hf (fun v84 hf => ?_)
                refine E_iconst (pc := 104) (v := (1 : Int32)) dX6_readSign_104 (by decide) ?_
                refine E_iadd (pc := 105) dX6_readSign_105 ?_
                refine E_putI (pc := 106) dX6_readSign_106 (pl_X6_103 _) hf (fun μ85 hf => ?_)
                refine E_aload_n (pc := 109) dX6_readSign_109 rfl ?_
                refine E_iload_n (pc := 110) dX6_readSign_110 rfl ?_
                refine E_Vv (pc := 111) (d2 := D_X6_addPart) (ci := 6) [.int x5] dX6_readSign_111 ml_X6_115 mf_X6_addPart im_X6_addPart rfl rfl rfl (by decide) (Nat.le_of_ble_eq_true rfl) (Nat.le_of_ble_eq_true rfl) rfl (fun _ h => f_X6_addPart_ok h) hf (fun μ86 hf => ?_)
                refine E_iload_n (pc := 114) dX6_readSign_114 rfl ?_
                refine E_if_eq (pc := 115) (tgt := 131) dX6_readSign_115 (by decide) hf (fun hf => ?_) (fun hf => ?_)
                · refine E_iload_n (pc := 131) dX6_readSign_131 rfl ?_
                  refine E_if_eq (pc := 132) (tgt := 148) dX6_readSign_132 (by decide) hf (fun hf => ?_) (fun hf => ?_)
                  · refine E_ldc (pc := 148) (v := (100022 : Int32)) dX6_readSign_148 co_X6_114 ?_
                    exact E_iret (pc := 150) dX6_readSign_150 rfl hf
                  · refine E_iload (pc := 135) dX6_readSign_135 rfl ?_
                    refine E_if_eq (pc := 137) (tgt := 145) dX6_readSign_137 (by decide) hf (fun hf => ?_) (fun hf => ?_)
                    · refine E_ldc (pc := 145) (v := (100024 : Int32)) dX6_readSign_145 co_X6_121 ?_
                      exact E_iret (pc := 147) dX6_readSign_147 rfl hf
                    · refine E_ldc (pc := 140) (v := (100023 : Int32)) dX6_readSign_140 co_X6_120 ?_
                      refine E_goto (pc := 142) (tgt := 147) dX6_readSign_142 (by decide) ?_
                      exact E_iret (pc := 147) dX6_readSign_147 rfl hf
                · refine E_iload (pc := 118) dX6_readSign_118 rfl ?_
                  refine E_if_eq (pc := 120) (tgt := 128) dX6_readSign_120 (by decide) hf (fun hf => ?_) (fun hf => ?_)
                  · refine E_ldc (pc := 128) (v := (100020 : Int32)) dX6_readSign_128 co_X6_119 ?_
                    exact E_iret (pc := 130) dX6_readSign_130 rfl hf
                  · refine E_ldc (pc := 123) (v := (100021 : Int32)) dX6_readSign_123 co_X6_118 ?_
                    refine E_goto (pc := 125) (tgt := 130) dX6_readSign_125 (by decide) ?_
                    exact E_iret (pc := 130) dX6_readSign_130 rfl hf
          · refine E_iload (pc := 91) dX6_readSign_91 rfl ?_
            refine E_if_eq (pc := 93) (tgt := 109) dX6_readSign_93 (by decide) hf (fun hf => ?_) (fun hf => ?_)
            · refine E_aload_n (pc := 109) dX6_readSign_109 rfl ?_
              refine E_iload_n (pc := 110) dX6_readSign_110 rfl ?_
              refine E_Vv (pc := 111) (d2 := D_X6_addPart) (ci := 6) [.int x5] dX6_readSign_111 ml_X6_115 mf_X6_addPart im_X6_addPart rfl rfl rfl (by decide) (Nat.le_of_ble_eq_true rfl) (Nat.le_of_ble_eq_true rfl) rfl (fun _ h => f_X6_addPart_ok h) hf (fun μ87 hf => ?_)
              refine E_iload_n (pc := 114) dX6_readSign_114 rfl ?_
              refine E_if_eq (pc := 115) (tgt := 131) dX6_readSign_115 (by decide) hf (fun hf => ?_) (fun hf => ?_)
              · refine E_iload_n (pc := 131) dX6_readSign_131 rfl ?_
                refine E_if_eq (pc := 132) (tgt := 148) dX6_readSign_132 (by decide) hf (fun hf => ?_) (fun hf => ?_)
                · refine E_ldc (pc := 148) (v := (100022 : Int32)) dX6_readSign_148 co_X6_114 ?_
                  exact E_iret (pc := 150) dX6_readSign_150 rfl hf
                · refine E_iload (pc := 135) dX6_readSign_135 rfl ?_
                  refine E_if_eq (pc := 137) (tgt := 145) dX6_readSign_137 (by decide) hf (fun hf => ?_) (fun hf => ?_)
                  · refine E_ldc (pc := 145) (v := (100024 : Int32)) dX6_readSign_145 co_X6_121 ?_
                    exact E_iret (pc := 147) dX6_readSign_147 rfl hf
                  · refine E_ldc (pc := 140) (v := (100023 : Int32)) dX6_readSign_140 co_X6_120 ?_
                    refine E_goto (pc := 142) (tgt := 147) dX6_readSign_142 (by decide) ?_
                    exact E_iret (pc := 147) dX6_readSign_147 rfl hf
              · refine E_iload (pc := 118) dX6_readSign_118 rfl ?_
                refine E_if_eq (pc := 120) (tgt := 128) dX6_readSign_120 (by decide) hf (fun hf => ?_) (fun hf => ?_)
                · refine E_ldc (pc := 128) (v := (100020 : Int32)) dX6_readSign_128 co_X6_119 ?_
                  exact E_iret (pc := 130) dX6_readSign_130 rfl hf
                · refine E_ldc (pc := 123) (v := (100021 : Int32)) dX6_readSign_123 co_X6_118 ?_
                  refine E_goto (pc := 125) (tgt := 130) dX6_readSign_125 (by decide) ?_
                  exact E_iret (pc := 130) dX6_readSign_130 rfl hf
            · refine E_aload_n (pc := 96) dX6_readSign_96 rfl ?_
              refine E_getR (pc := 97) dX6_readSign_97 fl_X6_37 hf (fun v88 hf => ?_)
              refine E_dup (pc := 100) dX6_readSign_100 rfl ?_
              refine E_getI (pc := 101) dX6_readSign_101 fl_X6_103 hf (fun v89 hf => ?_)
              refine E_iconst (pc := 104) (v := (1 : Int32)) dX6_readSign_104 (by decide) ?_
              refine E_iadd (pc := 105) dX6_readSign_105 ?_
              refine E_putI (pc := 106) dX6_readSign_106 (pl_X6_103 _) hf (fun μ90 hf => ?_)
              refine E_aload_n (pc := 109) dX6_readSign_109 rfl ?_
              refine E_iload_n (pc := 110) dX6_readSign_110 rfl ?_
              refine E_Vv (pc := 111) (d2 := D_X6_addPart) (ci := 6) [.int x5] dX6_readSign_111 ml_X6_115 mf_X6_addPart im_X6_addPart rfl rfl rfl (by decide) (Nat.le_of_ble_eq_true rfl) (Nat.le_of_ble_eq_true rfl) rfl (fun _ h => f_X6_addPart_ok h) hf (fun μ91 hf => ?_)
              refine E_iload_n (pc := 114) dX6_readSign_114 rfl ?_
              refine E_if_eq (pc := 115) (tgt := 131) dX6_readSign_115 (by decide) hf (fun hf => ?_) (fun hf => ?_)
              · refine E_iload_n (pc := 131) dX6_readSign_131 rfl ?_
                refine E_if_eq (pc := 132) (tgt := 148) dX6_readSign_132 (by decide) hf (fun hf => ?_) (fun hf => ?_)
                · refine E_ldc (pc := 148) (v := (100022 : Int32)) dX6_readSign_148 co_X6_114 ?_
                  exact E_iret (pc := 150) dX6_readSign_150 rfl hf
                · refine E_iload (pc := 135) dX6_readSign_135 rfl ?_
                  refine E_if_eq (pc := 137) (tgt := 145) dX6_readSign_137 (by decide) hf (fun hf => ?_) (fun hf => ?_)
                  · refine E_ldc (pc := 145) (v := (100024 : Int32)) dX6_readSign_145 co_X6_121 ?_
                    exact E_iret (pc := 147) dX6_readSign_147 rfl hf
                  · refine E_ldc (pc := 140) (v := (100023 : Int32)) dX6_readSign_140 co_X6_120 ?_
                    refine E_goto (pc := 142) (tgt := 147) dX6_readSign_142 (by decide) ?_
                    exact E_iret (pc := 147) dX6_readSign_147 rfl hf
              · refine E_iload (pc := 118) dX6_readSign_118 rfl ?_
                refine E_if_eq (pc := 120) (tgt := 128) dX6_readSign_120 (by decide) hf (fun hf => ?_) (fun hf => ?_)
                · refine E_ldc (pc := 128) (v := (100020 : Int32)) dX6_readSign_128 co_X6_119 ?_
                  exact E_iret (pc := 130) dX6_readSign_130 rfl hf
                · refine E_ldc (pc := 123) (v := (100021 : Int32)) dX6_readSign_123 co_X6_118 ?_
                  refine E_goto (pc := 125) (tgt := 130) dX6_readSign_125 (by decide) ?_
                  exact E_iret (pc := 130) dX6_readSign_130 rfl hf
        · refine E_iload (pc := 91) dX6_readSign_91 rfl ?_
          refine E_if_eq (pc := 93) (tgt := 109) dX6_readSign_93 (by decide) hf (fun hf => ?_) (fun hf => ?_)
          · refine E_aload_n (pc := 109) dX6_readSign_109 rfl ?_
            refine E_iload_n (pc := 110) dX6_readSign_110 rfl ?_
            refine E_Vv (pc := 111) (d2 := D_X6_addPart) (ci := 6) [.int x5] dX6_readSign_111 ml_X6_115 mf_X6_addPart im_X6_addPart rfl rfl rfl (by decide) (Nat.le_of_ble_eq_true rfl) (Nat.le_of_ble_eq_true rfl) rfl (fun _ h => f_X6_addPart_ok h) hf (fun μ92 hf => ?_)
            refine E_iload_n (pc := 114) dX6_readSign_114 rfl ?_
            refine E_if_eq (pc := 115) (tgt := 131) dX6_readSign_115 (by decide) hf (fun hf => ?_) (fun hf => ?_)
            · refine E_iload_n (pc := 131) dX6_readSign_131 rfl ?_
              refine E_if_eq (pc := 132) (tgt := 148) dX6_readSign_132 (by decide) hf (fun hf => ?_) (fun hf => ?_)
              · refine E_ldc (pc := 148) (v := (100022 : Int32)) dX6_readSign_148 co_X6_114 ?_
                exact E_iret (pc := 150) dX6_readSign_150 rfl hf
              · refine E_iload (pc := 135) dX6_readSign_135 rfl ?_
                refine E_if_eq (pc := 137) (tgt := 145) dX6_readSign_137 (by decide) hf (fun hf => ?_) (fun hf => ?_)
                · refine E_ldc (pc := 145) (v := (100024 : Int32)) dX6_readSign_145 co_X6_121 ?_
                  exact E_iret (pc := 147) dX6_readSign_147 rfl hf
                · refine E_ldc (pc := 140) (v := (100023 : Int32)) dX6_readSign_140 co_X6_120 ?_
                  refine E_goto (pc := 142) (tgt := 147) dX6_readSign_142 (by decide) ?_
                  exact E_iret (pc := 147) dX6_readSign_147 rfl hf
            · refine E_iload (pc := 118) dX6_readSign_118 rfl ?_
              refine E_if_eq (pc := 120) (tgt := 128) dX6_readSign_120 (by decide) hf (fun hf => ?_) (fun hf => ?_)
              · refine E_ldc (pc := 128) (v := (100020 : Int32)) dX6_readSign_128 co_X6_119 ?_
                exact E_iret (pc := 130) dX6_readSign_130 rfl hf
              · refine E_ldc (pc := 123) (v := (100021 : Int32)) dX6_readSign_123 co_X6_118 ?_
                refine E_goto (pc := 125) (tgt := 130) dX6_readSign_125 (by decide) ?_
                exact E_iret (pc := 130) dX6_readSign_130 rfl hf
          · refine E_aload_n (pc := 96) dX6_readSign_96 rfl ?_
            refine E_getR (pc := 97) dX6_readSign_97 fl_X6_37 hf (fun v93 hf => ?_)
            refine E_dup (pc := 100) dX6_readSign_100 rfl ?_
            refine E_getI (pc := 101) dX6_readSign_101 fl_X6_103 hf (fun v94 hf => ?_)
            refine E_iconst (pc := 104) (v := (1 : Int32)) dX6_readSign_104 (by decide) ?_
            refine E_iadd (pc := 105) dX6_readSign_105 ?_
            refine E_putI (pc := 106) dX6_readSign_106 (pl_X6_103 _) hf (fun μ95 hf => ?_)
            refine E_aload_n (pc := 109) dX6_readSign_109 rfl ?_
            refine E_iload_n (pc := 110) dX6_readSign_110 rfl ?_
            refine E_Vv (pc := 111) (d2 := D_X6_addPart) (ci := 6) [.int x5] dX6_readSign_111 ml_X6_115 mf_X6_addPart im_X6_addPart rfl rfl rfl (by decide) (Nat.le_of_ble_eq_true rfl) (Nat.le_of_ble_eq_true rfl) rfl (fun _ h => f_X6_addPart_ok h) hf (fun μ96 hf => ?_)
            refine E_iload_n (pc := 114) dX6_readSign_114 rfl ?_
            refine E_if_eq (pc := 115) (tgt := 131) dX6_readSign_115 (by decide) hf (fun hf => ?_) (fun hf => ?_)
            · refine E_iload_n (pc := 131) dX6_readSign_131 rfl ?_
              refine E_if_eq (pc := 132) (tgt := 148) dX6_readSign_132 (by decide) hf (fun hf => ?_) (fun hf => ?_)
              · refine E_ldc (pc := 148) (v := (100022 : Int32)) dX6_readSign_148 co_X6_114 ?_
                exact E_iret (pc := 150) dX6_readSign_150 rfl hf
              · refine E_iload (pc := 135) dX6_readSign_135 rfl ?_
                refine E_if_eq (pc := 137) (tgt := 145) dX6_readSign_137 (by decide) hf (fun hf => ?_) (fun hf => ?_)
                · refine E_ldc (pc := 145) (v := (100024 : Int32)) dX6_readSign_145 co_X6_121 ?_
                  exact E_iret (pc := 147) dX6_readSign_147 rfl hf
                · refine E_ldc (pc := 140) (v := (100023 : Int32)) dX6_readSign_140 co_X6_120 ?_
                  refine E_goto (pc := 142) (tgt := 147) dX6_readSign_142 (by decide) ?_
                  exact E_iret (pc := 147) dX6_readSign_147 rfl hf
            · refine E_iload (pc := 118) dX6_readSign_118 rfl ?_
              refine E_if_eq (pc := 120) (tgt := 128) dX6_readSign_120 (by decide) hf (fun hf => ?_) (fun hf => ?_)
              · refine E_ldc (pc := 128) (v := (100020 : Int32)) dX6_readSign_128 co_X6_119 ?_
                exact E_iret (pc := 130) dX6_readSign_130 rfl hf
              · refine E_ldc (pc := 123) (v := (100021 : Int32)) dX6_readSign_123 co_X6_118 ?_
                refine E_goto (pc := 125) (tgt := 130) dX6_readSign_125 (by decide) ?_
                exact E_iret (pc := 130) dX6_readSign_130 rfl hf
  · refine E_iconst (pc := 38) (v := (0 : Int32)) dX6_readSign_38 (by decide) ?_
    refine E_istore_n (pc := 39) (ls' := fun x97 => [(3, .int x97), (2, .int x9), (1, .int x5), (0, .ref a1)]) dX6_readSign_39 (by decide) (fun _ => rfl) hf (fun x97 hf => ?_)
    refine E_aload_n (pc := 40) dX6_readSign_40 rfl ?_
    refine E_getR (pc := 41) dX6_readSign_41 fl_X6_37 hf (fun v98 hf => ?_)
    refine E_aload_n (pc := 44) dX6_readSign_44 rfl ?_
    refine E_getR (pc := 45) dX6_readSign_45 fl_X6_37 hf (fun v99 hf => ?_)
    refine E_getI (pc := 48) dX6_readSign_48 fl_X6_103 hf (fun v100 hf => ?_)
    refine E_Vi (pc := 51) (d2 := D_X9_byteAt) (ci := 9) [.int v100] dX6_readSign_51 ml_X6_110 mf_X9_byteAt im_X9_byteAt rfl rfl rfl (by decide) (Nat.le_of_ble_eq_true rfl) (Nat.le_of_ble_eq_true rfl) rfl (fun _ _ h => f_X9_byteAt_ok h) hf (fun v102 μ101 hf => ?_)
    refine E_bipush (pc := 54) (v := (61 : Int32)) dX6_readSign_54 (by decide) ?_
    refine E_icmp_ne (pc := 56) (tgt := 63) dX6_readSign_56 (by decide) hf (fun hf => ?_) (fun hf => ?_)
    · refine E_iconst (pc := 59) (v := (1 : Int32)) dX6_readSign_59 (by decide) ?_
      refine E_goto (pc := 60) (tgt := 64) dX6_readSign_60 (by decide) ?_
      refine E_istore (pc := 64) (ls' := fun x103 => [(4, .int x103), (3, .int x97), (2, .int x9), (1, .int x5), (0, .ref a1)]) dX6_readSign_64 (by decide) (fun _ => rfl) hf (fun x103 hf => ?_)
      refine E_iload_n (pc := 66) dX6_readSign_66 rfl ?_
      refine E_if_ne (pc := 67) (tgt := 91) dX6_readSign_67 (by decide) hf (fun hf => ?_) (fun hf => ?_)
      · refine E_iload_n (pc := 70) dX6_readSign_70 rfl ?_
        refine E_if_ne (pc := 71) (tgt := 91) dX6_readSign_71 (by decide) hf (fun hf => ?_) (fun hf => ?_)
        · refine E_iload (pc := 74) dX6_readSign_74 rfl ?_
          refine E_if_ne (pc := 76) (tgt := 91) dX6_readSign_76 (by decide) hf (fun hf => ?_) (fun hf => ?_)
          · refine E_aload_n (pc := 79) dX6_readSign_79 rfl ?_
            refine E_getR (pc := 80) dX6_readSign_80 fl_X6_37 hf (fun v104 hf => ?_)
            refine E_iload_n (pc := 83) dX6_readSign_83 rfl ?_
            refine E_iconst (pc := 84) (v := (0 : Int32)) dX6_readSign_84 (by decide) ?_
            refine E_Vv (pc := 85) (d2 := D_X9_fail) (ci := 9) [.int x5, .int (0 : Int32)] dX6_readSign_85 ml_X6_66 mf_X9_fail im_X9_fail rfl rfl rfl (by decide) (Nat.le_of_ble_eq_true rfl) (Nat.le_of_ble_eq_true rfl) rfl (fun _ h => f_X9_fail_ok h) hf (fun μ105 hf => ?_)
            refine E_ldc (pc := 88) (v := (100022 : Int32)) dX6_readSign_88 co_X6_114 ?_
            exact E_iret (pc := 90) dX6_readSign_90 rfl hf
          · refine E_iload (pc := 91) dX6_readSign_91 rfl ?_
            refine E_if_eq (pc := 93) (tgt := 109) dX6_readSign_93 (by decide) hf (fun hf => ?_) (fun hf => ?_)
            · refine E_aload_n (pc := 109) dX6_readSign_109 rfl ?_
              refine E_iload_n (pc := 110) dX6_readSign_110 rfl ?_
              refine E_Vv (pc := 111) (d2 := D_X6_addPart) (ci := 6) [.int x5] dX6_readSign_111 ml_X6_115 mf_X6_addPart im_X6_addPart rfl rfl rfl (by decide) (Nat.le_of_ble_eq_true rfl) (Nat.le_of_ble_eq_true rfl) rfl (fun _ h => f_X6_addPart_ok h) hf (fun μ106 hf => ?_)
              refine E_iload_n (pc := 114) dX6_readSign_114 rfl ?_
              refine E_if_eq (pc := 115) (tgt := 131) dX6_readSign_115 (by decide) hf (fun hf => ?_) (fun hf => ?_)
              · refine E_iload_n (pc := 131) dX6_readSign_131 rfl ?_
                refine E_if_eq (pc := 132) (tgt := 148) dX6_readSign_132 (by decide) hf (fun hf => ?_) (fun hf => ?_)
                · refine E_ldc (pc := 148) (v := (100022 : Int32)) dX6_readSign_148 co_X6_114 ?_
                  exact E_iret (pc := 150) dX6_readSign_150 rfl hf
                · refine E_iload (pc := 135) dX6_readSign_135 rfl ?_
                  refine E_if_eq (pc := 137) (tgt := 145) dX6_readSign_137 (by decide) hf (fun hf => ?_) (fun hf => ?_)
                  · refine E_ldc (pc := 145) (v := (100024 : Int32)) dX6_readSign_145 co_X6_121 ?_
                    exact E_iret (pc := 147) dX6_readSign_147 rfl hf
                  · refine E_ldc (pc := 140) (v := (100023 : Int32)) dX6_readSign_140 co_X6_120 ?_
                    refine E_goto (pc := 142) (tgt := 147) dX6_readSign_142 (by decide) ?_
                    exact E_iret (pc := 147) dX6_readSign_147 rfl hf
              · refine E_iload (pc := 118) dX6_readSign_118 rfl ?_
                refine E_if_eq (pc := 120) (tgt := 128) dX6_readSign_120 (by decide) hf (fun hf => ?_) (fun hf => ?_)
                · refine E_ldc (pc := 128) (v := (100020 : Int32)) dX6_readSign_128 co_X6_119 ?_
                  exact E_iret (pc := 130) dX6_readSign_130 rfl hf
                · refine E_ldc (pc := 123) (v := (100021 : Int32)) dX6_readSign_123 co_X6_118 ?_
                  refine E_goto (pc := 125) (tgt := 130) dX6_readSign_125 (by decide) ?_
                  exact E_iret (pc := 130) dX6_readSign_130 rfl hf
            · refine E_aload_n (pc := 96) dX6_readSign_96 rfl ?_
              refine E_getR (pc := 97) dX6_readSign_97 fl_X6_37 hf (fun v107 hf => ?_)
              refine E_dup (pc := 100) dX6_readSign_100 rfl ?_
              refine E_getI (pc := 101) dX6_readSign_101 fl_X6_103 hf (fun v108 hf => ?_)
              refine E_iconst (pc := 104) (v := (1 : Int32)) dX6_readSign_104 (by decide) ?_
              refine E_iadd (pc := 105) dX6_readSign_105 ?_
              refine E_putI (pc := 106) dX6_readSign_106 (pl_X6_103 _) hf (fun μ109 hf => ?_)
              refine E_aload_n (pc := 109) dX6_readSign_109 rfl ?_
              refine E_iload_n (pc := 110) dX6_readSign_110 rfl ?_
              refine E_Vv (pc := 111) (d2 := D_X6_addPart) (ci := 6) [.int x5] dX6_readSign_111 ml_X6_115 mf_X6_addPart im_X6_addPart rfl rfl rfl (by decide) (Nat.le_of_ble_eq_true rfl) (Nat.le_of_ble_eq_true rfl) rfl (fun _ h => f_X6_addPart_ok h) hf (fun μ110 hf => ?_)
              refine E_iload_n (pc := 114) dX6_readSign_114 rfl ?_
              refine E_if_eq (pc := 115) (tgt := 131) dX6_readSign_115 (by decide) hf (fun hf => ?_) (fun hf => ?_)
              · refine E_iload_n (pc := 131) dX6_readSign_131 rfl ?_
                refine E_if_eq (pc := 132) (tgt := 148) dX6_readSign_132 (by decide) hf (fun hf => ?_) (fun hf => ?_)
                · refine E_ldc (pc := 148) (v := (100022 : Int32)) dX6_readSign_148 co_X6_114 ?_
                  exact E_iret (pc := 150) dX6_readSign_150 rfl hf
                · refine E_iload (pc := 135) dX6_readSign_135 rfl ?_
                  refine E_if_eq (pc := 137) (tgt := 145) dX6_readSign_137 (by decide) hf (fun hf => ?_) (fun hf => ?_)
                  · refine E_ldc (pc := 145) (v := (100024 : Int32)) dX6_readSign_145 co_X6_121 ?_
                    exact E_iret (pc := 147) dX6_readSign_147 rfl hf
                  · refine E_ldc (pc := 140) (v := (100023 : Int32)) dX6_readSign_140 co_X6_120 ?_
                    refine E_goto (pc := 142) (tgt := 147) dX6_readSign_142 (by decide) ?_
                    exact E_iret (pc := 147) dX6_readSign_147 rfl hf
              · refine E_iload (pc := 118) dX6_readSign_118 rfl ?_
                refine E_if_eq (pc := 120) (tgt := 128) dX6_readSign_120 (by decide) hf (fun hf => ?_) (fun hf => ?_)
                · refine E_ldc (pc := 128) (v := (100020 : Int32)) dX6_readSign_128 co_X6_119 ?_
                  exact E_iret (pc := 130) dX6_readSign_130 rfl hf
                · refine E_ldc (pc := 123) (v := (100021 : Int32)) dX6_readSign_123 co_X6_118 ?_
                  refine E_goto (pc := 125) (tgt := 130) dX6_readSign_125 (by decide) ?_
                  exact E_iret (pc := 130) dX6_readSign_130 rfl hf
        · refine E_iload (pc := 91) dX6_readSign_91 rfl ?_
          refine E_if_eq (pc := 93) (tgt := 109) dX6_readSign_93 (by decide) hf (fun hf => ?_) (fun hf => ?_)
          · refine E_aload_n (pc := 109) dX6_readSign_109 rfl ?_
            refine E_iload_n (pc := 110) dX6_readSign_110 rfl ?_
            refine E_Vv (pc := 111) (d2 := D_X6_addPart) (ci := 6) [.int x5] dX6_readSign_111 ml_X6_115 mf_X6_addPart im_X6_addPart rfl rfl rfl (by decide) (Nat.le_of_ble_eq_true rfl) (Nat.le_of_ble_eq_true rfl) rfl (fun _ h => f_X6_addPart_ok h) hf (fun μ111 hf => ?_)
            refine E_iload_n (pc := 114) dX6_readSign_114 rfl ?_
            refine E_if_eq (pc := 115) (tgt := 131) dX6_readSign_115 (by decide) hf (fun hf => ?_) (fun hf => ?_)
            · refine E_iload_n (pc := 131) dX6_readSign_131 rfl ?_
              refine E_if_eq (pc := 132) (tgt := 148) dX6_readSign_132 (by decide) hf (fun hf => ?_) (fun hf => ?_)
              · refine E_ldc (pc := 148) (v := (100022 : Int32)) dX6_readSign_148 co_X6_114 ?_
                exact E_iret (pc := 150) dX6_readSign_150 rfl hf
              · refine E_iload (pc := 135) dX6_readSign_135 rfl ?_
                refine E_if_eq (pc := 137) (tgt := 145) dX6_readSign_137 (by decide) hf (fun hf => ?_) (fun hf => ?_)
                · refine E_ldc (pc := 145) (v := (100024 : Int32)) dX6_readSign_145 co_X6_121 ?_
                  exact E_iret (pc := 147) dX6_readSign_147 rfl hf
                · refine E_ldc (pc := 140) (v := (100023 : Int32)) dX6_readSign_140 co_X6_120 ?_
                  refine E_goto (pc := 142) (tgt := 147) dX6_readSign_142 (by decide) ?_
                  exact E_iret (pc := 147) dX6_readSign_147 rfl hf
            · refine E_iload (pc := 118) dX6_readSign_118 rfl ?_
              refine E_if_eq (pc := 120) (tgt := 128) dX6_readSign_120 (by decide) hf (fun hf => ?_) (fun hf => ?_)
              · refine E_ldc (pc := 128) (v := (100020 : Int32)) dX6_readSign_128 co_X6_119 ?_
                exact E_iret (pc := 130) dX6_readSign_130 rfl hf
              · refine E_ldc (pc := 123) (v := (100021 : Int32)) dX6_readSign_123 co_X6_118 ?_
                refine E_goto (pc := 125) (tgt := 130) dX6_readSign_125 (by decide) ?_
                exact E_iret (pc := 130) dX6_readSign_130 rfl hf
          · refine E_aload_n (pc := 96) dX6_readSign_96 rfl ?_
            refine E_getR (pc := 97) dX6_readSign_97 fl_X6_37 hf (fun v112 hf => ?_)
            refine E_dup (pc := 100) dX6_readSign_100 rfl ?_
            refine E_getI (pc := 101) dX6_readSign_101 fl_X6_103 hf (fun v113 hf => ?_)
            refine E_iconst (pc := 104) (v := (1 : Int32)) dX6_readSign_104 (by decide) ?_
            refine E_iadd (pc := 105) dX6_readSign_105 ?_
            refine E_putI (pc := 106) dX6_readSign_106 (pl_X6_103 _) hf (fun μ114 hf => ?_)
            refine E_aload_n (pc := 109) dX6_readSign_109 rfl ?_
            refine E_iload_n (pc := 110) dX6_readSign_110 rfl ?_
            refine E_Vv (pc := 111) (d2 := D_X6_addPart) (ci := 6) [.int x5] dX6_readSign_111 ml_X6_115 mf_X6_addPart im_X6_addPart rfl rfl rfl (by decide) (Nat.le_of_ble_eq_true rfl) (Nat.le_of_ble_eq_true rfl) rfl (fun _ h => f_X6_addPart_ok h) hf (fun μ115 hf => ?_)
            refine E_iload_n (pc := 114) dX6_readSign_114 rfl ?_
            refine E_if_eq (pc := 115) (tgt := 131) dX6_readSign_115 (by decide) hf (fun hf => ?_) (fun hf => ?_)
            · refine E_iload_n (pc := 131) dX6_readSign_131 rfl ?_
              refine E_if_eq (pc := 132) (tgt := 148) dX6_readSign_132 (by decide) hf (fun hf => ?_) (fun hf => ?_)
              · refine E_ldc (pc := 148) (v := (100022 : Int32)) dX6_readSign_148 co_X6_114 ?_
                exact E_iret (pc := 150) dX6_readSign_150 rfl hf
              · refine E_iload (pc := 135) dX6_readSign_135 rfl ?_
                refine E_if_eq (pc := 137) (tgt := 145) dX6_readSign_137 (by decide) hf (fun hf => ?_) (fun hf => ?_)
                · refine E_ldc (pc := 145) (v := (100024 : Int32)) dX6_readSign_145 co_X6_121 ?_
                  exact E_iret (pc := 147) dX6_readSign_147 rfl hf
                · refine E_ldc (pc := 140) (v := (100023 : Int32)) dX6_readSign_140 co_X6_120 ?_
                  refine E_goto (pc := 142) (tgt := 147) dX6_readSign_142 (by decide) ?_
                  exact E_iret (pc := 147) dX6_readSign_147 rfl hf
            · refine E_iload (pc := 118) dX6_readSign_118 rfl ?_
              refine E_if_eq (pc := 120) (tgt := 128) dX6_readSign_120 (by decide) hf (fun hf => ?_) (fun hf => ?_)
              · refine E_ldc (pc := 128) (v := (100020 : Int32)) dX6_readSign_128 co_X6_119 ?_
                exact E_iret (pc := 130) dX6_readSign_130 rfl hf
              · refine E_ldc (pc := 123) (v := (100021 : Int32)) dX6_readSign_123 co_X6_118 ?_
                refine E_goto (pc := 125) (tgt := 130) dX6_readSign_125 (by decide) ?_
                exact E_iret (pc := 130) dX6_readSign_130 rfl hf
      · refine E_iload (pc := 91) dX6_readSign_91 rfl ?_
        refine E_if_eq (pc := 93) (tgt := 109) dX6_readSign_93 (by decide) hf (fun hf => ?_) (fun hf => ?_)
        · refine E_aload_n (pc := 109) dX6_readSign_109 rfl ?_
          refine E_iload_n (pc := 110) dX6_readSign_110 rfl ?_
          refine E_Vv (pc := 111) (d2 := D_X6_addPart) (ci := 6) [.int x5] dX6_readSign_111 ml_X6_115 mf_X6_addPart im_X6_addPart rfl rfl rfl (by decide) (Nat.le_of_ble_eq_true rfl) (Nat.le_of_ble_eq_true rfl) rfl (fun _ h => f_X6_addPart_ok h) hf (fun μ116 hf => ?_)
          refine E_iload_n (pc := 114) dX6_readSign_114 rfl ?_
          refine E_if_eq (pc := 115) (tgt := 131) dX6_readSign_115 (by decide) hf (fun hf => ?_) (fun hf => ?_)
          · refine E_iload_n (pc := 131) dX6_readSign_131 rfl ?_
            refine E_if_eq (pc := 132) (tgt := 148) dX6_readSign_132 (by decide) hf (fun hf => ?_) (fun hf => ?_)
            · refine E_ldc (pc := 148) (v := (100022 : Int32)) dX6_readSign_148 co_X6_114 ?_
              exact E_iret (pc := 150) dX6_readSign_150 rfl hf
            · refine E_iload (pc := 135) dX6_readSign_135 rfl ?_
              refine E_if_eq (pc := 137) (tgt := 145) dX6_readSign_137 (by decide) hf (fun hf => ?_) (fun hf => ?_)
              · refine E_ldc (pc := 145) (v := (100024 : Int32)) dX6_readSign_145 co_X6_121 ?_
                exact E_iret (pc := 147) dX6_readSign_147 rfl hf
              · refine E_ldc (pc := 140) (v := (100023 : Int32)) dX6_readSign_140 co_X6_120 ?_
                refine E_goto (pc := 142) (tgt := 147) dX6_readSign_142 (by decide) ?_
                exact E_iret (pc := 147) dX6_readSign_147 rfl hf
          · refine E_iload (pc := 118) dX6_readSign_118 rfl ?_
            refine E_if_eq (pc := 120) (tgt := 128) dX6_readSign_120 (by decide) hf (fun hf => ?_) (fun hf => ?_)
            · refine E_ldc (pc := 128) (v := (100020 : Int32)) dX6_readSign_128 co_X6_119 ?_
              exact E_iret (pc := 130) dX6_readSign_130 rfl hf
            · refine E_ldc (pc := 123) (v := (100021 : Int32)) dX6_readSign_123 co_X6_118 ?_
              refine E_goto (pc := 125) (tgt := 130) dX6_readSign_125 (by decide) ?_
              exact E_iret (pc := 130) dX6_readSign_130 rfl hf
        · refine E_aload_n (pc := 96) dX6_readSign_96 rfl ?_
          refine E_getR (pc := 97) dX6_readSign_97 fl_X6_37 hf (fun v117 hf => ?_)
          refine E_dup (pc := 100) dX6_readSign_100 rfl ?_
          refine E_getI (pc := 101) dX6_readSign_101 fl_X6_103 hf (fun v118 hf => ?_)
          refine E_iconst (pc := 104) (v := (1 : Int32)) dX6_readSign_104 (by decide) ?_
          refine E_iadd (pc := 105) dX6_readSign_105 ?_
          refine E_putI (pc := 106) dX6_readSign_106 (pl_X6_103 _) hf (fun μ119 hf => ?_)
          refine E_aload_n (pc := 109) dX6_readSign_109 rfl ?_
          refine E_iload_n (pc := 110) dX6_readSign_110 rfl ?_
          refine E_Vv (pc := 111) (d2 := D_X6_addPart) (ci := 6) [.int x5] dX6_readSign_111 ml_X6_115 mf_X6_addPart im_X6_addPart rfl rfl rfl (by decide) (Nat.le_of_ble_eq_true rfl) (Nat.le_of_ble_eq_true rfl) rfl (fun _ h => f_X6_addPart_ok h) hf (fun μ120 hf => ?_)
          refine E_iload_n (pc := 114) dX6_readSign_114 rfl ?_
          refine E_if_eq (pc := 115) (tgt := 131) dX6_readSign_115 (by decide) hf (fun hf => ?_) (fun hf => ?_)
          · refine E_iload_n (pc := 131) dX6_readSign_131 rfl ?_
            refine E_if_eq (pc := 132) (tgt := 148) dX6_readSign_132 (by decide) hf (fun hf => ?_) (fun hf => ?_)
            · refine E_ldc (pc := 148) (v := (100022 : Int32)) dX6_readSign_148 co_X6_114 ?_
              exact E_iret (pc := 150) dX6_readSign_150 rfl hf
            · refine E_iload (pc := 135) dX6_readSign_135 rfl ?_
              refine E_if_eq (pc := 137) (tgt := 145) dX6_readSign_137 (by decide) hf (fun hf => ?_) (fun hf => ?_)
              · refine E_ldc (pc := 145) (v := (100024 : Int32)) dX6_readSign_145 co_X6_121 ?_
                exact E_iret (pc := 147) dX6_readSign_147 rfl hf
              · refine E_ldc (pc := 140) (v := (100023 : Int32)) dX6_readSign_140 co_X6_120 ?_
                refine E_goto (pc := 142) (tgt := 147) dX6_readSign_142 (by decide) ?_
                exact E_iret (pc := 147) dX6_readSign_147 rfl hf
          · refine E_iload (pc := 118) dX6_readSign_118 rfl ?_
            refine E_if_eq (pc := 120) (tgt := 128) dX6_readSign_120 (by decide) hf (fun hf => ?_) (fun hf => ?_)
            · refine E_ldc (pc := 128) (v := (100020 : Int32)) dX6_readSign_128 co_X6_119 ?_
              exact E_iret (pc := 130) dX6_readSign_130 rfl hf
            · refine E_ldc (pc := 123) (v := (100021 : Int32)) dX6_readSign_123 co_X6_118 ?_
              refine E_goto (pc := 125) (tgt := 130) dX6_readSign_125 (by decide) ?_
              exact E_iret (pc := 130) dX6_readSign_130 rfl hf
    · refine E_iconst (pc := 63) (v := (0 : Int32)) dX6_readSign_63 (by decide) ?_
      refine E_istore (pc := 64) (ls' := fun x121 => [(4, .int x121), (3, .int x97), (2, .int x9), (1, .int x5), (0, .ref a1)]) dX6_readSign_64 (by decide) (fun _ => rfl) hf (fun x121 hf => ?_)
      refine E_iload_n (pc := 66) dX6_readSign_66 rfl ?_
      refine E_if_ne (pc := 67) (tgt := 91) dX6_readSign_67 (by decide) hf (fun hf => ?_) (fun hf => ?_)
      · refine E_iload_n (pc := 70) dX6_readSign_70 rfl ?_
        refine E_if_ne (pc := 71) (tgt := 91) dX6_readSign_71 (by decide) hf (fun hf => ?_) (fun hf => ?_)
        · refine E_iload (pc := 74) dX6_readSign_74 rfl ?_
          refine E_if_ne (pc := 76) (tgt := 91) dX6_readSign_76 (by decide) hf (fun hf => ?_) (fun hf => ?_)
          · refine E_aload_n (pc := 79) dX6_readSign_79 rfl ?_
            refine E_getR (pc := 80) dX6_readSign_80 fl_X6_37 hf (fun v122 hf => ?_)
            refine E_iload_n (pc := 83) dX6_readSign_83 rfl ?_
            refine E_iconst (pc := 84) (v := (0 : Int32)) dX6_readSign_84 (by decide) ?_
            refine E_Vv (pc := 85) (d2 := D_X9_fail) (ci := 9) [.int x5, .int (0 : Int32)] dX6_readSign_85 ml_X6_66 mf_X9_fail im_X9_fail rfl rfl rfl (by decide) (Nat.le_of_ble_eq_true rfl) (Nat.le_of_ble_eq_true rfl) rfl (fun _ h => f_X9_fail_ok h) hf (fun μ123 hf => ?_)
            refine E_ldc (pc := 88) (v := (100022 : Int32)) dX6_readSign_88 co_X6_114 ?_
            exact E_iret (pc := 90) dX6_readSign_90 rfl hf
          · refine E_iload (pc := 91) dX6_readSign_91 rfl ?_
            refine E_if_eq (pc := 93) (tgt := 109) dX6_readSign_93 (by decide) hf (fun hf => ?_) (fun hf => ?_)
            · refine E_aload_n (pc := 109) dX6_readSign_109 rfl ?_
              refine E_iload_n (pc := 110) dX6_readSign_110 rfl ?_
              refine E_Vv (pc := 111) (d2 := D_X6_addPart) (ci := 6) [.int x5] dX6_readSign_111 ml_X6_115 mf_X6_addPart im_X6_addPart rfl rfl rfl (by decide) (Nat.le_of_ble_eq_true rfl) (Nat.le_of_ble_eq_true rfl) rfl (fun _ h => f_X6_addPart_ok h) hf (fun μ124 hf => ?_)
              refine E_iload_n (pc := 114) dX6_readSign_114 rfl ?_
              refine E_if_eq (pc := 115) (tgt := 131) dX6_readSign_115 (by decide) hf (fun hf => ?_) (fun hf => ?_)
              · refine E_iload_n (pc := 131) dX6_readSign_131 rfl ?_
                refine E_if_eq (pc := 132) (tgt := 148) dX6_readSign_132 (by decide) hf (fun hf => ?_) (fun hf => ?_)
                · refine E_ldc (pc := 148) (v := (100022 : Int32)) dX6_readSign_148 co_X6_114 ?_
                  exact E_iret (pc := 150) dX6_readSign_150 rfl hf
                · refine E_iload (pc := 135) dX6_readSign_135 rfl ?_
                  refine E_if_eq (pc := 137) (tgt := 145) dX6_readSign_137 (by decide) hf (fun hf => ?_) (fun hf => ?_)
                  · refine E_ldc (pc := 145) (v := (100024 : Int32)) dX6_readSign_145 co_X6_121 ?_
                    exact E_iret (pc := 147) dX6_readSign_147 rfl hf
                  · refine E_ldc (pc := 140) (v := (100023 : Int32)) dX6_readSign_140 co_X6_120 ?_
                    refine E_goto (pc := 142) (tgt := 147) dX6_readSign_142 (by decide) ?_
                    exact E_iret (pc := 147) dX6_readSign_147 rfl hf
              · refine E_iload (pc := 118) dX6_readSign_118 rfl ?_
                refine E_if_eq (pc := 120) (tgt := 128) dX6_readSign_120 (by decide) hf (fun hf => ?_) (fun hf => ?_)
                · refine E_ldc (pc := 128) (v := (100020 : Int32)) dX6_readSign_128 co_X6_119 ?_
                  exact E_iret (pc := 130) dX6_readSign_130 rfl hf
                · refine E_ldc (pc := 123) (v := (100021 : Int32)) dX6_readSign_123 co_X6_118 ?_
                  refine E_goto (pc := 125) (tgt := 130) dX6_readSign_125 (by decide) ?_
                  exact E_iret (pc := 130) dX6_readSign_130 rfl hf
            · refine E_aload_n (pc := 96) dX6_readSign_96 rfl ?_
              refine E_getR (pc := 97) dX6_readSign_97 fl_X6_37 hf (fun v125 hf => ?_)
              refine E_dup (pc := 100) dX6_readSign_100 rfl ?_
              refine E_getI (pc := 101) dX6_readSign_101 fl_X6_103 hf (fun v126 hf => ?_)
              refine E_iconst (pc := 104) (v := (1 : Int32)) dX6_readSign_104 (by decide) ?_
              refine E_iadd (pc := 105) dX6_readSign_105 ?_
              refine E_putI (pc := 106) dX6_readSign_106 (pl_X6_103 _) hf (fun μ127 hf => ?_)
              refine E_aload_n (pc := 109) dX6_readSign_109 rfl ?_
              refine E_iload_n (pc := 110) dX6_readSign_110 rfl ?_
              refine E_Vv (pc := 111) (d2 := D_X6_addPart) (ci := 6) [.int x5] dX6_readSign_111 ml_X6_115 mf_X6_addPart im_X6_addPart rfl rfl rfl (by decide) (Nat.le_of_ble_eq_true rfl) (Nat.le_of_ble_eq_true rfl) rfl (fun _ h => f_X6_addPart_ok h) hf (fun μ128 hf => ?_)
              refine E_iload_n (pc := 114) dX6_readSign_114 rfl ?_
              refine E_if_eq (pc := 115) (tgt := 131) dX6_readSign_115 (by decide) hf (fun hf => ?_) (fun hf => ?_)
              · refine E_iload_n (pc := 131) dX6_readSign_131 rfl ?_
                refine E_if_eq (pc := 132) (tgt := 148) dX6_readSign_132 (by decide) hf (fun hf => ?_) (fun hf => ?_)
                · refine E_ldc (pc := 148) (v := (100022 : Int32)) dX6_readSign_148 co_X6_114 ?_
                  exact E_iret (pc := 150) dX6_readSign_150 rfl hf
                · refine E_iload (pc := 135) dX6_readSign_135 rfl ?_
                  refine E_if_eq (pc := 137) (tgt := 145) dX6_readSign_137 (by decide) hf (fun hf => ?_) (fun hf => ?_)
                  · refine E_ldc (pc := 145) (v := (100024 : Int32)) dX6_readSign_145 co_X6_121 ?_
                    exact E_iret (pc := 147) dX6_readSign_147 rfl hf
                  · refine E_ldc (pc := 140) (v := (100023 : Int32)) dX6_readSign_140 co_X6_120 ?_
                    refine E_goto (pc := 142) (tgt := 147) dX6_readSign_142 (by decide) ?_
                    exact E_iret (pc := 147) dX6_readSign_147 rfl hf
              · refine E_iload (pc := 118) dX6_readSign_118 rfl ?_
                refine E_if_eq (pc := 120) (tgt := 128) dX6_readSign_120 (by decide) hf (fun hf => ?_) (fun hf => ?_)
                · refine E_ldc (pc := 128) (v := (100020 : Int32)) dX6_readSign_128 co_X6_119 ?_
                  exact E_iret (pc := 130) dX6_readSign_130 rfl hf
                · refine E_ldc (pc := 123) (v := (100021 : Int32)) dX6_readSign_123 co_X6_118 ?_
                  refine E_goto (pc := 125) (tgt := 130) dX6_readSign_125 (by decide) ?_
                  exact E_iret (pc := 130) dX6_readSign_130 rfl hf
        · refine E_iload (pc := 91) dX6_readSign_91 rfl ?_
          refine E_if_eq (pc := 93) (tgt := 109) dX6_readSign_93 (by decide) hf (fun hf => ?_) (fun hf => ?_)
          · refine E_aload_n (pc := 109) dX6_readSign_109 rfl ?_
            refine E_iload_n (pc := 110) dX6_readSign_110 rfl ?_
            refine E_Vv (pc := 111) (d2 := D_X6_addPart) (ci := 6) [.int x5] dX6_readSign_111 ml_X6_115 mf_X6_addPart im_X6_addPart rfl rfl rfl (by decide) (Nat.le_of_ble_eq_true rfl) (Nat.le_of_ble_eq_true rfl) rfl (fun _ h => f_X6_addPart_ok h) hf (fun μ129 hf => ?_)
            refine E_iload_n (pc := 114) dX6_readSign_114 rfl ?_
            refine E_if_eq (pc := 115) (tgt := 131) dX6_readSign_115 (by decide) hf (fun hf => ?_) (fun hf => ?_)
            · refine E_iload_n (pc := 131) dX6_readSign_131 rfl ?_
              refine E_if_eq (pc := 132) (tgt := 148) dX6_readSign_132 (by decide) hf (fun hf => ?_) (fun hf => ?_)
              · refine E_ldc (pc := 148) (v := (100022 : Int32)) dX6_readSign_148 co_X6_114 ?_
                exact E_iret (pc := 150) dX6_readSign_150 rfl hf
              · refine E_iload (pc := 135) dX6_readSign_135 rfl ?_
                refine E_if_eq (pc := 137) (tgt := 145) dX6_readSign_137 (by decide) hf (fun hf => ?_) (fun hf => ?_)
                · refine E_ldc (pc := 145) (v := (100024 : Int32)) dX6_readSign_145 co_X6_121 ?_
                  exact E_iret (pc := 147) dX6_readSign_147 rfl hf
                · refine E_ldc (pc := 140) (v := (100023 : Int32)) dX6_readSign_140 co_X6_120 ?_
                  refine E_goto (pc := 142) (tgt := 147) dX6_readSign_142 (by decide) ?_
                  exact E_iret (pc := 147) dX6_readSign_147 rfl hf
            · refine E_iload (pc := 118) dX6_readSign_118 rfl ?_
              refine E_if_eq (pc := 120) (tgt := 128) dX6_readSign_120 (by decide) hf (fun hf => ?_) (fun hf => ?_)
              · refine E_ldc (pc := 128) (v := (100020 : Int32)) dX6_readSign_128 co_X6_119 ?_
                exact E_iret (pc := 130) dX6_readSign_130 rfl hf
              · refine E_ldc (pc := 123) (v := (100021 : Int32)) dX6_readSign_123 co_X6_118 ?_
                refine E_goto (pc := 125) (tgt := 130) dX6_readSign_125 (by decide) ?_
                exact E_iret (pc := 130) dX6_readSign_130 rfl hf
          · refine E_aload_n (pc := 96) dX6_readSign_96 rfl ?_
            refine E_getR (pc := 97) dX6_readSign_97 fl_X6_37 hf (fun v130 hf => ?_)
            refine E_dup (pc := 100) dX6_readSign_100 rfl ?_
            refine E_getI (pc := 101) dX6_readSign_101 fl_X6_103 hf (fun v131 hf => ?_)
            refine E_iconst (pc := 104) (v := (1 : Int32)) dX6_readSign_104 (by decide) ?_
            refine E_iadd (pc := 105) dX6_readSign_105 ?_
            refine E_putI (pc := 106) dX6_readSign_106 (pl_X6_103 _) hf (fun μ132 hf => ?_)
            refine E_aload_n (pc := 109) dX6_readSign_109 rfl ?_
            refine E_iload_n (pc := 110) dX6_readSign_110 rfl ?_
            refine E_Vv (pc := 111) (d2 := D_X6_addPart) (ci := 6) [.int x5] dX6_readSign_111 ml_X6_115 mf_X6_addPart im_X6_addPart rfl rfl rfl (by decide) (Nat.le_of_ble_eq_true rfl) (Nat.le_of_ble_eq_true rfl) rfl (fun _ h => f_X6_addPart_ok h) hf (fun μ133 hf => ?_)
            refine E_iload_n (pc := 114) dX6_readSign_114 rfl ?_
            refine E_if_eq (pc := 115) (tgt := 131) dX6_readSign_115 (by decide) hf (fun hf => ?_) (fun hf => ?_)
            · refine E_iload_n (pc := 131) dX6_readSign_131 rfl ?_
              refine E_if_eq (pc := 132) (tgt := 148) dX6_readSign_132 (by decide) hf (fun hf => ?_) (fun hf => ?_)
              · refine E_ldc (pc := 148) (v := (100022 : Int32)) dX6_readSign_148 co_X6_114 ?_
                exact E_iret (pc := 150) dX6_readSign_150 rfl hf
              · refine E_iload (pc := 135) dX6_readSign_135 rfl ?_
                refine E_if_eq (pc := 137) (tgt := 145) dX6_readSign_137 (by decide) hf (fun hf => ?_) (fun hf => ?_)
                · refine E_ldc (pc := 145) (v := (100024 : Int32)) dX6_readSign_145 co_X6_121 ?_
                  exact E_iret (pc := 147) dX6_readSign_147 rfl hf
                · refine E_ldc (pc := 140) (v := (100023 : Int32)) dX6_readSign_140 co_X6_120 ?_
                  refine E_goto (pc := 142) (tgt := 147) dX6_readSign_142 (by decide) ?_
                  exact E_iret (pc := 147) dX6_readSign_147 rfl hf
            · refine E_iload (pc := 118) dX6_readSign_118 rfl ?_
              refine E_if_eq (pc := 120) (tgt := 128) dX6_readSign_120 (by decide) hf (fun hf => ?_) (fun hf => ?_)
              · refine E_ldc (pc := 128) (v := (100020 : Int32)) dX6_readSign_128 co_X6_119 ?_
                exact E_iret (pc := 130) dX6_readSign_130 rfl hf
              · refine E_ldc (pc := 123) (v := (100021 : Int32)) dX6_readSign_123 co_X6_118 ?_
                refine E_goto (pc := 125) (tgt := 130) dX6_readSign_125 (by decide) ?_
                exact E_iret (pc := 130) dX6_readSign_130 rfl hf
      · refine E_iload (pc := 91) dX6_readSign_91 rfl ?_
        refine E_if_eq (pc := 93) (tgt := 109) dX6_readSign_93 (by decide) hf (fun hf => ?_) (fun hf => ?_)
        · refine E_aload_n (pc := 109) dX6_readSign_109 rfl ?_
          refine E_iload_n (pc := 110) dX6_readSign_110 rfl ?_
          refine E_Vv (pc := 111) (d2 := D_X6_addPart) (ci := 6) [.int x5] dX6_readSign_111 ml_X6_115 mf_X6_addPart im_X6_addPart rfl rfl rfl (by decide) (Nat.le_of_ble_eq_true rfl) (Nat.le_of_ble_eq_true rfl) rfl (fun _ h => f_X6_addPart_ok h) hf (fun μ134 hf => ?_)
          refine E_iload_n (pc := 114) dX6_readSign_114 rfl ?_
          refine E_if_eq (pc := 115) (tgt := 131) dX6_readSign_115 (by decide) hf (fun hf => ?_) (fun hf => ?_)
          · refine E_iload_n (pc := 131) dX6_readSign_131 rfl ?_
            refine E_if_eq (pc := 132) (tgt := 148) dX6_readSign_132 (by decide) hf (fun hf => ?_) (fun hf => ?_)
            · refine E_ldc (pc := 148) (v := (100022 : Int32)) dX6_readSign_148 co_X6_114 ?_
              exact E_iret (pc := 150) dX6_readSign_150 rfl hf
            · refine E_iload (pc := 135) dX6_readSign_135 rfl ?_
              refine E_if_eq (pc := 137) (tgt := 145) dX6_readSign_137 (by decide) hf (fun hf => ?_) (fun hf => ?_)
              · refine E_ldc (pc := 145) (v := (100024 : Int32)) dX6_readSign_145 co_X6_121 ?_
                exact E_iret (pc := 147) dX6_readSign_147 rfl hf
              · refine E_ldc (pc := 140) (v := (100023 : Int32)) dX6_readSign_140 co_X6_120 ?_
                refine E_goto (pc := 142) (tgt := 147) dX6_readSign_142 (by decide) ?_
                exact E_iret (pc := 147) dX6_readSign_147 rfl hf
          · refine E_iload (pc := 118) dX6_readSign_118 rfl ?_
            refine E_if_eq (pc := 120) (tgt := 128) dX6_readSign_120 (by decide) hf (fun hf => ?_) (fun hf => ?_)
            · refine E_ldc (pc := 128) (v := (100020 : Int32)) dX6_readSign_128 co_X6_119 ?_
              exact E_iret (pc := 130) dX6_readSign_130 rfl hf
            · refine E_ldc (pc := 123) (v := (100021 : Int32)) dX6_readSign_123 co_X6_118 ?_
              refine E_goto (pc := 125) (tgt := 130) dX6_readSign_125 (by decide) ?_
              exact E_iret (pc := 130) dX6_readSign_130 rfl hf
        · refine E_aload_n (pc := 96) dX6_readSign_96 rfl ?_
          refine E_getR (pc := 97) dX6_readSign_97 fl_X6_37 hf (fun v135 hf => ?_)
          refine E_dup (pc := 100) dX6_readSign_100 rfl ?_
          refine E_getI (pc := 101) dX6_readSign_101 fl_X6_103 hf (fun v136 hf => ?_)
          refine E_iconst (pc := 104) (v := (1 : Int32)) dX6_readSign_104 (by decide) ?_
          refine E_iadd (pc := 105) dX6_readSign_105 ?_
          refine E_putI (pc := 106) dX6_readSign_106 (pl_X6_103 _) hf (fun μ137 hf => ?_)
          refine E_aload_n (pc := 109) dX6_readSign_109 rfl ?_
          refine E_iload_n (pc := 110) dX6_readSign_110 rfl ?_
          refine E_Vv (pc := 111) (d2 := D_X6_addPart) (ci := 6) [.int x5] dX6_readSign_111 ml_X6_115 mf_X6_addPart im_X6_addPart rfl rfl rfl (by decide) (Nat.le_of_ble_eq_true rfl) (Nat.le_of_ble_eq_true rfl) rfl (fun _ h => f_X6_addPart_ok h) hf (fun μ138 hf => ?_)
          refine E_iload_n (pc := 114) dX6_readSign_114 rfl ?_
          refine E_if_eq (pc := 115) (tgt := 131) dX6_readSign_115 (by decide) hf (fun hf => ?_) (fun hf => ?_)
          · refine E_iload_n (pc := 131) dX6_readSign_131 rfl ?_
            refine E_if_eq (pc := 132) (tgt := 148) dX6_readSign_132 (by decide) hf (fun hf => ?_) (fun hf => ?_)
            · refine E_ldc (pc := 148) (v := (100022 : Int32)) dX6_readSign_148 co_X6_114 ?_
              exact E_iret (pc := 150) dX6_readSign_150 rfl hf
            · refine E_iload (pc := 135) dX6_readSign_135 rfl ?_
              refine E_if_eq (pc := 137) (tgt := 145) dX6_readSign_137 (by decide) hf (fun hf => ?_) (fun hf => ?_)
              · refine E_ldc (pc := 145) (v := (100024 : Int32)) dX6_readSign_145 co_X6_121 ?_
                exact E_iret (pc := 147) dX6_readSign_147 rfl hf
              · refine E_ldc (pc := 140) (v := (100023 : Int32)) dX6_readSign_140 co_X6_120 ?_
                refine E_goto (pc := 142) (tgt := 147) dX6_readSign_142 (by decide) ?_
                exact E_iret (pc := 147) dX6_readSign_147 rfl hf
          · refine E_iload (pc := 118) dX6_readSign_118 rfl ?_
            refine E_if_eq (pc := 120) (tgt := 128) dX6_readSign_120 (by decide) hf (fun hf => ?_) (fun hf => ?_)
            · refine E_ldc (pc := 128) (v := (100020 : Int32)) dX6_readSign_128 co_X6_119 ?_
              exact E_iret (pc := 130) dX6_readSign_130 rfl hf
            · refine E_ldc (pc := 123) (v := (100021 : Int32)) dX6_readSign_123 co_X6_118 ?_
              refine E_goto (pc := 125) (tgt := 130) dX6_readSign_125 (by decide) ?_
              exact E_iret (pc := 130) dX6_readSign_130 rfl hf
