theorem dX0_init_0 : decode cX0_init 0 = .ok (.aload_n 0, 1) := by decide +kernel
theorem dX0_init_1 : decode cX0_init 1 = .ok (.invokespecial 3, 3) := by decide +kernel
theorem dX0_init_4 : decode cX0_init 4 = .ok (.aload_n 0, 1) := by decide +kernel
theorem dX0_init_5 : decode cX0_init 5 = .ok (.iconst 0, 1) := by decide +kernel
theorem dX0_init_6 : decode cX0_init 6 = .ok (.putfield 9, 3) := by decide +kernel
theorem dX0_init_9 : decode cX0_init 9 = .ok (.aload_n 0, 1) := by decide +kernel
theorem dX0_init_10 : decode cX0_init 10 = .ok (.iconst 0, 1) := by decide +kernel
theorem dX0_init_11 : decode cX0_init 11 = .ok (.putfield 15, 3) := by decide +kernel
theorem dX0_init_14 : decode cX0_init 14 = .ok (.aload_n 0, 1) := by decide +kernel
theorem dX0_init_15 : decode cX0_init 15 = .ok (.iconst 0, 1) := by decide +kernel
theorem dX0_init_16 : decode cX0_init 16 = .ok (.putfield 18, 3) := by decide +kernel
theorem dX0_init_19 : decode cX0_init 19 = .ok (.aload_n 0, 1) := by decide +kernel
theorem dX0_init_20 : decode cX0_init 20 = .ok (.iconst 0, 1) := by decide +kernel
theorem dX0_init_21 : decode cX0_init 21 = .ok (.putfield 21, 3) := by decide +kernel
theorem dX0_init_24 : decode cX0_init 24 = .ok (.aload_n 0, 1) := by decide +kernel
theorem dX0_init_25 : decode cX0_init 25 = .ok (.iconst 0, 1) := by decide +kernel
theorem dX0_init_26 : decode cX0_init 26 = .ok (.putfield 24, 3) := by decide +kernel
theorem dX0_init_29 : decode cX0_init 29 = .ok (.aload_n 0, 1) := by decide +kernel
theorem dX0_init_30 : decode cX0_init 30 = .ok (.iconst 0, 1) := by decide +kernel
theorem dX0_init_31 : decode cX0_init 31 = .ok (.putfield 27, 3) := by decide +kernel
theorem dX0_init_34 : decode cX0_init 34 = .ok (.aload_n 0, 1) := by decide +kernel
theorem dX0_init_35 : decode cX0_init 35 = .ok (.iconst 0, 1) := by decide +kernel
theorem dX0_init_36 : decode cX0_init 36 = .ok (.putfield 30, 3) := by decide +kernel
theorem dX0_init_39 : decode cX0_init 39 = .ok (.aload_n 0, 1) := by decide +kernel
theorem dX0_init_40 : decode cX0_init 40 = .ok (.iconst 0, 1) := by decide +kernel
theorem dX0_init_41 : decode cX0_init 41 = .ok (.putfield 33, 3) := by decide +kernel
theorem dX0_init_44 : decode cX0_init 44 = .ok (.aload_n 0, 1) := by decide +kernel
theorem dX0_init_45 : decode cX0_init 45 = .ok (.bipush 12, 2) := by decide +kernel
theorem dX0_init_47 : decode cX0_init 47 = .ok (.newarray .int, 2) := by decide +kernel
theorem dX0_init_49 : decode cX0_init 49 = .ok (.putfield 39, 3) := by decide +kernel
theorem dX0_init_52 : decode cX0_init 52 = .ok (.aload_n 0, 1) := by decide +kernel
theorem dX0_init_53 : decode cX0_init 53 = .ok (.aload_n 1, 1) := by decide +kernel
theorem dX0_init_54 : decode cX0_init 54 = .ok (.putfield 43, 3) := by decide +kernel
theorem dX0_init_57 : decode cX0_init 57 = .ok (.aload_n 0, 1) := by decide +kernel
theorem dX0_init_58 : decode cX0_init 58 = .ok (.aload_n 1, 1) := by decide +kernel
theorem dX0_init_59 : decode cX0_init 59 = .ok (.getfield 47, 3) := by decide +kernel
theorem dX0_init_62 : decode cX0_init 62 = .ok (.putfield 53, 3) := by decide +kernel
theorem dX0_init_65 : decode cX0_init 65 = .ok (.aload_n 0, 1) := by decide +kernel
theorem dX0_init_66 : decode cX0_init 66 = .ok (.aload_n 2, 1) := by decide +kernel
theorem dX0_init_67 : decode cX0_init 67 = .ok (.putfield 54, 3) := by decide +kernel
theorem dX0_init_70 : decode cX0_init 70 = .ok (.return_, 1) := by decide +kernel
abbrev D_X0_init : Nat := 1
set_option maxRecDepth 100000 in
def f_X0_init (μ0 : Mm) (a1 : Nat) (a2 : Nat) (a3 : Nat) : Option Mm :=
 ((pV μ0 a1 0 3 (.int (0 : Int32))).bind fun μ4 =>
    ((pV μ4 a1 0 4 (.int (0 : Int32))).bind fun μ5 =>
    ((pV μ5 a1 0 5 (.int (0 : Int32))).bind fun μ6 =>
    ((pV μ6 a1 0 6 (.int (0 : Int32))).bind fun μ7 =>
    ((pV μ7 a1 0 7 (.int (0 : Int32))).bind fun μ8 =>
    ((pV μ8 a1 0 8 (.int (0 : Int32))).bind fun μ9 =>
    ((pV μ9 a1 0 9 (.int (0 : Int32))).bind fun μ10 =>
    ((pZ μ10 a1 0 10 (0 : Int32)).bind fun μ11 =>
    (bd (nA μ11 0 (12 : Int32)) fun a12 μ13 =>
    ((pV μ13 a1 0 11 (.ref a12)).bind fun μ14 =>
    ((pV μ14 a1 0 0 (.ref a2)).bind fun μ15 =>
    ((gR μ15 a2 7 0).bind fun v16 =>
    ((pV μ15 a1 0 1 (.ref v16)).bind fun μ17 =>
    ((pV μ17 a1 0 2 (.ref a3)).bind fun μ18 =>
    (some μ18)))))))))))))))
set_option maxHeartbeats 4000000 in
set_option maxRecDepth 100000 in
theorem f_X0_init_ok {l : Launch} {G : GG} {μ0 : Mm} {a1 : Nat} {a2 : Nat} {a3 : Nat} {μ' : Mm} (hf : f_X0_init μ0 a1 a2 a3 = some μ') : EvM l G D_X0_init yX0_init cX0_init 3 none [.ref a1, .ref a2, .ref a3] μ0 none μ' := by
  show Ev l G D_X0_init yX0_init cX0_init 3 none 0 [(0, .ref a1), (1, .ref a2), (2, .ref a3)] [] μ0 none μ'
  unfold f_X0_init at hf
  refine E_aload_n (pc := 0) dX0_init_0 rfl ?_
  refine E_objI (pc := 1) dX0_init_1 (by decide) (Nat.le_of_ble_eq_true rfl) ml_X0_3 ?_
  refine E_aload_n (pc := 4) dX0_init_4 rfl ?_
  refine E_iconst (pc := 5) (v := (0 : Int32)) dX0_init_5 (by decide) ?_
  refine E_putI (pc := 6) dX0_init_6 (pl_X0_9 _) hf (fun μ4 hf => ?_)
  refine E_aload_n (pc := 9) dX0_init_9 rfl ?_
  refine E_iconst (pc := 10) (v := (0 : Int32)) dX0_init_10 (by decide) ?_
  refine E_putI (pc := 11) dX0_init_11 (pl_X0_15 _) hf (fun μ5 hf => ?_)
  refine E_aload_n (pc := 14) dX0_init_14 rfl ?_
  refine E_iconst (pc := 15) (v := (0 : Int32)) dX0_init_15 (by decide) ?_
  refine E_putI (pc := 16) dX0_init_16 (pl_X0_18 _) hf (fun μ6 hf => ?_)
  refine E_aload_n (pc := 19) dX0_init_19 rfl ?_
  refine E_iconst (pc := 20) (v := (0 : Int32)) dX0_init_20 (by decide) ?_
  refine E_putI (pc := 21) dX0_init_21 (pl_X0_21 _) hf (fun μ7 hf => ?_)
  refine E_aload_n (pc := 24) dX0_init_24 rfl ?_
  refine E_iconst (pc := 25) (v := (0 : Int32)) dX0_init_25 (by decide) ?_
  refine E_putI (pc := 26) dX0_init_26 (pl_X0_24 _) hf (fun μ8 hf => ?_)
  refine E_aload_n (pc := 29) dX0_init_29 rfl ?_
  refine E_iconst (pc := 30) (v := (0 : Int32)) dX0_init_30 (by decide) ?_
  refine E_putI (pc := 31) dX0_init_31 (pl_X0_27 _) hf (fun μ9 hf => ?_)
  refine E_aload_n (pc := 34) dX0_init_34 rfl ?_
  refine E_iconst (pc := 35) (v := (0 : Int32)) dX0_init_35 (by decide) ?_
  refine E_putI (pc := 36) dX0_init_36 (pl_X0_30 _) hf (fun μ10 hf => ?_)
  refine E_aload_n (pc := 39) dX0_init_39 rfl ?_
  refine E_iconst (pc := 40) (v := (0 : Int32)) dX0_init_40 (by decide) ?_
  refine E_putZ (pc := 41) dX0_init_41 (pl_X0_33 _) hf (fun μ11 hf => ?_)
  refine E_aload_n (pc := 44) dX0_init_44 rfl ?_
  refine E_bipush (pc := 45) (v := (12 : Int32)) dX0_init_45 (by decide) ?_
  refine E_newa2 (pc := 47) dX0_init_47 (by decide) ac_int hf (fun a12 μ13 hf => ?_)
  refine E_putA (pc := 49) dX0_init_49 pl_X0_39 hf (fun μ14 hf => ?_)
  refine E_aload_n (pc := 52) dX0_init_52 rfl ?_
  refine E_aload_n (pc := 53) dX0_init_53 rfl ?_
  refine E_putR (pc := 54) dX0_init_54 (pl_X0_43 _) hf (fun μ15 hf => ?_)
  refine E_aload_n (pc := 57) dX0_init_57 rfl ?_
  refine E_aload_n (pc := 58) dX0_init_58 rfl ?_
  refine E_getR (pc := 59) dX0_init_59 fl_X0_47 hf (fun v16 hf => ?_)
  refine E_putR (pc := 62) dX0_init_62 (pl_X0_53 _) hf (fun μ17 hf => ?_)
  refine E_aload_n (pc := 65) dX0_init_65 rfl ?_
  refine E_aload_n (pc := 66) dX0_init_66 rfl ?_
  refine E_putR (pc := 67) dX0_init_67 (pl_X0_54 _) hf (fun μ18 hf => ?_)
  exact E_vret (pc := 70) dX0_init_70 rfl hf
theorem dX0_begin_0 : decode cX0_begin 0 = .ok (.aload_n 0, 1) := by decide +kernel
theorem dX0_begin_1 : decode cX0_begin 1 = .ok (.aload_n 1, 1) := by decide +kernel
theorem dX0_begin_2 : decode cX0_begin 2 = .ok (.putfield 43, 3) := by decide +kernel
theorem dX0_begin_5 : decode cX0_begin 5 = .ok (.aload_n 0, 1) := by decide +kernel
theorem dX0_begin_6 : decode cX0_begin 6 = .ok (.aload_n 1, 1) := by decide +kernel
theorem dX0_begin_7 : decode cX0_begin 7 = .ok (.getfield 47, 3) := by decide +kernel
theorem dX0_begin_10 : decode cX0_begin 10 = .ok (.putfield 53, 3) := by decide +kernel
theorem dX0_begin_13 : decode cX0_begin 13 = .ok (.aload_n 0, 1) := by decide +kernel
theorem dX0_begin_14 : decode cX0_begin 14 = .ok (.aload_n 2, 1) := by decide +kernel
theorem dX0_begin_15 : decode cX0_begin 15 = .ok (.putfield 54, 3) := by decide +kernel
theorem dX0_begin_18 : decode cX0_begin 18 = .ok (.aload_n 0, 1) := by decide +kernel
theorem dX0_begin_19 : decode cX0_begin 19 = .ok (.iload_n 3, 1) := by decide +kernel
theorem dX0_begin_20 : decode cX0_begin 20 = .ok (.putfield 9, 3) := by decide +kernel
theorem dX0_begin_23 : decode cX0_begin 23 = .ok (.aload_n 0, 1) := by decide +kernel
theorem dX0_begin_24 : decode cX0_begin 24 = .ok (.aload_n 1, 1) := by decide +kernel
theorem dX0_begin_25 : decode cX0_begin 25 = .ok (.getfield 58, 3) := by decide +kernel
theorem dX0_begin_28 : decode cX0_begin 28 = .ok (.putfield 15, 3) := by decide +kernel
theorem dX0_begin_31 : decode cX0_begin 31 = .ok (.aload_n 0, 1) := by decide +kernel
theorem dX0_begin_32 : decode cX0_begin 32 = .ok (.aload_n 1, 1) := by decide +kernel
theorem dX0_begin_33 : decode cX0_begin 33 = .ok (.getfield 59, 3) := by decide +kernel
theorem dX0_begin_36 : decode cX0_begin 36 = .ok (.iload_n 3, 1) := by decide +kernel
theorem dX0_begin_37 : decode cX0_begin 37 = .ok (.iaload, 1) := by decide +kernel
theorem dX0_begin_38 : decode cX0_begin 38 = .ok (.putfield 18, 3) := by decide +kernel
theorem dX0_begin_41 : decode cX0_begin 41 = .ok (.aload_n 0, 1) := by decide +kernel
theorem dX0_begin_42 : decode cX0_begin 42 = .ok (.iconst 0, 1) := by decide +kernel
theorem dX0_begin_43 : decode cX0_begin 43 = .ok (.putfield 21, 3) := by decide +kernel
theorem dX0_begin_46 : decode cX0_begin 46 = .ok (.aload_n 0, 1) := by decide +kernel
theorem dX0_begin_47 : decode cX0_begin 47 = .ok (.iconst 0, 1) := by decide +kernel
theorem dX0_begin_48 : decode cX0_begin 48 = .ok (.putfield 24, 3) := by decide +kernel
theorem dX0_begin_51 : decode cX0_begin 51 = .ok (.aload_n 0, 1) := by decide +kernel
theorem dX0_begin_52 : decode cX0_begin 52 = .ok (.iconst 0, 1) := by decide +kernel
theorem dX0_begin_53 : decode cX0_begin 53 = .ok (.putfield 27, 3) := by decide +kernel
theorem dX0_begin_56 : decode cX0_begin 56 = .ok (.aload_n 0, 1) := by decide +kernel
theorem dX0_begin_57 : decode cX0_begin 57 = .ok (.iconst 0, 1) := by decide +kernel
theorem dX0_begin_58 : decode cX0_begin 58 = .ok (.putfield 30, 3) := by decide +kernel
theorem dX0_begin_61 : decode cX0_begin 61 = .ok (.aload_n 0, 1) := by decide +kernel
theorem dX0_begin_62 : decode cX0_begin 62 = .ok (.iconst 0, 1) := by decide +kernel
theorem dX0_begin_63 : decode cX0_begin 63 = .ok (.putfield 33, 3) := by decide +kernel
theorem dX0_begin_66 : decode cX0_begin 66 = .ok (.aload_n 0, 1) := by decide +kernel
theorem dX0_begin_67 : decode cX0_begin 67 = .ok (.getfield 39, 3) := by decide +kernel
theorem dX0_begin_70 : decode cX0_begin 70 = .ok (.iconst 0, 1) := by decide +kernel
theorem dX0_begin_71 : decode cX0_begin 71 = .ok (.iload_n 3, 1) := by decide +kernel
theorem dX0_begin_72 : decode cX0_begin 72 = .ok (.iastore, 1) := by decide +kernel
theorem dX0_begin_73 : decode cX0_begin 73 = .ok (.aload_n 0, 1) := by decide +kernel
theorem dX0_begin_74 : decode cX0_begin 74 = .ok (.getfield 39, 3) := by decide +kernel
theorem dX0_begin_77 : decode cX0_begin 77 = .ok (.bipush 10, 2) := by decide +kernel
theorem dX0_begin_79 : decode cX0_begin 79 = .ok (.aload_n 0, 1) := by decide +kernel
theorem dX0_begin_80 : decode cX0_begin 80 = .ok (.getfield 53, 3) := by decide +kernel
theorem dX0_begin_83 : decode cX0_begin 83 = .ok (.getfield 62, 3) := by decide +kernel
theorem dX0_begin_86 : decode cX0_begin 86 = .ok (.iload_n 3, 1) := by decide +kernel
theorem dX0_begin_87 : decode cX0_begin 87 = .ok (.iaload, 1) := by decide +kernel
theorem dX0_begin_88 : decode cX0_begin 88 = .ok (.iastore, 1) := by decide +kernel
theorem dX0_begin_89 : decode cX0_begin 89 = .ok (.return_, 1) := by decide +kernel
abbrev D_X0_begin : Nat := 1
set_option maxRecDepth 100000 in
def f_X0_begin (μ0 : Mm) (a1 : Nat) (a2 : Nat) (a3 : Nat) (x4 : Int32) : Option Mm :=
 ((pV μ0 a1 0 0 (.ref a2)).bind fun μ5 =>
    ((gR μ5 a2 7 0).bind fun v6 =>
    ((pV μ5 a1 0 1 (.ref v6)).bind fun μ7 =>
    ((pV μ7 a1 0 2 (.ref a3)).bind fun μ8 =>
    ((pV μ8 a1 0 3 (.int x4)).bind fun μ9 =>
    ((gI μ9 a2 7 3).bind fun v10 =>
    ((pV μ9 a1 0 4 (.int v10)).bind fun μ11 =>
    ((gR μ11 a2 7 4).bind fun v12 =>
    ((aI μ11 v12 0 x4).bind fun v13 =>
    ((pV μ11 a1 0 5 (.int v13)).bind fun μ14 =>
    ((pV μ14 a1 0 6 (.int (0 : Int32))).bind fun μ15 =>
    ((pV μ15 a1 0 7 (.int (0 : Int32))).bind fun μ16 =>
    ((pV μ16 a1 0 8 (.int (0 : Int32))).bind fun μ17 =>
    ((pV μ17 a1 0 9 (.int (0 : Int32))).bind fun μ18 =>
    ((pZ μ18 a1 0 10 (0 : Int32)).bind fun μ19 =>
    ((gR μ19 a1 0 11).bind fun v20 =>
    ((sI μ19 v20 0 (0 : Int32) x4).bind fun μ21 =>
    ((gR μ21 a1 0 11).bind fun v22 =>
    ((gR μ21 a1 0 1).bind fun v23 =>
    ((gR μ21 v23 1 8).bind fun v24 =>
    ((aI μ21 v24 0 x4).bind fun v25 =>
    ((sI μ21 v22 0 (10 : Int32) v25).bind fun μ26 =>
    (some μ26)))))))))))))))))))))))
set_option maxHeartbeats 4000000 in
set_option maxRecDepth 100000 in
theorem f_X0_begin_ok {l : Launch} {G : GG} {μ0 : Mm} {a1 : Nat} {a2 : Nat} {a3 : Nat} {x4 : Int32} {μ' : Mm} (hf : f_X0_begin μ0 a1 a2 a3 x4 = some μ') : EvM l G D_X0_begin yX0_begin cX0_begin 4 none [.ref a1, .ref a2, .ref a3, .int x4] μ0 none μ' := by
  show Ev l G D_X0_begin yX0_begin cX0_begin 4 none 0 [(0, .ref a1), (1, .ref a2), (2, .ref a3), (3, .int x4)] [] μ0 none μ'
  unfold f_X0_begin at hf
  refine E_aload_n (pc := 0) dX0_begin_0 rfl ?_
  refine E_aload_n (pc := 1) dX0_begin_1 rfl ?_
  refine E_putR (pc := 2) dX0_begin_2 (pl_X0_43 _) hf (fun μ5 hf => ?_)
  refine E_aload_n (pc := 5) dX0_begin_5 rfl ?_
  refine E_aload_n (pc := 6) dX0_begin_6 rfl ?_
  refine E_getR (pc := 7) dX0_begin_7 fl_X0_47 hf (fun v6 hf => ?_)
  refine E_putR (pc := 10) dX0_begin_10 (pl_X0_53 _) hf (fun μ7 hf => ?_)
  refine E_aload_n (pc := 13) dX0_begin_13 rfl ?_
  refine E_aload_n (pc := 14) dX0_begin_14 rfl ?_
  refine E_putR (pc := 15) dX0_begin_15 (pl_X0_54 _) hf (fun μ8 hf => ?_)
  refine E_aload_n (pc := 18) dX0_begin_18 rfl ?_
  refine E_iload_n (pc := 19) dX0_begin_19 rfl ?_
  refine E_putI (pc := 20) dX0_begin_20 (pl_X0_9 _) hf (fun μ9 hf => ?_)
  refine E_aload_n (pc := 23) dX0_begin_23 rfl ?_
  refine E_aload_n (pc := 24) dX0_begin_24 rfl ?_
  refine E_getI (pc := 25) dX0_begin_25 fl_X0_58 hf (fun v10 hf => ?_)
  refine E_putI (pc := 28) dX0_begin_28 (pl_X0_15 _) hf (fun μ11 hf => ?_)
  refine E_aload_n (pc := 31) dX0_begin_31 rfl ?_
  refine E_aload_n (pc := 32) dX0_begin_32 rfl ?_
  refine E_getR (pc := 33) dX0_begin_33 fl_X0_59 hf (fun v12 hf => ?_)
  refine E_iload_n (pc := 36) dX0_begin_36 rfl ?_
  refine E_iald (pc := 37) dX0_begin_37 hf (fun v13 hf => ?_)
  refine E_putI (pc := 38) dX0_begin_38 (pl_X0_18 _) hf (fun μ14 hf => ?_)
  refine E_aload_n (pc := 41) dX0_begin_41 rfl ?_
  refine E_iconst (pc := 42) (v := (0 : Int32)) dX0_begin_42 (by decide) ?_
  refine E_putI (pc := 43) dX0_begin_43 (pl_X0_21 _) hf (fun μ15 hf => ?_)
  refine E_aload_n (pc := 46) dX0_begin_46 rfl ?_
  refine E_iconst (pc := 47) (v := (0 : Int32)) dX0_begin_47 (by decide) ?_
  refine E_putI (pc := 48) dX0_begin_48 (pl_X0_24 _) hf (fun μ16 hf => ?_)
  refine E_aload_n (pc := 51) dX0_begin_51 rfl ?_
  refine E_iconst (pc := 52) (v := (0 : Int32)) dX0_begin_52 (by decide) ?_
  refine E_putI (pc := 53) dX0_begin_53 (pl_X0_27 _) hf (fun μ17 hf => ?_)
  refine E_aload_n (pc := 56) dX0_begin_56 rfl ?_
  refine E_iconst (pc := 57) (v := (0 : Int32)) dX0_begin_57 (by decide) ?_
  refine E_putI (pc := 58) dX0_begin_58 (pl_X0_30 _) hf (fun μ18 hf => ?_)
  refine E_aload_n (pc := 61) dX0_begin_61 rfl ?_
  refine E_iconst (pc := 62) (v := (0 : Int32)) dX0_begin_62 (by decide) ?_
  refine E_putZ (pc := 63) dX0_begin_63 (pl_X0_33 _) hf (fun μ19 hf => ?_)
  refine E_aload_n (pc := 66) dX0_begin_66 rfl ?_
  refine E_getR (pc := 67) dX0_begin_67 fl_X0_39 hf (fun v20 hf => ?_)
  refine E_iconst (pc := 70) (v := (0 : Int32)) dX0_begin_70 (by decide) ?_
  refine E_iload_n (pc := 71) dX0_begin_71 rfl ?_
  refine E_iast (pc := 72) dX0_begin_72 hf (fun μ21 hf => ?_)
  refine E_aload_n (pc := 73) dX0_begin_73 rfl ?_
  refine E_getR (pc := 74) dX0_begin_74 fl_X0_39 hf (fun v22 hf => ?_)
  refine E_bipush (pc := 77) (v := (10 : Int32)) dX0_begin_77 (by decide) ?_
  refine E_aload_n (pc := 79) dX0_begin_79 rfl ?_
  refine E_getR (pc := 80) dX0_begin_80 fl_X0_53 hf (fun v23 hf => ?_)
  refine E_getR (pc := 83) dX0_begin_83 fl_X0_62 hf (fun v24 hf => ?_)
  refine E_iload_n (pc := 86) dX0_begin_86 rfl ?_
  refine E_iald (pc := 87) dX0_begin_87 hf (fun v25 hf => ?_)
  refine E_iast (pc := 88) dX0_begin_88 hf (fun μ26 hf => ?_)
  exact E_vret (pc := 89) dX0_begin_89 rfl hf
theorem dX0_touch_0 : decode cX0_touch 0 = .ok (.aload_n 0, 1) := by decide +kernel
theorem dX0_touch_1 : decode cX0_touch 1 = .ok (.getfield 39, 3) := by decide +kernel
theorem dX0_touch_4 : decode cX0_touch 4 = .ok (.iconst 1, 1) := by decide +kernel
theorem dX0_touch_5 : decode cX0_touch 5 = .ok (.iload_n 1, 1) := by decide +kernel
theorem dX0_touch_6 : decode cX0_touch 6 = .ok (.iastore, 1) := by decide +kernel
theorem dX0_touch_7 : decode cX0_touch 7 = .ok (.aload_n 0, 1) := by decide +kernel
theorem dX0_touch_8 : decode cX0_touch 8 = .ok (.getfield 39, 3) := by decide +kernel
theorem dX0_touch_11 : decode cX0_touch 11 = .ok (.bipush 6, 2) := by decide +kernel
theorem dX0_touch_13 : decode cX0_touch 13 = .ok (.aload_n 0, 1) := by decide +kernel
theorem dX0_touch_14 : decode cX0_touch 14 = .ok (.getfield 53, 3) := by decide +kernel
theorem dX0_touch_17 : decode cX0_touch 17 = .ok (.getfield 111, 3) := by decide +kernel
theorem dX0_touch_20 : decode cX0_touch 20 = .ok (.iload_n 1, 1) := by decide +kernel
theorem dX0_touch_21 : decode cX0_touch 21 = .ok (.iaload, 1) := by decide +kernel
theorem dX0_touch_22 : decode cX0_touch 22 = .ok (.iastore, 1) := by decide +kernel
theorem dX0_touch_23 : decode cX0_touch 23 = .ok (.aload_n 0, 1) := by decide +kernel
theorem dX0_touch_24 : decode cX0_touch 24 = .ok (.getfield 39, 3) := by decide +kernel
theorem dX0_touch_27 : decode cX0_touch 27 = .ok (.bipush 7, 2) := by decide +kernel
theorem dX0_touch_29 : decode cX0_touch 29 = .ok (.aload_n 0, 1) := by decide +kernel
theorem dX0_touch_30 : decode cX0_touch 30 = .ok (.getfield 53, 3) := by decide +kernel
theorem dX0_touch_33 : decode cX0_touch 33 = .ok (.getfield 114, 3) := by decide +kernel
theorem dX0_touch_36 : decode cX0_touch 36 = .ok (.iload_n 1, 1) := by decide +kernel
theorem dX0_touch_37 : decode cX0_touch 37 = .ok (.iaload, 1) := by decide +kernel
theorem dX0_touch_38 : decode cX0_touch 38 = .ok (.iastore, 1) := by decide +kernel
theorem dX0_touch_39 : decode cX0_touch 39 = .ok (.aload_n 0, 1) := by decide +kernel
theorem dX0_touch_40 : decode cX0_touch 40 = .ok (.getfield 39, 3) := by decide +kernel
theorem dX0_touch_43 : decode cX0_touch 43 = .ok (.bipush 8, 2) := by decide +kernel
theorem dX0_touch_45 : decode cX0_touch 45 = .ok (.aload_n 0, 1) := by decide +kernel
theorem dX0_touch_46 : decode cX0_touch 46 = .ok (.getfield 53, 3) := by decide +kernel
theorem dX0_touch_49 : decode cX0_touch 49 = .ok (.getfield 117, 3) := by decide +kernel
theorem dX0_touch_52 : decode cX0_touch 52 = .ok (.iload_n 1, 1) := by decide +kernel
theorem dX0_touch_53 : decode cX0_touch 53 = .ok (.iaload, 1) := by decide +kernel
theorem dX0_touch_54 : decode cX0_touch 54 = .ok (.aload_n 0, 1) := by decide +kernel
theorem dX0_touch_55 : decode cX0_touch 55 = .ok (.getfield 9, 3) := by decide +kernel
theorem dX0_touch_58 : decode cX0_touch 58 = .ok (.if_icmp .ne 7, 3) := by decide +kernel
theorem dX0_touch_61 : decode cX0_touch 61 = .ok (.iconst 1, 1) := by decide +kernel
theorem dX0_touch_62 : decode cX0_touch 62 = .ok (.goto 4, 3) := by decide +kernel
theorem dX0_touch_65 : decode cX0_touch 65 = .ok (.iconst 0, 1) := by decide +kernel
theorem dX0_touch_66 : decode cX0_touch 66 = .ok (.iastore, 1) := by decide +kernel
theorem dX0_touch_67 : decode cX0_touch 67 = .ok (.aload_n 0, 1) := by decide +kernel
theorem dX0_touch_68 : decode cX0_touch 68 = .ok (.getfield 39, 3) := by decide +kernel
theorem dX0_touch_71 : decode cX0_touch 71 = .ok (.bipush 9, 2) := by decide +kernel
theorem dX0_touch_73 : decode cX0_touch 73 = .ok (.aload_n 0, 1) := by decide +kernel
theorem dX0_touch_74 : decode cX0_touch 74 = .ok (.getfield 27, 3) := by decide +kernel
theorem dX0_touch_77 : decode cX0_touch 77 = .ok (.invokestatic 94, 3) := by decide +kernel
theorem dX0_touch_80 : decode cX0_touch 80 = .ok (.iastore, 1) := by decide +kernel
theorem dX0_touch_81 : decode cX0_touch 81 = .ok (.aload_n 0, 1) := by decide +kernel
theorem dX0_touch_82 : decode cX0_touch 82 = .ok (.getfield 54, 3) := by decide +kernel
theorem dX0_touch_85 : decode cX0_touch 85 = .ok (.aload_n 0, 1) := by decide +kernel
theorem dX0_touch_86 : decode cX0_touch 86 = .ok (.getfield 39, 3) := by decide +kernel
theorem dX0_touch_89 : decode cX0_touch 89 = .ok (.invokevirtual 120, 3) := by decide +kernel
theorem dX0_touch_92 : decode cX0_touch 92 = .ok (.ifCond .eq 35, 3) := by decide +kernel
theorem dX0_touch_95 : decode cX0_touch 95 = .ok (.aload_n 0, 1) := by decide +kernel
theorem dX0_touch_96 : decode cX0_touch 96 = .ok (.dup, 1) := by decide +kernel
theorem dX0_touch_97 : decode cX0_touch 97 = .ok (.getfield 30, 3) := by decide +kernel
theorem dX0_touch_100 : decode cX0_touch 100 = .ok (.aload_n 0, 1) := by decide +kernel
theorem dX0_touch_101 : decode cX0_touch 101 = .ok (.getfield 54, 3) := by decide +kernel
theorem dX0_touch_104 : decode cX0_touch 104 = .ok (.aload_n 0, 1) := by decide +kernel
theorem dX0_touch_105 : decode cX0_touch 105 = .ok (.getfield 39, 3) := by decide +kernel
theorem dX0_touch_108 : decode cX0_touch 108 = .ok (.invokevirtual 124, 3) := by decide +kernel
theorem dX0_touch_111 : decode cX0_touch 111 = .ok (.iadd, 1) := by decide +kernel
theorem dX0_touch_112 : decode cX0_touch 112 = .ok (.putfield 30, 3) := by decide +kernel
theorem dX0_touch_115 : decode cX0_touch 115 = .ok (.aload_n 0, 1) := by decide +kernel
theorem dX0_touch_116 : decode cX0_touch 116 = .ok (.dup, 1) := by decide +kernel
theorem dX0_touch_117 : decode cX0_touch 117 = .ok (.getfield 27, 3) := by decide +kernel
theorem dX0_touch_120 : decode cX0_touch 120 = .ok (.iconst 1, 1) := by decide +kernel
theorem dX0_touch_121 : decode cX0_touch 121 = .ok (.iload_n 1, 1) := by decide +kernel
theorem dX0_touch_122 : decode cX0_touch 122 = .ok (.ishl, 1) := by decide +kernel
theorem dX0_touch_123 : decode cX0_touch 123 = .ok (.ior, 1) := by decide +kernel
theorem dX0_touch_124 : decode cX0_touch 124 = .ok (.putfield 27, 3) := by decide +kernel
theorem dX0_touch_127 : decode cX0_touch 127 = .ok (.return_, 1) := by decide +kernel
abbrev D_X0_touch : Nat := 4
set_option maxRecDepth 100000 in
def f_X0_touch (μ0 : Mm) (a1 : Nat) (x2 : Int32) : Option Mm :=
 ((gR μ0 a1 0 11).bind fun v3 =>
    ((sI μ0 v3 0 (1 : Int32) x2).bind fun μ4 =>
    ((gR μ4 a1 0 11).bind fun v5 =>
    ((gR μ4 a1 0 1).bind fun v6 =>
    ((gR μ4 v6 1 12).bind fun v7 =>
    ((aI μ4 v7 0 x2).bind fun v8 =>
    ((sI μ4 v5 0 (6 : Int32) v8).bind fun μ9 =>
    ((gR μ9 a1 0 11).bind fun v10 =>
    ((gR μ9 a1 0 1).bind fun v11 =>
    ((gR μ9 v11 1 13).bind fun v12 =>
    ((aI μ9 v12 0 x2).bind fun v13 =>
    ((sI μ9 v10 0 (7 : Int32) v13).bind fun μ14 =>
    ((gR μ14 a1 0 11).bind fun v15 =>
    ((gR μ14 a1 0 1).bind fun v16 =>
    ((gR μ14 v16 1 11).bind fun v17 =>
    ((aI μ14 v17 0 x2).bind fun v18 =>
    ((gI μ14 a1 0 3).bind fun v19 =>
    (if v18 = v19 then
    ((sI μ14 v15 0 (8 : Int32) (1 : Int32)).bind fun μ20 =>
    ((gR μ20 a1 0 11).bind fun v21 =>
    ((gI μ20 a1 0 8).bind fun v22 =>
    (bd (f_J6_bitCount_0f7a4 μ20 v22) fun v24 μ23 =>
    ((sI μ23 v21 0 (9 : Int32) v24).bind fun μ25 =>
    ((gR μ25 a1 0 2).bind fun v26 =>
    ((gR μ25 a1 0 11).bind fun v27 =>
    ((ob μ25 v26 5).bind fun _ =>
    (bd (f_X5_breaksBy μ25 v26 v27) fun v29 μ28 =>
    (if v29 = 0 then
    (some μ28)
    else
    ((gI μ28 a1 0 9).bind fun v30 =>
    ((gR μ28 a1 0 2).bind fun v31 =>
    ((gR μ28 a1 0 11).bind fun v32 =>
    ((ob μ28 v31 5).bind fun _ =>
    (bd (f_X5_lossBy μ28 v31 v32) fun v34 μ33 =>
    ((pV μ33 a1 0 9 (.int (v30 + v34))).bind fun μ35 =>
    ((gI μ35 a1 0 8).bind fun v36 =>
    ((pV μ35 a1 0 8 (.int (v36 ||| ((1 : Int32) <<< (x2 &&& 31))))).bind fun μ37 =>
    (some μ37)))))))))))))))))))
    else
    ((sI μ14 v15 0 (8 : Int32) (0 : Int32)).bind fun μ38 =>
    ((gR μ38 a1 0 11).bind fun v39 =>
    ((gI μ38 a1 0 8).bind fun v40 =>
    (bd (f_J6_bitCount_0f7a4 μ38 v40) fun v42 μ41 =>
    ((sI μ41 v39 0 (9 : Int32) v42).bind fun μ43 =>
    ((gR μ43 a1 0 2).bind fun v44 =>
    ((gR μ43 a1 0 11).bind fun v45 =>
    ((ob μ43 v44 5).bind fun _ =>
    (bd (f_X5_breaksBy μ43 v44 v45) fun v47 μ46 =>
    (if v47 = 0 then
    (some μ46)
    else
    ((gI μ46 a1 0 9).bind fun v48 =>
    ((gR μ46 a1 0 2).bind fun v49 =>
    ((gR μ46 a1 0 11).bind fun v50 =>
    ((ob μ46 v49 5).bind fun _ =>
    (bd (f_X5_lossBy μ46 v49 v50) fun v52 μ51 =>
    ((pV μ51 a1 0 9 (.int (v48 + v52))).bind fun μ53 =>
    ((gI μ53 a1 0 8).bind fun v54 =>
    ((pV μ53 a1 0 8 (.int (v54 ||| ((1 : Int32) <<< (x2 &&& 31))))).bind fun μ55 =>
    (some μ55)))))))))))))))))))))))))))))))))))))
set_option maxHeartbeats 4000000 in
set_option maxRecDepth 100000 in
theorem f_X0_touch_ok {l : Launch} {G : GG} {μ0 : Mm} {a1 : Nat} {x2 : Int32} {μ' : Mm} (hf : f_X0_touch μ0 a1 x2 = some μ') : EvM l G D_X0_touch yX0_touch cX0_touch 2 none [.ref a1, .int x2] μ0 none μ' := by
  show Ev l G D_X0_touch yX0_touch cX0_touch 2 none 0 [(0, .ref a1), (1, .int x2)] [] μ0 none μ'
  unfold f_X0_touch at hf
  refine E_aload_n (pc := 0) dX0_touch_0 rfl ?_
  refine E_getR (pc := 1) dX0_touch_1 fl_X0_39 hf (fun v3 hf => ?_)
  refine E_iconst (pc := 4) (v := (1 : Int32)) dX0_touch_4 (by decide) ?_
  refine E_iload_n (pc := 5) dX0_touch_5 rfl ?_
  refine E_iast (pc := 6) dX0_touch_6 hf (fun μ4 hf => ?_)
  refine E_aload_n (pc := 7) dX0_touch_7 rfl ?_
  refine E_getR (pc := 8) dX0_touch_8 fl_X0_39 hf (fun v5 hf => ?_)
  refine E_bipush (pc := 11) (v := (6 : Int32)) dX0_touch_11 (by decide) ?_
  refine E_aload_n (pc := 13) dX0_touch_13 rfl ?_
  refine E_getR (pc := 14) dX0_touch_14 fl_X0_53 hf (fun v6 hf => ?_)
  refine E_getR (pc := 17) dX0_touch_17 fl_X0_111 hf (fun v7 hf => ?_)
  refine E_iload_n (pc := 20) dX0_touch_20 rfl ?_
  refine E_iald (pc := 21) dX0_touch_21 hf (fun v8 hf => ?_)
  refine E_iast (pc := 22) dX0_touch_22 hf (fun μ9 hf => ?_)
  refine E_aload_n (pc := 23) dX0_touch_23 rfl ?_
  refine E_getR (pc := 24) dX0_touch_24 fl_X0_39 hf (fun v10 hf => ?_)
  refine E_bipush (pc := 27) (v := (7 : Int32)) dX0_touch_27 (by decide) ?_
  refine E_aload_n (pc := 29) dX0_touch_29 rfl ?_
  refine E_getR (pc := 30) dX0_touch_30 fl_X0_53 hf (fun v11 hf => ?_)
  refine E_getR (pc := 33) dX0_touch_33 fl_X0_114 hf (fun v12 hf => ?_)
  refine E_iload_n (pc := 36) dX0_touch_36 rfl ?_
  refine E_iald (pc := 37) dX0_touch_37 hf (fun v13 hf => ?_)
  refine E_iast (pc := 38) dX0_touch_38 hf (fun μ14 hf => ?_)
  refine E_aload_n (pc := 39) dX0_touch_39 rfl ?_
  refine E_getR (pc := 40) dX0_touch_40 fl_X0_39 hf (fun v15 hf => ?_)
  refine E_bipush (pc := 43) (v := (8 : Int32)) dX0_touch_43 (by decide) ?_
  refine E_aload_n (pc := 45) dX0_touch_45 rfl ?_
  refine E_getR (pc := 46) dX0_touch_46 fl_X0_53 hf (fun v16 hf => ?_)
  refine E_getR (pc := 49) dX0_touch_49 fl_X0_117 hf (fun v17 hf => ?_)
  refine E_iload_n (pc := 52) dX0_touch_52 rfl ?_
  refine E_iald (pc := 53) dX0_touch_53 hf (fun v18 hf => ?_)
  refine E_aload_n (pc := 54) dX0_touch_54 rfl ?_
  refine E_getI (pc := 55) dX0_touch_55 fl_X0_9 hf (fun v19 hf => ?_)
  refine E_icmp_ne (pc := 58) (tgt := 65) dX0_touch_58 (by decide) hf (fun hf => ?_) (fun hf => ?_)
  · refine E_iconst (pc := 61) (v := (1 : Int32)) dX0_touch_61 (by decide) ?_
    refine E_goto (pc := 62) (tgt := 66) dX0_touch_62 (by decide) ?_
    refine E_iast (pc := 66) dX0_touch_66 hf (fun μ20 hf => ?_)
    refine E_aload_n (pc := 67) dX0_touch_67 rfl ?_
    refine E_getR (pc := 68) dX0_touch_68 fl_X0_39 hf (fun v21 hf => ?_)
    refine E_bipush (pc := 71) (v := (9 : Int32)) dX0_touch_71 (by decide) ?_
    refine E_aload_n (pc := 73) dX0_touch_73 rfl ?_
    refine E_getI (pc := 74) dX0_touch_74 fl_X0_27 hf (fun v22 hf => ?_)
    refine E_Si (pc := 77) (d2 := D_J6_bitCount_0f7a4) [.int v22] dX0_touch_77 ml_X0_94 mf_J6_bitCount_0f7a4 st_J6_bitCount_0f7a4 rfl (by decide) (Nat.le_of_ble_eq_true rfl) (Nat.le_of_ble_eq_true rfl) rfl (fun _ _ h => f_J6_bitCount_0f7a4_ok h) hf (fun v24 μ23 hf => ?_)
    refine E_iast (pc := 80) dX0_touch_80 hf (fun μ25 hf => ?_)
    refine E_aload_n (pc := 81) dX0_touch_81 rfl ?_
    refine E_getR (pc := 82) dX0_touch_82 fl_X0_54 hf (fun v26 hf => ?_)
    refine E_aload_n (pc := 85) dX0_touch_85 rfl ?_
    refine E_getR (pc := 86) dX0_touch_86 fl_X0_39 hf (fun v27 hf => ?_)
    refine E_Vi (pc := 89) (d2 := D_X5_breaksBy) (ci := 5) [.ref v27] dX0_touch_89 ml_X0_120 mf_X5_breaksBy im_X5_breaksBy rfl rfl rfl (by decide) (Nat.le_of_ble_eq_true rfl) (Nat.le_of_ble_eq_true rfl) rfl (fun _ _ h => f_X5_breaksBy_ok h) hf (fun v29 μ28 hf => ?_)
    refine E_if_eq (pc := 92) (tgt := 127) dX0_touch_92 (by decide) hf (fun hf => ?_) (fun hf => ?_)
    · exact E_vret (pc := 127) dX0_touch_127 rfl hf
    · refine E_aload_n (pc := 95) dX0_touch_95 rfl ?_
      refine E_dup (pc := 96) dX0_touch_96 rfl ?_
      refine E_getI (pc := 97) dX0_touch_97 fl_X0_30 hf (fun v30 hf => ?_)
      refine E_aload_n (pc := 100) dX0_touch_100 rfl ?_
      refine E_getR (pc := 101) dX0_touch_101 fl_X0_54 hf (fun v31 hf => ?_)
      refine E_aload_n (pc := 104) dX0_touch_104 rfl ?_
      refine E_getR (pc := 105) dX0_touch_105 fl_X0_39 hf (fun v32 hf => ?_)
      refine E_Vi (pc := 108) (d2 := D_X5_lossBy) (ci := 5) [.ref v32] dX0_touch_108 ml_X0_124 mf_X5_lossBy im_X5_lossBy rfl rfl rfl (by decide) (Nat.le_of_ble_eq_true rfl) (Nat.le_of_ble_eq_true rfl) rfl (fun _ _ h => f_X5_lossBy_ok h) hf (fun v34 μ33 hf => ?_)
      refine E_iadd (pc := 111) dX0_touch_111 ?_
      refine E_putI (pc := 112) dX0_touch_112 (pl_X0_30 _) hf (fun μ35 hf => ?_)
      refine E_aload_n (pc := 115) dX0_touch_115 rfl ?_
      refine E_dup (pc := 116) dX0_touch_116 rfl ?_
      refine E_getI (pc := 117) dX0_touch_117 fl_X0_27 hf (fun v36 hf => ?_)
      refine E_iconst (pc := 120) (v := (1 : Int32)) dX0_touch_120 (by decide) ?_
      refine E_iload_n (pc := 121) dX0_touch_121 rfl ?_
      refine E_ishl (pc := 122) dX0_touch_122 ?_
      refine E_ior (pc := 123) dX0_touch_123 ?_
      refine E_putI (pc := 124) dX0_touch_124 (pl_X0_27 _) hf (fun μ37 hf => ?_)
      exact E_vret (pc := 127) dX0_touch_127 rfl hf
  · refine E_iconst (pc := 65) (v := (0 : Int32)) dX0_touch_65 (by decide) ?_
    refine E_iast (pc := 66) dX0_touch_66 hf (fun μ38 hf => ?_)
    refine E_aload_n (pc := 67) dX0_touch_67 rfl ?_
    refine E_getR (pc := 68) dX0_touch_68 fl_X0_39 hf (fun v39 hf => ?_)
    refine E_bipush (pc := 71) (v := (9 : Int32)) dX0_touch_71 (by decide) ?_
    refine E_aload_n (pc := 73) dX0_touch_73 rfl ?_
    refine E_getI (pc := 74) dX0_touch_74 fl_X0_27 hf (fun v40 hf => ?_)
    refine E_Si (pc := 77) (d2 := D_J6_bitCount_0f7a4) [.int v40] dX0_touch_77 ml_X0_94 mf_J6_bitCount_0f7a4 st_J6_bitCount_0f7a4 rfl (by decide) (Nat.le_of_ble_eq_true rfl) (Nat.le_of_ble_eq_true rfl) rfl (fun _ _ h => f_J6_bitCount_0f7a4_ok h) hf (fun v42 μ41 hf => ?_)
    refine E_iast (pc := 80) dX0_touch_80 hf (fun μ43 hf => ?_)
    refine E_aload_n (pc := 81) dX0_touch_81 rfl ?_
    refine E_getR (pc := 82) dX0_touch_82 fl_X0_54 hf (fun v44 hf => ?_)
    refine E_aload_n (pc := 85) dX0_touch_85 rfl ?_
    refine E_getR (pc := 86) dX0_touch_86 fl_X0_39 hf (fun v45 hf => ?_)
    refine E_Vi (pc := 89) (d2 := D_X5_breaksBy) (ci := 5) [.ref v45] dX0_touch_89 ml_X0_120 mf_X5_breaksBy im_X5_breaksBy rfl rfl rfl (by decide) (Nat.le_of_ble_eq_true rfl) (Nat.le_of_ble_eq_true rfl) rfl (fun _ _ h => f_X5_breaksBy_ok h) hf (fun v47 μ46 hf => ?_)
    refine E_if_eq (pc := 92) (tgt := 127) dX0_touch_92 (by decide) hf (fun hf => ?_) (fun hf => ?_)
    · exact E_vret (pc := 127) dX0_touch_127 rfl hf
    · refine E_aload_n (pc := 95) dX0_touch_95 rfl ?_
      refine E_dup (pc := 96) dX0_touch_96 rfl ?_
      refine E_getI (pc := 97) dX0_touch_97 fl_X0_30 hf (fun v48 hf => ?_)
      refine E_aload_n (pc := 100) dX0_touch_100 rfl ?_
      refine E_getR (pc := 101) dX0_touch_101 fl_X0_54 hf (fun v49 hf => ?_)
      refine E_aload_n (pc := 104) dX0_touch_104 rfl ?_
      refine E_getR (pc := 105) dX0_touch_105 fl_X0_39 hf (fun v50 hf => ?_)
      refine E_Vi (pc := 108) (d2 := D_X5_lossBy) (ci := 5) [.ref v50] dX0_touch_108 ml_X0_124 mf_X5_lossBy im_X5_lossBy rfl rfl rfl (by decide) (Nat.le_of_ble_eq_true rfl) (Nat.le_of_ble_eq_true rfl) rfl (fun _ _ h => f_X5_lossBy_ok h) hf (fun v52 μ51 hf => ?_)
      refine E_iadd (pc := 111) dX0_touch_111 ?_
      refine E_putI (pc := 112) dX0_touch_112 (pl_X0_30 _) hf (fun μ53 hf => ?_)
      refine E_aload_n (pc := 115) dX0_touch_115 rfl ?_
      refine E_dup (pc := 116) dX0_touch_116 rfl ?_
      refine E_getI (pc := 117) dX0_touch_117 fl_X0_27 hf (fun v54 hf => ?_)
      refine E_iconst (pc := 120) (v := (1 : Int32)) dX0_touch_120 (by decide) ?_
      refine E_iload_n (pc := 121) dX0_touch_121 rfl ?_
      refine E_ishl (pc := 122) dX0_touch_122 ?_
      refine E_ior (pc := 123) dX0_touch_123 ?_
      refine E_putI (pc := 124) dX0_touch_124 (pl_X0_27 _) hf (fun μ55 hf => ?_)
      exact E_vret (pc := 127) dX0_touch_127 rfl hf
theorem dX0_stepTo_0 : decode cX0_stepTo 0 = .ok (.aload_n 0, 1) := by decide +kernel
theorem dX0_stepTo_1 : decode cX0_stepTo 1 = .ok (.getfield 53, 3) := by decide +kernel
theorem dX0_stepTo_4 : decode cX0_stepTo 4 = .ok (.aload_n 0, 1) := by decide +kernel
theorem dX0_stepTo_5 : decode cX0_stepTo 5 = .ok (.getfield 18, 3) := by decide +kernel
theorem dX0_stepTo_8 : decode cX0_stepTo 8 = .ok (.iload_n 1, 1) := by decide +kernel
theorem dX0_stepTo_9 : decode cX0_stepTo 9 = .ok (.invokevirtual 78, 3) := by decide +kernel
theorem dX0_stepTo_12 : decode cX0_stepTo 12 = .ok (.istore_n 2, 1) := by decide +kernel
theorem dX0_stepTo_13 : decode cX0_stepTo 13 = .ok (.aload_n 0, 1) := by decide +kernel
theorem dX0_stepTo_14 : decode cX0_stepTo 14 = .ok (.iconst 0, 1) := by decide +kernel
theorem dX0_stepTo_15 : decode cX0_stepTo 15 = .ok (.aload_n 0, 1) := by decide +kernel
theorem dX0_stepTo_16 : decode cX0_stepTo 16 = .ok (.getfield 21, 3) := by decide +kernel
theorem dX0_stepTo_19 : decode cX0_stepTo 19 = .ok (.iload_n 2, 1) := by decide +kernel
theorem dX0_stepTo_20 : decode cX0_stepTo 20 = .ok (.iadd, 1) := by decide +kernel
theorem dX0_stepTo_21 : decode cX0_stepTo 21 = .ok (.aload_n 0, 1) := by decide +kernel
theorem dX0_stepTo_22 : decode cX0_stepTo 22 = .ok (.getfield 53, 3) := by decide +kernel
theorem dX0_stepTo_25 : decode cX0_stepTo 25 = .ok (.getfield 62, 3) := by decide +kernel
theorem dX0_stepTo_28 : decode cX0_stepTo 28 = .ok (.aload_n 0, 1) := by decide +kernel
theorem dX0_stepTo_29 : decode cX0_stepTo 29 = .ok (.getfield 9, 3) := by decide +kernel
theorem dX0_stepTo_32 : decode cX0_stepTo 32 = .ok (.iaload, 1) := by decide +kernel
theorem dX0_stepTo_33 : decode cX0_stepTo 33 = .ok (.isub, 1) := by decide +kernel
theorem dX0_stepTo_34 : decode cX0_stepTo 34 = .ok (.invokestatic 81, 3) := by decide +kernel
theorem dX0_stepTo_37 : decode cX0_stepTo 37 = .ok (.putfield 21, 3) := by decide +kernel
theorem dX0_stepTo_40 : decode cX0_stepTo 40 = .ok (.aload_n 0, 1) := by decide +kernel
theorem dX0_stepTo_41 : decode cX0_stepTo 41 = .ok (.iload_n 1, 1) := by decide +kernel
theorem dX0_stepTo_42 : decode cX0_stepTo 42 = .ok (.putfield 18, 3) := by decide +kernel
theorem dX0_stepTo_45 : decode cX0_stepTo 45 = .ok (.aload_n 0, 1) := by decide +kernel
theorem dX0_stepTo_46 : decode cX0_stepTo 46 = .ok (.dup, 1) := by decide +kernel
theorem dX0_stepTo_47 : decode cX0_stepTo 47 = .ok (.getfield 24, 3) := by decide +kernel
theorem dX0_stepTo_50 : decode cX0_stepTo 50 = .ok (.iconst 1, 1) := by decide +kernel
theorem dX0_stepTo_51 : decode cX0_stepTo 51 = .ok (.iadd, 1) := by decide +kernel
theorem dX0_stepTo_52 : decode cX0_stepTo 52 = .ok (.putfield 24, 3) := by decide +kernel
theorem dX0_stepTo_55 : decode cX0_stepTo 55 = .ok (.aload_n 0, 1) := by decide +kernel
theorem dX0_stepTo_56 : decode cX0_stepTo 56 = .ok (.aload_n 0, 1) := by decide +kernel
theorem dX0_stepTo_57 : decode cX0_stepTo 57 = .ok (.getfield 53, 3) := by decide +kernel
theorem dX0_stepTo_60 : decode cX0_stepTo 60 = .ok (.iload_n 1, 1) := by decide +kernel
theorem dX0_stepTo_61 : decode cX0_stepTo 61 = .ok (.invokevirtual 86, 3) := by decide +kernel
theorem dX0_stepTo_64 : decode cX0_stepTo 64 = .ok (.putfield 33, 3) := by decide +kernel
theorem dX0_stepTo_67 : decode cX0_stepTo 67 = .ok (.aload_n 0, 1) := by decide +kernel
theorem dX0_stepTo_68 : decode cX0_stepTo 68 = .ok (.getfield 33, 3) := by decide +kernel
theorem dX0_stepTo_71 : decode cX0_stepTo 71 = .ok (.ifCond .eq 9, 3) := by decide +kernel
theorem dX0_stepTo_74 : decode cX0_stepTo 74 = .ok (.aload_n 0, 1) := by decide +kernel
theorem dX0_stepTo_75 : decode cX0_stepTo 75 = .ok (.iconst 0, 1) := by decide +kernel
theorem dX0_stepTo_76 : decode cX0_stepTo 76 = .ok (.putfield 21, 3) := by decide +kernel
theorem dX0_stepTo_79 : decode cX0_stepTo 79 = .ok (.return_, 1) := by decide +kernel
theorem dX0_stepTo_80 : decode cX0_stepTo 80 = .ok (.aload_n 0, 1) := by decide +kernel
theorem dX0_stepTo_81 : decode cX0_stepTo 81 = .ok (.getfield 43, 3) := by decide +kernel
theorem dX0_stepTo_84 : decode cX0_stepTo 84 = .ok (.iload_n 1, 1) := by decide +kernel
theorem dX0_stepTo_85 : decode cX0_stepTo 85 = .ok (.invokevirtual 90, 3) := by decide +kernel
theorem dX0_stepTo_88 : decode cX0_stepTo 88 = .ok (.iconst 1, 1) := by decide +kernel
theorem dX0_stepTo_89 : decode cX0_stepTo 89 = .ok (.aload_n 0, 1) := by decide +kernel
theorem dX0_stepTo_90 : decode cX0_stepTo 90 = .ok (.getfield 9, 3) := by decide +kernel
theorem dX0_stepTo_93 : decode cX0_stepTo 93 = .ok (.ishl, 1) := by decide +kernel
theorem dX0_stepTo_94 : decode cX0_stepTo 94 = .ok (.iconst (-1), 1) := by decide +kernel
theorem dX0_stepTo_95 : decode cX0_stepTo 95 = .ok (.ixor, 1) := by decide +kernel
theorem dX0_stepTo_96 : decode cX0_stepTo 96 = .ok (.iand, 1) := by decide +kernel
theorem dX0_stepTo_97 : decode cX0_stepTo 97 = .ok (.invokestatic 94, 3) := by decide +kernel
theorem dX0_stepTo_100 : decode cX0_stepTo 100 = .ok (.istore_n 3, 1) := by decide +kernel
theorem dX0_stepTo_101 : decode cX0_stepTo 101 = .ok (.aload_n 0, 1) := by decide +kernel
theorem dX0_stepTo_102 : decode cX0_stepTo 102 = .ok (.getfield 39, 3) := by decide +kernel
theorem dX0_stepTo_105 : decode cX0_stepTo 105 = .ok (.iconst 2, 1) := by decide +kernel
theorem dX0_stepTo_106 : decode cX0_stepTo 106 = .ok (.aload_n 0, 1) := by decide +kernel
theorem dX0_stepTo_107 : decode cX0_stepTo 107 = .ok (.getfield 21, 3) := by decide +kernel
theorem dX0_stepTo_110 : decode cX0_stepTo 110 = .ok (.iastore, 1) := by decide +kernel
theorem dX0_stepTo_111 : decode cX0_stepTo 111 = .ok (.aload_n 0, 1) := by decide +kernel
theorem dX0_stepTo_112 : decode cX0_stepTo 112 = .ok (.getfield 39, 3) := by decide +kernel
theorem dX0_stepTo_115 : decode cX0_stepTo 115 = .ok (.iconst 3, 1) := by decide +kernel
theorem dX0_stepTo_116 : decode cX0_stepTo 116 = .ok (.iload_n 2, 1) := by decide +kernel
theorem dX0_stepTo_117 : decode cX0_stepTo 117 = .ok (.iastore, 1) := by decide +kernel
theorem dX0_stepTo_118 : decode cX0_stepTo 118 = .ok (.aload_n 0, 1) := by decide +kernel
theorem dX0_stepTo_119 : decode cX0_stepTo 119 = .ok (.getfield 39, 3) := by decide +kernel
theorem dX0_stepTo_122 : decode cX0_stepTo 122 = .ok (.iconst 4, 1) := by decide +kernel
theorem dX0_stepTo_123 : decode cX0_stepTo 123 = .ok (.aload_n 0, 1) := by decide +kernel
theorem dX0_stepTo_124 : decode cX0_stepTo 124 = .ok (.getfield 24, 3) := by decide +kernel
theorem dX0_stepTo_127 : decode cX0_stepTo 127 = .ok (.iastore, 1) := by decide +kernel
theorem dX0_stepTo_128 : decode cX0_stepTo 128 = .ok (.aload_n 0, 1) := by decide +kernel
theorem dX0_stepTo_129 : decode cX0_stepTo 129 = .ok (.getfield 39, 3) := by decide +kernel
theorem dX0_stepTo_132 : decode cX0_stepTo 132 = .ok (.iconst 5, 1) := by decide +kernel
theorem dX0_stepTo_133 : decode cX0_stepTo 133 = .ok (.aload_n 0, 1) := by decide +kernel
theorem dX0_stepTo_134 : decode cX0_stepTo 134 = .ok (.getfield 53, 3) := by decide +kernel
theorem dX0_stepTo_137 : decode cX0_stepTo 137 = .ok (.getfield 99, 3) := by decide +kernel
theorem dX0_stepTo_140 : decode cX0_stepTo 140 = .ok (.iload_n 1, 1) := by decide +kernel
theorem dX0_stepTo_141 : decode cX0_stepTo 141 = .ok (.iaload, 1) := by decide +kernel
theorem dX0_stepTo_142 : decode cX0_stepTo 142 = .ok (.iastore, 1) := by decide +kernel
theorem dX0_stepTo_143 : decode cX0_stepTo 143 = .ok (.aload_n 0, 1) := by decide +kernel
theorem dX0_stepTo_144 : decode cX0_stepTo 144 = .ok (.getfield 39, 3) := by decide +kernel
theorem dX0_stepTo_147 : decode cX0_stepTo 147 = .ok (.bipush 11, 2) := by decide +kernel
theorem dX0_stepTo_149 : decode cX0_stepTo 149 = .ok (.iload_n 3, 1) := by decide +kernel
theorem dX0_stepTo_150 : decode cX0_stepTo 150 = .ok (.iastore, 1) := by decide +kernel
theorem dX0_stepTo_151 : decode cX0_stepTo 151 = .ok (.aload_n 0, 1) := by decide +kernel
theorem dX0_stepTo_152 : decode cX0_stepTo 152 = .ok (.getfield 43, 3) := by decide +kernel
theorem dX0_stepTo_155 : decode cX0_stepTo 155 = .ok (.iload_n 1, 1) := by decide +kernel
theorem dX0_stepTo_156 : decode cX0_stepTo 156 = .ok (.invokevirtual 102, 3) := by decide +kernel
theorem dX0_stepTo_159 : decode cX0_stepTo 159 = .ok (.aload_n 0, 1) := by decide +kernel
theorem dX0_stepTo_160 : decode cX0_stepTo 160 = .ok (.getfield 15, 3) := by decide +kernel
theorem dX0_stepTo_163 : decode cX0_stepTo 163 = .ok (.iconst (-1), 1) := by decide +kernel
theorem dX0_stepTo_164 : decode cX0_stepTo 164 = .ok (.ixor, 1) := by decide +kernel
theorem dX0_stepTo_165 : decode cX0_stepTo 165 = .ok (.iand, 1) := by decide +kernel
theorem dX0_stepTo_166 : decode cX0_stepTo 166 = .ok (.istore 4, 2) := by decide +kernel
theorem dX0_stepTo_168 : decode cX0_stepTo 168 = .ok (.iconst 0, 1) := by decide +kernel
theorem dX0_stepTo_169 : decode cX0_stepTo 169 = .ok (.istore 5, 2) := by decide +kernel
theorem dX0_stepTo_171 : decode cX0_stepTo 171 = .ok (.iload 5, 2) := by decide +kernel
theorem dX0_stepTo_173 : decode cX0_stepTo 173 = .ok (.aload_n 0, 1) := by decide +kernel
theorem dX0_stepTo_174 : decode cX0_stepTo 174 = .ok (.getfield 53, 3) := by decide +kernel
theorem dX0_stepTo_177 : decode cX0_stepTo 177 = .ok (.getfield 105, 3) := by decide +kernel
theorem dX0_stepTo_180 : decode cX0_stepTo 180 = .ok (.if_icmp .ge 25, 3) := by decide +kernel
theorem dX0_stepTo_183 : decode cX0_stepTo 183 = .ok (.iload 4, 2) := by decide +kernel
theorem dX0_stepTo_185 : decode cX0_stepTo 185 = .ok (.iload 5, 2) := by decide +kernel
theorem dX0_stepTo_187 : decode cX0_stepTo 187 = .ok (.ishr, 1) := by decide +kernel
theorem dX0_stepTo_188 : decode cX0_stepTo 188 = .ok (.iconst 1, 1) := by decide +kernel
theorem dX0_stepTo_189 : decode cX0_stepTo 189 = .ok (.iand, 1) := by decide +kernel
theorem dX0_stepTo_190 : decode cX0_stepTo 190 = .ok (.ifCond .eq 9, 3) := by decide +kernel
theorem dX0_stepTo_193 : decode cX0_stepTo 193 = .ok (.aload_n 0, 1) := by decide +kernel
theorem dX0_stepTo_194 : decode cX0_stepTo 194 = .ok (.iload 5, 2) := by decide +kernel
theorem dX0_stepTo_196 : decode cX0_stepTo 196 = .ok (.invokevirtual 108, 3) := by decide +kernel
theorem dX0_stepTo_199 : decode cX0_stepTo 199 = .ok (.iinc 5 1, 3) := by decide +kernel
theorem dX0_stepTo_202 : decode cX0_stepTo 202 = .ok (.goto (-31), 3) := by decide +kernel
theorem dX0_stepTo_205 : decode cX0_stepTo 205 = .ok (.iload_n 3, 1) := by decide +kernel
theorem dX0_stepTo_206 : decode cX0_stepTo 206 = .ok (.ifCond .le 13, 3) := by decide +kernel
theorem dX0_stepTo_209 : decode cX0_stepTo 209 = .ok (.aload_n 0, 1) := by decide +kernel
theorem dX0_stepTo_210 : decode cX0_stepTo 210 = .ok (.dup, 1) := by decide +kernel
theorem dX0_stepTo_211 : decode cX0_stepTo 211 = .ok (.getfield 21, 3) := by decide +kernel
theorem dX0_stepTo_214 : decode cX0_stepTo 214 = .ok (.iconst 2, 1) := by decide +kernel
theorem dX0_stepTo_215 : decode cX0_stepTo 215 = .ok (.idiv, 1) := by decide +kernel
theorem dX0_stepTo_216 : decode cX0_stepTo 216 = .ok (.putfield 21, 3) := by decide +kernel
theorem dX0_stepTo_219 : decode cX0_stepTo 219 = .ok (.return_, 1) := by decide +kernel
abbrev D_X0_stepTo : Nat := 5
def f_X0_stepTo_L171 (K205 : Mm → Nat → Int32 → Option Mm) : Nat → Mm → Nat → Int32 → Int32 → Int32 → Option Mm
  | 0, _, _, _, _, _ => none
  | n + 1, μ0, a50, x51, x52, x53 =>
    ((gR μ0 a50 0 1).bind fun v54 =>
    ((gI μ0 v54 1 9).bind fun v55 =>
    (if v55 ≤ x53 then
    K205 μ0 a50 x51
    else
    (if ((x52 >>> (x53 &&& 31)) &&& (1 : Int32)) = 0 then
    (nm (x53 + Int32.ofInt (1)) fun x56 =>
    f_X0_stepTo_L171 K205 n μ0 a50 x51 x52 x56)
    else
    ((ob μ0 a50 0).bind fun _ =>
    ((f_X0_touch μ0 a50 x53).bind fun μ57 =>
    (nm (x53 + Int32.ofInt (1)) fun x58 =>
    f_X0_stepTo_L171 K205 n μ57 a50 x51 x52 x58)))))))
set_option maxHeartbeats 4000000 in
set_option maxRecDepth 100000 in
theorem f_X0_stepTo_L171_ok {l : Launch} {G : GG} {K205 : Mm → Nat → Int32 → Option Mm} {μ' : Mm} (n : Nat) (μ0 : Mm) (a50 : Nat) (x51 : Int32) (x52 : Int32) (x53 : Int32) (hf : f_X0_stepTo_L171 K205 n μ0 a50 x51 x52 x53 = some μ') (hK205 : ∀ (μ1 : Mm) (y0 : Nat) (y3 : Int32), K205 μ1 y0 y3 = some μ' → Ev l G D_X0_stepTo yX0_stepTo cX0_stepTo 6 none 205 [(0, .ref y0), (3, .int y3)] [] μ1 none μ') : Ev l G D_X0_stepTo yX0_stepTo cX0_stepTo 6 none 171 [(0, .ref a50), (3, .int x51), (4, .int x52), (5, .int x53)] [] μ0 none μ' := by
  induction n generalizing μ0 a50 x51 x52 x53 with
  | zero => cases hf
  | succ n ih0 =>
    have ih : ∀ (μ0 : Mm) (a50 : Nat) (x51 : Int32) (x52 : Int32) (x53 : Int32), f_X0_stepTo_L171 K205 n μ0 a50 x51 x52 x53 = some μ' → Ev l G D_X0_stepTo yX0_stepTo cX0_stepTo 6 none 171 [(0, .ref a50), (3, .int x51), (4, .int x52), (5, .int x53)] [] μ0 none μ' := fun μ0 a50 x51 x52 x53 hf => ih0 μ0 a50 x51 x52 x53 hf
    rw [f_X0_stepTo_L171] at hf
    refine E_iload (pc := 171) dX0_stepTo_171 rfl ?_
    refine E_aload_n (pc := 173) dX0_stepTo_173 rfl ?_
    refine E_getR (pc := 174) dX0_stepTo_174 fl_X0_53 hf (fun v54 hf => ?_)
    refine E_getI (pc := 177) dX0_stepTo_177 fl_X0_105 hf (fun v55 hf => ?_)
    refine E_icmp_ge (pc := 180) (tgt := 205) dX0_stepTo_180 (by decide) hf (fun hf => ?_) (fun hf => ?_)
    · refine Ev.sub [0, 1] rfl ?_
      exact hK205 _ _ _ hf
    · refine E_iload (pc := 183) dX0_stepTo_183 rfl ?_
      refine E_iload (pc := 185) dX0_stepTo_185 rfl ?_
      refine E_ishr (pc := 187) dX0_stepTo_187 ?_
      refine E_iconst (pc := 188) (v := (1 : Int32)) dX0_stepTo_188 (by decide) ?_
      refine E_iand (pc := 189) dX0_stepTo_189 ?_
      refine E_if_eq (pc := 190) (tgt := 199) dX0_stepTo_190 (by decide) hf (fun hf => ?_) (fun hf => ?_)
      · refine E_iinc (pc := 199) (ls' := fun x56 => [(5, .int x56), (0, .ref a50), (3, .int x51), (4, .int x52)]) dX0_stepTo_199 rfl (by decide) (fun _ => rfl) hf (fun x56 hf => ?_)
        refine E_goto (pc := 202) (tgt := 171) dX0_stepTo_202 (by decide) ?_
        refine Ev.sub [1, 2, 3, 0] rfl ?_
        exact ih _ _ _ _ _ hf
      · refine E_aload_n (pc := 193) dX0_stepTo_193 rfl ?_
        refine E_iload (pc := 194) dX0_stepTo_194 rfl ?_
        refine E_Vv (pc := 196) (d2 := D_X0_touch) (ci := 0) [.int x53] dX0_stepTo_196 ml_X0_108 mf_X0_touch im_X0_touch rfl rfl rfl (by decide) (Nat.le_of_ble_eq_true rfl) (Nat.le_of_ble_eq_true rfl) rfl (fun _ h => f_X0_touch_ok h) hf (fun μ57 hf => ?_)
        refine E_iinc (pc := 199) (ls' := fun x58 => [(5, .int x58), (0, .ref a50), (3, .int x51), (4, .int x52)]) dX0_stepTo_199 rfl (by decide) (fun _ => rfl) hf (fun x58 hf => ?_)
        refine E_goto (pc := 202) (tgt := 171) dX0_stepTo_202 (by decide) ?_
        refine Ev.sub [1, 2, 3, 0] rfl ?_
        exact ih _ _ _ _ _ hf
set_option maxRecDepth 100000 in
def f_X0_stepTo (μ0 : Mm) (a1 : Nat) (x2 : Int32) : Option Mm :=
 ((gR μ0 a1 0 1).bind fun v3 =>
    ((gI μ0 a1 0 5).bind fun v4 =>
    ((ob μ0 v3 1).bind fun _ =>
    (bd (f_X1_dropTo μ0 v3 v4 x2) fun v6 μ5 =>
    (nm v6 fun x7 =>
    ((gI μ5 a1 0 6).bind fun v8 =>
    ((gR μ5 a1 0 1).bind fun v9 =>
    ((gR μ5 v9 1 8).bind fun v10 =>
    ((gI μ5 a1 0 3).bind fun v11 =>
    ((aI μ5 v10 0 v11).bind fun v12 =>
    ((pV μ5 a1 0 6 (.int (if (0 : Int32) < ((v8 + x7) - v12) then ((v8 + x7) - v12) else (0 : Int32)))).bind fun μ13 =>
    ((pV μ13 a1 0 5 (.int x2)).bind fun μ14 =>
    ((gI μ14 a1 0 7).bind fun v15 =>
    ((pV μ14 a1 0 7 (.int (v15 + (1 : Int32)))).bind fun μ16 =>
    ((gR μ16 a1 0 1).bind fun v17 =>
    ((ob μ16 v17 1).bind fun _ =>
    (bd (f_X1_hasNet μ16 v17 x2) fun v19 μ18 =>
    ((pZ μ18 a1 0 10 v19).bind fun μ20 =>
    ((gI μ20 a1 0 10).bind fun v21 =>
    (if v21 = 0 then
    ((gR μ20 a1 0 0).bind fun v22 =>
    ((ob μ20 v22 7).bind fun _ =>
    (bd (f_X7_peopleIn μ20 v22 x2) fun v24 μ23 =>
    ((gI μ23 a1 0 3).bind fun v25 =>
    (bd (f_J6_bitCount_0f7a4 μ23 (v24 &&& (((1 : Int32) <<< (v25 &&& 31)) ^^^ (-1 : Int32)))) fun v27 μ26 =>
    (nm v27 fun x28 =>
    ((gR μ26 a1 0 11).bind fun v29 =>
    ((gI μ26 a1 0 6).bind fun v30 =>
    ((sI μ26 v29 0 (2 : Int32) v30).bind fun μ31 =>
    ((gR μ31 a1 0 11).bind fun v32 =>
    ((sI μ31 v32 0 (3 : Int32) x7).bind fun μ33 =>
    ((gR μ33 a1 0 11).bind fun v34 =>
    ((gI μ33 a1 0 7).bind fun v35 =>
    ((sI μ33 v34 0 (4 : Int32) v35).bind fun μ36 =>
    ((gR μ36 a1 0 11).bind fun v37 =>
    ((gR μ36 a1 0 1).bind fun v38 =>
    ((gR μ36 v38 1 3).bind fun v39 =>
    ((aI μ36 v39 0 x2).bind fun v40 =>
    ((sI μ36 v37 0 (5 : Int32) v40).bind fun μ41 =>
    ((gR μ41 a1 0 11).bind fun v42 =>
    ((sI μ41 v42 0 (11 : Int32) x28).bind fun μ43 =>
    ((gR μ43 a1 0 0).bind fun v44 =>
    ((ob μ43 v44 7).bind fun _ =>
    (bd (f_X7_thingsIn μ43 v44 x2) fun v46 μ45 =>
    ((gI μ45 a1 0 4).bind fun v47 =>
    (nm (v46 &&& (v47 ^^^ (-1 : Int32))) fun x48 =>
    (nm (0 : Int32) fun x49 =>
    f_X0_stepTo_L171 (fun μ59 a60 x61 =>
    (if x61 ≤ 0 then
    (some μ59)
    else
    ((gI μ59 a60 0 6).bind fun v62 =>
    (dvI v62 (2 : Int32) fun v63 =>
    ((pV μ59 a60 0 6 (.int v63)).bind fun μ64 =>
    (some μ64)))))) FU μ45 a1 x28 x48 x49)))))))))))))))))))))))))))
    else
    ((pV μ20 a1 0 6 (.int (0 : Int32))).bind fun μ65 =>
    (some μ65))))))))))))))))))))))
set_option maxHeartbeats 4000000 in
set_option maxRecDepth 100000 in
theorem f_X0_stepTo_ok {l : Launch} {G : GG} {μ0 : Mm} {a1 : Nat} {x2 : Int32} {μ' : Mm} (hf : f_X0_stepTo μ0 a1 x2 = some μ') : EvM l G D_X0_stepTo yX0_stepTo cX0_stepTo 6 none [.ref a1, .int x2] μ0 none μ' := by
  show Ev l G D_X0_stepTo yX0_stepTo cX0_stepTo 6 none 0 [(0, .ref a1), (1, .int x2)] [] μ0 none μ'
  unfold f_X0_stepTo at hf
  refine E_aload_n (pc := 0) dX0_stepTo_0 rfl ?_
  refine E_getR (pc := 1) dX0_stepTo_1 fl_X0_53 hf (fun v3 hf => ?_)
  refine E_aload_n (pc := 4) dX0_stepTo_4 rfl ?_
  refine E_getI (pc := 5) dX0_stepTo_5 fl_X0_18 hf (fun v4 hf => ?_)
  refine E_iload_n (pc := 8) dX0_stepTo_8 rfl ?_
  refine E_Vi (pc := 9) (d2 := D_X1_dropTo) (ci := 1) [.int v4, .int x2] dX0_stepTo_9 ml_X0_78 mf_X1_dropTo im_X1_dropTo rfl rfl rfl (by decide) (Nat.le_of_ble_eq_true rfl) (Nat.le_of_ble_eq_true rfl) rfl (fun _ _ h => f_X1_dropTo_ok h) hf (fun v6 μ5 hf => ?_)
  refine E_istore_n (pc := 12) (ls' := fun x7 => [(2, .int x7), (0, .ref a1), (1, .int x2)]) dX0_stepTo_12 (by decide) (fun _ => rfl) hf (fun x7 hf => ?_)
  refine E_aload_n (pc := 13) dX0_stepTo_13 rfl ?_
  refine E_iconst (pc := 14) (v := (0 : Int32)) dX0_stepTo_14 (by decide) ?_
  refine E_aload_n (pc := 15) dX0_stepTo_15 rfl ?_
  refine E_getI (pc := 16) dX0_stepTo_16 fl_X0_21 hf (fun v8 hf => ?_)
  refine E_iload_n (pc := 19) dX0_stepTo_19 rfl ?_
  refine E_iadd (pc := 20) dX0_stepTo_20 ?_
  refine E_aload_n (pc := 21) dX0_stepTo_21 rfl ?_
  refine E_getR (pc := 22) dX0_stepTo_22 fl_X0_53 hf (fun v9 hf => ?_)
  refine E_getR (pc := 25) dX0_stepTo_25 fl_X0_62 hf (fun v10 hf => ?_)
  refine E_aload_n (pc := 28) dX0_stepTo_28 rfl ?_
  refine E_getI (pc := 29) dX0_stepTo_29 fl_X0_9 hf (fun v11 hf => ?_)
  refine E_iald (pc := 32) dX0_stepTo_32 hf (fun v12 hf => ?_)
  refine E_isub (pc := 33) dX0_stepTo_33 ?_
  refine E_max (pc := 34) dX0_stepTo_34 ml_X0_81 (by decide) (Nat.le_of_ble_eq_true rfl) ?_
  refine E_putI (pc := 37) dX0_stepTo_37 (pl_X0_21 _) hf (fun μ13 hf => ?_)
  refine E_aload_n (pc := 40) dX0_stepTo_40 rfl ?_
  refine E_iload_n (pc := 41) dX0_stepTo_41 rfl ?_
  refine E_putI (pc := 42) dX0_stepTo_42 (pl_X0_18 _) hf (fun μ14 hf => ?_)
  refine E_aload_n (pc := 45) dX0_stepTo_45 rfl ?_
  refine E_dup (pc := 46) dX0_stepTo_46 rfl ?_
  refine E_getI (pc := 47) dX0_stepTo_47 fl_X0_24 hf (fun v15 hf => ?_)
  refine E_iconst (pc := 50) (v := (1 : Int32)) dX0_stepTo_50 (by decide) ?_
  refine E_iadd (pc := 51) dX0_stepTo_51 ?_
  refine E_putI (pc := 52) dX0_stepTo_52 (pl_X0_24 _) hf (fun μ16 hf => ?_)
  refine E_aload_n (pc := 55) dX0_stepTo_55 rfl ?_
  refine E_aload_n (pc := 56) dX0_stepTo_56 rfl ?_
  refine E_getR (pc := 57) dX0_stepTo_57 fl_X0_53 hf (fun v17 hf => ?_)
  refine E_iload_n (pc := 60) dX0_stepTo_60 rfl ?_
  refine E_Vi (pc := 61) (d2 := D_X1_hasNet) (ci := 1) [.int x2] dX0_stepTo_61 ml_X0_86 mf_X1_hasNet im_X1_hasNet rfl rfl rfl (by decide) (Nat.le_of_ble_eq_true rfl) (Nat.le_of_ble_eq_true rfl) rfl (fun _ _ h => f_X1_hasNet_ok h) hf (fun v19 μ18 hf => ?_)
  refine E_putZ (pc := 64) dX0_stepTo_64 (pl_X0_33 _) hf (fun μ20 hf => ?_)
  refine E_aload_n (pc := 67) dX0_stepTo_67 rfl ?_
  refine E_getI (pc := 68) dX0_stepTo_68 fl_X0_33 hf (fun v21 hf => ?_)
  refine E_if_eq (pc := 71) (tgt := 80) dX0_stepTo_71 (by decide) hf (fun hf => ?_) (fun hf => ?_)
  · refine E_aload_n (pc := 80) dX0_stepTo_80 rfl ?_
    refine E_getR (pc := 81) dX0_stepTo_81 fl_X0_43 hf (fun v22 hf => ?_)
    refine E_iload_n (pc := 84) dX0_stepTo_84 rfl ?_
    refine E_Vi (pc := 85) (d2 := D_X7_peopleIn) (ci := 7) [.int x2] dX0_stepTo_85 ml_X0_90 mf_X7_peopleIn im_X7_peopleIn rfl rfl rfl (by decide) (Nat.le_of_ble_eq_true rfl) (Nat.le_of_ble_eq_true rfl) rfl (fun _ _ h => f_X7_peopleIn_ok h) hf (fun v24 μ23 hf => ?_)
    refine E_iconst (pc := 88) (v := (1 : Int32)) dX0_stepTo_88 (by decide) ?_
    refine E_aload_n (pc := 89) dX0_stepTo_89 rfl ?_
    refine E_getI (pc := 90) dX0_stepTo_90 fl_X0_9 hf (fun v25 hf => ?_)
    refine E_ishl (pc := 93) dX0_stepTo_93 ?_
    refine E_iconst (pc := 94) (v := (-1 : Int32)) dX0_stepTo_94 (by decide) ?_
    refine E_ixor (pc := 95) dX0_stepTo_95 ?_
    refine E_iand (pc := 96) dX0_stepTo_96 ?_
    refine E_Si (pc := 97) (d2 := D_J6_bitCount_0f7a4) [.int (v24 &&& (((1 : Int32) <<< (v25 &&& 31)) ^^^ (-1 : Int32)))] dX0_stepTo_97 ml_X0_94 mf_J6_bitCount_0f7a4 st_J6_bitCount_0f7a4 rfl (by decide) (Nat.le_of_ble_eq_true rfl) (Nat.le_of_ble_eq_true rfl) rfl (fun _ _ h => f_J6_bitCount_0f7a4_ok h) hf (fun v27 μ26 hf => ?_)
    refine E_istore_n (pc := 100) (ls' := fun x28 => [(3, .int x28), (2, .int x7), (0, .ref a1), (1, .int x2)]) dX0_stepTo_100 (by decide) (fun _ => rfl) hf (fun x28 hf => ?_)
    refine E_aload_n (pc := 101) dX0_stepTo_101 rfl ?_
    refine E_getR (pc := 102) dX0_stepTo_102 fl_X0_39 hf (fun v29 hf => ?_)
    refine E_iconst (pc := 105) (v := (2 : Int32)) dX0_stepTo_105 (by decide) ?_
    refine E_aload_n (pc := 106) dX0_stepTo_106 rfl ?_
    refine E_getI (pc := 107) dX0_stepTo_107 fl_X0_21 hf (fun v30 hf => ?_)
    refine E_iast (pc := 110) dX0_stepTo_110 hf (fun μ31 hf => ?_)
    refine E_aload_n (pc := 111) dX0_stepTo_111 rfl ?_
    refine E_getR (pc := 112) dX0_stepTo_112 fl_X0_39 hf (fun v32 hf => ?_)
    refine E_iconst (pc := 115) (v := (3 : Int32)) dX0_stepTo_115 (by decide) ?_
    refine E_iload_n (pc := 116) dX0_stepTo_116 rfl ?_
    refine E_iast (pc := 117) dX0_stepTo_117 hf (fun μ33 hf => ?_)
    refine E_aload_n (pc := 118) dX0_stepTo_118 rfl ?_
    refine E_getR (pc := 119) dX0_stepTo_119 fl_X0_39 hf (fun v34 hf => ?_)
    refine E_iconst (pc := 122) (v := (4 : Int32)) dX0_stepTo_122 (by decide) ?_
    refine E_aload_n (pc := 123) dX0_stepTo_123 rfl ?_
    refine E_getI (pc := 124) dX0_stepTo_124 fl_X0_24 hf (fun v35 hf => ?_)
    refine E_iast (pc := 127) dX0_stepTo_127 hf (fun μ36 hf => ?_)
    refine E_aload_n (pc := 128) dX0_stepTo_128 rfl ?_
    refine E_getR (pc := 129) dX0_stepTo_129 fl_X0_39 hf (fun v37 hf => ?_)
    refine E_iconst (pc := 132) (v := (5 : Int32)) dX0_stepTo_132 (by decide) ?_
    refine E_aload_n (pc := 133) dX0_stepTo_133 rfl ?_
    refine E_getR (pc := 134) dX0_stepTo_134 fl_X0_53 hf (fun v38 hf => ?_)
    refine E_getR (pc := 137) dX0_stepTo_137 fl_X0_99 hf (fun v39 hf => ?_)
    refine E_iload_n (pc := 140) dX0_stepTo_140 rfl ?_
    refine E_iald (pc := 141) dX0_stepTo_141 hf (fun v40 hf => ?_)
    refine E_iast (pc := 142) dX0_stepTo_142 hf (fun μ41 hf => ?_)
    refine E_aload_n (pc := 143) dX0_stepTo_143 rfl ?_
    refine E_getR (pc := 144) dX0_stepTo_144 fl_X0_39 hf (fun v42 hf => ?_)
    refine E_bipush (pc := 147) (v := (11 : Int32)) dX0_stepTo_147 (by decide) ?_
    refine E_iload_n (pc := 149) dX0_stepTo_149 rfl ?_
    refine E_iast (pc := 150) dX0_stepTo_150 hf (fun μ43 hf => ?_)
    refine E_aload_n (pc := 151) dX0_stepTo_151 rfl ?_
    refine E_getR (pc := 152) dX0_stepTo_152 fl_X0_43 hf (fun v44 hf => ?_)
    refine E_iload_n (pc := 155) dX0_stepTo_155 rfl ?_
    refine E_Vi (pc := 156) (d2 := D_X7_thingsIn) (ci := 7) [.int x2] dX0_stepTo_156 ml_X0_102 mf_X7_thingsIn im_X7_thingsIn rfl rfl rfl (by decide) (Nat.le_of_ble_eq_true rfl) (Nat.le_of_ble_eq_true rfl) rfl (fun _ _ h => f_X7_thingsIn_ok h) hf (fun v46 μ45 hf => ?_)
    refine E_aload_n (pc := 159) dX0_stepTo_159 rfl ?_
    refine E_getI (pc := 160) dX0_stepTo_160 fl_X0_15 hf (fun v47 hf => ?_)
    refine E_iconst (pc := 163) (v := (-1 : Int32)) dX0_stepTo_163 (by decide) ?_
    refine E_ixor (pc := 164) dX0_stepTo_164 ?_
    refine E_iand (pc := 165) dX0_stepTo_165 ?_
    refine E_istore (pc := 166) (ls' := fun x48 => [(4, .int x48), (3, .int x28), (2, .int x7), (0, .ref a1), (1, .int x2)]) dX0_stepTo_166 (by decide) (fun _ => rfl) hf (fun x48 hf => ?_)
    refine E_iconst (pc := 168) (v := (0 : Int32)) dX0_stepTo_168 (by decide) ?_
    refine E_istore (pc := 169) (ls' := fun x49 => [(5, .int x49), (4, .int x48), (3, .int x28), (2, .int x7), (0, .ref a1), (1, .int x2)]) dX0_stepTo_169 (by decide) (fun _ => rfl) hf (fun x49 hf => ?_)
    refine Ev.sub [4, 2, 1, 0] rfl ?_
    refine f_X0_stepTo_L171_ok  _ _ _ _ _ _ hf (fun μ59 a60 x61 hf => ?_)
    · refine E_iload_n (pc := 205) dX0_stepTo_205 rfl ?_
      refine E_if_le (pc := 206) (tgt := 219) dX0_stepTo_206 (by decide) hf (fun hf => ?_) (fun hf => ?_)
      · exact E_vret (pc := 219) dX0_stepTo_219 rfl hf
      · refine E_aload_n (pc := 209) dX0_stepTo_209 rfl ?_
        refine E_dup (pc := 210) dX0_stepTo_210 rfl ?_
        refine E_getI (pc := 211) dX0_stepTo_211 fl_X0_21 hf (fun v62 hf => ?_)
        refine E_iconst (pc := 214) (v := (2 : Int32)) dX0_stepTo_214 (by decide) ?_
        refine E_idiv2 (pc := 215) dX0_stepTo_215 hf (fun v63 hf => ?_)
        refine E_putI (pc := 216) dX0_stepTo_216 (pl_X0_21 _) hf (fun μ64 hf => ?_)
        exact E_vret (pc := 219) dX0_stepTo_219 rfl hf
  · refine E_aload_n (pc := 74) dX0_stepTo_74 rfl ?_
    refine E_iconst (pc := 75) (v := (0 : Int32)) dX0_stepTo_75 (by decide) ?_
    refine E_putI (pc := 76) dX0_stepTo_76 (pl_X0_21 _) hf (fun μ65 hf => ?_)
    exact E_vret (pc := 79) dX0_stepTo_79 rfl hf
theorem dX0_run_0 : decode cX0_run 0 = .ok (.aload_n 0, 1) := by decide +kernel
theorem dX0_run_1 : decode cX0_run 1 = .ok (.getfield 53, 3) := by decide +kernel
theorem dX0_run_4 : decode cX0_run 4 = .ok (.aload_n 0, 1) := by decide +kernel
theorem dX0_run_5 : decode cX0_run 5 = .ok (.getfield 18, 3) := by decide +kernel
theorem dX0_run_8 : decode cX0_run 8 = .ok (.iload_n 1, 1) := by decide +kernel
theorem dX0_run_9 : decode cX0_run 9 = .ok (.invokevirtual 67, 3) := by decide +kernel
theorem dX0_run_12 : decode cX0_run 12 = .ok (.istore_n 2, 1) := by decide +kernel
theorem dX0_run_13 : decode cX0_run 13 = .ok (.iload_n 2, 1) := by decide +kernel
theorem dX0_run_14 : decode cX0_run 14 = .ok (.iconst (-1), 1) := by decide +kernel
theorem dX0_run_15 : decode cX0_run 15 = .ok (.if_icmp .eq 7, 3) := by decide +kernel
theorem dX0_run_18 : decode cX0_run 18 = .ok (.iload_n 2, 1) := by decide +kernel
theorem dX0_run_19 : decode cX0_run 19 = .ok (.goto 15, 3) := by decide +kernel
theorem dX0_run_22 : decode cX0_run 22 = .ok (.aload_n 0, 1) := by decide +kernel
theorem dX0_run_23 : decode cX0_run 23 = .ok (.getfield 53, 3) := by decide +kernel
theorem dX0_run_26 : decode cX0_run 26 = .ok (.getfield 71, 3) := by decide +kernel
theorem dX0_run_29 : decode cX0_run 29 = .ok (.aload_n 0, 1) := by decide +kernel
theorem dX0_run_30 : decode cX0_run 30 = .ok (.getfield 18, 3) := by decide +kernel
theorem dX0_run_33 : decode cX0_run 33 = .ok (.iaload, 1) := by decide +kernel
theorem dX0_run_34 : decode cX0_run 34 = .ok (.istore_n 3, 1) := by decide +kernel
theorem dX0_run_35 : decode cX0_run 35 = .ok (.iconst 0, 1) := by decide +kernel
theorem dX0_run_36 : decode cX0_run 36 = .ok (.istore 4, 2) := by decide +kernel
theorem dX0_run_38 : decode cX0_run 38 = .ok (.iload 4, 2) := by decide +kernel
theorem dX0_run_40 : decode cX0_run 40 = .ok (.bipush 9, 2) := by decide +kernel
theorem dX0_run_42 : decode cX0_run 42 = .ok (.if_icmp .ge 43, 3) := by decide +kernel
theorem dX0_run_45 : decode cX0_run 45 = .ok (.iload_n 3, 1) := by decide +kernel
theorem dX0_run_46 : decode cX0_run 46 = .ok (.iconst (-1), 1) := by decide +kernel
theorem dX0_run_47 : decode cX0_run 47 = .ok (.if_icmp .eq 38, 3) := by decide +kernel
theorem dX0_run_50 : decode cX0_run 50 = .ok (.aload_n 0, 1) := by decide +kernel
theorem dX0_run_51 : decode cX0_run 51 = .ok (.iload_n 3, 1) := by decide +kernel
theorem dX0_run_52 : decode cX0_run 52 = .ok (.invokevirtual 74, 3) := by decide +kernel
theorem dX0_run_55 : decode cX0_run 55 = .ok (.aload_n 0, 1) := by decide +kernel
theorem dX0_run_56 : decode cX0_run 56 = .ok (.getfield 33, 3) := by decide +kernel
theorem dX0_run_59 : decode cX0_run 59 = .ok (.ifCond .eq 7, 3) := by decide +kernel
theorem dX0_run_62 : decode cX0_run 62 = .ok (.iconst (-1), 1) := by decide +kernel
theorem dX0_run_63 : decode cX0_run 63 = .ok (.goto 15, 3) := by decide +kernel
theorem dX0_run_66 : decode cX0_run 66 = .ok (.aload_n 0, 1) := by decide +kernel
theorem dX0_run_67 : decode cX0_run 67 = .ok (.getfield 53, 3) := by decide +kernel
theorem dX0_run_70 : decode cX0_run 70 = .ok (.getfield 71, 3) := by decide +kernel
theorem dX0_run_73 : decode cX0_run 73 = .ok (.aload_n 0, 1) := by decide +kernel
theorem dX0_run_74 : decode cX0_run 74 = .ok (.getfield 18, 3) := by decide +kernel
theorem dX0_run_77 : decode cX0_run 77 = .ok (.iaload, 1) := by decide +kernel
theorem dX0_run_78 : decode cX0_run 78 = .ok (.istore_n 3, 1) := by decide +kernel
theorem dX0_run_79 : decode cX0_run 79 = .ok (.iinc 4 1, 3) := by decide +kernel
theorem dX0_run_82 : decode cX0_run 82 = .ok (.goto (-44), 3) := by decide +kernel
theorem dX0_run_85 : decode cX0_run 85 = .ok (.return_, 1) := by decide +kernel
abbrev D_X0_run : Nat := 6
def f_X0_run_L38 (K85 : Mm → Option Mm) : Nat → Mm → Nat → Int32 → Int32 → Option Mm
  | 0, _, _, _, _ => none
  | n + 1, μ0, a14, x15, x16 =>
    (if (9 : Int32) ≤ x16 then
    K85 μ0
    else
    (if x15 = (-1 : Int32) then
    K85 μ0
    else
    ((ob μ0 a14 0).bind fun _ =>
    ((f_X0_stepTo μ0 a14 x15).bind fun μ17 =>
    ((gI μ17 a14 0 10).bind fun v18 =>
    (if v18 = 0 then
    ((gR μ17 a14 0 1).bind fun v19 =>
    ((gR μ17 v19 1 4).bind fun v20 =>
    ((gI μ17 a14 0 5).bind fun v21 =>
    ((aI μ17 v20 0 v21).bind fun v22 =>
    (nm v22 fun x23 =>
    (nm (x16 + Int32.ofInt (1)) fun x24 =>
    f_X0_run_L38 K85 n μ17 a14 x23 x24))))))
    else
    (nm (-1 : Int32) fun x25 =>
    (nm (x16 + Int32.ofInt (1)) fun x26 =>
    f_X0_run_L38 K85 n μ17 a14 x25 x26))))))))
set_option maxHeartbeats 4000000 in
set_option maxRecDepth 100000 in
theorem f_X0_run_L38_ok {l : Launch} {G : GG} {K85 : Mm → Option Mm} {μ' : Mm} (n : Nat) (μ0 : Mm) (a14 : Nat) (x15 : Int32) (x16 : Int32) (hf : f_X0_run_L38 K85 n μ0 a14 x15 x16 = some μ') (hK85 : ∀ (μ1 : Mm), K85 μ1  = some μ' → Ev l G D_X0_run yX0_run cX0_run 5 none 85 [] [] μ1 none μ') : Ev l G D_X0_run yX0_run cX0_run 5 none 38 [(0, .ref a14), (3, .int x15), (4, .int x16)] [] μ0 none μ' := by
  induction n generalizing μ0 a14 x15 x16 with
  | zero => cases hf
  | succ n ih0 =>
    have ih : ∀ (μ0 : Mm) (a14 : Nat) (x15 : Int32) (x16 : Int32), f_X0_run_L38 K85 n μ0 a14 x15 x16 = some μ' → Ev l G D_X0_run yX0_run cX0_run 5 none 38 [(0, .ref a14), (3, .int x15), (4, .int x16)] [] μ0 none μ' := fun μ0 a14 x15 x16 hf => ih0 μ0 a14 x15 x16 hf
    rw [f_X0_run_L38] at hf
    refine E_iload (pc := 38) dX0_run_38 rfl ?_
    refine E_bipush (pc := 40) (v := (9 : Int32)) dX0_run_40 (by decide) ?_
    refine E_icmp_ge (pc := 42) (tgt := 85) dX0_run_42 (by decide) hf (fun hf => ?_) (fun hf => ?_)
    · refine Ev.sub [] rfl ?_
      exact hK85 _ hf
    · refine E_iload_n (pc := 45) dX0_run_45 rfl ?_
      refine E_iconst (pc := 46) (v := (-1 : Int32)) dX0_run_46 (by decide) ?_
      refine E_icmp_eq (pc := 47) (tgt := 85) dX0_run_47 (by decide) hf (fun hf => ?_) (fun hf => ?_)
      · refine Ev.sub [] rfl ?_
        exact hK85 _ hf
      · refine E_aload_n (pc := 50) dX0_run_50 rfl ?_
        refine E_iload_n (pc := 51) dX0_run_51 rfl ?_
        refine E_Vv (pc := 52) (d2 := D_X0_stepTo) (ci := 0) [.int x15] dX0_run_52 ml_X0_74 mf_X0_stepTo im_X0_stepTo rfl rfl rfl (by decide) (Nat.le_of_ble_eq_true rfl) (Nat.le_of_ble_eq_true rfl) rfl (fun _ h => f_X0_stepTo_ok h) hf (fun μ17 hf => ?_)
        refine E_aload_n (pc := 55) dX0_run_55 rfl ?_
        refine E_getI (pc := 56) dX0_run_56 fl_X0_33 hf (fun v18 hf => ?_)
        refine E_if_eq (pc := 59) (tgt := 66) dX0_run_59 (by decide) hf (fun hf => ?_) (fun hf => ?_)
        · refine E_aload_n (pc := 66) dX0_run_66 rfl ?_
          refine E_getR (pc := 67) dX0_run_67 fl_X0_53 hf (fun v19 hf => ?_)
          refine E_getR (pc := 70) dX0_run_70 fl_X0_71 hf (fun v20 hf => ?_)
          refine E_aload_n (pc := 73) dX0_run_73 rfl ?_
          refine E_getI (pc := 74) dX0_run_74 fl_X0_18 hf (fun v21 hf => ?_)
          refine E_iald (pc := 77) dX0_run_77 hf (fun v22 hf => ?_)
          refine E_istore_n (pc := 78) (ls' := fun x23 => [(3, .int x23), (0, .ref a14), (4, .int x16)]) dX0_run_78 (by decide) (fun _ => rfl) hf (fun x23 hf => ?_)
          refine E_iinc (pc := 79) (ls' := fun x24 => [(4, .int x24), (3, .int x23), (0, .ref a14)]) dX0_run_79 rfl (by decide) (fun _ => rfl) hf (fun x24 hf => ?_)
          refine E_goto (pc := 82) (tgt := 38) dX0_run_82 (by decide) ?_
          refine Ev.sub [2, 1, 0] rfl ?_
          exact ih _ _ _ _ hf
        · refine E_iconst (pc := 62) (v := (-1 : Int32)) dX0_run_62 (by decide) ?_
          refine E_goto (pc := 63) (tgt := 78) dX0_run_63 (by decide) ?_
          refine E_istore_n (pc := 78) (ls' := fun x25 => [(3, .int x25), (0, .ref a14), (4, .int x16)]) dX0_run_78 (by decide) (fun _ => rfl) hf (fun x25 hf => ?_)
          refine E_iinc (pc := 79) (ls' := fun x26 => [(4, .int x26), (3, .int x25), (0, .ref a14)]) dX0_run_79 rfl (by decide) (fun _ => rfl) hf (fun x26 hf => ?_)
          refine E_goto (pc := 82) (tgt := 38) dX0_run_82 (by decide) ?_
          refine Ev.sub [2, 1, 0] rfl ?_
          exact ih _ _ _ _ hf
set_option maxRecDepth 100000 in
def f_X0_run (μ0 : Mm) (a1 : Nat) (x2 : Int32) : Option Mm :=
 ((gR μ0 a1 0 1).bind fun v3 =>
    ((gI μ0 a1 0 5).bind fun v4 =>
    ((ob μ0 v3 1).bind fun _ =>
    (bd (f_X1_lowerBeside μ0 v3 v4 x2) fun v6 μ5 =>
    (nm v6 fun x7 =>
    (if x7 = (-1 : Int32) then
    ((gR μ5 a1 0 1).bind fun v8 =>
    ((gR μ5 v8 1 4).bind fun v9 =>
    ((gI μ5 a1 0 5).bind fun v10 =>
    ((aI μ5 v9 0 v10).bind fun v11 =>
    (nm v11 fun x12 =>
    (nm (0 : Int32) fun x13 =>
    f_X0_run_L38 (fun μ27 =>
    (some μ27)) FU μ5 a1 x12 x13))))))
    else
    (nm x7 fun x28 =>
    (nm (0 : Int32) fun x29 =>
    f_X0_run_L38 (fun μ30 =>
    (some μ30)) FU μ5 a1 x28 x29))))))))
set_option maxHeartbeats 4000000 in
set_option maxRecDepth 100000 in
theorem f_X0_run_ok {l : Launch} {G : GG} {μ0 : Mm} {a1 : Nat} {x2 : Int32} {μ' : Mm} (hf : f_X0_run μ0 a1 x2 = some μ') : EvM l G D_X0_run yX0_run cX0_run 5 none [.ref a1, .int x2] μ0 none μ' := by
  show Ev l G D_X0_run yX0_run cX0_run 5 none 0 [(0, .ref a1), (1, .int x2)] [] μ0 none μ'
  unfold f_X0_run at hf
  refine E_aload_n (pc := 0) dX0_run_0 rfl ?_
  refine E_getR (pc := 1) dX0_run_1 fl_X0_53 hf (fun v3 hf => ?_)
  refine E_aload_n (pc := 4) dX0_run_4 rfl ?_
  refine E_getI (pc := 5) dX0_run_5 fl_X0_18 hf (fun v4 hf => ?_)
  refine E_iload_n (pc := 8) dX0_run_8 rfl ?_
  refine E_Vi (pc := 9) (d2 := D_X1_lowerBeside) (ci := 1) [.int v4, .int x2] dX0_run_9 ml_X0_67 mf_X1_lowerBeside im_X1_lowerBeside rfl rfl rfl (by decide) (Nat.le_of_ble_eq_true rfl) (Nat.le_of_ble_eq_true rfl) rfl (fun _ _ h => f_X1_lowerBeside_ok h) hf (fun v6 μ5 hf => ?_)
  refine E_istore_n (pc := 12) (ls' := fun x7 => [(2, .int x7), (0, .ref a1), (1, .int x2)]) dX0_run_12 (by decide) (fun _ => rfl) hf (fun x7 hf => ?_)
  refine E_iload_n (pc := 13) dX0_run_13 rfl ?_
  refine E_iconst (pc := 14) (v := (-1 : Int32)) dX0_run_14 (by decide) ?_
  refine E_icmp_eq (pc := 15) (tgt := 22) dX0_run_15 (by decide) hf (fun hf => ?_) (fun hf => ?_)
  · refine E_aload_n (pc := 22) dX0_run_22 rfl ?_
    refine E_getR (pc := 23) dX0_run_23 fl_X0_53 hf (fun v8 hf => ?_)
    refine E_getR (pc := 26) dX0_run_26 fl_X0_71 hf (fun v9 hf => ?_)
    refine E_aload_n (pc := 29) dX0_run_29 rfl ?_
    refine E_getI (pc := 30) dX0_run_30 fl_X0_18 hf (fun v10 hf => ?_)
    refine E_iald (pc := 33) dX0_run_33 hf (fun v11 hf => ?_)
    refine E_istore_n (pc := 34) (ls' := fun x12 => [(3, .int x12), (2, .int x7), (0, .ref a1), (1, .int x2)]) dX0_run_34 (by decide) (fun _ => rfl) hf (fun x12 hf => ?_)
    refine E_iconst (pc := 35) (v := (0 : Int32)) dX0_run_35 (by decide) ?_
    refine E_istore (pc := 36) (ls' := fun x13 => [(4, .int x13), (3, .int x12), (2, .int x7), (0, .ref a1), (1, .int x2)]) dX0_run_36 (by decide) (fun _ => rfl) hf (fun x13 hf => ?_)
    refine Ev.sub [3, 1, 0] rfl ?_
    refine f_X0_run_L38_ok  _ _ _ _ _ hf (fun μ27 hf => ?_)
    · exact E_vret (pc := 85) dX0_run_85 rfl hf
  · refine E_iload_n (pc := 18) dX0_run_18 rfl ?_
    refine E_goto (pc := 19) (tgt := 34) dX0_run_19 (by decide) ?_
    refine E_istore_n (pc := 34) (ls' := fun x28 => [(3, .int x28), (2, .int x7), (0, .ref a1), (1, .int x2)]) dX0_run_34 (by decide) (fun _ => rfl) hf (fun x28 hf => ?_)
    refine E_iconst (pc := 35) (v := (0 : Int32)) dX0_run_35 (by decide) ?_
    refine E_istore (pc := 36) (ls' := fun x29 => [(4, .int x29), (3, .int x28), (2, .int x7), (0, .ref a1), (1, .int x2)]) dX0_run_36 (by decide) (fun _ => rfl) hf (fun x29 hf => ?_)
    refine Ev.sub [3, 1, 0] rfl ?_
    refine f_X0_run_L38_ok  _ _ _ _ _ hf (fun μ30 hf => ?_)
    · exact E_vret (pc := 85) dX0_run_85 rfl hf
theorem dX0_mark_0 : decode cX0_mark 0 = .ok (.iconst 0, 1) := by decide +kernel
theorem dX0_mark_1 : decode cX0_mark 1 = .ok (.bipush 100, 2) := by decide +kernel
theorem dX0_mark_3 : decode cX0_mark 3 = .ok (.aload_n 0, 1) := by decide +kernel
theorem dX0_mark_4 : decode cX0_mark 4 = .ok (.getfield 30, 3) := by decide +kernel
theorem dX0_mark_7 : decode cX0_mark 7 = .ok (.isub, 1) := by decide +kernel
theorem dX0_mark_8 : decode cX0_mark 8 = .ok (.invokestatic 81, 3) := by decide +kernel
theorem dX0_mark_11 : decode cX0_mark 11 = .ok (.ireturn, 1) := by decide +kernel
abbrev D_X0_mark : Nat := 1
set_option maxRecDepth 100000 in
def f_X0_mark (μ0 : Mm) (a1 : Nat) : Option (Int32 × Mm) :=
 ((gI μ0 a1 0 9).bind fun v2 =>
    (some ((if (0 : Int32) < ((100 : Int32) - v2) then ((100 : Int32) - v2) else (0 : Int32)), μ0)))
set_option maxHeartbeats 4000000 in
set_option maxRecDepth 100000 in
theorem f_X0_mark_ok {l : Launch} {G : GG} {μ0 : Mm} {a1 : Nat} {r : Int32} {μ' : Mm} (hf : f_X0_mark μ0 a1 = some (r, μ')) : EvM l G D_X0_mark yX0_mark cX0_mark 1 (some .int) [.ref a1] μ0 (some (.int r)) μ' := by
  show Ev l G D_X0_mark yX0_mark cX0_mark 1 (some .int) 0 [(0, .ref a1)] [] μ0 (some (.int r)) μ'
  unfold f_X0_mark at hf
  refine E_iconst (pc := 0) (v := (0 : Int32)) dX0_mark_0 (by decide) ?_
  refine E_bipush (pc := 1) (v := (100 : Int32)) dX0_mark_1 (by decide) ?_
  refine E_aload_n (pc := 3) dX0_mark_3 rfl ?_
  refine E_getI (pc := 4) dX0_mark_4 fl_X0_30 hf (fun v2 hf => ?_)
  refine E_isub (pc := 7) dX0_mark_7 ?_
  refine E_max (pc := 8) dX0_mark_8 ml_X0_81 (by decide) (Nat.le_of_ble_eq_true rfl) ?_
  exact E_iret (pc := 11) dX0_mark_11 rfl hf
theorem dX0_worthOfOthersBroken_0 : decode cX0_worthOfOthersBroken 0 = .ok (.iconst 0, 1) := by decide +kernel
theorem dX0_worthOfOthersBroken_1 : decode cX0_worthOfOthersBroken 1 = .ok (.istore_n 1, 1) := by decide +kernel
theorem dX0_worthOfOthersBroken_2 : decode cX0_worthOfOthersBroken 2 = .ok (.iconst 0, 1) := by decide +kernel
theorem dX0_worthOfOthersBroken_3 : decode cX0_worthOfOthersBroken 3 = .ok (.istore_n 2, 1) := by decide +kernel
theorem dX0_worthOfOthersBroken_4 : decode cX0_worthOfOthersBroken 4 = .ok (.iload_n 2, 1) := by decide +kernel
theorem dX0_worthOfOthersBroken_5 : decode cX0_worthOfOthersBroken 5 = .ok (.aload_n 0, 1) := by decide +kernel
theorem dX0_worthOfOthersBroken_6 : decode cX0_worthOfOthersBroken 6 = .ok (.getfield 53, 3) := by decide +kernel
theorem dX0_worthOfOthersBroken_9 : decode cX0_worthOfOthersBroken 9 = .ok (.getfield 105, 3) := by decide +kernel
theorem dX0_worthOfOthersBroken_12 : decode cX0_worthOfOthersBroken 12 = .ok (.if_icmp .ge 48, 3) := by decide +kernel
theorem dX0_worthOfOthersBroken_15 : decode cX0_worthOfOthersBroken 15 = .ok (.aload_n 0, 1) := by decide +kernel
theorem dX0_worthOfOthersBroken_16 : decode cX0_worthOfOthersBroken 16 = .ok (.getfield 27, 3) := by decide +kernel
theorem dX0_worthOfOthersBroken_19 : decode cX0_worthOfOthersBroken 19 = .ok (.iload_n 2, 1) := by decide +kernel
theorem dX0_worthOfOthersBroken_20 : decode cX0_worthOfOthersBroken 20 = .ok (.ishr, 1) := by decide +kernel
theorem dX0_worthOfOthersBroken_21 : decode cX0_worthOfOthersBroken 21 = .ok (.iconst 1, 1) := by decide +kernel
theorem dX0_worthOfOthersBroken_22 : decode cX0_worthOfOthersBroken 22 = .ok (.iand, 1) := by decide +kernel
theorem dX0_worthOfOthersBroken_23 : decode cX0_worthOfOthersBroken 23 = .ok (.ifCond .eq 31, 3) := by decide +kernel
theorem dX0_worthOfOthersBroken_26 : decode cX0_worthOfOthersBroken 26 = .ok (.aload_n 0, 1) := by decide +kernel
theorem dX0_worthOfOthersBroken_27 : decode cX0_worthOfOthersBroken 27 = .ok (.getfield 53, 3) := by decide +kernel
theorem dX0_worthOfOthersBroken_30 : decode cX0_worthOfOthersBroken 30 = .ok (.getfield 117, 3) := by decide +kernel
theorem dX0_worthOfOthersBroken_33 : decode cX0_worthOfOthersBroken 33 = .ok (.iload_n 2, 1) := by decide +kernel
theorem dX0_worthOfOthersBroken_34 : decode cX0_worthOfOthersBroken 34 = .ok (.iaload, 1) := by decide +kernel
theorem dX0_worthOfOthersBroken_35 : decode cX0_worthOfOthersBroken 35 = .ok (.aload_n 0, 1) := by decide +kernel
theorem dX0_worthOfOthersBroken_36 : decode cX0_worthOfOthersBroken 36 = .ok (.getfield 9, 3) := by decide +kernel
theorem dX0_worthOfOthersBroken_39 : decode cX0_worthOfOthersBroken 39 = .ok (.if_icmp .eq 15, 3) := by decide +kernel
theorem dX0_worthOfOthersBroken_42 : decode cX0_worthOfOthersBroken 42 = .ok (.iload_n 1, 1) := by decide +kernel
theorem dX0_worthOfOthersBroken_43 : decode cX0_worthOfOthersBroken 43 = .ok (.aload_n 0, 1) := by decide +kernel
theorem dX0_worthOfOthersBroken_44 : decode cX0_worthOfOthersBroken 44 = .ok (.getfield 53, 3) := by decide +kernel
theorem dX0_worthOfOthersBroken_47 : decode cX0_worthOfOthersBroken 47 = .ok (.getfield 114, 3) := by decide +kernel
theorem dX0_worthOfOthersBroken_50 : decode cX0_worthOfOthersBroken 50 = .ok (.iload_n 2, 1) := by decide +kernel
theorem dX0_worthOfOthersBroken_51 : decode cX0_worthOfOthersBroken 51 = .ok (.iaload, 1) := by decide +kernel
theorem dX0_worthOfOthersBroken_52 : decode cX0_worthOfOthersBroken 52 = .ok (.iadd, 1) := by decide +kernel
theorem dX0_worthOfOthersBroken_53 : decode cX0_worthOfOthersBroken 53 = .ok (.istore_n 1, 1) := by decide +kernel
theorem dX0_worthOfOthersBroken_54 : decode cX0_worthOfOthersBroken 54 = .ok (.iinc 2 1, 3) := by decide +kernel
theorem dX0_worthOfOthersBroken_57 : decode cX0_worthOfOthersBroken 57 = .ok (.goto (-53), 3) := by decide +kernel
theorem dX0_worthOfOthersBroken_60 : decode cX0_worthOfOthersBroken 60 = .ok (.iload_n 1, 1) := by decide +kernel
theorem dX0_worthOfOthersBroken_61 : decode cX0_worthOfOthersBroken 61 = .ok (.ireturn, 1) := by decide +kernel
abbrev D_X0_worthOfOthersBroken : Nat := 1
def f_X0_worthOfOthersBroken_L4 (K60 : Mm → Int32 → Option (Int32 × Mm)) : Nat → Mm → Nat → Int32 → Int32 → Option (Int32 × Mm)
  | 0, _, _, _, _ => none
  | n + 1, μ0, a4, x5, x6 =>
    ((gR μ0 a4 0 1).bind fun v7 =>
    ((gI μ0 v7 1 9).bind fun v8 =>
    (if v8 ≤ x6 then
    K60 μ0 x5
    else
    ((gI μ0 a4 0 8).bind fun v9 =>
    (if ((v9 >>> (x6 &&& 31)) &&& (1 : Int32)) = 0 then
    (nm (x6 + Int32.ofInt (1)) fun x10 =>
    f_X0_worthOfOthersBroken_L4 K60 n μ0 a4 x5 x10)
    else
    ((gR μ0 a4 0 1).bind fun v11 =>
    ((gR μ0 v11 1 11).bind fun v12 =>
    ((aI μ0 v12 0 x6).bind fun v13 =>
    ((gI μ0 a4 0 3).bind fun v14 =>
    (if v13 = v14 then
    (nm (x6 + Int32.ofInt (1)) fun x15 =>
    f_X0_worthOfOthersBroken_L4 K60 n μ0 a4 x5 x15)
    else
    ((gR μ0 a4 0 1).bind fun v16 =>
    ((gR μ0 v16 1 13).bind fun v17 =>
    ((aI μ0 v17 0 x6).bind fun v18 =>
    (nm (x5 + v18) fun x19 =>
    (nm (x6 + Int32.ofInt (1)) fun x20 =>
    f_X0_worthOfOthersBroken_L4 K60 n μ0 a4 x19 x20)))))))))))))))
set_option maxHeartbeats 4000000 in
set_option maxRecDepth 100000 in
theorem f_X0_worthOfOthersBroken_L4_ok {l : Launch} {G : GG} {K60 : Mm → Int32 → Option (Int32 × Mm)} {r : Int32} {μ' : Mm} (n : Nat) (μ0 : Mm) (a4 : Nat) (x5 : Int32) (x6 : Int32) (hf : f_X0_worthOfOthersBroken_L4 K60 n μ0 a4 x5 x6 = some (r, μ')) (hK60 : ∀ (μ1 : Mm) (y1 : Int32), K60 μ1 y1 = some (r, μ') → Ev l G D_X0_worthOfOthersBroken yX0_worthOfOthersBroken cX0_worthOfOthersBroken 3 (some .int) 60 [(1, .int y1)] [] μ1 (some (.int r)) μ') : Ev l G D_X0_worthOfOthersBroken yX0_worthOfOthersBroken cX0_worthOfOthersBroken 3 (some .int) 4 [(0, .ref a4), (1, .int x5), (2, .int x6)] [] μ0 (some (.int r)) μ' := by
  induction n generalizing μ0 a4 x5 x6 with
  | zero => cases hf
  | succ n ih0 =>
    have ih : ∀ (μ0 : Mm) (a4 : Nat) (x5 : Int32) (x6 : Int32), f_X0_worthOfOthersBroken_L4 K60 n μ0 a4 x5 x6 = some (r, μ') → Ev l G D_X0_worthOfOthersBroken yX0_worthOfOthersBroken cX0_worthOfOthersBroken 3 (some .int) 4 [(0, .ref a4), (1, .int x5), (2, .int x6)] [] μ0 (some (.int r)) μ' := fun μ0 a4 x5 x6 hf => ih0 μ0 a4 x5 x6 hf
    rw [f_X0_worthOfOthersBroken_L4] at hf
    refine E_iload_n (pc := 4) dX0_worthOfOthersBroken_4 rfl ?_
    refine E_aload_n (pc := 5) dX0_worthOfOthersBroken_5 rfl ?_
    refine E_getR (pc := 6) dX0_worthOfOthersBroken_6 fl_X0_53 hf (fun v7 hf => ?_)
    refine E_getI (pc := 9) dX0_worthOfOthersBroken_9 fl_X0_105 hf (fun v8 hf => ?_)
    refine E_icmp_ge (pc := 12) (tgt := 60) dX0_worthOfOthersBroken_12 (by decide) hf (fun hf => ?_) (fun hf => ?_)
    · refine Ev.sub [1] rfl ?_
      exact hK60 _ _ hf
    · refine E_aload_n (pc := 15) dX0_worthOfOthersBroken_15 rfl ?_
      refine E_getI (pc := 16) dX0_worthOfOthersBroken_16 fl_X0_27 hf (fun v9 hf => ?_)
      refine E_iload_n (pc := 19) dX0_worthOfOthersBroken_19 rfl ?_
      refine E_ishr (pc := 20) dX0_worthOfOthersBroken_20 ?_
      refine E_iconst (pc := 21) (v := (1 : Int32)) dX0_worthOfOthersBroken_21 (by decide) ?_
      refine E_iand (pc := 22) dX0_worthOfOthersBroken_22 ?_
      refine E_if_eq (pc := 23) (tgt := 54) dX0_worthOfOthersBroken_23 (by decide) hf (fun hf => ?_) (fun hf => ?_)
      · refine E_iinc (pc := 54) (ls' := fun x10 => [(2, .int x10), (0, .ref a4), (1, .int x5)]) dX0_worthOfOthersBroken_54 rfl (by decide) (fun _ => rfl) hf (fun x10 hf => ?_)
        refine E_goto (pc := 57) (tgt := 4) dX0_worthOfOthersBroken_57 (by decide) ?_
        refine Ev.sub [1, 2, 0] rfl ?_
        exact ih _ _ _ _ hf
      · refine E_aload_n (pc := 26) dX0_worthOfOthersBroken_26 rfl ?_
        refine E_getR (pc := 27) dX0_worthOfOthersBroken_27 fl_X0_53 hf (fun v11 hf => ?_)
        refine E_getR (pc := 30) dX0_worthOfOthersBroken_30 fl_X0_117 hf (fun v12 hf => ?_)
        refine E_iload_n (pc := 33) dX0_worthOfOthersBroken_33 rfl ?_
        refine E_iald (pc := 34) dX0_worthOfOthersBroken_34 hf (fun v13 hf => ?_)
        refine E_aload_n (pc := 35) dX0_worthOfOthersBroken_35 rfl ?_
        refine E_getI (pc := 36) dX0_worthOfOthersBroken_36 fl_X0_9 hf (fun v14 hf => ?_)
        refine E_icmp_eq (pc := 39) (tgt := 54) dX0_worthOfOthersBroken_39 (by decide) hf (fun hf => ?_) (fun hf => ?_)
        · refine E_iinc (pc := 54) (ls' := fun x15 => [(2, .int x15), (0, .ref a4), (1, .int x5)]) dX0_worthOfOthersBroken_54 rfl (by decide) (fun _ => rfl) hf (fun x15 hf => ?_)
          refine E_goto (pc := 57) (tgt := 4) dX0_worthOfOthersBroken_57 (by decide) ?_
          refine Ev.sub [1, 2, 0] rfl ?_
          exact ih _ _ _ _ hf
        · refine E_iload_n (pc := 42) dX0_worthOfOthersBroken_42 rfl ?_
          refine E_aload_n (pc := 43) dX0_worthOfOthersBroken_43 rfl ?_
          refine E_getR (pc := 44) dX0_worthOfOthersBroken_44 fl_X0_53 hf (fun v16 hf => ?_)
          refine E_getR (pc := 47) dX0_worthOfOthersBroken_47 fl_X0_114 hf (fun v17 hf => ?_)
          refine E_iload_n (pc := 50) dX0_worthOfOthersBroken_50 rfl ?_
          refine E_iald (pc := 51) dX0_worthOfOthersBroken_51 hf (fun v18 hf => ?_)
          refine E_iadd (pc := 52) dX0_worthOfOthersBroken_52 ?_
          refine E_istore_n (pc := 53) (ls' := fun x19 => [(1, .int x19), (0, .ref a4), (2, .int x6)]) dX0_worthOfOthersBroken_53 (by decide) (fun _ => rfl) hf (fun x19 hf => ?_)
          refine E_iinc (pc := 54) (ls' := fun x20 => [(2, .int x20), (1, .int x19), (0, .ref a4)]) dX0_worthOfOthersBroken_54 rfl (by decide) (fun _ => rfl) hf (fun x20 hf => ?_)
          refine E_goto (pc := 57) (tgt := 4) dX0_worthOfOthersBroken_57 (by decide) ?_
          refine Ev.sub [2, 1, 0] rfl ?_
          exact ih _ _ _ _ hf
set_option maxRecDepth 100000 in
def f_X0_worthOfOthersBroken (μ0 : Mm) (a1 : Nat) : Option (Int32 × Mm) :=
 (nm (0 : Int32) fun x2 =>
    (nm (0 : Int32) fun x3 =>
    f_X0_worthOfOthersBroken_L4 (fun μ21 x22 =>
    (some (x22, μ21))) FU μ0 a1 x2 x3))
set_option maxHeartbeats 4000000 in
set_option maxRecDepth 100000 in
theorem f_X0_worthOfOthersBroken_ok {l : Launch} {G : GG} {μ0 : Mm} {a1 : Nat} {r : Int32} {μ' : Mm} (hf : f_X0_worthOfOthersBroken μ0 a1 = some (r, μ')) : EvM l G D_X0_worthOfOthersBroken yX0_worthOfOthersBroken cX0_worthOfOthersBroken 3 (some .int) [.ref a1] μ0 (some (.int r)) μ' := by
  show Ev l G D_X0_worthOfOthersBroken yX0_worthOfOthersBroken cX0_worthOfOthersBroken 3 (some .int) 0 [(0, .ref a1)] [] μ0 (some (.int r)) μ'
  unfold f_X0_worthOfOthersBroken at hf
  refine E_iconst (pc := 0) (v := (0 : Int32)) dX0_worthOfOthersBroken_0 (by decide) ?_
  refine E_istore_n (pc := 1) (ls' := fun x2 => [(1, .int x2), (0, .ref a1)]) dX0_worthOfOthersBroken_1 (by decide) (fun _ => rfl) hf (fun x2 hf => ?_)
  refine E_iconst (pc := 2) (v := (0 : Int32)) dX0_worthOfOthersBroken_2 (by decide) ?_
  refine E_istore_n (pc := 3) (ls' := fun x3 => [(2, .int x3), (1, .int x2), (0, .ref a1)]) dX0_worthOfOthersBroken_3 (by decide) (fun _ => rfl) hf (fun x3 hf => ?_)
  refine Ev.sub [2, 1, 0] rfl ?_
  refine f_X0_worthOfOthersBroken_L4_ok  _ _ _ _ _ hf (fun μ21 x22 hf => ?_)
  · refine E_iload_n (pc := 60) dX0_worthOfOthersBroken_60 rfl ?_
    exact E_iret (pc := 61) dX0_worthOfOthersBroken_61 rfl hf
