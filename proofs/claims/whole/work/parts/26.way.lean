theorem dX10_init_0 : decode cX10_init 0 = .ok (.aload_n 0, 1) := by decide +kernel
theorem dX10_init_1 : decode cX10_init 1 = .ok (.invokespecial 3, 3) := by decide +kernel
theorem dX10_init_4 : decode cX10_init 4 = .ok (.aload_n 0, 1) := by decide +kernel
theorem dX10_init_5 : decode cX10_init 5 = .ok (.bipush 9, 2) := by decide +kernel
theorem dX10_init_7 : decode cX10_init 7 = .ok (.newarray .int, 2) := by decide +kernel
theorem dX10_init_9 : decode cX10_init 9 = .ok (.putfield 9, 3) := by decide +kernel
theorem dX10_init_12 : decode cX10_init 12 = .ok (.aload_n 0, 1) := by decide +kernel
theorem dX10_init_13 : decode cX10_init 13 = .ok (.bipush 9, 2) := by decide +kernel
theorem dX10_init_15 : decode cX10_init 15 = .ok (.newarray .int, 2) := by decide +kernel
theorem dX10_init_17 : decode cX10_init 17 = .ok (.putfield 15, 3) := by decide +kernel
theorem dX10_init_20 : decode cX10_init 20 = .ok (.aload_n 0, 1) := by decide +kernel
theorem dX10_init_21 : decode cX10_init 21 = .ok (.iconst (-1), 1) := by decide +kernel
theorem dX10_init_22 : decode cX10_init 22 = .ok (.putfield 18, 3) := by decide +kernel
theorem dX10_init_25 : decode cX10_init 25 = .ok (.aload_n 0, 1) := by decide +kernel
theorem dX10_init_26 : decode cX10_init 26 = .ok (.iconst 0, 1) := by decide +kernel
theorem dX10_init_27 : decode cX10_init 27 = .ok (.putfield 22, 3) := by decide +kernel
theorem dX10_init_30 : decode cX10_init 30 = .ok (.aload_n 0, 1) := by decide +kernel
theorem dX10_init_31 : decode cX10_init 31 = .ok (.aload_n 1, 1) := by decide +kernel
theorem dX10_init_32 : decode cX10_init 32 = .ok (.putfield 25, 3) := by decide +kernel
theorem dX10_init_35 : decode cX10_init 35 = .ok (.return_, 1) := by decide +kernel
abbrev D_X10_init : Nat := 1
set_option maxRecDepth 100000 in
def f_X10_init (μ0 : Mm) (a1 : Nat) (a2 : Nat) : Option Mm :=
 (bd (nA μ0 0 (9 : Int32)) fun a3 μ4 =>
    ((pV μ4 a1 10 1 (.ref a3)).bind fun μ5 =>
    (bd (nA μ5 0 (9 : Int32)) fun a6 μ7 =>
    ((pV μ7 a1 10 2 (.ref a6)).bind fun μ8 =>
    ((pV μ8 a1 10 3 (.int (-1 : Int32))).bind fun μ9 =>
    ((pV μ9 a1 10 4 (.int (0 : Int32))).bind fun μ10 =>
    ((pV μ10 a1 10 0 (.ref a2)).bind fun μ11 =>
    (some μ11))))))))
set_option maxHeartbeats 4000000 in
set_option maxRecDepth 100000 in
theorem f_X10_init_ok {l : Launch} {G : GG} {μ0 : Mm} {a1 : Nat} {a2 : Nat} {μ' : Mm} (hf : f_X10_init μ0 a1 a2 = some μ') : EvM l G D_X10_init yX10_init cX10_init 2 none [.ref a1, .ref a2] μ0 none μ' := by
  show Ev l G D_X10_init yX10_init cX10_init 2 none 0 [(0, .ref a1), (1, .ref a2)] [] μ0 none μ'
  unfold f_X10_init at hf
  refine E_aload_n (pc := 0) dX10_init_0 rfl ?_
  refine E_objI (pc := 1) dX10_init_1 (by decide) (Nat.le_of_ble_eq_true rfl) ml_X10_3 ?_
  refine E_aload_n (pc := 4) dX10_init_4 rfl ?_
  refine E_bipush (pc := 5) (v := (9 : Int32)) dX10_init_5 (by decide) ?_
  refine E_newa2 (pc := 7) dX10_init_7 (by decide) ac_int hf (fun a3 μ4 hf => ?_)
  refine E_putA (pc := 9) dX10_init_9 pl_X10_9 hf (fun μ5 hf => ?_)
  refine E_aload_n (pc := 12) dX10_init_12 rfl ?_
  refine E_bipush (pc := 13) (v := (9 : Int32)) dX10_init_13 (by decide) ?_
  refine E_newa2 (pc := 15) dX10_init_15 (by decide) ac_int hf (fun a6 μ7 hf => ?_)
  refine E_putA (pc := 17) dX10_init_17 pl_X10_15 hf (fun μ8 hf => ?_)
  refine E_aload_n (pc := 20) dX10_init_20 rfl ?_
  refine E_iconst (pc := 21) (v := (-1 : Int32)) dX10_init_21 (by decide) ?_
  refine E_putI (pc := 22) dX10_init_22 (pl_X10_18 _) hf (fun μ9 hf => ?_)
  refine E_aload_n (pc := 25) dX10_init_25 rfl ?_
  refine E_iconst (pc := 26) (v := (0 : Int32)) dX10_init_26 (by decide) ?_
  refine E_putI (pc := 27) dX10_init_27 (pl_X10_22 _) hf (fun μ10 hf => ?_)
  refine E_aload_n (pc := 30) dX10_init_30 rfl ?_
  refine E_aload_n (pc := 31) dX10_init_31 rfl ?_
  refine E_putR (pc := 32) dX10_init_32 pl_X10_25 hf (fun μ11 hf => ?_)
  exact E_vret (pc := 35) dX10_init_35 rfl hf
theorem dX10_compare_0 : decode cX10_compare 0 = .ok (.aload_n 0, 1) := by decide +kernel
theorem dX10_compare_1 : decode cX10_compare 1 = .ok (.getfield 25, 3) := by decide +kernel
theorem dX10_compare_4 : decode cX10_compare 4 = .ok (.invokevirtual 74, 3) := by decide +kernel
theorem dX10_compare_7 : decode cX10_compare 7 = .ok (.istore_n 1, 1) := by decide +kernel
theorem dX10_compare_8 : decode cX10_compare 8 = .ok (.aload_n 0, 1) := by decide +kernel
theorem dX10_compare_9 : decode cX10_compare 9 = .ok (.getfield 18, 3) := by decide +kernel
theorem dX10_compare_12 : decode cX10_compare 12 = .ok (.iconst (-1), 1) := by decide +kernel
theorem dX10_compare_13 : decode cX10_compare 13 = .ok (.if_icmp .eq 33, 3) := by decide +kernel
theorem dX10_compare_16 : decode cX10_compare 16 = .ok (.iload_n 1, 1) := by decide +kernel
theorem dX10_compare_17 : decode cX10_compare 17 = .ok (.aload_n 0, 1) := by decide +kernel
theorem dX10_compare_18 : decode cX10_compare 18 = .ok (.getfield 18, 3) := by decide +kernel
theorem dX10_compare_21 : decode cX10_compare 21 = .ok (.if_icmp .lt 25, 3) := by decide +kernel
theorem dX10_compare_24 : decode cX10_compare 24 = .ok (.iload_n 1, 1) := by decide +kernel
theorem dX10_compare_25 : decode cX10_compare 25 = .ok (.aload_n 0, 1) := by decide +kernel
theorem dX10_compare_26 : decode cX10_compare 26 = .ok (.getfield 18, 3) := by decide +kernel
theorem dX10_compare_29 : decode cX10_compare 29 = .ok (.if_icmp .ne 48, 3) := by decide +kernel
theorem dX10_compare_32 : decode cX10_compare 32 = .ok (.aload_n 0, 1) := by decide +kernel
theorem dX10_compare_33 : decode cX10_compare 33 = .ok (.getfield 25, 3) := by decide +kernel
theorem dX10_compare_36 : decode cX10_compare 36 = .ok (.getfield 71, 3) := by decide +kernel
theorem dX10_compare_39 : decode cX10_compare 39 = .ok (.aload_n 0, 1) := by decide +kernel
theorem dX10_compare_40 : decode cX10_compare 40 = .ok (.getfield 22, 3) := by decide +kernel
theorem dX10_compare_43 : decode cX10_compare 43 = .ok (.if_icmp .ge 34, 3) := by decide +kernel
theorem dX10_compare_46 : decode cX10_compare 46 = .ok (.aload_n 0, 1) := by decide +kernel
theorem dX10_compare_47 : decode cX10_compare 47 = .ok (.iload_n 1, 1) := by decide +kernel
theorem dX10_compare_48 : decode cX10_compare 48 = .ok (.putfield 18, 3) := by decide +kernel
theorem dX10_compare_51 : decode cX10_compare 51 = .ok (.aload_n 0, 1) := by decide +kernel
theorem dX10_compare_52 : decode cX10_compare 52 = .ok (.aload_n 0, 1) := by decide +kernel
theorem dX10_compare_53 : decode cX10_compare 53 = .ok (.getfield 25, 3) := by decide +kernel
theorem dX10_compare_56 : decode cX10_compare 56 = .ok (.getfield 71, 3) := by decide +kernel
theorem dX10_compare_59 : decode cX10_compare 59 = .ok (.putfield 22, 3) := by decide +kernel
theorem dX10_compare_62 : decode cX10_compare 62 = .ok (.aload_n 0, 1) := by decide +kernel
theorem dX10_compare_63 : decode cX10_compare 63 = .ok (.getfield 9, 3) := by decide +kernel
theorem dX10_compare_66 : decode cX10_compare 66 = .ok (.iconst 0, 1) := by decide +kernel
theorem dX10_compare_67 : decode cX10_compare 67 = .ok (.aload_n 0, 1) := by decide +kernel
theorem dX10_compare_68 : decode cX10_compare 68 = .ok (.getfield 15, 3) := by decide +kernel
theorem dX10_compare_71 : decode cX10_compare 71 = .ok (.iconst 0, 1) := by decide +kernel
theorem dX10_compare_72 : decode cX10_compare 72 = .ok (.bipush 9, 2) := by decide +kernel
theorem dX10_compare_74 : decode cX10_compare 74 = .ok (.invokestatic 78, 3) := by decide +kernel
theorem dX10_compare_77 : decode cX10_compare 77 = .ok (.return_, 1) := by decide +kernel
abbrev D_X10_compare : Nat := 2
set_option maxRecDepth 100000 in
def f_X10_compare (μ0 : Mm) (a1 : Nat) : Option Mm :=
 ((gR μ0 a1 10 0).bind fun v2 =>
    ((ob μ0 v2 0).bind fun _ =>
    (bd (f_X0_worthOfOthersBroken μ0 v2) fun v4 μ3 =>
    (nm v4 fun x5 =>
    ((gI μ3 a1 10 3).bind fun v6 =>
    (if v6 = (-1 : Int32) then
    ((pV μ3 a1 10 3 (.int x5)).bind fun μ7 =>
    ((gR μ7 a1 10 0).bind fun v8 =>
    ((gI μ7 v8 0 7).bind fun v9 =>
    ((pV μ7 a1 10 4 (.int v9)).bind fun μ10 =>
    ((gR μ10 a1 10 1).bind fun v11 =>
    ((gR μ10 a1 10 2).bind fun v12 =>
    ((cpI μ10 v11 (0 : Int32) v12 (0 : Int32) (9 : Int32)).bind fun μ13 =>
    (some μ13))))))))
    else
    ((gI μ3 a1 10 3).bind fun v14 =>
    (if x5 < v14 then
    ((pV μ3 a1 10 3 (.int x5)).bind fun μ15 =>
    ((gR μ15 a1 10 0).bind fun v16 =>
    ((gI μ15 v16 0 7).bind fun v17 =>
    ((pV μ15 a1 10 4 (.int v17)).bind fun μ18 =>
    ((gR μ18 a1 10 1).bind fun v19 =>
    ((gR μ18 a1 10 2).bind fun v20 =>
    ((cpI μ18 v19 (0 : Int32) v20 (0 : Int32) (9 : Int32)).bind fun μ21 =>
    (some μ21))))))))
    else
    ((gI μ3 a1 10 3).bind fun v22 =>
    (if x5 = v22 then
    ((gR μ3 a1 10 0).bind fun v23 =>
    ((gI μ3 v23 0 7).bind fun v24 =>
    ((gI μ3 a1 10 4).bind fun v25 =>
    (if v25 ≤ v24 then
    (some μ3)
    else
    ((pV μ3 a1 10 3 (.int x5)).bind fun μ26 =>
    ((gR μ26 a1 10 0).bind fun v27 =>
    ((gI μ26 v27 0 7).bind fun v28 =>
    ((pV μ26 a1 10 4 (.int v28)).bind fun μ29 =>
    ((gR μ29 a1 10 1).bind fun v30 =>
    ((gR μ29 a1 10 2).bind fun v31 =>
    ((cpI μ29 v30 (0 : Int32) v31 (0 : Int32) (9 : Int32)).bind fun μ32 =>
    (some μ32))))))))))))
    else
    (some μ3)))))))))))
set_option maxHeartbeats 4000000 in
set_option maxRecDepth 100000 in
theorem f_X10_compare_ok {l : Launch} {G : GG} {μ0 : Mm} {a1 : Nat} {μ' : Mm} (hf : f_X10_compare μ0 a1 = some μ') : EvM l G D_X10_compare yX10_compare cX10_compare 2 none [.ref a1] μ0 none μ' := by
  show Ev l G D_X10_compare yX10_compare cX10_compare 2 none 0 [(0, .ref a1)] [] μ0 none μ'
  unfold f_X10_compare at hf
  refine E_aload_n (pc := 0) dX10_compare_0 rfl ?_
  refine E_getR (pc := 1) dX10_compare_1 fl_X10_25 hf (fun v2 hf => ?_)
  refine E_Vi (pc := 4) (d2 := D_X0_worthOfOthersBroken) (ci := 0) [] dX10_compare_4 ml_X10_74 mf_X0_worthOfOthersBroken im_X0_worthOfOthersBroken rfl rfl rfl (by decide) (Nat.le_of_ble_eq_true rfl) (Nat.le_of_ble_eq_true rfl) rfl (fun _ _ h => f_X0_worthOfOthersBroken_ok h) hf (fun v4 μ3 hf => ?_)
  refine E_istore_n (pc := 7) (ls' := fun x5 => [(1, .int x5), (0, .ref a1)]) dX10_compare_7 (by decide) (fun _ => rfl) hf (fun x5 hf => ?_)
  refine E_aload_n (pc := 8) dX10_compare_8 rfl ?_
  refine E_getI (pc := 9) dX10_compare_9 fl_X10_18 hf (fun v6 hf => ?_)
  refine E_iconst (pc := 12) (v := (-1 : Int32)) dX10_compare_12 (by decide) ?_
  refine E_icmp_eq (pc := 13) (tgt := 46) dX10_compare_13 (by decide) hf (fun hf => ?_) (fun hf => ?_)
  · refine E_aload_n (pc := 46) dX10_compare_46 rfl ?_
    refine E_iload_n (pc := 47) dX10_compare_47 rfl ?_
    refine E_putI (pc := 48) dX10_compare_48 (pl_X10_18 _) hf (fun μ7 hf => ?_)
    refine E_aload_n (pc := 51) dX10_compare_51 rfl ?_
    refine E_aload_n (pc := 52) dX10_compare_52 rfl ?_
    refine E_getR (pc := 53) dX10_compare_53 fl_X10_25 hf (fun v8 hf => ?_)
    refine E_getI (pc := 56) dX10_compare_56 fl_X10_71 hf (fun v9 hf => ?_)
    refine E_putI (pc := 59) dX10_compare_59 (pl_X10_22 _) hf (fun μ10 hf => ?_)
    refine E_aload_n (pc := 62) dX10_compare_62 rfl ?_
    refine E_getR (pc := 63) dX10_compare_63 fl_X10_9 hf (fun v11 hf => ?_)
    refine E_iconst (pc := 66) (v := (0 : Int32)) dX10_compare_66 (by decide) ?_
    refine E_aload_n (pc := 67) dX10_compare_67 rfl ?_
    refine E_getR (pc := 68) dX10_compare_68 fl_X10_15 hf (fun v12 hf => ?_)
    refine E_iconst (pc := 71) (v := (0 : Int32)) dX10_compare_71 (by decide) ?_
    refine E_bipush (pc := 72) (v := (9 : Int32)) dX10_compare_72 (by decide) ?_
    refine E_copy (pc := 74) dX10_compare_74 (by decide) (Nat.le_of_ble_eq_true rfl) ml_X10_78 hf (fun μ13 hf => ?_)
    exact E_vret (pc := 77) dX10_compare_77 rfl hf
  · refine E_iload_n (pc := 16) dX10_compare_16 rfl ?_
    refine E_aload_n (pc := 17) dX10_compare_17 rfl ?_
    refine E_getI (pc := 18) dX10_compare_18 fl_X10_18 hf (fun v14 hf => ?_)
    refine E_icmp_lt (pc := 21) (tgt := 46) dX10_compare_21 (by decide) hf (fun hf => ?_) (fun hf => ?_)
    · refine E_aload_n (pc := 46) dX10_compare_46 rfl ?_
      refine E_iload_n (pc := 47) dX10_compare_47 rfl ?_
      refine E_putI (pc := 48) dX10_compare_48 (pl_X10_18 _) hf (fun μ15 hf => ?_)
      refine E_aload_n (pc := 51) dX10_compare_51 rfl ?_
      refine E_aload_n (pc := 52) dX10_compare_52 rfl ?_
      refine E_getR (pc := 53) dX10_compare_53 fl_X10_25 hf (fun v16 hf => ?_)
      refine E_getI (pc := 56) dX10_compare_56 fl_X10_71 hf (fun v17 hf => ?_)
      refine E_putI (pc := 59) dX10_compare_59 (pl_X10_22 _) hf (fun μ18 hf => ?_)
      refine E_aload_n (pc := 62) dX10_compare_62 rfl ?_
      refine E_getR (pc := 63) dX10_compare_63 fl_X10_9 hf (fun v19 hf => ?_)
      refine E_iconst (pc := 66) (v := (0 : Int32)) dX10_compare_66 (by decide) ?_
      refine E_aload_n (pc := 67) dX10_compare_67 rfl ?_
      refine E_getR (pc := 68) dX10_compare_68 fl_X10_15 hf (fun v20 hf => ?_)
      refine E_iconst (pc := 71) (v := (0 : Int32)) dX10_compare_71 (by decide) ?_
      refine E_bipush (pc := 72) (v := (9 : Int32)) dX10_compare_72 (by decide) ?_
      refine E_copy (pc := 74) dX10_compare_74 (by decide) (Nat.le_of_ble_eq_true rfl) ml_X10_78 hf (fun μ21 hf => ?_)
      exact E_vret (pc := 77) dX10_compare_77 rfl hf
    · refine E_iload_n (pc := 24) dX10_compare_24 rfl ?_
      refine E_aload_n (pc := 25) dX10_compare_25 rfl ?_
      refine E_getI (pc := 26) dX10_compare_26 fl_X10_18 hf (fun v22 hf => ?_)
      refine E_icmp_ne (pc := 29) (tgt := 77) dX10_compare_29 (by decide) hf (fun hf => ?_) (fun hf => ?_)
      · refine E_aload_n (pc := 32) dX10_compare_32 rfl ?_
        refine E_getR (pc := 33) dX10_compare_33 fl_X10_25 hf (fun v23 hf => ?_)
        refine E_getI (pc := 36) dX10_compare_36 fl_X10_71 hf (fun v24 hf => ?_)
        refine E_aload_n (pc := 39) dX10_compare_39 rfl ?_
        refine E_getI (pc := 40) dX10_compare_40 fl_X10_22 hf (fun v25 hf => ?_)
        refine E_icmp_ge (pc := 43) (tgt := 77) dX10_compare_43 (by decide) hf (fun hf => ?_) (fun hf => ?_)
        · exact E_vret (pc := 77) dX10_compare_77 rfl hf
        · refine E_aload_n (pc := 46) dX10_compare_46 rfl ?_
          refine E_iload_n (pc := 47) dX10_compare_47 rfl ?_
          refine E_putI (pc := 48) dX10_compare_48 (pl_X10_18 _) hf (fun μ26 hf => ?_)
          refine E_aload_n (pc := 51) dX10_compare_51 rfl ?_
          refine E_aload_n (pc := 52) dX10_compare_52 rfl ?_
          refine E_getR (pc := 53) dX10_compare_53 fl_X10_25 hf (fun v27 hf => ?_)
          refine E_getI (pc := 56) dX10_compare_56 fl_X10_71 hf (fun v28 hf => ?_)
          refine E_putI (pc := 59) dX10_compare_59 (pl_X10_22 _) hf (fun μ29 hf => ?_)
          refine E_aload_n (pc := 62) dX10_compare_62 rfl ?_
          refine E_getR (pc := 63) dX10_compare_63 fl_X10_9 hf (fun v30 hf => ?_)
          refine E_iconst (pc := 66) (v := (0 : Int32)) dX10_compare_66 (by decide) ?_
          refine E_aload_n (pc := 67) dX10_compare_67 rfl ?_
          refine E_getR (pc := 68) dX10_compare_68 fl_X10_15 hf (fun v31 hf => ?_)
          refine E_iconst (pc := 71) (v := (0 : Int32)) dX10_compare_71 (by decide) ?_
          refine E_bipush (pc := 72) (v := (9 : Int32)) dX10_compare_72 (by decide) ?_
          refine E_copy (pc := 74) dX10_compare_74 (by decide) (Nat.le_of_ble_eq_true rfl) ml_X10_78 hf (fun μ32 hf => ?_)
          exact E_vret (pc := 77) dX10_compare_77 rfl hf
      · exact E_vret (pc := 77) dX10_compare_77 rfl hf
