theorem dX6_readClause_0 : decode cX6_readClause 0 = .ok (.aload_n 0, 1) := by decide +kernel
theorem dX6_readClause_1 : decode cX6_readClause 1 = .ok (.getfield 37, 3) := by decide +kernel
theorem dX6_readClause_4 : decode cX6_readClause 4 = .ok (.invokevirtual 56, 3) := by decide +kernel
theorem dX6_readClause_7 : decode cX6_readClause 7 = .ok (.istore_n 1, 1) := by decide +kernel
theorem dX6_readClause_8 : decode cX6_readClause 8 = .ok (.aload_n 0, 1) := by decide +kernel
theorem dX6_readClause_9 : decode cX6_readClause 9 = .ok (.getfield 37, 3) := by decide +kernel
theorem dX6_readClause_12 : decode cX6_readClause 12 = .ok (.ldc 60, 2) := by decide +kernel
theorem dX6_readClause_14 : decode cX6_readClause 14 = .ok (.invokevirtual 62, 3) := by decide +kernel
theorem dX6_readClause_17 : decode cX6_readClause 17 = .ok (.istore_n 2, 1) := by decide +kernel
theorem dX6_readClause_18 : decode cX6_readClause 18 = .ok (.iload_n 2, 1) := by decide +kernel
theorem dX6_readClause_19 : decode cX6_readClause 19 = .ok (.iconst (-1), 1) := by decide +kernel
theorem dX6_readClause_20 : decode cX6_readClause 20 = .ok (.if_icmp .ne 13, 3) := by decide +kernel
theorem dX6_readClause_23 : decode cX6_readClause 23 = .ok (.aload_n 0, 1) := by decide +kernel
theorem dX6_readClause_24 : decode cX6_readClause 24 = .ok (.getfield 37, 3) := by decide +kernel
theorem dX6_readClause_27 : decode cX6_readClause 27 = .ok (.iload_n 1, 1) := by decide +kernel
theorem dX6_readClause_28 : decode cX6_readClause 28 = .ok (.iconst 0, 1) := by decide +kernel
theorem dX6_readClause_29 : decode cX6_readClause 29 = .ok (.invokevirtual 66, 3) := by decide +kernel
theorem dX6_readClause_32 : decode cX6_readClause 32 = .ok (.return_, 1) := by decide +kernel
theorem dX6_readClause_33 : decode cX6_readClause 33 = .ok (.aload_n 0, 1) := by decide +kernel
theorem dX6_readClause_34 : decode cX6_readClause 34 = .ok (.getfield 22, 3) := by decide +kernel
theorem dX6_readClause_37 : decode cX6_readClause 37 = .ok (.bipush 12, 2) := by decide +kernel
theorem dX6_readClause_39 : decode cX6_readClause 39 = .ok (.if_icmp .lt 13, 3) := by decide +kernel
theorem dX6_readClause_42 : decode cX6_readClause 42 = .ok (.aload_n 0, 1) := by decide +kernel
theorem dX6_readClause_43 : decode cX6_readClause 43 = .ok (.getfield 37, 3) := by decide +kernel
theorem dX6_readClause_46 : decode cX6_readClause 46 = .ok (.iload_n 1, 1) := by decide +kernel
theorem dX6_readClause_47 : decode cX6_readClause 47 = .ok (.iconst 4, 1) := by decide +kernel
theorem dX6_readClause_48 : decode cX6_readClause 48 = .ok (.invokevirtual 66, 3) := by decide +kernel
theorem dX6_readClause_51 : decode cX6_readClause 51 = .ok (.return_, 1) := by decide +kernel
theorem dX6_readClause_52 : decode cX6_readClause 52 = .ok (.aload_n 0, 1) := by decide +kernel
theorem dX6_readClause_53 : decode cX6_readClause 53 = .ok (.getfield 25, 3) := by decide +kernel
theorem dX6_readClause_56 : decode cX6_readClause 56 = .ok (.aload_n 0, 1) := by decide +kernel
theorem dX6_readClause_57 : decode cX6_readClause 57 = .ok (.getfield 22, 3) := by decide +kernel
theorem dX6_readClause_60 : decode cX6_readClause 60 = .ok (.iload_n 2, 1) := by decide +kernel
theorem dX6_readClause_61 : decode cX6_readClause 61 = .ok (.iastore, 1) := by decide +kernel
theorem dX6_readClause_62 : decode cX6_readClause 62 = .ok (.aload_n 0, 1) := by decide +kernel
theorem dX6_readClause_63 : decode cX6_readClause 63 = .ok (.getfield 28, 3) := by decide +kernel
theorem dX6_readClause_66 : decode cX6_readClause 66 = .ok (.aload_n 0, 1) := by decide +kernel
theorem dX6_readClause_67 : decode cX6_readClause 67 = .ok (.getfield 22, 3) := by decide +kernel
theorem dX6_readClause_70 : decode cX6_readClause 70 = .ok (.aload_n 0, 1) := by decide +kernel
theorem dX6_readClause_71 : decode cX6_readClause 71 = .ok (.getfield 15, 3) := by decide +kernel
theorem dX6_readClause_74 : decode cX6_readClause 74 = .ok (.iastore, 1) := by decide +kernel
theorem dX6_readClause_75 : decode cX6_readClause 75 = .ok (.iload_n 2, 1) := by decide +kernel
theorem dX6_readClause_76 : decode cX6_readClause 76 = .ok (.iconst 1, 1) := by decide +kernel
theorem dX6_readClause_77 : decode cX6_readClause 77 = .ok (.if_icmp .ne 7, 3) := by decide +kernel
theorem dX6_readClause_80 : decode cX6_readClause 80 = .ok (.aload_n 0, 1) := by decide +kernel
theorem dX6_readClause_81 : decode cX6_readClause 81 = .ok (.invokevirtual 72, 3) := by decide +kernel
theorem dX6_readClause_84 : decode cX6_readClause 84 = .ok (.aload_n 0, 1) := by decide +kernel
theorem dX6_readClause_85 : decode cX6_readClause 85 = .ok (.getfield 31, 3) := by decide +kernel
theorem dX6_readClause_88 : decode cX6_readClause 88 = .ok (.aload_n 0, 1) := by decide +kernel
theorem dX6_readClause_89 : decode cX6_readClause 89 = .ok (.getfield 22, 3) := by decide +kernel
theorem dX6_readClause_92 : decode cX6_readClause 92 = .ok (.aload_n 0, 1) := by decide +kernel
theorem dX6_readClause_93 : decode cX6_readClause 93 = .ok (.getfield 15, 3) := by decide +kernel
theorem dX6_readClause_96 : decode cX6_readClause 96 = .ok (.iastore, 1) := by decide +kernel
theorem dX6_readClause_97 : decode cX6_readClause 97 = .ok (.iload_n 2, 1) := by decide +kernel
theorem dX6_readClause_98 : decode cX6_readClause 98 = .ok (.ifCond .eq 15, 3) := by decide +kernel
theorem dX6_readClause_101 : decode cX6_readClause 101 = .ok (.aload_n 0, 1) := by decide +kernel
theorem dX6_readClause_102 : decode cX6_readClause 102 = .ok (.getfield 37, 3) := by decide +kernel
theorem dX6_readClause_105 : decode cX6_readClause 105 = .ok (.ldc 75, 2) := by decide +kernel
theorem dX6_readClause_107 : decode cX6_readClause 107 = .ok (.invokevirtual 77, 3) := by decide +kernel
theorem dX6_readClause_110 : decode cX6_readClause 110 = .ok (.ifCond .eq 8, 3) := by decide +kernel
theorem dX6_readClause_113 : decode cX6_readClause 113 = .ok (.aload_n 0, 1) := by decide +kernel
theorem dX6_readClause_114 : decode cX6_readClause 114 = .ok (.iconst 0, 1) := by decide +kernel
theorem dX6_readClause_115 : decode cX6_readClause 115 = .ok (.invokevirtual 81, 3) := by decide +kernel
theorem dX6_readClause_118 : decode cX6_readClause 118 = .ok (.aload_n 0, 1) := by decide +kernel
theorem dX6_readClause_119 : decode cX6_readClause 119 = .ok (.getfield 34, 3) := by decide +kernel
theorem dX6_readClause_122 : decode cX6_readClause 122 = .ok (.aload_n 0, 1) := by decide +kernel
theorem dX6_readClause_123 : decode cX6_readClause 123 = .ok (.getfield 22, 3) := by decide +kernel
theorem dX6_readClause_126 : decode cX6_readClause 126 = .ok (.aload_n 0, 1) := by decide +kernel
theorem dX6_readClause_127 : decode cX6_readClause 127 = .ok (.getfield 15, 3) := by decide +kernel
theorem dX6_readClause_130 : decode cX6_readClause 130 = .ok (.iastore, 1) := by decide +kernel
theorem dX6_readClause_131 : decode cX6_readClause 131 = .ok (.aload_n 0, 1) := by decide +kernel
theorem dX6_readClause_132 : decode cX6_readClause 132 = .ok (.dup, 1) := by decide +kernel
theorem dX6_readClause_133 : decode cX6_readClause 133 = .ok (.getfield 22, 3) := by decide +kernel
theorem dX6_readClause_136 : decode cX6_readClause 136 = .ok (.iconst 1, 1) := by decide +kernel
theorem dX6_readClause_137 : decode cX6_readClause 137 = .ok (.iadd, 1) := by decide +kernel
theorem dX6_readClause_138 : decode cX6_readClause 138 = .ok (.putfield 22, 3) := by decide +kernel
theorem dX6_readClause_141 : decode cX6_readClause 141 = .ok (.return_, 1) := by decide +kernel
abbrev D_X6_readClause : Nat := 71
set_option maxRecDepth 100000 in
def f_X6_readClause (μ0 : Mm) (a1 : Nat) : Option Mm :=
 ((gR μ0 a1 6 0).bind fun v2 =>
    ((ob μ0 v2 9).bind fun _ =>
    (bd (f_X9_skipBlanks μ0 v2) fun v4 μ3 =>
    (nm v4 fun x5 =>
    ((gR μ3 a1 6 0).bind fun v6 =>
    ((ob μ3 v6 9).bind fun _ =>
    (bd (f_X9_takeWord μ3 v6 (1 : Nat)) fun v8 μ7 =>
    (nm v8 fun x9 =>
    (if x9 = (-1 : Int32) then
    ((gR μ7 a1 6 0).bind fun v10 =>
    ((ob μ7 v10 9).bind fun _ =>
    ((f_X9_fail μ7 v10 x5 (0 : Int32)).bind fun μ11 =>
    (some μ11))))
    else
    ((gI μ7 a1 6 4).bind fun v12 =>
    (if v12 < (12 : Int32) then
    ((gR μ7 a1 6 5).bind fun v13 =>
    ((gI μ7 a1 6 4).bind fun v14 =>
    ((sI μ7 v13 0 v14 x9).bind fun μ15 =>
    ((gR μ15 a1 6 6).bind fun v16 =>
    ((gI μ15 a1 6 4).bind fun v17 =>
    ((gI μ15 a1 6 2).bind fun v18 =>
    ((sI μ15 v16 0 v17 v18).bind fun μ19 =>
    (if x9 = (1 : Int32) then
    ((ob μ19 a1 6).bind fun _ =>
    ((f_X6_readSum μ19 a1).bind fun μ20 =>
    ((gR μ20 a1 6 7).bind fun v21 =>
    ((gI μ20 a1 6 4).bind fun v22 =>
    ((gI μ20 a1 6 2).bind fun v23 =>
    ((sI μ20 v21 0 v22 v23).bind fun μ24 =>
    (if x9 = 0 then
    ((ob μ24 a1 6).bind fun _ =>
    ((f_X6_readTest μ24 a1 (0 : Int32)).bind fun μ25 =>
    ((gR μ25 a1 6 8).bind fun v26 =>
    ((gI μ25 a1 6 4).bind fun v27 =>
    ((gI μ25 a1 6 2).bind fun v28 =>
    ((sI μ25 v26 0 v27 v28).bind fun μ29 =>
    ((gI μ29 a1 6 4).bind fun v30 =>
    ((pV μ29 a1 6 4 (.int (v30 + (1 : Int32)))).bind fun μ31 =>
    (some μ31)))))))))
    else
    ((gR μ24 a1 6 0).bind fun v32 =>
    ((ob μ24 v32 9).bind fun _ =>
    (bd (f_X9_takesWord μ24 v32 (5 : Nat)) fun v34 μ33 =>
    (if v34 = 0 then
    ((gR μ33 a1 6 8).bind fun v35 =>
    ((gI μ33 a1 6 4).bind fun v36 =>
    ((gI μ33 a1 6 2).bind fun v37 =>
    ((sI μ33 v35 0 v36 v37).bind fun μ38 =>
    ((gI μ38 a1 6 4).bind fun v39 =>
    ((pV μ38 a1 6 4 (.int (v39 + (1 : Int32)))).bind fun μ40 =>
    (some μ40)))))))
    else
    ((ob μ33 a1 6).bind fun _ =>
    ((f_X6_readTest μ33 a1 (0 : Int32)).bind fun μ41 =>
    ((gR μ41 a1 6 8).bind fun v42 =>
    ((gI μ41 a1 6 4).bind fun v43 =>
    ((gI μ41 a1 6 2).bind fun v44 =>
    ((sI μ41 v42 0 v43 v44).bind fun μ45 =>
    ((gI μ45 a1 6 4).bind fun v46 =>
    ((pV μ45 a1 6 4 (.int (v46 + (1 : Int32)))).bind fun μ47 =>
    (some μ47))))))))))))))))))))
    else
    ((gR μ19 a1 6 7).bind fun v48 =>
    ((gI μ19 a1 6 4).bind fun v49 =>
    ((gI μ19 a1 6 2).bind fun v50 =>
    ((sI μ19 v48 0 v49 v50).bind fun μ51 =>
    (if x9 = 0 then
    ((ob μ51 a1 6).bind fun _ =>
    ((f_X6_readTest μ51 a1 (0 : Int32)).bind fun μ52 =>
    ((gR μ52 a1 6 8).bind fun v53 =>
    ((gI μ52 a1 6 4).bind fun v54 =>
    ((gI μ52 a1 6 2).bind fun v55 =>
    ((sI μ52 v53 0 v54 v55).bind fun μ56 =>
    ((gI μ56 a1 6 4).bind fun v57 =>
    ((pV μ56 a1 6 4 (.int (v57 + (1 : Int32)))).bind fun μ58 =>
    (some μ58)))))))))
    else
    ((gR μ51 a1 6 0).bind fun v59 =>
    ((ob μ51 v59 9).bind fun _ =>
    (bd (f_X9_takesWord μ51 v59 (5 : Nat)) fun v61 μ60 =>
    (if v61 = 0 then
    ((gR μ60 a1 6 8).bind fun v62 =>
    ((gI μ60 a1 6 4).bind fun v63 =>
    ((gI μ60 a1 6 2).bind fun v64 =>
    ((sI μ60 v62 0 v63 v64).bind fun μ65 =>
    ((gI μ65 a1 6 4).bind fun v66 =>
    ((pV μ65 a1 6 4 (.int (v66 + (1 : Int32)))).bind fun μ67 =>
    (some μ67)))))))
    else
    ((ob μ60 a1 6).bind fun _ =>
    ((f_X6_readTest μ60 a1 (0 : Int32)).bind fun μ68 =>
    ((gR μ68 a1 6 8).bind fun v69 =>
    ((gI μ68 a1 6 4).bind fun v70 =>
    ((gI μ68 a1 6 2).bind fun v71 =>
    ((sI μ68 v69 0 v70 v71).bind fun μ72 =>
    ((gI μ72 a1 6 4).bind fun v73 =>
    ((pV μ72 a1 6 4 (.int (v73 + (1 : Int32)))).bind fun μ74 =>
    (some μ74))))))))))))))))))))))))))
    else
    ((gR μ7 a1 6 0).bind fun v75 =>
    ((ob μ7 v75 9).bind fun _ =>
    ((f_X9_fail μ7 v75 x5 (4 : Int32)).bind fun μ76 =>
    (some μ76)))))))))))))))
set_option maxHeartbeats 4000000 in
set_option maxRecDepth 100000 in
theorem f_X6_readClause_ok {l : Launch} {G : GG} {μ0 : Mm} {a1 : Nat} {μ' : Mm} (hf : f_X6_readClause μ0 a1 = some μ') : EvM l G D_X6_readClause yX6_readClause cX6_readClause 3 none [.ref a1] μ0 none μ' := by
  show Ev l G D_X6_readClause yX6_readClause cX6_readClause 3 none 0 [(0, .ref a1)] [] μ0 none μ'
  unfold f_X6_readClause at hf
  refine E_aload_n (pc := 0) dX6_readClause_0 rfl ?_
  refine E_getR (pc := 1) dX6_readClause_1 fl_X6_37 hf (fun v2 hf => ?_)
  refine E_Vi (pc := 4) (d2 := D_X9_skipBlanks) (ci := 9) [] dX6_readClause_4 ml_X6_56 mf_X9_skipBlanks im_X9_skipBlanks rfl rfl rfl (by decide) (Nat.le_of_ble_eq_true rfl) (Nat.le_of_ble_eq_true rfl) rfl (fun _ _ h => f_X9_skipBlanks_ok h) hf (fun v4 μ3 hf => ?_)
  refine E_istore_n (pc := 7) (ls' := fun x5 => [(1, .int x5), (0, .ref a1)]) dX6_readClause_7 (by decide) (fun _ => rfl) hf (fun x5 hf => ?_)
  refine E_aload_n (pc := 8) dX6_readClause_8 rfl ?_
  refine E_getR (pc := 9) dX6_readClause_9 fl_X6_37 hf (fun v6 hf => ?_)
  refine E_ldcS (pc := 12) (1 : Nat) dX6_readClause_12 (by decide) ⟨rfl, rfl⟩ ?_
  refine E_Vi (pc := 14) (d2 := D_X9_takeWord) (ci := 9) [.ref (1 : Nat)] dX6_readClause_14 ml_X6_62 mf_X9_takeWord im_X9_takeWord rfl rfl rfl (by decide) (Nat.le_of_ble_eq_true rfl) (Nat.le_of_ble_eq_true rfl) rfl (fun _ _ h => f_X9_takeWord_ok h) hf (fun v8 μ7 hf => ?_)
  refine E_istore_n (pc := 17) (ls' := fun x9 => [(2, .int x9), (1, .int x5), (0, .ref a1)]) dX6_readClause_17 (by decide) (fun _ => rfl) hf (fun x9 hf => ?_)
  refine E_iload_n (pc := 18) dX6_readClause_18 rfl ?_
  refine E_iconst (pc := 19) (v := (-1 : Int32)) dX6_readClause_19 (by decide) ?_
  refine E_icmp_ne (pc := 20) (tgt := 33) dX6_readClause_20 (by decide) hf (fun hf => ?_) (fun hf => ?_)
  · refine E_aload_n (pc := 23) dX6_readClause_23 rfl ?_
    refine E_getR (pc := 24) dX6_readClause_24 fl_X6_37 hf (fun v10 hf => ?_)
    refine E_iload_n (pc := 27) dX6_readClause_27 rfl ?_
    refine E_iconst (pc := 28) (v := (0 : Int32)) dX6_readClause_28 (by decide) ?_
    refine E_Vv (pc := 29) (d2 := D_X9_fail) (ci := 9) [.int x5, .int (0 : Int32)] dX6_readClause_29 ml_X6_66 mf_X9_fail im_X9_fail rfl rfl rfl (by decide) (Nat.le_of_ble_eq_true rfl) (Nat.le_of_ble_eq_true rfl) rfl (fun _ h => f_X9_fail_ok h) hf (fun μ11 hf => ?_)
    exact E_vret (pc := 32) dX6_readClause_32 rfl hf
  · refine E_aload_n (pc := 33) dX6_readClause_33 rfl ?_
    refine E_getI (pc := 34) dX6_readClause_34 fl_X6_22 hf (fun v12 hf => ?_)
    refine E_bipush (pc := 37) (v := (12 : Int32)) dX6_readClause_37 (by decide) ?_
    refine E_icmp_lt (pc := 39) (tgt := 52) dX6_readClause_39 (by decide) hf (fun hf => ?_) (fun hf => ?_)
    · refine E_aload_n (pc := 52) dX6_readClause_52 rfl ?_
      refine E_getR (pc := 53) dX6_readClause_53 fl_X6_25 hf (fun v13 hf => ?_)
      refine E_aload_n (pc := 56) dX6_readClause_56 rfl ?_
      refine E_getI (pc := 57) dX6_readClause_57 fl_X6_22 hf (fun v14 hf => ?_)
      refine E_iload_n (pc := 60) dX6_readClause_60 rfl ?_
      refine E_iast (pc := 61) dX6_readClause_61 hf (fun μ15 hf => ?_)
      refine E_aload_n (pc := 62) dX6_readClause_62 rfl ?_
      refine E_getR (pc := 63) dX6_readClause_63 fl_X6_28 hf (fun v16 hf => ?_)
      refine E_aload_n (pc := 66) dX6_readClause_66 rfl ?_
      refine E_getI (pc := 67) dX6_readClause_67 fl_X6_22 hf (fun v17 hf => ?_)
      refine E_aload_n (pc := 70) dX6_readClause_70 rfl ?_
      refine E_getI (pc := 71) dX6_readClause_71 fl_X6_15 hf (fun v18 hf => ?_)
      refine E_iast (pc := 74) dX6_readClause_74 hf (fun μ19 hf => ?_)
      refine E_iload_n (pc := 75) dX6_readClause_75 rfl ?_
      refine E_iconst (pc := 76) (v := (1 : Int32)) dX6_readClause_76 (by decide) ?_
      refine E_icmp_ne (pc := 77) (tgt := 84) dX6_readClause_77 (by decide) hf (fun hf => ?_) (fun hf => ?_)
      · refine E_aload_n (pc := 80) dX6_readClause_80 rfl ?_
        refine E_Vv (pc := 81) (d2 := D_X6_readSum) (ci := 6) [] dX6_readClause_81 ml_X6_72 mf_X6_readSum im_X6_readSum rfl rfl rfl (by decide) (Nat.le_of_ble_eq_true rfl) (Nat.le_of_ble_eq_true rfl) rfl (fun _ h => f_X6_readSum_ok h) hf (fun μ20 hf => ?_)
        refine E_aload_n (pc := 84) dX6_readClause_84 rfl ?_
        refine E_getR (pc := 85) dX6_readClause_85 fl_X6_31 hf (fun v21 hf => ?_)
        refine E_aload_n (pc := 88) dX6_readClause_88 rfl ?_
        refine E_getI (pc := 89) dX6_readClause_89 fl_X6_22 hf (fun v22 hf => ?_)
        refine E_aload_n (pc := 92) dX6_readClause_92 rfl ?_
        refine E_getI (pc := 93) dX6_readClause_93 fl_X6_15 hf (fun v23 hf => ?_)
        refine E_iast (pc := 96) dX6_readClause_96 hf (fun μ24 hf => ?_)
        refine E_iload_n (pc := 97) dX6_readClause_97 rfl ?_
        refine E_if_eq (pc := 98) (tgt := 113) dX6_readClause_98 (by decide) hf (fun hf => ?_) (fun hf => ?_)
        · refine E_aload_n (pc := 113) dX6_readClause_113 rfl ?_
          refine E_iconst (pc := 114) (v := (0 : Int32)) dX6_readClause_114 (by decide) ?_
          refine E_Vv (pc := 115) (d2 := D_X6_readTest) (ci := 6) [.int (0 : Int32)] dX6_readClause_115 ml_X6_81 mf_X6_readTest im_X6_readTest rfl rfl rfl (by decide) (Nat.le_of_ble_eq_true rfl) (Nat.le_of_ble_eq_true rfl) rfl (fun _ h => f_X6_readTest_ok h) hf (fun μ25 hf => ?_)
          refine E_aload_n (pc := 118) dX6_readClause_118 rfl ?_
          refine E_getR (pc := 119) dX6_readClause_119 fl_X6_34 hf (fun v26 hf => ?_)
          refine E_aload_n (pc := 122) dX6_readClause_122 rfl ?_
          refine E_getI (pc := 123) dX6_readClause_123 fl_X6_22 hf (fun v27 hf => ?_)
          refine E_aload_n (pc := 126) dX6_readClause_126 rfl ?_
          refine E_getI (pc := 127) dX6_readClause_127 fl_X6_15 hf (fun v28 hf => ?_)
          refine E_iast (pc := 130) dX6_readClause_130 hf (fun μ29 hf => ?_)
          refine E_aload_n (pc := 131) dX6_readClause_131 rfl ?_
          refine E_dup (pc := 132) dX6_readClause_132 rfl ?_
          refine E_getI (pc := 133) dX6_readClause_133 fl_X6_22 hf (fun v30 hf => ?_)
          refine E_iconst (pc := 136) (v := (1 : Int32)) dX6_readClause_136 (by decide) ?_
          refine E_iadd (pc := 137) dX6_readClause_137 ?_
          refine E_putI (pc := 138) dX6_readClause_138 (pl_X6_22 _) hf (fun μ31 hf => ?_)
          exact E_vret (pc := 141) dX6_readClause_141 rfl hf
        · refine E_aload_n (pc := 101) dX6_readClause_101 rfl ?_
          refine E_getR (pc := 102) dX6_readClause_102 fl_X6_37 hf (fun v32 hf => ?_)
          refine E_ldcS (pc := 105) (5 : Nat) dX6_readClause_105 (by decide) ⟨rfl, rfl⟩ ?_
          refine E_Vi (pc := 107) (d2 := D_X9_takesWord) (ci := 9) [.ref (5 : Nat)] dX6_readClause_107 ml_X6_77 mf_X9_takesWord im_X9_takesWord rfl rfl rfl (by decide) (Nat.le_of_ble_eq_true rfl) (Nat.le_of_ble_eq_true rfl) rfl (fun _ _ h => f_X9_takesWord_ok h) hf (fun v34 μ33 hf => ?_)
          refine E_if_eq (pc := 110) (tgt := 118) dX6_readClause_110 (by decide) hf (fun hf => ?_) (fun hf => ?_)
          · refine E_aload_n (pc := 118) dX6_readClause_118 rfl ?_
            refine E_getR (pc := 119) dX6_readClause_119 fl_X6_34 hf (fun v35 hf => ?_)
            refine E_aload_n (pc := 122) dX6_readClause_122 rfl ?_
            refine E_getI (pc := 123) dX6_readClause_123 fl_X6_22 hf (fun v36 hf => ?_)
            refine E_aload_n (pc := 126) dX6_readClause_126 rfl ?_
            refine E_getI (pc := 127) dX6_readClause_127 fl_X6_15 hf (fun v37 hf => ?_)
            refine E_iast (pc := 130) dX6_readClause_130 hf (fun μ38 hf => ?_)
            refine E_aload_n (pc := 131) dX6_readClause_131 rfl ?_
            refine E_dup (pc := 132) dX6_readClause_132 rfl ?_
            refine E_getI (pc := 133) dX6_readClause_133 fl_X6_22 hf (fun v39 hf => ?_)
            refine E_iconst (pc := 136) (v := (1 : Int32)) dX6_readClause_136 (by decide) ?_
            refine E_iadd (pc := 137) dX6_readClause_137 ?_
            refine E_putI (pc := 138) dX6_readClause_138 (pl_X6_22 _) hf (fun μ40 hf => ?_)
            exact E_vret (pc := 141) dX6_readClause_141 rfl hf
          · refine E_aload_n (pc := 113) dX6_readClause_113 rfl ?_
            refine E_iconst (pc := 114) (v := (0 : Int32)) dX6_readClause_114 (by decide) ?_
            refine E_Vv (pc := 115) (d2 := D_X6_readTest) (ci := 6) [.int (0 : Int32)] dX6_readClause_115 ml_X6_81 mf_X6_readTest im_X6_readTest rfl rfl rfl (by decide) (Nat.le_of_ble_eq_true rfl) (Nat.le_of_ble_eq_true rfl) rfl (fun _ h => f_X6_readTest_ok h) hf (fun μ41 hf => ?_)
            refine E_aload_n (pc := 118) dX6_readClause_118 rfl ?_
            refine E_getR (pc := 119) dX6_readClause_119 fl_X6_34 hf (fun v42 hf => ?_)
            refine E_aload_n (pc := 122) dX6_readClause_122 rfl ?_
            refine E_getI (pc := 123) dX6_readClause_123 fl_X6_22 hf (fun v43 hf => ?_)
            refine E_aload_n (pc := 126) dX6_readClause_126 rfl ?_
            refine E_getI (pc := 127) dX6_readClause_127 fl_X6_15 hf (fun v44 hf => ?_)
            refine E_iast (pc := 130) dX6_readClause_130 hf (fun μ45 hf => ?_)
            refine E_aload_n (pc := 131) dX6_readClause_131 rfl ?_
            refine E_dup (pc := 132) dX6_readClause_132 rfl ?_
            refine E_getI (pc := 133) dX6_readClause_133 fl_X6_22 hf (fun v46 hf => ?_)
            refine E_iconst (pc := 136) (v := (1 : Int32)) dX6_readClause_136 (by decide) ?_
            refine E_iadd (pc := 137) dX6_readClause_137 ?_
            refine E_putI (pc := 138) dX6_readClause_138 (pl_X6_22 _) hf (fun μ47 hf => ?_)
            exact E_vret (pc := 141) dX6_readClause_141 rfl hf
      · refine E_aload_n (pc := 84) dX6_readClause_84 rfl ?_
        refine E_getR (pc := 85) dX6_readClause_85 fl_X6_31 hf (fun v48 hf => ?_)
        refine E_aload_n (pc := 88) dX6_readClause_88 rfl ?_
        refine E_getI (pc := 89) dX6_readClause_89 fl_X6_22 hf (fun v49 hf => ?_)
        refine E_aload_n (pc := 92) dX6_readClause_92 rfl ?_
        refine E_getI (pc := 93) dX6_readClause_93 fl_X6_15 hf (fun v50 hf => ?_)
        refine E_iast (pc := 96) dX6_readClause_96 hf (fun μ51 hf => ?_)
        refine E_iload_n (pc := 97) dX6_readClause_97 rfl ?_
        refine E_if_eq (pc := 98) (tgt := 113) dX6_readClause_98 (by decide) hf (fun hf => ?_) (fun hf => ?_)
        · refine E_aload_n (pc := 113) dX6_readClause_113 rfl ?_
          refine E_iconst (pc := 114) (v := (0 : Int32)) dX6_readClause_114 (by decide) ?_
          refine E_Vv (pc := 115) (d2 := D_X6_readTest) (ci := 6) [.int (0 : Int32)] dX6_readClause_115 ml_X6_81 mf_X6_readTest im_X6_readTest rfl rfl rfl (by decide) (Nat.le_of_ble_eq_true rfl) (Nat.le_of_ble_eq_true rfl) rfl (fun _ h => f_X6_readTest_ok h) hf (fun μ52 hf => ?_)
          refine E_aload_n (pc := 118) dX6_readClause_118 rfl ?_
          refine E_getR (pc := 119) dX6_readClause_119 fl_X6_34 hf (fun v53 hf => ?_)
          refine E_aload_n (pc := 122) dX6_readClause_122 rfl ?_
          refine E_getI (pc := 123) dX6_readClause_123 fl_X6_22 hf (fun v54 hf => ?_)
          refine E_aload_n (pc := 126) dX6_readClause_126 rfl ?_
          refine E_getI (pc := 127) dX6_readClause_127 fl_X6_15 hf (fun v55 hf => ?_)
          refine E_iast (pc := 130) dX6_readClause_130 hf (fun μ56 hf => ?_)
          refine E_aload_n (pc := 131) dX6_readClause_131 rfl ?_
          refine E_dup (pc := 132) dX6_readClause_132 rfl ?_
          refine E_getI (pc := 133) dX6_readClause_133 fl_X6_22 hf (fun v57 hf => ?_)
          refine E_iconst (pc := 136) (v := (1 : Int32)) dX6_readClause_136 (by decide) ?_
          refine E_iadd (pc := 137) dX6_readClause_137 ?_
          refine E_putI (pc := 138) dX6_readClause_138 (pl_X6_22 _) hf (fun μ58 hf => ?_)
          exact E_vret (pc := 141) dX6_readClause_141 rfl hf
        · refine E_aload_n (pc := 101) dX6_readClause_101 rfl ?_
          refine E_getR (pc := 102) dX6_readClause_102 fl_X6_37 hf (fun v59 hf => ?_)
          refine E_ldcS (pc := 105) (5 : Nat) dX6_readClause_105 (by decide) ⟨rfl, rfl⟩ ?_
          refine E_Vi (pc := 107) (d2 := D_X9_takesWord) (ci := 9) [.ref (5 : Nat)] dX6_readClause_107 ml_X6_77 mf_X9_takesWord im_X9_takesWord rfl rfl rfl (by decide) (Nat.le_of_ble_eq_true rfl) (Nat.le_of_ble_eq_true rfl) rfl (fun _ _ h => f_X9_takesWord_ok h) hf (fun v61 μ60 hf => ?_)
          refine E_if_eq (pc := 110) (tgt := 118) dX6_readClause_110 (by decide) hf (fun hf => ?_) (fun hf => ?_)
          · refine E_aload_n (pc := 118) dX6_readClause_118 rfl ?_
            refine E_getR (pc := 119) dX6_readClause_119 fl_X6_34 hf (fun v62 hf => ?_)
            refine E_aload_n (pc := 122) dX6_readClause_122 rfl ?_
            refine E_getI (pc := 123) dX6_readClause_123 fl_X6_22 hf (fun v63 hf => ?_)
            refine E_aload_n (pc := 126) dX6_readClause_126 rfl ?_
            refine E_getI (pc := 127) dX6_readClause_127 fl_X6_15 hf (fun v64 hf => ?_)
            refine E_iast (pc := 130) dX6_readClause_130 hf (fun μ65 hf => ?_)
            refine E_aload_n (pc := 131) dX6_readClause_131 rfl ?_
            refine E_dup (pc := 132) dX6_readClause_132 rfl ?_
            refine E_getI (pc := 133) dX6_readClause_133 fl_X6_22 hf (fun v66 hf => ?_)
            refine E_iconst (pc := 136) (v := (1 : Int32)) dX6_readClause_136 (by decide) ?_
            refine E_iadd (pc := 137) dX6_readClause_137 ?_
            refine E_putI (pc := 138) dX6_readClause_138 (pl_X6_22 _) hf (fun μ67 hf => ?_)
            exact E_vret (pc := 141) dX6_readClause_141 rfl hf
          · refine E_aload_n (pc := 113) dX6_readClause_113 rfl ?_
            refine E_iconst (pc := 114) (v := (0 : Int32)) dX6_readClause_114 (by decide) ?_
            refine E_Vv (pc := 115) (d2 := D_X6_readTest) (ci := 6) [.int (0 : Int32)] dX6_readClause_115 ml_X6_81 mf_X6_readTest im_X6_readTest rfl rfl rfl (by decide) (Nat.le_of_ble_eq_true rfl) (Nat.le_of_ble_eq_true rfl) rfl (fun _ h => f_X6_readTest_ok h) hf (fun μ68 hf => ?_)
            refine E_aload_n (pc := 118) dX6_readClause_118 rfl ?_
            refine E_getR (pc := 119) dX6_readClause_119 fl_X6_34 hf (fun v69 hf => ?_)
            refine E_aload_n (pc := 122) dX6_readClause_122 rfl ?_
            refine E_getI (pc := 123) dX6_readClause_123 fl_X6_22 hf (fun v70 hf => ?_)
            refine E_aload_n (pc := 126) dX6_readClause_126 rfl ?_
            refine E_getI (pc := 127) dX6_readClause_127 fl_X6_15 hf (fun v71 hf => ?_)
            refine E_iast (pc := 130) dX6_readClause_130 hf (fun μ72 hf => ?_)
            refine E_aload_n (pc := 131) dX6_readClause_131 rfl ?_
            refine E_dup (pc := 132) dX6_readClause_132 rfl ?_
            refine E_getI (pc := 133) dX6_readClause_133 fl_X6_22 hf (fun v73 hf => ?_)
            refine E_iconst (pc := 136) (v := (1 : Int32)) dX6_readClause_136 (by decide) ?_
            refine E_iadd (pc := 137) dX6_readClause_137 ?_
            refine E_putI (pc := 138) dX6_readClause_138 (pl_X6_22 _) hf (fun μ74 hf => ?_)
            exact E_vret (pc := 141) dX6_readClause_141 rfl hf
    · refine E_aload_n (pc := 42) dX6_readClause_42 rfl ?_
      refine E_getR (pc := 43) dX6_readClause_43 fl_X6_37 hf (fun v75 hf => ?_)
      refine E_iload_n (pc := 46) dX6_readClause_46 rfl ?_
      refine E_iconst (pc := 47) (v := (4 : Int32)) dX6_readClause_47 (by decide) ?_
      refine E_Vv (pc := 48) (d2 := D_X9_fail) (ci := 9) [.int x5, .int (4 : Int32)] dX6_readClause_48 ml_X6_66 mf_X9_fail im_X9_fail rfl rfl rfl (by decide) (Nat.le_of_ble_eq_true rfl) (Nat.le_of_ble_eq_true rfl) rfl (fun _ h => f_X9_fail_ok h) hf (fun μ76 hf => ?_)
      exact E_vret (pc := 51) dX6_readClause_51 rfl hf
theorem dX6_readAll_0 : decode cX6_readAll 0 = .ok (.aload_n 0, 1) := by decide +kernel
theorem dX6_readAll_1 : decode cX6_readAll 1 = .ok (.getfield 37, 3) := by decide +kernel
theorem dX6_readAll_4 : decode cX6_readAll 4 = .ok (.invokevirtual 41, 3) := by decide +kernel
theorem dX6_readAll_7 : decode cX6_readAll 7 = .ok (.aload_n 0, 1) := by decide +kernel
theorem dX6_readAll_8 : decode cX6_readAll 8 = .ok (.iconst 0, 1) := by decide +kernel
theorem dX6_readAll_9 : decode cX6_readAll 9 = .ok (.putfield 15, 3) := by decide +kernel
theorem dX6_readAll_12 : decode cX6_readAll 12 = .ok (.aload_n 0, 1) := by decide +kernel
theorem dX6_readAll_13 : decode cX6_readAll 13 = .ok (.iconst 0, 1) := by decide +kernel
theorem dX6_readAll_14 : decode cX6_readAll 14 = .ok (.putfield 19, 3) := by decide +kernel
theorem dX6_readAll_17 : decode cX6_readAll 17 = .ok (.aload_n 0, 1) := by decide +kernel
theorem dX6_readAll_18 : decode cX6_readAll 18 = .ok (.iconst 0, 1) := by decide +kernel
theorem dX6_readAll_19 : decode cX6_readAll 19 = .ok (.putfield 22, 3) := by decide +kernel
theorem dX6_readAll_22 : decode cX6_readAll 22 = .ok (.iconst 1, 1) := by decide +kernel
theorem dX6_readAll_23 : decode cX6_readAll 23 = .ok (.istore_n 1, 1) := by decide +kernel
theorem dX6_readAll_24 : decode cX6_readAll 24 = .ok (.iconst 0, 1) := by decide +kernel
theorem dX6_readAll_25 : decode cX6_readAll 25 = .ok (.istore_n 2, 1) := by decide +kernel
theorem dX6_readAll_26 : decode cX6_readAll 26 = .ok (.iload_n 2, 1) := by decide +kernel
theorem dX6_readAll_27 : decode cX6_readAll 27 = .ok (.bipush 12, 2) := by decide +kernel
theorem dX6_readAll_29 : decode cX6_readAll 29 = .ok (.if_icmp .gt 43, 3) := by decide +kernel
theorem dX6_readAll_32 : decode cX6_readAll 32 = .ok (.iload_n 1, 1) := by decide +kernel
theorem dX6_readAll_33 : decode cX6_readAll 33 = .ok (.ifCond .eq 39, 3) := by decide +kernel
theorem dX6_readAll_36 : decode cX6_readAll 36 = .ok (.aload_n 0, 1) := by decide +kernel
theorem dX6_readAll_37 : decode cX6_readAll 37 = .ok (.invokevirtual 46, 3) := by decide +kernel
theorem dX6_readAll_40 : decode cX6_readAll 40 = .ok (.aload_n 0, 1) := by decide +kernel
theorem dX6_readAll_41 : decode cX6_readAll 41 = .ok (.getfield 37, 3) := by decide +kernel
theorem dX6_readAll_44 : decode cX6_readAll 44 = .ok (.invokevirtual 49, 3) := by decide +kernel
theorem dX6_readAll_47 : decode cX6_readAll 47 = .ok (.ifCond .eq 17, 3) := by decide +kernel
theorem dX6_readAll_50 : decode cX6_readAll 50 = .ok (.aload_n 0, 1) := by decide +kernel
theorem dX6_readAll_51 : decode cX6_readAll 51 = .ok (.getfield 37, 3) := by decide +kernel
theorem dX6_readAll_54 : decode cX6_readAll 54 = .ok (.invokevirtual 53, 3) := by decide +kernel
theorem dX6_readAll_57 : decode cX6_readAll 57 = .ok (.ifCond .eq 7, 3) := by decide +kernel
theorem dX6_readAll_60 : decode cX6_readAll 60 = .ok (.iconst 1, 1) := by decide +kernel
theorem dX6_readAll_61 : decode cX6_readAll 61 = .ok (.goto 4, 3) := by decide +kernel
theorem dX6_readAll_64 : decode cX6_readAll 64 = .ok (.iconst 0, 1) := by decide +kernel
theorem dX6_readAll_65 : decode cX6_readAll 65 = .ok (.istore_n 1, 1) := by decide +kernel
theorem dX6_readAll_66 : decode cX6_readAll 66 = .ok (.iinc 2 1, 3) := by decide +kernel
theorem dX6_readAll_69 : decode cX6_readAll 69 = .ok (.goto (-43), 3) := by decide +kernel
theorem dX6_readAll_72 : decode cX6_readAll 72 = .ok (.aload_n 0, 1) := by decide +kernel
theorem dX6_readAll_73 : decode cX6_readAll 73 = .ok (.getfield 37, 3) := by decide +kernel
theorem dX6_readAll_76 : decode cX6_readAll 76 = .ok (.invokevirtual 49, 3) := by decide +kernel
theorem dX6_readAll_79 : decode cX6_readAll 79 = .ok (.ireturn, 1) := by decide +kernel
abbrev D_X6_readAll : Nat := 72
def f_X6_readAll_L26 (K72 : Mm → Nat → Option (Int32 × Mm)) : Nat → Mm → Nat → Int32 → Int32 → Option (Int32 × Mm)
  | 0, _, _, _, _ => none
  | n + 1, μ0, a9, x10, x11 =>
    (if (12 : Int32) < x11 then
    K72 μ0 a9
    else
    (if x10 = 0 then
    K72 μ0 a9
    else
    ((ob μ0 a9 6).bind fun _ =>
    ((f_X6_readClause μ0 a9).bind fun μ12 =>
    ((gR μ12 a9 6 0).bind fun v13 =>
    ((ob μ12 v13 9).bind fun _ =>
    (bd (f_X9_isSound μ12 v13) fun v15 μ14 =>
    (if v15 = 0 then
    (nm (0 : Int32) fun x16 =>
    (nm (x11 + Int32.ofInt (1)) fun x17 =>
    f_X6_readAll_L26 K72 n μ14 a9 x16 x17))
    else
    ((gR μ14 a9 6 0).bind fun v18 =>
    ((ob μ14 v18 9).bind fun _ =>
    (bd (f_X9_goesOn μ14 v18) fun v20 μ19 =>
    (if v20 = 0 then
    (nm (0 : Int32) fun x21 =>
    (nm (x11 + Int32.ofInt (1)) fun x22 =>
    f_X6_readAll_L26 K72 n μ19 a9 x21 x22))
    else
    (nm (1 : Int32) fun x23 =>
    (nm (x11 + Int32.ofInt (1)) fun x24 =>
    f_X6_readAll_L26 K72 n μ19 a9 x23 x24))))))))))))))
set_option maxHeartbeats 4000000 in
set_option maxRecDepth 100000 in
theorem f_X6_readAll_L26_ok {l : Launch} {G : GG} {K72 : Mm → Nat → Option (Int32 × Mm)} {r : Int32} {μ' : Mm} (n : Nat) (μ0 : Mm) (a9 : Nat) (x10 : Int32) (x11 : Int32) (hf : f_X6_readAll_L26 K72 n μ0 a9 x10 x11 = some (r, μ')) (hK72 : ∀ (μ1 : Mm) (y0 : Nat), K72 μ1 y0 = some (r, μ') → Ev l G D_X6_readAll yX6_readAll cX6_readAll 3 (some .boolean) 72 [(0, .ref y0)] [] μ1 (some (.int r)) μ') : Ev l G D_X6_readAll yX6_readAll cX6_readAll 3 (some .boolean) 26 [(0, .ref a9), (1, .int x10), (2, .int x11)] [] μ0 (some (.int r)) μ' := by
  induction n generalizing μ0 a9 x10 x11 with
  | zero => cases hf
  | succ n ih0 =>
    have ih : ∀ (μ0 : Mm) (a9 : Nat) (x10 : Int32) (x11 : Int32), f_X6_readAll_L26 K72 n μ0 a9 x10 x11 = some (r, μ') → Ev l G D_X6_readAll yX6_readAll cX6_readAll 3 (some .boolean) 26 [(0, .ref a9), (1, .int x10), (2, .int x11)] [] μ0 (some (.int r)) μ' := fun μ0 a9 x10 x11 hf => ih0 μ0 a9 x10 x11 hf
    rw [f_X6_readAll_L26] at hf
    refine E_iload_n (pc := 26) dX6_readAll_26 rfl ?_
    refine E_bipush (pc := 27) (v := (12 : Int32)) dX6_readAll_27 (by decide) ?_
    refine E_icmp_gt (pc := 29) (tgt := 72) dX6_readAll_29 (by decide) hf (fun hf => ?_) (fun hf => ?_)
    · refine Ev.sub [0] rfl ?_
      exact hK72 _ _ hf
    · refine E_iload_n (pc := 32) dX6_readAll_32 rfl ?_
      refine E_if_eq (pc := 33) (tgt := 72) dX6_readAll_33 (by decide) hf (fun hf => ?_) (fun hf => ?_)
      · refine Ev.sub [0] rfl ?_
        exact hK72 _ _ hf
      · refine E_aload_n (pc := 36) dX6_readAll_36 rfl ?_
        refine E_Vv (pc := 37) (d2 := D_X6_readClause) (ci := 6) [] dX6_readAll_37 ml_X6_46 mf_X6_readClause im_X6_readClause rfl rfl rfl (by decide) (Nat.le_of_ble_eq_true rfl) (Nat.le_of_ble_eq_true rfl) rfl (fun _ h => f_X6_readClause_ok h) hf (fun μ12 hf => ?_)
        refine E_aload_n (pc := 40) dX6_readAll_40 rfl ?_
        refine E_getR (pc := 41) dX6_readAll_41 fl_X6_37 hf (fun v13 hf => ?_)
        refine E_Vi (pc := 44) (d2 := D_X9_isSound) (ci := 9) [] dX6_readAll_44 ml_X6_49 mf_X9_isSound im_X9_isSound rfl rfl rfl (by decide) (Nat.le_of_ble_eq_true rfl) (Nat.le_of_ble_eq_true rfl) rfl (fun _ _ h => f_X9_isSound_ok h) hf (fun v15 μ14 hf => ?_)
        refine E_if_eq (pc := 47) (tgt := 64) dX6_readAll_47 (by decide) hf (fun hf => ?_) (fun hf => ?_)
        · refine E_iconst (pc := 64) (v := (0 : Int32)) dX6_readAll_64 (by decide) ?_
          refine E_istore_n (pc := 65) (ls' := fun x16 => [(1, .int x16), (0, .ref a9), (2, .int x11)]) dX6_readAll_65 (by decide) (fun _ => rfl) hf (fun x16 hf => ?_)
          refine E_iinc (pc := 66) (ls' := fun x17 => [(2, .int x17), (1, .int x16), (0, .ref a9)]) dX6_readAll_66 rfl (by decide) (fun _ => rfl) hf (fun x17 hf => ?_)
          refine E_goto (pc := 69) (tgt := 26) dX6_readAll_69 (by decide) ?_
          refine Ev.sub [2, 1, 0] rfl ?_
          exact ih _ _ _ _ hf
        · refine E_aload_n (pc := 50) dX6_readAll_50 rfl ?_
          refine E_getR (pc := 51) dX6_readAll_51 fl_X6_37 hf (fun v18 hf => ?_)
          refine E_Vi (pc := 54) (d2 := D_X9_goesOn) (ci := 9) [] dX6_readAll_54 ml_X6_53 mf_X9_goesOn im_X9_goesOn rfl rfl rfl (by decide) (Nat.le_of_ble_eq_true rfl) (Nat.le_of_ble_eq_true rfl) rfl (fun _ _ h => f_X9_goesOn_ok h) hf (fun v20 μ19 hf => ?_)
          refine E_if_eq (pc := 57) (tgt := 64) dX6_readAll_57 (by decide) hf (fun hf => ?_) (fun hf => ?_)
          · refine E_iconst (pc := 64) (v := (0 : Int32)) dX6_readAll_64 (by decide) ?_
            refine E_istore_n (pc := 65) (ls' := fun x21 => [(1, .int x21), (0, .ref a9), (2, .int x11)]) dX6_readAll_65 (by decide) (fun _ => rfl) hf (fun x21 hf => ?_)
            refine E_iinc (pc := 66) (ls' := fun x22 => [(2, .int x22), (1, .int x21), (0, .ref a9)]) dX6_readAll_66 rfl (by decide) (fun _ => rfl) hf (fun x22 hf => ?_)
            refine E_goto (pc := 69) (tgt := 26) dX6_readAll_69 (by decide) ?_
            refine Ev.sub [2, 1, 0] rfl ?_
            exact ih _ _ _ _ hf
          · refine E_iconst (pc := 60) (v := (1 : Int32)) dX6_readAll_60 (by decide) ?_
            refine E_goto (pc := 61) (tgt := 65) dX6_readAll_61 (by decide) ?_
            refine E_istore_n (pc := 65) (ls' := fun x23 => [(1, .int x23), (0, .ref a9), (2, .int x11)]) dX6_readAll_65 (by decide) (fun _ => rfl) hf (fun x23 hf => ?_)
            refine E_iinc (pc := 66) (ls' := fun x24 => [(2, .int x24), (1, .int x23), (0, .ref a9)]) dX6_readAll_66 rfl (by decide) (fun _ => rfl) hf (fun x24 hf => ?_)
            refine E_goto (pc := 69) (tgt := 26) dX6_readAll_69 (by decide) ?_
            refine Ev.sub [2, 1, 0] rfl ?_
            exact ih _ _ _ _ hf
set_option maxRecDepth 100000 in
def f_X6_readAll (μ0 : Mm) (a1 : Nat) : Option (Int32 × Mm) :=
 ((gR μ0 a1 6 0).bind fun v2 =>
    ((ob μ0 v2 9).bind fun _ =>
    ((f_X9_rewind μ0 v2).bind fun μ3 =>
    ((pV μ3 a1 6 2 (.int (0 : Int32))).bind fun μ4 =>
    ((pV μ4 a1 6 3 (.int (0 : Int32))).bind fun μ5 =>
    ((pV μ5 a1 6 4 (.int (0 : Int32))).bind fun μ6 =>
    (nm (1 : Int32) fun x7 =>
    (nm (0 : Int32) fun x8 =>
    f_X6_readAll_L26 (fun μ25 a26 =>
    ((gR μ25 a26 6 0).bind fun v27 =>
    ((ob μ25 v27 9).bind fun _ =>
    (bd (f_X9_isSound μ25 v27) fun v29 μ28 =>
    (if v29 = 0 ∨ v29 = 1 then some (v29, μ28) else none))))) FU μ6 a1 x7 x8))))))))
set_option maxHeartbeats 4000000 in
set_option maxRecDepth 100000 in
theorem f_X6_readAll_ok {l : Launch} {G : GG} {μ0 : Mm} {a1 : Nat} {r : Int32} {μ' : Mm} (hf : f_X6_readAll μ0 a1 = some (r, μ')) : EvM l G D_X6_readAll yX6_readAll cX6_readAll 3 (some .boolean) [.ref a1] μ0 (some (.int r)) μ' := by
  show Ev l G D_X6_readAll yX6_readAll cX6_readAll 3 (some .boolean) 0 [(0, .ref a1)] [] μ0 (some (.int r)) μ'
  unfold f_X6_readAll at hf
  refine E_aload_n (pc := 0) dX6_readAll_0 rfl ?_
  refine E_getR (pc := 1) dX6_readAll_1 fl_X6_37 hf (fun v2 hf => ?_)
  refine E_Vv (pc := 4) (d2 := D_X9_rewind) (ci := 9) [] dX6_readAll_4 ml_X6_41 mf_X9_rewind im_X9_rewind rfl rfl rfl (by decide) (Nat.le_of_ble_eq_true rfl) (Nat.le_of_ble_eq_true rfl) rfl (fun _ h => f_X9_rewind_ok h) hf (fun μ3 hf => ?_)
  refine E_aload_n (pc := 7) dX6_readAll_7 rfl ?_
  refine E_iconst (pc := 8) (v := (0 : Int32)) dX6_readAll_8 (by decide) ?_
  refine E_putI (pc := 9) dX6_readAll_9 (pl_X6_15 _) hf (fun μ4 hf => ?_)
  refine E_aload_n (pc := 12) dX6_readAll_12 rfl ?_
  refine E_iconst (pc := 13) (v := (0 : Int32)) dX6_readAll_13 (by decide) ?_
  refine E_putI (pc := 14) dX6_readAll_14 (pl_X6_19 _) hf (fun μ5 hf => ?_)
  refine E_aload_n (pc := 17) dX6_readAll_17 rfl ?_
  refine E_iconst (pc := 18) (v := (0 : Int32)) dX6_readAll_18 (by decide) ?_
  refine E_putI (pc := 19) dX6_readAll_19 (pl_X6_22 _) hf (fun μ6 hf => ?_)
  refine E_iconst (pc := 22) (v := (1 : Int32)) dX6_readAll_22 (by decide) ?_
  refine E_istore_n (pc := 23) (ls' := fun x7 => [(1, .int x7), (0, .ref a1)]) dX6_readAll_23 (by decide) (fun _ => rfl) hf (fun x7 hf => ?_)
  refine E_iconst (pc := 24) (v := (0 : Int32)) dX6_readAll_24 (by decide) ?_
  refine E_istore_n (pc := 25) (ls' := fun x8 => [(2, .int x8), (1, .int x7), (0, .ref a1)]) dX6_readAll_25 (by decide) (fun _ => rfl) hf (fun x8 hf => ?_)
  refine Ev.sub [2, 1, 0] rfl ?_
  refine f_X6_readAll_L26_ok  _ _ _ _ _ hf (fun μ25 a26 hf => ?_)
  · refine E_aload_n (pc := 72) dX6_readAll_72 rfl ?_
    refine E_getR (pc := 73) dX6_readAll_73 fl_X6_37 hf (fun v27 hf => ?_)
    refine E_Vi (pc := 76) (d2 := D_X9_isSound) (ci := 9) [] dX6_readAll_76 ml_X6_49 mf_X9_isSound im_X9_isSound rfl rfl rfl (by decide) (Nat.le_of_ble_eq_true rfl) (Nat.le_of_ble_eq_true rfl) rfl (fun _ _ h => f_X9_isSound_ok h) hf (fun v29 μ28 hf => ?_)
    exact E_zret (pc := 79) dX6_readAll_79 rfl hf
