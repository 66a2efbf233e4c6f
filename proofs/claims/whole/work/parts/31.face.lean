theorem dX11_init_0 : decode cX11_init 0 = .ok (.aload_n 0, 1) := by decide +kernel
theorem dX11_init_1 : decode cX11_init 1 = .ok (.invokespecial 1, 3) := by decide +kernel
theorem dX11_init_4 : decode cX11_init 4 = .ok (.aload_n 0, 1) := by decide +kernel
theorem dX11_init_5 : decode cX11_init 5 = .ok (.new 7, 3) := by decide +kernel
theorem dX11_init_8 : decode cX11_init 8 = .ok (.dup, 1) := by decide +kernel
theorem dX11_init_9 : decode cX11_init 9 = .ok (.invokespecial 9, 3) := by decide +kernel
theorem dX11_init_12 : decode cX11_init 12 = .ok (.putfield 10, 3) := by decide +kernel
theorem dX11_init_15 : decode cX11_init 15 = .ok (.aload_n 0, 1) := by decide +kernel
theorem dX11_init_16 : decode cX11_init 16 = .ok (.new 16, 3) := by decide +kernel
theorem dX11_init_19 : decode cX11_init 19 = .ok (.dup, 1) := by decide +kernel
theorem dX11_init_20 : decode cX11_init 20 = .ok (.aload_n 0, 1) := by decide +kernel
theorem dX11_init_21 : decode cX11_init 21 = .ok (.getfield 10, 3) := by decide +kernel
theorem dX11_init_24 : decode cX11_init 24 = .ok (.invokespecial 18, 3) := by decide +kernel
theorem dX11_init_27 : decode cX11_init 27 = .ok (.putfield 21, 3) := by decide +kernel
theorem dX11_init_30 : decode cX11_init 30 = .ok (.aload_n 0, 1) := by decide +kernel
theorem dX11_init_31 : decode cX11_init 31 = .ok (.new 25, 3) := by decide +kernel
theorem dX11_init_34 : decode cX11_init 34 = .ok (.dup, 1) := by decide +kernel
theorem dX11_init_35 : decode cX11_init 35 = .ok (.aload_n 0, 1) := by decide +kernel
theorem dX11_init_36 : decode cX11_init 36 = .ok (.getfield 10, 3) := by decide +kernel
theorem dX11_init_39 : decode cX11_init 39 = .ok (.invokespecial 27, 3) := by decide +kernel
theorem dX11_init_42 : decode cX11_init 42 = .ok (.putfield 28, 3) := by decide +kernel
theorem dX11_init_45 : decode cX11_init 45 = .ok (.aload_n 0, 1) := by decide +kernel
theorem dX11_init_46 : decode cX11_init 46 = .ok (.new 32, 3) := by decide +kernel
theorem dX11_init_49 : decode cX11_init 49 = .ok (.dup, 1) := by decide +kernel
theorem dX11_init_50 : decode cX11_init 50 = .ok (.aload_n 0, 1) := by decide +kernel
theorem dX11_init_51 : decode cX11_init 51 = .ok (.getfield 28, 3) := by decide +kernel
theorem dX11_init_54 : decode cX11_init 54 = .ok (.invokespecial 34, 3) := by decide +kernel
theorem dX11_init_57 : decode cX11_init 57 = .ok (.putfield 37, 3) := by decide +kernel
theorem dX11_init_60 : decode cX11_init 60 = .ok (.aload_n 0, 1) := by decide +kernel
theorem dX11_init_61 : decode cX11_init 61 = .ok (.bipush 6, 2) := by decide +kernel
theorem dX11_init_63 : decode cX11_init 63 = .ok (.anewarray 32, 3) := by decide +kernel
theorem dX11_init_66 : decode cX11_init 66 = .ok (.putfield 41, 3) := by decide +kernel
theorem dX11_init_69 : decode cX11_init 69 = .ok (.aload_n 0, 1) := by decide +kernel
theorem dX11_init_70 : decode cX11_init 70 = .ok (.iconst 0, 1) := by decide +kernel
theorem dX11_init_71 : decode cX11_init 71 = .ok (.putfield 45, 3) := by decide +kernel
theorem dX11_init_74 : decode cX11_init 74 = .ok (.aload_n 0, 1) := by decide +kernel
theorem dX11_init_75 : decode cX11_init 75 = .ok (.new 49, 3) := by decide +kernel
theorem dX11_init_78 : decode cX11_init 78 = .ok (.dup, 1) := by decide +kernel
theorem dX11_init_79 : decode cX11_init 79 = .ok (.aload_n 0, 1) := by decide +kernel
theorem dX11_init_80 : decode cX11_init 80 = .ok (.getfield 21, 3) := by decide +kernel
theorem dX11_init_83 : decode cX11_init 83 = .ok (.getfield 51, 3) := by decide +kernel
theorem dX11_init_86 : decode cX11_init 86 = .ok (.invokespecial 55, 3) := by decide +kernel
theorem dX11_init_89 : decode cX11_init 89 = .ok (.putfield 58, 3) := by decide +kernel
theorem dX11_init_92 : decode cX11_init 92 = .ok (.aload_n 0, 1) := by decide +kernel
theorem dX11_init_93 : decode cX11_init 93 = .ok (.new 49, 3) := by decide +kernel
theorem dX11_init_96 : decode cX11_init 96 = .ok (.dup, 1) := by decide +kernel
theorem dX11_init_97 : decode cX11_init 97 = .ok (.aload_n 0, 1) := by decide +kernel
theorem dX11_init_98 : decode cX11_init 98 = .ok (.getfield 21, 3) := by decide +kernel
theorem dX11_init_101 : decode cX11_init 101 = .ok (.getfield 51, 3) := by decide +kernel
theorem dX11_init_104 : decode cX11_init 104 = .ok (.invokespecial 55, 3) := by decide +kernel
theorem dX11_init_107 : decode cX11_init 107 = .ok (.putfield 62, 3) := by decide +kernel
theorem dX11_init_110 : decode cX11_init 110 = .ok (.aload_n 0, 1) := by decide +kernel
theorem dX11_init_111 : decode cX11_init 111 = .ok (.iconst 4, 1) := by decide +kernel
theorem dX11_init_112 : decode cX11_init 112 = .ok (.anewarray 49, 3) := by decide +kernel
theorem dX11_init_115 : decode cX11_init 115 = .ok (.putfield 65, 3) := by decide +kernel
theorem dX11_init_118 : decode cX11_init 118 = .ok (.aload_n 0, 1) := by decide +kernel
theorem dX11_init_119 : decode cX11_init 119 = .ok (.new 69, 3) := by decide +kernel
theorem dX11_init_122 : decode cX11_init 122 = .ok (.dup, 1) := by decide +kernel
theorem dX11_init_123 : decode cX11_init 123 = .ok (.aload_n 0, 1) := by decide +kernel
theorem dX11_init_124 : decode cX11_init 124 = .ok (.getfield 58, 3) := by decide +kernel
theorem dX11_init_127 : decode cX11_init 127 = .ok (.aload_n 0, 1) := by decide +kernel
theorem dX11_init_128 : decode cX11_init 128 = .ok (.getfield 37, 3) := by decide +kernel
theorem dX11_init_131 : decode cX11_init 131 = .ok (.invokespecial 71, 3) := by decide +kernel
theorem dX11_init_134 : decode cX11_init 134 = .ok (.putfield 74, 3) := by decide +kernel
theorem dX11_init_137 : decode cX11_init 137 = .ok (.aload_n 0, 1) := by decide +kernel
theorem dX11_init_138 : decode cX11_init 138 = .ok (.new 78, 3) := by decide +kernel
theorem dX11_init_141 : decode cX11_init 141 = .ok (.dup, 1) := by decide +kernel
theorem dX11_init_142 : decode cX11_init 142 = .ok (.aload_n 0, 1) := by decide +kernel
theorem dX11_init_143 : decode cX11_init 143 = .ok (.getfield 74, 3) := by decide +kernel
theorem dX11_init_146 : decode cX11_init 146 = .ok (.invokespecial 80, 3) := by decide +kernel
theorem dX11_init_149 : decode cX11_init 149 = .ok (.putfield 83, 3) := by decide +kernel
theorem dX11_init_152 : decode cX11_init 152 = .ok (.aload_n 0, 1) := by decide +kernel
theorem dX11_init_153 : decode cX11_init 153 = .ok (.new 87, 3) := by decide +kernel
theorem dX11_init_156 : decode cX11_init 156 = .ok (.dup, 1) := by decide +kernel
theorem dX11_init_157 : decode cX11_init 157 = .ok (.aload_n 0, 1) := by decide +kernel
theorem dX11_init_158 : decode cX11_init 158 = .ok (.getfield 74, 3) := by decide +kernel
theorem dX11_init_161 : decode cX11_init 161 = .ok (.invokespecial 89, 3) := by decide +kernel
theorem dX11_init_164 : decode cX11_init 164 = .ok (.putfield 90, 3) := by decide +kernel
theorem dX11_init_167 : decode cX11_init 167 = .ok (.aload_n 0, 1) := by decide +kernel
theorem dX11_init_168 : decode cX11_init 168 = .ok (.new 94, 3) := by decide +kernel
theorem dX11_init_171 : decode cX11_init 171 = .ok (.dup, 1) := by decide +kernel
theorem dX11_init_172 : decode cX11_init 172 = .ok (.invokespecial 96, 3) := by decide +kernel
theorem dX11_init_175 : decode cX11_init 175 = .ok (.putfield 97, 3) := by decide +kernel
theorem dX11_init_178 : decode cX11_init 178 = .ok (.aload_n 0, 1) := by decide +kernel
theorem dX11_init_179 : decode cX11_init 179 = .ok (.iconst 3, 1) := by decide +kernel
theorem dX11_init_180 : decode cX11_init 180 = .ok (.newarray .int, 2) := by decide +kernel
theorem dX11_init_182 : decode cX11_init 182 = .ok (.putfield 101, 3) := by decide +kernel
theorem dX11_init_185 : decode cX11_init 185 = .ok (.return_, 1) := by decide +kernel
abbrev D_X11_init : Nat := 4
set_option maxRecDepth 100000 in
def f_X11_init (μ0 : Mm) (a1 : Nat) : Option Mm :=
 (bd (nO μ0 9 4 [.null, .int 0, .int 0, .int 0]) fun a2 μ3 =>
    ((f_X9_init μ3 a2).bind fun μ4 =>
    ((pV μ4 a1 11 0 (.ref a2)).bind fun μ5 =>
    (bd (nO μ5 2 3 [.null, .null, .int 0]) fun a6 μ7 =>
    ((gR μ7 a1 11 0).bind fun v8 =>
    ((f_X2_init μ7 a6 v8).bind fun μ9 =>
    ((pV μ9 a1 11 1 (.ref a6)).bind fun μ10 =>
    (bd (nO μ10 6 9 [.null, .null, .int 0, .int 0, .int 0, .null, .null, .null, .null]) fun a11 μ12 =>
    ((gR μ12 a1 11 0).bind fun v13 =>
    ((f_X6_init μ12 a11 v13).bind fun μ14 =>
    ((pV μ14 a1 11 2 (.ref a11)).bind fun μ15 =>
    (bd (nO μ15 5 9 [.null, .int 0, .null, .null, .null, .null, .int 0, .int 0, .null]) fun a16 μ17 =>
    ((gR μ17 a1 11 2).bind fun v18 =>
    ((f_X5_init μ17 a16 v18).bind fun μ19 =>
    ((pV μ19 a1 11 3 (.ref a16)).bind fun μ20 =>
    (bd (nA μ20 4 (6 : Int32)) fun a21 μ22 =>
    ((pV μ22 a1 11 4 (.ref a21)).bind fun μ23 =>
    ((pV μ23 a1 11 5 (.int (0 : Int32))).bind fun μ24 =>
    (bd (nO μ24 7 13 [.null, .int 0, .int 0, .int 0, .null, .null, .int 0, .int 0, .int 0, .int 0, .null, .null, .null]) fun a25 μ26 =>
    ((gR μ26 a1 11 1).bind fun v27 =>
    ((gR μ26 v27 2 1).bind fun v28 =>
    ((f_X7_init μ26 a25 v28).bind fun μ29 =>
    ((pV μ29 a1 11 6 (.ref a25)).bind fun μ30 =>
    (bd (nO μ30 7 13 [.null, .int 0, .int 0, .int 0, .null, .null, .int 0, .int 0, .int 0, .int 0, .null, .null, .null]) fun a31 μ32 =>
    ((gR μ32 a1 11 1).bind fun v33 =>
    ((gR μ32 v33 2 1).bind fun v34 =>
    ((f_X7_init μ32 a31 v34).bind fun μ35 =>
    ((pV μ35 a1 11 7 (.ref a31)).bind fun μ36 =>
    (bd (nA μ36 5 (4 : Int32)) fun a37 μ38 =>
    ((pV μ38 a1 11 8 (.ref a37)).bind fun μ39 =>
    (bd (nO μ39 0 12 [.null, .null, .null, .int 0, .int 0, .int 0, .int 0, .int 0, .int 0, .int 0, .int 0, .null]) fun a40 μ41 =>
    ((gR μ41 a1 11 6).bind fun v42 =>
    ((gR μ41 a1 11 3).bind fun v43 =>
    ((f_X0_init μ41 a40 v42 v43).bind fun μ44 =>
    ((pV μ44 a1 11 9 (.ref a40)).bind fun μ45 =>
    (bd (nO μ45 10 5 [.null, .null, .null, .int 0, .int 0]) fun a46 μ47 =>
    ((gR μ47 a1 11 9).bind fun v48 =>
    ((f_X10_init μ47 a46 v48).bind fun μ49 =>
    ((pV μ49 a1 11 10 (.ref a46)).bind fun μ50 =>
    (bd (nO μ50 4 5 [.null, .int 0, .int 0, .int 0, .null]) fun a51 μ52 =>
    ((gR μ52 a1 11 9).bind fun v53 =>
    ((f_X4_init μ52 a51 v53).bind fun μ54 =>
    ((pV μ54 a1 11 11 (.ref a51)).bind fun μ55 =>
    (bd (nO μ55 8 6 [.null, .null, .int 0, .null, .null, .null]) fun a56 μ57 =>
    ((f_X8_init μ57 a56).bind fun μ58 =>
    ((pV μ58 a1 11 12 (.ref a56)).bind fun μ59 =>
    (bd (nA μ59 0 (3 : Int32)) fun a60 μ61 =>
    ((pV μ61 a1 11 13 (.ref a60)).bind fun μ62 =>
    (some μ62)))))))))))))))))))))))))))))))))))))))))))))))))
set_option maxHeartbeats 4000000 in
set_option maxRecDepth 100000 in
theorem f_X11_init_ok {l : Launch} {G : GG} {μ0 : Mm} {a1 : Nat} {μ' : Mm} (hf : f_X11_init μ0 a1 = some μ') : EvM l G D_X11_init yX11_init cX11_init 1 none [.ref a1] μ0 none μ' := by
  show Ev l G D_X11_init yX11_init cX11_init 1 none 0 [(0, .ref a1)] [] μ0 none μ'
  unfold f_X11_init at hf
  refine E_aload_n (pc := 0) dX11_init_0 rfl ?_
  refine E_objI (pc := 1) dX11_init_1 (by decide) (Nat.le_of_ble_eq_true rfl) ml_X11_1 ?_
  refine E_aload_n (pc := 4) dX11_init_4 rfl ?_
  refine E_new2 (pc := 5) dX11_init_5 nl_X11_7 hf (fun a2 μ3 hf => ?_)
  refine E_dup (pc := 8) dX11_init_8 rfl ?_
  refine E_INv (pc := 9) (d2 := D_X9_init) [] dX11_init_9 ml_X11_9 mf_X9_init ii_X9_init rfl rfl (by decide) (Nat.le_of_ble_eq_true rfl) (Nat.le_of_ble_eq_true rfl) rfl (fun _ h => f_X9_init_ok h) hf (fun μ4 hf => ?_)
  refine E_putR (pc := 12) dX11_init_12 pl_X11_10 hf (fun μ5 hf => ?_)
  refine E_aload_n (pc := 15) dX11_init_15 rfl ?_
  refine E_new2 (pc := 16) dX11_init_16 nl_X11_16 hf (fun a6 μ7 hf => ?_)
  refine E_dup (pc := 19) dX11_init_19 rfl ?_
  refine E_aload_n (pc := 20) dX11_init_20 rfl ?_
  refine E_getR (pc := 21) dX11_init_21 fl_X11_10 hf (fun v8 hf => ?_)
  refine E_Iv (pc := 24) (d2 := D_X2_init) [.ref v8] dX11_init_24 ml_X11_18 mf_X2_init ii_X2_init rfl rfl (by decide) (Nat.le_of_ble_eq_true rfl) (Nat.le_of_ble_eq_true rfl) rfl (fun _ h => f_X2_init_ok h) hf (fun μ9 hf => ?_)
  refine E_putR (pc := 27) dX11_init_27 pl_X11_21 hf (fun μ10 hf => ?_)
  refine E_aload_n (pc := 30) dX11_init_30 rfl ?_
  refine E_new2 (pc := 31) dX11_init_31 nl_X11_25 hf (fun a11 μ12 hf => ?_)
  refine E_dup (pc := 34) dX11_init_34 rfl ?_
  refine E_aload_n (pc := 35) dX11_init_35 rfl ?_
  refine E_getR (pc := 36) dX11_init_36 fl_X11_10 hf (fun v13 hf => ?_)
  refine E_Iv (pc := 39) (d2 := D_X6_init) [.ref v13] dX11_init_39 ml_X11_27 mf_X6_init ii_X6_init rfl rfl (by decide) (Nat.le_of_ble_eq_true rfl) (Nat.le_of_ble_eq_true rfl) rfl (fun _ h => f_X6_init_ok h) hf (fun μ14 hf => ?_)
  refine E_putR (pc := 42) dX11_init_42 pl_X11_28 hf (fun μ15 hf => ?_)
  refine E_aload_n (pc := 45) dX11_init_45 rfl ?_
  refine E_new2 (pc := 46) dX11_init_46 nl_X11_32 hf (fun a16 μ17 hf => ?_)
  refine E_dup (pc := 49) dX11_init_49 rfl ?_
  refine E_aload_n (pc := 50) dX11_init_50 rfl ?_
  refine E_getR (pc := 51) dX11_init_51 fl_X11_28 hf (fun v18 hf => ?_)
  refine E_Iv (pc := 54) (d2 := D_X5_init) [.ref v18] dX11_init_54 ml_X11_34 mf_X5_init ii_X5_init rfl rfl (by decide) (Nat.le_of_ble_eq_true rfl) (Nat.le_of_ble_eq_true rfl) rfl (fun _ h => f_X5_init_ok h) hf (fun μ19 hf => ?_)
  refine E_putR (pc := 57) dX11_init_57 pl_X11_37 hf (fun μ20 hf => ?_)
  refine E_aload_n (pc := 60) dX11_init_60 rfl ?_
  refine E_bipush (pc := 61) (v := (6 : Int32)) dX11_init_61 (by decide) ?_
  refine E_anew2 (pc := 63) (C := "FallSchool$Rule") dX11_init_63 (by decide) cl_X11_32 hf (fun a21 μ22 hf => ?_)
  refine E_putA (pc := 66) dX11_init_66 pl_X11_41 hf (fun μ23 hf => ?_)
  refine E_aload_n (pc := 69) dX11_init_69 rfl ?_
  refine E_iconst (pc := 70) (v := (0 : Int32)) dX11_init_70 (by decide) ?_
  refine E_putI (pc := 71) dX11_init_71 (pl_X11_45 _) hf (fun μ24 hf => ?_)
  refine E_aload_n (pc := 74) dX11_init_74 rfl ?_
  refine E_new2 (pc := 75) dX11_init_75 nl_X11_49 hf (fun a25 μ26 hf => ?_)
  refine E_dup (pc := 78) dX11_init_78 rfl ?_
  refine E_aload_n (pc := 79) dX11_init_79 rfl ?_
  refine E_getR (pc := 80) dX11_init_80 fl_X11_21 hf (fun v27 hf => ?_)
  refine E_getR (pc := 83) dX11_init_83 fl_X11_51 hf (fun v28 hf => ?_)
  refine E_Iv (pc := 86) (d2 := D_X7_init) [.ref v28] dX11_init_86 ml_X11_55 mf_X7_init ii_X7_init rfl rfl (by decide) (Nat.le_of_ble_eq_true rfl) (Nat.le_of_ble_eq_true rfl) rfl (fun _ h => f_X7_init_ok h) hf (fun μ29 hf => ?_)
  refine E_putR (pc := 89) dX11_init_89 pl_X11_58 hf (fun μ30 hf => ?_)
  refine E_aload_n (pc := 92) dX11_init_92 rfl ?_
  refine E_new2 (pc := 93) dX11_init_93 nl_X11_49 hf (fun a31 μ32 hf => ?_)
  refine E_dup (pc := 96) dX11_init_96 rfl ?_
  refine E_aload_n (pc := 97) dX11_init_97 rfl ?_
  refine E_getR (pc := 98) dX11_init_98 fl_X11_21 hf (fun v33 hf => ?_)
  refine E_getR (pc := 101) dX11_init_101 fl_X11_51 hf (fun v34 hf => ?_)
  refine E_Iv (pc := 104) (d2 := D_X7_init) [.ref v34] dX11_init_104 ml_X11_55 mf_X7_init ii_X7_init rfl rfl (by decide) (Nat.le_of_ble_eq_true rfl) (Nat.le_of_ble_eq_true rfl) rfl (fun _ h => f_X7_init_ok h) hf (fun μ35 hf => ?_)
  refine E_putR (pc := 107) dX11_init_107 pl_X11_62 hf (fun μ36 hf => ?_)
  refine E_aload_n (pc := 110) dX11_init_110 rfl ?_
  refine E_iconst (pc := 111) (v := (4 : Int32)) dX11_init_111 (by decide) ?_
  refine E_anew2 (pc := 112) (C := "FallSchool$School") dX11_init_112 (by decide) cl_X11_49 hf (fun a37 μ38 hf => ?_)
  refine E_putA (pc := 115) dX11_init_115 pl_X11_65 hf (fun μ39 hf => ?_)
  refine E_aload_n (pc := 118) dX11_init_118 rfl ?_
  refine E_new2 (pc := 119) dX11_init_119 nl_X11_69 hf (fun a40 μ41 hf => ?_)
  refine E_dup (pc := 122) dX11_init_122 rfl ?_
  refine E_aload_n (pc := 123) dX11_init_123 rfl ?_
  refine E_getR (pc := 124) dX11_init_124 fl_X11_58 hf (fun v42 hf => ?_)
  refine E_aload_n (pc := 127) dX11_init_127 rfl ?_
  refine E_getR (pc := 128) dX11_init_128 fl_X11_37 hf (fun v43 hf => ?_)
  refine E_Iv (pc := 131) (d2 := D_X0_init) [.ref v42, .ref v43] dX11_init_131 ml_X11_71 mf_X0_init ii_X0_init rfl rfl (by decide) (Nat.le_of_ble_eq_true rfl) (Nat.le_of_ble_eq_true rfl) rfl (fun _ h => f_X0_init_ok h) hf (fun μ44 hf => ?_)
  refine E_putR (pc := 134) dX11_init_134 pl_X11_74 hf (fun μ45 hf => ?_)
  refine E_aload_n (pc := 137) dX11_init_137 rfl ?_
  refine E_new2 (pc := 138) dX11_init_138 nl_X11_78 hf (fun a46 μ47 hf => ?_)
  refine E_dup (pc := 141) dX11_init_141 rfl ?_
  refine E_aload_n (pc := 142) dX11_init_142 rfl ?_
  refine E_getR (pc := 143) dX11_init_143 fl_X11_74 hf (fun v48 hf => ?_)
  refine E_Iv (pc := 146) (d2 := D_X10_init) [.ref v48] dX11_init_146 ml_X11_80 mf_X10_init ii_X10_init rfl rfl (by decide) (Nat.le_of_ble_eq_true rfl) (Nat.le_of_ble_eq_true rfl) rfl (fun _ h => f_X10_init_ok h) hf (fun μ49 hf => ?_)
  refine E_putR (pc := 149) dX11_init_149 pl_X11_83 hf (fun μ50 hf => ?_)
  refine E_aload_n (pc := 152) dX11_init_152 rfl ?_
  refine E_new2 (pc := 153) dX11_init_153 nl_X11_87 hf (fun a51 μ52 hf => ?_)
  refine E_dup (pc := 156) dX11_init_156 rfl ?_
  refine E_aload_n (pc := 157) dX11_init_157 rfl ?_
  refine E_getR (pc := 158) dX11_init_158 fl_X11_74 hf (fun v53 hf => ?_)
  refine E_Iv (pc := 161) (d2 := D_X4_init) [.ref v53] dX11_init_161 ml_X11_89 mf_X4_init ii_X4_init rfl rfl (by decide) (Nat.le_of_ble_eq_true rfl) (Nat.le_of_ble_eq_true rfl) rfl (fun _ h => f_X4_init_ok h) hf (fun μ54 hf => ?_)
  refine E_putR (pc := 164) dX11_init_164 pl_X11_90 hf (fun μ55 hf => ?_)
  refine E_aload_n (pc := 167) dX11_init_167 rfl ?_
  refine E_new2 (pc := 168) dX11_init_168 nl_X11_94 hf (fun a56 μ57 hf => ?_)
  refine E_dup (pc := 171) dX11_init_171 rfl ?_
  refine E_INv (pc := 172) (d2 := D_X8_init) [] dX11_init_172 ml_X11_96 mf_X8_init ii_X8_init rfl rfl (by decide) (Nat.le_of_ble_eq_true rfl) (Nat.le_of_ble_eq_true rfl) rfl (fun _ h => f_X8_init_ok h) hf (fun μ58 hf => ?_)
  refine E_putR (pc := 175) dX11_init_175 pl_X11_97 hf (fun μ59 hf => ?_)
  refine E_aload_n (pc := 178) dX11_init_178 rfl ?_
  refine E_iconst (pc := 179) (v := (3 : Int32)) dX11_init_179 (by decide) ?_
  refine E_newa2 (pc := 180) dX11_init_180 (by decide) ac_int hf (fun a60 μ61 hf => ?_)
  refine E_putA (pc := 182) dX11_init_182 pl_X11_101 hf (fun μ62 hf => ?_)
  exact E_vret (pc := 185) dX11_init_185 rfl hf
theorem dX11_feed_0 : decode cX11_feed 0 = .ok (.aload_n 0, 1) := by decide +kernel
theorem dX11_feed_1 : decode cX11_feed 1 = .ok (.getfield 10, 3) := by decide +kernel
theorem dX11_feed_4 : decode cX11_feed 4 = .ok (.getfield 105, 3) := by decide +kernel
theorem dX11_feed_7 : decode cX11_feed 7 = .ok (.bipush 20, 2) := by decide +kernel
theorem dX11_feed_9 : decode cX11_feed 9 = .ok (.iadd, 1) := by decide +kernel
theorem dX11_feed_10 : decode cX11_feed 10 = .ok (.sipush 400, 3) := by decide +kernel
theorem dX11_feed_13 : decode cX11_feed 13 = .ok (.if_icmp .le 5, 3) := by decide +kernel
theorem dX11_feed_16 : decode cX11_feed 16 = .ok (.iconst (-1), 1) := by decide +kernel
theorem dX11_feed_17 : decode cX11_feed 17 = .ok (.ireturn, 1) := by decide +kernel
theorem dX11_feed_18 : decode cX11_feed 18 = .ok (.aload_n 0, 1) := by decide +kernel
theorem dX11_feed_19 : decode cX11_feed 19 = .ok (.getfield 10, 3) := by decide +kernel
theorem dX11_feed_22 : decode cX11_feed 22 = .ok (.iload_n 1, 1) := by decide +kernel
theorem dX11_feed_23 : decode cX11_feed 23 = .ok (.invokevirtual 108, 3) := by decide +kernel
theorem dX11_feed_26 : decode cX11_feed 26 = .ok (.aload_n 0, 1) := by decide +kernel
theorem dX11_feed_27 : decode cX11_feed 27 = .ok (.getfield 10, 3) := by decide +kernel
theorem dX11_feed_30 : decode cX11_feed 30 = .ok (.iload_n 2, 1) := by decide +kernel
theorem dX11_feed_31 : decode cX11_feed 31 = .ok (.invokevirtual 108, 3) := by decide +kernel
theorem dX11_feed_34 : decode cX11_feed 34 = .ok (.aload_n 0, 1) := by decide +kernel
theorem dX11_feed_35 : decode cX11_feed 35 = .ok (.getfield 10, 3) := by decide +kernel
theorem dX11_feed_38 : decode cX11_feed 38 = .ok (.iload_n 3, 1) := by decide +kernel
theorem dX11_feed_39 : decode cX11_feed 39 = .ok (.invokevirtual 108, 3) := by decide +kernel
theorem dX11_feed_42 : decode cX11_feed 42 = .ok (.aload_n 0, 1) := by decide +kernel
theorem dX11_feed_43 : decode cX11_feed 43 = .ok (.getfield 10, 3) := by decide +kernel
theorem dX11_feed_46 : decode cX11_feed 46 = .ok (.iload 4, 2) := by decide +kernel
theorem dX11_feed_48 : decode cX11_feed 48 = .ok (.invokevirtual 108, 3) := by decide +kernel
theorem dX11_feed_51 : decode cX11_feed 51 = .ok (.aload_n 0, 1) := by decide +kernel
theorem dX11_feed_52 : decode cX11_feed 52 = .ok (.getfield 10, 3) := by decide +kernel
theorem dX11_feed_55 : decode cX11_feed 55 = .ok (.iload 5, 2) := by decide +kernel
theorem dX11_feed_57 : decode cX11_feed 57 = .ok (.invokevirtual 108, 3) := by decide +kernel
theorem dX11_feed_60 : decode cX11_feed 60 = .ok (.aload_n 0, 1) := by decide +kernel
theorem dX11_feed_61 : decode cX11_feed 61 = .ok (.getfield 10, 3) := by decide +kernel
theorem dX11_feed_64 : decode cX11_feed 64 = .ok (.getfield 105, 3) := by decide +kernel
theorem dX11_feed_67 : decode cX11_feed 67 = .ok (.ireturn, 1) := by decide +kernel
abbrev D_X11_feed : Nat := 2
set_option maxRecDepth 100000 in
def f_X11_feed (μ0 : Mm) (a1 : Nat) (x2 : Int32) (x3 : Int32) (x4 : Int32) (x5 : Int32) (x6 : Int32) : Option (Int32 × Mm) :=
 ((gR μ0 a1 11 0).bind fun v7 =>
    ((gI μ0 v7 9 1).bind fun v8 =>
    (if (v8 + (20 : Int32)) ≤ (400 : Int32) then
    ((gR μ0 a1 11 0).bind fun v9 =>
    ((ob μ0 v9 9).bind fun _ =>
    ((f_X9_append μ0 v9 x2).bind fun μ10 =>
    ((gR μ10 a1 11 0).bind fun v11 =>
    ((ob μ10 v11 9).bind fun _ =>
    ((f_X9_append μ10 v11 x3).bind fun μ12 =>
    ((gR μ12 a1 11 0).bind fun v13 =>
    ((ob μ12 v13 9).bind fun _ =>
    ((f_X9_append μ12 v13 x4).bind fun μ14 =>
    ((gR μ14 a1 11 0).bind fun v15 =>
    ((ob μ14 v15 9).bind fun _ =>
    ((f_X9_append μ14 v15 x5).bind fun μ16 =>
    ((gR μ16 a1 11 0).bind fun v17 =>
    ((ob μ16 v17 9).bind fun _ =>
    ((f_X9_append μ16 v17 x6).bind fun μ18 =>
    ((gR μ18 a1 11 0).bind fun v19 =>
    ((gI μ18 v19 9 1).bind fun v20 =>
    (some (v20, μ18)))))))))))))))))))
    else
    (some ((-1 : Int32), μ0)))))
set_option maxHeartbeats 4000000 in
set_option maxRecDepth 100000 in
theorem f_X11_feed_ok {l : Launch} {G : GG} {μ0 : Mm} {a1 : Nat} {x2 : Int32} {x3 : Int32} {x4 : Int32} {x5 : Int32} {x6 : Int32} {r : Int32} {μ' : Mm} (hf : f_X11_feed μ0 a1 x2 x3 x4 x5 x6 = some (r, μ')) : EvM l G D_X11_feed yX11_feed cX11_feed 6 (some .int) [.ref a1, .int x2, .int x3, .int x4, .int x5, .int x6] μ0 (some (.int r)) μ' := by
  show Ev l G D_X11_feed yX11_feed cX11_feed 6 (some .int) 0 [(0, .ref a1), (1, .int x2), (2, .int x3), (3, .int x4), (4, .int x5), (5, .int x6)] [] μ0 (some (.int r)) μ'
  unfold f_X11_feed at hf
  refine E_aload_n (pc := 0) dX11_feed_0 rfl ?_
  refine E_getR (pc := 1) dX11_feed_1 fl_X11_10 hf (fun v7 hf => ?_)
  refine E_getI (pc := 4) dX11_feed_4 fl_X11_105 hf (fun v8 hf => ?_)
  refine E_bipush (pc := 7) (v := (20 : Int32)) dX11_feed_7 (by decide) ?_
  refine E_iadd (pc := 9) dX11_feed_9 ?_
  refine E_sipush (pc := 10) (v := (400 : Int32)) dX11_feed_10 (by decide) ?_
  refine E_icmp_le (pc := 13) (tgt := 18) dX11_feed_13 (by decide) hf (fun hf => ?_) (fun hf => ?_)
  · refine E_aload_n (pc := 18) dX11_feed_18 rfl ?_
    refine E_getR (pc := 19) dX11_feed_19 fl_X11_10 hf (fun v9 hf => ?_)
    refine E_iload_n (pc := 22) dX11_feed_22 rfl ?_
    refine E_Vv (pc := 23) (d2 := D_X9_append) (ci := 9) [.int x2] dX11_feed_23 ml_X11_108 mf_X9_append im_X9_append rfl rfl rfl (by decide) (Nat.le_of_ble_eq_true rfl) (Nat.le_of_ble_eq_true rfl) rfl (fun _ h => f_X9_append_ok h) hf (fun μ10 hf => ?_)
    refine E_aload_n (pc := 26) dX11_feed_26 rfl ?_
    refine E_getR (pc := 27) dX11_feed_27 fl_X11_10 hf (fun v11 hf => ?_)
    refine E_iload_n (pc := 30) dX11_feed_30 rfl ?_
    refine E_Vv (pc := 31) (d2 := D_X9_append) (ci := 9) [.int x3] dX11_feed_31 ml_X11_108 mf_X9_append im_X9_append rfl rfl rfl (by decide) (Nat.le_of_ble_eq_true rfl) (Nat.le_of_ble_eq_true rfl) rfl (fun _ h => f_X9_append_ok h) hf (fun μ12 hf => ?_)
    refine E_aload_n (pc := 34) dX11_feed_34 rfl ?_
    refine E_getR (pc := 35) dX11_feed_35 fl_X11_10 hf (fun v13 hf => ?_)
    refine E_iload_n (pc := 38) dX11_feed_38 rfl ?_
    refine E_Vv (pc := 39) (d2 := D_X9_append) (ci := 9) [.int x4] dX11_feed_39 ml_X11_108 mf_X9_append im_X9_append rfl rfl rfl (by decide) (Nat.le_of_ble_eq_true rfl) (Nat.le_of_ble_eq_true rfl) rfl (fun _ h => f_X9_append_ok h) hf (fun μ14 hf => ?_)
    refine E_aload_n (pc := 42) dX11_feed_42 rfl ?_
    refine E_getR (pc := 43) dX11_feed_43 fl_X11_10 hf (fun v15 hf => ?_)
    refine E_iload (pc := 46) dX11_feed_46 rfl ?_
    refine E_Vv (pc := 48) (d2 := D_X9_append) (ci := 9) [.int x5] dX11_feed_48 ml_X11_108 mf_X9_append im_X9_append rfl rfl rfl (by decide) (Nat.le_of_ble_eq_true rfl) (Nat.le_of_ble_eq_true rfl) rfl (fun _ h => f_X9_append_ok h) hf (fun μ16 hf => ?_)
    refine E_aload_n (pc := 51) dX11_feed_51 rfl ?_
    refine E_getR (pc := 52) dX11_feed_52 fl_X11_10 hf (fun v17 hf => ?_)
    refine E_iload (pc := 55) dX11_feed_55 rfl ?_
    refine E_Vv (pc := 57) (d2 := D_X9_append) (ci := 9) [.int x6] dX11_feed_57 ml_X11_108 mf_X9_append im_X9_append rfl rfl rfl (by decide) (Nat.le_of_ble_eq_true rfl) (Nat.le_of_ble_eq_true rfl) rfl (fun _ h => f_X9_append_ok h) hf (fun μ18 hf => ?_)
    refine E_aload_n (pc := 60) dX11_feed_60 rfl ?_
    refine E_getR (pc := 61) dX11_feed_61 fl_X11_10 hf (fun v19 hf => ?_)
    refine E_getI (pc := 64) dX11_feed_64 fl_X11_105 hf (fun v20 hf => ?_)
    exact E_iret (pc := 67) dX11_feed_67 rfl hf
  · refine E_iconst (pc := 16) (v := (-1 : Int32)) dX11_feed_16 (by decide) ?_
    exact E_iret (pc := 17) dX11_feed_17 rfl hf
theorem dX11_end_0 : decode cX11_end 0 = .ok (.iload_n 1, 1) := by decide +kernel
theorem dX11_end_1 : decode cX11_end 1 = .ok (.ifCond .lt 14, 3) := by decide +kernel
theorem dX11_end_4 : decode cX11_end 4 = .ok (.iload_n 1, 1) := by decide +kernel
theorem dX11_end_5 : decode cX11_end 5 = .ok (.aload_n 0, 1) := by decide +kernel
theorem dX11_end_6 : decode cX11_end 6 = .ok (.getfield 10, 3) := by decide +kernel
theorem dX11_end_9 : decode cX11_end 9 = .ok (.getfield 105, 3) := by decide +kernel
theorem dX11_end_12 : decode cX11_end 12 = .ok (.if_icmp .le 5, 3) := by decide +kernel
theorem dX11_end_15 : decode cX11_end 15 = .ok (.iconst (-1), 1) := by decide +kernel
theorem dX11_end_16 : decode cX11_end 16 = .ok (.ireturn, 1) := by decide +kernel
theorem dX11_end_17 : decode cX11_end 17 = .ok (.aload_n 0, 1) := by decide +kernel
theorem dX11_end_18 : decode cX11_end 18 = .ok (.getfield 10, 3) := by decide +kernel
theorem dX11_end_21 : decode cX11_end 21 = .ok (.iload_n 1, 1) := by decide +kernel
theorem dX11_end_22 : decode cX11_end 22 = .ok (.putfield 105, 3) := by decide +kernel
theorem dX11_end_25 : decode cX11_end 25 = .ok (.iload_n 1, 1) := by decide +kernel
theorem dX11_end_26 : decode cX11_end 26 = .ok (.ireturn, 1) := by decide +kernel
abbrev D_X11_end : Nat := 1
set_option maxRecDepth 100000 in
def f_X11_end (μ0 : Mm) (a1 : Nat) (x2 : Int32) : Option (Int32 × Mm) :=
 (if x2 < 0 then
    (some ((-1 : Int32), μ0))
    else
    ((gR μ0 a1 11 0).bind fun v3 =>
    ((gI μ0 v3 9 1).bind fun v4 =>
    (if x2 ≤ v4 then
    ((gR μ0 a1 11 0).bind fun v5 =>
    ((pV μ0 v5 9 1 (.int x2)).bind fun μ6 =>
    (some (x2, μ6))))
    else
    (some ((-1 : Int32), μ0))))))
set_option maxHeartbeats 4000000 in
set_option maxRecDepth 100000 in
theorem f_X11_end_ok {l : Launch} {G : GG} {μ0 : Mm} {a1 : Nat} {x2 : Int32} {r : Int32} {μ' : Mm} (hf : f_X11_end μ0 a1 x2 = some (r, μ')) : EvM l G D_X11_end yX11_end cX11_end 2 (some .int) [.ref a1, .int x2] μ0 (some (.int r)) μ' := by
  show Ev l G D_X11_end yX11_end cX11_end 2 (some .int) 0 [(0, .ref a1), (1, .int x2)] [] μ0 (some (.int r)) μ'
  unfold f_X11_end at hf
  refine E_iload_n (pc := 0) dX11_end_0 rfl ?_
  refine E_if_lt (pc := 1) (tgt := 15) dX11_end_1 (by decide) hf (fun hf => ?_) (fun hf => ?_)
  · refine E_iconst (pc := 15) (v := (-1 : Int32)) dX11_end_15 (by decide) ?_
    exact E_iret (pc := 16) dX11_end_16 rfl hf
  · refine E_iload_n (pc := 4) dX11_end_4 rfl ?_
    refine E_aload_n (pc := 5) dX11_end_5 rfl ?_
    refine E_getR (pc := 6) dX11_end_6 fl_X11_10 hf (fun v3 hf => ?_)
    refine E_getI (pc := 9) dX11_end_9 fl_X11_105 hf (fun v4 hf => ?_)
    refine E_icmp_le (pc := 12) (tgt := 17) dX11_end_12 (by decide) hf (fun hf => ?_) (fun hf => ?_)
    · refine E_aload_n (pc := 17) dX11_end_17 rfl ?_
      refine E_getR (pc := 18) dX11_end_18 fl_X11_10 hf (fun v5 hf => ?_)
      refine E_iload_n (pc := 21) dX11_end_21 rfl ?_
      refine E_putI (pc := 22) dX11_end_22 (pl_X11_105 _) hf (fun μ6 hf => ?_)
      refine E_iload_n (pc := 25) dX11_end_25 rfl ?_
      exact E_iret (pc := 26) dX11_end_26 rfl hf
    · refine E_iconst (pc := 15) (v := (-1 : Int32)) dX11_end_15 (by decide) ?_
      exact E_iret (pc := 16) dX11_end_16 rfl hf
theorem dX11_ground_0 : decode cX11_ground 0 = .ok (.aload_n 0, 1) := by decide +kernel
theorem dX11_ground_1 : decode cX11_ground 1 = .ok (.getfield 21, 3) := by decide +kernel
theorem dX11_ground_4 : decode cX11_ground 4 = .ok (.invokevirtual 112, 3) := by decide +kernel
theorem dX11_ground_7 : decode cX11_ground 7 = .ok (.istore_n 1, 1) := by decide +kernel
theorem dX11_ground_8 : decode cX11_ground 8 = .ok (.aload_n 0, 1) := by decide +kernel
theorem dX11_ground_9 : decode cX11_ground 9 = .ok (.getfield 10, 3) := by decide +kernel
theorem dX11_ground_12 : decode cX11_ground 12 = .ok (.iconst 0, 1) := by decide +kernel
theorem dX11_ground_13 : decode cX11_ground 13 = .ok (.putfield 105, 3) := by decide +kernel
theorem dX11_ground_16 : decode cX11_ground 16 = .ok (.iload_n 1, 1) := by decide +kernel
theorem dX11_ground_17 : decode cX11_ground 17 = .ok (.ifCond .ne 14, 3) := by decide +kernel
theorem dX11_ground_20 : decode cX11_ground 20 = .ok (.bipush (-2), 2) := by decide +kernel
theorem dX11_ground_22 : decode cX11_ground 22 = .ok (.aload_n 0, 1) := by decide +kernel
theorem dX11_ground_23 : decode cX11_ground 23 = .ok (.getfield 10, 3) := by decide +kernel
theorem dX11_ground_26 : decode cX11_ground 26 = .ok (.getfield 116, 3) := by decide +kernel
theorem dX11_ground_29 : decode cX11_ground 29 = .ok (.isub, 1) := by decide +kernel
theorem dX11_ground_30 : decode cX11_ground 30 = .ok (.ireturn, 1) := by decide +kernel
theorem dX11_ground_31 : decode cX11_ground 31 = .ok (.aload_n 0, 1) := by decide +kernel
theorem dX11_ground_32 : decode cX11_ground 32 = .ok (.getfield 58, 3) := by decide +kernel
theorem dX11_ground_35 : decode cX11_ground 35 = .ok (.aload_n 0, 1) := by decide +kernel
theorem dX11_ground_36 : decode cX11_ground 36 = .ok (.getfield 21, 3) := by decide +kernel
theorem dX11_ground_39 : decode cX11_ground 39 = .ok (.getfield 51, 3) := by decide +kernel
theorem dX11_ground_42 : decode cX11_ground 42 = .ok (.invokevirtual 119, 3) := by decide +kernel
theorem dX11_ground_45 : decode cX11_ground 45 = .ok (.aload_n 0, 1) := by decide +kernel
theorem dX11_ground_46 : decode cX11_ground 46 = .ok (.getfield 58, 3) := by decide +kernel
theorem dX11_ground_49 : decode cX11_ground 49 = .ok (.getfield 122, 3) := by decide +kernel
theorem dX11_ground_52 : decode cX11_ground 52 = .ok (.getfield 125, 3) := by decide +kernel
theorem dX11_ground_55 : decode cX11_ground 55 = .ok (.ireturn, 1) := by decide +kernel
abbrev D_X11_ground : Nat := 10
set_option maxRecDepth 100000 in
def f_X11_ground (μ0 : Mm) (a1 : Nat) : Option (Int32 × Mm) :=
 ((gR μ0 a1 11 1).bind fun v2 =>
    ((ob μ0 v2 2).bind fun _ =>
    (bd (f_X2_readAll μ0 v2) fun v4 μ3 =>
    (nm v4 fun x5 =>
    ((gR μ3 a1 11 0).bind fun v6 =>
    ((pV μ3 v6 9 1 (.int (0 : Int32))).bind fun μ7 =>
    (if x5 = 0 then
    ((gR μ7 a1 11 0).bind fun v8 =>
    ((gI μ7 v8 9 3).bind fun v9 =>
    (some (((-2 : Int32) - v9), μ7))))
    else
    ((gR μ7 a1 11 6).bind fun v10 =>
    ((gR μ7 a1 11 1).bind fun v11 =>
    ((gR μ7 v11 2 1).bind fun v12 =>
    ((ob μ7 v10 7).bind fun _ =>
    ((f_X7_settleOn μ7 v10 v12).bind fun μ13 =>
    ((gR μ13 a1 11 6).bind fun v14 =>
    ((gR μ13 v14 7 0).bind fun v15 =>
    ((gI μ13 v15 1 2).bind fun v16 =>
    (some (v16, μ13)))))))))))))))))
set_option maxHeartbeats 4000000 in
set_option maxRecDepth 100000 in
theorem f_X11_ground_ok {l : Launch} {G : GG} {μ0 : Mm} {a1 : Nat} {r : Int32} {μ' : Mm} (hf : f_X11_ground μ0 a1 = some (r, μ')) : EvM l G D_X11_ground yX11_ground cX11_ground 2 (some .int) [.ref a1] μ0 (some (.int r)) μ' := by
  show Ev l G D_X11_ground yX11_ground cX11_ground 2 (some .int) 0 [(0, .ref a1)] [] μ0 (some (.int r)) μ'
  unfold f_X11_ground at hf
  refine E_aload_n (pc := 0) dX11_ground_0 rfl ?_
  refine E_getR (pc := 1) dX11_ground_1 fl_X11_21 hf (fun v2 hf => ?_)
  refine E_Vi (pc := 4) (d2 := D_X2_readAll) (ci := 2) [] dX11_ground_4 ml_X11_112 mf_X2_readAll im_X2_readAll rfl rfl rfl (by decide) (Nat.le_of_ble_eq_true rfl) (Nat.le_of_ble_eq_true rfl) rfl (fun _ _ h => f_X2_readAll_ok h) hf (fun v4 μ3 hf => ?_)
  refine E_istore_n (pc := 7) (ls' := fun x5 => [(1, .int x5), (0, .ref a1)]) dX11_ground_7 (by decide) (fun _ => rfl) hf (fun x5 hf => ?_)
  refine E_aload_n (pc := 8) dX11_ground_8 rfl ?_
  refine E_getR (pc := 9) dX11_ground_9 fl_X11_10 hf (fun v6 hf => ?_)
  refine E_iconst (pc := 12) (v := (0 : Int32)) dX11_ground_12 (by decide) ?_
  refine E_putI (pc := 13) dX11_ground_13 (pl_X11_105 _) hf (fun μ7 hf => ?_)
  refine E_iload_n (pc := 16) dX11_ground_16 rfl ?_
  refine E_if_ne (pc := 17) (tgt := 31) dX11_ground_17 (by decide) hf (fun hf => ?_) (fun hf => ?_)
  · refine E_bipush (pc := 20) (v := (-2 : Int32)) dX11_ground_20 (by decide) ?_
    refine E_aload_n (pc := 22) dX11_ground_22 rfl ?_
    refine E_getR (pc := 23) dX11_ground_23 fl_X11_10 hf (fun v8 hf => ?_)
    refine E_getI (pc := 26) dX11_ground_26 fl_X11_116 hf (fun v9 hf => ?_)
    refine E_isub (pc := 29) dX11_ground_29 ?_
    exact E_iret (pc := 30) dX11_ground_30 rfl hf
  · refine E_aload_n (pc := 31) dX11_ground_31 rfl ?_
    refine E_getR (pc := 32) dX11_ground_32 fl_X11_58 hf (fun v10 hf => ?_)
    refine E_aload_n (pc := 35) dX11_ground_35 rfl ?_
    refine E_getR (pc := 36) dX11_ground_36 fl_X11_21 hf (fun v11 hf => ?_)
    refine E_getR (pc := 39) dX11_ground_39 fl_X11_51 hf (fun v12 hf => ?_)
    refine E_Vv (pc := 42) (d2 := D_X7_settleOn) (ci := 7) [.ref v12] dX11_ground_42 ml_X11_119 mf_X7_settleOn im_X7_settleOn rfl rfl rfl (by decide) (Nat.le_of_ble_eq_true rfl) (Nat.le_of_ble_eq_true rfl) rfl (fun _ h => f_X7_settleOn_ok h) hf (fun μ13 hf => ?_)
    refine E_aload_n (pc := 45) dX11_ground_45 rfl ?_
    refine E_getR (pc := 46) dX11_ground_46 fl_X11_58 hf (fun v14 hf => ?_)
    refine E_getR (pc := 49) dX11_ground_49 fl_X11_122 hf (fun v15 hf => ?_)
    refine E_getI (pc := 52) dX11_ground_52 fl_X11_125 hf (fun v16 hf => ?_)
    exact E_iret (pc := 55) dX11_ground_55 rfl hf
theorem dX11_rule_0 : decode cX11_rule 0 = .ok (.aload_n 0, 1) := by decide +kernel
theorem dX11_rule_1 : decode cX11_rule 1 = .ok (.getfield 45, 3) := by decide +kernel
theorem dX11_rule_4 : decode cX11_rule 4 = .ok (.bipush 6, 2) := by decide +kernel
theorem dX11_rule_6 : decode cX11_rule 6 = .ok (.if_icmp .lt 5, 3) := by decide +kernel
theorem dX11_rule_9 : decode cX11_rule 9 = .ok (.iconst (-1), 1) := by decide +kernel
theorem dX11_rule_10 : decode cX11_rule 10 = .ok (.ireturn, 1) := by decide +kernel
theorem dX11_rule_11 : decode cX11_rule 11 = .ok (.aload_n 0, 1) := by decide +kernel
theorem dX11_rule_12 : decode cX11_rule 12 = .ok (.getfield 28, 3) := by decide +kernel
theorem dX11_rule_15 : decode cX11_rule 15 = .ok (.invokevirtual 130, 3) := by decide +kernel
theorem dX11_rule_18 : decode cX11_rule 18 = .ok (.istore_n 1, 1) := by decide +kernel
theorem dX11_rule_19 : decode cX11_rule 19 = .ok (.aload_n 0, 1) := by decide +kernel
theorem dX11_rule_20 : decode cX11_rule 20 = .ok (.getfield 10, 3) := by decide +kernel
theorem dX11_rule_23 : decode cX11_rule 23 = .ok (.iconst 0, 1) := by decide +kernel
theorem dX11_rule_24 : decode cX11_rule 24 = .ok (.putfield 105, 3) := by decide +kernel
theorem dX11_rule_27 : decode cX11_rule 27 = .ok (.iload_n 1, 1) := by decide +kernel
theorem dX11_rule_28 : decode cX11_rule 28 = .ok (.ifCond .ne 14, 3) := by decide +kernel
theorem dX11_rule_31 : decode cX11_rule 31 = .ok (.bipush (-2), 2) := by decide +kernel
theorem dX11_rule_33 : decode cX11_rule 33 = .ok (.aload_n 0, 1) := by decide +kernel
theorem dX11_rule_34 : decode cX11_rule 34 = .ok (.getfield 10, 3) := by decide +kernel
theorem dX11_rule_37 : decode cX11_rule 37 = .ok (.getfield 116, 3) := by decide +kernel
theorem dX11_rule_40 : decode cX11_rule 40 = .ok (.isub, 1) := by decide +kernel
theorem dX11_rule_41 : decode cX11_rule 41 = .ok (.ireturn, 1) := by decide +kernel
theorem dX11_rule_42 : decode cX11_rule 42 = .ok (.aload_n 0, 1) := by decide +kernel
theorem dX11_rule_43 : decode cX11_rule 43 = .ok (.getfield 41, 3) := by decide +kernel
theorem dX11_rule_46 : decode cX11_rule 46 = .ok (.aload_n 0, 1) := by decide +kernel
theorem dX11_rule_47 : decode cX11_rule 47 = .ok (.getfield 45, 3) := by decide +kernel
theorem dX11_rule_50 : decode cX11_rule 50 = .ok (.new 32, 3) := by decide +kernel
theorem dX11_rule_53 : decode cX11_rule 53 = .ok (.dup, 1) := by decide +kernel
theorem dX11_rule_54 : decode cX11_rule 54 = .ok (.aload_n 0, 1) := by decide +kernel
theorem dX11_rule_55 : decode cX11_rule 55 = .ok (.getfield 28, 3) := by decide +kernel
theorem dX11_rule_58 : decode cX11_rule 58 = .ok (.invokespecial 34, 3) := by decide +kernel
theorem dX11_rule_61 : decode cX11_rule 61 = .ok (.aastore, 1) := by decide +kernel
theorem dX11_rule_62 : decode cX11_rule 62 = .ok (.aload_n 0, 1) := by decide +kernel
theorem dX11_rule_63 : decode cX11_rule 63 = .ok (.dup, 1) := by decide +kernel
theorem dX11_rule_64 : decode cX11_rule 64 = .ok (.getfield 45, 3) := by decide +kernel
theorem dX11_rule_67 : decode cX11_rule 67 = .ok (.iconst 1, 1) := by decide +kernel
theorem dX11_rule_68 : decode cX11_rule 68 = .ok (.iadd, 1) := by decide +kernel
theorem dX11_rule_69 : decode cX11_rule 69 = .ok (.putfield 45, 3) := by decide +kernel
theorem dX11_rule_72 : decode cX11_rule 72 = .ok (.aload_n 0, 1) := by decide +kernel
theorem dX11_rule_73 : decode cX11_rule 73 = .ok (.getfield 45, 3) := by decide +kernel
theorem dX11_rule_76 : decode cX11_rule 76 = .ok (.iconst 1, 1) := by decide +kernel
theorem dX11_rule_77 : decode cX11_rule 77 = .ok (.isub, 1) := by decide +kernel
theorem dX11_rule_78 : decode cX11_rule 78 = .ok (.ireturn, 1) := by decide +kernel
abbrev D_X11_rule : Nat := 73
set_option maxRecDepth 100000 in
def f_X11_rule (μ0 : Mm) (a1 : Nat) : Option (Int32 × Mm) :=
 ((gI μ0 a1 11 5).bind fun v2 =>
    (if v2 < (6 : Int32) then
    ((gR μ0 a1 11 2).bind fun v3 =>
    ((ob μ0 v3 6).bind fun _ =>
    (bd (f_X6_readAll μ0 v3) fun v5 μ4 =>
    (nm v5 fun x6 =>
    ((gR μ4 a1 11 0).bind fun v7 =>
    ((pV μ4 v7 9 1 (.int (0 : Int32))).bind fun μ8 =>
    (if x6 = 0 then
    ((gR μ8 a1 11 0).bind fun v9 =>
    ((gI μ8 v9 9 3).bind fun v10 =>
    (some (((-2 : Int32) - v10), μ8))))
    else
    ((gR μ8 a1 11 4).bind fun v11 =>
    ((gI μ8 a1 11 5).bind fun v12 =>
    (bd (nO μ8 5 9 [.null, .int 0, .null, .null, .null, .null, .int 0, .int 0, .null]) fun a13 μ14 =>
    ((gR μ14 a1 11 2).bind fun v15 =>
    ((f_X5_init μ14 a13 v15).bind fun μ16 =>
    ((sR μ16 v11 4 v12 5 a13).bind fun μ17 =>
    ((gI μ17 a1 11 5).bind fun v18 =>
    ((pV μ17 a1 11 5 (.int (v18 + (1 : Int32)))).bind fun μ19 =>
    ((gI μ19 a1 11 5).bind fun v20 =>
    (some ((v20 - (1 : Int32)), μ19))))))))))))))))))
    else
    (some ((-1 : Int32), μ0))))
set_option maxHeartbeats 4000000 in
set_option maxRecDepth 100000 in
theorem f_X11_rule_ok {l : Launch} {G : GG} {μ0 : Mm} {a1 : Nat} {r : Int32} {μ' : Mm} (hf : f_X11_rule μ0 a1 = some (r, μ')) : EvM l G D_X11_rule yX11_rule cX11_rule 2 (some .int) [.ref a1] μ0 (some (.int r)) μ' := by
  show Ev l G D_X11_rule yX11_rule cX11_rule 2 (some .int) 0 [(0, .ref a1)] [] μ0 (some (.int r)) μ'
  unfold f_X11_rule at hf
  refine E_aload_n (pc := 0) dX11_rule_0 rfl ?_
  refine E_getI (pc := 1) dX11_rule_1 fl_X11_45 hf (fun v2 hf => ?_)
  refine E_bipush (pc := 4) (v := (6 : Int32)) dX11_rule_4 (by decide) ?_
  refine E_icmp_lt (pc := 6) (tgt := 11) dX11_rule_6 (by decide) hf (fun hf => ?_) (fun hf => ?_)
  · refine E_aload_n (pc := 11) dX11_rule_11 rfl ?_
    refine E_getR (pc := 12) dX11_rule_12 fl_X11_28 hf (fun v3 hf => ?_)
    refine E_Vi (pc := 15) (d2 := D_X6_readAll) (ci := 6) [] dX11_rule_15 ml_X11_130 mf_X6_readAll im_X6_readAll rfl rfl rfl (by decide) (Nat.le_of_ble_eq_true rfl) (Nat.le_of_ble_eq_true rfl) rfl (fun _ _ h => f_X6_readAll_ok h) hf (fun v5 μ4 hf => ?_)
    refine E_istore_n (pc := 18) (ls' := fun x6 => [(1, .int x6), (0, .ref a1)]) dX11_rule_18 (by decide) (fun _ => rfl) hf (fun x6 hf => ?_)
    refine E_aload_n (pc := 19) dX11_rule_19 rfl ?_
    refine E_getR (pc := 20) dX11_rule_20 fl_X11_10 hf (fun v7 hf => ?_)
    refine E_iconst (pc := 23) (v := (0 : Int32)) dX11_rule_23 (by decide) ?_
    refine E_putI (pc := 24) dX11_rule_24 (pl_X11_105 _) hf (fun μ8 hf => ?_)
    refine E_iload_n (pc := 27) dX11_rule_27 rfl ?_
    refine E_if_ne (pc := 28) (tgt := 42) dX11_rule_28 (by decide) hf (fun hf => ?_) (fun hf => ?_)
    · refine E_bipush (pc := 31) (v := (-2 : Int32)) dX11_rule_31 (by decide) ?_
      refine E_aload_n (pc := 33) dX11_rule_33 rfl ?_
      refine E_getR (pc := 34) dX11_rule_34 fl_X11_10 hf (fun v9 hf => ?_)
      refine E_getI (pc := 37) dX11_rule_37 fl_X11_116 hf (fun v10 hf => ?_)
      refine E_isub (pc := 40) dX11_rule_40 ?_
      exact E_iret (pc := 41) dX11_rule_41 rfl hf
    · refine E_aload_n (pc := 42) dX11_rule_42 rfl ?_
      refine E_getR (pc := 43) dX11_rule_43 fl_X11_41 hf (fun v11 hf => ?_)
      refine E_aload_n (pc := 46) dX11_rule_46 rfl ?_
      refine E_getI (pc := 47) dX11_rule_47 fl_X11_45 hf (fun v12 hf => ?_)
      refine E_new2 (pc := 50) dX11_rule_50 nl_X11_32 hf (fun a13 μ14 hf => ?_)
      refine E_dup (pc := 53) dX11_rule_53 rfl ?_
      refine E_aload_n (pc := 54) dX11_rule_54 rfl ?_
      refine E_getR (pc := 55) dX11_rule_55 fl_X11_28 hf (fun v15 hf => ?_)
      refine E_Iv (pc := 58) (d2 := D_X5_init) [.ref v15] dX11_rule_58 ml_X11_34 mf_X5_init ii_X5_init rfl rfl (by decide) (Nat.le_of_ble_eq_true rfl) (Nat.le_of_ble_eq_true rfl) rfl (fun _ h => f_X5_init_ok h) hf (fun μ16 hf => ?_)
      refine E_aast (pc := 61) dX11_rule_61 (by decide) hf (fun μ17 hf => ?_)
      refine E_aload_n (pc := 62) dX11_rule_62 rfl ?_
      refine E_dup (pc := 63) dX11_rule_63 rfl ?_
      refine E_getI (pc := 64) dX11_rule_64 fl_X11_45 hf (fun v18 hf => ?_)
      refine E_iconst (pc := 67) (v := (1 : Int32)) dX11_rule_67 (by decide) ?_
      refine E_iadd (pc := 68) dX11_rule_68 ?_
      refine E_putI (pc := 69) dX11_rule_69 (pl_X11_45 _) hf (fun μ19 hf => ?_)
      refine E_aload_n (pc := 72) dX11_rule_72 rfl ?_
      refine E_getI (pc := 73) dX11_rule_73 fl_X11_45 hf (fun v20 hf => ?_)
      refine E_iconst (pc := 76) (v := (1 : Int32)) dX11_rule_76 (by decide) ?_
      refine E_isub (pc := 77) dX11_rule_77 ?_
      exact E_iret (pc := 78) dX11_rule_78 rfl hf
  · refine E_iconst (pc := 9) (v := (-1 : Int32)) dX11_rule_9 (by decide) ?_
    exact E_iret (pc := 10) dX11_rule_10 rfl hf
theorem dX11_force_0 : decode cX11_force 0 = .ok (.iload_n 1, 1) := by decide +kernel
theorem dX11_force_1 : decode cX11_force 1 = .ok (.iconst (-1), 1) := by decide +kernel
theorem dX11_force_2 : decode cX11_force 2 = .ok (.if_icmp .lt 11, 3) := by decide +kernel
theorem dX11_force_5 : decode cX11_force 5 = .ok (.iload_n 1, 1) := by decide +kernel
theorem dX11_force_6 : decode cX11_force 6 = .ok (.aload_n 0, 1) := by decide +kernel
theorem dX11_force_7 : decode cX11_force 7 = .ok (.getfield 45, 3) := by decide +kernel
theorem dX11_force_10 : decode cX11_force 10 = .ok (.if_icmp .lt 6, 3) := by decide +kernel
theorem dX11_force_13 : decode cX11_force 13 = .ok (.bipush (-2), 2) := by decide +kernel
theorem dX11_force_15 : decode cX11_force 15 = .ok (.ireturn, 1) := by decide +kernel
theorem dX11_force_16 : decode cX11_force 16 = .ok (.aload_n 0, 1) := by decide +kernel
theorem dX11_force_17 : decode cX11_force 17 = .ok (.getfield 58, 3) := by decide +kernel
theorem dX11_force_20 : decode cX11_force 20 = .ok (.getfield 131, 3) := by decide +kernel
theorem dX11_force_23 : decode cX11_force 23 = .ok (.istore_n 2, 1) := by decide +kernel
theorem dX11_force_24 : decode cX11_force 24 = .ok (.aload_n 0, 1) := by decide +kernel
theorem dX11_force_25 : decode cX11_force 25 = .ok (.getfield 58, 3) := by decide +kernel
theorem dX11_force_28 : decode cX11_force 28 = .ok (.iload_n 1, 1) := by decide +kernel
theorem dX11_force_29 : decode cX11_force 29 = .ok (.putfield 131, 3) := by decide +kernel
theorem dX11_force_32 : decode cX11_force 32 = .ok (.iload_n 2, 1) := by decide +kernel
theorem dX11_force_33 : decode cX11_force 33 = .ok (.ireturn, 1) := by decide +kernel
abbrev D_X11_force : Nat := 1
set_option maxRecDepth 100000 in
def f_X11_force (μ0 : Mm) (a1 : Nat) (x2 : Int32) : Option (Int32 × Mm) :=
 (if x2 < (-1 : Int32) then
    (some ((-2 : Int32), μ0))
    else
    ((gI μ0 a1 11 5).bind fun v3 =>
    (if x2 < v3 then
    ((gR μ0 a1 11 6).bind fun v4 =>
    ((gI μ0 v4 7 1).bind fun v5 =>
    (nm v5 fun x6 =>
    ((gR μ0 a1 11 6).bind fun v7 =>
    ((pV μ0 v7 7 1 (.int x2)).bind fun μ8 =>
    (some (x6, μ8)))))))
    else
    (some ((-2 : Int32), μ0)))))
set_option maxHeartbeats 4000000 in
set_option maxRecDepth 100000 in
theorem f_X11_force_ok {l : Launch} {G : GG} {μ0 : Mm} {a1 : Nat} {x2 : Int32} {r : Int32} {μ' : Mm} (hf : f_X11_force μ0 a1 x2 = some (r, μ')) : EvM l G D_X11_force yX11_force cX11_force 3 (some .int) [.ref a1, .int x2] μ0 (some (.int r)) μ' := by
  show Ev l G D_X11_force yX11_force cX11_force 3 (some .int) 0 [(0, .ref a1), (1, .int x2)] [] μ0 (some (.int r)) μ'
  unfold f_X11_force at hf
  refine E_iload_n (pc := 0) dX11_force_0 rfl ?_
  refine E_iconst (pc := 1) (v := (-1 : Int32)) dX11_force_1 (by decide) ?_
  refine E_icmp_lt (pc := 2) (tgt := 13) dX11_force_2 (by decide) hf (fun hf => ?_) (fun hf => ?_)
  · refine E_bipush (pc := 13) (v := (-2 : Int32)) dX11_force_13 (by decide) ?_
    exact E_iret (pc := 15) dX11_force_15 rfl hf
  · refine E_iload_n (pc := 5) dX11_force_5 rfl ?_
    refine E_aload_n (pc := 6) dX11_force_6 rfl ?_
    refine E_getI (pc := 7) dX11_force_7 fl_X11_45 hf (fun v3 hf => ?_)
    refine E_icmp_lt (pc := 10) (tgt := 16) dX11_force_10 (by decide) hf (fun hf => ?_) (fun hf => ?_)
    · refine E_aload_n (pc := 16) dX11_force_16 rfl ?_
      refine E_getR (pc := 17) dX11_force_17 fl_X11_58 hf (fun v4 hf => ?_)
      refine E_getI (pc := 20) dX11_force_20 fl_X11_131 hf (fun v5 hf => ?_)
      refine E_istore_n (pc := 23) (ls' := fun x6 => [(2, .int x6), (0, .ref a1), (1, .int x2)]) dX11_force_23 (by decide) (fun _ => rfl) hf (fun x6 hf => ?_)
      refine E_aload_n (pc := 24) dX11_force_24 rfl ?_
      refine E_getR (pc := 25) dX11_force_25 fl_X11_58 hf (fun v7 hf => ?_)
      refine E_iload_n (pc := 28) dX11_force_28 rfl ?_
      refine E_putI (pc := 29) dX11_force_29 (pl_X11_131 _) hf (fun μ8 hf => ?_)
      refine E_iload_n (pc := 32) dX11_force_32 rfl ?_
      exact E_iret (pc := 33) dX11_force_33 rfl hf
    · refine E_bipush (pc := 13) (v := (-2 : Int32)) dX11_force_13 (by decide) ?_
      exact E_iret (pc := 15) dX11_force_15 rfl hf
theorem dX11_isCell_0 : decode cX11_isCell 0 = .ok (.iload_n 1, 1) := by decide +kernel
theorem dX11_isCell_1 : decode cX11_isCell 1 = .ok (.ifCond .lt 21, 3) := by decide +kernel
theorem dX11_isCell_4 : decode cX11_isCell 4 = .ok (.iload_n 1, 1) := by decide +kernel
theorem dX11_isCell_5 : decode cX11_isCell 5 = .ok (.aload_n 0, 1) := by decide +kernel
theorem dX11_isCell_6 : decode cX11_isCell 6 = .ok (.getfield 58, 3) := by decide +kernel
theorem dX11_isCell_9 : decode cX11_isCell 9 = .ok (.getfield 122, 3) := by decide +kernel
theorem dX11_isCell_12 : decode cX11_isCell 12 = .ok (.getfield 125, 3) := by decide +kernel
theorem dX11_isCell_15 : decode cX11_isCell 15 = .ok (.if_icmp .ge 7, 3) := by decide +kernel
theorem dX11_isCell_18 : decode cX11_isCell 18 = .ok (.iconst 1, 1) := by decide +kernel
theorem dX11_isCell_19 : decode cX11_isCell 19 = .ok (.goto 4, 3) := by decide +kernel
theorem dX11_isCell_22 : decode cX11_isCell 22 = .ok (.iconst 0, 1) := by decide +kernel
theorem dX11_isCell_23 : decode cX11_isCell 23 = .ok (.ireturn, 1) := by decide +kernel
abbrev D_X11_isCell : Nat := 1
set_option maxRecDepth 100000 in
def f_X11_isCell (μ0 : Mm) (a1 : Nat) (x2 : Int32) : Option (Int32 × Mm) :=
 (if x2 < 0 then
    (if (0 : Int32) = 0 ∨ (0 : Int32) = 1 then some ((0 : Int32), μ0) else none)
    else
    ((gR μ0 a1 11 6).bind fun v3 =>
    ((gR μ0 v3 7 0).bind fun v4 =>
    ((gI μ0 v4 1 2).bind fun v5 =>
    (if v5 ≤ x2 then
    (if (0 : Int32) = 0 ∨ (0 : Int32) = 1 then some ((0 : Int32), μ0) else none)
    else
    (if (1 : Int32) = 0 ∨ (1 : Int32) = 1 then some ((1 : Int32), μ0) else none))))))
set_option maxHeartbeats 4000000 in
set_option maxRecDepth 100000 in
theorem f_X11_isCell_ok {l : Launch} {G : GG} {μ0 : Mm} {a1 : Nat} {x2 : Int32} {r : Int32} {μ' : Mm} (hf : f_X11_isCell μ0 a1 x2 = some (r, μ')) : EvM l G D_X11_isCell yX11_isCell cX11_isCell 2 (some .boolean) [.ref a1, .int x2] μ0 (some (.int r)) μ' := by
  show Ev l G D_X11_isCell yX11_isCell cX11_isCell 2 (some .boolean) 0 [(0, .ref a1), (1, .int x2)] [] μ0 (some (.int r)) μ'
  unfold f_X11_isCell at hf
  refine E_iload_n (pc := 0) dX11_isCell_0 rfl ?_
  refine E_if_lt (pc := 1) (tgt := 22) dX11_isCell_1 (by decide) hf (fun hf => ?_) (fun hf => ?_)
  · refine E_iconst (pc := 22) (v := (0 : Int32)) dX11_isCell_22 (by decide) ?_
    exact E_zret (pc := 23) dX11_isCell_23 rfl hf
  · refine E_iload_n (pc := 4) dX11_isCell_4 rfl ?_
    refine E_aload_n (pc := 5) dX11_isCell_5 rfl ?_
    refine E_getR (pc := 6) dX11_isCell_6 fl_X11_58 hf (fun v3 hf => ?_)
    refine E_getR (pc := 9) dX11_isCell_9 fl_X11_122 hf (fun v4 hf => ?_)
    refine E_getI (pc := 12) dX11_isCell_12 fl_X11_125 hf (fun v5 hf => ?_)
    refine E_icmp_ge (pc := 15) (tgt := 22) dX11_isCell_15 (by decide) hf (fun hf => ?_) (fun hf => ?_)
    · refine E_iconst (pc := 22) (v := (0 : Int32)) dX11_isCell_22 (by decide) ?_
      exact E_zret (pc := 23) dX11_isCell_23 rfl hf
    · refine E_iconst (pc := 18) (v := (1 : Int32)) dX11_isCell_18 (by decide) ?_
      refine E_goto (pc := 19) (tgt := 23) dX11_isCell_19 (by decide) ?_
      exact E_zret (pc := 23) dX11_isCell_23 rfl hf
theorem dX11_cell_0 : decode cX11_cell 0 = .ok (.aload_n 0, 1) := by decide +kernel
theorem dX11_cell_1 : decode cX11_cell 1 = .ok (.iload_n 1, 1) := by decide +kernel
theorem dX11_cell_2 : decode cX11_cell 2 = .ok (.invokevirtual 134, 3) := by decide +kernel
theorem dX11_cell_5 : decode cX11_cell 5 = .ok (.ifCond .ne 6, 3) := by decide +kernel
theorem dX11_cell_8 : decode cX11_cell 8 = .ok (.bipush (-2), 2) := by decide +kernel
theorem dX11_cell_10 : decode cX11_cell 10 = .ok (.ireturn, 1) := by decide +kernel
theorem dX11_cell_11 : decode cX11_cell 11 = .ok (.iload_n 2, 1) := by decide +kernel
theorem dX11_cell_12 : decode cX11_cell 12 = .ok (.tableswitch 132 0 6 #[44, 57, 70, 90, 99, 108, 120], 44) := by decide +kernel
theorem dX11_cell_56 : decode cX11_cell 56 = .ok (.aload_n 0, 1) := by decide +kernel
theorem dX11_cell_57 : decode cX11_cell 57 = .ok (.getfield 58, 3) := by decide +kernel
theorem dX11_cell_60 : decode cX11_cell 60 = .ok (.getfield 122, 3) := by decide +kernel
theorem dX11_cell_63 : decode cX11_cell 63 = .ok (.getfield 138, 3) := by decide +kernel
theorem dX11_cell_66 : decode cX11_cell 66 = .ok (.iload_n 1, 1) := by decide +kernel
theorem dX11_cell_67 : decode cX11_cell 67 = .ok (.iaload, 1) := by decide +kernel
theorem dX11_cell_68 : decode cX11_cell 68 = .ok (.ireturn, 1) := by decide +kernel
theorem dX11_cell_69 : decode cX11_cell 69 = .ok (.aload_n 0, 1) := by decide +kernel
theorem dX11_cell_70 : decode cX11_cell 70 = .ok (.getfield 58, 3) := by decide +kernel
theorem dX11_cell_73 : decode cX11_cell 73 = .ok (.getfield 122, 3) := by decide +kernel
theorem dX11_cell_76 : decode cX11_cell 76 = .ok (.getfield 141, 3) := by decide +kernel
theorem dX11_cell_79 : decode cX11_cell 79 = .ok (.iload_n 1, 1) := by decide +kernel
theorem dX11_cell_80 : decode cX11_cell 80 = .ok (.iaload, 1) := by decide +kernel
theorem dX11_cell_81 : decode cX11_cell 81 = .ok (.ireturn, 1) := by decide +kernel
theorem dX11_cell_82 : decode cX11_cell 82 = .ok (.aload_n 0, 1) := by decide +kernel
theorem dX11_cell_83 : decode cX11_cell 83 = .ok (.getfield 58, 3) := by decide +kernel
theorem dX11_cell_86 : decode cX11_cell 86 = .ok (.getfield 122, 3) := by decide +kernel
theorem dX11_cell_89 : decode cX11_cell 89 = .ok (.iload_n 1, 1) := by decide +kernel
theorem dX11_cell_90 : decode cX11_cell 90 = .ok (.invokevirtual 144, 3) := by decide +kernel
theorem dX11_cell_93 : decode cX11_cell 93 = .ok (.ifCond .eq 7, 3) := by decide +kernel
theorem dX11_cell_96 : decode cX11_cell 96 = .ok (.iconst 1, 1) := by decide +kernel
theorem dX11_cell_97 : decode cX11_cell 97 = .ok (.goto 4, 3) := by decide +kernel
theorem dX11_cell_100 : decode cX11_cell 100 = .ok (.iconst 0, 1) := by decide +kernel
theorem dX11_cell_101 : decode cX11_cell 101 = .ok (.ireturn, 1) := by decide +kernel
theorem dX11_cell_102 : decode cX11_cell 102 = .ok (.aload_n 0, 1) := by decide +kernel
theorem dX11_cell_103 : decode cX11_cell 103 = .ok (.getfield 58, 3) := by decide +kernel
theorem dX11_cell_106 : decode cX11_cell 106 = .ok (.iload_n 1, 1) := by decide +kernel
theorem dX11_cell_107 : decode cX11_cell 107 = .ok (.invokevirtual 147, 3) := by decide +kernel
theorem dX11_cell_110 : decode cX11_cell 110 = .ok (.ireturn, 1) := by decide +kernel
theorem dX11_cell_111 : decode cX11_cell 111 = .ok (.aload_n 0, 1) := by decide +kernel
theorem dX11_cell_112 : decode cX11_cell 112 = .ok (.getfield 58, 3) := by decide +kernel
theorem dX11_cell_115 : decode cX11_cell 115 = .ok (.iload_n 1, 1) := by decide +kernel
theorem dX11_cell_116 : decode cX11_cell 116 = .ok (.invokevirtual 151, 3) := by decide +kernel
theorem dX11_cell_119 : decode cX11_cell 119 = .ok (.ireturn, 1) := by decide +kernel
theorem dX11_cell_120 : decode cX11_cell 120 = .ok (.aload_n 0, 1) := by decide +kernel
theorem dX11_cell_121 : decode cX11_cell 121 = .ok (.getfield 58, 3) := by decide +kernel
theorem dX11_cell_124 : decode cX11_cell 124 = .ok (.getfield 122, 3) := by decide +kernel
theorem dX11_cell_127 : decode cX11_cell 127 = .ok (.iload_n 1, 1) := by decide +kernel
theorem dX11_cell_128 : decode cX11_cell 128 = .ok (.invokevirtual 154, 3) := by decide +kernel
theorem dX11_cell_131 : decode cX11_cell 131 = .ok (.ireturn, 1) := by decide +kernel
theorem dX11_cell_132 : decode cX11_cell 132 = .ok (.aload_n 0, 1) := by decide +kernel
theorem dX11_cell_133 : decode cX11_cell 133 = .ok (.getfield 58, 3) := by decide +kernel
theorem dX11_cell_136 : decode cX11_cell 136 = .ok (.getfield 122, 3) := by decide +kernel
theorem dX11_cell_139 : decode cX11_cell 139 = .ok (.iload_n 1, 1) := by decide +kernel
theorem dX11_cell_140 : decode cX11_cell 140 = .ok (.invokevirtual 157, 3) := by decide +kernel
theorem dX11_cell_143 : decode cX11_cell 143 = .ok (.ireturn, 1) := by decide +kernel
theorem dX11_cell_144 : decode cX11_cell 144 = .ok (.bipush (-2), 2) := by decide +kernel
theorem dX11_cell_146 : decode cX11_cell 146 = .ok (.ireturn, 1) := by decide +kernel
abbrev D_X11_cell : Nat := 2
set_option maxRecDepth 100000 in
def f_X11_cell (μ0 : Mm) (a1 : Nat) (x2 : Int32) (x3 : Int32) : Option (Int32 × Mm) :=
 ((ob μ0 a1 11).bind fun _ =>
    (bd (f_X11_isCell μ0 a1 x2) fun v5 μ4 =>
    (if v5 = 0 then
    (some ((-2 : Int32), μ4))
    else
    (if x3 = (0 : Int32) then
    ((gR μ4 a1 11 6).bind fun v28 =>
    ((gR μ4 v28 7 0).bind fun v29 =>
    ((gR μ4 v29 1 3).bind fun v30 =>
    ((aI μ4 v30 0 x2).bind fun v31 =>
    (some (v31, μ4))))))
    else
    (if x3 = (1 : Int32) then
    ((gR μ4 a1 11 6).bind fun v24 =>
    ((gR μ4 v24 7 0).bind fun v25 =>
    ((gR μ4 v25 1 4).bind fun v26 =>
    ((aI μ4 v26 0 x2).bind fun v27 =>
    (some (v27, μ4))))))
    else
    (if x3 = (2 : Int32) then
    ((gR μ4 a1 11 6).bind fun v20 =>
    ((gR μ4 v20 7 0).bind fun v21 =>
    ((ob μ4 v21 1).bind fun _ =>
    (bd (f_X1_hasNet μ4 v21 x2) fun v23 μ22 =>
    (if v23 = 0 then
    (some ((0 : Int32), μ22))
    else
    (some ((1 : Int32), μ22)))))))
    else
    (if x3 = (3 : Int32) then
    ((gR μ4 a1 11 6).bind fun v17 =>
    ((ob μ4 v17 7).bind fun _ =>
    (bd (f_X7_peopleIn μ4 v17 x2) fun v19 μ18 =>
    (some (v19, μ18)))))
    else
    (if x3 = (4 : Int32) then
    ((gR μ4 a1 11 6).bind fun v14 =>
    ((ob μ4 v14 7).bind fun _ =>
    (bd (f_X7_thingsIn μ4 v14 x2) fun v16 μ15 =>
    (some (v16, μ15)))))
    else
    (if x3 = (5 : Int32) then
    ((gR μ4 a1 11 6).bind fun v10 =>
    ((gR μ4 v10 7 0).bind fun v11 =>
    ((ob μ4 v11 1).bind fun _ =>
    (bd (f_X1_floorUnder μ4 v11 x2) fun v13 μ12 =>
    (some (v13, μ12))))))
    else
    (if x3 = (6 : Int32) then
    ((gR μ4 a1 11 6).bind fun v6 =>
    ((gR μ4 v6 7 0).bind fun v7 =>
    ((ob μ4 v7 1).bind fun _ =>
    (bd (f_X1_stepsUnder μ4 v7 x2) fun v9 μ8 =>
    (some (v9, μ8))))))
    else
    (some ((-2 : Int32), μ4))))))))))))
set_option maxHeartbeats 4000000 in
set_option maxRecDepth 100000 in
theorem f_X11_cell_ok {l : Launch} {G : GG} {μ0 : Mm} {a1 : Nat} {x2 : Int32} {x3 : Int32} {r : Int32} {μ' : Mm} (hf : f_X11_cell μ0 a1 x2 x3 = some (r, μ')) : EvM l G D_X11_cell yX11_cell cX11_cell 3 (some .int) [.ref a1, .int x2, .int x3] μ0 (some (.int r)) μ' := by
  show Ev l G D_X11_cell yX11_cell cX11_cell 3 (some .int) 0 [(0, .ref a1), (1, .int x2), (2, .int x3)] [] μ0 (some (.int r)) μ'
  unfold f_X11_cell at hf
  refine E_aload_n (pc := 0) dX11_cell_0 rfl ?_
  refine E_iload_n (pc := 1) dX11_cell_1 rfl ?_
  refine E_Vi (pc := 2) (d2 := D_X11_isCell) (ci := 11) [.int x2] dX11_cell_2 ml_X11_134 mf_X11_isCell im_X11_isCell rfl rfl rfl (by decide) (Nat.le_of_ble_eq_true rfl) (Nat.le_of_ble_eq_true rfl) rfl (fun _ _ h => f_X11_isCell_ok h) hf (fun v5 μ4 hf => ?_)
  refine E_if_ne (pc := 5) (tgt := 11) dX11_cell_5 (by decide) hf (fun hf => ?_) (fun hf => ?_)
  · refine E_bipush (pc := 8) (v := (-2 : Int32)) dX11_cell_8 (by decide) ?_
    exact E_iret (pc := 10) dX11_cell_10 rfl hf
  · refine E_iload_n (pc := 11) dX11_cell_11 rfl ?_
    refine ifS hf (fun n12_0 hf => ?_) (fun n12_0 hf => ?_)
    · refine E_tswI (pc := 12) (tgt := 56) (0) dX11_cell_12 (by rw [n12_0]; decide) (by decide) (by decide) rfl (by decide) ?_
      refine E_aload_n (pc := 56) dX11_cell_56 rfl ?_
      refine E_getR (pc := 57) dX11_cell_57 fl_X11_58 hf (fun v28 hf => ?_)
      refine E_getR (pc := 60) dX11_cell_60 fl_X11_122 hf (fun v29 hf => ?_)
      refine E_getR (pc := 63) dX11_cell_63 fl_X11_138 hf (fun v30 hf => ?_)
      refine E_iload_n (pc := 66) dX11_cell_66 rfl ?_
      refine E_iald (pc := 67) dX11_cell_67 hf (fun v31 hf => ?_)
      exact E_iret (pc := 68) dX11_cell_68 rfl hf
    · refine ifS hf (fun n12_1 hf => ?_) (fun n12_1 hf => ?_)
      · refine E_tswI (pc := 12) (tgt := 69) (1) dX11_cell_12 (by rw [n12_1]; decide) (by decide) (by decide) rfl (by decide) ?_
        refine E_aload_n (pc := 69) dX11_cell_69 rfl ?_
        refine E_getR (pc := 70) dX11_cell_70 fl_X11_58 hf (fun v24 hf => ?_)
        refine E_getR (pc := 73) dX11_cell_73 fl_X11_122 hf (fun v25 hf => ?_)
        refine E_getR (pc := 76) dX11_cell_76 fl_X11_141 hf (fun v26 hf => ?_)
        refine E_iload_n (pc := 79) dX11_cell_79 rfl ?_
        refine E_iald (pc := 80) dX11_cell_80 hf (fun v27 hf => ?_)
        exact E_iret (pc := 81) dX11_cell_81 rfl hf
      · refine ifS hf (fun n12_2 hf => ?_) (fun n12_2 hf => ?_)
        · refine E_tswI (pc := 12) (tgt := 82) (2) dX11_cell_12 (by rw [n12_2]; decide) (by decide) (by decide) rfl (by decide) ?_
          refine E_aload_n (pc := 82) dX11_cell_82 rfl ?_
          refine E_getR (pc := 83) dX11_cell_83 fl_X11_58 hf (fun v20 hf => ?_)
          refine E_getR (pc := 86) dX11_cell_86 fl_X11_122 hf (fun v21 hf => ?_)
          refine E_iload_n (pc := 89) dX11_cell_89 rfl ?_
          refine E_Vi (pc := 90) (d2 := D_X1_hasNet) (ci := 1) [.int x2] dX11_cell_90 ml_X11_144 mf_X1_hasNet im_X1_hasNet rfl rfl rfl (by decide) (Nat.le_of_ble_eq_true rfl) (Nat.le_of_ble_eq_true rfl) rfl (fun _ _ h => f_X1_hasNet_ok h) hf (fun v23 μ22 hf => ?_)
          refine E_if_eq (pc := 93) (tgt := 100) dX11_cell_93 (by decide) hf (fun hf => ?_) (fun hf => ?_)
          · refine E_iconst (pc := 100) (v := (0 : Int32)) dX11_cell_100 (by decide) ?_
            exact E_iret (pc := 101) dX11_cell_101 rfl hf
          · refine E_iconst (pc := 96) (v := (1 : Int32)) dX11_cell_96 (by decide) ?_
            refine E_goto (pc := 97) (tgt := 101) dX11_cell_97 (by decide) ?_
            exact E_iret (pc := 101) dX11_cell_101 rfl hf
        · refine ifS hf (fun n12_3 hf => ?_) (fun n12_3 hf => ?_)
          · refine E_tswI (pc := 12) (tgt := 102) (3) dX11_cell_12 (by rw [n12_3]; decide) (by decide) (by decide) rfl (by decide) ?_
            refine E_aload_n (pc := 102) dX11_cell_102 rfl ?_
            refine E_getR (pc := 103) dX11_cell_103 fl_X11_58 hf (fun v17 hf => ?_)
            refine E_iload_n (pc := 106) dX11_cell_106 rfl ?_
            refine E_Vi (pc := 107) (d2 := D_X7_peopleIn) (ci := 7) [.int x2] dX11_cell_107 ml_X11_147 mf_X7_peopleIn im_X7_peopleIn rfl rfl rfl (by decide) (Nat.le_of_ble_eq_true rfl) (Nat.le_of_ble_eq_true rfl) rfl (fun _ _ h => f_X7_peopleIn_ok h) hf (fun v19 μ18 hf => ?_)
            exact E_iret (pc := 110) dX11_cell_110 rfl hf
          · refine ifS hf (fun n12_4 hf => ?_) (fun n12_4 hf => ?_)
            · refine E_tswI (pc := 12) (tgt := 111) (4) dX11_cell_12 (by rw [n12_4]; decide) (by decide) (by decide) rfl (by decide) ?_
              refine E_aload_n (pc := 111) dX11_cell_111 rfl ?_
              refine E_getR (pc := 112) dX11_cell_112 fl_X11_58 hf (fun v14 hf => ?_)
              refine E_iload_n (pc := 115) dX11_cell_115 rfl ?_
              refine E_Vi (pc := 116) (d2 := D_X7_thingsIn) (ci := 7) [.int x2] dX11_cell_116 ml_X11_151 mf_X7_thingsIn im_X7_thingsIn rfl rfl rfl (by decide) (Nat.le_of_ble_eq_true rfl) (Nat.le_of_ble_eq_true rfl) rfl (fun _ _ h => f_X7_thingsIn_ok h) hf (fun v16 μ15 hf => ?_)
              exact E_iret (pc := 119) dX11_cell_119 rfl hf
            · refine ifS hf (fun n12_5 hf => ?_) (fun n12_5 hf => ?_)
              · refine E_tswI (pc := 12) (tgt := 120) (5) dX11_cell_12 (by rw [n12_5]; decide) (by decide) (by decide) rfl (by decide) ?_
                refine E_aload_n (pc := 120) dX11_cell_120 rfl ?_
                refine E_getR (pc := 121) dX11_cell_121 fl_X11_58 hf (fun v10 hf => ?_)
                refine E_getR (pc := 124) dX11_cell_124 fl_X11_122 hf (fun v11 hf => ?_)
                refine E_iload_n (pc := 127) dX11_cell_127 rfl ?_
                refine E_Vi (pc := 128) (d2 := D_X1_floorUnder) (ci := 1) [.int x2] dX11_cell_128 ml_X11_154 mf_X1_floorUnder im_X1_floorUnder rfl rfl rfl (by decide) (Nat.le_of_ble_eq_true rfl) (Nat.le_of_ble_eq_true rfl) rfl (fun _ _ h => f_X1_floorUnder_ok h) hf (fun v13 μ12 hf => ?_)
                exact E_iret (pc := 131) dX11_cell_131 rfl hf
              · refine ifS hf (fun n12_6 hf => ?_) (fun n12_6 hf => ?_)
                · refine E_tswI (pc := 12) (tgt := 132) (6) dX11_cell_12 (by rw [n12_6]; decide) (by decide) (by decide) rfl (by decide) ?_
                  refine E_aload_n (pc := 132) dX11_cell_132 rfl ?_
                  refine E_getR (pc := 133) dX11_cell_133 fl_X11_58 hf (fun v6 hf => ?_)
                  refine E_getR (pc := 136) dX11_cell_136 fl_X11_122 hf (fun v7 hf => ?_)
                  refine E_iload_n (pc := 139) dX11_cell_139 rfl ?_
                  refine E_Vi (pc := 140) (d2 := D_X1_stepsUnder) (ci := 1) [.int x2] dX11_cell_140 ml_X11_157 mf_X1_stepsUnder im_X1_stepsUnder rfl rfl rfl (by decide) (Nat.le_of_ble_eq_true rfl) (Nat.le_of_ble_eq_true rfl) rfl (fun _ _ h => f_X1_stepsUnder_ok h) hf (fun v9 μ8 hf => ?_)
                  exact E_iret (pc := 143) dX11_cell_143 rfl hf
                · refine E_tswD (pc := 12) (tgt := 144) dX11_cell_12 (by have q0 : ¬ (x3).toInt = 0 := i32ne n12_0; have q1 : ¬ (x3).toInt = 1 := i32ne n12_1; have q2 : ¬ (x3).toInt = 2 := i32ne n12_2; have q3 : ¬ (x3).toInt = 3 := i32ne n12_3; have q4 : ¬ (x3).toInt = 4 := i32ne n12_4; have q5 : ¬ (x3).toInt = 5 := i32ne n12_5; have q6 : ¬ (x3).toInt = 6 := i32ne n12_6;  omega) (by decide) ?_
                  refine E_bipush (pc := 144) (v := (-2 : Int32)) dX11_cell_144 (by decide) ?_
                  exact E_iret (pc := 146) dX11_cell_146 rfl hf
theorem dX11_isPerson_0 : decode cX11_isPerson 0 = .ok (.iload_n 1, 1) := by decide +kernel
theorem dX11_isPerson_1 : decode cX11_isPerson 1 = .ok (.ifCond .lt 21, 3) := by decide +kernel
theorem dX11_isPerson_4 : decode cX11_isPerson 4 = .ok (.iload_n 1, 1) := by decide +kernel
theorem dX11_isPerson_5 : decode cX11_isPerson 5 = .ok (.aload_n 0, 1) := by decide +kernel
theorem dX11_isPerson_6 : decode cX11_isPerson 6 = .ok (.getfield 58, 3) := by decide +kernel
theorem dX11_isPerson_9 : decode cX11_isPerson 9 = .ok (.getfield 122, 3) := by decide +kernel
theorem dX11_isPerson_12 : decode cX11_isPerson 12 = .ok (.getfield 357, 3) := by decide +kernel
theorem dX11_isPerson_15 : decode cX11_isPerson 15 = .ok (.if_icmp .ge 7, 3) := by decide +kernel
theorem dX11_isPerson_18 : decode cX11_isPerson 18 = .ok (.iconst 1, 1) := by decide +kernel
theorem dX11_isPerson_19 : decode cX11_isPerson 19 = .ok (.goto 4, 3) := by decide +kernel
theorem dX11_isPerson_22 : decode cX11_isPerson 22 = .ok (.iconst 0, 1) := by decide +kernel
theorem dX11_isPerson_23 : decode cX11_isPerson 23 = .ok (.ireturn, 1) := by decide +kernel
abbrev D_X11_isPerson : Nat := 1
set_option maxRecDepth 100000 in
def f_X11_isPerson (μ0 : Mm) (a1 : Nat) (x2 : Int32) : Option (Int32 × Mm) :=
 (if x2 < 0 then
    (if (0 : Int32) = 0 ∨ (0 : Int32) = 1 then some ((0 : Int32), μ0) else none)
    else
    ((gR μ0 a1 11 6).bind fun v3 =>
    ((gR μ0 v3 7 0).bind fun v4 =>
    ((gI μ0 v4 1 6).bind fun v5 =>
    (if v5 ≤ x2 then
    (if (0 : Int32) = 0 ∨ (0 : Int32) = 1 then some ((0 : Int32), μ0) else none)
    else
    (if (1 : Int32) = 0 ∨ (1 : Int32) = 1 then some ((1 : Int32), μ0) else none))))))
set_option maxHeartbeats 4000000 in
set_option maxRecDepth 100000 in
theorem f_X11_isPerson_ok {l : Launch} {G : GG} {μ0 : Mm} {a1 : Nat} {x2 : Int32} {r : Int32} {μ' : Mm} (hf : f_X11_isPerson μ0 a1 x2 = some (r, μ')) : EvM l G D_X11_isPerson yX11_isPerson cX11_isPerson 2 (some .boolean) [.ref a1, .int x2] μ0 (some (.int r)) μ' := by
  show Ev l G D_X11_isPerson yX11_isPerson cX11_isPerson 2 (some .boolean) 0 [(0, .ref a1), (1, .int x2)] [] μ0 (some (.int r)) μ'
  unfold f_X11_isPerson at hf
  refine E_iload_n (pc := 0) dX11_isPerson_0 rfl ?_
  refine E_if_lt (pc := 1) (tgt := 22) dX11_isPerson_1 (by decide) hf (fun hf => ?_) (fun hf => ?_)
  · refine E_iconst (pc := 22) (v := (0 : Int32)) dX11_isPerson_22 (by decide) ?_
    exact E_zret (pc := 23) dX11_isPerson_23 rfl hf
  · refine E_iload_n (pc := 4) dX11_isPerson_4 rfl ?_
    refine E_aload_n (pc := 5) dX11_isPerson_5 rfl ?_
    refine E_getR (pc := 6) dX11_isPerson_6 fl_X11_58 hf (fun v3 hf => ?_)
    refine E_getR (pc := 9) dX11_isPerson_9 fl_X11_122 hf (fun v4 hf => ?_)
    refine E_getI (pc := 12) dX11_isPerson_12 fl_X11_357 hf (fun v5 hf => ?_)
    refine E_icmp_ge (pc := 15) (tgt := 22) dX11_isPerson_15 (by decide) hf (fun hf => ?_) (fun hf => ?_)
    · refine E_iconst (pc := 22) (v := (0 : Int32)) dX11_isPerson_22 (by decide) ?_
      exact E_zret (pc := 23) dX11_isPerson_23 rfl hf
    · refine E_iconst (pc := 18) (v := (1 : Int32)) dX11_isPerson_18 (by decide) ?_
      refine E_goto (pc := 19) (tgt := 23) dX11_isPerson_19 (by decide) ?_
      exact E_zret (pc := 23) dX11_isPerson_23 rfl hf
theorem dX11_person_0 : decode cX11_person 0 = .ok (.aload_n 0, 1) := by decide +kernel
theorem dX11_person_1 : decode cX11_person 1 = .ok (.iload_n 1, 1) := by decide +kernel
theorem dX11_person_2 : decode cX11_person 2 = .ok (.invokevirtual 160, 3) := by decide +kernel
theorem dX11_person_5 : decode cX11_person 5 = .ok (.ifCond .ne 5, 3) := by decide +kernel
theorem dX11_person_8 : decode cX11_person 8 = .ok (.iconst (-1), 1) := by decide +kernel
theorem dX11_person_9 : decode cX11_person 9 = .ok (.ireturn, 1) := by decide +kernel
theorem dX11_person_10 : decode cX11_person 10 = .ok (.iload_n 2, 1) := by decide +kernel
theorem dX11_person_11 : decode cX11_person 11 = .ok (.lookupswitch 48 #[(0, 25), (1, 35)], 25) := by decide +kernel
theorem dX11_person_36 : decode cX11_person 36 = .ok (.aload_n 0, 1) := by decide +kernel
theorem dX11_person_37 : decode cX11_person 37 = .ok (.getfield 58, 3) := by decide +kernel
theorem dX11_person_40 : decode cX11_person 40 = .ok (.getfield 163, 3) := by decide +kernel
theorem dX11_person_43 : decode cX11_person 43 = .ok (.iload_n 1, 1) := by decide +kernel
theorem dX11_person_44 : decode cX11_person 44 = .ok (.iaload, 1) := by decide +kernel
theorem dX11_person_45 : decode cX11_person 45 = .ok (.ireturn, 1) := by decide +kernel
theorem dX11_person_46 : decode cX11_person 46 = .ok (.aload_n 0, 1) := by decide +kernel
theorem dX11_person_47 : decode cX11_person 47 = .ok (.getfield 58, 3) := by decide +kernel
theorem dX11_person_50 : decode cX11_person 50 = .ok (.getfield 122, 3) := by decide +kernel
theorem dX11_person_53 : decode cX11_person 53 = .ok (.getfield 166, 3) := by decide +kernel
theorem dX11_person_56 : decode cX11_person 56 = .ok (.iload_n 1, 1) := by decide +kernel
theorem dX11_person_57 : decode cX11_person 57 = .ok (.iaload, 1) := by decide +kernel
theorem dX11_person_58 : decode cX11_person 58 = .ok (.ireturn, 1) := by decide +kernel
theorem dX11_person_59 : decode cX11_person 59 = .ok (.iconst (-1), 1) := by decide +kernel
theorem dX11_person_60 : decode cX11_person 60 = .ok (.ireturn, 1) := by decide +kernel
abbrev D_X11_person : Nat := 2
set_option maxRecDepth 100000 in
def f_X11_person (μ0 : Mm) (a1 : Nat) (x2 : Int32) (x3 : Int32) : Option (Int32 × Mm) :=
 ((ob μ0 a1 11).bind fun _ =>
    (bd (f_X11_isPerson μ0 a1 x2) fun v5 μ4 =>
    (if v5 = 0 then
    (some ((-1 : Int32), μ4))
    else
    (if x3 = (0 : Int32) then
    ((gR μ4 a1 11 6).bind fun v10 =>
    ((gR μ4 v10 7 4).bind fun v11 =>
    ((aI μ4 v11 0 x2).bind fun v12 =>
    (some (v12, μ4)))))
    else
    (if x3 = (1 : Int32) then
    ((gR μ4 a1 11 6).bind fun v6 =>
    ((gR μ4 v6 7 0).bind fun v7 =>
    ((gR μ4 v7 1 8).bind fun v8 =>
    ((aI μ4 v8 0 x2).bind fun v9 =>
    (some (v9, μ4))))))
    else
    (some ((-1 : Int32), μ4)))))))
set_option maxHeartbeats 4000000 in
set_option maxRecDepth 100000 in
theorem f_X11_person_ok {l : Launch} {G : GG} {μ0 : Mm} {a1 : Nat} {x2 : Int32} {x3 : Int32} {r : Int32} {μ' : Mm} (hf : f_X11_person μ0 a1 x2 x3 = some (r, μ')) : EvM l G D_X11_person yX11_person cX11_person 3 (some .int) [.ref a1, .int x2, .int x3] μ0 (some (.int r)) μ' := by
  show Ev l G D_X11_person yX11_person cX11_person 3 (some .int) 0 [(0, .ref a1), (1, .int x2), (2, .int x3)] [] μ0 (some (.int r)) μ'
  unfold f_X11_person at hf
  refine E_aload_n (pc := 0) dX11_person_0 rfl ?_
  refine E_iload_n (pc := 1) dX11_person_1 rfl ?_
  refine E_Vi (pc := 2) (d2 := D_X11_isPerson) (ci := 11) [.int x2] dX11_person_2 ml_X11_160 mf_X11_isPerson im_X11_isPerson rfl rfl rfl (by decide) (Nat.le_of_ble_eq_true rfl) (Nat.le_of_ble_eq_true rfl) rfl (fun _ _ h => f_X11_isPerson_ok h) hf (fun v5 μ4 hf => ?_)
  refine E_if_ne (pc := 5) (tgt := 10) dX11_person_5 (by decide) hf (fun hf => ?_) (fun hf => ?_)
  · refine E_iconst (pc := 8) (v := (-1 : Int32)) dX11_person_8 (by decide) ?_
    exact E_iret (pc := 9) dX11_person_9 rfl hf
  · refine E_iload_n (pc := 10) dX11_person_10 rfl ?_
    refine ifS hf (fun n11_0 hf => ?_) (fun n11_0 hf => ?_)
    · refine E_lsw (α := Nat) (pc := 11) (tgt := 36) dX11_person_11 (by decide) (by rw [n11_0]; decide) ?_
      refine E_aload_n (pc := 36) dX11_person_36 rfl ?_
      refine E_getR (pc := 37) dX11_person_37 fl_X11_58 hf (fun v10 hf => ?_)
      refine E_getR (pc := 40) dX11_person_40 fl_X11_163 hf (fun v11 hf => ?_)
      refine E_iload_n (pc := 43) dX11_person_43 rfl ?_
      refine E_iald (pc := 44) dX11_person_44 hf (fun v12 hf => ?_)
      exact E_iret (pc := 45) dX11_person_45 rfl hf
    · refine ifS hf (fun n11_1 hf => ?_) (fun n11_1 hf => ?_)
      · refine E_lsw (α := Nat) (pc := 11) (tgt := 46) dX11_person_11 (by decide) (by rw [n11_1]; decide) ?_
        refine E_aload_n (pc := 46) dX11_person_46 rfl ?_
        refine E_getR (pc := 47) dX11_person_47 fl_X11_58 hf (fun v6 hf => ?_)
        refine E_getR (pc := 50) dX11_person_50 fl_X11_122 hf (fun v7 hf => ?_)
        refine E_getR (pc := 53) dX11_person_53 fl_X11_166 hf (fun v8 hf => ?_)
        refine E_iload_n (pc := 56) dX11_person_56 rfl ?_
        refine E_iald (pc := 57) dX11_person_57 hf (fun v9 hf => ?_)
        exact E_iret (pc := 58) dX11_person_58 rfl hf
      · refine E_lsw (α := Nat) (pc := 11) (tgt := 59) dX11_person_11 (by decide) (by have q0 : ¬ (x3).toInt = 0 := i32ne n11_0; have p0 : ¬ 0 = (x3).toInt := fun h => q0 h.symm; have q1 : ¬ (x3).toInt = 1 := i32ne n11_1; have p1 : ¬ 1 = (x3).toInt := fun h => q1 h.symm;  simp [Op.lookupswitch.offset, q0, p0, q1, p1]) ?_
        refine E_iconst (pc := 59) (v := (-1 : Int32)) dX11_person_59 (by decide) ?_
        exact E_iret (pc := 60) dX11_person_60 rfl hf
theorem dX11_isThing_0 : decode cX11_isThing 0 = .ok (.iload_n 1, 1) := by decide +kernel
theorem dX11_isThing_1 : decode cX11_isThing 1 = .ok (.ifCond .lt 21, 3) := by decide +kernel
theorem dX11_isThing_4 : decode cX11_isThing 4 = .ok (.iload_n 1, 1) := by decide +kernel
theorem dX11_isThing_5 : decode cX11_isThing 5 = .ok (.aload_n 0, 1) := by decide +kernel
theorem dX11_isThing_6 : decode cX11_isThing 6 = .ok (.getfield 58, 3) := by decide +kernel
theorem dX11_isThing_9 : decode cX11_isThing 9 = .ok (.getfield 122, 3) := by decide +kernel
theorem dX11_isThing_12 : decode cX11_isThing 12 = .ok (.getfield 274, 3) := by decide +kernel
theorem dX11_isThing_15 : decode cX11_isThing 15 = .ok (.if_icmp .ge 7, 3) := by decide +kernel
theorem dX11_isThing_18 : decode cX11_isThing 18 = .ok (.iconst 1, 1) := by decide +kernel
theorem dX11_isThing_19 : decode cX11_isThing 19 = .ok (.goto 4, 3) := by decide +kernel
theorem dX11_isThing_22 : decode cX11_isThing 22 = .ok (.iconst 0, 1) := by decide +kernel
theorem dX11_isThing_23 : decode cX11_isThing 23 = .ok (.ireturn, 1) := by decide +kernel
abbrev D_X11_isThing : Nat := 1
set_option maxRecDepth 100000 in
def f_X11_isThing (μ0 : Mm) (a1 : Nat) (x2 : Int32) : Option (Int32 × Mm) :=
 (if x2 < 0 then
    (if (0 : Int32) = 0 ∨ (0 : Int32) = 1 then some ((0 : Int32), μ0) else none)
    else
    ((gR μ0 a1 11 6).bind fun v3 =>
    ((gR μ0 v3 7 0).bind fun v4 =>
    ((gI μ0 v4 1 9).bind fun v5 =>
    (if v5 ≤ x2 then
    (if (0 : Int32) = 0 ∨ (0 : Int32) = 1 then some ((0 : Int32), μ0) else none)
    else
    (if (1 : Int32) = 0 ∨ (1 : Int32) = 1 then some ((1 : Int32), μ0) else none))))))
set_option maxHeartbeats 4000000 in
set_option maxRecDepth 100000 in
theorem f_X11_isThing_ok {l : Launch} {G : GG} {μ0 : Mm} {a1 : Nat} {x2 : Int32} {r : Int32} {μ' : Mm} (hf : f_X11_isThing μ0 a1 x2 = some (r, μ')) : EvM l G D_X11_isThing yX11_isThing cX11_isThing 2 (some .boolean) [.ref a1, .int x2] μ0 (some (.int r)) μ' := by
  show Ev l G D_X11_isThing yX11_isThing cX11_isThing 2 (some .boolean) 0 [(0, .ref a1), (1, .int x2)] [] μ0 (some (.int r)) μ'
  unfold f_X11_isThing at hf
  refine E_iload_n (pc := 0) dX11_isThing_0 rfl ?_
  refine E_if_lt (pc := 1) (tgt := 22) dX11_isThing_1 (by decide) hf (fun hf => ?_) (fun hf => ?_)
  · refine E_iconst (pc := 22) (v := (0 : Int32)) dX11_isThing_22 (by decide) ?_
    exact E_zret (pc := 23) dX11_isThing_23 rfl hf
  · refine E_iload_n (pc := 4) dX11_isThing_4 rfl ?_
    refine E_aload_n (pc := 5) dX11_isThing_5 rfl ?_
    refine E_getR (pc := 6) dX11_isThing_6 fl_X11_58 hf (fun v3 hf => ?_)
    refine E_getR (pc := 9) dX11_isThing_9 fl_X11_122 hf (fun v4 hf => ?_)
    refine E_getI (pc := 12) dX11_isThing_12 fl_X11_274 hf (fun v5 hf => ?_)
    refine E_icmp_ge (pc := 15) (tgt := 22) dX11_isThing_15 (by decide) hf (fun hf => ?_) (fun hf => ?_)
    · refine E_iconst (pc := 22) (v := (0 : Int32)) dX11_isThing_22 (by decide) ?_
      exact E_zret (pc := 23) dX11_isThing_23 rfl hf
    · refine E_iconst (pc := 18) (v := (1 : Int32)) dX11_isThing_18 (by decide) ?_
      refine E_goto (pc := 19) (tgt := 23) dX11_isThing_19 (by decide) ?_
      exact E_zret (pc := 23) dX11_isThing_23 rfl hf
theorem dX11_thing_0 : decode cX11_thing 0 = .ok (.aload_n 0, 1) := by decide +kernel
theorem dX11_thing_1 : decode cX11_thing 1 = .ok (.iload_n 1, 1) := by decide +kernel
theorem dX11_thing_2 : decode cX11_thing 2 = .ok (.invokevirtual 169, 3) := by decide +kernel
theorem dX11_thing_5 : decode cX11_thing 5 = .ok (.ifCond .ne 5, 3) := by decide +kernel
theorem dX11_thing_8 : decode cX11_thing 8 = .ok (.iconst (-1), 1) := by decide +kernel
theorem dX11_thing_9 : decode cX11_thing 9 = .ok (.ireturn, 1) := by decide +kernel
theorem dX11_thing_10 : decode cX11_thing 10 = .ok (.iload_n 2, 1) := by decide +kernel
theorem dX11_thing_11 : decode cX11_thing 11 = .ok (.tableswitch 99 0 4 #[33, 43, 56, 69, 82], 33) := by decide +kernel
theorem dX11_thing_44 : decode cX11_thing 44 = .ok (.aload_n 0, 1) := by decide +kernel
theorem dX11_thing_45 : decode cX11_thing 45 = .ok (.getfield 58, 3) := by decide +kernel
theorem dX11_thing_48 : decode cX11_thing 48 = .ok (.getfield 172, 3) := by decide +kernel
theorem dX11_thing_51 : decode cX11_thing 51 = .ok (.iload_n 1, 1) := by decide +kernel
theorem dX11_thing_52 : decode cX11_thing 52 = .ok (.iaload, 1) := by decide +kernel
theorem dX11_thing_53 : decode cX11_thing 53 = .ok (.ireturn, 1) := by decide +kernel
theorem dX11_thing_54 : decode cX11_thing 54 = .ok (.aload_n 0, 1) := by decide +kernel
theorem dX11_thing_55 : decode cX11_thing 55 = .ok (.getfield 58, 3) := by decide +kernel
theorem dX11_thing_58 : decode cX11_thing 58 = .ok (.getfield 122, 3) := by decide +kernel
theorem dX11_thing_61 : decode cX11_thing 61 = .ok (.getfield 175, 3) := by decide +kernel
theorem dX11_thing_64 : decode cX11_thing 64 = .ok (.iload_n 1, 1) := by decide +kernel
theorem dX11_thing_65 : decode cX11_thing 65 = .ok (.iaload, 1) := by decide +kernel
theorem dX11_thing_66 : decode cX11_thing 66 = .ok (.ireturn, 1) := by decide +kernel
theorem dX11_thing_67 : decode cX11_thing 67 = .ok (.aload_n 0, 1) := by decide +kernel
theorem dX11_thing_68 : decode cX11_thing 68 = .ok (.getfield 58, 3) := by decide +kernel
theorem dX11_thing_71 : decode cX11_thing 71 = .ok (.getfield 122, 3) := by decide +kernel
theorem dX11_thing_74 : decode cX11_thing 74 = .ok (.getfield 178, 3) := by decide +kernel
theorem dX11_thing_77 : decode cX11_thing 77 = .ok (.iload_n 1, 1) := by decide +kernel
theorem dX11_thing_78 : decode cX11_thing 78 = .ok (.iaload, 1) := by decide +kernel
theorem dX11_thing_79 : decode cX11_thing 79 = .ok (.ireturn, 1) := by decide +kernel
theorem dX11_thing_80 : decode cX11_thing 80 = .ok (.aload_n 0, 1) := by decide +kernel
theorem dX11_thing_81 : decode cX11_thing 81 = .ok (.getfield 58, 3) := by decide +kernel
theorem dX11_thing_84 : decode cX11_thing 84 = .ok (.getfield 122, 3) := by decide +kernel
theorem dX11_thing_87 : decode cX11_thing 87 = .ok (.getfield 181, 3) := by decide +kernel
theorem dX11_thing_90 : decode cX11_thing 90 = .ok (.iload_n 1, 1) := by decide +kernel
theorem dX11_thing_91 : decode cX11_thing 91 = .ok (.iaload, 1) := by decide +kernel
theorem dX11_thing_92 : decode cX11_thing 92 = .ok (.ireturn, 1) := by decide +kernel
theorem dX11_thing_93 : decode cX11_thing 93 = .ok (.aload_n 0, 1) := by decide +kernel
theorem dX11_thing_94 : decode cX11_thing 94 = .ok (.getfield 58, 3) := by decide +kernel
theorem dX11_thing_97 : decode cX11_thing 97 = .ok (.iload_n 1, 1) := by decide +kernel
theorem dX11_thing_98 : decode cX11_thing 98 = .ok (.invokevirtual 184, 3) := by decide +kernel
theorem dX11_thing_101 : decode cX11_thing 101 = .ok (.ifCond .eq 7, 3) := by decide +kernel
theorem dX11_thing_104 : decode cX11_thing 104 = .ok (.iconst 1, 1) := by decide +kernel
theorem dX11_thing_105 : decode cX11_thing 105 = .ok (.goto 4, 3) := by decide +kernel
theorem dX11_thing_108 : decode cX11_thing 108 = .ok (.iconst 0, 1) := by decide +kernel
theorem dX11_thing_109 : decode cX11_thing 109 = .ok (.ireturn, 1) := by decide +kernel
theorem dX11_thing_110 : decode cX11_thing 110 = .ok (.iconst (-1), 1) := by decide +kernel
theorem dX11_thing_111 : decode cX11_thing 111 = .ok (.ireturn, 1) := by decide +kernel
abbrev D_X11_thing : Nat := 2
set_option maxRecDepth 100000 in
def f_X11_thing (μ0 : Mm) (a1 : Nat) (x2 : Int32) (x3 : Int32) : Option (Int32 × Mm) :=
 ((ob μ0 a1 11).bind fun _ =>
    (bd (f_X11_isThing μ0 a1 x2) fun v5 μ4 =>
    (if v5 = 0 then
    (some ((-1 : Int32), μ4))
    else
    (if x3 = (0 : Int32) then
    ((gR μ4 a1 11 6).bind fun v21 =>
    ((gR μ4 v21 7 5).bind fun v22 =>
    ((aI μ4 v22 0 x2).bind fun v23 =>
    (some (v23, μ4)))))
    else
    (if x3 = (1 : Int32) then
    ((gR μ4 a1 11 6).bind fun v17 =>
    ((gR μ4 v17 7 0).bind fun v18 =>
    ((gR μ4 v18 1 11).bind fun v19 =>
    ((aI μ4 v19 0 x2).bind fun v20 =>
    (some (v20, μ4))))))
    else
    (if x3 = (2 : Int32) then
    ((gR μ4 a1 11 6).bind fun v13 =>
    ((gR μ4 v13 7 0).bind fun v14 =>
    ((gR μ4 v14 1 12).bind fun v15 =>
    ((aI μ4 v15 0 x2).bind fun v16 =>
    (some (v16, μ4))))))
    else
    (if x3 = (3 : Int32) then
    ((gR μ4 a1 11 6).bind fun v9 =>
    ((gR μ4 v9 7 0).bind fun v10 =>
    ((gR μ4 v10 1 13).bind fun v11 =>
    ((aI μ4 v11 0 x2).bind fun v12 =>
    (some (v12, μ4))))))
    else
    (if x3 = (4 : Int32) then
    ((gR μ4 a1 11 6).bind fun v6 =>
    ((ob μ4 v6 7).bind fun _ =>
    (bd (f_X7_isBroken μ4 v6 x2) fun v8 μ7 =>
    (if v8 = 0 then
    (some ((0 : Int32), μ7))
    else
    (some ((1 : Int32), μ7))))))
    else
    (some ((-1 : Int32), μ4))))))))))
set_option maxHeartbeats 4000000 in
set_option maxRecDepth 100000 in
theorem f_X11_thing_ok {l : Launch} {G : GG} {μ0 : Mm} {a1 : Nat} {x2 : Int32} {x3 : Int32} {r : Int32} {μ' : Mm} (hf : f_X11_thing μ0 a1 x2 x3 = some (r, μ')) : EvM l G D_X11_thing yX11_thing cX11_thing 3 (some .int) [.ref a1, .int x2, .int x3] μ0 (some (.int r)) μ' := by
  show Ev l G D_X11_thing yX11_thing cX11_thing 3 (some .int) 0 [(0, .ref a1), (1, .int x2), (2, .int x3)] [] μ0 (some (.int r)) μ'
  unfold f_X11_thing at hf
  refine E_aload_n (pc := 0) dX11_thing_0 rfl ?_
  refine E_iload_n (pc := 1) dX11_thing_1 rfl ?_
  refine E_Vi (pc := 2) (d2 := D_X11_isThing) (ci := 11) [.int x2] dX11_thing_2 ml_X11_169 mf_X11_isThing im_X11_isThing rfl rfl rfl (by decide) (Nat.le_of_ble_eq_true rfl) (Nat.le_of_ble_eq_true rfl) rfl (fun _ _ h => f_X11_isThing_ok h) hf (fun v5 μ4 hf => ?_)
  refine E_if_ne (pc := 5) (tgt := 10) dX11_thing_5 (by decide) hf (fun hf => ?_) (fun hf => ?_)
  · refine E_iconst (pc := 8) (v := (-1 : Int32)) dX11_thing_8 (by decide) ?_
    exact E_iret (pc := 9) dX11_thing_9 rfl hf
  · refine E_iload_n (pc := 10) dX11_thing_10 rfl ?_
    refine ifS hf (fun n11_0 hf => ?_) (fun n11_0 hf => ?_)
    · refine E_tswI (pc := 11) (tgt := 44) (0) dX11_thing_11 (by rw [n11_0]; decide) (by decide) (by decide) rfl (by decide) ?_
      refine E_aload_n (pc := 44) dX11_thing_44 rfl ?_
      refine E_getR (pc := 45) dX11_thing_45 fl_X11_58 hf (fun v21 hf => ?_)
      refine E_getR (pc := 48) dX11_thing_48 fl_X11_172 hf (fun v22 hf => ?_)
      refine E_iload_n (pc := 51) dX11_thing_51 rfl ?_
      refine E_iald (pc := 52) dX11_thing_52 hf (fun v23 hf => ?_)
      exact E_iret (pc := 53) dX11_thing_53 rfl hf
    · refine ifS hf (fun n11_1 hf => ?_) (fun n11_1 hf => ?_)
      · refine E_tswI (pc := 11) (tgt := 54) (1) dX11_thing_11 (by rw [n11_1]; decide) (by decide) (by decide) rfl (by decide) ?_
        refine E_aload_n (pc := 54) dX11_thing_54 rfl ?_
        refine E_getR (pc := 55) dX11_thing_55 fl_X11_58 hf (fun v17 hf => ?_)
        refine E_getR (pc := 58) dX11_thing_58 fl_X11_122 hf (fun v18 hf => ?_)
        refine E_getR (pc := 61) dX11_thing_61 fl_X11_175 hf (fun v19 hf => ?_)
        refine E_iload_n (pc := 64) dX11_thing_64 rfl ?_
        refine E_iald (pc := 65) dX11_thing_65 hf (fun v20 hf => ?_)
        exact E_iret (pc := 66) dX11_thing_66 rfl hf
      · refine ifS hf (fun n11_2 hf => ?_) (fun n11_2 hf => ?_)
        · refine E_tswI (pc := 11) (tgt := 67) (2) dX11_thing_11 (by rw [n11_2]; decide) (by decide) (by decide) rfl (by decide) ?_
          refine E_aload_n (pc := 67) dX11_thing_67 rfl ?_
          refine E_getR (pc := 68) dX11_thing_68 fl_X11_58 hf (fun v13 hf => ?_)
          refine E_getR (pc := 71) dX11_thing_71 fl_X11_122 hf (fun v14 hf => ?_)
          refine E_getR (pc := 74) dX11_thing_74 fl_X11_178 hf (fun v15 hf => ?_)
          refine E_iload_n (pc := 77) dX11_thing_77 rfl ?_
          refine E_iald (pc := 78) dX11_thing_78 hf (fun v16 hf => ?_)
          exact E_iret (pc := 79) dX11_thing_79 rfl hf
        · refine ifS hf (fun n11_3 hf => ?_) (fun n11_3 hf => ?_)
          · refine E_tswI (pc := 11) (tgt := 80) (3) dX11_thing_11 (by rw [n11_3]; decide) (by decide) (by decide) rfl (by decide) ?_
            refine E_aload_n (pc := 80) dX11_thing_80 rfl ?_
            refine E_getR (pc := 81) dX11_thing_81 fl_X11_58 hf (fun v9 hf => ?_)
            refine E_getR (pc := 84) dX11_thing_84 fl_X11_122 hf (fun v10 hf => ?_)
            refine E_getR (pc := 87) dX11_thing_87 fl_X11_181 hf (fun v11 hf => ?_)
            refine E_iload_n (pc := 90) dX11_thing_90 rfl ?_
            refine E_iald (pc := 91) dX11_thing_91 hf (fun v12 hf => ?_)
            exact E_iret (pc := 92) dX11_thing_92 rfl hf
          · refine ifS hf (fun n11_4 hf => ?_) (fun n11_4 hf => ?_)
            · refine E_tswI (pc := 11) (tgt := 93) (4) dX11_thing_11 (by rw [n11_4]; decide) (by decide) (by decide) rfl (by decide) ?_
              refine E_aload_n (pc := 93) dX11_thing_93 rfl ?_
              refine E_getR (pc := 94) dX11_thing_94 fl_X11_58 hf (fun v6 hf => ?_)
              refine E_iload_n (pc := 97) dX11_thing_97 rfl ?_
              refine E_Vi (pc := 98) (d2 := D_X7_isBroken) (ci := 7) [.int x2] dX11_thing_98 ml_X11_184 mf_X7_isBroken im_X7_isBroken rfl rfl rfl (by decide) (Nat.le_of_ble_eq_true rfl) (Nat.le_of_ble_eq_true rfl) rfl (fun _ _ h => f_X7_isBroken_ok h) hf (fun v8 μ7 hf => ?_)
              refine E_if_eq (pc := 101) (tgt := 108) dX11_thing_101 (by decide) hf (fun hf => ?_) (fun hf => ?_)
              · refine E_iconst (pc := 108) (v := (0 : Int32)) dX11_thing_108 (by decide) ?_
                exact E_iret (pc := 109) dX11_thing_109 rfl hf
              · refine E_iconst (pc := 104) (v := (1 : Int32)) dX11_thing_104 (by decide) ?_
                refine E_goto (pc := 105) (tgt := 109) dX11_thing_105 (by decide) ?_
                exact E_iret (pc := 109) dX11_thing_109 rfl hf
            · refine E_tswD (pc := 11) (tgt := 110) dX11_thing_11 (by have q0 : ¬ (x3).toInt = 0 := i32ne n11_0; have q1 : ¬ (x3).toInt = 1 := i32ne n11_1; have q2 : ¬ (x3).toInt = 2 := i32ne n11_2; have q3 : ¬ (x3).toInt = 3 := i32ne n11_3; have q4 : ¬ (x3).toInt = 4 := i32ne n11_4;  omega) (by decide) ?_
              refine E_iconst (pc := 110) (v := (-1 : Int32)) dX11_thing_110 (by decide) ?_
              exact E_iret (pc := 111) dX11_thing_111 rfl hf
theorem dX11_isLean_0 : decode cX11_isLean 0 = .ok (.iload_n 0, 1) := by decide +kernel
theorem dX11_isLean_1 : decode cX11_isLean 1 = .ok (.ifCond .lt 12, 3) := by decide +kernel
theorem dX11_isLean_4 : decode cX11_isLean 4 = .ok (.iload_n 0, 1) := by decide +kernel
theorem dX11_isLean_5 : decode cX11_isLean 5 = .ok (.iconst 5, 1) := by decide +kernel
theorem dX11_isLean_6 : decode cX11_isLean 6 = .ok (.if_icmp .ge 7, 3) := by decide +kernel
theorem dX11_isLean_9 : decode cX11_isLean 9 = .ok (.iconst 1, 1) := by decide +kernel
theorem dX11_isLean_10 : decode cX11_isLean 10 = .ok (.goto 4, 3) := by decide +kernel
theorem dX11_isLean_13 : decode cX11_isLean 13 = .ok (.iconst 0, 1) := by decide +kernel
theorem dX11_isLean_14 : decode cX11_isLean 14 = .ok (.ireturn, 1) := by decide +kernel
abbrev D_X11_isLean : Nat := 1
set_option maxRecDepth 100000 in
def f_X11_isLean (μ0 : Mm) (x1 : Int32) : Option (Int32 × Mm) :=
 (if x1 < 0 then
    (if (0 : Int32) = 0 ∨ (0 : Int32) = 1 then some ((0 : Int32), μ0) else none)
    else
    (if (5 : Int32) ≤ x1 then
    (if (0 : Int32) = 0 ∨ (0 : Int32) = 1 then some ((0 : Int32), μ0) else none)
    else
    (if (1 : Int32) = 0 ∨ (1 : Int32) = 1 then some ((1 : Int32), μ0) else none)))
set_option maxHeartbeats 4000000 in
set_option maxRecDepth 100000 in
theorem f_X11_isLean_ok {l : Launch} {G : GG} {μ0 : Mm} {x1 : Int32} {r : Int32} {μ' : Mm} (hf : f_X11_isLean μ0 x1 = some (r, μ')) : EvM l G D_X11_isLean yX11_isLean cX11_isLean 1 (some .boolean) [.int x1] μ0 (some (.int r)) μ' := by
  show Ev l G D_X11_isLean yX11_isLean cX11_isLean 1 (some .boolean) 0 [(0, .int x1)] [] μ0 (some (.int r)) μ'
  unfold f_X11_isLean at hf
  refine E_iload_n (pc := 0) dX11_isLean_0 rfl ?_
  refine E_if_lt (pc := 1) (tgt := 13) dX11_isLean_1 (by decide) hf (fun hf => ?_) (fun hf => ?_)
  · refine E_iconst (pc := 13) (v := (0 : Int32)) dX11_isLean_13 (by decide) ?_
    exact E_zret (pc := 14) dX11_isLean_14 rfl hf
  · refine E_iload_n (pc := 4) dX11_isLean_4 rfl ?_
    refine E_iconst (pc := 5) (v := (5 : Int32)) dX11_isLean_5 (by decide) ?_
    refine E_icmp_ge (pc := 6) (tgt := 13) dX11_isLean_6 (by decide) hf (fun hf => ?_) (fun hf => ?_)
    · refine E_iconst (pc := 13) (v := (0 : Int32)) dX11_isLean_13 (by decide) ?_
      exact E_zret (pc := 14) dX11_isLean_14 rfl hf
    · refine E_iconst (pc := 9) (v := (1 : Int32)) dX11_isLean_9 (by decide) ?_
      refine E_goto (pc := 10) (tgt := 14) dX11_isLean_10 (by decide) ?_
      exact E_zret (pc := 14) dX11_isLean_14 rfl hf
theorem dX11_law_0 : decode cX11_law 0 = .ok (.aload_n 0, 1) := by decide +kernel
theorem dX11_law_1 : decode cX11_law 1 = .ok (.getfield 58, 3) := by decide +kernel
theorem dX11_law_4 : decode cX11_law 4 = .ok (.getfield 131, 3) := by decide +kernel
theorem dX11_law_7 : decode cX11_law 7 = .ok (.istore_n 1, 1) := by decide +kernel
theorem dX11_law_8 : decode cX11_law 8 = .ok (.iload_n 1, 1) := by decide +kernel
theorem dX11_law_9 : decode cX11_law 9 = .ok (.ifCond .lt 20, 3) := by decide +kernel
theorem dX11_law_12 : decode cX11_law 12 = .ok (.iload_n 1, 1) := by decide +kernel
theorem dX11_law_13 : decode cX11_law 13 = .ok (.aload_n 0, 1) := by decide +kernel
theorem dX11_law_14 : decode cX11_law 14 = .ok (.getfield 45, 3) := by decide +kernel
theorem dX11_law_17 : decode cX11_law 17 = .ok (.if_icmp .ge 12, 3) := by decide +kernel
theorem dX11_law_20 : decode cX11_law 20 = .ok (.aload_n 0, 1) := by decide +kernel
theorem dX11_law_21 : decode cX11_law 21 = .ok (.getfield 41, 3) := by decide +kernel
theorem dX11_law_24 : decode cX11_law 24 = .ok (.iload_n 1, 1) := by decide +kernel
theorem dX11_law_25 : decode cX11_law 25 = .ok (.aaload, 1) := by decide +kernel
theorem dX11_law_26 : decode cX11_law 26 = .ok (.ifnonnull 8, 3) := by decide +kernel
theorem dX11_law_29 : decode cX11_law 29 = .ok (.aload_n 0, 1) := by decide +kernel
theorem dX11_law_30 : decode cX11_law 30 = .ok (.getfield 37, 3) := by decide +kernel
theorem dX11_law_33 : decode cX11_law 33 = .ok (.areturn, 1) := by decide +kernel
theorem dX11_law_34 : decode cX11_law 34 = .ok (.aload_n 0, 1) := by decide +kernel
theorem dX11_law_35 : decode cX11_law 35 = .ok (.getfield 41, 3) := by decide +kernel
theorem dX11_law_38 : decode cX11_law 38 = .ok (.iload_n 1, 1) := by decide +kernel
theorem dX11_law_39 : decode cX11_law 39 = .ok (.aaload, 1) := by decide +kernel
theorem dX11_law_40 : decode cX11_law 40 = .ok (.areturn, 1) := by decide +kernel
abbrev D_X11_law : Nat := 1
set_option maxRecDepth 100000 in
def f_X11_law (μ0 : Mm) (a1 : Nat) : Option (Nat × Mm) :=
 ((gR μ0 a1 11 6).bind fun v2 =>
    ((gI μ0 v2 7 1).bind fun v3 =>
    (nm v3 fun x4 =>
    (if x4 < 0 then
    ((gR μ0 a1 11 3).bind fun v5 =>
    (some (v5, μ0)))
    else
    ((gI μ0 a1 11 5).bind fun v6 =>
    (if v6 ≤ x4 then
    ((gR μ0 a1 11 3).bind fun v7 =>
    (some (v7, μ0)))
    else
    ((gR μ0 a1 11 4).bind fun v8 =>
    ((aR μ0 v8 4 x4).bind fun o9 =>
    (if o9 = none then
    ((gR μ0 a1 11 3).bind fun v13 =>
    (some (v13, μ0)))
    else
    ((gR μ0 a1 11 4).bind fun v10 =>
    ((aR μ0 v10 4 x4).bind fun o11 =>
    ((o11).bind fun a12 =>
    (some (a12, μ0))))))))))))))
set_option maxHeartbeats 4000000 in
set_option maxRecDepth 100000 in
theorem f_X11_law_ok {l : Launch} {G : GG} {μ0 : Mm} {a1 : Nat} {r : Nat} {μ' : Mm} (hf : f_X11_law μ0 a1 = some (r, μ')) : EvM l G D_X11_law yX11_law cX11_law 2 (some (.object "FallSchool$Rule")) [.ref a1] μ0 (some (.ref r)) μ' := by
  show Ev l G D_X11_law yX11_law cX11_law 2 (some (.object "FallSchool$Rule")) 0 [(0, .ref a1)] [] μ0 (some (.ref r)) μ'
  unfold f_X11_law at hf
  refine E_aload_n (pc := 0) dX11_law_0 rfl ?_
  refine E_getR (pc := 1) dX11_law_1 fl_X11_58 hf (fun v2 hf => ?_)
  refine E_getI (pc := 4) dX11_law_4 fl_X11_131 hf (fun v3 hf => ?_)
  refine E_istore_n (pc := 7) (ls' := fun x4 => [(1, .int x4), (0, .ref a1)]) dX11_law_7 (by decide) (fun _ => rfl) hf (fun x4 hf => ?_)
  refine E_iload_n (pc := 8) dX11_law_8 rfl ?_
  refine E_if_lt (pc := 9) (tgt := 29) dX11_law_9 (by decide) hf (fun hf => ?_) (fun hf => ?_)
  · refine E_aload_n (pc := 29) dX11_law_29 rfl ?_
    refine E_getR (pc := 30) dX11_law_30 fl_X11_37 hf (fun v5 hf => ?_)
    exact E_aret (pc := 33) dX11_law_33 rfl (Or.inl ⟨_, rfl⟩) hf
  · refine E_iload_n (pc := 12) dX11_law_12 rfl ?_
    refine E_aload_n (pc := 13) dX11_law_13 rfl ?_
    refine E_getI (pc := 14) dX11_law_14 fl_X11_45 hf (fun v6 hf => ?_)
    refine E_icmp_ge (pc := 17) (tgt := 29) dX11_law_17 (by decide) hf (fun hf => ?_) (fun hf => ?_)
    · refine E_aload_n (pc := 29) dX11_law_29 rfl ?_
      refine E_getR (pc := 30) dX11_law_30 fl_X11_37 hf (fun v7 hf => ?_)
      exact E_aret (pc := 33) dX11_law_33 rfl (Or.inl ⟨_, rfl⟩) hf
    · refine E_aload_n (pc := 20) dX11_law_20 rfl ?_
      refine E_getR (pc := 21) dX11_law_21 fl_X11_41 hf (fun v8 hf => ?_)
      refine E_iload_n (pc := 24) dX11_law_24 rfl ?_
      refine E_aald (pc := 25) dX11_law_25 (by decide) hf (fun o9 hf => ?_)
      refine E_ifnn (pc := 26) (tgt := 34) dX11_law_26 (by decide) hf (fun hf => ?_) (fun hf => ?_)
      · refine E_aload_n (pc := 29) dX11_law_29 rfl ?_
        refine E_getR (pc := 30) dX11_law_30 fl_X11_37 hf (fun v13 hf => ?_)
        exact E_aret (pc := 33) dX11_law_33 rfl (Or.inl ⟨_, rfl⟩) hf
      · refine E_aload_n (pc := 34) dX11_law_34 rfl ?_
        refine E_getR (pc := 35) dX11_law_35 fl_X11_41 hf (fun v10 hf => ?_)
        refine E_iload_n (pc := 38) dX11_law_38 rfl ?_
        refine E_aald (pc := 39) dX11_law_39 (by decide) hf (fun o11 hf => ?_)
        refine E_unq hf (fun a12 hf => ?_)
        exact E_aret (pc := 40) dX11_law_40 rfl (Or.inl ⟨_, rfl⟩) hf
theorem dX11_tryFall_0 : decode cX11_tryFall 0 = .ok (.aload_n 0, 1) := by decide +kernel
theorem dX11_tryFall_1 : decode cX11_tryFall 1 = .ok (.getfield 74, 3) := by decide +kernel
theorem dX11_tryFall_4 : decode cX11_tryFall 4 = .ok (.aload_n 0, 1) := by decide +kernel
theorem dX11_tryFall_5 : decode cX11_tryFall 5 = .ok (.getfield 58, 3) := by decide +kernel
theorem dX11_tryFall_8 : decode cX11_tryFall 8 = .ok (.aload_n 0, 1) := by decide +kernel
theorem dX11_tryFall_9 : decode cX11_tryFall 9 = .ok (.invokevirtual 237, 3) := by decide +kernel
theorem dX11_tryFall_12 : decode cX11_tryFall 12 = .ok (.iload_n 1, 1) := by decide +kernel
theorem dX11_tryFall_13 : decode cX11_tryFall 13 = .ok (.invokevirtual 366, 3) := by decide +kernel
theorem dX11_tryFall_16 : decode cX11_tryFall 16 = .ok (.aload_n 0, 1) := by decide +kernel
theorem dX11_tryFall_17 : decode cX11_tryFall 17 = .ok (.getfield 74, 3) := by decide +kernel
theorem dX11_tryFall_20 : decode cX11_tryFall 20 = .ok (.iload_n 2, 1) := by decide +kernel
theorem dX11_tryFall_21 : decode cX11_tryFall 21 = .ok (.invokevirtual 369, 3) := by decide +kernel
theorem dX11_tryFall_24 : decode cX11_tryFall 24 = .ok (.return_, 1) := by decide +kernel
abbrev D_X11_tryFall : Nat := 7
set_option maxRecDepth 100000 in
def f_X11_tryFall (μ0 : Mm) (a1 : Nat) (x2 : Int32) (x3 : Int32) : Option Mm :=
 ((gR μ0 a1 11 9).bind fun v4 =>
    ((gR μ0 a1 11 6).bind fun v5 =>
    ((ob μ0 a1 11).bind fun _ =>
    (bd (f_X11_law μ0 a1) fun v7 μ6 =>
    ((ob μ6 v4 0).bind fun _ =>
    ((f_X0_begin μ6 v4 v5 v7 x2).bind fun μ8 =>
    ((gR μ8 a1 11 9).bind fun v9 =>
    ((ob μ8 v9 0).bind fun _ =>
    ((f_X0_run μ8 v9 x3).bind fun μ10 =>
    (some μ10))))))))))
set_option maxHeartbeats 4000000 in
set_option maxRecDepth 100000 in
theorem f_X11_tryFall_ok {l : Launch} {G : GG} {μ0 : Mm} {a1 : Nat} {x2 : Int32} {x3 : Int32} {μ' : Mm} (hf : f_X11_tryFall μ0 a1 x2 x3 = some μ') : EvM l G D_X11_tryFall yX11_tryFall cX11_tryFall 3 none [.ref a1, .int x2, .int x3] μ0 none μ' := by
  show Ev l G D_X11_tryFall yX11_tryFall cX11_tryFall 3 none 0 [(0, .ref a1), (1, .int x2), (2, .int x3)] [] μ0 none μ'
  unfold f_X11_tryFall at hf
  refine E_aload_n (pc := 0) dX11_tryFall_0 rfl ?_
  refine E_getR (pc := 1) dX11_tryFall_1 fl_X11_74 hf (fun v4 hf => ?_)
  refine E_aload_n (pc := 4) dX11_tryFall_4 rfl ?_
  refine E_getR (pc := 5) dX11_tryFall_5 fl_X11_58 hf (fun v5 hf => ?_)
  refine E_aload_n (pc := 8) dX11_tryFall_8 rfl ?_
  refine E_Vr (pc := 9) (d2 := D_X11_law) (ci := 11) [] dX11_tryFall_9 ml_X11_237 mf_X11_law im_X11_law rfl rfl rfl (by decide) (Nat.le_of_ble_eq_true rfl) (Nat.le_of_ble_eq_true rfl) rfl (fun _ _ h => f_X11_law_ok h) hf (fun v7 μ6 hf => ?_)
  refine E_iload_n (pc := 12) dX11_tryFall_12 rfl ?_
  refine E_Vv (pc := 13) (d2 := D_X0_begin) (ci := 0) [.ref v5, .ref v7, .int x2] dX11_tryFall_13 ml_X11_366 mf_X0_begin im_X0_begin rfl rfl rfl (by decide) (Nat.le_of_ble_eq_true rfl) (Nat.le_of_ble_eq_true rfl) rfl (fun _ h => f_X0_begin_ok h) hf (fun μ8 hf => ?_)
  refine E_aload_n (pc := 16) dX11_tryFall_16 rfl ?_
  refine E_getR (pc := 17) dX11_tryFall_17 fl_X11_74 hf (fun v9 hf => ?_)
  refine E_iload_n (pc := 20) dX11_tryFall_20 rfl ?_
  refine E_Vv (pc := 21) (d2 := D_X0_run) (ci := 0) [.int x3] dX11_tryFall_21 ml_X11_369 mf_X0_run im_X0_run rfl rfl rfl (by decide) (Nat.le_of_ble_eq_true rfl) (Nat.le_of_ble_eq_true rfl) rfl (fun _ h => f_X0_run_ok h) hf (fun μ10 hf => ?_)
  exact E_vret (pc := 24) dX11_tryFall_24 rfl hf
theorem dX11_fall_0 : decode cX11_fall 0 = .ok (.aload_n 0, 1) := by decide +kernel
theorem dX11_fall_1 : decode cX11_fall 1 = .ok (.iload_n 1, 1) := by decide +kernel
theorem dX11_fall_2 : decode cX11_fall 2 = .ok (.invokevirtual 160, 3) := by decide +kernel
theorem dX11_fall_5 : decode cX11_fall 5 = .ok (.ifCond .eq 10, 3) := by decide +kernel
theorem dX11_fall_8 : decode cX11_fall 8 = .ok (.iload_n 2, 1) := by decide +kernel
theorem dX11_fall_9 : decode cX11_fall 9 = .ok (.invokestatic 187, 3) := by decide +kernel
theorem dX11_fall_12 : decode cX11_fall 12 = .ok (.ifCond .ne 5, 3) := by decide +kernel
theorem dX11_fall_15 : decode cX11_fall 15 = .ok (.iconst (-1), 1) := by decide +kernel
theorem dX11_fall_16 : decode cX11_fall 16 = .ok (.ireturn, 1) := by decide +kernel
theorem dX11_fall_17 : decode cX11_fall 17 = .ok (.aload_n 0, 1) := by decide +kernel
theorem dX11_fall_18 : decode cX11_fall 18 = .ok (.iload_n 1, 1) := by decide +kernel
theorem dX11_fall_19 : decode cX11_fall 19 = .ok (.iload_n 2, 1) := by decide +kernel
theorem dX11_fall_20 : decode cX11_fall 20 = .ok (.invokevirtual 190, 3) := by decide +kernel
theorem dX11_fall_23 : decode cX11_fall 23 = .ok (.aload_n 0, 1) := by decide +kernel
theorem dX11_fall_24 : decode cX11_fall 24 = .ok (.getfield 58, 3) := by decide +kernel
theorem dX11_fall_27 : decode cX11_fall 27 = .ok (.iload_n 1, 1) := by decide +kernel
theorem dX11_fall_28 : decode cX11_fall 28 = .ok (.aload_n 0, 1) := by decide +kernel
theorem dX11_fall_29 : decode cX11_fall 29 = .ok (.getfield 58, 3) := by decide +kernel
theorem dX11_fall_32 : decode cX11_fall 32 = .ok (.getfield 163, 3) := by decide +kernel
theorem dX11_fall_35 : decode cX11_fall 35 = .ok (.iload_n 1, 1) := by decide +kernel
theorem dX11_fall_36 : decode cX11_fall 36 = .ok (.iaload, 1) := by decide +kernel
theorem dX11_fall_37 : decode cX11_fall 37 = .ok (.invokevirtual 194, 3) := by decide +kernel
theorem dX11_fall_40 : decode cX11_fall 40 = .ok (.aload_n 0, 1) := by decide +kernel
theorem dX11_fall_41 : decode cX11_fall 41 = .ok (.getfield 58, 3) := by decide +kernel
theorem dX11_fall_44 : decode cX11_fall 44 = .ok (.getfield 163, 3) := by decide +kernel
theorem dX11_fall_47 : decode cX11_fall 47 = .ok (.iload_n 1, 1) := by decide +kernel
theorem dX11_fall_48 : decode cX11_fall 48 = .ok (.aload_n 0, 1) := by decide +kernel
theorem dX11_fall_49 : decode cX11_fall 49 = .ok (.getfield 74, 3) := by decide +kernel
theorem dX11_fall_52 : decode cX11_fall 52 = .ok (.getfield 197, 3) := by decide +kernel
theorem dX11_fall_55 : decode cX11_fall 55 = .ok (.iastore, 1) := by decide +kernel
theorem dX11_fall_56 : decode cX11_fall 56 = .ok (.aload_n 0, 1) := by decide +kernel
theorem dX11_fall_57 : decode cX11_fall 57 = .ok (.getfield 58, 3) := by decide +kernel
theorem dX11_fall_60 : decode cX11_fall 60 = .ok (.dup, 1) := by decide +kernel
theorem dX11_fall_61 : decode cX11_fall 61 = .ok (.getfield 200, 3) := by decide +kernel
theorem dX11_fall_64 : decode cX11_fall 64 = .ok (.aload_n 0, 1) := by decide +kernel
theorem dX11_fall_65 : decode cX11_fall 65 = .ok (.getfield 74, 3) := by decide +kernel
theorem dX11_fall_68 : decode cX11_fall 68 = .ok (.getfield 203, 3) := by decide +kernel
theorem dX11_fall_71 : decode cX11_fall 71 = .ok (.ior, 1) := by decide +kernel
theorem dX11_fall_72 : decode cX11_fall 72 = .ok (.putfield 200, 3) := by decide +kernel
theorem dX11_fall_75 : decode cX11_fall 75 = .ok (.aload_n 0, 1) := by decide +kernel
theorem dX11_fall_76 : decode cX11_fall 76 = .ok (.getfield 74, 3) := by decide +kernel
theorem dX11_fall_79 : decode cX11_fall 79 = .ok (.invokevirtual 206, 3) := by decide +kernel
theorem dX11_fall_82 : decode cX11_fall 82 = .ok (.ireturn, 1) := by decide +kernel
abbrev D_X11_fall : Nat := 8
set_option maxRecDepth 100000 in
def f_X11_fall (μ0 : Mm) (a1 : Nat) (x2 : Int32) (x3 : Int32) : Option (Int32 × Mm) :=
 ((ob μ0 a1 11).bind fun _ =>
    (bd (f_X11_isPerson μ0 a1 x2) fun v5 μ4 =>
    (if v5 = 0 then
    (some ((-1 : Int32), μ4))
    else
    (bd (f_X11_isLean μ4 x3) fun v7 μ6 =>
    (if v7 = 0 then
    (some ((-1 : Int32), μ6))
    else
    ((ob μ6 a1 11).bind fun _ =>
    ((f_X11_tryFall μ6 a1 x2 x3).bind fun μ8 =>
    ((gR μ8 a1 11 6).bind fun v9 =>
    ((gR μ8 a1 11 6).bind fun v10 =>
    ((gR μ8 v10 7 4).bind fun v11 =>
    ((aI μ8 v11 0 x2).bind fun v12 =>
    ((ob μ8 v9 7).bind fun _ =>
    ((f_X7_remember μ8 v9 x2 v12).bind fun μ13 =>
    ((gR μ13 a1 11 6).bind fun v14 =>
    ((gR μ13 v14 7 4).bind fun v15 =>
    ((gR μ13 a1 11 9).bind fun v16 =>
    ((gI μ13 v16 0 5).bind fun v17 =>
    ((sI μ13 v15 0 x2 v17).bind fun μ18 =>
    ((gR μ18 a1 11 6).bind fun v19 =>
    ((gI μ18 v19 7 3).bind fun v20 =>
    ((gR μ18 a1 11 9).bind fun v21 =>
    ((gI μ18 v21 0 8).bind fun v22 =>
    ((pV μ18 v19 7 3 (.int (v20 ||| v22))).bind fun μ23 =>
    ((gR μ23 a1 11 9).bind fun v24 =>
    ((ob μ23 v24 0).bind fun _ =>
    (bd (f_X0_mark μ23 v24) fun v26 μ25 =>
    (some (v26, μ25))))))))))))))))))))))))))))
set_option maxHeartbeats 4000000 in
set_option maxRecDepth 100000 in
theorem f_X11_fall_ok {l : Launch} {G : GG} {μ0 : Mm} {a1 : Nat} {x2 : Int32} {x3 : Int32} {r : Int32} {μ' : Mm} (hf : f_X11_fall μ0 a1 x2 x3 = some (r, μ')) : EvM l G D_X11_fall yX11_fall cX11_fall 3 (some .int) [.ref a1, .int x2, .int x3] μ0 (some (.int r)) μ' := by
  show Ev l G D_X11_fall yX11_fall cX11_fall 3 (some .int) 0 [(0, .ref a1), (1, .int x2), (2, .int x3)] [] μ0 (some (.int r)) μ'
  unfold f_X11_fall at hf
  refine E_aload_n (pc := 0) dX11_fall_0 rfl ?_
  refine E_iload_n (pc := 1) dX11_fall_1 rfl ?_
  refine E_Vi (pc := 2) (d2 := D_X11_isPerson) (ci := 11) [.int x2] dX11_fall_2 ml_X11_160 mf_X11_isPerson im_X11_isPerson rfl rfl rfl (by decide) (Nat.le_of_ble_eq_true rfl) (Nat.le_of_ble_eq_true rfl) rfl (fun _ _ h => f_X11_isPerson_ok h) hf (fun v5 μ4 hf => ?_)
  refine E_if_eq (pc := 5) (tgt := 15) dX11_fall_5 (by decide) hf (fun hf => ?_) (fun hf => ?_)
  · refine E_iconst (pc := 15) (v := (-1 : Int32)) dX11_fall_15 (by decide) ?_
    exact E_iret (pc := 16) dX11_fall_16 rfl hf
  · refine E_iload_n (pc := 8) dX11_fall_8 rfl ?_
    refine E_Si (pc := 9) (d2 := D_X11_isLean) [.int x3] dX11_fall_9 ml_X11_187 mf_X11_isLean st_X11_isLean rfl (by decide) (Nat.le_of_ble_eq_true rfl) (Nat.le_of_ble_eq_true rfl) rfl (fun _ _ h => f_X11_isLean_ok h) hf (fun v7 μ6 hf => ?_)
    refine E_if_ne (pc := 12) (tgt := 17) dX11_fall_12 (by decide) hf (fun hf => ?_) (fun hf => ?_)
    · refine E_iconst (pc := 15) (v := (-1 : Int32)) dX11_fall_15 (by decide) ?_
      exact E_iret (pc := 16) dX11_fall_16 rfl hf
    · refine E_aload_n (pc := 17) dX11_fall_17 rfl ?_
      refine E_iload_n (pc := 18) dX11_fall_18 rfl ?_
      refine E_iload_n (pc := 19) dX11_fall_19 rfl ?_
      refine E_Vv (pc := 20) (d2 := D_X11_tryFall) (ci := 11) [.int x2, .int x3] dX11_fall_20 ml_X11_190 mf_X11_tryFall im_X11_tryFall rfl rfl rfl (by decide) (Nat.le_of_ble_eq_true rfl) (Nat.le_of_ble_eq_true rfl) rfl (fun _ h => f_X11_tryFall_ok h) hf (fun μ8 hf => ?_)
      refine E_aload_n (pc := 23) dX11_fall_23 rfl ?_
      refine E_getR (pc := 24) dX11_fall_24 fl_X11_58 hf (fun v9 hf => ?_)
      refine E_iload_n (pc := 27) dX11_fall_27 rfl ?_
      refine E_aload_n (pc := 28) dX11_fall_28 rfl ?_
      refine E_getR (pc := 29) dX11_fall_29 fl_X11_58 hf (fun v10 hf => ?_)
      refine E_getR (pc := 32) dX11_fall_32 fl_X11_163 hf (fun v11 hf => ?_)
      refine E_iload_n (pc := 35) dX11_fall_35 rfl ?_
      refine E_iald (pc := 36) dX11_fall_36 hf (fun v12 hf => ?_)
      refine E_Vv (pc := 37) (d2 := D_X7_remember) (ci := 7) [.int x2, .int v12] dX11_fall_37 ml_X11_194 mf_X7_remember im_X7_remember rfl rfl rfl (by decide) (Nat.le_of_ble_eq_true rfl) (Nat.le_of_ble_eq_true rfl) rfl (fun _ h => f_X7_remember_ok h) hf (fun μ13 hf => ?_)
      refine E_aload_n (pc := 40) dX11_fall_40 rfl ?_
      refine E_getR (pc := 41) dX11_fall_41 fl_X11_58 hf (fun v14 hf => ?_)
      refine E_getR (pc := 44) dX11_fall_44 fl_X11_163 hf (fun v15 hf => ?_)
      refine E_iload_n (pc := 47) dX11_fall_47 rfl ?_
      refine E_aload_n (pc := 48) dX11_fall_48 rfl ?_
      refine E_getR (pc := 49) dX11_fall_49 fl_X11_74 hf (fun v16 hf => ?_)
      refine E_getI (pc := 52) dX11_fall_52 fl_X11_197 hf (fun v17 hf => ?_)
      refine E_iast (pc := 55) dX11_fall_55 hf (fun μ18 hf => ?_)
      refine E_aload_n (pc := 56) dX11_fall_56 rfl ?_
      refine E_getR (pc := 57) dX11_fall_57 fl_X11_58 hf (fun v19 hf => ?_)
      refine E_dup (pc := 60) dX11_fall_60 rfl ?_
      refine E_getI (pc := 61) dX11_fall_61 fl_X11_200 hf (fun v20 hf => ?_)
      refine E_aload_n (pc := 64) dX11_fall_64 rfl ?_
      refine E_getR (pc := 65) dX11_fall_65 fl_X11_74 hf (fun v21 hf => ?_)
      refine E_getI (pc := 68) dX11_fall_68 fl_X11_203 hf (fun v22 hf => ?_)
      refine E_ior (pc := 71) dX11_fall_71 ?_
      refine E_putI (pc := 72) dX11_fall_72 (pl_X11_200 _) hf (fun μ23 hf => ?_)
      refine E_aload_n (pc := 75) dX11_fall_75 rfl ?_
      refine E_getR (pc := 76) dX11_fall_76 fl_X11_74 hf (fun v24 hf => ?_)
      refine E_Vi (pc := 79) (d2 := D_X0_mark) (ci := 0) [] dX11_fall_79 ml_X11_206 mf_X0_mark im_X0_mark rfl rfl rfl (by decide) (Nat.le_of_ble_eq_true rfl) (Nat.le_of_ble_eq_true rfl) rfl (fun _ _ h => f_X0_mark_ok h) hf (fun v26 μ25 hf => ?_)
      exact E_iret (pc := 82) dX11_fall_82 rfl hf
theorem dX11_isSide_0 : decode cX11_isSide 0 = .ok (.iload_n 0, 1) := by decide +kernel
theorem dX11_isSide_1 : decode cX11_isSide 1 = .ok (.ifCond .lt 12, 3) := by decide +kernel
theorem dX11_isSide_4 : decode cX11_isSide 4 = .ok (.iload_n 0, 1) := by decide +kernel
theorem dX11_isSide_5 : decode cX11_isSide 5 = .ok (.iconst 4, 1) := by decide +kernel
theorem dX11_isSide_6 : decode cX11_isSide 6 = .ok (.if_icmp .ge 7, 3) := by decide +kernel
theorem dX11_isSide_9 : decode cX11_isSide 9 = .ok (.iconst 1, 1) := by decide +kernel
theorem dX11_isSide_10 : decode cX11_isSide 10 = .ok (.goto 4, 3) := by decide +kernel
theorem dX11_isSide_13 : decode cX11_isSide 13 = .ok (.iconst 0, 1) := by decide +kernel
theorem dX11_isSide_14 : decode cX11_isSide 14 = .ok (.ireturn, 1) := by decide +kernel
abbrev D_X11_isSide : Nat := 1
set_option maxRecDepth 100000 in
def f_X11_isSide (μ0 : Mm) (x1 : Int32) : Option (Int32 × Mm) :=
 (if x1 < 0 then
    (if (0 : Int32) = 0 ∨ (0 : Int32) = 1 then some ((0 : Int32), μ0) else none)
    else
    (if (4 : Int32) ≤ x1 then
    (if (0 : Int32) = 0 ∨ (0 : Int32) = 1 then some ((0 : Int32), μ0) else none)
    else
    (if (1 : Int32) = 0 ∨ (1 : Int32) = 1 then some ((1 : Int32), μ0) else none)))
set_option maxHeartbeats 4000000 in
set_option maxRecDepth 100000 in
theorem f_X11_isSide_ok {l : Launch} {G : GG} {μ0 : Mm} {x1 : Int32} {r : Int32} {μ' : Mm} (hf : f_X11_isSide μ0 x1 = some (r, μ')) : EvM l G D_X11_isSide yX11_isSide cX11_isSide 1 (some .boolean) [.int x1] μ0 (some (.int r)) μ' := by
  show Ev l G D_X11_isSide yX11_isSide cX11_isSide 1 (some .boolean) 0 [(0, .int x1)] [] μ0 (some (.int r)) μ'
  unfold f_X11_isSide at hf
  refine E_iload_n (pc := 0) dX11_isSide_0 rfl ?_
  refine E_if_lt (pc := 1) (tgt := 13) dX11_isSide_1 (by decide) hf (fun hf => ?_) (fun hf => ?_)
  · refine E_iconst (pc := 13) (v := (0 : Int32)) dX11_isSide_13 (by decide) ?_
    exact E_zret (pc := 14) dX11_isSide_14 rfl hf
  · refine E_iload_n (pc := 4) dX11_isSide_4 rfl ?_
    refine E_iconst (pc := 5) (v := (4 : Int32)) dX11_isSide_5 (by decide) ?_
    refine E_icmp_ge (pc := 6) (tgt := 13) dX11_isSide_6 (by decide) hf (fun hf => ?_) (fun hf => ?_)
    · refine E_iconst (pc := 13) (v := (0 : Int32)) dX11_isSide_13 (by decide) ?_
      exact E_zret (pc := 14) dX11_isSide_14 rfl hf
    · refine E_iconst (pc := 9) (v := (1 : Int32)) dX11_isSide_9 (by decide) ?_
      refine E_goto (pc := 10) (tgt := 14) dX11_isSide_10 (by decide) ?_
      exact E_zret (pc := 14) dX11_isSide_14 rfl hf
theorem dX11_walk_0 : decode cX11_walk 0 = .ok (.aload_n 0, 1) := by decide +kernel
theorem dX11_walk_1 : decode cX11_walk 1 = .ok (.iload_n 1, 1) := by decide +kernel
theorem dX11_walk_2 : decode cX11_walk 2 = .ok (.invokevirtual 160, 3) := by decide +kernel
theorem dX11_walk_5 : decode cX11_walk 5 = .ok (.ifCond .eq 10, 3) := by decide +kernel
theorem dX11_walk_8 : decode cX11_walk 8 = .ok (.iload_n 2, 1) := by decide +kernel
theorem dX11_walk_9 : decode cX11_walk 9 = .ok (.invokestatic 210, 3) := by decide +kernel
theorem dX11_walk_12 : decode cX11_walk 12 = .ok (.ifCond .ne 5, 3) := by decide +kernel
theorem dX11_walk_15 : decode cX11_walk 15 = .ok (.iconst (-1), 1) := by decide +kernel
theorem dX11_walk_16 : decode cX11_walk 16 = .ok (.ireturn, 1) := by decide +kernel
theorem dX11_walk_17 : decode cX11_walk 17 = .ok (.aload_n 0, 1) := by decide +kernel
theorem dX11_walk_18 : decode cX11_walk 18 = .ok (.getfield 58, 3) := by decide +kernel
theorem dX11_walk_21 : decode cX11_walk 21 = .ok (.getfield 163, 3) := by decide +kernel
theorem dX11_walk_24 : decode cX11_walk 24 = .ok (.iload_n 1, 1) := by decide +kernel
theorem dX11_walk_25 : decode cX11_walk 25 = .ok (.iaload, 1) := by decide +kernel
theorem dX11_walk_26 : decode cX11_walk 26 = .ok (.istore_n 3, 1) := by decide +kernel
theorem dX11_walk_27 : decode cX11_walk 27 = .ok (.aload_n 0, 1) := by decide +kernel
theorem dX11_walk_28 : decode cX11_walk 28 = .ok (.getfield 58, 3) := by decide +kernel
theorem dX11_walk_31 : decode cX11_walk 31 = .ok (.getfield 122, 3) := by decide +kernel
theorem dX11_walk_34 : decode cX11_walk 34 = .ok (.iload_n 3, 1) := by decide +kernel
theorem dX11_walk_35 : decode cX11_walk 35 = .ok (.iload_n 2, 1) := by decide +kernel
theorem dX11_walk_36 : decode cX11_walk 36 = .ok (.invokevirtual 213, 3) := by decide +kernel
theorem dX11_walk_39 : decode cX11_walk 39 = .ok (.istore 4, 2) := by decide +kernel
theorem dX11_walk_41 : decode cX11_walk 41 = .ok (.iload 4, 2) := by decide +kernel
theorem dX11_walk_43 : decode cX11_walk 43 = .ok (.iconst (-1), 1) := by decide +kernel
theorem dX11_walk_44 : decode cX11_walk 44 = .ok (.if_icmp .eq 23, 3) := by decide +kernel
theorem dX11_walk_47 : decode cX11_walk 47 = .ok (.aload_n 0, 1) := by decide +kernel
theorem dX11_walk_48 : decode cX11_walk 48 = .ok (.getfield 58, 3) := by decide +kernel
theorem dX11_walk_51 : decode cX11_walk 51 = .ok (.getfield 122, 3) := by decide +kernel
theorem dX11_walk_54 : decode cX11_walk 54 = .ok (.iload_n 3, 1) := by decide +kernel
theorem dX11_walk_55 : decode cX11_walk 55 = .ok (.iload 4, 2) := by decide +kernel
theorem dX11_walk_57 : decode cX11_walk 57 = .ok (.invokevirtual 217, 3) := by decide +kernel
theorem dX11_walk_60 : decode cX11_walk 60 = .ok (.invokestatic 220, 3) := by decide +kernel
theorem dX11_walk_63 : decode cX11_walk 63 = .ok (.iconst 1, 1) := by decide +kernel
theorem dX11_walk_64 : decode cX11_walk 64 = .ok (.if_icmp .le 5, 3) := by decide +kernel
theorem dX11_walk_67 : decode cX11_walk 67 = .ok (.iconst (-1), 1) := by decide +kernel
theorem dX11_walk_68 : decode cX11_walk 68 = .ok (.ireturn, 1) := by decide +kernel
theorem dX11_walk_69 : decode cX11_walk 69 = .ok (.aload_n 0, 1) := by decide +kernel
theorem dX11_walk_70 : decode cX11_walk 70 = .ok (.getfield 58, 3) := by decide +kernel
theorem dX11_walk_73 : decode cX11_walk 73 = .ok (.iload_n 1, 1) := by decide +kernel
theorem dX11_walk_74 : decode cX11_walk 74 = .ok (.iload_n 3, 1) := by decide +kernel
theorem dX11_walk_75 : decode cX11_walk 75 = .ok (.invokevirtual 194, 3) := by decide +kernel
theorem dX11_walk_78 : decode cX11_walk 78 = .ok (.aload_n 0, 1) := by decide +kernel
theorem dX11_walk_79 : decode cX11_walk 79 = .ok (.getfield 58, 3) := by decide +kernel
theorem dX11_walk_82 : decode cX11_walk 82 = .ok (.getfield 163, 3) := by decide +kernel
theorem dX11_walk_85 : decode cX11_walk 85 = .ok (.iload_n 1, 1) := by decide +kernel
theorem dX11_walk_86 : decode cX11_walk 86 = .ok (.iload 4, 2) := by decide +kernel
theorem dX11_walk_88 : decode cX11_walk 88 = .ok (.iastore, 1) := by decide +kernel
theorem dX11_walk_89 : decode cX11_walk 89 = .ok (.iload 4, 2) := by decide +kernel
theorem dX11_walk_91 : decode cX11_walk 91 = .ok (.ireturn, 1) := by decide +kernel
abbrev D_X11_walk : Nat := 2
set_option maxRecDepth 100000 in
def f_X11_walk (μ0 : Mm) (a1 : Nat) (x2 : Int32) (x3 : Int32) : Option (Int32 × Mm) :=
 ((ob μ0 a1 11).bind fun _ =>
    (bd (f_X11_isPerson μ0 a1 x2) fun v5 μ4 =>
    (if v5 = 0 then
    (some ((-1 : Int32), μ4))
    else
    (bd (f_X11_isSide μ4 x3) fun v7 μ6 =>
    (if v7 = 0 then
    (some ((-1 : Int32), μ6))
    else
    ((gR μ6 a1 11 6).bind fun v8 =>
    ((gR μ6 v8 7 4).bind fun v9 =>
    ((aI μ6 v9 0 x2).bind fun v10 =>
    (nm v10 fun x11 =>
    ((gR μ6 a1 11 6).bind fun v12 =>
    ((gR μ6 v12 7 0).bind fun v13 =>
    ((ob μ6 v13 1).bind fun _ =>
    (bd (f_X1_beside μ6 v13 x11 x3) fun v15 μ14 =>
    (nm v15 fun x16 =>
    (if x16 = (-1 : Int32) then
    (some ((-1 : Int32), μ14))
    else
    ((gR μ14 a1 11 6).bind fun v17 =>
    ((gR μ14 v17 7 0).bind fun v18 =>
    ((ob μ14 v18 1).bind fun _ =>
    (bd (f_X1_dropTo μ14 v18 x11 x16) fun v20 μ19 =>
    (if (if 0 ≤ v20 then v20 else 0 - v20) ≤ (1 : Int32) then
    ((gR μ19 a1 11 6).bind fun v21 =>
    ((ob μ19 v21 7).bind fun _ =>
    ((f_X7_remember μ19 v21 x2 x11).bind fun μ22 =>
    ((gR μ22 a1 11 6).bind fun v23 =>
    ((gR μ22 v23 7 4).bind fun v24 =>
    ((sI μ22 v24 0 x2 x16).bind fun μ25 =>
    (some (x16, μ25))))))))
    else
    (some ((-1 : Int32), μ19))))))))))))))))))))))
set_option maxHeartbeats 4000000 in
set_option maxRecDepth 100000 in
theorem f_X11_walk_ok {l : Launch} {G : GG} {μ0 : Mm} {a1 : Nat} {x2 : Int32} {x3 : Int32} {r : Int32} {μ' : Mm} (hf : f_X11_walk μ0 a1 x2 x3 = some (r, μ')) : EvM l G D_X11_walk yX11_walk cX11_walk 5 (some .int) [.ref a1, .int x2, .int x3] μ0 (some (.int r)) μ' := by
  show Ev l G D_X11_walk yX11_walk cX11_walk 5 (some .int) 0 [(0, .ref a1), (1, .int x2), (2, .int x3)] [] μ0 (some (.int r)) μ'
  unfold f_X11_walk at hf
  refine E_aload_n (pc := 0) dX11_walk_0 rfl ?_
  refine E_iload_n (pc := 1) dX11_walk_1 rfl ?_
  refine E_Vi (pc := 2) (d2 := D_X11_isPerson) (ci := 11) [.int x2] dX11_walk_2 ml_X11_160 mf_X11_isPerson im_X11_isPerson rfl rfl rfl (by decide) (Nat.le_of_ble_eq_true rfl) (Nat.le_of_ble_eq_true rfl) rfl (fun _ _ h => f_X11_isPerson_ok h) hf (fun v5 μ4 hf => ?_)
  refine E_if_eq (pc := 5) (tgt := 15) dX11_walk_5 (by decide) hf (fun hf => ?_) (fun hf => ?_)
  · refine E_iconst (pc := 15) (v := (-1 : Int32)) dX11_walk_15 (by decide) ?_
    exact E_iret (pc := 16) dX11_walk_16 rfl hf
  · refine E_iload_n (pc := 8) dX11_walk_8 rfl ?_
    refine E_Si (pc := 9) (d2 := D_X11_isSide) [.int x3] dX11_walk_9 ml_X11_210 mf_X11_isSide st_X11_isSide rfl (by decide) (Nat.le_of_ble_eq_true rfl) (Nat.le_of_ble_eq_true rfl) rfl (fun _ _ h => f_X11_isSide_ok h) hf (fun v7 μ6 hf => ?_)
    refine E_if_ne (pc := 12) (tgt := 17) dX11_walk_12 (by decide) hf (fun hf => ?_) (fun hf => ?_)
    · refine E_iconst (pc := 15) (v := (-1 : Int32)) dX11_walk_15 (by decide) ?_
      exact E_iret (pc := 16) dX11_walk_16 rfl hf
    · refine E_aload_n (pc := 17) dX11_walk_17 rfl ?_
      refine E_getR (pc := 18) dX11_walk_18 fl_X11_58 hf (fun v8 hf => ?_)
      refine E_getR (pc := 21) dX11_walk_21 fl_X11_163 hf (fun v9 hf => ?_)
      refine E_iload_n (pc := 24) dX11_walk_24 rfl ?_
      refine E_iald (pc := 25) dX11_walk_25 hf (fun v10 hf => ?_)
      refine E_istore_n (pc := 26) (ls' := fun x11 => [(3, .int x11), (0, .ref a1), (1, .int x2), (2, .int x3)]) dX11_walk_26 (by decide) (fun _ => rfl) hf (fun x11 hf => ?_)
      refine E_aload_n (pc := 27) dX11_walk_27 rfl ?_
      refine E_getR (pc := 28) dX11_walk_28 fl_X11_58 hf (fun v12 hf => ?_)
      refine E_getR (pc := 31) dX11_walk_31 fl_X11_122 hf (fun v13 hf => ?_)
      refine E_iload_n (pc := 34) dX11_walk_34 rfl ?_
      refine E_iload_n (pc := 35) dX11_walk_35 rfl ?_
      refine E_Vi (pc := 36) (d2 := D_X1_beside) (ci := 1) [.int x11, .int x3] dX11_walk_36 ml_X11_213 mf_X1_beside im_X1_beside rfl rfl rfl (by decide) (Nat.le_of_ble_eq_true rfl) (Nat.le_of_ble_eq_true rfl) rfl (fun _ _ h => f_X1_beside_ok h) hf (fun v15 μ14 hf => ?_)
      refine E_istore (pc := 39) (ls' := fun x16 => [(4, .int x16), (3, .int x11), (0, .ref a1), (1, .int x2), (2, .int x3)]) dX11_walk_39 (by decide) (fun _ => rfl) hf (fun x16 hf => ?_)
      refine E_iload (pc := 41) dX11_walk_41 rfl ?_
      refine E_iconst (pc := 43) (v := (-1 : Int32)) dX11_walk_43 (by decide) ?_
      refine E_icmp_eq (pc := 44) (tgt := 67) dX11_walk_44 (by decide) hf (fun hf => ?_) (fun hf => ?_)
      · refine E_iconst (pc := 67) (v := (-1 : Int32)) dX11_walk_67 (by decide) ?_
        exact E_iret (pc := 68) dX11_walk_68 rfl hf
      · refine E_aload_n (pc := 47) dX11_walk_47 rfl ?_
        refine E_getR (pc := 48) dX11_walk_48 fl_X11_58 hf (fun v17 hf => ?_)
        refine E_getR (pc := 51) dX11_walk_51 fl_X11_122 hf (fun v18 hf => ?_)
        refine E_iload_n (pc := 54) dX11_walk_54 rfl ?_
        refine E_iload (pc := 55) dX11_walk_55 rfl ?_
        refine E_Vi (pc := 57) (d2 := D_X1_dropTo) (ci := 1) [.int x11, .int x16] dX11_walk_57 ml_X11_217 mf_X1_dropTo im_X1_dropTo rfl rfl rfl (by decide) (Nat.le_of_ble_eq_true rfl) (Nat.le_of_ble_eq_true rfl) rfl (fun _ _ h => f_X1_dropTo_ok h) hf (fun v20 μ19 hf => ?_)
        refine E_abs (pc := 60) dX11_walk_60 ml_X11_220 (by decide) (Nat.le_of_ble_eq_true rfl) ?_
        refine E_iconst (pc := 63) (v := (1 : Int32)) dX11_walk_63 (by decide) ?_
        refine E_icmp_le (pc := 64) (tgt := 69) dX11_walk_64 (by decide) hf (fun hf => ?_) (fun hf => ?_)
        · refine E_aload_n (pc := 69) dX11_walk_69 rfl ?_
          refine E_getR (pc := 70) dX11_walk_70 fl_X11_58 hf (fun v21 hf => ?_)
          refine E_iload_n (pc := 73) dX11_walk_73 rfl ?_
          refine E_iload_n (pc := 74) dX11_walk_74 rfl ?_
          refine E_Vv (pc := 75) (d2 := D_X7_remember) (ci := 7) [.int x2, .int x11] dX11_walk_75 ml_X11_194 mf_X7_remember im_X7_remember rfl rfl rfl (by decide) (Nat.le_of_ble_eq_true rfl) (Nat.le_of_ble_eq_true rfl) rfl (fun _ h => f_X7_remember_ok h) hf (fun μ22 hf => ?_)
          refine E_aload_n (pc := 78) dX11_walk_78 rfl ?_
          refine E_getR (pc := 79) dX11_walk_79 fl_X11_58 hf (fun v23 hf => ?_)
          refine E_getR (pc := 82) dX11_walk_82 fl_X11_163 hf (fun v24 hf => ?_)
          refine E_iload_n (pc := 85) dX11_walk_85 rfl ?_
          refine E_iload (pc := 86) dX11_walk_86 rfl ?_
          refine E_iast (pc := 88) dX11_walk_88 hf (fun μ25 hf => ?_)
          refine E_iload (pc := 89) dX11_walk_89 rfl ?_
          exact E_iret (pc := 91) dX11_walk_91 rfl hf
        · refine E_iconst (pc := 67) (v := (-1 : Int32)) dX11_walk_67 (by decide) ?_
          exact E_iret (pc := 68) dX11_walk_68 rfl hf
theorem dX11_put_0 : decode cX11_put 0 = .ok (.aload_n 0, 1) := by decide +kernel
theorem dX11_put_1 : decode cX11_put 1 = .ok (.iload_n 1, 1) := by decide +kernel
theorem dX11_put_2 : decode cX11_put 2 = .ok (.invokevirtual 169, 3) := by decide +kernel
theorem dX11_put_5 : decode cX11_put 5 = .ok (.ifCond .eq 22, 3) := by decide +kernel
theorem dX11_put_8 : decode cX11_put 8 = .ok (.aload_n 0, 1) := by decide +kernel
theorem dX11_put_9 : decode cX11_put 9 = .ok (.iload_n 2, 1) := by decide +kernel
theorem dX11_put_10 : decode cX11_put 10 = .ok (.invokevirtual 134, 3) := by decide +kernel
theorem dX11_put_13 : decode cX11_put 13 = .ok (.ifCond .eq 14, 3) := by decide +kernel
theorem dX11_put_16 : decode cX11_put 16 = .ok (.aload_n 0, 1) := by decide +kernel
theorem dX11_put_17 : decode cX11_put 17 = .ok (.getfield 58, 3) := by decide +kernel
theorem dX11_put_20 : decode cX11_put 20 = .ok (.iload_n 1, 1) := by decide +kernel
theorem dX11_put_21 : decode cX11_put 21 = .ok (.invokevirtual 184, 3) := by decide +kernel
theorem dX11_put_24 : decode cX11_put 24 = .ok (.ifCond .eq 5, 3) := by decide +kernel
theorem dX11_put_27 : decode cX11_put 27 = .ok (.iconst (-1), 1) := by decide +kernel
theorem dX11_put_28 : decode cX11_put 28 = .ok (.ireturn, 1) := by decide +kernel
theorem dX11_put_29 : decode cX11_put 29 = .ok (.aload_n 0, 1) := by decide +kernel
theorem dX11_put_30 : decode cX11_put 30 = .ok (.getfield 58, 3) := by decide +kernel
theorem dX11_put_33 : decode cX11_put 33 = .ok (.getfield 172, 3) := by decide +kernel
theorem dX11_put_36 : decode cX11_put 36 = .ok (.iload_n 1, 1) := by decide +kernel
theorem dX11_put_37 : decode cX11_put 37 = .ok (.iaload, 1) := by decide +kernel
theorem dX11_put_38 : decode cX11_put 38 = .ok (.istore_n 3, 1) := by decide +kernel
theorem dX11_put_39 : decode cX11_put 39 = .ok (.iload_n 3, 1) := by decide +kernel
theorem dX11_put_40 : decode cX11_put 40 = .ok (.iload_n 2, 1) := by decide +kernel
theorem dX11_put_41 : decode cX11_put 41 = .ok (.if_icmp .ne 5, 3) := by decide +kernel
theorem dX11_put_44 : decode cX11_put 44 = .ok (.iconst (-1), 1) := by decide +kernel
theorem dX11_put_45 : decode cX11_put 45 = .ok (.ireturn, 1) := by decide +kernel
theorem dX11_put_46 : decode cX11_put 46 = .ok (.aload_n 0, 1) := by decide +kernel
theorem dX11_put_47 : decode cX11_put 47 = .ok (.getfield 58, 3) := by decide +kernel
theorem dX11_put_50 : decode cX11_put 50 = .ok (.iconst 5, 1) := by decide +kernel
theorem dX11_put_51 : decode cX11_put 51 = .ok (.iload_n 1, 1) := by decide +kernel
theorem dX11_put_52 : decode cX11_put 52 = .ok (.iadd, 1) := by decide +kernel
theorem dX11_put_53 : decode cX11_put 53 = .ok (.iload_n 3, 1) := by decide +kernel
theorem dX11_put_54 : decode cX11_put 54 = .ok (.invokevirtual 194, 3) := by decide +kernel
theorem dX11_put_57 : decode cX11_put 57 = .ok (.aload_n 0, 1) := by decide +kernel
theorem dX11_put_58 : decode cX11_put 58 = .ok (.getfield 58, 3) := by decide +kernel
theorem dX11_put_61 : decode cX11_put 61 = .ok (.getfield 172, 3) := by decide +kernel
theorem dX11_put_64 : decode cX11_put 64 = .ok (.iload_n 1, 1) := by decide +kernel
theorem dX11_put_65 : decode cX11_put 65 = .ok (.iload_n 2, 1) := by decide +kernel
theorem dX11_put_66 : decode cX11_put 66 = .ok (.iastore, 1) := by decide +kernel
theorem dX11_put_67 : decode cX11_put 67 = .ok (.iload_n 3, 1) := by decide +kernel
theorem dX11_put_68 : decode cX11_put 68 = .ok (.ireturn, 1) := by decide +kernel
abbrev D_X11_put : Nat := 2
set_option maxRecDepth 100000 in
def f_X11_put (μ0 : Mm) (a1 : Nat) (x2 : Int32) (x3 : Int32) : Option (Int32 × Mm) :=
 ((ob μ0 a1 11).bind fun _ =>
    (bd (f_X11_isThing μ0 a1 x2) fun v5 μ4 =>
    (if v5 = 0 then
    (some ((-1 : Int32), μ4))
    else
    ((ob μ4 a1 11).bind fun _ =>
    (bd (f_X11_isCell μ4 a1 x3) fun v7 μ6 =>
    (if v7 = 0 then
    (some ((-1 : Int32), μ6))
    else
    ((gR μ6 a1 11 6).bind fun v8 =>
    ((ob μ6 v8 7).bind fun _ =>
    (bd (f_X7_isBroken μ6 v8 x2) fun v10 μ9 =>
    (if v10 = 0 then
    ((gR μ9 a1 11 6).bind fun v11 =>
    ((gR μ9 v11 7 5).bind fun v12 =>
    ((aI μ9 v12 0 x2).bind fun v13 =>
    (nm v13 fun x14 =>
    (if x14 = x3 then
    (some ((-1 : Int32), μ9))
    else
    ((gR μ9 a1 11 6).bind fun v15 =>
    ((ob μ9 v15 7).bind fun _ =>
    ((f_X7_remember μ9 v15 ((5 : Int32) + x2) x14).bind fun μ16 =>
    ((gR μ16 a1 11 6).bind fun v17 =>
    ((gR μ16 v17 7 5).bind fun v18 =>
    ((sI μ16 v18 0 x2 x3).bind fun μ19 =>
    (some (x14, μ19)))))))))))))
    else
    (some ((-1 : Int32), μ9))))))))))))
set_option maxHeartbeats 4000000 in
set_option maxRecDepth 100000 in
theorem f_X11_put_ok {l : Launch} {G : GG} {μ0 : Mm} {a1 : Nat} {x2 : Int32} {x3 : Int32} {r : Int32} {μ' : Mm} (hf : f_X11_put μ0 a1 x2 x3 = some (r, μ')) : EvM l G D_X11_put yX11_put cX11_put 4 (some .int) [.ref a1, .int x2, .int x3] μ0 (some (.int r)) μ' := by
  show Ev l G D_X11_put yX11_put cX11_put 4 (some .int) 0 [(0, .ref a1), (1, .int x2), (2, .int x3)] [] μ0 (some (.int r)) μ'
  unfold f_X11_put at hf
  refine E_aload_n (pc := 0) dX11_put_0 rfl ?_
  refine E_iload_n (pc := 1) dX11_put_1 rfl ?_
  refine E_Vi (pc := 2) (d2 := D_X11_isThing) (ci := 11) [.int x2] dX11_put_2 ml_X11_169 mf_X11_isThing im_X11_isThing rfl rfl rfl (by decide) (Nat.le_of_ble_eq_true rfl) (Nat.le_of_ble_eq_true rfl) rfl (fun _ _ h => f_X11_isThing_ok h) hf (fun v5 μ4 hf => ?_)
  refine E_if_eq (pc := 5) (tgt := 27) dX11_put_5 (by decide) hf (fun hf => ?_) (fun hf => ?_)
  · refine E_iconst (pc := 27) (v := (-1 : Int32)) dX11_put_27 (by decide) ?_
    exact E_iret (pc := 28) dX11_put_28 rfl hf
  · refine E_aload_n (pc := 8) dX11_put_8 rfl ?_
    refine E_iload_n (pc := 9) dX11_put_9 rfl ?_
    refine E_Vi (pc := 10) (d2 := D_X11_isCell) (ci := 11) [.int x3] dX11_put_10 ml_X11_134 mf_X11_isCell im_X11_isCell rfl rfl rfl (by decide) (Nat.le_of_ble_eq_true rfl) (Nat.le_of_ble_eq_true rfl) rfl (fun _ _ h => f_X11_isCell_ok h) hf (fun v7 μ6 hf => ?_)
    refine E_if_eq (pc := 13) (tgt := 27) dX11_put_13 (by decide) hf (fun hf => ?_) (fun hf => ?_)
    · refine E_iconst (pc := 27) (v := (-1 : Int32)) dX11_put_27 (by decide) ?_
      exact E_iret (pc := 28) dX11_put_28 rfl hf
    · refine E_aload_n (pc := 16) dX11_put_16 rfl ?_
      refine E_getR (pc := 17) dX11_put_17 fl_X11_58 hf (fun v8 hf => ?_)
      refine E_iload_n (pc := 20) dX11_put_20 rfl ?_
      refine E_Vi (pc := 21) (d2 := D_X7_isBroken) (ci := 7) [.int x2] dX11_put_21 ml_X11_184 mf_X7_isBroken im_X7_isBroken rfl rfl rfl (by decide) (Nat.le_of_ble_eq_true rfl) (Nat.le_of_ble_eq_true rfl) rfl (fun _ _ h => f_X7_isBroken_ok h) hf (fun v10 μ9 hf => ?_)
      refine E_if_eq (pc := 24) (tgt := 29) dX11_put_24 (by decide) hf (fun hf => ?_) (fun hf => ?_)
      · refine E_aload_n (pc := 29) dX11_put_29 rfl ?_
        refine E_getR (pc := 30) dX11_put_30 fl_X11_58 hf (fun v11 hf => ?_)
        refine E_getR (pc := 33) dX11_put_33 fl_X11_172 hf (fun v12 hf => ?_)
        refine E_iload_n (pc := 36) dX11_put_36 rfl ?_
        refine E_iald (pc := 37) dX11_put_37 hf (fun v13 hf => ?_)
        refine E_istore_n (pc := 38) (ls' := fun x14 => [(3, .int x14), (0, .ref a1), (1, .int x2), (2, .int x3)]) dX11_put_38 (by decide) (fun _ => rfl) hf (fun x14 hf => ?_)
        refine E_iload_n (pc := 39) dX11_put_39 rfl ?_
        refine E_iload_n (pc := 40) dX11_put_40 rfl ?_
        refine E_icmp_ne (pc := 41) (tgt := 46) dX11_put_41 (by decide) hf (fun hf => ?_) (fun hf => ?_)
        · refine E_iconst (pc := 44) (v := (-1 : Int32)) dX11_put_44 (by decide) ?_
          exact E_iret (pc := 45) dX11_put_45 rfl hf
        · refine E_aload_n (pc := 46) dX11_put_46 rfl ?_
          refine E_getR (pc := 47) dX11_put_47 fl_X11_58 hf (fun v15 hf => ?_)
          refine E_iconst (pc := 50) (v := (5 : Int32)) dX11_put_50 (by decide) ?_
          refine E_iload_n (pc := 51) dX11_put_51 rfl ?_
          refine E_iadd (pc := 52) dX11_put_52 ?_
          refine E_iload_n (pc := 53) dX11_put_53 rfl ?_
          refine E_Vv (pc := 54) (d2 := D_X7_remember) (ci := 7) [.int ((5 : Int32) + x2), .int x14] dX11_put_54 ml_X11_194 mf_X7_remember im_X7_remember rfl rfl rfl (by decide) (Nat.le_of_ble_eq_true rfl) (Nat.le_of_ble_eq_true rfl) rfl (fun _ h => f_X7_remember_ok h) hf (fun μ16 hf => ?_)
          refine E_aload_n (pc := 57) dX11_put_57 rfl ?_
          refine E_getR (pc := 58) dX11_put_58 fl_X11_58 hf (fun v17 hf => ?_)
          refine E_getR (pc := 61) dX11_put_61 fl_X11_172 hf (fun v18 hf => ?_)
          refine E_iload_n (pc := 64) dX11_put_64 rfl ?_
          refine E_iload_n (pc := 65) dX11_put_65 rfl ?_
          refine E_iast (pc := 66) dX11_put_66 hf (fun μ19 hf => ?_)
          refine E_iload_n (pc := 67) dX11_put_67 rfl ?_
          exact E_iret (pc := 68) dX11_put_68 rfl hf
      · refine E_iconst (pc := 27) (v := (-1 : Int32)) dX11_put_27 (by decide) ?_
        exact E_iret (pc := 28) dX11_put_28 rfl hf
theorem dX11_mend_0 : decode cX11_mend 0 = .ok (.aload_n 0, 1) := by decide +kernel
theorem dX11_mend_1 : decode cX11_mend 1 = .ok (.iload_n 1, 1) := by decide +kernel
theorem dX11_mend_2 : decode cX11_mend 2 = .ok (.invokevirtual 169, 3) := by decide +kernel
theorem dX11_mend_5 : decode cX11_mend 5 = .ok (.ifCond .eq 14, 3) := by decide +kernel
theorem dX11_mend_8 : decode cX11_mend 8 = .ok (.aload_n 0, 1) := by decide +kernel
theorem dX11_mend_9 : decode cX11_mend 9 = .ok (.getfield 58, 3) := by decide +kernel
theorem dX11_mend_12 : decode cX11_mend 12 = .ok (.iload_n 1, 1) := by decide +kernel
theorem dX11_mend_13 : decode cX11_mend 13 = .ok (.invokevirtual 184, 3) := by decide +kernel
theorem dX11_mend_16 : decode cX11_mend 16 = .ok (.ifCond .ne 5, 3) := by decide +kernel
theorem dX11_mend_19 : decode cX11_mend 19 = .ok (.iconst 0, 1) := by decide +kernel
theorem dX11_mend_20 : decode cX11_mend 20 = .ok (.ireturn, 1) := by decide +kernel
theorem dX11_mend_21 : decode cX11_mend 21 = .ok (.aload_n 0, 1) := by decide +kernel
theorem dX11_mend_22 : decode cX11_mend 22 = .ok (.getfield 58, 3) := by decide +kernel
theorem dX11_mend_25 : decode cX11_mend 25 = .ok (.iconst 5, 1) := by decide +kernel
theorem dX11_mend_26 : decode cX11_mend 26 = .ok (.iload_n 1, 1) := by decide +kernel
theorem dX11_mend_27 : decode cX11_mend 27 = .ok (.iadd, 1) := by decide +kernel
theorem dX11_mend_28 : decode cX11_mend 28 = .ok (.aload_n 0, 1) := by decide +kernel
theorem dX11_mend_29 : decode cX11_mend 29 = .ok (.getfield 58, 3) := by decide +kernel
theorem dX11_mend_32 : decode cX11_mend 32 = .ok (.getfield 172, 3) := by decide +kernel
theorem dX11_mend_35 : decode cX11_mend 35 = .ok (.iload_n 1, 1) := by decide +kernel
theorem dX11_mend_36 : decode cX11_mend 36 = .ok (.iaload, 1) := by decide +kernel
theorem dX11_mend_37 : decode cX11_mend 37 = .ok (.invokevirtual 194, 3) := by decide +kernel
theorem dX11_mend_40 : decode cX11_mend 40 = .ok (.aload_n 0, 1) := by decide +kernel
theorem dX11_mend_41 : decode cX11_mend 41 = .ok (.getfield 58, 3) := by decide +kernel
theorem dX11_mend_44 : decode cX11_mend 44 = .ok (.dup, 1) := by decide +kernel
theorem dX11_mend_45 : decode cX11_mend 45 = .ok (.getfield 200, 3) := by decide +kernel
theorem dX11_mend_48 : decode cX11_mend 48 = .ok (.iconst 1, 1) := by decide +kernel
theorem dX11_mend_49 : decode cX11_mend 49 = .ok (.iload_n 1, 1) := by decide +kernel
theorem dX11_mend_50 : decode cX11_mend 50 = .ok (.ishl, 1) := by decide +kernel
theorem dX11_mend_51 : decode cX11_mend 51 = .ok (.iconst (-1), 1) := by decide +kernel
theorem dX11_mend_52 : decode cX11_mend 52 = .ok (.ixor, 1) := by decide +kernel
theorem dX11_mend_53 : decode cX11_mend 53 = .ok (.iand, 1) := by decide +kernel
theorem dX11_mend_54 : decode cX11_mend 54 = .ok (.putfield 200, 3) := by decide +kernel
theorem dX11_mend_57 : decode cX11_mend 57 = .ok (.iconst 1, 1) := by decide +kernel
theorem dX11_mend_58 : decode cX11_mend 58 = .ok (.ireturn, 1) := by decide +kernel
abbrev D_X11_mend : Nat := 2
set_option maxRecDepth 100000 in
def f_X11_mend (μ0 : Mm) (a1 : Nat) (x2 : Int32) : Option (Int32 × Mm) :=
 ((ob μ0 a1 11).bind fun _ =>
    (bd (f_X11_isThing μ0 a1 x2) fun v4 μ3 =>
    (if v4 = 0 then
    (if (0 : Int32) = 0 ∨ (0 : Int32) = 1 then some ((0 : Int32), μ3) else none)
    else
    ((gR μ3 a1 11 6).bind fun v5 =>
    ((ob μ3 v5 7).bind fun _ =>
    (bd (f_X7_isBroken μ3 v5 x2) fun v7 μ6 =>
    (if v7 = 0 then
    (if (0 : Int32) = 0 ∨ (0 : Int32) = 1 then some ((0 : Int32), μ6) else none)
    else
    ((gR μ6 a1 11 6).bind fun v8 =>
    ((gR μ6 a1 11 6).bind fun v9 =>
    ((gR μ6 v9 7 5).bind fun v10 =>
    ((aI μ6 v10 0 x2).bind fun v11 =>
    ((ob μ6 v8 7).bind fun _ =>
    ((f_X7_remember μ6 v8 ((5 : Int32) + x2) v11).bind fun μ12 =>
    ((gR μ12 a1 11 6).bind fun v13 =>
    ((gI μ12 v13 7 3).bind fun v14 =>
    ((pV μ12 v13 7 3 (.int (v14 &&& (((1 : Int32) <<< (x2 &&& 31)) ^^^ (-1 : Int32))))).bind fun μ15 =>
    (if (1 : Int32) = 0 ∨ (1 : Int32) = 1 then some ((1 : Int32), μ15) else none)))))))))))))))))
set_option maxHeartbeats 4000000 in
set_option maxRecDepth 100000 in
theorem f_X11_mend_ok {l : Launch} {G : GG} {μ0 : Mm} {a1 : Nat} {x2 : Int32} {r : Int32} {μ' : Mm} (hf : f_X11_mend μ0 a1 x2 = some (r, μ')) : EvM l G D_X11_mend yX11_mend cX11_mend 2 (some .boolean) [.ref a1, .int x2] μ0 (some (.int r)) μ' := by
  show Ev l G D_X11_mend yX11_mend cX11_mend 2 (some .boolean) 0 [(0, .ref a1), (1, .int x2)] [] μ0 (some (.int r)) μ'
  unfold f_X11_mend at hf
  refine E_aload_n (pc := 0) dX11_mend_0 rfl ?_
  refine E_iload_n (pc := 1) dX11_mend_1 rfl ?_
  refine E_Vi (pc := 2) (d2 := D_X11_isThing) (ci := 11) [.int x2] dX11_mend_2 ml_X11_169 mf_X11_isThing im_X11_isThing rfl rfl rfl (by decide) (Nat.le_of_ble_eq_true rfl) (Nat.le_of_ble_eq_true rfl) rfl (fun _ _ h => f_X11_isThing_ok h) hf (fun v4 μ3 hf => ?_)
  refine E_if_eq (pc := 5) (tgt := 19) dX11_mend_5 (by decide) hf (fun hf => ?_) (fun hf => ?_)
  · refine E_iconst (pc := 19) (v := (0 : Int32)) dX11_mend_19 (by decide) ?_
    exact E_zret (pc := 20) dX11_mend_20 rfl hf
  · refine E_aload_n (pc := 8) dX11_mend_8 rfl ?_
    refine E_getR (pc := 9) dX11_mend_9 fl_X11_58 hf (fun v5 hf => ?_)
    refine E_iload_n (pc := 12) dX11_mend_12 rfl ?_
    refine E_Vi (pc := 13) (d2 := D_X7_isBroken) (ci := 7) [.int x2] dX11_mend_13 ml_X11_184 mf_X7_isBroken im_X7_isBroken rfl rfl rfl (by decide) (Nat.le_of_ble_eq_true rfl) (Nat.le_of_ble_eq_true rfl) rfl (fun _ _ h => f_X7_isBroken_ok h) hf (fun v7 μ6 hf => ?_)
    refine E_if_ne (pc := 16) (tgt := 21) dX11_mend_16 (by decide) hf (fun hf => ?_) (fun hf => ?_)
    · refine E_iconst (pc := 19) (v := (0 : Int32)) dX11_mend_19 (by decide) ?_
      exact E_zret (pc := 20) dX11_mend_20 rfl hf
    · refine E_aload_n (pc := 21) dX11_mend_21 rfl ?_
      refine E_getR (pc := 22) dX11_mend_22 fl_X11_58 hf (fun v8 hf => ?_)
      refine E_iconst (pc := 25) (v := (5 : Int32)) dX11_mend_25 (by decide) ?_
      refine E_iload_n (pc := 26) dX11_mend_26 rfl ?_
      refine E_iadd (pc := 27) dX11_mend_27 ?_
      refine E_aload_n (pc := 28) dX11_mend_28 rfl ?_
      refine E_getR (pc := 29) dX11_mend_29 fl_X11_58 hf (fun v9 hf => ?_)
      refine E_getR (pc := 32) dX11_mend_32 fl_X11_172 hf (fun v10 hf => ?_)
      refine E_iload_n (pc := 35) dX11_mend_35 rfl ?_
      refine E_iald (pc := 36) dX11_mend_36 hf (fun v11 hf => ?_)
      refine E_Vv (pc := 37) (d2 := D_X7_remember) (ci := 7) [.int ((5 : Int32) + x2), .int v11] dX11_mend_37 ml_X11_194 mf_X7_remember im_X7_remember rfl rfl rfl (by decide) (Nat.le_of_ble_eq_true rfl) (Nat.le_of_ble_eq_true rfl) rfl (fun _ h => f_X7_remember_ok h) hf (fun μ12 hf => ?_)
      refine E_aload_n (pc := 40) dX11_mend_40 rfl ?_
      refine E_getR (pc := 41) dX11_mend_41 fl_X11_58 hf (fun v13 hf => ?_)
      refine E_dup (pc := 44) dX11_mend_44 rfl ?_
      refine E_getI (pc := 45) dX11_mend_45 fl_X11_200 hf (fun v14 hf => ?_)
      refine E_iconst (pc := 48) (v := (1 : Int32)) dX11_mend_48 (by decide) ?_
      refine E_iload_n (pc := 49) dX11_mend_49 rfl ?_
      refine E_ishl (pc := 50) dX11_mend_50 ?_
      refine E_iconst (pc := 51) (v := (-1 : Int32)) dX11_mend_51 (by decide) ?_
      refine E_ixor (pc := 52) dX11_mend_52 ?_
      refine E_iand (pc := 53) dX11_mend_53 ?_
      refine E_putI (pc := 54) dX11_mend_54 (pl_X11_200 _) hf (fun μ15 hf => ?_)
      refine E_iconst (pc := 57) (v := (1 : Int32)) dX11_mend_57 (by decide) ?_
      exact E_zret (pc := 58) dX11_mend_58 rfl hf
theorem dX11_undo_0 : decode cX11_undo 0 = .ok (.aload_n 0, 1) := by decide +kernel
theorem dX11_undo_1 : decode cX11_undo 1 = .ok (.getfield 58, 3) := by decide +kernel
theorem dX11_undo_4 : decode cX11_undo 4 = .ok (.getfield 225, 3) := by decide +kernel
theorem dX11_undo_7 : decode cX11_undo 7 = .ok (.iconst 1, 1) := by decide +kernel
theorem dX11_undo_8 : decode cX11_undo 8 = .ok (.if_icmp .ge 6, 3) := by decide +kernel
theorem dX11_undo_11 : decode cX11_undo 11 = .ok (.bipush (-2), 2) := by decide +kernel
theorem dX11_undo_13 : decode cX11_undo 13 = .ok (.ireturn, 1) := by decide +kernel
theorem dX11_undo_14 : decode cX11_undo 14 = .ok (.aload_n 0, 1) := by decide +kernel
theorem dX11_undo_15 : decode cX11_undo 15 = .ok (.getfield 58, 3) := by decide +kernel
theorem dX11_undo_18 : decode cX11_undo 18 = .ok (.invokevirtual 228, 3) := by decide +kernel
theorem dX11_undo_21 : decode cX11_undo 21 = .ok (.aload_n 0, 1) := by decide +kernel
theorem dX11_undo_22 : decode cX11_undo 22 = .ok (.getfield 58, 3) := by decide +kernel
theorem dX11_undo_25 : decode cX11_undo 25 = .ok (.getfield 225, 3) := by decide +kernel
theorem dX11_undo_28 : decode cX11_undo 28 = .ok (.ireturn, 1) := by decide +kernel
abbrev D_X11_undo : Nat := 2
set_option maxRecDepth 100000 in
def f_X11_undo (μ0 : Mm) (a1 : Nat) : Option (Int32 × Mm) :=
 ((gR μ0 a1 11 6).bind fun v2 =>
    ((gI μ0 v2 7 9).bind fun v3 =>
    (if (1 : Int32) ≤ v3 then
    ((gR μ0 a1 11 6).bind fun v4 =>
    ((ob μ0 v4 7).bind fun _ =>
    ((f_X7_takeBack μ0 v4).bind fun μ5 =>
    ((gR μ5 a1 11 6).bind fun v6 =>
    ((gI μ5 v6 7 9).bind fun v7 =>
    (some (v7, μ5)))))))
    else
    (some ((-2 : Int32), μ0)))))
set_option maxHeartbeats 4000000 in
set_option maxRecDepth 100000 in
theorem f_X11_undo_ok {l : Launch} {G : GG} {μ0 : Mm} {a1 : Nat} {r : Int32} {μ' : Mm} (hf : f_X11_undo μ0 a1 = some (r, μ')) : EvM l G D_X11_undo yX11_undo cX11_undo 1 (some .int) [.ref a1] μ0 (some (.int r)) μ' := by
  show Ev l G D_X11_undo yX11_undo cX11_undo 1 (some .int) 0 [(0, .ref a1)] [] μ0 (some (.int r)) μ'
  unfold f_X11_undo at hf
  refine E_aload_n (pc := 0) dX11_undo_0 rfl ?_
  refine E_getR (pc := 1) dX11_undo_1 fl_X11_58 hf (fun v2 hf => ?_)
  refine E_getI (pc := 4) dX11_undo_4 fl_X11_225 hf (fun v3 hf => ?_)
  refine E_iconst (pc := 7) (v := (1 : Int32)) dX11_undo_7 (by decide) ?_
  refine E_icmp_ge (pc := 8) (tgt := 14) dX11_undo_8 (by decide) hf (fun hf => ?_) (fun hf => ?_)
  · refine E_aload_n (pc := 14) dX11_undo_14 rfl ?_
    refine E_getR (pc := 15) dX11_undo_15 fl_X11_58 hf (fun v4 hf => ?_)
    refine E_Vv (pc := 18) (d2 := D_X7_takeBack) (ci := 7) [] dX11_undo_18 ml_X11_228 mf_X7_takeBack im_X7_takeBack rfl rfl rfl (by decide) (Nat.le_of_ble_eq_true rfl) (Nat.le_of_ble_eq_true rfl) rfl (fun _ h => f_X7_takeBack_ok h) hf (fun μ5 hf => ?_)
    refine E_aload_n (pc := 21) dX11_undo_21 rfl ?_
    refine E_getR (pc := 22) dX11_undo_22 fl_X11_58 hf (fun v6 hf => ?_)
    refine E_getI (pc := 25) dX11_undo_25 fl_X11_225 hf (fun v7 hf => ?_)
    exact E_iret (pc := 28) dX11_undo_28 rfl hf
  · refine E_bipush (pc := 11) (v := (-2 : Int32)) dX11_undo_11 (by decide) ?_
    exact E_iret (pc := 13) dX11_undo_13 rfl hf
theorem dX11_would_0 : decode cX11_would 0 = .ok (.aload_n 0, 1) := by decide +kernel
theorem dX11_would_1 : decode cX11_would 1 = .ok (.iload_n 1, 1) := by decide +kernel
theorem dX11_would_2 : decode cX11_would 2 = .ok (.invokevirtual 160, 3) := by decide +kernel
theorem dX11_would_5 : decode cX11_would 5 = .ok (.ifCond .eq 10, 3) := by decide +kernel
theorem dX11_would_8 : decode cX11_would 8 = .ok (.iload_n 2, 1) := by decide +kernel
theorem dX11_would_9 : decode cX11_would 9 = .ok (.invokestatic 187, 3) := by decide +kernel
theorem dX11_would_12 : decode cX11_would 12 = .ok (.ifCond .ne 5, 3) := by decide +kernel
theorem dX11_would_15 : decode cX11_would 15 = .ok (.iconst (-1), 1) := by decide +kernel
theorem dX11_would_16 : decode cX11_would 16 = .ok (.ireturn, 1) := by decide +kernel
theorem dX11_would_17 : decode cX11_would 17 = .ok (.aload_n 0, 1) := by decide +kernel
theorem dX11_would_18 : decode cX11_would 18 = .ok (.iload_n 1, 1) := by decide +kernel
theorem dX11_would_19 : decode cX11_would 19 = .ok (.iload_n 2, 1) := by decide +kernel
theorem dX11_would_20 : decode cX11_would 20 = .ok (.invokevirtual 190, 3) := by decide +kernel
theorem dX11_would_23 : decode cX11_would 23 = .ok (.iload_n 3, 1) := by decide +kernel
theorem dX11_would_24 : decode cX11_would 24 = .ok (.tableswitch 76 0 4 #[36, 44, 52, 60, 68], 36) := by decide +kernel
theorem dX11_would_60 : decode cX11_would 60 = .ok (.aload_n 0, 1) := by decide +kernel
theorem dX11_would_61 : decode cX11_would 61 = .ok (.getfield 74, 3) := by decide +kernel
theorem dX11_would_64 : decode cX11_would 64 = .ok (.invokevirtual 206, 3) := by decide +kernel
theorem dX11_would_67 : decode cX11_would 67 = .ok (.ireturn, 1) := by decide +kernel
theorem dX11_would_68 : decode cX11_would 68 = .ok (.aload_n 0, 1) := by decide +kernel
theorem dX11_would_69 : decode cX11_would 69 = .ok (.getfield 74, 3) := by decide +kernel
theorem dX11_would_72 : decode cX11_would 72 = .ok (.getfield 231, 3) := by decide +kernel
theorem dX11_would_75 : decode cX11_would 75 = .ok (.ireturn, 1) := by decide +kernel
theorem dX11_would_76 : decode cX11_would 76 = .ok (.aload_n 0, 1) := by decide +kernel
theorem dX11_would_77 : decode cX11_would 77 = .ok (.getfield 74, 3) := by decide +kernel
theorem dX11_would_80 : decode cX11_would 80 = .ok (.getfield 203, 3) := by decide +kernel
theorem dX11_would_83 : decode cX11_would 83 = .ok (.ireturn, 1) := by decide +kernel
theorem dX11_would_84 : decode cX11_would 84 = .ok (.aload_n 0, 1) := by decide +kernel
theorem dX11_would_85 : decode cX11_would 85 = .ok (.getfield 74, 3) := by decide +kernel
theorem dX11_would_88 : decode cX11_would 88 = .ok (.getfield 197, 3) := by decide +kernel
theorem dX11_would_91 : decode cX11_would 91 = .ok (.ireturn, 1) := by decide +kernel
theorem dX11_would_92 : decode cX11_would 92 = .ok (.aload_n 0, 1) := by decide +kernel
theorem dX11_would_93 : decode cX11_would 93 = .ok (.getfield 74, 3) := by decide +kernel
theorem dX11_would_96 : decode cX11_would 96 = .ok (.getfield 234, 3) := by decide +kernel
theorem dX11_would_99 : decode cX11_would 99 = .ok (.ireturn, 1) := by decide +kernel
theorem dX11_would_100 : decode cX11_would 100 = .ok (.iconst (-1), 1) := by decide +kernel
theorem dX11_would_101 : decode cX11_would 101 = .ok (.ireturn, 1) := by decide +kernel
abbrev D_X11_would : Nat := 8
set_option maxRecDepth 100000 in
def f_X11_would (μ0 : Mm) (a1 : Nat) (x2 : Int32) (x3 : Int32) (x4 : Int32) : Option (Int32 × Mm) :=
 ((ob μ0 a1 11).bind fun _ =>
    (bd (f_X11_isPerson μ0 a1 x2) fun v6 μ5 =>
    (if v6 = 0 then
    (some ((-1 : Int32), μ5))
    else
    (bd (f_X11_isLean μ5 x3) fun v8 μ7 =>
    (if v8 = 0 then
    (some ((-1 : Int32), μ7))
    else
    ((ob μ7 a1 11).bind fun _ =>
    ((f_X11_tryFall μ7 a1 x2 x3).bind fun μ9 =>
    (if x4 = (0 : Int32) then
    ((gR μ9 a1 11 9).bind fun v18 =>
    ((ob μ9 v18 0).bind fun _ =>
    (bd (f_X0_mark μ9 v18) fun v20 μ19 =>
    (some (v20, μ19)))))
    else
    (if x4 = (1 : Int32) then
    ((gR μ9 a1 11 9).bind fun v16 =>
    ((gI μ9 v16 0 6).bind fun v17 =>
    (some (v17, μ9))))
    else
    (if x4 = (2 : Int32) then
    ((gR μ9 a1 11 9).bind fun v14 =>
    ((gI μ9 v14 0 8).bind fun v15 =>
    (some (v15, μ9))))
    else
    (if x4 = (3 : Int32) then
    ((gR μ9 a1 11 9).bind fun v12 =>
    ((gI μ9 v12 0 5).bind fun v13 =>
    (some (v13, μ9))))
    else
    (if x4 = (4 : Int32) then
    ((gR μ9 a1 11 9).bind fun v10 =>
    ((gI μ9 v10 0 7).bind fun v11 =>
    (some (v11, μ9))))
    else
    (some ((-1 : Int32), μ9))))))))))))))
set_option maxHeartbeats 4000000 in
set_option maxRecDepth 100000 in
theorem f_X11_would_ok {l : Launch} {G : GG} {μ0 : Mm} {a1 : Nat} {x2 : Int32} {x3 : Int32} {x4 : Int32} {r : Int32} {μ' : Mm} (hf : f_X11_would μ0 a1 x2 x3 x4 = some (r, μ')) : EvM l G D_X11_would yX11_would cX11_would 4 (some .int) [.ref a1, .int x2, .int x3, .int x4] μ0 (some (.int r)) μ' := by
  show Ev l G D_X11_would yX11_would cX11_would 4 (some .int) 0 [(0, .ref a1), (1, .int x2), (2, .int x3), (3, .int x4)] [] μ0 (some (.int r)) μ'
  unfold f_X11_would at hf
  refine E_aload_n (pc := 0) dX11_would_0 rfl ?_
  refine E_iload_n (pc := 1) dX11_would_1 rfl ?_
  refine E_Vi (pc := 2) (d2 := D_X11_isPerson) (ci := 11) [.int x2] dX11_would_2 ml_X11_160 mf_X11_isPerson im_X11_isPerson rfl rfl rfl (by decide) (Nat.le_of_ble_eq_true rfl) (Nat.le_of_ble_eq_true rfl) rfl (fun _ _ h => f_X11_isPerson_ok h) hf (fun v6 μ5 hf => ?_)
  refine E_if_eq (pc := 5) (tgt := 15) dX11_would_5 (by decide) hf (fun hf => ?_) (fun hf => ?_)
  · refine E_iconst (pc := 15) (v := (-1 : Int32)) dX11_would_15 (by decide) ?_
    exact E_iret (pc := 16) dX11_would_16 rfl hf
  · refine E_iload_n (pc := 8) dX11_would_8 rfl ?_
    refine E_Si (pc := 9) (d2 := D_X11_isLean) [.int x3] dX11_would_9 ml_X11_187 mf_X11_isLean st_X11_isLean rfl (by decide) (Nat.le_of_ble_eq_true rfl) (Nat.le_of_ble_eq_true rfl) rfl (fun _ _ h => f_X11_isLean_ok h) hf (fun v8 μ7 hf => ?_)
    refine E_if_ne (pc := 12) (tgt := 17) dX11_would_12 (by decide) hf (fun hf => ?_) (fun hf => ?_)
    · refine E_iconst (pc := 15) (v := (-1 : Int32)) dX11_would_15 (by decide) ?_
      exact E_iret (pc := 16) dX11_would_16 rfl hf
    · refine E_aload_n (pc := 17) dX11_would_17 rfl ?_
      refine E_iload_n (pc := 18) dX11_would_18 rfl ?_
      refine E_iload_n (pc := 19) dX11_would_19 rfl ?_
      refine E_Vv (pc := 20) (d2 := D_X11_tryFall) (ci := 11) [.int x2, .int x3] dX11_would_20 ml_X11_190 mf_X11_tryFall im_X11_tryFall rfl rfl rfl (by decide) (Nat.le_of_ble_eq_true rfl) (Nat.le_of_ble_eq_true rfl) rfl (fun _ h => f_X11_tryFall_ok h) hf (fun μ9 hf => ?_)
      refine E_iload_n (pc := 23) dX11_would_23 rfl ?_
      refine ifS hf (fun n24_0 hf => ?_) (fun n24_0 hf => ?_)
      · refine E_tswI (pc := 24) (tgt := 60) (0) dX11_would_24 (by rw [n24_0]; decide) (by decide) (by decide) rfl (by decide) ?_
        refine E_aload_n (pc := 60) dX11_would_60 rfl ?_
        refine E_getR (pc := 61) dX11_would_61 fl_X11_74 hf (fun v18 hf => ?_)
        refine E_Vi (pc := 64) (d2 := D_X0_mark) (ci := 0) [] dX11_would_64 ml_X11_206 mf_X0_mark im_X0_mark rfl rfl rfl (by decide) (Nat.le_of_ble_eq_true rfl) (Nat.le_of_ble_eq_true rfl) rfl (fun _ _ h => f_X0_mark_ok h) hf (fun v20 μ19 hf => ?_)
        exact E_iret (pc := 67) dX11_would_67 rfl hf
      · refine ifS hf (fun n24_1 hf => ?_) (fun n24_1 hf => ?_)
        · refine E_tswI (pc := 24) (tgt := 68) (1) dX11_would_24 (by rw [n24_1]; decide) (by decide) (by decide) rfl (by decide) ?_
          refine E_aload_n (pc := 68) dX11_would_68 rfl ?_
          refine E_getR (pc := 69) dX11_would_69 fl_X11_74 hf (fun v16 hf => ?_)
          refine E_getI (pc := 72) dX11_would_72 fl_X11_231 hf (fun v17 hf => ?_)
          exact E_iret (pc := 75) dX11_would_75 rfl hf
        · refine ifS hf (fun n24_2 hf => ?_) (fun n24_2 hf => ?_)
          · refine E_tswI (pc := 24) (tgt := 76) (2) dX11_would_24 (by rw [n24_2]; decide) (by decide) (by decide) rfl (by decide) ?_
            refine E_aload_n (pc := 76) dX11_would_76 rfl ?_
            refine E_getR (pc := 77) dX11_would_77 fl_X11_74 hf (fun v14 hf => ?_)
            refine E_getI (pc := 80) dX11_would_80 fl_X11_203 hf (fun v15 hf => ?_)
            exact E_iret (pc := 83) dX11_would_83 rfl hf
          · refine ifS hf (fun n24_3 hf => ?_) (fun n24_3 hf => ?_)
            · refine E_tswI (pc := 24) (tgt := 84) (3) dX11_would_24 (by rw [n24_3]; decide) (by decide) (by decide) rfl (by decide) ?_
              refine E_aload_n (pc := 84) dX11_would_84 rfl ?_
              refine E_getR (pc := 85) dX11_would_85 fl_X11_74 hf (fun v12 hf => ?_)
              refine E_getI (pc := 88) dX11_would_88 fl_X11_197 hf (fun v13 hf => ?_)
              exact E_iret (pc := 91) dX11_would_91 rfl hf
            · refine ifS hf (fun n24_4 hf => ?_) (fun n24_4 hf => ?_)
              · refine E_tswI (pc := 24) (tgt := 92) (4) dX11_would_24 (by rw [n24_4]; decide) (by decide) (by decide) rfl (by decide) ?_
                refine E_aload_n (pc := 92) dX11_would_92 rfl ?_
                refine E_getR (pc := 93) dX11_would_93 fl_X11_74 hf (fun v10 hf => ?_)
                refine E_getI (pc := 96) dX11_would_96 fl_X11_234 hf (fun v11 hf => ?_)
                exact E_iret (pc := 99) dX11_would_99 rfl hf
              · refine E_tswD (pc := 24) (tgt := 100) dX11_would_24 (by have q0 : ¬ (x4).toInt = 0 := i32ne n24_0; have q1 : ¬ (x4).toInt = 1 := i32ne n24_1; have q2 : ¬ (x4).toInt = 2 := i32ne n24_2; have q3 : ¬ (x4).toInt = 3 := i32ne n24_3; have q4 : ¬ (x4).toInt = 4 := i32ne n24_4;  omega) (by decide) ?_
                refine E_iconst (pc := 100) (v := (-1 : Int32)) dX11_would_100 (by decide) ?_
                exact E_iret (pc := 101) dX11_would_101 rfl hf
theorem dX11_lean_0 : decode cX11_lean 0 = .ok (.aload_n 0, 1) := by decide +kernel
theorem dX11_lean_1 : decode cX11_lean 1 = .ok (.iload_n 1, 1) := by decide +kernel
theorem dX11_lean_2 : decode cX11_lean 2 = .ok (.invokevirtual 160, 3) := by decide +kernel
theorem dX11_lean_5 : decode cX11_lean 5 = .ok (.ifCond .ne 5, 3) := by decide +kernel
theorem dX11_lean_8 : decode cX11_lean 8 = .ok (.iconst (-1), 1) := by decide +kernel
theorem dX11_lean_9 : decode cX11_lean 9 = .ok (.ireturn, 1) := by decide +kernel
theorem dX11_lean_10 : decode cX11_lean 10 = .ok (.iconst (-1), 1) := by decide +kernel
theorem dX11_lean_11 : decode cX11_lean 11 = .ok (.istore_n 2, 1) := by decide +kernel
theorem dX11_lean_12 : decode cX11_lean 12 = .ok (.iconst 0, 1) := by decide +kernel
theorem dX11_lean_13 : decode cX11_lean 13 = .ok (.istore_n 3, 1) := by decide +kernel
theorem dX11_lean_14 : decode cX11_lean 14 = .ok (.iconst 0, 1) := by decide +kernel
theorem dX11_lean_15 : decode cX11_lean 15 = .ok (.istore 4, 2) := by decide +kernel
theorem dX11_lean_17 : decode cX11_lean 17 = .ok (.iconst 0, 1) := by decide +kernel
theorem dX11_lean_18 : decode cX11_lean 18 = .ok (.istore 5, 2) := by decide +kernel
theorem dX11_lean_20 : decode cX11_lean 20 = .ok (.iload 5, 2) := by decide +kernel
theorem dX11_lean_22 : decode cX11_lean 22 = .ok (.iconst 5, 1) := by decide +kernel
theorem dX11_lean_23 : decode cX11_lean 23 = .ok (.if_icmp .ge 69, 3) := by decide +kernel
theorem dX11_lean_26 : decode cX11_lean 26 = .ok (.aload_n 0, 1) := by decide +kernel
theorem dX11_lean_27 : decode cX11_lean 27 = .ok (.iload_n 1, 1) := by decide +kernel
theorem dX11_lean_28 : decode cX11_lean 28 = .ok (.iload 5, 2) := by decide +kernel
theorem dX11_lean_30 : decode cX11_lean 30 = .ok (.invokevirtual 190, 3) := by decide +kernel
theorem dX11_lean_33 : decode cX11_lean 33 = .ok (.aload_n 0, 1) := by decide +kernel
theorem dX11_lean_34 : decode cX11_lean 34 = .ok (.getfield 74, 3) := by decide +kernel
theorem dX11_lean_37 : decode cX11_lean 37 = .ok (.invokevirtual 206, 3) := by decide +kernel
theorem dX11_lean_40 : decode cX11_lean 40 = .ok (.istore 6, 2) := by decide +kernel
theorem dX11_lean_42 : decode cX11_lean 42 = .ok (.iload_n 2, 1) := by decide +kernel
theorem dX11_lean_43 : decode cX11_lean 43 = .ok (.iconst (-1), 1) := by decide +kernel
theorem dX11_lean_44 : decode cX11_lean 44 = .ok (.if_icmp .eq 27, 3) := by decide +kernel
theorem dX11_lean_47 : decode cX11_lean 47 = .ok (.iload 6, 2) := by decide +kernel
theorem dX11_lean_49 : decode cX11_lean 49 = .ok (.iload_n 3, 1) := by decide +kernel
theorem dX11_lean_50 : decode cX11_lean 50 = .ok (.if_icmp .gt 21, 3) := by decide +kernel
theorem dX11_lean_53 : decode cX11_lean 53 = .ok (.iload 6, 2) := by decide +kernel
theorem dX11_lean_55 : decode cX11_lean 55 = .ok (.iload_n 3, 1) := by decide +kernel
theorem dX11_lean_56 : decode cX11_lean 56 = .ok (.if_icmp .ne 30, 3) := by decide +kernel
theorem dX11_lean_59 : decode cX11_lean 59 = .ok (.aload_n 0, 1) := by decide +kernel
theorem dX11_lean_60 : decode cX11_lean 60 = .ok (.getfield 74, 3) := by decide +kernel
theorem dX11_lean_63 : decode cX11_lean 63 = .ok (.getfield 231, 3) := by decide +kernel
theorem dX11_lean_66 : decode cX11_lean 66 = .ok (.iload 4, 2) := by decide +kernel
theorem dX11_lean_68 : decode cX11_lean 68 = .ok (.if_icmp .ge 18, 3) := by decide +kernel
theorem dX11_lean_71 : decode cX11_lean 71 = .ok (.iload 5, 2) := by decide +kernel
theorem dX11_lean_73 : decode cX11_lean 73 = .ok (.istore_n 2, 1) := by decide +kernel
theorem dX11_lean_74 : decode cX11_lean 74 = .ok (.iload 6, 2) := by decide +kernel
theorem dX11_lean_76 : decode cX11_lean 76 = .ok (.istore_n 3, 1) := by decide +kernel
theorem dX11_lean_77 : decode cX11_lean 77 = .ok (.aload_n 0, 1) := by decide +kernel
theorem dX11_lean_78 : decode cX11_lean 78 = .ok (.getfield 74, 3) := by decide +kernel
theorem dX11_lean_81 : decode cX11_lean 81 = .ok (.getfield 231, 3) := by decide +kernel
theorem dX11_lean_84 : decode cX11_lean 84 = .ok (.istore 4, 2) := by decide +kernel
theorem dX11_lean_86 : decode cX11_lean 86 = .ok (.iinc 5 1, 3) := by decide +kernel
theorem dX11_lean_89 : decode cX11_lean 89 = .ok (.goto (-69), 3) := by decide +kernel
theorem dX11_lean_92 : decode cX11_lean 92 = .ok (.iload_n 2, 1) := by decide +kernel
theorem dX11_lean_93 : decode cX11_lean 93 = .ok (.ireturn, 1) := by decide +kernel
abbrev D_X11_lean : Nat := 8
def f_X11_lean_L20 (K92 : Mm → Int32 → Option (Int32 × Mm)) : Nat → Mm → Nat → Int32 → Int32 → Int32 → Int32 → Int32 → Option (Int32 × Mm)
  | 0, _, _, _, _, _, _, _ => none
  | n + 1, μ0, a9, x10, x11, x12, x13, x14 =>
    (if (5 : Int32) ≤ x14 then
    K92 μ0 x11
    else
    ((ob μ0 a9 11).bind fun _ =>
    ((f_X11_tryFall μ0 a9 x10 x14).bind fun μ15 =>
    ((gR μ15 a9 11 9).bind fun v16 =>
    ((ob μ15 v16 0).bind fun _ =>
    (bd (f_X0_mark μ15 v16) fun v18 μ17 =>
    (nm v18 fun x19 =>
    (if x11 = (-1 : Int32) then
    (nm x14 fun x20 =>
    (nm x19 fun x21 =>
    ((gR μ17 a9 11 9).bind fun v22 =>
    ((gI μ17 v22 0 6).bind fun v23 =>
    (nm v23 fun x24 =>
    (nm (x14 + Int32.ofInt (1)) fun x25 =>
    f_X11_lean_L20 K92 n μ17 a9 x10 x20 x21 x24 x25))))))
    else
    (if x12 < x19 then
    (nm x14 fun x26 =>
    (nm x19 fun x27 =>
    ((gR μ17 a9 11 9).bind fun v28 =>
    ((gI μ17 v28 0 6).bind fun v29 =>
    (nm v29 fun x30 =>
    (nm (x14 + Int32.ofInt (1)) fun x31 =>
    f_X11_lean_L20 K92 n μ17 a9 x10 x26 x27 x30 x31))))))
    else
    (if x19 = x12 then
    ((gR μ17 a9 11 9).bind fun v32 =>
    ((gI μ17 v32 0 6).bind fun v33 =>
    (if x13 ≤ v33 then
    (nm (x14 + Int32.ofInt (1)) fun x34 =>
    f_X11_lean_L20 K92 n μ17 a9 x10 x11 x12 x13 x34)
    else
    (nm x14 fun x35 =>
    (nm x19 fun x36 =>
    ((gR μ17 a9 11 9).bind fun v37 =>
    ((gI μ17 v37 0 6).bind fun v38 =>
    (nm v38 fun x39 =>
    (nm (x14 + Int32.ofInt (1)) fun x40 =>
    f_X11_lean_L20 K92 n μ17 a9 x10 x35 x36 x39 x40)))))))))
    else
    (nm (x14 + Int32.ofInt (1)) fun x41 =>
    f_X11_lean_L20 K92 n μ17 a9 x10 x11 x12 x13 x41)))))))))))
set_option maxHeartbeats 4000000 in
set_option maxRecDepth 100000 in
theorem f_X11_lean_L20_ok {l : Launch} {G : GG} {K92 : Mm → Int32 → Option (Int32 × Mm)} {r : Int32} {μ' : Mm} (n : Nat) (μ0 : Mm) (a9 : Nat) (x10 : Int32) (x11 : Int32) (x12 : Int32) (x13 : Int32) (x14 : Int32) (hf : f_X11_lean_L20 K92 n μ0 a9 x10 x11 x12 x13 x14 = some (r, μ')) (hK92 : ∀ (μ1 : Mm) (y2 : Int32), K92 μ1 y2 = some (r, μ') → Ev l G D_X11_lean yX11_lean cX11_lean 7 (some .int) 92 [(2, .int y2)] [] μ1 (some (.int r)) μ') : Ev l G D_X11_lean yX11_lean cX11_lean 7 (some .int) 20 [(0, .ref a9), (1, .int x10), (2, .int x11), (3, .int x12), (4, .int x13), (5, .int x14)] [] μ0 (some (.int r)) μ' := by
  induction n generalizing μ0 a9 x10 x11 x12 x13 x14 with
  | zero => cases hf
  | succ n ih0 =>
    have ih : ∀ (μ0 : Mm) (a9 : Nat) (x10 : Int32) (x11 : Int32) (x12 : Int32) (x13 : Int32) (x14 : Int32), f_X11_lean_L20 K92 n μ0 a9 x10 x11 x12 x13 x14 = some (r, μ') → Ev l G D_X11_lean yX11_lean cX11_lean 7 (some .int) 20 [(0, .ref a9), (1, .int x10), (2, .int x11), (3, .int x12), (4, .int x13), (5, .int x14)] [] μ0 (some (.int r)) μ' := fun μ0 a9 x10 x11 x12 x13 x14 hf => ih0 μ0 a9 x10 x11 x12 x13 x14 hf
    rw [f_X11_lean_L20] at hf
    refine E_iload (pc := 20) dX11_lean_20 rfl ?_
    refine E_iconst (pc := 22) (v := (5 : Int32)) dX11_lean_22 (by decide) ?_
    refine E_icmp_ge (pc := 23) (tgt := 92) dX11_lean_23 (by decide) hf (fun hf => ?_) (fun hf => ?_)
    · refine Ev.sub [2] rfl ?_
      exact hK92 _ _ hf
    · refine E_aload_n (pc := 26) dX11_lean_26 rfl ?_
      refine E_iload_n (pc := 27) dX11_lean_27 rfl ?_
      refine E_iload (pc := 28) dX11_lean_28 rfl ?_
      refine E_Vv (pc := 30) (d2 := D_X11_tryFall) (ci := 11) [.int x10, .int x14] dX11_lean_30 ml_X11_190 mf_X11_tryFall im_X11_tryFall rfl rfl rfl (by decide) (Nat.le_of_ble_eq_true rfl) (Nat.le_of_ble_eq_true rfl) rfl (fun _ h => f_X11_tryFall_ok h) hf (fun μ15 hf => ?_)
      refine E_aload_n (pc := 33) dX11_lean_33 rfl ?_
      refine E_getR (pc := 34) dX11_lean_34 fl_X11_74 hf (fun v16 hf => ?_)
      refine E_Vi (pc := 37) (d2 := D_X0_mark) (ci := 0) [] dX11_lean_37 ml_X11_206 mf_X0_mark im_X0_mark rfl rfl rfl (by decide) (Nat.le_of_ble_eq_true rfl) (Nat.le_of_ble_eq_true rfl) rfl (fun _ _ h => f_X0_mark_ok h) hf (fun v18 μ17 hf => ?_)
      refine E_istore (pc := 40) (ls' := fun x19 => [(6, .int x19), (0, .ref a9), (1, .int x10), (2, .int x11), (3, .int x12), (4, .int x13), (5, .int x14)]) dX11_lean_40 (by decide) (fun _ => rfl) hf (fun x19 hf => ?_)
      refine E_iload_n (pc := 42) dX11_lean_42 rfl ?_
      refine E_iconst (pc := 43) (v := (-1 : Int32)) dX11_lean_43 (by decide) ?_
      refine E_icmp_eq (pc := 44) (tgt := 71) dX11_lean_44 (by decide) hf (fun hf => ?_) (fun hf => ?_)
      · refine E_iload (pc := 71) dX11_lean_71 rfl ?_
        refine E_istore_n (pc := 73) (ls' := fun x20 => [(2, .int x20), (6, .int x19), (0, .ref a9), (1, .int x10), (3, .int x12), (4, .int x13), (5, .int x14)]) dX11_lean_73 (by decide) (fun _ => rfl) hf (fun x20 hf => ?_)
        refine E_iload (pc := 74) dX11_lean_74 rfl ?_
        refine E_istore_n (pc := 76) (ls' := fun x21 => [(3, .int x21), (2, .int x20), (6, .int x19), (0, .ref a9), (1, .int x10), (4, .int x13), (5, .int x14)]) dX11_lean_76 (by decide) (fun _ => rfl) hf (fun x21 hf => ?_)
        refine E_aload_n (pc := 77) dX11_lean_77 rfl ?_
        refine E_getR (pc := 78) dX11_lean_78 fl_X11_74 hf (fun v22 hf => ?_)
        refine E_getI (pc := 81) dX11_lean_81 fl_X11_231 hf (fun v23 hf => ?_)
        refine E_istore (pc := 84) (ls' := fun x24 => [(4, .int x24), (3, .int x21), (2, .int x20), (6, .int x19), (0, .ref a9), (1, .int x10), (5, .int x14)]) dX11_lean_84 (by decide) (fun _ => rfl) hf (fun x24 hf => ?_)
        refine E_iinc (pc := 86) (ls' := fun x25 => [(5, .int x25), (4, .int x24), (3, .int x21), (2, .int x20), (6, .int x19), (0, .ref a9), (1, .int x10)]) dX11_lean_86 rfl (by decide) (fun _ => rfl) hf (fun x25 hf => ?_)
        refine E_goto (pc := 89) (tgt := 20) dX11_lean_89 (by decide) ?_
        refine Ev.sub [5, 6, 3, 2, 1, 0] rfl ?_
        exact ih _ _ _ _ _ _ _ hf
      · refine E_iload (pc := 47) dX11_lean_47 rfl ?_
        refine E_iload_n (pc := 49) dX11_lean_49 rfl ?_
        refine E_icmp_gt (pc := 50) (tgt := 71) dX11_lean_50 (by decide) hf (fun hf => ?_) (fun hf => ?_)
        · refine E_iload (pc := 71) dX11_lean_71 rfl ?_
          refine E_istore_n (pc := 73) (ls' := fun x26 => [(2, .int x26), (6, .int x19), (0, .ref a9), (1, .int x10), (3, .int x12), (4, .int x13), (5, .int x14)]) dX11_lean_73 (by decide) (fun _ => rfl) hf (fun x26 hf => ?_)
          refine E_iload (pc := 74) dX11_lean_74 rfl ?_
          refine E_istore_n (pc := 76) (ls' := fun x27 => [(3, .int x27), (2, .int x26), (6, .int x19), (0, .ref a9), (1, .int x10), (4, .int x13), (5, .int x14)]) dX11_lean_76 (by decide) (fun _ => rfl) hf (fun x27 hf => ?_)
          refine E_aload_n (pc := 77) dX11_lean_77 rfl ?_
          refine E_getR (pc := 78) dX11_lean_78 fl_X11_74 hf (fun v28 hf => ?_)
          refine E_getI (pc := 81) dX11_lean_81 fl_X11_231 hf (fun v29 hf => ?_)
          refine E_istore (pc := 84) (ls' := fun x30 => [(4, .int x30), (3, .int x27), (2, .int x26), (6, .int x19), (0, .ref a9), (1, .int x10), (5, .int x14)]) dX11_lean_84 (by decide) (fun _ => rfl) hf (fun x30 hf => ?_)
          refine E_iinc (pc := 86) (ls' := fun x31 => [(5, .int x31), (4, .int x30), (3, .int x27), (2, .int x26), (6, .int x19), (0, .ref a9), (1, .int x10)]) dX11_lean_86 rfl (by decide) (fun _ => rfl) hf (fun x31 hf => ?_)
          refine E_goto (pc := 89) (tgt := 20) dX11_lean_89 (by decide) ?_
          refine Ev.sub [5, 6, 3, 2, 1, 0] rfl ?_
          exact ih _ _ _ _ _ _ _ hf
        · refine E_iload (pc := 53) dX11_lean_53 rfl ?_
          refine E_iload_n (pc := 55) dX11_lean_55 rfl ?_
          refine E_icmp_ne (pc := 56) (tgt := 86) dX11_lean_56 (by decide) hf (fun hf => ?_) (fun hf => ?_)
          · refine E_aload_n (pc := 59) dX11_lean_59 rfl ?_
            refine E_getR (pc := 60) dX11_lean_60 fl_X11_74 hf (fun v32 hf => ?_)
            refine E_getI (pc := 63) dX11_lean_63 fl_X11_231 hf (fun v33 hf => ?_)
            refine E_iload (pc := 66) dX11_lean_66 rfl ?_
            refine E_icmp_ge (pc := 68) (tgt := 86) dX11_lean_68 (by decide) hf (fun hf => ?_) (fun hf => ?_)
            · refine E_iinc (pc := 86) (ls' := fun x34 => [(5, .int x34), (6, .int x19), (0, .ref a9), (1, .int x10), (2, .int x11), (3, .int x12), (4, .int x13)]) dX11_lean_86 rfl (by decide) (fun _ => rfl) hf (fun x34 hf => ?_)
              refine E_goto (pc := 89) (tgt := 20) dX11_lean_89 (by decide) ?_
              refine Ev.sub [2, 3, 4, 5, 6, 0] rfl ?_
              exact ih _ _ _ _ _ _ _ hf
            · refine E_iload (pc := 71) dX11_lean_71 rfl ?_
              refine E_istore_n (pc := 73) (ls' := fun x35 => [(2, .int x35), (6, .int x19), (0, .ref a9), (1, .int x10), (3, .int x12), (4, .int x13), (5, .int x14)]) dX11_lean_73 (by decide) (fun _ => rfl) hf (fun x35 hf => ?_)
              refine E_iload (pc := 74) dX11_lean_74 rfl ?_
              refine E_istore_n (pc := 76) (ls' := fun x36 => [(3, .int x36), (2, .int x35), (6, .int x19), (0, .ref a9), (1, .int x10), (4, .int x13), (5, .int x14)]) dX11_lean_76 (by decide) (fun _ => rfl) hf (fun x36 hf => ?_)
              refine E_aload_n (pc := 77) dX11_lean_77 rfl ?_
              refine E_getR (pc := 78) dX11_lean_78 fl_X11_74 hf (fun v37 hf => ?_)
              refine E_getI (pc := 81) dX11_lean_81 fl_X11_231 hf (fun v38 hf => ?_)
              refine E_istore (pc := 84) (ls' := fun x39 => [(4, .int x39), (3, .int x36), (2, .int x35), (6, .int x19), (0, .ref a9), (1, .int x10), (5, .int x14)]) dX11_lean_84 (by decide) (fun _ => rfl) hf (fun x39 hf => ?_)
              refine E_iinc (pc := 86) (ls' := fun x40 => [(5, .int x40), (4, .int x39), (3, .int x36), (2, .int x35), (6, .int x19), (0, .ref a9), (1, .int x10)]) dX11_lean_86 rfl (by decide) (fun _ => rfl) hf (fun x40 hf => ?_)
              refine E_goto (pc := 89) (tgt := 20) dX11_lean_89 (by decide) ?_
              refine Ev.sub [5, 6, 3, 2, 1, 0] rfl ?_
              exact ih _ _ _ _ _ _ _ hf
          · refine E_iinc (pc := 86) (ls' := fun x41 => [(5, .int x41), (6, .int x19), (0, .ref a9), (1, .int x10), (2, .int x11), (3, .int x12), (4, .int x13)]) dX11_lean_86 rfl (by decide) (fun _ => rfl) hf (fun x41 hf => ?_)
            refine E_goto (pc := 89) (tgt := 20) dX11_lean_89 (by decide) ?_
            refine Ev.sub [2, 3, 4, 5, 6, 0] rfl ?_
            exact ih _ _ _ _ _ _ _ hf
set_option maxRecDepth 100000 in
def f_X11_lean (μ0 : Mm) (a1 : Nat) (x2 : Int32) : Option (Int32 × Mm) :=
 ((ob μ0 a1 11).bind fun _ =>
    (bd (f_X11_isPerson μ0 a1 x2) fun v4 μ3 =>
    (if v4 = 0 then
    (some ((-1 : Int32), μ3))
    else
    (nm (-1 : Int32) fun x5 =>
    (nm (0 : Int32) fun x6 =>
    (nm (0 : Int32) fun x7 =>
    (nm (0 : Int32) fun x8 =>
    f_X11_lean_L20 (fun μ42 x43 =>
    (some (x43, μ42))) FU μ3 a1 x2 x5 x6 x7 x8)))))))
set_option maxHeartbeats 4000000 in
set_option maxRecDepth 100000 in
theorem f_X11_lean_ok {l : Launch} {G : GG} {μ0 : Mm} {a1 : Nat} {x2 : Int32} {r : Int32} {μ' : Mm} (hf : f_X11_lean μ0 a1 x2 = some (r, μ')) : EvM l G D_X11_lean yX11_lean cX11_lean 7 (some .int) [.ref a1, .int x2] μ0 (some (.int r)) μ' := by
  show Ev l G D_X11_lean yX11_lean cX11_lean 7 (some .int) 0 [(0, .ref a1), (1, .int x2)] [] μ0 (some (.int r)) μ'
  unfold f_X11_lean at hf
  refine E_aload_n (pc := 0) dX11_lean_0 rfl ?_
  refine E_iload_n (pc := 1) dX11_lean_1 rfl ?_
  refine E_Vi (pc := 2) (d2 := D_X11_isPerson) (ci := 11) [.int x2] dX11_lean_2 ml_X11_160 mf_X11_isPerson im_X11_isPerson rfl rfl rfl (by decide) (Nat.le_of_ble_eq_true rfl) (Nat.le_of_ble_eq_true rfl) rfl (fun _ _ h => f_X11_isPerson_ok h) hf (fun v4 μ3 hf => ?_)
  refine E_if_ne (pc := 5) (tgt := 10) dX11_lean_5 (by decide) hf (fun hf => ?_) (fun hf => ?_)
  · refine E_iconst (pc := 8) (v := (-1 : Int32)) dX11_lean_8 (by decide) ?_
    exact E_iret (pc := 9) dX11_lean_9 rfl hf
  · refine E_iconst (pc := 10) (v := (-1 : Int32)) dX11_lean_10 (by decide) ?_
    refine E_istore_n (pc := 11) (ls' := fun x5 => [(2, .int x5), (0, .ref a1), (1, .int x2)]) dX11_lean_11 (by decide) (fun _ => rfl) hf (fun x5 hf => ?_)
    refine E_iconst (pc := 12) (v := (0 : Int32)) dX11_lean_12 (by decide) ?_
    refine E_istore_n (pc := 13) (ls' := fun x6 => [(3, .int x6), (2, .int x5), (0, .ref a1), (1, .int x2)]) dX11_lean_13 (by decide) (fun _ => rfl) hf (fun x6 hf => ?_)
    refine E_iconst (pc := 14) (v := (0 : Int32)) dX11_lean_14 (by decide) ?_
    refine E_istore (pc := 15) (ls' := fun x7 => [(4, .int x7), (3, .int x6), (2, .int x5), (0, .ref a1), (1, .int x2)]) dX11_lean_15 (by decide) (fun _ => rfl) hf (fun x7 hf => ?_)
    refine E_iconst (pc := 17) (v := (0 : Int32)) dX11_lean_17 (by decide) ?_
    refine E_istore (pc := 18) (ls' := fun x8 => [(5, .int x8), (4, .int x7), (3, .int x6), (2, .int x5), (0, .ref a1), (1, .int x2)]) dX11_lean_18 (by decide) (fun _ => rfl) hf (fun x8 hf => ?_)
    refine Ev.sub [4, 5, 3, 2, 1, 0] rfl ?_
    refine f_X11_lean_L20_ok  _ _ _ _ _ _ _ _ hf (fun μ42 x43 hf => ?_)
    · refine E_iload_n (pc := 92) dX11_lean_92 rfl ?_
      exact E_iret (pc := 93) dX11_lean_93 rfl hf
theorem dX11_way_0 : decode cX11_way 0 = .ok (.aload_n 0, 1) := by decide +kernel
theorem dX11_way_1 : decode cX11_way 1 = .ok (.iload_n 1, 1) := by decide +kernel
theorem dX11_way_2 : decode cX11_way 2 = .ok (.invokevirtual 160, 3) := by decide +kernel
theorem dX11_way_5 : decode cX11_way 5 = .ok (.ifCond .eq 9, 3) := by decide +kernel
theorem dX11_way_8 : decode cX11_way 8 = .ok (.iload_n 2, 1) := by decide +kernel
theorem dX11_way_9 : decode cX11_way 9 = .ok (.bipush (-2), 2) := by decide +kernel
theorem dX11_way_11 : decode cX11_way 11 = .ok (.if_icmp .ge 6, 3) := by decide +kernel
theorem dX11_way_14 : decode cX11_way 14 = .ok (.bipush (-3), 2) := by decide +kernel
theorem dX11_way_16 : decode cX11_way 16 = .ok (.ireturn, 1) := by decide +kernel
theorem dX11_way_17 : decode cX11_way 17 = .ok (.aload_n 0, 1) := by decide +kernel
theorem dX11_way_18 : decode cX11_way 18 = .ok (.getfield 83, 3) := by decide +kernel
theorem dX11_way_21 : decode cX11_way 21 = .ok (.aload_n 0, 1) := by decide +kernel
theorem dX11_way_22 : decode cX11_way 22 = .ok (.getfield 58, 3) := by decide +kernel
theorem dX11_way_25 : decode cX11_way 25 = .ok (.aload_n 0, 1) := by decide +kernel
theorem dX11_way_26 : decode cX11_way 26 = .ok (.invokevirtual 237, 3) := by decide +kernel
theorem dX11_way_29 : decode cX11_way 29 = .ok (.iload_n 1, 1) := by decide +kernel
theorem dX11_way_30 : decode cX11_way 30 = .ok (.invokevirtual 241, 3) := by decide +kernel
theorem dX11_way_33 : decode cX11_way 33 = .ok (.iload_n 2, 1) := by decide +kernel
theorem dX11_way_34 : decode cX11_way 34 = .ok (.iconst (-1), 1) := by decide +kernel
theorem dX11_way_35 : decode cX11_way 35 = .ok (.if_icmp .ne 11, 3) := by decide +kernel
theorem dX11_way_38 : decode cX11_way 38 = .ok (.aload_n 0, 1) := by decide +kernel
theorem dX11_way_39 : decode cX11_way 39 = .ok (.getfield 83, 3) := by decide +kernel
theorem dX11_way_42 : decode cX11_way 42 = .ok (.getfield 245, 3) := by decide +kernel
theorem dX11_way_45 : decode cX11_way 45 = .ok (.ireturn, 1) := by decide +kernel
theorem dX11_way_46 : decode cX11_way 46 = .ok (.iload_n 2, 1) := by decide +kernel
theorem dX11_way_47 : decode cX11_way 47 = .ok (.bipush (-2), 2) := by decide +kernel
theorem dX11_way_49 : decode cX11_way 49 = .ok (.if_icmp .ne 11, 3) := by decide +kernel
theorem dX11_way_52 : decode cX11_way 52 = .ok (.aload_n 0, 1) := by decide +kernel
theorem dX11_way_53 : decode cX11_way 53 = .ok (.getfield 83, 3) := by decide +kernel
theorem dX11_way_56 : decode cX11_way 56 = .ok (.getfield 248, 3) := by decide +kernel
theorem dX11_way_59 : decode cX11_way 59 = .ok (.ireturn, 1) := by decide +kernel
theorem dX11_way_60 : decode cX11_way 60 = .ok (.iload_n 2, 1) := by decide +kernel
theorem dX11_way_61 : decode cX11_way 61 = .ok (.aload_n 0, 1) := by decide +kernel
theorem dX11_way_62 : decode cX11_way 62 = .ok (.getfield 83, 3) := by decide +kernel
theorem dX11_way_65 : decode cX11_way 65 = .ok (.getfield 248, 3) := by decide +kernel
theorem dX11_way_68 : decode cX11_way 68 = .ok (.if_icmp .ge 15, 3) := by decide +kernel
theorem dX11_way_71 : decode cX11_way 71 = .ok (.aload_n 0, 1) := by decide +kernel
theorem dX11_way_72 : decode cX11_way 72 = .ok (.getfield 83, 3) := by decide +kernel
theorem dX11_way_75 : decode cX11_way 75 = .ok (.getfield 251, 3) := by decide +kernel
theorem dX11_way_78 : decode cX11_way 78 = .ok (.iload_n 2, 1) := by decide +kernel
theorem dX11_way_79 : decode cX11_way 79 = .ok (.iaload, 1) := by decide +kernel
theorem dX11_way_80 : decode cX11_way 80 = .ok (.goto 5, 3) := by decide +kernel
theorem dX11_way_83 : decode cX11_way 83 = .ok (.bipush (-2), 2) := by decide +kernel
theorem dX11_way_85 : decode cX11_way 85 = .ok (.ireturn, 1) := by decide +kernel
abbrev D_X11_way : Nat := 54
set_option maxRecDepth 100000 in
def f_X11_way (μ0 : Mm) (a1 : Nat) (x2 : Int32) (x3 : Int32) : Option (Int32 × Mm) :=
 ((ob μ0 a1 11).bind fun _ =>
    (bd (f_X11_isPerson μ0 a1 x2) fun v5 μ4 =>
    (if v5 = 0 then
    (some ((-3 : Int32), μ4))
    else
    (if (-2 : Int32) ≤ x3 then
    ((gR μ4 a1 11 10).bind fun v6 =>
    ((gR μ4 a1 11 6).bind fun v7 =>
    ((ob μ4 a1 11).bind fun _ =>
    (bd (f_X11_law μ4 a1) fun v9 μ8 =>
    ((ob μ8 v6 10).bind fun _ =>
    ((f_X10_seek μ8 v6 v7 v9 x2).bind fun μ10 =>
    (if x3 = (-1 : Int32) then
    ((gR μ10 a1 11 10).bind fun v11 =>
    ((gI μ10 v11 10 3).bind fun v12 =>
    (some (v12, μ10))))
    else
    (if x3 = (-2 : Int32) then
    ((gR μ10 a1 11 10).bind fun v13 =>
    ((gI μ10 v13 10 4).bind fun v14 =>
    (some (v14, μ10))))
    else
    ((gR μ10 a1 11 10).bind fun v15 =>
    ((gI μ10 v15 10 4).bind fun v16 =>
    (if v16 ≤ x3 then
    (some ((-2 : Int32), μ10))
    else
    ((gR μ10 a1 11 10).bind fun v17 =>
    ((gR μ10 v17 10 2).bind fun v18 =>
    ((aI μ10 v18 0 x3).bind fun v19 =>
    (some (v19, μ10))))))))))))))))
    else
    (some ((-3 : Int32), μ4))))))
set_option maxHeartbeats 4000000 in
set_option maxRecDepth 100000 in
theorem f_X11_way_ok {l : Launch} {G : GG} {μ0 : Mm} {a1 : Nat} {x2 : Int32} {x3 : Int32} {r : Int32} {μ' : Mm} (hf : f_X11_way μ0 a1 x2 x3 = some (r, μ')) : EvM l G D_X11_way yX11_way cX11_way 3 (some .int) [.ref a1, .int x2, .int x3] μ0 (some (.int r)) μ' := by
  show Ev l G D_X11_way yX11_way cX11_way 3 (some .int) 0 [(0, .ref a1), (1, .int x2), (2, .int x3)] [] μ0 (some (.int r)) μ'
  unfold f_X11_way at hf
  refine E_aload_n (pc := 0) dX11_way_0 rfl ?_
  refine E_iload_n (pc := 1) dX11_way_1 rfl ?_
  refine E_Vi (pc := 2) (d2 := D_X11_isPerson) (ci := 11) [.int x2] dX11_way_2 ml_X11_160 mf_X11_isPerson im_X11_isPerson rfl rfl rfl (by decide) (Nat.le_of_ble_eq_true rfl) (Nat.le_of_ble_eq_true rfl) rfl (fun _ _ h => f_X11_isPerson_ok h) hf (fun v5 μ4 hf => ?_)
  refine E_if_eq (pc := 5) (tgt := 14) dX11_way_5 (by decide) hf (fun hf => ?_) (fun hf => ?_)
  · refine E_bipush (pc := 14) (v := (-3 : Int32)) dX11_way_14 (by decide) ?_
    exact E_iret (pc := 16) dX11_way_16 rfl hf
  · refine E_iload_n (pc := 8) dX11_way_8 rfl ?_
    refine E_bipush (pc := 9) (v := (-2 : Int32)) dX11_way_9 (by decide) ?_
    refine E_icmp_ge (pc := 11) (tgt := 17) dX11_way_11 (by decide) hf (fun hf => ?_) (fun hf => ?_)
    · refine E_aload_n (pc := 17) dX11_way_17 rfl ?_
      refine E_getR (pc := 18) dX11_way_18 fl_X11_83 hf (fun v6 hf => ?_)
      refine E_aload_n (pc := 21) dX11_way_21 rfl ?_
      refine E_getR (pc := 22) dX11_way_22 fl_X11_58 hf (fun v7 hf => ?_)
      refine E_aload_n (pc := 25) dX11_way_25 rfl ?_
      refine E_Vr (pc := 26) (d2 := D_X11_law) (ci := 11) [] dX11_way_26 ml_X11_237 mf_X11_law im_X11_law rfl rfl rfl (by decide) (Nat.le_of_ble_eq_true rfl) (Nat.le_of_ble_eq_true rfl) rfl (fun _ _ h => f_X11_law_ok h) hf (fun v9 μ8 hf => ?_)
      refine E_iload_n (pc := 29) dX11_way_29 rfl ?_
      refine E_Vv (pc := 30) (d2 := D_X10_seek) (ci := 10) [.ref v7, .ref v9, .int x2] dX11_way_30 ml_X11_241 mf_X10_seek im_X10_seek rfl rfl rfl (by decide) (Nat.le_of_ble_eq_true rfl) (Nat.le_of_ble_eq_true rfl) rfl (fun _ h => f_X10_seek_ok h) hf (fun μ10 hf => ?_)
      refine E_iload_n (pc := 33) dX11_way_33 rfl ?_
      refine E_iconst (pc := 34) (v := (-1 : Int32)) dX11_way_34 (by decide) ?_
      refine E_icmp_ne (pc := 35) (tgt := 46) dX11_way_35 (by decide) hf (fun hf => ?_) (fun hf => ?_)
      · refine E_aload_n (pc := 38) dX11_way_38 rfl ?_
        refine E_getR (pc := 39) dX11_way_39 fl_X11_83 hf (fun v11 hf => ?_)
        refine E_getI (pc := 42) dX11_way_42 fl_X11_245 hf (fun v12 hf => ?_)
        exact E_iret (pc := 45) dX11_way_45 rfl hf
      · refine E_iload_n (pc := 46) dX11_way_46 rfl ?_
        refine E_bipush (pc := 47) (v := (-2 : Int32)) dX11_way_47 (by decide) ?_
        refine E_icmp_ne (pc := 49) (tgt := 60) dX11_way_49 (by decide) hf (fun hf => ?_) (fun hf => ?_)
        · refine E_aload_n (pc := 52) dX11_way_52 rfl ?_
          refine E_getR (pc := 53) dX11_way_53 fl_X11_83 hf (fun v13 hf => ?_)
          refine E_getI (pc := 56) dX11_way_56 fl_X11_248 hf (fun v14 hf => ?_)
          exact E_iret (pc := 59) dX11_way_59 rfl hf
        · refine E_iload_n (pc := 60) dX11_way_60 rfl ?_
          refine E_aload_n (pc := 61) dX11_way_61 rfl ?_
          refine E_getR (pc := 62) dX11_way_62 fl_X11_83 hf (fun v15 hf => ?_)
          refine E_getI (pc := 65) dX11_way_65 fl_X11_248 hf (fun v16 hf => ?_)
          refine E_icmp_ge (pc := 68) (tgt := 83) dX11_way_68 (by decide) hf (fun hf => ?_) (fun hf => ?_)
          · refine E_bipush (pc := 83) (v := (-2 : Int32)) dX11_way_83 (by decide) ?_
            exact E_iret (pc := 85) dX11_way_85 rfl hf
          · refine E_aload_n (pc := 71) dX11_way_71 rfl ?_
            refine E_getR (pc := 72) dX11_way_72 fl_X11_83 hf (fun v17 hf => ?_)
            refine E_getR (pc := 75) dX11_way_75 fl_X11_251 hf (fun v18 hf => ?_)
            refine E_iload_n (pc := 78) dX11_way_78 rfl ?_
            refine E_iald (pc := 79) dX11_way_79 hf (fun v19 hf => ?_)
            refine E_goto (pc := 80) (tgt := 85) dX11_way_80 (by decide) ?_
            exact E_iret (pc := 85) dX11_way_85 rfl hf
    · refine E_bipush (pc := 14) (v := (-3 : Int32)) dX11_way_14 (by decide) ?_
      exact E_iret (pc := 16) dX11_way_16 rfl hf
theorem dX11_clue_0 : decode cX11_clue 0 = .ok (.iload_n 1, 1) := by decide +kernel
theorem dX11_clue_1 : decode cX11_clue 1 = .ok (.iconst (-1), 1) := by decide +kernel
theorem dX11_clue_2 : decode cX11_clue 2 = .ok (.if_icmp .ne 12, 3) := by decide +kernel
theorem dX11_clue_5 : decode cX11_clue 5 = .ok (.aload_n 0, 1) := by decide +kernel
theorem dX11_clue_6 : decode cX11_clue 6 = .ok (.getfield 58, 3) := by decide +kernel
theorem dX11_clue_9 : decode cX11_clue 9 = .ok (.invokevirtual 254, 3) := by decide +kernel
theorem dX11_clue_12 : decode cX11_clue 12 = .ok (.iconst 0, 1) := by decide +kernel
theorem dX11_clue_13 : decode cX11_clue 13 = .ok (.ireturn, 1) := by decide +kernel
theorem dX11_clue_14 : decode cX11_clue 14 = .ok (.aload_n 0, 1) := by decide +kernel
theorem dX11_clue_15 : decode cX11_clue 15 = .ok (.iload_n 1, 1) := by decide +kernel
theorem dX11_clue_16 : decode cX11_clue 16 = .ok (.invokevirtual 169, 3) := by decide +kernel
theorem dX11_clue_19 : decode cX11_clue 19 = .ok (.ifCond .eq 15, 3) := by decide +kernel
theorem dX11_clue_22 : decode cX11_clue 22 = .ok (.aload_n 0, 1) := by decide +kernel
theorem dX11_clue_23 : decode cX11_clue 23 = .ok (.getfield 58, 3) := by decide +kernel
theorem dX11_clue_26 : decode cX11_clue 26 = .ok (.getfield 257, 3) := by decide +kernel
theorem dX11_clue_29 : decode cX11_clue 29 = .ok (.bipush 8, 2) := by decide +kernel
theorem dX11_clue_31 : decode cX11_clue 31 = .ok (.if_icmp .lt 6, 3) := by decide +kernel
theorem dX11_clue_34 : decode cX11_clue 34 = .ok (.bipush (-2), 2) := by decide +kernel
theorem dX11_clue_36 : decode cX11_clue 36 = .ok (.ireturn, 1) := by decide +kernel
theorem dX11_clue_37 : decode cX11_clue 37 = .ok (.aload_n 0, 1) := by decide +kernel
theorem dX11_clue_38 : decode cX11_clue 38 = .ok (.getfield 58, 3) := by decide +kernel
theorem dX11_clue_41 : decode cX11_clue 41 = .ok (.iload_n 1, 1) := by decide +kernel
theorem dX11_clue_42 : decode cX11_clue 42 = .ok (.iload_n 2, 1) := by decide +kernel
theorem dX11_clue_43 : decode cX11_clue 43 = .ok (.invokevirtual 260, 3) := by decide +kernel
theorem dX11_clue_46 : decode cX11_clue 46 = .ok (.aload_n 0, 1) := by decide +kernel
theorem dX11_clue_47 : decode cX11_clue 47 = .ok (.getfield 58, 3) := by decide +kernel
theorem dX11_clue_50 : decode cX11_clue 50 = .ok (.getfield 257, 3) := by decide +kernel
theorem dX11_clue_53 : decode cX11_clue 53 = .ok (.ireturn, 1) := by decide +kernel
abbrev D_X11_clue : Nat := 2
set_option maxRecDepth 100000 in
def f_X11_clue (μ0 : Mm) (a1 : Nat) (x2 : Int32) (x3 : Int32) : Option (Int32 × Mm) :=
 (if x2 = (-1 : Int32) then
    ((gR μ0 a1 11 6).bind fun v4 =>
    ((ob μ0 v4 7).bind fun _ =>
    ((f_X7_forgetClues μ0 v4).bind fun μ5 =>
    (some ((0 : Int32), μ5)))))
    else
    ((ob μ0 a1 11).bind fun _ =>
    (bd (f_X11_isThing μ0 a1 x2) fun v7 μ6 =>
    (if v7 = 0 then
    (some ((-2 : Int32), μ6))
    else
    ((gR μ6 a1 11 6).bind fun v8 =>
    ((gI μ6 v8 7 6).bind fun v9 =>
    (if v9 < (8 : Int32) then
    ((gR μ6 a1 11 6).bind fun v10 =>
    ((ob μ6 v10 7).bind fun _ =>
    ((f_X7_addClue μ6 v10 x2 x3).bind fun μ11 =>
    ((gR μ11 a1 11 6).bind fun v12 =>
    ((gI μ11 v12 7 6).bind fun v13 =>
    (some (v13, μ11)))))))
    else
    (some ((-2 : Int32), μ6)))))))))
set_option maxHeartbeats 4000000 in
set_option maxRecDepth 100000 in
theorem f_X11_clue_ok {l : Launch} {G : GG} {μ0 : Mm} {a1 : Nat} {x2 : Int32} {x3 : Int32} {r : Int32} {μ' : Mm} (hf : f_X11_clue μ0 a1 x2 x3 = some (r, μ')) : EvM l G D_X11_clue yX11_clue cX11_clue 3 (some .int) [.ref a1, .int x2, .int x3] μ0 (some (.int r)) μ' := by
  show Ev l G D_X11_clue yX11_clue cX11_clue 3 (some .int) 0 [(0, .ref a1), (1, .int x2), (2, .int x3)] [] μ0 (some (.int r)) μ'
  unfold f_X11_clue at hf
  refine E_iload_n (pc := 0) dX11_clue_0 rfl ?_
  refine E_iconst (pc := 1) (v := (-1 : Int32)) dX11_clue_1 (by decide) ?_
  refine E_icmp_ne (pc := 2) (tgt := 14) dX11_clue_2 (by decide) hf (fun hf => ?_) (fun hf => ?_)
  · refine E_aload_n (pc := 5) dX11_clue_5 rfl ?_
    refine E_getR (pc := 6) dX11_clue_6 fl_X11_58 hf (fun v4 hf => ?_)
    refine E_Vv (pc := 9) (d2 := D_X7_forgetClues) (ci := 7) [] dX11_clue_9 ml_X11_254 mf_X7_forgetClues im_X7_forgetClues rfl rfl rfl (by decide) (Nat.le_of_ble_eq_true rfl) (Nat.le_of_ble_eq_true rfl) rfl (fun _ h => f_X7_forgetClues_ok h) hf (fun μ5 hf => ?_)
    refine E_iconst (pc := 12) (v := (0 : Int32)) dX11_clue_12 (by decide) ?_
    exact E_iret (pc := 13) dX11_clue_13 rfl hf
  · refine E_aload_n (pc := 14) dX11_clue_14 rfl ?_
    refine E_iload_n (pc := 15) dX11_clue_15 rfl ?_
    refine E_Vi (pc := 16) (d2 := D_X11_isThing) (ci := 11) [.int x2] dX11_clue_16 ml_X11_169 mf_X11_isThing im_X11_isThing rfl rfl rfl (by decide) (Nat.le_of_ble_eq_true rfl) (Nat.le_of_ble_eq_true rfl) rfl (fun _ _ h => f_X11_isThing_ok h) hf (fun v7 μ6 hf => ?_)
    refine E_if_eq (pc := 19) (tgt := 34) dX11_clue_19 (by decide) hf (fun hf => ?_) (fun hf => ?_)
    · refine E_bipush (pc := 34) (v := (-2 : Int32)) dX11_clue_34 (by decide) ?_
      exact E_iret (pc := 36) dX11_clue_36 rfl hf
    · refine E_aload_n (pc := 22) dX11_clue_22 rfl ?_
      refine E_getR (pc := 23) dX11_clue_23 fl_X11_58 hf (fun v8 hf => ?_)
      refine E_getI (pc := 26) dX11_clue_26 fl_X11_257 hf (fun v9 hf => ?_)
      refine E_bipush (pc := 29) (v := (8 : Int32)) dX11_clue_29 (by decide) ?_
      refine E_icmp_lt (pc := 31) (tgt := 37) dX11_clue_31 (by decide) hf (fun hf => ?_) (fun hf => ?_)
      · refine E_aload_n (pc := 37) dX11_clue_37 rfl ?_
        refine E_getR (pc := 38) dX11_clue_38 fl_X11_58 hf (fun v10 hf => ?_)
        refine E_iload_n (pc := 41) dX11_clue_41 rfl ?_
        refine E_iload_n (pc := 42) dX11_clue_42 rfl ?_
        refine E_Vv (pc := 43) (d2 := D_X7_addClue) (ci := 7) [.int x2, .int x3] dX11_clue_43 ml_X11_260 mf_X7_addClue im_X7_addClue rfl rfl rfl (by decide) (Nat.le_of_ble_eq_true rfl) (Nat.le_of_ble_eq_true rfl) rfl (fun _ h => f_X7_addClue_ok h) hf (fun μ11 hf => ?_)
        refine E_aload_n (pc := 46) dX11_clue_46 rfl ?_
        refine E_getR (pc := 47) dX11_clue_47 fl_X11_58 hf (fun v12 hf => ?_)
        refine E_getI (pc := 50) dX11_clue_50 fl_X11_257 hf (fun v13 hf => ?_)
        exact E_iret (pc := 53) dX11_clue_53 rfl hf
      · refine E_bipush (pc := 34) (v := (-2 : Int32)) dX11_clue_34 (by decide) ?_
        exact E_iret (pc := 36) dX11_clue_36 rfl hf
theorem dX11_from_0 : decode cX11_from 0 = .ok (.aload_n 0, 1) := by decide +kernel
theorem dX11_from_1 : decode cX11_from 1 = .ok (.iload_n 1, 1) := by decide +kernel
theorem dX11_from_2 : decode cX11_from 2 = .ok (.invokevirtual 160, 3) := by decide +kernel
theorem dX11_from_5 : decode cX11_from 5 = .ok (.ifCond .eq 12, 3) := by decide +kernel
theorem dX11_from_8 : decode cX11_from 8 = .ok (.iload_n 2, 1) := by decide +kernel
theorem dX11_from_9 : decode cX11_from 9 = .ok (.ifCond .lt 8, 3) := by decide +kernel
theorem dX11_from_12 : decode cX11_from 12 = .ok (.iload_n 2, 1) := by decide +kernel
theorem dX11_from_13 : decode cX11_from 13 = .ok (.iconst 2, 1) := by decide +kernel
theorem dX11_from_14 : decode cX11_from 14 = .ok (.if_icmp .le 5, 3) := by decide +kernel
theorem dX11_from_17 : decode cX11_from 17 = .ok (.iconst (-1), 1) := by decide +kernel
theorem dX11_from_18 : decode cX11_from 18 = .ok (.ireturn, 1) := by decide +kernel
theorem dX11_from_19 : decode cX11_from 19 = .ok (.aload_n 0, 1) := by decide +kernel
theorem dX11_from_20 : decode cX11_from 20 = .ok (.getfield 90, 3) := by decide +kernel
theorem dX11_from_23 : decode cX11_from 23 = .ok (.aload_n 0, 1) := by decide +kernel
theorem dX11_from_24 : decode cX11_from 24 = .ok (.getfield 58, 3) := by decide +kernel
theorem dX11_from_27 : decode cX11_from 27 = .ok (.aload_n 0, 1) := by decide +kernel
theorem dX11_from_28 : decode cX11_from 28 = .ok (.invokevirtual 237, 3) := by decide +kernel
theorem dX11_from_31 : decode cX11_from 31 = .ok (.iload_n 1, 1) := by decide +kernel
theorem dX11_from_32 : decode cX11_from 32 = .ok (.invokevirtual 264, 3) := by decide +kernel
theorem dX11_from_35 : decode cX11_from 35 = .ok (.iload_n 2, 1) := by decide +kernel
theorem dX11_from_36 : decode cX11_from 36 = .ok (.ifCond .ne 11, 3) := by decide +kernel
theorem dX11_from_39 : decode cX11_from 39 = .ok (.aload_n 0, 1) := by decide +kernel
theorem dX11_from_40 : decode cX11_from 40 = .ok (.getfield 90, 3) := by decide +kernel
theorem dX11_from_43 : decode cX11_from 43 = .ok (.getfield 265, 3) := by decide +kernel
theorem dX11_from_46 : decode cX11_from 46 = .ok (.ireturn, 1) := by decide +kernel
theorem dX11_from_47 : decode cX11_from 47 = .ok (.aload_n 0, 1) := by decide +kernel
theorem dX11_from_48 : decode cX11_from 48 = .ok (.getfield 90, 3) := by decide +kernel
theorem dX11_from_51 : decode cX11_from 51 = .ok (.getfield 265, 3) := by decide +kernel
theorem dX11_from_54 : decode cX11_from 54 = .ok (.ifCond .ne 6, 3) := by decide +kernel
theorem dX11_from_57 : decode cX11_from 57 = .ok (.bipush (-2), 2) := by decide +kernel
theorem dX11_from_59 : decode cX11_from 59 = .ok (.ireturn, 1) := by decide +kernel
theorem dX11_from_60 : decode cX11_from 60 = .ok (.iload_n 2, 1) := by decide +kernel
theorem dX11_from_61 : decode cX11_from 61 = .ok (.iconst 1, 1) := by decide +kernel
theorem dX11_from_62 : decode cX11_from 62 = .ok (.if_icmp .ne 13, 3) := by decide +kernel
theorem dX11_from_65 : decode cX11_from 65 = .ok (.aload_n 0, 1) := by decide +kernel
theorem dX11_from_66 : decode cX11_from 66 = .ok (.getfield 90, 3) := by decide +kernel
theorem dX11_from_69 : decode cX11_from 69 = .ok (.getfield 268, 3) := by decide +kernel
theorem dX11_from_72 : decode cX11_from 72 = .ok (.goto 10, 3) := by decide +kernel
theorem dX11_from_75 : decode cX11_from 75 = .ok (.aload_n 0, 1) := by decide +kernel
theorem dX11_from_76 : decode cX11_from 76 = .ok (.getfield 90, 3) := by decide +kernel
theorem dX11_from_79 : decode cX11_from 79 = .ok (.getfield 271, 3) := by decide +kernel
theorem dX11_from_82 : decode cX11_from 82 = .ok (.ireturn, 1) := by decide +kernel
abbrev D_X11_from : Nat := 8
set_option maxRecDepth 100000 in
def f_X11_from (μ0 : Mm) (a1 : Nat) (x2 : Int32) (x3 : Int32) : Option (Int32 × Mm) :=
 ((ob μ0 a1 11).bind fun _ =>
    (bd (f_X11_isPerson μ0 a1 x2) fun v5 μ4 =>
    (if v5 = 0 then
    (some ((-1 : Int32), μ4))
    else
    (if x3 < 0 then
    (some ((-1 : Int32), μ4))
    else
    (if x3 ≤ (2 : Int32) then
    ((gR μ4 a1 11 11).bind fun v6 =>
    ((gR μ4 a1 11 6).bind fun v7 =>
    ((ob μ4 a1 11).bind fun _ =>
    (bd (f_X11_law μ4 a1) fun v9 μ8 =>
    ((ob μ8 v6 4).bind fun _ =>
    ((f_X4_seek μ8 v6 v7 v9 x2).bind fun μ10 =>
    (if x3 = 0 then
    ((gR μ10 a1 11 11).bind fun v11 =>
    ((gI μ10 v11 4 1).bind fun v12 =>
    (some (v12, μ10))))
    else
    ((gR μ10 a1 11 11).bind fun v13 =>
    ((gI μ10 v13 4 1).bind fun v14 =>
    (if v14 = 0 then
    (some ((-2 : Int32), μ10))
    else
    (if x3 = (1 : Int32) then
    ((gR μ10 a1 11 11).bind fun v15 =>
    ((gI μ10 v15 4 2).bind fun v16 =>
    (some (v16, μ10))))
    else
    ((gR μ10 a1 11 11).bind fun v17 =>
    ((gI μ10 v17 4 3).bind fun v18 =>
    (some (v18, μ10)))))))))))))))
    else
    (some ((-1 : Int32), μ4)))))))
set_option maxHeartbeats 4000000 in
set_option maxRecDepth 100000 in
theorem f_X11_from_ok {l : Launch} {G : GG} {μ0 : Mm} {a1 : Nat} {x2 : Int32} {x3 : Int32} {r : Int32} {μ' : Mm} (hf : f_X11_from μ0 a1 x2 x3 = some (r, μ')) : EvM l G D_X11_from yX11_from cX11_from 3 (some .int) [.ref a1, .int x2, .int x3] μ0 (some (.int r)) μ' := by
  show Ev l G D_X11_from yX11_from cX11_from 3 (some .int) 0 [(0, .ref a1), (1, .int x2), (2, .int x3)] [] μ0 (some (.int r)) μ'
  unfold f_X11_from at hf
  refine E_aload_n (pc := 0) dX11_from_0 rfl ?_
  refine E_iload_n (pc := 1) dX11_from_1 rfl ?_
  refine E_Vi (pc := 2) (d2 := D_X11_isPerson) (ci := 11) [.int x2] dX11_from_2 ml_X11_160 mf_X11_isPerson im_X11_isPerson rfl rfl rfl (by decide) (Nat.le_of_ble_eq_true rfl) (Nat.le_of_ble_eq_true rfl) rfl (fun _ _ h => f_X11_isPerson_ok h) hf (fun v5 μ4 hf => ?_)
  refine E_if_eq (pc := 5) (tgt := 17) dX11_from_5 (by decide) hf (fun hf => ?_) (fun hf => ?_)
  · refine E_iconst (pc := 17) (v := (-1 : Int32)) dX11_from_17 (by decide) ?_
    exact E_iret (pc := 18) dX11_from_18 rfl hf
  · refine E_iload_n (pc := 8) dX11_from_8 rfl ?_
    refine E_if_lt (pc := 9) (tgt := 17) dX11_from_9 (by decide) hf (fun hf => ?_) (fun hf => ?_)
    · refine E_iconst (pc := 17) (v := (-1 : Int32)) dX11_from_17 (by decide) ?_
      exact E_iret (pc := 18) dX11_from_18 rfl hf
    · refine E_iload_n (pc := 12) dX11_from_12 rfl ?_
      refine E_iconst (pc := 13) (v := (2 : Int32)) dX11_from_13 (by decide) ?_
      refine E_icmp_le (pc := 14) (tgt := 19) dX11_from_14 (by decide) hf (fun hf => ?_) (fun hf => ?_)
      · refine E_aload_n (pc := 19) dX11_from_19 rfl ?_
        refine E_getR (pc := 20) dX11_from_20 fl_X11_90 hf (fun v6 hf => ?_)
        refine E_aload_n (pc := 23) dX11_from_23 rfl ?_
        refine E_getR (pc := 24) dX11_from_24 fl_X11_58 hf (fun v7 hf => ?_)
        refine E_aload_n (pc := 27) dX11_from_27 rfl ?_
        refine E_Vr (pc := 28) (d2 := D_X11_law) (ci := 11) [] dX11_from_28 ml_X11_237 mf_X11_law im_X11_law rfl rfl rfl (by decide) (Nat.le_of_ble_eq_true rfl) (Nat.le_of_ble_eq_true rfl) rfl (fun _ _ h => f_X11_law_ok h) hf (fun v9 μ8 hf => ?_)
        refine E_iload_n (pc := 31) dX11_from_31 rfl ?_
        refine E_Vv (pc := 32) (d2 := D_X4_seek) (ci := 4) [.ref v7, .ref v9, .int x2] dX11_from_32 ml_X11_264 mf_X4_seek im_X4_seek rfl rfl rfl (by decide) (Nat.le_of_ble_eq_true rfl) (Nat.le_of_ble_eq_true rfl) rfl (fun _ h => f_X4_seek_ok h) hf (fun μ10 hf => ?_)
        refine E_iload_n (pc := 35) dX11_from_35 rfl ?_
        refine E_if_ne (pc := 36) (tgt := 47) dX11_from_36 (by decide) hf (fun hf => ?_) (fun hf => ?_)
        · refine E_aload_n (pc := 39) dX11_from_39 rfl ?_
          refine E_getR (pc := 40) dX11_from_40 fl_X11_90 hf (fun v11 hf => ?_)
          refine E_getI (pc := 43) dX11_from_43 fl_X11_265 hf (fun v12 hf => ?_)
          exact E_iret (pc := 46) dX11_from_46 rfl hf
        · refine E_aload_n (pc := 47) dX11_from_47 rfl ?_
          refine E_getR (pc := 48) dX11_from_48 fl_X11_90 hf (fun v13 hf => ?_)
          refine E_getI (pc := 51) dX11_from_51 fl_X11_265 hf (fun v14 hf => ?_)
          refine E_if_ne (pc := 54) (tgt := 60) dX11_from_54 (by decide) hf (fun hf => ?_) (fun hf => ?_)
          · refine E_bipush (pc := 57) (v := (-2 : Int32)) dX11_from_57 (by decide) ?_
            exact E_iret (pc := 59) dX11_from_59 rfl hf
          · refine E_iload_n (pc := 60) dX11_from_60 rfl ?_
            refine E_iconst (pc := 61) (v := (1 : Int32)) dX11_from_61 (by decide) ?_
            refine E_icmp_ne (pc := 62) (tgt := 75) dX11_from_62 (by decide) hf (fun hf => ?_) (fun hf => ?_)
            · refine E_aload_n (pc := 65) dX11_from_65 rfl ?_
              refine E_getR (pc := 66) dX11_from_66 fl_X11_90 hf (fun v15 hf => ?_)
              refine E_getI (pc := 69) dX11_from_69 fl_X11_268 hf (fun v16 hf => ?_)
              refine E_goto (pc := 72) (tgt := 82) dX11_from_72 (by decide) ?_
              exact E_iret (pc := 82) dX11_from_82 rfl hf
            · refine E_aload_n (pc := 75) dX11_from_75 rfl ?_
              refine E_getR (pc := 76) dX11_from_76 fl_X11_90 hf (fun v17 hf => ?_)
              refine E_getI (pc := 79) dX11_from_79 fl_X11_271 hf (fun v18 hf => ?_)
              exact E_iret (pc := 82) dX11_from_82 rfl hf
      · refine E_iconst (pc := 17) (v := (-1 : Int32)) dX11_from_17 (by decide) ?_
        exact E_iret (pc := 18) dX11_from_18 rfl hf
theorem dX11_shard_0 : decode cX11_shard 0 = .ok (.aload_n 0, 1) := by decide +kernel
theorem dX11_shard_1 : decode cX11_shard 1 = .ok (.iload_n 1, 1) := by decide +kernel
theorem dX11_shard_2 : decode cX11_shard 2 = .ok (.invokevirtual 160, 3) := by decide +kernel
theorem dX11_shard_5 : decode cX11_shard 5 = .ok (.ifCond .eq 12, 3) := by decide +kernel
theorem dX11_shard_8 : decode cX11_shard 8 = .ok (.iload_n 2, 1) := by decide +kernel
theorem dX11_shard_9 : decode cX11_shard 9 = .ok (.ifCond .lt 8, 3) := by decide +kernel
theorem dX11_shard_12 : decode cX11_shard 12 = .ok (.iload_n 2, 1) := by decide +kernel
theorem dX11_shard_13 : decode cX11_shard 13 = .ok (.iconst 1, 1) := by decide +kernel
theorem dX11_shard_14 : decode cX11_shard 14 = .ok (.if_icmp .le 5, 3) := by decide +kernel
theorem dX11_shard_17 : decode cX11_shard 17 = .ok (.iconst (-1), 1) := by decide +kernel
theorem dX11_shard_18 : decode cX11_shard 18 = .ok (.ireturn, 1) := by decide +kernel
theorem dX11_shard_19 : decode cX11_shard 19 = .ok (.aload_n 0, 1) := by decide +kernel
theorem dX11_shard_20 : decode cX11_shard 20 = .ok (.getfield 90, 3) := by decide +kernel
theorem dX11_shard_23 : decode cX11_shard 23 = .ok (.aload_n 0, 1) := by decide +kernel
theorem dX11_shard_24 : decode cX11_shard 24 = .ok (.getfield 58, 3) := by decide +kernel
theorem dX11_shard_27 : decode cX11_shard 27 = .ok (.aload_n 0, 1) := by decide +kernel
theorem dX11_shard_28 : decode cX11_shard 28 = .ok (.invokevirtual 237, 3) := by decide +kernel
theorem dX11_shard_31 : decode cX11_shard 31 = .ok (.iload_n 1, 1) := by decide +kernel
theorem dX11_shard_32 : decode cX11_shard 32 = .ok (.invokevirtual 264, 3) := by decide +kernel
theorem dX11_shard_35 : decode cX11_shard 35 = .ok (.aload_n 0, 1) := by decide +kernel
theorem dX11_shard_36 : decode cX11_shard 36 = .ok (.getfield 90, 3) := by decide +kernel
theorem dX11_shard_39 : decode cX11_shard 39 = .ok (.getfield 265, 3) := by decide +kernel
theorem dX11_shard_42 : decode cX11_shard 42 = .ok (.ifCond .ne 7, 3) := by decide +kernel
theorem dX11_shard_45 : decode cX11_shard 45 = .ok (.iconst (-1), 1) := by decide +kernel
theorem dX11_shard_46 : decode cX11_shard 46 = .ok (.goto 20, 3) := by decide +kernel
theorem dX11_shard_49 : decode cX11_shard 49 = .ok (.aload_n 0, 1) := by decide +kernel
theorem dX11_shard_50 : decode cX11_shard 50 = .ok (.getfield 90, 3) := by decide +kernel
theorem dX11_shard_53 : decode cX11_shard 53 = .ok (.aload_n 0, 1) := by decide +kernel
theorem dX11_shard_54 : decode cX11_shard 54 = .ok (.getfield 58, 3) := by decide +kernel
theorem dX11_shard_57 : decode cX11_shard 57 = .ok (.getfield 122, 3) := by decide +kernel
theorem dX11_shard_60 : decode cX11_shard 60 = .ok (.getfield 274, 3) := by decide +kernel
theorem dX11_shard_63 : decode cX11_shard 63 = .ok (.invokevirtual 277, 3) := by decide +kernel
theorem dX11_shard_66 : decode cX11_shard 66 = .ok (.istore_n 3, 1) := by decide +kernel
theorem dX11_shard_67 : decode cX11_shard 67 = .ok (.iload_n 3, 1) := by decide +kernel
theorem dX11_shard_68 : decode cX11_shard 68 = .ok (.iconst (-1), 1) := by decide +kernel
theorem dX11_shard_69 : decode cX11_shard 69 = .ok (.if_icmp .ne 6, 3) := by decide +kernel
theorem dX11_shard_72 : decode cX11_shard 72 = .ok (.bipush (-2), 2) := by decide +kernel
theorem dX11_shard_74 : decode cX11_shard 74 = .ok (.ireturn, 1) := by decide +kernel
theorem dX11_shard_75 : decode cX11_shard 75 = .ok (.iload_n 2, 1) := by decide +kernel
theorem dX11_shard_76 : decode cX11_shard 76 = .ok (.ifCond .ne 7, 3) := by decide +kernel
theorem dX11_shard_79 : decode cX11_shard 79 = .ok (.iload_n 3, 1) := by decide +kernel
theorem dX11_shard_80 : decode cX11_shard 80 = .ok (.goto 11, 3) := by decide +kernel
theorem dX11_shard_83 : decode cX11_shard 83 = .ok (.aload_n 0, 1) := by decide +kernel
theorem dX11_shard_84 : decode cX11_shard 84 = .ok (.getfield 90, 3) := by decide +kernel
theorem dX11_shard_87 : decode cX11_shard 87 = .ok (.iload_n 3, 1) := by decide +kernel
theorem dX11_shard_88 : decode cX11_shard 88 = .ok (.invokevirtual 280, 3) := by decide +kernel
theorem dX11_shard_91 : decode cX11_shard 91 = .ok (.ireturn, 1) := by decide +kernel
abbrev D_X11_shard : Nat := 8
set_option maxRecDepth 100000 in
def f_X11_shard (μ0 : Mm) (a1 : Nat) (x2 : Int32) (x3 : Int32) : Option (Int32 × Mm) :=
 ((ob μ0 a1 11).bind fun _ =>
    (bd (f_X11_isPerson μ0 a1 x2) fun v5 μ4 =>
    (if v5 = 0 then
    (some ((-1 : Int32), μ4))
    else
    (if x3 < 0 then
    (some ((-1 : Int32), μ4))
    else
    (if x3 ≤ (1 : Int32) then
    ((gR μ4 a1 11 11).bind fun v6 =>
    ((gR μ4 a1 11 6).bind fun v7 =>
    ((ob μ4 a1 11).bind fun _ =>
    (bd (f_X11_law μ4 a1) fun v9 μ8 =>
    ((ob μ8 v6 4).bind fun _ =>
    ((f_X4_seek μ8 v6 v7 v9 x2).bind fun μ10 =>
    ((gR μ10 a1 11 11).bind fun v11 =>
    ((gI μ10 v11 4 1).bind fun v12 =>
    (if v12 = 0 then
    (nm (-1 : Int32) fun x13 =>
    (if x13 = (-1 : Int32) then
    (some ((-2 : Int32), μ10))
    else
    (if x3 = 0 then
    (some (x13, μ10))
    else
    ((gR μ10 a1 11 11).bind fun v14 =>
    ((ob μ10 v14 4).bind fun _ =>
    (bd (f_X4_greaterPart μ10 v14 x13) fun v16 μ15 =>
    (some (v16, μ15))))))))
    else
    ((gR μ10 a1 11 11).bind fun v17 =>
    ((gR μ10 a1 11 6).bind fun v18 =>
    ((gR μ10 v18 7 0).bind fun v19 =>
    ((gI μ10 v19 1 9).bind fun v20 =>
    ((ob μ10 v17 4).bind fun _ =>
    (bd (f_X4_bestShard μ10 v17 v20) fun v22 μ21 =>
    (nm v22 fun x23 =>
    (if x23 = (-1 : Int32) then
    (some ((-2 : Int32), μ21))
    else
    (if x3 = 0 then
    (some (x23, μ21))
    else
    ((gR μ21 a1 11 11).bind fun v24 =>
    ((ob μ21 v24 4).bind fun _ =>
    (bd (f_X4_greaterPart μ21 v24 x23) fun v26 μ25 =>
    (some (v26, μ25)))))))))))))))))))))))
    else
    (some ((-1 : Int32), μ4)))))))
set_option maxHeartbeats 4000000 in
set_option maxRecDepth 100000 in
theorem f_X11_shard_ok {l : Launch} {G : GG} {μ0 : Mm} {a1 : Nat} {x2 : Int32} {x3 : Int32} {r : Int32} {μ' : Mm} (hf : f_X11_shard μ0 a1 x2 x3 = some (r, μ')) : EvM l G D_X11_shard yX11_shard cX11_shard 4 (some .int) [.ref a1, .int x2, .int x3] μ0 (some (.int r)) μ' := by
  show Ev l G D_X11_shard yX11_shard cX11_shard 4 (some .int) 0 [(0, .ref a1), (1, .int x2), (2, .int x3)] [] μ0 (some (.int r)) μ'
  unfold f_X11_shard at hf
  refine E_aload_n (pc := 0) dX11_shard_0 rfl ?_
  refine E_iload_n (pc := 1) dX11_shard_1 rfl ?_
  refine E_Vi (pc := 2) (d2 := D_X11_isPerson) (ci := 11) [.int x2] dX11_shard_2 ml_X11_160 mf_X11_isPerson im_X11_isPerson rfl rfl rfl (by decide) (Nat.le_of_ble_eq_true rfl) (Nat.le_of_ble_eq_true rfl) rfl (fun _ _ h => f_X11_isPerson_ok h) hf (fun v5 μ4 hf => ?_)
  refine E_if_eq (pc := 5) (tgt := 17) dX11_shard_5 (by decide) hf (fun hf => ?_) (fun hf => ?_)
  · refine E_iconst (pc := 17) (v := (-1 : Int32)) dX11_shard_17 (by decide) ?_
    exact E_iret (pc := 18) dX11_shard_18 rfl hf
  · refine E_iload_n (pc := 8) dX11_shard_8 rfl ?_
    refine E_if_lt (pc := 9) (tgt := 17) dX11_shard_9 (by decide) hf (fun hf => ?_) (fun hf => ?_)
    · refine E_iconst (pc := 17) (v := (-1 : Int32)) dX11_shard_17 (by decide) ?_
      exact E_iret (pc := 18) dX11_shard_18 rfl hf
    · refine E_iload_n (pc := 12) dX11_shard_12 rfl ?_
      refine E_iconst (pc := 13) (v := (1 : Int32)) dX11_shard_13 (by decide) ?_
      refine E_icmp_le (pc := 14) (tgt := 19) dX11_shard_14 (by decide) hf (fun hf => ?_) (fun hf => ?_)
      · refine E_aload_n (pc := 19) dX11_shard_19 rfl ?_
        refine E_getR (pc := 20) dX11_shard_20 fl_X11_90 hf (fun v6 hf => ?_)
        refine E_aload_n (pc := 23) dX11_shard_23 rfl ?_
        refine E_getR (pc := 24) dX11_shard_24 fl_X11_58 hf (fun v7 hf => ?_)
        refine E_aload_n (pc := 27) dX11_shard_27 rfl ?_
        refine E_Vr (pc := 28) (d2 := D_X11_law) (ci := 11) [] dX11_shard_28 ml_X11_237 mf_X11_law im_X11_law rfl rfl rfl (by decide) (Nat.le_of_ble_eq_true rfl) (Nat.le_of_ble_eq_true rfl) rfl (fun _ _ h => f_X11_law_ok h) hf (fun v9 μ8 hf => ?_)
        refine E_iload_n (pc := 31) dX11_shard_31 rfl ?_
        refine E_Vv (pc := 32) (d2 := D_X4_seek) (ci := 4) [.ref v7, .ref v9, .int x2] dX11_shard_32 ml_X11_264 mf_X4_seek im_X4_seek rfl rfl rfl (by decide) (Nat.le_of_ble_eq_true rfl) (Nat.le_of_ble_eq_true rfl) rfl (fun _ h => f_X4_seek_ok h) hf (fun μ10 hf => ?_)
        refine E_aload_n (pc := 35) dX11_shard_35 rfl ?_
        refine E_getR (pc := 36) dX11_shard_36 fl_X11_90 hf (fun v11 hf => ?_)
        refine E_getI (pc := 39) dX11_shard_39 fl_X11_265 hf (fun v12 hf => ?_)
        refine E_if_ne (pc := 42) (tgt := 49) dX11_shard_42 (by decide) hf (fun hf => ?_) (fun hf => ?_)
        · refine E_iconst (pc := 45) (v := (-1 : Int32)) dX11_shard_45 (by decide) ?_
          refine E_goto (pc := 46) (tgt := 66) dX11_shard_46 (by decide) ?_
          refine E_istore_n (pc := 66) (ls' := fun x13 => [(3, .int x13), (0, .ref a1), (1, .int x2), (2, .int x3)]) dX11_shard_66 (by decide) (fun _ => rfl) hf (fun x13 hf => ?_)
          refine E_iload_n (pc := 67) dX11_shard_67 rfl ?_
          refine E_iconst (pc := 68) (v := (-1 : Int32)) dX11_shard_68 (by decide) ?_
          refine E_icmp_ne (pc := 69) (tgt := 75) dX11_shard_69 (by decide) hf (fun hf => ?_) (fun hf => ?_)
          · refine E_bipush (pc := 72) (v := (-2 : Int32)) dX11_shard_72 (by decide) ?_
            exact E_iret (pc := 74) dX11_shard_74 rfl hf
          · refine E_iload_n (pc := 75) dX11_shard_75 rfl ?_
            refine E_if_ne (pc := 76) (tgt := 83) dX11_shard_76 (by decide) hf (fun hf => ?_) (fun hf => ?_)
            · refine E_iload_n (pc := 79) dX11_shard_79 rfl ?_
              refine E_goto (pc := 80) (tgt := 91) dX11_shard_80 (by decide) ?_
              exact E_iret (pc := 91) dX11_shard_91 rfl hf
            · refine E_aload_n (pc := 83) dX11_shard_83 rfl ?_
              refine E_getR (pc := 84) dX11_shard_84 fl_X11_90 hf (fun v14 hf => ?_)
              refine E_iload_n (pc := 87) dX11_shard_87 rfl ?_
              refine E_Vi (pc := 88) (d2 := D_X4_greaterPart) (ci := 4) [.int x13] dX11_shard_88 ml_X11_280 mf_X4_greaterPart im_X4_greaterPart rfl rfl rfl (by decide) (Nat.le_of_ble_eq_true rfl) (Nat.le_of_ble_eq_true rfl) rfl (fun _ _ h => f_X4_greaterPart_ok h) hf (fun v16 μ15 hf => ?_)
              exact E_iret (pc := 91) dX11_shard_91 rfl hf
        · refine E_aload_n (pc := 49) dX11_shard_49 rfl ?_
          refine E_getR (pc := 50) dX11_shard_50 fl_X11_90 hf (fun v17 hf => ?_)
          refine E_aload_n (pc := 53) dX11_shard_53 rfl ?_
          refine E_getR (pc := 54) dX11_shard_54 fl_X11_58 hf (fun v18 hf => ?_)
          refine E_getR (pc := 57) dX11_shard_57 fl_X11_122 hf (fun v19 hf => ?_)
          refine E_getI (pc := 60) dX11_shard_60 fl_X11_274 hf (fun v20 hf => ?_)
          refine E_Vi (pc := 63) (d2 := D_X4_bestShard) (ci := 4) [.int v20] dX11_shard_63 ml_X11_277 mf_X4_bestShard im_X4_bestShard rfl rfl rfl (by decide) (Nat.le_of_ble_eq_true rfl) (Nat.le_of_ble_eq_true rfl) rfl (fun _ _ h => f_X4_bestShard_ok h) hf (fun v22 μ21 hf => ?_)
          refine E_istore_n (pc := 66) (ls' := fun x23 => [(3, .int x23), (0, .ref a1), (1, .int x2), (2, .int x3)]) dX11_shard_66 (by decide) (fun _ => rfl) hf (fun x23 hf => ?_)
          refine E_iload_n (pc := 67) dX11_shard_67 rfl ?_
          refine E_iconst (pc := 68) (v := (-1 : Int32)) dX11_shard_68 (by decide) ?_
          refine E_icmp_ne (pc := 69) (tgt := 75) dX11_shard_69 (by decide) hf (fun hf => ?_) (fun hf => ?_)
          · refine E_bipush (pc := 72) (v := (-2 : Int32)) dX11_shard_72 (by decide) ?_
            exact E_iret (pc := 74) dX11_shard_74 rfl hf
          · refine E_iload_n (pc := 75) dX11_shard_75 rfl ?_
            refine E_if_ne (pc := 76) (tgt := 83) dX11_shard_76 (by decide) hf (fun hf => ?_) (fun hf => ?_)
            · refine E_iload_n (pc := 79) dX11_shard_79 rfl ?_
              refine E_goto (pc := 80) (tgt := 91) dX11_shard_80 (by decide) ?_
              exact E_iret (pc := 91) dX11_shard_91 rfl hf
            · refine E_aload_n (pc := 83) dX11_shard_83 rfl ?_
              refine E_getR (pc := 84) dX11_shard_84 fl_X11_90 hf (fun v24 hf => ?_)
              refine E_iload_n (pc := 87) dX11_shard_87 rfl ?_
              refine E_Vi (pc := 88) (d2 := D_X4_greaterPart) (ci := 4) [.int x23] dX11_shard_88 ml_X11_280 mf_X4_greaterPart im_X4_greaterPart rfl rfl rfl (by decide) (Nat.le_of_ble_eq_true rfl) (Nat.le_of_ble_eq_true rfl) rfl (fun _ _ h => f_X4_greaterPart_ok h) hf (fun v26 μ25 hf => ?_)
              exact E_iret (pc := 91) dX11_shard_91 rfl hf
      · refine E_iconst (pc := 17) (v := (-1 : Int32)) dX11_shard_17 (by decide) ?_
        exact E_iret (pc := 18) dX11_shard_18 rfl hf
theorem dX11_trays_0 : decode cX11_trays 0 = .ok (.aload_n 0, 1) := by decide +kernel
theorem dX11_trays_1 : decode cX11_trays 1 = .ok (.getfield 58, 3) := by decide +kernel
theorem dX11_trays_4 : decode cX11_trays 4 = .ok (.getfield 122, 3) := by decide +kernel
theorem dX11_trays_7 : decode cX11_trays 7 = .ok (.getfield 125, 3) := by decide +kernel
theorem dX11_trays_10 : decode cX11_trays 10 = .ok (.ifCond .eq 22, 3) := by decide +kernel
theorem dX11_trays_13 : decode cX11_trays 13 = .ok (.iload_n 1, 1) := by decide +kernel
theorem dX11_trays_14 : decode cX11_trays 14 = .ok (.iconst 1, 1) := by decide +kernel
theorem dX11_trays_15 : decode cX11_trays 15 = .ok (.if_icmp .lt 17, 3) := by decide +kernel
theorem dX11_trays_18 : decode cX11_trays 18 = .ok (.iload_n 1, 1) := by decide +kernel
theorem dX11_trays_19 : decode cX11_trays 19 = .ok (.iconst 3, 1) := by decide +kernel
theorem dX11_trays_20 : decode cX11_trays 20 = .ok (.if_icmp .gt 12, 3) := by decide +kernel
theorem dX11_trays_23 : decode cX11_trays 23 = .ok (.iload_n 2, 1) := by decide +kernel
theorem dX11_trays_24 : decode cX11_trays 24 = .ok (.ifCond .lt 8, 3) := by decide +kernel
theorem dX11_trays_27 : decode cX11_trays 27 = .ok (.iload_n 2, 1) := by decide +kernel
theorem dX11_trays_28 : decode cX11_trays 28 = .ok (.iconst 3, 1) := by decide +kernel
theorem dX11_trays_29 : decode cX11_trays 29 = .ok (.if_icmp .le 5, 3) := by decide +kernel
theorem dX11_trays_32 : decode cX11_trays 32 = .ok (.iconst (-1), 1) := by decide +kernel
theorem dX11_trays_33 : decode cX11_trays 33 = .ok (.ireturn, 1) := by decide +kernel
theorem dX11_trays_34 : decode cX11_trays 34 = .ok (.aload_n 0, 1) := by decide +kernel
theorem dX11_trays_35 : decode cX11_trays 35 = .ok (.getfield 97, 3) := by decide +kernel
theorem dX11_trays_38 : decode cX11_trays 38 = .ok (.aload_n 0, 1) := by decide +kernel
theorem dX11_trays_39 : decode cX11_trays 39 = .ok (.getfield 58, 3) := by decide +kernel
theorem dX11_trays_42 : decode cX11_trays 42 = .ok (.getfield 122, 3) := by decide +kernel
theorem dX11_trays_45 : decode cX11_trays 45 = .ok (.iload_n 1, 1) := by decide +kernel
theorem dX11_trays_46 : decode cX11_trays 46 = .ok (.invokevirtual 283, 3) := by decide +kernel
theorem dX11_trays_49 : decode cX11_trays 49 = .ok (.iload_n 2, 1) := by decide +kernel
theorem dX11_trays_50 : decode cX11_trays 50 = .ok (.ifCond .ne 11, 3) := by decide +kernel
theorem dX11_trays_53 : decode cX11_trays 53 = .ok (.aload_n 0, 1) := by decide +kernel
theorem dX11_trays_54 : decode cX11_trays 54 = .ok (.getfield 97, 3) := by decide +kernel
theorem dX11_trays_57 : decode cX11_trays 57 = .ok (.getfield 287, 3) := by decide +kernel
theorem dX11_trays_60 : decode cX11_trays 60 = .ok (.ireturn, 1) := by decide +kernel
theorem dX11_trays_61 : decode cX11_trays 61 = .ok (.iload_n 2, 1) := by decide +kernel
theorem dX11_trays_62 : decode cX11_trays 62 = .ok (.iload_n 1, 1) := by decide +kernel
theorem dX11_trays_63 : decode cX11_trays 63 = .ok (.if_icmp .gt 13, 3) := by decide +kernel
theorem dX11_trays_66 : decode cX11_trays 66 = .ok (.aload_n 0, 1) := by decide +kernel
theorem dX11_trays_67 : decode cX11_trays 67 = .ok (.getfield 97, 3) := by decide +kernel
theorem dX11_trays_70 : decode cX11_trays 70 = .ok (.getfield 287, 3) := by decide +kernel
theorem dX11_trays_73 : decode cX11_trays 73 = .ok (.ifCond .ne 6, 3) := by decide +kernel
theorem dX11_trays_76 : decode cX11_trays 76 = .ok (.bipush (-2), 2) := by decide +kernel
theorem dX11_trays_78 : decode cX11_trays 78 = .ok (.ireturn, 1) := by decide +kernel
theorem dX11_trays_79 : decode cX11_trays 79 = .ok (.aload_n 0, 1) := by decide +kernel
theorem dX11_trays_80 : decode cX11_trays 80 = .ok (.getfield 97, 3) := by decide +kernel
theorem dX11_trays_83 : decode cX11_trays 83 = .ok (.getfield 290, 3) := by decide +kernel
theorem dX11_trays_86 : decode cX11_trays 86 = .ok (.iload_n 2, 1) := by decide +kernel
theorem dX11_trays_87 : decode cX11_trays 87 = .ok (.iconst 1, 1) := by decide +kernel
theorem dX11_trays_88 : decode cX11_trays 88 = .ok (.isub, 1) := by decide +kernel
theorem dX11_trays_89 : decode cX11_trays 89 = .ok (.iaload, 1) := by decide +kernel
theorem dX11_trays_90 : decode cX11_trays 90 = .ok (.ireturn, 1) := by decide +kernel
abbrev D_X11_trays : Nat := 4
set_option maxRecDepth 100000 in
def f_X11_trays (μ0 : Mm) (a1 : Nat) (x2 : Int32) (x3 : Int32) : Option (Int32 × Mm) :=
 ((gR μ0 a1 11 6).bind fun v4 =>
    ((gR μ0 v4 7 0).bind fun v5 =>
    ((gI μ0 v5 1 2).bind fun v6 =>
    (if v6 = 0 then
    (some ((-1 : Int32), μ0))
    else
    (if x2 < (1 : Int32) then
    (some ((-1 : Int32), μ0))
    else
    (if (3 : Int32) < x2 then
    (some ((-1 : Int32), μ0))
    else
    (if x3 < 0 then
    (some ((-1 : Int32), μ0))
    else
    (if x3 ≤ (3 : Int32) then
    ((gR μ0 a1 11 12).bind fun v7 =>
    ((gR μ0 a1 11 6).bind fun v8 =>
    ((gR μ0 v8 7 0).bind fun v9 =>
    ((ob μ0 v7 8).bind fun _ =>
    ((f_X8_setTrays μ0 v7 v9 x2).bind fun μ10 =>
    (if x3 = 0 then
    ((gR μ10 a1 11 12).bind fun v11 =>
    ((gI μ10 v11 8 2).bind fun v12 =>
    (some (v12, μ10))))
    else
    (if x2 < x3 then
    (some ((-2 : Int32), μ10))
    else
    ((gR μ10 a1 11 12).bind fun v13 =>
    ((gI μ10 v13 8 2).bind fun v14 =>
    (if v14 = 0 then
    (some ((-2 : Int32), μ10))
    else
    ((gR μ10 a1 11 12).bind fun v15 =>
    ((gR μ10 v15 8 3).bind fun v16 =>
    ((aI μ10 v16 0 (x3 - (1 : Int32))).bind fun v17 =>
    (some (v17, μ10)))))))))))))))
    else
    (some ((-1 : Int32), μ0))))))))))
set_option maxHeartbeats 4000000 in
set_option maxRecDepth 100000 in
theorem f_X11_trays_ok {l : Launch} {G : GG} {μ0 : Mm} {a1 : Nat} {x2 : Int32} {x3 : Int32} {r : Int32} {μ' : Mm} (hf : f_X11_trays μ0 a1 x2 x3 = some (r, μ')) : EvM l G D_X11_trays yX11_trays cX11_trays 3 (some .int) [.ref a1, .int x2, .int x3] μ0 (some (.int r)) μ' := by
  show Ev l G D_X11_trays yX11_trays cX11_trays 3 (some .int) 0 [(0, .ref a1), (1, .int x2), (2, .int x3)] [] μ0 (some (.int r)) μ'
  unfold f_X11_trays at hf
  refine E_aload_n (pc := 0) dX11_trays_0 rfl ?_
  refine E_getR (pc := 1) dX11_trays_1 fl_X11_58 hf (fun v4 hf => ?_)
  refine E_getR (pc := 4) dX11_trays_4 fl_X11_122 hf (fun v5 hf => ?_)
  refine E_getI (pc := 7) dX11_trays_7 fl_X11_125 hf (fun v6 hf => ?_)
  refine E_if_eq (pc := 10) (tgt := 32) dX11_trays_10 (by decide) hf (fun hf => ?_) (fun hf => ?_)
  · refine E_iconst (pc := 32) (v := (-1 : Int32)) dX11_trays_32 (by decide) ?_
    exact E_iret (pc := 33) dX11_trays_33 rfl hf
  · refine E_iload_n (pc := 13) dX11_trays_13 rfl ?_
    refine E_iconst (pc := 14) (v := (1 : Int32)) dX11_trays_14 (by decide) ?_
    refine E_icmp_lt (pc := 15) (tgt := 32) dX11_trays_15 (by decide) hf (fun hf => ?_) (fun hf => ?_)
    · refine E_iconst (pc := 32) (v := (-1 : Int32)) dX11_trays_32 (by decide) ?_
      exact E_iret (pc := 33) dX11_trays_33 rfl hf
    · refine E_iload_n (pc := 18) dX11_trays_18 rfl ?_
      refine E_iconst (pc := 19) (v := (3 : Int32)) dX11_trays_19 (by decide) ?_
      refine E_icmp_gt (pc := 20) (tgt := 32) dX11_trays_20 (by decide) hf (fun hf => ?_) (fun hf => ?_)
      · refine E_iconst (pc := 32) (v := (-1 : Int32)) dX11_trays_32 (by decide) ?_
        exact E_iret (pc := 33) dX11_trays_33 rfl hf
      · refine E_iload_n (pc := 23) dX11_trays_23 rfl ?_
        refine E_if_lt (pc := 24) (tgt := 32) dX11_trays_24 (by decide) hf (fun hf => ?_) (fun hf => ?_)
        · refine E_iconst (pc := 32) (v := (-1 : Int32)) dX11_trays_32 (by decide) ?_
          exact E_iret (pc := 33) dX11_trays_33 rfl hf
        · refine E_iload_n (pc := 27) dX11_trays_27 rfl ?_
          refine E_iconst (pc := 28) (v := (3 : Int32)) dX11_trays_28 (by decide) ?_
          refine E_icmp_le (pc := 29) (tgt := 34) dX11_trays_29 (by decide) hf (fun hf => ?_) (fun hf => ?_)
          · refine E_aload_n (pc := 34) dX11_trays_34 rfl ?_
            refine E_getR (pc := 35) dX11_trays_35 fl_X11_97 hf (fun v7 hf => ?_)
            refine E_aload_n (pc := 38) dX11_trays_38 rfl ?_
            refine E_getR (pc := 39) dX11_trays_39 fl_X11_58 hf (fun v8 hf => ?_)
            refine E_getR (pc := 42) dX11_trays_42 fl_X11_122 hf (fun v9 hf => ?_)
            refine E_iload_n (pc := 45) dX11_trays_45 rfl ?_
            refine E_Vv (pc := 46) (d2 := D_X8_setTrays) (ci := 8) [.ref v9, .int x2] dX11_trays_46 ml_X11_283 mf_X8_setTrays im_X8_setTrays rfl rfl rfl (by decide) (Nat.le_of_ble_eq_true rfl) (Nat.le_of_ble_eq_true rfl) rfl (fun _ h => f_X8_setTrays_ok h) hf (fun μ10 hf => ?_)
            refine E_iload_n (pc := 49) dX11_trays_49 rfl ?_
            refine E_if_ne (pc := 50) (tgt := 61) dX11_trays_50 (by decide) hf (fun hf => ?_) (fun hf => ?_)
            · refine E_aload_n (pc := 53) dX11_trays_53 rfl ?_
              refine E_getR (pc := 54) dX11_trays_54 fl_X11_97 hf (fun v11 hf => ?_)
              refine E_getI (pc := 57) dX11_trays_57 fl_X11_287 hf (fun v12 hf => ?_)
              exact E_iret (pc := 60) dX11_trays_60 rfl hf
            · refine E_iload_n (pc := 61) dX11_trays_61 rfl ?_
              refine E_iload_n (pc := 62) dX11_trays_62 rfl ?_
              refine E_icmp_gt (pc := 63) (tgt := 76) dX11_trays_63 (by decide) hf (fun hf => ?_) (fun hf => ?_)
              · refine E_bipush (pc := 76) (v := (-2 : Int32)) dX11_trays_76 (by decide) ?_
                exact E_iret (pc := 78) dX11_trays_78 rfl hf
              · refine E_aload_n (pc := 66) dX11_trays_66 rfl ?_
                refine E_getR (pc := 67) dX11_trays_67 fl_X11_97 hf (fun v13 hf => ?_)
                refine E_getI (pc := 70) dX11_trays_70 fl_X11_287 hf (fun v14 hf => ?_)
                refine E_if_ne (pc := 73) (tgt := 79) dX11_trays_73 (by decide) hf (fun hf => ?_) (fun hf => ?_)
                · refine E_bipush (pc := 76) (v := (-2 : Int32)) dX11_trays_76 (by decide) ?_
                  exact E_iret (pc := 78) dX11_trays_78 rfl hf
                · refine E_aload_n (pc := 79) dX11_trays_79 rfl ?_
                  refine E_getR (pc := 80) dX11_trays_80 fl_X11_97 hf (fun v15 hf => ?_)
                  refine E_getR (pc := 83) dX11_trays_83 fl_X11_290 hf (fun v16 hf => ?_)
                  refine E_iload_n (pc := 86) dX11_trays_86 rfl ?_
                  refine E_iconst (pc := 87) (v := (1 : Int32)) dX11_trays_87 (by decide) ?_
                  refine E_isub (pc := 88) dX11_trays_88 ?_
                  refine E_iald (pc := 89) dX11_trays_89 hf (fun v17 hf => ?_)
                  exact E_iret (pc := 90) dX11_trays_90 rfl hf
          · refine E_iconst (pc := 32) (v := (-1 : Int32)) dX11_trays_32 (by decide) ?_
            exact E_iret (pc := 33) dX11_trays_33 rfl hf
theorem dX11_game_0 : decode cX11_game 0 = .ok (.aload_n 0, 1) := by decide +kernel
theorem dX11_game_1 : decode cX11_game 1 = .ok (.iload_n 1, 1) := by decide +kernel
theorem dX11_game_2 : decode cX11_game 2 = .ok (.invokevirtual 134, 3) := by decide +kernel
theorem dX11_game_5 : decode cX11_game 5 = .ok (.ifCond .eq 12, 3) := by decide +kernel
theorem dX11_game_8 : decode cX11_game 8 = .ok (.iload_n 2, 1) := by decide +kernel
theorem dX11_game_9 : decode cX11_game 9 = .ok (.ifCond .lt 8, 3) := by decide +kernel
theorem dX11_game_12 : decode cX11_game 12 = .ok (.iload_n 2, 1) := by decide +kernel
theorem dX11_game_13 : decode cX11_game 13 = .ok (.iconst 1, 1) := by decide +kernel
theorem dX11_game_14 : decode cX11_game 14 = .ok (.if_icmp .le 5, 3) := by decide +kernel
theorem dX11_game_17 : decode cX11_game 17 = .ok (.iconst (-1), 1) := by decide +kernel
theorem dX11_game_18 : decode cX11_game 18 = .ok (.ireturn, 1) := by decide +kernel
theorem dX11_game_19 : decode cX11_game 19 = .ok (.aload_n 0, 1) := by decide +kernel
theorem dX11_game_20 : decode cX11_game 20 = .ok (.getfield 97, 3) := by decide +kernel
theorem dX11_game_23 : decode cX11_game 23 = .ok (.aload_n 0, 1) := by decide +kernel
theorem dX11_game_24 : decode cX11_game 24 = .ok (.getfield 58, 3) := by decide +kernel
theorem dX11_game_27 : decode cX11_game 27 = .ok (.getfield 122, 3) := by decide +kernel
theorem dX11_game_30 : decode cX11_game 30 = .ok (.iload_n 1, 1) := by decide +kernel
theorem dX11_game_31 : decode cX11_game 31 = .ok (.invokevirtual 293, 3) := by decide +kernel
theorem dX11_game_34 : decode cX11_game 34 = .ok (.istore_n 3, 1) := by decide +kernel
theorem dX11_game_35 : decode cX11_game 35 = .ok (.iload_n 2, 1) := by decide +kernel
theorem dX11_game_36 : decode cX11_game 36 = .ok (.ifCond .ne 14, 3) := by decide +kernel
theorem dX11_game_39 : decode cX11_game 39 = .ok (.iload_n 3, 1) := by decide +kernel
theorem dX11_game_40 : decode cX11_game 40 = .ok (.iconst (-1), 1) := by decide +kernel
theorem dX11_game_41 : decode cX11_game 41 = .ok (.if_icmp .ne 7, 3) := by decide +kernel
theorem dX11_game_44 : decode cX11_game 44 = .ok (.iconst 0, 1) := by decide +kernel
theorem dX11_game_45 : decode cX11_game 45 = .ok (.goto 4, 3) := by decide +kernel
theorem dX11_game_48 : decode cX11_game 48 = .ok (.iconst 1, 1) := by decide +kernel
theorem dX11_game_49 : decode cX11_game 49 = .ok (.ireturn, 1) := by decide +kernel
theorem dX11_game_50 : decode cX11_game 50 = .ok (.iload_n 3, 1) := by decide +kernel
theorem dX11_game_51 : decode cX11_game 51 = .ok (.iconst (-1), 1) := by decide +kernel
theorem dX11_game_52 : decode cX11_game 52 = .ok (.if_icmp .ne 8, 3) := by decide +kernel
theorem dX11_game_55 : decode cX11_game 55 = .ok (.bipush (-2), 2) := by decide +kernel
theorem dX11_game_57 : decode cX11_game 57 = .ok (.goto 4, 3) := by decide +kernel
theorem dX11_game_60 : decode cX11_game 60 = .ok (.iload_n 3, 1) := by decide +kernel
theorem dX11_game_61 : decode cX11_game 61 = .ok (.ireturn, 1) := by decide +kernel
abbrev D_X11_game : Nat := 5
set_option maxRecDepth 100000 in
def f_X11_game (μ0 : Mm) (a1 : Nat) (x2 : Int32) (x3 : Int32) : Option (Int32 × Mm) :=
 ((ob μ0 a1 11).bind fun _ =>
    (bd (f_X11_isCell μ0 a1 x2) fun v5 μ4 =>
    (if v5 = 0 then
    (some ((-1 : Int32), μ4))
    else
    (if x3 < 0 then
    (some ((-1 : Int32), μ4))
    else
    (if x3 ≤ (1 : Int32) then
    ((gR μ4 a1 11 12).bind fun v6 =>
    ((gR μ4 a1 11 6).bind fun v7 =>
    ((gR μ4 v7 7 0).bind fun v8 =>
    ((ob μ4 v6 8).bind fun _ =>
    (bd (f_X8_winningSide μ4 v6 v8 x2) fun v10 μ9 =>
    (nm v10 fun x11 =>
    (if x3 = 0 then
    (if x11 = (-1 : Int32) then
    (some ((0 : Int32), μ9))
    else
    (some ((1 : Int32), μ9)))
    else
    (if x11 = (-1 : Int32) then
    (some ((-2 : Int32), μ9))
    else
    (some (x11, μ9))))))))))
    else
    (some ((-1 : Int32), μ4)))))))
set_option maxHeartbeats 4000000 in
set_option maxRecDepth 100000 in
theorem f_X11_game_ok {l : Launch} {G : GG} {μ0 : Mm} {a1 : Nat} {x2 : Int32} {x3 : Int32} {r : Int32} {μ' : Mm} (hf : f_X11_game μ0 a1 x2 x3 = some (r, μ')) : EvM l G D_X11_game yX11_game cX11_game 4 (some .int) [.ref a1, .int x2, .int x3] μ0 (some (.int r)) μ' := by
  show Ev l G D_X11_game yX11_game cX11_game 4 (some .int) 0 [(0, .ref a1), (1, .int x2), (2, .int x3)] [] μ0 (some (.int r)) μ'
  unfold f_X11_game at hf
  refine E_aload_n (pc := 0) dX11_game_0 rfl ?_
  refine E_iload_n (pc := 1) dX11_game_1 rfl ?_
  refine E_Vi (pc := 2) (d2 := D_X11_isCell) (ci := 11) [.int x2] dX11_game_2 ml_X11_134 mf_X11_isCell im_X11_isCell rfl rfl rfl (by decide) (Nat.le_of_ble_eq_true rfl) (Nat.le_of_ble_eq_true rfl) rfl (fun _ _ h => f_X11_isCell_ok h) hf (fun v5 μ4 hf => ?_)
  refine E_if_eq (pc := 5) (tgt := 17) dX11_game_5 (by decide) hf (fun hf => ?_) (fun hf => ?_)
  · refine E_iconst (pc := 17) (v := (-1 : Int32)) dX11_game_17 (by decide) ?_
    exact E_iret (pc := 18) dX11_game_18 rfl hf
  · refine E_iload_n (pc := 8) dX11_game_8 rfl ?_
    refine E_if_lt (pc := 9) (tgt := 17) dX11_game_9 (by decide) hf (fun hf => ?_) (fun hf => ?_)
    · refine E_iconst (pc := 17) (v := (-1 : Int32)) dX11_game_17 (by decide) ?_
      exact E_iret (pc := 18) dX11_game_18 rfl hf
    · refine E_iload_n (pc := 12) dX11_game_12 rfl ?_
      refine E_iconst (pc := 13) (v := (1 : Int32)) dX11_game_13 (by decide) ?_
      refine E_icmp_le (pc := 14) (tgt := 19) dX11_game_14 (by decide) hf (fun hf => ?_) (fun hf => ?_)
      · refine E_aload_n (pc := 19) dX11_game_19 rfl ?_
        refine E_getR (pc := 20) dX11_game_20 fl_X11_97 hf (fun v6 hf => ?_)
        refine E_aload_n (pc := 23) dX11_game_23 rfl ?_
        refine E_getR (pc := 24) dX11_game_24 fl_X11_58 hf (fun v7 hf => ?_)
        refine E_getR (pc := 27) dX11_game_27 fl_X11_122 hf (fun v8 hf => ?_)
        refine E_iload_n (pc := 30) dX11_game_30 rfl ?_
        refine E_Vi (pc := 31) (d2 := D_X8_winningSide) (ci := 8) [.ref v8, .int x2] dX11_game_31 ml_X11_293 mf_X8_winningSide im_X8_winningSide rfl rfl rfl (by decide) (Nat.le_of_ble_eq_true rfl) (Nat.le_of_ble_eq_true rfl) rfl (fun _ _ h => f_X8_winningSide_ok h) hf (fun v10 μ9 hf => ?_)
        refine E_istore_n (pc := 34) (ls' := fun x11 => [(3, .int x11), (0, .ref a1), (1, .int x2), (2, .int x3)]) dX11_game_34 (by decide) (fun _ => rfl) hf (fun x11 hf => ?_)
        refine E_iload_n (pc := 35) dX11_game_35 rfl ?_
        refine E_if_ne (pc := 36) (tgt := 50) dX11_game_36 (by decide) hf (fun hf => ?_) (fun hf => ?_)
        · refine E_iload_n (pc := 39) dX11_game_39 rfl ?_
          refine E_iconst (pc := 40) (v := (-1 : Int32)) dX11_game_40 (by decide) ?_
          refine E_icmp_ne (pc := 41) (tgt := 48) dX11_game_41 (by decide) hf (fun hf => ?_) (fun hf => ?_)
          · refine E_iconst (pc := 44) (v := (0 : Int32)) dX11_game_44 (by decide) ?_
            refine E_goto (pc := 45) (tgt := 49) dX11_game_45 (by decide) ?_
            exact E_iret (pc := 49) dX11_game_49 rfl hf
          · refine E_iconst (pc := 48) (v := (1 : Int32)) dX11_game_48 (by decide) ?_
            exact E_iret (pc := 49) dX11_game_49 rfl hf
        · refine E_iload_n (pc := 50) dX11_game_50 rfl ?_
          refine E_iconst (pc := 51) (v := (-1 : Int32)) dX11_game_51 (by decide) ?_
          refine E_icmp_ne (pc := 52) (tgt := 60) dX11_game_52 (by decide) hf (fun hf => ?_) (fun hf => ?_)
          · refine E_bipush (pc := 55) (v := (-2 : Int32)) dX11_game_55 (by decide) ?_
            refine E_goto (pc := 57) (tgt := 61) dX11_game_57 (by decide) ?_
            exact E_iret (pc := 61) dX11_game_61 rfl hf
          · refine E_iload_n (pc := 60) dX11_game_60 rfl ?_
            exact E_iret (pc := 61) dX11_game_61 rfl hf
      · refine E_iconst (pc := 17) (v := (-1 : Int32)) dX11_game_17 (by decide) ?_
        exact E_iret (pc := 18) dX11_game_18 rfl hf
theorem dX11_chance_0 : decode cX11_chance 0 = .ok (.aload_n 0, 1) := by decide +kernel
theorem dX11_chance_1 : decode cX11_chance 1 = .ok (.iload_n 1, 1) := by decide +kernel
theorem dX11_chance_2 : decode cX11_chance 2 = .ok (.invokevirtual 134, 3) := by decide +kernel
theorem dX11_chance_5 : decode cX11_chance 5 = .ok (.ifCond .eq 20, 3) := by decide +kernel
theorem dX11_chance_8 : decode cX11_chance 8 = .ok (.aload_n 0, 1) := by decide +kernel
theorem dX11_chance_9 : decode cX11_chance 9 = .ok (.iload_n 2, 1) := by decide +kernel
theorem dX11_chance_10 : decode cX11_chance 10 = .ok (.invokevirtual 134, 3) := by decide +kernel
theorem dX11_chance_13 : decode cX11_chance 13 = .ok (.ifCond .eq 12, 3) := by decide +kernel
theorem dX11_chance_16 : decode cX11_chance 16 = .ok (.iload_n 3, 1) := by decide +kernel
theorem dX11_chance_17 : decode cX11_chance 17 = .ok (.ifCond .lt 8, 3) := by decide +kernel
theorem dX11_chance_20 : decode cX11_chance 20 = .ok (.iload_n 3, 1) := by decide +kernel
theorem dX11_chance_21 : decode cX11_chance 21 = .ok (.iconst 1, 1) := by decide +kernel
theorem dX11_chance_22 : decode cX11_chance 22 = .ok (.if_icmp .le 7, 3) := by decide +kernel
theorem dX11_chance_25 : decode cX11_chance 25 = .ok (.ldc2_w 297, 3) := by decide +kernel
theorem dX11_chance_28 : decode cX11_chance 28 = .ok (.lreturn, 1) := by decide +kernel
theorem dX11_chance_29 : decode cX11_chance 29 = .ok (.aload_n 0, 1) := by decide +kernel
theorem dX11_chance_30 : decode cX11_chance 30 = .ok (.getfield 58, 3) := by decide +kernel
theorem dX11_chance_33 : decode cX11_chance 33 = .ok (.getfield 122, 3) := by decide +kernel
theorem dX11_chance_36 : decode cX11_chance 36 = .ok (.getfield 138, 3) := by decide +kernel
theorem dX11_chance_39 : decode cX11_chance 39 = .ok (.iload_n 1, 1) := by decide +kernel
theorem dX11_chance_40 : decode cX11_chance 40 = .ok (.iaload, 1) := by decide +kernel
theorem dX11_chance_41 : decode cX11_chance 41 = .ok (.invokestatic 299, 3) := by decide +kernel
theorem dX11_chance_44 : decode cX11_chance 44 = .ok (.lstore 4, 2) := by decide +kernel
theorem dX11_chance_46 : decode cX11_chance 46 = .ok (.aload_n 0, 1) := by decide +kernel
theorem dX11_chance_47 : decode cX11_chance 47 = .ok (.getfield 97, 3) := by decide +kernel
theorem dX11_chance_50 : decode cX11_chance 50 = .ok (.aload_n 0, 1) := by decide +kernel
theorem dX11_chance_51 : decode cX11_chance 51 = .ok (.getfield 58, 3) := by decide +kernel
theorem dX11_chance_54 : decode cX11_chance 54 = .ok (.getfield 122, 3) := by decide +kernel
theorem dX11_chance_57 : decode cX11_chance 57 = .ok (.iload_n 1, 1) := by decide +kernel
theorem dX11_chance_58 : decode cX11_chance 58 = .ok (.iload_n 2, 1) := by decide +kernel
theorem dX11_chance_59 : decode cX11_chance 59 = .ok (.invokevirtual 303, 3) := by decide +kernel
theorem dX11_chance_62 : decode cX11_chance 62 = .ok (.lstore 6, 2) := by decide +kernel
theorem dX11_chance_64 : decode cX11_chance 64 = .ok (.lload 4, 2) := by decide +kernel
theorem dX11_chance_66 : decode cX11_chance 66 = .ok (.lload 6, 2) := by decide +kernel
theorem dX11_chance_68 : decode cX11_chance 68 = .ok (.invokestatic 307, 3) := by decide +kernel
theorem dX11_chance_71 : decode cX11_chance 71 = .ok (.lstore 8, 2) := by decide +kernel
theorem dX11_chance_73 : decode cX11_chance 73 = .ok (.lload 8, 2) := by decide +kernel
theorem dX11_chance_75 : decode cX11_chance 75 = .ok (.lconst 1, 1) := by decide +kernel
theorem dX11_chance_76 : decode cX11_chance 76 = .ok (.lcmp, 1) := by decide +kernel
theorem dX11_chance_77 : decode cX11_chance 77 = .ok (.ifCond .ge 7, 3) := by decide +kernel
theorem dX11_chance_80 : decode cX11_chance 80 = .ok (.ldc2_w 297, 3) := by decide +kernel
theorem dX11_chance_83 : decode cX11_chance 83 = .ok (.lreturn, 1) := by decide +kernel
theorem dX11_chance_84 : decode cX11_chance 84 = .ok (.iload_n 3, 1) := by decide +kernel
theorem dX11_chance_85 : decode cX11_chance 85 = .ok (.ifCond .ne 11, 3) := by decide +kernel
theorem dX11_chance_88 : decode cX11_chance 88 = .ok (.lload 6, 2) := by decide +kernel
theorem dX11_chance_90 : decode cX11_chance 90 = .ok (.lload 8, 2) := by decide +kernel
theorem dX11_chance_92 : decode cX11_chance 92 = .ok (.ldiv, 1) := by decide +kernel
theorem dX11_chance_93 : decode cX11_chance 93 = .ok (.goto 8, 3) := by decide +kernel
theorem dX11_chance_96 : decode cX11_chance 96 = .ok (.lload 4, 2) := by decide +kernel
theorem dX11_chance_98 : decode cX11_chance 98 = .ok (.lload 8, 2) := by decide +kernel
theorem dX11_chance_100 : decode cX11_chance 100 = .ok (.ldiv, 1) := by decide +kernel
theorem dX11_chance_101 : decode cX11_chance 101 = .ok (.lreturn, 1) := by decide +kernel
abbrev D_X11_chance : Nat := 5
set_option maxRecDepth 100000 in
def f_X11_chance (μ0 : Mm) (a1 : Nat) (x2 : Int32) (x3 : Int32) (x4 : Int32) : Option (Int64 × Mm) :=
 ((ob μ0 a1 11).bind fun _ =>
    (bd (f_X11_isCell μ0 a1 x2) fun v6 μ5 =>
    (if v6 = 0 then
    (some ((-1 : Int64), μ5))
    else
    ((ob μ5 a1 11).bind fun _ =>
    (bd (f_X11_isCell μ5 a1 x3) fun v8 μ7 =>
    (if v8 = 0 then
    (some ((-1 : Int64), μ7))
    else
    (if x4 < 0 then
    (some ((-1 : Int64), μ7))
    else
    (if x4 ≤ (1 : Int32) then
    ((gR μ7 a1 11 6).bind fun v9 =>
    ((gR μ7 v9 7 0).bind fun v10 =>
    ((gR μ7 v10 1 3).bind fun v11 =>
    ((aI μ7 v11 0 x2).bind fun v12 =>
    (bd (f_X8_twelveTo μ7 v12) fun v14 μ13 =>
    (nm v14 fun w15 =>
    ((gR μ13 a1 11 12).bind fun v16 =>
    ((gR μ13 a1 11 6).bind fun v17 =>
    ((gR μ13 v17 7 0).bind fun v18 =>
    ((ob μ13 v16 8).bind fun _ =>
    (bd (f_X8_shareOfTwelfths μ13 v16 v18 x2 x3) fun v20 μ19 =>
    (nm v20 fun w21 =>
    (bd (f_X8_commonDivisor μ19 w15 w21) fun v23 μ22 =>
    (nm v23 fun w24 =>
    (if 0 ≤ (lg_cmp w24 (1 : Int64)) then
    (if x4 = 0 then
    (dvL w21 w24 fun v25 =>
    (some (v25, μ22)))
    else
    (dvL w15 w24 fun v26 =>
    (some (v26, μ22))))
    else
    (some ((-1 : Int64), μ22)))))))))))))))))
    else
    (some ((-1 : Int64), μ7))))))))))
set_option maxHeartbeats 4000000 in
set_option maxRecDepth 100000 in
theorem f_X11_chance_ok {l : Launch} {G : GG} {μ0 : Mm} {a1 : Nat} {x2 : Int32} {x3 : Int32} {x4 : Int32} {r : Int64} {μ' : Mm} (hf : f_X11_chance μ0 a1 x2 x3 x4 = some (r, μ')) : EvM l G D_X11_chance yX11_chance cX11_chance 10 (some .long) [.ref a1, .int x2, .int x3, .int x4] μ0 (some (.long r)) μ' := by
  show Ev l G D_X11_chance yX11_chance cX11_chance 10 (some .long) 0 [(0, .ref a1), (1, .int x2), (2, .int x3), (3, .int x4)] [] μ0 (some (.long r)) μ'
  unfold f_X11_chance at hf
  refine E_aload_n (pc := 0) dX11_chance_0 rfl ?_
  refine E_iload_n (pc := 1) dX11_chance_1 rfl ?_
  refine E_Vi (pc := 2) (d2 := D_X11_isCell) (ci := 11) [.int x2] dX11_chance_2 ml_X11_134 mf_X11_isCell im_X11_isCell rfl rfl rfl (by decide) (Nat.le_of_ble_eq_true rfl) (Nat.le_of_ble_eq_true rfl) rfl (fun _ _ h => f_X11_isCell_ok h) hf (fun v6 μ5 hf => ?_)
  refine E_if_eq (pc := 5) (tgt := 25) dX11_chance_5 (by decide) hf (fun hf => ?_) (fun hf => ?_)
  · refine E_ldc2 (pc := 25) (v := (-1 : Int64)) dX11_chance_25 co_X11_297 ?_
    exact E_lret (pc := 28) dX11_chance_28 rfl hf
  · refine E_aload_n (pc := 8) dX11_chance_8 rfl ?_
    refine E_iload_n (pc := 9) dX11_chance_9 rfl ?_
    refine E_Vi (pc := 10) (d2 := D_X11_isCell) (ci := 11) [.int x3] dX11_chance_10 ml_X11_134 mf_X11_isCell im_X11_isCell rfl rfl rfl (by decide) (Nat.le_of_ble_eq_true rfl) (Nat.le_of_ble_eq_true rfl) rfl (fun _ _ h => f_X11_isCell_ok h) hf (fun v8 μ7 hf => ?_)
    refine E_if_eq (pc := 13) (tgt := 25) dX11_chance_13 (by decide) hf (fun hf => ?_) (fun hf => ?_)
    · refine E_ldc2 (pc := 25) (v := (-1 : Int64)) dX11_chance_25 co_X11_297 ?_
      exact E_lret (pc := 28) dX11_chance_28 rfl hf
    · refine E_iload_n (pc := 16) dX11_chance_16 rfl ?_
      refine E_if_lt (pc := 17) (tgt := 25) dX11_chance_17 (by decide) hf (fun hf => ?_) (fun hf => ?_)
      · refine E_ldc2 (pc := 25) (v := (-1 : Int64)) dX11_chance_25 co_X11_297 ?_
        exact E_lret (pc := 28) dX11_chance_28 rfl hf
      · refine E_iload_n (pc := 20) dX11_chance_20 rfl ?_
        refine E_iconst (pc := 21) (v := (1 : Int32)) dX11_chance_21 (by decide) ?_
        refine E_icmp_le (pc := 22) (tgt := 29) dX11_chance_22 (by decide) hf (fun hf => ?_) (fun hf => ?_)
        · refine E_aload_n (pc := 29) dX11_chance_29 rfl ?_
          refine E_getR (pc := 30) dX11_chance_30 fl_X11_58 hf (fun v9 hf => ?_)
          refine E_getR (pc := 33) dX11_chance_33 fl_X11_122 hf (fun v10 hf => ?_)
          refine E_getR (pc := 36) dX11_chance_36 fl_X11_138 hf (fun v11 hf => ?_)
          refine E_iload_n (pc := 39) dX11_chance_39 rfl ?_
          refine E_iald (pc := 40) dX11_chance_40 hf (fun v12 hf => ?_)
          refine E_Sl (pc := 41) (d2 := D_X8_twelveTo) [.int v12] dX11_chance_41 ml_X11_299 mf_X8_twelveTo st_X8_twelveTo rfl (by decide) (Nat.le_of_ble_eq_true rfl) (Nat.le_of_ble_eq_true rfl) rfl (fun _ _ h => f_X8_twelveTo_ok h) hf (fun v14 μ13 hf => ?_)
          refine E_lstore (pc := 44) (ls' := fun w15 => [(4, .long w15), (0, .ref a1), (1, .int x2), (2, .int x3), (3, .int x4)]) dX11_chance_44 (by decide) (fun _ => rfl) hf (fun w15 hf => ?_)
          refine E_aload_n (pc := 46) dX11_chance_46 rfl ?_
          refine E_getR (pc := 47) dX11_chance_47 fl_X11_97 hf (fun v16 hf => ?_)
          refine E_aload_n (pc := 50) dX11_chance_50 rfl ?_
          refine E_getR (pc := 51) dX11_chance_51 fl_X11_58 hf (fun v17 hf => ?_)
          refine E_getR (pc := 54) dX11_chance_54 fl_X11_122 hf (fun v18 hf => ?_)
          refine E_iload_n (pc := 57) dX11_chance_57 rfl ?_
          refine E_iload_n (pc := 58) dX11_chance_58 rfl ?_
          refine E_Vl (pc := 59) (d2 := D_X8_shareOfTwelfths) (ci := 8) [.ref v18, .int x2, .int x3] dX11_chance_59 ml_X11_303 mf_X8_shareOfTwelfths im_X8_shareOfTwelfths rfl rfl rfl (by decide) (Nat.le_of_ble_eq_true rfl) (Nat.le_of_ble_eq_true rfl) rfl (fun _ _ h => f_X8_shareOfTwelfths_ok h) hf (fun v20 μ19 hf => ?_)
          refine E_lstore (pc := 62) (ls' := fun w21 => [(6, .long w21), (4, .long w15), (0, .ref a1), (1, .int x2), (2, .int x3), (3, .int x4)]) dX11_chance_62 (by decide) (fun _ => rfl) hf (fun w21 hf => ?_)
          refine E_lload (pc := 64) dX11_chance_64 rfl ?_
          refine E_lload (pc := 66) dX11_chance_66 rfl ?_
          refine E_Sl (pc := 68) (d2 := D_X8_commonDivisor) [.long w15, .long w21] dX11_chance_68 ml_X11_307 mf_X8_commonDivisor st_X8_commonDivisor rfl (by decide) (Nat.le_of_ble_eq_true rfl) (Nat.le_of_ble_eq_true rfl) rfl (fun _ _ h => f_X8_commonDivisor_ok h) hf (fun v23 μ22 hf => ?_)
          refine E_lstore (pc := 71) (ls' := fun w24 => [(8, .long w24), (6, .long w21), (4, .long w15), (0, .ref a1), (1, .int x2), (2, .int x3), (3, .int x4)]) dX11_chance_71 (by decide) (fun _ => rfl) hf (fun w24 hf => ?_)
          refine E_lload (pc := 73) dX11_chance_73 rfl ?_
          refine E_lconst (pc := 75) (v := (1 : Int64)) dX11_chance_75 (by decide) ?_
          refine E_lcmp (pc := 76) dX11_chance_76 ?_
          refine E_if_ge (pc := 77) (tgt := 84) dX11_chance_77 (by decide) hf (fun hf => ?_) (fun hf => ?_)
          · refine E_iload_n (pc := 84) dX11_chance_84 rfl ?_
            refine E_if_ne (pc := 85) (tgt := 96) dX11_chance_85 (by decide) hf (fun hf => ?_) (fun hf => ?_)
            · refine E_lload (pc := 88) dX11_chance_88 rfl ?_
              refine E_lload (pc := 90) dX11_chance_90 rfl ?_
              refine E_ldiv2 (pc := 92) dX11_chance_92 hf (fun v25 hf => ?_)
              refine E_goto (pc := 93) (tgt := 101) dX11_chance_93 (by decide) ?_
              exact E_lret (pc := 101) dX11_chance_101 rfl hf
            · refine E_lload (pc := 96) dX11_chance_96 rfl ?_
              refine E_lload (pc := 98) dX11_chance_98 rfl ?_
              refine E_ldiv2 (pc := 100) dX11_chance_100 hf (fun v26 hf => ?_)
              exact E_lret (pc := 101) dX11_chance_101 rfl hf
          · refine E_ldc2 (pc := 80) (v := (-1 : Int64)) dX11_chance_80 co_X11_297 ?_
            exact E_lret (pc := 83) dX11_chance_83 rfl hf
        · refine E_ldc2 (pc := 25) (v := (-1 : Int64)) dX11_chance_25 co_X11_297 ?_
          exact E_lret (pc := 28) dX11_chance_28 rfl hf
theorem dX11_insure_0 : decode cX11_insure 0 = .ok (.aload_n 0, 1) := by decide +kernel
theorem dX11_insure_1 : decode cX11_insure 1 = .ok (.iload_n 1, 1) := by decide +kernel
theorem dX11_insure_2 : decode cX11_insure 2 = .ok (.invokevirtual 160, 3) := by decide +kernel
theorem dX11_insure_5 : decode cX11_insure 5 = .ok (.ifCond .eq 13, 3) := by decide +kernel
theorem dX11_insure_8 : decode cX11_insure 8 = .ok (.iload_n 2, 1) := by decide +kernel
theorem dX11_insure_9 : decode cX11_insure 9 = .ok (.ifCond .lt 9, 3) := by decide +kernel
theorem dX11_insure_12 : decode cX11_insure 12 = .ok (.iload_n 2, 1) := by decide +kernel
theorem dX11_insure_13 : decode cX11_insure 13 = .ok (.bipush 60, 2) := by decide +kernel
theorem dX11_insure_15 : decode cX11_insure 15 = .ok (.if_icmp .le 5, 3) := by decide +kernel
theorem dX11_insure_18 : decode cX11_insure 18 = .ok (.iconst (-1), 1) := by decide +kernel
theorem dX11_insure_19 : decode cX11_insure 19 = .ok (.ireturn, 1) := by decide +kernel
theorem dX11_insure_20 : decode cX11_insure 20 = .ok (.iconst 0, 1) := by decide +kernel
theorem dX11_insure_21 : decode cX11_insure 21 = .ok (.istore_n 3, 1) := by decide +kernel
theorem dX11_insure_22 : decode cX11_insure 22 = .ok (.iconst 0, 1) := by decide +kernel
theorem dX11_insure_23 : decode cX11_insure 23 = .ok (.istore 4, 2) := by decide +kernel
theorem dX11_insure_25 : decode cX11_insure 25 = .ok (.iload 4, 2) := by decide +kernel
theorem dX11_insure_27 : decode cX11_insure 27 = .ok (.iconst 4, 1) := by decide +kernel
theorem dX11_insure_28 : decode cX11_insure 28 = .ok (.if_icmp .ge 32, 3) := by decide +kernel
theorem dX11_insure_31 : decode cX11_insure 31 = .ok (.aload_n 0, 1) := by decide +kernel
theorem dX11_insure_32 : decode cX11_insure 32 = .ok (.iload_n 1, 1) := by decide +kernel
theorem dX11_insure_33 : decode cX11_insure 33 = .ok (.iload 4, 2) := by decide +kernel
theorem dX11_insure_35 : decode cX11_insure 35 = .ok (.invokevirtual 190, 3) := by decide +kernel
theorem dX11_insure_38 : decode cX11_insure 38 = .ok (.iload_n 3, 1) := by decide +kernel
theorem dX11_insure_39 : decode cX11_insure 39 = .ok (.aload_n 0, 1) := by decide +kernel
theorem dX11_insure_40 : decode cX11_insure 40 = .ok (.getfield 74, 3) := by decide +kernel
theorem dX11_insure_43 : decode cX11_insure 43 = .ok (.getfield 203, 3) := by decide +kernel
theorem dX11_insure_46 : decode cX11_insure 46 = .ok (.bipush 8, 2) := by decide +kernel
theorem dX11_insure_48 : decode cX11_insure 48 = .ok (.iload 4, 2) := by decide +kernel
theorem dX11_insure_50 : decode cX11_insure 50 = .ok (.imul, 1) := by decide +kernel
theorem dX11_insure_51 : decode cX11_insure 51 = .ok (.ishl, 1) := by decide +kernel
theorem dX11_insure_52 : decode cX11_insure 52 = .ok (.ior, 1) := by decide +kernel
theorem dX11_insure_53 : decode cX11_insure 53 = .ok (.istore_n 3, 1) := by decide +kernel
theorem dX11_insure_54 : decode cX11_insure 54 = .ok (.iinc 4 1, 3) := by decide +kernel
theorem dX11_insure_57 : decode cX11_insure 57 = .ok (.goto (-32), 3) := by decide +kernel
theorem dX11_insure_60 : decode cX11_insure 60 = .ok (.iconst 0, 1) := by decide +kernel
theorem dX11_insure_61 : decode cX11_insure 61 = .ok (.istore 4, 2) := by decide +kernel
theorem dX11_insure_63 : decode cX11_insure 63 = .ok (.iconst 0, 1) := by decide +kernel
theorem dX11_insure_64 : decode cX11_insure 64 = .ok (.istore 5, 2) := by decide +kernel
theorem dX11_insure_66 : decode cX11_insure 66 = .ok (.iload 5, 2) := by decide +kernel
theorem dX11_insure_68 : decode cX11_insure 68 = .ok (.aload_n 0, 1) := by decide +kernel
theorem dX11_insure_69 : decode cX11_insure 69 = .ok (.getfield 58, 3) := by decide +kernel
theorem dX11_insure_72 : decode cX11_insure 72 = .ok (.getfield 122, 3) := by decide +kernel
theorem dX11_insure_75 : decode cX11_insure 75 = .ok (.getfield 274, 3) := by decide +kernel
theorem dX11_insure_78 : decode cX11_insure 78 = .ok (.if_icmp .ge 82, 3) := by decide +kernel
theorem dX11_insure_81 : decode cX11_insure 81 = .ok (.iload_n 3, 1) := by decide +kernel
theorem dX11_insure_82 : decode cX11_insure 82 = .ok (.ldc_w 311, 3) := by decide +kernel
theorem dX11_insure_85 : decode cX11_insure 85 = .ok (.iload 5, 2) := by decide +kernel
theorem dX11_insure_87 : decode cX11_insure 87 = .ok (.ishl, 1) := by decide +kernel
theorem dX11_insure_88 : decode cX11_insure 88 = .ok (.iand, 1) := by decide +kernel
theorem dX11_insure_89 : decode cX11_insure 89 = .ok (.invokestatic 312, 3) := by decide +kernel
theorem dX11_insure_92 : decode cX11_insure 92 = .ok (.istore 6, 2) := by decide +kernel
theorem dX11_insure_94 : decode cX11_insure 94 = .ok (.aload_n 0, 1) := by decide +kernel
theorem dX11_insure_95 : decode cX11_insure 95 = .ok (.getfield 58, 3) := by decide +kernel
theorem dX11_insure_98 : decode cX11_insure 98 = .ok (.getfield 122, 3) := by decide +kernel
theorem dX11_insure_101 : decode cX11_insure 101 = .ok (.getfield 175, 3) := by decide +kernel
theorem dX11_insure_104 : decode cX11_insure 104 = .ok (.iload 5, 2) := by decide +kernel
theorem dX11_insure_106 : decode cX11_insure 106 = .ok (.iaload, 1) := by decide +kernel
theorem dX11_insure_107 : decode cX11_insure 107 = .ok (.iload_n 1, 1) := by decide +kernel
theorem dX11_insure_108 : decode cX11_insure 108 = .ok (.if_icmp .ne 7, 3) := by decide +kernel
theorem dX11_insure_111 : decode cX11_insure 111 = .ok (.iconst 1, 1) := by decide +kernel
theorem dX11_insure_112 : decode cX11_insure 112 = .ok (.goto 4, 3) := by decide +kernel
theorem dX11_insure_115 : decode cX11_insure 115 = .ok (.iconst 0, 1) := by decide +kernel
theorem dX11_insure_116 : decode cX11_insure 116 = .ok (.istore 7, 2) := by decide +kernel
theorem dX11_insure_118 : decode cX11_insure 118 = .ok (.iload 7, 2) := by decide +kernel
theorem dX11_insure_120 : decode cX11_insure 120 = .ok (.ifCond .ne 34, 3) := by decide +kernel
theorem dX11_insure_123 : decode cX11_insure 123 = .ok (.aload_n 0, 1) := by decide +kernel
theorem dX11_insure_124 : decode cX11_insure 124 = .ok (.getfield 58, 3) := by decide +kernel
theorem dX11_insure_127 : decode cX11_insure 127 = .ok (.getfield 122, 3) := by decide +kernel
theorem dX11_insure_130 : decode cX11_insure 130 = .ok (.getfield 181, 3) := by decide +kernel
theorem dX11_insure_133 : decode cX11_insure 133 = .ok (.iload 5, 2) := by decide +kernel
theorem dX11_insure_135 : decode cX11_insure 135 = .ok (.iaload, 1) := by decide +kernel
theorem dX11_insure_136 : decode cX11_insure 136 = .ok (.iload 6, 2) := by decide +kernel
theorem dX11_insure_138 : decode cX11_insure 138 = .ok (.imul, 1) := by decide +kernel
theorem dX11_insure_139 : decode cX11_insure 139 = .ok (.iconst 4, 1) := by decide +kernel
theorem dX11_insure_140 : decode cX11_insure 140 = .ok (.iload_n 2, 1) := by decide +kernel
theorem dX11_insure_141 : decode cX11_insure 141 = .ok (.imul, 1) := by decide +kernel
theorem dX11_insure_142 : decode cX11_insure 142 = .ok (.if_icmp .le 12, 3) := by decide +kernel
theorem dX11_insure_145 : decode cX11_insure 145 = .ok (.iload 4, 2) := by decide +kernel
theorem dX11_insure_147 : decode cX11_insure 147 = .ok (.iconst 1, 1) := by decide +kernel
theorem dX11_insure_148 : decode cX11_insure 148 = .ok (.iload 5, 2) := by decide +kernel
theorem dX11_insure_150 : decode cX11_insure 150 = .ok (.ishl, 1) := by decide +kernel
theorem dX11_insure_151 : decode cX11_insure 151 = .ok (.ior, 1) := by decide +kernel
theorem dX11_insure_152 : decode cX11_insure 152 = .ok (.istore 4, 2) := by decide +kernel
theorem dX11_insure_154 : decode cX11_insure 154 = .ok (.iinc 5 1, 3) := by decide +kernel
theorem dX11_insure_157 : decode cX11_insure 157 = .ok (.goto (-91), 3) := by decide +kernel
theorem dX11_insure_160 : decode cX11_insure 160 = .ok (.iload 4, 2) := by decide +kernel
theorem dX11_insure_162 : decode cX11_insure 162 = .ok (.ireturn, 1) := by decide +kernel
abbrev D_X11_insure : Nat := 8
def f_X11_insure_L25 (K60 : Mm → Nat → Int32 → Int32 → Int32 → Option (Int32 × Mm)) : Nat → Mm → Nat → Int32 → Int32 → Int32 → Int32 → Option (Int32 × Mm)
  | 0, _, _, _, _, _, _ => none
  | n + 1, μ0, a8, x9, x10, x11, x12 =>
    (if (4 : Int32) ≤ x12 then
    K60 μ0 a8 x9 x10 x11
    else
    ((ob μ0 a8 11).bind fun _ =>
    ((f_X11_tryFall μ0 a8 x9 x12).bind fun μ13 =>
    ((gR μ13 a8 11 9).bind fun v14 =>
    ((gI μ13 v14 0 8).bind fun v15 =>
    (nm (x11 ||| (v15 <<< (((8 : Int32) * x12) &&& 31))) fun x16 =>
    (nm (x12 + Int32.ofInt (1)) fun x17 =>
    f_X11_insure_L25 K60 n μ13 a8 x9 x10 x16 x17)))))))
set_option maxHeartbeats 4000000 in
set_option maxRecDepth 100000 in
theorem f_X11_insure_L25_ok {l : Launch} {G : GG} {K60 : Mm → Nat → Int32 → Int32 → Int32 → Option (Int32 × Mm)} {r : Int32} {μ' : Mm} (n : Nat) (μ0 : Mm) (a8 : Nat) (x9 : Int32) (x10 : Int32) (x11 : Int32) (x12 : Int32) (hf : f_X11_insure_L25 K60 n μ0 a8 x9 x10 x11 x12 = some (r, μ')) (hK60 : ∀ (μ1 : Mm) (y0 : Nat) (y1 : Int32) (y2 : Int32) (y3 : Int32), K60 μ1 y0 y1 y2 y3 = some (r, μ') → Ev l G D_X11_insure yX11_insure cX11_insure 8 (some .int) 60 [(0, .ref y0), (1, .int y1), (2, .int y2), (3, .int y3)] [] μ1 (some (.int r)) μ') : Ev l G D_X11_insure yX11_insure cX11_insure 8 (some .int) 25 [(0, .ref a8), (1, .int x9), (2, .int x10), (3, .int x11), (4, .int x12)] [] μ0 (some (.int r)) μ' := by
  induction n generalizing μ0 a8 x9 x10 x11 x12 with
  | zero => cases hf
  | succ n ih0 =>
    have ih : ∀ (μ0 : Mm) (a8 : Nat) (x9 : Int32) (x10 : Int32) (x11 : Int32) (x12 : Int32), f_X11_insure_L25 K60 n μ0 a8 x9 x10 x11 x12 = some (r, μ') → Ev l G D_X11_insure yX11_insure cX11_insure 8 (some .int) 25 [(0, .ref a8), (1, .int x9), (2, .int x10), (3, .int x11), (4, .int x12)] [] μ0 (some (.int r)) μ' := fun μ0 a8 x9 x10 x11 x12 hf => ih0 μ0 a8 x9 x10 x11 x12 hf
    rw [f_X11_insure_L25] at hf
    refine E_iload (pc := 25) dX11_insure_25 rfl ?_
    refine E_iconst (pc := 27) (v := (4 : Int32)) dX11_insure_27 (by decide) ?_
    refine E_icmp_ge (pc := 28) (tgt := 60) dX11_insure_28 (by decide) hf (fun hf => ?_) (fun hf => ?_)
    · refine Ev.sub [0, 1, 2, 3] rfl ?_
      exact hK60 _ _ _ _ _ hf
    · refine E_aload_n (pc := 31) dX11_insure_31 rfl ?_
      refine E_iload_n (pc := 32) dX11_insure_32 rfl ?_
      refine E_iload (pc := 33) dX11_insure_33 rfl ?_
      refine E_Vv (pc := 35) (d2 := D_X11_tryFall) (ci := 11) [.int x9, .int x12] dX11_insure_35 ml_X11_190 mf_X11_tryFall im_X11_tryFall rfl rfl rfl (by decide) (Nat.le_of_ble_eq_true rfl) (Nat.le_of_ble_eq_true rfl) rfl (fun _ h => f_X11_tryFall_ok h) hf (fun μ13 hf => ?_)
      refine E_iload_n (pc := 38) dX11_insure_38 rfl ?_
      refine E_aload_n (pc := 39) dX11_insure_39 rfl ?_
      refine E_getR (pc := 40) dX11_insure_40 fl_X11_74 hf (fun v14 hf => ?_)
      refine E_getI (pc := 43) dX11_insure_43 fl_X11_203 hf (fun v15 hf => ?_)
      refine E_bipush (pc := 46) (v := (8 : Int32)) dX11_insure_46 (by decide) ?_
      refine E_iload (pc := 48) dX11_insure_48 rfl ?_
      refine E_imul (pc := 50) dX11_insure_50 ?_
      refine E_ishl (pc := 51) dX11_insure_51 ?_
      refine E_ior (pc := 52) dX11_insure_52 ?_
      refine E_istore_n (pc := 53) (ls' := fun x16 => [(3, .int x16), (0, .ref a8), (1, .int x9), (2, .int x10), (4, .int x12)]) dX11_insure_53 (by decide) (fun _ => rfl) hf (fun x16 hf => ?_)
      refine E_iinc (pc := 54) (ls' := fun x17 => [(4, .int x17), (3, .int x16), (0, .ref a8), (1, .int x9), (2, .int x10)]) dX11_insure_54 rfl (by decide) (fun _ => rfl) hf (fun x17 hf => ?_)
      refine E_goto (pc := 57) (tgt := 25) dX11_insure_57 (by decide) ?_
      refine Ev.sub [2, 3, 4, 1, 0] rfl ?_
      exact ih _ _ _ _ _ _ hf
def f_X11_insure_L66 (K160 : Mm → Int32 → Option (Int32 × Mm)) : Nat → Mm → Nat → Int32 → Int32 → Int32 → Int32 → Int32 → Option (Int32 × Mm)
  | 0, _, _, _, _, _, _, _ => none
  | n + 1, μ0, a25, x26, x27, x28, x29, x30 =>
    ((gR μ0 a25 11 6).bind fun v31 =>
    ((gR μ0 v31 7 0).bind fun v32 =>
    ((gI μ0 v32 1 9).bind fun v33 =>
    (if v33 ≤ x30 then
    K160 μ0 x29
    else
    (bd (f_J6_bitCount_0f7a4 μ0 (x28 &&& ((16843009 : Int32) <<< (x30 &&& 31)))) fun v35 μ34 =>
    (nm v35 fun x36 =>
    ((gR μ34 a25 11 6).bind fun v37 =>
    ((gR μ34 v37 7 0).bind fun v38 =>
    ((gR μ34 v38 1 11).bind fun v39 =>
    ((aI μ34 v39 0 x30).bind fun v40 =>
    (if v40 = x26 then
    (nm (1 : Int32) fun x41 =>
    (if x41 = 0 then
    ((gR μ34 a25 11 6).bind fun v42 =>
    ((gR μ34 v42 7 0).bind fun v43 =>
    ((gR μ34 v43 1 13).bind fun v44 =>
    ((aI μ34 v44 0 x30).bind fun v45 =>
    (if (v45 * x36) ≤ ((4 : Int32) * x27) then
    (nm (x30 + Int32.ofInt (1)) fun x46 =>
    f_X11_insure_L66 K160 n μ34 a25 x26 x27 x28 x29 x46)
    else
    (nm (x29 ||| ((1 : Int32) <<< (x30 &&& 31))) fun x47 =>
    (nm (x30 + Int32.ofInt (1)) fun x48 =>
    f_X11_insure_L66 K160 n μ34 a25 x26 x27 x28 x47 x48)))))))
    else
    (nm (x30 + Int32.ofInt (1)) fun x49 =>
    f_X11_insure_L66 K160 n μ34 a25 x26 x27 x28 x29 x49)))
    else
    (nm (0 : Int32) fun x50 =>
    (if x50 = 0 then
    ((gR μ34 a25 11 6).bind fun v51 =>
    ((gR μ34 v51 7 0).bind fun v52 =>
    ((gR μ34 v52 1 13).bind fun v53 =>
    ((aI μ34 v53 0 x30).bind fun v54 =>
    (if (v54 * x36) ≤ ((4 : Int32) * x27) then
    (nm (x30 + Int32.ofInt (1)) fun x55 =>
    f_X11_insure_L66 K160 n μ34 a25 x26 x27 x28 x29 x55)
    else
    (nm (x29 ||| ((1 : Int32) <<< (x30 &&& 31))) fun x56 =>
    (nm (x30 + Int32.ofInt (1)) fun x57 =>
    f_X11_insure_L66 K160 n μ34 a25 x26 x27 x28 x56 x57)))))))
    else
    (nm (x30 + Int32.ofInt (1)) fun x58 =>
    f_X11_insure_L66 K160 n μ34 a25 x26 x27 x28 x29 x58))))))))))))))
set_option maxHeartbeats 4000000 in
set_option maxRecDepth 100000 in
theorem f_X11_insure_L66_ok {l : Launch} {G : GG} {K160 : Mm → Int32 → Option (Int32 × Mm)} {r : Int32} {μ' : Mm} (n : Nat) (μ0 : Mm) (a25 : Nat) (x26 : Int32) (x27 : Int32) (x28 : Int32) (x29 : Int32) (x30 : Int32) (hf : f_X11_insure_L66 K160 n μ0 a25 x26 x27 x28 x29 x30 = some (r, μ')) (hK160 : ∀ (μ1 : Mm) (y4 : Int32), K160 μ1 y4 = some (r, μ') → Ev l G D_X11_insure yX11_insure cX11_insure 8 (some .int) 160 [(4, .int y4)] [] μ1 (some (.int r)) μ') : Ev l G D_X11_insure yX11_insure cX11_insure 8 (some .int) 66 [(0, .ref a25), (1, .int x26), (2, .int x27), (3, .int x28), (4, .int x29), (5, .int x30)] [] μ0 (some (.int r)) μ' := by
  induction n generalizing μ0 a25 x26 x27 x28 x29 x30 with
  | zero => cases hf
  | succ n ih0 =>
    have ih : ∀ (μ0 : Mm) (a25 : Nat) (x26 : Int32) (x27 : Int32) (x28 : Int32) (x29 : Int32) (x30 : Int32), f_X11_insure_L66 K160 n μ0 a25 x26 x27 x28 x29 x30 = some (r, μ') → Ev l G D_X11_insure yX11_insure cX11_insure 8 (some .int) 66 [(0, .ref a25), (1, .int x26), (2, .int x27), (3, .int x28), (4, .int x29), (5, .int x30)] [] μ0 (some (.int r)) μ' := fun μ0 a25 x26 x27 x28 x29 x30 hf => ih0 μ0 a25 x26 x27 x28 x29 x30 hf
    rw [f_X11_insure_L66] at hf
    refine E_iload (pc := 66) dX11_insure_66 rfl ?_
    refine E_aload_n (pc := 68) dX11_insure_68 rfl ?_
    refine E_getR (pc := 69) dX11_insure_69 fl_X11_58 hf (fun v31 hf => ?_)
    refine E_getR (pc := 72) dX11_insure_72 fl_X11_122 hf (fun v32 hf => ?_)
    refine E_getI (pc := 75) dX11_insure_75 fl_X11_274 hf (fun v33 hf => ?_)
    refine E_icmp_ge (pc := 78) (tgt := 160) dX11_insure_78 (by decide) hf (fun hf => ?_) (fun hf => ?_)
    · refine Ev.sub [4] rfl ?_
      exact hK160 _ _ hf
    · refine E_iload_n (pc := 81) dX11_insure_81 rfl ?_
      refine E_ldcw (pc := 82) (v := (16843009 : Int32)) dX11_insure_82 co_X11_311 ?_
      refine E_iload (pc := 85) dX11_insure_85 rfl ?_
      refine E_ishl (pc := 87) dX11_insure_87 ?_
      refine E_iand (pc := 88) dX11_insure_88 ?_
      refine E_Si (pc := 89) (d2 := D_J6_bitCount_0f7a4) [.int (x28 &&& ((16843009 : Int32) <<< (x30 &&& 31)))] dX11_insure_89 ml_X11_312 mf_J6_bitCount_0f7a4 st_J6_bitCount_0f7a4 rfl (by decide) (Nat.le_of_ble_eq_true rfl) (Nat.le_of_ble_eq_true rfl) rfl (fun _ _ h => f_J6_bitCount_0f7a4_ok h) hf (fun v35 μ34 hf => ?_)
      refine E_istore (pc := 92) (ls' := fun x36 => [(6, .int x36), (0, .ref a25), (1, .int x26), (2, .int x27), (3, .int x28), (4, .int x29), (5, .int x30)]) dX11_insure_92 (by decide) (fun _ => rfl) hf (fun x36 hf => ?_)
      refine E_aload_n (pc := 94) dX11_insure_94 rfl ?_
      refine E_getR (pc := 95) dX11_insure_95 fl_X11_58 hf (fun v37 hf => ?_)
      refine E_getR (pc := 98) dX11_insure_98 fl_X11_122 hf (fun v38 hf => ?_)
      refine E_getR (pc := 101) dX11_insure_101 fl_X11_175 hf (fun v39 hf => ?_)
      refine E_iload (pc := 104) dX11_insure_104 rfl ?_
      refine E_iald (pc := 106) dX11_insure_106 hf (fun v40 hf => ?_)
      refine E_iload_n (pc := 107) dX11_insure_107 rfl ?_
      refine E_icmp_ne (pc := 108) (tgt := 115) dX11_insure_108 (by decide) hf (fun hf => ?_) (fun hf => ?_)
      · refine E_iconst (pc := 111) (v := (1 : Int32)) dX11_insure_111 (by decide) ?_
        refine E_goto (pc := 112) (tgt := 116) dX11_insure_112 (by decide) ?_
        refine E_istore (pc := 116) (ls' := fun x41 => [(7, .int x41), (6, .int x36), (0, .ref a25), (1, .int x26), (2, .int x27), (3, .int x28), (4, .int x29), (5, .int x30)]) dX11_insure_116 (by decide) (fun _ => rfl) hf (fun x41 hf => ?_)
        refine E_iload (pc := 118) dX11_insure_118 rfl ?_
        refine E_if_ne (pc := 120) (tgt := 154) dX11_insure_120 (by decide) hf (fun hf => ?_) (fun hf => ?_)
        · refine E_aload_n (pc := 123) dX11_insure_123 rfl ?_
          refine E_getR (pc := 124) dX11_insure_124 fl_X11_58 hf (fun v42 hf => ?_)
          refine E_getR (pc := 127) dX11_insure_127 fl_X11_122 hf (fun v43 hf => ?_)
          refine E_getR (pc := 130) dX11_insure_130 fl_X11_181 hf (fun v44 hf => ?_)
          refine E_iload (pc := 133) dX11_insure_133 rfl ?_
          refine E_iald (pc := 135) dX11_insure_135 hf (fun v45 hf => ?_)
          refine E_iload (pc := 136) dX11_insure_136 rfl ?_
          refine E_imul (pc := 138) dX11_insure_138 ?_
          refine E_iconst (pc := 139) (v := (4 : Int32)) dX11_insure_139 (by decide) ?_
          refine E_iload_n (pc := 140) dX11_insure_140 rfl ?_
          refine E_imul (pc := 141) dX11_insure_141 ?_
          refine E_icmp_le (pc := 142) (tgt := 154) dX11_insure_142 (by decide) hf (fun hf => ?_) (fun hf => ?_)
          · refine E_iinc (pc := 154) (ls' := fun x46 => [(5, .int x46), (7, .int x41), (6, .int x36), (0, .ref a25), (1, .int x26), (2, .int x27), (3, .int x28), (4, .int x29)]) dX11_insure_154 rfl (by decide) (fun _ => rfl) hf (fun x46 hf => ?_)
            refine E_goto (pc := 157) (tgt := 66) dX11_insure_157 (by decide) ?_
            refine Ev.sub [3, 4, 5, 6, 7, 0] rfl ?_
            exact ih _ _ _ _ _ _ _ hf
          · refine E_iload (pc := 145) dX11_insure_145 rfl ?_
            refine E_iconst (pc := 147) (v := (1 : Int32)) dX11_insure_147 (by decide) ?_
            refine E_iload (pc := 148) dX11_insure_148 rfl ?_
            refine E_ishl (pc := 150) dX11_insure_150 ?_
            refine E_ior (pc := 151) dX11_insure_151 ?_
            refine E_istore (pc := 152) (ls' := fun x47 => [(4, .int x47), (7, .int x41), (6, .int x36), (0, .ref a25), (1, .int x26), (2, .int x27), (3, .int x28), (5, .int x30)]) dX11_insure_152 (by decide) (fun _ => rfl) hf (fun x47 hf => ?_)
            refine E_iinc (pc := 154) (ls' := fun x48 => [(5, .int x48), (4, .int x47), (7, .int x41), (6, .int x36), (0, .ref a25), (1, .int x26), (2, .int x27), (3, .int x28)]) dX11_insure_154 rfl (by decide) (fun _ => rfl) hf (fun x48 hf => ?_)
            refine E_goto (pc := 157) (tgt := 66) dX11_insure_157 (by decide) ?_
            refine Ev.sub [4, 5, 6, 7, 1, 0] rfl ?_
            exact ih _ _ _ _ _ _ _ hf
        · refine E_iinc (pc := 154) (ls' := fun x49 => [(5, .int x49), (7, .int x41), (6, .int x36), (0, .ref a25), (1, .int x26), (2, .int x27), (3, .int x28), (4, .int x29)]) dX11_insure_154 rfl (by decide) (fun _ => rfl) hf (fun x49 hf => ?_)
          refine E_goto (pc := 157) (tgt := 66) dX11_insure_157 (by decide) ?_
          refine Ev.sub [3, 4, 5, 6, 7, 0] rfl ?_
          exact ih _ _ _ _ _ _ _ hf
      · refine E_iconst (pc := 115) (v := (0 : Int32)) dX11_insure_115 (by decide) ?_
        refine E_istore (pc := 116) (ls' := fun x50 => [(7, .int x50), (6, .int x36), (0, .ref a25), (1, .int x26), (2, .int x27), (3, .int x28), (4, .int x29), (5, .int x30)]) dX11_insure_116 (by decide) (fun _ => rfl) hf (fun x50 hf => ?_)
        refine E_iload (pc := 118) dX11_insure_118 rfl ?_
        refine E_if_ne (pc := 120) (tgt := 154) dX11_insure_120 (by decide) hf (fun hf => ?_) (fun hf => ?_)
        · refine E_aload_n (pc := 123) dX11_insure_123 rfl ?_
          refine E_getR (pc := 124) dX11_insure_124 fl_X11_58 hf (fun v51 hf => ?_)
          refine E_getR (pc := 127) dX11_insure_127 fl_X11_122 hf (fun v52 hf => ?_)
          refine E_getR (pc := 130) dX11_insure_130 fl_X11_181 hf (fun v53 hf => ?_)
          refine E_iload (pc := 133) dX11_insure_133 rfl ?_
          refine E_iald (pc := 135) dX11_insure_135 hf (fun v54 hf => ?_)
          refine E_iload (pc := 136) dX11_insure_136 rfl ?_
          refine E_imul (pc := 138) dX11_insure_138 ?_
          refine E_iconst (pc := 139) (v := (4 : Int32)) dX11_insure_139 (by decide) ?_
          refine E_iload_n (pc := 140) dX11_insure_140 rfl ?_
          refine E_imul (pc := 141) dX11_insure_141 ?_
          refine E_icmp_le (pc := 142) (tgt := 154) dX11_insure_142 (by decide) hf (fun hf => ?_) (fun hf => ?_)
          · refine E_iinc (pc := 154) (ls' := fun x55 => [(5, .int x55), (7, .int x50), (6, .int x36), (0, .ref a25), (1, .int x26), (2, .int x27), (3, .int x28), (4, .int x29)]) dX11_insure_154 rfl (by decide) (fun _ => rfl) hf (fun x55 hf => ?_)
            refine E_goto (pc := 157) (tgt := 66) dX11_insure_157 (by decide) ?_
            refine Ev.sub [3, 4, 5, 6, 7, 0] rfl ?_
            exact ih _ _ _ _ _ _ _ hf
          · refine E_iload (pc := 145) dX11_insure_145 rfl ?_
            refine E_iconst (pc := 147) (v := (1 : Int32)) dX11_insure_147 (by decide) ?_
            refine E_iload (pc := 148) dX11_insure_148 rfl ?_
            refine E_ishl (pc := 150) dX11_insure_150 ?_
            refine E_ior (pc := 151) dX11_insure_151 ?_
            refine E_istore (pc := 152) (ls' := fun x56 => [(4, .int x56), (7, .int x50), (6, .int x36), (0, .ref a25), (1, .int x26), (2, .int x27), (3, .int x28), (5, .int x30)]) dX11_insure_152 (by decide) (fun _ => rfl) hf (fun x56 hf => ?_)
            refine E_iinc (pc := 154) (ls' := fun x57 => [(5, .int x57), (4, .int x56), (7, .int x50), (6, .int x36), (0, .ref a25), (1, .int x26), (2, .int x27), (3, .int x28)]) dX11_insure_154 rfl (by decide) (fun _ => rfl) hf (fun x57 hf => ?_)
            refine E_goto (pc := 157) (tgt := 66) dX11_insure_157 (by decide) ?_
            refine Ev.sub [4, 5, 6, 7, 1, 0] rfl ?_
            exact ih _ _ _ _ _ _ _ hf
        · refine E_iinc (pc := 154) (ls' := fun x58 => [(5, .int x58), (7, .int x50), (6, .int x36), (0, .ref a25), (1, .int x26), (2, .int x27), (3, .int x28), (4, .int x29)]) dX11_insure_154 rfl (by decide) (fun _ => rfl) hf (fun x58 hf => ?_)
          refine E_goto (pc := 157) (tgt := 66) dX11_insure_157 (by decide) ?_
          refine Ev.sub [3, 4, 5, 6, 7, 0] rfl ?_
          exact ih _ _ _ _ _ _ _ hf
set_option maxRecDepth 100000 in
def f_X11_insure (μ0 : Mm) (a1 : Nat) (x2 : Int32) (x3 : Int32) : Option (Int32 × Mm) :=
 ((ob μ0 a1 11).bind fun _ =>
    (bd (f_X11_isPerson μ0 a1 x2) fun v5 μ4 =>
    (if v5 = 0 then
    (some ((-1 : Int32), μ4))
    else
    (if x3 < 0 then
    (some ((-1 : Int32), μ4))
    else
    (if x3 ≤ (60 : Int32) then
    (nm (0 : Int32) fun x6 =>
    (nm (0 : Int32) fun x7 =>
    f_X11_insure_L25 (fun μ18 a19 x20 x21 x22 =>
    (nm (0 : Int32) fun x23 =>
    (nm (0 : Int32) fun x24 =>
    f_X11_insure_L66 (fun μ59 x60 =>
    (some (x60, μ59))) FU μ18 a19 x20 x21 x22 x23 x24))) FU μ4 a1 x2 x3 x6 x7))
    else
    (some ((-1 : Int32), μ4)))))))
set_option maxHeartbeats 4000000 in
set_option maxRecDepth 100000 in
theorem f_X11_insure_ok {l : Launch} {G : GG} {μ0 : Mm} {a1 : Nat} {x2 : Int32} {x3 : Int32} {r : Int32} {μ' : Mm} (hf : f_X11_insure μ0 a1 x2 x3 = some (r, μ')) : EvM l G D_X11_insure yX11_insure cX11_insure 8 (some .int) [.ref a1, .int x2, .int x3] μ0 (some (.int r)) μ' := by
  show Ev l G D_X11_insure yX11_insure cX11_insure 8 (some .int) 0 [(0, .ref a1), (1, .int x2), (2, .int x3)] [] μ0 (some (.int r)) μ'
  unfold f_X11_insure at hf
  refine E_aload_n (pc := 0) dX11_insure_0 rfl ?_
  refine E_iload_n (pc := 1) dX11_insure_1 rfl ?_
  refine E_Vi (pc := 2) (d2 := D_X11_isPerson) (ci := 11) [.int x2] dX11_insure_2 ml_X11_160 mf_X11_isPerson im_X11_isPerson rfl rfl rfl (by decide) (Nat.le_of_ble_eq_true rfl) (Nat.le_of_ble_eq_true rfl) rfl (fun _ _ h => f_X11_isPerson_ok h) hf (fun v5 μ4 hf => ?_)
  refine E_if_eq (pc := 5) (tgt := 18) dX11_insure_5 (by decide) hf (fun hf => ?_) (fun hf => ?_)
  · refine E_iconst (pc := 18) (v := (-1 : Int32)) dX11_insure_18 (by decide) ?_
    exact E_iret (pc := 19) dX11_insure_19 rfl hf
  · refine E_iload_n (pc := 8) dX11_insure_8 rfl ?_
    refine E_if_lt (pc := 9) (tgt := 18) dX11_insure_9 (by decide) hf (fun hf => ?_) (fun hf => ?_)
    · refine E_iconst (pc := 18) (v := (-1 : Int32)) dX11_insure_18 (by decide) ?_
      exact E_iret (pc := 19) dX11_insure_19 rfl hf
    · refine E_iload_n (pc := 12) dX11_insure_12 rfl ?_
      refine E_bipush (pc := 13) (v := (60 : Int32)) dX11_insure_13 (by decide) ?_
      refine E_icmp_le (pc := 15) (tgt := 20) dX11_insure_15 (by decide) hf (fun hf => ?_) (fun hf => ?_)
      · refine E_iconst (pc := 20) (v := (0 : Int32)) dX11_insure_20 (by decide) ?_
        refine E_istore_n (pc := 21) (ls' := fun x6 => [(3, .int x6), (0, .ref a1), (1, .int x2), (2, .int x3)]) dX11_insure_21 (by decide) (fun _ => rfl) hf (fun x6 hf => ?_)
        refine E_iconst (pc := 22) (v := (0 : Int32)) dX11_insure_22 (by decide) ?_
        refine E_istore (pc := 23) (ls' := fun x7 => [(4, .int x7), (3, .int x6), (0, .ref a1), (1, .int x2), (2, .int x3)]) dX11_insure_23 (by decide) (fun _ => rfl) hf (fun x7 hf => ?_)
        refine Ev.sub [2, 3, 4, 1, 0] rfl ?_
        refine f_X11_insure_L25_ok  _ _ _ _ _ _ _ hf (fun μ18 a19 x20 x21 x22 hf => ?_)
        · refine E_iconst (pc := 60) (v := (0 : Int32)) dX11_insure_60 (by decide) ?_
          refine E_istore (pc := 61) (ls' := fun x23 => [(4, .int x23), (0, .ref a19), (1, .int x20), (2, .int x21), (3, .int x22)]) dX11_insure_61 (by decide) (fun _ => rfl) hf (fun x23 hf => ?_)
          refine E_iconst (pc := 63) (v := (0 : Int32)) dX11_insure_63 (by decide) ?_
          refine E_istore (pc := 64) (ls' := fun x24 => [(5, .int x24), (4, .int x23), (0, .ref a19), (1, .int x20), (2, .int x21), (3, .int x22)]) dX11_insure_64 (by decide) (fun _ => rfl) hf (fun x24 hf => ?_)
          refine Ev.sub [2, 3, 4, 5, 1, 0] rfl ?_
          refine f_X11_insure_L66_ok  _ _ _ _ _ _ _ _ hf (fun μ59 x60 hf => ?_)
          · refine E_iload (pc := 160) dX11_insure_160 rfl ?_
            exact E_iret (pc := 162) dX11_insure_162 rfl hf
      · refine E_iconst (pc := 18) (v := (-1 : Int32)) dX11_insure_18 (by decide) ?_
        exact E_iret (pc := 19) dX11_insure_19 rfl hf
theorem dX11_lesson_0 : decode cX11_lesson 0 = .ok (.aload_n 0, 1) := by decide +kernel
theorem dX11_lesson_1 : decode cX11_lesson 1 = .ok (.getfield 58, 3) := by decide +kernel
theorem dX11_lesson_4 : decode cX11_lesson 4 = .ok (.getfield 122, 3) := by decide +kernel
theorem dX11_lesson_7 : decode cX11_lesson 7 = .ok (.getfield 317, 3) := by decide +kernel
theorem dX11_lesson_10 : decode cX11_lesson 10 = .ok (.astore_n 2, 1) := by decide +kernel
theorem dX11_lesson_11 : decode cX11_lesson 11 = .ok (.iload_n 1, 1) := by decide +kernel
theorem dX11_lesson_12 : decode cX11_lesson 12 = .ok (.ifCond .lt 11, 3) := by decide +kernel
theorem dX11_lesson_15 : decode cX11_lesson 15 = .ok (.iload_n 1, 1) := by decide +kernel
theorem dX11_lesson_16 : decode cX11_lesson 16 = .ok (.aload_n 2, 1) := by decide +kernel
theorem dX11_lesson_17 : decode cX11_lesson 17 = .ok (.getfield 321, 3) := by decide +kernel
theorem dX11_lesson_20 : decode cX11_lesson 20 = .ok (.if_icmp .lt 5, 3) := by decide +kernel
theorem dX11_lesson_23 : decode cX11_lesson 23 = .ok (.iconst (-1), 1) := by decide +kernel
theorem dX11_lesson_24 : decode cX11_lesson 24 = .ok (.ireturn, 1) := by decide +kernel
theorem dX11_lesson_25 : decode cX11_lesson 25 = .ok (.aload_n 2, 1) := by decide +kernel
theorem dX11_lesson_26 : decode cX11_lesson 26 = .ok (.getfield 326, 3) := by decide +kernel
theorem dX11_lesson_29 : decode cX11_lesson 29 = .ok (.iload_n 1, 1) := by decide +kernel
theorem dX11_lesson_30 : decode cX11_lesson 30 = .ok (.iaload, 1) := by decide +kernel
theorem dX11_lesson_31 : decode cX11_lesson 31 = .ok (.iconst (-1), 1) := by decide +kernel
theorem dX11_lesson_32 : decode cX11_lesson 32 = .ok (.if_icmp .ne 8, 3) := by decide +kernel
theorem dX11_lesson_35 : decode cX11_lesson 35 = .ok (.bipush (-2), 2) := by decide +kernel
theorem dX11_lesson_37 : decode cX11_lesson 37 = .ok (.goto 9, 3) := by decide +kernel
theorem dX11_lesson_40 : decode cX11_lesson 40 = .ok (.aload_n 2, 1) := by decide +kernel
theorem dX11_lesson_41 : decode cX11_lesson 41 = .ok (.getfield 326, 3) := by decide +kernel
theorem dX11_lesson_44 : decode cX11_lesson 44 = .ok (.iload_n 1, 1) := by decide +kernel
theorem dX11_lesson_45 : decode cX11_lesson 45 = .ok (.iaload, 1) := by decide +kernel
theorem dX11_lesson_46 : decode cX11_lesson 46 = .ok (.ireturn, 1) := by decide +kernel
abbrev D_X11_lesson : Nat := 1
set_option maxRecDepth 100000 in
def f_X11_lesson (μ0 : Mm) (a1 : Nat) (x2 : Int32) : Option (Int32 × Mm) :=
 ((gR μ0 a1 11 6).bind fun v3 =>
    ((gR μ0 v3 7 0).bind fun v4 =>
    ((gR μ0 v4 1 14).bind fun v5 =>
    (nm v5 fun a6 =>
    (if x2 < 0 then
    (some ((-1 : Int32), μ0))
    else
    ((gI μ0 a6 3 0).bind fun v7 =>
    (if x2 < v7 then
    ((gR μ0 a6 3 5).bind fun v8 =>
    ((aI μ0 v8 0 x2).bind fun v9 =>
    (if v9 = (-1 : Int32) then
    (some ((-2 : Int32), μ0))
    else
    ((gR μ0 a6 3 5).bind fun v10 =>
    ((aI μ0 v10 0 x2).bind fun v11 =>
    (some (v11, μ0)))))))
    else
    (some ((-1 : Int32), μ0)))))))))
set_option maxHeartbeats 4000000 in
set_option maxRecDepth 100000 in
theorem f_X11_lesson_ok {l : Launch} {G : GG} {μ0 : Mm} {a1 : Nat} {x2 : Int32} {r : Int32} {μ' : Mm} (hf : f_X11_lesson μ0 a1 x2 = some (r, μ')) : EvM l G D_X11_lesson yX11_lesson cX11_lesson 3 (some .int) [.ref a1, .int x2] μ0 (some (.int r)) μ' := by
  show Ev l G D_X11_lesson yX11_lesson cX11_lesson 3 (some .int) 0 [(0, .ref a1), (1, .int x2)] [] μ0 (some (.int r)) μ'
  unfold f_X11_lesson at hf
  refine E_aload_n (pc := 0) dX11_lesson_0 rfl ?_
  refine E_getR (pc := 1) dX11_lesson_1 fl_X11_58 hf (fun v3 hf => ?_)
  refine E_getR (pc := 4) dX11_lesson_4 fl_X11_122 hf (fun v4 hf => ?_)
  refine E_getR (pc := 7) dX11_lesson_7 fl_X11_317 hf (fun v5 hf => ?_)
  refine E_astore_n (pc := 10) (ls' := fun a6 => [(2, .ref a6), (0, .ref a1), (1, .int x2)]) dX11_lesson_10 (by decide) (fun _ => rfl) hf (fun a6 hf => ?_)
  refine E_iload_n (pc := 11) dX11_lesson_11 rfl ?_
  refine E_if_lt (pc := 12) (tgt := 23) dX11_lesson_12 (by decide) hf (fun hf => ?_) (fun hf => ?_)
  · refine E_iconst (pc := 23) (v := (-1 : Int32)) dX11_lesson_23 (by decide) ?_
    exact E_iret (pc := 24) dX11_lesson_24 rfl hf
  · refine E_iload_n (pc := 15) dX11_lesson_15 rfl ?_
    refine E_aload_n (pc := 16) dX11_lesson_16 rfl ?_
    refine E_getI (pc := 17) dX11_lesson_17 fl_X11_321 hf (fun v7 hf => ?_)
    refine E_icmp_lt (pc := 20) (tgt := 25) dX11_lesson_20 (by decide) hf (fun hf => ?_) (fun hf => ?_)
    · refine E_aload_n (pc := 25) dX11_lesson_25 rfl ?_
      refine E_getR (pc := 26) dX11_lesson_26 fl_X11_326 hf (fun v8 hf => ?_)
      refine E_iload_n (pc := 29) dX11_lesson_29 rfl ?_
      refine E_iald (pc := 30) dX11_lesson_30 hf (fun v9 hf => ?_)
      refine E_iconst (pc := 31) (v := (-1 : Int32)) dX11_lesson_31 (by decide) ?_
      refine E_icmp_ne (pc := 32) (tgt := 40) dX11_lesson_32 (by decide) hf (fun hf => ?_) (fun hf => ?_)
      · refine E_bipush (pc := 35) (v := (-2 : Int32)) dX11_lesson_35 (by decide) ?_
        refine E_goto (pc := 37) (tgt := 46) dX11_lesson_37 (by decide) ?_
        exact E_iret (pc := 46) dX11_lesson_46 rfl hf
      · refine E_aload_n (pc := 40) dX11_lesson_40 rfl ?_
        refine E_getR (pc := 41) dX11_lesson_41 fl_X11_326 hf (fun v10 hf => ?_)
        refine E_iload_n (pc := 44) dX11_lesson_44 rfl ?_
        refine E_iald (pc := 45) dX11_lesson_45 hf (fun v11 hf => ?_)
        exact E_iret (pc := 46) dX11_lesson_46 rfl hf
    · refine E_iconst (pc := 23) (v := (-1 : Int32)) dX11_lesson_23 (by decide) ?_
      exact E_iret (pc := 24) dX11_lesson_24 rfl hf
theorem dX11_order_0 : decode cX11_order 0 = .ok (.aload_n 0, 1) := by decide +kernel
theorem dX11_order_1 : decode cX11_order 1 = .ok (.getfield 58, 3) := by decide +kernel
theorem dX11_order_4 : decode cX11_order 4 = .ok (.getfield 122, 3) := by decide +kernel
theorem dX11_order_7 : decode cX11_order 7 = .ok (.getfield 317, 3) := by decide +kernel
theorem dX11_order_10 : decode cX11_order 10 = .ok (.astore_n 2, 1) := by decide +kernel
theorem dX11_order_11 : decode cX11_order 11 = .ok (.aload_n 0, 1) := by decide +kernel
theorem dX11_order_12 : decode cX11_order 12 = .ok (.getfield 58, 3) := by decide +kernel
theorem dX11_order_15 : decode cX11_order 15 = .ok (.getfield 122, 3) := by decide +kernel
theorem dX11_order_18 : decode cX11_order 18 = .ok (.getfield 125, 3) := by decide +kernel
theorem dX11_order_21 : decode cX11_order 21 = .ok (.ifCond .eq 7, 3) := by decide +kernel
theorem dX11_order_24 : decode cX11_order 24 = .ok (.iload_n 1, 1) := by decide +kernel
theorem dX11_order_25 : decode cX11_order 25 = .ok (.ifCond .ge 5, 3) := by decide +kernel
theorem dX11_order_28 : decode cX11_order 28 = .ok (.iconst (-1), 1) := by decide +kernel
theorem dX11_order_29 : decode cX11_order 29 = .ok (.ireturn, 1) := by decide +kernel
theorem dX11_order_30 : decode cX11_order 30 = .ok (.iload_n 1, 1) := by decide +kernel
theorem dX11_order_31 : decode cX11_order 31 = .ok (.aload_n 2, 1) := by decide +kernel
theorem dX11_order_32 : decode cX11_order 32 = .ok (.getfield 329, 3) := by decide +kernel
theorem dX11_order_35 : decode cX11_order 35 = .ok (.if_icmp .ge 12, 3) := by decide +kernel
theorem dX11_order_38 : decode cX11_order 38 = .ok (.aload_n 2, 1) := by decide +kernel
theorem dX11_order_39 : decode cX11_order 39 = .ok (.getfield 332, 3) := by decide +kernel
theorem dX11_order_42 : decode cX11_order 42 = .ok (.iload_n 1, 1) := by decide +kernel
theorem dX11_order_43 : decode cX11_order 43 = .ok (.iaload, 1) := by decide +kernel
theorem dX11_order_44 : decode cX11_order 44 = .ok (.goto 5, 3) := by decide +kernel
theorem dX11_order_47 : decode cX11_order 47 = .ok (.bipush (-2), 2) := by decide +kernel
theorem dX11_order_49 : decode cX11_order 49 = .ok (.ireturn, 1) := by decide +kernel
abbrev D_X11_order : Nat := 1
set_option maxRecDepth 100000 in
def f_X11_order (μ0 : Mm) (a1 : Nat) (x2 : Int32) : Option (Int32 × Mm) :=
 ((gR μ0 a1 11 6).bind fun v3 =>
    ((gR μ0 v3 7 0).bind fun v4 =>
    ((gR μ0 v4 1 14).bind fun v5 =>
    (nm v5 fun a6 =>
    ((gR μ0 a1 11 6).bind fun v7 =>
    ((gR μ0 v7 7 0).bind fun v8 =>
    ((gI μ0 v8 1 2).bind fun v9 =>
    (if v9 = 0 then
    (some ((-1 : Int32), μ0))
    else
    (if 0 ≤ x2 then
    ((gI μ0 a6 3 7).bind fun v10 =>
    (if v10 ≤ x2 then
    (some ((-2 : Int32), μ0))
    else
    ((gR μ0 a6 3 6).bind fun v11 =>
    ((aI μ0 v11 0 x2).bind fun v12 =>
    (some (v12, μ0))))))
    else
    (some ((-1 : Int32), μ0)))))))))))
set_option maxHeartbeats 4000000 in
set_option maxRecDepth 100000 in
theorem f_X11_order_ok {l : Launch} {G : GG} {μ0 : Mm} {a1 : Nat} {x2 : Int32} {r : Int32} {μ' : Mm} (hf : f_X11_order μ0 a1 x2 = some (r, μ')) : EvM l G D_X11_order yX11_order cX11_order 3 (some .int) [.ref a1, .int x2] μ0 (some (.int r)) μ' := by
  show Ev l G D_X11_order yX11_order cX11_order 3 (some .int) 0 [(0, .ref a1), (1, .int x2)] [] μ0 (some (.int r)) μ'
  unfold f_X11_order at hf
  refine E_aload_n (pc := 0) dX11_order_0 rfl ?_
  refine E_getR (pc := 1) dX11_order_1 fl_X11_58 hf (fun v3 hf => ?_)
  refine E_getR (pc := 4) dX11_order_4 fl_X11_122 hf (fun v4 hf => ?_)
  refine E_getR (pc := 7) dX11_order_7 fl_X11_317 hf (fun v5 hf => ?_)
  refine E_astore_n (pc := 10) (ls' := fun a6 => [(2, .ref a6), (0, .ref a1), (1, .int x2)]) dX11_order_10 (by decide) (fun _ => rfl) hf (fun a6 hf => ?_)
  refine E_aload_n (pc := 11) dX11_order_11 rfl ?_
  refine E_getR (pc := 12) dX11_order_12 fl_X11_58 hf (fun v7 hf => ?_)
  refine E_getR (pc := 15) dX11_order_15 fl_X11_122 hf (fun v8 hf => ?_)
  refine E_getI (pc := 18) dX11_order_18 fl_X11_125 hf (fun v9 hf => ?_)
  refine E_if_eq (pc := 21) (tgt := 28) dX11_order_21 (by decide) hf (fun hf => ?_) (fun hf => ?_)
  · refine E_iconst (pc := 28) (v := (-1 : Int32)) dX11_order_28 (by decide) ?_
    exact E_iret (pc := 29) dX11_order_29 rfl hf
  · refine E_iload_n (pc := 24) dX11_order_24 rfl ?_
    refine E_if_ge (pc := 25) (tgt := 30) dX11_order_25 (by decide) hf (fun hf => ?_) (fun hf => ?_)
    · refine E_iload_n (pc := 30) dX11_order_30 rfl ?_
      refine E_aload_n (pc := 31) dX11_order_31 rfl ?_
      refine E_getI (pc := 32) dX11_order_32 fl_X11_329 hf (fun v10 hf => ?_)
      refine E_icmp_ge (pc := 35) (tgt := 47) dX11_order_35 (by decide) hf (fun hf => ?_) (fun hf => ?_)
      · refine E_bipush (pc := 47) (v := (-2 : Int32)) dX11_order_47 (by decide) ?_
        exact E_iret (pc := 49) dX11_order_49 rfl hf
      · refine E_aload_n (pc := 38) dX11_order_38 rfl ?_
        refine E_getR (pc := 39) dX11_order_39 fl_X11_332 hf (fun v11 hf => ?_)
        refine E_iload_n (pc := 42) dX11_order_42 rfl ?_
        refine E_iald (pc := 43) dX11_order_43 hf (fun v12 hf => ?_)
        refine E_goto (pc := 44) (tgt := 49) dX11_order_44 (by decide) ?_
        exact E_iret (pc := 49) dX11_order_49 rfl hf
    · refine E_iconst (pc := 28) (v := (-1 : Int32)) dX11_order_28 (by decide) ?_
      exact E_iret (pc := 29) dX11_order_29 rfl hf
theorem dX11_seed_0 : decode cX11_seed 0 = .ok (.iload_n 1, 1) := by decide +kernel
theorem dX11_seed_1 : decode cX11_seed 1 = .ok (.ifCond .ge 5, 3) := by decide +kernel
theorem dX11_seed_4 : decode cX11_seed 4 = .ok (.iconst (-1), 1) := by decide +kernel
theorem dX11_seed_5 : decode cX11_seed 5 = .ok (.ireturn, 1) := by decide +kernel
theorem dX11_seed_6 : decode cX11_seed 6 = .ok (.aload_n 0, 1) := by decide +kernel
theorem dX11_seed_7 : decode cX11_seed 7 = .ok (.getfield 58, 3) := by decide +kernel
theorem dX11_seed_10 : decode cX11_seed 10 = .ok (.getfield 335, 3) := by decide +kernel
theorem dX11_seed_13 : decode cX11_seed 13 = .ok (.istore_n 2, 1) := by decide +kernel
theorem dX11_seed_14 : decode cX11_seed 14 = .ok (.aload_n 0, 1) := by decide +kernel
theorem dX11_seed_15 : decode cX11_seed 15 = .ok (.getfield 58, 3) := by decide +kernel
theorem dX11_seed_18 : decode cX11_seed 18 = .ok (.iload_n 1, 1) := by decide +kernel
theorem dX11_seed_19 : decode cX11_seed 19 = .ok (.putfield 335, 3) := by decide +kernel
theorem dX11_seed_22 : decode cX11_seed 22 = .ok (.iload_n 2, 1) := by decide +kernel
theorem dX11_seed_23 : decode cX11_seed 23 = .ok (.ireturn, 1) := by decide +kernel
abbrev D_X11_seed : Nat := 1
set_option maxRecDepth 100000 in
def f_X11_seed (μ0 : Mm) (a1 : Nat) (x2 : Int32) : Option (Int32 × Mm) :=
 (if 0 ≤ x2 then
    ((gR μ0 a1 11 6).bind fun v3 =>
    ((gI μ0 v3 7 2).bind fun v4 =>
    (nm v4 fun x5 =>
    ((gR μ0 a1 11 6).bind fun v6 =>
    ((pV μ0 v6 7 2 (.int x2)).bind fun μ7 =>
    (some (x5, μ7)))))))
    else
    (some ((-1 : Int32), μ0)))
set_option maxHeartbeats 4000000 in
set_option maxRecDepth 100000 in
theorem f_X11_seed_ok {l : Launch} {G : GG} {μ0 : Mm} {a1 : Nat} {x2 : Int32} {r : Int32} {μ' : Mm} (hf : f_X11_seed μ0 a1 x2 = some (r, μ')) : EvM l G D_X11_seed yX11_seed cX11_seed 3 (some .int) [.ref a1, .int x2] μ0 (some (.int r)) μ' := by
  show Ev l G D_X11_seed yX11_seed cX11_seed 3 (some .int) 0 [(0, .ref a1), (1, .int x2)] [] μ0 (some (.int r)) μ'
  unfold f_X11_seed at hf
  refine E_iload_n (pc := 0) dX11_seed_0 rfl ?_
  refine E_if_ge (pc := 1) (tgt := 6) dX11_seed_1 (by decide) hf (fun hf => ?_) (fun hf => ?_)
  · refine E_aload_n (pc := 6) dX11_seed_6 rfl ?_
    refine E_getR (pc := 7) dX11_seed_7 fl_X11_58 hf (fun v3 hf => ?_)
    refine E_getI (pc := 10) dX11_seed_10 fl_X11_335 hf (fun v4 hf => ?_)
    refine E_istore_n (pc := 13) (ls' := fun x5 => [(2, .int x5), (0, .ref a1), (1, .int x2)]) dX11_seed_13 (by decide) (fun _ => rfl) hf (fun x5 hf => ?_)
    refine E_aload_n (pc := 14) dX11_seed_14 rfl ?_
    refine E_getR (pc := 15) dX11_seed_15 fl_X11_58 hf (fun v6 hf => ?_)
    refine E_iload_n (pc := 18) dX11_seed_18 rfl ?_
    refine E_putI (pc := 19) dX11_seed_19 (pl_X11_335 _) hf (fun μ7 hf => ?_)
    refine E_iload_n (pc := 22) dX11_seed_22 rfl ?_
    exact E_iret (pc := 23) dX11_seed_23 rfl hf
  · refine E_iconst (pc := 4) (v := (-1 : Int32)) dX11_seed_4 (by decide) ?_
    exact E_iret (pc := 5) dX11_seed_5 rfl hf
theorem dX11_playTerm_0 : decode cX11_playTerm 0 = .ok (.aload_n 0, 1) := by decide +kernel
theorem dX11_playTerm_1 : decode cX11_playTerm 1 = .ok (.getfield 62, 3) := by decide +kernel
theorem dX11_playTerm_4 : decode cX11_playTerm 4 = .ok (.getfield 122, 3) := by decide +kernel
theorem dX11_playTerm_7 : decode cX11_playTerm 7 = .ok (.getfield 357, 3) := by decide +kernel
theorem dX11_playTerm_10 : decode cX11_playTerm 10 = .ok (.istore_n 2, 1) := by decide +kernel
theorem dX11_playTerm_11 : decode cX11_playTerm 11 = .ok (.aload_n 0, 1) := by decide +kernel
theorem dX11_playTerm_12 : decode cX11_playTerm 12 = .ok (.getfield 62, 3) := by decide +kernel
theorem dX11_playTerm_15 : decode cX11_playTerm 15 = .ok (.getfield 122, 3) := by decide +kernel
theorem dX11_playTerm_18 : decode cX11_playTerm 18 = .ok (.getfield 125, 3) := by decide +kernel
theorem dX11_playTerm_21 : decode cX11_playTerm 21 = .ok (.istore_n 3, 1) := by decide +kernel
theorem dX11_playTerm_22 : decode cX11_playTerm 22 = .ok (.iload_n 2, 1) := by decide +kernel
theorem dX11_playTerm_23 : decode cX11_playTerm 23 = .ok (.iconst 1, 1) := by decide +kernel
theorem dX11_playTerm_24 : decode cX11_playTerm 24 = .ok (.if_icmp .lt 8, 3) := by decide +kernel
theorem dX11_playTerm_27 : decode cX11_playTerm 27 = .ok (.iload_n 3, 1) := by decide +kernel
theorem dX11_playTerm_28 : decode cX11_playTerm 28 = .ok (.iconst 1, 1) := by decide +kernel
theorem dX11_playTerm_29 : decode cX11_playTerm 29 = .ok (.if_icmp .ge 4, 3) := by decide +kernel
theorem dX11_playTerm_32 : decode cX11_playTerm 32 = .ok (.return_, 1) := by decide +kernel
theorem dX11_playTerm_33 : decode cX11_playTerm 33 = .ok (.iconst 0, 1) := by decide +kernel
theorem dX11_playTerm_34 : decode cX11_playTerm 34 = .ok (.istore 4, 2) := by decide +kernel
theorem dX11_playTerm_36 : decode cX11_playTerm 36 = .ok (.iload 4, 2) := by decide +kernel
theorem dX11_playTerm_38 : decode cX11_playTerm 38 = .ok (.iload_n 1, 1) := by decide +kernel
theorem dX11_playTerm_39 : decode cX11_playTerm 39 = .ok (.if_icmp .ge 163, 3) := by decide +kernel
theorem dX11_playTerm_42 : decode cX11_playTerm 42 = .ok (.aload_n 0, 1) := by decide +kernel
theorem dX11_playTerm_43 : decode cX11_playTerm 43 = .ok (.getfield 62, 3) := by decide +kernel
theorem dX11_playTerm_46 : decode cX11_playTerm 46 = .ok (.invokevirtual 372, 3) := by decide +kernel
theorem dX11_playTerm_49 : decode cX11_playTerm 49 = .ok (.iload_n 2, 1) := by decide +kernel
theorem dX11_playTerm_50 : decode cX11_playTerm 50 = .ok (.irem, 1) := by decide +kernel
theorem dX11_playTerm_51 : decode cX11_playTerm 51 = .ok (.istore 5, 2) := by decide +kernel
theorem dX11_playTerm_53 : decode cX11_playTerm 53 = .ok (.aload_n 0, 1) := by decide +kernel
theorem dX11_playTerm_54 : decode cX11_playTerm 54 = .ok (.getfield 62, 3) := by decide +kernel
theorem dX11_playTerm_57 : decode cX11_playTerm 57 = .ok (.getfield 163, 3) := by decide +kernel
theorem dX11_playTerm_60 : decode cX11_playTerm 60 = .ok (.iload 5, 2) := by decide +kernel
theorem dX11_playTerm_62 : decode cX11_playTerm 62 = .ok (.aload_n 0, 1) := by decide +kernel
theorem dX11_playTerm_63 : decode cX11_playTerm 63 = .ok (.getfield 62, 3) := by decide +kernel
theorem dX11_playTerm_66 : decode cX11_playTerm 66 = .ok (.invokevirtual 372, 3) := by decide +kernel
theorem dX11_playTerm_69 : decode cX11_playTerm 69 = .ok (.iload_n 3, 1) := by decide +kernel
theorem dX11_playTerm_70 : decode cX11_playTerm 70 = .ok (.irem, 1) := by decide +kernel
theorem dX11_playTerm_71 : decode cX11_playTerm 71 = .ok (.iastore, 1) := by decide +kernel
theorem dX11_playTerm_72 : decode cX11_playTerm 72 = .ok (.aload_n 0, 1) := by decide +kernel
theorem dX11_playTerm_73 : decode cX11_playTerm 73 = .ok (.getfield 62, 3) := by decide +kernel
theorem dX11_playTerm_76 : decode cX11_playTerm 76 = .ok (.invokevirtual 372, 3) := by decide +kernel
theorem dX11_playTerm_79 : decode cX11_playTerm 79 = .ok (.iconst 5, 1) := by decide +kernel
theorem dX11_playTerm_80 : decode cX11_playTerm 80 = .ok (.irem, 1) := by decide +kernel
theorem dX11_playTerm_81 : decode cX11_playTerm 81 = .ok (.istore 6, 2) := by decide +kernel
theorem dX11_playTerm_83 : decode cX11_playTerm 83 = .ok (.aload_n 0, 1) := by decide +kernel
theorem dX11_playTerm_84 : decode cX11_playTerm 84 = .ok (.getfield 74, 3) := by decide +kernel
theorem dX11_playTerm_87 : decode cX11_playTerm 87 = .ok (.aload_n 0, 1) := by decide +kernel
theorem dX11_playTerm_88 : decode cX11_playTerm 88 = .ok (.getfield 62, 3) := by decide +kernel
theorem dX11_playTerm_91 : decode cX11_playTerm 91 = .ok (.aload_n 0, 1) := by decide +kernel
theorem dX11_playTerm_92 : decode cX11_playTerm 92 = .ok (.invokevirtual 237, 3) := by decide +kernel
theorem dX11_playTerm_95 : decode cX11_playTerm 95 = .ok (.iload 5, 2) := by decide +kernel
theorem dX11_playTerm_97 : decode cX11_playTerm 97 = .ok (.invokevirtual 366, 3) := by decide +kernel
theorem dX11_playTerm_100 : decode cX11_playTerm 100 = .ok (.aload_n 0, 1) := by decide +kernel
theorem dX11_playTerm_101 : decode cX11_playTerm 101 = .ok (.getfield 74, 3) := by decide +kernel
theorem dX11_playTerm_104 : decode cX11_playTerm 104 = .ok (.iload 6, 2) := by decide +kernel
theorem dX11_playTerm_106 : decode cX11_playTerm 106 = .ok (.invokevirtual 369, 3) := by decide +kernel
theorem dX11_playTerm_109 : decode cX11_playTerm 109 = .ok (.aload_n 0, 1) := by decide +kernel
theorem dX11_playTerm_110 : decode cX11_playTerm 110 = .ok (.getfield 62, 3) := by decide +kernel
theorem dX11_playTerm_113 : decode cX11_playTerm 113 = .ok (.getfield 163, 3) := by decide +kernel
theorem dX11_playTerm_116 : decode cX11_playTerm 116 = .ok (.iload 5, 2) := by decide +kernel
theorem dX11_playTerm_118 : decode cX11_playTerm 118 = .ok (.aload_n 0, 1) := by decide +kernel
theorem dX11_playTerm_119 : decode cX11_playTerm 119 = .ok (.getfield 74, 3) := by decide +kernel
theorem dX11_playTerm_122 : decode cX11_playTerm 122 = .ok (.getfield 197, 3) := by decide +kernel
theorem dX11_playTerm_125 : decode cX11_playTerm 125 = .ok (.iastore, 1) := by decide +kernel
theorem dX11_playTerm_126 : decode cX11_playTerm 126 = .ok (.aload_n 0, 1) := by decide +kernel
theorem dX11_playTerm_127 : decode cX11_playTerm 127 = .ok (.getfield 62, 3) := by decide +kernel
theorem dX11_playTerm_130 : decode cX11_playTerm 130 = .ok (.dup, 1) := by decide +kernel
theorem dX11_playTerm_131 : decode cX11_playTerm 131 = .ok (.getfield 200, 3) := by decide +kernel
theorem dX11_playTerm_134 : decode cX11_playTerm 134 = .ok (.aload_n 0, 1) := by decide +kernel
theorem dX11_playTerm_135 : decode cX11_playTerm 135 = .ok (.getfield 74, 3) := by decide +kernel
theorem dX11_playTerm_138 : decode cX11_playTerm 138 = .ok (.getfield 203, 3) := by decide +kernel
theorem dX11_playTerm_141 : decode cX11_playTerm 141 = .ok (.ior, 1) := by decide +kernel
theorem dX11_playTerm_142 : decode cX11_playTerm 142 = .ok (.putfield 200, 3) := by decide +kernel
theorem dX11_playTerm_145 : decode cX11_playTerm 145 = .ok (.aload_n 0, 1) := by decide +kernel
theorem dX11_playTerm_146 : decode cX11_playTerm 146 = .ok (.getfield 101, 3) := by decide +kernel
theorem dX11_playTerm_149 : decode cX11_playTerm 149 = .ok (.iconst 0, 1) := by decide +kernel
theorem dX11_playTerm_150 : decode cX11_playTerm 150 = .ok (.dup2, 1) := by decide +kernel
theorem dX11_playTerm_151 : decode cX11_playTerm 151 = .ok (.iaload, 1) := by decide +kernel
theorem dX11_playTerm_152 : decode cX11_playTerm 152 = .ok (.aload_n 0, 1) := by decide +kernel
theorem dX11_playTerm_153 : decode cX11_playTerm 153 = .ok (.getfield 74, 3) := by decide +kernel
theorem dX11_playTerm_156 : decode cX11_playTerm 156 = .ok (.invokevirtual 206, 3) := by decide +kernel
theorem dX11_playTerm_159 : decode cX11_playTerm 159 = .ok (.iadd, 1) := by decide +kernel
theorem dX11_playTerm_160 : decode cX11_playTerm 160 = .ok (.iastore, 1) := by decide +kernel
theorem dX11_playTerm_161 : decode cX11_playTerm 161 = .ok (.aload_n 0, 1) := by decide +kernel
theorem dX11_playTerm_162 : decode cX11_playTerm 162 = .ok (.getfield 101, 3) := by decide +kernel
theorem dX11_playTerm_165 : decode cX11_playTerm 165 = .ok (.iconst 1, 1) := by decide +kernel
theorem dX11_playTerm_166 : decode cX11_playTerm 166 = .ok (.dup2, 1) := by decide +kernel
theorem dX11_playTerm_167 : decode cX11_playTerm 167 = .ok (.iaload, 1) := by decide +kernel
theorem dX11_playTerm_168 : decode cX11_playTerm 168 = .ok (.aload_n 0, 1) := by decide +kernel
theorem dX11_playTerm_169 : decode cX11_playTerm 169 = .ok (.getfield 74, 3) := by decide +kernel
theorem dX11_playTerm_172 : decode cX11_playTerm 172 = .ok (.getfield 203, 3) := by decide +kernel
theorem dX11_playTerm_175 : decode cX11_playTerm 175 = .ok (.invokestatic 312, 3) := by decide +kernel
theorem dX11_playTerm_178 : decode cX11_playTerm 178 = .ok (.iadd, 1) := by decide +kernel
theorem dX11_playTerm_179 : decode cX11_playTerm 179 = .ok (.iastore, 1) := by decide +kernel
theorem dX11_playTerm_180 : decode cX11_playTerm 180 = .ok (.aload_n 0, 1) := by decide +kernel
theorem dX11_playTerm_181 : decode cX11_playTerm 181 = .ok (.getfield 101, 3) := by decide +kernel
theorem dX11_playTerm_184 : decode cX11_playTerm 184 = .ok (.iconst 2, 1) := by decide +kernel
theorem dX11_playTerm_185 : decode cX11_playTerm 185 = .ok (.dup2, 1) := by decide +kernel
theorem dX11_playTerm_186 : decode cX11_playTerm 186 = .ok (.iaload, 1) := by decide +kernel
theorem dX11_playTerm_187 : decode cX11_playTerm 187 = .ok (.aload_n 0, 1) := by decide +kernel
theorem dX11_playTerm_188 : decode cX11_playTerm 188 = .ok (.getfield 74, 3) := by decide +kernel
theorem dX11_playTerm_191 : decode cX11_playTerm 191 = .ok (.getfield 231, 3) := by decide +kernel
theorem dX11_playTerm_194 : decode cX11_playTerm 194 = .ok (.iadd, 1) := by decide +kernel
theorem dX11_playTerm_195 : decode cX11_playTerm 195 = .ok (.iastore, 1) := by decide +kernel
theorem dX11_playTerm_196 : decode cX11_playTerm 196 = .ok (.iinc 4 1, 3) := by decide +kernel
theorem dX11_playTerm_199 : decode cX11_playTerm 199 = .ok (.goto (-163), 3) := by decide +kernel
theorem dX11_playTerm_202 : decode cX11_playTerm 202 = .ok (.return_, 1) := by decide +kernel
abbrev D_X11_playTerm : Nat := 7
def f_X11_playTerm_L36 (K202 : Mm → Option Mm) : Nat → Mm → Nat → Int32 → Int32 → Int32 → Int32 → Option Mm
  | 0, _, _, _, _, _, _ => none
  | n + 1, μ0, a12, x13, x14, x15, x16 =>
    (if x13 ≤ x16 then
    K202 μ0
    else
    ((gR μ0 a12 11 7).bind fun v17 =>
    ((ob μ0 v17 7).bind fun _ =>
    (bd (f_X7_nextDraw μ0 v17) fun v19 μ18 =>
    (rmI v19 x14 fun v20 =>
    (nm v20 fun x21 =>
    ((gR μ18 a12 11 7).bind fun v22 =>
    ((gR μ18 v22 7 4).bind fun v23 =>
    ((gR μ18 a12 11 7).bind fun v24 =>
    ((ob μ18 v24 7).bind fun _ =>
    (bd (f_X7_nextDraw μ18 v24) fun v26 μ25 =>
    (rmI v26 x15 fun v27 =>
    ((sI μ25 v23 0 x21 v27).bind fun μ28 =>
    ((gR μ28 a12 11 7).bind fun v29 =>
    ((ob μ28 v29 7).bind fun _ =>
    (bd (f_X7_nextDraw μ28 v29) fun v31 μ30 =>
    (rmI v31 (5 : Int32) fun v32 =>
    (nm v32 fun x33 =>
    ((gR μ30 a12 11 9).bind fun v34 =>
    ((gR μ30 a12 11 7).bind fun v35 =>
    ((ob μ30 a12 11).bind fun _ =>
    (bd (f_X11_law μ30 a12) fun v37 μ36 =>
    ((ob μ36 v34 0).bind fun _ =>
    ((f_X0_begin μ36 v34 v35 v37 x21).bind fun μ38 =>
    ((gR μ38 a12 11 9).bind fun v39 =>
    ((ob μ38 v39 0).bind fun _ =>
    ((f_X0_run μ38 v39 x33).bind fun μ40 =>
    ((gR μ40 a12 11 7).bind fun v41 =>
    ((gR μ40 v41 7 4).bind fun v42 =>
    ((gR μ40 a12 11 9).bind fun v43 =>
    ((gI μ40 v43 0 5).bind fun v44 =>
    ((sI μ40 v42 0 x21 v44).bind fun μ45 =>
    ((gR μ45 a12 11 7).bind fun v46 =>
    ((gI μ45 v46 7 3).bind fun v47 =>
    ((gR μ45 a12 11 9).bind fun v48 =>
    ((gI μ45 v48 0 8).bind fun v49 =>
    ((pV μ45 v46 7 3 (.int (v47 ||| v49))).bind fun μ50 =>
    ((gR μ50 a12 11 13).bind fun v51 =>
    ((aI μ50 v51 0 (0 : Int32)).bind fun v52 =>
    ((gR μ50 a12 11 9).bind fun v53 =>
    ((ob μ50 v53 0).bind fun _ =>
    (bd (f_X0_mark μ50 v53) fun v55 μ54 =>
    ((sI μ54 v51 0 (0 : Int32) (v52 + v55)).bind fun μ56 =>
    ((gR μ56 a12 11 13).bind fun v57 =>
    ((aI μ56 v57 0 (1 : Int32)).bind fun v58 =>
    ((gR μ56 a12 11 9).bind fun v59 =>
    ((gI μ56 v59 0 8).bind fun v60 =>
    (bd (f_J6_bitCount_0f7a4 μ56 v60) fun v62 μ61 =>
    ((sI μ61 v57 0 (1 : Int32) (v58 + v62)).bind fun μ63 =>
    ((gR μ63 a12 11 13).bind fun v64 =>
    ((aI μ63 v64 0 (2 : Int32)).bind fun v65 =>
    ((gR μ63 a12 11 9).bind fun v66 =>
    ((gI μ63 v66 0 6).bind fun v67 =>
    ((sI μ63 v64 0 (2 : Int32) (v65 + v67)).bind fun μ68 =>
    (nm (x16 + Int32.ofInt (1)) fun x69 =>
    f_X11_playTerm_L36 K202 n μ68 a12 x13 x14 x15 x69)))))))))))))))))))))))))))))))))))))))))))))))))))))))
set_option maxHeartbeats 4000000 in
set_option maxRecDepth 100000 in
theorem f_X11_playTerm_L36_ok {l : Launch} {G : GG} {K202 : Mm → Option Mm} {μ' : Mm} (n : Nat) (μ0 : Mm) (a12 : Nat) (x13 : Int32) (x14 : Int32) (x15 : Int32) (x16 : Int32) (hf : f_X11_playTerm_L36 K202 n μ0 a12 x13 x14 x15 x16 = some μ') (hK202 : ∀ (μ1 : Mm), K202 μ1  = some μ' → Ev l G D_X11_playTerm yX11_playTerm cX11_playTerm 7 none 202 [] [] μ1 none μ') : Ev l G D_X11_playTerm yX11_playTerm cX11_playTerm 7 none 36 [(0, .ref a12), (1, .int x13), (2, .int x14), (3, .int x15), (4, .int x16)] [] μ0 none μ' := by
  induction n generalizing μ0 a12 x13 x14 x15 x16 with
  | zero => cases hf
  | succ n ih0 =>
    have ih : ∀ (μ0 : Mm) (a12 : Nat) (x13 : Int32) (x14 : Int32) (x15 : Int32) (x16 : Int32), f_X11_playTerm_L36 K202 n μ0 a12 x13 x14 x15 x16 = some μ' → Ev l G D_X11_playTerm yX11_playTerm cX11_playTerm 7 none 36 [(0, .ref a12), (1, .int x13), (2, .int x14), (3, .int x15), (4, .int x16)] [] μ0 none μ' := fun μ0 a12 x13 x14 x15 x16 hf => ih0 μ0 a12 x13 x14 x15 x16 hf
    rw [f_X11_playTerm_L36] at hf
    refine E_iload (pc := 36) dX11_playTerm_36 rfl ?_
    refine E_iload_n (pc := 38) dX11_playTerm_38 rfl ?_
    refine E_icmp_ge (pc := 39) (tgt := 202) dX11_playTerm_39 (by decide) hf (fun hf => ?_) (fun hf => ?_)
    · refine Ev.sub [] rfl ?_
      exact hK202 _ hf
    · refine E_aload_n (pc := 42) dX11_playTerm_42 rfl ?_
      refine E_getR (pc := 43) dX11_playTerm_43 fl_X11_62 hf (fun v17 hf => ?_)
      refine E_Vi (pc := 46) (d2 := D_X7_nextDraw) (ci := 7) [] dX11_playTerm_46 ml_X11_372 mf_X7_nextDraw im_X7_nextDraw rfl rfl rfl (by decide) (Nat.le_of_ble_eq_true rfl) (Nat.le_of_ble_eq_true rfl) rfl (fun _ _ h => f_X7_nextDraw_ok h) hf (fun v19 μ18 hf => ?_)
      refine E_iload_n (pc := 49) dX11_playTerm_49 rfl ?_
      refine E_irem2 (pc := 50) dX11_playTerm_50 hf (fun v20 hf => ?_)
      refine E_istore (pc := 51) (ls' := fun x21 => [(5, .int x21), (0, .ref a12), (1, .int x13), (2, .int x14), (3, .int x15), (4, .int x16)]) dX11_playTerm_51 (by decide) (fun _ => rfl) hf (fun x21 hf => ?_)
      refine E_aload_n (pc := 53) dX11_playTerm_53 rfl ?_
      refine E_getR (pc := 54) dX11_playTerm_54 fl_X11_62 hf (fun v22 hf => ?_)
      refine E_getR (pc := 57) dX11_playTerm_57 fl_X11_163 hf (fun v23 hf => ?_)
      refine E_iload (pc := 60) dX11_playTerm_60 rfl ?_
      refine E_aload_n (pc := 62) dX11_playTerm_62 rfl ?_
      refine E_getR (pc := 63) dX11_playTerm_63 fl_X11_62 hf (fun v24 hf => ?_)
      refine E_Vi (pc := 66) (d2 := D_X7_nextDraw) (ci := 7) [] dX11_playTerm_66 ml_X11_372 mf_X7_nextDraw im_X7_nextDraw rfl rfl rfl (by decide) (Nat.le_of_ble_eq_true rfl) (Nat.le_of_ble_eq_true rfl) rfl (fun _ _ h => f_X7_nextDraw_ok h) hf (fun v26 μ25 hf => ?_)
      refine E_iload_n (pc := 69) dX11_playTerm_69 rfl ?_
      refine E_irem2 (pc := 70) dX11_playTerm_70 hf (fun v27 hf => ?_)
      refine E_iast (pc := 71) dX11_playTerm_71 hf (fun μ28 hf => ?_)
      refine E_aload_n (pc := 72) dX11_playTerm_72 rfl ?_
      refine E_getR (pc := 73) dX11_playTerm_73 fl_X11_62 hf (fun v29 hf => ?_)
      refine E_Vi (pc := 76) (d2 := D_X7_nextDraw) (ci := 7) [] dX11_playTerm_76 ml_X11_372 mf_X7_nextDraw im_X7_nextDraw rfl rfl rfl (by decide) (Nat.le_of_ble_eq_true rfl) (Nat.le_of_ble_eq_true rfl) rfl (fun _ _ h => f_X7_nextDraw_ok h) hf (fun v31 μ30 hf => ?_)
      refine E_iconst (pc := 79) (v := (5 : Int32)) dX11_playTerm_79 (by decide) ?_
      refine E_irem2 (pc := 80) dX11_playTerm_80 hf (fun v32 hf => ?_)
      refine E_istore (pc := 81) (ls' := fun x33 => [(6, .int x33), (5, .int x21), (0, .ref a12), (1, .int x13), (2, .int x14), (3, .int x15), (4, .int x16)]) dX11_playTerm_81 (by decide) (fun _ => rfl) hf (fun x33 hf => ?_)
      refine E_aload_n (pc := 83) dX11_playTerm_83 rfl ?_
      refine E_getR (pc := 84) dX11_playTerm_84 fl_X11_74 hf (fun v34 hf => ?_)
      refine E_aload_n (pc := 87) dX11_playTerm_87 rfl ?_
      refine E_getR (pc := 88) dX11_playTerm_88 fl_X11_62 hf (fun v35 hf => ?_)
      refine E_aload_n (pc := 91) dX11_playTerm_91 rfl ?_
      refine E_Vr (pc := 92) (d2 := D_X11_law) (ci := 11) [] dX11_playTerm_92 ml_X11_237 mf_X11_law im_X11_law rfl rfl rfl (by decide) (Nat.le_of_ble_eq_true rfl) (Nat.le_of_ble_eq_true rfl) rfl (fun _ _ h => f_X11_law_ok h) hf (fun v37 μ36 hf => ?_)
      refine E_iload (pc := 95) dX11_playTerm_95 rfl ?_
      refine E_Vv (pc := 97) (d2 := D_X0_begin) (ci := 0) [.ref v35, .ref v37, .int x21] dX11_playTerm_97 ml_X11_366 mf_X0_begin im_X0_begin rfl rfl rfl (by decide) (Nat.le_of_ble_eq_true rfl) (Nat.le_of_ble_eq_true rfl) rfl (fun _ h => f_X0_begin_ok h) hf (fun μ38 hf => ?_)
      refine E_aload_n (pc := 100) dX11_playTerm_100 rfl ?_
      refine E_getR (pc := 101) dX11_playTerm_101 fl_X11_74 hf (fun v39 hf => ?_)
      refine E_iload (pc := 104) dX11_playTerm_104 rfl ?_
      refine E_Vv (pc := 106) (d2 := D_X0_run) (ci := 0) [.int x33] dX11_playTerm_106 ml_X11_369 mf_X0_run im_X0_run rfl rfl rfl (by decide) (Nat.le_of_ble_eq_true rfl) (Nat.le_of_ble_eq_true rfl) rfl (fun _ h => f_X0_run_ok h) hf (fun μ40 hf => ?_)
      refine E_aload_n (pc := 109) dX11_playTerm_109 rfl ?_
      refine E_getR (pc := 110) dX11_playTerm_110 fl_X11_62 hf (fun v41 hf => ?_)
      refine E_getR (pc := 113) dX11_playTerm_113 fl_X11_163 hf (fun v42 hf => ?_)
      refine E_iload (pc := 116) dX11_playTerm_116 rfl ?_
      refine E_aload_n (pc := 118) dX11_playTerm_118 rfl ?_
      refine E_getR (pc := 119) dX11_playTerm_119 fl_X11_74 hf (fun v43 hf => ?_)
      refine E_getI (pc := 122) dX11_playTerm_122 fl_X11_197 hf (fun v44 hf => ?_)
      refine E_iast (pc := 125) dX11_playTerm_125 hf (fun μ45 hf => ?_)
      refine E_aload_n (pc := 126) dX11_playTerm_126 rfl ?_
      refine E_getR (pc := 127) dX11_playTerm_127 fl_X11_62 hf (fun v46 hf => ?_)
      refine E_dup (pc := 130) dX11_playTerm_130 rfl ?_
      refine E_getI (pc := 131) dX11_playTerm_131 fl_X11_200 hf (fun v47 hf => ?_)
      refine E_aload_n (pc := 134) dX11_playTerm_134 rfl ?_
      refine E_getR (pc := 135) dX11_playTerm_135 fl_X11_74 hf (fun v48 hf => ?_)
      refine E_getI (pc := 138) dX11_playTerm_138 fl_X11_203 hf (fun v49 hf => ?_)
      refine E_ior (pc := 141) dX11_playTerm_141 ?_
      refine E_putI (pc := 142) dX11_playTerm_142 (pl_X11_200 _) hf (fun μ50 hf => ?_)
      refine E_aload_n (pc := 145) dX11_playTerm_145 rfl ?_
      refine E_getR (pc := 146) dX11_playTerm_146 fl_X11_101 hf (fun v51 hf => ?_)
      refine E_iconst (pc := 149) (v := (0 : Int32)) dX11_playTerm_149 (by decide) ?_
      refine E_dup2 (pc := 150) dX11_playTerm_150 rfl rfl ?_
      refine E_iald (pc := 151) dX11_playTerm_151 hf (fun v52 hf => ?_)
      refine E_aload_n (pc := 152) dX11_playTerm_152 rfl ?_
      refine E_getR (pc := 153) dX11_playTerm_153 fl_X11_74 hf (fun v53 hf => ?_)
      refine E_Vi (pc := 156) (d2 := D_X0_mark) (ci := 0) [] dX11_playTerm_156 ml_X11_206 mf_X0_mark im_X0_mark rfl rfl rfl (by decide) (Nat.le_of_ble_eq_true rfl) (Nat.le_of_ble_eq_true rfl) rfl (fun _ _ h => f_X0_mark_ok h) hf (fun v55 μ54 hf => ?_)
      refine E_iadd (pc := 159) dX11_playTerm_159 ?_
      refine E_iast (pc := 160) dX11_playTerm_160 hf (fun μ56 hf => ?_)
      refine E_aload_n (pc := 161) dX11_playTerm_161 rfl ?_
      refine E_getR (pc := 162) dX11_playTerm_162 fl_X11_101 hf (fun v57 hf => ?_)
      refine E_iconst (pc := 165) (v := (1 : Int32)) dX11_playTerm_165 (by decide) ?_
      refine E_dup2 (pc := 166) dX11_playTerm_166 rfl rfl ?_
      refine E_iald (pc := 167) dX11_playTerm_167 hf (fun v58 hf => ?_)
      refine E_aload_n (pc := 168) dX11_playTerm_168 rfl ?_
      refine E_getR (pc := 169) dX11_playTerm_169 fl_X11_74 hf (fun v59 hf => ?_)
      refine E_getI (pc := 172) dX11_playTerm_172 fl_X11_203 hf (fun v60 hf => ?_)
      refine E_Si (pc := 175) (d2 := D_J6_bitCount_0f7a4) [.int v60] dX11_playTerm_175 ml_X11_312 mf_J6_bitCount_0f7a4 st_J6_bitCount_0f7a4 rfl (by decide) (Nat.le_of_ble_eq_true rfl) (Nat.le_of_ble_eq_true rfl) rfl (fun _ _ h => f_J6_bitCount_0f7a4_ok h) hf (fun v62 μ61 hf => ?_)
      refine E_iadd (pc := 178) dX11_playTerm_178 ?_
      refine E_iast (pc := 179) dX11_playTerm_179 hf (fun μ63 hf => ?_)
      refine E_aload_n (pc := 180) dX11_playTerm_180 rfl ?_
      refine E_getR (pc := 181) dX11_playTerm_181 fl_X11_101 hf (fun v64 hf => ?_)
      refine E_iconst (pc := 184) (v := (2 : Int32)) dX11_playTerm_184 (by decide) ?_
      refine E_dup2 (pc := 185) dX11_playTerm_185 rfl rfl ?_
      refine E_iald (pc := 186) dX11_playTerm_186 hf (fun v65 hf => ?_)
      refine E_aload_n (pc := 187) dX11_playTerm_187 rfl ?_
      refine E_getR (pc := 188) dX11_playTerm_188 fl_X11_74 hf (fun v66 hf => ?_)
      refine E_getI (pc := 191) dX11_playTerm_191 fl_X11_231 hf (fun v67 hf => ?_)
      refine E_iadd (pc := 194) dX11_playTerm_194 ?_
      refine E_iast (pc := 195) dX11_playTerm_195 hf (fun μ68 hf => ?_)
      refine E_iinc (pc := 196) (ls' := fun x69 => [(4, .int x69), (6, .int x33), (5, .int x21), (0, .ref a12), (1, .int x13), (2, .int x14), (3, .int x15)]) dX11_playTerm_196 rfl (by decide) (fun _ => rfl) hf (fun x69 hf => ?_)
      refine E_goto (pc := 199) (tgt := 36) dX11_playTerm_199 (by decide) ?_
      refine Ev.sub [3, 4, 5, 6, 0] rfl ?_
      exact ih _ _ _ _ _ _ hf
set_option maxRecDepth 100000 in
def f_X11_playTerm (μ0 : Mm) (a1 : Nat) (x2 : Int32) : Option Mm :=
 ((gR μ0 a1 11 7).bind fun v3 =>
    ((gR μ0 v3 7 0).bind fun v4 =>
    ((gI μ0 v4 1 6).bind fun v5 =>
    (nm v5 fun x6 =>
    ((gR μ0 a1 11 7).bind fun v7 =>
    ((gR μ0 v7 7 0).bind fun v8 =>
    ((gI μ0 v8 1 2).bind fun v9 =>
    (nm v9 fun x10 =>
    (if x6 < (1 : Int32) then
    (some μ0)
    else
    (if (1 : Int32) ≤ x10 then
    (nm (0 : Int32) fun x11 =>
    f_X11_playTerm_L36 (fun μ70 =>
    (some μ70)) FU μ0 a1 x2 x6 x10 x11)
    else
    (some μ0)))))))))))
set_option maxHeartbeats 4000000 in
set_option maxRecDepth 100000 in
theorem f_X11_playTerm_ok {l : Launch} {G : GG} {μ0 : Mm} {a1 : Nat} {x2 : Int32} {μ' : Mm} (hf : f_X11_playTerm μ0 a1 x2 = some μ') : EvM l G D_X11_playTerm yX11_playTerm cX11_playTerm 7 none [.ref a1, .int x2] μ0 none μ' := by
  show Ev l G D_X11_playTerm yX11_playTerm cX11_playTerm 7 none 0 [(0, .ref a1), (1, .int x2)] [] μ0 none μ'
  unfold f_X11_playTerm at hf
  refine E_aload_n (pc := 0) dX11_playTerm_0 rfl ?_
  refine E_getR (pc := 1) dX11_playTerm_1 fl_X11_62 hf (fun v3 hf => ?_)
  refine E_getR (pc := 4) dX11_playTerm_4 fl_X11_122 hf (fun v4 hf => ?_)
  refine E_getI (pc := 7) dX11_playTerm_7 fl_X11_357 hf (fun v5 hf => ?_)
  refine E_istore_n (pc := 10) (ls' := fun x6 => [(2, .int x6), (0, .ref a1), (1, .int x2)]) dX11_playTerm_10 (by decide) (fun _ => rfl) hf (fun x6 hf => ?_)
  refine E_aload_n (pc := 11) dX11_playTerm_11 rfl ?_
  refine E_getR (pc := 12) dX11_playTerm_12 fl_X11_62 hf (fun v7 hf => ?_)
  refine E_getR (pc := 15) dX11_playTerm_15 fl_X11_122 hf (fun v8 hf => ?_)
  refine E_getI (pc := 18) dX11_playTerm_18 fl_X11_125 hf (fun v9 hf => ?_)
  refine E_istore_n (pc := 21) (ls' := fun x10 => [(3, .int x10), (2, .int x6), (0, .ref a1), (1, .int x2)]) dX11_playTerm_21 (by decide) (fun _ => rfl) hf (fun x10 hf => ?_)
  refine E_iload_n (pc := 22) dX11_playTerm_22 rfl ?_
  refine E_iconst (pc := 23) (v := (1 : Int32)) dX11_playTerm_23 (by decide) ?_
  refine E_icmp_lt (pc := 24) (tgt := 32) dX11_playTerm_24 (by decide) hf (fun hf => ?_) (fun hf => ?_)
  · exact E_vret (pc := 32) dX11_playTerm_32 rfl hf
  · refine E_iload_n (pc := 27) dX11_playTerm_27 rfl ?_
    refine E_iconst (pc := 28) (v := (1 : Int32)) dX11_playTerm_28 (by decide) ?_
    refine E_icmp_ge (pc := 29) (tgt := 33) dX11_playTerm_29 (by decide) hf (fun hf => ?_) (fun hf => ?_)
    · refine E_iconst (pc := 33) (v := (0 : Int32)) dX11_playTerm_33 (by decide) ?_
      refine E_istore (pc := 34) (ls' := fun x11 => [(4, .int x11), (3, .int x10), (2, .int x6), (0, .ref a1), (1, .int x2)]) dX11_playTerm_34 (by decide) (fun _ => rfl) hf (fun x11 hf => ?_)
      refine Ev.sub [3, 4, 2, 1, 0] rfl ?_
      refine f_X11_playTerm_L36_ok  _ _ _ _ _ _ _ hf (fun μ70 hf => ?_)
      · exact E_vret (pc := 202) dX11_playTerm_202 rfl hf
    · exact E_vret (pc := 32) dX11_playTerm_32 rfl hf
theorem dX11_terms_0 : decode cX11_terms 0 = .ok (.aload_n 0, 1) := by decide +kernel
theorem dX11_terms_1 : decode cX11_terms 1 = .ok (.getfield 58, 3) := by decide +kernel
theorem dX11_terms_4 : decode cX11_terms 4 = .ok (.getfield 122, 3) := by decide +kernel
theorem dX11_terms_7 : decode cX11_terms 7 = .ok (.getfield 125, 3) := by decide +kernel
theorem dX11_terms_10 : decode cX11_terms 10 = .ok (.ifCond .eq 25, 3) := by decide +kernel
theorem dX11_terms_13 : decode cX11_terms 13 = .ok (.iload_n 1, 1) := by decide +kernel
theorem dX11_terms_14 : decode cX11_terms 14 = .ok (.iconst 1, 1) := by decide +kernel
theorem dX11_terms_15 : decode cX11_terms 15 = .ok (.if_icmp .lt 20, 3) := by decide +kernel
theorem dX11_terms_18 : decode cX11_terms 18 = .ok (.iload_n 1, 1) := by decide +kernel
theorem dX11_terms_19 : decode cX11_terms 19 = .ok (.bipush 20, 2) := by decide +kernel
theorem dX11_terms_21 : decode cX11_terms 21 = .ok (.if_icmp .gt 14, 3) := by decide +kernel
theorem dX11_terms_24 : decode cX11_terms 24 = .ok (.iload_n 2, 1) := by decide +kernel
theorem dX11_terms_25 : decode cX11_terms 25 = .ok (.iconst 1, 1) := by decide +kernel
theorem dX11_terms_26 : decode cX11_terms 26 = .ok (.if_icmp .lt 9, 3) := by decide +kernel
theorem dX11_terms_29 : decode cX11_terms 29 = .ok (.iload_n 2, 1) := by decide +kernel
theorem dX11_terms_30 : decode cX11_terms 30 = .ok (.bipush 40, 2) := by decide +kernel
theorem dX11_terms_32 : decode cX11_terms 32 = .ok (.if_icmp .le 5, 3) := by decide +kernel
theorem dX11_terms_35 : decode cX11_terms 35 = .ok (.iconst (-1), 1) := by decide +kernel
theorem dX11_terms_36 : decode cX11_terms 36 = .ok (.ireturn, 1) := by decide +kernel
theorem dX11_terms_37 : decode cX11_terms 37 = .ok (.iload_n 3, 1) := by decide +kernel
theorem dX11_terms_38 : decode cX11_terms 38 = .ok (.ifCond .lt 8, 3) := by decide +kernel
theorem dX11_terms_41 : decode cX11_terms 41 = .ok (.iload_n 3, 1) := by decide +kernel
theorem dX11_terms_42 : decode cX11_terms 42 = .ok (.iconst 2, 1) := by decide +kernel
theorem dX11_terms_43 : decode cX11_terms 43 = .ok (.if_icmp .le 5, 3) := by decide +kernel
theorem dX11_terms_46 : decode cX11_terms 46 = .ok (.iconst (-1), 1) := by decide +kernel
theorem dX11_terms_47 : decode cX11_terms 47 = .ok (.ireturn, 1) := by decide +kernel
theorem dX11_terms_48 : decode cX11_terms 48 = .ok (.aload_n 0, 1) := by decide +kernel
theorem dX11_terms_49 : decode cX11_terms 49 = .ok (.getfield 101, 3) := by decide +kernel
theorem dX11_terms_52 : decode cX11_terms 52 = .ok (.iconst 0, 1) := by decide +kernel
theorem dX11_terms_53 : decode cX11_terms 53 = .ok (.invokestatic 338, 3) := by decide +kernel
theorem dX11_terms_56 : decode cX11_terms 56 = .ok (.aload_n 0, 1) := by decide +kernel
theorem dX11_terms_57 : decode cX11_terms 57 = .ok (.getfield 58, 3) := by decide +kernel
theorem dX11_terms_60 : decode cX11_terms 60 = .ok (.getfield 335, 3) := by decide +kernel
theorem dX11_terms_63 : decode cX11_terms 63 = .ok (.istore 4, 2) := by decide +kernel
theorem dX11_terms_65 : decode cX11_terms 65 = .ok (.iconst 0, 1) := by decide +kernel
theorem dX11_terms_66 : decode cX11_terms 66 = .ok (.istore 5, 2) := by decide +kernel
theorem dX11_terms_68 : decode cX11_terms 68 = .ok (.iload 5, 2) := by decide +kernel
theorem dX11_terms_70 : decode cX11_terms 70 = .ok (.iload_n 1, 1) := by decide +kernel
theorem dX11_terms_71 : decode cX11_terms 71 = .ok (.if_icmp .ge 43, 3) := by decide +kernel
theorem dX11_terms_74 : decode cX11_terms 74 = .ok (.aload_n 0, 1) := by decide +kernel
theorem dX11_terms_75 : decode cX11_terms 75 = .ok (.getfield 62, 3) := by decide +kernel
theorem dX11_terms_78 : decode cX11_terms 78 = .ok (.aload_n 0, 1) := by decide +kernel
theorem dX11_terms_79 : decode cX11_terms 79 = .ok (.getfield 58, 3) := by decide +kernel
theorem dX11_terms_82 : decode cX11_terms 82 = .ok (.invokevirtual 344, 3) := by decide +kernel
theorem dX11_terms_85 : decode cX11_terms 85 = .ok (.aload_n 0, 1) := by decide +kernel
theorem dX11_terms_86 : decode cX11_terms 86 = .ok (.getfield 62, 3) := by decide +kernel
theorem dX11_terms_89 : decode cX11_terms 89 = .ok (.iload 4, 2) := by decide +kernel
theorem dX11_terms_91 : decode cX11_terms 91 = .ok (.putfield 335, 3) := by decide +kernel
theorem dX11_terms_94 : decode cX11_terms 94 = .ok (.aload_n 0, 1) := by decide +kernel
theorem dX11_terms_95 : decode cX11_terms 95 = .ok (.iload_n 2, 1) := by decide +kernel
theorem dX11_terms_96 : decode cX11_terms 96 = .ok (.invokevirtual 348, 3) := by decide +kernel
theorem dX11_terms_99 : decode cX11_terms 99 = .ok (.aload_n 0, 1) := by decide +kernel
theorem dX11_terms_100 : decode cX11_terms 100 = .ok (.getfield 62, 3) := by decide +kernel
theorem dX11_terms_103 : decode cX11_terms 103 = .ok (.getfield 335, 3) := by decide +kernel
theorem dX11_terms_106 : decode cX11_terms 106 = .ok (.istore 4, 2) := by decide +kernel
theorem dX11_terms_108 : decode cX11_terms 108 = .ok (.iinc 5 1, 3) := by decide +kernel
theorem dX11_terms_111 : decode cX11_terms 111 = .ok (.goto (-43), 3) := by decide +kernel
theorem dX11_terms_114 : decode cX11_terms 114 = .ok (.aload_n 0, 1) := by decide +kernel
theorem dX11_terms_115 : decode cX11_terms 115 = .ok (.getfield 101, 3) := by decide +kernel
theorem dX11_terms_118 : decode cX11_terms 118 = .ok (.iload_n 3, 1) := by decide +kernel
theorem dX11_terms_119 : decode cX11_terms 119 = .ok (.iaload, 1) := by decide +kernel
theorem dX11_terms_120 : decode cX11_terms 120 = .ok (.ireturn, 1) := by decide +kernel
abbrev D_X11_terms : Nat := 8
def f_X11_terms_L68 (K114 : Mm → Nat → Int32 → Option (Int32 × Mm)) : Nat → Mm → Nat → Int32 → Int32 → Int32 → Int32 → Int32 → Option (Int32 × Mm)
  | 0, _, _, _, _, _, _, _ => none
  | n + 1, μ0, a14, x15, x16, x17, x18, x19 =>
    (if x15 ≤ x19 then
    K114 μ0 a14 x17
    else
    ((gR μ0 a14 11 7).bind fun v20 =>
    ((gR μ0 a14 11 6).bind fun v21 =>
    ((ob μ0 v20 7).bind fun _ =>
    ((f_X7_copyFrom μ0 v20 v21).bind fun μ22 =>
    ((gR μ22 a14 11 7).bind fun v23 =>
    ((pV μ22 v23 7 2 (.int x18)).bind fun μ24 =>
    ((ob μ24 a14 11).bind fun _ =>
    ((f_X11_playTerm μ24 a14 x16).bind fun μ25 =>
    ((gR μ25 a14 11 7).bind fun v26 =>
    ((gI μ25 v26 7 2).bind fun v27 =>
    (nm v27 fun x28 =>
    (nm (x19 + Int32.ofInt (1)) fun x29 =>
    f_X11_terms_L68 K114 n μ25 a14 x15 x16 x17 x28 x29)))))))))))))
set_option maxHeartbeats 4000000 in
set_option maxRecDepth 100000 in
theorem f_X11_terms_L68_ok {l : Launch} {G : GG} {K114 : Mm → Nat → Int32 → Option (Int32 × Mm)} {r : Int32} {μ' : Mm} (n : Nat) (μ0 : Mm) (a14 : Nat) (x15 : Int32) (x16 : Int32) (x17 : Int32) (x18 : Int32) (x19 : Int32) (hf : f_X11_terms_L68 K114 n μ0 a14 x15 x16 x17 x18 x19 = some (r, μ')) (hK114 : ∀ (μ1 : Mm) (y0 : Nat) (y3 : Int32), K114 μ1 y0 y3 = some (r, μ') → Ev l G D_X11_terms yX11_terms cX11_terms 6 (some .int) 114 [(0, .ref y0), (3, .int y3)] [] μ1 (some (.int r)) μ') : Ev l G D_X11_terms yX11_terms cX11_terms 6 (some .int) 68 [(0, .ref a14), (1, .int x15), (2, .int x16), (3, .int x17), (4, .int x18), (5, .int x19)] [] μ0 (some (.int r)) μ' := by
  induction n generalizing μ0 a14 x15 x16 x17 x18 x19 with
  | zero => cases hf
  | succ n ih0 =>
    have ih : ∀ (μ0 : Mm) (a14 : Nat) (x15 : Int32) (x16 : Int32) (x17 : Int32) (x18 : Int32) (x19 : Int32), f_X11_terms_L68 K114 n μ0 a14 x15 x16 x17 x18 x19 = some (r, μ') → Ev l G D_X11_terms yX11_terms cX11_terms 6 (some .int) 68 [(0, .ref a14), (1, .int x15), (2, .int x16), (3, .int x17), (4, .int x18), (5, .int x19)] [] μ0 (some (.int r)) μ' := fun μ0 a14 x15 x16 x17 x18 x19 hf => ih0 μ0 a14 x15 x16 x17 x18 x19 hf
    rw [f_X11_terms_L68] at hf
    refine E_iload (pc := 68) dX11_terms_68 rfl ?_
    refine E_iload_n (pc := 70) dX11_terms_70 rfl ?_
    refine E_icmp_ge (pc := 71) (tgt := 114) dX11_terms_71 (by decide) hf (fun hf => ?_) (fun hf => ?_)
    · refine Ev.sub [0, 3] rfl ?_
      exact hK114 _ _ _ hf
    · refine E_aload_n (pc := 74) dX11_terms_74 rfl ?_
      refine E_getR (pc := 75) dX11_terms_75 fl_X11_62 hf (fun v20 hf => ?_)
      refine E_aload_n (pc := 78) dX11_terms_78 rfl ?_
      refine E_getR (pc := 79) dX11_terms_79 fl_X11_58 hf (fun v21 hf => ?_)
      refine E_Vv (pc := 82) (d2 := D_X7_copyFrom) (ci := 7) [.ref v21] dX11_terms_82 ml_X11_344 mf_X7_copyFrom im_X7_copyFrom rfl rfl rfl (by decide) (Nat.le_of_ble_eq_true rfl) (Nat.le_of_ble_eq_true rfl) rfl (fun _ h => f_X7_copyFrom_ok h) hf (fun μ22 hf => ?_)
      refine E_aload_n (pc := 85) dX11_terms_85 rfl ?_
      refine E_getR (pc := 86) dX11_terms_86 fl_X11_62 hf (fun v23 hf => ?_)
      refine E_iload (pc := 89) dX11_terms_89 rfl ?_
      refine E_putI (pc := 91) dX11_terms_91 (pl_X11_335 _) hf (fun μ24 hf => ?_)
      refine E_aload_n (pc := 94) dX11_terms_94 rfl ?_
      refine E_iload_n (pc := 95) dX11_terms_95 rfl ?_
      refine E_Vv (pc := 96) (d2 := D_X11_playTerm) (ci := 11) [.int x16] dX11_terms_96 ml_X11_348 mf_X11_playTerm im_X11_playTerm rfl rfl rfl (by decide) (Nat.le_of_ble_eq_true rfl) (Nat.le_of_ble_eq_true rfl) rfl (fun _ h => f_X11_playTerm_ok h) hf (fun μ25 hf => ?_)
      refine E_aload_n (pc := 99) dX11_terms_99 rfl ?_
      refine E_getR (pc := 100) dX11_terms_100 fl_X11_62 hf (fun v26 hf => ?_)
      refine E_getI (pc := 103) dX11_terms_103 fl_X11_335 hf (fun v27 hf => ?_)
      refine E_istore (pc := 106) (ls' := fun x28 => [(4, .int x28), (0, .ref a14), (1, .int x15), (2, .int x16), (3, .int x17), (5, .int x19)]) dX11_terms_106 (by decide) (fun _ => rfl) hf (fun x28 hf => ?_)
      refine E_iinc (pc := 108) (ls' := fun x29 => [(5, .int x29), (4, .int x28), (0, .ref a14), (1, .int x15), (2, .int x16), (3, .int x17)]) dX11_terms_108 rfl (by decide) (fun _ => rfl) hf (fun x29 hf => ?_)
      refine E_goto (pc := 111) (tgt := 68) dX11_terms_111 (by decide) ?_
      refine Ev.sub [2, 3, 4, 5, 1, 0] rfl ?_
      exact ih _ _ _ _ _ _ _ hf
set_option maxRecDepth 100000 in
def f_X11_terms (μ0 : Mm) (a1 : Nat) (x2 : Int32) (x3 : Int32) (x4 : Int32) : Option (Int32 × Mm) :=
 ((gR μ0 a1 11 6).bind fun v5 =>
    ((gR μ0 v5 7 0).bind fun v6 =>
    ((gI μ0 v6 1 2).bind fun v7 =>
    (if v7 = 0 then
    (some ((-1 : Int32), μ0))
    else
    (if x2 < (1 : Int32) then
    (some ((-1 : Int32), μ0))
    else
    (if (20 : Int32) < x2 then
    (some ((-1 : Int32), μ0))
    else
    (if x3 < (1 : Int32) then
    (some ((-1 : Int32), μ0))
    else
    (if x3 ≤ (40 : Int32) then
    (if x4 < 0 then
    (some ((-1 : Int32), μ0))
    else
    (if x4 ≤ (2 : Int32) then
    ((gR μ0 a1 11 13).bind fun v8 =>
    ((f_J7_fill_53178 μ0 v8 (0 : Int32)).bind fun μ9 =>
    ((gR μ9 a1 11 6).bind fun v10 =>
    ((gI μ9 v10 7 2).bind fun v11 =>
    (nm v11 fun x12 =>
    (nm (0 : Int32) fun x13 =>
    f_X11_terms_L68 (fun μ30 a31 x32 =>
    ((gR μ30 a31 11 13).bind fun v33 =>
    ((aI μ30 v33 0 x32).bind fun v34 =>
    (some (v34, μ30))))) FU μ9 a1 x2 x3 x4 x12 x13))))))
    else
    (some ((-1 : Int32), μ0))))
    else
    (some ((-1 : Int32), μ0))))))))))
set_option maxHeartbeats 4000000 in
set_option maxRecDepth 100000 in
theorem f_X11_terms_ok {l : Launch} {G : GG} {μ0 : Mm} {a1 : Nat} {x2 : Int32} {x3 : Int32} {x4 : Int32} {r : Int32} {μ' : Mm} (hf : f_X11_terms μ0 a1 x2 x3 x4 = some (r, μ')) : EvM l G D_X11_terms yX11_terms cX11_terms 6 (some .int) [.ref a1, .int x2, .int x3, .int x4] μ0 (some (.int r)) μ' := by
  show Ev l G D_X11_terms yX11_terms cX11_terms 6 (some .int) 0 [(0, .ref a1), (1, .int x2), (2, .int x3), (3, .int x4)] [] μ0 (some (.int r)) μ'
  unfold f_X11_terms at hf
  refine E_aload_n (pc := 0) dX11_terms_0 rfl ?_
  refine E_getR (pc := 1) dX11_terms_1 fl_X11_58 hf (fun v5 hf => ?_)
  refine E_getR (pc := 4) dX11_terms_4 fl_X11_122 hf (fun v6 hf => ?_)
  refine E_getI (pc := 7) dX11_terms_7 fl_X11_125 hf (fun v7 hf => ?_)
  refine E_if_eq (pc := 10) (tgt := 35) dX11_terms_10 (by decide) hf (fun hf => ?_) (fun hf => ?_)
  · refine E_iconst (pc := 35) (v := (-1 : Int32)) dX11_terms_35 (by decide) ?_
    exact E_iret (pc := 36) dX11_terms_36 rfl hf
  · refine E_iload_n (pc := 13) dX11_terms_13 rfl ?_
    refine E_iconst (pc := 14) (v := (1 : Int32)) dX11_terms_14 (by decide) ?_
    refine E_icmp_lt (pc := 15) (tgt := 35) dX11_terms_15 (by decide) hf (fun hf => ?_) (fun hf => ?_)
    · refine E_iconst (pc := 35) (v := (-1 : Int32)) dX11_terms_35 (by decide) ?_
      exact E_iret (pc := 36) dX11_terms_36 rfl hf
    · refine E_iload_n (pc := 18) dX11_terms_18 rfl ?_
      refine E_bipush (pc := 19) (v := (20 : Int32)) dX11_terms_19 (by decide) ?_
      refine E_icmp_gt (pc := 21) (tgt := 35) dX11_terms_21 (by decide) hf (fun hf => ?_) (fun hf => ?_)
      · refine E_iconst (pc := 35) (v := (-1 : Int32)) dX11_terms_35 (by decide) ?_
        exact E_iret (pc := 36) dX11_terms_36 rfl hf
      · refine E_iload_n (pc := 24) dX11_terms_24 rfl ?_
        refine E_iconst (pc := 25) (v := (1 : Int32)) dX11_terms_25 (by decide) ?_
        refine E_icmp_lt (pc := 26) (tgt := 35) dX11_terms_26 (by decide) hf (fun hf => ?_) (fun hf => ?_)
        · refine E_iconst (pc := 35) (v := (-1 : Int32)) dX11_terms_35 (by decide) ?_
          exact E_iret (pc := 36) dX11_terms_36 rfl hf
        · refine E_iload_n (pc := 29) dX11_terms_29 rfl ?_
          refine E_bipush (pc := 30) (v := (40 : Int32)) dX11_terms_30 (by decide) ?_
          refine E_icmp_le (pc := 32) (tgt := 37) dX11_terms_32 (by decide) hf (fun hf => ?_) (fun hf => ?_)
          · refine E_iload_n (pc := 37) dX11_terms_37 rfl ?_
            refine E_if_lt (pc := 38) (tgt := 46) dX11_terms_38 (by decide) hf (fun hf => ?_) (fun hf => ?_)
            · refine E_iconst (pc := 46) (v := (-1 : Int32)) dX11_terms_46 (by decide) ?_
              exact E_iret (pc := 47) dX11_terms_47 rfl hf
            · refine E_iload_n (pc := 41) dX11_terms_41 rfl ?_
              refine E_iconst (pc := 42) (v := (2 : Int32)) dX11_terms_42 (by decide) ?_
              refine E_icmp_le (pc := 43) (tgt := 48) dX11_terms_43 (by decide) hf (fun hf => ?_) (fun hf => ?_)
              · refine E_aload_n (pc := 48) dX11_terms_48 rfl ?_
                refine E_getR (pc := 49) dX11_terms_49 fl_X11_101 hf (fun v8 hf => ?_)
                refine E_iconst (pc := 52) (v := (0 : Int32)) dX11_terms_52 (by decide) ?_
                refine E_Sv (pc := 53) (d2 := D_J7_fill_53178) [.ref v8, .int (0 : Int32)] dX11_terms_53 ml_X11_338 mf_J7_fill_53178 st_J7_fill_53178 rfl (by decide) (Nat.le_of_ble_eq_true rfl) (Nat.le_of_ble_eq_true rfl) rfl (fun _ h => f_J7_fill_53178_ok h) hf (fun μ9 hf => ?_)
                refine E_aload_n (pc := 56) dX11_terms_56 rfl ?_
                refine E_getR (pc := 57) dX11_terms_57 fl_X11_58 hf (fun v10 hf => ?_)
                refine E_getI (pc := 60) dX11_terms_60 fl_X11_335 hf (fun v11 hf => ?_)
                refine E_istore (pc := 63) (ls' := fun x12 => [(4, .int x12), (0, .ref a1), (1, .int x2), (2, .int x3), (3, .int x4)]) dX11_terms_63 (by decide) (fun _ => rfl) hf (fun x12 hf => ?_)
                refine E_iconst (pc := 65) (v := (0 : Int32)) dX11_terms_65 (by decide) ?_
                refine E_istore (pc := 66) (ls' := fun x13 => [(5, .int x13), (4, .int x12), (0, .ref a1), (1, .int x2), (2, .int x3), (3, .int x4)]) dX11_terms_66 (by decide) (fun _ => rfl) hf (fun x13 hf => ?_)
                refine Ev.sub [2, 3, 4, 5, 1, 0] rfl ?_
                refine f_X11_terms_L68_ok  _ _ _ _ _ _ _ _ hf (fun μ30 a31 x32 hf => ?_)
                · refine E_aload_n (pc := 114) dX11_terms_114 rfl ?_
                  refine E_getR (pc := 115) dX11_terms_115 fl_X11_101 hf (fun v33 hf => ?_)
                  refine E_iload_n (pc := 118) dX11_terms_118 rfl ?_
                  refine E_iald (pc := 119) dX11_terms_119 hf (fun v34 hf => ?_)
                  exact E_iret (pc := 120) dX11_terms_120 rfl hf
              · refine E_iconst (pc := 46) (v := (-1 : Int32)) dX11_terms_46 (by decide) ?_
                exact E_iret (pc := 47) dX11_terms_47 rfl hf
          · refine E_iconst (pc := 35) (v := (-1 : Int32)) dX11_terms_35 (by decide) ?_
            exact E_iret (pc := 36) dX11_terms_36 rfl hf
theorem dX11_count_0 : decode cX11_count 0 = .ok (.aload_n 0, 1) := by decide +kernel
theorem dX11_count_1 : decode cX11_count 1 = .ok (.getfield 58, 3) := by decide +kernel
theorem dX11_count_4 : decode cX11_count 4 = .ok (.getfield 122, 3) := by decide +kernel
theorem dX11_count_7 : decode cX11_count 7 = .ok (.astore_n 2, 1) := by decide +kernel
theorem dX11_count_8 : decode cX11_count 8 = .ok (.iload_n 1, 1) := by decide +kernel
theorem dX11_count_9 : decode cX11_count 9 = .ok (.tableswitch 165 0 13 #[71, 76, 81, 86, 91, 96, 104, 112, 117, 125, 133, 141, 149, 157], 71) := by decide +kernel
theorem dX11_count_80 : decode cX11_count 80 = .ok (.aload_n 2, 1) := by decide +kernel
theorem dX11_count_81 : decode cX11_count 81 = .ok (.getfield 351, 3) := by decide +kernel
theorem dX11_count_84 : decode cX11_count 84 = .ok (.ireturn, 1) := by decide +kernel
theorem dX11_count_85 : decode cX11_count 85 = .ok (.aload_n 2, 1) := by decide +kernel
theorem dX11_count_86 : decode cX11_count 86 = .ok (.getfield 354, 3) := by decide +kernel
theorem dX11_count_89 : decode cX11_count 89 = .ok (.ireturn, 1) := by decide +kernel
theorem dX11_count_90 : decode cX11_count 90 = .ok (.aload_n 2, 1) := by decide +kernel
theorem dX11_count_91 : decode cX11_count 91 = .ok (.getfield 357, 3) := by decide +kernel
theorem dX11_count_94 : decode cX11_count 94 = .ok (.ireturn, 1) := by decide +kernel
theorem dX11_count_95 : decode cX11_count 95 = .ok (.aload_n 2, 1) := by decide +kernel
theorem dX11_count_96 : decode cX11_count 96 = .ok (.getfield 274, 3) := by decide +kernel
theorem dX11_count_99 : decode cX11_count 99 = .ok (.ireturn, 1) := by decide +kernel
theorem dX11_count_100 : decode cX11_count 100 = .ok (.aload_n 2, 1) := by decide +kernel
theorem dX11_count_101 : decode cX11_count 101 = .ok (.invokevirtual 360, 3) := by decide +kernel
theorem dX11_count_104 : decode cX11_count 104 = .ok (.ireturn, 1) := by decide +kernel
theorem dX11_count_105 : decode cX11_count 105 = .ok (.aload_n 2, 1) := by decide +kernel
theorem dX11_count_106 : decode cX11_count 106 = .ok (.getfield 317, 3) := by decide +kernel
theorem dX11_count_109 : decode cX11_count 109 = .ok (.getfield 321, 3) := by decide +kernel
theorem dX11_count_112 : decode cX11_count 112 = .ok (.ireturn, 1) := by decide +kernel
theorem dX11_count_113 : decode cX11_count 113 = .ok (.aload_n 2, 1) := by decide +kernel
theorem dX11_count_114 : decode cX11_count 114 = .ok (.getfield 317, 3) := by decide +kernel
theorem dX11_count_117 : decode cX11_count 117 = .ok (.getfield 363, 3) := by decide +kernel
theorem dX11_count_120 : decode cX11_count 120 = .ok (.ireturn, 1) := by decide +kernel
theorem dX11_count_121 : decode cX11_count 121 = .ok (.aload_n 0, 1) := by decide +kernel
theorem dX11_count_122 : decode cX11_count 122 = .ok (.getfield 45, 3) := by decide +kernel
theorem dX11_count_125 : decode cX11_count 125 = .ok (.ireturn, 1) := by decide +kernel
theorem dX11_count_126 : decode cX11_count 126 = .ok (.aload_n 0, 1) := by decide +kernel
theorem dX11_count_127 : decode cX11_count 127 = .ok (.getfield 58, 3) := by decide +kernel
theorem dX11_count_130 : decode cX11_count 130 = .ok (.getfield 131, 3) := by decide +kernel
theorem dX11_count_133 : decode cX11_count 133 = .ok (.ireturn, 1) := by decide +kernel
theorem dX11_count_134 : decode cX11_count 134 = .ok (.aload_n 0, 1) := by decide +kernel
theorem dX11_count_135 : decode cX11_count 135 = .ok (.getfield 58, 3) := by decide +kernel
theorem dX11_count_138 : decode cX11_count 138 = .ok (.getfield 200, 3) := by decide +kernel
theorem dX11_count_141 : decode cX11_count 141 = .ok (.ireturn, 1) := by decide +kernel
theorem dX11_count_142 : decode cX11_count 142 = .ok (.aload_n 0, 1) := by decide +kernel
theorem dX11_count_143 : decode cX11_count 143 = .ok (.getfield 58, 3) := by decide +kernel
theorem dX11_count_146 : decode cX11_count 146 = .ok (.getfield 257, 3) := by decide +kernel
theorem dX11_count_149 : decode cX11_count 149 = .ok (.ireturn, 1) := by decide +kernel
theorem dX11_count_150 : decode cX11_count 150 = .ok (.aload_n 0, 1) := by decide +kernel
theorem dX11_count_151 : decode cX11_count 151 = .ok (.getfield 58, 3) := by decide +kernel
theorem dX11_count_154 : decode cX11_count 154 = .ok (.getfield 225, 3) := by decide +kernel
theorem dX11_count_157 : decode cX11_count 157 = .ok (.ireturn, 1) := by decide +kernel
theorem dX11_count_158 : decode cX11_count 158 = .ok (.aload_n 0, 1) := by decide +kernel
theorem dX11_count_159 : decode cX11_count 159 = .ok (.getfield 58, 3) := by decide +kernel
theorem dX11_count_162 : decode cX11_count 162 = .ok (.getfield 335, 3) := by decide +kernel
theorem dX11_count_165 : decode cX11_count 165 = .ok (.ireturn, 1) := by decide +kernel
theorem dX11_count_166 : decode cX11_count 166 = .ok (.aload_n 0, 1) := by decide +kernel
theorem dX11_count_167 : decode cX11_count 167 = .ok (.getfield 10, 3) := by decide +kernel
theorem dX11_count_170 : decode cX11_count 170 = .ok (.getfield 105, 3) := by decide +kernel
theorem dX11_count_173 : decode cX11_count 173 = .ok (.ireturn, 1) := by decide +kernel
theorem dX11_count_174 : decode cX11_count 174 = .ok (.iconst (-1), 1) := by decide +kernel
theorem dX11_count_175 : decode cX11_count 175 = .ok (.ireturn, 1) := by decide +kernel
abbrev D_X11_count : Nat := 3
set_option maxRecDepth 100000 in
def f_X11_count (μ0 : Mm) (a1 : Nat) (x2 : Int32) : Option (Int32 × Mm) :=
 ((gR μ0 a1 11 6).bind fun v3 =>
    ((gR μ0 v3 7 0).bind fun v4 =>
    (nm v4 fun a5 =>
    (if x2 = (0 : Int32) then
    ((gI μ0 a5 1 0).bind fun v28 =>
    (some (v28, μ0)))
    else
    (if x2 = (1 : Int32) then
    ((gI μ0 a5 1 1).bind fun v27 =>
    (some (v27, μ0)))
    else
    (if x2 = (2 : Int32) then
    ((gI μ0 a5 1 6).bind fun v26 =>
    (some (v26, μ0)))
    else
    (if x2 = (3 : Int32) then
    ((gI μ0 a5 1 9).bind fun v25 =>
    (some (v25, μ0)))
    else
    (if x2 = (4 : Int32) then
    ((ob μ0 a5 1).bind fun _ =>
    (bd (f_X1_netCount μ0 a5) fun v24 μ23 =>
    (some (v24, μ23))))
    else
    (if x2 = (5 : Int32) then
    ((gR μ0 a5 1 14).bind fun v21 =>
    ((gI μ0 v21 3 0).bind fun v22 =>
    (some (v22, μ0))))
    else
    (if x2 = (6 : Int32) then
    ((gR μ0 a5 1 14).bind fun v19 =>
    ((gI μ0 v19 3 2).bind fun v20 =>
    (some (v20, μ0))))
    else
    (if x2 = (7 : Int32) then
    ((gI μ0 a1 11 5).bind fun v18 =>
    (some (v18, μ0)))
    else
    (if x2 = (8 : Int32) then
    ((gR μ0 a1 11 6).bind fun v16 =>
    ((gI μ0 v16 7 1).bind fun v17 =>
    (some (v17, μ0))))
    else
    (if x2 = (9 : Int32) then
    ((gR μ0 a1 11 6).bind fun v14 =>
    ((gI μ0 v14 7 3).bind fun v15 =>
    (some (v15, μ0))))
    else
    (if x2 = (10 : Int32) then
    ((gR μ0 a1 11 6).bind fun v12 =>
    ((gI μ0 v12 7 6).bind fun v13 =>
    (some (v13, μ0))))
    else
    (if x2 = (11 : Int32) then
    ((gR μ0 a1 11 6).bind fun v10 =>
    ((gI μ0 v10 7 9).bind fun v11 =>
    (some (v11, μ0))))
    else
    (if x2 = (12 : Int32) then
    ((gR μ0 a1 11 6).bind fun v8 =>
    ((gI μ0 v8 7 2).bind fun v9 =>
    (some (v9, μ0))))
    else
    (if x2 = (13 : Int32) then
    ((gR μ0 a1 11 0).bind fun v6 =>
    ((gI μ0 v6 9 1).bind fun v7 =>
    (some (v7, μ0))))
    else
    (some ((-1 : Int32), μ0)))))))))))))))))))
set_option maxHeartbeats 4000000 in
set_option maxRecDepth 100000 in
theorem f_X11_count_ok {l : Launch} {G : GG} {μ0 : Mm} {a1 : Nat} {x2 : Int32} {r : Int32} {μ' : Mm} (hf : f_X11_count μ0 a1 x2 = some (r, μ')) : EvM l G D_X11_count yX11_count cX11_count 3 (some .int) [.ref a1, .int x2] μ0 (some (.int r)) μ' := by
  show Ev l G D_X11_count yX11_count cX11_count 3 (some .int) 0 [(0, .ref a1), (1, .int x2)] [] μ0 (some (.int r)) μ'
  unfold f_X11_count at hf
  refine E_aload_n (pc := 0) dX11_count_0 rfl ?_
  refine E_getR (pc := 1) dX11_count_1 fl_X11_58 hf (fun v3 hf => ?_)
  refine E_getR (pc := 4) dX11_count_4 fl_X11_122 hf (fun v4 hf => ?_)
  refine E_astore_n (pc := 7) (ls' := fun a5 => [(2, .ref a5), (0, .ref a1), (1, .int x2)]) dX11_count_7 (by decide) (fun _ => rfl) hf (fun a5 hf => ?_)
  refine E_iload_n (pc := 8) dX11_count_8 rfl ?_
  refine ifS hf (fun n9_0 hf => ?_) (fun n9_0 hf => ?_)
  · refine E_tswI (pc := 9) (tgt := 80) (0) dX11_count_9 (by rw [n9_0]; decide) (by decide) (by decide) rfl (by decide) ?_
    refine E_aload_n (pc := 80) dX11_count_80 rfl ?_
    refine E_getI (pc := 81) dX11_count_81 fl_X11_351 hf (fun v28 hf => ?_)
    exact E_iret (pc := 84) dX11_count_84 rfl hf
  · refine ifS hf (fun n9_1 hf => ?_) (fun n9_1 hf => ?_)
    · refine E_tswI (pc := 9) (tgt := 85) (1) dX11_count_9 (by rw [n9_1]; decide) (by decide) (by decide) rfl (by decide) ?_
      refine E_aload_n (pc := 85) dX11_count_85 rfl ?_
      refine E_getI (pc := 86) dX11_count_86 fl_X11_354 hf (fun v27 hf => ?_)
      exact E_iret (pc := 89) dX11_count_89 rfl hf
    · refine ifS hf (fun n9_2 hf => ?_) (fun n9_2 hf => ?_)
      · refine E_tswI (pc := 9) (tgt := 90) (2) dX11_count_9 (by rw [n9_2]; decide) (by decide) (by decide) rfl (by decide) ?_
        refine E_aload_n (pc := 90) dX11_count_90 rfl ?_
        refine E_getI (pc := 91) dX11_count_91 fl_X11_357 hf (fun v26 hf => ?_)
        exact E_iret (pc := 94) dX11_count_94 rfl hf
      · refine ifS hf (fun n9_3 hf => ?_) (fun n9_3 hf => ?_)
        · refine E_tswI (pc := 9) (tgt := 95) (3) dX11_count_9 (by rw [n9_3]; decide) (by decide) (by decide) rfl (by decide) ?_
          refine E_aload_n (pc := 95) dX11_count_95 rfl ?_
          refine E_getI (pc := 96) dX11_count_96 fl_X11_274 hf (fun v25 hf => ?_)
          exact E_iret (pc := 99) dX11_count_99 rfl hf
        · refine ifS hf (fun n9_4 hf => ?_) (fun n9_4 hf => ?_)
          · refine E_tswI (pc := 9) (tgt := 100) (4) dX11_count_9 (by rw [n9_4]; decide) (by decide) (by decide) rfl (by decide) ?_
            refine E_aload_n (pc := 100) dX11_count_100 rfl ?_
            refine E_Vi (pc := 101) (d2 := D_X1_netCount) (ci := 1) [] dX11_count_101 ml_X11_360 mf_X1_netCount im_X1_netCount rfl rfl rfl (by decide) (Nat.le_of_ble_eq_true rfl) (Nat.le_of_ble_eq_true rfl) rfl (fun _ _ h => f_X1_netCount_ok h) hf (fun v24 μ23 hf => ?_)
            exact E_iret (pc := 104) dX11_count_104 rfl hf
          · refine ifS hf (fun n9_5 hf => ?_) (fun n9_5 hf => ?_)
            · refine E_tswI (pc := 9) (tgt := 105) (5) dX11_count_9 (by rw [n9_5]; decide) (by decide) (by decide) rfl (by decide) ?_
              refine E_aload_n (pc := 105) dX11_count_105 rfl ?_
              refine E_getR (pc := 106) dX11_count_106 fl_X11_317 hf (fun v21 hf => ?_)
              refine E_getI (pc := 109) dX11_count_109 fl_X11_321 hf (fun v22 hf => ?_)
              exact E_iret (pc := 112) dX11_count_112 rfl hf
            · refine ifS hf (fun n9_6 hf => ?_) (fun n9_6 hf => ?_)
              · refine E_tswI (pc := 9) (tgt := 113) (6) dX11_count_9 (by rw [n9_6]; decide) (by decide) (by decide) rfl (by decide) ?_
                refine E_aload_n (pc := 113) dX11_count_113 rfl ?_
                refine E_getR (pc := 114) dX11_count_114 fl_X11_317 hf (fun v19 hf => ?_)
                refine E_getI (pc := 117) dX11_count_117 fl_X11_363 hf (fun v20 hf => ?_)
                exact E_iret (pc := 120) dX11_count_120 rfl hf
              · refine ifS hf (fun n9_7 hf => ?_) (fun n9_7 hf => ?_)
                · refine E_tswI (pc := 9) (tgt := 121) (7) dX11_count_9 (by rw [n9_7]; decide) (by decide) (by decide) rfl (by decide) ?_
                  refine E_aload_n (pc := 121) dX11_count_121 rfl ?_
                  refine E_getI (pc := 122) dX11_count_122 fl_X11_45 hf (fun v18 hf => ?_)
                  exact E_iret (pc := 125) dX11_count_125 rfl hf
                · refine ifS hf (fun n9_8 hf => ?_) (fun n9_8 hf => ?_)
                  · refine E_tswI (pc := 9) (tgt := 126) (8) dX11_count_9 (by rw [n9_8]; decide) (by decide) (by decide) rfl (by decide) ?_
                    refine E_aload_n (pc := 126) dX11_count_126 rfl ?_
                    refine E_getR (pc := 127) dX11_count_127 fl_X11_58 hf (fun v16 hf => ?_)
                    refine E_getI (pc := 130) dX11_count_130 fl_X11_131 hf (fun v17 hf => ?_)
                    exact E_iret (pc := 133) dX11_count_133 rfl hf
                  · refine ifS hf (fun n9_9 hf => ?_) (fun n9_9 hf => ?_)
                    · refine E_tswI (pc := 9) (tgt := 134) (9) dX11_count_9 (by rw [n9_9]; decide) (by decide) (by decide) rfl (by decide) ?_
                      refine E_aload_n (pc := 134) dX11_count_134 rfl ?_
                      refine E_getR (pc := 135) dX11_count_135 fl_X11_58 hf (fun v14 hf => ?_)
                      refine E_getI (pc := 138) dX11_count_138 fl_X11_200 hf (fun v15 hf => ?_)
                      exact E_iret (pc := 141) dX11_count_141 rfl hf
                    · refine ifS hf (fun n9_10 hf => ?_) (fun n9_10 hf => ?_)
                      · refine E_tswI (pc := 9) (tgt := 142) (10) dX11_count_9 (by rw [n9_10]; decide) (by decide) (by decide) rfl (by decide) ?_
                        refine E_aload_n (pc := 142) dX11_count_142 rfl ?_
                        refine E_getR (pc := 143) dX11_count_143 fl_X11_58 hf (fun v12 hf => ?_)
                        refine E_getI (pc := 146) dX11_count_146 fl_X11_257 hf (fun v13 hf => ?_)
                        exact E_iret (pc := 149) dX11_count_149 rfl hf
                      · refine ifS hf (fun n9_11 hf => ?_) (fun n9_11 hf => ?_)
                        · refine E_tswI (pc := 9) (tgt := 150) (11) dX11_count_9 (by rw [n9_11]; decide) (by decide) (by decide) rfl (by decide) ?_
                          refine E_aload_n (pc := 150) dX11_count_150 rfl ?_
                          refine E_getR (pc := 151) dX11_count_151 fl_X11_58 hf (fun v10 hf => ?_)
                          refine E_getI (pc := 154) dX11_count_154 fl_X11_225 hf (fun v11 hf => ?_)
                          exact E_iret (pc := 157) dX11_count_157 rfl hf
                        · refine ifS hf (fun n9_12 hf => ?_) (fun n9_12 hf => ?_)
                          · refine E_tswI (pc := 9) (tgt := 158) (12) dX11_count_9 (by rw [n9_12]; decide) (by decide) (by decide) rfl (by decide) ?_
                            refine E_aload_n (pc := 158) dX11_count_158 rfl ?_
                            refine E_getR (pc := 159) dX11_count_159 fl_X11_58 hf (fun v8 hf => ?_)
                            refine E_getI (pc := 162) dX11_count_162 fl_X11_335 hf (fun v9 hf => ?_)
                            exact E_iret (pc := 165) dX11_count_165 rfl hf
                          · refine ifS hf (fun n9_13 hf => ?_) (fun n9_13 hf => ?_)
                            · refine E_tswI (pc := 9) (tgt := 166) (13) dX11_count_9 (by rw [n9_13]; decide) (by decide) (by decide) rfl (by decide) ?_
                              refine E_aload_n (pc := 166) dX11_count_166 rfl ?_
                              refine E_getR (pc := 167) dX11_count_167 fl_X11_10 hf (fun v6 hf => ?_)
                              refine E_getI (pc := 170) dX11_count_170 fl_X11_105 hf (fun v7 hf => ?_)
                              exact E_iret (pc := 173) dX11_count_173 rfl hf
                            · refine E_tswD (pc := 9) (tgt := 174) dX11_count_9 (by have q0 : ¬ (x2).toInt = 0 := i32ne n9_0; have q1 : ¬ (x2).toInt = 1 := i32ne n9_1; have q2 : ¬ (x2).toInt = 2 := i32ne n9_2; have q3 : ¬ (x2).toInt = 3 := i32ne n9_3; have q4 : ¬ (x2).toInt = 4 := i32ne n9_4; have q5 : ¬ (x2).toInt = 5 := i32ne n9_5; have q6 : ¬ (x2).toInt = 6 := i32ne n9_6; have q7 : ¬ (x2).toInt = 7 := i32ne n9_7; have q8 : ¬ (x2).toInt = 8 := i32ne n9_8; have q9 : ¬ (x2).toInt = 9 := i32ne n9_9; have q10 : ¬ (x2).toInt = 10 := i32ne n9_10; have q11 : ¬ (x2).toInt = 11 := i32ne n9_11; have q12 : ¬ (x2).toInt = 12 := i32ne n9_12; have q13 : ¬ (x2).toInt = 13 := i32ne n9_13;  omega) (by decide) ?_
                              refine E_iconst (pc := 174) (v := (-1 : Int32)) dX11_count_174 (by decide) ?_
                              exact E_iret (pc := 175) dX11_count_175 rfl hf
theorem dX11_image_0 : decode cX11_image 0 = .ok (.iload_n 1, 1) := by decide +kernel
theorem dX11_image_1 : decode cX11_image 1 = .ok (.ifCond .lt 8, 3) := by decide +kernel
theorem dX11_image_4 : decode cX11_image 4 = .ok (.iload_n 1, 1) := by decide +kernel
theorem dX11_image_5 : decode cX11_image 5 = .ok (.iconst 4, 1) := by decide +kernel
theorem dX11_image_6 : decode cX11_image 6 = .ok (.if_icmp .lt 5, 3) := by decide +kernel
theorem dX11_image_9 : decode cX11_image 9 = .ok (.iconst (-1), 1) := by decide +kernel
theorem dX11_image_10 : decode cX11_image 10 = .ok (.ireturn, 1) := by decide +kernel
theorem dX11_image_11 : decode cX11_image 11 = .ok (.aload_n 0, 1) := by decide +kernel
theorem dX11_image_12 : decode cX11_image 12 = .ok (.getfield 65, 3) := by decide +kernel
theorem dX11_image_15 : decode cX11_image 15 = .ok (.iload_n 1, 1) := by decide +kernel
theorem dX11_image_16 : decode cX11_image 16 = .ok (.aaload, 1) := by decide +kernel
theorem dX11_image_17 : decode cX11_image 17 = .ok (.ifnonnull 23, 3) := by decide +kernel
theorem dX11_image_20 : decode cX11_image 20 = .ok (.aload_n 0, 1) := by decide +kernel
theorem dX11_image_21 : decode cX11_image 21 = .ok (.getfield 65, 3) := by decide +kernel
theorem dX11_image_24 : decode cX11_image 24 = .ok (.iload_n 1, 1) := by decide +kernel
theorem dX11_image_25 : decode cX11_image 25 = .ok (.new 49, 3) := by decide +kernel
theorem dX11_image_28 : decode cX11_image 28 = .ok (.dup, 1) := by decide +kernel
theorem dX11_image_29 : decode cX11_image 29 = .ok (.aload_n 0, 1) := by decide +kernel
theorem dX11_image_30 : decode cX11_image 30 = .ok (.getfield 58, 3) := by decide +kernel
theorem dX11_image_33 : decode cX11_image 33 = .ok (.getfield 122, 3) := by decide +kernel
theorem dX11_image_36 : decode cX11_image 36 = .ok (.invokespecial 55, 3) := by decide +kernel
theorem dX11_image_39 : decode cX11_image 39 = .ok (.aastore, 1) := by decide +kernel
theorem dX11_image_40 : decode cX11_image 40 = .ok (.aload_n 0, 1) := by decide +kernel
theorem dX11_image_41 : decode cX11_image 41 = .ok (.getfield 65, 3) := by decide +kernel
theorem dX11_image_44 : decode cX11_image 44 = .ok (.iload_n 1, 1) := by decide +kernel
theorem dX11_image_45 : decode cX11_image 45 = .ok (.aaload, 1) := by decide +kernel
theorem dX11_image_46 : decode cX11_image 46 = .ok (.aload_n 0, 1) := by decide +kernel
theorem dX11_image_47 : decode cX11_image 47 = .ok (.getfield 58, 3) := by decide +kernel
theorem dX11_image_50 : decode cX11_image 50 = .ok (.invokevirtual 344, 3) := by decide +kernel
theorem dX11_image_53 : decode cX11_image 53 = .ok (.aload_n 0, 1) := by decide +kernel
theorem dX11_image_54 : decode cX11_image 54 = .ok (.getfield 58, 3) := by decide +kernel
theorem dX11_image_57 : decode cX11_image 57 = .ok (.getfield 200, 3) := by decide +kernel
theorem dX11_image_60 : decode cX11_image 60 = .ok (.invokestatic 312, 3) := by decide +kernel
theorem dX11_image_63 : decode cX11_image 63 = .ok (.ireturn, 1) := by decide +kernel
abbrev D_X11_image : Nat := 2
set_option maxRecDepth 100000 in
def f_X11_image (μ0 : Mm) (a1 : Nat) (x2 : Int32) : Option (Int32 × Mm) :=
 (if x2 < 0 then
    (some ((-1 : Int32), μ0))
    else
    (if x2 < (4 : Int32) then
    ((gR μ0 a1 11 8).bind fun v3 =>
    ((aR μ0 v3 5 x2).bind fun o4 =>
    (if o4 = none then
    ((gR μ0 a1 11 8).bind fun v14 =>
    (bd (nO μ0 7 13 [.null, .int 0, .int 0, .int 0, .null, .null, .int 0, .int 0, .int 0, .int 0, .null, .null, .null]) fun a15 μ16 =>
    ((gR μ16 a1 11 6).bind fun v17 =>
    ((gR μ16 v17 7 0).bind fun v18 =>
    ((f_X7_init μ16 a15 v18).bind fun μ19 =>
    ((sR μ19 v14 5 x2 7 a15).bind fun μ20 =>
    ((gR μ20 a1 11 8).bind fun v21 =>
    ((aR μ20 v21 5 x2).bind fun o22 =>
    ((o22).bind fun a23 =>
    ((gR μ20 a1 11 6).bind fun v24 =>
    ((ob μ20 a23 7).bind fun _ =>
    ((f_X7_copyFrom μ20 a23 v24).bind fun μ25 =>
    ((gR μ25 a1 11 6).bind fun v26 =>
    ((gI μ25 v26 7 3).bind fun v27 =>
    (bd (f_J6_bitCount_0f7a4 μ25 v27) fun v29 μ28 =>
    (some (v29, μ28)))))))))))))))))
    else
    ((gR μ0 a1 11 8).bind fun v5 =>
    ((aR μ0 v5 5 x2).bind fun o6 =>
    ((o6).bind fun a7 =>
    ((gR μ0 a1 11 6).bind fun v8 =>
    ((ob μ0 a7 7).bind fun _ =>
    ((f_X7_copyFrom μ0 a7 v8).bind fun μ9 =>
    ((gR μ9 a1 11 6).bind fun v10 =>
    ((gI μ9 v10 7 3).bind fun v11 =>
    (bd (f_J6_bitCount_0f7a4 μ9 v11) fun v13 μ12 =>
    (some (v13, μ12))))))))))))))
    else
    (some ((-1 : Int32), μ0))))
set_option maxHeartbeats 4000000 in
set_option maxRecDepth 100000 in
theorem f_X11_image_ok {l : Launch} {G : GG} {μ0 : Mm} {a1 : Nat} {x2 : Int32} {r : Int32} {μ' : Mm} (hf : f_X11_image μ0 a1 x2 = some (r, μ')) : EvM l G D_X11_image yX11_image cX11_image 2 (some .int) [.ref a1, .int x2] μ0 (some (.int r)) μ' := by
  show Ev l G D_X11_image yX11_image cX11_image 2 (some .int) 0 [(0, .ref a1), (1, .int x2)] [] μ0 (some (.int r)) μ'
  unfold f_X11_image at hf
  refine E_iload_n (pc := 0) dX11_image_0 rfl ?_
  refine E_if_lt (pc := 1) (tgt := 9) dX11_image_1 (by decide) hf (fun hf => ?_) (fun hf => ?_)
  · refine E_iconst (pc := 9) (v := (-1 : Int32)) dX11_image_9 (by decide) ?_
    exact E_iret (pc := 10) dX11_image_10 rfl hf
  · refine E_iload_n (pc := 4) dX11_image_4 rfl ?_
    refine E_iconst (pc := 5) (v := (4 : Int32)) dX11_image_5 (by decide) ?_
    refine E_icmp_lt (pc := 6) (tgt := 11) dX11_image_6 (by decide) hf (fun hf => ?_) (fun hf => ?_)
    · refine E_aload_n (pc := 11) dX11_image_11 rfl ?_
      refine E_getR (pc := 12) dX11_image_12 fl_X11_65 hf (fun v3 hf => ?_)
      refine E_iload_n (pc := 15) dX11_image_15 rfl ?_
      refine E_aald (pc := 16) dX11_image_16 (by decide) hf (fun o4 hf => ?_)
      refine E_ifnn (pc := 17) (tgt := 40) dX11_image_17 (by decide) hf (fun hf => ?_) (fun hf => ?_)
      · refine E_aload_n (pc := 20) dX11_image_20 rfl ?_
        refine E_getR (pc := 21) dX11_image_21 fl_X11_65 hf (fun v14 hf => ?_)
        refine E_iload_n (pc := 24) dX11_image_24 rfl ?_
        refine E_new2 (pc := 25) dX11_image_25 nl_X11_49 hf (fun a15 μ16 hf => ?_)
        refine E_dup (pc := 28) dX11_image_28 rfl ?_
        refine E_aload_n (pc := 29) dX11_image_29 rfl ?_
        refine E_getR (pc := 30) dX11_image_30 fl_X11_58 hf (fun v17 hf => ?_)
        refine E_getR (pc := 33) dX11_image_33 fl_X11_122 hf (fun v18 hf => ?_)
        refine E_Iv (pc := 36) (d2 := D_X7_init) [.ref v18] dX11_image_36 ml_X11_55 mf_X7_init ii_X7_init rfl rfl (by decide) (Nat.le_of_ble_eq_true rfl) (Nat.le_of_ble_eq_true rfl) rfl (fun _ h => f_X7_init_ok h) hf (fun μ19 hf => ?_)
        refine E_aast (pc := 39) dX11_image_39 (by decide) hf (fun μ20 hf => ?_)
        refine E_aload_n (pc := 40) dX11_image_40 rfl ?_
        refine E_getR (pc := 41) dX11_image_41 fl_X11_65 hf (fun v21 hf => ?_)
        refine E_iload_n (pc := 44) dX11_image_44 rfl ?_
        refine E_aald (pc := 45) dX11_image_45 (by decide) hf (fun o22 hf => ?_)
        refine E_unq hf (fun a23 hf => ?_)
        refine E_aload_n (pc := 46) dX11_image_46 rfl ?_
        refine E_getR (pc := 47) dX11_image_47 fl_X11_58 hf (fun v24 hf => ?_)
        refine E_Vv (pc := 50) (d2 := D_X7_copyFrom) (ci := 7) [.ref v24] dX11_image_50 ml_X11_344 mf_X7_copyFrom im_X7_copyFrom rfl rfl rfl (by decide) (Nat.le_of_ble_eq_true rfl) (Nat.le_of_ble_eq_true rfl) rfl (fun _ h => f_X7_copyFrom_ok h) hf (fun μ25 hf => ?_)
        refine E_aload_n (pc := 53) dX11_image_53 rfl ?_
        refine E_getR (pc := 54) dX11_image_54 fl_X11_58 hf (fun v26 hf => ?_)
        refine E_getI (pc := 57) dX11_image_57 fl_X11_200 hf (fun v27 hf => ?_)
        refine E_Si (pc := 60) (d2 := D_J6_bitCount_0f7a4) [.int v27] dX11_image_60 ml_X11_312 mf_J6_bitCount_0f7a4 st_J6_bitCount_0f7a4 rfl (by decide) (Nat.le_of_ble_eq_true rfl) (Nat.le_of_ble_eq_true rfl) rfl (fun _ _ h => f_J6_bitCount_0f7a4_ok h) hf (fun v29 μ28 hf => ?_)
        exact E_iret (pc := 63) dX11_image_63 rfl hf
      · refine E_aload_n (pc := 40) dX11_image_40 rfl ?_
        refine E_getR (pc := 41) dX11_image_41 fl_X11_65 hf (fun v5 hf => ?_)
        refine E_iload_n (pc := 44) dX11_image_44 rfl ?_
        refine E_aald (pc := 45) dX11_image_45 (by decide) hf (fun o6 hf => ?_)
        refine E_unq hf (fun a7 hf => ?_)
        refine E_aload_n (pc := 46) dX11_image_46 rfl ?_
        refine E_getR (pc := 47) dX11_image_47 fl_X11_58 hf (fun v8 hf => ?_)
        refine E_Vv (pc := 50) (d2 := D_X7_copyFrom) (ci := 7) [.ref v8] dX11_image_50 ml_X11_344 mf_X7_copyFrom im_X7_copyFrom rfl rfl rfl (by decide) (Nat.le_of_ble_eq_true rfl) (Nat.le_of_ble_eq_true rfl) rfl (fun _ h => f_X7_copyFrom_ok h) hf (fun μ9 hf => ?_)
        refine E_aload_n (pc := 53) dX11_image_53 rfl ?_
        refine E_getR (pc := 54) dX11_image_54 fl_X11_58 hf (fun v10 hf => ?_)
        refine E_getI (pc := 57) dX11_image_57 fl_X11_200 hf (fun v11 hf => ?_)
        refine E_Si (pc := 60) (d2 := D_J6_bitCount_0f7a4) [.int v11] dX11_image_60 ml_X11_312 mf_J6_bitCount_0f7a4 st_J6_bitCount_0f7a4 rfl (by decide) (Nat.le_of_ble_eq_true rfl) (Nat.le_of_ble_eq_true rfl) rfl (fun _ _ h => f_J6_bitCount_0f7a4_ok h) hf (fun v13 μ12 hf => ?_)
        exact E_iret (pc := 63) dX11_image_63 rfl hf
    · refine E_iconst (pc := 9) (v := (-1 : Int32)) dX11_image_9 (by decide) ?_
      exact E_iret (pc := 10) dX11_image_10 rfl hf
theorem dX11_back_0 : decode cX11_back 0 = .ok (.iload_n 1, 1) := by decide +kernel
theorem dX11_back_1 : decode cX11_back 1 = .ok (.ifCond .lt 17, 3) := by decide +kernel
theorem dX11_back_4 : decode cX11_back 4 = .ok (.iload_n 1, 1) := by decide +kernel
theorem dX11_back_5 : decode cX11_back 5 = .ok (.iconst 4, 1) := by decide +kernel
theorem dX11_back_6 : decode cX11_back 6 = .ok (.if_icmp .ge 12, 3) := by decide +kernel
theorem dX11_back_9 : decode cX11_back 9 = .ok (.aload_n 0, 1) := by decide +kernel
theorem dX11_back_10 : decode cX11_back 10 = .ok (.getfield 65, 3) := by decide +kernel
theorem dX11_back_13 : decode cX11_back 13 = .ok (.iload_n 1, 1) := by decide +kernel
theorem dX11_back_14 : decode cX11_back 14 = .ok (.aaload, 1) := by decide +kernel
theorem dX11_back_15 : decode cX11_back 15 = .ok (.ifnonnull 5, 3) := by decide +kernel
theorem dX11_back_18 : decode cX11_back 18 = .ok (.iconst (-1), 1) := by decide +kernel
theorem dX11_back_19 : decode cX11_back 19 = .ok (.ireturn, 1) := by decide +kernel
theorem dX11_back_20 : decode cX11_back 20 = .ok (.aload_n 0, 1) := by decide +kernel
theorem dX11_back_21 : decode cX11_back 21 = .ok (.getfield 58, 3) := by decide +kernel
theorem dX11_back_24 : decode cX11_back 24 = .ok (.aload_n 0, 1) := by decide +kernel
theorem dX11_back_25 : decode cX11_back 25 = .ok (.getfield 65, 3) := by decide +kernel
theorem dX11_back_28 : decode cX11_back 28 = .ok (.iload_n 1, 1) := by decide +kernel
theorem dX11_back_29 : decode cX11_back 29 = .ok (.aaload, 1) := by decide +kernel
theorem dX11_back_30 : decode cX11_back 30 = .ok (.invokevirtual 344, 3) := by decide +kernel
theorem dX11_back_33 : decode cX11_back 33 = .ok (.aload_n 0, 1) := by decide +kernel
theorem dX11_back_34 : decode cX11_back 34 = .ok (.getfield 58, 3) := by decide +kernel
theorem dX11_back_37 : decode cX11_back 37 = .ok (.getfield 200, 3) := by decide +kernel
theorem dX11_back_40 : decode cX11_back 40 = .ok (.invokestatic 312, 3) := by decide +kernel
theorem dX11_back_43 : decode cX11_back 43 = .ok (.ireturn, 1) := by decide +kernel
abbrev D_X11_back : Nat := 2
set_option maxRecDepth 100000 in
def f_X11_back (μ0 : Mm) (a1 : Nat) (x2 : Int32) : Option (Int32 × Mm) :=
 (if x2 < 0 then
    (some ((-1 : Int32), μ0))
    else
    (if (4 : Int32) ≤ x2 then
    (some ((-1 : Int32), μ0))
    else
    ((gR μ0 a1 11 8).bind fun v3 =>
    ((aR μ0 v3 5 x2).bind fun o4 =>
    (if o4 = none then
    (some ((-1 : Int32), μ0))
    else
    ((gR μ0 a1 11 6).bind fun v5 =>
    ((gR μ0 a1 11 8).bind fun v6 =>
    ((aR μ0 v6 5 x2).bind fun o7 =>
    ((o7).bind fun a8 =>
    ((ob μ0 v5 7).bind fun _ =>
    ((f_X7_copyFrom μ0 v5 a8).bind fun μ9 =>
    ((gR μ9 a1 11 6).bind fun v10 =>
    ((gI μ9 v10 7 3).bind fun v11 =>
    (bd (f_J6_bitCount_0f7a4 μ9 v11) fun v13 μ12 =>
    (some (v13, μ12))))))))))))))))
set_option maxHeartbeats 4000000 in
set_option maxRecDepth 100000 in
theorem f_X11_back_ok {l : Launch} {G : GG} {μ0 : Mm} {a1 : Nat} {x2 : Int32} {r : Int32} {μ' : Mm} (hf : f_X11_back μ0 a1 x2 = some (r, μ')) : EvM l G D_X11_back yX11_back cX11_back 2 (some .int) [.ref a1, .int x2] μ0 (some (.int r)) μ' := by
  show Ev l G D_X11_back yX11_back cX11_back 2 (some .int) 0 [(0, .ref a1), (1, .int x2)] [] μ0 (some (.int r)) μ'
  unfold f_X11_back at hf
  refine E_iload_n (pc := 0) dX11_back_0 rfl ?_
  refine E_if_lt (pc := 1) (tgt := 18) dX11_back_1 (by decide) hf (fun hf => ?_) (fun hf => ?_)
  · refine E_iconst (pc := 18) (v := (-1 : Int32)) dX11_back_18 (by decide) ?_
    exact E_iret (pc := 19) dX11_back_19 rfl hf
  · refine E_iload_n (pc := 4) dX11_back_4 rfl ?_
    refine E_iconst (pc := 5) (v := (4 : Int32)) dX11_back_5 (by decide) ?_
    refine E_icmp_ge (pc := 6) (tgt := 18) dX11_back_6 (by decide) hf (fun hf => ?_) (fun hf => ?_)
    · refine E_iconst (pc := 18) (v := (-1 : Int32)) dX11_back_18 (by decide) ?_
      exact E_iret (pc := 19) dX11_back_19 rfl hf
    · refine E_aload_n (pc := 9) dX11_back_9 rfl ?_
      refine E_getR (pc := 10) dX11_back_10 fl_X11_65 hf (fun v3 hf => ?_)
      refine E_iload_n (pc := 13) dX11_back_13 rfl ?_
      refine E_aald (pc := 14) dX11_back_14 (by decide) hf (fun o4 hf => ?_)
      refine E_ifnn (pc := 15) (tgt := 20) dX11_back_15 (by decide) hf (fun hf => ?_) (fun hf => ?_)
      · refine E_iconst (pc := 18) (v := (-1 : Int32)) dX11_back_18 (by decide) ?_
        exact E_iret (pc := 19) dX11_back_19 rfl hf
      · refine E_aload_n (pc := 20) dX11_back_20 rfl ?_
        refine E_getR (pc := 21) dX11_back_21 fl_X11_58 hf (fun v5 hf => ?_)
        refine E_aload_n (pc := 24) dX11_back_24 rfl ?_
        refine E_getR (pc := 25) dX11_back_25 fl_X11_65 hf (fun v6 hf => ?_)
        refine E_iload_n (pc := 28) dX11_back_28 rfl ?_
        refine E_aald (pc := 29) dX11_back_29 (by decide) hf (fun o7 hf => ?_)
        refine E_unq hf (fun a8 hf => ?_)
        refine E_Vv (pc := 30) (d2 := D_X7_copyFrom) (ci := 7) [.ref a8] dX11_back_30 ml_X11_344 mf_X7_copyFrom im_X7_copyFrom rfl rfl rfl (by decide) (Nat.le_of_ble_eq_true rfl) (Nat.le_of_ble_eq_true rfl) rfl (fun _ h => f_X7_copyFrom_ok h) hf (fun μ9 hf => ?_)
        refine E_aload_n (pc := 33) dX11_back_33 rfl ?_
        refine E_getR (pc := 34) dX11_back_34 fl_X11_58 hf (fun v10 hf => ?_)
        refine E_getI (pc := 37) dX11_back_37 fl_X11_200 hf (fun v11 hf => ?_)
        refine E_Si (pc := 40) (d2 := D_J6_bitCount_0f7a4) [.int v11] dX11_back_40 ml_X11_312 mf_J6_bitCount_0f7a4 st_J6_bitCount_0f7a4 rfl (by decide) (Nat.le_of_ble_eq_true rfl) (Nat.le_of_ble_eq_true rfl) rfl (fun _ _ h => f_J6_bitCount_0f7a4_ok h) hf (fun v13 μ12 hf => ?_)
        exact E_iret (pc := 43) dX11_back_43 rfl hf
