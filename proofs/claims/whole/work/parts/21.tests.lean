theorem dX6_readFact_0 : decode cX6_readFact 0 = .ok (.aload_n 0, 1) := by decide +kernel
theorem dX6_readFact_1 : decode cX6_readFact 1 = .ok (.getfield 37, 3) := by decide +kernel
theorem dX6_readFact_4 : decode cX6_readFact 4 = .ok (.invokevirtual 56, 3) := by decide +kernel
theorem dX6_readFact_7 : decode cX6_readFact 7 = .ok (.istore_n 2, 1) := by decide +kernel
theorem dX6_readFact_8 : decode cX6_readFact 8 = .ok (.aload_n 0, 1) := by decide +kernel
theorem dX6_readFact_9 : decode cX6_readFact 9 = .ok (.getfield 37, 3) := by decide +kernel
theorem dX6_readFact_12 : decode cX6_readFact 12 = .ok (.bipush 91, 2) := by decide +kernel
theorem dX6_readFact_14 : decode cX6_readFact 14 = .ok (.invokevirtual 97, 3) := by decide +kernel
theorem dX6_readFact_17 : decode cX6_readFact 17 = .ok (.istore_n 3, 1) := by decide +kernel
theorem dX6_readFact_18 : decode cX6_readFact 18 = .ok (.iload_n 3, 1) := by decide +kernel
theorem dX6_readFact_19 : decode cX6_readFact 19 = .ok (.ifCond .ne 19, 3) := by decide +kernel
theorem dX6_readFact_22 : decode cX6_readFact 22 = .ok (.aload_n 0, 1) := by decide +kernel
theorem dX6_readFact_23 : decode cX6_readFact 23 = .ok (.getfield 37, 3) := by decide +kernel
theorem dX6_readFact_26 : decode cX6_readFact 26 = .ok (.ldc 101, 2) := by decide +kernel
theorem dX6_readFact_28 : decode cX6_readFact 28 = .ok (.invokevirtual 77, 3) := by decide +kernel
theorem dX6_readFact_31 : decode cX6_readFact 31 = .ok (.ifCond .eq 7, 3) := by decide +kernel
theorem dX6_readFact_34 : decode cX6_readFact 34 = .ok (.iconst 1, 1) := by decide +kernel
theorem dX6_readFact_35 : decode cX6_readFact 35 = .ok (.goto 4, 3) := by decide +kernel
theorem dX6_readFact_38 : decode cX6_readFact 38 = .ok (.iconst 0, 1) := by decide +kernel
theorem dX6_readFact_39 : decode cX6_readFact 39 = .ok (.istore 4, 2) := by decide +kernel
theorem dX6_readFact_41 : decode cX6_readFact 41 = .ok (.iload_n 3, 1) := by decide +kernel
theorem dX6_readFact_42 : decode cX6_readFact 42 = .ok (.ifCond .ne 8, 3) := by decide +kernel
theorem dX6_readFact_45 : decode cX6_readFact 45 = .ok (.iload 4, 2) := by decide +kernel
theorem dX6_readFact_47 : decode cX6_readFact 47 = .ok (.ifCond .eq 19, 3) := by decide +kernel
theorem dX6_readFact_50 : decode cX6_readFact 50 = .ok (.iload_n 1, 1) := by decide +kernel
theorem dX6_readFact_51 : decode cX6_readFact 51 = .ok (.bipush 10, 2) := by decide +kernel
theorem dX6_readFact_53 : decode cX6_readFact 53 = .ok (.if_icmp .lt 13, 3) := by decide +kernel
theorem dX6_readFact_56 : decode cX6_readFact 56 = .ok (.aload_n 0, 1) := by decide +kernel
theorem dX6_readFact_57 : decode cX6_readFact 57 = .ok (.getfield 37, 3) := by decide +kernel
theorem dX6_readFact_60 : decode cX6_readFact 60 = .ok (.iload_n 2, 1) := by decide +kernel
theorem dX6_readFact_61 : decode cX6_readFact 61 = .ok (.iconst 2, 1) := by decide +kernel
theorem dX6_readFact_62 : decode cX6_readFact 62 = .ok (.invokevirtual 66, 3) := by decide +kernel
theorem dX6_readFact_65 : decode cX6_readFact 65 = .ok (.return_, 1) := by decide +kernel
theorem dX6_readFact_66 : decode cX6_readFact 66 = .ok (.iload_n 3, 1) := by decide +kernel
theorem dX6_readFact_67 : decode cX6_readFact 67 = .ok (.ifCond .eq 40, 3) := by decide +kernel
theorem dX6_readFact_70 : decode cX6_readFact 70 = .ok (.aload_n 0, 1) := by decide +kernel
theorem dX6_readFact_71 : decode cX6_readFact 71 = .ok (.iload_n 1, 1) := by decide +kernel
theorem dX6_readFact_72 : decode cX6_readFact 72 = .ok (.iconst 1, 1) := by decide +kernel
theorem dX6_readFact_73 : decode cX6_readFact 73 = .ok (.iadd, 1) := by decide +kernel
theorem dX6_readFact_74 : decode cX6_readFact 74 = .ok (.invokevirtual 81, 3) := by decide +kernel
theorem dX6_readFact_77 : decode cX6_readFact 77 = .ok (.aload_n 0, 1) := by decide +kernel
theorem dX6_readFact_78 : decode cX6_readFact 78 = .ok (.getfield 37, 3) := by decide +kernel
theorem dX6_readFact_81 : decode cX6_readFact 81 = .ok (.bipush 93, 2) := by decide +kernel
theorem dX6_readFact_83 : decode cX6_readFact 83 = .ok (.invokevirtual 97, 3) := by decide +kernel
theorem dX6_readFact_86 : decode cX6_readFact 86 = .ok (.ifCond .ne 62, 3) := by decide +kernel
theorem dX6_readFact_89 : decode cX6_readFact 89 = .ok (.aload_n 0, 1) := by decide +kernel
theorem dX6_readFact_90 : decode cX6_readFact 90 = .ok (.getfield 37, 3) := by decide +kernel
theorem dX6_readFact_93 : decode cX6_readFact 93 = .ok (.aload_n 0, 1) := by decide +kernel
theorem dX6_readFact_94 : decode cX6_readFact 94 = .ok (.getfield 37, 3) := by decide +kernel
theorem dX6_readFact_97 : decode cX6_readFact 97 = .ok (.getfield 103, 3) := by decide +kernel
theorem dX6_readFact_100 : decode cX6_readFact 100 = .ok (.iconst 0, 1) := by decide +kernel
theorem dX6_readFact_101 : decode cX6_readFact 101 = .ok (.invokevirtual 66, 3) := by decide +kernel
theorem dX6_readFact_104 : decode cX6_readFact 104 = .ok (.goto 44, 3) := by decide +kernel
theorem dX6_readFact_107 : decode cX6_readFact 107 = .ok (.iload 4, 2) := by decide +kernel
theorem dX6_readFact_109 : decode cX6_readFact 109 = .ok (.ifCond .eq 19, 3) := by decide +kernel
theorem dX6_readFact_112 : decode cX6_readFact 112 = .ok (.aload_n 0, 1) := by decide +kernel
theorem dX6_readFact_113 : decode cX6_readFact 113 = .ok (.iload_n 1, 1) := by decide +kernel
theorem dX6_readFact_114 : decode cX6_readFact 114 = .ok (.iconst 1, 1) := by decide +kernel
theorem dX6_readFact_115 : decode cX6_readFact 115 = .ok (.iadd, 1) := by decide +kernel
theorem dX6_readFact_116 : decode cX6_readFact 116 = .ok (.invokevirtual 85, 3) := by decide +kernel
theorem dX6_readFact_119 : decode cX6_readFact 119 = .ok (.aload_n 0, 1) := by decide +kernel
theorem dX6_readFact_120 : decode cX6_readFact 120 = .ok (.ldc 106, 2) := by decide +kernel
theorem dX6_readFact_122 : decode cX6_readFact 122 = .ok (.invokevirtual 91, 3) := by decide +kernel
theorem dX6_readFact_125 : decode cX6_readFact 125 = .ok (.goto 23, 3) := by decide +kernel
theorem dX6_readFact_128 : decode cX6_readFact 128 = .ok (.aload_n 0, 1) := by decide +kernel
theorem dX6_readFact_129 : decode cX6_readFact 129 = .ok (.invokevirtual 72, 3) := by decide +kernel
theorem dX6_readFact_132 : decode cX6_readFact 132 = .ok (.aload_n 0, 1) := by decide +kernel
theorem dX6_readFact_133 : decode cX6_readFact 133 = .ok (.invokevirtual 107, 3) := by decide +kernel
theorem dX6_readFact_136 : decode cX6_readFact 136 = .ok (.istore 5, 2) := by decide +kernel
theorem dX6_readFact_138 : decode cX6_readFact 138 = .ok (.aload_n 0, 1) := by decide +kernel
theorem dX6_readFact_139 : decode cX6_readFact 139 = .ok (.invokevirtual 72, 3) := by decide +kernel
theorem dX6_readFact_142 : decode cX6_readFact 142 = .ok (.aload_n 0, 1) := by decide +kernel
theorem dX6_readFact_143 : decode cX6_readFact 143 = .ok (.iload 5, 2) := by decide +kernel
theorem dX6_readFact_145 : decode cX6_readFact 145 = .ok (.invokevirtual 91, 3) := by decide +kernel
theorem dX6_readFact_148 : decode cX6_readFact 148 = .ok (.return_, 1) := by decide +kernel
set_option maxRecDepth 100000 in
def o_X6_readFact (S_X6_readTest : Mm → Nat → Int32 → Option Mm) (S_X6_readFact : Mm → Nat → Int32 → Option Mm) (μ0 : Mm) (a1 : Nat) (x2 : Int32) : Option Mm :=
 ((gR μ0 a1 6 0).bind fun v3 =>
    ((ob μ0 v3 9).bind fun _ =>
    (bd (f_X9_skipBlanks μ0 v3) fun v5 μ4 =>
    (nm v5 fun x6 =>
    ((gR μ4 a1 6 0).bind fun v7 =>
    ((ob μ4 v7 9).bind fun _ =>
    (bd (f_X9_takesByte μ4 v7 (91 : Int32)) fun v9 μ8 =>
    (nm v9 fun x10 =>
    (if x10 = 0 then
    ((gR μ8 a1 6 0).bind fun v11 =>
    ((ob μ8 v11 9).bind fun _ =>
    (bd (f_X9_takesWord μ8 v11 (6 : Nat)) fun v13 μ12 =>
    (if v13 = 0 then
    (nm (0 : Int32) fun x14 =>
    (if x10 = 0 then
    (if x14 = 0 then
    (if x10 = 0 then
    (if x14 = 0 then
    ((ob μ12 a1 6).bind fun _ =>
    ((f_X6_readSum μ12 a1).bind fun μ15 =>
    ((ob μ15 a1 6).bind fun _ =>
    (bd (f_X6_readSign μ15 a1) fun v17 μ16 =>
    (nm v17 fun x18 =>
    ((ob μ16 a1 6).bind fun _ =>
    ((f_X6_readSum μ16 a1).bind fun μ19 =>
    ((ob μ19 a1 6).bind fun _ =>
    ((f_X6_emit μ19 a1 x18).bind fun μ20 =>
    (some μ20))))))))))
    else
    ((ob μ12 a1 6).bind fun _ =>
    ((S_X6_readFact μ12 a1 (x2 + (1 : Int32))).bind fun μ21 =>
    ((ob μ21 a1 6).bind fun _ =>
    ((f_X6_emit μ21 a1 (100012 : Int32)).bind fun μ22 =>
    (some μ22))))))
    else
    ((ob μ12 a1 6).bind fun _ =>
    ((S_X6_readTest μ12 a1 (x2 + (1 : Int32))).bind fun μ23 =>
    ((gR μ23 a1 6 0).bind fun v24 =>
    ((ob μ23 v24 9).bind fun _ =>
    (bd (f_X9_takesByte μ23 v24 (93 : Int32)) fun v26 μ25 =>
    (if v26 = 0 then
    ((gR μ25 a1 6 0).bind fun v27 =>
    ((gR μ25 a1 6 0).bind fun v28 =>
    ((gI μ25 v28 9 2).bind fun v29 =>
    ((ob μ25 v27 9).bind fun _ =>
    ((f_X9_fail μ25 v27 v29 (0 : Int32)).bind fun μ30 =>
    (some μ30))))))
    else
    (some μ25))))))))
    else
    (if x2 < (10 : Int32) then
    (if x10 = 0 then
    (if x14 = 0 then
    ((ob μ12 a1 6).bind fun _ =>
    ((f_X6_readSum μ12 a1).bind fun μ31 =>
    ((ob μ31 a1 6).bind fun _ =>
    (bd (f_X6_readSign μ31 a1) fun v33 μ32 =>
    (nm v33 fun x34 =>
    ((ob μ32 a1 6).bind fun _ =>
    ((f_X6_readSum μ32 a1).bind fun μ35 =>
    ((ob μ35 a1 6).bind fun _ =>
    ((f_X6_emit μ35 a1 x34).bind fun μ36 =>
    (some μ36))))))))))
    else
    ((ob μ12 a1 6).bind fun _ =>
    ((S_X6_readFact μ12 a1 (x2 + (1 : Int32))).bind fun μ37 =>
    ((ob μ37 a1 6).bind fun _ =>
    ((f_X6_emit μ37 a1 (100012 : Int32)).bind fun μ38 =>
    (some μ38))))))
    else
    ((ob μ12 a1 6).bind fun _ =>
    ((S_X6_readTest μ12 a1 (x2 + (1 : Int32))).bind fun μ39 =>
    ((gR μ39 a1 6 0).bind fun v40 =>
    ((ob μ39 v40 9).bind fun _ =>
    (bd (f_X9_takesByte μ39 v40 (93 : Int32)) fun v42 μ41 =>
    (if v42 = 0 then
    ((gR μ41 a1 6 0).bind fun v43 =>
    ((gR μ41 a1 6 0).bind fun v44 =>
    ((gI μ41 v44 9 2).bind fun v45 =>
    ((ob μ41 v43 9).bind fun _ =>
    ((f_X9_fail μ41 v43 v45 (0 : Int32)).bind fun μ46 =>
    (some μ46))))))
    else
    (some μ41))))))))
    else
    ((gR μ12 a1 6 0).bind fun v47 =>
    ((ob μ12 v47 9).bind fun _ =>
    ((f_X9_fail μ12 v47 x6 (2 : Int32)).bind fun μ48 =>
    (some μ48))))))
    else
    (if x2 < (10 : Int32) then
    (if x10 = 0 then
    (if x14 = 0 then
    ((ob μ12 a1 6).bind fun _ =>
    ((f_X6_readSum μ12 a1).bind fun μ49 =>
    ((ob μ49 a1 6).bind fun _ =>
    (bd (f_X6_readSign μ49 a1) fun v51 μ50 =>
    (nm v51 fun x52 =>
    ((ob μ50 a1 6).bind fun _ =>
    ((f_X6_readSum μ50 a1).bind fun μ53 =>
    ((ob μ53 a1 6).bind fun _ =>
    ((f_X6_emit μ53 a1 x52).bind fun μ54 =>
    (some μ54))))))))))
    else
    ((ob μ12 a1 6).bind fun _ =>
    ((S_X6_readFact μ12 a1 (x2 + (1 : Int32))).bind fun μ55 =>
    ((ob μ55 a1 6).bind fun _ =>
    ((f_X6_emit μ55 a1 (100012 : Int32)).bind fun μ56 =>
    (some μ56))))))
    else
    ((ob μ12 a1 6).bind fun _ =>
    ((S_X6_readTest μ12 a1 (x2 + (1 : Int32))).bind fun μ57 =>
    ((gR μ57 a1 6 0).bind fun v58 =>
    ((ob μ57 v58 9).bind fun _ =>
    (bd (f_X9_takesByte μ57 v58 (93 : Int32)) fun v60 μ59 =>
    (if v60 = 0 then
    ((gR μ59 a1 6 0).bind fun v61 =>
    ((gR μ59 a1 6 0).bind fun v62 =>
    ((gI μ59 v62 9 2).bind fun v63 =>
    ((ob μ59 v61 9).bind fun _ =>
    ((f_X9_fail μ59 v61 v63 (0 : Int32)).bind fun μ64 =>
    (some μ64))))))
    else
    (some μ59))))))))
    else
    ((gR μ12 a1 6 0).bind fun v65 =>
    ((ob μ12 v65 9).bind fun _ =>
    ((f_X9_fail μ12 v65 x6 (2 : Int32)).bind fun μ66 =>
    (some μ66)))))))
    else
    (nm (1 : Int32) fun x67 =>
    (if x10 = 0 then
    (if x67 = 0 then
    (if x10 = 0 then
    (if x67 = 0 then
    ((ob μ12 a1 6).bind fun _ =>
    ((f_X6_readSum μ12 a1).bind fun μ68 =>
    ((ob μ68 a1 6).bind fun _ =>
    (bd (f_X6_readSign μ68 a1) fun v70 μ69 =>
    (nm v70 fun x71 =>
    ((ob μ69 a1 6).bind fun _ =>
    ((f_X6_readSum μ69 a1).bind fun μ72 =>
    ((ob μ72 a1 6).bind fun _ =>
    ((f_X6_emit μ72 a1 x71).bind fun μ73 =>
    (some μ73))))))))))
    else
    ((ob μ12 a1 6).bind fun _ =>
    ((S_X6_readFact μ12 a1 (x2 + (1 : Int32))).bind fun μ74 =>
    ((ob μ74 a1 6).bind fun _ =>
    ((f_X6_emit μ74 a1 (100012 : Int32)).bind fun μ75 =>
    (some μ75))))))
    else
    ((ob μ12 a1 6).bind fun _ =>
    ((S_X6_readTest μ12 a1 (x2 + (1 : Int32))).bind fun μ76 =>
    ((gR μ76 a1 6 0).bind fun v77 =>
    ((ob μ76 v77 9).bind fun _ =>
    (bd (f_X9_takesByte μ76 v77 (93 : Int32)) fun v79 μ78 =>
    (if v79 = 0 then
    ((gR μ78 a1 6 0).bind fun v80 =>
    ((gR μ78 a1 6 0).bind fun v81 =>
    ((gI μ78 v81 9 2).bind fun v82 =>
    ((ob μ78 v80 9).bind fun _ =>
    ((f_X9_fail μ78 v80 v82 (0 : Int32)).bind fun μ83 =>
    (some μ83))))))
    else
    (some μ78))))))))
    else
    (if x2 < (10 : Int32) then
    (if x10 = 0 then
    (if x67 = 0 then
    ((ob μ12 a1 6).bind fun _ =>
    ((f_X6_readSum μ12 a1).bind fun μ84 =>
    ((ob μ84 a1 6).bind fun _ =>
    (bd (f_X6_readSign μ84 a1) fun v86 μ85 =>
    (nm v86 fun x87 =>
    ((ob μ85 a1 6).bind fun _ =>
    ((f_X6_readSum μ85 a1).bind fun μ88 =>
    ((ob μ88 a1 6).bind fun _ =>
    ((f_X6_emit μ88 a1 x87).bind fun μ89 =>
    (some μ89))))))))))
    else
    ((ob μ12 a1 6).bind fun _ =>
    ((S_X6_readFact μ12 a1 (x2 + (1 : Int32))).bind fun μ90 =>
    ((ob μ90 a1 6).bind fun _ =>
    ((f_X6_emit μ90 a1 (100012 : Int32)).bind fun μ91 =>
    (some μ91))))))
    else
    ((ob μ12 a1 6).bind fun _ =>
    ((S_X6_readTest μ12 a1 (x2 + (1 : Int32))).bind fun μ92 =>
    ((gR μ92 a1 6 0).bind fun v93 =>
    ((ob μ92 v93 9).bind fun _ =>
    (bd (f_X9_takesByte μ92 v93 (93 : Int32)) fun v95 μ94 =>
    (if v95 = 0 then
    ((gR μ94 a1 6 0).bind fun v96 =>
    ((gR μ94 a1 6 0).bind fun v97 =>
    ((gI μ94 v97 9 2).bind fun v98 =>
    ((ob μ94 v96 9).bind fun _ =>
    ((f_X9_fail μ94 v96 v98 (0 : Int32)).bind fun μ99 =>
    (some μ99))))))
    else
    (some μ94))))))))
    else
    ((gR μ12 a1 6 0).bind fun v100 =>
    ((ob μ12 v100 9).bind fun _ =>
    ((f_X9_fail μ12 v100 x6 (2 : Int32)).bind fun μ101 =>
    (some μ101))))))
    else
    (if x2 < (10 : Int32) then
    (if x10 = 0 then
    (if x67 = 0 then
    ((ob μ12 a1 6).bind fun _ =>
    ((f_X6_readSum μ12 a1).bind fun μ102 =>
    ((ob μ102 a1 6).bind fun _ =>
    (bd (f_X6_readSign μ102 a1) fun v104 μ103 =>
    (nm v104 fun x105 =>
    ((ob μ103 a1 6).bind fun _ =>
    ((f_X6_readSum μ103 a1).bind fun μ106 =>
    ((ob μ106 a1 6).bind fun _ =>
    ((f_X6_emit μ106 a1 x105).bind fun μ107 =>
    (some μ107))))))))))
    else
    ((ob μ12 a1 6).bind fun _ =>
    ((S_X6_readFact μ12 a1 (x2 + (1 : Int32))).bind fun μ108 =>
    ((ob μ108 a1 6).bind fun _ =>
    ((f_X6_emit μ108 a1 (100012 : Int32)).bind fun μ109 =>
    (some μ109))))))
    else
    ((ob μ12 a1 6).bind fun _ =>
    ((S_X6_readTest μ12 a1 (x2 + (1 : Int32))).bind fun μ110 =>
    ((gR μ110 a1 6 0).bind fun v111 =>
    ((ob μ110 v111 9).bind fun _ =>
    (bd (f_X9_takesByte μ110 v111 (93 : Int32)) fun v113 μ112 =>
    (if v113 = 0 then
    ((gR μ112 a1 6 0).bind fun v114 =>
    ((gR μ112 a1 6 0).bind fun v115 =>
    ((gI μ112 v115 9 2).bind fun v116 =>
    ((ob μ112 v114 9).bind fun _ =>
    ((f_X9_fail μ112 v114 v116 (0 : Int32)).bind fun μ117 =>
    (some μ117))))))
    else
    (some μ112))))))))
    else
    ((gR μ12 a1 6 0).bind fun v118 =>
    ((ob μ12 v118 9).bind fun _ =>
    ((f_X9_fail μ12 v118 x6 (2 : Int32)).bind fun μ119 =>
    (some μ119)))))))))))
    else
    (nm (0 : Int32) fun x120 =>
    (if x10 = 0 then
    (if x120 = 0 then
    (if x10 = 0 then
    (if x120 = 0 then
    ((ob μ8 a1 6).bind fun _ =>
    ((f_X6_readSum μ8 a1).bind fun μ121 =>
    ((ob μ121 a1 6).bind fun _ =>
    (bd (f_X6_readSign μ121 a1) fun v123 μ122 =>
    (nm v123 fun x124 =>
    ((ob μ122 a1 6).bind fun _ =>
    ((f_X6_readSum μ122 a1).bind fun μ125 =>
    ((ob μ125 a1 6).bind fun _ =>
    ((f_X6_emit μ125 a1 x124).bind fun μ126 =>
    (some μ126))))))))))
    else
    ((ob μ8 a1 6).bind fun _ =>
    ((S_X6_readFact μ8 a1 (x2 + (1 : Int32))).bind fun μ127 =>
    ((ob μ127 a1 6).bind fun _ =>
    ((f_X6_emit μ127 a1 (100012 : Int32)).bind fun μ128 =>
    (some μ128))))))
    else
    ((ob μ8 a1 6).bind fun _ =>
    ((S_X6_readTest μ8 a1 (x2 + (1 : Int32))).bind fun μ129 =>
    ((gR μ129 a1 6 0).bind fun v130 =>
    ((ob μ129 v130 9).bind fun _ =>
    (bd (f_X9_takesByte μ129 v130 (93 : Int32)) fun v132 μ131 =>
    (if v132 = 0 then
    ((gR μ131 a1 6 0).bind fun v133 =>
    ((gR μ131 a1 6 0).bind fun v134 =>
    ((gI μ131 v134 9 2).bind fun v135 =>
    ((ob μ131 v133 9).bind fun _ =>
    ((f_X9_fail μ131 v133 v135 (0 : Int32)).bind fun μ136 =>
    (some μ136))))))
    else
    (some μ131))))))))
    else
    (if x2 < (10 : Int32) then
    (if x10 = 0 then
    (if x120 = 0 then
    ((ob μ8 a1 6).bind fun _ =>
    ((f_X6_readSum μ8 a1).bind fun μ137 =>
    ((ob μ137 a1 6).bind fun _ =>
    (bd (f_X6_readSign μ137 a1) fun v139 μ138 =>
    (nm v139 fun x140 =>
    ((ob μ138 a1 6).bind fun _ =>
    ((f_X6_readSum μ138 a1).bind fun μ141 =>
    ((ob μ141 a1 6).bind fun _ =>
    ((f_X6_emit μ141 a1 x140).bind fun μ142 =>
    (some μ142))))))))))
    else
    ((ob μ8 a1 6).bind fun _ =>
    ((S_X6_readFact μ8 a1 (x2 + (1 : Int32))).bind fun μ143 =>
    ((ob μ143 a1 6).bind fun _ =>
    ((f_X6_emit μ143 a1 (100012 : Int32)).bind fun μ144 =>
    (some μ144))))))
    else
    ((ob μ8 a1 6).bind fun _ =>
    ((S_X6_readTest μ8 a1 (x2 + (1 : Int32))).bind fun μ145 =>
    ((gR μ145 a1 6 0).bind fun v146 =>
    ((ob μ145 v146 9).bind fun _ =>
    (bd (f_X9_takesByte μ145 v146 (93 : Int32)) fun v148 μ147 =>
    (if v148 = 0 then
    ((gR μ147 a1 6 0).bind fun v149 =>
    ((gR μ147 a1 6 0).bind fun v150 =>
    ((gI μ147 v150 9 2).bind fun v151 =>
    ((ob μ147 v149 9).bind fun _ =>
    ((f_X9_fail μ147 v149 v151 (0 : Int32)).bind fun μ152 =>
    (some μ152))))))
    else
    (some μ147))))))))
    else
    ((gR μ8 a1 6 0).bind fun v153 =>
    ((ob μ8 v153 9).bind fun _ =>
    ((f_X9_fail μ8 v153 x6 (2 : Int32)).bind fun μ154 =>
    (some μ154))))))
    else
    (if x2 < (10 : Int32) then
    (if x10 = 0 then
    (if x120 = 0 then
    ((ob μ8 a1 6).bind fun _ =>
    ((f_X6_readSum μ8 a1).bind fun μ155 =>
    ((ob μ155 a1 6).bind fun _ =>
    (bd (f_X6_readSign μ155 a1) fun v157 μ156 =>
    (nm v157 fun x158 =>
    ((ob μ156 a1 6).bind fun _ =>
    ((f_X6_readSum μ156 a1).bind fun μ159 =>
    ((ob μ159 a1 6).bind fun _ =>
    ((f_X6_emit μ159 a1 x158).bind fun μ160 =>
    (some μ160))))))))))
    else
    ((ob μ8 a1 6).bind fun _ =>
    ((S_X6_readFact μ8 a1 (x2 + (1 : Int32))).bind fun μ161 =>
    ((ob μ161 a1 6).bind fun _ =>
    ((f_X6_emit μ161 a1 (100012 : Int32)).bind fun μ162 =>
    (some μ162))))))
    else
    ((ob μ8 a1 6).bind fun _ =>
    ((S_X6_readTest μ8 a1 (x2 + (1 : Int32))).bind fun μ163 =>
    ((gR μ163 a1 6 0).bind fun v164 =>
    ((ob μ163 v164 9).bind fun _ =>
    (bd (f_X9_takesByte μ163 v164 (93 : Int32)) fun v166 μ165 =>
    (if v166 = 0 then
    ((gR μ165 a1 6 0).bind fun v167 =>
    ((gR μ165 a1 6 0).bind fun v168 =>
    ((gI μ165 v168 9 2).bind fun v169 =>
    ((ob μ165 v167 9).bind fun _ =>
    ((f_X9_fail μ165 v167 v169 (0 : Int32)).bind fun μ170 =>
    (some μ170))))))
    else
    (some μ165))))))))
    else
    ((gR μ8 a1 6 0).bind fun v171 =>
    ((ob μ8 v171 9).bind fun _ =>
    ((f_X9_fail μ8 v171 x6 (2 : Int32)).bind fun μ172 =>
    (some μ172))))))))))))))))
set_option maxHeartbeats 4000000 in
set_option maxRecDepth 100000 in
theorem o_X6_readFact_ok {l : Launch} {G : GG} {D : Nat} (hD : 40 ≤ D) {S_X6_readTest : Mm → Nat → Int32 → Option Mm} {S_X6_readFact : Mm → Nat → Int32 → Option Mm} {e_X6_readTest : Nat} (q_X6_readTest : e_X6_readTest < D) (h_X6_readTest : ∀ {μ1 : Mm} {z0 z1 : _} {μ2 : _}, S_X6_readTest μ1 z0 z1 = some μ2 → EvM l G e_X6_readTest yX6_readTest cX6_readTest 4 none [.ref z0, .int z1] μ1 none μ2) {e_X6_readFact : Nat} (q_X6_readFact : e_X6_readFact < D) (h_X6_readFact : ∀ {μ1 : Mm} {z0 z1 : _} {μ2 : _}, S_X6_readFact μ1 z0 z1 = some μ2 → EvM l G e_X6_readFact yX6_readFact cX6_readFact 6 none [.ref z0, .int z1] μ1 none μ2) {μ0 : Mm} {a1 : Nat} {x2 : Int32} {μ' : Mm} (hf : o_X6_readFact S_X6_readTest S_X6_readFact μ0 a1 x2 = some μ') : EvM l G D yX6_readFact cX6_readFact 6 none [.ref a1, .int x2] μ0 none μ' := by
  show Ev l G D yX6_readFact cX6_readFact 6 none 0 [(0, .ref a1), (1, .int x2)] [] μ0 none μ'
  unfold o_X6_readFact at hf
  refine E_aload_n (pc := 0) dX6_readFact_0 rfl ?_
  refine E_getR (pc := 1) dX6_readFact_1 fl_X6_37 hf (fun v3 hf => ?_)
  refine E_Vi (pc := 4) (d2 := D_X9_skipBlanks) (ci := 9) [] dX6_readFact_4 ml_X6_56 mf_X9_skipBlanks im_X9_skipBlanks rfl rfl rfl (Nat.lt_of_lt_of_le (by decide : D_X9_skipBlanks < 40) hD) (Nat.le_of_ble_eq_true rfl) (Nat.le_of_ble_eq_true rfl) rfl (fun _ _ h => f_X9_skipBlanks_ok h) hf (fun v5 μ4 hf => ?_)
  refine E_istore_n (pc := 7) (ls' := fun x6 => [(2, .int x6), (0, .ref a1), (1, .int x2)]) dX6_readFact_7 (by decide) (fun _ => rfl) hf (fun x6 hf => ?_)
  refine E_aload_n (pc := 8) dX6_readFact_8 rfl ?_
  refine E_getR (pc := 9) dX6_readFact_9 fl_X6_37 hf (fun v7 hf => ?_)
  refine E_bipush (pc := 12) (v := (91 : Int32)) dX6_readFact_12 (by decide) ?_
  refine E_Vi (pc := 14) (d2 := D_X9_takesByte) (ci := 9) [.int (91 : Int32)] dX6_readFact_14 ml_X6_97 mf_X9_takesByte im_X9_takesByte rfl rfl rfl (Nat.lt_of_lt_of_le (by decide : D_X9_takesByte < 40) hD) (Nat.le_of_ble_eq_true rfl) (Nat.le_of_ble_eq_true rfl) rfl (fun _ _ h => f_X9_takesByte_ok h) hf (fun v9 μ8 hf => ?_)
  refine E_istore_n (pc := 17) (ls' := fun x10 => [(3, .int x10), (2, .int x6), (0, .ref a1), (1, .int x2)]) dX6_readFact_17 (by decide) (fun _ => rfl) hf (fun x10 hf => ?_)
  refine E_iload_n (pc := 18) dX6_readFact_18 rfl ?_
  refine E_if_ne (pc := 19) (tgt := 38) dX6_readFact_19 (by decide) hf (fun hf => ?_) (fun hf => ?_)
  · refine E_aload_n (pc := 22) dX6_readFact_22 rfl ?_
    refine E_getR (pc := 23) dX6_readFact_23 fl_X6_37 hf (fun v11 hf => ?_)
    refine E_ldcS (pc := 26) (6 : Nat) dX6_readFact_26 (by decide) ⟨rfl, rfl⟩ ?_
    refine E_Vi (pc := 28) (d2 := D_X9_takesWord) (ci := 9) [.ref (6 : Nat)] dX6_readFact_28 ml_X6_77 mf_X9_takesWord im_X9_takesWord rfl rfl rfl (Nat.lt_of_lt_of_le (by decide : D_X9_takesWord < 40) hD) (Nat.le_of_ble_eq_true rfl) (Nat.le_of_ble_eq_true rfl) rfl (fun _ _ h => f_X9_takesWord_ok h) hf (fun v13 μ12 hf => ?_)
    refine E_if_eq (pc := 31) (tgt := 38) dX6_readFact_31 (by decide) hf (fun hf => ?_) (fun hf => ?_)
    · refine E_iconst (pc := 38) (v := (0 : Int32)) dX6_readFact_38 (by decide) ?_
      refine E_istore (pc := 39) (ls' := fun x14 => [(4, .int x14), (3, .int x10), (2, .int x6), (0, .ref a1), (1, .int x2)]) dX6_readFact_39 (by decide) (fun _ => rfl) hf (fun x14 hf => ?_)
      refine E_iload_n (pc := 41) dX6_readFact_41 rfl ?_
      refine E_if_ne (pc := 42) (tgt := 50) dX6_readFact_42 (by decide) hf (fun hf => ?_) (fun hf => ?_)
      · refine E_iload (pc := 45) dX6_readFact_45 rfl ?_
        refine E_if_eq (pc := 47) (tgt := 66) dX6_readFact_47 (by decide) hf (fun hf => ?_) (fun hf => ?_)
        · refine E_iload_n (pc := 66) dX6_readFact_66 rfl ?_
          refine E_if_eq (pc := 67) (tgt := 107) dX6_readFact_67 (by decide) hf (fun hf => ?_) (fun hf => ?_)
          · refine E_iload (pc := 107) dX6_readFact_107 rfl ?_
            refine E_if_eq (pc := 109) (tgt := 128) dX6_readFact_109 (by decide) hf (fun hf => ?_) (fun hf => ?_)
            · refine E_aload_n (pc := 128) dX6_readFact_128 rfl ?_
              refine E_Vv (pc := 129) (d2 := D_X6_readSum) (ci := 6) [] dX6_readFact_129 ml_X6_72 mf_X6_readSum im_X6_readSum rfl rfl rfl (Nat.lt_of_lt_of_le (by decide : D_X6_readSum < 40) hD) (Nat.le_of_ble_eq_true rfl) (Nat.le_of_ble_eq_true rfl) rfl (fun _ h => f_X6_readSum_ok h) hf (fun μ15 hf => ?_)
              refine E_aload_n (pc := 132) dX6_readFact_132 rfl ?_
              refine E_Vi (pc := 133) (d2 := D_X6_readSign) (ci := 6) [] dX6_readFact_133 ml_X6_107 mf_X6_readSign im_X6_readSign rfl rfl rfl (Nat.lt_of_lt_of_le (by decide : D_X6_readSign < 40) hD) (Nat.le_of_ble_eq_true rfl) (Nat.le_of_ble_eq_true rfl) rfl (fun _ _ h => f_X6_readSign_ok h) hf (fun v17 μ16 hf => ?_)
              refine E_istore (pc := 136) (ls' := fun x18 => [(5, .int x18), (4, .int x14), (3, .int x10), (2, .int x6), (0, .ref a1), (1, .int x2)]) dX6_readFact_136 (by decide) (fun _ => rfl) hf (fun x18 hf => ?_)
              refine E_aload_n (pc := 138) dX6_readFact_138 rfl ?_
              refine E_Vv (pc := 139) (d2 := D_X6_readSum) (ci := 6) [] dX6_readFact_139 ml_X6_72 mf_X6_readSum im_X6_readSum rfl rfl rfl (Nat.lt_of_lt_of_le (by decide : D_X6_readSum < 40) hD) (Nat.le_of_ble_eq_true rfl) (Nat.le_of_ble_eq_true rfl) rfl (fun _ h => f_X6_readSum_ok h) hf (fun μ19 hf => ?_)
              refine E_aload_n (pc := 142) dX6_readFact_142 rfl ?_
              refine E_iload (pc := 143) dX6_readFact_143 rfl ?_
              refine E_Vv (pc := 145) (d2 := D_X6_emit) (ci := 6) [.int x18] dX6_readFact_145 ml_X6_91 mf_X6_emit im_X6_emit rfl rfl rfl (Nat.lt_of_lt_of_le (by decide : D_X6_emit < 40) hD) (Nat.le_of_ble_eq_true rfl) (Nat.le_of_ble_eq_true rfl) rfl (fun _ h => f_X6_emit_ok h) hf (fun μ20 hf => ?_)
              exact E_vret (pc := 148) dX6_readFact_148 rfl hf
            · refine E_aload_n (pc := 112) dX6_readFact_112 rfl ?_
              refine E_iload_n (pc := 113) dX6_readFact_113 rfl ?_
              refine E_iconst (pc := 114) (v := (1 : Int32)) dX6_readFact_114 (by decide) ?_
              refine E_iadd (pc := 115) dX6_readFact_115 ?_
              refine E_Vv (pc := 116) (d2 := e_X6_readFact) (ci := 6) [.int (x2 + (1 : Int32))] dX6_readFact_116 ml_X6_85 mf_X6_readFact im_X6_readFact rfl rfl rfl q_X6_readFact (Nat.le_of_ble_eq_true rfl) (Nat.le_of_ble_eq_true rfl) rfl (fun _ h => h_X6_readFact h) hf (fun μ21 hf => ?_)
              refine E_aload_n (pc := 119) dX6_readFact_119 rfl ?_
              refine E_ldc (pc := 120) (v := (100012 : Int32)) dX6_readFact_120 co_X6_106 ?_
              refine E_Vv (pc := 122) (d2 := D_X6_emit) (ci := 6) [.int (100012 : Int32)] dX6_readFact_122 ml_X6_91 mf_X6_emit im_X6_emit rfl rfl rfl (Nat.lt_of_lt_of_le (by decide : D_X6_emit < 40) hD) (Nat.le_of_ble_eq_true rfl) (Nat.le_of_ble_eq_true rfl) rfl (fun _ h => f_X6_emit_ok h) hf (fun μ22 hf => ?_)
              refine E_goto (pc := 125) (tgt := 148) dX6_readFact_125 (by decide) ?_
              exact E_vret (pc := 148) dX6_readFact_148 rfl hf
          · refine E_aload_n (pc := 70) dX6_readFact_70 rfl ?_
            refine E_iload_n (pc := 71) dX6_readFact_71 rfl ?_
            refine E_iconst (pc := 72) (v := (1 : Int32)) dX6_readFact_72 (by decide) ?_
            refine E_iadd (pc := 73) dX6_readFact_73 ?_
            refine E_Vv (pc := 74) (d2 := e_X6_readTest) (ci := 6) [.int (x2 + (1 : Int32))] dX6_readFact_74 ml_X6_81 mf_X6_readTest im_X6_readTest rfl rfl rfl q_X6_readTest (Nat.le_of_ble_eq_true rfl) (Nat.le_of_ble_eq_true rfl) rfl (fun _ h => h_X6_readTest h) hf (fun μ23 hf => ?_)
            refine E_aload_n (pc := 77) dX6_readFact_77 rfl ?_
            refine E_getR (pc := 78) dX6_readFact_78 fl_X6_37 hf (fun v24 hf => ?_)
            refine E_bipush (pc := 81) (v := (93 : Int32)) dX6_readFact_81 (by decide) ?_
            refine E_Vi (pc := 83) (d2 := D_X9_takesByte) (ci := 9) [.int (93 : Int32)] dX6_readFact_83 ml_X6_97 mf_X9_takesByte im_X9_takesByte rfl rfl rfl (Nat.lt_of_lt_of_le (by decide : D_X9_takesByte < 40) hD) (Nat.le_of_ble_eq_true rfl) (Nat.le_of_ble_eq_true rfl) rfl (fun _ _ h => f_X9_takesByte_ok h) hf (fun v26 μ25 hf => ?_)
            refine E_if_ne (pc := 86) (tgt := 148) dX6_readFact_86 (by decide) hf (fun hf => ?_) (fun hf => ?_)
            · refine E_aload_n (pc := 89) dX6_readFact_89 rfl ?_
              refine E_getR (pc := 90) dX6_readFact_90 fl_X6_37 hf (fun v27 hf => ?_)
              refine E_aload_n (pc := 93) dX6_readFact_93 rfl ?_
              refine E_getR (pc := 94) dX6_readFact_94 fl_X6_37 hf (fun v28 hf => ?_)
              refine E_getI (pc := 97) dX6_readFact_97 fl_X6_103 hf (fun v29 hf => ?_)
              refine E_iconst (pc := 100) (v := (0 : Int32)) dX6_readFact_100 (by decide) ?_
              refine E_Vv (pc := 101) (d2 := D_X9_fail) (ci := 9) [.int v29, .int (0 : Int32)] dX6_readFact_101 ml_X6_66 mf_X9_fail im_X9_fail rfl rfl rfl (Nat.lt_of_lt_of_le (by decide : D_X9_fail < 40) hD) (Nat.le_of_ble_eq_true rfl) (Nat.le_of_ble_eq_true rfl) rfl (fun _ h => f_X9_fail_ok h) hf (fun μ30 hf => ?_)
              refine E_goto (pc := 104) (tgt := 148) dX6_readFact_104 (by decide) ?_
              exact E_vret (pc := 148) dX6_readFact_148 rfl hf
            · exact E_vret (pc := 148) dX6_readFact_148 rfl hf
        · refine E_iload_n (pc := 50) dX6_readFact_50 rfl ?_
          refine E_bipush (pc := 51) (v := (10 : Int32)) dX6_readFact_51 (by decide) ?_
          refine E_icmp_lt (pc := 53) (tgt := 66) dX6_readFact_53 (by decide) hf (fun hf => ?_) (fun hf => ?_)
          · refine E_iload_n (pc := 66) dX6_readFact_66 rfl ?_
            refine E_if_eq (pc := 67) (tgt := 107) dX6_readFact_67 (by decide) hf (fun hf => ?_) (fun hf => ?_)
            · refine E_iload (pc := 107) dX6_readFact_107 rfl ?_
              refine E_if_eq (pc := 109) (tgt := 128) dX6_readFact_109 (by decide) hf (fun hf => ?_) (fun hf => ?_)
              · refine E_aload_n (pc := 128) dX6_readFact_128 rfl ?_
                refine E_Vv (pc := 129) (d2 := D_X6_readSum) (ci := 6) [] dX6_readFact_129 ml_X6_72 mf_X6_readSum im_X6_readSum rfl rfl rfl (Nat.lt_of_lt_of_le (by decide : D_X6_readSum < 40) hD) (Nat.le_of_ble_eq_true rfl) (Nat.le_of_ble_eq_true rfl) rfl (fun _ h => f_X6_readSum_ok h) hf (fun μ31 hf => ?_)
                refine E_aload_n (pc := 132) dX6_readFact_132 rfl ?_
                refine E_Vi (pc := 133) (d2 := D_X6_readSign) (ci := 6) [] dX6_readFact_133 ml_X6_107 mf_X6_readSign im_X6_readSign rfl rfl rfl (Nat.lt_of_lt_of_le (by decide : D_X6_readSign < 40) hD) (Nat.le_of_ble_eq_true rfl) (Nat.le_of_ble_eq_true rfl) rfl (fun _ _ h => f_X6_readSign_ok h) hf (fun v33 μ32 hf => ?_)
                refine E_istore (pc := 136) (ls' := fun x34 => [(5, .int x34), (4, .int x14), (3, .int x10), (2, .int x6), (0, .ref a1), (1, .int x2)]) dX6_readFact_136 (by decide) (fun _ => rfl) hf (fun x34 hf => ?_)
                refine E_aload_n (pc := 138) dX6_readFact_138 rfl ?_
                refine E_Vv (pc := 139) (d2 := D_X6_readSum) (ci := 6) [] dX6_readFact_139 ml_X6_72 mf_X6_readSum im_X6_readSum rfl rfl rfl (Nat.lt_of_lt_of_le (by decide : D_X6_readSum < 40) hD) (Nat.le_of_ble_eq_true rfl) (Nat.le_of_ble_eq_true rfl) rfl (fun _ h => f_X6_readSum_ok h) hf (fun μ35 hf => ?_)
                refine E_aload_n (pc := 142) dX6_readFact_142 rfl ?_
                refine E_iload (pc := 143) dX6_readFact_143 rfl ?_
                refine E_Vv (pc := 145) (d2 := D_X6_emit) (ci := 6) [.int x34] dX6_readFact_145 ml_X6_91 mf_X6_emit im_X6_emit rfl rfl rfl (Nat.lt_of_lt_of_le (by decide : D_X6_emit < 40) hD) (Nat.le_of_ble_eq_true rfl) (Nat.le_of_ble_eq_true rfl) rfl (fun _ h => f_X6_emit_ok h) hf (fun μ36 hf => ?_)
                exact E_vret (pc := 148) dX6_readFact_148 rfl hf
              · refine E_aload_n (pc := 112) dX6_readFact_112 rfl ?_
                refine E_iload_n (pc := 113) dX6_readFact_113 rfl ?_
                refine E_iconst (pc := 114) (v := (1 : Int32)) dX6_readFact_114 (by decide) ?_
                refine E_iadd (pc := 115) dX6_readFact_115 ?_
                refine E_Vv (pc := 116) (d2 := e_X6_readFact) (ci := 6) [.int (x2 + (1 : Int32))] dX6_readFact_116 ml_X6_85 mf_X6_readFact im_X6_readFact rfl rfl rfl q_X6_readFact (Nat.le_of_ble_eq_true rfl) (Nat.le_of_ble_eq_true rfl) rfl (fun _ h => h_X6_readFact h) hf (fun μ37 hf => ?_)
                refine E_aload_n (pc := 119) dX6_readFact_119 rfl ?_
                refine E_ldc (pc := 120) (v := (100012 : Int32)) dX6_readFact_120 co_X6_106 ?_
                refine E_Vv (pc := 122) (d2 := D_X6_emit) (ci := 6) [.int (100012 : Int32)] dX6_readFact_122 ml_X6_91 mf_X6_emit im_X6_emit rfl rfl rfl (Nat.lt_of_lt_of_le (by decide : D_X6_emit < 40) hD) (Nat.le_of_ble_eq_true rfl) (Nat.le_of_ble_eq_true rfl) rfl (fun _ h => f_X6_emit_ok h) hf (fun μ38 hf => ?_)
                refine E_goto (pc := 125) (tgt := 148) dX6_readFact_125 (by decide) ?_
                exact E_vret (pc := 148) dX6_readFact_148 rfl hf
            · refine E_aload_n (pc := 70) dX6_readFact_70 rfl ?_
              refine E_iload_n (pc := 71) dX6_readFact_71 rfl ?_
              refine E_iconst (pc := 72) (v := (1 : Int32)) dX6_readFact_72 (by decide) ?_
              refine E_iadd (pc := 73) dX6_readFact_73 ?_
              refine E_Vv (pc := 74) (d2 := e_X6_readTest) (ci := 6) [.int (x2 + (1 : Int32))] dX6_readFact_74 ml_X6_81 mf_X6_readTest im_X6_readTest rfl rfl rfl q_X6_readTest (Nat.le_of_ble_eq_true rfl) (Nat.le_of_ble_eq_true rfl) rfl (fun _ h => h_X6_readTest h) hf (fun μ39 hf => ?_)
              refine E_aload_n (pc := 77) dX6_readFact_77 rfl ?_
              refine E_getR (pc := 78) dX6_readFact_78 fl_X6_37 hf (fun v40 hf => ?_)
              refine E_bipush (pc := 81) (v := (93 : Int32)) dX6_readFact_81 (by decide) ?_
              refine E_Vi (pc := 83) (d2 := D_X9_takesByte) (ci := 9) [.int (93 : Int32)] dX6_readFact_83 ml_X6_97 mf_X9_takesByte im_X9_takesByte rfl rfl rfl (Nat.lt_of_lt_of_le (by decide : D_X9_takesByte < 40) hD) (Nat.le_of_ble_eq_true rfl) (Nat.le_of_ble_eq_true rfl) rfl (fun _ _ h => f_X9_takesByte_ok h) hf (fun v42 μ41 hf => ?_)
              refine E_if_ne (pc := 86) (tgt := 148) dX6_readFact_86 (by decide) hf (fun hf => ?_) (fun hf => ?_)
              · refine E_aload_n (pc := 89) dX6_readFact_89 rfl ?_
                refine E_getR (pc := 90) dX6_readFact_90 fl_X6_37 hf (fun v43 hf => ?_)
                refine E_aload_n (pc := 93) dX6_readFact_93 rfl ?_
                refine E_getR (pc := 94) dX6_readFact_94 fl_X6_37 hf (fun v44 hf => ?_)
                refine E_getI (pc := 97) dX6_readFact_97 fl_X6_103 hf (fun v45 hf => ?_)
                refine E_iconst (pc := 100) (v := (0 : Int32)) dX6_readFact_100 (by decide) ?_
                refine E_Vv (pc := 101) (d2 := D_X9_fail) (ci := 9) [.int v45, .int (0 : Int32)] dX6_readFact_101 ml_X6_66 mf_X9_fail im_X9_fail rfl rfl rfl (Nat.lt_of_lt_of_le (by decide : D_X9_fail < 40) hD) (Nat.le_of_ble_eq_true rfl) (Nat.le_of_ble_eq_true rfl) rfl (fun _ h => f_X9_fail_ok h) hf (fun μ46 hf => ?_)
                refine E_goto (pc := 104) (tgt := 148) dX6_readFact_104 (by decide) ?_
                exact E_vret (pc := 148) dX6_readFact_148 rfl hf
              · exact E_vret (pc := 148) dX6_readFact_148 rfl hf
          · refine E_aload_n (pc := 56) dX6_readFact_56 rfl ?_
            refine E_getR (pc := 57) dX6_readFact_57 fl_X6_37 hf (fun v47 hf => ?_)
            refine E_iload_n (pc := 60) dX6_readFact_60 rfl ?_
            refine E_iconst (pc := 61) (v := (2 : Int32)) dX6_readFact_61 (by decide) ?_
            refine E_Vv (pc := 62) (d2 := D_X9_fail) (ci := 9) [.int x6, .int (2 : Int32)] dX6_readFact_62 ml_X6_66 mf_X9_fail im_X9_fail rfl rfl rfl (Nat.lt_of_lt_of_le (by decide : D_X9_fail < 40) hD) (Nat.le_of_ble_eq_true rfl) (Nat.le_of_ble_eq_true rfl) rfl (fun _ h => f_X9_fail_ok h) hf (fun μ48 hf => ?_)
            exact E_vret (pc := 65) dX6_readFact_65 rfl hf
      · refine E_iload_n (pc := 50) dX6_readFact_50 rfl ?_
        refine E_bipush (pc := 51) (v := (10 : Int32)) dX6_readFact_51 (by decide) ?_
        refine E_icmp_lt (pc := 53) (tgt := 66) dX6_readFact_53 (by decide) hf (fun hf => ?_) (fun hf => ?_)
        · refine E_iload_n (pc := 66) dX6_readFact_66 rfl ?_
          refine E_if_eq (pc := 67) (tgt := 107) dX6_readFact_67 (by decide) hf (fun hf => ?_) (fun hf => ?_)
          · refine E_iload (pc := 107) dX6_readFact_107 rfl ?_
            refine E_if_eq (pc := 109) (tgt := 128) dX6_readFact_109 (by decide) hf (fun hf => ?_) (fun hf => ?_)
            · refine E_aload_n (pc := 128) dX6_readFact_128 rfl ?_
              refine E_Vv (pc := 129) (d2 := D_X6_readSum) (ci := 6) [] dX6_readFact_129 ml_X6_72 mf_X6_readSum im_X6_readSum rfl rfl rfl (Nat.lt_of_lt_of_le (by decide : D_X6_readSum < 40) hD) (Nat.le_of_ble_eq_true rfl) (Nat.le_of_ble_eq_true rfl) rfl (fun _ h => f_X6_readSum_ok h) hf (fun μ49 hf => ?_)
              refine E_aload_n (pc := 132) dX6_readFact_132 rfl ?_
              refine E_Vi (pc := 133) (d2 := D_X6_readSign) (ci := 6) [] dX6_readFact_133 ml_X6_107 mf_X6_readSign im_X6_readSign rfl rfl rfl (Nat.lt_of_lt_of_le (by decide : D_X6_readSign < 40) hD) (Nat.le_of_ble_eq_true rfl) (Nat.le_of_ble_eq_true rfl) rfl (fun _ _ h => f_X6_readSign_ok h) hf (fun v51 μ50 hf => ?_)
              refine E_istore (pc := 136) (ls' := fun x52 => [(5, .int x52), (4, .int x14), (3, .int x10), (2, .int x6), (0, .ref a1), (1, .int x2)]) dX6_readFact_136 (by decide) (fun _ => rfl) hf (fun x52 hf => ?_)
              refine E_aload_n (pc := 138) dX6_readFact_138 rfl ?_
              refine E_Vv (pc := 139) (d2 := D_X6_readSum) (ci := 6) [] dX6_readFact_139 ml_X6_72 mf_X6_readSum im_X6_readSum rfl rfl rfl (Nat.lt_of_lt_of_le (by decide : D_X6_readSum < 40) hD) (Nat.le_of_ble_eq_true rfl) (Nat.le_of_ble_eq_true rfl) rfl (fun _ h => f_X6_readSum_ok h) hf (fun μ53 hf => ?_)
              refine E_aload_n (pc := 142) dX6_readFact_142 rfl ?_
              refine E_iload (pc := 143) dX6_readFact_143 rfl ?_
              refine E_Vv (pc := 145) (d2 := D_X6_emit) (ci := 6) [.int x52] dX6_readFact_145 ml_X6_91 mf_X6_emit im_X6_emit rfl rfl rfl (Nat.lt_of_lt_of_le (by decide : D_X6_emit < 40) hD) (Nat.le_of_ble_eq_true rfl) (Nat.le_of_ble_eq_true rfl) rfl (fun _ h => f_X6_emit_ok h) hf (fun μ54 hf => ?_)
              exact E_vret (pc := 148) dX6_readFact_148 rfl hf
            · refine E_aload_n (pc := 112) dX6_readFact_112 rfl ?_
              refine E_iload_n (pc := 113) dX6_readFact_113 rfl ?_
              refine E_iconst (pc := 114) (v := (1 : Int32)) dX6_readFact_114 (by decide) ?_
              refine E_iadd (pc := 115) dX6_readFact_115 ?_
              refine E_Vv (pc := 116) (d2 := e_X6_readFact) (ci := 6) [.int (x2 + (1 : Int32))] dX6_readFact_116 ml_X6_85 mf_X6_readFact im_X6_readFact rfl rfl rfl q_X6_readFact (Nat.le_of_ble_eq_true rfl) (Nat.le_of_ble_eq_true rfl) rfl (fun _ h => h_X6_readFact h) hf (fun μ55 hf => ?_)
              refine E_aload_n (pc := 119) dX6_readFact_119 rfl ?_
              refine E_ldc (pc := 120) (v := (100012 : Int32)) dX6_readFact_120 co_X6_106 ?_
              refine E_Vv (pc := 122) (d2 := D_X6_emit) (ci := 6) [.int (100012 : Int32)] dX6_readFact_122 ml_X6_91 mf_X6_emit im_X6_emit rfl rfl rfl (Nat.lt_of_lt_of_le (by decide : D_X6_emit < 40) hD) (Nat.le_of_ble_eq_true rfl) (Nat.le_of_ble_eq_true rfl) rfl (fun _ h => f_X6_emit_ok h) hf (fun μ56 hf => ?_)
              refine E_goto (pc := 125) (tgt := 148) dX6_readFact_125 (by decide) ?_
              exact E_vret (pc := 148) dX6_readFact_148 rfl hf
          · refine E_aload_n (pc := 70) dX6_readFact_70 rfl ?_
            refine E_iload_n (pc := 71) dX6_readFact_71 rfl ?_
            refine E_iconst (pc := 72) (v := (1 : Int32)) dX6_readFact_72 (by decide) ?_
            refine E_iadd (pc := 73) dX6_readFact_73 ?_
            refine E_Vv (pc := 74) (d2 := e_X6_readTest) (ci := 6) [.int (x2 + (1 : Int32))] dX6_readFact_74 ml_X6_81 mf_X6_readTest im_X6_readTest rfl rfl rfl q_X6_readTest (Nat.le_of_ble_eq_true rfl) (Nat.le_of_ble_eq_true rfl) rfl (fun _ h => h_X6_readTest h) hf (fun μ57 hf => ?_)
            refine E_aload_n (pc := 77) dX6_readFact_77 rfl ?_
            refine E_getR (pc := 78) dX6_readFact_78 fl_X6_37 hf (fun v58 hf => ?_)
            refine E_bipush (pc := 81) (v := (93 : Int32)) dX6_readFact_81 (by decide) ?_
            refine E_Vi (pc := 83) (d2 := D_X9_takesByte) (ci := 9) [.int (93 : Int32)] dX6_readFact_83 ml_X6_97 mf_X9_takesByte im_X9_takesByte rfl rfl rfl (Nat.lt_of_lt_of_le (by decide : D_X9_takesByte < 40) hD) (Nat.le_of_ble_eq_true rfl) (Nat.le_of_ble_eq_true rfl) rfl (fun _ _ h => f_X9_takesByte_ok h) hf (fun v60 μ59 hf => ?_)
            refine E_if_ne (pc := 86) (tgt := 148) dX6_readFact_86 (by decide) hf (fun hf => ?_) (fun hf => ?_)
            · refine E_aload_n (pc := 89) dX6_readFact_89 rfl ?_
              refine E_getR (pc := 90) dX6_readFact_90 fl_X6_37 hf (fun v61 hf => ?_)
              refine E_aload_n (pc := 93) dX6_readFact_93 rfl ?_
              refine E_getR (pc := 94) dX6_readFact_94 fl_X6_37 hf (fun v62 hf => ?_)
              refine E_getI (pc := 97) dX6_readFact_97 fl_X6_103 hf (fun v63 hf => ?_)
              refine E_iconst (pc := 100) (v := (0 : Int32)) dX6_readFact_100 (by decide) ?_
              refine E_Vv (pc := 101) (d2 := D_X9_fail) (ci := 9) [.int v63, .int (0 : Int32)] dX6_readFact_101 ml_X6_66 mf_X9_fail im_X9_fail rfl rfl rfl (Nat.lt_of_lt_of_le (by decide : D_X9_fail < 40) hD) (Nat.le_of_ble_eq_true rfl) (Nat.le_of_ble_eq_true rfl) rfl (fun _ h => f_X9_fail_ok h) hf (fun μ64 hf => ?_)
              refine E_goto (pc := 104) (tgt := 148) dX6_readFact_104 (by decide) ?_
              exact E_vret (pc := 148) dX6_readFact_148 rfl hf
            · exact E_vret (pc := 148) dX6_readFact_148 rfl hf
        · refine E_aload_n (pc := 56) dX6_readFact_56 rfl ?_
          refine E_getR (pc := 57) dX6_readFact_57 fl_X6_37 hf (fun v65 hf => ?_)
          refine E_iload_n (pc := 60) dX6_readFact_60 rfl ?_
          refine E_iconst (pc := 61) (v := (2 : Int32)) dX6_readFact_61 (by decide) ?_
          refine E_Vv (pc := 62) (d2 := D_X9_fail) (ci := 9) [.int x6, .int (2 : Int32)] dX6_readFact_62 ml_X6_66 mf_X9_fail im_X9_fail rfl rfl rfl (Nat.lt_of_lt_of_le (by decide : D_X9_fail < 40) hD) (Nat.le_of_ble_eq_true rfl) (Nat.le_of_ble_eq_true rfl) rfl (fun _ h => f_X9_fail_ok h) hf (fun μ66 hf => ?_)
          exact E_vret (pc := 65) dX6_readFact_65 rfl hf
    · refine E_iconst (pc := 34) (v := (1 : Int32)) dX6_readFact_34 (by decide) ?_
      refine E_goto (pc := 35) (tgt := 39) dX6_readFact_35 (by decide) ?_
      refine E_istore (pc := 39) (ls' := fun x67 => [(4, .int x67), (3, .int x10), (2, .int x6), (0, .ref a1), (1, .int x2)]) dX6_readFact_39 (by decide) (fun _ => rfl) hf (fun x67 hf => ?_)
      refine E_iload_n (pc := 41) dX6_readFact_41 rfl ?_
      refine E_if_ne (pc := 42) (tgt := 50) dX6_readFact_42 (by decide) hf (fun hf => ?_) (fun hf => ?_)
      · refine E_iload (pc := 45) dX6_readFact_45 rfl ?_
        refine E_if_eq (pc := 47) (tgt := 66) dX6_readFact_47 (by decide) hf (fun hf => ?_) (fun hf => ?_)
        · refine E_iload_n (pc := 66) dX6_readFact_66 rfl ?_
          refine E_if_eq (pc := 67) (tgt := 107) dX6_readFact_67 (by decide) hf (fun hf => ?_) (fun hf => ?_)
          · refine E_iload (pc := 107) dX6_readFact_107 rfl ?_
            refine E_if_eq (pc := 109) (tgt := 128) dX6_readFact_109 (by decide) hf (fun hf => ?_) (fun hf => ?_)
            · refine E_aload_n (pc := 128) dX6_readFact_128 rfl ?_
              refine E_Vv (pc := 129) (d2 := D_X6_readSum) (ci := 6) [] dX6_readFact_129 ml_X6_72 mf_X6_readSum im_X6_readSum rfl rfl rfl (Nat.lt_of_lt_of_le (by decide : D_X6_readSum < 40) hD) (Nat.le_of_ble_eq_true rfl) (Nat.le_of_ble_eq_true rfl) rfl (fun _ h => f_X6_readSum_ok h) hf (fun μ68 hf => ?_)
              refine E_aload_n (pc := 132) dX6_readFact_132 rfl ?_
              refine E_Vi (pc := 133) (d2 := D_X6_readSign) (ci := 6) [] dX6_readFact_133 ml_X6_107 mf_X6_readSign im_X6_readSign rfl rfl rfl (Nat.lt_of_lt_of_le (by decide : D_X6_readSign < 40) hD) (Nat.le_of_ble_eq_true rfl) (Nat.le_of_ble_eq_true rfl) rfl (fun _ _ h => f_X6_readSign_ok h) hf (fun v70 μ69 hf => ?_)
              refine E_istore (pc := 136) (ls' := fun x71 => [(5, .int x71), (4, .int x67), (3, .int x10), (2, .int x6), (0, .ref a1), (1, .int x2)]) dX6_readFact_136 (by decide) (fun _ => rfl) hf (fun x71 hf => ?_)
              refine E_aload_n (pc := 138) dX6_readFact_138 rfl ?_
              refine E_Vv (pc := 139) (d2 := D_X6_readSum) (ci := 6) [] dX6_readFact_139 ml_X6_72 mf_X6_readSum im_X6_readSum rfl rfl rfl (Nat.lt_of_lt_of_le (by decide : D_X6_readSum < 40) hD) (Nat.le_of_ble_eq_true rfl) (Nat.le_of_ble_eq_true rfl) rfl (fun _ h => f_X6_readSum_ok h) hf (fun μ72 hf => ?_)
              refine E_aload_n (pc := 142) dX6_readFact_142 rfl ?_
              refine E_iload (pc := 143) dX6_readFact_143 rfl ?_
              refine E_Vv (pc := 145) (d2 := D_X6_emit) (ci := 6) [.int x71] dX6_readFact_145 ml_X6_91 mf_X6_emit im_X6_emit rfl rfl rfl (Nat.lt_of_lt_of_le (by decide : D_X6_emit < 40) hD) (Nat.le_of_ble_eq_true rfl) (Nat.le_of_ble_eq_true rfl) rfl (fun _ h => f_X6_emit_ok h) hf (fun μ73 hf => ?_)
              exact E_vret (pc := 148) dX6_readFact_148 rfl hf
            · refine E_aload_n (pc := 112) dX6_readFact_112 rfl ?_
              refine E_iload_n (pc := 113) dX6_readFact_113 rfl ?_
              refine E_iconst (pc := 114) (v := (1 : Int32)) dX6_readFact_114 (by decide) ?_
              refine E_iadd (pc := 115) dX6_readFact_115 ?_
              refine E_Vv (pc := 116) (d2 := e_X6_readFact) (ci := 6) [.int (x2 + (1 : Int32))] dX6_readFact_116 ml_X6_85 mf_X6_readFact im_X6_readFact rfl rfl rfl q_X6_readFact (Nat.le_of_ble_eq_true rfl) (Nat.le_of_ble_eq_true rfl) rfl (fun _ h => h_X6_readFact h) hf (fun μ74 hf => ?_)
              refine E_aload_n (pc := 119) dX6_readFact_119 rfl ?_
              refine E_ldc (pc := 120) (v := (100012 : Int32)) dX6_readFact_120 co_X6_106 ?_
              refine E_Vv (pc := 122) (d2 := D_X6_emit) (ci := 6) [.int (100012 : Int32)] dX6_readFact_122 ml_X6_91 mf_X6_emit im_X6_emit rfl rfl rfl (Nat.lt_of_lt_of_le (by decide : D_X6_emit < 40) hD) (Nat.le_of_ble_eq_true rfl) (Nat.le_of_ble_eq_true rfl) rfl (fun _ h => f_X6_emit_ok h) hf (fun μ75 hf => ?_)
              refine E_goto (pc := 125) (tgt := 148) dX6_readFact_125 (by decide) ?_
              exact E_vret (pc := 148) dX6_readFact_148 rfl hf
          · refine E_aload_n (pc := 70) dX6_readFact_70 rfl ?_
            refine E_iload_n (pc := 71) dX6_readFact_71 rfl ?_
            refine E_iconst (pc := 72) (v := (1 : Int32)) dX6_readFact_72 (by decide) ?_
            refine E_iadd (pc := 73) dX6_readFact_73 ?_
            refine E_Vv (pc := 74) (d2 := e_X6_readTest) (ci := 6) [.int (x2 + (1 : Int32))] dX6_readFact_74 ml_X6_81 mf_X6_readTest im_X6_readTest rfl rfl rfl q_X6_readTest (Nat.le_of_ble_eq_true rfl) (Nat.le_of_ble_eq_true rfl) rfl (fun _ h => h_X6_readTest h) hf (fun μ76 hf => ?_)
            refine E_aload_n (pc := 77) dX6_readFact_77 rfl ?_
            refine E_getR (pc := 78) dX6_readFact_78 fl_X6_37 hf (fun v77 hf => ?_)
            refine E_bipush (pc := 81) (v := (93 : Int32)) dX6_readFact_81 (by decide) ?_
            refine E_Vi (pc := 83) (d2 := D_X9_takesByte) (ci := 9) [.int (93 : Int32)] dX6_readFact_83 ml_X6_97 mf_X9_takesByte im_X9_takesByte rfl rfl rfl (Nat.lt_of_lt_of_le (by decide : D_X9_takesByte < 40) hD) (Nat.le_of_ble_eq_true rfl) (Nat.le_of_ble_eq_true rfl) rfl (fun _ _ h => f_X9_takesByte_ok h) hf (fun v79 μ78 hf => ?_)
            refine E_if_ne (pc := 86) (tgt := 148) dX6_readFact_86 (by decide) hf (fun hf => ?_) (fun hf => ?_)
            · refine E_aload_n (pc := 89) dX6_readFact_89 rfl ?_
              refine E_getR (pc := 90) dX6_readFact_90 fl_X6_37 hf (fun v80 hf => ?_)
              refine E_aload_n (pc := 93) dX6_readFact_93 rfl ?_
              refine E_getR (pc := 94) dX6_readFact_94 fl_X6_37 hf (fun v81 hf => ?_)
              refine E_getI (pc := 97) dX6_readFact_97 fl_X6_103 hf (fun v82 hf => ?_)
              refine E_iconst (pc := 100) (v := (0 : Int32)) dX6_readFact_100 (by decide) ?_
              refine E_Vv (pc := 101) (d2 := D_X9_fail) (ci := 9) [.int v82, .int (0 : Int32)] dX6_readFact_101 ml_X6_66 mf_X9_fail im_X9_fail rfl rfl rfl (Nat.lt_of_lt_of_le (by decide : D_X9_fail < 40) hD) (Nat.le_of_ble_eq_true rfl) (Nat.le_of_ble_eq_true rfl) rfl (fun _ h => f_X9_fail_ok h) hf (fun μ83 hf => ?_)
              refine E_goto (pc := 104) (tgt := 148) dX6_readFact_104 (by decide) ?_
              exact E_vret (pc := 148) dX6_readFact_148 rfl hf
            · exact E_vret (pc := 148) dX6_readFact_148 rfl hf
        · refine E_iload_n (pc := 50) dX6_readFact_50 rfl ?_
          refine E_bipush (pc := 51) (v := (10 : Int32)) dX6_readFact_51 (by decide) ?_
          refine E_icmp_lt (pc := 53) (tgt := 66) dX6_readFact_53 (by decide) hf (fun hf => ?_) (fun hf => ?_)
          · refine E_iload_n (pc := 66) dX6_readFact_66 rfl ?_
            refine E_if_eq (pc := 67) (tgt := 107) dX6_readFact_67 (by decide) hf (fun hf => ?_) (fun hf => ?_)
            · refine E_iload (pc := 107) dX6_readFact_107 rfl ?_
              refine E_if_eq (pc := 109) (tgt := 128) dX6_readFact_109 (by decide) hf (fun hf => ?_) (fun hf => ?_)
              · refine E_aload_n (pc := 128) dX6_readFact_128 rfl ?_
                refine E_Vv (pc := 129) (d2 := D_X6_readSum) (ci := 6) [] dX6_readFact_129 ml_X6_72 mf_X6_readSum im_X6_readSum rfl rfl rfl (Nat.lt_of_lt_of_le (by decide : D_X6_readSum < 40) hD) (Nat.le_of_ble_eq_true rfl) (Nat.le_of_ble_eq_true rfl) rfl (fun _ h => f_X6_readSum_ok h) hf (fun μ84 hf => ?_)
                refine E_aload_n (pc := 132) dX6_readFact_132 rfl ?_
                refine E_Vi (pc := 133) (d2 := D_X6_readSign) (ci := 6) [] dX6_readFact_133 ml_X6_107 mf_X6_readSign im_X6_readSign rfl rfl rfl (Nat.lt_of_lt_of_le (by decide : D_X6_readSign < 40) hD) (Nat.le_of_ble_eq_true rfl) (Nat.le_of_ble_eq_true rfl) rfl (fun _ _ h => f_X6_readSign_ok h) hf (fun v86 μ85 hf => ?_)
                refine E_istore (pc := 136) (ls' := fun x87 => [(5, .int x87), (4, .int x67), (3, .int x10), (2, .int x6), (0, .ref a1), (1, .int x2)]) dX6_readFact_136 (by decide) (fun _ => rfl) hf (fun x87 hf => ?_)
                refine E_aload_n (pc := 138) dX6_readFact_138 rfl ?_
                refine E_Vv (pc := 139) (d2 := D_X6_readSum) (ci := 6) [] dX6_readFact_139 ml_X6_72 mf_X6_readSum im_X6_readSum rfl rfl rfl (Nat.lt_of_lt_of_le (by decide : D_X6_readSum < 40) hD) (Nat.le_of_ble_eq_true rfl) (Nat.le_of_ble_eq_true rfl) rfl (fun _ h => f_X6_readSum_ok h) hf (fun μ88 hf => ?_)
                refine E_aload_n (pc := 142) dX6_readFact_142 rfl ?_
                refine E_iload (pc := 143) dX6_readFact_143 rfl ?_
                refine E_Vv (pc := 145) (d2 := D_X6_emit) (ci := 6) [.int x87] dX6_readFact_145 ml_X6_91 mf_X6_emit im_X6_emit rfl rfl rfl (Nat.lt_of_lt_of_le (by decide : D_X6_emit < 40) hD) (Nat.le_of_ble_eq_true rfl) (Nat.le_of_ble_eq_true rfl) rfl (fun _ h => f_X6_emit_ok h) hf (fun μ89 hf => ?_)
                exact E_vret (pc := 148) dX6_readFact_148 rfl hf
              · refine E_aload_n (pc := 112) dX6_readFact_112 rfl ?_
                refine E_iload_n (pc := 113) dX6_readFact_113 rfl ?_
                refine E_iconst (pc := 114) (v := (1 : Int32)) dX6_readFact_114 (by decide) ?_
                refine E_iadd (pc := 115) dX6_readFact_115 ?_
                refine E_Vv (pc := 116) (d2 := e_X6_readFact) (ci := 6) [.int (x2 + (1 : Int32))] dX6_readFact_116 ml_X6_85 mf_X6_readFact im_X6_readFact rfl rfl rfl q_X6_readFact (Nat.le_of_ble_eq_true rfl) (Nat.le_of_ble_eq_true rfl) rfl (fun _ h => h_X6_readFact h) hf (fun μ90 hf => ?_)
                refine E_aload_n (pc := 119) dX6_readFact_119 rfl ?_
                refine E_ldc (pc := 120) (v := (100012 : Int32)) dX6_readFact_120 co_X6_106 ?_
                refine E_Vv (pc := 122) (d2 := D_X6_emit) (ci := 6) [.int (100012 : Int32)] dX6_readFact_122 ml_X6_91 mf_X6_emit im_X6_emit rfl rfl rfl (Nat.lt_of_lt_of_le (by decide : D_X6_emit < 40) hD) (Nat.le_of_ble_eq_true rfl) (Nat.le_of_ble_eq_true rfl) rfl (fun _ h => f_X6_emit_ok h) hf (fun μ91 hf => ?_)
                refine E_goto (pc := 125) (tgt := 148) dX6_readFact_125 (by decide) ?_
                exact E_vret (pc := 148) dX6_readFact_148 rfl hf
            · refine E_aload_n (pc := 70) dX6_readFact_70 rfl ?_
              refine E_iload_n (pc := 71) dX6_readFact_71 rfl ?_
              refine E_iconst (pc := 72) (v := (1 : Int32)) dX6_readFact_72 (by decide) ?_
              refine E_iadd (pc := 73) dX6_readFact_73 ?_
              refine E_Vv (pc := 74) (d2 := e_X6_readTest) (ci := 6) [.int (x2 + (1 : Int32))] dX6_readFact_74 ml_X6_81 mf_X6_readTest im_X6_readTest rfl rfl rfl q_X6_readTest (Nat.le_of_ble_eq_true rfl) (Nat.le_of_ble_eq_true rfl) rfl (fun _ h => h_X6_readTest h) hf (fun μ92 hf => ?_)
              refine E_aload_n (pc := 77) dX6_readFact_77 rfl ?_
              refine E_getR (pc := 78) dX6_readFact_78 fl_X6_37 hf (fun v93 hf => ?_)
              refine E_bipush (pc := 81) (v := (93 : Int32)) dX6_readFact_81 (by decide) ?_
              refine E_Vi (pc := 83) (d2 := D_X9_takesByte) (ci := 9) [.int (93 : Int32)] dX6_readFact_83 ml_X6_97 mf_X9_takesByte im_X9_takesByte rfl rfl rfl (Nat.lt_of_lt_of_le (by decide : D_X9_takesByte < 40) hD) (Nat.le_of_ble_eq_true rfl) (Nat.le_of_ble_eq_true rfl) rfl (fun _ _ h => f_X9_takesByte_ok h) hf (fun v95 μ94 hf => ?_)
              refine E_if_ne (pc := 86) (tgt := 148) dX6_readFact_86 (by decide) hf (fun hf => ?_) (fun hf => ?_)
              · refine E_aload_n (pc := 89) dX6_readFact_89 rfl ?_
                refine E_getR (pc := 90) dX6_readFact_90 fl_X6_37 hf (fun v96 hf => ?_)
                refine E_aload_n (pc := 93) dX6_readFact_93 rfl ?_
                refine E_getR (pc := 94) dX6_readFact_94 fl_X6_37 hf (fun v97 hf => ?_)
                refine E_getI (pc := 97) dX6_readFact_97 fl_X6_103 hf (fun v98 hf => ?_)
                refine E_iconst (pc := 100) (v := (0 : Int32)) dX6_readFact_100 (by decide) ?_
                refine E_Vv (pc := 101) (d2 := D_X9_fail) (ci := 9) [.int v98, .int (0 : Int32)] dX6_readFact_101 ml_X6_66 mf_X9_fail im_X9_fail rfl rfl rfl (Nat.lt_of_lt_of_le (by decide : D_X9_fail < 40) hD) (Nat.le_of_ble_eq_true rfl) (Nat.le_of_ble_eq_true rfl) rfl (fun _ h => f_X9_fail_ok h) hf (fun μ99 hf => ?_)
                refine E_goto (pc := 104) (tgt := 148) dX6_readFact_104 (by decide) ?_
                exact E_vret (pc := 148) dX6_readFact_148 rfl hf
              · exact E_vret (pc := 148) dX6_readFact_148 rfl hf
          · refine E_aload_n (pc := 56) dX6_readFact_56 rfl ?_
            refine E_getR (pc := 57) dX6_readFact_57 fl_X6_37 hf (fun v100 hf => ?_)
            refine E_iload_n (pc := 60) dX6_readFact_60 rfl ?_
            refine E_iconst (pc := 61) (v := (2 : Int32)) dX6_readFact_61 (by decide) ?_
            refine E_Vv (pc := 62) (d2 := D_X9_fail) (ci := 9) [.int x6, .int (2 : Int32)] dX6_readFact_62 ml_X6_66 mf_X9_fail im_X9_fail rfl rfl rfl (Nat.lt_of_lt_of_le (by decide : D_X9_fail < 40) hD) (Nat.le_of_ble_eq_true rfl) (Nat.le_of_ble_eq_true rfl) rfl (fun _ h => f_X9_fail_ok h) hf (fun μ101 hf => ?_)
            exact E_vret (pc := 65) dX6_readFact_65 rfl hf
      · refine E_iload_n (pc := 50) dX6_readFact_50 rfl ?_
        refine E_bipush (pc := 51) (v := (10 : Int32)) dX6_readFact_51 (by decide) ?_
        refine E_icmp_lt (pc := 53) (tgt := 66) dX6_readFact_53 (by decide) hf (fun hf => ?_) (fun hf => ?_)
        · refine E_iload_n (pc := 66) dX6_readFact_66 rfl ?_
          refine E_if_eq (pc := 67) (tgt := 107) dX6_readFact_67 (by decide) hf (fun hf => ?_) (fun hf => ?_)
          · refine E_iload (pc := 107) dX6_readFact_107 rfl ?_
            refine E_if_eq (pc := 109) (tgt := 128) dX6_readFact_109 (by decide) hf (fun hf => ?_) (fun hf => ?_)
            · refine E_aload_n (pc := 128) dX6_readFact_128 rfl ?_
              refine E_Vv (pc := 129) (d2 := D_X6_readSum) (ci := 6) [] dX6_readFact_129 ml_X6_72 mf_X6_readSum im_X6_readSum rfl rfl rfl (Nat.lt_of_lt_of_le (by decide : D_X6_readSum < 40) hD) (Nat.le_of_ble_eq_true rfl) (Nat.le_of_ble_eq_true rfl) rfl (fun _ h => f_X6_readSum_ok h) hf (fun μ102 hf => ?_)
              refine E_aload_n (pc := 132) dX6_readFact_132 rfl ?_
              refine E_Vi (pc := 133) (d2 := D_X6_readSign) (ci := 6) [] dX6_readFact_133 ml_X6_107 mf_X6_readSign im_X6_readSign rfl rfl rfl (Nat.lt_of_lt_of_le (by decide : D_X6_readSign < 40) hD) (Nat.le_of_ble_eq_true rfl) (Nat.le_of_ble_eq_true rfl) rfl (fun _ _ h => f_X6_readSign_ok h) hf (fun v104 μ103 hf => ?_)
              refine E_istore (pc := 136) (ls' := fun x105 => [(5, .int x105), (4, .int x67), (3, .int x10), (2, .int x6), (0, .ref a1), (1, .int x2)]) dX6_readFact_136 (by decide) (fun _ => rfl) hf (fun x105 hf => ?_)
              refine E_aload_n (pc := 138) dX6_readFact_138 rfl ?_
              refine E_Vv (pc := 139) (d2 := D_X6_readSum) (ci := 6) [] dX6_readFact_139 ml_X6_72 mf_X6_readSum im_X6_readSum rfl rfl rfl (Nat.lt_of_lt_of_le (by decide : D_X6_readSum < 40) hD) (Nat.le_of_ble_eq_true rfl) (Nat.le_of_ble_eq_true rfl) rfl (fun _ h => f_X6_readSum_ok h) hf (fun μ106 hf => ?_)
              refine E_aload_n (pc := 142) dX6_readFact_142 rfl ?_
              refine E_iload (pc := 143) dX6_readFact_143 rfl ?_
              refine E_Vv (pc := 145) (d2 := D_X6_emit) (ci := 6) [.int x105] dX6_readFact_145 ml_X6_91 mf_X6_emit im_X6_emit rfl rfl rfl (Nat.lt_of_lt_of_le (by decide : D_X6_emit < 40) hD) (Nat.le_of_ble_eq_true rfl) (Nat.le_of_ble_eq_true rfl) rfl (fun _ h => f_X6_emit_ok h) hf (fun μ107 hf => ?_)
              exact E_vret (pc := 148) dX6_readFact_148 rfl hf
            · refine E_aload_n (pc := 112) dX6_readFact_112 rfl ?_
              refine E_iload_n (pc := 113) dX6_readFact_113 rfl ?_
              refine E_iconst (pc := 114) (v := (1 : Int32)) dX6_readFact_114 (by decide) ?_
              refine E_iadd (pc := 115) dX6_readFact_115 ?_
              refine E_Vv (pc := 116) (d2 := e_X6_readFact) (ci := 6) [.int (x2 + (1 : Int32))] dX6_readFact_116 ml_X6_85 mf_X6_readFact im_X6_readFact rfl rfl rfl q_X6_readFact (Nat.le_of_ble_eq_true rfl) (Nat.le_of_ble_eq_true rfl) rfl (fun _ h => h_X6_readFact h) hf (fun μ108 hf => ?_)
              refine E_aload_n (pc := 119) dX6_readFact_119 rfl ?_
              refine E_ldc (pc := 120) (v := (100012 : Int32)) dX6_readFact_120 co_X6_106 ?_
              refine E_Vv (pc := 122) (d2 := D_X6_emit) (ci := 6) [.int (100012 : Int32)] dX6_readFact_122 ml_X6_91 mf_X6_emit im_X6_emit rfl rfl rfl (Nat.lt_of_lt_of_le (by decide : D_X6_emit < 40) hD) (Nat.le_of_ble_eq_true rfl) (Nat.le_of_ble_eq_true rfl) rfl (fun _ h => f_X6_emit_ok h) hf (fun μ109 hf => ?_)
              refine E_goto (pc := 125) (tgt := 148) dX6_readFact_125 (by decide) ?_
              exact E_vret (pc := 148) dX6_readFact_148 rfl hf
          · refine E_aload_n (pc := 70) dX6_readFact_70 rfl ?_
            refine E_iload_n (pc := 71) dX6_readFact_71 rfl ?_
            refine E_iconst (pc := 72) (v := (1 : Int32)) dX6_readFact_72 (by decide) ?_
            refine E_iadd (pc := 73) dX6_readFact_73 ?_
            refine E_Vv (pc := 74) (d2 := e_X6_readTest) (ci := 6) [.int (x2 + (1 : Int32))] dX6_readFact_74 ml_X6_81 mf_X6_readTest im_X6_readTest rfl rfl rfl q_X6_readTest (Nat.le_of_ble_eq_true rfl) (Nat.le_of_ble_eq_true rfl) rfl (fun _ h => h_X6_readTest h) hf (fun μ110 hf => ?_)
            refine E_aload_n (pc := 77) dX6_readFact_77 rfl ?_
            refine E_getR (pc := 78) dX6_readFact_78 fl_X6_37 hf (fun v111 hf => ?_)
            refine E_bipush (pc := 81) (v := (93 : Int32)) dX6_readFact_81 (by decide) ?_
            refine E_Vi (pc := 83) (d2 := D_X9_takesByte) (ci := 9) [.int (93 : Int32)] dX6_readFact_83 ml_X6_97 mf_X9_takesByte im_X9_takesByte rfl rfl rfl (Nat.lt_of_lt_of_le (by decide : D_X9_takesByte < 40) hD) (Nat.le_of_ble_eq_true rfl) (Nat.le_of_ble_eq_true rfl) rfl (fun _ _ h => f_X9_takesByte_ok h) hf (fun v113 μ112 hf => ?_)
            refine E_if_ne (pc := 86) (tgt := 148) dX6_readFact_86 (by decide) hf (fun hf => ?_) (fun hf => ?_)
            · refine E_aload_n (pc := 89) dX6_readFact_89 rfl ?_
              refine E_getR (pc := 90) dX6_readFact_90 fl_X6_37 hf (fun v114 hf => ?_)
              refine E_aload_n (pc := 93) dX6_readFact_93 rfl ?_
              refine E_getR (pc := 94) dX6_readFact_94 fl_X6_37 hf (fun v115 hf => ?_)
              refine E_getI (pc := 97) dX6_readFact_97 fl_X6_103 hf (fun v116 hf => ?_)
              refine E_iconst (pc := 100) (v := (0 : Int32)) dX6_readFact_100 (by decide) ?_
              refine E_Vv (pc := 101) (d2 := D_X9_fail) (ci := 9) [.int v116, .int (0 : Int32)] dX6_readFact_101 ml_X6_66 mf_X9_fail im_X9_fail rfl rfl rfl (Nat.lt_of_lt_of_le (by decide : D_X9_fail < 40) hD) (Nat.le_of_ble_eq_true rfl) (Nat.le_of_ble_eq_true rfl) rfl (fun _ h => f_X9_fail_ok h) hf (fun μ117 hf => ?_)
              refine E_goto (pc := 104) (tgt := 148) dX6_readFact_104 (by decide) ?_
              exact E_vret (pc := 148) dX6_readFact_148 rfl hf
            · exact E_vret (pc := 148) dX6_readFact_148 rfl hf
        · refine E_aload_n (pc := 56) dX6_readFact_56 rfl ?_
          refine E_getR (pc := 57) dX6_readFact_57 fl_X6_37 hf (fun v118 hf => ?_)
          refine E_iload_n (pc := 60) dX6_readFact_60 rfl ?_
          refine E_iconst (pc := 61) (v := (2 : Int32)) dX6_readFact_61 (by decide) ?_
          refine E_Vv (pc := 62) (d2 := D_X9_fail) (ci := 9) [.int x6, .int (2 : Int32)] dX6_readFact_62 ml_X6_66 mf_X9_fail im_X9_fail rfl rfl rfl (Nat.lt_of_lt_of_le (by decide : D_X9_fail < 40) hD) (Nat.le_of_ble_eq_true rfl) (Nat.le_of_ble_eq_true rfl) rfl (fun _ h => f_X9_fail_ok h) hf (fun μ119 hf => ?_)
          exact E_vret (pc := 65) dX6_readFact_65 rfl hf
  · refine E_iconst (pc := 38) (v := (0 : Int32)) dX6_readFact_38 (by decide) ?_
    refine E_istore (pc := 39) (ls' := fun x120 => [(4, .int x120), (3, .int x10), (2, .int x6), (0, .ref a1), (1, .int x2)]) dX6_readFact_39 (by decide) (fun _ => rfl) hf (fun x120 hf => ?_)
    refine E_iload_n (pc := 41) dX6_readFact_41 rfl ?_
    refine E_if_ne (pc := 42) (tgt := 50) dX6_readFact_42 (by decide) hf (fun hf => ?_) (fun hf => ?_)
    · refine E_iload (pc := 45) dX6_readFact_45 rfl ?_
      refine E_if_eq (pc := 47) (tgt := 66) dX6_readFact_47 (by decide) hf (fun hf => ?_) (fun hf => ?_)
      · refine E_iload_n (pc := 66) dX6_readFact_66 rfl ?_
        refine E_if_eq (pc := 67) (tgt := 107) dX6_readFact_67 (by decide) hf (fun hf => ?_) (fun hf => ?_)
        · refine E_iload (pc := 107) dX6_readFact_107 rfl ?_
          refine E_if_eq (pc := 109) (tgt := 128) dX6_readFact_109 (by decide) hf (fun hf => ?_) (fun hf => ?_)
          · refine E_aload_n (pc := 128) dX6_readFact_128 rfl ?_
            refine E_Vv (pc := 129) (d2 := D_X6_readSum) (ci := 6) [] dX6_readFact_129 ml_X6_72 mf_X6_readSum im_X6_readSum rfl rfl rfl (Nat.lt_of_lt_of_le (by decide : D_X6_readSum < 40) hD) (Nat.le_of_ble_eq_true rfl) (Nat.le_of_ble_eq_true rfl) rfl (fun _ h => f_X6_readSum_ok h) hf (fun μ121 hf => ?_)
            refine E_aload_n (pc := 132) dX6_readFact_132 rfl ?_
            refine E_Vi (pc := 133) (d2 := D_X6_readSign) (ci := 6) [] dX6_readFact_133 ml_X6_107 mf_X6_readSign im_X6_readSign rfl rfl rfl (Nat.lt_of_lt_of_le (by decide : D_X6_readSign < 40) hD) (Nat.le_of_ble_eq_true rfl) (Nat.le_of_ble_eq_true rfl) rfl (fun _ _ h => f_X6_readSign_ok h) hf (fun v123 μ122 hf => ?_)
            refine E_istore (pc := 136) (ls' := fun x124 => [(5, .int x124), (4, .int x120), (3, .int x10), (2, .int x6), (0, .ref a1), (1, .int x2)]) dX6_readFact_136 (by decide) (fun _ => rfl) hf (fun x124 hf => ?_)
            refine E_aload_n (pc := 138) dX6_readFact_138 rfl ?_
            refine E_Vv (pc := 139) (d2 := D_X6_readSum) (ci := 6) [] dX6_readFact_139 ml_X6_72 mf_X6_readSum im_X6_readSum rfl rfl rfl (Nat.lt_of_lt_of_le (by decide : D_X6_readSum < 40) hD) (Nat.le_of_ble_eq_true rfl) (Nat.le_of_ble_eq_true rfl) rfl (fun _ h => f_X6_readSum_ok h) hf (fun μ125 hf => ?_)
            refine E_aload_n (pc := 142) dX6_readFact_142 rfl ?_
            refine E_iload (pc := 143) dX6_readFact_143 rfl ?_
            refine E_Vv (pc := 145) (d2 := D_X6_emit) (ci := 6) [.int x124] dX6_readFact_145 ml_X6_91 mf_X6_emit im_X6_emit rfl rfl rfl (Nat.lt_of_lt_of_le (by decide : D_X6_emit < 40) hD) (Nat.le_of_ble_eq_true rfl) (Nat.le_of_ble_eq_true rfl) rfl (fun _ h => f_X6_emit_ok h) hf (fun μ126 hf => ?_)
            exact E_vret (pc := 148) dX6_readFact_148 rfl hf
          · refine E_aload_n (pc := 112) dX6_readFact_112 rfl ?_
            refine E_iload_n (pc := 113) dX6_readFact_113 rfl ?_
            refine E_iconst (pc := 114) (v := (1 : Int32)) dX6_readFact_114 (by decide) ?_
            refine E_iadd (pc := 115) dX6_readFact_115 ?_
            refine E_Vv (pc := 116) (d2 := e_X6_readFact) (ci := 6) [.int (x2 + (1 : Int32))] dX6_readFact_116 ml_X6_85 mf_X6_readFact im_X6_readFact rfl rfl rfl q_X6_readFact (Nat.le_of_ble_eq_true rfl) (Nat.le_of_ble_eq_true rfl) rfl (fun _ h => h_X6_readFact h) hf (fun μ127 hf => ?_)
            refine E_aload_n (pc := 119) dX6_readFact_119 rfl ?_
            refine E_ldc (pc := 120) (v := (100012 : Int32)) dX6_readFact_120 co_X6_106 ?_
            refine E_Vv (pc := 122) (d2 := D_X6_emit) (ci := 6) [.int (100012 : Int32)] dX6_readFact_122 ml_X6_91 mf_X6_emit im_X6_emit rfl rfl rfl (Nat.lt_of_lt_of_le (by decide : D_X6_emit < 40) hD) (Nat.le_of_ble_eq_true rfl) (Nat.le_of_ble_eq_true rfl) rfl (fun _ h => f_X6_emit_ok h) hf (fun μ128 hf => ?_)
            refine E_goto (pc := 125) (tgt := 148) dX6_readFact_125 (by decide) ?_
            exact E_vret (pc := 148) dX6_readFact_148 rfl hf
        · refine E_aload_n (pc := 70) dX6_readFact_70 rfl ?_
          refine E_iload_n (pc := 71) dX6_readFact_71 rfl ?_
          refine E_iconst (pc := 72) (v := (1 : Int32)) dX6_readFact_72 (by decide) ?_
          refine E_iadd (pc := 73) dX6_readFact_73 ?_
          refine E_Vv (pc := 74) (d2 := e_X6_readTest) (ci := 6) [.int (x2 + (1 : Int32))] dX6_readFact_74 ml_X6_81 mf_X6_readTest im_X6_readTest rfl rfl rfl q_X6_readTest (Nat.le_of_ble_eq_true rfl) (Nat.le_of_ble_eq_true rfl) rfl (fun _ h => h_X6_readTest h) hf (fun μ129 hf => ?_)
          refine E_aload_n (pc := 77) dX6_readFact_77 rfl ?_
          refine E_getR (pc := 78) dX6_readFact_78 fl_X6_37 hf (fun v130 hf => ?_)
          refine E_bipush (pc := 81) (v := (93 : Int32)) dX6_readFact_81 (by decide) ?_
          refine E_Vi (pc := 83) (d2 := D_X9_takesByte) (ci := 9) [.int (93 : Int32)] dX6_readFact_83 ml_X6_97 mf_X9_takesByte im_X9_takesByte rfl rfl rfl (Nat.lt_of_lt_of_le (by decide : D_X9_takesByte < 40) hD) (Nat.le_of_ble_eq_true rfl) (Nat.le_of_ble_eq_true rfl) rfl (fun _ _ h => f_X9_takesByte_ok h) hf (fun v132 μ131 hf => ?_)
          refine E_if_ne (pc := 86) (tgt := 148) dX6_readFact_86 (by decide) hf (fun hf => ?_) (fun hf => ?_)
          · refine E_aload_n (pc := 89) dX6_readFact_89 rfl ?_
            refine E_getR (pc := 90) dX6_readFact_90 fl_X6_37 hf (fun v133 hf => ?_)
            refine E_aload_n (pc := 93) dX6_readFact_93 rfl ?_
            refine E_getR (pc := 94) dX6_readFact_94 fl_X6_37 hf (fun v134 hf => ?_)
            refine E_getI (pc := 97) dX6_readFact_97 fl_X6_103 hf (fun v135 hf => ?_)
            refine E_iconst (pc := 100) (v := (0 : Int32)) dX6_readFact_100 (by decide) ?_
            refine E_Vv (pc := 101) (d2 := D_X9_fail) (ci := 9) [.int v135, .int (0 : Int32)] dX6_readFact_101 ml_X6_66 mf_X9_fail im_X9_fail rfl rfl rfl (Nat.lt_of_lt_of_le (by decide : D_X9_fail < 40) hD) (Nat.le_of_ble_eq_true rfl) (Nat.le_of_ble_eq_true rfl) rfl (fun _ h => f_X9_fail_ok h) hf (fun μ136 hf => ?_)
            refine E_goto (pc := 104) (tgt := 148) dX6_readFact_104 (by decide) ?_
            exact E_vret (pc := 148) dX6_readFact_148 rfl hf
          · exact E_vret (pc := 148) dX6_readFact_148 rfl hf
      · refine E_iload_n (pc := 50) dX6_readFact_50 rfl ?_
        refine E_bipush (pc := 51) (v := (10 : Int32)) dX6_readFact_51 (by decide) ?_
        refine E_icmp_lt (pc := 53) (tgt := 66) dX6_readFact_53 (by decide) hf (fun hf => ?_) (fun hf => ?_)
        · refine E_iload_n (pc := 66) dX6_readFact_66 rfl ?_
          refine E_if_eq (pc := 67) (tgt := 107) dX6_readFact_67 (by decide) hf (fun hf => ?_) (fun hf => ?_)
          · refine E_iload (pc := 107) dX6_readFact_107 rfl ?_
            refine E_if_eq (pc := 109) (tgt := 128) dX6_readFact_109 (by decide) hf (fun hf => ?_) (fun hf => ?_)
            · refine E_aload_n (pc := 128) dX6_readFact_128 rfl ?_
              refine E_Vv (pc := 129) (d2 := D_X6_readSum) (ci := 6) [] dX6_readFact_129 ml_X6_72 mf_X6_readSum im_X6_readSum rfl rfl rfl (Nat.lt_of_lt_of_le (by decide : D_X6_readSum < 40) hD) (Nat.le_of_ble_eq_true rfl) (Nat.le_of_ble_eq_true rfl) rfl (fun _ h => f_X6_readSum_ok h) hf (fun μ137 hf => ?_)
              refine E_aload_n (pc := 132) dX6_readFact_132 rfl ?_
              refine E_Vi (pc := 133) (d2 := D_X6_readSign) (ci := 6) [] dX6_readFact_133 ml_X6_107 mf_X6_readSign im_X6_readSign rfl rfl rfl (Nat.lt_of_lt_of_le (by decide : D_X6_readSign < 40) hD) (Nat.le_of_ble_eq_true rfl) (Nat.le_of_ble_eq_true rfl) rfl (fun _ _ h => f_X6_readSign_ok h) hf (fun v139 μ138 hf => ?_)
              refine E_istore (pc := 136) (ls' := fun x140 => [(5, .int x140), (4, .int x120), (3, .int x10), (2, .int x6), (0, .ref a1), (1, .int x2)]) dX6_readFact_136 (by decide) (fun _ => rfl) hf (fun x140 hf => ?_)
              refine E_aload_n (pc := 138) dX6_readFact_138 rfl ?_
              refine E_Vv (pc := 139) (d2 := D_X6_readSum) (ci := 6) [] dX6_readFact_139 ml_X6_72 mf_X6_readSum im_X6_readSum rfl rfl rfl (Nat.lt_of_lt_of_le (by decide : D_X6_readSum < 40) hD) (Nat.le_of_ble_eq_true rfl) (Nat.le_of_ble_eq_true rfl) rfl (fun _ h => f_X6_readSum_ok h) hf (fun μ141 hf => ?_)
              refine E_aload_n (pc := 142) dX6_readFact_142 rfl ?_
              refine E_iload (pc := 143) dX6_readFact_143 rfl ?_
              refine E_Vv (pc := 145) (d2 := D_X6_emit) (ci := 6) [.int x140] dX6_readFact_145 ml_X6_91 mf_X6_emit im_X6_emit rfl rfl rfl (Nat.lt_of_lt_of_le (by decide : D_X6_emit < 40) hD) (Nat.le_of_ble_eq_true rfl) (Nat.le_of_ble_eq_true rfl) rfl (fun _ h => f_X6_emit_ok h) hf (fun μ142 hf => ?_)
              exact E_vret (pc := 148) dX6_readFact_148 rfl hf
            · refine E_aload_n (pc := 112) dX6_readFact_112 rfl ?_
              refine E_iload_n (pc := 113) dX6_readFact_113 rfl ?_
              refine E_iconst (pc := 114) (v := (1 : Int32)) dX6_readFact_114 (by decide) ?_
              refine E_iadd (pc := 115) dX6_readFact_115 ?_
              refine E_Vv (pc := 116) (d2 := e_X6_readFact) (ci := 6) [.int (x2 + (1 : Int32))] dX6_readFact_116 ml_X6_85 mf_X6_readFact im_X6_readFact rfl rfl rfl q_X6_readFact (Nat.le_of_ble_eq_true rfl) (Nat.le_of_ble_eq_true rfl) rfl (fun _ h => h_X6_readFact h) hf (fun μ143 hf => ?_)
              refine E_aload_n (pc := 119) dX6_readFact_119 rfl ?_
              refine E_ldc (pc := 120) (v := (100012 : Int32)) dX6_readFact_120 co_X6_106 ?_
              refine E_Vv (pc := 122) (d2 := D_X6_emit) (ci := 6) [.int (100012 : Int32)] dX6_readFact_122 ml_X6_91 mf_X6_emit im_X6_emit rfl rfl rfl (Nat.lt_of_lt_of_le (by decide : D_X6_emit < 40) hD) (Nat.le_of_ble_eq_true rfl) (Nat.le_of_ble_eq_true rfl) rfl (fun _ h => f_X6_emit_ok h) hf (fun μ144 hf => ?_)
              refine E_goto (pc := 125) (tgt := 148) dX6_readFact_125 (by decide) ?_
              exact E_vret (pc := 148) dX6_readFact_148 rfl hf
          · refine E_aload_n (pc := 70) dX6_readFact_70 rfl ?_
            refine E_iload_n (pc := 71) dX6_readFact_71 rfl ?_
            refine E_iconst (pc := 72) (v := (1 : Int32)) dX6_readFact_72 (by decide) ?_
            refine E_iadd (pc := 73) dX6_readFact_73 ?_
            refine E_Vv (pc := 74) (d2 := e_X6_readTest) (ci := 6) [.int (x2 + (1 : Int32))] dX6_readFact_74 ml_X6_81 mf_X6_readTest im_X6_readTest rfl rfl rfl q_X6_readTest (Nat.le_of_ble_eq_true rfl) (Nat.le_of_ble_eq_true rfl) rfl (fun _ h => h_X6_readTest h) hf (fun μ145 hf => ?_)
            refine E_aload_n (pc := 77) dX6_readFact_77 rfl ?_
            refine E_getR (pc := 78) dX6_readFact_78 fl_X6_37 hf (fun v146 hf => ?_)
            refine E_bipush (pc := 81) (v := (93 : Int32)) dX6_readFact_81 (by decide) ?_
            refine E_Vi (pc := 83) (d2 := D_X9_takesByte) (ci := 9) [.int (93 : Int32)] dX6_readFact_83 ml_X6_97 mf_X9_takesByte im_X9_takesByte rfl rfl rfl (Nat.lt_of_lt_of_le (by decide : D_X9_takesByte < 40) hD) (Nat.le_of_ble_eq_true rfl) (Nat.le_of_ble_eq_true rfl) rfl (fun _ _ h => f_X9_takesByte_ok h) hf (fun v148 μ147 hf => ?_)
            refine E_if_ne (pc := 86) (tgt := 148) dX6_readFact_86 (by decide) hf (fun hf => ?_) (fun hf => ?_)
            · refine E_aload_n (pc := 89) dX6_readFact_89 rfl ?_
              refine E_getR (pc := 90) dX6_readFact_90 fl_X6_37 hf (fun v149 hf => ?_)
              refine E_aload_n (pc := 93) dX6_readFact_93 rfl ?_
              refine E_getR (pc := 94) dX6_readFact_94 fl_X6_37 hf (fun v150 hf => ?_)
              refine E_getI (pc := 97) dX6_readFact_97 fl_X6_103 hf (fun v151 hf => ?_)
              refine E_iconst (pc := 100) (v := (0 : Int32)) dX6_readFact_100 (by decide) ?_
              refine E_Vv (pc := 101) (d2 := D_X9_fail) (ci := 9) [.int v151, .int (0 : Int32)] dX6_readFact_101 ml_X6_66 mf_X9_fail im_X9_fail rfl rfl rfl (Nat.lt_of_lt_of_le (by decide : D_X9_fail < 40) hD) (Nat.le_of_ble_eq_true rfl) (Nat.le_of_ble_eq_true rfl) rfl (fun _ h => f_X9_fail_ok h) hf (fun μ152 hf => ?_)
              refine E_goto (pc := 104) (tgt := 148) dX6_readFact_104 (by decide) ?_
              exact E_vret (pc := 148) dX6_readFact_148 rfl hf
            · exact E_vret (pc := 148) dX6_readFact_148 rfl hf
        · refine E_aload_n (pc := 56) dX6_readFact_56 rfl ?_
          refine E_getR (pc := 57) dX6_readFact_57 fl_X6_37 hf (fun v153 hf => ?_)
          refine E_iload_n (pc := 60) dX6_readFact_60 rfl ?_
          refine E_iconst (pc := 61) (v := (2 : Int32)) dX6_readFact_61 (by decide) ?_
          refine E_Vv (pc := 62) (d2 := D_X9_fail) (ci := 9) [.int x6, .int (2 : Int32)] dX6_readFact_62 ml_X6_66 mf_X9_fail im_X9_fail rfl rfl rfl (Nat.lt_of_lt_of_le (by decide : D_X9_fail < 40) hD) (Nat.le_of_ble_eq_true rfl) (Nat.le_of_ble_eq_true rfl) rfl (fun _ h => f_X9_fail_ok h) hf (fun μ154 hf => ?_)
          exact E_vret (pc := 65) dX6_readFact_65 rfl hf
    · refine E_iload_n (pc := 50) dX6_readFact_50 rfl ?_
      refine E_bipush (pc := 51) (v := (10 : Int32)) dX6_readFact_51 (by decide) ?_
      refine E_icmp_lt (pc := 53) (tgt := 66) dX6_readFact_53 (by decide) hf (fun hf => ?_) (fun hf => ?_)
      · refine E_iload_n (pc := 66) dX6_readFact_66 rfl ?_
        refine E_if_eq (pc := 67) (tgt := 107) dX6_readFact_67 (by decide) hf (fun hf => ?_) (fun hf => ?_)
        · refine E_iload (pc := 107) dX6_readFact_107 rfl ?_
          refine E_if_eq (pc := 109) (tgt := 128) dX6_readFact_109 (by decide) hf (fun hf => ?_) (fun hf => ?_)
          · refine E_aload_n (pc := 128) dX6_readFact_128 rfl ?_
            refine E_Vv (pc := 129) (d2 := D_X6_readSum) (ci := 6) [] dX6_readFact_129 ml_X6_72 mf_X6_readSum im_X6_readSum rfl rfl rfl (Nat.lt_of_lt_of_le (by decide : D_X6_readSum < 40) hD) (Nat.le_of_ble_eq_true rfl) (Nat.le_of_ble_eq_true rfl) rfl (fun _ h => f_X6_readSum_ok h) hf (fun μ155 hf => ?_)
            refine E_aload_n (pc := 132) dX6_readFact_132 rfl ?_
            refine E_Vi (pc := 133) (d2 := D_X6_readSign) (ci := 6) [] dX6_readFact_133 ml_X6_107 mf_X6_readSign im_X6_readSign rfl rfl rfl (Nat.lt_of_lt_of_le (by decide : D_X6_readSign < 40) hD) (Nat.le_of_ble_eq_true rfl) (Nat.le_of_ble_eq_true rfl) rfl (fun _ _ h => f_X6_readSign_ok h) hf (fun v157 μ156 hf => ?_)
            refine E_istore (pc := 136) (ls' := fun x158 => [(5, .int x158), (4, .int x120), (3, .int x10), (2, .int x6), (0, .ref a1), (1, .int x2)]) dX6_readFact_136 (by decide) (fun _ => rfl) hf (fun x158 hf => ?_)
            refine E_aload_n (pc := 138) dX6_readFact_138 rfl ?_
            refine E_Vv (pc := 139) (d2 := D_X6_readSum) (ci := 6) [] dX6_readFact_139 ml_X6_72 mf_X6_readSum im_X6_readSum rfl rfl rfl (Nat.lt_of_lt_of_le (by decide : D_X6_readSum < 40) hD) (Nat.le_of_ble_eq_true rfl) (Nat.le_of_ble_eq_true rfl) rfl (fun _ h => f_X6_readSum_ok h) hf (fun μ159 hf => ?_)
            refine E_aload_n (pc := 142) dX6_readFact_142 rfl ?_
            refine E_iload (pc := 143) dX6_readFact_143 rfl ?_
            refine E_Vv (pc := 145) (d2 := D_X6_emit) (ci := 6) [.int x158] dX6_readFact_145 ml_X6_91 mf_X6_emit im_X6_emit rfl rfl rfl (Nat.lt_of_lt_of_le (by decide : D_X6_emit < 40) hD) (Nat.le_of_ble_eq_true rfl) (Nat.le_of_ble_eq_true rfl) rfl (fun _ h => f_X6_emit_ok h) hf (fun μ160 hf => ?_)
            exact E_vret (pc := 148) dX6_readFact_148 rfl hf
          · refine E_aload_n (pc := 112) dX6_readFact_112 rfl ?_
            refine E_iload_n (pc := 113) dX6_readFact_113 rfl ?_
            refine E_iconst (pc := 114) (v := (1 : Int32)) dX6_readFact_114 (by decide) ?_
            refine E_iadd (pc := 115) dX6_readFact_115 ?_
            refine E_Vv (pc := 116) (d2 := e_X6_readFact) (ci := 6) [.int (x2 + (1 : Int32))] dX6_readFact_116 ml_X6_85 mf_X6_readFact im_X6_readFact rfl rfl rfl q_X6_readFact (Nat.le_of_ble_eq_true rfl) (Nat.le_of_ble_eq_true rfl) rfl (fun _ h => h_X6_readFact h) hf (fun μ161 hf => ?_)
            refine E_aload_n (pc := 119) dX6_readFact_119 rfl ?_
            refine E_ldc (pc := 120) (v := (100012 : Int32)) dX6_readFact_120 co_X6_106 ?_
            refine E_Vv (pc := 122) (d2 := D_X6_emit) (ci := 6) [.int (100012 : Int32)] dX6_readFact_122 ml_X6_91 mf_X6_emit im_X6_emit rfl rfl rfl (Nat.lt_of_lt_of_le (by decide : D_X6_emit < 40) hD) (Nat.le_of_ble_eq_true rfl) (Nat.le_of_ble_eq_true rfl) rfl (fun _ h => f_X6_emit_ok h) hf (fun μ162 hf => ?_)
            refine E_goto (pc := 125) (tgt := 148) dX6_readFact_125 (by decide) ?_
            exact E_vret (pc := 148) dX6_readFact_148 rfl hf
        · refine E_aload_n (pc := 70) dX6_readFact_70 rfl ?_
          refine E_iload_n (pc := 71) dX6_readFact_71 rfl ?_
          refine E_iconst (pc := 72) (v := (1 : Int32)) dX6_readFact_72 (by decide) ?_
          refine E_iadd (pc := 73) dX6_readFact_73 ?_
          refine E_Vv (pc := 74) (d2 := e_X6_readTest) (ci := 6) [.int (x2 + (1 : Int32))] dX6_readFact_74 ml_X6_81 mf_X6_readTest im_X6_readTest rfl rfl rfl q_X6_readTest (Nat.le_of_ble_eq_true rfl) (Nat.le_of_ble_eq_true rfl) rfl (fun _ h => h_X6_readTest h) hf (fun μ163 hf => ?_)
          refine E_aload_n (pc := 77) dX6_readFact_77 rfl ?_
          refine E_getR (pc := 78) dX6_readFact_78 fl_X6_37 hf (fun v164 hf => ?_)
          refine E_bipush (pc := 81) (v := (93 : Int32)) dX6_readFact_81 (by decide) ?_
          refine E_Vi (pc := 83) (d2 := D_X9_takesByte) (ci := 9) [.int (93 : Int32)] dX6_readFact_83 ml_X6_97 mf_X9_takesByte im_X9_takesByte rfl rfl rfl (Nat.lt_of_lt_of_le (by decide : D_X9_takesByte < 40) hD) (Nat.le_of_ble_eq_true rfl) (Nat.le_of_ble_eq_true rfl) rfl (fun _ _ h => f_X9_takesByte_ok h) hf (fun v166 μ165 hf => ?_)
          refine E_if_ne (pc := 86) (tgt := 148) dX6_readFact_86 (by decide) hf (fun hf => ?_) (fun hf => ?_)
          · refine E_aload_n (pc := 89) dX6_readFact_89 rfl ?_
            refine E_getR (pc := 90) dX6_readFact_90 fl_X6_37 hf (fun v167 hf => ?_)
            refine E_aload_n (pc := 93) dX6_readFact_93 rfl ?_
            refine E_getR (pc := 94) dX6_readFact_94 fl_X6_37 hf (fun v168 hf => ?_)
            refine E_getI (pc := 97) dX6_readFact_97 fl_X6_103 hf (fun v169 hf => ?_)
            refine E_iconst (pc := 100) (v := (0 : Int32)) dX6_readFact_100 (by decide) ?_
            refine E_Vv (pc := 101) (d2 := D_X9_fail) (ci := 9) [.int v169, .int (0 : Int32)] dX6_readFact_101 ml_X6_66 mf_X9_fail im_X9_fail rfl rfl rfl (Nat.lt_of_lt_of_le (by decide : D_X9_fail < 40) hD) (Nat.le_of_ble_eq_true rfl) (Nat.le_of_ble_eq_true rfl) rfl (fun _ h => f_X9_fail_ok h) hf (fun μ170 hf => ?_)
            refine E_goto (pc := 104) (tgt := 148) dX6_readFact_104 (by decide) ?_
            exact E_vret (pc := 148) dX6_readFact_148 rfl hf
          · exact E_vret (pc := 148) dX6_readFact_148 rfl hf
      · refine E_aload_n (pc := 56) dX6_readFact_56 rfl ?_
        refine E_getR (pc := 57) dX6_readFact_57 fl_X6_37 hf (fun v171 hf => ?_)
        refine E_iload_n (pc := 60) dX6_readFact_60 rfl ?_
        refine E_iconst (pc := 61) (v := (2 : Int32)) dX6_readFact_61 (by decide) ?_
        refine E_Vv (pc := 62) (d2 := D_X9_fail) (ci := 9) [.int x6, .int (2 : Int32)] dX6_readFact_62 ml_X6_66 mf_X9_fail im_X9_fail rfl rfl rfl (Nat.lt_of_lt_of_le (by decide : D_X9_fail < 40) hD) (Nat.le_of_ble_eq_true rfl) (Nat.le_of_ble_eq_true rfl) rfl (fun _ h => f_X9_fail_ok h) hf (fun μ172 hf => ?_)
        exact E_vret (pc := 65) dX6_readFact_65 rfl hf
theorem dX6_readTest_0 : decode cX6_readTest 0 = .ok (.aload_n 0, 1) := by decide +kernel
theorem dX6_readTest_1 : decode cX6_readTest 1 = .ok (.iload_n 1, 1) := by decide +kernel
theorem dX6_readTest_2 : decode cX6_readTest 2 = .ok (.invokevirtual 85, 3) := by decide +kernel
theorem dX6_readTest_5 : decode cX6_readTest 5 = .ok (.iconst 0, 1) := by decide +kernel
theorem dX6_readTest_6 : decode cX6_readTest 6 = .ok (.istore_n 2, 1) := by decide +kernel
theorem dX6_readTest_7 : decode cX6_readTest 7 = .ok (.iconst 0, 1) := by decide +kernel
theorem dX6_readTest_8 : decode cX6_readTest 8 = .ok (.istore_n 3, 1) := by decide +kernel
theorem dX6_readTest_9 : decode cX6_readTest 9 = .ok (.iload_n 3, 1) := by decide +kernel
theorem dX6_readTest_10 : decode cX6_readTest 10 = .ok (.sipush 400, 3) := by decide +kernel
theorem dX6_readTest_13 : decode cX6_readTest 13 = .ok (.if_icmp .ge 65, 3) := by decide +kernel
theorem dX6_readTest_16 : decode cX6_readTest 16 = .ok (.aload_n 0, 1) := by decide +kernel
theorem dX6_readTest_17 : decode cX6_readTest 17 = .ok (.getfield 37, 3) := by decide +kernel
theorem dX6_readTest_20 : decode cX6_readTest 20 = .ok (.ldc 88, 2) := by decide +kernel
theorem dX6_readTest_22 : decode cX6_readTest 22 = .ok (.invokevirtual 77, 3) := by decide +kernel
theorem dX6_readTest_25 : decode cX6_readTest 25 = .ok (.ifCond .eq 17, 3) := by decide +kernel
theorem dX6_readTest_28 : decode cX6_readTest 28 = .ok (.aload_n 0, 1) := by decide +kernel
theorem dX6_readTest_29 : decode cX6_readTest 29 = .ok (.iload_n 1, 1) := by decide +kernel
theorem dX6_readTest_30 : decode cX6_readTest 30 = .ok (.invokevirtual 85, 3) := by decide +kernel
theorem dX6_readTest_33 : decode cX6_readTest 33 = .ok (.aload_n 0, 1) := by decide +kernel
theorem dX6_readTest_34 : decode cX6_readTest 34 = .ok (.ldc 90, 2) := by decide +kernel
theorem dX6_readTest_36 : decode cX6_readTest 36 = .ok (.invokevirtual 91, 3) := by decide +kernel
theorem dX6_readTest_39 : decode cX6_readTest 39 = .ok (.goto 33, 3) := by decide +kernel
theorem dX6_readTest_42 : decode cX6_readTest 42 = .ok (.iload_n 2, 1) := by decide +kernel
theorem dX6_readTest_43 : decode cX6_readTest 43 = .ok (.ifCond .eq 9, 3) := by decide +kernel
theorem dX6_readTest_46 : decode cX6_readTest 46 = .ok (.aload_n 0, 1) := by decide +kernel
theorem dX6_readTest_47 : decode cX6_readTest 47 = .ok (.ldc 94, 2) := by decide +kernel
theorem dX6_readTest_49 : decode cX6_readTest 49 = .ok (.invokevirtual 91, 3) := by decide +kernel
theorem dX6_readTest_52 : decode cX6_readTest 52 = .ok (.aload_n 0, 1) := by decide +kernel
theorem dX6_readTest_53 : decode cX6_readTest 53 = .ok (.getfield 37, 3) := by decide +kernel
theorem dX6_readTest_56 : decode cX6_readTest 56 = .ok (.ldc 95, 2) := by decide +kernel
theorem dX6_readTest_58 : decode cX6_readTest 58 = .ok (.invokevirtual 77, 3) := by decide +kernel
theorem dX6_readTest_61 : decode cX6_readTest 61 = .ok (.ifCond .ne 4, 3) := by decide +kernel
theorem dX6_readTest_64 : decode cX6_readTest 64 = .ok (.return_, 1) := by decide +kernel
theorem dX6_readTest_65 : decode cX6_readTest 65 = .ok (.iconst 1, 1) := by decide +kernel
theorem dX6_readTest_66 : decode cX6_readTest 66 = .ok (.istore_n 2, 1) := by decide +kernel
theorem dX6_readTest_67 : decode cX6_readTest 67 = .ok (.aload_n 0, 1) := by decide +kernel
theorem dX6_readTest_68 : decode cX6_readTest 68 = .ok (.iload_n 1, 1) := by decide +kernel
theorem dX6_readTest_69 : decode cX6_readTest 69 = .ok (.invokevirtual 85, 3) := by decide +kernel
theorem dX6_readTest_72 : decode cX6_readTest 72 = .ok (.iinc 3 1, 3) := by decide +kernel
theorem dX6_readTest_75 : decode cX6_readTest 75 = .ok (.goto (-66), 3) := by decide +kernel
theorem dX6_readTest_78 : decode cX6_readTest 78 = .ok (.return_, 1) := by decide +kernel
def o_X6_readTest_L9 (S_X6_readFact : Mm → Nat → Int32 → Option Mm) (K64 : Mm → Option Mm) (K78 : Mm → Option Mm) : Nat → Mm → Nat → Int32 → Int32 → Int32 → Option Mm
  | 0, _, _, _, _, _ => none
  | n + 1, μ0, a6, x7, x8, x9 =>
    (if (400 : Int32) ≤ x9 then
    K78 μ0
    else
    ((gR μ0 a6 6 0).bind fun v10 =>
    ((ob μ0 v10 9).bind fun _ =>
    (bd (f_X9_takesWord μ0 v10 (7 : Nat)) fun v12 μ11 =>
    (if v12 = 0 then
    (if x8 = 0 then
    ((gR μ11 a6 6 0).bind fun v13 =>
    ((ob μ11 v13 9).bind fun _ =>
    (bd (f_X9_takesWord μ11 v13 (8 : Nat)) fun v15 μ14 =>
    (if v15 = 0 then
    K64 μ14
    else
    (nm (1 : Int32) fun x16 =>
    ((ob μ14 a6 6).bind fun _ =>
    ((S_X6_readFact μ14 a6 x7).bind fun μ17 =>
    (nm (x9 + Int32.ofInt (1)) fun x18 =>
    o_X6_readTest_L9 S_X6_readFact K64 K78 n μ17 a6 x7 x16 x18))))))))
    else
    ((ob μ11 a6 6).bind fun _ =>
    ((f_X6_emit μ11 a6 (100014 : Int32)).bind fun μ19 =>
    ((gR μ19 a6 6 0).bind fun v20 =>
    ((ob μ19 v20 9).bind fun _ =>
    (bd (f_X9_takesWord μ19 v20 (8 : Nat)) fun v22 μ21 =>
    (if v22 = 0 then
    K64 μ21
    else
    (nm (1 : Int32) fun x23 =>
    ((ob μ21 a6 6).bind fun _ =>
    ((S_X6_readFact μ21 a6 x7).bind fun μ24 =>
    (nm (x9 + Int32.ofInt (1)) fun x25 =>
    o_X6_readTest_L9 S_X6_readFact K64 K78 n μ24 a6 x7 x23 x25)))))))))))
    else
    ((ob μ11 a6 6).bind fun _ =>
    ((S_X6_readFact μ11 a6 x7).bind fun μ26 =>
    ((ob μ26 a6 6).bind fun _ =>
    ((f_X6_emit μ26 a6 (100013 : Int32)).bind fun μ27 =>
    (nm (x9 + Int32.ofInt (1)) fun x28 =>
    o_X6_readTest_L9 S_X6_readFact K64 K78 n μ27 a6 x7 x8 x28))))))))))
set_option maxHeartbeats 4000000 in
set_option maxRecDepth 100000 in
theorem o_X6_readTest_L9_ok {l : Launch} {G : GG} {D : Nat} (hD : 40 ≤ D) {S_X6_readFact : Mm → Nat → Int32 → Option Mm} {e_X6_readFact : Nat} (q_X6_readFact : e_X6_readFact < D) (h_X6_readFact : ∀ {μ1 : Mm} {z0 z1 : _} {μ2 : _}, S_X6_readFact μ1 z0 z1 = some μ2 → EvM l G e_X6_readFact yX6_readFact cX6_readFact 6 none [.ref z0, .int z1] μ1 none μ2) {K64 : Mm → Option Mm} {K78 : Mm → Option Mm} {μ' : Mm} (n : Nat) (μ0 : Mm) (a6 : Nat) (x7 : Int32) (x8 : Int32) (x9 : Int32) (hf : o_X6_readTest_L9 S_X6_readFact K64 K78 n μ0 a6 x7 x8 x9 = some μ') (hK64 : ∀ (μ1 : Mm), K64 μ1  = some μ' → Ev l G D yX6_readTest cX6_readTest 4 none 64 [] [] μ1 none μ') (hK78 : ∀ (μ1 : Mm), K78 μ1  = some μ' → Ev l G D yX6_readTest cX6_readTest 4 none 78 [] [] μ1 none μ') : Ev l G D yX6_readTest cX6_readTest 4 none 9 [(0, .ref a6), (1, .int x7), (2, .int x8), (3, .int x9)] [] μ0 none μ' := by
  induction n generalizing μ0 a6 x7 x8 x9 with
  | zero => cases hf
  | succ n ih0 =>
    have ih : ∀ (μ0 : Mm) (a6 : Nat) (x7 : Int32) (x8 : Int32) (x9 : Int32), o_X6_readTest_L9 S_X6_readFact K64 K78 n μ0 a6 x7 x8 x9 = some μ' → Ev l G D yX6_readTest cX6_readTest 4 none 9 [(0, .ref a6), (1, .int x7), (2, .int x8), (3, .int x9)] [] μ0 none μ' := fun μ0 a6 x7 x8 x9 hf => ih0 μ0 a6 x7 x8 x9 hf
    rw [o_X6_readTest_L9] at hf
    refine E_iload_n (pc := 9) dX6_readTest_9 rfl ?_
    refine E_sipush (pc := 10) (v := (400 : Int32)) dX6_readTest_10 (by decide) ?_
    refine E_icmp_ge (pc := 13) (tgt := 78) dX6_readTest_13 (by decide) hf (fun hf => ?_) (fun hf => ?_)
    · refine Ev.sub [] rfl ?_
      exact hK78 _ hf
    · refine E_aload_n (pc := 16) dX6_readTest_16 rfl ?_
      refine E_getR (pc := 17) dX6_readTest_17 fl_X6_37 hf (fun v10 hf => ?_)
      refine E_ldcS (pc := 20) (7 : Nat) dX6_readTest_20 (by decide) ⟨rfl, rfl⟩ ?_
      refine E_Vi (pc := 22) (d2 := D_X9_takesWord) (ci := 9) [.ref (7 : Nat)] dX6_readTest_22 ml_X6_77 mf_X9_takesWord im_X9_takesWord rfl rfl rfl (Nat.lt_of_lt_of_le (by decide : D_X9_takesWord < 40) hD) (Nat.le_of_ble_eq_true rfl) (Nat.le_of_ble_eq_true rfl) rfl (fun _ _ h => f_X9_takesWord_ok h) hf (fun v12 μ11 hf => ?_)
      refine E_if_eq (pc := 25) (tgt := 42) dX6_readTest_25 (by decide) hf (fun hf => ?_) (fun hf => ?_)
      · refine E_iload_n (pc := 42) dX6_readTest_42 rfl ?_
        refine E_if_eq (pc := 43) (tgt := 52) dX6_readTest_43 (by decide) hf (fun hf => ?_) (fun hf => ?_)
        · refine E_aload_n (pc := 52) dX6_readTest_52 rfl ?_
          refine E_getR (pc := 53) dX6_readTest_53 fl_X6_37 hf (fun v13 hf => ?_)
          refine E_ldcS (pc := 56) (8 : Nat) dX6_readTest_56 (by decide) ⟨rfl, rfl⟩ ?_
          refine E_Vi (pc := 58) (d2 := D_X9_takesWord) (ci := 9) [.ref (8 : Nat)] dX6_readTest_58 ml_X6_77 mf_X9_takesWord im_X9_takesWord rfl rfl rfl (Nat.lt_of_lt_of_le (by decide : D_X9_takesWord < 40) hD) (Nat.le_of_ble_eq_true rfl) (Nat.le_of_ble_eq_true rfl) rfl (fun _ _ h => f_X9_takesWord_ok h) hf (fun v15 μ14 hf => ?_)
          refine E_if_ne (pc := 61) (tgt := 65) dX6_readTest_61 (by decide) hf (fun hf => ?_) (fun hf => ?_)
          · refine Ev.sub [] rfl ?_
            exact hK64 _ hf
          · refine E_iconst (pc := 65) (v := (1 : Int32)) dX6_readTest_65 (by decide) ?_
            refine E_istore_n (pc := 66) (ls' := fun x16 => [(2, .int x16), (0, .ref a6), (1, .int x7), (3, .int x9)]) dX6_readTest_66 (by decide) (fun _ => rfl) hf (fun x16 hf => ?_)
            refine E_aload_n (pc := 67) dX6_readTest_67 rfl ?_
            refine E_iload_n (pc := 68) dX6_readTest_68 rfl ?_
            refine E_Vv (pc := 69) (d2 := e_X6_readFact) (ci := 6) [.int x7] dX6_readTest_69 ml_X6_85 mf_X6_readFact im_X6_readFact rfl rfl rfl q_X6_readFact (Nat.le_of_ble_eq_true rfl) (Nat.le_of_ble_eq_true rfl) rfl (fun _ h => h_X6_readFact h) hf (fun μ17 hf => ?_)
            refine E_iinc (pc := 72) (ls' := fun x18 => [(3, .int x18), (2, .int x16), (0, .ref a6), (1, .int x7)]) dX6_readTest_72 rfl (by decide) (fun _ => rfl) hf (fun x18 hf => ?_)
            refine E_goto (pc := 75) (tgt := 9) dX6_readTest_75 (by decide) ?_
            refine Ev.sub [2, 3, 1, 0] rfl ?_
            exact ih _ _ _ _ _ hf
        · refine E_aload_n (pc := 46) dX6_readTest_46 rfl ?_
          refine E_ldc (pc := 47) (v := (100014 : Int32)) dX6_readTest_47 co_X6_94 ?_
          refine E_Vv (pc := 49) (d2 := D_X6_emit) (ci := 6) [.int (100014 : Int32)] dX6_readTest_49 ml_X6_91 mf_X6_emit im_X6_emit rfl rfl rfl (Nat.lt_of_lt_of_le (by decide : D_X6_emit < 40) hD) (Nat.le_of_ble_eq_true rfl) (Nat.le_of_ble_eq_true rfl) rfl (fun _ h => f_X6_emit_ok h) hf (fun μ19 hf => ?_)
          refine E_aload_n (pc := 52) dX6_readTest_52 rfl ?_
          refine E_getR (pc := 53) dX6_readTest_53 fl_X6_37 hf (fun v20 hf => ?_)
          refine E_ldcS (pc := 56) (8 : Nat) dX6_readTest_56 (by decide) ⟨rfl, rfl⟩ ?_
          refine E_Vi (pc := 58) (d2 := D_X9_takesWord) (ci := 9) [.ref (8 : Nat)] dX6_readTest_58 ml_X6_77 mf_X9_takesWord im_X9_takesWord rfl rfl rfl (Nat.lt_of_lt_of_le (by decide : D_X9_takesWord < 40) hD) (Nat.le_of_ble_eq_true rfl) (Nat.le_of_ble_eq_true rfl) rfl (fun _ _ h => f_X9_takesWord_ok h) hf (fun v22 μ21 hf => ?_)
          refine E_if_ne (pc := 61) (tgt := 65) dX6_readTest_61 (by decide) hf (fun hf => ?_) (fun hf => ?_)
          · refine Ev.sub [] rfl ?_
            exact hK64 _ hf
          · refine E_iconst (pc := 65) (v := (1 : Int32)) dX6_readTest_65 (by decide) ?_
            refine E_istore_n (pc := 66) (ls' := fun x23 => [(2, .int x23), (0, .ref a6), (1, .int x7), (3, .int x9)]) dX6_readTest_66 (by decide) (fun _ => rfl) hf (fun x23 hf => ?_)
            refine E_aload_n (pc := 67) dX6_readTest_67 rfl ?_
            refine E_iload_n (pc := 68) dX6_readTest_68 rfl ?_
            refine E_Vv (pc := 69) (d2 := e_X6_readFact) (ci := 6) [.int x7] dX6_readTest_69 ml_X6_85 mf_X6_readFact im_X6_readFact rfl rfl rfl q_X6_readFact (Nat.le_of_ble_eq_true rfl) (Nat.le_of_ble_eq_true rfl) rfl (fun _ h => h_X6_readFact h) hf (fun μ24 hf => ?_)
            refine E_iinc (pc := 72) (ls' := fun x25 => [(3, .int x25), (2, .int x23), (0, .ref a6), (1, .int x7)]) dX6_readTest_72 rfl (by decide) (fun _ => rfl) hf (fun x25 hf => ?_)
            refine E_goto (pc := 75) (tgt := 9) dX6_readTest_75 (by decide) ?_
            refine Ev.sub [2, 3, 1, 0] rfl ?_
            exact ih _ _ _ _ _ hf
      · refine E_aload_n (pc := 28) dX6_readTest_28 rfl ?_
        refine E_iload_n (pc := 29) dX6_readTest_29 rfl ?_
        refine E_Vv (pc := 30) (d2 := e_X6_readFact) (ci := 6) [.int x7] dX6_readTest_30 ml_X6_85 mf_X6_readFact im_X6_readFact rfl rfl rfl q_X6_readFact (Nat.le_of_ble_eq_true rfl) (Nat.le_of_ble_eq_true rfl) rfl (fun _ h => h_X6_readFact h) hf (fun μ26 hf => ?_)
        refine E_aload_n (pc := 33) dX6_readTest_33 rfl ?_
        refine E_ldc (pc := 34) (v := (100013 : Int32)) dX6_readTest_34 co_X6_90 ?_
        refine E_Vv (pc := 36) (d2 := D_X6_emit) (ci := 6) [.int (100013 : Int32)] dX6_readTest_36 ml_X6_91 mf_X6_emit im_X6_emit rfl rfl rfl (Nat.lt_of_lt_of_le (by decide : D_X6_emit < 40) hD) (Nat.le_of_ble_eq_true rfl) (Nat.le_of_ble_eq_true rfl) rfl (fun _ h => f_X6_emit_ok h) hf (fun μ27 hf => ?_)
        refine E_goto (pc := 39) (tgt := 72) dX6_readTest_39 (by decide) ?_
        refine E_iinc (pc := 72) (ls' := fun x28 => [(3, .int x28), (0, .ref a6), (1, .int x7), (2, .int x8)]) dX6_readTest_72 rfl (by decide) (fun _ => rfl) hf (fun x28 hf => ?_)
        refine E_goto (pc := 75) (tgt := 9) dX6_readTest_75 (by decide) ?_
        refine Ev.sub [1, 2, 3, 0] rfl ?_
        exact ih _ _ _ _ _ hf
set_option maxRecDepth 100000 in
def o_X6_readTest (S_X6_readFact : Mm → Nat → Int32 → Option Mm) (μ0 : Mm) (a1 : Nat) (x2 : Int32) : Option Mm :=
 ((ob μ0 a1 6).bind fun _ =>
    ((S_X6_readFact μ0 a1 x2).bind fun μ3 =>
    (nm (0 : Int32) fun x4 =>
    (nm (0 : Int32) fun x5 =>
    o_X6_readTest_L9 S_X6_readFact (fun μ29 =>
    (some μ29)) (fun μ30 =>
    (some μ30)) FU μ3 a1 x2 x4 x5))))
set_option maxHeartbeats 4000000 in
set_option maxRecDepth 100000 in
theorem o_X6_readTest_ok {l : Launch} {G : GG} {D : Nat} (hD : 40 ≤ D) {S_X6_readFact : Mm → Nat → Int32 → Option Mm} {e_X6_readFact : Nat} (q_X6_readFact : e_X6_readFact < D) (h_X6_readFact : ∀ {μ1 : Mm} {z0 z1 : _} {μ2 : _}, S_X6_readFact μ1 z0 z1 = some μ2 → EvM l G e_X6_readFact yX6_readFact cX6_readFact 6 none [.ref z0, .int z1] μ1 none μ2) {μ0 : Mm} {a1 : Nat} {x2 : Int32} {μ' : Mm} (hf : o_X6_readTest S_X6_readFact μ0 a1 x2 = some μ') : EvM l G D yX6_readTest cX6_readTest 4 none [.ref a1, .int x2] μ0 none μ' := by
  show Ev l G D yX6_readTest cX6_readTest 4 none 0 [(0, .ref a1), (1, .int x2)] [] μ0 none μ'
  unfold o_X6_readTest at hf
  refine E_aload_n (pc := 0) dX6_readTest_0 rfl ?_
  refine E_iload_n (pc := 1) dX6_readTest_1 rfl ?_
  refine E_Vv (pc := 2) (d2 := e_X6_readFact) (ci := 6) [.int x2] dX6_readTest_2 ml_X6_85 mf_X6_readFact im_X6_readFact rfl rfl rfl q_X6_readFact (Nat.le_of_ble_eq_true rfl) (Nat.le_of_ble_eq_true rfl) rfl (fun _ h => h_X6_readFact h) hf (fun μ3 hf => ?_)
  refine E_iconst (pc := 5) (v := (0 : Int32)) dX6_readTest_5 (by decide) ?_
  refine E_istore_n (pc := 6) (ls' := fun x4 => [(2, .int x4), (0, .ref a1), (1, .int x2)]) dX6_readTest_6 (by decide) (fun _ => rfl) hf (fun x4 hf => ?_)
  refine E_iconst (pc := 7) (v := (0 : Int32)) dX6_readTest_7 (by decide) ?_
  refine E_istore_n (pc := 8) (ls' := fun x5 => [(3, .int x5), (2, .int x4), (0, .ref a1), (1, .int x2)]) dX6_readTest_8 (by decide) (fun _ => rfl) hf (fun x5 hf => ?_)
  refine Ev.sub [2, 3, 1, 0] rfl ?_
  refine o_X6_readTest_L9_ok hD q_X6_readFact h_X6_readFact _ _ _ _ _ _ hf (fun μ29 hf => ?_) (fun μ30 hf => ?_)
  · exact E_vret (pc := 64) dX6_readTest_64 rfl hf
  · exact E_vret (pc := 78) dX6_readTest_78 rfl hf
/-- tests and facts within one another -/
def fTF : Nat → (Mm → Nat → Int32 → Option Mm) × (Mm → Nat → Int32 → Option Mm)
  | 0 => (fun _ _ _ => none, fun _ _ _ => none)
  | n + 1 => (o_X6_readTest (fTF n).2, o_X6_readFact (fTF n).1 (fTF n).2)
theorem fTF_ok {l : Launch} {G : GG} (n : Nat) : (∀ {μ1 : Mm} {z0 : Nat} {z1 : Int32} {μ2 : Mm}, (fTF n).1 μ1 z0 z1 = some μ2 → EvM l G (40 + n) yX6_readTest cX6_readTest 4 none [.ref z0, .int z1] μ1 none μ2) ∧ (∀ {μ1 : Mm} {z0 : Nat} {z1 : Int32} {μ2 : Mm}, (fTF n).2 μ1 z0 z1 = some μ2 → EvM l G (40 + n) yX6_readFact cX6_readFact 6 none [.ref z0, .int z1] μ1 none μ2) := by
  induction n with
  | zero => exact ⟨fun h => (by cases h), fun h => (by cases h)⟩
  | succ n ih =>
    have q : 40 + n < 40 + (n + 1) := by omega
    exact ⟨fun h => o_X6_readTest_ok (by omega) q (fun h => ih.2 h) h, fun h => o_X6_readFact_ok (by omega) q (fun h => ih.1 h) q (fun h => ih.2 h) h⟩
abbrev D_X6_readTest : Nat := 70
abbrev D_X6_readFact : Nat := 70
def f_X6_readTest : Mm → Nat → Int32 → Option Mm := (fTF 30).1
def f_X6_readFact : Mm → Nat → Int32 → Option Mm := (fTF 30).2
theorem f_X6_readTest_ok {l : Launch} {G : GG} {μ0 : Mm} {a1 : Nat} {x2 : Int32} {μ' : Mm} (hf : f_X6_readTest μ0 a1 x2 = some μ') : EvM l G D_X6_readTest yX6_readTest cX6_readTest 4 none [.ref a1, .int x2] μ0 none μ' := (fTF_ok 30).1 hf
theorem f_X6_readFact_ok {l : Launch} {G : GG} {μ0 : Mm} {a1 : Nat} {x2 : Int32} {μ' : Mm} (hf : f_X6_readFact μ0 a1 x2 = some μ') : EvM l G D_X6_readFact yX6_readFact cX6_readFact 6 none [.ref a1, .int x2] μ0 none μ' := (fTF_ok 30).2 hf
