theorem dX1_dropTo_0 : decode cX1_dropTo 0 = .ok (.aload_n 0, 1) := by decide +kernel
theorem dX1_dropTo_1 : decode cX1_dropTo 1 = .ok (.getfield 21, 3) := by decide +kernel
theorem dX1_dropTo_4 : decode cX1_dropTo 4 = .ok (.iload_n 1, 1) := by decide +kernel
theorem dX1_dropTo_5 : decode cX1_dropTo 5 = .ok (.iaload, 1) := by decide +kernel
theorem dX1_dropTo_6 : decode cX1_dropTo 6 = .ok (.aload_n 0, 1) := by decide +kernel
theorem dX1_dropTo_7 : decode cX1_dropTo 7 = .ok (.getfield 21, 3) := by decide +kernel
theorem dX1_dropTo_10 : decode cX1_dropTo 10 = .ok (.iload_n 2, 1) := by decide +kernel
theorem dX1_dropTo_11 : decode cX1_dropTo 11 = .ok (.iaload, 1) := by decide +kernel
theorem dX1_dropTo_12 : decode cX1_dropTo 12 = .ok (.isub, 1) := by decide +kernel
theorem dX1_dropTo_13 : decode cX1_dropTo 13 = .ok (.ireturn, 1) := by decide +kernel
abbrev D_X1_dropTo : Nat := 1
set_option maxRecDepth 100000 in
def f_X1_dropTo (μ0 : Mm) (a1 : Nat) (x2 : Int32) (x3 : Int32) : Option (Int32 × Mm) :=
 ((gR μ0 a1 1 3).bind fun v4 =>
    ((aI μ0 v4 0 x2).bind fun v5 =>
    ((gR μ0 a1 1 3).bind fun v6 =>
    ((aI μ0 v6 0 x3).bind fun v7 =>
    (some ((v5 - v7), μ0))))))
set_option maxHeartbeats 4000000 in
set_option maxRecDepth 100000 in
theorem f_X1_dropTo_ok {l : Launch} {G : GG} {μ0 : Mm} {a1 : Nat} {x2 : Int32} {x3 : Int32} {r : Int32} {μ' : Mm} (hf : f_X1_dropTo μ0 a1 x2 x3 = some (r, μ')) : EvM l G D_X1_dropTo yX1_dropTo cX1_dropTo 3 (some .int) [.ref a1, .int x2, .int x3] μ0 (some (.int r)) μ' := by
  show Ev l G D_X1_dropTo yX1_dropTo cX1_dropTo 3 (some .int) 0 [(0, .ref a1), (1, .int x2), (2, .int x3)] [] μ0 (some (.int r)) μ'
  unfold f_X1_dropTo at hf
  refine E_aload_n (pc := 0) dX1_dropTo_0 rfl ?_
  refine E_getR (pc := 1) dX1_dropTo_1 fl_X1_21 hf (fun v4 hf => ?_)
  refine E_iload_n (pc := 4) dX1_dropTo_4 rfl ?_
  refine E_iald (pc := 5) dX1_dropTo_5 hf (fun v5 hf => ?_)
  refine E_aload_n (pc := 6) dX1_dropTo_6 rfl ?_
  refine E_getR (pc := 7) dX1_dropTo_7 fl_X1_21 hf (fun v6 hf => ?_)
  refine E_iload_n (pc := 10) dX1_dropTo_10 rfl ?_
  refine E_iald (pc := 11) dX1_dropTo_11 hf (fun v7 hf => ?_)
  refine E_isub (pc := 12) dX1_dropTo_12 ?_
  exact E_iret (pc := 13) dX1_dropTo_13 rfl hf
theorem dX1_hasNet_0 : decode cX1_hasNet 0 = .ok (.aload_n 0, 1) := by decide +kernel
theorem dX1_hasNet_1 : decode cX1_hasNet 1 = .ok (.getfield 28, 3) := by decide +kernel
theorem dX1_hasNet_4 : decode cX1_hasNet 4 = .ok (.iload_n 1, 1) := by decide +kernel
theorem dX1_hasNet_5 : decode cX1_hasNet 5 = .ok (.lshr, 1) := by decide +kernel
theorem dX1_hasNet_6 : decode cX1_hasNet 6 = .ok (.lconst 1, 1) := by decide +kernel
theorem dX1_hasNet_7 : decode cX1_hasNet 7 = .ok (.land, 1) := by decide +kernel
theorem dX1_hasNet_8 : decode cX1_hasNet 8 = .ok (.lconst 0, 1) := by decide +kernel
theorem dX1_hasNet_9 : decode cX1_hasNet 9 = .ok (.lcmp, 1) := by decide +kernel
theorem dX1_hasNet_10 : decode cX1_hasNet 10 = .ok (.ifCond .eq 7, 3) := by decide +kernel
theorem dX1_hasNet_13 : decode cX1_hasNet 13 = .ok (.iconst 1, 1) := by decide +kernel
theorem dX1_hasNet_14 : decode cX1_hasNet 14 = .ok (.goto 4, 3) := by decide +kernel
theorem dX1_hasNet_17 : decode cX1_hasNet 17 = .ok (.iconst 0, 1) := by decide +kernel
theorem dX1_hasNet_18 : decode cX1_hasNet 18 = .ok (.ireturn, 1) := by decide +kernel
abbrev D_X1_hasNet : Nat := 1
set_option maxRecDepth 100000 in
def f_X1_hasNet (μ0 : Mm) (a1 : Nat) (x2 : Int32) : Option (Int32 × Mm) :=
 ((gL μ0 a1 1 5).bind fun v3 =>
    (if (lg_cmp ((v3 >>> ((x2).toInt64 &&& 63)) &&& (1 : Int64)) (0 : Int64)) = 0 then
    (if (0 : Int32) = 0 ∨ (0 : Int32) = 1 then some ((0 : Int32), μ0) else none)
    else
    (if (1 : Int32) = 0 ∨ (1 : Int32) = 1 then some ((1 : Int32), μ0) else none)))
set_option maxHeartbeats 4000000 in
set_option maxRecDepth 100000 in
theorem f_X1_hasNet_ok {l : Launch} {G : GG} {μ0 : Mm} {a1 : Nat} {x2 : Int32} {r : Int32} {μ' : Mm} (hf : f_X1_hasNet μ0 a1 x2 = some (r, μ')) : EvM l G D_X1_hasNet yX1_hasNet cX1_hasNet 2 (some .boolean) [.ref a1, .int x2] μ0 (some (.int r)) μ' := by
  show Ev l G D_X1_hasNet yX1_hasNet cX1_hasNet 2 (some .boolean) 0 [(0, .ref a1), (1, .int x2)] [] μ0 (some (.int r)) μ'
  unfold f_X1_hasNet at hf
  refine E_aload_n (pc := 0) dX1_hasNet_0 rfl ?_
  refine E_getL (pc := 1) dX1_hasNet_1 fl_X1_28 hf (fun v3 hf => ?_)
  refine E_iload_n (pc := 4) dX1_hasNet_4 rfl ?_
  refine E_lshr (pc := 5) dX1_hasNet_5 ?_
  refine E_lconst (pc := 6) (v := (1 : Int64)) dX1_hasNet_6 (by decide) ?_
  refine E_land (pc := 7) dX1_hasNet_7 ?_
  refine E_lconst (pc := 8) (v := (0 : Int64)) dX1_hasNet_8 (by decide) ?_
  refine E_lcmp (pc := 9) dX1_hasNet_9 ?_
  refine E_if_eq (pc := 10) (tgt := 17) dX1_hasNet_10 (by decide) hf (fun hf => ?_) (fun hf => ?_)
  · refine E_iconst (pc := 17) (v := (0 : Int32)) dX1_hasNet_17 (by decide) ?_
    exact E_zret (pc := 18) dX1_hasNet_18 rfl hf
  · refine E_iconst (pc := 13) (v := (1 : Int32)) dX1_hasNet_13 (by decide) ?_
    refine E_goto (pc := 14) (tgt := 18) dX1_hasNet_14 (by decide) ?_
    exact E_zret (pc := 18) dX1_hasNet_18 rfl hf
theorem dX1_beside_0 : decode cX1_beside 0 = .ok (.aload_n 0, 1) := by decide +kernel
theorem dX1_beside_1 : decode cX1_beside 1 = .ok (.getfield 9, 3) := by decide +kernel
theorem dX1_beside_4 : decode cX1_beside 4 = .ok (.iconst 1, 1) := by decide +kernel
theorem dX1_beside_5 : decode cX1_beside 5 = .ok (.if_icmp .ge 5, 3) := by decide +kernel
theorem dX1_beside_8 : decode cX1_beside 8 = .ok (.iconst (-1), 1) := by decide +kernel
theorem dX1_beside_9 : decode cX1_beside 9 = .ok (.ireturn, 1) := by decide +kernel
theorem dX1_beside_10 : decode cX1_beside 10 = .ok (.iload_n 1, 1) := by decide +kernel
theorem dX1_beside_11 : decode cX1_beside 11 = .ok (.aload_n 0, 1) := by decide +kernel
theorem dX1_beside_12 : decode cX1_beside 12 = .ok (.getfield 9, 3) := by decide +kernel
theorem dX1_beside_15 : decode cX1_beside 15 = .ok (.irem, 1) := by decide +kernel
theorem dX1_beside_16 : decode cX1_beside 16 = .ok (.istore_n 3, 1) := by decide +kernel
theorem dX1_beside_17 : decode cX1_beside 17 = .ok (.iload_n 2, 1) := by decide +kernel
theorem dX1_beside_18 : decode cX1_beside 18 = .ok (.tableswitch 103 0 3 #[30, 49, 67, 91], 30) := by decide +kernel
theorem dX1_beside_48 : decode cX1_beside 48 = .ok (.iload_n 1, 1) := by decide +kernel
theorem dX1_beside_49 : decode cX1_beside 49 = .ok (.aload_n 0, 1) := by decide +kernel
theorem dX1_beside_50 : decode cX1_beside 50 = .ok (.getfield 9, 3) := by decide +kernel
theorem dX1_beside_53 : decode cX1_beside 53 = .ok (.if_icmp .lt 12, 3) := by decide +kernel
theorem dX1_beside_56 : decode cX1_beside 56 = .ok (.iload_n 1, 1) := by decide +kernel
theorem dX1_beside_57 : decode cX1_beside 57 = .ok (.aload_n 0, 1) := by decide +kernel
theorem dX1_beside_58 : decode cX1_beside 58 = .ok (.getfield 9, 3) := by decide +kernel
theorem dX1_beside_61 : decode cX1_beside 61 = .ok (.isub, 1) := by decide +kernel
theorem dX1_beside_62 : decode cX1_beside 62 = .ok (.goto 4, 3) := by decide +kernel
theorem dX1_beside_65 : decode cX1_beside 65 = .ok (.iconst (-1), 1) := by decide +kernel
theorem dX1_beside_66 : decode cX1_beside 66 = .ok (.ireturn, 1) := by decide +kernel
theorem dX1_beside_67 : decode cX1_beside 67 = .ok (.iload_n 3, 1) := by decide +kernel
theorem dX1_beside_68 : decode cX1_beside 68 = .ok (.iconst 1, 1) := by decide +kernel
theorem dX1_beside_69 : decode cX1_beside 69 = .ok (.iadd, 1) := by decide +kernel
theorem dX1_beside_70 : decode cX1_beside 70 = .ok (.aload_n 0, 1) := by decide +kernel
theorem dX1_beside_71 : decode cX1_beside 71 = .ok (.getfield 9, 3) := by decide +kernel
theorem dX1_beside_74 : decode cX1_beside 74 = .ok (.if_icmp .ge 9, 3) := by decide +kernel
theorem dX1_beside_77 : decode cX1_beside 77 = .ok (.iload_n 1, 1) := by decide +kernel
theorem dX1_beside_78 : decode cX1_beside 78 = .ok (.iconst 1, 1) := by decide +kernel
theorem dX1_beside_79 : decode cX1_beside 79 = .ok (.iadd, 1) := by decide +kernel
theorem dX1_beside_80 : decode cX1_beside 80 = .ok (.goto 4, 3) := by decide +kernel
theorem dX1_beside_83 : decode cX1_beside 83 = .ok (.iconst (-1), 1) := by decide +kernel
theorem dX1_beside_84 : decode cX1_beside 84 = .ok (.ireturn, 1) := by decide +kernel
theorem dX1_beside_85 : decode cX1_beside 85 = .ok (.iload_n 1, 1) := by decide +kernel
theorem dX1_beside_86 : decode cX1_beside 86 = .ok (.aload_n 0, 1) := by decide +kernel
theorem dX1_beside_87 : decode cX1_beside 87 = .ok (.getfield 9, 3) := by decide +kernel
theorem dX1_beside_90 : decode cX1_beside 90 = .ok (.iadd, 1) := by decide +kernel
theorem dX1_beside_91 : decode cX1_beside 91 = .ok (.aload_n 0, 1) := by decide +kernel
theorem dX1_beside_92 : decode cX1_beside 92 = .ok (.getfield 18, 3) := by decide +kernel
theorem dX1_beside_95 : decode cX1_beside 95 = .ok (.if_icmp .ge 12, 3) := by decide +kernel
theorem dX1_beside_98 : decode cX1_beside 98 = .ok (.iload_n 1, 1) := by decide +kernel
theorem dX1_beside_99 : decode cX1_beside 99 = .ok (.aload_n 0, 1) := by decide +kernel
theorem dX1_beside_100 : decode cX1_beside 100 = .ok (.getfield 9, 3) := by decide +kernel
theorem dX1_beside_103 : decode cX1_beside 103 = .ok (.iadd, 1) := by decide +kernel
theorem dX1_beside_104 : decode cX1_beside 104 = .ok (.goto 4, 3) := by decide +kernel
theorem dX1_beside_107 : decode cX1_beside 107 = .ok (.iconst (-1), 1) := by decide +kernel
theorem dX1_beside_108 : decode cX1_beside 108 = .ok (.ireturn, 1) := by decide +kernel
theorem dX1_beside_109 : decode cX1_beside 109 = .ok (.iload_n 3, 1) := by decide +kernel
theorem dX1_beside_110 : decode cX1_beside 110 = .ok (.ifCond .le 9, 3) := by decide +kernel
theorem dX1_beside_113 : decode cX1_beside 113 = .ok (.iload_n 1, 1) := by decide +kernel
theorem dX1_beside_114 : decode cX1_beside 114 = .ok (.iconst 1, 1) := by decide +kernel
theorem dX1_beside_115 : decode cX1_beside 115 = .ok (.isub, 1) := by decide +kernel
theorem dX1_beside_116 : decode cX1_beside 116 = .ok (.goto 4, 3) := by decide +kernel
theorem dX1_beside_119 : decode cX1_beside 119 = .ok (.iconst (-1), 1) := by decide +kernel
theorem dX1_beside_120 : decode cX1_beside 120 = .ok (.ireturn, 1) := by decide +kernel
theorem dX1_beside_121 : decode cX1_beside 121 = .ok (.iconst (-1), 1) := by decide +kernel
theorem dX1_beside_122 : decode cX1_beside 122 = .ok (.ireturn, 1) := by decide +kernel
abbrev D_X1_beside : Nat := 1
set_option maxRecDepth 100000 in
def f_X1_beside (μ0 : Mm) (a1 : Nat) (x2 : Int32) (x3 : Int32) : Option (Int32 × Mm) :=
 ((gI μ0 a1 1 0).bind fun v4 =>
    (if (1 : Int32) ≤ v4 then
    ((gI μ0 a1 1 0).bind fun v5 =>
    (rmI x2 v5 fun v6 =>
    (nm v6 fun x7 =>
    (if x3 = (0 : Int32) then
    ((gI μ0 a1 1 0).bind fun v12 =>
    (if x2 < v12 then
    (some ((-1 : Int32), μ0))
    else
    ((gI μ0 a1 1 0).bind fun v13 =>
    (some ((x2 - v13), μ0)))))
    else
    (if x3 = (1 : Int32) then
    ((gI μ0 a1 1 0).bind fun v11 =>
    (if v11 ≤ (x7 + (1 : Int32)) then
    (some ((-1 : Int32), μ0))
    else
    (some ((x2 + (1 : Int32)), μ0))))
    else
    (if x3 = (2 : Int32) then
    ((gI μ0 a1 1 0).bind fun v8 =>
    ((gI μ0 a1 1 2).bind fun v9 =>
    (if v9 ≤ (x2 + v8) then
    (some ((-1 : Int32), μ0))
    else
    ((gI μ0 a1 1 0).bind fun v10 =>
    (some ((x2 + v10), μ0))))))
    else
    (if x3 = (3 : Int32) then
    (if x7 ≤ 0 then
    (some ((-1 : Int32), μ0))
    else
    (some ((x2 - (1 : Int32)), μ0)))
    else
    (some ((-1 : Int32), μ0)))))))))
    else
    (some ((-1 : Int32), μ0))))
set_option maxHeartbeats 4000000 in
set_option maxRecDepth 100000 in
theorem f_X1_beside_ok {l : Launch} {G : GG} {μ0 : Mm} {a1 : Nat} {x2 : Int32} {x3 : Int32} {r : Int32} {μ' : Mm} (hf : f_X1_beside μ0 a1 x2 x3 = some (r, μ')) : EvM l G D_X1_beside yX1_beside cX1_beside 4 (some .int) [.ref a1, .int x2, .int x3] μ0 (some (.int r)) μ' := by
  show Ev l G D_X1_beside yX1_beside cX1_beside 4 (some .int) 0 [(0, .ref a1), (1, .int x2), (2, .int x3)] [] μ0 (some (.int r)) μ'
  unfold f_X1_beside at hf
  refine E_aload_n (pc := 0) dX1_beside_0 rfl ?_
  refine E_getI (pc := 1) dX1_beside_1 fl_X1_9 hf (fun v4 hf => ?_)
  refine E_iconst (pc := 4) (v := (1 : Int32)) dX1_beside_4 (by decide) ?_
  refine E_icmp_ge (pc := 5) (tgt := 10) dX1_beside_5 (by decide) hf (fun hf => ?_) (fun hf => ?_)
  · refine E_iload_n (pc := 10) dX1_beside_10 rfl ?_
    refine E_aload_n (pc := 11) dX1_beside_11 rfl ?_
    refine E_getI (pc := 12) dX1_beside_12 fl_X1_9 hf (fun v5 hf => ?_)
    refine E_irem2 (pc := 15) dX1_beside_15 hf (fun v6 hf => ?_)
    refine E_istore_n (pc := 16) (ls' := fun x7 => [(3, .int x7), (0, .ref a1), (1, .int x2), (2, .int x3)]) dX1_beside_16 (by decide) (fun _ => rfl) hf (fun x7 hf => ?_)
    refine E_iload_n (pc := 17) dX1_beside_17 rfl ?_
    refine ifS hf (fun n18_0 hf => ?_) (fun n18_0 hf => ?_)
    · refine E_tswI (pc := 18) (tgt := 48) (0) dX1_beside_18 (by rw [n18_0]; decide) (by decide) (by decide) rfl (by decide) ?_
      refine E_iload_n (pc := 48) dX1_beside_48 rfl ?_
      refine E_aload_n (pc := 49) dX1_beside_49 rfl ?_
      refine E_getI (pc := 50) dX1_beside_50 fl_X1_9 hf (fun v12 hf => ?_)
      refine E_icmp_lt (pc := 53) (tgt := 65) dX1_beside_53 (by decide) hf (fun hf => ?_) (fun hf => ?_)
      · refine E_iconst (pc := 65) (v := (-1 : Int32)) dX1_beside_65 (by decide) ?_
        exact E_iret (pc := 66) dX1_beside_66 rfl hf
      · refine E_iload_n (pc := 56) dX1_beside_56 rfl ?_
        refine E_aload_n (pc := 57) dX1_beside_57 rfl ?_
        refine E_getI (pc := 58) dX1_beside_58 fl_X1_9 hf (fun v13 hf => ?_)
        refine E_isub (pc := 61) dX1_beside_61 ?_
        refine E_goto (pc := 62) (tgt := 66) dX1_beside_62 (by decide) ?_
        exact E_iret (pc := 66) dX1_beside_66 rfl hf
    · refine ifS hf (fun n18_1 hf => ?_) (fun n18_1 hf => ?_)
      · refine E_tswI (pc := 18) (tgt := 67) (1) dX1_beside_18 (by rw [n18_1]; decide) (by decide) (by decide) rfl (by decide) ?_
        refine E_iload_n (pc := 67) dX1_beside_67 rfl ?_
        refine E_iconst (pc := 68) (v := (1 : Int32)) dX1_beside_68 (by decide) ?_
        refine E_iadd (pc := 69) dX1_beside_69 ?_
        refine E_aload_n (pc := 70) dX1_beside_70 rfl ?_
        refine E_getI (pc := 71) dX1_beside_71 fl_X1_9 hf (fun v11 hf => ?_)
        refine E_icmp_ge (pc := 74) (tgt := 83) dX1_beside_74 (by decide) hf (fun hf => ?_) (fun hf => ?_)
        · refine E_iconst (pc := 83) (v := (-1 : Int32)) dX1_beside_83 (by decide) ?_
          exact E_iret (pc := 84) dX1_beside_84 rfl hf
        · refine E_iload_n (pc := 77) dX1_beside_77 rfl ?_
          refine E_iconst (pc := 78) (v := (1 : Int32)) dX1_beside_78 (by decide) ?_
          refine E_iadd (pc := 79) dX1_beside_79 ?_
          refine E_goto (pc := 80) (tgt := 84) dX1_beside_80 (by decide) ?_
          exact E_iret (pc := 84) dX1_beside_84 rfl hf
      · refine ifS hf (fun n18_2 hf => ?_) (fun n18_2 hf => ?_)
        · refine E_tswI (pc := 18) (tgt := 85) (2) dX1_beside_18 (by rw [n18_2]; decide) (by decide) (by decide) rfl (by decide) ?_
          refine E_iload_n (pc := 85) dX1_beside_85 rfl ?_
          refine E_aload_n (pc := 86) dX1_beside_86 rfl ?_
          refine E_getI (pc := 87) dX1_beside_87 fl_X1_9 hf (fun v8 hf => ?_)
          refine E_iadd (pc := 90) dX1_beside_90 ?_
          refine E_aload_n (pc := 91) dX1_beside_91 rfl ?_
          refine E_getI (pc := 92) dX1_beside_92 fl_X1_18 hf (fun v9 hf => ?_)
          refine E_icmp_ge (pc := 95) (tgt := 107) dX1_beside_95 (by decide) hf (fun hf => ?_) (fun hf => ?_)
          · refine E_iconst (pc := 107) (v := (-1 : Int32)) dX1_beside_107 (by decide) ?_
            exact E_iret (pc := 108) dX1_beside_108 rfl hf
          · refine E_iload_n (pc := 98) dX1_beside_98 rfl ?_
            refine E_aload_n (pc := 99) dX1_beside_99 rfl ?_
            refine E_getI (pc := 100) dX1_beside_100 fl_X1_9 hf (fun v10 hf => ?_)
            refine E_iadd (pc := 103) dX1_beside_103 ?_
            refine E_goto (pc := 104) (tgt := 108) dX1_beside_104 (by decide) ?_
            exact E_iret (pc := 108) dX1_beside_108 rfl hf
        · refine ifS hf (fun n18_3 hf => ?_) (fun n18_3 hf => ?_)
          · refine E_tswI (pc := 18) (tgt := 109) (3) dX1_beside_18 (by rw [n18_3]; decide) (by decide) (by decide) rfl (by decide) ?_
            refine E_iload_n (pc := 109) dX1_beside_109 rfl ?_
            refine E_if_le (pc := 110) (tgt := 119) dX1_beside_110 (by decide) hf (fun hf => ?_) (fun hf => ?_)
            · refine E_iconst (pc := 119) (v := (-1 : Int32)) dX1_beside_119 (by decide) ?_
              exact E_iret (pc := 120) dX1_beside_120 rfl hf
            · refine E_iload_n (pc := 113) dX1_beside_113 rfl ?_
              refine E_iconst (pc := 114) (v := (1 : Int32)) dX1_beside_114 (by decide) ?_
              refine E_isub (pc := 115) dX1_beside_115 ?_
              refine E_goto (pc := 116) (tgt := 120) dX1_beside_116 (by decide) ?_
              exact E_iret (pc := 120) dX1_beside_120 rfl hf
          · refine E_tswD (pc := 18) (tgt := 121) dX1_beside_18 (by have q0 : ¬ (x3).toInt = 0 := i32ne n18_0; have q1 : ¬ (x3).toInt = 1 := i32ne n18_1; have q2 : ¬ (x3).toInt = 2 := i32ne n18_2; have q3 : ¬ (x3).toInt = 3 := i32ne n18_3;  omega) (by decide) ?_
            refine E_iconst (pc := 121) (v := (-1 : Int32)) dX1_beside_121 (by decide) ?_
            exact E_iret (pc := 122) dX1_beside_122 rfl hf
  · refine E_iconst (pc := 8) (v := (-1 : Int32)) dX1_beside_8 (by decide) ?_
    exact E_iret (pc := 9) dX1_beside_9 rfl hf
theorem dX1_lowerBeside_0 : decode cX1_lowerBeside 0 = .ok (.aload_n 0, 1) := by decide +kernel
theorem dX1_lowerBeside_1 : decode cX1_lowerBeside 1 = .ok (.iload_n 1, 1) := by decide +kernel
theorem dX1_lowerBeside_2 : decode cX1_lowerBeside 2 = .ok (.iload_n 2, 1) := by decide +kernel
theorem dX1_lowerBeside_3 : decode cX1_lowerBeside 3 = .ok (.invokevirtual 69, 3) := by decide +kernel
theorem dX1_lowerBeside_6 : decode cX1_lowerBeside 6 = .ok (.istore_n 3, 1) := by decide +kernel
theorem dX1_lowerBeside_7 : decode cX1_lowerBeside 7 = .ok (.iload_n 3, 1) := by decide +kernel
theorem dX1_lowerBeside_8 : decode cX1_lowerBeside 8 = .ok (.iconst (-1), 1) := by decide +kernel
theorem dX1_lowerBeside_9 : decode cX1_lowerBeside 9 = .ok (.if_icmp .eq 16, 3) := by decide +kernel
theorem dX1_lowerBeside_12 : decode cX1_lowerBeside 12 = .ok (.aload_n 0, 1) := by decide +kernel
theorem dX1_lowerBeside_13 : decode cX1_lowerBeside 13 = .ok (.iload_n 1, 1) := by decide +kernel
theorem dX1_lowerBeside_14 : decode cX1_lowerBeside 14 = .ok (.iload_n 3, 1) := by decide +kernel
theorem dX1_lowerBeside_15 : decode cX1_lowerBeside 15 = .ok (.invokevirtual 73, 3) := by decide +kernel
theorem dX1_lowerBeside_18 : decode cX1_lowerBeside 18 = .ok (.ifCond .le 7, 3) := by decide +kernel
theorem dX1_lowerBeside_21 : decode cX1_lowerBeside 21 = .ok (.iload_n 3, 1) := by decide +kernel
theorem dX1_lowerBeside_22 : decode cX1_lowerBeside 22 = .ok (.goto 4, 3) := by decide +kernel
theorem dX1_lowerBeside_25 : decode cX1_lowerBeside 25 = .ok (.iconst (-1), 1) := by decide +kernel
theorem dX1_lowerBeside_26 : decode cX1_lowerBeside 26 = .ok (.ireturn, 1) := by decide +kernel
abbrev D_X1_lowerBeside : Nat := 2
set_option maxRecDepth 100000 in
def f_X1_lowerBeside (μ0 : Mm) (a1 : Nat) (x2 : Int32) (x3 : Int32) : Option (Int32 × Mm) :=
 ((ob μ0 a1 1).bind fun _ =>
    (bd (f_X1_beside μ0 a1 x2 x3) fun v5 μ4 =>
    (nm v5 fun x6 =>
    (if x6 = (-1 : Int32) then
    (some ((-1 : Int32), μ4))
    else
    ((ob μ4 a1 1).bind fun _ =>
    (bd (f_X1_dropTo μ4 a1 x2 x6) fun v8 μ7 =>
    (if v8 ≤ 0 then
    (some ((-1 : Int32), μ7))
    else
    (some (x6, μ7)))))))))
set_option maxHeartbeats 4000000 in
set_option maxRecDepth 100000 in
theorem f_X1_lowerBeside_ok {l : Launch} {G : GG} {μ0 : Mm} {a1 : Nat} {x2 : Int32} {x3 : Int32} {r : Int32} {μ' : Mm} (hf : f_X1_lowerBeside μ0 a1 x2 x3 = some (r, μ')) : EvM l G D_X1_lowerBeside yX1_lowerBeside cX1_lowerBeside 4 (some .int) [.ref a1, .int x2, .int x3] μ0 (some (.int r)) μ' := by
  show Ev l G D_X1_lowerBeside yX1_lowerBeside cX1_lowerBeside 4 (some .int) 0 [(0, .ref a1), (1, .int x2), (2, .int x3)] [] μ0 (some (.int r)) μ'
  unfold f_X1_lowerBeside at hf
  refine E_aload_n (pc := 0) dX1_lowerBeside_0 rfl ?_
  refine E_iload_n (pc := 1) dX1_lowerBeside_1 rfl ?_
  refine E_iload_n (pc := 2) dX1_lowerBeside_2 rfl ?_
  refine E_Vi (pc := 3) (d2 := D_X1_beside) (ci := 1) [.int x2, .int x3] dX1_lowerBeside_3 ml_X1_69 mf_X1_beside im_X1_beside rfl rfl rfl (by decide) (Nat.le_of_ble_eq_true rfl) (Nat.le_of_ble_eq_true rfl) rfl (fun _ _ h => f_X1_beside_ok h) hf (fun v5 μ4 hf => ?_)
  refine E_istore_n (pc := 6) (ls' := fun x6 => [(3, .int x6), (0, .ref a1), (1, .int x2), (2, .int x3)]) dX1_lowerBeside_6 (by decide) (fun _ => rfl) hf (fun x6 hf => ?_)
  refine E_iload_n (pc := 7) dX1_lowerBeside_7 rfl ?_
  refine E_iconst (pc := 8) (v := (-1 : Int32)) dX1_lowerBeside_8 (by decide) ?_
  refine E_icmp_eq (pc := 9) (tgt := 25) dX1_lowerBeside_9 (by decide) hf (fun hf => ?_) (fun hf => ?_)
  · refine E_iconst (pc := 25) (v := (-1 : Int32)) dX1_lowerBeside_25 (by decide) ?_
    exact E_iret (pc := 26) dX1_lowerBeside_26 rfl hf
  · refine E_aload_n (pc := 12) dX1_lowerBeside_12 rfl ?_
    refine E_iload_n (pc := 13) dX1_lowerBeside_13 rfl ?_
    refine E_iload_n (pc := 14) dX1_lowerBeside_14 rfl ?_
    refine E_Vi (pc := 15) (d2 := D_X1_dropTo) (ci := 1) [.int x2, .int x6] dX1_lowerBeside_15 ml_X1_73 mf_X1_dropTo im_X1_dropTo rfl rfl rfl (by decide) (Nat.le_of_ble_eq_true rfl) (Nat.le_of_ble_eq_true rfl) rfl (fun _ _ h => f_X1_dropTo_ok h) hf (fun v8 μ7 hf => ?_)
    refine E_if_le (pc := 18) (tgt := 25) dX1_lowerBeside_18 (by decide) hf (fun hf => ?_) (fun hf => ?_)
    · refine E_iconst (pc := 25) (v := (-1 : Int32)) dX1_lowerBeside_25 (by decide) ?_
      exact E_iret (pc := 26) dX1_lowerBeside_26 rfl hf
    · refine E_iload_n (pc := 21) dX1_lowerBeside_21 rfl ?_
      refine E_goto (pc := 22) (tgt := 26) dX1_lowerBeside_22 (by decide) ?_
      exact E_iret (pc := 26) dX1_lowerBeside_26 rfl hf
theorem dX1_init_0 : decode cX1_init 0 = .ok (.aload_n 0, 1) := by decide +kernel
theorem dX1_init_1 : decode cX1_init 1 = .ok (.invokespecial 3, 3) := by decide +kernel
theorem dX1_init_4 : decode cX1_init 4 = .ok (.aload_n 0, 1) := by decide +kernel
theorem dX1_init_5 : decode cX1_init 5 = .ok (.iconst 0, 1) := by decide +kernel
theorem dX1_init_6 : decode cX1_init 6 = .ok (.putfield 9, 3) := by decide +kernel
theorem dX1_init_9 : decode cX1_init 9 = .ok (.aload_n 0, 1) := by decide +kernel
theorem dX1_init_10 : decode cX1_init 10 = .ok (.iconst 0, 1) := by decide +kernel
theorem dX1_init_11 : decode cX1_init 11 = .ok (.putfield 15, 3) := by decide +kernel
theorem dX1_init_14 : decode cX1_init 14 = .ok (.aload_n 0, 1) := by decide +kernel
theorem dX1_init_15 : decode cX1_init 15 = .ok (.iconst 0, 1) := by decide +kernel
theorem dX1_init_16 : decode cX1_init 16 = .ok (.putfield 18, 3) := by decide +kernel
theorem dX1_init_19 : decode cX1_init 19 = .ok (.aload_n 0, 1) := by decide +kernel
theorem dX1_init_20 : decode cX1_init 20 = .ok (.bipush 48, 2) := by decide +kernel
theorem dX1_init_22 : decode cX1_init 22 = .ok (.newarray .int, 2) := by decide +kernel
theorem dX1_init_24 : decode cX1_init 24 = .ok (.putfield 21, 3) := by decide +kernel
theorem dX1_init_27 : decode cX1_init 27 = .ok (.aload_n 0, 1) := by decide +kernel
theorem dX1_init_28 : decode cX1_init 28 = .ok (.bipush 48, 2) := by decide +kernel
theorem dX1_init_30 : decode cX1_init 30 = .ok (.newarray .int, 2) := by decide +kernel
theorem dX1_init_32 : decode cX1_init 32 = .ok (.putfield 25, 3) := by decide +kernel
theorem dX1_init_35 : decode cX1_init 35 = .ok (.aload_n 0, 1) := by decide +kernel
theorem dX1_init_36 : decode cX1_init 36 = .ok (.lconst 0, 1) := by decide +kernel
theorem dX1_init_37 : decode cX1_init 37 = .ok (.putfield 28, 3) := by decide +kernel
theorem dX1_init_40 : decode cX1_init 40 = .ok (.aload_n 0, 1) := by decide +kernel
theorem dX1_init_41 : decode cX1_init 41 = .ok (.iconst 0, 1) := by decide +kernel
theorem dX1_init_42 : decode cX1_init 42 = .ok (.putfield 32, 3) := by decide +kernel
theorem dX1_init_45 : decode cX1_init 45 = .ok (.aload_n 0, 1) := by decide +kernel
theorem dX1_init_46 : decode cX1_init 46 = .ok (.iconst 5, 1) := by decide +kernel
theorem dX1_init_47 : decode cX1_init 47 = .ok (.newarray .int, 2) := by decide +kernel
theorem dX1_init_49 : decode cX1_init 49 = .ok (.putfield 35, 3) := by decide +kernel
theorem dX1_init_52 : decode cX1_init 52 = .ok (.aload_n 0, 1) := by decide +kernel
theorem dX1_init_53 : decode cX1_init 53 = .ok (.iconst 5, 1) := by decide +kernel
theorem dX1_init_54 : decode cX1_init 54 = .ok (.newarray .int, 2) := by decide +kernel
theorem dX1_init_56 : decode cX1_init 56 = .ok (.putfield 38, 3) := by decide +kernel
theorem dX1_init_59 : decode cX1_init 59 = .ok (.aload_n 0, 1) := by decide +kernel
theorem dX1_init_60 : decode cX1_init 60 = .ok (.iconst 0, 1) := by decide +kernel
theorem dX1_init_61 : decode cX1_init 61 = .ok (.putfield 41, 3) := by decide +kernel
theorem dX1_init_64 : decode cX1_init 64 = .ok (.aload_n 0, 1) := by decide +kernel
theorem dX1_init_65 : decode cX1_init 65 = .ok (.bipush 8, 2) := by decide +kernel
theorem dX1_init_67 : decode cX1_init 67 = .ok (.newarray .int, 2) := by decide +kernel
theorem dX1_init_69 : decode cX1_init 69 = .ok (.putfield 44, 3) := by decide +kernel
theorem dX1_init_72 : decode cX1_init 72 = .ok (.aload_n 0, 1) := by decide +kernel
theorem dX1_init_73 : decode cX1_init 73 = .ok (.bipush 8, 2) := by decide +kernel
theorem dX1_init_75 : decode cX1_init 75 = .ok (.newarray .int, 2) := by decide +kernel
theorem dX1_init_77 : decode cX1_init 77 = .ok (.putfield 47, 3) := by decide +kernel
theorem dX1_init_80 : decode cX1_init 80 = .ok (.aload_n 0, 1) := by decide +kernel
theorem dX1_init_81 : decode cX1_init 81 = .ok (.bipush 8, 2) := by decide +kernel
theorem dX1_init_83 : decode cX1_init 83 = .ok (.newarray .int, 2) := by decide +kernel
theorem dX1_init_85 : decode cX1_init 85 = .ok (.putfield 50, 3) := by decide +kernel
theorem dX1_init_88 : decode cX1_init 88 = .ok (.aload_n 0, 1) := by decide +kernel
theorem dX1_init_89 : decode cX1_init 89 = .ok (.bipush 8, 2) := by decide +kernel
theorem dX1_init_91 : decode cX1_init 91 = .ok (.newarray .int, 2) := by decide +kernel
theorem dX1_init_93 : decode cX1_init 93 = .ok (.putfield 53, 3) := by decide +kernel
theorem dX1_init_96 : decode cX1_init 96 = .ok (.aload_n 0, 1) := by decide +kernel
theorem dX1_init_97 : decode cX1_init 97 = .ok (.new 56, 3) := by decide +kernel
theorem dX1_init_100 : decode cX1_init 100 = .ok (.dup, 1) := by decide +kernel
theorem dX1_init_101 : decode cX1_init 101 = .ok (.invokespecial 58, 3) := by decide +kernel
theorem dX1_init_104 : decode cX1_init 104 = .ok (.putfield 59, 3) := by decide +kernel
theorem dX1_init_107 : decode cX1_init 107 = .ok (.return_, 1) := by decide +kernel
abbrev D_X1_init : Nat := 2
set_option maxRecDepth 100000 in
def f_X1_init (μ0 : Mm) (a1 : Nat) : Option Mm :=
 ((pV μ0 a1 1 0 (.int (0 : Int32))).bind fun μ2 =>
    ((pV μ2 a1 1 1 (.int (0 : Int32))).bind fun μ3 =>
    ((pV μ3 a1 1 2 (.int (0 : Int32))).bind fun μ4 =>
    (bd (nA μ4 0 (48 : Int32)) fun a5 μ6 =>
    ((pV μ6 a1 1 3 (.ref a5)).bind fun μ7 =>
    (bd (nA μ7 0 (48 : Int32)) fun a8 μ9 =>
    ((pV μ9 a1 1 4 (.ref a8)).bind fun μ10 =>
    ((pV μ10 a1 1 5 (.long (0 : Int64))).bind fun μ11 =>
    ((pV μ11 a1 1 6 (.int (0 : Int32))).bind fun μ12 =>
    (bd (nA μ12 0 (5 : Int32)) fun a13 μ14 =>
    ((pV μ14 a1 1 7 (.ref a13)).bind fun μ15 =>
    (bd (nA μ15 0 (5 : Int32)) fun a16 μ17 =>
    ((pV μ17 a1 1 8 (.ref a16)).bind fun μ18 =>
    ((pV μ18 a1 1 9 (.int (0 : Int32))).bind fun μ19 =>
    (bd (nA μ19 0 (8 : Int32)) fun a20 μ21 =>
    ((pV μ21 a1 1 10 (.ref a20)).bind fun μ22 =>
    (bd (nA μ22 0 (8 : Int32)) fun a23 μ24 =>
    ((pV μ24 a1 1 11 (.ref a23)).bind fun μ25 =>
    (bd (nA μ25 0 (8 : Int32)) fun a26 μ27 =>
    ((pV μ27 a1 1 12 (.ref a26)).bind fun μ28 =>
    (bd (nA μ28 0 (8 : Int32)) fun a29 μ30 =>
    ((pV μ30 a1 1 13 (.ref a29)).bind fun μ31 =>
    (bd (nO μ31 3 8 [.int 0, .null, .int 0, .null, .null, .null, .null, .int 0]) fun a32 μ33 =>
    ((f_X3_init μ33 a32).bind fun μ34 =>
    ((pV μ34 a1 1 14 (.ref a32)).bind fun μ35 =>
    (some μ35))))))))))))))))))))))))))
set_option maxHeartbeats 4000000 in
set_option maxRecDepth 100000 in
theorem f_X1_init_ok {l : Launch} {G : GG} {μ0 : Mm} {a1 : Nat} {μ' : Mm} (hf : f_X1_init μ0 a1 = some μ') : EvM l G D_X1_init yX1_init cX1_init 1 none [.ref a1] μ0 none μ' := by
  show Ev l G D_X1_init yX1_init cX1_init 1 none 0 [(0, .ref a1)] [] μ0 none μ'
  unfold f_X1_init at hf
  refine E_aload_n (pc := 0) dX1_init_0 rfl ?_
  refine E_objI (pc := 1) dX1_init_1 (by decide) (Nat.le_of_ble_eq_true rfl) ml_X1_3 ?_
  refine E_aload_n (pc := 4) dX1_init_4 rfl ?_
  refine E_iconst (pc := 5) (v := (0 : Int32)) dX1_init_5 (by decide) ?_
  refine E_putI (pc := 6) dX1_init_6 (pl_X1_9 _) hf (fun μ2 hf => ?_)
  refine E_aload_n (pc := 9) dX1_init_9 rfl ?_
  refine E_iconst (pc := 10) (v := (0 : Int32)) dX1_init_10 (by decide) ?_
  refine E_putI (pc := 11) dX1_init_11 (pl_X1_15 _) hf (fun μ3 hf => ?_)
  refine E_aload_n (pc := 14) dX1_init_14 rfl ?_
  refine E_iconst (pc := 15) (v := (0 : Int32)) dX1_init_15 (by decide) ?_
  refine E_putI (pc := 16) dX1_init_16 (pl_X1_18 _) hf (fun μ4 hf => ?_)
  refine E_aload_n (pc := 19) dX1_init_19 rfl ?_
  refine E_bipush (pc := 20) (v := (48 : Int32)) dX1_init_20 (by decide) ?_
  refine E_newa2 (pc := 22) dX1_init_22 (by decide) ac_int hf (fun a5 μ6 hf => ?_)
  refine E_putA (pc := 24) dX1_init_24 pl_X1_21 hf (fun μ7 hf => ?_)
  refine E_aload_n (pc := 27) dX1_init_27 rfl ?_
  refine E_bipush (pc := 28) (v := (48 : Int32)) dX1_init_28 (by decide) ?_
  refine E_newa2 (pc := 30) dX1_init_30 (by decide) ac_int hf (fun a8 μ9 hf => ?_)
  refine E_putA (pc := 32) dX1_init_32 pl_X1_25 hf (fun μ10 hf => ?_)
  refine E_aload_n (pc := 35) dX1_init_35 rfl ?_
  refine E_lconst (pc := 36) (v := (0 : Int64)) dX1_init_36 (by decide) ?_
  refine E_putL (pc := 37) dX1_init_37 (pl_X1_28 _) hf (fun μ11 hf => ?_)
  refine E_aload_n (pc := 40) dX1_init_40 rfl ?_
  refine E_iconst (pc := 41) (v := (0 : Int32)) dX1_init_41 (by decide) ?_
  refine E_putI (pc := 42) dX1_init_42 (pl_X1_32 _) hf (fun μ12 hf => ?_)
  refine E_aload_n (pc := 45) dX1_init_45 rfl ?_
  refine E_iconst (pc := 46) (v := (5 : Int32)) dX1_init_46 (by decide) ?_
  refine E_newa2 (pc := 47) dX1_init_47 (by decide) ac_int hf (fun a13 μ14 hf => ?_)
  refine E_putA (pc := 49) dX1_init_49 pl_X1_35 hf (fun μ15 hf => ?_)
  refine E_aload_n (pc := 52) dX1_init_52 rfl ?_
  refine E_iconst (pc := 53) (v := (5 : Int32)) dX1_init_53 (by decide) ?_
  refine E_newa2 (pc := 54) dX1_init_54 (by decide) ac_int hf (fun a16 μ17 hf => ?_)
  refine E_putA (pc := 56) dX1_init_56 pl_X1_38 hf (fun μ18 hf => ?_)
  refine E_aload_n (pc := 59) dX1_init_59 rfl ?_
  refine E_iconst (pc := 60) (v := (0 : Int32)) dX1_init_60 (by decide) ?_
  refine E_putI (pc := 61) dX1_init_61 (pl_X1_41 _) hf (fun μ19 hf => ?_)
  refine E_aload_n (pc := 64) dX1_init_64 rfl ?_
  refine E_bipush (pc := 65) (v := (8 : Int32)) dX1_init_65 (by decide) ?_
  refine E_newa2 (pc := 67) dX1_init_67 (by decide) ac_int hf (fun a20 μ21 hf => ?_)
  refine E_putA (pc := 69) dX1_init_69 pl_X1_44 hf (fun μ22 hf => ?_)
  refine E_aload_n (pc := 72) dX1_init_72 rfl ?_
  refine E_bipush (pc := 73) (v := (8 : Int32)) dX1_init_73 (by decide) ?_
  refine E_newa2 (pc := 75) dX1_init_75 (by decide) ac_int hf (fun a23 μ24 hf => ?_)
  refine E_putA (pc := 77) dX1_init_77 pl_X1_47 hf (fun μ25 hf => ?_)
  refine E_aload_n (pc := 80) dX1_init_80 rfl ?_
  refine E_bipush (pc := 81) (v := (8 : Int32)) dX1_init_81 (by decide) ?_
  refine E_newa2 (pc := 83) dX1_init_83 (by decide) ac_int hf (fun a26 μ27 hf => ?_)
  refine E_putA (pc := 85) dX1_init_85 pl_X1_50 hf (fun μ28 hf => ?_)
  refine E_aload_n (pc := 88) dX1_init_88 rfl ?_
  refine E_bipush (pc := 89) (v := (8 : Int32)) dX1_init_89 (by decide) ?_
  refine E_newa2 (pc := 91) dX1_init_91 (by decide) ac_int hf (fun a29 μ30 hf => ?_)
  refine E_putA (pc := 93) dX1_init_93 pl_X1_53 hf (fun μ31 hf => ?_)
  refine E_aload_n (pc := 96) dX1_init_96 rfl ?_
  refine E_new2 (pc := 97) dX1_init_97 nl_X1_56 hf (fun a32 μ33 hf => ?_)
  refine E_dup (pc := 100) dX1_init_100 rfl ?_
  refine E_INv (pc := 101) (d2 := D_X3_init) [] dX1_init_101 ml_X1_58 mf_X3_init ii_X3_init rfl rfl (by decide) (Nat.le_of_ble_eq_true rfl) (Nat.le_of_ble_eq_true rfl) rfl (fun _ h => f_X3_init_ok h) hf (fun μ34 hf => ?_)
  refine E_putR (pc := 104) dX1_init_104 pl_X1_59 hf (fun μ35 hf => ?_)
  exact E_vret (pc := 107) dX1_init_107 rfl hf
theorem dX1_netCount_0 : decode cX1_netCount 0 = .ok (.aload_n 0, 1) := by decide +kernel
theorem dX1_netCount_1 : decode cX1_netCount 1 = .ok (.getfield 28, 3) := by decide +kernel
theorem dX1_netCount_4 : decode cX1_netCount 4 = .ok (.invokestatic 63, 3) := by decide +kernel
theorem dX1_netCount_7 : decode cX1_netCount 7 = .ok (.ireturn, 1) := by decide +kernel
abbrev D_X1_netCount : Nat := 2
set_option maxRecDepth 100000 in
def f_X1_netCount (μ0 : Mm) (a1 : Nat) : Option (Int32 × Mm) :=
 ((gL μ0 a1 1 5).bind fun v2 =>
    (bd (f_J13_bitCount_95d88 μ0 v2) fun v4 μ3 =>
    (some (v4, μ3))))
set_option maxHeartbeats 4000000 in
set_option maxRecDepth 100000 in
theorem f_X1_netCount_ok {l : Launch} {G : GG} {μ0 : Mm} {a1 : Nat} {r : Int32} {μ' : Mm} (hf : f_X1_netCount μ0 a1 = some (r, μ')) : EvM l G D_X1_netCount yX1_netCount cX1_netCount 1 (some .int) [.ref a1] μ0 (some (.int r)) μ' := by
  show Ev l G D_X1_netCount yX1_netCount cX1_netCount 1 (some .int) 0 [(0, .ref a1)] [] μ0 (some (.int r)) μ'
  unfold f_X1_netCount at hf
  refine E_aload_n (pc := 0) dX1_netCount_0 rfl ?_
  refine E_getL (pc := 1) dX1_netCount_1 fl_X1_28 hf (fun v2 hf => ?_)
  refine E_Si (pc := 4) (d2 := D_J13_bitCount_95d88) [.long v2] dX1_netCount_4 ml_X1_63 mf_J13_bitCount_95d88 st_J13_bitCount_95d88 rfl (by decide) (Nat.le_of_ble_eq_true rfl) (Nat.le_of_ble_eq_true rfl) rfl (fun _ _ h => f_J13_bitCount_95d88_ok h) hf (fun v4 μ3 hf => ?_)
  exact E_iret (pc := 7) dX1_netCount_7 rfl hf
theorem dX1_findLeads_0 : decode cX1_findLeads 0 = .ok (.iconst 0, 1) := by decide +kernel
theorem dX1_findLeads_1 : decode cX1_findLeads 1 = .ok (.istore_n 1, 1) := by decide +kernel
theorem dX1_findLeads_2 : decode cX1_findLeads 2 = .ok (.iload_n 1, 1) := by decide +kernel
theorem dX1_findLeads_3 : decode cX1_findLeads 3 = .ok (.aload_n 0, 1) := by decide +kernel
theorem dX1_findLeads_4 : decode cX1_findLeads 4 = .ok (.getfield 18, 3) := by decide +kernel
theorem dX1_findLeads_7 : decode cX1_findLeads 7 = .ok (.if_icmp .ge 69, 3) := by decide +kernel
theorem dX1_findLeads_10 : decode cX1_findLeads 10 = .ok (.iconst (-1), 1) := by decide +kernel
theorem dX1_findLeads_11 : decode cX1_findLeads 11 = .ok (.istore_n 2, 1) := by decide +kernel
theorem dX1_findLeads_12 : decode cX1_findLeads 12 = .ok (.iconst 0, 1) := by decide +kernel
theorem dX1_findLeads_13 : decode cX1_findLeads 13 = .ok (.istore_n 3, 1) := by decide +kernel
theorem dX1_findLeads_14 : decode cX1_findLeads 14 = .ok (.iload_n 3, 1) := by decide +kernel
theorem dX1_findLeads_15 : decode cX1_findLeads 15 = .ok (.iconst 4, 1) := by decide +kernel
theorem dX1_findLeads_16 : decode cX1_findLeads 16 = .ok (.if_icmp .ge 47, 3) := by decide +kernel
theorem dX1_findLeads_19 : decode cX1_findLeads 19 = .ok (.aload_n 0, 1) := by decide +kernel
theorem dX1_findLeads_20 : decode cX1_findLeads 20 = .ok (.iload_n 1, 1) := by decide +kernel
theorem dX1_findLeads_21 : decode cX1_findLeads 21 = .ok (.iload_n 3, 1) := by decide +kernel
theorem dX1_findLeads_22 : decode cX1_findLeads 22 = .ok (.invokevirtual 76, 3) := by decide +kernel
theorem dX1_findLeads_25 : decode cX1_findLeads 25 = .ok (.istore 4, 2) := by decide +kernel
theorem dX1_findLeads_27 : decode cX1_findLeads 27 = .ok (.iload 4, 2) := by decide +kernel
theorem dX1_findLeads_29 : decode cX1_findLeads 29 = .ok (.iconst (-1), 1) := by decide +kernel
theorem dX1_findLeads_30 : decode cX1_findLeads 30 = .ok (.if_icmp .eq 27, 3) := by decide +kernel
theorem dX1_findLeads_33 : decode cX1_findLeads 33 = .ok (.iload_n 2, 1) := by decide +kernel
theorem dX1_findLeads_34 : decode cX1_findLeads 34 = .ok (.iconst (-1), 1) := by decide +kernel
theorem dX1_findLeads_35 : decode cX1_findLeads 35 = .ok (.if_icmp .eq 19, 3) := by decide +kernel
theorem dX1_findLeads_38 : decode cX1_findLeads 38 = .ok (.aload_n 0, 1) := by decide +kernel
theorem dX1_findLeads_39 : decode cX1_findLeads 39 = .ok (.getfield 21, 3) := by decide +kernel
theorem dX1_findLeads_42 : decode cX1_findLeads 42 = .ok (.iload 4, 2) := by decide +kernel
theorem dX1_findLeads_44 : decode cX1_findLeads 44 = .ok (.iaload, 1) := by decide +kernel
theorem dX1_findLeads_45 : decode cX1_findLeads 45 = .ok (.aload_n 0, 1) := by decide +kernel
theorem dX1_findLeads_46 : decode cX1_findLeads 46 = .ok (.getfield 21, 3) := by decide +kernel
theorem dX1_findLeads_49 : decode cX1_findLeads 49 = .ok (.iload_n 2, 1) := by decide +kernel
theorem dX1_findLeads_50 : decode cX1_findLeads 50 = .ok (.iaload, 1) := by decide +kernel
theorem dX1_findLeads_51 : decode cX1_findLeads 51 = .ok (.if_icmp .ge 6, 3) := by decide +kernel
theorem dX1_findLeads_54 : decode cX1_findLeads 54 = .ok (.iload 4, 2) := by decide +kernel
theorem dX1_findLeads_56 : decode cX1_findLeads 56 = .ok (.istore_n 2, 1) := by decide +kernel
theorem dX1_findLeads_57 : decode cX1_findLeads 57 = .ok (.iinc 3 1, 3) := by decide +kernel
theorem dX1_findLeads_60 : decode cX1_findLeads 60 = .ok (.goto (-46), 3) := by decide +kernel
theorem dX1_findLeads_63 : decode cX1_findLeads 63 = .ok (.aload_n 0, 1) := by decide +kernel
theorem dX1_findLeads_64 : decode cX1_findLeads 64 = .ok (.getfield 25, 3) := by decide +kernel
theorem dX1_findLeads_67 : decode cX1_findLeads 67 = .ok (.iload_n 1, 1) := by decide +kernel
theorem dX1_findLeads_68 : decode cX1_findLeads 68 = .ok (.iload_n 2, 1) := by decide +kernel
theorem dX1_findLeads_69 : decode cX1_findLeads 69 = .ok (.iastore, 1) := by decide +kernel
theorem dX1_findLeads_70 : decode cX1_findLeads 70 = .ok (.iinc 1 1, 3) := by decide +kernel
theorem dX1_findLeads_73 : decode cX1_findLeads 73 = .ok (.goto (-71), 3) := by decide +kernel
theorem dX1_findLeads_76 : decode cX1_findLeads 76 = .ok (.return_, 1) := by decide +kernel
abbrev D_X1_findLeads : Nat := 3
def f_X1_findLeads_L14 (K63 : Mm → Nat → Int32 → Int32 → Option Mm) : Nat → Mm → Nat → Int32 → Int32 → Int32 → Option Mm
  | 0, _, _, _, _, _ => none
  | n + 1, μ0, a8, x9, x10, x11 =>
    (if (4 : Int32) ≤ x11 then
    K63 μ0 a8 x9 x10
    else
    ((ob μ0 a8 1).bind fun _ =>
    (bd (f_X1_lowerBeside μ0 a8 x9 x11) fun v13 μ12 =>
    (nm v13 fun x14 =>
    (if x14 = (-1 : Int32) then
    (nm (x11 + Int32.ofInt (1)) fun x15 =>
    f_X1_findLeads_L14 K63 n μ12 a8 x9 x10 x15)
    else
    (if x10 = (-1 : Int32) then
    (nm x14 fun x16 =>
    (nm (x11 + Int32.ofInt (1)) fun x17 =>
    f_X1_findLeads_L14 K63 n μ12 a8 x9 x16 x17))
    else
    ((gR μ12 a8 1 3).bind fun v18 =>
    ((aI μ12 v18 0 x14).bind fun v19 =>
    ((gR μ12 a8 1 3).bind fun v20 =>
    ((aI μ12 v20 0 x10).bind fun v21 =>
    (if v21 ≤ v19 then
    (nm (x11 + Int32.ofInt (1)) fun x22 =>
    f_X1_findLeads_L14 K63 n μ12 a8 x9 x10 x22)
    else
    (nm x14 fun x23 =>
    (nm (x11 + Int32.ofInt (1)) fun x24 =>
    f_X1_findLeads_L14 K63 n μ12 a8 x9 x23 x24)))))))))))))
set_option maxHeartbeats 4000000 in
set_option maxRecDepth 100000 in
theorem f_X1_findLeads_L14_ok {l : Launch} {G : GG} {K63 : Mm → Nat → Int32 → Int32 → Option Mm} {μ' : Mm} (n : Nat) (μ0 : Mm) (a8 : Nat) (x9 : Int32) (x10 : Int32) (x11 : Int32) (hf : f_X1_findLeads_L14 K63 n μ0 a8 x9 x10 x11 = some μ') (hK63 : ∀ (μ1 : Mm) (y0 : Nat) (y1 : Int32) (y2 : Int32), K63 μ1 y0 y1 y2 = some μ' → Ev l G D_X1_findLeads yX1_findLeads cX1_findLeads 5 none 63 [(0, .ref y0), (1, .int y1), (2, .int y2)] [] μ1 none μ') : Ev l G D_X1_findLeads yX1_findLeads cX1_findLeads 5 none 14 [(0, .ref a8), (1, .int x9), (2, .int x10), (3, .int x11)] [] μ0 none μ' := by
  induction n generalizing μ0 a8 x9 x10 x11 with
  | zero => cases hf
  | succ n ih0 =>
    have ih : ∀ (μ0 : Mm) (a8 : Nat) (x9 : Int32) (x10 : Int32) (x11 : Int32), f_X1_findLeads_L14 K63 n μ0 a8 x9 x10 x11 = some μ' → Ev l G D_X1_findLeads yX1_findLeads cX1_findLeads 5 none 14 [(0, .ref a8), (1, .int x9), (2, .int x10), (3, .int x11)] [] μ0 none μ' := fun μ0 a8 x9 x10 x11 hf => ih0 μ0 a8 x9 x10 x11 hf
    rw [f_X1_findLeads_L14] at hf
    refine E_iload_n (pc := 14) dX1_findLeads_14 rfl ?_
    refine E_iconst (pc := 15) (v := (4 : Int32)) dX1_findLeads_15 (by decide) ?_
    refine E_icmp_ge (pc := 16) (tgt := 63) dX1_findLeads_16 (by decide) hf (fun hf => ?_) (fun hf => ?_)
    · refine Ev.sub [0, 1, 2] rfl ?_
      exact hK63 _ _ _ _ hf
    · refine E_aload_n (pc := 19) dX1_findLeads_19 rfl ?_
      refine E_iload_n (pc := 20) dX1_findLeads_20 rfl ?_
      refine E_iload_n (pc := 21) dX1_findLeads_21 rfl ?_
      refine E_Vi (pc := 22) (d2 := D_X1_lowerBeside) (ci := 1) [.int x9, .int x11] dX1_findLeads_22 ml_X1_76 mf_X1_lowerBeside im_X1_lowerBeside rfl rfl rfl (by decide) (Nat.le_of_ble_eq_true rfl) (Nat.le_of_ble_eq_true rfl) rfl (fun _ _ h => f_X1_lowerBeside_ok h) hf (fun v13 μ12 hf => ?_)
      refine E_istore (pc := 25) (ls' := fun x14 => [(4, .int x14), (0, .ref a8), (1, .int x9), (2, .int x10), (3, .int x11)]) dX1_findLeads_25 (by decide) (fun _ => rfl) hf (fun x14 hf => ?_)
      refine E_iload (pc := 27) dX1_findLeads_27 rfl ?_
      refine E_iconst (pc := 29) (v := (-1 : Int32)) dX1_findLeads_29 (by decide) ?_
      refine E_icmp_eq (pc := 30) (tgt := 57) dX1_findLeads_30 (by decide) hf (fun hf => ?_) (fun hf => ?_)
      · refine E_iinc (pc := 57) (ls' := fun x15 => [(3, .int x15), (4, .int x14), (0, .ref a8), (1, .int x9), (2, .int x10)]) dX1_findLeads_57 rfl (by decide) (fun _ => rfl) hf (fun x15 hf => ?_)
        refine E_goto (pc := 60) (tgt := 14) dX1_findLeads_60 (by decide) ?_
        refine Ev.sub [2, 3, 4, 0] rfl ?_
        exact ih _ _ _ _ _ hf
      · refine E_iload_n (pc := 33) dX1_findLeads_33 rfl ?_
        refine E_iconst (pc := 34) (v := (-1 : Int32)) dX1_findLeads_34 (by decide) ?_
        refine E_icmp_eq (pc := 35) (tgt := 54) dX1_findLeads_35 (by decide) hf (fun hf => ?_) (fun hf => ?_)
        · refine E_iload (pc := 54) dX1_findLeads_54 rfl ?_
          refine E_istore_n (pc := 56) (ls' := fun x16 => [(2, .int x16), (4, .int x14), (0, .ref a8), (1, .int x9), (3, .int x11)]) dX1_findLeads_56 (by decide) (fun _ => rfl) hf (fun x16 hf => ?_)
          refine E_iinc (pc := 57) (ls' := fun x17 => [(3, .int x17), (2, .int x16), (4, .int x14), (0, .ref a8), (1, .int x9)]) dX1_findLeads_57 rfl (by decide) (fun _ => rfl) hf (fun x17 hf => ?_)
          refine E_goto (pc := 60) (tgt := 14) dX1_findLeads_60 (by decide) ?_
          refine Ev.sub [3, 4, 1, 0] rfl ?_
          exact ih _ _ _ _ _ hf
        · refine E_aload_n (pc := 38) dX1_findLeads_38 rfl ?_
          refine E_getR (pc := 39) dX1_findLeads_39 fl_X1_21 hf (fun v18 hf => ?_)
          refine E_iload (pc := 42) dX1_findLeads_42 rfl ?_
          refine E_iald (pc := 44) dX1_findLeads_44 hf (fun v19 hf => ?_)
          refine E_aload_n (pc := 45) dX1_findLeads_45 rfl ?_
          refine E_getR (pc := 46) dX1_findLeads_46 fl_X1_21 hf (fun v20 hf => ?_)
          refine E_iload_n (pc := 49) dX1_findLeads_49 rfl ?_
          refine E_iald (pc := 50) dX1_findLeads_50 hf (fun v21 hf => ?_)
          refine E_icmp_ge (pc := 51) (tgt := 57) dX1_findLeads_51 (by decide) hf (fun hf => ?_) (fun hf => ?_)
          · refine E_iinc (pc := 57) (ls' := fun x22 => [(3, .int x22), (4, .int x14), (0, .ref a8), (1, .int x9), (2, .int x10)]) dX1_findLeads_57 rfl (by decide) (fun _ => rfl) hf (fun x22 hf => ?_)
            refine E_goto (pc := 60) (tgt := 14) dX1_findLeads_60 (by decide) ?_
            refine Ev.sub [2, 3, 4, 0] rfl ?_
            exact ih _ _ _ _ _ hf
          · refine E_iload (pc := 54) dX1_findLeads_54 rfl ?_
            refine E_istore_n (pc := 56) (ls' := fun x23 => [(2, .int x23), (4, .int x14), (0, .ref a8), (1, .int x9), (3, .int x11)]) dX1_findLeads_56 (by decide) (fun _ => rfl) hf (fun x23 hf => ?_)
            refine E_iinc (pc := 57) (ls' := fun x24 => [(3, .int x24), (2, .int x23), (4, .int x14), (0, .ref a8), (1, .int x9)]) dX1_findLeads_57 rfl (by decide) (fun _ => rfl) hf (fun x24 hf => ?_)
            refine E_goto (pc := 60) (tgt := 14) dX1_findLeads_60 (by decide) ?_
            refine Ev.sub [3, 4, 1, 0] rfl ?_
            exact ih _ _ _ _ _ hf
def f_X1_findLeads_L2 (K76 : Mm → Option Mm) : Nat → Mm → Nat → Int32 → Option Mm
  | 0, _, _, _ => none
  | n + 1, μ0, a3, x4 =>
    ((gI μ0 a3 1 2).bind fun v5 =>
    (if v5 ≤ x4 then
    K76 μ0
    else
    (nm (-1 : Int32) fun x6 =>
    (nm (0 : Int32) fun x7 =>
    f_X1_findLeads_L14 (fun μ25 a26 x27 x28 =>
    ((gR μ25 a26 1 4).bind fun v29 =>
    ((sI μ25 v29 0 x27 x28).bind fun μ30 =>
    (nm (x27 + Int32.ofInt (1)) fun x31 =>
    f_X1_findLeads_L2 K76 n μ30 a26 x31)))) FU μ0 a3 x4 x6 x7))))
set_option maxHeartbeats 4000000 in
set_option maxRecDepth 100000 in
theorem f_X1_findLeads_L2_ok {l : Launch} {G : GG} {K76 : Mm → Option Mm} {μ' : Mm} (n : Nat) (μ0 : Mm) (a3 : Nat) (x4 : Int32) (hf : f_X1_findLeads_L2 K76 n μ0 a3 x4 = some μ') (hK76 : ∀ (μ1 : Mm), K76 μ1  = some μ' → Ev l G D_X1_findLeads yX1_findLeads cX1_findLeads 5 none 76 [] [] μ1 none μ') : Ev l G D_X1_findLeads yX1_findLeads cX1_findLeads 5 none 2 [(0, .ref a3), (1, .int x4)] [] μ0 none μ' := by
  induction n generalizing μ0 a3 x4 with
  | zero => cases hf
  | succ n ih0 =>
    have ih : ∀ (μ0 : Mm) (a3 : Nat) (x4 : Int32), f_X1_findLeads_L2 K76 n μ0 a3 x4 = some μ' → Ev l G D_X1_findLeads yX1_findLeads cX1_findLeads 5 none 2 [(0, .ref a3), (1, .int x4)] [] μ0 none μ' := fun μ0 a3 x4 hf => ih0 μ0 a3 x4 hf
    rw [f_X1_findLeads_L2] at hf
    refine E_iload_n (pc := 2) dX1_findLeads_2 rfl ?_
    refine E_aload_n (pc := 3) dX1_findLeads_3 rfl ?_
    refine E_getI (pc := 4) dX1_findLeads_4 fl_X1_18 hf (fun v5 hf => ?_)
    refine E_icmp_ge (pc := 7) (tgt := 76) dX1_findLeads_7 (by decide) hf (fun hf => ?_) (fun hf => ?_)
    · refine Ev.sub [] rfl ?_
      exact hK76 _ hf
    · refine E_iconst (pc := 10) (v := (-1 : Int32)) dX1_findLeads_10 (by decide) ?_
      refine E_istore_n (pc := 11) (ls' := fun x6 => [(2, .int x6), (0, .ref a3), (1, .int x4)]) dX1_findLeads_11 (by decide) (fun _ => rfl) hf (fun x6 hf => ?_)
      refine E_iconst (pc := 12) (v := (0 : Int32)) dX1_findLeads_12 (by decide) ?_
      refine E_istore_n (pc := 13) (ls' := fun x7 => [(3, .int x7), (2, .int x6), (0, .ref a3), (1, .int x4)]) dX1_findLeads_13 (by decide) (fun _ => rfl) hf (fun x7 hf => ?_)
      refine Ev.sub [2, 3, 1, 0] rfl ?_
      refine f_X1_findLeads_L14_ok  _ _ _ _ _ _ hf (fun μ25 a26 x27 x28 hf => ?_)
      · refine E_aload_n (pc := 63) dX1_findLeads_63 rfl ?_
        refine E_getR (pc := 64) dX1_findLeads_64 fl_X1_25 hf (fun v29 hf => ?_)
        refine E_iload_n (pc := 67) dX1_findLeads_67 rfl ?_
        refine E_iload_n (pc := 68) dX1_findLeads_68 rfl ?_
        refine E_iast (pc := 69) dX1_findLeads_69 hf (fun μ30 hf => ?_)
        refine E_iinc (pc := 70) (ls' := fun x31 => [(1, .int x31), (0, .ref a26), (2, .int x28)]) dX1_findLeads_70 rfl (by decide) (fun _ => rfl) hf (fun x31 hf => ?_)
        refine E_goto (pc := 73) (tgt := 2) dX1_findLeads_73 (by decide) ?_
        refine Ev.sub [1, 0] rfl ?_
        exact ih _ _ _ hf
set_option maxRecDepth 100000 in
def f_X1_findLeads (μ0 : Mm) (a1 : Nat) : Option Mm :=
 (nm (0 : Int32) fun x2 =>
    f_X1_findLeads_L2 (fun μ32 =>
    (some μ32)) FU μ0 a1 x2)
set_option maxHeartbeats 4000000 in
set_option maxRecDepth 100000 in
theorem f_X1_findLeads_ok {l : Launch} {G : GG} {μ0 : Mm} {a1 : Nat} {μ' : Mm} (hf : f_X1_findLeads μ0 a1 = some μ') : EvM l G D_X1_findLeads yX1_findLeads cX1_findLeads 5 none [.ref a1] μ0 none μ' := by
  show Ev l G D_X1_findLeads yX1_findLeads cX1_findLeads 5 none 0 [(0, .ref a1)] [] μ0 none μ'
  unfold f_X1_findLeads at hf
  refine E_iconst (pc := 0) (v := (0 : Int32)) dX1_findLeads_0 (by decide) ?_
  refine E_istore_n (pc := 1) (ls' := fun x2 => [(1, .int x2), (0, .ref a1)]) dX1_findLeads_1 (by decide) (fun _ => rfl) hf (fun x2 hf => ?_)
  refine Ev.sub [1, 0] rfl ?_
  refine f_X1_findLeads_L2_ok  _ _ _ _ hf (fun μ32 hf => ?_)
  · exact E_vret (pc := 76) dX1_findLeads_76 rfl hf
theorem dX1_floorUnder_0 : decode cX1_floorUnder 0 = .ok (.iload_n 1, 1) := by decide +kernel
theorem dX1_floorUnder_1 : decode cX1_floorUnder 1 = .ok (.istore_n 2, 1) := by decide +kernel
theorem dX1_floorUnder_2 : decode cX1_floorUnder 2 = .ok (.iconst 0, 1) := by decide +kernel
theorem dX1_floorUnder_3 : decode cX1_floorUnder 3 = .ok (.istore_n 3, 1) := by decide +kernel
theorem dX1_floorUnder_4 : decode cX1_floorUnder 4 = .ok (.iload_n 3, 1) := by decide +kernel
theorem dX1_floorUnder_5 : decode cX1_floorUnder 5 = .ok (.bipush 9, 2) := by decide +kernel
theorem dX1_floorUnder_7 : decode cX1_floorUnder 7 = .ok (.if_icmp .ge 26, 3) := by decide +kernel
theorem dX1_floorUnder_10 : decode cX1_floorUnder 10 = .ok (.aload_n 0, 1) := by decide +kernel
theorem dX1_floorUnder_11 : decode cX1_floorUnder 11 = .ok (.getfield 25, 3) := by decide +kernel
theorem dX1_floorUnder_14 : decode cX1_floorUnder 14 = .ok (.iload_n 2, 1) := by decide +kernel
theorem dX1_floorUnder_15 : decode cX1_floorUnder 15 = .ok (.iaload, 1) := by decide +kernel
theorem dX1_floorUnder_16 : decode cX1_floorUnder 16 = .ok (.iconst (-1), 1) := by decide +kernel
theorem dX1_floorUnder_17 : decode cX1_floorUnder 17 = .ok (.if_icmp .eq 16, 3) := by decide +kernel
theorem dX1_floorUnder_20 : decode cX1_floorUnder 20 = .ok (.aload_n 0, 1) := by decide +kernel
theorem dX1_floorUnder_21 : decode cX1_floorUnder 21 = .ok (.getfield 25, 3) := by decide +kernel
theorem dX1_floorUnder_24 : decode cX1_floorUnder 24 = .ok (.iload_n 2, 1) := by decide +kernel
theorem dX1_floorUnder_25 : decode cX1_floorUnder 25 = .ok (.iaload, 1) := by decide +kernel
theorem dX1_floorUnder_26 : decode cX1_floorUnder 26 = .ok (.istore_n 2, 1) := by decide +kernel
theorem dX1_floorUnder_27 : decode cX1_floorUnder 27 = .ok (.iinc 3 1, 3) := by decide +kernel
theorem dX1_floorUnder_30 : decode cX1_floorUnder 30 = .ok (.goto (-26), 3) := by decide +kernel
theorem dX1_floorUnder_33 : decode cX1_floorUnder 33 = .ok (.iload_n 2, 1) := by decide +kernel
theorem dX1_floorUnder_34 : decode cX1_floorUnder 34 = .ok (.ireturn, 1) := by decide +kernel
abbrev D_X1_floorUnder : Nat := 1
def f_X1_floorUnder_L4 (K33 : Mm → Int32 → Option (Int32 × Mm)) : Nat → Mm → Nat → Int32 → Int32 → Option (Int32 × Mm)
  | 0, _, _, _, _ => none
  | n + 1, μ0, a5, x6, x7 =>
    (if (9 : Int32) ≤ x7 then
    K33 μ0 x6
    else
    ((gR μ0 a5 1 4).bind fun v8 =>
    ((aI μ0 v8 0 x6).bind fun v9 =>
    (if v9 = (-1 : Int32) then
    K33 μ0 x6
    else
    ((gR μ0 a5 1 4).bind fun v10 =>
    ((aI μ0 v10 0 x6).bind fun v11 =>
    (nm v11 fun x12 =>
    (nm (x7 + Int32.ofInt (1)) fun x13 =>
    f_X1_floorUnder_L4 K33 n μ0 a5 x12 x13))))))))
set_option maxHeartbeats 4000000 in
set_option maxRecDepth 100000 in
theorem f_X1_floorUnder_L4_ok {l : Launch} {G : GG} {K33 : Mm → Int32 → Option (Int32 × Mm)} {r : Int32} {μ' : Mm} (n : Nat) (μ0 : Mm) (a5 : Nat) (x6 : Int32) (x7 : Int32) (hf : f_X1_floorUnder_L4 K33 n μ0 a5 x6 x7 = some (r, μ')) (hK33 : ∀ (μ1 : Mm) (y2 : Int32), K33 μ1 y2 = some (r, μ') → Ev l G D_X1_floorUnder yX1_floorUnder cX1_floorUnder 4 (some .int) 33 [(2, .int y2)] [] μ1 (some (.int r)) μ') : Ev l G D_X1_floorUnder yX1_floorUnder cX1_floorUnder 4 (some .int) 4 [(0, .ref a5), (2, .int x6), (3, .int x7)] [] μ0 (some (.int r)) μ' := by
  induction n generalizing μ0 a5 x6 x7 with
  | zero => cases hf
  | succ n ih0 =>
    have ih : ∀ (μ0 : Mm) (a5 : Nat) (x6 : Int32) (x7 : Int32), f_X1_floorUnder_L4 K33 n μ0 a5 x6 x7 = some (r, μ') → Ev l G D_X1_floorUnder yX1_floorUnder cX1_floorUnder 4 (some .int) 4 [(0, .ref a5), (2, .int x6), (3, .int x7)] [] μ0 (some (.int r)) μ' := fun μ0 a5 x6 x7 hf => ih0 μ0 a5 x6 x7 hf
    rw [f_X1_floorUnder_L4] at hf
    refine E_iload_n (pc := 4) dX1_floorUnder_4 rfl ?_
    refine E_bipush (pc := 5) (v := (9 : Int32)) dX1_floorUnder_5 (by decide) ?_
    refine E_icmp_ge (pc := 7) (tgt := 33) dX1_floorUnder_7 (by decide) hf (fun hf => ?_) (fun hf => ?_)
    · refine Ev.sub [1] rfl ?_
      exact hK33 _ _ hf
    · refine E_aload_n (pc := 10) dX1_floorUnder_10 rfl ?_
      refine E_getR (pc := 11) dX1_floorUnder_11 fl_X1_25 hf (fun v8 hf => ?_)
      refine E_iload_n (pc := 14) dX1_floorUnder_14 rfl ?_
      refine E_iald (pc := 15) dX1_floorUnder_15 hf (fun v9 hf => ?_)
      refine E_iconst (pc := 16) (v := (-1 : Int32)) dX1_floorUnder_16 (by decide) ?_
      refine E_icmp_eq (pc := 17) (tgt := 33) dX1_floorUnder_17 (by decide) hf (fun hf => ?_) (fun hf => ?_)
      · refine Ev.sub [1] rfl ?_
        exact hK33 _ _ hf
      · refine E_aload_n (pc := 20) dX1_floorUnder_20 rfl ?_
        refine E_getR (pc := 21) dX1_floorUnder_21 fl_X1_25 hf (fun v10 hf => ?_)
        refine E_iload_n (pc := 24) dX1_floorUnder_24 rfl ?_
        refine E_iald (pc := 25) dX1_floorUnder_25 hf (fun v11 hf => ?_)
        refine E_istore_n (pc := 26) (ls' := fun x12 => [(2, .int x12), (0, .ref a5), (3, .int x7)]) dX1_floorUnder_26 (by decide) (fun _ => rfl) hf (fun x12 hf => ?_)
        refine E_iinc (pc := 27) (ls' := fun x13 => [(3, .int x13), (2, .int x12), (0, .ref a5)]) dX1_floorUnder_27 rfl (by decide) (fun _ => rfl) hf (fun x13 hf => ?_)
        refine E_goto (pc := 30) (tgt := 4) dX1_floorUnder_30 (by decide) ?_
        refine Ev.sub [2, 1, 0] rfl ?_
        exact ih _ _ _ _ hf
set_option maxRecDepth 100000 in
def f_X1_floorUnder (μ0 : Mm) (a1 : Nat) (x2 : Int32) : Option (Int32 × Mm) :=
 (nm x2 fun x3 =>
    (nm (0 : Int32) fun x4 =>
    f_X1_floorUnder_L4 (fun μ14 x15 =>
    (some (x15, μ14))) FU μ0 a1 x3 x4))
set_option maxHeartbeats 4000000 in
set_option maxRecDepth 100000 in
theorem f_X1_floorUnder_ok {l : Launch} {G : GG} {μ0 : Mm} {a1 : Nat} {x2 : Int32} {r : Int32} {μ' : Mm} (hf : f_X1_floorUnder μ0 a1 x2 = some (r, μ')) : EvM l G D_X1_floorUnder yX1_floorUnder cX1_floorUnder 4 (some .int) [.ref a1, .int x2] μ0 (some (.int r)) μ' := by
  show Ev l G D_X1_floorUnder yX1_floorUnder cX1_floorUnder 4 (some .int) 0 [(0, .ref a1), (1, .int x2)] [] μ0 (some (.int r)) μ'
  unfold f_X1_floorUnder at hf
  refine E_iload_n (pc := 0) dX1_floorUnder_0 rfl ?_
  refine E_istore_n (pc := 1) (ls' := fun x3 => [(2, .int x3), (0, .ref a1), (1, .int x2)]) dX1_floorUnder_1 (by decide) (fun _ => rfl) hf (fun x3 hf => ?_)
  refine E_iconst (pc := 2) (v := (0 : Int32)) dX1_floorUnder_2 (by decide) ?_
  refine E_istore_n (pc := 3) (ls' := fun x4 => [(3, .int x4), (2, .int x3), (0, .ref a1), (1, .int x2)]) dX1_floorUnder_3 (by decide) (fun _ => rfl) hf (fun x4 hf => ?_)
  refine Ev.sub [2, 1, 0] rfl ?_
  refine f_X1_floorUnder_L4_ok  _ _ _ _ _ hf (fun μ14 x15 hf => ?_)
  · refine E_iload_n (pc := 33) dX1_floorUnder_33 rfl ?_
    exact E_iret (pc := 34) dX1_floorUnder_34 rfl hf
theorem dX1_stepsUnder_0 : decode cX1_stepsUnder 0 = .ok (.iload_n 1, 1) := by decide +kernel
theorem dX1_stepsUnder_1 : decode cX1_stepsUnder 1 = .ok (.istore_n 2, 1) := by decide +kernel
theorem dX1_stepsUnder_2 : decode cX1_stepsUnder 2 = .ok (.iconst 0, 1) := by decide +kernel
theorem dX1_stepsUnder_3 : decode cX1_stepsUnder 3 = .ok (.istore_n 3, 1) := by decide +kernel
theorem dX1_stepsUnder_4 : decode cX1_stepsUnder 4 = .ok (.iload_n 3, 1) := by decide +kernel
theorem dX1_stepsUnder_5 : decode cX1_stepsUnder 5 = .ok (.bipush 9, 2) := by decide +kernel
theorem dX1_stepsUnder_7 : decode cX1_stepsUnder 7 = .ok (.if_icmp .ge 26, 3) := by decide +kernel
theorem dX1_stepsUnder_10 : decode cX1_stepsUnder 10 = .ok (.aload_n 0, 1) := by decide +kernel
theorem dX1_stepsUnder_11 : decode cX1_stepsUnder 11 = .ok (.getfield 25, 3) := by decide +kernel
theorem dX1_stepsUnder_14 : decode cX1_stepsUnder 14 = .ok (.iload_n 2, 1) := by decide +kernel
theorem dX1_stepsUnder_15 : decode cX1_stepsUnder 15 = .ok (.iaload, 1) := by decide +kernel
theorem dX1_stepsUnder_16 : decode cX1_stepsUnder 16 = .ok (.iconst (-1), 1) := by decide +kernel
theorem dX1_stepsUnder_17 : decode cX1_stepsUnder 17 = .ok (.if_icmp .eq 16, 3) := by decide +kernel
theorem dX1_stepsUnder_20 : decode cX1_stepsUnder 20 = .ok (.aload_n 0, 1) := by decide +kernel
theorem dX1_stepsUnder_21 : decode cX1_stepsUnder 21 = .ok (.getfield 25, 3) := by decide +kernel
theorem dX1_stepsUnder_24 : decode cX1_stepsUnder 24 = .ok (.iload_n 2, 1) := by decide +kernel
theorem dX1_stepsUnder_25 : decode cX1_stepsUnder 25 = .ok (.iaload, 1) := by decide +kernel
theorem dX1_stepsUnder_26 : decode cX1_stepsUnder 26 = .ok (.istore_n 2, 1) := by decide +kernel
theorem dX1_stepsUnder_27 : decode cX1_stepsUnder 27 = .ok (.iinc 3 1, 3) := by decide +kernel
theorem dX1_stepsUnder_30 : decode cX1_stepsUnder 30 = .ok (.goto (-26), 3) := by decide +kernel
theorem dX1_stepsUnder_33 : decode cX1_stepsUnder 33 = .ok (.iload_n 3, 1) := by decide +kernel
theorem dX1_stepsUnder_34 : decode cX1_stepsUnder 34 = .ok (.ireturn, 1) := by decide +kernel
abbrev D_X1_stepsUnder : Nat := 1
def f_X1_stepsUnder_L4 (K33 : Mm → Int32 → Option (Int32 × Mm)) : Nat → Mm → Nat → Int32 → Int32 → Option (Int32 × Mm)
  | 0, _, _, _, _ => none
  | n + 1, μ0, a5, x6, x7 =>
    (if (9 : Int32) ≤ x7 then
    K33 μ0 x7
    else
    ((gR μ0 a5 1 4).bind fun v8 =>
    ((aI μ0 v8 0 x6).bind fun v9 =>
    (if v9 = (-1 : Int32) then
    K33 μ0 x7
    else
    ((gR μ0 a5 1 4).bind fun v10 =>
    ((aI μ0 v10 0 x6).bind fun v11 =>
    (nm v11 fun x12 =>
    (nm (x7 + Int32.ofInt (1)) fun x13 =>
    f_X1_stepsUnder_L4 K33 n μ0 a5 x12 x13))))))))
set_option maxHeartbeats 4000000 in
set_option maxRecDepth 100000 in
theorem f_X1_stepsUnder_L4_ok {l : Launch} {G : GG} {K33 : Mm → Int32 → Option (Int32 × Mm)} {r : Int32} {μ' : Mm} (n : Nat) (μ0 : Mm) (a5 : Nat) (x6 : Int32) (x7 : Int32) (hf : f_X1_stepsUnder_L4 K33 n μ0 a5 x6 x7 = some (r, μ')) (hK33 : ∀ (μ1 : Mm) (y3 : Int32), K33 μ1 y3 = some (r, μ') → Ev l G D_X1_stepsUnder yX1_stepsUnder cX1_stepsUnder 4 (some .int) 33 [(3, .int y3)] [] μ1 (some (.int r)) μ') : Ev l G D_X1_stepsUnder yX1_stepsUnder cX1_stepsUnder 4 (some .int) 4 [(0, .ref a5), (2, .int x6), (3, .int x7)] [] μ0 (some (.int r)) μ' := by
  induction n generalizing μ0 a5 x6 x7 with
  | zero => cases hf
  | succ n ih0 =>
    have ih : ∀ (μ0 : Mm) (a5 : Nat) (x6 : Int32) (x7 : Int32), f_X1_stepsUnder_L4 K33 n μ0 a5 x6 x7 = some (r, μ') → Ev l G D_X1_stepsUnder yX1_stepsUnder cX1_stepsUnder 4 (some .int) 4 [(0, .ref a5), (2, .int x6), (3, .int x7)] [] μ0 (some (.int r)) μ' := fun μ0 a5 x6 x7 hf => ih0 μ0 a5 x6 x7 hf
    rw [f_X1_stepsUnder_L4] at hf
    refine E_iload_n (pc := 4) dX1_stepsUnder_4 rfl ?_
    refine E_bipush (pc := 5) (v := (9 : Int32)) dX1_stepsUnder_5 (by decide) ?_
    refine E_icmp_ge (pc := 7) (tgt := 33) dX1_stepsUnder_7 (by decide) hf (fun hf => ?_) (fun hf => ?_)
    · refine Ev.sub [2] rfl ?_
      exact hK33 _ _ hf
    · refine E_aload_n (pc := 10) dX1_stepsUnder_10 rfl ?_
      refine E_getR (pc := 11) dX1_stepsUnder_11 fl_X1_25 hf (fun v8 hf => ?_)
      refine E_iload_n (pc := 14) dX1_stepsUnder_14 rfl ?_
      refine E_iald (pc := 15) dX1_stepsUnder_15 hf (fun v9 hf => ?_)
      refine E_iconst (pc := 16) (v := (-1 : Int32)) dX1_stepsUnder_16 (by decide) ?_
      refine E_icmp_eq (pc := 17) (tgt := 33) dX1_stepsUnder_17 (by decide) hf (fun hf => ?_) (fun hf => ?_)
      · refine Ev.sub [2] rfl ?_
        exact hK33 _ _ hf
      · refine E_aload_n (pc := 20) dX1_stepsUnder_20 rfl ?_
        refine E_getR (pc := 21) dX1_stepsUnder_21 fl_X1_25 hf (fun v10 hf => ?_)
        refine E_iload_n (pc := 24) dX1_stepsUnder_24 rfl ?_
        refine E_iald (pc := 25) dX1_stepsUnder_25 hf (fun v11 hf => ?_)
        refine E_istore_n (pc := 26) (ls' := fun x12 => [(2, .int x12), (0, .ref a5), (3, .int x7)]) dX1_stepsUnder_26 (by decide) (fun _ => rfl) hf (fun x12 hf => ?_)
        refine E_iinc (pc := 27) (ls' := fun x13 => [(3, .int x13), (2, .int x12), (0, .ref a5)]) dX1_stepsUnder_27 rfl (by decide) (fun _ => rfl) hf (fun x13 hf => ?_)
        refine E_goto (pc := 30) (tgt := 4) dX1_stepsUnder_30 (by decide) ?_
        refine Ev.sub [2, 1, 0] rfl ?_
        exact ih _ _ _ _ hf
set_option maxRecDepth 100000 in
def f_X1_stepsUnder (μ0 : Mm) (a1 : Nat) (x2 : Int32) : Option (Int32 × Mm) :=
 (nm x2 fun x3 =>
    (nm (0 : Int32) fun x4 =>
    f_X1_stepsUnder_L4 (fun μ14 x15 =>
    (some (x15, μ14))) FU μ0 a1 x3 x4))
set_option maxHeartbeats 4000000 in
set_option maxRecDepth 100000 in
theorem f_X1_stepsUnder_ok {l : Launch} {G : GG} {μ0 : Mm} {a1 : Nat} {x2 : Int32} {r : Int32} {μ' : Mm} (hf : f_X1_stepsUnder μ0 a1 x2 = some (r, μ')) : EvM l G D_X1_stepsUnder yX1_stepsUnder cX1_stepsUnder 4 (some .int) [.ref a1, .int x2] μ0 (some (.int r)) μ' := by
  show Ev l G D_X1_stepsUnder yX1_stepsUnder cX1_stepsUnder 4 (some .int) 0 [(0, .ref a1), (1, .int x2)] [] μ0 (some (.int r)) μ'
  unfold f_X1_stepsUnder at hf
  refine E_iload_n (pc := 0) dX1_stepsUnder_0 rfl ?_
  refine E_istore_n (pc := 1) (ls' := fun x3 => [(2, .int x3), (0, .ref a1), (1, .int x2)]) dX1_stepsUnder_1 (by decide) (fun _ => rfl) hf (fun x3 hf => ?_)
  refine E_iconst (pc := 2) (v := (0 : Int32)) dX1_stepsUnder_2 (by decide) ?_
  refine E_istore_n (pc := 3) (ls' := fun x4 => [(3, .int x4), (2, .int x3), (0, .ref a1), (1, .int x2)]) dX1_stepsUnder_3 (by decide) (fun _ => rfl) hf (fun x4 hf => ?_)
  refine Ev.sub [2, 1, 0] rfl ?_
  refine f_X1_stepsUnder_L4_ok  _ _ _ _ _ hf (fun μ14 x15 hf => ?_)
  · refine E_iload_n (pc := 33) dX1_stepsUnder_33 rfl ?_
    exact E_iret (pc := 34) dX1_stepsUnder_34 rfl hf
