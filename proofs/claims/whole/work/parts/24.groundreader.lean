theorem dX2_init_0 : decode cX2_init 0 = .ok (.aload_n 0, 1) := by decide +kernel
theorem dX2_init_1 : decode cX2_init 1 = .ok (.invokespecial 3, 3) := by decide +kernel
theorem dX2_init_4 : decode cX2_init 4 = .ok (.aload_n 0, 1) := by decide +kernel
theorem dX2_init_5 : decode cX2_init 5 = .ok (.new 9, 3) := by decide +kernel
theorem dX2_init_8 : decode cX2_init 8 = .ok (.dup, 1) := by decide +kernel
theorem dX2_init_9 : decode cX2_init 9 = .ok (.invokespecial 11, 3) := by decide +kernel
theorem dX2_init_12 : decode cX2_init 12 = .ok (.putfield 12, 3) := by decide +kernel
theorem dX2_init_15 : decode cX2_init 15 = .ok (.aload_n 0, 1) := by decide +kernel
theorem dX2_init_16 : decode cX2_init 16 = .ok (.iconst 0, 1) := by decide +kernel
theorem dX2_init_17 : decode cX2_init 17 = .ok (.putfield 18, 3) := by decide +kernel
theorem dX2_init_20 : decode cX2_init 20 = .ok (.aload_n 0, 1) := by decide +kernel
theorem dX2_init_21 : decode cX2_init 21 = .ok (.aload_n 1, 1) := by decide +kernel
theorem dX2_init_22 : decode cX2_init 22 = .ok (.putfield 22, 3) := by decide +kernel
theorem dX2_init_25 : decode cX2_init 25 = .ok (.return_, 1) := by decide +kernel
abbrev D_X2_init : Nat := 3
set_option maxRecDepth 100000 in
def f_X2_init (μ0 : Mm) (a1 : Nat) (a2 : Nat) : Option Mm :=
 (bd (nO μ0 1 15 [.int 0, .int 0, .int 0, .null, .null, .long 0, .int 0, .null, .null, .int 0, .null, .null, .null, .null, .null]) fun a3 μ4 =>
    ((f_X1_init μ4 a3).bind fun μ5 =>
    ((pV μ5 a1 2 1 (.ref a3)).bind fun μ6 =>
    ((pV μ6 a1 2 2 (.int (0 : Int32))).bind fun μ7 =>
    ((pV μ7 a1 2 0 (.ref a2)).bind fun μ8 =>
    (some μ8))))))
set_option maxHeartbeats 4000000 in
set_option maxRecDepth 100000 in
theorem f_X2_init_ok {l : Launch} {G : GG} {μ0 : Mm} {a1 : Nat} {a2 : Nat} {μ' : Mm} (hf : f_X2_init μ0 a1 a2 = some μ') : EvM l G D_X2_init yX2_init cX2_init 2 none [.ref a1, .ref a2] μ0 none μ' := by
  show Ev l G D_X2_init yX2_init cX2_init 2 none 0 [(0, .ref a1), (1, .ref a2)] [] μ0 none μ'
  unfold f_X2_init at hf
  refine E_aload_n (pc := 0) dX2_init_0 rfl ?_
  refine E_objI (pc := 1) dX2_init_1 (by decide) (Nat.le_of_ble_eq_true rfl) ml_X2_3 ?_
  refine E_aload_n (pc := 4) dX2_init_4 rfl ?_
  refine E_new2 (pc := 5) dX2_init_5 nl_X2_9 hf (fun a3 μ4 hf => ?_)
  refine E_dup (pc := 8) dX2_init_8 rfl ?_
  refine E_INv (pc := 9) (d2 := D_X1_init) [] dX2_init_9 ml_X2_11 mf_X1_init ii_X1_init rfl rfl (by decide) (Nat.le_of_ble_eq_true rfl) (Nat.le_of_ble_eq_true rfl) rfl (fun _ h => f_X1_init_ok h) hf (fun μ5 hf => ?_)
  refine E_putR (pc := 12) dX2_init_12 (pl_X2_12 _) hf (fun μ6 hf => ?_)
  refine E_aload_n (pc := 15) dX2_init_15 rfl ?_
  refine E_iconst (pc := 16) (v := (0 : Int32)) dX2_init_16 (by decide) ?_
  refine E_putI (pc := 17) dX2_init_17 (pl_X2_18 _) hf (fun μ7 hf => ?_)
  refine E_aload_n (pc := 20) dX2_init_20 rfl ?_
  refine E_aload_n (pc := 21) dX2_init_21 rfl ?_
  refine E_putR (pc := 22) dX2_init_22 pl_X2_22 hf (fun μ8 hf => ?_)
  exact E_vret (pc := 25) dX2_init_25 rfl hf
theorem dX2_isFull_0 : decode cX2_isFull 0 = .ok (.iload_n 1, 1) := by decide +kernel
theorem dX2_isFull_1 : decode cX2_isFull 1 = .ok (.tableswitch 153 1 6 #[39, 59, 76, 94, 111, 132], 39) := by decide +kernel
theorem dX2_isFull_40 : decode cX2_isFull 40 = .ok (.aload_n 0, 1) := by decide +kernel
theorem dX2_isFull_41 : decode cX2_isFull 41 = .ok (.getfield 18, 3) := by decide +kernel
theorem dX2_isFull_44 : decode cX2_isFull 44 = .ok (.aload_n 0, 1) := by decide +kernel
theorem dX2_isFull_45 : decode cX2_isFull 45 = .ok (.getfield 12, 3) := by decide +kernel
theorem dX2_isFull_48 : decode cX2_isFull 48 = .ok (.getfield 93, 3) := by decide +kernel
theorem dX2_isFull_51 : decode cX2_isFull 51 = .ok (.if_icmp .lt 7, 3) := by decide +kernel
theorem dX2_isFull_54 : decode cX2_isFull 54 = .ok (.iconst 1, 1) := by decide +kernel
theorem dX2_isFull_55 : decode cX2_isFull 55 = .ok (.goto 4, 3) := by decide +kernel
theorem dX2_isFull_58 : decode cX2_isFull 58 = .ok (.iconst 0, 1) := by decide +kernel
theorem dX2_isFull_59 : decode cX2_isFull 59 = .ok (.ireturn, 1) := by decide +kernel
theorem dX2_isFull_60 : decode cX2_isFull 60 = .ok (.aload_n 0, 1) := by decide +kernel
theorem dX2_isFull_61 : decode cX2_isFull 61 = .ok (.getfield 12, 3) := by decide +kernel
theorem dX2_isFull_64 : decode cX2_isFull 64 = .ok (.getfield 96, 3) := by decide +kernel
theorem dX2_isFull_67 : decode cX2_isFull 67 = .ok (.iconst 5, 1) := by decide +kernel
theorem dX2_isFull_68 : decode cX2_isFull 68 = .ok (.if_icmp .lt 7, 3) := by decide +kernel
theorem dX2_isFull_71 : decode cX2_isFull 71 = .ok (.iconst 1, 1) := by decide +kernel
theorem dX2_isFull_72 : decode cX2_isFull 72 = .ok (.goto 4, 3) := by decide +kernel
theorem dX2_isFull_75 : decode cX2_isFull 75 = .ok (.iconst 0, 1) := by decide +kernel
theorem dX2_isFull_76 : decode cX2_isFull 76 = .ok (.ireturn, 1) := by decide +kernel
theorem dX2_isFull_77 : decode cX2_isFull 77 = .ok (.aload_n 0, 1) := by decide +kernel
theorem dX2_isFull_78 : decode cX2_isFull 78 = .ok (.getfield 12, 3) := by decide +kernel
theorem dX2_isFull_81 : decode cX2_isFull 81 = .ok (.getfield 99, 3) := by decide +kernel
theorem dX2_isFull_84 : decode cX2_isFull 84 = .ok (.bipush 8, 2) := by decide +kernel
theorem dX2_isFull_86 : decode cX2_isFull 86 = .ok (.if_icmp .lt 7, 3) := by decide +kernel
theorem dX2_isFull_89 : decode cX2_isFull 89 = .ok (.iconst 1, 1) := by decide +kernel
theorem dX2_isFull_90 : decode cX2_isFull 90 = .ok (.goto 4, 3) := by decide +kernel
theorem dX2_isFull_93 : decode cX2_isFull 93 = .ok (.iconst 0, 1) := by decide +kernel
theorem dX2_isFull_94 : decode cX2_isFull 94 = .ok (.ireturn, 1) := by decide +kernel
theorem dX2_isFull_95 : decode cX2_isFull 95 = .ok (.aload_n 0, 1) := by decide +kernel
theorem dX2_isFull_96 : decode cX2_isFull 96 = .ok (.getfield 12, 3) := by decide +kernel
theorem dX2_isFull_99 : decode cX2_isFull 99 = .ok (.invokevirtual 102, 3) := by decide +kernel
theorem dX2_isFull_102 : decode cX2_isFull 102 = .ok (.iconst 4, 1) := by decide +kernel
theorem dX2_isFull_103 : decode cX2_isFull 103 = .ok (.if_icmp .lt 7, 3) := by decide +kernel
theorem dX2_isFull_106 : decode cX2_isFull 106 = .ok (.iconst 1, 1) := by decide +kernel
theorem dX2_isFull_107 : decode cX2_isFull 107 = .ok (.goto 4, 3) := by decide +kernel
theorem dX2_isFull_110 : decode cX2_isFull 110 = .ok (.iconst 0, 1) := by decide +kernel
theorem dX2_isFull_111 : decode cX2_isFull 111 = .ok (.ireturn, 1) := by decide +kernel
theorem dX2_isFull_112 : decode cX2_isFull 112 = .ok (.aload_n 0, 1) := by decide +kernel
theorem dX2_isFull_113 : decode cX2_isFull 113 = .ok (.getfield 12, 3) := by decide +kernel
theorem dX2_isFull_116 : decode cX2_isFull 116 = .ok (.getfield 45, 3) := by decide +kernel
theorem dX2_isFull_119 : decode cX2_isFull 119 = .ok (.getfield 105, 3) := by decide +kernel
theorem dX2_isFull_122 : decode cX2_isFull 122 = .ok (.bipush 8, 2) := by decide +kernel
theorem dX2_isFull_124 : decode cX2_isFull 124 = .ok (.if_icmp .lt 7, 3) := by decide +kernel
theorem dX2_isFull_127 : decode cX2_isFull 127 = .ok (.iconst 1, 1) := by decide +kernel
theorem dX2_isFull_128 : decode cX2_isFull 128 = .ok (.goto 4, 3) := by decide +kernel
theorem dX2_isFull_131 : decode cX2_isFull 131 = .ok (.iconst 0, 1) := by decide +kernel
theorem dX2_isFull_132 : decode cX2_isFull 132 = .ok (.ireturn, 1) := by decide +kernel
theorem dX2_isFull_133 : decode cX2_isFull 133 = .ok (.aload_n 0, 1) := by decide +kernel
theorem dX2_isFull_134 : decode cX2_isFull 134 = .ok (.getfield 12, 3) := by decide +kernel
theorem dX2_isFull_137 : decode cX2_isFull 137 = .ok (.getfield 45, 3) := by decide +kernel
theorem dX2_isFull_140 : decode cX2_isFull 140 = .ok (.getfield 108, 3) := by decide +kernel
theorem dX2_isFull_143 : decode cX2_isFull 143 = .ok (.bipush 10, 2) := by decide +kernel
theorem dX2_isFull_145 : decode cX2_isFull 145 = .ok (.if_icmp .lt 7, 3) := by decide +kernel
theorem dX2_isFull_148 : decode cX2_isFull 148 = .ok (.iconst 1, 1) := by decide +kernel
theorem dX2_isFull_149 : decode cX2_isFull 149 = .ok (.goto 4, 3) := by decide +kernel
theorem dX2_isFull_152 : decode cX2_isFull 152 = .ok (.iconst 0, 1) := by decide +kernel
theorem dX2_isFull_153 : decode cX2_isFull 153 = .ok (.ireturn, 1) := by decide +kernel
theorem dX2_isFull_154 : decode cX2_isFull 154 = .ok (.iconst 0, 1) := by decide +kernel
theorem dX2_isFull_155 : decode cX2_isFull 155 = .ok (.ireturn, 1) := by decide +kernel
abbrev D_X2_isFull : Nat := 3
set_option maxRecDepth 100000 in
def f_X2_isFull (μ0 : Mm) (a1 : Nat) (x2 : Int32) : Option (Int32 × Mm) :=
 (if x2 = (1 : Int32) then
    ((gI μ0 a1 2 2).bind fun v16 =>
    ((gR μ0 a1 2 1).bind fun v17 =>
    ((gI μ0 v17 1 1).bind fun v18 =>
    (if v16 < v18 then
    (if (0 : Int32) = 0 ∨ (0 : Int32) = 1 then some ((0 : Int32), μ0) else none)
    else
    (if (1 : Int32) = 0 ∨ (1 : Int32) = 1 then some ((1 : Int32), μ0) else none)))))
    else
    (if x2 = (2 : Int32) then
    ((gR μ0 a1 2 1).bind fun v14 =>
    ((gI μ0 v14 1 6).bind fun v15 =>
    (if v15 < (5 : Int32) then
    (if (0 : Int32) = 0 ∨ (0 : Int32) = 1 then some ((0 : Int32), μ0) else none)
    else
    (if (1 : Int32) = 0 ∨ (1 : Int32) = 1 then some ((1 : Int32), μ0) else none))))
    else
    (if x2 = (3 : Int32) then
    ((gR μ0 a1 2 1).bind fun v12 =>
    ((gI μ0 v12 1 9).bind fun v13 =>
    (if v13 < (8 : Int32) then
    (if (0 : Int32) = 0 ∨ (0 : Int32) = 1 then some ((0 : Int32), μ0) else none)
    else
    (if (1 : Int32) = 0 ∨ (1 : Int32) = 1 then some ((1 : Int32), μ0) else none))))
    else
    (if x2 = (4 : Int32) then
    ((gR μ0 a1 2 1).bind fun v9 =>
    ((ob μ0 v9 1).bind fun _ =>
    (bd (f_X1_netCount μ0 v9) fun v11 μ10 =>
    (if v11 < (4 : Int32) then
    (if (0 : Int32) = 0 ∨ (0 : Int32) = 1 then some ((0 : Int32), μ10) else none)
    else
    (if (1 : Int32) = 0 ∨ (1 : Int32) = 1 then some ((1 : Int32), μ10) else none)))))
    else
    (if x2 = (5 : Int32) then
    ((gR μ0 a1 2 1).bind fun v6 =>
    ((gR μ0 v6 1 14).bind fun v7 =>
    ((gI μ0 v7 3 0).bind fun v8 =>
    (if v8 < (8 : Int32) then
    (if (0 : Int32) = 0 ∨ (0 : Int32) = 1 then some ((0 : Int32), μ0) else none)
    else
    (if (1 : Int32) = 0 ∨ (1 : Int32) = 1 then some ((1 : Int32), μ0) else none)))))
    else
    (if x2 = (6 : Int32) then
    ((gR μ0 a1 2 1).bind fun v3 =>
    ((gR μ0 v3 1 14).bind fun v4 =>
    ((gI μ0 v4 3 2).bind fun v5 =>
    (if v5 < (10 : Int32) then
    (if (0 : Int32) = 0 ∨ (0 : Int32) = 1 then some ((0 : Int32), μ0) else none)
    else
    (if (1 : Int32) = 0 ∨ (1 : Int32) = 1 then some ((1 : Int32), μ0) else none)))))
    else
    (if (0 : Int32) = 0 ∨ (0 : Int32) = 1 then some ((0 : Int32), μ0) else none)))))))
set_option maxHeartbeats 4000000 in
set_option maxRecDepth 100000 in
theorem f_X2_isFull_ok {l : Launch} {G : GG} {μ0 : Mm} {a1 : Nat} {x2 : Int32} {r : Int32} {μ' : Mm} (hf : f_X2_isFull μ0 a1 x2 = some (r, μ')) : EvM l G D_X2_isFull yX2_isFull cX2_isFull 2 (some .boolean) [.ref a1, .int x2] μ0 (some (.int r)) μ' := by
  show Ev l G D_X2_isFull yX2_isFull cX2_isFull 2 (some .boolean) 0 [(0, .ref a1), (1, .int x2)] [] μ0 (some (.int r)) μ'
  unfold f_X2_isFull at hf
  refine E_iload_n (pc := 0) dX2_isFull_0 rfl ?_
  refine ifS hf (fun n1_0 hf => ?_) (fun n1_0 hf => ?_)
  · refine E_tswI (pc := 1) (tgt := 40) (1) dX2_isFull_1 (by rw [n1_0]; decide) (by decide) (by decide) rfl (by decide) ?_
    refine E_aload_n (pc := 40) dX2_isFull_40 rfl ?_
    refine E_getI (pc := 41) dX2_isFull_41 fl_X2_18 hf (fun v16 hf => ?_)
    refine E_aload_n (pc := 44) dX2_isFull_44 rfl ?_
    refine E_getR (pc := 45) dX2_isFull_45 fl_X2_12 hf (fun v17 hf => ?_)
    refine E_getI (pc := 48) dX2_isFull_48 fl_X2_93 hf (fun v18 hf => ?_)
    refine E_icmp_lt (pc := 51) (tgt := 58) dX2_isFull_51 (by decide) hf (fun hf => ?_) (fun hf => ?_)
    · refine E_iconst (pc := 58) (v := (0 : Int32)) dX2_isFull_58 (by decide) ?_
      exact E_zret (pc := 59) dX2_isFull_59 rfl hf
    · refine E_iconst (pc := 54) (v := (1 : Int32)) dX2_isFull_54 (by decide) ?_
      refine E_goto (pc := 55) (tgt := 59) dX2_isFull_55 (by decide) ?_
      exact E_zret (pc := 59) dX2_isFull_59 rfl hf
  · refine ifS hf (fun n1_1 hf => ?_) (fun n1_1 hf => ?_)
    · refine E_tswI (pc := 1) (tgt := 60) (2) dX2_isFull_1 (by rw [n1_1]; decide) (by decide) (by decide) rfl (by decide) ?_
      refine E_aload_n (pc := 60) dX2_isFull_60 rfl ?_
      refine E_getR (pc := 61) dX2_isFull_61 fl_X2_12 hf (fun v14 hf => ?_)
      refine E_getI (pc := 64) dX2_isFull_64 fl_X2_96 hf (fun v15 hf => ?_)
      refine E_iconst (pc := 67) (v := (5 : Int32)) dX2_isFull_67 (by decide) ?_
      refine E_icmp_lt (pc := 68) (tgt := 75) dX2_isFull_68 (by decide) hf (fun hf => ?_) (fun hf => ?_)
      · refine E_iconst (pc := 75) (v := (0 : Int32)) dX2_isFull_75 (by decide) ?_
        exact E_zret (pc := 76) dX2_isFull_76 rfl hf
      · refine E_iconst (pc := 71) (v := (1 : Int32)) dX2_isFull_71 (by decide) ?_
        refine E_goto (pc := 72) (tgt := 76) dX2_isFull_72 (by decide) ?_
        exact E_zret (pc := 76) dX2_isFull_76 rfl hf
    · refine ifS hf (fun n1_2 hf => ?_) (fun n1_2 hf => ?_)
      · refine E_tswI (pc := 1) (tgt := 77) (3) dX2_isFull_1 (by rw [n1_2]; decide) (by decide) (by decide) rfl (by decide) ?_
        refine E_aload_n (pc := 77) dX2_isFull_77 rfl ?_
        refine E_getR (pc := 78) dX2_isFull_78 fl_X2_12 hf (fun v12 hf => ?_)
        refine E_getI (pc := 81) dX2_isFull_81 fl_X2_99 hf (fun v13 hf => ?_)
        refine E_bipush (pc := 84) (v := (8 : Int32)) dX2_isFull_84 (by decide) ?_
        refine E_icmp_lt (pc := 86) (tgt := 93) dX2_isFull_86 (by decide) hf (fun hf => ?_) (fun hf => ?_)
        · refine E_iconst (pc := 93) (v := (0 : Int32)) dX2_isFull_93 (by decide) ?_
          exact E_zret (pc := 94) dX2_isFull_94 rfl hf
        · refine E_iconst (pc := 89) (v := (1 : Int32)) dX2_isFull_89 (by decide) ?_
          refine E_goto (pc := 90) (tgt := 94) dX2_isFull_90 (by decide) ?_
          exact E_zret (pc := 94) dX2_isFull_94 rfl hf
      · refine ifS hf (fun n1_3 hf => ?_) (fun n1_3 hf => ?_)
        · refine E_tswI (pc := 1) (tgt := 95) (4) dX2_isFull_1 (by rw [n1_3]; decide) (by decide) (by decide) rfl (by decide) ?_
          refine E_aload_n (pc := 95) dX2_isFull_95 rfl ?_
          refine E_getR (pc := 96) dX2_isFull_96 fl_X2_12 hf (fun v9 hf => ?_)
          refine E_Vi (pc := 99) (d2 := D_X1_netCount) (ci := 1) [] dX2_isFull_99 ml_X2_102 mf_X1_netCount im_X1_netCount rfl rfl rfl (by decide) (Nat.le_of_ble_eq_true rfl) (Nat.le_of_ble_eq_true rfl) rfl (fun _ _ h => f_X1_netCount_ok h) hf (fun v11 μ10 hf => ?_)
          refine E_iconst (pc := 102) (v := (4 : Int32)) dX2_isFull_102 (by decide) ?_
          refine E_icmp_lt (pc := 103) (tgt := 110) dX2_isFull_103 (by decide) hf (fun hf => ?_) (fun hf => ?_)
          · refine E_iconst (pc := 110) (v := (0 : Int32)) dX2_isFull_110 (by decide) ?_
            exact E_zret (pc := 111) dX2_isFull_111 rfl hf
          · refine E_iconst (pc := 106) (v := (1 : Int32)) dX2_isFull_106 (by decide) ?_
            refine E_goto (pc := 107) (tgt := 111) dX2_isFull_107 (by decide) ?_
            exact E_zret (pc := 111) dX2_isFull_111 rfl hf
        · refine ifS hf (fun n1_4 hf => ?_) (fun n1_4 hf => ?_)
          · refine E_tswI (pc := 1) (tgt := 112) (5) dX2_isFull_1 (by rw [n1_4]; decide) (by decide) (by decide) rfl (by decide) ?_
            refine E_aload_n (pc := 112) dX2_isFull_112 rfl ?_
            refine E_getR (pc := 113) dX2_isFull_113 fl_X2_12 hf (fun v6 hf => ?_)
            refine E_getR (pc := 116) dX2_isFull_116 fl_X2_45 hf (fun v7 hf => ?_)
            refine E_getI (pc := 119) dX2_isFull_119 fl_X2_105 hf (fun v8 hf => ?_)
            refine E_bipush (pc := 122) (v := (8 : Int32)) dX2_isFull_122 (by decide) ?_
            refine E_icmp_lt (pc := 124) (tgt := 131) dX2_isFull_124 (by decide) hf (fun hf => ?_) (fun hf => ?_)
            · refine E_iconst (pc := 131) (v := (0 : Int32)) dX2_isFull_131 (by decide) ?_
              exact E_zret (pc := 132) dX2_isFull_132 rfl hf
            · refine E_iconst (pc := 127) (v := (1 : Int32)) dX2_isFull_127 (by decide) ?_
              refine E_goto (pc := 128) (tgt := 132) dX2_isFull_128 (by decide) ?_
              exact E_zret (pc := 132) dX2_isFull_132 rfl hf
          · refine ifS hf (fun n1_5 hf => ?_) (fun n1_5 hf => ?_)
            · refine E_tswI (pc := 1) (tgt := 133) (6) dX2_isFull_1 (by rw [n1_5]; decide) (by decide) (by decide) rfl (by decide) ?_
              refine E_aload_n (pc := 133) dX2_isFull_133 rfl ?_
              refine E_getR (pc := 134) dX2_isFull_134 fl_X2_12 hf (fun v3 hf => ?_)
              refine E_getR (pc := 137) dX2_isFull_137 fl_X2_45 hf (fun v4 hf => ?_)
              refine E_getI (pc := 140) dX2_isFull_140 fl_X2_108 hf (fun v5 hf => ?_)
              refine E_bipush (pc := 143) (v := (10 : Int32)) dX2_isFull_143 (by decide) ?_
              refine E_icmp_lt (pc := 145) (tgt := 152) dX2_isFull_145 (by decide) hf (fun hf => ?_) (fun hf => ?_)
              · refine E_iconst (pc := 152) (v := (0 : Int32)) dX2_isFull_152 (by decide) ?_
                exact E_zret (pc := 153) dX2_isFull_153 rfl hf
              · refine E_iconst (pc := 148) (v := (1 : Int32)) dX2_isFull_148 (by decide) ?_
                refine E_goto (pc := 149) (tgt := 153) dX2_isFull_149 (by decide) ?_
                exact E_zret (pc := 153) dX2_isFull_153 rfl hf
            · refine E_tswD (pc := 1) (tgt := 154) dX2_isFull_1 (by have q0 : ¬ (x2).toInt = 1 := i32ne n1_0; have q1 : ¬ (x2).toInt = 2 := i32ne n1_1; have q2 : ¬ (x2).toInt = 3 := i32ne n1_2; have q3 : ¬ (x2).toInt = 4 := i32ne n1_3; have q4 : ¬ (x2).toInt = 5 := i32ne n1_4; have q5 : ¬ (x2).toInt = 6 := i32ne n1_5;  omega) (by decide) ?_
              refine E_iconst (pc := 154) (v := (0 : Int32)) dX2_isFull_154 (by decide) ?_
              exact E_zret (pc := 155) dX2_isFull_155 rfl hf
theorem dX2_readAfter_0 : decode cX2_readAfter 0 = .ok (.aload_n 0, 1) := by decide +kernel
theorem dX2_readAfter_1 : decode cX2_readAfter 1 = .ok (.getfield 12, 3) := by decide +kernel
theorem dX2_readAfter_4 : decode cX2_readAfter 4 = .ok (.getfield 45, 3) := by decide +kernel
theorem dX2_readAfter_7 : decode cX2_readAfter 7 = .ok (.astore_n 1, 1) := by decide +kernel
theorem dX2_readAfter_8 : decode cX2_readAfter 8 = .ok (.aload_n 0, 1) := by decide +kernel
theorem dX2_readAfter_9 : decode cX2_readAfter 9 = .ok (.getfield 22, 3) := by decide +kernel
theorem dX2_readAfter_12 : decode cX2_readAfter 12 = .ok (.iconst 0, 1) := by decide +kernel
theorem dX2_readAfter_13 : decode cX2_readAfter 13 = .ok (.aload_n 1, 1) := by decide +kernel
theorem dX2_readAfter_14 : decode cX2_readAfter 14 = .ok (.getfield 105, 3) := by decide +kernel
theorem dX2_readAfter_17 : decode cX2_readAfter 17 = .ok (.iconst 1, 1) := by decide +kernel
theorem dX2_readAfter_18 : decode cX2_readAfter 18 = .ok (.isub, 1) := by decide +kernel
theorem dX2_readAfter_19 : decode cX2_readAfter 19 = .ok (.invokevirtual 111, 3) := by decide +kernel
theorem dX2_readAfter_22 : decode cX2_readAfter 22 = .ok (.istore_n 2, 1) := by decide +kernel
theorem dX2_readAfter_23 : decode cX2_readAfter 23 = .ok (.aload_n 0, 1) := by decide +kernel
theorem dX2_readAfter_24 : decode cX2_readAfter 24 = .ok (.getfield 22, 3) := by decide +kernel
theorem dX2_readAfter_27 : decode cX2_readAfter 27 = .ok (.invokevirtual 54, 3) := by decide +kernel
theorem dX2_readAfter_30 : decode cX2_readAfter 30 = .ok (.istore_n 3, 1) := by decide +kernel
theorem dX2_readAfter_31 : decode cX2_readAfter 31 = .ok (.aload_n 0, 1) := by decide +kernel
theorem dX2_readAfter_32 : decode cX2_readAfter 32 = .ok (.getfield 22, 3) := by decide +kernel
theorem dX2_readAfter_35 : decode cX2_readAfter 35 = .ok (.iconst 0, 1) := by decide +kernel
theorem dX2_readAfter_36 : decode cX2_readAfter 36 = .ok (.aload_n 1, 1) := by decide +kernel
theorem dX2_readAfter_37 : decode cX2_readAfter 37 = .ok (.getfield 105, 3) := by decide +kernel
theorem dX2_readAfter_40 : decode cX2_readAfter 40 = .ok (.iconst 1, 1) := by decide +kernel
theorem dX2_readAfter_41 : decode cX2_readAfter 41 = .ok (.isub, 1) := by decide +kernel
theorem dX2_readAfter_42 : decode cX2_readAfter 42 = .ok (.invokevirtual 111, 3) := by decide +kernel
theorem dX2_readAfter_45 : decode cX2_readAfter 45 = .ok (.istore 4, 2) := by decide +kernel
theorem dX2_readAfter_47 : decode cX2_readAfter 47 = .ok (.iload_n 2, 1) := by decide +kernel
theorem dX2_readAfter_48 : decode cX2_readAfter 48 = .ok (.iload 4, 2) := by decide +kernel
theorem dX2_readAfter_50 : decode cX2_readAfter 50 = .ok (.if_icmp .ne 12, 3) := by decide +kernel
theorem dX2_readAfter_53 : decode cX2_readAfter 53 = .ok (.aload_n 0, 1) := by decide +kernel
theorem dX2_readAfter_54 : decode cX2_readAfter 54 = .ok (.getfield 22, 3) := by decide +kernel
theorem dX2_readAfter_57 : decode cX2_readAfter 57 = .ok (.iload_n 3, 1) := by decide +kernel
theorem dX2_readAfter_58 : decode cX2_readAfter 58 = .ok (.iconst 1, 1) := by decide +kernel
theorem dX2_readAfter_59 : decode cX2_readAfter 59 = .ok (.invokevirtual 64, 3) := by decide +kernel
theorem dX2_readAfter_62 : decode cX2_readAfter 62 = .ok (.aload_n 0, 1) := by decide +kernel
theorem dX2_readAfter_63 : decode cX2_readAfter 63 = .ok (.getfield 22, 3) := by decide +kernel
theorem dX2_readAfter_66 : decode cX2_readAfter 66 = .ok (.invokevirtual 35, 3) := by decide +kernel
theorem dX2_readAfter_69 : decode cX2_readAfter 69 = .ok (.ifCond .eq 34, 3) := by decide +kernel
theorem dX2_readAfter_72 : decode cX2_readAfter 72 = .ok (.aload_n 1, 1) := by decide +kernel
theorem dX2_readAfter_73 : decode cX2_readAfter 73 = .ok (.getfield 169, 3) := by decide +kernel
theorem dX2_readAfter_76 : decode cX2_readAfter 76 = .ok (.aload_n 1, 1) := by decide +kernel
theorem dX2_readAfter_77 : decode cX2_readAfter 77 = .ok (.getfield 108, 3) := by decide +kernel
theorem dX2_readAfter_80 : decode cX2_readAfter 80 = .ok (.iload_n 2, 1) := by decide +kernel
theorem dX2_readAfter_81 : decode cX2_readAfter 81 = .ok (.iastore, 1) := by decide +kernel
theorem dX2_readAfter_82 : decode cX2_readAfter 82 = .ok (.aload_n 1, 1) := by decide +kernel
theorem dX2_readAfter_83 : decode cX2_readAfter 83 = .ok (.getfield 172, 3) := by decide +kernel
theorem dX2_readAfter_86 : decode cX2_readAfter 86 = .ok (.aload_n 1, 1) := by decide +kernel
theorem dX2_readAfter_87 : decode cX2_readAfter 87 = .ok (.getfield 108, 3) := by decide +kernel
theorem dX2_readAfter_90 : decode cX2_readAfter 90 = .ok (.iload 4, 2) := by decide +kernel
theorem dX2_readAfter_92 : decode cX2_readAfter 92 = .ok (.iastore, 1) := by decide +kernel
theorem dX2_readAfter_93 : decode cX2_readAfter 93 = .ok (.aload_n 1, 1) := by decide +kernel
theorem dX2_readAfter_94 : decode cX2_readAfter 94 = .ok (.dup, 1) := by decide +kernel
theorem dX2_readAfter_95 : decode cX2_readAfter 95 = .ok (.getfield 108, 3) := by decide +kernel
theorem dX2_readAfter_98 : decode cX2_readAfter 98 = .ok (.iconst 1, 1) := by decide +kernel
theorem dX2_readAfter_99 : decode cX2_readAfter 99 = .ok (.iadd, 1) := by decide +kernel
theorem dX2_readAfter_100 : decode cX2_readAfter 100 = .ok (.putfield 108, 3) := by decide +kernel
theorem dX2_readAfter_103 : decode cX2_readAfter 103 = .ok (.return_, 1) := by decide +kernel
abbrev D_X2_readAfter : Nat := 3
set_option maxRecDepth 100000 in
def f_X2_readAfter (μ0 : Mm) (a1 : Nat) : Option Mm :=
 ((gR μ0 a1 2 1).bind fun v2 =>
    ((gR μ0 v2 1 14).bind fun v3 =>
    (nm v3 fun a4 =>
    ((gR μ0 a1 2 0).bind fun v5 =>
    ((gI μ0 a4 3 0).bind fun v6 =>
    ((ob μ0 v5 9).bind fun _ =>
    (bd (f_X9_readNumber μ0 v5 (0 : Int32) (v6 - (1 : Int32))) fun v8 μ7 =>
    (nm v8 fun x9 =>
    ((gR μ7 a1 2 0).bind fun v10 =>
    ((ob μ7 v10 9).bind fun _ =>
    (bd (f_X9_skipBlanks μ7 v10) fun v12 μ11 =>
    (nm v12 fun x13 =>
    ((gR μ11 a1 2 0).bind fun v14 =>
    ((gI μ11 a4 3 0).bind fun v15 =>
    ((ob μ11 v14 9).bind fun _ =>
    (bd (f_X9_readNumber μ11 v14 (0 : Int32) (v15 - (1 : Int32))) fun v17 μ16 =>
    (nm v17 fun x18 =>
    (if x9 = x18 then
    ((gR μ16 a1 2 0).bind fun v19 =>
    ((ob μ16 v19 9).bind fun _ =>
    ((f_X9_fail μ16 v19 x13 (1 : Int32)).bind fun μ20 =>
    ((gR μ20 a1 2 0).bind fun v21 =>
    ((ob μ20 v21 9).bind fun _ =>
    (bd (f_X9_isSound μ20 v21) fun v23 μ22 =>
    (if v23 = 0 then
    (some μ22)
    else
    ((gR μ22 a4 3 3).bind fun v24 =>
    ((gI μ22 a4 3 2).bind fun v25 =>
    ((sI μ22 v24 0 v25 x9).bind fun μ26 =>
    ((gR μ26 a4 3 4).bind fun v27 =>
    ((gI μ26 a4 3 2).bind fun v28 =>
    ((sI μ26 v27 0 v28 x18).bind fun μ29 =>
    ((gI μ29 a4 3 2).bind fun v30 =>
    ((pV μ29 a4 3 2 (.int (v30 + (1 : Int32)))).bind fun μ31 =>
    (some μ31))))))))))))))))
    else
    ((gR μ16 a1 2 0).bind fun v32 =>
    ((ob μ16 v32 9).bind fun _ =>
    (bd (f_X9_isSound μ16 v32) fun v34 μ33 =>
    (if v34 = 0 then
    (some μ33)
    else
    ((gR μ33 a4 3 3).bind fun v35 =>
    ((gI μ33 a4 3 2).bind fun v36 =>
    ((sI μ33 v35 0 v36 x9).bind fun μ37 =>
    ((gR μ37 a4 3 4).bind fun v38 =>
    ((gI μ37 a4 3 2).bind fun v39 =>
    ((sI μ37 v38 0 v39 x18).bind fun μ40 =>
    ((gI μ40 a4 3 2).bind fun v41 =>
    ((pV μ40 a4 3 2 (.int (v41 + (1 : Int32)))).bind fun μ42 =>
    (some μ42)))))))))))))))))))))))))))))))
set_option maxHeartbeats 4000000 in
set_option maxRecDepth 100000 in
theorem f_X2_readAfter_ok {l : Launch} {G : GG} {μ0 : Mm} {a1 : Nat} {μ' : Mm} (hf : f_X2_readAfter μ0 a1 = some μ') : EvM l G D_X2_readAfter yX2_readAfter cX2_readAfter 5 none [.ref a1] μ0 none μ' := by
  show Ev l G D_X2_readAfter yX2_readAfter cX2_readAfter 5 none 0 [(0, .ref a1)] [] μ0 none μ'
  unfold f_X2_readAfter at hf
  refine E_aload_n (pc := 0) dX2_readAfter_0 rfl ?_
  refine E_getR (pc := 1) dX2_readAfter_1 fl_X2_12 hf (fun v2 hf => ?_)
  refine E_getR (pc := 4) dX2_readAfter_4 fl_X2_45 hf (fun v3 hf => ?_)
  refine E_astore_n (pc := 7) (ls' := fun a4 => [(1, .ref a4), (0, .ref a1)]) dX2_readAfter_7 (by decide) (fun _ => rfl) hf (fun a4 hf => ?_)
  refine E_aload_n (pc := 8) dX2_readAfter_8 rfl ?_
  refine E_getR (pc := 9) dX2_readAfter_9 fl_X2_22 hf (fun v5 hf => ?_)
  refine E_iconst (pc := 12) (v := (0 : Int32)) dX2_readAfter_12 (by decide) ?_
  refine E_aload_n (pc := 13) dX2_readAfter_13 rfl ?_
  refine E_getI (pc := 14) dX2_readAfter_14 fl_X2_105 hf (fun v6 hf => ?_)
  refine E_iconst (pc := 17) (v := (1 : Int32)) dX2_readAfter_17 (by decide) ?_
  refine E_isub (pc := 18) dX2_readAfter_18 ?_
  refine E_Vi (pc := 19) (d2 := D_X9_readNumber) (ci := 9) [.int (0 : Int32), .int (v6 - (1 : Int32))] dX2_readAfter_19 ml_X2_111 mf_X9_readNumber im_X9_readNumber rfl rfl rfl (by decide) (Nat.le_of_ble_eq_true rfl) (Nat.le_of_ble_eq_true rfl) rfl (fun _ _ h => f_X9_readNumber_ok h) hf (fun v8 μ7 hf => ?_)
  refine E_istore_n (pc := 22) (ls' := fun x9 => [(2, .int x9), (1, .ref a4), (0, .ref a1)]) dX2_readAfter_22 (by decide) (fun _ => rfl) hf (fun x9 hf => ?_)
  refine E_aload_n (pc := 23) dX2_readAfter_23 rfl ?_
  refine E_getR (pc := 24) dX2_readAfter_24 fl_X2_22 hf (fun v10 hf => ?_)
  refine E_Vi (pc := 27) (d2 := D_X9_skipBlanks) (ci := 9) [] dX2_readAfter_27 ml_X2_54 mf_X9_skipBlanks im_X9_skipBlanks rfl rfl rfl (by decide) (Nat.le_of_ble_eq_true rfl) (Nat.le_of_ble_eq_true rfl) rfl (fun _ _ h => f_X9_skipBlanks_ok h) hf (fun v12 μ11 hf => ?_)
  refine E_istore_n (pc := 30) (ls' := fun x13 => [(3, .int x13), (2, .int x9), (1, .ref a4), (0, .ref a1)]) dX2_readAfter_30 (by decide) (fun _ => rfl) hf (fun x13 hf => ?_)
  refine E_aload_n (pc := 31) dX2_readAfter_31 rfl ?_
  refine E_getR (pc := 32) dX2_readAfter_32 fl_X2_22 hf (fun v14 hf => ?_)
  refine E_iconst (pc := 35) (v := (0 : Int32)) dX2_readAfter_35 (by decide) ?_
  refine E_aload_n (pc := 36) dX2_readAfter_36 rfl ?_
  refine E_getI (pc := 37) dX2_readAfter_37 fl_X2_105 hf (fun v15 hf => ?_)
  refine E_iconst (pc := 40) (v := (1 : Int32)) dX2_readAfter_40 (by decide) ?_
  refine E_isub (pc := 41) dX2_readAfter_41 ?_
  refine E_Vi (pc := 42) (d2 := D_X9_readNumber) (ci := 9) [.int (0 : Int32), .int (v15 - (1 : Int32))] dX2_readAfter_42 ml_X2_111 mf_X9_readNumber im_X9_readNumber rfl rfl rfl (by decide) (Nat.le_of_ble_eq_true rfl) (Nat.le_of_ble_eq_true rfl) rfl (fun _ _ h => f_X9_readNumber_ok h) hf (fun v17 μ16 hf => ?_)
  refine E_istore (pc := 45) (ls' := fun x18 => [(4, .int x18), (3, .int x13), (2, .int x9), (1, .ref a4), (0, .ref a1)]) dX2_readAfter_45 (by decide) (fun _ => rfl) hf (fun x18 hf => ?_)
  refine E_iload_n (pc := 47) dX2_readAfter_47 rfl ?_
  refine E_iload (pc := 48) dX2_readAfter_48 rfl ?_
  refine E_icmp_ne (pc := 50) (tgt := 62) dX2_readAfter_50 (by decide) hf (fun hf => ?_) (fun hf => ?_)
  · refine E_aload_n (pc := 53) dX2_readAfter_53 rfl ?_
    refine E_getR (pc := 54) dX2_readAfter_54 fl_X2_22 hf (fun v19 hf => ?_)
    refine E_iload_n (pc := 57) dX2_readAfter_57 rfl ?_
    refine E_iconst (pc := 58) (v := (1 : Int32)) dX2_readAfter_58 (by decide) ?_
    refine E_Vv (pc := 59) (d2 := D_X9_fail) (ci := 9) [.int x13, .int (1 : Int32)] dX2_readAfter_59 ml_X2_64 mf_X9_fail im_X9_fail rfl rfl rfl (by decide) (Nat.le_of_ble_eq_true rfl) (Nat.le_of_ble_eq_true rfl) rfl (fun _ h => f_X9_fail_ok h) hf (fun μ20 hf => ?_)
    refine E_aload_n (pc := 62) dX2_readAfter_62 rfl ?_
    refine E_getR (pc := 63) dX2_readAfter_63 fl_X2_22 hf (fun v21 hf => ?_)
    refine E_Vi (pc := 66) (d2 := D_X9_isSound) (ci := 9) [] dX2_readAfter_66 ml_X2_35 mf_X9_isSound im_X9_isSound rfl rfl rfl (by decide) (Nat.le_of_ble_eq_true rfl) (Nat.le_of_ble_eq_true rfl) rfl (fun _ _ h => f_X9_isSound_ok h) hf (fun v23 μ22 hf => ?_)
    refine E_if_eq (pc := 69) (tgt := 103) dX2_readAfter_69 (by decide) hf (fun hf => ?_) (fun hf => ?_)
    · exact E_vret (pc := 103) dX2_readAfter_103 rfl hf
    · refine E_aload_n (pc := 72) dX2_readAfter_72 rfl ?_
      refine E_getR (pc := 73) dX2_readAfter_73 fl_X2_169 hf (fun v24 hf => ?_)
      refine E_aload_n (pc := 76) dX2_readAfter_76 rfl ?_
      refine E_getI (pc := 77) dX2_readAfter_77 fl_X2_108 hf (fun v25 hf => ?_)
      refine E_iload_n (pc := 80) dX2_readAfter_80 rfl ?_
      refine E_iast (pc := 81) dX2_readAfter_81 hf (fun μ26 hf => ?_)
      refine E_aload_n (pc := 82) dX2_readAfter_82 rfl ?_
      refine E_getR (pc := 83) dX2_readAfter_83 fl_X2_172 hf (fun v27 hf => ?_)
      refine E_aload_n (pc := 86) dX2_readAfter_86 rfl ?_
      refine E_getI (pc := 87) dX2_readAfter_87 fl_X2_108 hf (fun v28 hf => ?_)
      refine E_iload (pc := 90) dX2_readAfter_90 rfl ?_
      refine E_iast (pc := 92) dX2_readAfter_92 hf (fun μ29 hf => ?_)
      refine E_aload_n (pc := 93) dX2_readAfter_93 rfl ?_
      refine E_dup (pc := 94) dX2_readAfter_94 rfl ?_
      refine E_getI (pc := 95) dX2_readAfter_95 fl_X2_108 hf (fun v30 hf => ?_)
      refine E_iconst (pc := 98) (v := (1 : Int32)) dX2_readAfter_98 (by decide) ?_
      refine E_iadd (pc := 99) dX2_readAfter_99 ?_
      refine E_putI (pc := 100) dX2_readAfter_100 (pl_X2_108 _) hf (fun μ31 hf => ?_)
      exact E_vret (pc := 103) dX2_readAfter_103 rfl hf
  · refine E_aload_n (pc := 62) dX2_readAfter_62 rfl ?_
    refine E_getR (pc := 63) dX2_readAfter_63 fl_X2_22 hf (fun v32 hf => ?_)
    refine E_Vi (pc := 66) (d2 := D_X9_isSound) (ci := 9) [] dX2_readAfter_66 ml_X2_35 mf_X9_isSound im_X9_isSound rfl rfl rfl (by decide) (Nat.le_of_ble_eq_true rfl) (Nat.le_of_ble_eq_true rfl) rfl (fun _ _ h => f_X9_isSound_ok h) hf (fun v34 μ33 hf => ?_)
    refine E_if_eq (pc := 69) (tgt := 103) dX2_readAfter_69 (by decide) hf (fun hf => ?_) (fun hf => ?_)
    · exact E_vret (pc := 103) dX2_readAfter_103 rfl hf
    · refine E_aload_n (pc := 72) dX2_readAfter_72 rfl ?_
      refine E_getR (pc := 73) dX2_readAfter_73 fl_X2_169 hf (fun v35 hf => ?_)
      refine E_aload_n (pc := 76) dX2_readAfter_76 rfl ?_
      refine E_getI (pc := 77) dX2_readAfter_77 fl_X2_108 hf (fun v36 hf => ?_)
      refine E_iload_n (pc := 80) dX2_readAfter_80 rfl ?_
      refine E_iast (pc := 81) dX2_readAfter_81 hf (fun μ37 hf => ?_)
      refine E_aload_n (pc := 82) dX2_readAfter_82 rfl ?_
      refine E_getR (pc := 83) dX2_readAfter_83 fl_X2_172 hf (fun v38 hf => ?_)
      refine E_aload_n (pc := 86) dX2_readAfter_86 rfl ?_
      refine E_getI (pc := 87) dX2_readAfter_87 fl_X2_108 hf (fun v39 hf => ?_)
      refine E_iload (pc := 90) dX2_readAfter_90 rfl ?_
      refine E_iast (pc := 92) dX2_readAfter_92 hf (fun μ40 hf => ?_)
      refine E_aload_n (pc := 93) dX2_readAfter_93 rfl ?_
      refine E_dup (pc := 94) dX2_readAfter_94 rfl ?_
      refine E_getI (pc := 95) dX2_readAfter_95 fl_X2_108 hf (fun v41 hf => ?_)
      refine E_iconst (pc := 98) (v := (1 : Int32)) dX2_readAfter_98 (by decide) ?_
      refine E_iadd (pc := 99) dX2_readAfter_99 ?_
      refine E_putI (pc := 100) dX2_readAfter_100 (pl_X2_108 _) hf (fun μ42 hf => ?_)
      exact E_vret (pc := 103) dX2_readAfter_103 rfl hf
theorem dX2_readLesson_0 : decode cX2_readLesson 0 = .ok (.aload_n 0, 1) := by decide +kernel
theorem dX2_readLesson_1 : decode cX2_readLesson 1 = .ok (.getfield 22, 3) := by decide +kernel
theorem dX2_readLesson_4 : decode cX2_readLesson 4 = .ok (.iconst 1, 1) := by decide +kernel
theorem dX2_readLesson_5 : decode cX2_readLesson 5 = .ok (.bipush 20, 2) := by decide +kernel
theorem dX2_readLesson_7 : decode cX2_readLesson 7 = .ok (.invokevirtual 111, 3) := by decide +kernel
theorem dX2_readLesson_10 : decode cX2_readLesson 10 = .ok (.istore_n 1, 1) := by decide +kernel
theorem dX2_readLesson_11 : decode cX2_readLesson 11 = .ok (.aload_n 0, 1) := by decide +kernel
theorem dX2_readLesson_12 : decode cX2_readLesson 12 = .ok (.getfield 22, 3) := by decide +kernel
theorem dX2_readLesson_15 : decode cX2_readLesson 15 = .ok (.invokevirtual 35, 3) := by decide +kernel
theorem dX2_readLesson_18 : decode cX2_readLesson 18 = .ok (.ifCond .eq 41, 3) := by decide +kernel
theorem dX2_readLesson_21 : decode cX2_readLesson 21 = .ok (.aload_n 0, 1) := by decide +kernel
theorem dX2_readLesson_22 : decode cX2_readLesson 22 = .ok (.getfield 12, 3) := by decide +kernel
theorem dX2_readLesson_25 : decode cX2_readLesson 25 = .ok (.getfield 45, 3) := by decide +kernel
theorem dX2_readLesson_28 : decode cX2_readLesson 28 = .ok (.getfield 166, 3) := by decide +kernel
theorem dX2_readLesson_31 : decode cX2_readLesson 31 = .ok (.aload_n 0, 1) := by decide +kernel
theorem dX2_readLesson_32 : decode cX2_readLesson 32 = .ok (.getfield 12, 3) := by decide +kernel
theorem dX2_readLesson_35 : decode cX2_readLesson 35 = .ok (.getfield 45, 3) := by decide +kernel
theorem dX2_readLesson_38 : decode cX2_readLesson 38 = .ok (.getfield 105, 3) := by decide +kernel
theorem dX2_readLesson_41 : decode cX2_readLesson 41 = .ok (.iload_n 1, 1) := by decide +kernel
theorem dX2_readLesson_42 : decode cX2_readLesson 42 = .ok (.iastore, 1) := by decide +kernel
theorem dX2_readLesson_43 : decode cX2_readLesson 43 = .ok (.aload_n 0, 1) := by decide +kernel
theorem dX2_readLesson_44 : decode cX2_readLesson 44 = .ok (.getfield 12, 3) := by decide +kernel
theorem dX2_readLesson_47 : decode cX2_readLesson 47 = .ok (.getfield 45, 3) := by decide +kernel
theorem dX2_readLesson_50 : decode cX2_readLesson 50 = .ok (.dup, 1) := by decide +kernel
theorem dX2_readLesson_51 : decode cX2_readLesson 51 = .ok (.getfield 105, 3) := by decide +kernel
theorem dX2_readLesson_54 : decode cX2_readLesson 54 = .ok (.iconst 1, 1) := by decide +kernel
theorem dX2_readLesson_55 : decode cX2_readLesson 55 = .ok (.iadd, 1) := by decide +kernel
theorem dX2_readLesson_56 : decode cX2_readLesson 56 = .ok (.putfield 105, 3) := by decide +kernel
theorem dX2_readLesson_59 : decode cX2_readLesson 59 = .ok (.return_, 1) := by decide +kernel
abbrev D_X2_readLesson : Nat := 3
set_option maxRecDepth 100000 in
def f_X2_readLesson (μ0 : Mm) (a1 : Nat) : Option Mm :=
 ((gR μ0 a1 2 0).bind fun v2 =>
    ((ob μ0 v2 9).bind fun _ =>
    (bd (f_X9_readNumber μ0 v2 (1 : Int32) (20 : Int32)) fun v4 μ3 =>
    (nm v4 fun x5 =>
    ((gR μ3 a1 2 0).bind fun v6 =>
    ((ob μ3 v6 9).bind fun _ =>
    (bd (f_X9_isSound μ3 v6) fun v8 μ7 =>
    (if v8 = 0 then
    (some μ7)
    else
    ((gR μ7 a1 2 1).bind fun v9 =>
    ((gR μ7 v9 1 14).bind fun v10 =>
    ((gR μ7 v10 3 1).bind fun v11 =>
    ((gR μ7 a1 2 1).bind fun v12 =>
    ((gR μ7 v12 1 14).bind fun v13 =>
    ((gI μ7 v13 3 0).bind fun v14 =>
    ((sI μ7 v11 0 v14 x5).bind fun μ15 =>
    ((gR μ15 a1 2 1).bind fun v16 =>
    ((gR μ15 v16 1 14).bind fun v17 =>
    ((gI μ15 v17 3 0).bind fun v18 =>
    ((pV μ15 v17 3 0 (.int (v18 + (1 : Int32)))).bind fun μ19 =>
    (some μ19))))))))))))))))))))
set_option maxHeartbeats 4000000 in
set_option maxRecDepth 100000 in
theorem f_X2_readLesson_ok {l : Launch} {G : GG} {μ0 : Mm} {a1 : Nat} {μ' : Mm} (hf : f_X2_readLesson μ0 a1 = some μ') : EvM l G D_X2_readLesson yX2_readLesson cX2_readLesson 2 none [.ref a1] μ0 none μ' := by
  show Ev l G D_X2_readLesson yX2_readLesson cX2_readLesson 2 none 0 [(0, .ref a1)] [] μ0 none μ'
  unfold f_X2_readLesson at hf
  refine E_aload_n (pc := 0) dX2_readLesson_0 rfl ?_
  refine E_getR (pc := 1) dX2_readLesson_1 fl_X2_22 hf (fun v2 hf => ?_)
  refine E_iconst (pc := 4) (v := (1 : Int32)) dX2_readLesson_4 (by decide) ?_
  refine E_bipush (pc := 5) (v := (20 : Int32)) dX2_readLesson_5 (by decide) ?_
  refine E_Vi (pc := 7) (d2 := D_X9_readNumber) (ci := 9) [.int (1 : Int32), .int (20 : Int32)] dX2_readLesson_7 ml_X2_111 mf_X9_readNumber im_X9_readNumber rfl rfl rfl (by decide) (Nat.le_of_ble_eq_true rfl) (Nat.le_of_ble_eq_true rfl) rfl (fun _ _ h => f_X9_readNumber_ok h) hf (fun v4 μ3 hf => ?_)
  refine E_istore_n (pc := 10) (ls' := fun x5 => [(1, .int x5), (0, .ref a1)]) dX2_readLesson_10 (by decide) (fun _ => rfl) hf (fun x5 hf => ?_)
  refine E_aload_n (pc := 11) dX2_readLesson_11 rfl ?_
  refine E_getR (pc := 12) dX2_readLesson_12 fl_X2_22 hf (fun v6 hf => ?_)
  refine E_Vi (pc := 15) (d2 := D_X9_isSound) (ci := 9) [] dX2_readLesson_15 ml_X2_35 mf_X9_isSound im_X9_isSound rfl rfl rfl (by decide) (Nat.le_of_ble_eq_true rfl) (Nat.le_of_ble_eq_true rfl) rfl (fun _ _ h => f_X9_isSound_ok h) hf (fun v8 μ7 hf => ?_)
  refine E_if_eq (pc := 18) (tgt := 59) dX2_readLesson_18 (by decide) hf (fun hf => ?_) (fun hf => ?_)
  · exact E_vret (pc := 59) dX2_readLesson_59 rfl hf
  · refine E_aload_n (pc := 21) dX2_readLesson_21 rfl ?_
    refine E_getR (pc := 22) dX2_readLesson_22 fl_X2_12 hf (fun v9 hf => ?_)
    refine E_getR (pc := 25) dX2_readLesson_25 fl_X2_45 hf (fun v10 hf => ?_)
    refine E_getR (pc := 28) dX2_readLesson_28 fl_X2_166 hf (fun v11 hf => ?_)
    refine E_aload_n (pc := 31) dX2_readLesson_31 rfl ?_
    refine E_getR (pc := 32) dX2_readLesson_32 fl_X2_12 hf (fun v12 hf => ?_)
    refine E_getR (pc := 35) dX2_readLesson_35 fl_X2_45 hf (fun v13 hf => ?_)
    refine E_getI (pc := 38) dX2_readLesson_38 fl_X2_105 hf (fun v14 hf => ?_)
    refine E_iload_n (pc := 41) dX2_readLesson_41 rfl ?_
    refine E_iast (pc := 42) dX2_readLesson_42 hf (fun μ15 hf => ?_)
    refine E_aload_n (pc := 43) dX2_readLesson_43 rfl ?_
    refine E_getR (pc := 44) dX2_readLesson_44 fl_X2_12 hf (fun v16 hf => ?_)
    refine E_getR (pc := 47) dX2_readLesson_47 fl_X2_45 hf (fun v17 hf => ?_)
    refine E_dup (pc := 50) dX2_readLesson_50 rfl ?_
    refine E_getI (pc := 51) dX2_readLesson_51 fl_X2_105 hf (fun v18 hf => ?_)
    refine E_iconst (pc := 54) (v := (1 : Int32)) dX2_readLesson_54 (by decide) ?_
    refine E_iadd (pc := 55) dX2_readLesson_55 ?_
    refine E_putI (pc := 56) dX2_readLesson_56 (pl_X2_105 _) hf (fun μ19 hf => ?_)
    exact E_vret (pc := 59) dX2_readLesson_59 rfl hf
theorem dX2_readCell_0 : decode cX2_readCell 0 = .ok (.aload_n 0, 1) := by decide +kernel
theorem dX2_readCell_1 : decode cX2_readCell 1 = .ok (.getfield 22, 3) := by decide +kernel
theorem dX2_readCell_4 : decode cX2_readCell 4 = .ok (.iconst 0, 1) := by decide +kernel
theorem dX2_readCell_5 : decode cX2_readCell 5 = .ok (.aload_n 0, 1) := by decide +kernel
theorem dX2_readCell_6 : decode cX2_readCell 6 = .ok (.getfield 12, 3) := by decide +kernel
theorem dX2_readCell_9 : decode cX2_readCell 9 = .ok (.getfield 118, 3) := by decide +kernel
theorem dX2_readCell_12 : decode cX2_readCell 12 = .ok (.iconst 1, 1) := by decide +kernel
theorem dX2_readCell_13 : decode cX2_readCell 13 = .ok (.isub, 1) := by decide +kernel
theorem dX2_readCell_14 : decode cX2_readCell 14 = .ok (.invokevirtual 111, 3) := by decide +kernel
theorem dX2_readCell_17 : decode cX2_readCell 17 = .ok (.ireturn, 1) := by decide +kernel
abbrev D_X2_readCell : Nat := 3
set_option maxRecDepth 100000 in
def f_X2_readCell (μ0 : Mm) (a1 : Nat) : Option (Int32 × Mm) :=
 ((gR μ0 a1 2 0).bind fun v2 =>
    ((gR μ0 a1 2 1).bind fun v3 =>
    ((gI μ0 v3 1 2).bind fun v4 =>
    ((ob μ0 v2 9).bind fun _ =>
    (bd (f_X9_readNumber μ0 v2 (0 : Int32) (v4 - (1 : Int32))) fun v6 μ5 =>
    (some (v6, μ5)))))))
set_option maxHeartbeats 4000000 in
set_option maxRecDepth 100000 in
theorem f_X2_readCell_ok {l : Launch} {G : GG} {μ0 : Mm} {a1 : Nat} {r : Int32} {μ' : Mm} (hf : f_X2_readCell μ0 a1 = some (r, μ')) : EvM l G D_X2_readCell yX2_readCell cX2_readCell 1 (some .int) [.ref a1] μ0 (some (.int r)) μ' := by
  show Ev l G D_X2_readCell yX2_readCell cX2_readCell 1 (some .int) 0 [(0, .ref a1)] [] μ0 (some (.int r)) μ'
  unfold f_X2_readCell at hf
  refine E_aload_n (pc := 0) dX2_readCell_0 rfl ?_
  refine E_getR (pc := 1) dX2_readCell_1 fl_X2_22 hf (fun v2 hf => ?_)
  refine E_iconst (pc := 4) (v := (0 : Int32)) dX2_readCell_4 (by decide) ?_
  refine E_aload_n (pc := 5) dX2_readCell_5 rfl ?_
  refine E_getR (pc := 6) dX2_readCell_6 fl_X2_12 hf (fun v3 hf => ?_)
  refine E_getI (pc := 9) dX2_readCell_9 fl_X2_118 hf (fun v4 hf => ?_)
  refine E_iconst (pc := 12) (v := (1 : Int32)) dX2_readCell_12 (by decide) ?_
  refine E_isub (pc := 13) dX2_readCell_13 ?_
  refine E_Vi (pc := 14) (d2 := D_X9_readNumber) (ci := 9) [.int (0 : Int32), .int (v4 - (1 : Int32))] dX2_readCell_14 ml_X2_111 mf_X9_readNumber im_X9_readNumber rfl rfl rfl (by decide) (Nat.le_of_ble_eq_true rfl) (Nat.le_of_ble_eq_true rfl) rfl (fun _ _ h => f_X9_readNumber_ok h) hf (fun v6 μ5 hf => ?_)
  exact E_iret (pc := 17) dX2_readCell_17 rfl hf
theorem dX2_readNet_0 : decode cX2_readNet 0 = .ok (.aload_n 0, 1) := by decide +kernel
theorem dX2_readNet_1 : decode cX2_readNet 1 = .ok (.getfield 22, 3) := by decide +kernel
theorem dX2_readNet_4 : decode cX2_readNet 4 = .ok (.invokevirtual 54, 3) := by decide +kernel
theorem dX2_readNet_7 : decode cX2_readNet 7 = .ok (.istore_n 1, 1) := by decide +kernel
theorem dX2_readNet_8 : decode cX2_readNet 8 = .ok (.aload_n 0, 1) := by decide +kernel
theorem dX2_readNet_9 : decode cX2_readNet 9 = .ok (.invokevirtual 135, 3) := by decide +kernel
theorem dX2_readNet_12 : decode cX2_readNet 12 = .ok (.istore_n 2, 1) := by decide +kernel
theorem dX2_readNet_13 : decode cX2_readNet 13 = .ok (.aload_n 0, 1) := by decide +kernel
theorem dX2_readNet_14 : decode cX2_readNet 14 = .ok (.getfield 22, 3) := by decide +kernel
theorem dX2_readNet_17 : decode cX2_readNet 17 = .ok (.invokevirtual 35, 3) := by decide +kernel
theorem dX2_readNet_20 : decode cX2_readNet 20 = .ok (.ifCond .ne 4, 3) := by decide +kernel
theorem dX2_readNet_23 : decode cX2_readNet 23 = .ok (.return_, 1) := by decide +kernel
theorem dX2_readNet_24 : decode cX2_readNet 24 = .ok (.aload_n 0, 1) := by decide +kernel
theorem dX2_readNet_25 : decode cX2_readNet 25 = .ok (.getfield 12, 3) := by decide +kernel
theorem dX2_readNet_28 : decode cX2_readNet 28 = .ok (.iload_n 2, 1) := by decide +kernel
theorem dX2_readNet_29 : decode cX2_readNet 29 = .ok (.invokevirtual 159, 3) := by decide +kernel
theorem dX2_readNet_32 : decode cX2_readNet 32 = .ok (.ifCond .eq 13, 3) := by decide +kernel
theorem dX2_readNet_35 : decode cX2_readNet 35 = .ok (.aload_n 0, 1) := by decide +kernel
theorem dX2_readNet_36 : decode cX2_readNet 36 = .ok (.getfield 22, 3) := by decide +kernel
theorem dX2_readNet_39 : decode cX2_readNet 39 = .ok (.iload_n 1, 1) := by decide +kernel
theorem dX2_readNet_40 : decode cX2_readNet 40 = .ok (.iconst 1, 1) := by decide +kernel
theorem dX2_readNet_41 : decode cX2_readNet 41 = .ok (.invokevirtual 64, 3) := by decide +kernel
theorem dX2_readNet_44 : decode cX2_readNet 44 = .ok (.return_, 1) := by decide +kernel
theorem dX2_readNet_45 : decode cX2_readNet 45 = .ok (.aload_n 0, 1) := by decide +kernel
theorem dX2_readNet_46 : decode cX2_readNet 46 = .ok (.getfield 12, 3) := by decide +kernel
theorem dX2_readNet_49 : decode cX2_readNet 49 = .ok (.dup, 1) := by decide +kernel
theorem dX2_readNet_50 : decode cX2_readNet 50 = .ok (.getfield 162, 3) := by decide +kernel
theorem dX2_readNet_53 : decode cX2_readNet 53 = .ok (.lconst 1, 1) := by decide +kernel
theorem dX2_readNet_54 : decode cX2_readNet 54 = .ok (.iload_n 2, 1) := by decide +kernel
theorem dX2_readNet_55 : decode cX2_readNet 55 = .ok (.lshl, 1) := by decide +kernel
theorem dX2_readNet_56 : decode cX2_readNet 56 = .ok (.lor, 1) := by decide +kernel
theorem dX2_readNet_57 : decode cX2_readNet 57 = .ok (.putfield 162, 3) := by decide +kernel
theorem dX2_readNet_60 : decode cX2_readNet 60 = .ok (.return_, 1) := by decide +kernel
abbrev D_X2_readNet : Nat := 4
set_option maxRecDepth 100000 in
def f_X2_readNet (μ0 : Mm) (a1 : Nat) : Option Mm :=
 ((gR μ0 a1 2 0).bind fun v2 =>
    ((ob μ0 v2 9).bind fun _ =>
    (bd (f_X9_skipBlanks μ0 v2) fun v4 μ3 =>
    (nm v4 fun x5 =>
    ((ob μ3 a1 2).bind fun _ =>
    (bd (f_X2_readCell μ3 a1) fun v7 μ6 =>
    (nm v7 fun x8 =>
    ((gR μ6 a1 2 0).bind fun v9 =>
    ((ob μ6 v9 9).bind fun _ =>
    (bd (f_X9_isSound μ6 v9) fun v11 μ10 =>
    (if v11 = 0 then
    (some μ10)
    else
    ((gR μ10 a1 2 1).bind fun v12 =>
    ((ob μ10 v12 1).bind fun _ =>
    (bd (f_X1_hasNet μ10 v12 x8) fun v14 μ13 =>
    (if v14 = 0 then
    ((gR μ13 a1 2 1).bind fun v15 =>
    ((gL μ13 v15 1 5).bind fun v16 =>
    ((pV μ13 v15 1 5 (.long (v16 ||| ((1 : Int64) <<< ((x8).toInt64 &&& 63))))).bind fun μ17 =>
    (some μ17))))
    else
    ((gR μ13 a1 2 0).bind fun v18 =>
    ((ob μ13 v18 9).bind fun _ =>
    ((f_X9_fail μ13 v18 x5 (1 : Int32)).bind fun μ19 =>
    (some μ19)))))))))))))))))))
set_option maxHeartbeats 4000000 in
set_option maxRecDepth 100000 in
theorem f_X2_readNet_ok {l : Launch} {G : GG} {μ0 : Mm} {a1 : Nat} {μ' : Mm} (hf : f_X2_readNet μ0 a1 = some μ') : EvM l G D_X2_readNet yX2_readNet cX2_readNet 3 none [.ref a1] μ0 none μ' := by
  show Ev l G D_X2_readNet yX2_readNet cX2_readNet 3 none 0 [(0, .ref a1)] [] μ0 none μ'
  unfold f_X2_readNet at hf
  refine E_aload_n (pc := 0) dX2_readNet_0 rfl ?_
  refine E_getR (pc := 1) dX2_readNet_1 fl_X2_22 hf (fun v2 hf => ?_)
  refine E_Vi (pc := 4) (d2 := D_X9_skipBlanks) (ci := 9) [] dX2_readNet_4 ml_X2_54 mf_X9_skipBlanks im_X9_skipBlanks rfl rfl rfl (by decide) (Nat.le_of_ble_eq_true rfl) (Nat.le_of_ble_eq_true rfl) rfl (fun _ _ h => f_X9_skipBlanks_ok h) hf (fun v4 μ3 hf => ?_)
  refine E_istore_n (pc := 7) (ls' := fun x5 => [(1, .int x5), (0, .ref a1)]) dX2_readNet_7 (by decide) (fun _ => rfl) hf (fun x5 hf => ?_)
  refine E_aload_n (pc := 8) dX2_readNet_8 rfl ?_
  refine E_Vi (pc := 9) (d2 := D_X2_readCell) (ci := 2) [] dX2_readNet_9 ml_X2_135 mf_X2_readCell im_X2_readCell rfl rfl rfl (by decide) (Nat.le_of_ble_eq_true rfl) (Nat.le_of_ble_eq_true rfl) rfl (fun _ _ h => f_X2_readCell_ok h) hf (fun v7 μ6 hf => ?_)
  refine E_istore_n (pc := 12) (ls' := fun x8 => [(2, .int x8), (1, .int x5), (0, .ref a1)]) dX2_readNet_12 (by decide) (fun _ => rfl) hf (fun x8 hf => ?_)
  refine E_aload_n (pc := 13) dX2_readNet_13 rfl ?_
  refine E_getR (pc := 14) dX2_readNet_14 fl_X2_22 hf (fun v9 hf => ?_)
  refine E_Vi (pc := 17) (d2 := D_X9_isSound) (ci := 9) [] dX2_readNet_17 ml_X2_35 mf_X9_isSound im_X9_isSound rfl rfl rfl (by decide) (Nat.le_of_ble_eq_true rfl) (Nat.le_of_ble_eq_true rfl) rfl (fun _ _ h => f_X9_isSound_ok h) hf (fun v11 μ10 hf => ?_)
  refine E_if_ne (pc := 20) (tgt := 24) dX2_readNet_20 (by decide) hf (fun hf => ?_) (fun hf => ?_)
  · exact E_vret (pc := 23) dX2_readNet_23 rfl hf
  · refine E_aload_n (pc := 24) dX2_readNet_24 rfl ?_
    refine E_getR (pc := 25) dX2_readNet_25 fl_X2_12 hf (fun v12 hf => ?_)
    refine E_iload_n (pc := 28) dX2_readNet_28 rfl ?_
    refine E_Vi (pc := 29) (d2 := D_X1_hasNet) (ci := 1) [.int x8] dX2_readNet_29 ml_X2_159 mf_X1_hasNet im_X1_hasNet rfl rfl rfl (by decide) (Nat.le_of_ble_eq_true rfl) (Nat.le_of_ble_eq_true rfl) rfl (fun _ _ h => f_X1_hasNet_ok h) hf (fun v14 μ13 hf => ?_)
    refine E_if_eq (pc := 32) (tgt := 45) dX2_readNet_32 (by decide) hf (fun hf => ?_) (fun hf => ?_)
    · refine E_aload_n (pc := 45) dX2_readNet_45 rfl ?_
      refine E_getR (pc := 46) dX2_readNet_46 fl_X2_12 hf (fun v15 hf => ?_)
      refine E_dup (pc := 49) dX2_readNet_49 rfl ?_
      refine E_getL (pc := 50) dX2_readNet_50 fl_X2_162 hf (fun v16 hf => ?_)
      refine E_lconst (pc := 53) (v := (1 : Int64)) dX2_readNet_53 (by decide) ?_
      refine E_iload_n (pc := 54) dX2_readNet_54 rfl ?_
      refine E_lshl (pc := 55) dX2_readNet_55 ?_
      refine E_lor (pc := 56) dX2_readNet_56 ?_
      refine E_putL (pc := 57) dX2_readNet_57 (pl_X2_162 _) hf (fun μ17 hf => ?_)
      exact E_vret (pc := 60) dX2_readNet_60 rfl hf
    · refine E_aload_n (pc := 35) dX2_readNet_35 rfl ?_
      refine E_getR (pc := 36) dX2_readNet_36 fl_X2_22 hf (fun v18 hf => ?_)
      refine E_iload_n (pc := 39) dX2_readNet_39 rfl ?_
      refine E_iconst (pc := 40) (v := (1 : Int32)) dX2_readNet_40 (by decide) ?_
      refine E_Vv (pc := 41) (d2 := D_X9_fail) (ci := 9) [.int x5, .int (1 : Int32)] dX2_readNet_41 ml_X2_64 mf_X9_fail im_X9_fail rfl rfl rfl (by decide) (Nat.le_of_ble_eq_true rfl) (Nat.le_of_ble_eq_true rfl) rfl (fun _ h => f_X9_fail_ok h) hf (fun μ19 hf => ?_)
      exact E_vret (pc := 44) dX2_readNet_44 rfl hf
theorem dX2_readPerson_0 : decode cX2_readPerson 0 = .ok (.aload_n 0, 1) := by decide +kernel
theorem dX2_readPerson_1 : decode cX2_readPerson 1 = .ok (.invokevirtual 135, 3) := by decide +kernel
theorem dX2_readPerson_4 : decode cX2_readPerson 4 = .ok (.istore_n 1, 1) := by decide +kernel
theorem dX2_readPerson_5 : decode cX2_readPerson 5 = .ok (.aload_n 0, 1) := by decide +kernel
theorem dX2_readPerson_6 : decode cX2_readPerson 6 = .ok (.getfield 22, 3) := by decide +kernel
theorem dX2_readPerson_9 : decode cX2_readPerson 9 = .ok (.iconst 0, 1) := by decide +kernel
theorem dX2_readPerson_10 : decode cX2_readPerson 10 = .ok (.bipush 9, 2) := by decide +kernel
theorem dX2_readPerson_12 : decode cX2_readPerson 12 = .ok (.invokevirtual 111, 3) := by decide +kernel
theorem dX2_readPerson_15 : decode cX2_readPerson 15 = .ok (.istore_n 2, 1) := by decide +kernel
theorem dX2_readPerson_16 : decode cX2_readPerson 16 = .ok (.aload_n 0, 1) := by decide +kernel
theorem dX2_readPerson_17 : decode cX2_readPerson 17 = .ok (.getfield 22, 3) := by decide +kernel
theorem dX2_readPerson_20 : decode cX2_readPerson 20 = .ok (.invokevirtual 35, 3) := by decide +kernel
theorem dX2_readPerson_23 : decode cX2_readPerson 23 = .ok (.ifCond .eq 48, 3) := by decide +kernel
theorem dX2_readPerson_26 : decode cX2_readPerson 26 = .ok (.aload_n 0, 1) := by decide +kernel
theorem dX2_readPerson_27 : decode cX2_readPerson 27 = .ok (.getfield 12, 3) := by decide +kernel
theorem dX2_readPerson_30 : decode cX2_readPerson 30 = .ok (.getfield 138, 3) := by decide +kernel
theorem dX2_readPerson_33 : decode cX2_readPerson 33 = .ok (.aload_n 0, 1) := by decide +kernel
theorem dX2_readPerson_34 : decode cX2_readPerson 34 = .ok (.getfield 12, 3) := by decide +kernel
theorem dX2_readPerson_37 : decode cX2_readPerson 37 = .ok (.getfield 96, 3) := by decide +kernel
theorem dX2_readPerson_40 : decode cX2_readPerson 40 = .ok (.iload_n 1, 1) := by decide +kernel
theorem dX2_readPerson_41 : decode cX2_readPerson 41 = .ok (.iastore, 1) := by decide +kernel
theorem dX2_readPerson_42 : decode cX2_readPerson 42 = .ok (.aload_n 0, 1) := by decide +kernel
theorem dX2_readPerson_43 : decode cX2_readPerson 43 = .ok (.getfield 12, 3) := by decide +kernel
theorem dX2_readPerson_46 : decode cX2_readPerson 46 = .ok (.getfield 141, 3) := by decide +kernel
theorem dX2_readPerson_49 : decode cX2_readPerson 49 = .ok (.aload_n 0, 1) := by decide +kernel
theorem dX2_readPerson_50 : decode cX2_readPerson 50 = .ok (.getfield 12, 3) := by decide +kernel
theorem dX2_readPerson_53 : decode cX2_readPerson 53 = .ok (.getfield 96, 3) := by decide +kernel
theorem dX2_readPerson_56 : decode cX2_readPerson 56 = .ok (.iload_n 2, 1) := by decide +kernel
theorem dX2_readPerson_57 : decode cX2_readPerson 57 = .ok (.iastore, 1) := by decide +kernel
theorem dX2_readPerson_58 : decode cX2_readPerson 58 = .ok (.aload_n 0, 1) := by decide +kernel
theorem dX2_readPerson_59 : decode cX2_readPerson 59 = .ok (.getfield 12, 3) := by decide +kernel
theorem dX2_readPerson_62 : decode cX2_readPerson 62 = .ok (.dup, 1) := by decide +kernel
theorem dX2_readPerson_63 : decode cX2_readPerson 63 = .ok (.getfield 96, 3) := by decide +kernel
theorem dX2_readPerson_66 : decode cX2_readPerson 66 = .ok (.iconst 1, 1) := by decide +kernel
theorem dX2_readPerson_67 : decode cX2_readPerson 67 = .ok (.iadd, 1) := by decide +kernel
theorem dX2_readPerson_68 : decode cX2_readPerson 68 = .ok (.putfield 96, 3) := by decide +kernel
theorem dX2_readPerson_71 : decode cX2_readPerson 71 = .ok (.return_, 1) := by decide +kernel
abbrev D_X2_readPerson : Nat := 4
set_option maxRecDepth 100000 in
def f_X2_readPerson (μ0 : Mm) (a1 : Nat) : Option Mm :=
 ((ob μ0 a1 2).bind fun _ =>
    (bd (f_X2_readCell μ0 a1) fun v3 μ2 =>
    (nm v3 fun x4 =>
    ((gR μ2 a1 2 0).bind fun v5 =>
    ((ob μ2 v5 9).bind fun _ =>
    (bd (f_X9_readNumber μ2 v5 (0 : Int32) (9 : Int32)) fun v7 μ6 =>
    (nm v7 fun x8 =>
    ((gR μ6 a1 2 0).bind fun v9 =>
    ((ob μ6 v9 9).bind fun _ =>
    (bd (f_X9_isSound μ6 v9) fun v11 μ10 =>
    (if v11 = 0 then
    (some μ10)
    else
    ((gR μ10 a1 2 1).bind fun v12 =>
    ((gR μ10 v12 1 7).bind fun v13 =>
    ((gR μ10 a1 2 1).bind fun v14 =>
    ((gI μ10 v14 1 6).bind fun v15 =>
    ((sI μ10 v13 0 v15 x4).bind fun μ16 =>
    ((gR μ16 a1 2 1).bind fun v17 =>
    ((gR μ16 v17 1 8).bind fun v18 =>
    ((gR μ16 a1 2 1).bind fun v19 =>
    ((gI μ16 v19 1 6).bind fun v20 =>
    ((sI μ16 v18 0 v20 x8).bind fun μ21 =>
    ((gR μ21 a1 2 1).bind fun v22 =>
    ((gI μ21 v22 1 6).bind fun v23 =>
    ((pV μ21 v22 1 6 (.int (v23 + (1 : Int32)))).bind fun μ24 =>
    (some μ24)))))))))))))))))))))))))
set_option maxHeartbeats 4000000 in
set_option maxRecDepth 100000 in
theorem f_X2_readPerson_ok {l : Launch} {G : GG} {μ0 : Mm} {a1 : Nat} {μ' : Mm} (hf : f_X2_readPerson μ0 a1 = some μ') : EvM l G D_X2_readPerson yX2_readPerson cX2_readPerson 3 none [.ref a1] μ0 none μ' := by
  show Ev l G D_X2_readPerson yX2_readPerson cX2_readPerson 3 none 0 [(0, .ref a1)] [] μ0 none μ'
  unfold f_X2_readPerson at hf
  refine E_aload_n (pc := 0) dX2_readPerson_0 rfl ?_
  refine E_Vi (pc := 1) (d2 := D_X2_readCell) (ci := 2) [] dX2_readPerson_1 ml_X2_135 mf_X2_readCell im_X2_readCell rfl rfl rfl (by decide) (Nat.le_of_ble_eq_true rfl) (Nat.le_of_ble_eq_true rfl) rfl (fun _ _ h => f_X2_readCell_ok h) hf (fun v3 μ2 hf => ?_)
  refine E_istore_n (pc := 4) (ls' := fun x4 => [(1, .int x4), (0, .ref a1)]) dX2_readPerson_4 (by decide) (fun _ => rfl) hf (fun x4 hf => ?_)
  refine E_aload_n (pc := 5) dX2_readPerson_5 rfl ?_
  refine E_getR (pc := 6) dX2_readPerson_6 fl_X2_22 hf (fun v5 hf => ?_)
  refine E_iconst (pc := 9) (v := (0 : Int32)) dX2_readPerson_9 (by decide) ?_
  refine E_bipush (pc := 10) (v := (9 : Int32)) dX2_readPerson_10 (by decide) ?_
  refine E_Vi (pc := 12) (d2 := D_X9_readNumber) (ci := 9) [.int (0 : Int32), .int (9 : Int32)] dX2_readPerson_12 ml_X2_111 mf_X9_readNumber im_X9_readNumber rfl rfl rfl (by decide) (Nat.le_of_ble_eq_true rfl) (Nat.le_of_ble_eq_true rfl) rfl (fun _ _ h => f_X9_readNumber_ok h) hf (fun v7 μ6 hf => ?_)
  refine E_istore_n (pc := 15) (ls' := fun x8 => [(2, .int x8), (1, .int x4), (0, .ref a1)]) dX2_readPerson_15 (by decide) (fun _ => rfl) hf (fun x8 hf => ?_)
  refine E_aload_n (pc := 16) dX2_readPerson_16 rfl ?_
  refine E_getR (pc := 17) dX2_readPerson_17 fl_X2_22 hf (fun v9 hf => ?_)
  refine E_Vi (pc := 20) (d2 := D_X9_isSound) (ci := 9) [] dX2_readPerson_20 ml_X2_35 mf_X9_isSound im_X9_isSound rfl rfl rfl (by decide) (Nat.le_of_ble_eq_true rfl) (Nat.le_of_ble_eq_true rfl) rfl (fun _ _ h => f_X9_isSound_ok h) hf (fun v11 μ10 hf => ?_)
  refine E_if_eq (pc := 23) (tgt := 71) dX2_readPerson_23 (by decide) hf (fun hf => ?_) (fun hf => ?_)
  · exact E_vret (pc := 71) dX2_readPerson_71 rfl hf
  · refine E_aload_n (pc := 26) dX2_readPerson_26 rfl ?_
    refine E_getR (pc := 27) dX2_readPerson_27 fl_X2_12 hf (fun v12 hf => ?_)
    refine E_getR (pc := 30) dX2_readPerson_30 fl_X2_138 hf (fun v13 hf => ?_)
    refine E_aload_n (pc := 33) dX2_readPerson_33 rfl ?_
    refine E_getR (pc := 34) dX2_readPerson_34 fl_X2_12 hf (fun v14 hf => ?_)
    refine E_getI (pc := 37) dX2_readPerson_37 fl_X2_96 hf (fun v15 hf => ?_)
    refine E_iload_n (pc := 40) dX2_readPerson_40 rfl ?_
    refine E_iast (pc := 41) dX2_readPerson_41 hf (fun μ16 hf => ?_)
    refine E_aload_n (pc := 42) dX2_readPerson_42 rfl ?_
    refine E_getR (pc := 43) dX2_readPerson_43 fl_X2_12 hf (fun v17 hf => ?_)
    refine E_getR (pc := 46) dX2_readPerson_46 fl_X2_141 hf (fun v18 hf => ?_)
    refine E_aload_n (pc := 49) dX2_readPerson_49 rfl ?_
    refine E_getR (pc := 50) dX2_readPerson_50 fl_X2_12 hf (fun v19 hf => ?_)
    refine E_getI (pc := 53) dX2_readPerson_53 fl_X2_96 hf (fun v20 hf => ?_)
    refine E_iload_n (pc := 56) dX2_readPerson_56 rfl ?_
    refine E_iast (pc := 57) dX2_readPerson_57 hf (fun μ21 hf => ?_)
    refine E_aload_n (pc := 58) dX2_readPerson_58 rfl ?_
    refine E_getR (pc := 59) dX2_readPerson_59 fl_X2_12 hf (fun v22 hf => ?_)
    refine E_dup (pc := 62) dX2_readPerson_62 rfl ?_
    refine E_getI (pc := 63) dX2_readPerson_63 fl_X2_96 hf (fun v23 hf => ?_)
    refine E_iconst (pc := 66) (v := (1 : Int32)) dX2_readPerson_66 (by decide) ?_
    refine E_iadd (pc := 67) dX2_readPerson_67 ?_
    refine E_putI (pc := 68) dX2_readPerson_68 (pl_X2_96 _) hf (fun μ24 hf => ?_)
    exact E_vret (pc := 71) dX2_readPerson_71 rfl hf
theorem dX2_readRow_0 : decode cX2_readRow 0 = .ok (.aload_n 0, 1) := by decide +kernel
theorem dX2_readRow_1 : decode cX2_readRow 1 = .ok (.getfield 22, 3) := by decide +kernel
theorem dX2_readRow_4 : decode cX2_readRow 4 = .ok (.invokevirtual 54, 3) := by decide +kernel
theorem dX2_readRow_7 : decode cX2_readRow 7 = .ok (.pop, 1) := by decide +kernel
theorem dX2_readRow_8 : decode cX2_readRow 8 = .ok (.aload_n 0, 1) := by decide +kernel
theorem dX2_readRow_9 : decode cX2_readRow 9 = .ok (.getfield 18, 3) := by decide +kernel
theorem dX2_readRow_12 : decode cX2_readRow 12 = .ok (.aload_n 0, 1) := by decide +kernel
theorem dX2_readRow_13 : decode cX2_readRow 13 = .ok (.getfield 12, 3) := by decide +kernel
theorem dX2_readRow_16 : decode cX2_readRow 16 = .ok (.getfield 115, 3) := by decide +kernel
theorem dX2_readRow_19 : decode cX2_readRow 19 = .ok (.imul, 1) := by decide +kernel
theorem dX2_readRow_20 : decode cX2_readRow 20 = .ok (.istore_n 1, 1) := by decide +kernel
theorem dX2_readRow_21 : decode cX2_readRow 21 = .ok (.iconst 0, 1) := by decide +kernel
theorem dX2_readRow_22 : decode cX2_readRow 22 = .ok (.istore_n 2, 1) := by decide +kernel
theorem dX2_readRow_23 : decode cX2_readRow 23 = .ok (.iload_n 2, 1) := by decide +kernel
theorem dX2_readRow_24 : decode cX2_readRow 24 = .ok (.aload_n 0, 1) := by decide +kernel
theorem dX2_readRow_25 : decode cX2_readRow 25 = .ok (.getfield 12, 3) := by decide +kernel
theorem dX2_readRow_28 : decode cX2_readRow 28 = .ok (.getfield 115, 3) := by decide +kernel
theorem dX2_readRow_31 : decode cX2_readRow 31 = .ok (.if_icmp .ge 83, 3) := by decide +kernel
theorem dX2_readRow_34 : decode cX2_readRow 34 = .ok (.aload_n 0, 1) := by decide +kernel
theorem dX2_readRow_35 : decode cX2_readRow 35 = .ok (.getfield 22, 3) := by decide +kernel
theorem dX2_readRow_38 : decode cX2_readRow 38 = .ok (.aload_n 0, 1) := by decide +kernel
theorem dX2_readRow_39 : decode cX2_readRow 39 = .ok (.getfield 22, 3) := by decide +kernel
theorem dX2_readRow_42 : decode cX2_readRow 42 = .ok (.getfield 121, 3) := by decide +kernel
theorem dX2_readRow_45 : decode cX2_readRow 45 = .ok (.invokevirtual 124, 3) := by decide +kernel
theorem dX2_readRow_48 : decode cX2_readRow 48 = .ok (.ifCond .ne 19, 3) := by decide +kernel
theorem dX2_readRow_51 : decode cX2_readRow 51 = .ok (.aload_n 0, 1) := by decide +kernel
theorem dX2_readRow_52 : decode cX2_readRow 52 = .ok (.getfield 22, 3) := by decide +kernel
theorem dX2_readRow_55 : decode cX2_readRow 55 = .ok (.aload_n 0, 1) := by decide +kernel
theorem dX2_readRow_56 : decode cX2_readRow 56 = .ok (.getfield 22, 3) := by decide +kernel
theorem dX2_readRow_59 : decode cX2_readRow 59 = .ok (.getfield 121, 3) := by decide +kernel
theorem dX2_readRow_62 : decode cX2_readRow 62 = .ok (.iconst 0, 1) := by decide +kernel
theorem dX2_readRow_63 : decode cX2_readRow 63 = .ok (.invokevirtual 64, 3) := by decide +kernel
theorem dX2_readRow_66 : decode cX2_readRow 66 = .ok (.return_, 1) := by decide +kernel
theorem dX2_readRow_67 : decode cX2_readRow 67 = .ok (.aload_n 0, 1) := by decide +kernel
theorem dX2_readRow_68 : decode cX2_readRow 68 = .ok (.getfield 12, 3) := by decide +kernel
theorem dX2_readRow_71 : decode cX2_readRow 71 = .ok (.getfield 127, 3) := by decide +kernel
theorem dX2_readRow_74 : decode cX2_readRow 74 = .ok (.iload_n 1, 1) := by decide +kernel
theorem dX2_readRow_75 : decode cX2_readRow 75 = .ok (.iload_n 2, 1) := by decide +kernel
theorem dX2_readRow_76 : decode cX2_readRow 76 = .ok (.iadd, 1) := by decide +kernel
theorem dX2_readRow_77 : decode cX2_readRow 77 = .ok (.aload_n 0, 1) := by decide +kernel
theorem dX2_readRow_78 : decode cX2_readRow 78 = .ok (.getfield 22, 3) := by decide +kernel
theorem dX2_readRow_81 : decode cX2_readRow 81 = .ok (.aload_n 0, 1) := by decide +kernel
theorem dX2_readRow_82 : decode cX2_readRow 82 = .ok (.getfield 22, 3) := by decide +kernel
theorem dX2_readRow_85 : decode cX2_readRow 85 = .ok (.getfield 121, 3) := by decide +kernel
theorem dX2_readRow_88 : decode cX2_readRow 88 = .ok (.invokevirtual 131, 3) := by decide +kernel
theorem dX2_readRow_91 : decode cX2_readRow 91 = .ok (.bipush 48, 2) := by decide +kernel
theorem dX2_readRow_93 : decode cX2_readRow 93 = .ok (.isub, 1) := by decide +kernel
theorem dX2_readRow_94 : decode cX2_readRow 94 = .ok (.iastore, 1) := by decide +kernel
theorem dX2_readRow_95 : decode cX2_readRow 95 = .ok (.aload_n 0, 1) := by decide +kernel
theorem dX2_readRow_96 : decode cX2_readRow 96 = .ok (.getfield 22, 3) := by decide +kernel
theorem dX2_readRow_99 : decode cX2_readRow 99 = .ok (.dup, 1) := by decide +kernel
theorem dX2_readRow_100 : decode cX2_readRow 100 = .ok (.getfield 121, 3) := by decide +kernel
theorem dX2_readRow_103 : decode cX2_readRow 103 = .ok (.iconst 1, 1) := by decide +kernel
theorem dX2_readRow_104 : decode cX2_readRow 104 = .ok (.iadd, 1) := by decide +kernel
theorem dX2_readRow_105 : decode cX2_readRow 105 = .ok (.putfield 121, 3) := by decide +kernel
theorem dX2_readRow_108 : decode cX2_readRow 108 = .ok (.iinc 2 1, 3) := by decide +kernel
theorem dX2_readRow_111 : decode cX2_readRow 111 = .ok (.goto (-88), 3) := by decide +kernel
theorem dX2_readRow_114 : decode cX2_readRow 114 = .ok (.aload_n 0, 1) := by decide +kernel
theorem dX2_readRow_115 : decode cX2_readRow 115 = .ok (.dup, 1) := by decide +kernel
theorem dX2_readRow_116 : decode cX2_readRow 116 = .ok (.getfield 18, 3) := by decide +kernel
theorem dX2_readRow_119 : decode cX2_readRow 119 = .ok (.iconst 1, 1) := by decide +kernel
theorem dX2_readRow_120 : decode cX2_readRow 120 = .ok (.iadd, 1) := by decide +kernel
theorem dX2_readRow_121 : decode cX2_readRow 121 = .ok (.putfield 18, 3) := by decide +kernel
theorem dX2_readRow_124 : decode cX2_readRow 124 = .ok (.return_, 1) := by decide +kernel
abbrev D_X2_readRow : Nat := 2
def f_X2_readRow_L23 (K51 : Mm → Nat → Option Mm) (K114 : Mm → Nat → Option Mm) : Nat → Mm → Nat → Int32 → Int32 → Option Mm
  | 0, _, _, _, _ => none
  | n + 1, μ0, a10, x11, x12 =>
    ((gR μ0 a10 2 1).bind fun v13 =>
    ((gI μ0 v13 1 0).bind fun v14 =>
    (if v14 ≤ x12 then
    K114 μ0 a10
    else
    ((gR μ0 a10 2 0).bind fun v15 =>
    ((gR μ0 a10 2 0).bind fun v16 =>
    ((gI μ0 v16 9 2).bind fun v17 =>
    ((ob μ0 v15 9).bind fun _ =>
    (bd (f_X9_isDigitAt μ0 v15 v17) fun v19 μ18 =>
    (if v19 = 0 then
    K51 μ18 a10
    else
    ((gR μ18 a10 2 1).bind fun v20 =>
    ((gR μ18 v20 1 3).bind fun v21 =>
    ((gR μ18 a10 2 0).bind fun v22 =>
    ((gR μ18 a10 2 0).bind fun v23 =>
    ((gI μ18 v23 9 2).bind fun v24 =>
    ((ob μ18 v22 9).bind fun _ =>
    (bd (f_X9_byteAt μ18 v22 v24) fun v26 μ25 =>
    ((sI μ25 v21 0 (x11 + x12) (v26 - (48 : Int32))).bind fun μ27 =>
    ((gR μ27 a10 2 0).bind fun v28 =>
    ((gI μ27 v28 9 2).bind fun v29 =>
    ((pV μ27 v28 9 2 (.int (v29 + (1 : Int32)))).bind fun μ30 =>
    (nm (x12 + Int32.ofInt (1)) fun x31 =>
    f_X2_readRow_L23 K51 K114 n μ30 a10 x11 x31)))))))))))))))))))))
set_option maxHeartbeats 4000000 in
set_option maxRecDepth 100000 in
theorem f_X2_readRow_L23_ok {l : Launch} {G : GG} {K51 : Mm → Nat → Option Mm} {K114 : Mm → Nat → Option Mm} {μ' : Mm} (n : Nat) (μ0 : Mm) (a10 : Nat) (x11 : Int32) (x12 : Int32) (hf : f_X2_readRow_L23 K51 K114 n μ0 a10 x11 x12 = some μ') (hK51 : ∀ (μ1 : Mm) (y0 : Nat), K51 μ1 y0 = some μ' → Ev l G D_X2_readRow yX2_readRow cX2_readRow 3 none 51 [(0, .ref y0)] [] μ1 none μ') (hK114 : ∀ (μ1 : Mm) (y0 : Nat), K114 μ1 y0 = some μ' → Ev l G D_X2_readRow yX2_readRow cX2_readRow 3 none 114 [(0, .ref y0)] [] μ1 none μ') : Ev l G D_X2_readRow yX2_readRow cX2_readRow 3 none 23 [(0, .ref a10), (1, .int x11), (2, .int x12)] [] μ0 none μ' := by
  induction n generalizing μ0 a10 x11 x12 with
  | zero => cases hf
  | succ n ih0 =>
    have ih : ∀ (μ0 : Mm) (a10 : Nat) (x11 : Int32) (x12 : Int32), f_X2_readRow_L23 K51 K114 n μ0 a10 x11 x12 = some μ' → Ev l G D_X2_readRow yX2_readRow cX2_readRow 3 none 23 [(0, .ref a10), (1, .int x11), (2, .int x12)] [] μ0 none μ' := fun μ0 a10 x11 x12 hf => ih0 μ0 a10 x11 x12 hf
    rw [f_X2_readRow_L23] at hf
    refine E_iload_n (pc := 23) dX2_readRow_23 rfl ?_
    refine E_aload_n (pc := 24) dX2_readRow_24 rfl ?_
    refine E_getR (pc := 25) dX2_readRow_25 fl_X2_12 hf (fun v13 hf => ?_)
    refine E_getI (pc := 28) dX2_readRow_28 fl_X2_115 hf (fun v14 hf => ?_)
    refine E_icmp_ge (pc := 31) (tgt := 114) dX2_readRow_31 (by decide) hf (fun hf => ?_) (fun hf => ?_)
    · refine Ev.sub [0] rfl ?_
      exact hK114 _ _ hf
    · refine E_aload_n (pc := 34) dX2_readRow_34 rfl ?_
      refine E_getR (pc := 35) dX2_readRow_35 fl_X2_22 hf (fun v15 hf => ?_)
      refine E_aload_n (pc := 38) dX2_readRow_38 rfl ?_
      refine E_getR (pc := 39) dX2_readRow_39 fl_X2_22 hf (fun v16 hf => ?_)
      refine E_getI (pc := 42) dX2_readRow_42 fl_X2_121 hf (fun v17 hf => ?_)
      refine E_Vi (pc := 45) (d2 := D_X9_isDigitAt) (ci := 9) [.int v17] dX2_readRow_45 ml_X2_124 mf_X9_isDigitAt im_X9_isDigitAt rfl rfl rfl (by decide) (Nat.le_of_ble_eq_true rfl) (Nat.le_of_ble_eq_true rfl) rfl (fun _ _ h => f_X9_isDigitAt_ok h) hf (fun v19 μ18 hf => ?_)
      refine E_if_ne (pc := 48) (tgt := 67) dX2_readRow_48 (by decide) hf (fun hf => ?_) (fun hf => ?_)
      · refine Ev.sub [0] rfl ?_
        exact hK51 _ _ hf
      · refine E_aload_n (pc := 67) dX2_readRow_67 rfl ?_
        refine E_getR (pc := 68) dX2_readRow_68 fl_X2_12 hf (fun v20 hf => ?_)
        refine E_getR (pc := 71) dX2_readRow_71 fl_X2_127 hf (fun v21 hf => ?_)
        refine E_iload_n (pc := 74) dX2_readRow_74 rfl ?_
        refine E_iload_n (pc := 75) dX2_readRow_75 rfl ?_
        refine E_iadd (pc := 76) dX2_readRow_76 ?_
        refine E_aload_n (pc := 77) dX2_readRow_77 rfl ?_
        refine E_getR (pc := 78) dX2_readRow_78 fl_X2_22 hf (fun v22 hf => ?_)
        refine E_aload_n (pc := 81) dX2_readRow_81 rfl ?_
        refine E_getR (pc := 82) dX2_readRow_82 fl_X2_22 hf (fun v23 hf => ?_)
        refine E_getI (pc := 85) dX2_readRow_85 fl_X2_121 hf (fun v24 hf => ?_)
        refine E_Vi (pc := 88) (d2 := D_X9_byteAt) (ci := 9) [.int v24] dX2_readRow_88 ml_X2_131 mf_X9_byteAt im_X9_byteAt rfl rfl rfl (by decide) (Nat.le_of_ble_eq_true rfl) (Nat.le_of_ble_eq_true rfl) rfl (fun _ _ h => f_X9_byteAt_ok h) hf (fun v26 μ25 hf => ?_)
        refine E_bipush (pc := 91) (v := (48 : Int32)) dX2_readRow_91 (by decide) ?_
        refine E_isub (pc := 93) dX2_readRow_93 ?_
        refine E_iast (pc := 94) dX2_readRow_94 hf (fun μ27 hf => ?_)
        refine E_aload_n (pc := 95) dX2_readRow_95 rfl ?_
        refine E_getR (pc := 96) dX2_readRow_96 fl_X2_22 hf (fun v28 hf => ?_)
        refine E_dup (pc := 99) dX2_readRow_99 rfl ?_
        refine E_getI (pc := 100) dX2_readRow_100 fl_X2_121 hf (fun v29 hf => ?_)
        refine E_iconst (pc := 103) (v := (1 : Int32)) dX2_readRow_103 (by decide) ?_
        refine E_iadd (pc := 104) dX2_readRow_104 ?_
        refine E_putI (pc := 105) dX2_readRow_105 (pl_X2_121 _) hf (fun μ30 hf => ?_)
        refine E_iinc (pc := 108) (ls' := fun x31 => [(2, .int x31), (0, .ref a10), (1, .int x11)]) dX2_readRow_108 rfl (by decide) (fun _ => rfl) hf (fun x31 hf => ?_)
        refine E_goto (pc := 111) (tgt := 23) dX2_readRow_111 (by decide) ?_
        refine Ev.sub [1, 2, 0] rfl ?_
        exact ih _ _ _ _ hf
set_option maxRecDepth 100000 in
def f_X2_readRow (μ0 : Mm) (a1 : Nat) : Option Mm :=
 ((gR μ0 a1 2 0).bind fun v2 =>
    ((ob μ0 v2 9).bind fun _ =>
    (bd (f_X9_skipBlanks μ0 v2) fun v4 μ3 =>
    ((gI μ3 a1 2 2).bind fun v5 =>
    ((gR μ3 a1 2 1).bind fun v6 =>
    ((gI μ3 v6 1 0).bind fun v7 =>
    (nm (v5 * v7) fun x8 =>
    (nm (0 : Int32) fun x9 =>
    f_X2_readRow_L23 (fun μ32 a33 =>
    ((gR μ32 a33 2 0).bind fun v34 =>
    ((gR μ32 a33 2 0).bind fun v35 =>
    ((gI μ32 v35 9 2).bind fun v36 =>
    ((ob μ32 v34 9).bind fun _ =>
    ((f_X9_fail μ32 v34 v36 (0 : Int32)).bind fun μ37 =>
    (some μ37))))))) (fun μ38 a39 =>
    ((gI μ38 a39 2 2).bind fun v40 =>
    ((pV μ38 a39 2 2 (.int (v40 + (1 : Int32)))).bind fun μ41 =>
    (some μ41)))) FU μ3 a1 x8 x9))))))))
set_option maxHeartbeats 4000000 in
set_option maxRecDepth 100000 in
theorem f_X2_readRow_ok {l : Launch} {G : GG} {μ0 : Mm} {a1 : Nat} {μ' : Mm} (hf : f_X2_readRow μ0 a1 = some μ') : EvM l G D_X2_readRow yX2_readRow cX2_readRow 3 none [.ref a1] μ0 none μ' := by
  show Ev l G D_X2_readRow yX2_readRow cX2_readRow 3 none 0 [(0, .ref a1)] [] μ0 none μ'
  unfold f_X2_readRow at hf
  refine E_aload_n (pc := 0) dX2_readRow_0 rfl ?_
  refine E_getR (pc := 1) dX2_readRow_1 fl_X2_22 hf (fun v2 hf => ?_)
  refine E_Vi (pc := 4) (d2 := D_X9_skipBlanks) (ci := 9) [] dX2_readRow_4 ml_X2_54 mf_X9_skipBlanks im_X9_skipBlanks rfl rfl rfl (by decide) (Nat.le_of_ble_eq_true rfl) (Nat.le_of_ble_eq_true rfl) rfl (fun _ _ h => f_X9_skipBlanks_ok h) hf (fun v4 μ3 hf => ?_)
  refine E_pop (pc := 7) dX2_readRow_7 rfl ?_
  refine E_aload_n (pc := 8) dX2_readRow_8 rfl ?_
  refine E_getI (pc := 9) dX2_readRow_9 fl_X2_18 hf (fun v5 hf => ?_)
  refine E_aload_n (pc := 12) dX2_readRow_12 rfl ?_
  refine E_getR (pc := 13) dX2_readRow_13 fl_X2_12 hf (fun v6 hf => ?_)
  refine E_getI (pc := 16) dX2_readRow_16 fl_X2_115 hf (fun v7 hf => ?_)
  refine E_imul (pc := 19) dX2_readRow_19 ?_
  refine E_istore_n (pc := 20) (ls' := fun x8 => [(1, .int x8), (0, .ref a1)]) dX2_readRow_20 (by decide) (fun _ => rfl) hf (fun x8 hf => ?_)
  refine E_iconst (pc := 21) (v := (0 : Int32)) dX2_readRow_21 (by decide) ?_
  refine E_istore_n (pc := 22) (ls' := fun x9 => [(2, .int x9), (1, .int x8), (0, .ref a1)]) dX2_readRow_22 (by decide) (fun _ => rfl) hf (fun x9 hf => ?_)
  refine Ev.sub [2, 1, 0] rfl ?_
  refine f_X2_readRow_L23_ok  _ _ _ _ _ hf (fun μ32 a33 hf => ?_) (fun μ38 a39 hf => ?_)
  · refine E_aload_n (pc := 51) dX2_readRow_51 rfl ?_
    refine E_getR (pc := 52) dX2_readRow_52 fl_X2_22 hf (fun v34 hf => ?_)
    refine E_aload_n (pc := 55) dX2_readRow_55 rfl ?_
    refine E_getR (pc := 56) dX2_readRow_56 fl_X2_22 hf (fun v35 hf => ?_)
    refine E_getI (pc := 59) dX2_readRow_59 fl_X2_121 hf (fun v36 hf => ?_)
    refine E_iconst (pc := 62) (v := (0 : Int32)) dX2_readRow_62 (by decide) ?_
    refine E_Vv (pc := 63) (d2 := D_X9_fail) (ci := 9) [.int v36, .int (0 : Int32)] dX2_readRow_63 ml_X2_64 mf_X9_fail im_X9_fail rfl rfl rfl (by decide) (Nat.le_of_ble_eq_true rfl) (Nat.le_of_ble_eq_true rfl) rfl (fun _ h => f_X9_fail_ok h) hf (fun μ37 hf => ?_)
    exact E_vret (pc := 66) dX2_readRow_66 rfl hf
  · refine E_aload_n (pc := 114) dX2_readRow_114 rfl ?_
    refine E_dup (pc := 115) dX2_readRow_115 rfl ?_
    refine E_getI (pc := 116) dX2_readRow_116 fl_X2_18 hf (fun v40 hf => ?_)
    refine E_iconst (pc := 119) (v := (1 : Int32)) dX2_readRow_119 (by decide) ?_
    refine E_iadd (pc := 120) dX2_readRow_120 ?_
    refine E_putI (pc := 121) dX2_readRow_121 (pl_X2_18 _) hf (fun μ41 hf => ?_)
    exact E_vret (pc := 124) dX2_readRow_124 rfl hf
theorem dX2_readSize_0 : decode cX2_readSize 0 = .ok (.aload_n 0, 1) := by decide +kernel
theorem dX2_readSize_1 : decode cX2_readSize 1 = .ok (.getfield 22, 3) := by decide +kernel
theorem dX2_readSize_4 : decode cX2_readSize 4 = .ok (.iconst 2, 1) := by decide +kernel
theorem dX2_readSize_5 : decode cX2_readSize 5 = .ok (.bipush 8, 2) := by decide +kernel
theorem dX2_readSize_7 : decode cX2_readSize 7 = .ok (.invokevirtual 111, 3) := by decide +kernel
theorem dX2_readSize_10 : decode cX2_readSize 10 = .ok (.istore_n 1, 1) := by decide +kernel
theorem dX2_readSize_11 : decode cX2_readSize 11 = .ok (.aload_n 0, 1) := by decide +kernel
theorem dX2_readSize_12 : decode cX2_readSize 12 = .ok (.getfield 22, 3) := by decide +kernel
theorem dX2_readSize_15 : decode cX2_readSize 15 = .ok (.iconst 2, 1) := by decide +kernel
theorem dX2_readSize_16 : decode cX2_readSize 16 = .ok (.bipush 6, 2) := by decide +kernel
theorem dX2_readSize_18 : decode cX2_readSize 18 = .ok (.invokevirtual 111, 3) := by decide +kernel
theorem dX2_readSize_21 : decode cX2_readSize 21 = .ok (.istore_n 2, 1) := by decide +kernel
theorem dX2_readSize_22 : decode cX2_readSize 22 = .ok (.aload_n 0, 1) := by decide +kernel
theorem dX2_readSize_23 : decode cX2_readSize 23 = .ok (.getfield 22, 3) := by decide +kernel
theorem dX2_readSize_26 : decode cX2_readSize 26 = .ok (.invokevirtual 35, 3) := by decide +kernel
theorem dX2_readSize_29 : decode cX2_readSize 29 = .ok (.ifCond .eq 29, 3) := by decide +kernel
theorem dX2_readSize_32 : decode cX2_readSize 32 = .ok (.aload_n 0, 1) := by decide +kernel
theorem dX2_readSize_33 : decode cX2_readSize 33 = .ok (.getfield 12, 3) := by decide +kernel
theorem dX2_readSize_36 : decode cX2_readSize 36 = .ok (.iload_n 1, 1) := by decide +kernel
theorem dX2_readSize_37 : decode cX2_readSize 37 = .ok (.putfield 115, 3) := by decide +kernel
theorem dX2_readSize_40 : decode cX2_readSize 40 = .ok (.aload_n 0, 1) := by decide +kernel
theorem dX2_readSize_41 : decode cX2_readSize 41 = .ok (.getfield 12, 3) := by decide +kernel
theorem dX2_readSize_44 : decode cX2_readSize 44 = .ok (.iload_n 2, 1) := by decide +kernel
theorem dX2_readSize_45 : decode cX2_readSize 45 = .ok (.putfield 93, 3) := by decide +kernel
theorem dX2_readSize_48 : decode cX2_readSize 48 = .ok (.aload_n 0, 1) := by decide +kernel
theorem dX2_readSize_49 : decode cX2_readSize 49 = .ok (.getfield 12, 3) := by decide +kernel
theorem dX2_readSize_52 : decode cX2_readSize 52 = .ok (.iload_n 1, 1) := by decide +kernel
theorem dX2_readSize_53 : decode cX2_readSize 53 = .ok (.iload_n 2, 1) := by decide +kernel
theorem dX2_readSize_54 : decode cX2_readSize 54 = .ok (.imul, 1) := by decide +kernel
theorem dX2_readSize_55 : decode cX2_readSize 55 = .ok (.putfield 118, 3) := by decide +kernel
theorem dX2_readSize_58 : decode cX2_readSize 58 = .ok (.return_, 1) := by decide +kernel
abbrev D_X2_readSize : Nat := 3
set_option maxRecDepth 100000 in
def f_X2_readSize (μ0 : Mm) (a1 : Nat) : Option Mm :=
 ((gR μ0 a1 2 0).bind fun v2 =>
    ((ob μ0 v2 9).bind fun _ =>
    (bd (f_X9_readNumber μ0 v2 (2 : Int32) (8 : Int32)) fun v4 μ3 =>
    (nm v4 fun x5 =>
    ((gR μ3 a1 2 0).bind fun v6 =>
    ((ob μ3 v6 9).bind fun _ =>
    (bd (f_X9_readNumber μ3 v6 (2 : Int32) (6 : Int32)) fun v8 μ7 =>
    (nm v8 fun x9 =>
    ((gR μ7 a1 2 0).bind fun v10 =>
    ((ob μ7 v10 9).bind fun _ =>
    (bd (f_X9_isSound μ7 v10) fun v12 μ11 =>
    (if v12 = 0 then
    (some μ11)
    else
    ((gR μ11 a1 2 1).bind fun v13 =>
    ((pV μ11 v13 1 0 (.int x5)).bind fun μ14 =>
    ((gR μ14 a1 2 1).bind fun v15 =>
    ((pV μ14 v15 1 1 (.int x9)).bind fun μ16 =>
    ((gR μ16 a1 2 1).bind fun v17 =>
    ((pV μ16 v17 1 2 (.int (x5 * x9))).bind fun μ18 =>
    (some μ18)))))))))))))))))))
set_option maxHeartbeats 4000000 in
set_option maxRecDepth 100000 in
theorem f_X2_readSize_ok {l : Launch} {G : GG} {μ0 : Mm} {a1 : Nat} {μ' : Mm} (hf : f_X2_readSize μ0 a1 = some μ') : EvM l G D_X2_readSize yX2_readSize cX2_readSize 3 none [.ref a1] μ0 none μ' := by
  show Ev l G D_X2_readSize yX2_readSize cX2_readSize 3 none 0 [(0, .ref a1)] [] μ0 none μ'
  unfold f_X2_readSize at hf
  refine E_aload_n (pc := 0) dX2_readSize_0 rfl ?_
  refine E_getR (pc := 1) dX2_readSize_1 fl_X2_22 hf (fun v2 hf => ?_)
  refine E_iconst (pc := 4) (v := (2 : Int32)) dX2_readSize_4 (by decide) ?_
  refine E_bipush (pc := 5) (v := (8 : Int32)) dX2_readSize_5 (by decide) ?_
  refine E_Vi (pc := 7) (d2 := D_X9_readNumber) (ci := 9) [.int (2 : Int32), .int (8 : Int32)] dX2_readSize_7 ml_X2_111 mf_X9_readNumber im_X9_readNumber rfl rfl rfl (by decide) (Nat.le_of_ble_eq_true rfl) (Nat.le_of_ble_eq_true rfl) rfl (fun _ _ h => f_X9_readNumber_ok h) hf (fun v4 μ3 hf => ?_)
  refine E_istore_n (pc := 10) (ls' := fun x5 => [(1, .int x5), (0, .ref a1)]) dX2_readSize_10 (by decide) (fun _ => rfl) hf (fun x5 hf => ?_)
  refine E_aload_n (pc := 11) dX2_readSize_11 rfl ?_
  refine E_getR (pc := 12) dX2_readSize_12 fl_X2_22 hf (fun v6 hf => ?_)
  refine E_iconst (pc := 15) (v := (2 : Int32)) dX2_readSize_15 (by decide) ?_
  refine E_bipush (pc := 16) (v := (6 : Int32)) dX2_readSize_16 (by decide) ?_
  refine E_Vi (pc := 18) (d2 := D_X9_readNumber) (ci := 9) [.int (2 : Int32), .int (6 : Int32)] dX2_readSize_18 ml_X2_111 mf_X9_readNumber im_X9_readNumber rfl rfl rfl (by decide) (Nat.le_of_ble_eq_true rfl) (Nat.le_of_ble_eq_true rfl) rfl (fun _ _ h => f_X9_readNumber_ok h) hf (fun v8 μ7 hf => ?_)
  refine E_istore_n (pc := 21) (ls' := fun x9 => [(2, .int x9), (1, .int x5), (0, .ref a1)]) dX2_readSize_21 (by decide) (fun _ => rfl) hf (fun x9 hf => ?_)
  refine E_aload_n (pc := 22) dX2_readSize_22 rfl ?_
  refine E_getR (pc := 23) dX2_readSize_23 fl_X2_22 hf (fun v10 hf => ?_)
  refine E_Vi (pc := 26) (d2 := D_X9_isSound) (ci := 9) [] dX2_readSize_26 ml_X2_35 mf_X9_isSound im_X9_isSound rfl rfl rfl (by decide) (Nat.le_of_ble_eq_true rfl) (Nat.le_of_ble_eq_true rfl) rfl (fun _ _ h => f_X9_isSound_ok h) hf (fun v12 μ11 hf => ?_)
  refine E_if_eq (pc := 29) (tgt := 58) dX2_readSize_29 (by decide) hf (fun hf => ?_) (fun hf => ?_)
  · exact E_vret (pc := 58) dX2_readSize_58 rfl hf
  · refine E_aload_n (pc := 32) dX2_readSize_32 rfl ?_
    refine E_getR (pc := 33) dX2_readSize_33 fl_X2_12 hf (fun v13 hf => ?_)
    refine E_iload_n (pc := 36) dX2_readSize_36 rfl ?_
    refine E_putI (pc := 37) dX2_readSize_37 (pl_X2_115 _) hf (fun μ14 hf => ?_)
    refine E_aload_n (pc := 40) dX2_readSize_40 rfl ?_
    refine E_getR (pc := 41) dX2_readSize_41 fl_X2_12 hf (fun v15 hf => ?_)
    refine E_iload_n (pc := 44) dX2_readSize_44 rfl ?_
    refine E_putI (pc := 45) dX2_readSize_45 (pl_X2_93 _) hf (fun μ16 hf => ?_)
    refine E_aload_n (pc := 48) dX2_readSize_48 rfl ?_
    refine E_getR (pc := 49) dX2_readSize_49 fl_X2_12 hf (fun v17 hf => ?_)
    refine E_iload_n (pc := 52) dX2_readSize_52 rfl ?_
    refine E_iload_n (pc := 53) dX2_readSize_53 rfl ?_
    refine E_imul (pc := 54) dX2_readSize_54 ?_
    refine E_putI (pc := 55) dX2_readSize_55 (pl_X2_118 _) hf (fun μ18 hf => ?_)
    exact E_vret (pc := 58) dX2_readSize_58 rfl hf
theorem dX2_readOwner_0 : decode cX2_readOwner 0 = .ok (.aload_n 0, 1) := by decide +kernel
theorem dX2_readOwner_1 : decode cX2_readOwner 1 = .ok (.getfield 22, 3) := by decide +kernel
theorem dX2_readOwner_4 : decode cX2_readOwner 4 = .ok (.invokevirtual 54, 3) := by decide +kernel
theorem dX2_readOwner_7 : decode cX2_readOwner 7 = .ok (.istore_n 1, 1) := by decide +kernel
theorem dX2_readOwner_8 : decode cX2_readOwner 8 = .ok (.aload_n 0, 1) := by decide +kernel
theorem dX2_readOwner_9 : decode cX2_readOwner 9 = .ok (.getfield 22, 3) := by decide +kernel
theorem dX2_readOwner_12 : decode cX2_readOwner 12 = .ok (.iconst 0, 1) := by decide +kernel
theorem dX2_readOwner_13 : decode cX2_readOwner 13 = .ok (.bipush 9, 2) := by decide +kernel
theorem dX2_readOwner_15 : decode cX2_readOwner 15 = .ok (.invokevirtual 111, 3) := by decide +kernel
theorem dX2_readOwner_18 : decode cX2_readOwner 18 = .ok (.istore_n 2, 1) := by decide +kernel
theorem dX2_readOwner_19 : decode cX2_readOwner 19 = .ok (.iload_n 2, 1) := by decide +kernel
theorem dX2_readOwner_20 : decode cX2_readOwner 20 = .ok (.aload_n 0, 1) := by decide +kernel
theorem dX2_readOwner_21 : decode cX2_readOwner 21 = .ok (.getfield 12, 3) := by decide +kernel
theorem dX2_readOwner_24 : decode cX2_readOwner 24 = .ok (.getfield 96, 3) := by decide +kernel
theorem dX2_readOwner_27 : decode cX2_readOwner 27 = .ok (.if_icmp .lt 18, 3) := by decide +kernel
theorem dX2_readOwner_30 : decode cX2_readOwner 30 = .ok (.iload_n 2, 1) := by decide +kernel
theorem dX2_readOwner_31 : decode cX2_readOwner 31 = .ok (.bipush 9, 2) := by decide +kernel
theorem dX2_readOwner_33 : decode cX2_readOwner 33 = .ok (.if_icmp .eq 12, 3) := by decide +kernel
theorem dX2_readOwner_36 : decode cX2_readOwner 36 = .ok (.aload_n 0, 1) := by decide +kernel
theorem dX2_readOwner_37 : decode cX2_readOwner 37 = .ok (.getfield 22, 3) := by decide +kernel
theorem dX2_readOwner_40 : decode cX2_readOwner 40 = .ok (.iload_n 1, 1) := by decide +kernel
theorem dX2_readOwner_41 : decode cX2_readOwner 41 = .ok (.iconst 1, 1) := by decide +kernel
theorem dX2_readOwner_42 : decode cX2_readOwner 42 = .ok (.invokevirtual 64, 3) := by decide +kernel
theorem dX2_readOwner_45 : decode cX2_readOwner 45 = .ok (.iload_n 2, 1) := by decide +kernel
theorem dX2_readOwner_46 : decode cX2_readOwner 46 = .ok (.ireturn, 1) := by decide +kernel
abbrev D_X2_readOwner : Nat := 3
set_option maxRecDepth 100000 in
def f_X2_readOwner (μ0 : Mm) (a1 : Nat) : Option (Int32 × Mm) :=
 ((gR μ0 a1 2 0).bind fun v2 =>
    ((ob μ0 v2 9).bind fun _ =>
    (bd (f_X9_skipBlanks μ0 v2) fun v4 μ3 =>
    (nm v4 fun x5 =>
    ((gR μ3 a1 2 0).bind fun v6 =>
    ((ob μ3 v6 9).bind fun _ =>
    (bd (f_X9_readNumber μ3 v6 (0 : Int32) (9 : Int32)) fun v8 μ7 =>
    (nm v8 fun x9 =>
    ((gR μ7 a1 2 1).bind fun v10 =>
    ((gI μ7 v10 1 6).bind fun v11 =>
    (if x9 < v11 then
    (some (x9, μ7))
    else
    (if x9 = (9 : Int32) then
    (some (x9, μ7))
    else
    ((gR μ7 a1 2 0).bind fun v12 =>
    ((ob μ7 v12 9).bind fun _ =>
    ((f_X9_fail μ7 v12 x5 (1 : Int32)).bind fun μ13 =>
    (some (x9, μ13)))))))))))))))))
set_option maxHeartbeats 4000000 in
set_option maxRecDepth 100000 in
theorem f_X2_readOwner_ok {l : Launch} {G : GG} {μ0 : Mm} {a1 : Nat} {r : Int32} {μ' : Mm} (hf : f_X2_readOwner μ0 a1 = some (r, μ')) : EvM l G D_X2_readOwner yX2_readOwner cX2_readOwner 3 (some .int) [.ref a1] μ0 (some (.int r)) μ' := by
  show Ev l G D_X2_readOwner yX2_readOwner cX2_readOwner 3 (some .int) 0 [(0, .ref a1)] [] μ0 (some (.int r)) μ'
  unfold f_X2_readOwner at hf
  refine E_aload_n (pc := 0) dX2_readOwner_0 rfl ?_
  refine E_getR (pc := 1) dX2_readOwner_1 fl_X2_22 hf (fun v2 hf => ?_)
  refine E_Vi (pc := 4) (d2 := D_X9_skipBlanks) (ci := 9) [] dX2_readOwner_4 ml_X2_54 mf_X9_skipBlanks im_X9_skipBlanks rfl rfl rfl (by decide) (Nat.le_of_ble_eq_true rfl) (Nat.le_of_ble_eq_true rfl) rfl (fun _ _ h => f_X9_skipBlanks_ok h) hf (fun v4 μ3 hf => ?_)
  refine E_istore_n (pc := 7) (ls' := fun x5 => [(1, .int x5), (0, .ref a1)]) dX2_readOwner_7 (by decide) (fun _ => rfl) hf (fun x5 hf => ?_)
  refine E_aload_n (pc := 8) dX2_readOwner_8 rfl ?_
  refine E_getR (pc := 9) dX2_readOwner_9 fl_X2_22 hf (fun v6 hf => ?_)
  refine E_iconst (pc := 12) (v := (0 : Int32)) dX2_readOwner_12 (by decide) ?_
  refine E_bipush (pc := 13) (v := (9 : Int32)) dX2_readOwner_13 (by decide) ?_
  refine E_Vi (pc := 15) (d2 := D_X9_readNumber) (ci := 9) [.int (0 : Int32), .int (9 : Int32)] dX2_readOwner_15 ml_X2_111 mf_X9_readNumber im_X9_readNumber rfl rfl rfl (by decide) (Nat.le_of_ble_eq_true rfl) (Nat.le_of_ble_eq_true rfl) rfl (fun _ _ h => f_X9_readNumber_ok h) hf (fun v8 μ7 hf => ?_)
  refine E_istore_n (pc := 18) (ls' := fun x9 => [(2, .int x9), (1, .int x5), (0, .ref a1)]) dX2_readOwner_18 (by decide) (fun _ => rfl) hf (fun x9 hf => ?_)
  refine E_iload_n (pc := 19) dX2_readOwner_19 rfl ?_
  refine E_aload_n (pc := 20) dX2_readOwner_20 rfl ?_
  refine E_getR (pc := 21) dX2_readOwner_21 fl_X2_12 hf (fun v10 hf => ?_)
  refine E_getI (pc := 24) dX2_readOwner_24 fl_X2_96 hf (fun v11 hf => ?_)
  refine E_icmp_lt (pc := 27) (tgt := 45) dX2_readOwner_27 (by decide) hf (fun hf => ?_) (fun hf => ?_)
  · refine E_iload_n (pc := 45) dX2_readOwner_45 rfl ?_
    exact E_iret (pc := 46) dX2_readOwner_46 rfl hf
  · refine E_iload_n (pc := 30) dX2_readOwner_30 rfl ?_
    refine E_bipush (pc := 31) (v := (9 : Int32)) dX2_readOwner_31 (by decide) ?_
    refine E_icmp_eq (pc := 33) (tgt := 45) dX2_readOwner_33 (by decide) hf (fun hf => ?_) (fun hf => ?_)
    · refine E_iload_n (pc := 45) dX2_readOwner_45 rfl ?_
      exact E_iret (pc := 46) dX2_readOwner_46 rfl hf
    · refine E_aload_n (pc := 36) dX2_readOwner_36 rfl ?_
      refine E_getR (pc := 37) dX2_readOwner_37 fl_X2_22 hf (fun v12 hf => ?_)
      refine E_iload_n (pc := 40) dX2_readOwner_40 rfl ?_
      refine E_iconst (pc := 41) (v := (1 : Int32)) dX2_readOwner_41 (by decide) ?_
      refine E_Vv (pc := 42) (d2 := D_X9_fail) (ci := 9) [.int x5, .int (1 : Int32)] dX2_readOwner_42 ml_X2_64 mf_X9_fail im_X9_fail rfl rfl rfl (by decide) (Nat.le_of_ble_eq_true rfl) (Nat.le_of_ble_eq_true rfl) rfl (fun _ h => f_X9_fail_ok h) hf (fun μ13 hf => ?_)
      refine E_iload_n (pc := 45) dX2_readOwner_45 rfl ?_
      exact E_iret (pc := 46) dX2_readOwner_46 rfl hf
theorem dX2_readThing_0 : decode cX2_readThing 0 = .ok (.aload_n 0, 1) := by decide +kernel
theorem dX2_readThing_1 : decode cX2_readThing 1 = .ok (.invokevirtual 135, 3) := by decide +kernel
theorem dX2_readThing_4 : decode cX2_readThing 4 = .ok (.istore_n 1, 1) := by decide +kernel
theorem dX2_readThing_5 : decode cX2_readThing 5 = .ok (.aload_n 0, 1) := by decide +kernel
theorem dX2_readThing_6 : decode cX2_readThing 6 = .ok (.invokevirtual 144, 3) := by decide +kernel
theorem dX2_readThing_9 : decode cX2_readThing 9 = .ok (.istore_n 2, 1) := by decide +kernel
theorem dX2_readThing_10 : decode cX2_readThing 10 = .ok (.aload_n 0, 1) := by decide +kernel
theorem dX2_readThing_11 : decode cX2_readThing 11 = .ok (.getfield 22, 3) := by decide +kernel
theorem dX2_readThing_14 : decode cX2_readThing 14 = .ok (.iconst 1, 1) := by decide +kernel
theorem dX2_readThing_15 : decode cX2_readThing 15 = .ok (.bipush 30, 2) := by decide +kernel
theorem dX2_readThing_17 : decode cX2_readThing 17 = .ok (.invokevirtual 111, 3) := by decide +kernel
theorem dX2_readThing_20 : decode cX2_readThing 20 = .ok (.istore_n 3, 1) := by decide +kernel
theorem dX2_readThing_21 : decode cX2_readThing 21 = .ok (.aload_n 0, 1) := by decide +kernel
theorem dX2_readThing_22 : decode cX2_readThing 22 = .ok (.getfield 22, 3) := by decide +kernel
theorem dX2_readThing_25 : decode cX2_readThing 25 = .ok (.iconst 0, 1) := by decide +kernel
theorem dX2_readThing_26 : decode cX2_readThing 26 = .ok (.bipush 60, 2) := by decide +kernel
theorem dX2_readThing_28 : decode cX2_readThing 28 = .ok (.invokevirtual 111, 3) := by decide +kernel
theorem dX2_readThing_31 : decode cX2_readThing 31 = .ok (.istore 4, 2) := by decide +kernel
theorem dX2_readThing_33 : decode cX2_readThing 33 = .ok (.aload_n 0, 1) := by decide +kernel
theorem dX2_readThing_34 : decode cX2_readThing 34 = .ok (.getfield 22, 3) := by decide +kernel
theorem dX2_readThing_37 : decode cX2_readThing 37 = .ok (.invokevirtual 35, 3) := by decide +kernel
theorem dX2_readThing_40 : decode cX2_readThing 40 = .ok (.ifCond .eq 81, 3) := by decide +kernel
theorem dX2_readThing_43 : decode cX2_readThing 43 = .ok (.aload_n 0, 1) := by decide +kernel
theorem dX2_readThing_44 : decode cX2_readThing 44 = .ok (.getfield 12, 3) := by decide +kernel
theorem dX2_readThing_47 : decode cX2_readThing 47 = .ok (.getfield 147, 3) := by decide +kernel
theorem dX2_readThing_50 : decode cX2_readThing 50 = .ok (.aload_n 0, 1) := by decide +kernel
theorem dX2_readThing_51 : decode cX2_readThing 51 = .ok (.getfield 12, 3) := by decide +kernel
theorem dX2_readThing_54 : decode cX2_readThing 54 = .ok (.getfield 99, 3) := by decide +kernel
theorem dX2_readThing_57 : decode cX2_readThing 57 = .ok (.iload_n 1, 1) := by decide +kernel
theorem dX2_readThing_58 : decode cX2_readThing 58 = .ok (.iastore, 1) := by decide +kernel
theorem dX2_readThing_59 : decode cX2_readThing 59 = .ok (.aload_n 0, 1) := by decide +kernel
theorem dX2_readThing_60 : decode cX2_readThing 60 = .ok (.getfield 12, 3) := by decide +kernel
theorem dX2_readThing_63 : decode cX2_readThing 63 = .ok (.getfield 150, 3) := by decide +kernel
theorem dX2_readThing_66 : decode cX2_readThing 66 = .ok (.aload_n 0, 1) := by decide +kernel
theorem dX2_readThing_67 : decode cX2_readThing 67 = .ok (.getfield 12, 3) := by decide +kernel
theorem dX2_readThing_70 : decode cX2_readThing 70 = .ok (.getfield 99, 3) := by decide +kernel
theorem dX2_readThing_73 : decode cX2_readThing 73 = .ok (.iload_n 2, 1) := by decide +kernel
theorem dX2_readThing_74 : decode cX2_readThing 74 = .ok (.iastore, 1) := by decide +kernel
theorem dX2_readThing_75 : decode cX2_readThing 75 = .ok (.aload_n 0, 1) := by decide +kernel
theorem dX2_readThing_76 : decode cX2_readThing 76 = .ok (.getfield 12, 3) := by decide +kernel
theorem dX2_readThing_79 : decode cX2_readThing 79 = .ok (.getfield 153, 3) := by decide +kernel
theorem dX2_readThing_82 : decode cX2_readThing 82 = .ok (.aload_n 0, 1) := by decide +kernel
theorem dX2_readThing_83 : decode cX2_readThing 83 = .ok (.getfield 12, 3) := by decide +kernel
theorem dX2_readThing_86 : decode cX2_readThing 86 = .ok (.getfield 99, 3) := by decide +kernel
theorem dX2_readThing_89 : decode cX2_readThing 89 = .ok (.iload_n 3, 1) := by decide +kernel
theorem dX2_readThing_90 : decode cX2_readThing 90 = .ok (.iastore, 1) := by decide +kernel
theorem dX2_readThing_91 : decode cX2_readThing 91 = .ok (.aload_n 0, 1) := by decide +kernel
theorem dX2_readThing_92 : decode cX2_readThing 92 = .ok (.getfield 12, 3) := by decide +kernel
theorem dX2_readThing_95 : decode cX2_readThing 95 = .ok (.getfield 156, 3) := by decide +kernel
theorem dX2_readThing_98 : decode cX2_readThing 98 = .ok (.aload_n 0, 1) := by decide +kernel
theorem dX2_readThing_99 : decode cX2_readThing 99 = .ok (.getfield 12, 3) := by decide +kernel
theorem dX2_readThing_102 : decode cX2_readThing 102 = .ok (.getfield 99, 3) := by decide +kernel
theorem dX2_readThing_105 : decode cX2_readThing 105 = .ok (.iload 4, 2) := by decide +kernel
theorem dX2_readThing_107 : decode cX2_readThing 107 = .ok (.iastore, 1) := by decide +kernel
theorem dX2_readThing_108 : decode cX2_readThing 108 = .ok (.aload_n 0, 1) := by decide +kernel
theorem dX2_readThing_109 : decode cX2_readThing 109 = .ok (.getfield 12, 3) := by decide +kernel
theorem dX2_readThing_112 : decode cX2_readThing 112 = .ok (.dup, 1) := by decide +kernel
theorem dX2_readThing_113 : decode cX2_readThing 113 = .ok (.getfield 99, 3) := by decide +kernel
theorem dX2_readThing_116 : decode cX2_readThing 116 = .ok (.iconst 1, 1) := by decide +kernel
theorem dX2_readThing_117 : decode cX2_readThing 117 = .ok (.iadd, 1) := by decide +kernel
theorem dX2_readThing_118 : decode cX2_readThing 118 = .ok (.putfield 99, 3) := by decide +kernel
theorem dX2_readThing_121 : decode cX2_readThing 121 = .ok (.return_, 1) := by decide +kernel
abbrev D_X2_readThing : Nat := 4
set_option maxRecDepth 100000 in
def f_X2_readThing (μ0 : Mm) (a1 : Nat) : Option Mm :=
 ((ob μ0 a1 2).bind fun _ =>
    (bd (f_X2_readCell μ0 a1) fun v3 μ2 =>
    (nm v3 fun x4 =>
    ((ob μ2 a1 2).bind fun _ =>
    (bd (f_X2_readOwner μ2 a1) fun v6 μ5 =>
    (nm v6 fun x7 =>
    ((gR μ5 a1 2 0).bind fun v8 =>
    ((ob μ5 v8 9).bind fun _ =>
    (bd (f_X9_readNumber μ5 v8 (1 : Int32) (30 : Int32)) fun v10 μ9 =>
    (nm v10 fun x11 =>
    ((gR μ9 a1 2 0).bind fun v12 =>
    ((ob μ9 v12 9).bind fun _ =>
    (bd (f_X9_readNumber μ9 v12 (0 : Int32) (60 : Int32)) fun v14 μ13 =>
    (nm v14 fun x15 =>
    ((gR μ13 a1 2 0).bind fun v16 =>
    ((ob μ13 v16 9).bind fun _ =>
    (bd (f_X9_isSound μ13 v16) fun v18 μ17 =>
    (if v18 = 0 then
    (some μ17)
    else
    ((gR μ17 a1 2 1).bind fun v19 =>
    ((gR μ17 v19 1 10).bind fun v20 =>
    ((gR μ17 a1 2 1).bind fun v21 =>
    ((gI μ17 v21 1 9).bind fun v22 =>
    ((sI μ17 v20 0 v22 x4).bind fun μ23 =>
    ((gR μ23 a1 2 1).bind fun v24 =>
    ((gR μ23 v24 1 11).bind fun v25 =>
    ((gR μ23 a1 2 1).bind fun v26 =>
    ((gI μ23 v26 1 9).bind fun v27 =>
    ((sI μ23 v25 0 v27 x7).bind fun μ28 =>
    ((gR μ28 a1 2 1).bind fun v29 =>
    ((gR μ28 v29 1 12).bind fun v30 =>
    ((gR μ28 a1 2 1).bind fun v31 =>
    ((gI μ28 v31 1 9).bind fun v32 =>
    ((sI μ28 v30 0 v32 x11).bind fun μ33 =>
    ((gR μ33 a1 2 1).bind fun v34 =>
    ((gR μ33 v34 1 13).bind fun v35 =>
    ((gR μ33 a1 2 1).bind fun v36 =>
    ((gI μ33 v36 1 9).bind fun v37 =>
    ((sI μ33 v35 0 v37 x15).bind fun μ38 =>
    ((gR μ38 a1 2 1).bind fun v39 =>
    ((gI μ38 v39 1 9).bind fun v40 =>
    ((pV μ38 v39 1 9 (.int (v40 + (1 : Int32)))).bind fun μ41 =>
    (some μ41))))))))))))))))))))))))))))))))))))))))))
set_option maxHeartbeats 4000000 in
set_option maxRecDepth 100000 in
theorem f_X2_readThing_ok {l : Launch} {G : GG} {μ0 : Mm} {a1 : Nat} {μ' : Mm} (hf : f_X2_readThing μ0 a1 = some μ') : EvM l G D_X2_readThing yX2_readThing cX2_readThing 5 none [.ref a1] μ0 none μ' := by
  show Ev l G D_X2_readThing yX2_readThing cX2_readThing 5 none 0 [(0, .ref a1)] [] μ0 none μ'
  unfold f_X2_readThing at hf
  refine E_aload_n (pc := 0) dX2_readThing_0 rfl ?_
  refine E_Vi (pc := 1) (d2 := D_X2_readCell) (ci := 2) [] dX2_readThing_1 ml_X2_135 mf_X2_readCell im_X2_readCell rfl rfl rfl (by decide) (Nat.le_of_ble_eq_true rfl) (Nat.le_of_ble_eq_true rfl) rfl (fun _ _ h => f_X2_readCell_ok h) hf (fun v3 μ2 hf => ?_)
  refine E_istore_n (pc := 4) (ls' := fun x4 => [(1, .int x4), (0, .ref a1)]) dX2_readThing_4 (by decide) (fun _ => rfl) hf (fun x4 hf => ?_)
  refine E_aload_n (pc := 5) dX2_readThing_5 rfl ?_
  refine E_Vi (pc := 6) (d2 := D_X2_readOwner) (ci := 2) [] dX2_readThing_6 ml_X2_144 mf_X2_readOwner im_X2_readOwner rfl rfl rfl (by decide) (Nat.le_of_ble_eq_true rfl) (Nat.le_of_ble_eq_true rfl) rfl (fun _ _ h => f_X2_readOwner_ok h) hf (fun v6 μ5 hf => ?_)
  refine E_istore_n (pc := 9) (ls' := fun x7 => [(2, .int x7), (1, .int x4), (0, .ref a1)]) dX2_readThing_9 (by decide) (fun _ => rfl) hf (fun x7 hf => ?_)
  refine E_aload_n (pc := 10) dX2_readThing_10 rfl ?_
  refine E_getR (pc := 11) dX2_readThing_11 fl_X2_22 hf (fun v8 hf => ?_)
  refine E_iconst (pc := 14) (v := (1 : Int32)) dX2_readThing_14 (by decide) ?_
  refine E_bipush (pc := 15) (v := (30 : Int32)) dX2_readThing_15 (by decide) ?_
  refine E_Vi (pc := 17) (d2 := D_X9_readNumber) (ci := 9) [.int (1 : Int32), .int (30 : Int32)] dX2_readThing_17 ml_X2_111 mf_X9_readNumber im_X9_readNumber rfl rfl rfl (by decide) (Nat.le_of_ble_eq_true rfl) (Nat.le_of_ble_eq_true rfl) rfl (fun _ _ h => f_X9_readNumber_ok h) hf (fun v10 μ9 hf => ?_)
  refine E_istore_n (pc := 20) (ls' := fun x11 => [(3, .int x11), (2, .int x7), (1, .int x4), (0, .ref a1)]) dX2_readThing_20 (by decide) (fun _ => rfl) hf (fun x11 hf => ?_)
  refine E_aload_n (pc := 21) dX2_readThing_21 rfl ?_
  refine E_getR (pc := 22) dX2_readThing_22 fl_X2_22 hf (fun v12 hf => ?_)
  refine E_iconst (pc := 25) (v := (0 : Int32)) dX2_readThing_25 (by decide) ?_
  refine E_bipush (pc := 26) (v := (60 : Int32)) dX2_readThing_26 (by decide) ?_
  refine E_Vi (pc := 28) (d2 := D_X9_readNumber) (ci := 9) [.int (0 : Int32), .int (60 : Int32)] dX2_readThing_28 ml_X2_111 mf_X9_readNumber im_X9_readNumber rfl rfl rfl (by decide) (Nat.le_of_ble_eq_true rfl) (Nat.le_of_ble_eq_true rfl) rfl (fun _ _ h => f_X9_readNumber_ok h) hf (fun v14 μ13 hf => ?_)
  refine E_istore (pc := 31) (ls' := fun x15 => [(4, .int x15), (3, .int x11), (2, .int x7), (1, .int x4), (0, .ref a1)]) dX2_readThing_31 (by decide) (fun _ => rfl) hf (fun x15 hf => ?_)
  refine E_aload_n (pc := 33) dX2_readThing_33 rfl ?_
  refine E_getR (pc := 34) dX2_readThing_34 fl_X2_22 hf (fun v16 hf => ?_)
  refine E_Vi (pc := 37) (d2 := D_X9_isSound) (ci := 9) [] dX2_readThing_37 ml_X2_35 mf_X9_isSound im_X9_isSound rfl rfl rfl (by decide) (Nat.le_of_ble_eq_true rfl) (Nat.le_of_ble_eq_true rfl) rfl (fun _ _ h => f_X9_isSound_ok h) hf (fun v18 μ17 hf => ?_)
  refine E_if_eq (pc := 40) (tgt := 121) dX2_readThing_40 (by decide) hf (fun hf => ?_) (fun hf => ?_)
  · exact E_vret (pc := 121) dX2_readThing_121 rfl hf
  · refine E_aload_n (pc := 43) dX2_readThing_43 rfl ?_
    refine E_getR (pc := 44) dX2_readThing_44 fl_X2_12 hf (fun v19 hf => ?_)
    refine E_getR (pc := 47) dX2_readThing_47 fl_X2_147 hf (fun v20 hf => ?_)
    refine E_aload_n (pc := 50) dX2_readThing_50 rfl ?_
    refine E_getR (pc := 51) dX2_readThing_51 fl_X2_12 hf (fun v21 hf => ?_)
    refine E_getI (pc := 54) dX2_readThing_54 fl_X2_99 hf (fun v22 hf => ?_)
    refine E_iload_n (pc := 57) dX2_readThing_57 rfl ?_
    refine E_iast (pc := 58) dX2_readThing_58 hf (fun μ23 hf => ?_)
    refine E_aload_n (pc := 59) dX2_readThing_59 rfl ?_
    refine E_getR (pc := 60) dX2_readThing_60 fl_X2_12 hf (fun v24 hf => ?_)
    refine E_getR (pc := 63) dX2_readThing_63 fl_X2_150 hf (fun v25 hf => ?_)
    refine E_aload_n (pc := 66) dX2_readThing_66 rfl ?_
    refine E_getR (pc := 67) dX2_readThing_67 fl_X2_12 hf (fun v26 hf => ?_)
    refine E_getI (pc := 70) dX2_readThing_70 fl_X2_99 hf (fun v27 hf => ?_)
    refine E_iload_n (pc := 73) dX2_readThing_73 rfl ?_
    refine E_iast (pc := 74) dX2_readThing_74 hf (fun μ28 hf => ?_)
    refine E_aload_n (pc := 75) dX2_readThing_75 rfl ?_
    refine E_getR (pc := 76) dX2_readThing_76 fl_X2_12 hf (fun v29 hf => ?_)
    refine E_getR (pc := 79) dX2_readThing_79 fl_X2_153 hf (fun v30 hf => ?_)
    refine E_aload_n (pc := 82) dX2_readThing_82 rfl ?_
    refine E_getR (pc := 83) dX2_readThing_83 fl_X2_12 hf (fun v31 hf => ?_)
    refine E_getI (pc := 86) dX2_readThing_86 fl_X2_99 hf (fun v32 hf => ?_)
    refine E_iload_n (pc := 89) dX2_readThing_89 rfl ?_
    refine E_iast (pc := 90) dX2_readThing_90 hf (fun μ33 hf => ?_)
    refine E_aload_n (pc := 91) dX2_readThing_91 rfl ?_
    refine E_getR (pc := 92) dX2_readThing_92 fl_X2_12 hf (fun v34 hf => ?_)
    refine E_getR (pc := 95) dX2_readThing_95 fl_X2_156 hf (fun v35 hf => ?_)
    refine E_aload_n (pc := 98) dX2_readThing_98 rfl ?_
    refine E_getR (pc := 99) dX2_readThing_99 fl_X2_12 hf (fun v36 hf => ?_)
    refine E_getI (pc := 102) dX2_readThing_102 fl_X2_99 hf (fun v37 hf => ?_)
    refine E_iload (pc := 105) dX2_readThing_105 rfl ?_
    refine E_iast (pc := 107) dX2_readThing_107 hf (fun μ38 hf => ?_)
    refine E_aload_n (pc := 108) dX2_readThing_108 rfl ?_
    refine E_getR (pc := 109) dX2_readThing_109 fl_X2_12 hf (fun v39 hf => ?_)
    refine E_dup (pc := 112) dX2_readThing_112 rfl ?_
    refine E_getI (pc := 113) dX2_readThing_113 fl_X2_99 hf (fun v40 hf => ?_)
    refine E_iconst (pc := 116) (v := (1 : Int32)) dX2_readThing_116 (by decide) ?_
    refine E_iadd (pc := 117) dX2_readThing_117 ?_
    refine E_putI (pc := 118) dX2_readThing_118 (pl_X2_99 _) hf (fun μ41 hf => ?_)
    exact E_vret (pc := 121) dX2_readThing_121 rfl hf
theorem dX2_readClause_0 : decode cX2_readClause 0 = .ok (.aload_n 0, 1) := by decide +kernel
theorem dX2_readClause_1 : decode cX2_readClause 1 = .ok (.getfield 22, 3) := by decide +kernel
theorem dX2_readClause_4 : decode cX2_readClause 4 = .ok (.invokevirtual 54, 3) := by decide +kernel
theorem dX2_readClause_7 : decode cX2_readClause 7 = .ok (.istore_n 2, 1) := by decide +kernel
theorem dX2_readClause_8 : decode cX2_readClause 8 = .ok (.aload_n 0, 1) := by decide +kernel
theorem dX2_readClause_9 : decode cX2_readClause 9 = .ok (.getfield 22, 3) := by decide +kernel
theorem dX2_readClause_12 : decode cX2_readClause 12 = .ok (.ldc 58, 2) := by decide +kernel
theorem dX2_readClause_14 : decode cX2_readClause 14 = .ok (.invokevirtual 60, 3) := by decide +kernel
theorem dX2_readClause_17 : decode cX2_readClause 17 = .ok (.istore_n 3, 1) := by decide +kernel
theorem dX2_readClause_18 : decode cX2_readClause 18 = .ok (.iload_n 3, 1) := by decide +kernel
theorem dX2_readClause_19 : decode cX2_readClause 19 = .ok (.iconst (-1), 1) := by decide +kernel
theorem dX2_readClause_20 : decode cX2_readClause 20 = .ok (.if_icmp .ne 13, 3) := by decide +kernel
theorem dX2_readClause_23 : decode cX2_readClause 23 = .ok (.aload_n 0, 1) := by decide +kernel
theorem dX2_readClause_24 : decode cX2_readClause 24 = .ok (.getfield 22, 3) := by decide +kernel
theorem dX2_readClause_27 : decode cX2_readClause 27 = .ok (.iload_n 2, 1) := by decide +kernel
theorem dX2_readClause_28 : decode cX2_readClause 28 = .ok (.iconst 0, 1) := by decide +kernel
theorem dX2_readClause_29 : decode cX2_readClause 29 = .ok (.invokevirtual 64, 3) := by decide +kernel
theorem dX2_readClause_32 : decode cX2_readClause 32 = .ok (.return_, 1) := by decide +kernel
theorem dX2_readClause_33 : decode cX2_readClause 33 = .ok (.iload_n 1, 1) := by decide +kernel
theorem dX2_readClause_34 : decode cX2_readClause 34 = .ok (.ifCond .ne 7, 3) := by decide +kernel
theorem dX2_readClause_37 : decode cX2_readClause 37 = .ok (.iconst 1, 1) := by decide +kernel
theorem dX2_readClause_38 : decode cX2_readClause 38 = .ok (.goto 4, 3) := by decide +kernel
theorem dX2_readClause_41 : decode cX2_readClause 41 = .ok (.iconst 0, 1) := by decide +kernel
theorem dX2_readClause_42 : decode cX2_readClause 42 = .ok (.iload_n 3, 1) := by decide +kernel
theorem dX2_readClause_43 : decode cX2_readClause 43 = .ok (.ifCond .ne 7, 3) := by decide +kernel
theorem dX2_readClause_46 : decode cX2_readClause 46 = .ok (.iconst 1, 1) := by decide +kernel
theorem dX2_readClause_47 : decode cX2_readClause 47 = .ok (.goto 4, 3) := by decide +kernel
theorem dX2_readClause_50 : decode cX2_readClause 50 = .ok (.iconst 0, 1) := by decide +kernel
theorem dX2_readClause_51 : decode cX2_readClause 51 = .ok (.if_icmp .eq 7, 3) := by decide +kernel
theorem dX2_readClause_54 : decode cX2_readClause 54 = .ok (.iconst 1, 1) := by decide +kernel
theorem dX2_readClause_55 : decode cX2_readClause 55 = .ok (.goto 4, 3) := by decide +kernel
theorem dX2_readClause_58 : decode cX2_readClause 58 = .ok (.iconst 0, 1) := by decide +kernel
theorem dX2_readClause_59 : decode cX2_readClause 59 = .ok (.istore 4, 2) := by decide +kernel
theorem dX2_readClause_61 : decode cX2_readClause 61 = .ok (.iload 4, 2) := by decide +kernel
theorem dX2_readClause_63 : decode cX2_readClause 63 = .ok (.ifCond .ne 17, 3) := by decide +kernel
theorem dX2_readClause_66 : decode cX2_readClause 66 = .ok (.iload_n 1, 1) := by decide +kernel
theorem dX2_readClause_67 : decode cX2_readClause 67 = .ok (.bipush 40, 2) := by decide +kernel
theorem dX2_readClause_69 : decode cX2_readClause 69 = .ok (.if_icmp .ge 11, 3) := by decide +kernel
theorem dX2_readClause_72 : decode cX2_readClause 72 = .ok (.aload_n 0, 1) := by decide +kernel
theorem dX2_readClause_73 : decode cX2_readClause 73 = .ok (.iload_n 3, 1) := by decide +kernel
theorem dX2_readClause_74 : decode cX2_readClause 74 = .ok (.invokevirtual 68, 3) := by decide +kernel
theorem dX2_readClause_77 : decode cX2_readClause 77 = .ok (.ifCond .eq 13, 3) := by decide +kernel
theorem dX2_readClause_80 : decode cX2_readClause 80 = .ok (.aload_n 0, 1) := by decide +kernel
theorem dX2_readClause_81 : decode cX2_readClause 81 = .ok (.getfield 22, 3) := by decide +kernel
theorem dX2_readClause_84 : decode cX2_readClause 84 = .ok (.iload_n 2, 1) := by decide +kernel
theorem dX2_readClause_85 : decode cX2_readClause 85 = .ok (.iconst 4, 1) := by decide +kernel
theorem dX2_readClause_86 : decode cX2_readClause 86 = .ok (.invokevirtual 64, 3) := by decide +kernel
theorem dX2_readClause_89 : decode cX2_readClause 89 = .ok (.return_, 1) := by decide +kernel
theorem dX2_readClause_90 : decode cX2_readClause 90 = .ok (.iload_n 3, 1) := by decide +kernel
theorem dX2_readClause_91 : decode cX2_readClause 91 = .ok (.tableswitch 79 0 5 #[37, 44, 51, 58, 65, 72], 37) := by decide +kernel
theorem dX2_readClause_128 : decode cX2_readClause 128 = .ok (.aload_n 0, 1) := by decide +kernel
theorem dX2_readClause_129 : decode cX2_readClause 129 = .ok (.invokevirtual 72, 3) := by decide +kernel
theorem dX2_readClause_132 : decode cX2_readClause 132 = .ok (.goto 42, 3) := by decide +kernel
theorem dX2_readClause_135 : decode cX2_readClause 135 = .ok (.aload_n 0, 1) := by decide +kernel
theorem dX2_readClause_136 : decode cX2_readClause 136 = .ok (.invokevirtual 75, 3) := by decide +kernel
theorem dX2_readClause_139 : decode cX2_readClause 139 = .ok (.goto 35, 3) := by decide +kernel
theorem dX2_readClause_142 : decode cX2_readClause 142 = .ok (.aload_n 0, 1) := by decide +kernel
theorem dX2_readClause_143 : decode cX2_readClause 143 = .ok (.invokevirtual 78, 3) := by decide +kernel
theorem dX2_readClause_146 : decode cX2_readClause 146 = .ok (.goto 28, 3) := by decide +kernel
theorem dX2_readClause_149 : decode cX2_readClause 149 = .ok (.aload_n 0, 1) := by decide +kernel
theorem dX2_readClause_150 : decode cX2_readClause 150 = .ok (.invokevirtual 81, 3) := by decide +kernel
theorem dX2_readClause_153 : decode cX2_readClause 153 = .ok (.goto 21, 3) := by decide +kernel
theorem dX2_readClause_156 : decode cX2_readClause 156 = .ok (.aload_n 0, 1) := by decide +kernel
theorem dX2_readClause_157 : decode cX2_readClause 157 = .ok (.invokevirtual 84, 3) := by decide +kernel
theorem dX2_readClause_160 : decode cX2_readClause 160 = .ok (.goto 14, 3) := by decide +kernel
theorem dX2_readClause_163 : decode cX2_readClause 163 = .ok (.aload_n 0, 1) := by decide +kernel
theorem dX2_readClause_164 : decode cX2_readClause 164 = .ok (.invokevirtual 87, 3) := by decide +kernel
theorem dX2_readClause_167 : decode cX2_readClause 167 = .ok (.goto 7, 3) := by decide +kernel
theorem dX2_readClause_170 : decode cX2_readClause 170 = .ok (.aload_n 0, 1) := by decide +kernel
theorem dX2_readClause_171 : decode cX2_readClause 171 = .ok (.invokevirtual 90, 3) := by decide +kernel
theorem dX2_readClause_174 : decode cX2_readClause 174 = .ok (.return_, 1) := by decide +kernel
abbrev D_X2_readClause : Nat := 8
set_option maxRecDepth 100000 in
def f_X2_readClause (μ0 : Mm) (a1 : Nat) (x2 : Int32) : Option Mm :=
 ((gR μ0 a1 2 0).bind fun v3 =>
    ((ob μ0 v3 9).bind fun _ =>
    (bd (f_X9_skipBlanks μ0 v3) fun v5 μ4 =>
    (nm v5 fun x6 =>
    ((gR μ4 a1 2 0).bind fun v7 =>
    ((ob μ4 v7 9).bind fun _ =>
    (bd (f_X9_takeWord μ4 v7 (0 : Nat)) fun v9 μ8 =>
    (nm v9 fun x10 =>
    (if x10 = (-1 : Int32) then
    ((gR μ8 a1 2 0).bind fun v11 =>
    ((ob μ8 v11 9).bind fun _ =>
    ((f_X9_fail μ8 v11 x6 (0 : Int32)).bind fun μ12 =>
    (some μ12))))
    else
    (if x2 = 0 then
    (if x10 = 0 then
    (if (1 : Int32) = (1 : Int32) then
    (nm (0 : Int32) fun x13 =>
    (if x13 = 0 then
    (if (40 : Int32) ≤ x2 then
    ((gR μ8 a1 2 0).bind fun v14 =>
    ((ob μ8 v14 9).bind fun _ =>
    ((f_X9_fail μ8 v14 x6 (4 : Int32)).bind fun μ15 =>
    (some μ15))))
    else
    ((ob μ8 a1 2).bind fun _ =>
    (bd (f_X2_isFull μ8 a1 x10) fun v17 μ16 =>
    (if v17 = 0 then
    (if x10 = (0 : Int32) then
    ((ob μ16 a1 2).bind fun _ =>
    ((f_X2_readSize μ16 a1).bind fun μ24 =>
    (some μ24)))
    else
    (if x10 = (1 : Int32) then
    ((ob μ16 a1 2).bind fun _ =>
    ((f_X2_readRow μ16 a1).bind fun μ23 =>
    (some μ23)))
    else
    (if x10 = (2 : Int32) then
    ((ob μ16 a1 2).bind fun _ =>
    ((f_X2_readPerson μ16 a1).bind fun μ22 =>
    (some μ22)))
    else
    (if x10 = (3 : Int32) then
    ((ob μ16 a1 2).bind fun _ =>
    ((f_X2_readThing μ16 a1).bind fun μ21 =>
    (some μ21)))
    else
    (if x10 = (4 : Int32) then
    ((ob μ16 a1 2).bind fun _ =>
    ((f_X2_readNet μ16 a1).bind fun μ20 =>
    (some μ20)))
    else
    (if x10 = (5 : Int32) then
    ((ob μ16 a1 2).bind fun _ =>
    ((f_X2_readLesson μ16 a1).bind fun μ19 =>
    (some μ19)))
    else
    ((ob μ16 a1 2).bind fun _ =>
    ((f_X2_readAfter μ16 a1).bind fun μ18 =>
    (some μ18)))))))))
    else
    ((gR μ16 a1 2 0).bind fun v25 =>
    ((ob μ16 v25 9).bind fun _ =>
    ((f_X9_fail μ16 v25 x6 (4 : Int32)).bind fun μ26 =>
    (some μ26))))))))
    else
    ((gR μ8 a1 2 0).bind fun v27 =>
    ((ob μ8 v27 9).bind fun _ =>
    ((f_X9_fail μ8 v27 x6 (4 : Int32)).bind fun μ28 =>
    (some μ28))))))
    else
    (nm (1 : Int32) fun x29 =>
    (if x29 = 0 then
    (if (40 : Int32) ≤ x2 then
    ((gR μ8 a1 2 0).bind fun v30 =>
    ((ob μ8 v30 9).bind fun _ =>
    ((f_X9_fail μ8 v30 x6 (4 : Int32)).bind fun μ31 =>
    (some μ31))))
    else
    ((ob μ8 a1 2).bind fun _ =>
    (bd (f_X2_isFull μ8 a1 x10) fun v33 μ32 =>
    (if v33 = 0 then
    (if x10 = (0 : Int32) then
    ((ob μ32 a1 2).bind fun _ =>
    ((f_X2_readSize μ32 a1).bind fun μ40 =>
    (some μ40)))
    else
    (if x10 = (1 : Int32) then
    ((ob μ32 a1 2).bind fun _ =>
    ((f_X2_readRow μ32 a1).bind fun μ39 =>
    (some μ39)))
    else
    (if x10 = (2 : Int32) then
    ((ob μ32 a1 2).bind fun _ =>
    ((f_X2_readPerson μ32 a1).bind fun μ38 =>
    (some μ38)))
    else
    (if x10 = (3 : Int32) then
    ((ob μ32 a1 2).bind fun _ =>
    ((f_X2_readThing μ32 a1).bind fun μ37 =>
    (some μ37)))
    else
    (if x10 = (4 : Int32) then
    ((ob μ32 a1 2).bind fun _ =>
    ((f_X2_readNet μ32 a1).bind fun μ36 =>
    (some μ36)))
    else
    (if x10 = (5 : Int32) then
    ((ob μ32 a1 2).bind fun _ =>
    ((f_X2_readLesson μ32 a1).bind fun μ35 =>
    (some μ35)))
    else
    ((ob μ32 a1 2).bind fun _ =>
    ((f_X2_readAfter μ32 a1).bind fun μ34 =>
    (some μ34)))))))))
    else
    ((gR μ32 a1 2 0).bind fun v41 =>
    ((ob μ32 v41 9).bind fun _ =>
    ((f_X9_fail μ32 v41 x6 (4 : Int32)).bind fun μ42 =>
    (some μ42))))))))
    else
    ((gR μ8 a1 2 0).bind fun v43 =>
    ((ob μ8 v43 9).bind fun _ =>
    ((f_X9_fail μ8 v43 x6 (4 : Int32)).bind fun μ44 =>
    (some μ44)))))))
    else
    (if (1 : Int32) = (0 : Int32) then
    (nm (0 : Int32) fun x45 =>
    (if x45 = 0 then
    (if (40 : Int32) ≤ x2 then
    ((gR μ8 a1 2 0).bind fun v46 =>
    ((ob μ8 v46 9).bind fun _ =>
    ((f_X9_fail μ8 v46 x6 (4 : Int32)).bind fun μ47 =>
    (some μ47))))
    else
    ((ob μ8 a1 2).bind fun _ =>
    (bd (f_X2_isFull μ8 a1 x10) fun v49 μ48 =>
    (if v49 = 0 then
    (if x10 = (0 : Int32) then
    ((ob μ48 a1 2).bind fun _ =>
    ((f_X2_readSize μ48 a1).bind fun μ56 =>
    (some μ56)))
    else
    (if x10 = (1 : Int32) then
    ((ob μ48 a1 2).bind fun _ =>
    ((f_X2_readRow μ48 a1).bind fun μ55 =>
    (some μ55)))
    else
    (if x10 = (2 : Int32) then
    ((ob μ48 a1 2).bind fun _ =>
    ((f_X2_readPerson μ48 a1).bind fun μ54 =>
    (some μ54)))
    else
    (if x10 = (3 : Int32) then
    ((ob μ48 a1 2).bind fun _ =>
    ((f_X2_readThing μ48 a1).bind fun μ53 =>
    (some μ53)))
    else
    (if x10 = (4 : Int32) then
    ((ob μ48 a1 2).bind fun _ =>
    ((f_X2_readNet μ48 a1).bind fun μ52 =>
    (some μ52)))
    else
    (if x10 = (5 : Int32) then
    ((ob μ48 a1 2).bind fun _ =>
    ((f_X2_readLesson μ48 a1).bind fun μ51 =>
    (some μ51)))
    else
    ((ob μ48 a1 2).bind fun _ =>
    ((f_X2_readAfter μ48 a1).bind fun μ50 =>
    (some μ50)))))))))
    else
    ((gR μ48 a1 2 0).bind fun v57 =>
    ((ob μ48 v57 9).bind fun _ =>
    ((f_X9_fail μ48 v57 x6 (4 : Int32)).bind fun μ58 =>
    (some μ58))))))))
    else
    ((gR μ8 a1 2 0).bind fun v59 =>
    ((ob μ8 v59 9).bind fun _ =>
    ((f_X9_fail μ8 v59 x6 (4 : Int32)).bind fun μ60 =>
    (some μ60))))))
    else
    (nm (1 : Int32) fun x61 =>
    (if x61 = 0 then
    (if (40 : Int32) ≤ x2 then
    ((gR μ8 a1 2 0).bind fun v62 =>
    ((ob μ8 v62 9).bind fun _ =>
    ((f_X9_fail μ8 v62 x6 (4 : Int32)).bind fun μ63 =>
    (some μ63))))
    else
    ((ob μ8 a1 2).bind fun _ =>
    (bd (f_X2_isFull μ8 a1 x10) fun v65 μ64 =>
    (if v65 = 0 then
    (if x10 = (0 : Int32) then
    ((ob μ64 a1 2).bind fun _ =>
    ((f_X2_readSize μ64 a1).bind fun μ72 =>
    (some μ72)))
    else
    (if x10 = (1 : Int32) then
    ((ob μ64 a1 2).bind fun _ =>
    ((f_X2_readRow μ64 a1).bind fun μ71 =>
    (some μ71)))
    else
    (if x10 = (2 : Int32) then
    ((ob μ64 a1 2).bind fun _ =>
    ((f_X2_readPerson μ64 a1).bind fun μ70 =>
    (some μ70)))
    else
    (if x10 = (3 : Int32) then
    ((ob μ64 a1 2).bind fun _ =>
    ((f_X2_readThing μ64 a1).bind fun μ69 =>
    (some μ69)))
    else
    (if x10 = (4 : Int32) then
    ((ob μ64 a1 2).bind fun _ =>
    ((f_X2_readNet μ64 a1).bind fun μ68 =>
    (some μ68)))
    else
    (if x10 = (5 : Int32) then
    ((ob μ64 a1 2).bind fun _ =>
    ((f_X2_readLesson μ64 a1).bind fun μ67 =>
    (some μ67)))
    else
    ((ob μ64 a1 2).bind fun _ =>
    ((f_X2_readAfter μ64 a1).bind fun μ66 =>
    (some μ66)))))))))
    else
    ((gR μ64 a1 2 0).bind fun v73 =>
    ((ob μ64 v73 9).bind fun _ =>
    ((f_X9_fail μ64 v73 x6 (4 : Int32)).bind fun μ74 =>
    (some μ74))))))))
    else
    ((gR μ8 a1 2 0).bind fun v75 =>
    ((ob μ8 v75 9).bind fun _ =>
    ((f_X9_fail μ8 v75 x6 (4 : Int32)).bind fun μ76 =>
    (some μ76))))))))
    else
    (if x10 = 0 then
    (if (0 : Int32) = (1 : Int32) then
    (nm (0 : Int32) fun x77 =>
    (if x77 = 0 then
    (if (40 : Int32) ≤ x2 then
    ((gR μ8 a1 2 0).bind fun v78 =>
    ((ob μ8 v78 9).bind fun _ =>
    ((f_X9_fail μ8 v78 x6 (4 : Int32)).bind fun μ79 =>
    (some μ79))))
    else
    ((ob μ8 a1 2).bind fun _ =>
    (bd (f_X2_isFull μ8 a1 x10) fun v81 μ80 =>
    (if v81 = 0 then
    (if x10 = (0 : Int32) then
    ((ob μ80 a1 2).bind fun _ =>
    ((f_X2_readSize μ80 a1).bind fun μ88 =>
    (some μ88)))
    else
    (if x10 = (1 : Int32) then
    ((ob μ80 a1 2).bind fun _ =>
    ((f_X2_readRow μ80 a1).bind fun μ87 =>
    (some μ87)))
    else
    (if x10 = (2 : Int32) then
    ((ob μ80 a1 2).bind fun _ =>
    ((f_X2_readPerson μ80 a1).bind fun μ86 =>
    (some μ86)))
    else
    (if x10 = (3 : Int32) then
    ((ob μ80 a1 2).bind fun _ =>
    ((f_X2_readThing μ80 a1).bind fun μ85 =>
    (some μ85)))
    else
    (if x10 = (4 : Int32) then
    ((ob μ80 a1 2).bind fun _ =>
    ((f_X2_readNet μ80 a1).bind fun μ84 =>
    (some μ84)))
    else
    (if x10 = (5 : Int32) then
    ((ob μ80 a1 2).bind fun _ =>
    ((f_X2_readLesson μ80 a1).bind fun μ83 =>
    (some μ83)))
    else
    ((ob μ80 a1 2).bind fun _ =>
    ((f_X2_readAfter μ80 a1).bind fun μ82 =>
    (some μ82)))))))))
    else
    ((gR μ80 a1 2 0).bind fun v89 =>
    ((ob μ80 v89 9).bind fun _ =>
    ((f_X9_fail μ80 v89 x6 (4 : Int32)).bind fun μ90 =>
    (some μ90))))))))
    else
    ((gR μ8 a1 2 0).bind fun v91 =>
    ((ob μ8 v91 9).bind fun _ =>
    ((f_X9_fail μ8 v91 x6 (4 : Int32)).bind fun μ92 =>
    (some μ92))))))
    else
    (nm (1 : Int32) fun x93 =>
    (if x93 = 0 then
    (if (40 : Int32) ≤ x2 then
    ((gR μ8 a1 2 0).bind fun v94 =>
    ((ob μ8 v94 9).bind fun _ =>
    ((f_X9_fail μ8 v94 x6 (4 : Int32)).bind fun μ95 =>
    (some μ95))))
    else
    ((ob μ8 a1 2).bind fun _ =>
    (bd (f_X2_isFull μ8 a1 x10) fun v97 μ96 =>
    (if v97 = 0 then
    (if x10 = (0 : Int32) then
    ((ob μ96 a1 2).bind fun _ =>
    ((f_X2_readSize μ96 a1).bind fun μ104 =>
    (some μ104)))
    else
    (if x10 = (1 : Int32) then
    ((ob μ96 a1 2).bind fun _ =>
    ((f_X2_readRow μ96 a1).bind fun μ103 =>
    (some μ103)))
    else
    (if x10 = (2 : Int32) then
    ((ob μ96 a1 2).bind fun _ =>
    ((f_X2_readPerson μ96 a1).bind fun μ102 =>
    (some μ102)))
    else
    (if x10 = (3 : Int32) then
    ((ob μ96 a1 2).bind fun _ =>
    ((f_X2_readThing μ96 a1).bind fun μ101 =>
    (some μ101)))
    else
    (if x10 = (4 : Int32) then
    ((ob μ96 a1 2).bind fun _ =>
    ((f_X2_readNet μ96 a1).bind fun μ100 =>
    (some μ100)))
    else
    (if x10 = (5 : Int32) then
    ((ob μ96 a1 2).bind fun _ =>
    ((f_X2_readLesson μ96 a1).bind fun μ99 =>
    (some μ99)))
    else
    ((ob μ96 a1 2).bind fun _ =>
    ((f_X2_readAfter μ96 a1).bind fun μ98 =>
    (some μ98)))))))))
    else
    ((gR μ96 a1 2 0).bind fun v105 =>
    ((ob μ96 v105 9).bind fun _ =>
    ((f_X9_fail μ96 v105 x6 (4 : Int32)).bind fun μ106 =>
    (some μ106))))))))
    else
    ((gR μ8 a1 2 0).bind fun v107 =>
    ((ob μ8 v107 9).bind fun _ =>
    ((f_X9_fail μ8 v107 x6 (4 : Int32)).bind fun μ108 =>
    (some μ108)))))))
    else
    (if (0 : Int32) = (0 : Int32) then
    (nm (0 : Int32) fun x109 =>
    (if x109 = 0 then
    (if (40 : Int32) ≤ x2 then
    ((gR μ8 a1 2 0).bind fun v110 =>
    ((ob μ8 v110 9).bind fun _ =>
    ((f_X9_fail μ8 v110 x6 (4 : Int32)).bind fun μ111 =>
    (some μ111))))
    else
    ((ob μ8 a1 2).bind fun _ =>
    (bd (f_X2_isFull μ8 a1 x10) fun v113 μ112 =>
    (if v113 = 0 then
    (if x10 = (0 : Int32) then
    ((ob μ112 a1 2).bind fun _ =>
    ((f_X2_readSize μ112 a1).bind fun μ120 =>
    (some μ120)))
    else
    (if x10 = (1 : Int32) then
    ((ob μ112 a1 2).bind fun _ =>
    ((f_X2_readRow μ112 a1).bind fun μ119 =>
    (some μ119)))
    else
    (if x10 = (2 : Int32) then
    ((ob μ112 a1 2).bind fun _ =>
    ((f_X2_readPerson μ112 a1).bind fun μ118 =>
    (some μ118)))
    else
    (if x10 = (3 : Int32) then
    ((ob μ112 a1 2).bind fun _ =>
    ((f_X2_readThing μ112 a1).bind fun μ117 =>
    (some μ117)))
    else
    (if x10 = (4 : Int32) then
    ((ob μ112 a1 2).bind fun _ =>
    ((f_X2_readNet μ112 a1).bind fun μ116 =>
    (some μ116)))
    else
    (if x10 = (5 : Int32) then
    ((ob μ112 a1 2).bind fun _ =>
    ((f_X2_readLesson μ112 a1).bind fun μ115 =>
    (some μ115)))
    else
    ((ob μ112 a1 2).bind fun _ =>
    ((f_X2_readAfter μ112 a1).bind fun μ114 =>
    (some μ114)))))))))
    else
    ((gR μ112 a1 2 0).bind fun v121 =>
    ((ob μ112 v121 9).bind fun _ =>
    ((f_X9_fail μ112 v121 x6 (4 : Int32)).bind fun μ122 =>
    (some μ122))))))))
    else
    ((gR μ8 a1 2 0).bind fun v123 =>
    ((ob μ8 v123 9).bind fun _ =>
    ((f_X9_fail μ8 v123 x6 (4 : Int32)).bind fun μ124 =>
    (some μ124))))))
    else
    (nm (1 : Int32) fun x125 =>
    (if x125 = 0 then
    (if (40 : Int32) ≤ x2 then
    ((gR μ8 a1 2 0).bind fun v126 =>
    ((ob μ8 v126 9).bind fun _ =>
    ((f_X9_fail μ8 v126 x6 (4 : Int32)).bind fun μ127 =>
    (some μ127))))
    else
    ((ob μ8 a1 2).bind fun _ =>
    (bd (f_X2_isFull μ8 a1 x10) fun v129 μ128 =>
    (if v129 = 0 then
    (if x10 = (0 : Int32) then
    ((ob μ128 a1 2).bind fun _ =>
    ((f_X2_readSize μ128 a1).bind fun μ136 =>
    (some μ136)))
    else
    (if x10 = (1 : Int32) then
    ((ob μ128 a1 2).bind fun _ =>
    ((f_X2_readRow μ128 a1).bind fun μ135 =>
    (some μ135)))
    else
    (if x10 = (2 : Int32) then
    ((ob μ128 a1 2).bind fun _ =>
    ((f_X2_readPerson μ128 a1).bind fun μ134 =>
    (some μ134)))
    else
    (if x10 = (3 : Int32) then
    ((ob μ128 a1 2).bind fun _ =>
    ((f_X2_readThing μ128 a1).bind fun μ133 =>
    (some μ133)))
    else
    (if x10 = (4 : Int32) then
    ((ob μ128 a1 2).bind fun _ =>
    ((f_X2_readNet μ128 a1).bind fun μ132 =>
    (some μ132)))
    else
    (if x10 = (5 : Int32) then
    ((ob μ128 a1 2).bind fun _ =>
    ((f_X2_readLesson μ128 a1).bind fun μ131 =>
    (some μ131)))
    else
    ((ob μ128 a1 2).bind fun _ =>
    ((f_X2_readAfter μ128 a1).bind fun μ130 =>
    (some μ130)))))))))
    else
    ((gR μ128 a1 2 0).bind fun v137 =>
    ((ob μ128 v137 9).bind fun _ =>
    ((f_X9_fail μ128 v137 x6 (4 : Int32)).bind fun μ138 =>
    (some μ138))))))))
    else
    ((gR μ8 a1 2 0).bind fun v139 =>
    ((ob μ8 v139 9).bind fun _ =>
    ((f_X9_fail μ8 v139 x6 (4 : Int32)).bind fun μ140 =>
    (some μ140))))))))))))))))))
set_option maxHeartbeats 4000000 in
set_option maxRecDepth 100000 in
theorem f_X2_readClause_ok {l : Launch} {G : GG} {μ0 : Mm} {a1 : Nat} {x2 : Int32} {μ' : Mm} (hf : f_X2_readClause μ0 a1 x2 = some μ') : EvM l G D_X2_readClause yX2_readClause cX2_readClause 5 none [.ref a1, .int x2] μ0 none μ' := by
  show Ev l G D_X2_readClause yX2_readClause cX2_readClause 5 none 0 [(0, .ref a1), (1, .int x2)] [] μ0 none μ'
  unfold f_X2_readClause at hf
  refine E_aload_n (pc := 0) dX2_readClause_0 rfl ?_
  refine E_getR (pc := 1) dX2_readClause_1 fl_X2_22 hf (fun v3 hf => ?_)
  refine E_Vi (pc := 4) (d2 := D_X9_skipBlanks) (ci := 9) [] dX2_readClause_4 ml_X2_54 mf_X9_skipBlanks im_X9_skipBlanks rfl rfl rfl (by decide) (Nat.le_of_ble_eq_true rfl) (Nat.le_of_ble_eq_true rfl) rfl (fun _ _ h => f_X9_skipBlanks_ok h) hf (fun v5 μ4 hf => ?_)
  refine E_istore_n (pc := 7) (ls' := fun x6 => [(2, .int x6), (0, .ref a1), (1, .int x2)]) dX2_readClause_7 (by decide) (fun _ => rfl) hf (fun x6 hf => ?_)
  refine E_aload_n (pc := 8) dX2_readClause_8 rfl ?_
  refine E_getR (pc := 9) dX2_readClause_9 fl_X2_22 hf (fun v7 hf => ?_)
  refine E_ldcS (pc := 12) (0 : Nat) dX2_readClause_12 (by decide) ⟨rfl, rfl⟩ ?_
  refine E_Vi (pc := 14) (d2 := D_X9_takeWord) (ci := 9) [.ref (0 : Nat)] dX2_readClause_14 ml_X2_60 mf_X9_takeWord im_X9_takeWord rfl rfl rfl (by decide) (Nat.le_of_ble_eq_true rfl) (Nat.le_of_ble_eq_true rfl) rfl (fun _ _ h => f_X9_takeWord_ok h) hf (fun v9 μ8 hf => ?_)
  refine E_istore_n (pc := 17) (ls' := fun x10 => [(3, .int x10), (2, .int x6), (0, .ref a1), (1, .int x2)]) dX2_readClause_17 (by decide) (fun _ => rfl) hf (fun x10 hf => ?_)
  refine E_iload_n (pc := 18) dX2_readClause_18 rfl ?_
  refine E_iconst (pc := 19) (v := (-1 : Int32)) dX2_readClause_19 (by decide) ?_
  refine E_icmp_ne (pc := 20) (tgt := 33) dX2_readClause_20 (by decide) hf (fun hf => ?_) (fun hf => ?_)
  · refine E_aload_n (pc := 23) dX2_readClause_23 rfl ?_
    refine E_getR (pc := 24) dX2_readClause_24 fl_X2_22 hf (fun v11 hf => ?_)
    refine E_iload_n (pc := 27) dX2_readClause_27 rfl ?_
    refine E_iconst (pc := 28) (v := (0 : Int32)) dX2_readClause_28 (by decide) ?_
    refine E_Vv (pc := 29) (d2 := D_X9_fail) (ci := 9) [.int x6, .int (0 : Int32)] dX2_readClause_29 ml_X2_64 mf_X9_fail im_X9_fail rfl rfl rfl (by decide) (Nat.le_of_ble_eq_true rfl) (Nat.le_of_ble_eq_true rfl) rfl (fun _ h => f_X9_fail_ok h) hf (fun μ12 hf => ?_)
    exact E_vret (pc := 32) dX2_readClause_32 rfl hf
  · refine E_iload_n (pc := 33) dX2_readClause_33 rfl ?_
    refine E_if_ne (pc := 34) (tgt := 41) dX2_readClause_34 (by decide) hf (fun hf => ?_) (fun hf => ?_)
    · refine E_iconst (pc := 37) (v := (1 : Int32)) dX2_readClause_37 (by decide) ?_
      refine E_goto (pc := 38) (tgt := 42) dX2_readClause_38 (by decide) ?_
      refine E_iload_n (pc := 42) dX2_readClause_42 rfl ?_
      refine E_if_ne (pc := 43) (tgt := 50) dX2_readClause_43 (by decide) hf (fun hf => ?_) (fun hf => ?_)
      · refine E_iconst (pc := 46) (v := (1 : Int32)) dX2_readClause_46 (by decide) ?_
        refine E_goto (pc := 47) (tgt := 51) dX2_readClause_47 (by decide) ?_
        refine E_icmp_eq (pc := 51) (tgt := 58) dX2_readClause_51 (by decide) hf (fun hf => ?_) (fun hf => ?_)
        · refine E_iconst (pc := 58) (v := (0 : Int32)) dX2_readClause_58 (by decide) ?_
          refine E_istore (pc := 59) (ls' := fun x13 => [(4, .int x13), (3, .int x10), (2, .int x6), (0, .ref a1), (1, .int x2)]) dX2_readClause_59 (by decide) (fun _ => rfl) hf (fun x13 hf => ?_)
          refine E_iload (pc := 61) dX2_readClause_61 rfl ?_
          refine E_if_ne (pc := 63) (tgt := 80) dX2_readClause_63 (by decide) hf (fun hf => ?_) (fun hf => ?_)
          · refine E_iload_n (pc := 66) dX2_readClause_66 rfl ?_
            refine E_bipush (pc := 67) (v := (40 : Int32)) dX2_readClause_67 (by decide) ?_
            refine E_icmp_ge (pc := 69) (tgt := 80) dX2_readClause_69 (by decide) hf (fun hf => ?_) (fun hf => ?_)
            · refine E_aload_n (pc := 80) dX2_readClause_80 rfl ?_
              refine E_getR (pc := 81) dX2_readClause_81 fl_X2_22 hf (fun v14 hf => ?_)
              refine E_iload_n (pc := 84) dX2_readClause_84 rfl ?_
              refine E_iconst (pc := 85) (v := (4 : Int32)) dX2_readClause_85 (by decide) ?_
              refine E_Vv (pc := 86) (d2 := D_X9_fail) (ci := 9) [.int x6, .int (4 : Int32)] dX2_readClause_86 ml_X2_64 mf_X9_fail im_X9_fail rfl rfl rfl (by decide) (Nat.le_of_ble_eq_true rfl) (Nat.le_of_ble_eq_true rfl) rfl (fun _ h => f_X9_fail_ok h) hf (fun μ15 hf => ?_)
              exact E_vret (pc := 89) dX2_readClause_89 rfl hf
            · refine E_aload_n (pc := 72) dX2_readClause_72 rfl ?_
              refine E_iload_n (pc := 73) dX2_readClause_73 rfl ?_
              refine E_Vi (pc := 74) (d2 := D_X2_isFull) (ci := 2) [.int x10] dX2_readClause_74 ml_X2_68 mf_X2_isFull im_X2_isFull rfl rfl rfl (by decide) (Nat.le_of_ble_eq_true rfl) (Nat.le_of_ble_eq_true rfl) rfl (fun _ _ h => f_X2_isFull_ok h) hf (fun v17 μ16 hf => ?_)
              refine E_if_eq (pc := 77) (tgt := 90) dX2_readClause_77 (by decide) hf (fun hf => ?_) (fun hf => ?_)
              · refine E_iload_n (pc := 90) dX2_readClause_90 rfl ?_
                refine ifS hf (fun n91_0 hf => ?_) (fun n91_0 hf => ?_)
                · refine E_tswI (pc := 91) (tgt := 128) (0) dX2_readClause_91 (by rw [n91_0]; decide) (by decide) (by decide) rfl (by decide) ?_
                  refine E_aload_n (pc := 128) dX2_readClause_128 rfl ?_
                  refine E_Vv (pc := 129) (d2 := D_X2_readSize) (ci := 2) [] dX2_readClause_129 ml_X2_72 mf_X2_readSize im_X2_readSize rfl rfl rfl (by decide) (Nat.le_of_ble_eq_true rfl) (Nat.le_of_ble_eq_true rfl) rfl (fun _ h => f_X2_readSize_ok h) hf (fun μ24 hf => ?_)
                  refine E_goto (pc := 132) (tgt := 174) dX2_readClause_132 (by decide) ?_
                  exact E_vret (pc := 174) dX2_readClause_174 rfl hf
                · refine ifS hf (fun n91_1 hf => ?_) (fun n91_1 hf => ?_)
                  · refine E_tswI (pc := 91) (tgt := 135) (1) dX2_readClause_91 (by rw [n91_1]; decide) (by decide) (by decide) rfl (by decide) ?_
                    refine E_aload_n (pc := 135) dX2_readClause_135 rfl ?_
                    refine E_Vv (pc := 136) (d2 := D_X2_readRow) (ci := 2) [] dX2_readClause_136 ml_X2_75 mf_X2_readRow im_X2_readRow rfl rfl rfl (by decide) (Nat.le_of_ble_eq_true rfl) (Nat.le_of_ble_eq_true rfl) rfl (fun _ h => f_X2_readRow_ok h) hf (fun μ23 hf => ?_)
                    refine E_goto (pc := 139) (tgt := 174) dX2_readClause_139 (by decide) ?_
                    exact E_vret (pc := 174) dX2_readClause_174 rfl hf
                  · refine ifS hf (fun n91_2 hf => ?_) (fun n91_2 hf => ?_)
                    · refine E_tswI (pc := 91) (tgt := 142) (2) dX2_readClause_91 (by rw [n91_2]; decide) (by decide) (by decide) rfl (by decide) ?_
                      refine E_aload_n (pc := 142) dX2_readClause_142 rfl ?_
                      refine E_Vv (pc := 143) (d2 := D_X2_readPerson) (ci := 2) [] dX2_readClause_143 ml_X2_78 mf_X2_readPerson im_X2_readPerson rfl rfl rfl (by decide) (Nat.le_of_ble_eq_true rfl) (Nat.le_of_ble_eq_true rfl) rfl (fun _ h => f_X2_readPerson_ok h) hf (fun μ22 hf => ?_)
                      refine E_goto (pc := 146) (tgt := 174) dX2_readClause_146 (by decide) ?_
                      exact E_vret (pc := 174) dX2_readClause_174 rfl hf
                    · refine ifS hf (fun n91_3 hf => ?_) (fun n91_3 hf => ?_)
                      · refine E_tswI (pc := 91) (tgt := 149) (3) dX2_readClause_91 (by rw [n91_3]; decide) (by decide) (by decide) rfl (by decide) ?_
                        refine E_aload_n (pc := 149) dX2_readClause_149 rfl ?_
                        refine E_Vv (pc := 150) (d2 := D_X2_readThing) (ci := 2) [] dX2_readClause_150 ml_X2_81 mf_X2_readThing im_X2_readThing rfl rfl rfl (by decide) (Nat.le_of_ble_eq_true rfl) (Nat.le_of_ble_eq_true rfl) rfl (fun _ h => f_X2_readThing_ok h) hf (fun μ21 hf => ?_)
                        refine E_goto (pc := 153) (tgt := 174) dX2_readClause_153 (by decide) ?_
                        exact E_vret (pc := 174) dX2_readClause_174 rfl hf
                      · refine ifS hf (fun n91_4 hf => ?_) (fun n91_4 hf => ?_)
                        · refine E_tswI (pc := 91) (tgt := 156) (4) dX2_readClause_91 (by rw [n91_4]; decide) (by decide) (by decide) rfl (by decide) ?_
                          refine E_aload_n (pc := 156) dX2_readClause_156 rfl ?_
                          refine E_Vv (pc := 157) (d2 := D_X2_readNet) (ci := 2) [] dX2_readClause_157 ml_X2_84 mf_X2_readNet im_X2_readNet rfl rfl rfl (by decide) (Nat.le_of_ble_eq_true rfl) (Nat.le_of_ble_eq_true rfl) rfl (fun _ h => f_X2_readNet_ok h) hf (fun μ20 hf => ?_)
                          refine E_goto (pc := 160) (tgt := 174) dX2_readClause_160 (by decide) ?_
                          exact E_vret (pc := 174) dX2_readClause_174 rfl hf
                        · refine ifS hf (fun n91_5 hf => ?_) (fun n91_5 hf => ?_)
                          · refine E_tswI (pc := 91) (tgt := 163) (5) dX2_readClause_91 (by rw [n91_5]; decide) (by decide) (by decide) rfl (by decide) ?_
                            refine E_aload_n (pc := 163) dX2_readClause_163 rfl ?_
                            refine E_Vv (pc := 164) (d2 := D_X2_readLesson) (ci := 2) [] dX2_readClause_164 ml_X2_87 mf_X2_readLesson im_X2_readLesson rfl rfl rfl (by decide) (Nat.le_of_ble_eq_true rfl) (Nat.le_of_ble_eq_true rfl) rfl (fun _ h => f_X2_readLesson_ok h) hf (fun μ19 hf => ?_)
                            refine E_goto (pc := 167) (tgt := 174) dX2_readClause_167 (by decide) ?_
                            exact E_vret (pc := 174) dX2_readClause_174 rfl hf
                          · refine E_tswD (pc := 91) (tgt := 170) dX2_readClause_91 (by have q0 : ¬ (x10).toInt = 0 := i32ne n91_0; have q1 : ¬ (x10).toInt = 1 := i32ne n91_1; have q2 : ¬ (x10).toInt = 2 := i32ne n91_2; have q3 : ¬ (x10).toInt = 3 := i32ne n91_3; have q4 : ¬ (x10).toInt = 4 := i32ne n91_4; have q5 : ¬ (x10).toInt = 5 := i32ne n91_5;  omega) (by decide) ?_
                            refine E_aload_n (pc := 170) dX2_readClause_170 rfl ?_
                            refine E_Vv (pc := 171) (d2 := D_X2_readAfter) (ci := 2) [] dX2_readClause_171 ml_X2_90 mf_X2_readAfter im_X2_readAfter rfl rfl rfl (by decide) (Nat.le_of_ble_eq_true rfl) (Nat.le_of_ble_eq_true rfl) rfl (fun _ h => f_X2_readAfter_ok h) hf (fun μ18 hf => ?_)
                            exact E_vret (pc := 174) dX2_readClause_174 rfl hf
              · refine E_aload_n (pc := 80) dX2_readClause_80 rfl ?_
                refine E_getR (pc := 81) dX2_readClause_81 fl_X2_22 hf (fun v25 hf => ?_)
                refine E_iload_n (pc := 84) dX2_readClause_84 rfl ?_
                refine E_iconst (pc := 85) (v := (4 : Int32)) dX2_readClause_85 (by decide) ?_
                refine E_Vv (pc := 86) (d2 := D_X9_fail) (ci := 9) [.int x6, .int (4 : Int32)] dX2_readClause_86 ml_X2_64 mf_X9_fail im_X9_fail rfl rfl rfl (by decide) (Nat.le_of_ble_eq_true rfl) (Nat.le_of_ble_eq_true rfl) rfl (fun _ h => f_X9_fail_ok h) hf (fun μ26 hf => ?_)
                exact E_vret (pc := 89) dX2_readClause_89 rfl hf
          · refine E_aload_n (pc := 80) dX2_readClause_80 rfl ?_
            refine E_getR (pc := 81) dX2_readClause_81 fl_X2_22 hf (fun v27 hf => ?_)
            refine E_iload_n (pc := 84) dX2_readClause_84 rfl ?_
            refine E_iconst (pc := 85) (v := (4 : Int32)) dX2_readClause_85 (by decide) ?_
            refine E_Vv (pc := 86) (d2 := D_X9_fail) (ci := 9) [.int x6, .int (4 : Int32)] dX2_readClause_86 ml_X2_64 mf_X9_fail im_X9_fail rfl rfl rfl (by decide) (Nat.le_of_ble_eq_true rfl) (Nat.le_of_ble_eq_true rfl) rfl (fun _ h => f_X9_fail_ok h) hf (fun μ28 hf => ?_)
            exact E_vret (pc := 89) dX2_readClause_89 rfl hf
        · refine E_iconst (pc := 54) (v := (1 : Int32)) dX2_readClause_54 (by decide) ?_
          refine E_goto (pc := 55) (tgt := 59) dX2_readClause_55 (by decide) ?_
          refine E_istore (pc := 59) (ls' := fun x29 => [(4, .int x29), (3, .int x10), (2, .int x6), (0, .ref a1), (1, .int x2)]) dX2_readClause_59 (by decide) (fun _ => rfl) hf (fun x29 hf => ?_)
          refine E_iload (pc := 61) dX2_readClause_61 rfl ?_
          refine E_if_ne (pc := 63) (tgt := 80) dX2_readClause_63 (by decide) hf (fun hf => ?_) (fun hf => ?_)
          · refine E_iload_n (pc := 66) dX2_readClause_66 rfl ?_
            refine E_bipush (pc := 67) (v := (40 : Int32)) dX2_readClause_67 (by decide) ?_
            refine E_icmp_ge (pc := 69) (tgt := 80) dX2_readClause_69 (by decide) hf (fun hf => ?_) (fun hf => ?_)
            · refine E_aload_n (pc := 80) dX2_readClause_80 rfl ?_
              refine E_getR (pc := 81) dX2_readClause_81 fl_X2_22 hf (fun v30 hf => ?_)
              refine E_iload_n (pc := 84) dX2_readClause_84 rfl ?_
              refine E_iconst (pc := 85) (v := (4 : Int32)) dX2_readClause_85 (by decide) ?_
              refine E_Vv (pc := 86) (d2 := D_X9_fail) (ci := 9) [.int x6, .int (4 : Int32)] dX2_readClause_86 ml_X2_64 mf_X9_fail im_X9_fail rfl rfl rfl (by decide) (Nat.le_of_ble_eq_true rfl) (Nat.le_of_ble_eq_true rfl) rfl (fun _ h => f_X9_fail_ok h) hf (fun μ31 hf => ?_)
              exact E_vret (pc := 89) dX2_readClause_89 rfl hf
            · refine E_aload_n (pc := 72) dX2_readClause_72 rfl ?_
              refine E_iload_n (pc := 73) dX2_readClause_73 rfl ?_
              refine E_Vi (pc := 74) (d2 := D_X2_isFull) (ci := 2) [.int x10] dX2_readClause_74 ml_X2_68 mf_X2_isFull im_X2_isFull rfl rfl rfl (by decide) (Nat.le_of_ble_eq_true rfl) (Nat.le_of_ble_eq_true rfl) rfl (fun _ _ h => f_X2_isFull_ok h) hf (fun v33 μ32 hf => ?_)
              refine E_if_eq (pc := 77) (tgt := 90) dX2_readClause_77 (by decide) hf (fun hf => ?_) (fun hf => ?_)
              · refine E_iload_n (pc := 90) dX2_readClause_90 rfl ?_
                refine ifS hf (fun n91_0 hf => ?_) (fun n91_0 hf => ?_)
                · refine E_tswI (pc := 91) (tgt := 128) (0) dX2_readClause_91 (by rw [n91_0]; decide) (by decide) (by decide) rfl (by decide) ?_
                  refine E_aload_n (pc := 128) dX2_readClause_128 rfl ?_
                  refine E_Vv (pc := 129) (d2 := D_X2_readSize) (ci := 2) [] dX2_readClause_129 ml_X2_72 mf_X2_readSize im_X2_readSize rfl rfl rfl (by decide) (Nat.le_of_ble_eq_true rfl) (Nat.le_of_ble_eq_true rfl) rfl (fun _ h => f_X2_readSize_ok h) hf (fun μ40 hf => ?_)
                  refine E_goto (pc := 132) (tgt := 174) dX2_readClause_132 (by decide) ?_
                  exact E_vret (pc := 174) dX2_readClause_174 rfl hf
                · refine ifS hf (fun n91_1 hf => ?_) (fun n91_1 hf => ?_)
                  · refine E_tswI (pc := 91) (tgt := 135) (1) dX2_readClause_91 (by rw [n91_1]; decide) (by decide) (by decide) rfl (by decide) ?_
                    refine E_aload_n (pc := 135) dX2_readClause_135 rfl ?_
                    refine E_Vv (pc := 136) (d2 := D_X2_readRow) (ci := 2) [] dX2_readClause_136 ml_X2_75 mf_X2_readRow im_X2_readRow rfl rfl rfl (by decide) (Nat.le_of_ble_eq_true rfl) (Nat.le_of_ble_eq_true rfl) rfl (fun _ h => f_X2_readRow_ok h) hf (fun μ39 hf => ?_)
                    refine E_goto (pc := 139) (tgt := 174) dX2_readClause_139 (by decide) ?_
                    exact E_vret (pc := 174) dX2_readClause_174 rfl hf
                  · refine ifS hf (fun n91_2 hf => ?_) (fun n91_2 hf => ?_)
                    · refine E_tswI (pc := 91) (tgt := 142) (2) dX2_readClause_91 (by rw [n91_2]; decide) (by decide) (by decide) rfl (by decide) ?_
                      refine E_aload_n (pc := 142) dX2_readClause_142 rfl ?_
                      refine E_Vv (pc := 143) (d2 := D_X2_readPerson) (ci := 2) [] dX2_readClause_143 ml_X2_78 mf_X2_readPerson im_X2_readPerson rfl rfl rfl (by decide) (Nat.le_of_ble_eq_true rfl) (Nat.le_of_ble_eq_true rfl) rfl (fun _ h => f_X2_readPerson_ok h) hf (fun μ38 hf => ?_)
                      refine E_goto (pc := 146) (tgt := 174) dX2_readClause_146 (by decide) ?_
                      exact E_vret (pc := 174) dX2_readClause_174 rfl hf
                    · refine ifS hf (fun n91_3 hf => ?_) (fun n91_3 hf => ?_)
                      · refine E_tswI (pc := 91) (tgt := 149) (3) dX2_readClause_91 (by rw [n91_3]; decide) (by decide) (by decide) rfl (by decide) ?_
                        refine E_aload_n (pc := 149) dX2_readClause_149 rfl ?_
                        refine E_Vv (pc := 150) (d2 := D_X2_readThing) (ci := 2) [] dX2_readClause_150 ml_X2_81 mf_X2_readThing im_X2_readThing rfl rfl rfl (by decide) (Nat.le_of_ble_eq_true rfl) (Nat.le_of_ble_eq_true rfl) rfl (fun _ h => f_X2_readThing_ok h) hf (fun μ37 hf => ?_)
                        refine E_goto (pc := 153) (tgt := 174) dX2_readClause_153 (by decide) ?_
                        exact E_vret (pc := 174) dX2_readClause_174 rfl hf
                      · refine ifS hf (fun n91_4 hf => ?_) (fun n91_4 hf => ?_)
                        · refine E_tswI (pc := 91) (tgt := 156) (4) dX2_readClause_91 (by rw [n91_4]; decide) (by decide) (by decide) rfl (by decide) ?_
                          refine E_aload_n (pc := 156) dX2_readClause_156 rfl ?_
                          refine E_Vv (pc := 157) (d2 := D_X2_readNet) (ci := 2) [] dX2_readClause_157 ml_X2_84 mf_X2_readNet im_X2_readNet rfl rfl rfl (by decide) (Nat.le_of_ble_eq_true rfl) (Nat.le_of_ble_eq_true rfl) rfl (fun _ h => f_X2_readNet_ok h) hf (fun μ36 hf => ?_)
                          refine E_goto (pc := 160) (tgt := 174) dX2_readClause_160 (by decide) ?_
                          exact E_vret (pc := 174) dX2_readClause_174 rfl hf
                        · refine ifS hf (fun n91_5 hf => ?_) (fun n91_5 hf => ?_)
                          · refine E_tswI (pc := 91) (tgt := 163) (5) dX2_readClause_91 (by rw [n91_5]; decide) (by decide) (by decide) rfl (by decide) ?_
                            refine E_aload_n (pc := 163) dX2_readClause_163 rfl ?_
                            refine E_Vv (pc := 164) (d2 := D_X2_readLesson) (ci := 2) [] dX2_readClause_164 ml_X2_87 mf_X2_readLesson im_X2_readLesson rfl rfl rfl (by decide) (Nat.le_of_ble_eq_true rfl) (Nat.le_of_ble_eq_true rfl) rfl (fun _ h => f_X2_readLesson_ok h) hf (fun μ35 hf => ?_)
                            refine E_goto (pc := 167) (tgt := 174) dX2_readClause_167 (by decide) ?_
                            exact E_vret (pc := 174) dX2_readClause_174 rfl hf
                          · refine E_tswD (pc := 91) (tgt := 170) dX2_readClause_91 (by have q0 : ¬ (x10).toInt = 0 := i32ne n91_0; have q1 : ¬ (x10).toInt = 1 := i32ne n91_1; have q2 : ¬ (x10).toInt = 2 := i32ne n91_2; have q3 : ¬ (x10).toInt = 3 := i32ne n91_3; have q4 : ¬ (x10).toInt = 4 := i32ne n91_4; have q5 : ¬ (x10).toInt = 5 := i32ne n91_5;  omega) (by decide) ?_
                            refine E_aload_n (pc := 170) dX2_readClause_170 rfl ?_
                            refine E_Vv (pc := 171) (d2 := D_X2_readAfter) (ci := 2) [] dX2_readClause_171 ml_X2_90 mf_X2_readAfter im_X2_readAfter rfl rfl rfl (by decide) (Nat.le_of_ble_eq_true rfl) (Nat.le_of_ble_eq_true rfl) rfl (fun _ h => f_X2_readAfter_ok h) hf (fun μ34 hf => ?_)
                            exact E_vret (pc := 174) dX2_readClause_174 rfl hf
              · refine E_aload_n (pc := 80) dX2_readClause_80 rfl ?_
                refine E_getR (pc := 81) dX2_readClause_81 fl_X2_22 hf (fun v41 hf => ?_)
                refine E_iload_n (pc := 84) dX2_readClause_84 rfl ?_
                refine E_iconst (pc := 85) (v := (4 : Int32)) dX2_readClause_85 (by decide) ?_
                refine E_Vv (pc := 86) (d2 := D_X9_fail) (ci := 9) [.int x6, .int (4 : Int32)] dX2_readClause_86 ml_X2_64 mf_X9_fail im_X9_fail rfl rfl rfl (by decide) (Nat.le_of_ble_eq_true rfl) (Nat.le_of_ble_eq_true rfl) rfl (fun _ h => f_X9_fail_ok h) hf (fun μ42 hf => ?_)
                exact E_vret (pc := 89) dX2_readClause_89 rfl hf
          · refine E_aload_n (pc := 80) dX2_readClause_80 rfl ?_
            refine E_getR (pc := 81) dX2_readClause_81 fl_X2_22 hf (fun v43 hf => ?_)
            refine E_iload_n (pc := 84) dX2_readClause_84 rfl ?_
            refine E_iconst (pc := 85) (v := (4 : Int32)) dX2_readClause_85 (by decide) ?_
            refine E_Vv (pc := 86) (d2 := D_X9_fail) (ci := 9) [.int x6, .int (4 : Int32)] dX2_readClause_86 ml_X2_64 mf_X9_fail im_X9_fail rfl rfl rfl (by decide) (Nat.le_of_ble_eq_true rfl) (Nat.le_of_ble_eq_true rfl) rfl (fun _ h => f_X9_fail_ok h) hf (fun μ44 hf => ?_)
            exact E_vret (pc := 89) dX2_readClause_89 rfl hf
      · refine E_iconst (pc := 50) (v := (0 : Int32)) dX2_readClause_50 (by decide) ?_
        refine E_icmp_eq (pc := 51) (tgt := 58) dX2_readClause_51 (by decide) hf (fun hf => ?_) (fun hf => ?_)
        · refine E_iconst (pc := 58) (v := (0 : Int32)) dX2_readClause_58 (by decide) ?_
          refine E_istore (pc := 59) (ls' := fun x45 => [(4, .int x45), (3, .int x10), (2, .int x6), (0, .ref a1), (1, .int x2)]) dX2_readClause_59 (by decide) (fun _ => rfl) hf (fun x45 hf => ?_)
          refine E_iload (pc := 61) dX2_readClause_61 rfl ?_
          refine E_if_ne (pc := 63) (tgt := 80) dX2_readClause_63 (by decide) hf (fun hf => ?_) (fun hf => ?_)
          · refine E_iload_n (pc := 66) dX2_readClause_66 rfl ?_
            refine E_bipush (pc := 67) (v := (40 : Int32)) dX2_readClause_67 (by decide) ?_
            refine E_icmp_ge (pc := 69) (tgt := 80) dX2_readClause_69 (by decide) hf (fun hf => ?_) (fun hf => ?_)
            · refine E_aload_n (pc := 80) dX2_readClause_80 rfl ?_
              refine E_getR (pc := 81) dX2_readClause_81 fl_X2_22 hf (fun v46 hf => ?_)
              refine E_iload_n (pc := 84) dX2_readClause_84 rfl ?_
              refine E_iconst (pc := 85) (v := (4 : Int32)) dX2_readClause_85 (by decide) ?_
              refine E_Vv (pc := 86) (d2 := D_X9_fail) (ci := 9) [.int x6, .int (4 : Int32)] dX2_readClause_86 ml_X2_64 mf_X9_fail im_X9_fail rfl rfl rfl (by decide) (Nat.le_of_ble_eq_true rfl) (Nat.le_of_ble_eq_true rfl) rfl (fun _ h => f_X9_fail_ok h) hf (fun μ47 hf => ?_)
              exact E_vret (pc := 89) dX2_readClause_89 rfl hf
            · refine E_aload_n (pc := 72) dX2_readClause_72 rfl ?_
              refine E_iload_n (pc := 73) dX2_readClause_73 rfl ?_
              refine E_Vi (pc := 74) (d2 := D_X2_isFull) (ci := 2) [.int x10] dX2_readClause_74 ml_X2_68 mf_X2_isFull im_X2_isFull rfl rfl rfl (by decide) (Nat.le_of_ble_eq_true rfl) (Nat.le_of_ble_eq_true rfl) rfl (fun _ _ h => f_X2_isFull_ok h) hf (fun v49 μ48 hf => ?_)
              refine E_if_eq (pc := 77) (tgt := 90) dX2_readClause_77 (by decide) hf (fun hf => ?_) (fun hf => ?_)
              · refine E_iload_n (pc := 90) dX2_readClause_90 rfl ?_
                refine ifS hf (fun n91_0 hf => ?_) (fun n91_0 hf => ?_)
                · refine E_tswI (pc := 91) (tgt := 128) (0) dX2_readClause_91 (by rw [n91_0]; decide) (by decide) (by decide) rfl (by decide) ?_
                  refine E_aload_n (pc := 128) dX2_readClause_128 rfl ?_
                  refine E_Vv (pc := 129) (d2 := D_X2_readSize) (ci := 2) [] dX2_readClause_129 ml_X2_72 mf_X2_readSize im_X2_readSize rfl rfl rfl (by decide) (Nat.le_of_ble_eq_true rfl) (Nat.le_of_ble_eq_true rfl) rfl (fun _ h => f_X2_readSize_ok h) hf (fun μ56 hf => ?_)
                  refine E_goto (pc := 132) (tgt := 174) dX2_readClause_132 (by decide) ?_
                  exact E_vret (pc := 174) dX2_readClause_174 rfl hf
                · refine ifS hf (fun n91_1 hf => ?_) (fun n91_1 hf => ?_)
                  · refine E_tswI (pc := 91) (tgt := 135) (1) dX2_readClause_91 (by rw [n91_1]; decide) (by decide) (by decide) rfl (by decide) ?_
                    refine E_aload_n (pc := 135) dX2_readClause_135 rfl ?_
                    refine E_Vv (pc := 136) (d2 := D_X2_readRow) (ci := 2) [] dX2_readClause_136 ml_X2_75 mf_X2_readRow im_X2_readRow rfl rfl rfl (by decide) (Nat.le_of_ble_eq_true rfl) (Nat.le_of_ble_eq_true rfl) rfl (fun _ h => f_X2_readRow_ok h) hf (fun μ55 hf => ?_)
                    refine E_goto (pc := 139) (tgt := 174) dX2_readClause_139 (by decide) ?_
                    exact E_vret (pc := 174) dX2_readClause_174 rfl hf
                  · refine ifS hf (fun n91_2 hf => ?_) (fun n91_2 hf => ?_)
                    · refine E_tswI (pc := 91) (tgt := 142) (2) dX2_readClause_91 (by rw [n91_2]; decide) (by decide) (by decide) rfl (by decide) ?_
                      refine E_aload_n (pc := 142) dX2_readClause_142 rfl ?_
                      refine E_Vv (pc := 143) (d2 := D_X2_readPerson) (ci := 2) [] dX2_readClause_143 ml_X2_78 mf_X2_readPerson im_X2_readPerson rfl rfl rfl (by decide) (Nat.le_of_ble_eq_true rfl) (Nat.le_of_ble_eq_true rfl) rfl (fun _ h => f_X2_readPerson_ok h) hf (fun μ54 hf => ?_)
                      refine E_goto (pc := 146) (tgt := 174) dX2_readClause_146 (by decide) ?_
                      exact E_vret (pc := 174) dX2_readClause_174 rfl hf
                    · refine ifS hf (fun n91_3 hf => ?_) (fun n91_3 hf => ?_)
                      · refine E_tswI (pc := 91) (tgt := 149) (3) dX2_readClause_91 (by rw [n91_3]; decide) (by decide) (by decide) rfl (by decide) ?_
                        refine E_aload_n (pc := 149) dX2_readClause_149 rfl ?_
                        refine E_Vv (pc := 150) (d2 := D_X2_readThing) (ci := 2) [] dX2_readClause_150 ml_X2_81 mf_X2_readThing im_X2_readThing rfl rfl rfl (by decide) (Nat.le_of_ble_eq_true rfl) (Nat.le_of_ble_eq_true rfl) rfl (fun _ h => f_X2_readThing_ok h) hf (fun μ53 hf => ?_)
                        refine E_goto (pc := 153) (tgt := 174) dX2_readClause_153 (by decide) ?_
                        exact E_vret (pc := 174) dX2_readClause_174 rfl hf
                      · refine ifS hf (fun n91_4 hf => ?_) (fun n91_4 hf => ?_)
                        · refine E_tswI (pc := 91) (tgt := 156) (4) dX2_readClause_91 (by rw [n91_4]; decide) (by decide) (by decide) rfl (by decide) ?_
                          refine E_aload_n (pc := 156) dX2_readClause_156 rfl ?_
                          refine E_Vv (pc := 157) (d2 := D_X2_readNet) (ci := 2) [] dX2_readClause_157 ml_X2_84 mf_X2_readNet im_X2_readNet rfl rfl rfl (by decide) (Nat.le_of_ble_eq_true rfl) (Nat.le_of_ble_eq_true rfl) rfl (fun _ h => f_X2_readNet_ok h) hf (fun μ52 hf => ?_)
                          refine E_goto (pc := 160) (tgt := 174) dX2_readClause_160 (by decide) ?_
                          exact E_vret (pc := 174) dX2_readClause_174 rfl hf
                        · refine ifS hf (fun n91_5 hf => ?_) (fun n91_5 hf => ?_)
                          · refine E_tswI (pc := 91) (tgt := 163) (5) dX2_readClause_91 (by rw [n91_5]; decide) (by decide) (by decide) rfl (by decide) ?_
                            refine E_aload_n (pc := 163) dX2_readClause_163 rfl ?_
                            refine E_Vv (pc := 164) (d2 := D_X2_readLesson) (ci := 2) [] dX2_readClause_164 ml_X2_87 mf_X2_readLesson im_X2_readLesson rfl rfl rfl (by decide) (Nat.le_of_ble_eq_true rfl) (Nat.le_of_ble_eq_true rfl) rfl (fun _ h => f_X2_readLesson_ok h) hf (fun μ51 hf => ?_)
                            refine E_goto (pc := 167) (tgt := 174) dX2_readClause_167 (by decide) ?_
                            exact E_vret (pc := 174) dX2_readClause_174 rfl hf
                          · refine E_tswD (pc := 91) (tgt := 170) dX2_readClause_91 (by have q0 : ¬ (x10).toInt = 0 := i32ne n91_0; have q1 : ¬ (x10).toInt = 1 := i32ne n91_1; have q2 : ¬ (x10).toInt = 2 := i32ne n91_2; have q3 : ¬ (x10).toInt = 3 := i32ne n91_3; have q4 : ¬ (x10).toInt = 4 := i32ne n91_4; have q5 : ¬ (x10).toInt = 5 := i32ne n91_5;  omega) (by decide) ?_
                            refine E_aload_n (pc := 170) dX2_readClause_170 rfl ?_
                            refine E_Vv (pc := 171) (d2 := D_X2_readAfter) (ci := 2) [] dX2_readClause_171 ml_X2_90 mf_X2_readAfter im_X2_readAfter rfl rfl rfl (by decide) (Nat.le_of_ble_eq_true rfl) (Nat.le_of_ble_eq_true rfl) rfl (fun _ h => f_X2_readAfter_ok h) hf (fun μ50 hf => ?_)
                            exact E_vret (pc := 174) dX2_readClause_174 rfl hf
              · refine E_aload_n (pc := 80) dX2_readClause_80 rfl ?_
                refine E_getR (pc := 81) dX2_readClause_81 fl_X2_22 hf (fun v57 hf => ?_)
                refine E_iload_n (pc := 84) dX2_readClause_84 rfl ?_
                refine E_iconst (pc := 85) (v := (4 : Int32)) dX2_readClause_85 (by decide) ?_
                refine E_Vv (pc := 86) (d2 := D_X9_fail) (ci := 9) [.int x6, .int (4 : Int32)] dX2_readClause_86 ml_X2_64 mf_X9_fail im_X9_fail rfl rfl rfl (by decide) (Nat.le_of_ble_eq_true rfl) (Nat.le_of_ble_eq_true rfl) rfl (fun _ h => f_X9_fail_ok h) hf (fun μ58 hf => ?_)
                exact E_vret (pc := 89) dX2_readClause_89 rfl hf
          · refine E_aload_n (pc := 80) dX2_readClause_80 rfl ?_
            refine E_getR (pc := 81) dX2_readClause_81 fl_X2_22 hf (fun v59 hf => ?_)
            refine E_iload_n (pc := 84) dX2_readClause_84 rfl ?_
            refine E_iconst (pc := 85) (v := (4 : Int32)) dX2_readClause_85 (by decide) ?_
            refine E_Vv (pc := 86) (d2 := D_X9_fail) (ci := 9) [.int x6, .int (4 : Int32)] dX2_readClause_86 ml_X2_64 mf_X9_fail im_X9_fail rfl rfl rfl (by decide) (Nat.le_of_ble_eq_true rfl) (Nat.le_of_ble_eq_true rfl) rfl (fun _ h => f_X9_fail_ok h) hf (fun μ60 hf => ?_)
            exact E_vret (pc := 89) dX2_readClause_89 rfl hf
        · refine E_iconst (pc := 54) (v := (1 : Int32)) dX2_readClause_54 (by decide) ?_
          refine E_goto (pc := 55) (tgt := 59) dX2_readClause_55 (by decide) ?_
          refine E_istore (pc := 59) (ls' := fun x61 => [(4, .int x61), (3, .int x10), (2, .int x6), (0, .ref a1), (1, .int x2)]) dX2_readClause_59 (by decide) (fun _ => rfl) hf (fun x61 hf => ?_)
          refine E_iload (pc := 61) dX2_readClause_61 rfl ?_
          refine E_if_ne (pc := 63) (tgt := 80) dX2_readClause_63 (by decide) hf (fun hf => ?_) (fun hf => ?_)
          · refine E_iload_n (pc := 66) dX2_readClause_66 rfl ?_
            refine E_bipush (pc := 67) (v := (40 : Int32)) dX2_readClause_67 (by decide) ?_
            refine E_icmp_ge (pc := 69) (tgt := 80) dX2_readClause_69 (by decide) hf (fun hf => ?_) (fun hf => ?_)
            · refine E_aload_n (pc := 80) dX2_readClause_80 rfl ?_
              refine E_getR (pc := 81) dX2_readClause_81 fl_X2_22 hf (fun v62 hf => ?_)
              refine E_iload_n (pc := 84) dX2_readClause_84 rfl ?_
              refine E_iconst (pc := 85) (v := (4 : Int32)) dX2_readClause_85 (by decide) ?_
              refine E_Vv (pc := 86) (d2 := D_X9_fail) (ci := 9) [.int x6, .int (4 : Int32)] dX2_readClause_86 ml_X2_64 mf_X9_fail im_X9_fail rfl rfl rfl (by decide) (Nat.le_of_ble_eq_true rfl) (Nat.le_of_ble_eq_true rfl) rfl (fun _ h => f_X9_fail_ok h) hf (fun μ63 hf => ?_)
              exact E_vret (pc := 89) dX2_readClause_89 rfl hf
            · refine E_aload_n (pc := 72) dX2_readClause_72 rfl ?_
              refine E_iload_n (pc := 73) dX2_readClause_73 rfl ?_
              refine E_Vi (pc := 74) (d2 := D_X2_isFull) (ci := 2) [.int x10] dX2_readClause_74 ml_X2_68 mf_X2_isFull im_X2_isFull rfl rfl rfl (by decide) (Nat.le_of_ble_eq_true rfl) (Nat.le_of_ble_eq_true rfl) rfl (fun _ _ h => f_X2_isFull_ok h) hf (fun v65 μ64 hf => ?_)
              refine E_if_eq (pc := 77) (tgt := 90) dX2_readClause_77 (by decide) hf (fun hf => ?_) (fun hf => ?_)
              · refine E_iload_n (pc := 90) dX2_readClause_90 rfl ?_
                refine ifS hf (fun n91_0 hf => ?_) (fun n91_0 hf => ?_)
                · refine E_tswI (pc := 91) (tgt := 128) (0) dX2_readClause_91 (by rw [n91_0]; decide) (by decide) (by decide) rfl (by decide) ?_
                  refine E_aload_n (pc := 128) dX2_readClause_128 rfl ?_
                  refine E_Vv (pc := 129) (d2 := D_X2_readSize) (ci := 2) [] dX2_readClause_129 ml_X2_72 mf_X2_readSize im_X2_readSize rfl rfl rfl (by decide) (Nat.le_of_ble_eq_true rfl) (Nat.le_of_ble_eq_true rfl) rfl (fun _ h => f_X2_readSize_ok h) hf (fun μ72 hf => ?_)
                  refine E_goto (pc := 132) (tgt := 174) dX2_readClause_132 (by decide) ?_
                  exact E_vret (pc := 174) dX2_readClause_174 rfl hf
                · refine ifS hf (fun n91_1 hf => ?_) (fun n91_1 hf => ?_)
                  · refine E_tswI (pc := 91) (tgt := 135) (1) dX2_readClause_91 (by rw [n91_1]; decide) (by decide) (by decide) rfl (by decide) ?_
                    refine E_aload_n (pc := 135) dX2_readClause_135 rfl ?_
                    refine E_Vv (pc := 136) (d2 := D_X2_readRow) (ci := 2) [] dX2_readClause_136 ml_X2_75 mf_X2_readRow im_X2_readRow rfl rfl rfl (by decide) (Nat.le_of_ble_eq_true rfl) (Nat.le_of_ble_eq_true rfl) rfl (fun _ h => f_X2_readRow_ok h) hf (fun μ71 hf => ?_)
                    refine E_goto (pc := 139) (tgt := 174) dX2_readClause_139 (by decide) ?_
                    exact E_vret (pc := 174) dX2_readClause_174 rfl hf
                  · refine ifS hf (fun n91_2 hf => ?_) (fun n91_2 hf => ?_)
                    · refine E_tswI (pc := 91) (tgt := 142) (2) dX2_readClause_91 (by rw [n91_2]; decide) (by decide) (by decide) rfl (by decide) ?_
                      refine E_aload_n (pc := 142) dX2_readClause_142 rfl ?_
                      refine E_Vv (pc := 143) (d2 := D_X2_readPerson) (ci := 2) [] dX2_readClause_143 ml_X2_78 mf_X2_readPerson im_X2_readPerson rfl rfl rfl (by decide) (Nat.le_of_ble_eq_true rfl) (Nat.le_of_ble_eq_true rfl) rfl (fun _ h => f_X2_readPerson_ok h) hf (fun μ70 hf => ?_)
                      refine E_goto (pc := 146) (tgt := 174) dX2_readClause_146 (by decide) ?_
                      exact E_vret (pc := 174) dX2_readClause_174 rfl hf
                    · refine ifS hf (fun n91_3 hf => ?_) (fun n91_3 hf => ?_)
                      · refine E_tswI (pc := 91) (tgt := 149) (3) dX2_readClause_91 (by rw [n91_3]; decide) (by decide) (by decide) rfl (by decide) ?_
                        refine E_aload_n (pc := 149) dX2_readClause_149 rfl ?_
                        refine E_Vv (pc := 150) (d2 := D_X2_readThing) (ci := 2) [] dX2_readClause_150 ml_X2_81 mf_X2_readThing im_X2_readThing rfl rfl rfl (by decide) (Nat.le_of_ble_eq_true rfl) (Nat.le_of_ble_eq_true rfl) rfl (fun _ h => f_X2_readThing_ok h) hf (fun μ69 hf => ?_)
                        refine E_goto (pc := 153) (tgt := 174) dX2_readClause_153 (by decide) ?_
                        exact E_vret (pc := 174) dX2_readClause_174 rfl hf
                      · refine ifS hf (fun n91_4 hf => ?_) (fun n91_4 hf => ?_)
                        · refine E_tswI (pc := 91) (tgt := 156) (4) dX2_readClause_91 (by rw [n91_4]; decide) (by decide) (by decide) rfl (by decide) ?_
                          refine E_aload_n (pc := 156) dX2_readClause_156 rfl ?_
                          refine E_Vv (pc := 157) (d2 := D_X2_readNet) (ci := 2) [] dX2_readClause_157 ml_X2_84 mf_X2_readNet im_X2_readNet rfl rfl rfl (by decide) (Nat.le_of_ble_eq_true rfl) (Nat.le_of_ble_eq_true rfl) rfl (fun _ h => f_X2_readNet_ok h) hf (fun μ68 hf => ?_)
                          refine E_goto (pc := 160) (tgt := 174) dX2_readClause_160 (by decide) ?_
                          exact E_vret (pc := 174) dX2_readClause_174 rfl hf
                        · refine ifS hf (fun n91_5 hf => ?_) (fun n91_5 hf => ?_)
                          · refine E_tswI (pc := 91) (tgt := 163) (5) dX2_readClause_91 (by rw [n91_5]; decide) (by decide) (by decide) rfl (by decide) ?_
                            refine E_aload_n (pc := 163) dX2_readClause_163 rfl ?_
                            refine E_Vv (pc := 164) (d2 := D_X2_readLesson) (ci := 2) [] dX2_readClause_164 ml_X2_87 mf_X2_readLesson im_X2_readLesson rfl rfl rfl (by decide) (Nat.le_of_ble_eq_true rfl) (Nat.le_of_ble_eq_true rfl) rfl (fun _ h => f_X2_readLesson_ok h) hf (fun μ67 hf => ?_)
                            refine E_goto (pc := 167) (tgt := 174) dX2_readClause_167 (by decide) ?_
                            exact E_vret (pc := 174) dX2_readClause_174 rfl hf
                          · refine E_tswD (pc := 91) (tgt := 170) dX2_readClause_91 (by have q0 : ¬ (x10).toInt = 0 := i32ne n91_0; have q1 : ¬ (x10).toInt = 1 := i32ne n91_1; have q2 : ¬ (x10).toInt = 2 := i32ne n91_2; have q3 : ¬ (x10).toInt = 3 := i32ne n91_3; have q4 : ¬ (x10).toInt = 4 := i32ne n91_4; have q5 : ¬ (x10).toInt = 5 := i32ne n91_5;  omega) (by decide) ?_
                            refine E_aload_n (pc := 170) dX2_readClause_170 rfl ?_
                            refine E_Vv (pc := 171) (d2 := D_X2_readAfter) (ci := 2) [] dX2_readClause_171 ml_X2_90 mf_X2_readAfter im_X2_readAfter rfl rfl rfl (by decide) (Nat.le_of_ble_eq_true rfl) (Nat.le_of_ble_eq_true rfl) rfl (fun _ h => f_X2_readAfter_ok h) hf (fun μ66 hf => ?_)
                            exact E_vret (pc := 174) dX2_readClause_174 rfl hf
              · refine E_aload_n (pc := 80) dX2_readClause_80 rfl ?_
                refine E_getR (pc := 81) dX2_readClause_81 fl_X2_22 hf (fun v73 hf => ?_)
                refine E_iload_n (pc := 84) dX2_readClause_84 rfl ?_
                refine E_iconst (pc := 85) (v := (4 : Int32)) dX2_readClause_85 (by decide) ?_
                refine E_Vv (pc := 86) (d2 := D_X9_fail) (ci := 9) [.int x6, .int (4 : Int32)] dX2_readClause_86 ml_X2_64 mf_X9_fail im_X9_fail rfl rfl rfl (by decide) (Nat.le_of_ble_eq_true rfl) (Nat.le_of_ble_eq_true rfl) rfl (fun _ h => f_X9_fail_ok h) hf (fun μ74 hf => ?_)
                exact E_vret (pc := 89) dX2_readClause_89 rfl hf
          · refine E_aload_n (pc := 80) dX2_readClause_80 rfl ?_
            refine E_getR (pc := 81) dX2_readClause_81 fl_X2_22 hf (fun v75 hf => ?_)
            refine E_iload_n (pc := 84) dX2_readClause_84 rfl ?_
            refine E_iconst (pc := 85) (v := (4 : Int32)) dX2_readClause_85 (by decide) ?_
            refine E_Vv (pc := 86) (d2 := D_X9_fail) (ci := 9) [.int x6, .int (4 : Int32)] dX2_readClause_86 ml_X2_64 mf_X9_fail im_X9_fail rfl rfl rfl (by decide) (Nat.le_of_ble_eq_true rfl) (Nat.le_of_ble_eq_true rfl) rfl (fun _ h => f_X9_fail_ok h) hf (fun μ76 hf => ?_)
            exact E_vret (pc := 89) dX2_readClause_89 rfl hf
    · refine E_iconst (pc := 41) (v := (0 : Int32)) dX2_readClause_41 (by decide) ?_
      refine E_iload_n (pc := 42) dX2_readClause_42 rfl ?_
      refine E_if_ne (pc := 43) (tgt := 50) dX2_readClause_43 (by decide) hf (fun hf => ?_) (fun hf => ?_)
      · refine E_iconst (pc := 46) (v := (1 : Int32)) dX2_readClause_46 (by decide) ?_
        refine E_goto (pc := 47) (tgt := 51) dX2_readClause_47 (by decide) ?_
        refine E_icmp_eq (pc := 51) (tgt := 58) dX2_readClause_51 (by decide) hf (fun hf => ?_) (fun hf => ?_)
        · refine E_iconst (pc := 58) (v := (0 : Int32)) dX2_readClause_58 (by decide) ?_
          refine E_istore (pc := 59) (ls' := fun x77 => [(4, .int x77), (3, .int x10), (2, .int x6), (0, .ref a1), (1, .int x2)]) dX2_readClause_59 (by decide) (fun _ => rfl) hf (fun x77 hf => ?_)
          refine E_iload (pc := 61) dX2_readClause_61 rfl ?_
          refine E_if_ne (pc := 63) (tgt := 80) dX2_readClause_63 (by decide) hf (fun hf => ?_) (fun hf => ?_)
          · refine E_iload_n (pc := 66) dX2_readClause_66 rfl ?_
            refine E_bipush (pc := 67) (v := (40 : Int32)) dX2_readClause_67 (by decide) ?_
            refine E_icmp_ge (pc := 69) (tgt := 80) dX2_readClause_69 (by decide) hf (fun hf => ?_) (fun hf => ?_)
            · refine E_aload_n (pc := 80) dX2_readClause_80 rfl ?_
              refine E_getR (pc := 81) dX2_readClause_81 fl_X2_22 hf (fun v78 hf => ?_)
              refine E_iload_n (pc := 84) dX2_readClause_84 rfl ?_
              refine E_iconst (pc := 85) (v := (4 : Int32)) dX2_readClause_85 (by decide) ?_
              refine E_Vv (pc := 86) (d2 := D_X9_fail) (ci := 9) [.int x6, .int (4 : Int32)] dX2_readClause_86 ml_X2_64 mf_X9_fail im_X9_fail rfl rfl rfl (by decide) (Nat.le_of_ble_eq_true rfl) (Nat.le_of_ble_eq_true rfl) rfl (fun _ h => f_X9_fail_ok h) hf (fun μ79 hf => ?_)
              exact E_vret (pc := 89) dX2_readClause_89 rfl hf
            · refine E_aload_n (pc := 72) dX2_readClause_72 rfl ?_
              refine E_iload_n (pc := 73) dX2_readClause_73 rfl ?_
              refine E_Vi (pc := 74) (d2 := D_X2_isFull) (ci := 2) [.int x10] dX2_readClause_74 ml_X2_68 mf_X2_isFull im_X2_isFull rfl rfl rfl (by decide) (Nat.le_of_ble_eq_true rfl) (Nat.le_of_ble_eq_true rfl) rfl (fun _ _ h => f_X2_isFull_ok h) hf (fun v81 μ80 hf => ?_)
              refine E_if_eq (pc := 77) (tgt := 90) dX2_readClause_77 (by decide) hf (fun hf => ?_) (fun hf => ?_)
              · refine E_iload_n (pc := 90) dX2_readClause_90 rfl ?_
                refine ifS hf (fun n91_0 hf => ?_) (fun n91_0 hf => ?_)
                · refine E_tswI (pc := 91) (tgt := 128) (0) dX2_readClause_91 (by rw [n91_0]; decide) (by decide) (by decide) rfl (by decide) ?_
                  refine E_aload_n (pc := 128) dX2_readClause_128 rfl ?_
                  refine E_Vv (pc := 129) (d2 := D_X2_readSize) (ci := 2) [] dX2_readClause_129 ml_X2_72 mf_X2_readSize im_X2_readSize rfl rfl rfl (by decide) (Nat.le_of_ble_eq_true rfl) (Nat.le_of_ble_eq_true rfl) rfl (fun _ h => f_X2_readSize_ok h) hf (fun μ88 hf => ?_)
                  refine E_goto (pc := 132) (tgt := 174) dX2_readClause_132 (by decide) ?_
                  exact E_vret (pc := 174) dX2_readClause_174 rfl hf
                · refine ifS hf (fun n91_1 hf => ?_) (fun n91_1 hf => ?_)
                  · refine E_tswI (pc := 91) (tgt := 135) (1) dX2_readClause_91 (by rw [n91_1]; decide) (by decide) (by decide) rfl (by decide) ?_
                    refine E_aload_n (pc := 135) dX2_readClause_135 rfl ?_
                    refine E_Vv (pc := 136) (d2 := D_X2_readRow) (ci := 2) [] dX2_readClause_136 ml_X2_75 mf_X2_readRow im_X2_readRow rfl rfl rfl (by decide) (Nat.le_of_ble_eq_true rfl) (Nat.le_of_ble_eq_true rfl) rfl (fun _ h => f_X2_readRow_ok h) hf (fun μ87 hf => ?_)
                    refine E_goto (pc := 139) (tgt := 174) dX2_readClause_139 (by decide) ?_
                    exact E_vret (pc := 174) dX2_readClause_174 rfl hf
                  · refine ifS hf (fun n91_2 hf => ?_) (fun n91_2 hf => ?_)
                    · refine E_tswI (pc := 91) (tgt := 142) (2) dX2_readClause_91 (by rw [n91_2]; decide) (by decide) (by decide) rfl (by decide) ?_
                      refine E_aload_n (pc := 142) dX2_readClause_142 rfl ?_
                      refine E_Vv (pc := 143) (d2 := D_X2_readPerson) (ci := 2) [] dX2_readClause_143 ml_X2_78 mf_X2_readPerson im_X2_readPerson rfl rfl rfl (by decide) (Nat.le_of_ble_eq_true rfl) (Nat.le_of_ble_eq_true rfl) rfl (fun _ h => f_X2_readPerson_ok h) hf (fun μ86 hf => ?_)
                      refine E_goto (pc := 146) (tgt := 174) dX2_readClause_146 (by decide) ?_
                      exact E_vret (pc := 174) dX2_readClause_174 rfl hf
                    · refine ifS hf (fun n91_3 hf => ?_) (fun n91_3 hf => ?_)
                      · refine E_tswI (pc := 91) (tgt := 149) (3) dX2_readClause_91 (by rw [n91_3]; decide) (by decide) (by decide) rfl (by decide) ?_
                        refine E_aload_n (pc := 149) dX2_readClause_149 rfl ?_
                        refine E_Vv (pc := 150) (d2 := D_X2_readThing) (ci := 2) [] dX2_readClause_150 ml_X2_81 mf_X2_readThing im_X2_readThing rfl rfl rfl (by decide) (Nat.le_of_ble_eq_true rfl) (Nat.le_of_ble_eq_true rfl) rfl (fun _ h => f_X2_readThing_ok h) hf (fun μ85 hf => ?_)
                        refine E_goto (pc := 153) (tgt := 174) dX2_readClause_153 (by decide) ?_
                        exact E_vret (pc := 174) dX2_readClause_174 rfl hf
                      · refine ifS hf (fun n91_4 hf => ?_) (fun n91_4 hf => ?_)
                        · refine E_tswI (pc := 91) (tgt := 156) (4) dX2_readClause_91 (by rw [n91_4]; decide) (by decide) (by decide) rfl (by decide) ?_
                          refine E_aload_n (pc := 156) dX2_readClause_156 rfl ?_
                          refine E_Vv (pc := 157) (d2 := D_X2_readNet) (ci := 2) [] dX2_readClause_157 ml_X2_84 mf_X2_readNet im_X2_readNet rfl rfl rfl (by decide) (Nat.le_of_ble_eq_true rfl) (Nat.le_of_ble_eq_true rfl) rfl (fun _ h => f_X2_readNet_ok h) hf (fun μ84 hf => ?_)
                          refine E_goto (pc := 160) (tgt := 174) dX2_readClause_160 (by decide) ?_
                          exact E_vret (pc := 174) dX2_readClause_174 rfl hf
                        · refine ifS hf (fun n91_5 hf => ?_) (fun n91_5 hf => ?_)
                          · refine E_tswI (pc := 91) (tgt := 163) (5) dX2_readClause_91 (by rw [n91_5]; decide) (by decide) (by decide) rfl (by decide) ?_
                            refine E_aload_n (pc := 163) dX2_readClause_163 rfl ?_
                            refine E_Vv (pc := 164) (d2 := D_X2_readLesson) (ci := 2) [] dX2_readClause_164 ml_X2_87 mf_X2_readLesson im_X2_readLesson rfl rfl rfl (by decide) (Nat.le_of_ble_eq_true rfl) (Nat.le_of_ble_eq_true rfl) rfl (fun _ h => f_X2_readLesson_ok h) hf (fun μ83 hf => ?_)
                            refine E_goto (pc := 167) (tgt := 174) dX2_readClause_167 (by decide) ?_
                            exact E_vret (pc := 174) dX2_readClause_174 rfl hf
                          · refine E_tswD (pc := 91) (tgt := 170) dX2_readClause_91 (by have q0 : ¬ (x10).toInt = 0 := i32ne n91_0; have q1 : ¬ (x10).toInt = 1 := i32ne n91_1; have q2 : ¬ (x10).toInt = 2 := i32ne n91_2; have q3 : ¬ (x10).toInt = 3 := i32ne n91_3; have q4 : ¬ (x10).toInt = 4 := i32ne n91_4; have q5 : ¬ (x10).toInt = 5 := i32ne n91_5;  omega) (by decide) ?_
                            refine E_aload_n (pc := 170) dX2_readClause_170 rfl ?_
                            refine E_Vv (pc := 171) (d2 := D_X2_readAfter) (ci := 2) [] dX2_readClause_171 ml_X2_90 mf_X2_readAfter im_X2_readAfter rfl rfl rfl (by decide) (Nat.le_of_ble_eq_true rfl) (Nat.le_of_ble_eq_true rfl) rfl (fun _ h => f_X2_readAfter_ok h) hf (fun μ82 hf => ?_)
                            exact E_vret (pc := 174) dX2_readClause_174 rfl hf
              · refine E_aload_n (pc := 80) dX2_readClause_80 rfl ?_
                refine E_getR (pc := 81) dX2_readClause_81 fl_X2_22 hf (fun v89 hf => ?_)
                refine E_iload_n (pc := 84) dX2_readClause_84 rfl ?_
                refine E_iconst (pc := 85) (v := (4 : Int32)) dX2_readClause_85 (by decide) ?_
                refine E_Vv (pc := 86) (d2 := D_X9_fail) (ci := 9) [.int x6, .int (4 : Int32)] dX2_readClause_86 ml_X2_64 mf_X9_fail im_X9_fail rfl rfl rfl (by decide) (Nat.le_of_ble_eq_true rfl) (Nat.le_of_ble_eq_true rfl) rfl (fun _ h => f_X9_fail_ok h) hf (fun μ90 hf => ?_)
                exact E_vret (pc := 89) dX2_readClause_89 rfl hf
          · refine E_aload_n (pc := 80) dX2_readClause_80 rfl ?_
            refine E_getR (pc := 81) dX2_readClause_81 fl_X2_22 hf (fun v91 hf => ?_)
            refine E_iload_n (pc := 84) dX2_readClause_84 rfl ?_
            refine E_iconst (pc := 85) (v := (4 : Int32)) dX2_readClause_85 (by decide) ?_
            refine E_Vv (pc := 86) (d2 := D_X9_fail) (ci := 9) [.int x6, .int (4 : Int32)] dX2_readClause_86 ml_X2_64 mf_X9_fail im_X9_fail rfl rfl rfl (by decide) (Nat.le_of_ble_eq_true rfl) (Nat.le_of_ble_eq_true rfl) rfl (fun _ h => f_X9_fail_ok h) hf (fun μ92 hf => ?_)
            exact E_vret (pc := 89) dX2_readClause_89 rfl hf
        · refine E_iconst (pc := 54) (v := (1 : Int32)) dX2_readClause_54 (by decide) ?_
          refine E_goto (pc := 55) (tgt := 59) dX2_readClause_55 (by decide) ?_
          refine E_istore (pc := 59) (ls' := fun x93 => [(4, .int x93), (3, .int x10), (2, .int x6), (0, .ref a1), (1, .int x2)]) dX2_readClause_59 (by decide) (fun _ => rfl) hf (fun x93 hf => ?_)
          refine E_iload (pc := 61) dX2_readClause_61 rfl ?_
          refine E_if_ne (pc := 63) (tgt := 80) dX2_readClause_63 (by decide) hf (fun hf => ?_) (fun hf => ?_)
          · refine E_iload_n (pc := 66) dX2_readClause_66 rfl ?_
            refine E_bipush (pc := 67) (v := (40 : Int32)) dX2_readClause_67 (by decide) ?_
            refine E_icmp_ge (pc := 69) (tgt := 80) dX2_readClause_69 (by decide) hf (fun hf => ?_) (fun hf => ?_)
            · refine E_aload_n (pc := 80) dX2_readClause_80 rfl ?_
              refine E_getR (pc := 81) dX2_readClause_81 fl_X2_22 hf (fun v94 hf => ?_)
              refine E_iload_n (pc := 84) dX2_readClause_84 rfl ?_
              refine E_iconst (pc := 85) (v := (4 : Int32)) dX2_readClause_85 (by decide) ?_
              refine E_Vv (pc := 86) (d2 := D_X9_fail) (ci := 9) [.int x6, .int (4 : Int32)] dX2_readClause_86 ml_X2_64 mf_X9_fail im_X9_fail rfl rfl rfl (by decide) (Nat.le_of_ble_eq_true rfl) (Nat.le_of_ble_eq_true rfl) rfl (fun _ h => f_X9_fail_ok h) hf (fun μ95 hf => ?_)
              exact E_vret (pc := 89) dX2_readClause_89 rfl hf
            · refine E_aload_n (pc := 72) dX2_readClause_72 rfl ?_
              refine E_iload_n (pc := 73) dX2_readClause_73 rfl ?_
              refine E_Vi (pc := 74) (d2 := D_X2_isFull) (ci := 2) [.int x10] dX2_readClause_74 ml_X2_68 mf_X2_isFull im_X2_isFull rfl rfl rfl (by decide) (Nat.le_of_ble_eq_true rfl) (Nat.le_of_ble_eq_true rfl) rfl (fun _ _ h => f_X2_isFull_ok h) hf (fun v97 μ96 hf => ?_)
              refine E_if_eq (pc := 77) (tgt := 90) dX2_readClause_77 (by decide) hf (fun hf => ?_) (fun hf => ?_)
              · refine E_iload_n (pc := 90) dX2_readClause_90 rfl ?_
                refine ifS hf (fun n91_0 hf => ?_) (fun n91_0 hf => ?_)
                · refine E_tswI (pc := 91) (tgt := 128) (0) dX2_readClause_91 (by rw [n91_0]; decide) (by decide) (by decide) rfl (by decide) ?_
                  refine E_aload_n (pc := 128) dX2_readClause_128 rfl ?_
                  refine E_Vv (pc := 129) (d2 := D_X2_readSize) (ci := 2) [] dX2_readClause_129 ml_X2_72 mf_X2_readSize im_X2_readSize rfl rfl rfl (by decide) (Nat.le_of_ble_eq_true rfl) (Nat.le_of_ble_eq_true rfl) rfl (fun _ h => f_X2_readSize_ok h) hf (fun μ104 hf => ?_)
                  refine E_goto (pc := 132) (tgt := 174) dX2_readClause_132 (by decide) ?_
                  exact E_vret (pc := 174) dX2_readClause_174 rfl hf
                · refine ifS hf (fun n91_1 hf => ?_) (fun n91_1 hf => ?_)
                  · refine E_tswI (pc := 91) (tgt := 135) (1) dX2_readClause_91 (by rw [n91_1]; decide) (by decide) (by decide) rfl (by decide) ?_
                    refine E_aload_n (pc := 135) dX2_readClause_135 rfl ?_
                    refine E_Vv (pc := 136) (d2 := D_X2_readRow) (ci := 2) [] dX2_readClause_136 ml_X2_75 mf_X2_readRow im_X2_readRow rfl rfl rfl (by decide) (Nat.le_of_ble_eq_true rfl) (Nat.le_of_ble_eq_true rfl) rfl (fun _ h => f_X2_readRow_ok h) hf (fun μ103 hf => ?_)
                    refine E_goto (pc := 139) (tgt := 174) dX2_readClause_139 (by decide) ?_
                    exact E_vret (pc := 174) dX2_readClause_174 rfl hf
                  · refine ifS hf (fun n91_2 hf => ?_) (fun n91_2 hf => ?_)
                    · refine E_tswI (pc := 91) (tgt := 142) (2) dX2_readClause_91 (by rw [n91_2]; decide) (by decide) (by decide) rfl (by decide) ?_
                      refine E_aload_n (pc := 142) dX2_readClause_142 rfl ?_
                      refine E_Vv (pc := 143) (d2 := D_X2_readPerson) (ci := 2) [] dX2_readClause_143 ml_X2_78 mf_X2_readPerson im_X2_readPerson rfl rfl rfl (by decide) (Nat.le_of_ble_eq_true rfl) (Nat.le_of_ble_eq_true rfl) rfl (fun _ h => f_X2_readPerson_ok h) hf (fun μ102 hf => ?_)
                      refine E_goto (pc := 146) (tgt := 174) dX2_readClause_146 (by decide) ?_
                      exact E_vret (pc := 174) dX2_readClause_174 rfl hf
                    · refine ifS hf (fun n91_3 hf => ?_) (fun n91_3 hf => ?_)
                      · refine E_tswI (pc := 91) (tgt := 149) (3) dX2_readClause_91 (by rw [n91_3]; decide) (by decide) (by decide) rfl (by decide) ?_
                        refine E_aload_n (pc := 149) dX2_readClause_149 rfl ?_
                        refine E_Vv (pc := 150) (d2 := D_X2_readThing) (ci := 2) [] dX2_readClause_150 ml_X2_81 mf_X2_readThing im_X2_readThing rfl rfl rfl (by decide) (Nat.le_of_ble_eq_true rfl) (Nat.le_of_ble_eq_true rfl) rfl (fun _ h => f_X2_readThing_ok h) hf (fun μ101 hf => ?_)
                        refine E_goto (pc := 153) (tgt := 174) dX2_readClause_153 (by decide) ?_
                        exact E_vret (pc := 174) dX2_readClause_174 rfl hf
                      · refine ifS hf (fun n91_4 hf => ?_) (fun n91_4 hf => ?_)
                        · refine E_tswI (pc := 91) (tgt := 156) (4) dX2_readClause_91 (by rw [n91_4]; decide) (by decide) (by decide) rfl (by decide) ?_
                          refine E_aload_n (pc := 156) dX2_readClause_156 rfl ?_
                          refine E_Vv (pc := 157) (d2 := D_X2_readNet) (ci := 2) [] dX2_readClause_157 ml_X2_84 mf_X2_readNet im_X2_readNet rfl rfl rfl (by decide) (Nat.le_of_ble_eq_true rfl) (Nat.le_of_ble_eq_true rfl) rfl (fun _ h => f_X2_readNet_ok h) hf (fun μ100 hf => ?_)
                          refine E_goto (pc := 160) (tgt := 174) dX2_readClause_160 (by decide) ?_
                          exact E_vret (pc := 174) dX2_readClause_174 rfl hf
                        · refine ifS hf (fun n91_5 hf => ?_) (fun n91_5 hf => ?_)
                          · refine E_tswI (pc := 91) (tgt := 163) (5) dX2_readClause_91 (by rw [n91_5]; decide) (by decide) (by decide) rfl (by decide) ?_
                            refine E_aload_n (pc := 163) dX2_readClause_163 rfl ?_
                            refine E_Vv (pc := 164) (d2 := D_X2_readLesson) (ci := 2) [] dX2_readClause_164 ml_X2_87 mf_X2_readLesson im_X2_readLesson rfl rfl rfl (by decide) (Nat.le_of_ble_eq_true rfl) (Nat.le_of_ble_eq_true rfl) rfl (fun _ h => f_X2_readLesson_ok h) hf (fun μ99 hf => ?_)
                            refine E_goto (pc := 167) (tgt := 174) dX2_readClause_167 (by decide) ?_
                            exact E_vret (pc := 174) dX2_readClause_174 rfl hf
                          · refine E_tswD (pc := 91) (tgt := 170) dX2_readClause_91 (by have q0 : ¬ (x10).toInt = 0 := i32ne n91_0; have q1 : ¬ (x10).toInt = 1 := i32ne n91_1; have q2 : ¬ (x10).toInt = 2 := i32ne n91_2; have q3 : ¬ (x10).toInt = 3 := i32ne n91_3; have q4 : ¬ (x10).toInt = 4 := i32ne n91_4; have q5 : ¬ (x10).toInt = 5 := i32ne n91_5;  omega) (by decide) ?_
                            refine E_aload_n (pc := 170) dX2_readClause_170 rfl ?_
                            refine E_Vv (pc := 171) (d2 := D_X2_readAfter) (ci := 2) [] dX2_readClause_171 ml_X2_90 mf_X2_readAfter im_X2_readAfter rfl rfl rfl (by decide) (Nat.le_of_ble_eq_true rfl) (Nat.le_of_ble_eq_true rfl) rfl (fun _ h => f_X2_readAfter_ok h) hf (fun μ98 hf => ?_)
                            exact E_vret (pc := 174) dX2_readClause_174 rfl hf
              · refine E_aload_n (pc := 80) dX2_readClause_80 rfl ?_
                refine E_getR (pc := 81) dX2_readClause_81 fl_X2_22 hf (fun v105 hf => ?_)
                refine E_iload_n (pc := 84) dX2_readClause_84 rfl ?_
                refine E_iconst (pc := 85) (v := (4 : Int32)) dX2_readClause_85 (by decide) ?_
                refine E_Vv (pc := 86) (d2 := D_X9_fail) (ci := 9) [.int x6, .int (4 : Int32)] dX2_readClause_86 ml_X2_64 mf_X9_fail im_X9_fail rfl rfl rfl (by decide) (Nat.le_of_ble_eq_true rfl) (Nat.le_of_ble_eq_true rfl) rfl (fun _ h => f_X9_fail_ok h) hf (fun μ106 hf => ?_)
                exact E_vret (pc := 89) dX2_readClause_89 rfl hf
          · refine E_aload_n (pc := 80) dX2_readClause_80 rfl ?_
            refine E_getR (pc := 81) dX2_readClause_81 fl_X2_22 hf (fun v107 hf => ?_)
            refine E_iload_n (pc := 84) dX2_readClause_84 rfl ?_
            refine E_iconst (pc := 85) (v := (4 : Int32)) dX2_readClause_85 (by decide) ?_
            refine E_Vv (pc := 86) (d2 := D_X9_fail) (ci := 9) [.int x6, .int (4 : Int32)] dX2_readClause_86 ml_X2_64 mf_X9_fail im_X9_fail rfl rfl rfl (by decide) (Nat.le_of_ble_eq_true rfl) (Nat.le_of_ble_eq_true rfl) rfl (fun _ h => f_X9_fail_ok h) hf (fun μ108 hf => ?_)
            exact E_vret (pc := 89) dX2_readClause_89 rfl hf
      · refine E_iconst (pc := 50) (v := (0 : Int32)) dX2_readClause_50 (by decide) ?_
        refine E_icmp_eq (pc := 51) (tgt := 58) dX2_readClause_51 (by decide) hf (fun hf => ?_) (fun hf => ?_)
        · refine E_iconst (pc := 58) (v := (0 : Int32)) dX2_readClause_58 (by decide) ?_
          refine E_istore (pc := 59) (ls' := fun x109 => [(4, .int x109), (3, .int x10), (2, .int x6), (0, .ref a1), (1, .int x2)]) dX2_readClause_59 (by decide) (fun _ => rfl) hf (fun x109 hf => ?_)
          refine E_iload (pc := 61) dX2_readClause_61 rfl ?_
          refine E_if_ne (pc := 63) (tgt := 80) dX2_readClause_63 (by decide) hf (fun hf => ?_) (fun hf => ?_)
          · refine E_iload_n (pc := 66) dX2_readClause_66 rfl ?_
            refine E_bipush (pc := 67) (v := (40 : Int32)) dX2_readClause_67 (by decide) ?_
            refine E_icmp_ge (pc := 69) (tgt := 80) dX2_readClause_69 (by decide) hf (fun hf => ?_) (fun hf => ?_)
            · refine E_aload_n (pc := 80) dX2_readClause_80 rfl ?_
              refine E_getR (pc := 81) dX2_readClause_81 fl_X2_22 hf (fun v110 hf => ?_)
              refine E_iload_n (pc := 84) dX2_readClause_84 rfl ?_
              refine E_iconst (pc := 85) (v := (4 : Int32)) dX2_readClause_85 (by decide) ?_
              refine E_Vv (pc := 86) (d2 := D_X9_fail) (ci := 9) [.int x6, .int (4 : Int32)] dX2_readClause_86 ml_X2_64 mf_X9_fail im_X9_fail rfl rfl rfl (by decide) (Nat.le_of_ble_eq_true rfl) (Nat.le_of_ble_eq_true rfl) rfl (fun _ h => f_X9_fail_ok h) hf (fun μ111 hf => ?_)
              exact E_vret (pc := 89) dX2_readClause_89 rfl hf
            · refine E_aload_n (pc := 72) dX2_readClause_72 rfl ?_
              refine E_iload_n (pc := 73) dX2_readClause_73 rfl ?_
              refine E_Vi (pc := 74) (d2 := D_X2_isFull) (ci := 2) [.int x10] dX2_readClause_74 ml_X2_68 mf_X2_isFull im_X2_isFull rfl rfl rfl (by decide) (Nat.le_of_ble_eq_true rfl) (Nat.le_of_ble_eq_true rfl) rfl (fun _ _ h => f_X2_isFull_ok h) hf (fun v113 μ112 hf => ?_)
              refine E_if_eq (pc := 77) (tgt := 90) dX2_readClause_77 (by decide) hf (fun hf => ?_) (fun hf => ?_)
              · refine E_iload_n (pc := 90) dX2_readClause_90 rfl ?_
                refine ifS hf (fun n91_0 hf => ?_) (fun n91_0 hf => ?_)
                · refine E_tswI (pc := 91) (tgt := 128) (0) dX2_readClause_91 (by rw [n91_0]; decide) (by decide) (by decide) rfl (by decide) ?_
                  refine E_aload_n (pc := 128) dX2_readClause_128 rfl ?_
                  refine E_Vv (pc := 129) (d2 := D_X2_readSize) (ci := 2) [] dX2_readClause_129 ml_X2_72 mf_X2_readSize im_X2_readSize rfl rfl rfl (by decide) (Nat.le_of_ble_eq_true rfl) (Nat.le_of_ble_eq_true rfl) rfl (fun _ h => f_X2_readSize_ok h) hf (fun μ120 hf => ?_)
                  refine E_goto (pc := 132) (tgt := 174) dX2_readClause_132 (by decide) ?_
                  exact E_vret (pc := 174) dX2_readClause_174 rfl hf
                · refine ifS hf (fun n91_1 hf => ?_) (fun n91_1 hf => ?_)
                  · refine E_tswI (pc := 91) (tgt := 135) (1) dX2_readClause_91 (by rw [n91_1]; decide) (by decide) (by decide) rfl (by decide) ?_
                    refine E_aload_n (pc := 135) dX2_readClause_135 rfl ?_
                    refine E_Vv (pc := 136) (d2 := D_X2_readRow) (ci := 2) [] dX2_readClause_136 ml_X2_75 mf_X2_readRow im_X2_readRow rfl rfl rfl (by decide) (Nat.le_of_ble_eq_true rfl) (Nat.le_of_ble_eq_true rfl) rfl (fun _ h => f_X2_readRow_ok h) hf (fun μ119 hf => ?_)
                    refine E_goto (pc := 139) (tgt := 174) dX2_readClause_139 (by decide) ?_
                    exact E_vret (pc := 174) dX2_readClause_174 rfl hf
                  · refine ifS hf (fun n91_2 hf => ?_) (fun n91_2 hf => ?_)
                    · refine E_tswI (pc := 91) (tgt := 142) (2) dX2_readClause_91 (by rw [n91_2]; decide) (by decide) (by decide) rfl (by decide) ?_
                      refine E_aload_n (pc := 142) dX2_readClause_142 rfl ?_
                      refine E_Vv (pc := 143) (d2 := D_X2_readPerson) (ci := 2) [] dX2_readClause_143 ml_X2_78 mf_X2_readPerson im_X2_readPerson rfl rfl rfl (by decide) (Nat.le_of_ble_eq_true rfl) (Nat.le_of_ble_eq_true rfl) rfl (fun _ h => f_X2_readPerson_ok h) hf (fun μ118 hf => ?_)
                      refine E_goto (pc := 146) (tgt := 174) dX2_readClause_146 (by decide) ?_
                      exact E_vret (pc := 174) dX2_readClause_174 rfl hf
                    · refine ifS hf (fun n91_3 hf => ?_) (fun n91_3 hf => ?_)
                      · refine E_tswI (pc := 91) (tgt := 149) (3) dX2_readClause_91 (by rw [n91_3]; decide) (by decide) (by decide) rfl (by decide) ?_
                        refine E_aload_n (pc := 149) dX2_readClause_149 rfl ?_
                        refine E_Vv (pc := 150) (d2 := D_X2_readThing) (ci := 2) [] dX2_readClause_150 ml_X2_81 mf_X2_readThing im_X2_readThing rfl rfl rfl (by decide) (Nat.le_of_ble_eq_true rfl) (Nat.le_of_ble_eq_true rfl) rfl (fun _ h => f_X2_readThing_ok h) hf (fun μ117 hf => ?_)
                        refine E_goto (pc := 153) (tgt := 174) dX2_readClause_153 (by decide) ?_
                        exact E_vret (pc := 174) dX2_readClause_174 rfl hf
                      · refine ifS hf (fun n91_4 hf => ?_) (fun n91_4 hf => ?_)
                        · refine E_tswI (pc := 91) (tgt := 156) (4) dX2_readClause_91 (by rw [n91_4]; decide) (by decide) (by decide) rfl (by decide) ?_
                          refine E_aload_n (pc := 156) dX2_readClause_156 rfl ?_
                          refine E_Vv (pc := 157) (d2 := D_X2_readNet) (ci := 2) [] dX2_readClause_157 ml_X2_84 mf_X2_readNet im_X2_readNet rfl rfl rfl (by decide) (Nat.le_of_ble_eq_true rfl) (Nat.le_of_ble_eq_true rfl) rfl (fun _ h => f_X2_readNet_ok h) hf (fun μ116 hf => ?_)
                          refine E_goto (pc := 160) (tgt := 174) dX2_readClause_160 (by decide) ?_
                          exact E_vret (pc := 174) dX2_readClause_174 rfl hf
                        · refine ifS hf (fun n91_5 hf => ?_) (fun n91_5 hf => ?_)
                          · refine E_tswI (pc := 91) (tgt := 163) (5) dX2_readClause_91 (by rw [n91_5]; decide) (by decide) (by decide) rfl (by decide) ?_
                            refine E_aload_n (pc := 163) dX2_readClause_163 rfl ?_
                            refine E_Vv (pc := 164) (d2 := D_X2_readLesson) (ci := 2) [] dX2_readClause_164 ml_X2_87 mf_X2_readLesson im_X2_readLesson rfl rfl rfl (by decide) (Nat.le_of_ble_eq_true rfl) (Nat.le_of_ble_eq_true rfl) rfl (fun _ h => f_X2_readLesson_ok h) hf (fun μ115 hf => ?_)
                            refine E_goto (pc := 167) (tgt := 174) dX2_readClause_167 (by decide) ?_
                            exact E_vret (pc := 174) dX2_readClause_174 rfl hf
                          · refine E_tswD (pc := 91) (tgt := 170) dX2_readClause_91 (by have q0 : ¬ (x10).toInt = 0 := i32ne n91_0; have q1 : ¬ (x10).toInt = 1 := i32ne n91_1; have q2 : ¬ (x10).toInt = 2 := i32ne n91_2; have q3 : ¬ (x10).toInt = 3 := i32ne n91_3; have q4 : ¬ (x10).toInt = 4 := i32ne n91_4; have q5 : ¬ (x10).toInt = 5 := i32ne n91_5;  omega) (by decide) ?_
                            refine E_aload_n (pc := 170) dX2_readClause_170 rfl ?_
                            refine E_Vv (pc := 171) (d2 := D_X2_readAfter) (ci := 2) [] dX2_readClause_171 ml_X2_90 mf_X2_readAfter im_X2_readAfter rfl rfl rfl (by decide) (Nat.le_of_ble_eq_true rfl) (Nat.le_of_ble_eq_true rfl) rfl (fun _ h => f_X2_readAfter_ok h) hf (fun μ114 hf => ?_)
                            exact E_vret (pc := 174) dX2_readClause_174 rfl hf
              · refine E_aload_n (pc := 80) dX2_readClause_80 rfl ?_
                refine E_getR (pc := 81) dX2_readClause_81 fl_X2_22 hf (fun v121 hf => ?_)
                refine E_iload_n (pc := 84) dX2_readClause_84 rfl ?_
                refine E_iconst (pc := 85) (v := (4 : Int32)) dX2_readClause_85 (by decide) ?_
                refine E_Vv (pc := 86) (d2 := D_X9_fail) (ci := 9) [.int x6, .int (4 : Int32)] dX2_readClause_86 ml_X2_64 mf_X9_fail im_X9_fail rfl rfl rfl (by decide) (Nat.le_of_ble_eq_true rfl) (Nat.le_of_ble_eq_true rfl) rfl (fun _ h => f_X9_fail_ok h) hf (fun μ122 hf => ?_)
                exact E_vret (pc := 89) dX2_readClause_89 rfl hf
          · refine E_aload_n (pc := 80) dX2_readClause_80 rfl ?_
            refine E_getR (pc := 81) dX2_readClause_81 fl_X2_22 hf (fun v123 hf => ?_)
            refine E_iload_n (pc := 84) dX2_readClause_84 rfl ?_
            refine E_iconst (pc := 85) (v := (4 : Int32)) dX2_readClause_85 (by decide) ?_
            refine E_Vv (pc := 86) (d2 := D_X9_fail) (ci := 9) [.int x6, .int (4 : Int32)] dX2_readClause_86 ml_X2_64 mf_X9_fail im_X9_fail rfl rfl rfl (by decide) (Nat.le_of_ble_eq_true rfl) (Nat.le_of_ble_eq_true rfl) rfl (fun _ h => f_X9_fail_ok h) hf (fun μ124 hf => ?_)
            exact E_vret (pc := 89) dX2_readClause_89 rfl hf
        · refine E_iconst (pc := 54) (v := (1 : Int32)) dX2_readClause_54 (by decide) ?_
          refine E_goto (pc := 55) (tgt := 59) dX2_readClause_55 (by decide) ?_
          refine E_istore (pc := 59) (ls' := fun x125 => [(4, .int x125), (3, .int x10), (2, .int x6), (0, .ref a1), (1, .int x2)]) dX2_readClause_59 (by decide) (fun _ => rfl) hf (fun x125 hf => ?_)
          refine E_iload (pc := 61) dX2_readClause_61 rfl ?_
          refine E_if_ne (pc := 63) (tgt := 80) dX2_readClause_63 (by decide) hf (fun hf => ?_) (fun hf => ?_)
          · refine E_iload_n (pc := 66) dX2_readClause_66 rfl ?_
            refine E_bipush (pc := 67) (v := (40 : Int32)) dX2_readClause_67 (by decide) ?_
            refine E_icmp_ge (pc := 69) (tgt := 80) dX2_readClause_69 (by decide) hf (fun hf => ?_) (fun hf => ?_)
            · refine E_aload_n (pc := 80) dX2_readClause_80 rfl ?_
              refine E_getR (pc := 81) dX2_readClause_81 fl_X2_22 hf (fun v126 hf => ?_)
              refine E_iload_n (pc := 84) dX2_readClause_84 rfl ?_
              refine E_iconst (pc := 85) (v := (4 : Int32)) dX2_readClause_85 (by decide) ?_
              refine E_Vv (pc := 86) (d2 := D_X9_fail) (ci := 9) [.int x6, .int (4 : Int32)] dX2_readClause_86 ml_X2_64 mf_X9_fail im_X9_fail rfl rfl rfl (by decide) (Nat.le_of_ble_eq_true rfl) (Nat.le_of_ble_eq_true rfl) rfl (fun _ h => f_X9_fail_ok h) hf (fun μ127 hf => ?_)
              exact E_vret (pc := 89) dX2_readClause_89 rfl hf
            · refine E_aload_n (pc := 72) dX2_readClause_72 rfl ?_
              refine E_iload_n (pc := 73) dX2_readClause_73 rfl ?_
              refine E_Vi (pc := 74) (d2 := D_X2_isFull) (ci := 2) [.int x10] dX2_readClause_74 ml_X2_68 mf_X2_isFull im_X2_isFull rfl rfl rfl (by decide) (Nat.le_of_ble_eq_true rfl) (Nat.le_of_ble_eq_true rfl) rfl (fun _ _ h => f_X2_isFull_ok h) hf (fun v129 μ128 hf => ?_)
              refine E_if_eq (pc := 77) (tgt := 90) dX2_readClause_77 (by decide) hf (fun hf => ?_) (fun hf => ?_)
              · refine E_iload_n (pc := 90) dX2_readClause_90 rfl ?_
                refine ifS hf (fun n91_0 hf => ?_) (fun n91_0 hf => ?_)
                · refine E_tswI (pc := 91) (tgt := 128) (0) dX2_readClause_91 (by rw [n91_0]; decide) (by decide) (by decide) rfl (by decide) ?_
                  refine E_aload_n (pc := 128) dX2_readClause_128 rfl ?_
                  refine E_Vv (pc := 129) (d2 := D_X2_readSize) (ci := 2) [] dX2_readClause_129 ml_X2_72 mf_X2_readSize im_X2_readSize rfl rfl rfl (by decide) (Nat.le_of_ble_eq_true rfl) (Nat.le_of_ble_eq_true rfl) rfl (fun _ h => f_X2_readSize_ok h) hf (fun μ136 hf => ?_)
                  refine E_goto (pc := 132) (tgt := 174) dX2_readClause_132 (by decide) ?_
                  exact E_vret (pc := 174) dX2_readClause_174 rfl hf
                · refine ifS hf (fun n91_1 hf => ?_) (fun n91_1 hf => ?_)
                  · refine E_tswI (pc := 91) (tgt := 135) (1) dX2_readClause_91 (by rw [n91_1]; decide) (by decide) (by decide) rfl (by decide) ?_
                    refine E_aload_n (pc := 135) dX2_readClause_135 rfl ?_
                    refine E_Vv (pc := 136) (d2 := D_X2_readRow) (ci := 2) [] dX2_readClause_136 ml_X2_75 mf_X2_readRow im_X2_readRow rfl rfl rfl (by decide) (Nat.le_of_ble_eq_true rfl) (Nat.le_of_ble_eq_true rfl) rfl (fun _ h => f_X2_readRow_ok h) hf (fun μ135 hf => ?_)
                    refine E_goto (pc := 139) (tgt := 174) dX2_readClause_139 (by decide) ?_
                    exact E_vret (pc := 174) dX2_readClause_174 rfl hf
                  · refine ifS hf (fun n91_2 hf => ?_) (fun n91_2 hf => ?_)
                    · refine E_tswI (pc := 91) (tgt := 142) (2) dX2_readClause_91 (by rw [n91_2]; decide) (by decide) (by decide) rfl (by decide) ?_
                      refine E_aload_n (pc := 142) dX2_readClause_142 rfl ?_
                      refine E_Vv (pc := 143) (d2 := D_X2_readPerson) (ci := 2) [] dX2_readClause_143 ml_X2_78 mf_X2_readPerson im_X2_readPerson rfl rfl rfl (by decide) (Nat.le_of_ble_eq_true rfl) (Nat.le_of_ble_eq_true rfl) rfl (fun _ h => f_X2_readPerson_ok h) hf (fun μ134 hf => ?_)
                      refine E_goto (pc := 146) (tgt := 174) dX2_readClause_146 (by decide) ?_
                      exact E_vret (pc := 174) dX2_readClause_174 rfl hf
                    · refine ifS hf (fun n91_3 hf => ?_) (fun n91_3 hf => ?_)
                      · refine E_tswI (pc := 91) (tgt := 149) (3) dX2_readClause_91 (by rw [n91_3]; decide) (by decide) (by decide) rfl (by decide) ?_
                        refine E_aload_n (pc := 149) dX2_readClause_149 rfl ?_
                        refine E_Vv (pc := 150) (d2 := D_X2_readThing) (ci := 2) [] dX2_readClause_150 ml_X2_81 mf_X2_readThing im_X2_readThing rfl rfl rfl (by decide) (Nat.le_of_ble_eq_true rfl) (Nat.le_of_ble_eq_true rfl) rfl (fun _ h => f_X2_readThing_ok h) hf (fun μ133 hf => ?_)
                        refine E_goto (pc := 153) (tgt := 174) dX2_readClause_153 (by decide) ?_
                        exact E_vret (pc := 174) dX2_readClause_174 rfl hf
                      · refine ifS hf (fun n91_4 hf => ?_) (fun n91_4 hf => ?_)
                        · refine E_tswI (pc := 91) (tgt := 156) (4) dX2_readClause_91 (by rw [n91_4]; decide) (by decide) (by decide) rfl (by decide) ?_
                          refine E_aload_n (pc := 156) dX2_readClause_156 rfl ?_
                          refine E_Vv (pc := 157) (d2 := D_X2_readNet) (ci := 2) [] dX2_readClause_157 ml_X2_84 mf_X2_readNet im_X2_readNet rfl rfl rfl (by decide) (Nat.le_of_ble_eq_true rfl) (Nat.le_of_ble_eq_true rfl) rfl (fun _ h => f_X2_readNet_ok h) hf (fun μ132 hf => ?_)
                          refine E_goto (pc := 160) (tgt := 174) dX2_readClause_160 (by decide) ?_
                          exact E_vret (pc := 174) dX2_readClause_174 rfl hf
                        · refine ifS hf (fun n91_5 hf => ?_) (fun n91_5 hf => ?_)
                          · refine E_tswI (pc := 91) (tgt := 163) (5) dX2_readClause_91 (by rw [n91_5]; decide) (by decide) (by decide) rfl (by decide) ?_
                            refine E_aload_n (pc := 163) dX2_readClause_163 rfl ?_
                            refine E_Vv (pc := 164) (d2 := D_X2_readLesson) (ci := 2) [] dX2_readClause_164 ml_X2_87 mf_X2_readLesson im_X2_readLesson rfl rfl rfl (by decide) (Nat.le_of_ble_eq_true rfl) (Nat.le_of_ble_eq_true rfl) rfl (fun _ h => f_X2_readLesson_ok h) hf (fun μ131 hf => ?_)
                            refine E_goto (pc := 167) (tgt := 174) dX2_readClause_167 (by decide) ?_
                            exact E_vret (pc := 174) dX2_readClause_174 rfl hf
                          · refine E_tswD (pc := 91) (tgt := 170) dX2_readClause_91 (by have q0 : ¬ (x10).toInt = 0 := i32ne n91_0; have q1 : ¬ (x10).toInt = 1 := i32ne n91_1; have q2 : ¬ (x10).toInt = 2 := i32ne n91_2; have q3 : ¬ (x10).toInt = 3 := i32ne n91_3; have q4 : ¬ (x10).toInt = 4 := i32ne n91_4; have q5 : ¬ (x10).toInt = 5 := i32ne n91_5;  omega) (by decide) ?_
                            refine E_aload_n (pc := 170) dX2_readClause_170 rfl ?_
                            refine E_Vv (pc := 171) (d2 := D_X2_readAfter) (ci := 2) [] dX2_readClause_171 ml_X2_90 mf_X2_readAfter im_X2_readAfter rfl rfl rfl (by decide) (Nat.le_of_ble_eq_true rfl) (Nat.le_of_ble_eq_true rfl) rfl (fun _ h => f_X2_readAfter_ok h) hf (fun μ130 hf => ?_)
                            exact E_vret (pc := 174) dX2_readClause_174 rfl hf
              · refine E_aload_n (pc := 80) dX2_readClause_80 rfl ?_
                refine E_getR (pc := 81) dX2_readClause_81 fl_X2_22 hf (fun v137 hf => ?_)
                refine E_iload_n (pc := 84) dX2_readClause_84 rfl ?_
                refine E_iconst (pc := 85) (v := (4 : Int32)) dX2_readClause_85 (by decide) ?_
                refine E_Vv (pc := 86) (d2 := D_X9_fail) (ci := 9) [.int x6, .int (4 : Int32)] dX2_readClause_86 ml_X2_64 mf_X9_fail im_X9_fail rfl rfl rfl (by decide) (Nat.le_of_ble_eq_true rfl) (Nat.le_of_ble_eq_true rfl) rfl (fun _ h => f_X9_fail_ok h) hf (fun μ138 hf => ?_)
                exact E_vret (pc := 89) dX2_readClause_89 rfl hf
          · refine E_aload_n (pc := 80) dX2_readClause_80 rfl ?_
            refine E_getR (pc := 81) dX2_readClause_81 fl_X2_22 hf (fun v139 hf => ?_)
            refine E_iload_n (pc := 84) dX2_readClause_84 rfl ?_
            refine E_iconst (pc := 85) (v := (4 : Int32)) dX2_readClause_85 (by decide) ?_
            refine E_Vv (pc := 86) (d2 := D_X9_fail) (ci := 9) [.int x6, .int (4 : Int32)] dX2_readClause_86 ml_X2_64 mf_X9_fail im_X9_fail rfl rfl rfl (by decide) (Nat.le_of_ble_eq_true rfl) (Nat.le_of_ble_eq_true rfl) rfl (fun _ h => f_X9_fail_ok h) hf (fun μ140 hf => ?_)
            exact E_vret (pc := 89) dX2_readClause_89 rfl hf
theorem dX2_readAll_0 : decode cX2_readAll 0 = .ok (.aload_n 0, 1) := by decide +kernel
theorem dX2_readAll_1 : decode cX2_readAll 1 = .ok (.getfield 22, 3) := by decide +kernel
theorem dX2_readAll_4 : decode cX2_readAll 4 = .ok (.invokevirtual 26, 3) := by decide +kernel
theorem dX2_readAll_7 : decode cX2_readAll 7 = .ok (.aload_n 0, 1) := by decide +kernel
theorem dX2_readAll_8 : decode cX2_readAll 8 = .ok (.new 9, 3) := by decide +kernel
theorem dX2_readAll_11 : decode cX2_readAll 11 = .ok (.dup, 1) := by decide +kernel
theorem dX2_readAll_12 : decode cX2_readAll 12 = .ok (.invokespecial 11, 3) := by decide +kernel
theorem dX2_readAll_15 : decode cX2_readAll 15 = .ok (.putfield 12, 3) := by decide +kernel
theorem dX2_readAll_18 : decode cX2_readAll 18 = .ok (.aload_n 0, 1) := by decide +kernel
theorem dX2_readAll_19 : decode cX2_readAll 19 = .ok (.iconst 0, 1) := by decide +kernel
theorem dX2_readAll_20 : decode cX2_readAll 20 = .ok (.putfield 18, 3) := by decide +kernel
theorem dX2_readAll_23 : decode cX2_readAll 23 = .ok (.iconst 1, 1) := by decide +kernel
theorem dX2_readAll_24 : decode cX2_readAll 24 = .ok (.istore_n 1, 1) := by decide +kernel
theorem dX2_readAll_25 : decode cX2_readAll 25 = .ok (.iconst 0, 1) := by decide +kernel
theorem dX2_readAll_26 : decode cX2_readAll 26 = .ok (.istore_n 2, 1) := by decide +kernel
theorem dX2_readAll_27 : decode cX2_readAll 27 = .ok (.iload_n 2, 1) := by decide +kernel
theorem dX2_readAll_28 : decode cX2_readAll 28 = .ok (.bipush 40, 2) := by decide +kernel
theorem dX2_readAll_30 : decode cX2_readAll 30 = .ok (.if_icmp .gt 44, 3) := by decide +kernel
theorem dX2_readAll_33 : decode cX2_readAll 33 = .ok (.iload_n 1, 1) := by decide +kernel
theorem dX2_readAll_34 : decode cX2_readAll 34 = .ok (.ifCond .eq 40, 3) := by decide +kernel
theorem dX2_readAll_37 : decode cX2_readAll 37 = .ok (.aload_n 0, 1) := by decide +kernel
theorem dX2_readAll_38 : decode cX2_readAll 38 = .ok (.iload_n 2, 1) := by decide +kernel
theorem dX2_readAll_39 : decode cX2_readAll 39 = .ok (.invokevirtual 31, 3) := by decide +kernel
theorem dX2_readAll_42 : decode cX2_readAll 42 = .ok (.aload_n 0, 1) := by decide +kernel
theorem dX2_readAll_43 : decode cX2_readAll 43 = .ok (.getfield 22, 3) := by decide +kernel
theorem dX2_readAll_46 : decode cX2_readAll 46 = .ok (.invokevirtual 35, 3) := by decide +kernel
theorem dX2_readAll_49 : decode cX2_readAll 49 = .ok (.ifCond .eq 17, 3) := by decide +kernel
theorem dX2_readAll_52 : decode cX2_readAll 52 = .ok (.aload_n 0, 1) := by decide +kernel
theorem dX2_readAll_53 : decode cX2_readAll 53 = .ok (.getfield 22, 3) := by decide +kernel
theorem dX2_readAll_56 : decode cX2_readAll 56 = .ok (.invokevirtual 39, 3) := by decide +kernel
theorem dX2_readAll_59 : decode cX2_readAll 59 = .ok (.ifCond .eq 7, 3) := by decide +kernel
theorem dX2_readAll_62 : decode cX2_readAll 62 = .ok (.iconst 1, 1) := by decide +kernel
theorem dX2_readAll_63 : decode cX2_readAll 63 = .ok (.goto 4, 3) := by decide +kernel
theorem dX2_readAll_66 : decode cX2_readAll 66 = .ok (.iconst 0, 1) := by decide +kernel
theorem dX2_readAll_67 : decode cX2_readAll 67 = .ok (.istore_n 1, 1) := by decide +kernel
theorem dX2_readAll_68 : decode cX2_readAll 68 = .ok (.iinc 2 1, 3) := by decide +kernel
theorem dX2_readAll_71 : decode cX2_readAll 71 = .ok (.goto (-44), 3) := by decide +kernel
theorem dX2_readAll_74 : decode cX2_readAll 74 = .ok (.aload_n 0, 1) := by decide +kernel
theorem dX2_readAll_75 : decode cX2_readAll 75 = .ok (.getfield 22, 3) := by decide +kernel
theorem dX2_readAll_78 : decode cX2_readAll 78 = .ok (.invokevirtual 35, 3) := by decide +kernel
theorem dX2_readAll_81 : decode cX2_readAll 81 = .ok (.ifCond .eq 20, 3) := by decide +kernel
theorem dX2_readAll_84 : decode cX2_readAll 84 = .ok (.aload_n 0, 1) := by decide +kernel
theorem dX2_readAll_85 : decode cX2_readAll 85 = .ok (.getfield 12, 3) := by decide +kernel
theorem dX2_readAll_88 : decode cX2_readAll 88 = .ok (.invokevirtual 42, 3) := by decide +kernel
theorem dX2_readAll_91 : decode cX2_readAll 91 = .ok (.aload_n 0, 1) := by decide +kernel
theorem dX2_readAll_92 : decode cX2_readAll 92 = .ok (.getfield 12, 3) := by decide +kernel
theorem dX2_readAll_95 : decode cX2_readAll 95 = .ok (.getfield 45, 3) := by decide +kernel
theorem dX2_readAll_98 : decode cX2_readAll 98 = .ok (.invokevirtual 49, 3) := by decide +kernel
theorem dX2_readAll_101 : decode cX2_readAll 101 = .ok (.aload_n 0, 1) := by decide +kernel
theorem dX2_readAll_102 : decode cX2_readAll 102 = .ok (.getfield 22, 3) := by decide +kernel
theorem dX2_readAll_105 : decode cX2_readAll 105 = .ok (.invokevirtual 35, 3) := by decide +kernel
theorem dX2_readAll_108 : decode cX2_readAll 108 = .ok (.ireturn, 1) := by decide +kernel
abbrev D_X2_readAll : Nat := 9
def f_X2_readAll_L27 (K74 : Mm → Nat → Option (Int32 × Mm)) : Nat → Mm → Nat → Int32 → Int32 → Option (Int32 × Mm)
  | 0, _, _, _, _ => none
  | n + 1, μ0, a11, x12, x13 =>
    (if (40 : Int32) < x13 then
    K74 μ0 a11
    else
    (if x12 = 0 then
    K74 μ0 a11
    else
    ((ob μ0 a11 2).bind fun _ =>
    ((f_X2_readClause μ0 a11 x13).bind fun μ14 =>
    ((gR μ14 a11 2 0).bind fun v15 =>
    ((ob μ14 v15 9).bind fun _ =>
    (bd (f_X9_isSound μ14 v15) fun v17 μ16 =>
    (if v17 = 0 then
    (nm (0 : Int32) fun x18 =>
    (nm (x13 + Int32.ofInt (1)) fun x19 =>
    f_X2_readAll_L27 K74 n μ16 a11 x18 x19))
    else
    ((gR μ16 a11 2 0).bind fun v20 =>
    ((ob μ16 v20 9).bind fun _ =>
    (bd (f_X9_goesOn μ16 v20) fun v22 μ21 =>
    (if v22 = 0 then
    (nm (0 : Int32) fun x23 =>
    (nm (x13 + Int32.ofInt (1)) fun x24 =>
    f_X2_readAll_L27 K74 n μ21 a11 x23 x24))
    else
    (nm (1 : Int32) fun x25 =>
    (nm (x13 + Int32.ofInt (1)) fun x26 =>
    f_X2_readAll_L27 K74 n μ21 a11 x25 x26))))))))))))))
set_option maxHeartbeats 4000000 in
set_option maxRecDepth 100000 in
theorem f_X2_readAll_L27_ok {l : Launch} {G : GG} {K74 : Mm → Nat → Option (Int32 × Mm)} {r : Int32} {μ' : Mm} (n : Nat) (μ0 : Mm) (a11 : Nat) (x12 : Int32) (x13 : Int32) (hf : f_X2_readAll_L27 K74 n μ0 a11 x12 x13 = some (r, μ')) (hK74 : ∀ (μ1 : Mm) (y0 : Nat), K74 μ1 y0 = some (r, μ') → Ev l G D_X2_readAll yX2_readAll cX2_readAll 3 (some .boolean) 74 [(0, .ref y0)] [] μ1 (some (.int r)) μ') : Ev l G D_X2_readAll yX2_readAll cX2_readAll 3 (some .boolean) 27 [(0, .ref a11), (1, .int x12), (2, .int x13)] [] μ0 (some (.int r)) μ' := by
  induction n generalizing μ0 a11 x12 x13 with
  | zero => cases hf
  | succ n ih0 =>
    have ih : ∀ (μ0 : Mm) (a11 : Nat) (x12 : Int32) (x13 : Int32), f_X2_readAll_L27 K74 n μ0 a11 x12 x13 = some (r, μ') → Ev l G D_X2_readAll yX2_readAll cX2_readAll 3 (some .boolean) 27 [(0, .ref a11), (1, .int x12), (2, .int x13)] [] μ0 (some (.int r)) μ' := fun μ0 a11 x12 x13 hf => ih0 μ0 a11 x12 x13 hf
    rw [f_X2_readAll_L27] at hf
    refine E_iload_n (pc := 27) dX2_readAll_27 rfl ?_
    refine E_bipush (pc := 28) (v := (40 : Int32)) dX2_readAll_28 (by decide) ?_
    refine E_icmp_gt (pc := 30) (tgt := 74) dX2_readAll_30 (by decide) hf (fun hf => ?_) (fun hf => ?_)
    · refine Ev.sub [0] rfl ?_
      exact hK74 _ _ hf
    · refine E_iload_n (pc := 33) dX2_readAll_33 rfl ?_
      refine E_if_eq (pc := 34) (tgt := 74) dX2_readAll_34 (by decide) hf (fun hf => ?_) (fun hf => ?_)
      · refine Ev.sub [0] rfl ?_
        exact hK74 _ _ hf
      · refine E_aload_n (pc := 37) dX2_readAll_37 rfl ?_
        refine E_iload_n (pc := 38) dX2_readAll_38 rfl ?_
        refine E_Vv (pc := 39) (d2 := D_X2_readClause) (ci := 2) [.int x13] dX2_readAll_39 ml_X2_31 mf_X2_readClause im_X2_readClause rfl rfl rfl (by decide) (Nat.le_of_ble_eq_true rfl) (Nat.le_of_ble_eq_true rfl) rfl (fun _ h => f_X2_readClause_ok h) hf (fun μ14 hf => ?_)
        refine E_aload_n (pc := 42) dX2_readAll_42 rfl ?_
        refine E_getR (pc := 43) dX2_readAll_43 fl_X2_22 hf (fun v15 hf => ?_)
        refine E_Vi (pc := 46) (d2 := D_X9_isSound) (ci := 9) [] dX2_readAll_46 ml_X2_35 mf_X9_isSound im_X9_isSound rfl rfl rfl (by decide) (Nat.le_of_ble_eq_true rfl) (Nat.le_of_ble_eq_true rfl) rfl (fun _ _ h => f_X9_isSound_ok h) hf (fun v17 μ16 hf => ?_)
        refine E_if_eq (pc := 49) (tgt := 66) dX2_readAll_49 (by decide) hf (fun hf => ?_) (fun hf => ?_)
        · refine E_iconst (pc := 66) (v := (0 : Int32)) dX2_readAll_66 (by decide) ?_
          refine E_istore_n (pc := 67) (ls' := fun x18 => [(1, .int x18), (0, .ref a11), (2, .int x13)]) dX2_readAll_67 (by decide) (fun _ => rfl) hf (fun x18 hf => ?_)
          refine E_iinc (pc := 68) (ls' := fun x19 => [(2, .int x19), (1, .int x18), (0, .ref a11)]) dX2_readAll_68 rfl (by decide) (fun _ => rfl) hf (fun x19 hf => ?_)
          refine E_goto (pc := 71) (tgt := 27) dX2_readAll_71 (by decide) ?_
          refine Ev.sub [2, 1, 0] rfl ?_
          exact ih _ _ _ _ hf
        · refine E_aload_n (pc := 52) dX2_readAll_52 rfl ?_
          refine E_getR (pc := 53) dX2_readAll_53 fl_X2_22 hf (fun v20 hf => ?_)
          refine E_Vi (pc := 56) (d2 := D_X9_goesOn) (ci := 9) [] dX2_readAll_56 ml_X2_39 mf_X9_goesOn im_X9_goesOn rfl rfl rfl (by decide) (Nat.le_of_ble_eq_true rfl) (Nat.le_of_ble_eq_true rfl) rfl (fun _ _ h => f_X9_goesOn_ok h) hf (fun v22 μ21 hf => ?_)
          refine E_if_eq (pc := 59) (tgt := 66) dX2_readAll_59 (by decide) hf (fun hf => ?_) (fun hf => ?_)
          · refine E_iconst (pc := 66) (v := (0 : Int32)) dX2_readAll_66 (by decide) ?_
            refine E_istore_n (pc := 67) (ls' := fun x23 => [(1, .int x23), (0, .ref a11), (2, .int x13)]) dX2_readAll_67 (by decide) (fun _ => rfl) hf (fun x23 hf => ?_)
            refine E_iinc (pc := 68) (ls' := fun x24 => [(2, .int x24), (1, .int x23), (0, .ref a11)]) dX2_readAll_68 rfl (by decide) (fun _ => rfl) hf (fun x24 hf => ?_)
            refine E_goto (pc := 71) (tgt := 27) dX2_readAll_71 (by decide) ?_
            refine Ev.sub [2, 1, 0] rfl ?_
            exact ih _ _ _ _ hf
          · refine E_iconst (pc := 62) (v := (1 : Int32)) dX2_readAll_62 (by decide) ?_
            refine E_goto (pc := 63) (tgt := 67) dX2_readAll_63 (by decide) ?_
            refine E_istore_n (pc := 67) (ls' := fun x25 => [(1, .int x25), (0, .ref a11), (2, .int x13)]) dX2_readAll_67 (by decide) (fun _ => rfl) hf (fun x25 hf => ?_)
            refine E_iinc (pc := 68) (ls' := fun x26 => [(2, .int x26), (1, .int x25), (0, .ref a11)]) dX2_readAll_68 rfl (by decide) (fun _ => rfl) hf (fun x26 hf => ?_)
            refine E_goto (pc := 71) (tgt := 27) dX2_readAll_71 (by decide) ?_
            refine Ev.sub [2, 1, 0] rfl ?_
            exact ih _ _ _ _ hf
set_option maxRecDepth 100000 in
def f_X2_readAll (μ0 : Mm) (a1 : Nat) : Option (Int32 × Mm) :=
 ((gR μ0 a1 2 0).bind fun v2 =>
    ((ob μ0 v2 9).bind fun _ =>
    ((f_X9_rewind μ0 v2).bind fun μ3 =>
    (bd (nO μ3 1 15 [.int 0, .int 0, .int 0, .null, .null, .long 0, .int 0, .null, .null, .int 0, .null, .null, .null, .null, .null]) fun a4 μ5 =>
    ((f_X1_init μ5 a4).bind fun μ6 =>
    ((pV μ6 a1 2 1 (.ref a4)).bind fun μ7 =>
    ((pV μ7 a1 2 2 (.int (0 : Int32))).bind fun μ8 =>
    (nm (1 : Int32) fun x9 =>
    (nm (0 : Int32) fun x10 =>
    f_X2_readAll_L27 (fun μ27 a28 =>
    ((gR μ27 a28 2 0).bind fun v29 =>
    ((ob μ27 v29 9).bind fun _ =>
    (bd (f_X9_isSound μ27 v29) fun v31 μ30 =>
    (if v31 = 0 then
    ((gR μ30 a28 2 0).bind fun v32 =>
    ((ob μ30 v32 9).bind fun _ =>
    (bd (f_X9_isSound μ30 v32) fun v34 μ33 =>
    (if v34 = 0 ∨ v34 = 1 then some (v34, μ33) else none))))
    else
    ((gR μ30 a28 2 1).bind fun v35 =>
    ((ob μ30 v35 1).bind fun _ =>
    ((f_X1_findLeads μ30 v35).bind fun μ36 =>
    ((gR μ36 a28 2 1).bind fun v37 =>
    ((gR μ36 v37 1 14).bind fun v38 =>
    ((ob μ36 v38 3).bind fun _ =>
    ((f_X3_setInRow μ36 v38).bind fun μ39 =>
    ((gR μ39 a28 2 0).bind fun v40 =>
    ((ob μ39 v40 9).bind fun _ =>
    (bd (f_X9_isSound μ39 v40) fun v42 μ41 =>
    (if v42 = 0 ∨ v42 = 1 then some (v42, μ41) else none)))))))))))))))) FU μ8 a1 x9 x10)))))))))
set_option maxHeartbeats 4000000 in
set_option maxRecDepth 100000 in
theorem f_X2_readAll_ok {l : Launch} {G : GG} {μ0 : Mm} {a1 : Nat} {r : Int32} {μ' : Mm} (hf : f_X2_readAll μ0 a1 = some (r, μ')) : EvM l G D_X2_readAll yX2_readAll cX2_readAll 3 (some .boolean) [.ref a1] μ0 (some (.int r)) μ' := by
  show Ev l G D_X2_readAll yX2_readAll cX2_readAll 3 (some .boolean) 0 [(0, .ref a1)] [] μ0 (some (.int r)) μ'
  unfold f_X2_readAll at hf
  refine E_aload_n (pc := 0) dX2_readAll_0 rfl ?_
  refine E_getR (pc := 1) dX2_readAll_1 fl_X2_22 hf (fun v2 hf => ?_)
  refine E_Vv (pc := 4) (d2 := D_X9_rewind) (ci := 9) [] dX2_readAll_4 ml_X2_26 mf_X9_rewind im_X9_rewind rfl rfl rfl (by decide) (Nat.le_of_ble_eq_true rfl) (Nat.le_of_ble_eq_true rfl) rfl (fun _ h => f_X9_rewind_ok h) hf (fun μ3 hf => ?_)
  refine E_aload_n (pc := 7) dX2_readAll_7 rfl ?_
  refine E_new2 (pc := 8) dX2_readAll_8 nl_X2_9 hf (fun a4 μ5 hf => ?_)
  refine E_dup (pc := 11) dX2_readAll_11 rfl ?_
  refine E_INv (pc := 12) (d2 := D_X1_init) [] dX2_readAll_12 ml_X2_11 mf_X1_init ii_X1_init rfl rfl (by decide) (Nat.le_of_ble_eq_true rfl) (Nat.le_of_ble_eq_true rfl) rfl (fun _ h => f_X1_init_ok h) hf (fun μ6 hf => ?_)
  refine E_putR (pc := 15) dX2_readAll_15 (pl_X2_12 _) hf (fun μ7 hf => ?_)
  refine E_aload_n (pc := 18) dX2_readAll_18 rfl ?_
  refine E_iconst (pc := 19) (v := (0 : Int32)) dX2_readAll_19 (by decide) ?_
  refine E_putI (pc := 20) dX2_readAll_20 (pl_X2_18 _) hf (fun μ8 hf => ?_)
  refine E_iconst (pc := 23) (v := (1 : Int32)) dX2_readAll_23 (by decide) ?_
  refine E_istore_n (pc := 24) (ls' := fun x9 => [(1, .int x9), (0, .ref a1)]) dX2_readAll_24 (by decide) (fun _ => rfl) hf (fun x9 hf => ?_)
  refine E_iconst (pc := 25) (v := (0 : Int32)) dX2_readAll_25 (by decide) ?_
  refine E_istore_n (pc := 26) (ls' := fun x10 => [(2, .int x10), (1, .int x9), (0, .ref a1)]) dX2_readAll_26 (by decide) (fun _ => rfl) hf (fun x10 hf => ?_)
  refine Ev.sub [2, 1, 0] rfl ?_
  refine f_X2_readAll_L27_ok  _ _ _ _ _ hf (fun μ27 a28 hf => ?_)
  · refine E_aload_n (pc := 74) dX2_readAll_74 rfl ?_
    refine E_getR (pc := 75) dX2_readAll_75 fl_X2_22 hf (fun v29 hf => ?_)
    refine E_Vi (pc := 78) (d2 := D_X9_isSound) (ci := 9) [] dX2_readAll_78 ml_X2_35 mf_X9_isSound im_X9_isSound rfl rfl rfl (by decide) (Nat.le_of_ble_eq_true rfl) (Nat.le_of_ble_eq_true rfl) rfl (fun _ _ h => f_X9_isSound_ok h) hf (fun v31 μ30 hf => ?_)
    refine E_if_eq (pc := 81) (tgt := 101) dX2_readAll_81 (by decide) hf (fun hf => ?_) (fun hf => ?_)
    · refine E_aload_n (pc := 101) dX2_readAll_101 rfl ?_
      refine E_getR (pc := 102) dX2_readAll_102 fl_X2_22 hf (fun v32 hf => ?_)
      refine E_Vi (pc := 105) (d2 := D_X9_isSound) (ci := 9) [] dX2_readAll_105 ml_X2_35 mf_X9_isSound im_X9_isSound rfl rfl rfl (by decide) (Nat.le_of_ble_eq_true rfl) (Nat.le_of_ble_eq_true rfl) rfl (fun _ _ h => f_X9_isSound_ok h) hf (fun v34 μ33 hf => ?_)
      exact E_zret (pc := 108) dX2_readAll_108 rfl hf
    · refine E_aload_n (pc := 84) dX2_readAll_84 rfl ?_
      refine E_getR (pc := 85) dX2_readAll_85 fl_X2_12 hf (fun v35 hf => ?_)
      refine E_Vv (pc := 88) (d2 := D_X1_findLeads) (ci := 1) [] dX2_readAll_88 ml_X2_42 mf_X1_findLeads im_X1_findLeads rfl rfl rfl (by decide) (Nat.le_of_ble_eq_true rfl) (Nat.le_of_ble_eq_true rfl) rfl (fun _ h => f_X1_findLeads_ok h) hf (fun μ36 hf => ?_)
      refine E_aload_n (pc := 91) dX2_readAll_91 rfl ?_
      refine E_getR (pc := 92) dX2_readAll_92 fl_X2_12 hf (fun v37 hf => ?_)
      refine E_getR (pc := 95) dX2_readAll_95 fl_X2_45 hf (fun v38 hf => ?_)
      refine E_Vv (pc := 98) (d2 := D_X3_setInRow) (ci := 3) [] dX2_readAll_98 ml_X2_49 mf_X3_setInRow im_X3_setInRow rfl rfl rfl (by decide) (Nat.le_of_ble_eq_true rfl) (Nat.le_of_ble_eq_true rfl) rfl (fun _ h => f_X3_setInRow_ok h) hf (fun μ39 hf => ?_)
      refine E_aload_n (pc := 101) dX2_readAll_101 rfl ?_
      refine E_getR (pc := 102) dX2_readAll_102 fl_X2_22 hf (fun v40 hf => ?_)
      refine E_Vi (pc := 105) (d2 := D_X9_isSound) (ci := 9) [] dX2_readAll_105 ml_X2_35 mf_X9_isSound im_X9_isSound rfl rfl rfl (by decide) (Nat.le_of_ble_eq_true rfl) (Nat.le_of_ble_eq_true rfl) rfl (fun _ _ h => f_X9_isSound_ok h) hf (fun v42 μ41 hf => ?_)
      exact E_zret (pc := 108) dX2_readAll_108 rfl hf
