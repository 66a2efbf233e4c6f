theorem dX10_goDown_0 : decode cX10_goDown 0 = .ok (.aload_n 0, 1) := by decide +kernel
theorem dX10_goDown_1 : decode cX10_goDown 1 = .ok (.getfield 25, 3) := by decide +kernel
theorem dX10_goDown_4 : decode cX10_goDown 4 = .ok (.getfield 39, 3) := by decide +kernel
theorem dX10_goDown_7 : decode cX10_goDown 7 = .ok (.istore_n 2, 1) := by decide +kernel
theorem dX10_goDown_8 : decode cX10_goDown 8 = .ok (.iload_n 1, 1) := by decide +kernel
theorem dX10_goDown_9 : decode cX10_goDown 9 = .ok (.bipush 9, 2) := by decide +kernel
theorem dX10_goDown_11 : decode cX10_goDown 11 = .ok (.if_icmp .ge 29, 3) := by decide +kernel
theorem dX10_goDown_14 : decode cX10_goDown 14 = .ok (.aload_n 0, 1) := by decide +kernel
theorem dX10_goDown_15 : decode cX10_goDown 15 = .ok (.getfield 25, 3) := by decide +kernel
theorem dX10_goDown_18 : decode cX10_goDown 18 = .ok (.getfield 42, 3) := by decide +kernel
theorem dX10_goDown_21 : decode cX10_goDown 21 = .ok (.ifCond .ne 19, 3) := by decide +kernel
theorem dX10_goDown_24 : decode cX10_goDown 24 = .ok (.aload_n 0, 1) := by decide +kernel
theorem dX10_goDown_25 : decode cX10_goDown 25 = .ok (.getfield 25, 3) := by decide +kernel
theorem dX10_goDown_28 : decode cX10_goDown 28 = .ok (.getfield 46, 3) := by decide +kernel
theorem dX10_goDown_31 : decode cX10_goDown 31 = .ok (.getfield 50, 3) := by decide +kernel
theorem dX10_goDown_34 : decode cX10_goDown 34 = .ok (.iload_n 2, 1) := by decide +kernel
theorem dX10_goDown_35 : decode cX10_goDown 35 = .ok (.iaload, 1) := by decide +kernel
theorem dX10_goDown_36 : decode cX10_goDown 36 = .ok (.iconst (-1), 1) := by decide +kernel
theorem dX10_goDown_37 : decode cX10_goDown 37 = .ok (.if_icmp .ne 8, 3) := by decide +kernel
theorem dX10_goDown_40 : decode cX10_goDown 40 = .ok (.aload_n 0, 1) := by decide +kernel
theorem dX10_goDown_41 : decode cX10_goDown 41 = .ok (.invokevirtual 55, 3) := by decide +kernel
theorem dX10_goDown_44 : decode cX10_goDown 44 = .ok (.return_, 1) := by decide +kernel
theorem dX10_goDown_45 : decode cX10_goDown 45 = .ok (.aload_n 0, 1) := by decide +kernel
theorem dX10_goDown_46 : decode cX10_goDown 46 = .ok (.getfield 25, 3) := by decide +kernel
theorem dX10_goDown_49 : decode cX10_goDown 49 = .ok (.getfield 58, 3) := by decide +kernel
theorem dX10_goDown_52 : decode cX10_goDown 52 = .ok (.istore_n 3, 1) := by decide +kernel
theorem dX10_goDown_53 : decode cX10_goDown 53 = .ok (.aload_n 0, 1) := by decide +kernel
theorem dX10_goDown_54 : decode cX10_goDown 54 = .ok (.getfield 25, 3) := by decide +kernel
theorem dX10_goDown_57 : decode cX10_goDown 57 = .ok (.getfield 61, 3) := by decide +kernel
theorem dX10_goDown_60 : decode cX10_goDown 60 = .ok (.istore 4, 2) := by decide +kernel
theorem dX10_goDown_62 : decode cX10_goDown 62 = .ok (.iconst 0, 1) := by decide +kernel
theorem dX10_goDown_63 : decode cX10_goDown 63 = .ok (.istore 5, 2) := by decide +kernel
theorem dX10_goDown_65 : decode cX10_goDown 65 = .ok (.iload 5, 2) := by decide +kernel
theorem dX10_goDown_67 : decode cX10_goDown 67 = .ok (.iconst 4, 1) := by decide +kernel
theorem dX10_goDown_68 : decode cX10_goDown 68 = .ok (.if_icmp .ge 87, 3) := by decide +kernel
theorem dX10_goDown_71 : decode cX10_goDown 71 = .ok (.aload_n 0, 1) := by decide +kernel
theorem dX10_goDown_72 : decode cX10_goDown 72 = .ok (.getfield 25, 3) := by decide +kernel
theorem dX10_goDown_75 : decode cX10_goDown 75 = .ok (.getfield 46, 3) := by decide +kernel
theorem dX10_goDown_78 : decode cX10_goDown 78 = .ok (.iload_n 2, 1) := by decide +kernel
theorem dX10_goDown_79 : decode cX10_goDown 79 = .ok (.iload 5, 2) := by decide +kernel
theorem dX10_goDown_81 : decode cX10_goDown 81 = .ok (.invokevirtual 64, 3) := by decide +kernel
theorem dX10_goDown_84 : decode cX10_goDown 84 = .ok (.istore 6, 2) := by decide +kernel
theorem dX10_goDown_86 : decode cX10_goDown 86 = .ok (.iload 6, 2) := by decide +kernel
theorem dX10_goDown_88 : decode cX10_goDown 88 = .ok (.iconst (-1), 1) := by decide +kernel
theorem dX10_goDown_89 : decode cX10_goDown 89 = .ok (.if_icmp .eq 60, 3) := by decide +kernel
theorem dX10_goDown_92 : decode cX10_goDown 92 = .ok (.aload_n 0, 1) := by decide +kernel
theorem dX10_goDown_93 : decode cX10_goDown 93 = .ok (.getfield 9, 3) := by decide +kernel
theorem dX10_goDown_96 : decode cX10_goDown 96 = .ok (.iload_n 1, 1) := by decide +kernel
theorem dX10_goDown_97 : decode cX10_goDown 97 = .ok (.iload 5, 2) := by decide +kernel
theorem dX10_goDown_99 : decode cX10_goDown 99 = .ok (.iastore, 1) := by decide +kernel
theorem dX10_goDown_100 : decode cX10_goDown 100 = .ok (.aload_n 0, 1) := by decide +kernel
theorem dX10_goDown_101 : decode cX10_goDown 101 = .ok (.getfield 25, 3) := by decide +kernel
theorem dX10_goDown_104 : decode cX10_goDown 104 = .ok (.iload 6, 2) := by decide +kernel
theorem dX10_goDown_106 : decode cX10_goDown 106 = .ok (.invokevirtual 68, 3) := by decide +kernel
theorem dX10_goDown_109 : decode cX10_goDown 109 = .ok (.aload_n 0, 1) := by decide +kernel
theorem dX10_goDown_110 : decode cX10_goDown 110 = .ok (.iload_n 1, 1) := by decide +kernel
theorem dX10_goDown_111 : decode cX10_goDown 111 = .ok (.iconst 1, 1) := by decide +kernel
theorem dX10_goDown_112 : decode cX10_goDown 112 = .ok (.iadd, 1) := by decide +kernel
theorem dX10_goDown_113 : decode cX10_goDown 113 = .ok (.invokevirtual 35, 3) := by decide +kernel
theorem dX10_goDown_116 : decode cX10_goDown 116 = .ok (.aload_n 0, 1) := by decide +kernel
theorem dX10_goDown_117 : decode cX10_goDown 117 = .ok (.getfield 25, 3) := by decide +kernel
theorem dX10_goDown_120 : decode cX10_goDown 120 = .ok (.iload_n 2, 1) := by decide +kernel
theorem dX10_goDown_121 : decode cX10_goDown 121 = .ok (.putfield 39, 3) := by decide +kernel
theorem dX10_goDown_124 : decode cX10_goDown 124 = .ok (.aload_n 0, 1) := by decide +kernel
theorem dX10_goDown_125 : decode cX10_goDown 125 = .ok (.getfield 25, 3) := by decide +kernel
theorem dX10_goDown_128 : decode cX10_goDown 128 = .ok (.iload_n 3, 1) := by decide +kernel
theorem dX10_goDown_129 : decode cX10_goDown 129 = .ok (.putfield 58, 3) := by decide +kernel
theorem dX10_goDown_132 : decode cX10_goDown 132 = .ok (.aload_n 0, 1) := by decide +kernel
theorem dX10_goDown_133 : decode cX10_goDown 133 = .ok (.getfield 25, 3) := by decide +kernel
theorem dX10_goDown_136 : decode cX10_goDown 136 = .ok (.iload 4, 2) := by decide +kernel
theorem dX10_goDown_138 : decode cX10_goDown 138 = .ok (.putfield 61, 3) := by decide +kernel
theorem dX10_goDown_141 : decode cX10_goDown 141 = .ok (.aload_n 0, 1) := by decide +kernel
theorem dX10_goDown_142 : decode cX10_goDown 142 = .ok (.getfield 25, 3) := by decide +kernel
theorem dX10_goDown_145 : decode cX10_goDown 145 = .ok (.iload_n 1, 1) := by decide +kernel
theorem dX10_goDown_146 : decode cX10_goDown 146 = .ok (.putfield 71, 3) := by decide +kernel
theorem dX10_goDown_149 : decode cX10_goDown 149 = .ok (.iinc 5 1, 3) := by decide +kernel
theorem dX10_goDown_152 : decode cX10_goDown 152 = .ok (.goto (-87), 3) := by decide +kernel
theorem dX10_goDown_155 : decode cX10_goDown 155 = .ok (.return_, 1) := by decide +kernel
def o_X10_goDown_L65 (S_X10_goDown : Mm → Nat → Int32 → Option Mm) (K155 : Mm → Option Mm) : Nat → Mm → Nat → Int32 → Int32 → Int32 → Int32 → Int32 → Option Mm
  | 0, _, _, _, _, _, _, _ => none
  | n + 1, μ0, a21, x22, x23, x24, x25, x26 =>
    (if (4 : Int32) ≤ x26 then
    K155 μ0
    else
    ((gR μ0 a21 10 0).bind fun v27 =>
    ((gR μ0 v27 0 1).bind fun v28 =>
    ((ob μ0 v28 1).bind fun _ =>
    (bd (f_X1_lowerBeside μ0 v28 x23 x26) fun v30 μ29 =>
    (nm v30 fun x31 =>
    (if x31 = (-1 : Int32) then
    (nm (x26 + Int32.ofInt (1)) fun x32 =>
    o_X10_goDown_L65 S_X10_goDown K155 n μ29 a21 x22 x23 x24 x25 x32)
    else
    ((gR μ29 a21 10 1).bind fun v33 =>
    ((sI μ29 v33 0 x22 x26).bind fun μ34 =>
    ((gR μ34 a21 10 0).bind fun v35 =>
    ((ob μ34 v35 0).bind fun _ =>
    ((f_X0_stepTo μ34 v35 x31).bind fun μ36 =>
    ((ob μ36 a21 10).bind fun _ =>
    ((S_X10_goDown μ36 a21 (x22 + (1 : Int32))).bind fun μ37 =>
    ((gR μ37 a21 10 0).bind fun v38 =>
    ((pV μ37 v38 0 5 (.int x23)).bind fun μ39 =>
    ((gR μ39 a21 10 0).bind fun v40 =>
    ((pV μ39 v40 0 6 (.int x24)).bind fun μ41 =>
    ((gR μ41 a21 10 0).bind fun v42 =>
    ((pV μ41 v42 0 8 (.int x25)).bind fun μ43 =>
    ((gR μ43 a21 10 0).bind fun v44 =>
    ((pV μ43 v44 0 7 (.int x22)).bind fun μ45 =>
    (nm (x26 + Int32.ofInt (1)) fun x46 =>
    o_X10_goDown_L65 S_X10_goDown K155 n μ45 a21 x22 x23 x24 x25 x46)))))))))))))))))))))))
set_option maxHeartbeats 4000000 in
set_option maxRecDepth 100000 in
theorem o_X10_goDown_L65_ok {l : Launch} {G : GG} {D : Nat} (hD : 40 ≤ D) {S_X10_goDown : Mm → Nat → Int32 → Option Mm} {e_X10_goDown : Nat} (q_X10_goDown : e_X10_goDown < D) (h_X10_goDown : ∀ {μ1 : Mm} {z0 z1 : _} {μ2 : _}, S_X10_goDown μ1 z0 z1 = some μ2 → EvM l G e_X10_goDown yX10_goDown cX10_goDown 7 none [.ref z0, .int z1] μ1 none μ2) {K155 : Mm → Option Mm} {μ' : Mm} (n : Nat) (μ0 : Mm) (a21 : Nat) (x22 : Int32) (x23 : Int32) (x24 : Int32) (x25 : Int32) (x26 : Int32) (hf : o_X10_goDown_L65 S_X10_goDown K155 n μ0 a21 x22 x23 x24 x25 x26 = some μ') (hK155 : ∀ (μ1 : Mm), K155 μ1  = some μ' → Ev l G D yX10_goDown cX10_goDown 7 none 155 [] [] μ1 none μ') : Ev l G D yX10_goDown cX10_goDown 7 none 65 [(0, .ref a21), (1, .int x22), (2, .int x23), (3, .int x24), (4, .int x25), (5, .int x26)] [] μ0 none μ' := by
  induction n generalizing μ0 a21 x22 x23 x24 x25 x26 with
  | zero => cases hf
  | succ n ih0 =>
    have ih : ∀ (μ0 : Mm) (a21 : Nat) (x22 : Int32) (x23 : Int32) (x24 : Int32) (x25 : Int32) (x26 : Int32), o_X10_goDown_L65 S_X10_goDown K155 n μ0 a21 x22 x23 x24 x25 x26 = some μ' → Ev l G D yX10_goDown cX10_goDown 7 none 65 [(0, .ref a21), (1, .int x22), (2, .int x23), (3, .int x24), (4, .int x25), (5, .int x26)] [] μ0 none μ' := fun μ0 a21 x22 x23 x24 x25 x26 hf => ih0 μ0 a21 x22 x23 x24 x25 x26 hf
    rw [o_X10_goDown_L65] at hf
    refine E_iload (pc := 65) dX10_goDown_65 rfl ?_
    refine E_iconst (pc := 67) (v := (4 : Int32)) dX10_goDown_67 (by decide) ?_
    refine E_icmp_ge (pc := 68) (tgt := 155) dX10_goDown_68 (by decide) hf (fun hf => ?_) (fun hf => ?_)
    · refine Ev.sub [] rfl ?_
      exact hK155 _ hf
    · refine E_aload_n (pc := 71) dX10_goDown_71 rfl ?_
      refine E_getR (pc := 72) dX10_goDown_72 fl_X10_25 hf (fun v27 hf => ?_)
      refine E_getR (pc := 75) dX10_goDown_75 fl_X10_46 hf (fun v28 hf => ?_)
      refine E_iload_n (pc := 78) dX10_goDown_78 rfl ?_
      refine E_iload (pc := 79) dX10_goDown_79 rfl ?_
      refine E_Vi (pc := 81) (d2 := D_X1_lowerBeside) (ci := 1) [.int x23, .int x26] dX10_goDown_81 ml_X10_64 mf_X1_lowerBeside im_X1_lowerBeside rfl rfl rfl (Nat.lt_of_lt_of_le (by decide : D_X1_lowerBeside < 40) hD) (Nat.le_of_ble_eq_true rfl) (Nat.le_of_ble_eq_true rfl) rfl (fun _ _ h => f_X1_lowerBeside_ok h) hf (fun v30 μ29 hf => ?_)
      refine E_istore (pc := 84) (ls' := fun x31 => [(6, .int x31), (0, .ref a21), (1, .int x22), (2, .int x23), (3, .int x24), (4, .int x25), (5, .int x26)]) dX10_goDown_84 (by decide) (fun _ => rfl) hf (fun x31 hf => ?_)
      refine E_iload (pc := 86) dX10_goDown_86 rfl ?_
      refine E_iconst (pc := 88) (v := (-1 : Int32)) dX10_goDown_88 (by decide) ?_
      refine E_icmp_eq (pc := 89) (tgt := 149) dX10_goDown_89 (by decide) hf (fun hf => ?_) (fun hf => ?_)
      · refine E_iinc (pc := 149) (ls' := fun x32 => [(5, .int x32), (6, .int x31), (0, .ref a21), (1, .int x22), (2, .int x23), (3, .int x24), (4, .int x25)]) dX10_goDown_149 rfl (by decide) (fun _ => rfl) hf (fun x32 hf => ?_)
        refine E_goto (pc := 152) (tgt := 65) dX10_goDown_152 (by decide) ?_
        refine Ev.sub [2, 3, 4, 5, 6, 0] rfl ?_
        exact ih _ _ _ _ _ _ _ hf
      · refine E_aload_n (pc := 92) dX10_goDown_92 rfl ?_
        refine E_getR (pc := 93) dX10_goDown_93 fl_X10_9 hf (fun v33 hf => ?_)
        refine E_iload_n (pc := 96) dX10_goDown_96 rfl ?_
        refine E_iload (pc := 97) dX10_goDown_97 rfl ?_
        refine E_iast (pc := 99) dX10_goDown_99 hf (fun μ34 hf => ?_)
        refine E_aload_n (pc := 100) dX10_goDown_100 rfl ?_
        refine E_getR (pc := 101) dX10_goDown_101 fl_X10_25 hf (fun v35 hf => ?_)
        refine E_iload (pc := 104) dX10_goDown_104 rfl ?_
        refine E_Vv (pc := 106) (d2 := D_X0_stepTo) (ci := 0) [.int x31] dX10_goDown_106 ml_X10_68 mf_X0_stepTo im_X0_stepTo rfl rfl rfl (Nat.lt_of_lt_of_le (by decide : D_X0_stepTo < 40) hD) (Nat.le_of_ble_eq_true rfl) (Nat.le_of_ble_eq_true rfl) rfl (fun _ h => f_X0_stepTo_ok h) hf (fun μ36 hf => ?_)
        refine E_aload_n (pc := 109) dX10_goDown_109 rfl ?_
        refine E_iload_n (pc := 110) dX10_goDown_110 rfl ?_
        refine E_iconst (pc := 111) (v := (1 : Int32)) dX10_goDown_111 (by decide) ?_
        refine E_iadd (pc := 112) dX10_goDown_112 ?_
        refine E_Vv (pc := 113) (d2 := e_X10_goDown) (ci := 10) [.int (x22 + (1 : Int32))] dX10_goDown_113 ml_X10_35 mf_X10_goDown im_X10_goDown rfl rfl rfl q_X10_goDown (Nat.le_of_ble_eq_true rfl) (Nat.le_of_ble_eq_true rfl) rfl (fun _ h => h_X10_goDown h) hf (fun μ37 hf => ?_)
        refine E_aload_n (pc := 116) dX10_goDown_116 rfl ?_
        refine E_getR (pc := 117) dX10_goDown_117 fl_X10_25 hf (fun v38 hf => ?_)
        refine E_iload_n (pc := 120) dX10_goDown_120 rfl ?_
        refine E_putI (pc := 121) dX10_goDown_121 (pl_X10_39 _) hf (fun μ39 hf => ?_)
        refine E_aload_n (pc := 124) dX10_goDown_124 rfl ?_
        refine E_getR (pc := 125) dX10_goDown_125 fl_X10_25 hf (fun v40 hf => ?_)
        refine E_iload_n (pc := 128) dX10_goDown_128 rfl ?_
        refine E_putI (pc := 129) dX10_goDown_129 (pl_X10_58 _) hf (fun μ41 hf => ?_)
        refine E_aload_n (pc := 132) dX10_goDown_132 rfl ?_
        refine E_getR (pc := 133) dX10_goDown_133 fl_X10_25 hf (fun v42 hf => ?_)
        refine E_iload (pc := 136) dX10_goDown_136 rfl ?_
        refine E_putI (pc := 138) dX10_goDown_138 (pl_X10_61 _) hf (fun μ43 hf => ?_)
        refine E_aload_n (pc := 141) dX10_goDown_141 rfl ?_
        refine E_getR (pc := 142) dX10_goDown_142 fl_X10_25 hf (fun v44 hf => ?_)
        refine E_iload_n (pc := 145) dX10_goDown_145 rfl ?_
        refine E_putI (pc := 146) dX10_goDown_146 (pl_X10_71 _) hf (fun μ45 hf => ?_)
        refine E_iinc (pc := 149) (ls' := fun x46 => [(5, .int x46), (6, .int x31), (0, .ref a21), (1, .int x22), (2, .int x23), (3, .int x24), (4, .int x25)]) dX10_goDown_149 rfl (by decide) (fun _ => rfl) hf (fun x46 hf => ?_)
        refine E_goto (pc := 152) (tgt := 65) dX10_goDown_152 (by decide) ?_
        refine Ev.sub [2, 3, 4, 5, 6, 0] rfl ?_
        exact ih _ _ _ _ _ _ _ hf
set_option maxRecDepth 100000 in
def o_X10_goDown (S_X10_goDown : Mm → Nat → Int32 → Option Mm) (μ0 : Mm) (a1 : Nat) (x2 : Int32) : Option Mm :=
 ((gR μ0 a1 10 0).bind fun v3 =>
    ((gI μ0 v3 0 5).bind fun v4 =>
    (nm v4 fun x5 =>
    (if (9 : Int32) ≤ x2 then
    ((ob μ0 a1 10).bind fun _ =>
    ((f_X10_compare μ0 a1).bind fun μ6 =>
    (some μ6)))
    else
    ((gR μ0 a1 10 0).bind fun v7 =>
    ((gI μ0 v7 0 10).bind fun v8 =>
    (if v8 = 0 then
    ((gR μ0 a1 10 0).bind fun v9 =>
    ((gR μ0 v9 0 1).bind fun v10 =>
    ((gR μ0 v10 1 4).bind fun v11 =>
    ((aI μ0 v11 0 x5).bind fun v12 =>
    (if v12 = (-1 : Int32) then
    ((ob μ0 a1 10).bind fun _ =>
    ((f_X10_compare μ0 a1).bind fun μ13 =>
    (some μ13)))
    else
    ((gR μ0 a1 10 0).bind fun v14 =>
    ((gI μ0 v14 0 6).bind fun v15 =>
    (nm v15 fun x16 =>
    ((gR μ0 a1 10 0).bind fun v17 =>
    ((gI μ0 v17 0 8).bind fun v18 =>
    (nm v18 fun x19 =>
    (nm (0 : Int32) fun x20 =>
    o_X10_goDown_L65 S_X10_goDown (fun μ47 =>
    (some μ47)) FU μ0 a1 x2 x5 x16 x19 x20))))))))))))
    else
    ((ob μ0 a1 10).bind fun _ =>
    ((f_X10_compare μ0 a1).bind fun μ48 =>
    (some μ48))))))))))
set_option maxHeartbeats 4000000 in
set_option maxRecDepth 100000 in
theorem o_X10_goDown_ok {l : Launch} {G : GG} {D : Nat} (hD : 40 ≤ D) {S_X10_goDown : Mm → Nat → Int32 → Option Mm} {e_X10_goDown : Nat} (q_X10_goDown : e_X10_goDown < D) (h_X10_goDown : ∀ {μ1 : Mm} {z0 z1 : _} {μ2 : _}, S_X10_goDown μ1 z0 z1 = some μ2 → EvM l G e_X10_goDown yX10_goDown cX10_goDown 7 none [.ref z0, .int z1] μ1 none μ2) {μ0 : Mm} {a1 : Nat} {x2 : Int32} {μ' : Mm} (hf : o_X10_goDown S_X10_goDown μ0 a1 x2 = some μ') : EvM l G D yX10_goDown cX10_goDown 7 none [.ref a1, .int x2] μ0 none μ' := by
  show Ev l G D yX10_goDown cX10_goDown 7 none 0 [(0, .ref a1), (1, .int x2)] [] μ0 none μ'
  unfold o_X10_goDown at hf
  refine E_aload_n (pc := 0) dX10_goDown_0 rfl ?_
  refine E_getR (pc := 1) dX10_goDown_1 fl_X10_25 hf (fun v3 hf => ?_)
  refine E_getI (pc := 4) dX10_goDown_4 fl_X10_39 hf (fun v4 hf => ?_)
  refine E_istore_n (pc := 7) (ls' := fun x5 => [(2, .int x5), (0, .ref a1), (1, .int x2)]) dX10_goDown_7 (by decide) (fun _ => rfl) hf (fun x5 hf => ?_)
  refine E_iload_n (pc := 8) dX10_goDown_8 rfl ?_
  refine E_bipush (pc := 9) (v := (9 : Int32)) dX10_goDown_9 (by decide) ?_
  refine E_icmp_ge (pc := 11) (tgt := 40) dX10_goDown_11 (by decide) hf (fun hf => ?_) (fun hf => ?_)
  · refine E_aload_n (pc := 40) dX10_goDown_40 rfl ?_
    refine E_Vv (pc := 41) (d2 := D_X10_compare) (ci := 10) [] dX10_goDown_41 ml_X10_55 mf_X10_compare im_X10_compare rfl rfl rfl (Nat.lt_of_lt_of_le (by decide : D_X10_compare < 40) hD) (Nat.le_of_ble_eq_true rfl) (Nat.le_of_ble_eq_true rfl) rfl (fun _ h => f_X10_compare_ok h) hf (fun μ6 hf => ?_)
    exact E_vret (pc := 44) dX10_goDown_44 rfl hf
  · refine E_aload_n (pc := 14) dX10_goDown_14 rfl ?_
    refine E_getR (pc := 15) dX10_goDown_15 fl_X10_25 hf (fun v7 hf => ?_)
    refine E_getI (pc := 18) dX10_goDown_18 fl_X10_42 hf (fun v8 hf => ?_)
    refine E_if_ne (pc := 21) (tgt := 40) dX10_goDown_21 (by decide) hf (fun hf => ?_) (fun hf => ?_)
    · refine E_aload_n (pc := 24) dX10_goDown_24 rfl ?_
      refine E_getR (pc := 25) dX10_goDown_25 fl_X10_25 hf (fun v9 hf => ?_)
      refine E_getR (pc := 28) dX10_goDown_28 fl_X10_46 hf (fun v10 hf => ?_)
      refine E_getR (pc := 31) dX10_goDown_31 fl_X10_50 hf (fun v11 hf => ?_)
      refine E_iload_n (pc := 34) dX10_goDown_34 rfl ?_
      refine E_iald (pc := 35) dX10_goDown_35 hf (fun v12 hf => ?_)
      refine E_iconst (pc := 36) (v := (-1 : Int32)) dX10_goDown_36 (by decide) ?_
      refine E_icmp_ne (pc := 37) (tgt := 45) dX10_goDown_37 (by decide) hf (fun hf => ?_) (fun hf => ?_)
      · refine E_aload_n (pc := 40) dX10_goDown_40 rfl ?_
        refine E_Vv (pc := 41) (d2 := D_X10_compare) (ci := 10) [] dX10_goDown_41 ml_X10_55 mf_X10_compare im_X10_compare rfl rfl rfl (Nat.lt_of_lt_of_le (by decide : D_X10_compare < 40) hD) (Nat.le_of_ble_eq_true rfl) (Nat.le_of_ble_eq_true rfl) rfl (fun _ h => f_X10_compare_ok h) hf (fun μ13 hf => ?_)
        exact E_vret (pc := 44) dX10_goDown_44 rfl hf
      · refine E_aload_n (pc := 45) dX10_goDown_45 rfl ?_
        refine E_getR (pc := 46) dX10_goDown_46 fl_X10_25 hf (fun v14 hf => ?_)
        refine E_getI (pc := 49) dX10_goDown_49 fl_X10_58 hf (fun v15 hf => ?_)
        refine E_istore_n (pc := 52) (ls' := fun x16 => [(3, .int x16), (2, .int x5), (0, .ref a1), (1, .int x2)]) dX10_goDown_52 (by decide) (fun _ => rfl) hf (fun x16 hf => ?_)
        refine E_aload_n (pc := 53) dX10_goDown_53 rfl ?_
        refine E_getR (pc := 54) dX10_goDown_54 fl_X10_25 hf (fun v17 hf => ?_)
        refine E_getI (pc := 57) dX10_goDown_57 fl_X10_61 hf (fun v18 hf => ?_)
        refine E_istore (pc := 60) (ls' := fun x19 => [(4, .int x19), (3, .int x16), (2, .int x5), (0, .ref a1), (1, .int x2)]) dX10_goDown_60 (by decide) (fun _ => rfl) hf (fun x19 hf => ?_)
        refine E_iconst (pc := 62) (v := (0 : Int32)) dX10_goDown_62 (by decide) ?_
        refine E_istore (pc := 63) (ls' := fun x20 => [(5, .int x20), (4, .int x19), (3, .int x16), (2, .int x5), (0, .ref a1), (1, .int x2)]) dX10_goDown_63 (by decide) (fun _ => rfl) hf (fun x20 hf => ?_)
        refine Ev.sub [4, 5, 3, 2, 1, 0] rfl ?_
        refine o_X10_goDown_L65_ok hD q_X10_goDown h_X10_goDown _ _ _ _ _ _ _ _ hf (fun μ47 hf => ?_)
        · exact E_vret (pc := 155) dX10_goDown_155 rfl hf
    · refine E_aload_n (pc := 40) dX10_goDown_40 rfl ?_
      refine E_Vv (pc := 41) (d2 := D_X10_compare) (ci := 10) [] dX10_goDown_41 ml_X10_55 mf_X10_compare im_X10_compare rfl rfl rfl (Nat.lt_of_lt_of_le (by decide : D_X10_compare < 40) hD) (Nat.le_of_ble_eq_true rfl) (Nat.le_of_ble_eq_true rfl) rfl (fun _ h => f_X10_compare_ok h) hf (fun μ48 hf => ?_)
      exact E_vret (pc := 44) dX10_goDown_44 rfl hf
def fGD : Nat → Mm → Nat → Int32 → Option Mm
  | 0 => fun _ _ _ => none
  | n + 1 => o_X10_goDown (fGD n)
theorem fGD_ok {l : Launch} {G : GG} (n : Nat) : ∀ {μ1 : Mm} {z0 : Nat} {z1 : Int32} {μ2 : Mm}, fGD n μ1 z0 z1 = some μ2 → EvM l G (40 + n) yX10_goDown cX10_goDown 7 none [.ref z0, .int z1] μ1 none μ2 := by
  induction n with
  | zero => intro μ1 z0 z1 μ2 h; cases h
  | succ n ih =>
    have q : 40 + n < 40 + (n + 1) := by omega
    intro μ1 z0 z1 μ2 h
    exact o_X10_goDown_ok (by omega) q (fun h => ih h) h
abbrev D_X10_goDown : Nat := 52
def f_X10_goDown : Mm → Nat → Int32 → Option Mm := fGD 12
theorem f_X10_goDown_ok {l : Launch} {G : GG} {μ0 : Mm} {a1 : Nat} {x2 : Int32} {μ' : Mm} (hf : f_X10_goDown μ0 a1 x2 = some μ') : EvM l G D_X10_goDown yX10_goDown cX10_goDown 7 none [.ref a1, .int x2] μ0 none μ' := fGD_ok 12 hf
