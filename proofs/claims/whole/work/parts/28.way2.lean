theorem dX10_seek_0 : decode cX10_seek 0 = .ok (.aload_n 0, 1) := by decide +kernel
theorem dX10_seek_1 : decode cX10_seek 1 = .ok (.iconst (-1), 1) := by decide +kernel
theorem dX10_seek_2 : decode cX10_seek 2 = .ok (.putfield 18, 3) := by decide +kernel
theorem dX10_seek_5 : decode cX10_seek 5 = .ok (.aload_n 0, 1) := by decide +kernel
theorem dX10_seek_6 : decode cX10_seek 6 = .ok (.iconst 0, 1) := by decide +kernel
theorem dX10_seek_7 : decode cX10_seek 7 = .ok (.putfield 22, 3) := by decide +kernel
theorem dX10_seek_10 : decode cX10_seek 10 = .ok (.aload_n 0, 1) := by decide +kernel
theorem dX10_seek_11 : decode cX10_seek 11 = .ok (.getfield 25, 3) := by decide +kernel
theorem dX10_seek_14 : decode cX10_seek 14 = .ok (.aload_n 1, 1) := by decide +kernel
theorem dX10_seek_15 : decode cX10_seek 15 = .ok (.aload_n 2, 1) := by decide +kernel
theorem dX10_seek_16 : decode cX10_seek 16 = .ok (.iload_n 3, 1) := by decide +kernel
theorem dX10_seek_17 : decode cX10_seek 17 = .ok (.invokevirtual 29, 3) := by decide +kernel
theorem dX10_seek_20 : decode cX10_seek 20 = .ok (.aload_n 0, 1) := by decide +kernel
theorem dX10_seek_21 : decode cX10_seek 21 = .ok (.iconst 0, 1) := by decide +kernel
theorem dX10_seek_22 : decode cX10_seek 22 = .ok (.invokevirtual 35, 3) := by decide +kernel
theorem dX10_seek_25 : decode cX10_seek 25 = .ok (.return_, 1) := by decide +kernel
abbrev D_X10_seek : Nat := 53
set_option maxRecDepth 100000 in
def f_X10_seek (μ0 : Mm) (a1 : Nat) (a2 : Nat) (a3 : Nat) (x4 : Int32) : Option Mm :=
 ((pV μ0 a1 10 3 (.int (-1 : Int32))).bind fun μ5 =>
    ((pV μ5 a1 10 4 (.int (0 : Int32))).bind fun μ6 =>
    ((gR μ6 a1 10 0).bind fun v7 =>
    ((ob μ6 v7 0).bind fun _ =>
    ((f_X0_begin μ6 v7 a2 a3 x4).bind fun μ8 =>
    ((ob μ8 a1 10).bind fun _ =>
    ((f_X10_goDown μ8 a1 (0 : Int32)).bind fun μ9 =>
    (some μ9))))))))
set_option maxHeartbeats 4000000 in
set_option maxRecDepth 100000 in
theorem f_X10_seek_ok {l : Launch} {G : GG} {μ0 : Mm} {a1 : Nat} {a2 : Nat} {a3 : Nat} {x4 : Int32} {μ' : Mm} (hf : f_X10_seek μ0 a1 a2 a3 x4 = some μ') : EvM l G D_X10_seek yX10_seek cX10_seek 4 none [.ref a1, .ref a2, .ref a3, .int x4] μ0 none μ' := by
  show Ev l G D_X10_seek yX10_seek cX10_seek 4 none 0 [(0, .ref a1), (1, .ref a2), (2, .ref a3), (3, .int x4)] [] μ0 none μ'
  unfold f_X10_seek at hf
  refine E_aload_n (pc := 0) dX10_seek_0 rfl ?_
  refine E_iconst (pc := 1) (v := (-1 : Int32)) dX10_seek_1 (by decide) ?_
  refine E_putI (pc := 2) dX10_seek_2 (pl_X10_18 _) hf (fun μ5 hf => ?_)
  refine E_aload_n (pc := 5) dX10_seek_5 rfl ?_
  refine E_iconst (pc := 6) (v := (0 : Int32)) dX10_seek_6 (by decide) ?_
  refine E_putI (pc := 7) dX10_seek_7 (pl_X10_22 _) hf (fun μ6 hf => ?_)
  refine E_aload_n (pc := 10) dX10_seek_10 rfl ?_
  refine E_getR (pc := 11) dX10_seek_11 fl_X10_25 hf (fun v7 hf => ?_)
  refine E_aload_n (pc := 14) dX10_seek_14 rfl ?_
  refine E_aload_n (pc := 15) dX10_seek_15 rfl ?_
  refine E_iload_n (pc := 16) dX10_seek_16 rfl ?_
  refine E_Vv (pc := 17) (d2 := D_X0_begin) (ci := 0) [.ref a2, .ref a3, .int x4] dX10_seek_17 ml_X10_29 mf_X0_begin im_X0_begin rfl rfl rfl (by decide) (Nat.le_of_ble_eq_true rfl) (Nat.le_of_ble_eq_true rfl) rfl (fun _ h => f_X0_begin_ok h) hf (fun μ8 hf => ?_)
  refine E_aload_n (pc := 20) dX10_seek_20 rfl ?_
  refine E_iconst (pc := 21) (v := (0 : Int32)) dX10_seek_21 (by decide) ?_
  refine E_Vv (pc := 22) (d2 := D_X10_goDown) (ci := 10) [.int (0 : Int32)] dX10_seek_22 ml_X10_35 mf_X10_goDown im_X10_goDown rfl rfl rfl (by decide) (Nat.le_of_ble_eq_true rfl) (Nat.le_of_ble_eq_true rfl) rfl (fun _ h => f_X10_goDown_ok h) hf (fun μ9 hf => ?_)
  exact E_vret (pc := 25) dX10_seek_25 rfl hf
