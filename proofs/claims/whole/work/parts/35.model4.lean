theorem dX12_markOf_0 : decode cX12_markOf 0 = .ok (.aload_n 0, 1) := by decide +kernel
theorem dX12_markOf_1 : decode cX12_markOf 1 = .ok (.getfield 463, 3) := by decide +kernel
theorem dX12_markOf_4 : decode cX12_markOf 4 = .ok (.bipush 100, 2) := by decide +kernel
theorem dX12_markOf_6 : decode cX12_markOf 6 = .ok (.if_icmp .le 7, 3) := by decide +kernel
theorem dX12_markOf_9 : decode cX12_markOf 9 = .ok (.iconst 0, 1) := by decide +kernel
theorem dX12_markOf_10 : decode cX12_markOf 10 = .ok (.goto 10, 3) := by decide +kernel
theorem dX12_markOf_13 : decode cX12_markOf 13 = .ok (.bipush 100, 2) := by decide +kernel
theorem dX12_markOf_15 : decode cX12_markOf 15 = .ok (.aload_n 0, 1) := by decide +kernel
theorem dX12_markOf_16 : decode cX12_markOf 16 = .ok (.getfield 463, 3) := by decide +kernel
theorem dX12_markOf_19 : decode cX12_markOf 19 = .ok (.isub, 1) := by decide +kernel
theorem dX12_markOf_20 : decode cX12_markOf 20 = .ok (.ireturn, 1) := by decide +kernel
abbrev D_X12_markOf : Nat := 1
set_option maxRecDepth 100000 in
def f_X12_markOf (μ0 : Mm) (a1 : Nat) : Option (Int32 × Mm) :=
 ((gI μ0 a1 12 52).bind fun v2 =>
    (if v2 ≤ (100 : Int32) then
    ((gI μ0 a1 12 52).bind fun v3 =>
    (some (((100 : Int32) - v3), μ0)))
    else
    (some ((0 : Int32), μ0))))
set_option maxHeartbeats 4000000 in
set_option maxRecDepth 100000 in
theorem f_X12_markOf_ok {l : Launch} {G : GG} {μ0 : Mm} {a1 : Nat} {r : Int32} {μ' : Mm} (hf : f_X12_markOf μ0 a1 = some (r, μ')) : EvM l G D_X12_markOf yX12_markOf cX12_markOf 1 (some .int) [.ref a1] μ0 (some (.int r)) μ' := by
  show Ev l G D_X12_markOf yX12_markOf cX12_markOf 1 (some .int) 0 [(0, .ref a1)] [] μ0 (some (.int r)) μ'
  unfold f_X12_markOf at hf
  refine E_aload_n (pc := 0) dX12_markOf_0 rfl ?_
  refine E_getI (pc := 1) dX12_markOf_1 fl_X12_463 hf (fun v2 hf => ?_)
  refine E_bipush (pc := 4) (v := (100 : Int32)) dX12_markOf_4 (by decide) ?_
  refine E_icmp_le (pc := 6) (tgt := 13) dX12_markOf_6 (by decide) hf (fun hf => ?_) (fun hf => ?_)
  · refine E_bipush (pc := 13) (v := (100 : Int32)) dX12_markOf_13 (by decide) ?_
    refine E_aload_n (pc := 15) dX12_markOf_15 rfl ?_
    refine E_getI (pc := 16) dX12_markOf_16 fl_X12_463 hf (fun v3 hf => ?_)
    refine E_isub (pc := 19) dX12_markOf_19 ?_
    exact E_iret (pc := 20) dX12_markOf_20 rfl hf
  · refine E_iconst (pc := 9) (v := (0 : Int32)) dX12_markOf_9 (by decide) ?_
    refine E_goto (pc := 10) (tgt := 20) dX12_markOf_10 (by decide) ?_
    exact E_iret (pc := 20) dX12_markOf_20 rfl hf
theorem dX12_fallsNow_0 : decode cX12_fallsNow 0 = .ok (.aload_n 0, 1) := by decide +kernel
theorem dX12_fallsNow_1 : decode cX12_fallsNow 1 = .ok (.getfield 16, 3) := by decide +kernel
theorem dX12_fallsNow_4 : decode cX12_fallsNow 4 = .ok (.iload_n 1, 1) := by decide +kernel
theorem dX12_fallsNow_5 : decode cX12_fallsNow 5 = .ok (.aload_n 0, 1) := by decide +kernel
theorem dX12_fallsNow_6 : decode cX12_fallsNow 6 = .ok (.iload_n 1, 1) := by decide +kernel
theorem dX12_fallsNow_7 : decode cX12_fallsNow 7 = .ok (.aload_n 0, 1) := by decide +kernel
theorem dX12_fallsNow_8 : decode cX12_fallsNow 8 = .ok (.getfield 16, 3) := by decide +kernel
theorem dX12_fallsNow_11 : decode cX12_fallsNow 11 = .ok (.iload_n 1, 1) := by decide +kernel
theorem dX12_fallsNow_12 : decode cX12_fallsNow 12 = .ok (.iaload, 1) := by decide +kernel
theorem dX12_fallsNow_13 : decode cX12_fallsNow 13 = .ok (.iload_n 2, 1) := by decide +kernel
theorem dX12_fallsNow_14 : decode cX12_fallsNow 14 = .ok (.invokevirtual 476, 3) := by decide +kernel
theorem dX12_fallsNow_17 : decode cX12_fallsNow 17 = .ok (.iastore, 1) := by decide +kernel
theorem dX12_fallsNow_18 : decode cX12_fallsNow 18 = .ok (.aload_n 0, 1) := by decide +kernel
theorem dX12_fallsNow_19 : decode cX12_fallsNow 19 = .ok (.getfield 9, 3) := by decide +kernel
theorem dX12_fallsNow_22 : decode cX12_fallsNow 22 = .ok (.bipush 7, 2) := by decide +kernel
theorem dX12_fallsNow_24 : decode cX12_fallsNow 24 = .ok (.dup2, 1) := by decide +kernel
theorem dX12_fallsNow_25 : decode cX12_fallsNow 25 = .ok (.iaload, 1) := by decide +kernel
theorem dX12_fallsNow_26 : decode cX12_fallsNow 26 = .ok (.aload_n 0, 1) := by decide +kernel
theorem dX12_fallsNow_27 : decode cX12_fallsNow 27 = .ok (.getfield 443, 3) := by decide +kernel
theorem dX12_fallsNow_30 : decode cX12_fallsNow 30 = .ok (.ior, 1) := by decide +kernel
theorem dX12_fallsNow_31 : decode cX12_fallsNow 31 = .ok (.iastore, 1) := by decide +kernel
theorem dX12_fallsNow_32 : decode cX12_fallsNow 32 = .ok (.aload_n 0, 1) := by decide +kernel
theorem dX12_fallsNow_33 : decode cX12_fallsNow 33 = .ok (.invokevirtual 480, 3) := by decide +kernel
theorem dX12_fallsNow_36 : decode cX12_fallsNow 36 = .ok (.ireturn, 1) := by decide +kernel
abbrev D_X12_fallsNow : Nat := 8
set_option maxRecDepth 100000 in
def f_X12_fallsNow (μ0 : Mm) (a1 : Nat) (x2 : Int32) (x3 : Int32) : Option (Int32 × Mm) :=
 ((gR μ0 a1 12 3).bind fun v4 =>
    ((gR μ0 a1 12 3).bind fun v5 =>
    ((aI μ0 v5 0 x2).bind fun v6 =>
    ((ob μ0 a1 12).bind fun _ =>
    (bd (f_X12_falls μ0 a1 x2 v6 x3) fun v8 μ7 =>
    ((sI μ7 v4 0 x2 v8).bind fun μ9 =>
    ((gR μ9 a1 12 1).bind fun v10 =>
    ((aI μ9 v10 0 (7 : Int32)).bind fun v11 =>
    ((gI μ9 a1 12 51).bind fun v12 =>
    ((sI μ9 v10 0 (7 : Int32) (v11 ||| v12)).bind fun μ13 =>
    ((ob μ13 a1 12).bind fun _ =>
    (bd (f_X12_markOf μ13 a1) fun v15 μ14 =>
    (some (v15, μ14))))))))))))))
set_option maxHeartbeats 4000000 in
set_option maxRecDepth 100000 in
theorem f_X12_fallsNow_ok {l : Launch} {G : GG} {μ0 : Mm} {a1 : Nat} {x2 : Int32} {x3 : Int32} {r : Int32} {μ' : Mm} (hf : f_X12_fallsNow μ0 a1 x2 x3 = some (r, μ')) : EvM l G D_X12_fallsNow yX12_fallsNow cX12_fallsNow 3 (some .int) [.ref a1, .int x2, .int x3] μ0 (some (.int r)) μ' := by
  show Ev l G D_X12_fallsNow yX12_fallsNow cX12_fallsNow 3 (some .int) 0 [(0, .ref a1), (1, .int x2), (2, .int x3)] [] μ0 (some (.int r)) μ'
  unfold f_X12_fallsNow at hf
  refine E_aload_n (pc := 0) dX12_fallsNow_0 rfl ?_
  refine E_getR (pc := 1) dX12_fallsNow_1 fl_X12_16 hf (fun v4 hf => ?_)
  refine E_iload_n (pc := 4) dX12_fallsNow_4 rfl ?_
  refine E_aload_n (pc := 5) dX12_fallsNow_5 rfl ?_
  refine E_iload_n (pc := 6) dX12_fallsNow_6 rfl ?_
  refine E_aload_n (pc := 7) dX12_fallsNow_7 rfl ?_
  refine E_getR (pc := 8) dX12_fallsNow_8 fl_X12_16 hf (fun v5 hf => ?_)
  refine E_iload_n (pc := 11) dX12_fallsNow_11 rfl ?_
  refine E_iald (pc := 12) dX12_fallsNow_12 hf (fun v6 hf => ?_)
  refine E_iload_n (pc := 13) dX12_fallsNow_13 rfl ?_
  refine E_Vi (pc := 14) (d2 := D_X12_falls) (ci := 12) [.int x2, .int v6, .int x3] dX12_fallsNow_14 ml_X12_476 mf_X12_falls im_X12_falls rfl rfl rfl (by decide) (Nat.le_of_ble_eq_true rfl) (Nat.le_of_ble_eq_true rfl) rfl (fun _ _ h => f_X12_falls_ok h) hf (fun v8 μ7 hf => ?_)
  refine E_iast (pc := 17) dX12_fallsNow_17 hf (fun μ9 hf => ?_)
  refine E_aload_n (pc := 18) dX12_fallsNow_18 rfl ?_
  refine E_getR (pc := 19) dX12_fallsNow_19 fl_X12_9 hf (fun v10 hf => ?_)
  refine E_bipush (pc := 22) (v := (7 : Int32)) dX12_fallsNow_22 (by decide) ?_
  refine E_dup2 (pc := 24) dX12_fallsNow_24 rfl rfl ?_
  refine E_iald (pc := 25) dX12_fallsNow_25 hf (fun v11 hf => ?_)
  refine E_aload_n (pc := 26) dX12_fallsNow_26 rfl ?_
  refine E_getI (pc := 27) dX12_fallsNow_27 fl_X12_443 hf (fun v12 hf => ?_)
  refine E_ior (pc := 30) dX12_fallsNow_30 ?_
  refine E_iast (pc := 31) dX12_fallsNow_31 hf (fun μ13 hf => ?_)
  refine E_aload_n (pc := 32) dX12_fallsNow_32 rfl ?_
  refine E_Vi (pc := 33) (d2 := D_X12_markOf) (ci := 12) [] dX12_fallsNow_33 ml_X12_480 mf_X12_markOf im_X12_markOf rfl rfl rfl (by decide) (Nat.le_of_ble_eq_true rfl) (Nat.le_of_ble_eq_true rfl) rfl (fun _ _ h => f_X12_markOf_ok h) hf (fun v15 μ14 hf => ?_)
  exact E_iret (pc := 36) dX12_fallsNow_36 rfl hf
theorem dX12_moves_0 : decode cX12_moves 0 = .ok (.aload_n 0, 1) := by decide +kernel
theorem dX12_moves_1 : decode cX12_moves 1 = .ok (.getfield 483, 3) := by decide +kernel
theorem dX12_moves_4 : decode cX12_moves 4 = .ok (.ifCond .eq 15, 3) := by decide +kernel
theorem dX12_moves_7 : decode cX12_moves 7 = .ok (.aload_n 0, 1) := by decide +kernel
theorem dX12_moves_8 : decode cX12_moves 8 = .ok (.getfield 128, 3) := by decide +kernel
theorem dX12_moves_11 : decode cX12_moves 11 = .ok (.aload_n 0, 1) := by decide +kernel
theorem dX12_moves_12 : decode cX12_moves 12 = .ok (.getfield 487, 3) := by decide +kernel
theorem dX12_moves_15 : decode cX12_moves 15 = .ok (.iaload, 1) := by decide +kernel
theorem dX12_moves_16 : decode cX12_moves 16 = .ok (.goto 4, 3) := by decide +kernel
theorem dX12_moves_19 : decode cX12_moves 19 = .ok (.iload_n 1, 1) := by decide +kernel
theorem dX12_moves_20 : decode cX12_moves 20 = .ok (.istore_n 2, 1) := by decide +kernel
theorem dX12_moves_21 : decode cX12_moves 21 = .ok (.aload_n 0, 1) := by decide +kernel
theorem dX12_moves_22 : decode cX12_moves 22 = .ok (.getfield 128, 3) := by decide +kernel
theorem dX12_moves_25 : decode cX12_moves 25 = .ok (.aload_n 0, 1) := by decide +kernel
theorem dX12_moves_26 : decode cX12_moves 26 = .ok (.getfield 487, 3) := by decide +kernel
theorem dX12_moves_29 : decode cX12_moves 29 = .ok (.iload_n 2, 1) := by decide +kernel
theorem dX12_moves_30 : decode cX12_moves 30 = .ok (.iastore, 1) := by decide +kernel
theorem dX12_moves_31 : decode cX12_moves 31 = .ok (.aload_n 0, 1) := by decide +kernel
theorem dX12_moves_32 : decode cX12_moves 32 = .ok (.dup, 1) := by decide +kernel
theorem dX12_moves_33 : decode cX12_moves 33 = .ok (.getfield 487, 3) := by decide +kernel
theorem dX12_moves_36 : decode cX12_moves 36 = .ok (.iconst 1, 1) := by decide +kernel
theorem dX12_moves_37 : decode cX12_moves 37 = .ok (.iadd, 1) := by decide +kernel
theorem dX12_moves_38 : decode cX12_moves 38 = .ok (.putfield 487, 3) := by decide +kernel
theorem dX12_moves_41 : decode cX12_moves 41 = .ok (.iload_n 2, 1) := by decide +kernel
theorem dX12_moves_42 : decode cX12_moves 42 = .ok (.ireturn, 1) := by decide +kernel
abbrev D_X12_moves : Nat := 1
set_option maxRecDepth 100000 in
def f_X12_moves (μ0 : Mm) (a1 : Nat) (x2 : Int32) : Option (Int32 × Mm) :=
 ((gI μ0 a1 12 57).bind fun v3 =>
    (if v3 = 0 then
    (nm x2 fun x4 =>
    ((gR μ0 a1 12 53).bind fun v5 =>
    ((gI μ0 a1 12 56).bind fun v6 =>
    ((sI μ0 v5 0 v6 x4).bind fun μ7 =>
    ((gI μ7 a1 12 56).bind fun v8 =>
    ((pV μ7 a1 12 56 (.int (v8 + (1 : Int32)))).bind fun μ9 =>
    (some (x4, μ9))))))))
    else
    ((gR μ0 a1 12 53).bind fun v10 =>
    ((gI μ0 a1 12 56).bind fun v11 =>
    ((aI μ0 v10 0 v11).bind fun v12 =>
    (nm v12 fun x13 =>
    ((gR μ0 a1 12 53).bind fun v14 =>
    ((gI μ0 a1 12 56).bind fun v15 =>
    ((sI μ0 v14 0 v15 x13).bind fun μ16 =>
    ((gI μ16 a1 12 56).bind fun v17 =>
    ((pV μ16 a1 12 56 (.int (v17 + (1 : Int32)))).bind fun μ18 =>
    (some (x13, μ18)))))))))))))
set_option maxHeartbeats 4000000 in
set_option maxRecDepth 100000 in
theorem f_X12_moves_ok {l : Launch} {G : GG} {μ0 : Mm} {a1 : Nat} {x2 : Int32} {r : Int32} {μ' : Mm} (hf : f_X12_moves μ0 a1 x2 = some (r, μ')) : EvM l G D_X12_moves yX12_moves cX12_moves 3 (some .int) [.ref a1, .int x2] μ0 (some (.int r)) μ' := by
  show Ev l G D_X12_moves yX12_moves cX12_moves 3 (some .int) 0 [(0, .ref a1), (1, .int x2)] [] μ0 (some (.int r)) μ'
  unfold f_X12_moves at hf
  refine E_aload_n (pc := 0) dX12_moves_0 rfl ?_
  refine E_getI (pc := 1) dX12_moves_1 fl_X12_483 hf (fun v3 hf => ?_)
  refine E_if_eq (pc := 4) (tgt := 19) dX12_moves_4 (by decide) hf (fun hf => ?_) (fun hf => ?_)
  · refine E_iload_n (pc := 19) dX12_moves_19 rfl ?_
    refine E_istore_n (pc := 20) (ls' := fun x4 => [(2, .int x4), (0, .ref a1), (1, .int x2)]) dX12_moves_20 (by decide) (fun _ => rfl) hf (fun x4 hf => ?_)
    refine E_aload_n (pc := 21) dX12_moves_21 rfl ?_
    refine E_getR (pc := 22) dX12_moves_22 fl_X12_128 hf (fun v5 hf => ?_)
    refine E_aload_n (pc := 25) dX12_moves_25 rfl ?_
    refine E_getI (pc := 26) dX12_moves_26 fl_X12_487 hf (fun v6 hf => ?_)
    refine E_iload_n (pc := 29) dX12_moves_29 rfl ?_
    refine E_iast (pc := 30) dX12_moves_30 hf (fun μ7 hf => ?_)
    refine E_aload_n (pc := 31) dX12_moves_31 rfl ?_
    refine E_dup (pc := 32) dX12_moves_32 rfl ?_
    refine E_getI (pc := 33) dX12_moves_33 fl_X12_487 hf (fun v8 hf => ?_)
    refine E_iconst (pc := 36) (v := (1 : Int32)) dX12_moves_36 (by decide) ?_
    refine E_iadd (pc := 37) dX12_moves_37 ?_
    refine E_putI (pc := 38) dX12_moves_38 (pl_X12_487 _) hf (fun μ9 hf => ?_)
    refine E_iload_n (pc := 41) dX12_moves_41 rfl ?_
    exact E_iret (pc := 42) dX12_moves_42 rfl hf
  · refine E_aload_n (pc := 7) dX12_moves_7 rfl ?_
    refine E_getR (pc := 8) dX12_moves_8 fl_X12_128 hf (fun v10 hf => ?_)
    refine E_aload_n (pc := 11) dX12_moves_11 rfl ?_
    refine E_getI (pc := 12) dX12_moves_12 fl_X12_487 hf (fun v11 hf => ?_)
    refine E_iald (pc := 15) dX12_moves_15 hf (fun v12 hf => ?_)
    refine E_goto (pc := 16) (tgt := 20) dX12_moves_16 (by decide) ?_
    refine E_istore_n (pc := 20) (ls' := fun x13 => [(2, .int x13), (0, .ref a1), (1, .int x2)]) dX12_moves_20 (by decide) (fun _ => rfl) hf (fun x13 hf => ?_)
    refine E_aload_n (pc := 21) dX12_moves_21 rfl ?_
    refine E_getR (pc := 22) dX12_moves_22 fl_X12_128 hf (fun v14 hf => ?_)
    refine E_aload_n (pc := 25) dX12_moves_25 rfl ?_
    refine E_getI (pc := 26) dX12_moves_26 fl_X12_487 hf (fun v15 hf => ?_)
    refine E_iload_n (pc := 29) dX12_moves_29 rfl ?_
    refine E_iast (pc := 30) dX12_moves_30 hf (fun μ16 hf => ?_)
    refine E_aload_n (pc := 31) dX12_moves_31 rfl ?_
    refine E_dup (pc := 32) dX12_moves_32 rfl ?_
    refine E_getI (pc := 33) dX12_moves_33 fl_X12_487 hf (fun v17 hf => ?_)
    refine E_iconst (pc := 36) (v := (1 : Int32)) dX12_moves_36 (by decide) ?_
    refine E_iadd (pc := 37) dX12_moves_37 ?_
    refine E_putI (pc := 38) dX12_moves_38 (pl_X12_487 _) hf (fun μ18 hf => ?_)
    refine E_iload_n (pc := 41) dX12_moves_41 rfl ?_
    exact E_iret (pc := 42) dX12_moves_42 rfl hf
theorem dX12_movesRow_0 : decode cX12_movesRow 0 = .ok (.iconst 0, 1) := by decide +kernel
theorem dX12_movesRow_1 : decode cX12_movesRow 1 = .ok (.istore_n 2, 1) := by decide +kernel
theorem dX12_movesRow_2 : decode cX12_movesRow 2 = .ok (.iload_n 2, 1) := by decide +kernel
theorem dX12_movesRow_3 : decode cX12_movesRow 3 = .ok (.aload_n 1, 1) := by decide +kernel
theorem dX12_movesRow_4 : decode cX12_movesRow 4 = .ok (.arraylength, 1) := by decide +kernel
theorem dX12_movesRow_5 : decode cX12_movesRow 5 = .ok (.if_icmp .ge 19, 3) := by decide +kernel
theorem dX12_movesRow_8 : decode cX12_movesRow 8 = .ok (.aload_n 1, 1) := by decide +kernel
theorem dX12_movesRow_9 : decode cX12_movesRow 9 = .ok (.iload_n 2, 1) := by decide +kernel
theorem dX12_movesRow_10 : decode cX12_movesRow 10 = .ok (.aload_n 0, 1) := by decide +kernel
theorem dX12_movesRow_11 : decode cX12_movesRow 11 = .ok (.aload_n 1, 1) := by decide +kernel
theorem dX12_movesRow_12 : decode cX12_movesRow 12 = .ok (.iload_n 2, 1) := by decide +kernel
theorem dX12_movesRow_13 : decode cX12_movesRow 13 = .ok (.iaload, 1) := by decide +kernel
theorem dX12_movesRow_14 : decode cX12_movesRow 14 = .ok (.invokevirtual 490, 3) := by decide +kernel
theorem dX12_movesRow_17 : decode cX12_movesRow 17 = .ok (.iastore, 1) := by decide +kernel
theorem dX12_movesRow_18 : decode cX12_movesRow 18 = .ok (.iinc 2 1, 3) := by decide +kernel
theorem dX12_movesRow_21 : decode cX12_movesRow 21 = .ok (.goto (-19), 3) := by decide +kernel
theorem dX12_movesRow_24 : decode cX12_movesRow 24 = .ok (.return_, 1) := by decide +kernel
abbrev D_X12_movesRow : Nat := 2
def f_X12_movesRow_L2 (K24 : Mm → Option Mm) : Nat → Mm → Nat → Nat → Int32 → Option Mm
  | 0, _, _, _, _ => none
  | n + 1, μ0, a4, a5, x6 =>
    ((aN μ0 a5 0).bind fun v7 =>
    (if v7 ≤ x6 then
    K24 μ0
    else
    ((aI μ0 a5 0 x6).bind fun v8 =>
    ((ob μ0 a4 12).bind fun _ =>
    (bd (f_X12_moves μ0 a4 v8) fun v10 μ9 =>
    ((sI μ9 a5 0 x6 v10).bind fun μ11 =>
    (nm (x6 + Int32.ofInt (1)) fun x12 =>
    f_X12_movesRow_L2 K24 n μ11 a4 a5 x12)))))))
set_option maxHeartbeats 4000000 in
set_option maxRecDepth 100000 in
theorem f_X12_movesRow_L2_ok {l : Launch} {G : GG} {K24 : Mm → Option Mm} {μ' : Mm} (n : Nat) (μ0 : Mm) (a4 : Nat) (a5 : Nat) (x6 : Int32) (hf : f_X12_movesRow_L2 K24 n μ0 a4 a5 x6 = some μ') (hK24 : ∀ (μ1 : Mm), K24 μ1  = some μ' → Ev l G D_X12_movesRow yX12_movesRow cX12_movesRow 3 none 24 [] [] μ1 none μ') : Ev l G D_X12_movesRow yX12_movesRow cX12_movesRow 3 none 2 [(0, .ref a4), (1, .ref a5), (2, .int x6)] [] μ0 none μ' := by
  induction n generalizing μ0 a4 a5 x6 with
  | zero => cases hf
  | succ n ih0 =>
    have ih : ∀ (μ0 : Mm) (a4 : Nat) (a5 : Nat) (x6 : Int32), f_X12_movesRow_L2 K24 n μ0 a4 a5 x6 = some μ' → Ev l G D_X12_movesRow yX12_movesRow cX12_movesRow 3 none 2 [(0, .ref a4), (1, .ref a5), (2, .int x6)] [] μ0 none μ' := fun μ0 a4 a5 x6 hf => ih0 μ0 a4 a5 x6 hf
    rw [f_X12_movesRow_L2] at hf
    refine E_iload_n (pc := 2) dX12_movesRow_2 rfl ?_
    refine E_aload_n (pc := 3) dX12_movesRow_3 rfl ?_
    refine E_alen (pc := 4) 0 dX12_movesRow_4 (by decide) hf (fun v7 hf => ?_)
    refine E_icmp_ge (pc := 5) (tgt := 24) dX12_movesRow_5 (by decide) hf (fun hf => ?_) (fun hf => ?_)
    · refine Ev.sub [] rfl ?_
      exact hK24 _ hf
    · refine E_aload_n (pc := 8) dX12_movesRow_8 rfl ?_
      refine E_iload_n (pc := 9) dX12_movesRow_9 rfl ?_
      refine E_aload_n (pc := 10) dX12_movesRow_10 rfl ?_
      refine E_aload_n (pc := 11) dX12_movesRow_11 rfl ?_
      refine E_iload_n (pc := 12) dX12_movesRow_12 rfl ?_
      refine E_iald (pc := 13) dX12_movesRow_13 hf (fun v8 hf => ?_)
      refine E_Vi (pc := 14) (d2 := D_X12_moves) (ci := 12) [.int v8] dX12_movesRow_14 ml_X12_490 mf_X12_moves im_X12_moves rfl rfl rfl (by decide) (Nat.le_of_ble_eq_true rfl) (Nat.le_of_ble_eq_true rfl) rfl (fun _ _ h => f_X12_moves_ok h) hf (fun v10 μ9 hf => ?_)
      refine E_iast (pc := 17) dX12_movesRow_17 hf (fun μ11 hf => ?_)
      refine E_iinc (pc := 18) (ls' := fun x12 => [(2, .int x12), (0, .ref a4), (1, .ref a5)]) dX12_movesRow_18 rfl (by decide) (fun _ => rfl) hf (fun x12 hf => ?_)
      refine E_goto (pc := 21) (tgt := 2) dX12_movesRow_21 (by decide) ?_
      refine Ev.sub [1, 2, 0] rfl ?_
      exact ih _ _ _ _ hf
set_option maxRecDepth 100000 in
def f_X12_movesRow (μ0 : Mm) (a1 : Nat) (a2 : Nat) : Option Mm :=
 (nm (0 : Int32) fun x3 =>
    f_X12_movesRow_L2 (fun μ13 =>
    (some μ13)) FU μ0 a1 a2 x3)
set_option maxHeartbeats 4000000 in
set_option maxRecDepth 100000 in
theorem f_X12_movesRow_ok {l : Launch} {G : GG} {μ0 : Mm} {a1 : Nat} {a2 : Nat} {μ' : Mm} (hf : f_X12_movesRow μ0 a1 a2 = some μ') : EvM l G D_X12_movesRow yX12_movesRow cX12_movesRow 3 none [.ref a1, .ref a2] μ0 none μ' := by
  show Ev l G D_X12_movesRow yX12_movesRow cX12_movesRow 3 none 0 [(0, .ref a1), (1, .ref a2)] [] μ0 none μ'
  unfold f_X12_movesRow at hf
  refine E_iconst (pc := 0) (v := (0 : Int32)) dX12_movesRow_0 (by decide) ?_
  refine E_istore_n (pc := 1) (ls' := fun x3 => [(2, .int x3), (0, .ref a1), (1, .ref a2)]) dX12_movesRow_1 (by decide) (fun _ => rfl) hf (fun x3 hf => ?_)
  refine Ev.sub [1, 2, 0] rfl ?_
  refine f_X12_movesRow_L2_ok  _ _ _ _ _ hf (fun μ13 hf => ?_)
  · exact E_vret (pc := 24) dX12_movesRow_24 rfl hf
theorem dX12_movesAll_0 : decode cX12_movesAll 0 = .ok (.aload_n 0, 1) := by decide +kernel
theorem dX12_movesAll_1 : decode cX12_movesAll 1 = .ok (.bipush 14, 2) := by decide +kernel
theorem dX12_movesAll_3 : decode cX12_movesAll 3 = .ok (.iload_n 1, 1) := by decide +kernel
theorem dX12_movesAll_4 : decode cX12_movesAll 4 = .ok (.imul, 1) := by decide +kernel
theorem dX12_movesAll_5 : decode cX12_movesAll 5 = .ok (.putfield 487, 3) := by decide +kernel
theorem dX12_movesAll_8 : decode cX12_movesAll 8 = .ok (.aload_n 0, 1) := by decide +kernel
theorem dX12_movesAll_9 : decode cX12_movesAll 9 = .ok (.iload_n 2, 1) := by decide +kernel
theorem dX12_movesAll_10 : decode cX12_movesAll 10 = .ok (.putfield 483, 3) := by decide +kernel
theorem dX12_movesAll_13 : decode cX12_movesAll 13 = .ok (.aload_n 0, 1) := by decide +kernel
theorem dX12_movesAll_14 : decode cX12_movesAll 14 = .ok (.getfield 9, 3) := by decide +kernel
theorem dX12_movesAll_17 : decode cX12_movesAll 17 = .ok (.bipush 7, 2) := by decide +kernel
theorem dX12_movesAll_19 : decode cX12_movesAll 19 = .ok (.aload_n 0, 1) := by decide +kernel
theorem dX12_movesAll_20 : decode cX12_movesAll 20 = .ok (.aload_n 0, 1) := by decide +kernel
theorem dX12_movesAll_21 : decode cX12_movesAll 21 = .ok (.getfield 9, 3) := by decide +kernel
theorem dX12_movesAll_24 : decode cX12_movesAll 24 = .ok (.bipush 7, 2) := by decide +kernel
theorem dX12_movesAll_26 : decode cX12_movesAll 26 = .ok (.iaload, 1) := by decide +kernel
theorem dX12_movesAll_27 : decode cX12_movesAll 27 = .ok (.invokevirtual 490, 3) := by decide +kernel
theorem dX12_movesAll_30 : decode cX12_movesAll 30 = .ok (.iastore, 1) := by decide +kernel
theorem dX12_movesAll_31 : decode cX12_movesAll 31 = .ok (.aload_n 0, 1) := by decide +kernel
theorem dX12_movesAll_32 : decode cX12_movesAll 32 = .ok (.aload_n 0, 1) := by decide +kernel
theorem dX12_movesAll_33 : decode cX12_movesAll 33 = .ok (.getfield 16, 3) := by decide +kernel
theorem dX12_movesAll_36 : decode cX12_movesAll 36 = .ok (.invokevirtual 493, 3) := by decide +kernel
theorem dX12_movesAll_39 : decode cX12_movesAll 39 = .ok (.aload_n 0, 1) := by decide +kernel
theorem dX12_movesAll_40 : decode cX12_movesAll 40 = .ok (.aload_n 0, 1) := by decide +kernel
theorem dX12_movesAll_41 : decode cX12_movesAll 41 = .ok (.getfield 22, 3) := by decide +kernel
theorem dX12_movesAll_44 : decode cX12_movesAll 44 = .ok (.invokevirtual 493, 3) := by decide +kernel
theorem dX12_movesAll_47 : decode cX12_movesAll 47 = .ok (.return_, 1) := by decide +kernel
abbrev D_X12_movesAll : Nat := 3
set_option maxRecDepth 100000 in
def f_X12_movesAll (μ0 : Mm) (a1 : Nat) (x2 : Int32) (x3 : Int32) : Option Mm :=
 ((pV μ0 a1 12 56 (.int ((14 : Int32) * x2))).bind fun μ4 =>
    ((pZ μ4 a1 12 57 x3).bind fun μ5 =>
    ((gR μ5 a1 12 1).bind fun v6 =>
    ((gR μ5 a1 12 1).bind fun v7 =>
    ((aI μ5 v7 0 (7 : Int32)).bind fun v8 =>
    ((ob μ5 a1 12).bind fun _ =>
    (bd (f_X12_moves μ5 a1 v8) fun v10 μ9 =>
    ((sI μ9 v6 0 (7 : Int32) v10).bind fun μ11 =>
    ((gR μ11 a1 12 3).bind fun v12 =>
    ((ob μ11 a1 12).bind fun _ =>
    ((f_X12_movesRow μ11 a1 v12).bind fun μ13 =>
    ((gR μ13 a1 12 5).bind fun v14 =>
    ((ob μ13 a1 12).bind fun _ =>
    ((f_X12_movesRow μ13 a1 v14).bind fun μ15 =>
    (some μ15)))))))))))))))
set_option maxHeartbeats 4000000 in
set_option maxRecDepth 100000 in
theorem f_X12_movesAll_ok {l : Launch} {G : GG} {μ0 : Mm} {a1 : Nat} {x2 : Int32} {x3 : Int32} {μ' : Mm} (hf : f_X12_movesAll μ0 a1 x2 x3 = some μ') : EvM l G D_X12_movesAll yX12_movesAll cX12_movesAll 3 none [.ref a1, .int x2, .int x3] μ0 none μ' := by
  show Ev l G D_X12_movesAll yX12_movesAll cX12_movesAll 3 none 0 [(0, .ref a1), (1, .int x2), (2, .int x3)] [] μ0 none μ'
  unfold f_X12_movesAll at hf
  refine E_aload_n (pc := 0) dX12_movesAll_0 rfl ?_
  refine E_bipush (pc := 1) (v := (14 : Int32)) dX12_movesAll_1 (by decide) ?_
  refine E_iload_n (pc := 3) dX12_movesAll_3 rfl ?_
  refine E_imul (pc := 4) dX12_movesAll_4 ?_
  refine E_putI (pc := 5) dX12_movesAll_5 (pl_X12_487 _) hf (fun μ4 hf => ?_)
  refine E_aload_n (pc := 8) dX12_movesAll_8 rfl ?_
  refine E_iload_n (pc := 9) dX12_movesAll_9 rfl ?_
  refine E_putZ (pc := 10) dX12_movesAll_10 (pl_X12_483 _) hf (fun μ5 hf => ?_)
  refine E_aload_n (pc := 13) dX12_movesAll_13 rfl ?_
  refine E_getR (pc := 14) dX12_movesAll_14 fl_X12_9 hf (fun v6 hf => ?_)
  refine E_bipush (pc := 17) (v := (7 : Int32)) dX12_movesAll_17 (by decide) ?_
  refine E_aload_n (pc := 19) dX12_movesAll_19 rfl ?_
  refine E_aload_n (pc := 20) dX12_movesAll_20 rfl ?_
  refine E_getR (pc := 21) dX12_movesAll_21 fl_X12_9 hf (fun v7 hf => ?_)
  refine E_bipush (pc := 24) (v := (7 : Int32)) dX12_movesAll_24 (by decide) ?_
  refine E_iald (pc := 26) dX12_movesAll_26 hf (fun v8 hf => ?_)
  refine E_Vi (pc := 27) (d2 := D_X12_moves) (ci := 12) [.int v8] dX12_movesAll_27 ml_X12_490 mf_X12_moves im_X12_moves rfl rfl rfl (by decide) (Nat.le_of_ble_eq_true rfl) (Nat.le_of_ble_eq_true rfl) rfl (fun _ _ h => f_X12_moves_ok h) hf (fun v10 μ9 hf => ?_)
  refine E_iast (pc := 30) dX12_movesAll_30 hf (fun μ11 hf => ?_)
  refine E_aload_n (pc := 31) dX12_movesAll_31 rfl ?_
  refine E_aload_n (pc := 32) dX12_movesAll_32 rfl ?_
  refine E_getR (pc := 33) dX12_movesAll_33 fl_X12_16 hf (fun v12 hf => ?_)
  refine E_Vv (pc := 36) (d2 := D_X12_movesRow) (ci := 12) [.ref v12] dX12_movesAll_36 ml_X12_493 mf_X12_movesRow im_X12_movesRow rfl rfl rfl (by decide) (Nat.le_of_ble_eq_true rfl) (Nat.le_of_ble_eq_true rfl) rfl (fun _ h => f_X12_movesRow_ok h) hf (fun μ13 hf => ?_)
  refine E_aload_n (pc := 39) dX12_movesAll_39 rfl ?_
  refine E_aload_n (pc := 40) dX12_movesAll_40 rfl ?_
  refine E_getR (pc := 41) dX12_movesAll_41 fl_X12_22 hf (fun v14 hf => ?_)
  refine E_Vv (pc := 44) (d2 := D_X12_movesRow) (ci := 12) [.ref v14] dX12_movesAll_44 ml_X12_493 mf_X12_movesRow im_X12_movesRow rfl rfl rfl (by decide) (Nat.le_of_ble_eq_true rfl) (Nat.le_of_ble_eq_true rfl) rfl (fun _ h => f_X12_movesRow_ok h) hf (fun μ15 hf => ?_)
  exact E_vret (pc := 47) dX12_movesAll_47 rfl hf
theorem dX12_keepsAct_0 : decode cX12_keepsAct 0 = .ok (.aload_n 0, 1) := by decide +kernel
theorem dX12_keepsAct_1 : decode cX12_keepsAct 1 = .ok (.getfield 369, 3) := by decide +kernel
theorem dX12_keepsAct_4 : decode cX12_keepsAct 4 = .ok (.bipush 20, 2) := by decide +kernel
theorem dX12_keepsAct_6 : decode cX12_keepsAct 6 = .ok (.if_icmp .ne 44, 3) := by decide +kernel
theorem dX12_keepsAct_9 : decode cX12_keepsAct 9 = .ok (.bipush 14, 2) := by decide +kernel
theorem dX12_keepsAct_11 : decode cX12_keepsAct 11 = .ok (.istore_n 1, 1) := by decide +kernel
theorem dX12_keepsAct_12 : decode cX12_keepsAct 12 = .ok (.iload_n 1, 1) := by decide +kernel
theorem dX12_keepsAct_13 : decode cX12_keepsAct 13 = .ok (.sipush 280, 3) := by decide +kernel
theorem dX12_keepsAct_16 : decode cX12_keepsAct 16 = .ok (.if_icmp .ge 24, 3) := by decide +kernel
theorem dX12_keepsAct_19 : decode cX12_keepsAct 19 = .ok (.aload_n 0, 1) := by decide +kernel
theorem dX12_keepsAct_20 : decode cX12_keepsAct 20 = .ok (.getfield 128, 3) := by decide +kernel
theorem dX12_keepsAct_23 : decode cX12_keepsAct 23 = .ok (.iload_n 1, 1) := by decide +kernel
theorem dX12_keepsAct_24 : decode cX12_keepsAct 24 = .ok (.bipush 14, 2) := by decide +kernel
theorem dX12_keepsAct_26 : decode cX12_keepsAct 26 = .ok (.isub, 1) := by decide +kernel
theorem dX12_keepsAct_27 : decode cX12_keepsAct 27 = .ok (.aload_n 0, 1) := by decide +kernel
theorem dX12_keepsAct_28 : decode cX12_keepsAct 28 = .ok (.getfield 128, 3) := by decide +kernel
theorem dX12_keepsAct_31 : decode cX12_keepsAct 31 = .ok (.iload_n 1, 1) := by decide +kernel
theorem dX12_keepsAct_32 : decode cX12_keepsAct 32 = .ok (.iaload, 1) := by decide +kernel
theorem dX12_keepsAct_33 : decode cX12_keepsAct 33 = .ok (.iastore, 1) := by decide +kernel
theorem dX12_keepsAct_34 : decode cX12_keepsAct 34 = .ok (.iinc 1 1, 3) := by decide +kernel
theorem dX12_keepsAct_37 : decode cX12_keepsAct 37 = .ok (.goto (-25), 3) := by decide +kernel
theorem dX12_keepsAct_40 : decode cX12_keepsAct 40 = .ok (.aload_n 0, 1) := by decide +kernel
theorem dX12_keepsAct_41 : decode cX12_keepsAct 41 = .ok (.dup, 1) := by decide +kernel
theorem dX12_keepsAct_42 : decode cX12_keepsAct 42 = .ok (.getfield 369, 3) := by decide +kernel
theorem dX12_keepsAct_45 : decode cX12_keepsAct 45 = .ok (.iconst 1, 1) := by decide +kernel
theorem dX12_keepsAct_46 : decode cX12_keepsAct 46 = .ok (.isub, 1) := by decide +kernel
theorem dX12_keepsAct_47 : decode cX12_keepsAct 47 = .ok (.putfield 369, 3) := by decide +kernel
theorem dX12_keepsAct_50 : decode cX12_keepsAct 50 = .ok (.aload_n 0, 1) := by decide +kernel
theorem dX12_keepsAct_51 : decode cX12_keepsAct 51 = .ok (.aload_n 0, 1) := by decide +kernel
theorem dX12_keepsAct_52 : decode cX12_keepsAct 52 = .ok (.getfield 369, 3) := by decide +kernel
theorem dX12_keepsAct_55 : decode cX12_keepsAct 55 = .ok (.iconst 0, 1) := by decide +kernel
theorem dX12_keepsAct_56 : decode cX12_keepsAct 56 = .ok (.invokevirtual 497, 3) := by decide +kernel
theorem dX12_keepsAct_59 : decode cX12_keepsAct 59 = .ok (.aload_n 0, 1) := by decide +kernel
theorem dX12_keepsAct_60 : decode cX12_keepsAct 60 = .ok (.dup, 1) := by decide +kernel
theorem dX12_keepsAct_61 : decode cX12_keepsAct 61 = .ok (.getfield 369, 3) := by decide +kernel
theorem dX12_keepsAct_64 : decode cX12_keepsAct 64 = .ok (.iconst 1, 1) := by decide +kernel
theorem dX12_keepsAct_65 : decode cX12_keepsAct 65 = .ok (.iadd, 1) := by decide +kernel
theorem dX12_keepsAct_66 : decode cX12_keepsAct 66 = .ok (.putfield 369, 3) := by decide +kernel
theorem dX12_keepsAct_69 : decode cX12_keepsAct 69 = .ok (.return_, 1) := by decide +kernel
abbrev D_X12_keepsAct : Nat := 4
def f_X12_keepsAct_L12 (K40 : Mm → Nat → Option Mm) : Nat → Mm → Nat → Int32 → Option Mm
  | 0, _, _, _ => none
  | n + 1, μ0, a4, x5 =>
    (if (280 : Int32) ≤ x5 then
    K40 μ0 a4
    else
    ((gR μ0 a4 12 53).bind fun v6 =>
    ((gR μ0 a4 12 53).bind fun v7 =>
    ((aI μ0 v7 0 x5).bind fun v8 =>
    ((sI μ0 v6 0 (x5 - (14 : Int32)) v8).bind fun μ9 =>
    (nm (x5 + Int32.ofInt (1)) fun x10 =>
    f_X12_keepsAct_L12 K40 n μ9 a4 x10))))))
set_option maxHeartbeats 4000000 in
set_option maxRecDepth 100000 in
theorem f_X12_keepsAct_L12_ok {l : Launch} {G : GG} {K40 : Mm → Nat → Option Mm} {μ' : Mm} (n : Nat) (μ0 : Mm) (a4 : Nat) (x5 : Int32) (hf : f_X12_keepsAct_L12 K40 n μ0 a4 x5 = some μ') (hK40 : ∀ (μ1 : Mm) (y0 : Nat), K40 μ1 y0 = some μ' → Ev l G D_X12_keepsAct yX12_keepsAct cX12_keepsAct 2 none 40 [(0, .ref y0)] [] μ1 none μ') : Ev l G D_X12_keepsAct yX12_keepsAct cX12_keepsAct 2 none 12 [(0, .ref a4), (1, .int x5)] [] μ0 none μ' := by
  induction n generalizing μ0 a4 x5 with
  | zero => cases hf
  | succ n ih0 =>
    have ih : ∀ (μ0 : Mm) (a4 : Nat) (x5 : Int32), f_X12_keepsAct_L12 K40 n μ0 a4 x5 = some μ' → Ev l G D_X12_keepsAct yX12_keepsAct cX12_keepsAct 2 none 12 [(0, .ref a4), (1, .int x5)] [] μ0 none μ' := fun μ0 a4 x5 hf => ih0 μ0 a4 x5 hf
    rw [f_X12_keepsAct_L12] at hf
    refine E_iload_n (pc := 12) dX12_keepsAct_12 rfl ?_
    refine E_sipush (pc := 13) (v := (280 : Int32)) dX12_keepsAct_13 (by decide) ?_
    refine E_icmp_ge (pc := 16) (tgt := 40) dX12_keepsAct_16 (by decide) hf (fun hf => ?_) (fun hf => ?_)
    · refine Ev.sub [0] rfl ?_
      exact hK40 _ _ hf
    · refine E_aload_n (pc := 19) dX12_keepsAct_19 rfl ?_
      refine E_getR (pc := 20) dX12_keepsAct_20 fl_X12_128 hf (fun v6 hf => ?_)
      refine E_iload_n (pc := 23) dX12_keepsAct_23 rfl ?_
      refine E_bipush (pc := 24) (v := (14 : Int32)) dX12_keepsAct_24 (by decide) ?_
      refine E_isub (pc := 26) dX12_keepsAct_26 ?_
      refine E_aload_n (pc := 27) dX12_keepsAct_27 rfl ?_
      refine E_getR (pc := 28) dX12_keepsAct_28 fl_X12_128 hf (fun v7 hf => ?_)
      refine E_iload_n (pc := 31) dX12_keepsAct_31 rfl ?_
      refine E_iald (pc := 32) dX12_keepsAct_32 hf (fun v8 hf => ?_)
      refine E_iast (pc := 33) dX12_keepsAct_33 hf (fun μ9 hf => ?_)
      refine E_iinc (pc := 34) (ls' := fun x10 => [(1, .int x10), (0, .ref a4)]) dX12_keepsAct_34 rfl (by decide) (fun _ => rfl) hf (fun x10 hf => ?_)
      refine E_goto (pc := 37) (tgt := 12) dX12_keepsAct_37 (by decide) ?_
      refine Ev.sub [1, 0] rfl ?_
      exact ih _ _ _ hf
set_option maxRecDepth 100000 in
def f_X12_keepsAct (μ0 : Mm) (a1 : Nat) : Option Mm :=
 ((gI μ0 a1 12 55).bind fun v2 =>
    (if v2 = (20 : Int32) then
    (nm (14 : Int32) fun x3 =>
    f_X12_keepsAct_L12 (fun μ11 a12 =>
    ((gI μ11 a12 12 55).bind fun v13 =>
    ((pV μ11 a12 12 55 (.int (v13 - (1 : Int32)))).bind fun μ14 =>
    ((gI μ14 a12 12 55).bind fun v15 =>
    ((ob μ14 a12 12).bind fun _ =>
    ((f_X12_movesAll μ14 a12 v15 (0 : Int32)).bind fun μ16 =>
    ((gI μ16 a12 12 55).bind fun v17 =>
    ((pV μ16 a12 12 55 (.int (v17 + (1 : Int32)))).bind fun μ18 =>
    (some μ18))))))))) FU μ0 a1 x3)
    else
    ((gI μ0 a1 12 55).bind fun v19 =>
    ((ob μ0 a1 12).bind fun _ =>
    ((f_X12_movesAll μ0 a1 v19 (0 : Int32)).bind fun μ20 =>
    ((gI μ20 a1 12 55).bind fun v21 =>
    ((pV μ20 a1 12 55 (.int (v21 + (1 : Int32)))).bind fun μ22 =>
    (some μ22))))))))
set_option maxHeartbeats 4000000 in
set_option maxRecDepth 100000 in
theorem f_X12_keepsAct_ok {l : Launch} {G : GG} {μ0 : Mm} {a1 : Nat} {μ' : Mm} (hf : f_X12_keepsAct μ0 a1 = some μ') : EvM l G D_X12_keepsAct yX12_keepsAct cX12_keepsAct 2 none [.ref a1] μ0 none μ' := by
  show Ev l G D_X12_keepsAct yX12_keepsAct cX12_keepsAct 2 none 0 [(0, .ref a1)] [] μ0 none μ'
  unfold f_X12_keepsAct at hf
  refine E_aload_n (pc := 0) dX12_keepsAct_0 rfl ?_
  refine E_getI (pc := 1) dX12_keepsAct_1 fl_X12_369 hf (fun v2 hf => ?_)
  refine E_bipush (pc := 4) (v := (20 : Int32)) dX12_keepsAct_4 (by decide) ?_
  refine E_icmp_ne (pc := 6) (tgt := 50) dX12_keepsAct_6 (by decide) hf (fun hf => ?_) (fun hf => ?_)
  · refine E_bipush (pc := 9) (v := (14 : Int32)) dX12_keepsAct_9 (by decide) ?_
    refine E_istore_n (pc := 11) (ls' := fun x3 => [(1, .int x3), (0, .ref a1)]) dX12_keepsAct_11 (by decide) (fun _ => rfl) hf (fun x3 hf => ?_)
    refine Ev.sub [1, 0] rfl ?_
    refine f_X12_keepsAct_L12_ok  _ _ _ _ hf (fun μ11 a12 hf => ?_)
    · refine E_aload_n (pc := 40) dX12_keepsAct_40 rfl ?_
      refine E_dup (pc := 41) dX12_keepsAct_41 rfl ?_
      refine E_getI (pc := 42) dX12_keepsAct_42 fl_X12_369 hf (fun v13 hf => ?_)
      refine E_iconst (pc := 45) (v := (1 : Int32)) dX12_keepsAct_45 (by decide) ?_
      refine E_isub (pc := 46) dX12_keepsAct_46 ?_
      refine E_putI (pc := 47) dX12_keepsAct_47 (pl_X12_369 _) hf (fun μ14 hf => ?_)
      refine E_aload_n (pc := 50) dX12_keepsAct_50 rfl ?_
      refine E_aload_n (pc := 51) dX12_keepsAct_51 rfl ?_
      refine E_getI (pc := 52) dX12_keepsAct_52 fl_X12_369 hf (fun v15 hf => ?_)
      refine E_iconst (pc := 55) (v := (0 : Int32)) dX12_keepsAct_55 (by decide) ?_
      refine E_Vv (pc := 56) (d2 := D_X12_movesAll) (ci := 12) [.int v15, .int (0 : Int32)] dX12_keepsAct_56 ml_X12_497 mf_X12_movesAll im_X12_movesAll rfl rfl rfl (by decide) (Nat.le_of_ble_eq_true rfl) (Nat.le_of_ble_eq_true rfl) rfl (fun _ h => f_X12_movesAll_ok h) hf (fun μ16 hf => ?_)
      refine E_aload_n (pc := 59) dX12_keepsAct_59 rfl ?_
      refine E_dup (pc := 60) dX12_keepsAct_60 rfl ?_
      refine E_getI (pc := 61) dX12_keepsAct_61 fl_X12_369 hf (fun v17 hf => ?_)
      refine E_iconst (pc := 64) (v := (1 : Int32)) dX12_keepsAct_64 (by decide) ?_
      refine E_iadd (pc := 65) dX12_keepsAct_65 ?_
      refine E_putI (pc := 66) dX12_keepsAct_66 (pl_X12_369 _) hf (fun μ18 hf => ?_)
      exact E_vret (pc := 69) dX12_keepsAct_69 rfl hf
  · refine E_aload_n (pc := 50) dX12_keepsAct_50 rfl ?_
    refine E_aload_n (pc := 51) dX12_keepsAct_51 rfl ?_
    refine E_getI (pc := 52) dX12_keepsAct_52 fl_X12_369 hf (fun v19 hf => ?_)
    refine E_iconst (pc := 55) (v := (0 : Int32)) dX12_keepsAct_55 (by decide) ?_
    refine E_Vv (pc := 56) (d2 := D_X12_movesAll) (ci := 12) [.int v19, .int (0 : Int32)] dX12_keepsAct_56 ml_X12_497 mf_X12_movesAll im_X12_movesAll rfl rfl rfl (by decide) (Nat.le_of_ble_eq_true rfl) (Nat.le_of_ble_eq_true rfl) rfl (fun _ h => f_X12_movesAll_ok h) hf (fun μ20 hf => ?_)
    refine E_aload_n (pc := 59) dX12_keepsAct_59 rfl ?_
    refine E_dup (pc := 60) dX12_keepsAct_60 rfl ?_
    refine E_getI (pc := 61) dX12_keepsAct_61 fl_X12_369 hf (fun v21 hf => ?_)
    refine E_iconst (pc := 64) (v := (1 : Int32)) dX12_keepsAct_64 (by decide) ?_
    refine E_iadd (pc := 65) dX12_keepsAct_65 ?_
    refine E_putI (pc := 66) dX12_keepsAct_66 (pl_X12_369 _) hf (fun μ22 hf => ?_)
    exact E_vret (pc := 69) dX12_keepsAct_69 rfl hf
theorem dX12_undo_0 : decode cX12_undo 0 = .ok (.aload_n 0, 1) := by decide +kernel
theorem dX12_undo_1 : decode cX12_undo 1 = .ok (.getfield 369, 3) := by decide +kernel
theorem dX12_undo_4 : decode cX12_undo 4 = .ok (.ifCond .ne 6, 3) := by decide +kernel
theorem dX12_undo_7 : decode cX12_undo 7 = .ok (.bipush (-2), 2) := by decide +kernel
theorem dX12_undo_9 : decode cX12_undo 9 = .ok (.ireturn, 1) := by decide +kernel
theorem dX12_undo_10 : decode cX12_undo 10 = .ok (.aload_n 0, 1) := by decide +kernel
theorem dX12_undo_11 : decode cX12_undo 11 = .ok (.dup, 1) := by decide +kernel
theorem dX12_undo_12 : decode cX12_undo 12 = .ok (.getfield 369, 3) := by decide +kernel
theorem dX12_undo_15 : decode cX12_undo 15 = .ok (.iconst 1, 1) := by decide +kernel
theorem dX12_undo_16 : decode cX12_undo 16 = .ok (.isub, 1) := by decide +kernel
theorem dX12_undo_17 : decode cX12_undo 17 = .ok (.putfield 369, 3) := by decide +kernel
theorem dX12_undo_20 : decode cX12_undo 20 = .ok (.aload_n 0, 1) := by decide +kernel
theorem dX12_undo_21 : decode cX12_undo 21 = .ok (.aload_n 0, 1) := by decide +kernel
theorem dX12_undo_22 : decode cX12_undo 22 = .ok (.getfield 369, 3) := by decide +kernel
theorem dX12_undo_25 : decode cX12_undo 25 = .ok (.iconst 1, 1) := by decide +kernel
theorem dX12_undo_26 : decode cX12_undo 26 = .ok (.invokevirtual 497, 3) := by decide +kernel
theorem dX12_undo_29 : decode cX12_undo 29 = .ok (.aload_n 0, 1) := by decide +kernel
theorem dX12_undo_30 : decode cX12_undo 30 = .ok (.getfield 369, 3) := by decide +kernel
theorem dX12_undo_33 : decode cX12_undo 33 = .ok (.ireturn, 1) := by decide +kernel
abbrev D_X12_undo : Nat := 4
set_option maxRecDepth 100000 in
def f_X12_undo (μ0 : Mm) (a1 : Nat) : Option (Int32 × Mm) :=
 ((gI μ0 a1 12 55).bind fun v2 =>
    (if v2 = 0 then
    (some ((-2 : Int32), μ0))
    else
    ((gI μ0 a1 12 55).bind fun v3 =>
    ((pV μ0 a1 12 55 (.int (v3 - (1 : Int32)))).bind fun μ4 =>
    ((gI μ4 a1 12 55).bind fun v5 =>
    ((ob μ4 a1 12).bind fun _ =>
    ((f_X12_movesAll μ4 a1 v5 (1 : Int32)).bind fun μ6 =>
    ((gI μ6 a1 12 55).bind fun v7 =>
    (some (v7, μ6))))))))))
set_option maxHeartbeats 4000000 in
set_option maxRecDepth 100000 in
theorem f_X12_undo_ok {l : Launch} {G : GG} {μ0 : Mm} {a1 : Nat} {r : Int32} {μ' : Mm} (hf : f_X12_undo μ0 a1 = some (r, μ')) : EvM l G D_X12_undo yX12_undo cX12_undo 1 (some .int) [.ref a1] μ0 (some (.int r)) μ' := by
  show Ev l G D_X12_undo yX12_undo cX12_undo 1 (some .int) 0 [(0, .ref a1)] [] μ0 (some (.int r)) μ'
  unfold f_X12_undo at hf
  refine E_aload_n (pc := 0) dX12_undo_0 rfl ?_
  refine E_getI (pc := 1) dX12_undo_1 fl_X12_369 hf (fun v2 hf => ?_)
  refine E_if_ne (pc := 4) (tgt := 10) dX12_undo_4 (by decide) hf (fun hf => ?_) (fun hf => ?_)
  · refine E_bipush (pc := 7) (v := (-2 : Int32)) dX12_undo_7 (by decide) ?_
    exact E_iret (pc := 9) dX12_undo_9 rfl hf
  · refine E_aload_n (pc := 10) dX12_undo_10 rfl ?_
    refine E_dup (pc := 11) dX12_undo_11 rfl ?_
    refine E_getI (pc := 12) dX12_undo_12 fl_X12_369 hf (fun v3 hf => ?_)
    refine E_iconst (pc := 15) (v := (1 : Int32)) dX12_undo_15 (by decide) ?_
    refine E_isub (pc := 16) dX12_undo_16 ?_
    refine E_putI (pc := 17) dX12_undo_17 (pl_X12_369 _) hf (fun μ4 hf => ?_)
    refine E_aload_n (pc := 20) dX12_undo_20 rfl ?_
    refine E_aload_n (pc := 21) dX12_undo_21 rfl ?_
    refine E_getI (pc := 22) dX12_undo_22 fl_X12_369 hf (fun v5 hf => ?_)
    refine E_iconst (pc := 25) (v := (1 : Int32)) dX12_undo_25 (by decide) ?_
    refine E_Vv (pc := 26) (d2 := D_X12_movesAll) (ci := 12) [.int v5, .int (1 : Int32)] dX12_undo_26 ml_X12_497 mf_X12_movesAll im_X12_movesAll rfl rfl rfl (by decide) (Nat.le_of_ble_eq_true rfl) (Nat.le_of_ble_eq_true rfl) rfl (fun _ h => f_X12_movesAll_ok h) hf (fun μ6 hf => ?_)
    refine E_aload_n (pc := 29) dX12_undo_29 rfl ?_
    refine E_getI (pc := 30) dX12_undo_30 fl_X12_369 hf (fun v7 hf => ?_)
    exact E_iret (pc := 33) dX12_undo_33 rfl hf
theorem dX12_fall_0 : decode cX12_fall 0 = .ok (.aload_n 0, 1) := by decide +kernel
theorem dX12_fall_1 : decode cX12_fall 1 = .ok (.iload_n 1, 1) := by decide +kernel
theorem dX12_fall_2 : decode cX12_fall 2 = .ok (.invokevirtual 428, 3) := by decide +kernel
theorem dX12_fall_5 : decode cX12_fall 5 = .ok (.ifCond .eq 15, 3) := by decide +kernel
theorem dX12_fall_8 : decode cX12_fall 8 = .ok (.iload_n 2, 1) := by decide +kernel
theorem dX12_fall_9 : decode cX12_fall 9 = .ok (.i2l, 1) := by decide +kernel
theorem dX12_fall_10 : decode cX12_fall 10 = .ok (.lconst 0, 1) := by decide +kernel
theorem dX12_fall_11 : decode cX12_fall 11 = .ok (.ldc2_w 501, 3) := by decide +kernel
theorem dX12_fall_14 : decode cX12_fall 14 = .ok (.invokestatic 183, 3) := by decide +kernel
theorem dX12_fall_17 : decode cX12_fall 17 = .ok (.ifCond .ne 5, 3) := by decide +kernel
theorem dX12_fall_20 : decode cX12_fall 20 = .ok (.iconst (-1), 1) := by decide +kernel
theorem dX12_fall_21 : decode cX12_fall 21 = .ok (.ireturn, 1) := by decide +kernel
theorem dX12_fall_22 : decode cX12_fall 22 = .ok (.aload_n 0, 1) := by decide +kernel
theorem dX12_fall_23 : decode cX12_fall 23 = .ok (.invokevirtual 503, 3) := by decide +kernel
theorem dX12_fall_26 : decode cX12_fall 26 = .ok (.aload_n 0, 1) := by decide +kernel
theorem dX12_fall_27 : decode cX12_fall 27 = .ok (.iload_n 1, 1) := by decide +kernel
theorem dX12_fall_28 : decode cX12_fall 28 = .ok (.iload_n 2, 1) := by decide +kernel
theorem dX12_fall_29 : decode cX12_fall 29 = .ok (.invokevirtual 506, 3) := by decide +kernel
theorem dX12_fall_32 : decode cX12_fall 32 = .ok (.ireturn, 1) := by decide +kernel
abbrev D_X12_fall : Nat := 9
set_option maxRecDepth 100000 in
def f_X12_fall (μ0 : Mm) (a1 : Nat) (x2 : Int32) (x3 : Int32) : Option (Int32 × Mm) :=
 ((ob μ0 a1 12).bind fun _ =>
    (bd (f_X12_isPerson μ0 a1 x2) fun v5 μ4 =>
    (if v5 = 0 then
    (some ((-1 : Int32), μ4))
    else
    (bd (f_X12_in μ4 (x3).toInt64 (0 : Int64) (4 : Int64)) fun v7 μ6 =>
    (if v7 = 0 then
    (some ((-1 : Int32), μ6))
    else
    ((ob μ6 a1 12).bind fun _ =>
    ((f_X12_keepsAct μ6 a1).bind fun μ8 =>
    ((ob μ8 a1 12).bind fun _ =>
    (bd (f_X12_fallsNow μ8 a1 x2 x3) fun v10 μ9 =>
    (some (v10, μ9)))))))))))
set_option maxHeartbeats 4000000 in
set_option maxRecDepth 100000 in
theorem f_X12_fall_ok {l : Launch} {G : GG} {μ0 : Mm} {a1 : Nat} {x2 : Int32} {x3 : Int32} {r : Int32} {μ' : Mm} (hf : f_X12_fall μ0 a1 x2 x3 = some (r, μ')) : EvM l G D_X12_fall yX12_fall cX12_fall 3 (some .int) [.ref a1, .int x2, .int x3] μ0 (some (.int r)) μ' := by
  show Ev l G D_X12_fall yX12_fall cX12_fall 3 (some .int) 0 [(0, .ref a1), (1, .int x2), (2, .int x3)] [] μ0 (some (.int r)) μ'
  unfold f_X12_fall at hf
  refine E_aload_n (pc := 0) dX12_fall_0 rfl ?_
  refine E_iload_n (pc := 1) dX12_fall_1 rfl ?_
  refine E_Vi (pc := 2) (d2 := D_X12_isPerson) (ci := 12) [.int x2] dX12_fall_2 ml_X12_428 mf_X12_isPerson im_X12_isPerson rfl rfl rfl (by decide) (Nat.le_of_ble_eq_true rfl) (Nat.le_of_ble_eq_true rfl) rfl (fun _ _ h => f_X12_isPerson_ok h) hf (fun v5 μ4 hf => ?_)
  refine E_if_eq (pc := 5) (tgt := 20) dX12_fall_5 (by decide) hf (fun hf => ?_) (fun hf => ?_)
  · refine E_iconst (pc := 20) (v := (-1 : Int32)) dX12_fall_20 (by decide) ?_
    exact E_iret (pc := 21) dX12_fall_21 rfl hf
  · refine E_iload_n (pc := 8) dX12_fall_8 rfl ?_
    refine E_i2l (pc := 9) dX12_fall_9 ?_
    refine E_lconst (pc := 10) (v := (0 : Int64)) dX12_fall_10 (by decide) ?_
    refine E_ldc2 (pc := 11) (v := (4 : Int64)) dX12_fall_11 co_X12_501 ?_
    refine E_Si (pc := 14) (d2 := D_X12_in) [.long (x3).toInt64, .long (0 : Int64), .long (4 : Int64)] dX12_fall_14 ml_X12_183 mf_X12_in st_X12_in rfl (by decide) (Nat.le_of_ble_eq_true rfl) (Nat.le_of_ble_eq_true rfl) rfl (fun _ _ h => f_X12_in_ok h) hf (fun v7 μ6 hf => ?_)
    refine E_if_ne (pc := 17) (tgt := 22) dX12_fall_17 (by decide) hf (fun hf => ?_) (fun hf => ?_)
    · refine E_iconst (pc := 20) (v := (-1 : Int32)) dX12_fall_20 (by decide) ?_
      exact E_iret (pc := 21) dX12_fall_21 rfl hf
    · refine E_aload_n (pc := 22) dX12_fall_22 rfl ?_
      refine E_Vv (pc := 23) (d2 := D_X12_keepsAct) (ci := 12) [] dX12_fall_23 ml_X12_503 mf_X12_keepsAct im_X12_keepsAct rfl rfl rfl (by decide) (Nat.le_of_ble_eq_true rfl) (Nat.le_of_ble_eq_true rfl) rfl (fun _ h => f_X12_keepsAct_ok h) hf (fun μ8 hf => ?_)
      refine E_aload_n (pc := 26) dX12_fall_26 rfl ?_
      refine E_iload_n (pc := 27) dX12_fall_27 rfl ?_
      refine E_iload_n (pc := 28) dX12_fall_28 rfl ?_
      refine E_Vi (pc := 29) (d2 := D_X12_fallsNow) (ci := 12) [.int x2, .int x3] dX12_fall_29 ml_X12_506 mf_X12_fallsNow im_X12_fallsNow rfl rfl rfl (by decide) (Nat.le_of_ble_eq_true rfl) (Nat.le_of_ble_eq_true rfl) rfl (fun _ _ h => f_X12_fallsNow_ok h) hf (fun v10 μ9 hf => ?_)
      exact E_iret (pc := 32) dX12_fall_32 rfl hf
theorem dX12_walk_0 : decode cX12_walk 0 = .ok (.aload_n 0, 1) := by decide +kernel
theorem dX12_walk_1 : decode cX12_walk 1 = .ok (.iload_n 1, 1) := by decide +kernel
theorem dX12_walk_2 : decode cX12_walk 2 = .ok (.invokevirtual 428, 3) := by decide +kernel
theorem dX12_walk_5 : decode cX12_walk 5 = .ok (.ifCond .eq 15, 3) := by decide +kernel
theorem dX12_walk_8 : decode cX12_walk 8 = .ok (.iload_n 2, 1) := by decide +kernel
theorem dX12_walk_9 : decode cX12_walk 9 = .ok (.i2l, 1) := by decide +kernel
theorem dX12_walk_10 : decode cX12_walk 10 = .ok (.lconst 0, 1) := by decide +kernel
theorem dX12_walk_11 : decode cX12_walk 11 = .ok (.ldc2_w 509, 3) := by decide +kernel
theorem dX12_walk_14 : decode cX12_walk 14 = .ok (.invokestatic 183, 3) := by decide +kernel
theorem dX12_walk_17 : decode cX12_walk 17 = .ok (.ifCond .ne 5, 3) := by decide +kernel
theorem dX12_walk_20 : decode cX12_walk 20 = .ok (.iconst (-1), 1) := by decide +kernel
theorem dX12_walk_21 : decode cX12_walk 21 = .ok (.ireturn, 1) := by decide +kernel
theorem dX12_walk_22 : decode cX12_walk 22 = .ok (.aload_n 0, 1) := by decide +kernel
theorem dX12_walk_23 : decode cX12_walk 23 = .ok (.aload_n 0, 1) := by decide +kernel
theorem dX12_walk_24 : decode cX12_walk 24 = .ok (.getfield 16, 3) := by decide +kernel
theorem dX12_walk_27 : decode cX12_walk 27 = .ok (.iload_n 1, 1) := by decide +kernel
theorem dX12_walk_28 : decode cX12_walk 28 = .ok (.iaload, 1) := by decide +kernel
theorem dX12_walk_29 : decode cX12_walk 29 = .ok (.iload_n 2, 1) := by decide +kernel
theorem dX12_walk_30 : decode cX12_walk 30 = .ok (.invokevirtual 406, 3) := by decide +kernel
theorem dX12_walk_33 : decode cX12_walk 33 = .ok (.istore_n 3, 1) := by decide +kernel
theorem dX12_walk_34 : decode cX12_walk 34 = .ok (.iload_n 3, 1) := by decide +kernel
theorem dX12_walk_35 : decode cX12_walk 35 = .ok (.iconst (-1), 1) := by decide +kernel
theorem dX12_walk_36 : decode cX12_walk 36 = .ok (.if_icmp .eq 32, 3) := by decide +kernel
theorem dX12_walk_39 : decode cX12_walk 39 = .ok (.aload_n 0, 1) := by decide +kernel
theorem dX12_walk_40 : decode cX12_walk 40 = .ok (.getfield 13, 3) := by decide +kernel
theorem dX12_walk_43 : decode cX12_walk 43 = .ok (.iload_n 3, 1) := by decide +kernel
theorem dX12_walk_44 : decode cX12_walk 44 = .ok (.iaload, 1) := by decide +kernel
theorem dX12_walk_45 : decode cX12_walk 45 = .ok (.aload_n 0, 1) := by decide +kernel
theorem dX12_walk_46 : decode cX12_walk 46 = .ok (.getfield 13, 3) := by decide +kernel
theorem dX12_walk_49 : decode cX12_walk 49 = .ok (.aload_n 0, 1) := by decide +kernel
theorem dX12_walk_50 : decode cX12_walk 50 = .ok (.getfield 16, 3) := by decide +kernel
theorem dX12_walk_53 : decode cX12_walk 53 = .ok (.iload_n 1, 1) := by decide +kernel
theorem dX12_walk_54 : decode cX12_walk 54 = .ok (.iaload, 1) := by decide +kernel
theorem dX12_walk_55 : decode cX12_walk 55 = .ok (.iaload, 1) := by decide +kernel
theorem dX12_walk_56 : decode cX12_walk 56 = .ok (.isub, 1) := by decide +kernel
theorem dX12_walk_57 : decode cX12_walk 57 = .ok (.i2l, 1) := by decide +kernel
theorem dX12_walk_58 : decode cX12_walk 58 = .ok (.ldc2_w 390, 3) := by decide +kernel
theorem dX12_walk_61 : decode cX12_walk 61 = .ok (.lconst 1, 1) := by decide +kernel
theorem dX12_walk_62 : decode cX12_walk 62 = .ok (.invokestatic 183, 3) := by decide +kernel
theorem dX12_walk_65 : decode cX12_walk 65 = .ok (.ifCond .ne 5, 3) := by decide +kernel
theorem dX12_walk_68 : decode cX12_walk 68 = .ok (.iconst (-1), 1) := by decide +kernel
theorem dX12_walk_69 : decode cX12_walk 69 = .ok (.ireturn, 1) := by decide +kernel
theorem dX12_walk_70 : decode cX12_walk 70 = .ok (.aload_n 0, 1) := by decide +kernel
theorem dX12_walk_71 : decode cX12_walk 71 = .ok (.invokevirtual 503, 3) := by decide +kernel
theorem dX12_walk_74 : decode cX12_walk 74 = .ok (.aload_n 0, 1) := by decide +kernel
theorem dX12_walk_75 : decode cX12_walk 75 = .ok (.getfield 16, 3) := by decide +kernel
theorem dX12_walk_78 : decode cX12_walk 78 = .ok (.iload_n 1, 1) := by decide +kernel
theorem dX12_walk_79 : decode cX12_walk 79 = .ok (.iload_n 3, 1) := by decide +kernel
theorem dX12_walk_80 : decode cX12_walk 80 = .ok (.iastore, 1) := by decide +kernel
theorem dX12_walk_81 : decode cX12_walk 81 = .ok (.iload_n 3, 1) := by decide +kernel
theorem dX12_walk_82 : decode cX12_walk 82 = .ok (.ireturn, 1) := by decide +kernel
abbrev D_X12_walk : Nat := 5
set_option maxRecDepth 100000 in
def f_X12_walk (μ0 : Mm) (a1 : Nat) (x2 : Int32) (x3 : Int32) : Option (Int32 × Mm) :=
 ((ob μ0 a1 12).bind fun _ =>
    (bd (f_X12_isPerson μ0 a1 x2) fun v5 μ4 =>
    (if v5 = 0 then
    (some ((-1 : Int32), μ4))
    else
    (bd (f_X12_in μ4 (x3).toInt64 (0 : Int64) (3 : Int64)) fun v7 μ6 =>
    (if v7 = 0 then
    (some ((-1 : Int32), μ6))
    else
    ((gR μ6 a1 12 3).bind fun v8 =>
    ((aI μ6 v8 0 x2).bind fun v9 =>
    ((ob μ6 a1 12).bind fun _ =>
    (bd (f_X12_beside μ6 a1 v9 x3) fun v11 μ10 =>
    (nm v11 fun x12 =>
    (if x12 = (-1 : Int32) then
    (some ((-1 : Int32), μ10))
    else
    ((gR μ10 a1 12 2).bind fun v13 =>
    ((aI μ10 v13 0 x12).bind fun v14 =>
    ((gR μ10 a1 12 2).bind fun v15 =>
    ((gR μ10 a1 12 3).bind fun v16 =>
    ((aI μ10 v16 0 x2).bind fun v17 =>
    ((aI μ10 v15 0 v17).bind fun v18 =>
    (bd (f_X12_in μ10 ((v14 - v18)).toInt64 (-1 : Int64) (1 : Int64)) fun v20 μ19 =>
    (if v20 = 0 then
    (some ((-1 : Int32), μ19))
    else
    ((ob μ19 a1 12).bind fun _ =>
    ((f_X12_keepsAct μ19 a1).bind fun μ21 =>
    ((gR μ21 a1 12 3).bind fun v22 =>
    ((sI μ21 v22 0 x2 x12).bind fun μ23 =>
    (some (x12, μ23)))))))))))))))))))))))))
set_option maxHeartbeats 4000000 in
set_option maxRecDepth 100000 in
theorem f_X12_walk_ok {l : Launch} {G : GG} {μ0 : Mm} {a1 : Nat} {x2 : Int32} {x3 : Int32} {r : Int32} {μ' : Mm} (hf : f_X12_walk μ0 a1 x2 x3 = some (r, μ')) : EvM l G D_X12_walk yX12_walk cX12_walk 4 (some .int) [.ref a1, .int x2, .int x3] μ0 (some (.int r)) μ' := by
  show Ev l G D_X12_walk yX12_walk cX12_walk 4 (some .int) 0 [(0, .ref a1), (1, .int x2), (2, .int x3)] [] μ0 (some (.int r)) μ'
  unfold f_X12_walk at hf
  refine E_aload_n (pc := 0) dX12_walk_0 rfl ?_
  refine E_iload_n (pc := 1) dX12_walk_1 rfl ?_
  refine E_Vi (pc := 2) (d2 := D_X12_isPerson) (ci := 12) [.int x2] dX12_walk_2 ml_X12_428 mf_X12_isPerson im_X12_isPerson rfl rfl rfl (by decide) (Nat.le_of_ble_eq_true rfl) (Nat.le_of_ble_eq_true rfl) rfl (fun _ _ h => f_X12_isPerson_ok h) hf (fun v5 μ4 hf => ?_)
  refine E_if_eq (pc := 5) (tgt := 20) dX12_walk_5 (by decide) hf (fun hf => ?_) (fun hf => ?_)
  · refine E_iconst (pc := 20) (v := (-1 : Int32)) dX12_walk_20 (by decide) ?_
    exact E_iret (pc := 21) dX12_walk_21 rfl hf
  · refine E_iload_n (pc := 8) dX12_walk_8 rfl ?_
    refine E_i2l (pc := 9) dX12_walk_9 ?_
    refine E_lconst (pc := 10) (v := (0 : Int64)) dX12_walk_10 (by decide) ?_
    refine E_ldc2 (pc := 11) (v := (3 : Int64)) dX12_walk_11 co_X12_509 ?_
    refine E_Si (pc := 14) (d2 := D_X12_in) [.long (x3).toInt64, .long (0 : Int64), .long (3 : Int64)] dX12_walk_14 ml_X12_183 mf_X12_in st_X12_in rfl (by decide) (Nat.le_of_ble_eq_true rfl) (Nat.le_of_ble_eq_true rfl) rfl (fun _ _ h => f_X12_in_ok h) hf (fun v7 μ6 hf => ?_)
    refine E_if_ne (pc := 17) (tgt := 22) dX12_walk_17 (by decide) hf (fun hf => ?_) (fun hf => ?_)
    · refine E_iconst (pc := 20) (v := (-1 : Int32)) dX12_walk_20 (by decide) ?_
      exact E_iret (pc := 21) dX12_walk_21 rfl hf
    · refine E_aload_n (pc := 22) dX12_walk_22 rfl ?_
      refine E_aload_n (pc := 23) dX12_walk_23 rfl ?_
      refine E_getR (pc := 24) dX12_walk_24 fl_X12_16 hf (fun v8 hf => ?_)
      refine E_iload_n (pc := 27) dX12_walk_27 rfl ?_
      refine E_iald (pc := 28) dX12_walk_28 hf (fun v9 hf => ?_)
      refine E_iload_n (pc := 29) dX12_walk_29 rfl ?_
      refine E_Vi (pc := 30) (d2 := D_X12_beside) (ci := 12) [.int v9, .int x3] dX12_walk_30 ml_X12_406 mf_X12_beside im_X12_beside rfl rfl rfl (by decide) (Nat.le_of_ble_eq_true rfl) (Nat.le_of_ble_eq_true rfl) rfl (fun _ _ h => f_X12_beside_ok h) hf (fun v11 μ10 hf => ?_)
      refine E_istore_n (pc := 33) (ls' := fun x12 => [(3, .int x12), (0, .ref a1), (1, .int x2), (2, .int x3)]) dX12_walk_33 (by decide) (fun _ => rfl) hf (fun x12 hf => ?_)
      refine E_iload_n (pc := 34) dX12_walk_34 rfl ?_
      refine E_iconst (pc := 35) (v := (-1 : Int32)) dX12_walk_35 (by decide) ?_
      refine E_icmp_eq (pc := 36) (tgt := 68) dX12_walk_36 (by decide) hf (fun hf => ?_) (fun hf => ?_)
      · refine E_iconst (pc := 68) (v := (-1 : Int32)) dX12_walk_68 (by decide) ?_
        exact E_iret (pc := 69) dX12_walk_69 rfl hf
      · refine E_aload_n (pc := 39) dX12_walk_39 rfl ?_
        refine E_getR (pc := 40) dX12_walk_40 fl_X12_13 hf (fun v13 hf => ?_)
        refine E_iload_n (pc := 43) dX12_walk_43 rfl ?_
        refine E_iald (pc := 44) dX12_walk_44 hf (fun v14 hf => ?_)
        refine E_aload_n (pc := 45) dX12_walk_45 rfl ?_
        refine E_getR (pc := 46) dX12_walk_46 fl_X12_13 hf (fun v15 hf => ?_)
        refine E_aload_n (pc := 49) dX12_walk_49 rfl ?_
        refine E_getR (pc := 50) dX12_walk_50 fl_X12_16 hf (fun v16 hf => ?_)
        refine E_iload_n (pc := 53) dX12_walk_53 rfl ?_
        refine E_iald (pc := 54) dX12_walk_54 hf (fun v17 hf => ?_)
        refine E_iald (pc := 55) dX12_walk_55 hf (fun v18 hf => ?_)
        refine E_isub (pc := 56) dX12_walk_56 ?_
        refine E_i2l (pc := 57) dX12_walk_57 ?_
        refine E_ldc2 (pc := 58) (v := (-1 : Int64)) dX12_walk_58 co_X12_390 ?_
        refine E_lconst (pc := 61) (v := (1 : Int64)) dX12_walk_61 (by decide) ?_
        refine E_Si (pc := 62) (d2 := D_X12_in) [.long ((v14 - v18)).toInt64, .long (-1 : Int64), .long (1 : Int64)] dX12_walk_62 ml_X12_183 mf_X12_in st_X12_in rfl (by decide) (Nat.le_of_ble_eq_true rfl) (Nat.le_of_ble_eq_true rfl) rfl (fun _ _ h => f_X12_in_ok h) hf (fun v20 μ19 hf => ?_)
        refine E_if_ne (pc := 65) (tgt := 70) dX12_walk_65 (by decide) hf (fun hf => ?_) (fun hf => ?_)
        · refine E_iconst (pc := 68) (v := (-1 : Int32)) dX12_walk_68 (by decide) ?_
          exact E_iret (pc := 69) dX12_walk_69 rfl hf
        · refine E_aload_n (pc := 70) dX12_walk_70 rfl ?_
          refine E_Vv (pc := 71) (d2 := D_X12_keepsAct) (ci := 12) [] dX12_walk_71 ml_X12_503 mf_X12_keepsAct im_X12_keepsAct rfl rfl rfl (by decide) (Nat.le_of_ble_eq_true rfl) (Nat.le_of_ble_eq_true rfl) rfl (fun _ h => f_X12_keepsAct_ok h) hf (fun μ21 hf => ?_)
          refine E_aload_n (pc := 74) dX12_walk_74 rfl ?_
          refine E_getR (pc := 75) dX12_walk_75 fl_X12_16 hf (fun v22 hf => ?_)
          refine E_iload_n (pc := 78) dX12_walk_78 rfl ?_
          refine E_iload_n (pc := 79) dX12_walk_79 rfl ?_
          refine E_iast (pc := 80) dX12_walk_80 hf (fun μ23 hf => ?_)
          refine E_iload_n (pc := 81) dX12_walk_81 rfl ?_
          exact E_iret (pc := 82) dX12_walk_82 rfl hf
theorem dX12_put__0 : decode cX12_put_ 0 = .ok (.aload_n 0, 1) := by decide +kernel
theorem dX12_put__1 : decode cX12_put_ 1 = .ok (.iload_n 1, 1) := by decide +kernel
theorem dX12_put__2 : decode cX12_put_ 2 = .ok (.invokevirtual 431, 3) := by decide +kernel
theorem dX12_put__5 : decode cX12_put_ 5 = .ok (.ifCond .eq 35, 3) := by decide +kernel
theorem dX12_put__8 : decode cX12_put_ 8 = .ok (.aload_n 0, 1) := by decide +kernel
theorem dX12_put__9 : decode cX12_put_ 9 = .ok (.iload_n 2, 1) := by decide +kernel
theorem dX12_put__10 : decode cX12_put_ 10 = .ok (.invokevirtual 415, 3) := by decide +kernel
theorem dX12_put__13 : decode cX12_put_ 13 = .ok (.ifCond .eq 27, 3) := by decide +kernel
theorem dX12_put__16 : decode cX12_put_ 16 = .ok (.aload_n 0, 1) := by decide +kernel
theorem dX12_put__17 : decode cX12_put_ 17 = .ok (.getfield 9, 3) := by decide +kernel
theorem dX12_put__20 : decode cX12_put_ 20 = .ok (.bipush 7, 2) := by decide +kernel
theorem dX12_put__22 : decode cX12_put_ 22 = .ok (.iaload, 1) := by decide +kernel
theorem dX12_put__23 : decode cX12_put_ 23 = .ok (.iload_n 1, 1) := by decide +kernel
theorem dX12_put__24 : decode cX12_put_ 24 = .ok (.invokestatic 446, 3) := by decide +kernel
theorem dX12_put__27 : decode cX12_put_ 27 = .ok (.ifCond .ne 13, 3) := by decide +kernel
theorem dX12_put__30 : decode cX12_put_ 30 = .ok (.aload_n 0, 1) := by decide +kernel
theorem dX12_put__31 : decode cX12_put_ 31 = .ok (.getfield 22, 3) := by decide +kernel
theorem dX12_put__34 : decode cX12_put_ 34 = .ok (.iload_n 1, 1) := by decide +kernel
theorem dX12_put__35 : decode cX12_put_ 35 = .ok (.iaload, 1) := by decide +kernel
theorem dX12_put__36 : decode cX12_put_ 36 = .ok (.iload_n 2, 1) := by decide +kernel
theorem dX12_put__37 : decode cX12_put_ 37 = .ok (.if_icmp .ne 5, 3) := by decide +kernel
theorem dX12_put__40 : decode cX12_put_ 40 = .ok (.iconst (-1), 1) := by decide +kernel
theorem dX12_put__41 : decode cX12_put_ 41 = .ok (.ireturn, 1) := by decide +kernel
theorem dX12_put__42 : decode cX12_put_ 42 = .ok (.aload_n 0, 1) := by decide +kernel
theorem dX12_put__43 : decode cX12_put_ 43 = .ok (.invokevirtual 503, 3) := by decide +kernel
theorem dX12_put__46 : decode cX12_put_ 46 = .ok (.aload_n 0, 1) := by decide +kernel
theorem dX12_put__47 : decode cX12_put_ 47 = .ok (.getfield 22, 3) := by decide +kernel
theorem dX12_put__50 : decode cX12_put_ 50 = .ok (.iload_n 1, 1) := by decide +kernel
theorem dX12_put__51 : decode cX12_put_ 51 = .ok (.iaload, 1) := by decide +kernel
theorem dX12_put__52 : decode cX12_put_ 52 = .ok (.istore_n 3, 1) := by decide +kernel
theorem dX12_put__53 : decode cX12_put_ 53 = .ok (.aload_n 0, 1) := by decide +kernel
theorem dX12_put__54 : decode cX12_put_ 54 = .ok (.getfield 22, 3) := by decide +kernel
theorem dX12_put__57 : decode cX12_put_ 57 = .ok (.iload_n 1, 1) := by decide +kernel
theorem dX12_put__58 : decode cX12_put_ 58 = .ok (.iload_n 2, 1) := by decide +kernel
theorem dX12_put__59 : decode cX12_put_ 59 = .ok (.iastore, 1) := by decide +kernel
theorem dX12_put__60 : decode cX12_put_ 60 = .ok (.iload_n 3, 1) := by decide +kernel
theorem dX12_put__61 : decode cX12_put_ 61 = .ok (.ireturn, 1) := by decide +kernel
abbrev D_X12_put_ : Nat := 5
set_option maxRecDepth 100000 in
def f_X12_put_ (μ0 : Mm) (a1 : Nat) (x2 : Int32) (x3 : Int32) : Option (Int32 × Mm) :=
 ((ob μ0 a1 12).bind fun _ =>
    (bd (f_X12_isThing μ0 a1 x2) fun v5 μ4 =>
    (if v5 = 0 then
    (some ((-1 : Int32), μ4))
    else
    ((ob μ4 a1 12).bind fun _ =>
    (bd (f_X12_isCell μ4 a1 x3) fun v7 μ6 =>
    (if v7 = 0 then
    (some ((-1 : Int32), μ6))
    else
    ((gR μ6 a1 12 1).bind fun v8 =>
    ((aI μ6 v8 0 (7 : Int32)).bind fun v9 =>
    (bd (f_X12_has μ6 v9 x2) fun v11 μ10 =>
    (if v11 = 0 then
    ((gR μ10 a1 12 5).bind fun v12 =>
    ((aI μ10 v12 0 x2).bind fun v13 =>
    (if v13 = x3 then
    (some ((-1 : Int32), μ10))
    else
    ((ob μ10 a1 12).bind fun _ =>
    ((f_X12_keepsAct μ10 a1).bind fun μ14 =>
    ((gR μ14 a1 12 5).bind fun v15 =>
    ((aI μ14 v15 0 x2).bind fun v16 =>
    (nm v16 fun x17 =>
    ((gR μ14 a1 12 5).bind fun v18 =>
    ((sI μ14 v18 0 x2 x3).bind fun μ19 =>
    (some (x17, μ19))))))))))))
    else
    (some ((-1 : Int32), μ10))))))))))))
set_option maxHeartbeats 4000000 in
set_option maxRecDepth 100000 in
theorem f_X12_put__ok {l : Launch} {G : GG} {μ0 : Mm} {a1 : Nat} {x2 : Int32} {x3 : Int32} {r : Int32} {μ' : Mm} (hf : f_X12_put_ μ0 a1 x2 x3 = some (r, μ')) : EvM l G D_X12_put_ yX12_put_ cX12_put_ 4 (some .int) [.ref a1, .int x2, .int x3] μ0 (some (.int r)) μ' := by
  show Ev l G D_X12_put_ yX12_put_ cX12_put_ 4 (some .int) 0 [(0, .ref a1), (1, .int x2), (2, .int x3)] [] μ0 (some (.int r)) μ'
  unfold f_X12_put_ at hf
  refine E_aload_n (pc := 0) dX12_put__0 rfl ?_
  refine E_iload_n (pc := 1) dX12_put__1 rfl ?_
  refine E_Vi (pc := 2) (d2 := D_X12_isThing) (ci := 12) [.int x2] dX12_put__2 ml_X12_431 mf_X12_isThing im_X12_isThing rfl rfl rfl (by decide) (Nat.le_of_ble_eq_true rfl) (Nat.le_of_ble_eq_true rfl) rfl (fun _ _ h => f_X12_isThing_ok h) hf (fun v5 μ4 hf => ?_)
  refine E_if_eq (pc := 5) (tgt := 40) dX12_put__5 (by decide) hf (fun hf => ?_) (fun hf => ?_)
  · refine E_iconst (pc := 40) (v := (-1 : Int32)) dX12_put__40 (by decide) ?_
    exact E_iret (pc := 41) dX12_put__41 rfl hf
  · refine E_aload_n (pc := 8) dX12_put__8 rfl ?_
    refine E_iload_n (pc := 9) dX12_put__9 rfl ?_
    refine E_Vi (pc := 10) (d2 := D_X12_isCell) (ci := 12) [.int x3] dX12_put__10 ml_X12_415 mf_X12_isCell im_X12_isCell rfl rfl rfl (by decide) (Nat.le_of_ble_eq_true rfl) (Nat.le_of_ble_eq_true rfl) rfl (fun _ _ h => f_X12_isCell_ok h) hf (fun v7 μ6 hf => ?_)
    refine E_if_eq (pc := 13) (tgt := 40) dX12_put__13 (by decide) hf (fun hf => ?_) (fun hf => ?_)
    · refine E_iconst (pc := 40) (v := (-1 : Int32)) dX12_put__40 (by decide) ?_
      exact E_iret (pc := 41) dX12_put__41 rfl hf
    · refine E_aload_n (pc := 16) dX12_put__16 rfl ?_
      refine E_getR (pc := 17) dX12_put__17 fl_X12_9 hf (fun v8 hf => ?_)
      refine E_bipush (pc := 20) (v := (7 : Int32)) dX12_put__20 (by decide) ?_
      refine E_iald (pc := 22) dX12_put__22 hf (fun v9 hf => ?_)
      refine E_iload_n (pc := 23) dX12_put__23 rfl ?_
      refine E_Si (pc := 24) (d2 := D_X12_has) [.int v9, .int x2] dX12_put__24 ml_X12_446 mf_X12_has st_X12_has rfl (by decide) (Nat.le_of_ble_eq_true rfl) (Nat.le_of_ble_eq_true rfl) rfl (fun _ _ h => f_X12_has_ok h) hf (fun v11 μ10 hf => ?_)
      refine E_if_ne (pc := 27) (tgt := 40) dX12_put__27 (by decide) hf (fun hf => ?_) (fun hf => ?_)
      · refine E_aload_n (pc := 30) dX12_put__30 rfl ?_
        refine E_getR (pc := 31) dX12_put__31 fl_X12_22 hf (fun v12 hf => ?_)
        refine E_iload_n (pc := 34) dX12_put__34 rfl ?_
        refine E_iald (pc := 35) dX12_put__35 hf (fun v13 hf => ?_)
        refine E_iload_n (pc := 36) dX12_put__36 rfl ?_
        refine E_icmp_ne (pc := 37) (tgt := 42) dX12_put__37 (by decide) hf (fun hf => ?_) (fun hf => ?_)
        · refine E_iconst (pc := 40) (v := (-1 : Int32)) dX12_put__40 (by decide) ?_
          exact E_iret (pc := 41) dX12_put__41 rfl hf
        · refine E_aload_n (pc := 42) dX12_put__42 rfl ?_
          refine E_Vv (pc := 43) (d2 := D_X12_keepsAct) (ci := 12) [] dX12_put__43 ml_X12_503 mf_X12_keepsAct im_X12_keepsAct rfl rfl rfl (by decide) (Nat.le_of_ble_eq_true rfl) (Nat.le_of_ble_eq_true rfl) rfl (fun _ h => f_X12_keepsAct_ok h) hf (fun μ14 hf => ?_)
          refine E_aload_n (pc := 46) dX12_put__46 rfl ?_
          refine E_getR (pc := 47) dX12_put__47 fl_X12_22 hf (fun v15 hf => ?_)
          refine E_iload_n (pc := 50) dX12_put__50 rfl ?_
          refine E_iald (pc := 51) dX12_put__51 hf (fun v16 hf => ?_)
          refine E_istore_n (pc := 52) (ls' := fun x17 => [(3, .int x17), (0, .ref a1), (1, .int x2), (2, .int x3)]) dX12_put__52 (by decide) (fun _ => rfl) hf (fun x17 hf => ?_)
          refine E_aload_n (pc := 53) dX12_put__53 rfl ?_
          refine E_getR (pc := 54) dX12_put__54 fl_X12_22 hf (fun v18 hf => ?_)
          refine E_iload_n (pc := 57) dX12_put__57 rfl ?_
          refine E_iload_n (pc := 58) dX12_put__58 rfl ?_
          refine E_iast (pc := 59) dX12_put__59 hf (fun μ19 hf => ?_)
          refine E_iload_n (pc := 60) dX12_put__60 rfl ?_
          exact E_iret (pc := 61) dX12_put__61 rfl hf
      · refine E_iconst (pc := 40) (v := (-1 : Int32)) dX12_put__40 (by decide) ?_
        exact E_iret (pc := 41) dX12_put__41 rfl hf
theorem dX12_mend_0 : decode cX12_mend 0 = .ok (.aload_n 0, 1) := by decide +kernel
theorem dX12_mend_1 : decode cX12_mend 1 = .ok (.iload_n 1, 1) := by decide +kernel
theorem dX12_mend_2 : decode cX12_mend 2 = .ok (.invokevirtual 431, 3) := by decide +kernel
theorem dX12_mend_5 : decode cX12_mend 5 = .ok (.ifCond .eq 17, 3) := by decide +kernel
theorem dX12_mend_8 : decode cX12_mend 8 = .ok (.aload_n 0, 1) := by decide +kernel
theorem dX12_mend_9 : decode cX12_mend 9 = .ok (.getfield 9, 3) := by decide +kernel
theorem dX12_mend_12 : decode cX12_mend 12 = .ok (.bipush 7, 2) := by decide +kernel
theorem dX12_mend_14 : decode cX12_mend 14 = .ok (.iaload, 1) := by decide +kernel
theorem dX12_mend_15 : decode cX12_mend 15 = .ok (.iload_n 1, 1) := by decide +kernel
theorem dX12_mend_16 : decode cX12_mend 16 = .ok (.invokestatic 446, 3) := by decide +kernel
theorem dX12_mend_19 : decode cX12_mend 19 = .ok (.ifCond .ne 5, 3) := by decide +kernel
theorem dX12_mend_22 : decode cX12_mend 22 = .ok (.iconst 0, 1) := by decide +kernel
theorem dX12_mend_23 : decode cX12_mend 23 = .ok (.ireturn, 1) := by decide +kernel
theorem dX12_mend_24 : decode cX12_mend 24 = .ok (.aload_n 0, 1) := by decide +kernel
theorem dX12_mend_25 : decode cX12_mend 25 = .ok (.invokevirtual 503, 3) := by decide +kernel
theorem dX12_mend_28 : decode cX12_mend 28 = .ok (.aload_n 0, 1) := by decide +kernel
theorem dX12_mend_29 : decode cX12_mend 29 = .ok (.getfield 9, 3) := by decide +kernel
theorem dX12_mend_32 : decode cX12_mend 32 = .ok (.bipush 7, 2) := by decide +kernel
theorem dX12_mend_34 : decode cX12_mend 34 = .ok (.dup2, 1) := by decide +kernel
theorem dX12_mend_35 : decode cX12_mend 35 = .ok (.iaload, 1) := by decide +kernel
theorem dX12_mend_36 : decode cX12_mend 36 = .ok (.iconst 1, 1) := by decide +kernel
theorem dX12_mend_37 : decode cX12_mend 37 = .ok (.iload_n 1, 1) := by decide +kernel
theorem dX12_mend_38 : decode cX12_mend 38 = .ok (.ishl, 1) := by decide +kernel
theorem dX12_mend_39 : decode cX12_mend 39 = .ok (.iconst (-1), 1) := by decide +kernel
theorem dX12_mend_40 : decode cX12_mend 40 = .ok (.ixor, 1) := by decide +kernel
theorem dX12_mend_41 : decode cX12_mend 41 = .ok (.iand, 1) := by decide +kernel
theorem dX12_mend_42 : decode cX12_mend 42 = .ok (.iastore, 1) := by decide +kernel
theorem dX12_mend_43 : decode cX12_mend 43 = .ok (.iconst 1, 1) := by decide +kernel
theorem dX12_mend_44 : decode cX12_mend 44 = .ok (.ireturn, 1) := by decide +kernel
abbrev D_X12_mend : Nat := 5
set_option maxRecDepth 100000 in
def f_X12_mend (μ0 : Mm) (a1 : Nat) (x2 : Int32) : Option (Int32 × Mm) :=
 ((ob μ0 a1 12).bind fun _ =>
    (bd (f_X12_isThing μ0 a1 x2) fun v4 μ3 =>
    (if v4 = 0 then
    (if (0 : Int32) = 0 ∨ (0 : Int32) = 1 then some ((0 : Int32), μ3) else none)
    else
    ((gR μ3 a1 12 1).bind fun v5 =>
    ((aI μ3 v5 0 (7 : Int32)).bind fun v6 =>
    (bd (f_X12_has μ3 v6 x2) fun v8 μ7 =>
    (if v8 = 0 then
    (if (0 : Int32) = 0 ∨ (0 : Int32) = 1 then some ((0 : Int32), μ7) else none)
    else
    ((ob μ7 a1 12).bind fun _ =>
    ((f_X12_keepsAct μ7 a1).bind fun μ9 =>
    ((gR μ9 a1 12 1).bind fun v10 =>
    ((aI μ9 v10 0 (7 : Int32)).bind fun v11 =>
    ((sI μ9 v10 0 (7 : Int32) (v11 &&& (((1 : Int32) <<< (x2 &&& 31)) ^^^ (-1 : Int32)))).bind fun μ12 =>
    (if (1 : Int32) = 0 ∨ (1 : Int32) = 1 then some ((1 : Int32), μ12) else none)))))))))))))
set_option maxHeartbeats 4000000 in
set_option maxRecDepth 100000 in
theorem f_X12_mend_ok {l : Launch} {G : GG} {μ0 : Mm} {a1 : Nat} {x2 : Int32} {r : Int32} {μ' : Mm} (hf : f_X12_mend μ0 a1 x2 = some (r, μ')) : EvM l G D_X12_mend yX12_mend cX12_mend 2 (some .boolean) [.ref a1, .int x2] μ0 (some (.int r)) μ' := by
  show Ev l G D_X12_mend yX12_mend cX12_mend 2 (some .boolean) 0 [(0, .ref a1), (1, .int x2)] [] μ0 (some (.int r)) μ'
  unfold f_X12_mend at hf
  refine E_aload_n (pc := 0) dX12_mend_0 rfl ?_
  refine E_iload_n (pc := 1) dX12_mend_1 rfl ?_
  refine E_Vi (pc := 2) (d2 := D_X12_isThing) (ci := 12) [.int x2] dX12_mend_2 ml_X12_431 mf_X12_isThing im_X12_isThing rfl rfl rfl (by decide) (Nat.le_of_ble_eq_true rfl) (Nat.le_of_ble_eq_true rfl) rfl (fun _ _ h => f_X12_isThing_ok h) hf (fun v4 μ3 hf => ?_)
  refine E_if_eq (pc := 5) (tgt := 22) dX12_mend_5 (by decide) hf (fun hf => ?_) (fun hf => ?_)
  · refine E_iconst (pc := 22) (v := (0 : Int32)) dX12_mend_22 (by decide) ?_
    exact E_zret (pc := 23) dX12_mend_23 rfl hf
  · refine E_aload_n (pc := 8) dX12_mend_8 rfl ?_
    refine E_getR (pc := 9) dX12_mend_9 fl_X12_9 hf (fun v5 hf => ?_)
    refine E_bipush (pc := 12) (v := (7 : Int32)) dX12_mend_12 (by decide) ?_
    refine E_iald (pc := 14) dX12_mend_14 hf (fun v6 hf => ?_)
    refine E_iload_n (pc := 15) dX12_mend_15 rfl ?_
    refine E_Si (pc := 16) (d2 := D_X12_has) [.int v6, .int x2] dX12_mend_16 ml_X12_446 mf_X12_has st_X12_has rfl (by decide) (Nat.le_of_ble_eq_true rfl) (Nat.le_of_ble_eq_true rfl) rfl (fun _ _ h => f_X12_has_ok h) hf (fun v8 μ7 hf => ?_)
    refine E_if_ne (pc := 19) (tgt := 24) dX12_mend_19 (by decide) hf (fun hf => ?_) (fun hf => ?_)
    · refine E_iconst (pc := 22) (v := (0 : Int32)) dX12_mend_22 (by decide) ?_
      exact E_zret (pc := 23) dX12_mend_23 rfl hf
    · refine E_aload_n (pc := 24) dX12_mend_24 rfl ?_
      refine E_Vv (pc := 25) (d2 := D_X12_keepsAct) (ci := 12) [] dX12_mend_25 ml_X12_503 mf_X12_keepsAct im_X12_keepsAct rfl rfl rfl (by decide) (Nat.le_of_ble_eq_true rfl) (Nat.le_of_ble_eq_true rfl) rfl (fun _ h => f_X12_keepsAct_ok h) hf (fun μ9 hf => ?_)
      refine E_aload_n (pc := 28) dX12_mend_28 rfl ?_
      refine E_getR (pc := 29) dX12_mend_29 fl_X12_9 hf (fun v10 hf => ?_)
      refine E_bipush (pc := 32) (v := (7 : Int32)) dX12_mend_32 (by decide) ?_
      refine E_dup2 (pc := 34) dX12_mend_34 rfl rfl ?_
      refine E_iald (pc := 35) dX12_mend_35 hf (fun v11 hf => ?_)
      refine E_iconst (pc := 36) (v := (1 : Int32)) dX12_mend_36 (by decide) ?_
      refine E_iload_n (pc := 37) dX12_mend_37 rfl ?_
      refine E_ishl (pc := 38) dX12_mend_38 ?_
      refine E_iconst (pc := 39) (v := (-1 : Int32)) dX12_mend_39 (by decide) ?_
      refine E_ixor (pc := 40) dX12_mend_40 ?_
      refine E_iand (pc := 41) dX12_mend_41 ?_
      refine E_iast (pc := 42) dX12_mend_42 hf (fun μ12 hf => ?_)
      refine E_iconst (pc := 43) (v := (1 : Int32)) dX12_mend_43 (by decide) ?_
      exact E_zret (pc := 44) dX12_mend_44 rfl hf
theorem dX12_would_0 : decode cX12_would 0 = .ok (.aload_n 0, 1) := by decide +kernel
theorem dX12_would_1 : decode cX12_would 1 = .ok (.iload_n 1, 1) := by decide +kernel
theorem dX12_would_2 : decode cX12_would 2 = .ok (.invokevirtual 428, 3) := by decide +kernel
theorem dX12_would_5 : decode cX12_would 5 = .ok (.ifCond .eq 27, 3) := by decide +kernel
theorem dX12_would_8 : decode cX12_would 8 = .ok (.iload_n 2, 1) := by decide +kernel
theorem dX12_would_9 : decode cX12_would 9 = .ok (.i2l, 1) := by decide +kernel
theorem dX12_would_10 : decode cX12_would 10 = .ok (.lconst 0, 1) := by decide +kernel
theorem dX12_would_11 : decode cX12_would 11 = .ok (.ldc2_w 501, 3) := by decide +kernel
theorem dX12_would_14 : decode cX12_would 14 = .ok (.invokestatic 183, 3) := by decide +kernel
theorem dX12_would_17 : decode cX12_would 17 = .ok (.ifCond .eq 15, 3) := by decide +kernel
theorem dX12_would_20 : decode cX12_would 20 = .ok (.iload_n 3, 1) := by decide +kernel
theorem dX12_would_21 : decode cX12_would 21 = .ok (.i2l, 1) := by decide +kernel
theorem dX12_would_22 : decode cX12_would 22 = .ok (.lconst 0, 1) := by decide +kernel
theorem dX12_would_23 : decode cX12_would 23 = .ok (.ldc2_w 501, 3) := by decide +kernel
theorem dX12_would_26 : decode cX12_would 26 = .ok (.invokestatic 183, 3) := by decide +kernel
theorem dX12_would_29 : decode cX12_would 29 = .ok (.ifCond .ne 5, 3) := by decide +kernel
theorem dX12_would_32 : decode cX12_would 32 = .ok (.iconst (-1), 1) := by decide +kernel
theorem dX12_would_33 : decode cX12_would 33 = .ok (.ireturn, 1) := by decide +kernel
theorem dX12_would_34 : decode cX12_would 34 = .ok (.aload_n 0, 1) := by decide +kernel
theorem dX12_would_35 : decode cX12_would 35 = .ok (.iload_n 1, 1) := by decide +kernel
theorem dX12_would_36 : decode cX12_would 36 = .ok (.aload_n 0, 1) := by decide +kernel
theorem dX12_would_37 : decode cX12_would 37 = .ok (.getfield 16, 3) := by decide +kernel
theorem dX12_would_40 : decode cX12_would 40 = .ok (.iload_n 1, 1) := by decide +kernel
theorem dX12_would_41 : decode cX12_would 41 = .ok (.iaload, 1) := by decide +kernel
theorem dX12_would_42 : decode cX12_would 42 = .ok (.iload_n 2, 1) := by decide +kernel
theorem dX12_would_43 : decode cX12_would 43 = .ok (.invokevirtual 476, 3) := by decide +kernel
theorem dX12_would_46 : decode cX12_would 46 = .ok (.istore 4, 2) := by decide +kernel
theorem dX12_would_48 : decode cX12_would 48 = .ok (.iload_n 3, 1) := by decide +kernel
theorem dX12_would_49 : decode cX12_would 49 = .ok (.tableswitch 49 0 3 #[31, 36, 41, 46], 31) := by decide +kernel
theorem dX12_would_80 : decode cX12_would 80 = .ok (.aload_n 0, 1) := by decide +kernel
theorem dX12_would_81 : decode cX12_would 81 = .ok (.invokevirtual 480, 3) := by decide +kernel
theorem dX12_would_84 : decode cX12_would 84 = .ok (.ireturn, 1) := by decide +kernel
theorem dX12_would_85 : decode cX12_would 85 = .ok (.aload_n 0, 1) := by decide +kernel
theorem dX12_would_86 : decode cX12_would 86 = .ok (.getfield 437, 3) := by decide +kernel
theorem dX12_would_89 : decode cX12_would 89 = .ok (.ireturn, 1) := by decide +kernel
theorem dX12_would_90 : decode cX12_would 90 = .ok (.aload_n 0, 1) := by decide +kernel
theorem dX12_would_91 : decode cX12_would 91 = .ok (.getfield 443, 3) := by decide +kernel
theorem dX12_would_94 : decode cX12_would 94 = .ok (.ireturn, 1) := by decide +kernel
theorem dX12_would_95 : decode cX12_would 95 = .ok (.iload 4, 2) := by decide +kernel
theorem dX12_would_97 : decode cX12_would 97 = .ok (.ireturn, 1) := by decide +kernel
theorem dX12_would_98 : decode cX12_would 98 = .ok (.aload_n 0, 1) := by decide +kernel
theorem dX12_would_99 : decode cX12_would 99 = .ok (.getfield 434, 3) := by decide +kernel
theorem dX12_would_102 : decode cX12_would 102 = .ok (.ireturn, 1) := by decide +kernel
abbrev D_X12_would : Nat := 8
set_option maxRecDepth 100000 in
def f_X12_would (μ0 : Mm) (a1 : Nat) (x2 : Int32) (x3 : Int32) (x4 : Int32) : Option (Int32 × Mm) :=
 ((ob μ0 a1 12).bind fun _ =>
    (bd (f_X12_isPerson μ0 a1 x2) fun v6 μ5 =>
    (if v6 = 0 then
    (some ((-1 : Int32), μ5))
    else
    (bd (f_X12_in μ5 (x3).toInt64 (0 : Int64) (4 : Int64)) fun v8 μ7 =>
    (if v8 = 0 then
    (some ((-1 : Int32), μ7))
    else
    (bd (f_X12_in μ7 (x4).toInt64 (0 : Int64) (4 : Int64)) fun v10 μ9 =>
    (if v10 = 0 then
    (some ((-1 : Int32), μ9))
    else
    ((gR μ9 a1 12 3).bind fun v11 =>
    ((aI μ9 v11 0 x2).bind fun v12 =>
    ((ob μ9 a1 12).bind fun _ =>
    (bd (f_X12_falls μ9 a1 x2 v12 x3) fun v14 μ13 =>
    (nm v14 fun x15 =>
    (if x4 = (0 : Int32) then
    ((ob μ13 a1 12).bind fun _ =>
    (bd (f_X12_markOf μ13 a1) fun v20 μ19 =>
    (some (v20, μ19))))
    else
    (if x4 = (1 : Int32) then
    ((gI μ13 a1 12 49).bind fun v18 =>
    (some (v18, μ13)))
    else
    (if x4 = (2 : Int32) then
    ((gI μ13 a1 12 51).bind fun v17 =>
    (some (v17, μ13)))
    else
    (if x4 = (3 : Int32) then
    (some (x15, μ13))
    else
    ((gI μ13 a1 12 50).bind fun v16 =>
    (some (v16, μ13)))))))))))))))))))
set_option maxHeartbeats 4000000 in
set_option maxRecDepth 100000 in
theorem f_X12_would_ok {l : Launch} {G : GG} {μ0 : Mm} {a1 : Nat} {x2 : Int32} {x3 : Int32} {x4 : Int32} {r : Int32} {μ' : Mm} (hf : f_X12_would μ0 a1 x2 x3 x4 = some (r, μ')) : EvM l G D_X12_would yX12_would cX12_would 5 (some .int) [.ref a1, .int x2, .int x3, .int x4] μ0 (some (.int r)) μ' := by
  show Ev l G D_X12_would yX12_would cX12_would 5 (some .int) 0 [(0, .ref a1), (1, .int x2), (2, .int x3), (3, .int x4)] [] μ0 (some (.int r)) μ'
  unfold f_X12_would at hf
  refine E_aload_n (pc := 0) dX12_would_0 rfl ?_
  refine E_iload_n (pc := 1) dX12_would_1 rfl ?_
  refine E_Vi (pc := 2) (d2 := D_X12_isPerson) (ci := 12) [.int x2] dX12_would_2 ml_X12_428 mf_X12_isPerson im_X12_isPerson rfl rfl rfl (by decide) (Nat.le_of_ble_eq_true rfl) (Nat.le_of_ble_eq_true rfl) rfl (fun _ _ h => f_X12_isPerson_ok h) hf (fun v6 μ5 hf => ?_)
  refine E_if_eq (pc := 5) (tgt := 32) dX12_would_5 (by decide) hf (fun hf => ?_) (fun hf => ?_)
  · refine E_iconst (pc := 32) (v := (-1 : Int32)) dX12_would_32 (by decide) ?_
    exact E_iret (pc := 33) dX12_would_33 rfl hf
  · refine E_iload_n (pc := 8) dX12_would_8 rfl ?_
    refine E_i2l (pc := 9) dX12_would_9 ?_
    refine E_lconst (pc := 10) (v := (0 : Int64)) dX12_would_10 (by decide) ?_
    refine E_ldc2 (pc := 11) (v := (4 : Int64)) dX12_would_11 co_X12_501 ?_
    refine E_Si (pc := 14) (d2 := D_X12_in) [.long (x3).toInt64, .long (0 : Int64), .long (4 : Int64)] dX12_would_14 ml_X12_183 mf_X12_in st_X12_in rfl (by decide) (Nat.le_of_ble_eq_true rfl) (Nat.le_of_ble_eq_true rfl) rfl (fun _ _ h => f_X12_in_ok h) hf (fun v8 μ7 hf => ?_)
    refine E_if_eq (pc := 17) (tgt := 32) dX12_would_17 (by decide) hf (fun hf => ?_) (fun hf => ?_)
    · refine E_iconst (pc := 32) (v := (-1 : Int32)) dX12_would_32 (by decide) ?_
      exact E_iret (pc := 33) dX12_would_33 rfl hf
    · refine E_iload_n (pc := 20) dX12_would_20 rfl ?_
      refine E_i2l (pc := 21) dX12_would_21 ?_
      refine E_lconst (pc := 22) (v := (0 : Int64)) dX12_would_22 (by decide) ?_
      refine E_ldc2 (pc := 23) (v := (4 : Int64)) dX12_would_23 co_X12_501 ?_
      refine E_Si (pc := 26) (d2 := D_X12_in) [.long (x4).toInt64, .long (0 : Int64), .long (4 : Int64)] dX12_would_26 ml_X12_183 mf_X12_in st_X12_in rfl (by decide) (Nat.le_of_ble_eq_true rfl) (Nat.le_of_ble_eq_true rfl) rfl (fun _ _ h => f_X12_in_ok h) hf (fun v10 μ9 hf => ?_)
      refine E_if_ne (pc := 29) (tgt := 34) dX12_would_29 (by decide) hf (fun hf => ?_) (fun hf => ?_)
      · refine E_iconst (pc := 32) (v := (-1 : Int32)) dX12_would_32 (by decide) ?_
        exact E_iret (pc := 33) dX12_would_33 rfl hf
      · refine E_aload_n (pc := 34) dX12_would_34 rfl ?_
        refine E_iload_n (pc := 35) dX12_would_35 rfl ?_
        refine E_aload_n (pc := 36) dX12_would_36 rfl ?_
        refine E_getR (pc := 37) dX12_would_37 fl_X12_16 hf (fun v11 hf => ?_)
        refine E_iload_n (pc := 40) dX12_would_40 rfl ?_
        refine E_iald (pc := 41) dX12_would_41 hf (fun v12 hf => ?_)
        refine E_iload_n (pc := 42) dX12_would_42 rfl ?_
        refine E_Vi (pc := 43) (d2 := D_X12_falls) (ci := 12) [.int x2, .int v12, .int x3] dX12_would_43 ml_X12_476 mf_X12_falls im_X12_falls rfl rfl rfl (by decide) (Nat.le_of_ble_eq_true rfl) (Nat.le_of_ble_eq_true rfl) rfl (fun _ _ h => f_X12_falls_ok h) hf (fun v14 μ13 hf => ?_)
        refine E_istore (pc := 46) (ls' := fun x15 => [(4, .int x15), (0, .ref a1), (1, .int x2), (2, .int x3), (3, .int x4)]) dX12_would_46 (by decide) (fun _ => rfl) hf (fun x15 hf => ?_)
        refine E_iload_n (pc := 48) dX12_would_48 rfl ?_
        refine ifS hf (fun n49_0 hf => ?_) (fun n49_0 hf => ?_)
        · refine E_tswI (pc := 49) (tgt := 80) (0) dX12_would_49 (by rw [n49_0]; decide) (by decide) (by decide) rfl (by decide) ?_
          refine E_aload_n (pc := 80) dX12_would_80 rfl ?_
          refine E_Vi (pc := 81) (d2 := D_X12_markOf) (ci := 12) [] dX12_would_81 ml_X12_480 mf_X12_markOf im_X12_markOf rfl rfl rfl (by decide) (Nat.le_of_ble_eq_true rfl) (Nat.le_of_ble_eq_true rfl) rfl (fun _ _ h => f_X12_markOf_ok h) hf (fun v20 μ19 hf => ?_)
          exact E_iret (pc := 84) dX12_would_84 rfl hf
        · refine ifS hf (fun n49_1 hf => ?_) (fun n49_1 hf => ?_)
          · refine E_tswI (pc := 49) (tgt := 85) (1) dX12_would_49 (by rw [n49_1]; decide) (by decide) (by decide) rfl (by decide) ?_
            refine E_aload_n (pc := 85) dX12_would_85 rfl ?_
            refine E_getI (pc := 86) dX12_would_86 fl_X12_437 hf (fun v18 hf => ?_)
            exact E_iret (pc := 89) dX12_would_89 rfl hf
          · refine ifS hf (fun n49_2 hf => ?_) (fun n49_2 hf => ?_)
            · refine E_tswI (pc := 49) (tgt := 90) (2) dX12_would_49 (by rw [n49_2]; decide) (by decide) (by decide) rfl (by decide) ?_
              refine E_aload_n (pc := 90) dX12_would_90 rfl ?_
              refine E_getI (pc := 91) dX12_would_91 fl_X12_443 hf (fun v17 hf => ?_)
              exact E_iret (pc := 94) dX12_would_94 rfl hf
            · refine ifS hf (fun n49_3 hf => ?_) (fun n49_3 hf => ?_)
              · refine E_tswI (pc := 49) (tgt := 95) (3) dX12_would_49 (by rw [n49_3]; decide) (by decide) (by decide) rfl (by decide) ?_
                refine E_iload (pc := 95) dX12_would_95 rfl ?_
                exact E_iret (pc := 97) dX12_would_97 rfl hf
              · refine E_tswD (pc := 49) (tgt := 98) dX12_would_49 (by have q0 : ¬ (x4).toInt = 0 := i32ne n49_0; have q1 : ¬ (x4).toInt = 1 := i32ne n49_1; have q2 : ¬ (x4).toInt = 2 := i32ne n49_2; have q3 : ¬ (x4).toInt = 3 := i32ne n49_3;  omega) (by decide) ?_
                refine E_aload_n (pc := 98) dX12_would_98 rfl ?_
                refine E_getI (pc := 99) dX12_would_99 fl_X12_434 hf (fun v16 hf => ?_)
                exact E_iret (pc := 102) dX12_would_102 rfl hf
theorem dX12_lean_0 : decode cX12_lean 0 = .ok (.aload_n 0, 1) := by decide +kernel
theorem dX12_lean_1 : decode cX12_lean 1 = .ok (.iload_n 1, 1) := by decide +kernel
theorem dX12_lean_2 : decode cX12_lean 2 = .ok (.invokevirtual 428, 3) := by decide +kernel
theorem dX12_lean_5 : decode cX12_lean 5 = .ok (.ifCond .ne 5, 3) := by decide +kernel
theorem dX12_lean_8 : decode cX12_lean 8 = .ok (.iconst (-1), 1) := by decide +kernel
theorem dX12_lean_9 : decode cX12_lean 9 = .ok (.ireturn, 1) := by decide +kernel
theorem dX12_lean_10 : decode cX12_lean 10 = .ok (.iconst (-1), 1) := by decide +kernel
theorem dX12_lean_11 : decode cX12_lean 11 = .ok (.istore_n 2, 1) := by decide +kernel
theorem dX12_lean_12 : decode cX12_lean 12 = .ok (.iconst 0, 1) := by decide +kernel
theorem dX12_lean_13 : decode cX12_lean 13 = .ok (.istore_n 3, 1) := by decide +kernel
theorem dX12_lean_14 : decode cX12_lean 14 = .ok (.iconst 0, 1) := by decide +kernel
theorem dX12_lean_15 : decode cX12_lean 15 = .ok (.istore 4, 2) := by decide +kernel
theorem dX12_lean_17 : decode cX12_lean 17 = .ok (.iconst 0, 1) := by decide +kernel
theorem dX12_lean_18 : decode cX12_lean 18 = .ok (.istore 5, 2) := by decide +kernel
theorem dX12_lean_20 : decode cX12_lean 20 = .ok (.iload 5, 2) := by decide +kernel
theorem dX12_lean_22 : decode cX12_lean 22 = .ok (.iconst 4, 1) := by decide +kernel
theorem dX12_lean_23 : decode cX12_lean 23 = .ok (.if_icmp .gt 67, 3) := by decide +kernel
theorem dX12_lean_26 : decode cX12_lean 26 = .ok (.aload_n 0, 1) := by decide +kernel
theorem dX12_lean_27 : decode cX12_lean 27 = .ok (.iload_n 1, 1) := by decide +kernel
theorem dX12_lean_28 : decode cX12_lean 28 = .ok (.aload_n 0, 1) := by decide +kernel
theorem dX12_lean_29 : decode cX12_lean 29 = .ok (.getfield 16, 3) := by decide +kernel
theorem dX12_lean_32 : decode cX12_lean 32 = .ok (.iload_n 1, 1) := by decide +kernel
theorem dX12_lean_33 : decode cX12_lean 33 = .ok (.iaload, 1) := by decide +kernel
theorem dX12_lean_34 : decode cX12_lean 34 = .ok (.iload 5, 2) := by decide +kernel
theorem dX12_lean_36 : decode cX12_lean 36 = .ok (.invokevirtual 476, 3) := by decide +kernel
theorem dX12_lean_39 : decode cX12_lean 39 = .ok (.pop, 1) := by decide +kernel
theorem dX12_lean_40 : decode cX12_lean 40 = .ok (.iload_n 2, 1) := by decide +kernel
theorem dX12_lean_41 : decode cX12_lean 41 = .ok (.iconst (-1), 1) := by decide +kernel
theorem dX12_lean_42 : decode cX12_lean 42 = .ok (.if_icmp .eq 28, 3) := by decide +kernel
theorem dX12_lean_45 : decode cX12_lean 45 = .ok (.aload_n 0, 1) := by decide +kernel
theorem dX12_lean_46 : decode cX12_lean 46 = .ok (.invokevirtual 480, 3) := by decide +kernel
theorem dX12_lean_49 : decode cX12_lean 49 = .ok (.iload_n 3, 1) := by decide +kernel
theorem dX12_lean_50 : decode cX12_lean 50 = .ok (.if_icmp .gt 20, 3) := by decide +kernel
theorem dX12_lean_53 : decode cX12_lean 53 = .ok (.aload_n 0, 1) := by decide +kernel
theorem dX12_lean_54 : decode cX12_lean 54 = .ok (.invokevirtual 480, 3) := by decide +kernel
theorem dX12_lean_57 : decode cX12_lean 57 = .ok (.iload_n 3, 1) := by decide +kernel
theorem dX12_lean_58 : decode cX12_lean 58 = .ok (.if_icmp .ne 26, 3) := by decide +kernel
theorem dX12_lean_61 : decode cX12_lean 61 = .ok (.aload_n 0, 1) := by decide +kernel
theorem dX12_lean_62 : decode cX12_lean 62 = .ok (.getfield 437, 3) := by decide +kernel
theorem dX12_lean_65 : decode cX12_lean 65 = .ok (.iload 4, 2) := by decide +kernel
theorem dX12_lean_67 : decode cX12_lean 67 = .ok (.if_icmp .ge 17, 3) := by decide +kernel
theorem dX12_lean_70 : decode cX12_lean 70 = .ok (.iload 5, 2) := by decide +kernel
theorem dX12_lean_72 : decode cX12_lean 72 = .ok (.istore_n 2, 1) := by decide +kernel
theorem dX12_lean_73 : decode cX12_lean 73 = .ok (.aload_n 0, 1) := by decide +kernel
theorem dX12_lean_74 : decode cX12_lean 74 = .ok (.invokevirtual 480, 3) := by decide +kernel
theorem dX12_lean_77 : decode cX12_lean 77 = .ok (.istore_n 3, 1) := by decide +kernel
theorem dX12_lean_78 : decode cX12_lean 78 = .ok (.aload_n 0, 1) := by decide +kernel
theorem dX12_lean_79 : decode cX12_lean 79 = .ok (.getfield 437, 3) := by decide +kernel
theorem dX12_lean_82 : decode cX12_lean 82 = .ok (.istore 4, 2) := by decide +kernel
theorem dX12_lean_84 : decode cX12_lean 84 = .ok (.iinc 5 1, 3) := by decide +kernel
theorem dX12_lean_87 : decode cX12_lean 87 = .ok (.goto (-67), 3) := by decide +kernel
theorem dX12_lean_90 : decode cX12_lean 90 = .ok (.iload_n 2, 1) := by decide +kernel
theorem dX12_lean_91 : decode cX12_lean 91 = .ok (.ireturn, 1) := by decide +kernel
abbrev D_X12_lean : Nat := 8
def f_X12_lean_L20 (K90 : Mm → Int32 → Option (Int32 × Mm)) : Nat → Mm → Nat → Int32 → Int32 → Int32 → Int32 → Int32 → Option (Int32 × Mm)
  | 0, _, _, _, _, _, _, _ => none
  | n + 1, μ0, a9, x10, x11, x12, x13, x14 =>
    (if (4 : Int32) < x14 then
    K90 μ0 x11
    else
    ((gR μ0 a9 12 3).bind fun v15 =>
    ((aI μ0 v15 0 x10).bind fun v16 =>
    ((ob μ0 a9 12).bind fun _ =>
    (bd (f_X12_falls μ0 a9 x10 v16 x14) fun v18 μ17 =>
    (if x11 = (-1 : Int32) then
    (nm x14 fun x19 =>
    ((ob μ17 a9 12).bind fun _ =>
    (bd (f_X12_markOf μ17 a9) fun v21 μ20 =>
    (nm v21 fun x22 =>
    ((gI μ20 a9 12 49).bind fun v23 =>
    (nm v23 fun x24 =>
    (nm (x14 + Int32.ofInt (1)) fun x25 =>
    f_X12_lean_L20 K90 n μ20 a9 x10 x19 x22 x24 x25)))))))
    else
    ((ob μ17 a9 12).bind fun _ =>
    (bd (f_X12_markOf μ17 a9) fun v27 μ26 =>
    (if x12 < v27 then
    (nm x14 fun x28 =>
    ((ob μ26 a9 12).bind fun _ =>
    (bd (f_X12_markOf μ26 a9) fun v30 μ29 =>
    (nm v30 fun x31 =>
    ((gI μ29 a9 12 49).bind fun v32 =>
    (nm v32 fun x33 =>
    (nm (x14 + Int32.ofInt (1)) fun x34 =>
    f_X12_lean_L20 K90 n μ29 a9 x10 x28 x31 x33 x34)))))))
    else
    ((ob μ26 a9 12).bind fun _ =>
    (bd (f_X12_markOf μ26 a9) fun v36 μ35 =>
    (if v36 = x12 then
    ((gI μ35 a9 12 49).bind fun v37 =>
    (if x13 ≤ v37 then
    (nm (x14 + Int32.ofInt (1)) fun x38 =>
    f_X12_lean_L20 K90 n μ35 a9 x10 x11 x12 x13 x38)
    else
    (nm x14 fun x39 =>
    ((ob μ35 a9 12).bind fun _ =>
    (bd (f_X12_markOf μ35 a9) fun v41 μ40 =>
    (nm v41 fun x42 =>
    ((gI μ40 a9 12 49).bind fun v43 =>
    (nm v43 fun x44 =>
    (nm (x14 + Int32.ofInt (1)) fun x45 =>
    f_X12_lean_L20 K90 n μ40 a9 x10 x39 x42 x44 x45)))))))))
    else
    (nm (x14 + Int32.ofInt (1)) fun x46 =>
    f_X12_lean_L20 K90 n μ35 a9 x10 x11 x12 x13 x46)))))))))))))
set_option maxHeartbeats 4000000 in
set_option maxRecDepth 100000 in
theorem f_X12_lean_L20_ok {l : Launch} {G : GG} {K90 : Mm → Int32 → Option (Int32 × Mm)} {r : Int32} {μ' : Mm} (n : Nat) (μ0 : Mm) (a9 : Nat) (x10 : Int32) (x11 : Int32) (x12 : Int32) (x13 : Int32) (x14 : Int32) (hf : f_X12_lean_L20 K90 n μ0 a9 x10 x11 x12 x13 x14 = some (r, μ')) (hK90 : ∀ (μ1 : Mm) (y2 : Int32), K90 μ1 y2 = some (r, μ') → Ev l G D_X12_lean yX12_lean cX12_lean 6 (some .int) 90 [(2, .int y2)] [] μ1 (some (.int r)) μ') : Ev l G D_X12_lean yX12_lean cX12_lean 6 (some .int) 20 [(0, .ref a9), (1, .int x10), (2, .int x11), (3, .int x12), (4, .int x13), (5, .int x14)] [] μ0 (some (.int r)) μ' := by
  induction n generalizing μ0 a9 x10 x11 x12 x13 x14 with
  | zero => cases hf
  | succ n ih0 =>
    have ih : ∀ (μ0 : Mm) (a9 : Nat) (x10 : Int32) (x11 : Int32) (x12 : Int32) (x13 : Int32) (x14 : Int32), f_X12_lean_L20 K90 n μ0 a9 x10 x11 x12 x13 x14 = some (r, μ') → Ev l G D_X12_lean yX12_lean cX12_lean 6 (some .int) 20 [(0, .ref a9), (1, .int x10), (2, .int x11), (3, .int x12), (4, .int x13), (5, .int x14)] [] μ0 (some (.int r)) μ' := fun μ0 a9 x10 x11 x12 x13 x14 hf => ih0 μ0 a9 x10 x11 x12 x13 x14 hf
    rw [f_X12_lean_L20] at hf
    refine E_iload (pc := 20) dX12_lean_20 rfl ?_
    refine E_iconst (pc := 22) (v := (4 : Int32)) dX12_lean_22 (by decide) ?_
    refine E_icmp_gt (pc := 23) (tgt := 90) dX12_lean_23 (by decide) hf (fun hf => ?_) (fun hf => ?_)
    · refine Ev.sub [2] rfl ?_
      exact hK90 _ _ hf
    · refine E_aload_n (pc := 26) dX12_lean_26 rfl ?_
      refine E_iload_n (pc := 27) dX12_lean_27 rfl ?_
      refine E_aload_n (pc := 28) dX12_lean_28 rfl ?_
      refine E_getR (pc := 29) dX12_lean_29 fl_X12_16 hf (fun v15 hf => ?_)
      refine E_iload_n (pc := 32) dX12_lean_32 rfl ?_
      refine E_iald (pc := 33) dX12_lean_33 hf (fun v16 hf => ?_)
      refine E_iload (pc := 34) dX12_lean_34 rfl ?_
      refine E_Vi (pc := 36) (d2 := D_X12_falls) (ci := 12) [.int x10, .int v16, .int x14] dX12_lean_36 ml_X12_476 mf_X12_falls im_X12_falls rfl rfl rfl (by decide) (Nat.le_of_ble_eq_true rfl) (Nat.le_of_ble_eq_true rfl) rfl (fun _ _ h => f_X12_falls_ok h) hf (fun v18 μ17 hf => ?_)
      refine E_pop (pc := 39) dX12_lean_39 rfl ?_
      refine E_iload_n (pc := 40) dX12_lean_40 rfl ?_
      refine E_iconst (pc := 41) (v := (-1 : Int32)) dX12_lean_41 (by decide) ?_
      refine E_icmp_eq (pc := 42) (tgt := 70) dX12_lean_42 (by decide) hf (fun hf => ?_) (fun hf => ?_)
      · refine E_iload (pc := 70) dX12_lean_70 rfl ?_
        refine E_istore_n (pc := 72) (ls' := fun x19 => [(2, .int x19), (0, .ref a9), (1, .int x10), (3, .int x12), (4, .int x13), (5, .int x14)]) dX12_lean_72 (by decide) (fun _ => rfl) hf (fun x19 hf => ?_)
        refine E_aload_n (pc := 73) dX12_lean_73 rfl ?_
        refine E_Vi (pc := 74) (d2 := D_X12_markOf) (ci := 12) [] dX12_lean_74 ml_X12_480 mf_X12_markOf im_X12_markOf rfl rfl rfl (by decide) (Nat.le_of_ble_eq_true rfl) (Nat.le_of_ble_eq_true rfl) rfl (fun _ _ h => f_X12_markOf_ok h) hf (fun v21 μ20 hf => ?_)
        refine E_istore_n (pc := 77) (ls' := fun x22 => [(3, .int x22), (2, .int x19), (0, .ref a9), (1, .int x10), (4, .int x13), (5, .int x14)]) dX12_lean_77 (by decide) (fun _ => rfl) hf (fun x22 hf => ?_)
        refine E_aload_n (pc := 78) dX12_lean_78 rfl ?_
        refine E_getI (pc := 79) dX12_lean_79 fl_X12_437 hf (fun v23 hf => ?_)
        refine E_istore (pc := 82) (ls' := fun x24 => [(4, .int x24), (3, .int x22), (2, .int x19), (0, .ref a9), (1, .int x10), (5, .int x14)]) dX12_lean_82 (by decide) (fun _ => rfl) hf (fun x24 hf => ?_)
        refine E_iinc (pc := 84) (ls' := fun x25 => [(5, .int x25), (4, .int x24), (3, .int x22), (2, .int x19), (0, .ref a9), (1, .int x10)]) dX12_lean_84 rfl (by decide) (fun _ => rfl) hf (fun x25 hf => ?_)
        refine E_goto (pc := 87) (tgt := 20) dX12_lean_87 (by decide) ?_
        refine Ev.sub [4, 5, 3, 2, 1, 0] rfl ?_
        exact ih _ _ _ _ _ _ _ hf
      · refine E_aload_n (pc := 45) dX12_lean_45 rfl ?_
        refine E_Vi (pc := 46) (d2 := D_X12_markOf) (ci := 12) [] dX12_lean_46 ml_X12_480 mf_X12_markOf im_X12_markOf rfl rfl rfl (by decide) (Nat.le_of_ble_eq_true rfl) (Nat.le_of_ble_eq_true rfl) rfl (fun _ _ h => f_X12_markOf_ok h) hf (fun v27 μ26 hf => ?_)
        refine E_iload_n (pc := 49) dX12_lean_49 rfl ?_
        refine E_icmp_gt (pc := 50) (tgt := 70) dX12_lean_50 (by decide) hf (fun hf => ?_) (fun hf => ?_)
        · refine E_iload (pc := 70) dX12_lean_70 rfl ?_
          refine E_istore_n (pc := 72) (ls' := fun x28 => [(2, .int x28), (0, .ref a9), (1, .int x10), (3, .int x12), (4, .int x13), (5, .int x14)]) dX12_lean_72 (by decide) (fun _ => rfl) hf (fun x28 hf => ?_)
          refine E_aload_n (pc := 73) dX12_lean_73 rfl ?_
          refine E_Vi (pc := 74) (d2 := D_X12_markOf) (ci := 12) [] dX12_lean_74 ml_X12_480 mf_X12_markOf im_X12_markOf rfl rfl rfl (by decide) (Nat.le_of_ble_eq_true rfl) (Nat.le_of_ble_eq_true rfl) rfl (fun _ _ h => f_X12_markOf_ok h) hf (fun v30 μ29 hf => ?_)
          refine E_istore_n (pc := 77) (ls' := fun x31 => [(3, .int x31), (2, .int x28), (0, .ref a9), (1, .int x10), (4, .int x13), (5, .int x14)]) dX12_lean_77 (by decide) (fun _ => rfl) hf (fun x31 hf => ?_)
          refine E_aload_n (pc := 78) dX12_lean_78 rfl ?_
          refine E_getI (pc := 79) dX12_lean_79 fl_X12_437 hf (fun v32 hf => ?_)
          refine E_istore (pc := 82) (ls' := fun x33 => [(4, .int x33), (3, .int x31), (2, .int x28), (0, .ref a9), (1, .int x10), (5, .int x14)]) dX12_lean_82 (by decide) (fun _ => rfl) hf (fun x33 hf => ?_)
          refine E_iinc (pc := 84) (ls' := fun x34 => [(5, .int x34), (4, .int x33), (3, .int x31), (2, .int x28), (0, .ref a9), (1, .int x10)]) dX12_lean_84 rfl (by decide) (fun _ => rfl) hf (fun x34 hf => ?_)
          refine E_goto (pc := 87) (tgt := 20) dX12_lean_87 (by decide) ?_
          refine Ev.sub [4, 5, 3, 2, 1, 0] rfl ?_
          exact ih _ _ _ _ _ _ _ hf
        · refine E_aload_n (pc := 53) dX12_lean_53 rfl ?_
          refine E_Vi (pc := 54) (d2 := D_X12_markOf) (ci := 12) [] dX12_lean_54 ml_X12_480 mf_X12_markOf im_X12_markOf rfl rfl rfl (by decide) (Nat.le_of_ble_eq_true rfl) (Nat.le_of_ble_eq_true rfl) rfl (fun _ _ h => f_X12_markOf_ok h) hf (fun v36 μ35 hf => ?_)
          refine E_iload_n (pc := 57) dX12_lean_57 rfl ?_
          refine E_icmp_ne (pc := 58) (tgt := 84) dX12_lean_58 (by decide) hf (fun hf => ?_) (fun hf => ?_)
          · refine E_aload_n (pc := 61) dX12_lean_61 rfl ?_
            refine E_getI (pc := 62) dX12_lean_62 fl_X12_437 hf (fun v37 hf => ?_)
            refine E_iload (pc := 65) dX12_lean_65 rfl ?_
            refine E_icmp_ge (pc := 67) (tgt := 84) dX12_lean_67 (by decide) hf (fun hf => ?_) (fun hf => ?_)
            · refine E_iinc (pc := 84) (ls' := fun x38 => [(5, .int x38), (0, .ref a9), (1, .int x10), (2, .int x11), (3, .int x12), (4, .int x13)]) dX12_lean_84 rfl (by decide) (fun _ => rfl) hf (fun x38 hf => ?_)
              refine E_goto (pc := 87) (tgt := 20) dX12_lean_87 (by decide) ?_
              refine Ev.sub [1, 2, 3, 4, 5, 0] rfl ?_
              exact ih _ _ _ _ _ _ _ hf
            · refine E_iload (pc := 70) dX12_lean_70 rfl ?_
              refine E_istore_n (pc := 72) (ls' := fun x39 => [(2, .int x39), (0, .ref a9), (1, .int x10), (3, .int x12), (4, .int x13), (5, .int x14)]) dX12_lean_72 (by decide) (fun _ => rfl) hf (fun x39 hf => ?_)
              refine E_aload_n (pc := 73) dX12_lean_73 rfl ?_
              refine E_Vi (pc := 74) (d2 := D_X12_markOf) (ci := 12) [] dX12_lean_74 ml_X12_480 mf_X12_markOf im_X12_markOf rfl rfl rfl (by decide) (Nat.le_of_ble_eq_true rfl) (Nat.le_of_ble_eq_true rfl) rfl (fun _ _ h => f_X12_markOf_ok h) hf (fun v41 μ40 hf => ?_)
              refine E_istore_n (pc := 77) (ls' := fun x42 => [(3, .int x42), (2, .int x39), (0, .ref a9), (1, .int x10), (4, .int x13), (5, .int x14)]) dX12_lean_77 (by decide) (fun _ => rfl) hf (fun x42 hf => ?_)
              refine E_aload_n (pc := 78) dX12_lean_78 rfl ?_
              refine E_getI (pc := 79) dX12_lean_79 fl_X12_437 hf (fun v43 hf => ?_)
              refine E_istore (pc := 82) (ls' := fun x44 => [(4, .int x44), (3, .int x42), (2, .int x39), (0, .ref a9), (1, .int x10), (5, .int x14)]) dX12_lean_82 (by decide) (fun _ => rfl) hf (fun x44 hf => ?_)
              refine E_iinc (pc := 84) (ls' := fun x45 => [(5, .int x45), (4, .int x44), (3, .int x42), (2, .int x39), (0, .ref a9), (1, .int x10)]) dX12_lean_84 rfl (by decide) (fun _ => rfl) hf (fun x45 hf => ?_)
              refine E_goto (pc := 87) (tgt := 20) dX12_lean_87 (by decide) ?_
              refine Ev.sub [4, 5, 3, 2, 1, 0] rfl ?_
              exact ih _ _ _ _ _ _ _ hf
          · refine E_iinc (pc := 84) (ls' := fun x46 => [(5, .int x46), (0, .ref a9), (1, .int x10), (2, .int x11), (3, .int x12), (4, .int x13)]) dX12_lean_84 rfl (by decide) (fun _ => rfl) hf (fun x46 hf => ?_)
            refine E_goto (pc := 87) (tgt := 20) dX12_lean_87 (by decide) ?_
            refine Ev.sub [1, 2, 3, 4, 5, 0] rfl ?_
            exact ih _ _ _ _ _ _ _ hf
set_option maxRecDepth 100000 in
def f_X12_lean (μ0 : Mm) (a1 : Nat) (x2 : Int32) : Option (Int32 × Mm) :=
 ((ob μ0 a1 12).bind fun _ =>
    (bd (f_X12_isPerson μ0 a1 x2) fun v4 μ3 =>
    (if v4 = 0 then
    (some ((-1 : Int32), μ3))
    else
    (nm (-1 : Int32) fun x5 =>
    (nm (0 : Int32) fun x6 =>
    (nm (0 : Int32) fun x7 =>
    (nm (0 : Int32) fun x8 =>
    f_X12_lean_L20 (fun μ47 x48 =>
    (some (x48, μ47))) FU μ3 a1 x2 x5 x6 x7 x8)))))))
set_option maxHeartbeats 4000000 in
set_option maxRecDepth 100000 in
theorem f_X12_lean_ok {l : Launch} {G : GG} {μ0 : Mm} {a1 : Nat} {x2 : Int32} {r : Int32} {μ' : Mm} (hf : f_X12_lean μ0 a1 x2 = some (r, μ')) : EvM l G D_X12_lean yX12_lean cX12_lean 6 (some .int) [.ref a1, .int x2] μ0 (some (.int r)) μ' := by
  show Ev l G D_X12_lean yX12_lean cX12_lean 6 (some .int) 0 [(0, .ref a1), (1, .int x2)] [] μ0 (some (.int r)) μ'
  unfold f_X12_lean at hf
  refine E_aload_n (pc := 0) dX12_lean_0 rfl ?_
  refine E_iload_n (pc := 1) dX12_lean_1 rfl ?_
  refine E_Vi (pc := 2) (d2 := D_X12_isPerson) (ci := 12) [.int x2] dX12_lean_2 ml_X12_428 mf_X12_isPerson im_X12_isPerson rfl rfl rfl (by decide) (Nat.le_of_ble_eq_true rfl) (Nat.le_of_ble_eq_true rfl) rfl (fun _ _ h => f_X12_isPerson_ok h) hf (fun v4 μ3 hf => ?_)
  refine E_if_ne (pc := 5) (tgt := 10) dX12_lean_5 (by decide) hf (fun hf => ?_) (fun hf => ?_)
  · refine E_iconst (pc := 8) (v := (-1 : Int32)) dX12_lean_8 (by decide) ?_
    exact E_iret (pc := 9) dX12_lean_9 rfl hf
  · refine E_iconst (pc := 10) (v := (-1 : Int32)) dX12_lean_10 (by decide) ?_
    refine E_istore_n (pc := 11) (ls' := fun x5 => [(2, .int x5), (0, .ref a1), (1, .int x2)]) dX12_lean_11 (by decide) (fun _ => rfl) hf (fun x5 hf => ?_)
    refine E_iconst (pc := 12) (v := (0 : Int32)) dX12_lean_12 (by decide) ?_
    refine E_istore_n (pc := 13) (ls' := fun x6 => [(3, .int x6), (2, .int x5), (0, .ref a1), (1, .int x2)]) dX12_lean_13 (by decide) (fun _ => rfl) hf (fun x6 hf => ?_)
    refine E_iconst (pc := 14) (v := (0 : Int32)) dX12_lean_14 (by decide) ?_
    refine E_istore (pc := 15) (ls' := fun x7 => [(4, .int x7), (3, .int x6), (2, .int x5), (0, .ref a1), (1, .int x2)]) dX12_lean_15 (by decide) (fun _ => rfl) hf (fun x7 hf => ?_)
    refine E_iconst (pc := 17) (v := (0 : Int32)) dX12_lean_17 (by decide) ?_
    refine E_istore (pc := 18) (ls' := fun x8 => [(5, .int x8), (4, .int x7), (3, .int x6), (2, .int x5), (0, .ref a1), (1, .int x2)]) dX12_lean_18 (by decide) (fun _ => rfl) hf (fun x8 hf => ?_)
    refine Ev.sub [4, 5, 3, 2, 1, 0] rfl ?_
    refine f_X12_lean_L20_ok  _ _ _ _ _ _ _ _ hf (fun μ47 x48 hf => ?_)
    · refine E_iload_n (pc := 90) dX12_lean_90 rfl ?_
      exact E_iret (pc := 91) dX12_lean_91 rfl hf
theorem dX12_worthOf_0 : decode cX12_worthOf 0 = .ok (.iconst 0, 1) := by decide +kernel
theorem dX12_worthOf_1 : decode cX12_worthOf 1 = .ok (.istore_n 3, 1) := by decide +kernel
theorem dX12_worthOf_2 : decode cX12_worthOf 2 = .ok (.iconst 0, 1) := by decide +kernel
theorem dX12_worthOf_3 : decode cX12_worthOf 3 = .ok (.istore 4, 2) := by decide +kernel
theorem dX12_worthOf_5 : decode cX12_worthOf 5 = .ok (.iload 4, 2) := by decide +kernel
theorem dX12_worthOf_7 : decode cX12_worthOf 7 = .ok (.aload_n 0, 1) := by decide +kernel
theorem dX12_worthOf_8 : decode cX12_worthOf 8 = .ok (.getfield 9, 3) := by decide +kernel
theorem dX12_worthOf_11 : decode cX12_worthOf 11 = .ok (.iconst 3, 1) := by decide +kernel
theorem dX12_worthOf_12 : decode cX12_worthOf 12 = .ok (.iaload, 1) := by decide +kernel
theorem dX12_worthOf_13 : decode cX12_worthOf 13 = .ok (.if_icmp .ge 43, 3) := by decide +kernel
theorem dX12_worthOf_16 : decode cX12_worthOf 16 = .ok (.iload_n 3, 1) := by decide +kernel
theorem dX12_worthOf_17 : decode cX12_worthOf 17 = .ok (.iload_n 1, 1) := by decide +kernel
theorem dX12_worthOf_18 : decode cX12_worthOf 18 = .ok (.iload 4, 2) := by decide +kernel
theorem dX12_worthOf_20 : decode cX12_worthOf 20 = .ok (.invokestatic 446, 3) := by decide +kernel
theorem dX12_worthOf_23 : decode cX12_worthOf 23 = .ok (.ifCond .eq 24, 3) := by decide +kernel
theorem dX12_worthOf_26 : decode cX12_worthOf 26 = .ok (.aload_n 0, 1) := by decide +kernel
theorem dX12_worthOf_27 : decode cX12_worthOf 27 = .ok (.getfield 25, 3) := by decide +kernel
theorem dX12_worthOf_30 : decode cX12_worthOf 30 = .ok (.iload 4, 2) := by decide +kernel
theorem dX12_worthOf_32 : decode cX12_worthOf 32 = .ok (.iaload, 1) := by decide +kernel
theorem dX12_worthOf_33 : decode cX12_worthOf 33 = .ok (.iload_n 2, 1) := by decide +kernel
theorem dX12_worthOf_34 : decode cX12_worthOf 34 = .ok (.if_icmp .eq 13, 3) := by decide +kernel
theorem dX12_worthOf_37 : decode cX12_worthOf 37 = .ok (.aload_n 0, 1) := by decide +kernel
theorem dX12_worthOf_38 : decode cX12_worthOf 38 = .ok (.getfield 31, 3) := by decide +kernel
theorem dX12_worthOf_41 : decode cX12_worthOf 41 = .ok (.iload 4, 2) := by decide +kernel
theorem dX12_worthOf_43 : decode cX12_worthOf 43 = .ok (.iaload, 1) := by decide +kernel
theorem dX12_worthOf_44 : decode cX12_worthOf 44 = .ok (.goto 4, 3) := by decide +kernel
theorem dX12_worthOf_47 : decode cX12_worthOf 47 = .ok (.iconst 0, 1) := by decide +kernel
theorem dX12_worthOf_48 : decode cX12_worthOf 48 = .ok (.iadd, 1) := by decide +kernel
theorem dX12_worthOf_49 : decode cX12_worthOf 49 = .ok (.istore_n 3, 1) := by decide +kernel
theorem dX12_worthOf_50 : decode cX12_worthOf 50 = .ok (.iinc 4 1, 3) := by decide +kernel
theorem dX12_worthOf_53 : decode cX12_worthOf 53 = .ok (.goto (-48), 3) := by decide +kernel
theorem dX12_worthOf_56 : decode cX12_worthOf 56 = .ok (.iload_n 3, 1) := by decide +kernel
theorem dX12_worthOf_57 : decode cX12_worthOf 57 = .ok (.ireturn, 1) := by decide +kernel
abbrev D_X12_worthOf : Nat := 2
def f_X12_worthOf_L5 (K56 : Mm → Int32 → Option (Int32 × Mm)) : Nat → Mm → Nat → Int32 → Int32 → Int32 → Int32 → Option (Int32 × Mm)
  | 0, _, _, _, _, _, _ => none
  | n + 1, μ0, a6, x7, x8, x9, x10 =>
    ((gR μ0 a6 12 1).bind fun v11 =>
    ((aI μ0 v11 0 (3 : Int32)).bind fun v12 =>
    (if v12 ≤ x10 then
    K56 μ0 x9
    else
    (bd (f_X12_has μ0 x7 x10) fun v14 μ13 =>
    (if v14 = 0 then
    (nm (x9 + (0 : Int32)) fun x15 =>
    (nm (x10 + Int32.ofInt (1)) fun x16 =>
    f_X12_worthOf_L5 K56 n μ13 a6 x7 x8 x15 x16))
    else
    ((gR μ13 a6 12 6).bind fun v17 =>
    ((aI μ13 v17 0 x10).bind fun v18 =>
    (if v18 = x8 then
    (nm (x9 + (0 : Int32)) fun x19 =>
    (nm (x10 + Int32.ofInt (1)) fun x20 =>
    f_X12_worthOf_L5 K56 n μ13 a6 x7 x8 x19 x20))
    else
    ((gR μ13 a6 12 8).bind fun v21 =>
    ((aI μ13 v21 0 x10).bind fun v22 =>
    (nm (x9 + v22) fun x23 =>
    (nm (x10 + Int32.ofInt (1)) fun x24 =>
    f_X12_worthOf_L5 K56 n μ13 a6 x7 x8 x23 x24))))))))))))
set_option maxHeartbeats 4000000 in
set_option maxRecDepth 100000 in
theorem f_X12_worthOf_L5_ok {l : Launch} {G : GG} {K56 : Mm → Int32 → Option (Int32 × Mm)} {r : Int32} {μ' : Mm} (n : Nat) (μ0 : Mm) (a6 : Nat) (x7 : Int32) (x8 : Int32) (x9 : Int32) (x10 : Int32) (hf : f_X12_worthOf_L5 K56 n μ0 a6 x7 x8 x9 x10 = some (r, μ')) (hK56 : ∀ (μ1 : Mm) (y3 : Int32), K56 μ1 y3 = some (r, μ') → Ev l G D_X12_worthOf yX12_worthOf cX12_worthOf 5 (some .int) 56 [(3, .int y3)] [] μ1 (some (.int r)) μ') : Ev l G D_X12_worthOf yX12_worthOf cX12_worthOf 5 (some .int) 5 [(0, .ref a6), (1, .int x7), (2, .int x8), (3, .int x9), (4, .int x10)] [] μ0 (some (.int r)) μ' := by
  induction n generalizing μ0 a6 x7 x8 x9 x10 with
  | zero => cases hf
  | succ n ih0 =>
    have ih : ∀ (μ0 : Mm) (a6 : Nat) (x7 : Int32) (x8 : Int32) (x9 : Int32) (x10 : Int32), f_X12_worthOf_L5 K56 n μ0 a6 x7 x8 x9 x10 = some (r, μ') → Ev l G D_X12_worthOf yX12_worthOf cX12_worthOf 5 (some .int) 5 [(0, .ref a6), (1, .int x7), (2, .int x8), (3, .int x9), (4, .int x10)] [] μ0 (some (.int r)) μ' := fun μ0 a6 x7 x8 x9 x10 hf => ih0 μ0 a6 x7 x8 x9 x10 hf
    rw [f_X12_worthOf_L5] at hf
    refine E_iload (pc := 5) dX12_worthOf_5 rfl ?_
    refine E_aload_n (pc := 7) dX12_worthOf_7 rfl ?_
    refine E_getR (pc := 8) dX12_worthOf_8 fl_X12_9 hf (fun v11 hf => ?_)
    refine E_iconst (pc := 11) (v := (3 : Int32)) dX12_worthOf_11 (by decide) ?_
    refine E_iald (pc := 12) dX12_worthOf_12 hf (fun v12 hf => ?_)
    refine E_icmp_ge (pc := 13) (tgt := 56) dX12_worthOf_13 (by decide) hf (fun hf => ?_) (fun hf => ?_)
    · refine Ev.sub [3] rfl ?_
      exact hK56 _ _ hf
    · refine E_iload_n (pc := 16) dX12_worthOf_16 rfl ?_
      refine E_iload_n (pc := 17) dX12_worthOf_17 rfl ?_
      refine E_iload (pc := 18) dX12_worthOf_18 rfl ?_
      refine E_Si (pc := 20) (d2 := D_X12_has) [.int x7, .int x10] dX12_worthOf_20 ml_X12_446 mf_X12_has st_X12_has rfl (by decide) (Nat.le_of_ble_eq_true rfl) (Nat.le_of_ble_eq_true rfl) rfl (fun _ _ h => f_X12_has_ok h) hf (fun v14 μ13 hf => ?_)
      refine E_if_eq (pc := 23) (tgt := 47) dX12_worthOf_23 (by decide) hf (fun hf => ?_) (fun hf => ?_)
      · refine E_iconst (pc := 47) (v := (0 : Int32)) dX12_worthOf_47 (by decide) ?_
        refine E_iadd (pc := 48) dX12_worthOf_48 ?_
        refine E_istore_n (pc := 49) (ls' := fun x15 => [(3, .int x15), (0, .ref a6), (1, .int x7), (2, .int x8), (4, .int x10)]) dX12_worthOf_49 (by decide) (fun _ => rfl) hf (fun x15 hf => ?_)
        refine E_iinc (pc := 50) (ls' := fun x16 => [(4, .int x16), (3, .int x15), (0, .ref a6), (1, .int x7), (2, .int x8)]) dX12_worthOf_50 rfl (by decide) (fun _ => rfl) hf (fun x16 hf => ?_)
        refine E_goto (pc := 53) (tgt := 5) dX12_worthOf_53 (by decide) ?_
        refine Ev.sub [2, 3, 4, 1, 0] rfl ?_
        exact ih _ _ _ _ _ _ hf
      · refine E_aload_n (pc := 26) dX12_worthOf_26 rfl ?_
        refine E_getR (pc := 27) dX12_worthOf_27 fl_X12_25 hf (fun v17 hf => ?_)
        refine E_iload (pc := 30) dX12_worthOf_30 rfl ?_
        refine E_iald (pc := 32) dX12_worthOf_32 hf (fun v18 hf => ?_)
        refine E_iload_n (pc := 33) dX12_worthOf_33 rfl ?_
        refine E_icmp_eq (pc := 34) (tgt := 47) dX12_worthOf_34 (by decide) hf (fun hf => ?_) (fun hf => ?_)
        · refine E_iconst (pc := 47) (v := (0 : Int32)) dX12_worthOf_47 (by decide) ?_
          refine E_iadd (pc := 48) dX12_worthOf_48 ?_
          refine E_istore_n (pc := 49) (ls' := fun x19 => [(3, .int x19), (0, .ref a6), (1, .int x7), (2, .int x8), (4, .int x10)]) dX12_worthOf_49 (by decide) (fun _ => rfl) hf (fun x19 hf => ?_)
          refine E_iinc (pc := 50) (ls' := fun x20 => [(4, .int x20), (3, .int x19), (0, .ref a6), (1, .int x7), (2, .int x8)]) dX12_worthOf_50 rfl (by decide) (fun _ => rfl) hf (fun x20 hf => ?_)
          refine E_goto (pc := 53) (tgt := 5) dX12_worthOf_53 (by decide) ?_
          refine Ev.sub [2, 3, 4, 1, 0] rfl ?_
          exact ih _ _ _ _ _ _ hf
        · refine E_aload_n (pc := 37) dX12_worthOf_37 rfl ?_
          refine E_getR (pc := 38) dX12_worthOf_38 fl_X12_31 hf (fun v21 hf => ?_)
          refine E_iload (pc := 41) dX12_worthOf_41 rfl ?_
          refine E_iald (pc := 43) dX12_worthOf_43 hf (fun v22 hf => ?_)
          refine E_goto (pc := 44) (tgt := 48) dX12_worthOf_44 (by decide) ?_
          refine E_iadd (pc := 48) dX12_worthOf_48 ?_
          refine E_istore_n (pc := 49) (ls' := fun x23 => [(3, .int x23), (0, .ref a6), (1, .int x7), (2, .int x8), (4, .int x10)]) dX12_worthOf_49 (by decide) (fun _ => rfl) hf (fun x23 hf => ?_)
          refine E_iinc (pc := 50) (ls' := fun x24 => [(4, .int x24), (3, .int x23), (0, .ref a6), (1, .int x7), (2, .int x8)]) dX12_worthOf_50 rfl (by decide) (fun _ => rfl) hf (fun x24 hf => ?_)
          refine E_goto (pc := 53) (tgt := 5) dX12_worthOf_53 (by decide) ?_
          refine Ev.sub [2, 3, 4, 1, 0] rfl ?_
          exact ih _ _ _ _ _ _ hf
set_option maxRecDepth 100000 in
def f_X12_worthOf (μ0 : Mm) (a1 : Nat) (x2 : Int32) (x3 : Int32) : Option (Int32 × Mm) :=
 (nm (0 : Int32) fun x4 =>
    (nm (0 : Int32) fun x5 =>
    f_X12_worthOf_L5 (fun μ25 x26 =>
    (some (x26, μ25))) FU μ0 a1 x2 x3 x4 x5))
set_option maxHeartbeats 4000000 in
set_option maxRecDepth 100000 in
theorem f_X12_worthOf_ok {l : Launch} {G : GG} {μ0 : Mm} {a1 : Nat} {x2 : Int32} {x3 : Int32} {r : Int32} {μ' : Mm} (hf : f_X12_worthOf μ0 a1 x2 x3 = some (r, μ')) : EvM l G D_X12_worthOf yX12_worthOf cX12_worthOf 5 (some .int) [.ref a1, .int x2, .int x3] μ0 (some (.int r)) μ' := by
  show Ev l G D_X12_worthOf yX12_worthOf cX12_worthOf 5 (some .int) 0 [(0, .ref a1), (1, .int x2), (2, .int x3)] [] μ0 (some (.int r)) μ'
  unfold f_X12_worthOf at hf
  refine E_iconst (pc := 0) (v := (0 : Int32)) dX12_worthOf_0 (by decide) ?_
  refine E_istore_n (pc := 1) (ls' := fun x4 => [(3, .int x4), (0, .ref a1), (1, .int x2), (2, .int x3)]) dX12_worthOf_1 (by decide) (fun _ => rfl) hf (fun x4 hf => ?_)
  refine E_iconst (pc := 2) (v := (0 : Int32)) dX12_worthOf_2 (by decide) ?_
  refine E_istore (pc := 3) (ls' := fun x5 => [(4, .int x5), (3, .int x4), (0, .ref a1), (1, .int x2), (2, .int x3)]) dX12_worthOf_3 (by decide) (fun _ => rfl) hf (fun x5 hf => ?_)
  refine Ev.sub [2, 3, 4, 1, 0] rfl ?_
  refine f_X12_worthOf_L5_ok  _ _ _ _ _ _ _ hf (fun μ25 x26 hf => ?_)
  · refine E_iload_n (pc := 56) dX12_worthOf_56 rfl ?_
    exact E_iret (pc := 57) dX12_worthOf_57 rfl hf
theorem dX12_takesWay_0 : decode cX12_takesWay 0 = .ok (.aload_n 0, 1) := by decide +kernel
theorem dX12_takesWay_1 : decode cX12_takesWay 1 = .ok (.aload_n 0, 1) := by decide +kernel
theorem dX12_takesWay_2 : decode cX12_takesWay 2 = .ok (.getfield 443, 3) := by decide +kernel
theorem dX12_takesWay_5 : decode cX12_takesWay 5 = .ok (.iload_n 1, 1) := by decide +kernel
theorem dX12_takesWay_6 : decode cX12_takesWay 6 = .ok (.invokevirtual 511, 3) := by decide +kernel
theorem dX12_takesWay_9 : decode cX12_takesWay 9 = .ok (.istore_n 3, 1) := by decide +kernel
theorem dX12_takesWay_10 : decode cX12_takesWay 10 = .ok (.aload_n 0, 1) := by decide +kernel
theorem dX12_takesWay_11 : decode cX12_takesWay 11 = .ok (.getfield 514, 3) := by decide +kernel
theorem dX12_takesWay_14 : decode cX12_takesWay 14 = .ok (.iconst (-1), 1) := by decide +kernel
theorem dX12_takesWay_15 : decode cX12_takesWay 15 = .ok (.if_icmp .eq 27, 3) := by decide +kernel
theorem dX12_takesWay_18 : decode cX12_takesWay 18 = .ok (.iload_n 3, 1) := by decide +kernel
theorem dX12_takesWay_19 : decode cX12_takesWay 19 = .ok (.aload_n 0, 1) := by decide +kernel
theorem dX12_takesWay_20 : decode cX12_takesWay 20 = .ok (.getfield 514, 3) := by decide +kernel
theorem dX12_takesWay_23 : decode cX12_takesWay 23 = .ok (.if_icmp .lt 19, 3) := by decide +kernel
theorem dX12_takesWay_26 : decode cX12_takesWay 26 = .ok (.iload_n 3, 1) := by decide +kernel
theorem dX12_takesWay_27 : decode cX12_takesWay 27 = .ok (.aload_n 0, 1) := by decide +kernel
theorem dX12_takesWay_28 : decode cX12_takesWay 28 = .ok (.getfield 514, 3) := by decide +kernel
theorem dX12_takesWay_31 : decode cX12_takesWay 31 = .ok (.if_icmp .ne 32, 3) := by decide +kernel
theorem dX12_takesWay_34 : decode cX12_takesWay 34 = .ok (.iload_n 2, 1) := by decide +kernel
theorem dX12_takesWay_35 : decode cX12_takesWay 35 = .ok (.aload_n 0, 1) := by decide +kernel
theorem dX12_takesWay_36 : decode cX12_takesWay 36 = .ok (.getfield 517, 3) := by decide +kernel
theorem dX12_takesWay_39 : decode cX12_takesWay 39 = .ok (.if_icmp .ge 24, 3) := by decide +kernel
theorem dX12_takesWay_42 : decode cX12_takesWay 42 = .ok (.aload_n 0, 1) := by decide +kernel
theorem dX12_takesWay_43 : decode cX12_takesWay 43 = .ok (.iload_n 3, 1) := by decide +kernel
theorem dX12_takesWay_44 : decode cX12_takesWay 44 = .ok (.putfield 514, 3) := by decide +kernel
theorem dX12_takesWay_47 : decode cX12_takesWay 47 = .ok (.aload_n 0, 1) := by decide +kernel
theorem dX12_takesWay_48 : decode cX12_takesWay 48 = .ok (.iload_n 2, 1) := by decide +kernel
theorem dX12_takesWay_49 : decode cX12_takesWay 49 = .ok (.putfield 517, 3) := by decide +kernel
theorem dX12_takesWay_52 : decode cX12_takesWay 52 = .ok (.aload_n 0, 1) := by decide +kernel
theorem dX12_takesWay_53 : decode cX12_takesWay 53 = .ok (.getfield 137, 3) := by decide +kernel
theorem dX12_takesWay_56 : decode cX12_takesWay 56 = .ok (.aload_n 0, 1) := by decide +kernel
theorem dX12_takesWay_57 : decode cX12_takesWay 57 = .ok (.getfield 146, 3) := by decide +kernel
theorem dX12_takesWay_60 : decode cX12_takesWay 60 = .ok (.invokestatic 365, 3) := by decide +kernel
theorem dX12_takesWay_63 : decode cX12_takesWay 63 = .ok (.return_, 1) := by decide +kernel
abbrev D_X12_takesWay : Nat := 3
set_option maxRecDepth 100000 in
def f_X12_takesWay (μ0 : Mm) (a1 : Nat) (x2 : Int32) (x3 : Int32) : Option Mm :=
 ((gI μ0 a1 12 51).bind fun v4 =>
    ((ob μ0 a1 12).bind fun _ =>
    (bd (f_X12_worthOf μ0 a1 v4 x2) fun v6 μ5 =>
    (nm v6 fun x7 =>
    ((gI μ5 a1 12 63).bind fun v8 =>
    (if v8 = (-1 : Int32) then
    ((pV μ5 a1 12 63 (.int x7)).bind fun μ9 =>
    ((pV μ9 a1 12 64 (.int x3)).bind fun μ10 =>
    ((gR μ10 a1 12 59).bind fun v11 =>
    ((gR μ10 a1 12 62).bind fun v12 =>
    ((f_X12_copies μ10 v11 v12).bind fun μ13 =>
    (some μ13))))))
    else
    ((gI μ5 a1 12 63).bind fun v14 =>
    (if x7 < v14 then
    ((pV μ5 a1 12 63 (.int x7)).bind fun μ15 =>
    ((pV μ15 a1 12 64 (.int x3)).bind fun μ16 =>
    ((gR μ16 a1 12 59).bind fun v17 =>
    ((gR μ16 a1 12 62).bind fun v18 =>
    ((f_X12_copies μ16 v17 v18).bind fun μ19 =>
    (some μ19))))))
    else
    ((gI μ5 a1 12 63).bind fun v20 =>
    (if x7 = v20 then
    ((gI μ5 a1 12 64).bind fun v21 =>
    (if v21 ≤ x3 then
    (some μ5)
    else
    ((pV μ5 a1 12 63 (.int x7)).bind fun μ22 =>
    ((pV μ22 a1 12 64 (.int x3)).bind fun μ23 =>
    ((gR μ23 a1 12 59).bind fun v24 =>
    ((gR μ23 a1 12 62).bind fun v25 =>
    ((f_X12_copies μ23 v24 v25).bind fun μ26 =>
    (some μ26))))))))
    else
    (some μ5)))))))))))
set_option maxHeartbeats 4000000 in
set_option maxRecDepth 100000 in
theorem f_X12_takesWay_ok {l : Launch} {G : GG} {μ0 : Mm} {a1 : Nat} {x2 : Int32} {x3 : Int32} {μ' : Mm} (hf : f_X12_takesWay μ0 a1 x2 x3 = some μ') : EvM l G D_X12_takesWay yX12_takesWay cX12_takesWay 4 none [.ref a1, .int x2, .int x3] μ0 none μ' := by
  show Ev l G D_X12_takesWay yX12_takesWay cX12_takesWay 4 none 0 [(0, .ref a1), (1, .int x2), (2, .int x3)] [] μ0 none μ'
  unfold f_X12_takesWay at hf
  refine E_aload_n (pc := 0) dX12_takesWay_0 rfl ?_
  refine E_aload_n (pc := 1) dX12_takesWay_1 rfl ?_
  refine E_getI (pc := 2) dX12_takesWay_2 fl_X12_443 hf (fun v4 hf => ?_)
  refine E_iload_n (pc := 5) dX12_takesWay_5 rfl ?_
  refine E_Vi (pc := 6) (d2 := D_X12_worthOf) (ci := 12) [.int v4, .int x2] dX12_takesWay_6 ml_X12_511 mf_X12_worthOf im_X12_worthOf rfl rfl rfl (by decide) (Nat.le_of_ble_eq_true rfl) (Nat.le_of_ble_eq_true rfl) rfl (fun _ _ h => f_X12_worthOf_ok h) hf (fun v6 μ5 hf => ?_)
  refine E_istore_n (pc := 9) (ls' := fun x7 => [(3, .int x7), (0, .ref a1), (1, .int x2), (2, .int x3)]) dX12_takesWay_9 (by decide) (fun _ => rfl) hf (fun x7 hf => ?_)
  refine E_aload_n (pc := 10) dX12_takesWay_10 rfl ?_
  refine E_getI (pc := 11) dX12_takesWay_11 fl_X12_514 hf (fun v8 hf => ?_)
  refine E_iconst (pc := 14) (v := (-1 : Int32)) dX12_takesWay_14 (by decide) ?_
  refine E_icmp_eq (pc := 15) (tgt := 42) dX12_takesWay_15 (by decide) hf (fun hf => ?_) (fun hf => ?_)
  · refine E_aload_n (pc := 42) dX12_takesWay_42 rfl ?_
    refine E_iload_n (pc := 43) dX12_takesWay_43 rfl ?_
    refine E_putI (pc := 44) dX12_takesWay_44 (pl_X12_514 _) hf (fun μ9 hf => ?_)
    refine E_aload_n (pc := 47) dX12_takesWay_47 rfl ?_
    refine E_iload_n (pc := 48) dX12_takesWay_48 rfl ?_
    refine E_putI (pc := 49) dX12_takesWay_49 (pl_X12_517 _) hf (fun μ10 hf => ?_)
    refine E_aload_n (pc := 52) dX12_takesWay_52 rfl ?_
    refine E_getR (pc := 53) dX12_takesWay_53 fl_X12_137 hf (fun v11 hf => ?_)
    refine E_aload_n (pc := 56) dX12_takesWay_56 rfl ?_
    refine E_getR (pc := 57) dX12_takesWay_57 fl_X12_146 hf (fun v12 hf => ?_)
    refine E_Sv (pc := 60) (d2 := D_X12_copies) [.ref v11, .ref v12] dX12_takesWay_60 ml_X12_365 mf_X12_copies st_X12_copies rfl (by decide) (Nat.le_of_ble_eq_true rfl) (Nat.le_of_ble_eq_true rfl) rfl (fun _ h => f_X12_copies_ok h) hf (fun μ13 hf => ?_)
    exact E_vret (pc := 63) dX12_takesWay_63 rfl hf
  · refine E_iload_n (pc := 18) dX12_takesWay_18 rfl ?_
    refine E_aload_n (pc := 19) dX12_takesWay_19 rfl ?_
    refine E_getI (pc := 20) dX12_takesWay_20 fl_X12_514 hf (fun v14 hf => ?_)
    refine E_icmp_lt (pc := 23) (tgt := 42) dX12_takesWay_23 (by decide) hf (fun hf => ?_) (fun hf => ?_)
    · refine E_aload_n (pc := 42) dX12_takesWay_42 rfl ?_
      refine E_iload_n (pc := 43) dX12_takesWay_43 rfl ?_
      refine E_putI (pc := 44) dX12_takesWay_44 (pl_X12_514 _) hf (fun μ15 hf => ?_)
      refine E_aload_n (pc := 47) dX12_takesWay_47 rfl ?_
      refine E_iload_n (pc := 48) dX12_takesWay_48 rfl ?_
      refine E_putI (pc := 49) dX12_takesWay_49 (pl_X12_517 _) hf (fun μ16 hf => ?_)
      refine E_aload_n (pc := 52) dX12_takesWay_52 rfl ?_
      refine E_getR (pc := 53) dX12_takesWay_53 fl_X12_137 hf (fun v17 hf => ?_)
      refine E_aload_n (pc := 56) dX12_takesWay_56 rfl ?_
      refine E_getR (pc := 57) dX12_takesWay_57 fl_X12_146 hf (fun v18 hf => ?_)
      refine E_Sv (pc := 60) (d2 := D_X12_copies) [.ref v17, .ref v18] dX12_takesWay_60 ml_X12_365 mf_X12_copies st_X12_copies rfl (by decide) (Nat.le_of_ble_eq_true rfl) (Nat.le_of_ble_eq_true rfl) rfl (fun _ h => f_X12_copies_ok h) hf (fun μ19 hf => ?_)
      exact E_vret (pc := 63) dX12_takesWay_63 rfl hf
    · refine E_iload_n (pc := 26) dX12_takesWay_26 rfl ?_
      refine E_aload_n (pc := 27) dX12_takesWay_27 rfl ?_
      refine E_getI (pc := 28) dX12_takesWay_28 fl_X12_514 hf (fun v20 hf => ?_)
      refine E_icmp_ne (pc := 31) (tgt := 63) dX12_takesWay_31 (by decide) hf (fun hf => ?_) (fun hf => ?_)
      · refine E_iload_n (pc := 34) dX12_takesWay_34 rfl ?_
        refine E_aload_n (pc := 35) dX12_takesWay_35 rfl ?_
        refine E_getI (pc := 36) dX12_takesWay_36 fl_X12_517 hf (fun v21 hf => ?_)
        refine E_icmp_ge (pc := 39) (tgt := 63) dX12_takesWay_39 (by decide) hf (fun hf => ?_) (fun hf => ?_)
        · exact E_vret (pc := 63) dX12_takesWay_63 rfl hf
        · refine E_aload_n (pc := 42) dX12_takesWay_42 rfl ?_
          refine E_iload_n (pc := 43) dX12_takesWay_43 rfl ?_
          refine E_putI (pc := 44) dX12_takesWay_44 (pl_X12_514 _) hf (fun μ22 hf => ?_)
          refine E_aload_n (pc := 47) dX12_takesWay_47 rfl ?_
          refine E_iload_n (pc := 48) dX12_takesWay_48 rfl ?_
          refine E_putI (pc := 49) dX12_takesWay_49 (pl_X12_517 _) hf (fun μ23 hf => ?_)
          refine E_aload_n (pc := 52) dX12_takesWay_52 rfl ?_
          refine E_getR (pc := 53) dX12_takesWay_53 fl_X12_137 hf (fun v24 hf => ?_)
          refine E_aload_n (pc := 56) dX12_takesWay_56 rfl ?_
          refine E_getR (pc := 57) dX12_takesWay_57 fl_X12_146 hf (fun v25 hf => ?_)
          refine E_Sv (pc := 60) (d2 := D_X12_copies) [.ref v24, .ref v25] dX12_takesWay_60 ml_X12_365 mf_X12_copies st_X12_copies rfl (by decide) (Nat.le_of_ble_eq_true rfl) (Nat.le_of_ble_eq_true rfl) rfl (fun _ h => f_X12_copies_ok h) hf (fun μ26 hf => ?_)
          exact E_vret (pc := 63) dX12_takesWay_63 rfl hf
      · exact E_vret (pc := 63) dX12_takesWay_63 rfl hf
theorem dX12_findsWay_0 : decode cX12_findsWay 0 = .ok (.aload_n 0, 1) := by decide +kernel
theorem dX12_findsWay_1 : decode cX12_findsWay 1 = .ok (.iconst (-1), 1) := by decide +kernel
theorem dX12_findsWay_2 : decode cX12_findsWay 2 = .ok (.putfield 514, 3) := by decide +kernel
theorem dX12_findsWay_5 : decode cX12_findsWay 5 = .ok (.aload_n 0, 1) := by decide +kernel
theorem dX12_findsWay_6 : decode cX12_findsWay 6 = .ok (.invokevirtual 469, 3) := by decide +kernel
theorem dX12_findsWay_9 : decode cX12_findsWay 9 = .ok (.iconst 0, 1) := by decide +kernel
theorem dX12_findsWay_10 : decode cX12_findsWay 10 = .ok (.istore_n 2, 1) := by decide +kernel
theorem dX12_findsWay_11 : decode cX12_findsWay 11 = .ok (.aload_n 0, 1) := by decide +kernel
theorem dX12_findsWay_12 : decode cX12_findsWay 12 = .ok (.getfield 134, 3) := by decide +kernel
theorem dX12_findsWay_15 : decode cX12_findsWay 15 = .ok (.iconst 0, 1) := by decide +kernel
theorem dX12_findsWay_16 : decode cX12_findsWay 16 = .ok (.aload_n 0, 1) := by decide +kernel
theorem dX12_findsWay_17 : decode cX12_findsWay 17 = .ok (.getfield 16, 3) := by decide +kernel
theorem dX12_findsWay_20 : decode cX12_findsWay 20 = .ok (.iload_n 1, 1) := by decide +kernel
theorem dX12_findsWay_21 : decode cX12_findsWay 21 = .ok (.iaload, 1) := by decide +kernel
theorem dX12_findsWay_22 : decode cX12_findsWay 22 = .ok (.iastore, 1) := by decide +kernel
theorem dX12_findsWay_23 : decode cX12_findsWay 23 = .ok (.aload_n 0, 1) := by decide +kernel
theorem dX12_findsWay_24 : decode cX12_findsWay 24 = .ok (.getfield 137, 3) := by decide +kernel
theorem dX12_findsWay_27 : decode cX12_findsWay 27 = .ok (.iconst 0, 1) := by decide +kernel
theorem dX12_findsWay_28 : decode cX12_findsWay 28 = .ok (.iconst (-1), 1) := by decide +kernel
theorem dX12_findsWay_29 : decode cX12_findsWay 29 = .ok (.iastore, 1) := by decide +kernel
theorem dX12_findsWay_30 : decode cX12_findsWay 30 = .ok (.aload_n 0, 1) := by decide +kernel
theorem dX12_findsWay_31 : decode cX12_findsWay 31 = .ok (.getfield 140, 3) := by decide +kernel
theorem dX12_findsWay_34 : decode cX12_findsWay 34 = .ok (.iconst 0, 1) := by decide +kernel
theorem dX12_findsWay_35 : decode cX12_findsWay 35 = .ok (.iconst 0, 1) := by decide +kernel
theorem dX12_findsWay_36 : decode cX12_findsWay 36 = .ok (.iastore, 1) := by decide +kernel
theorem dX12_findsWay_37 : decode cX12_findsWay 37 = .ok (.aload_n 0, 1) := by decide +kernel
theorem dX12_findsWay_38 : decode cX12_findsWay 38 = .ok (.getfield 143, 3) := by decide +kernel
theorem dX12_findsWay_41 : decode cX12_findsWay 41 = .ok (.iconst 0, 1) := by decide +kernel
theorem dX12_findsWay_42 : decode cX12_findsWay 42 = .ok (.iconst 0, 1) := by decide +kernel
theorem dX12_findsWay_43 : decode cX12_findsWay 43 = .ok (.iastore, 1) := by decide +kernel
theorem dX12_findsWay_44 : decode cX12_findsWay 44 = .ok (.aload_n 0, 1) := by decide +kernel
theorem dX12_findsWay_45 : decode cX12_findsWay 45 = .ok (.aload_n 0, 1) := by decide +kernel
theorem dX12_findsWay_46 : decode cX12_findsWay 46 = .ok (.getfield 16, 3) := by decide +kernel
theorem dX12_findsWay_49 : decode cX12_findsWay 49 = .ok (.iload_n 1, 1) := by decide +kernel
theorem dX12_findsWay_50 : decode cX12_findsWay 50 = .ok (.iaload, 1) := by decide +kernel
theorem dX12_findsWay_51 : decode cX12_findsWay 51 = .ok (.invokevirtual 412, 3) := by decide +kernel
theorem dX12_findsWay_54 : decode cX12_findsWay 54 = .ok (.iconst (-1), 1) := by decide +kernel
theorem dX12_findsWay_55 : decode cX12_findsWay 55 = .ok (.if_icmp .ne 10, 3) := by decide +kernel
theorem dX12_findsWay_58 : decode cX12_findsWay 58 = .ok (.aload_n 0, 1) := by decide +kernel
theorem dX12_findsWay_59 : decode cX12_findsWay 59 = .ok (.iload_n 1, 1) := by decide +kernel
theorem dX12_findsWay_60 : decode cX12_findsWay 60 = .ok (.iconst 0, 1) := by decide +kernel
theorem dX12_findsWay_61 : decode cX12_findsWay 61 = .ok (.invokevirtual 520, 3) := by decide +kernel
theorem dX12_findsWay_64 : decode cX12_findsWay 64 = .ok (.return_, 1) := by decide +kernel
theorem dX12_findsWay_65 : decode cX12_findsWay 65 = .ok (.iload_n 2, 1) := by decide +kernel
theorem dX12_findsWay_66 : decode cX12_findsWay 66 = .ok (.ifCond .lt 172, 3) := by decide +kernel
theorem dX12_findsWay_69 : decode cX12_findsWay 69 = .ok (.aload_n 0, 1) := by decide +kernel
theorem dX12_findsWay_70 : decode cX12_findsWay 70 = .ok (.getfield 137, 3) := by decide +kernel
theorem dX12_findsWay_73 : decode cX12_findsWay 73 = .ok (.iload_n 2, 1) := by decide +kernel
theorem dX12_findsWay_74 : decode cX12_findsWay 74 = .ok (.dup2, 1) := by decide +kernel
theorem dX12_findsWay_75 : decode cX12_findsWay 75 = .ok (.iaload, 1) := by decide +kernel
theorem dX12_findsWay_76 : decode cX12_findsWay 76 = .ok (.iconst 1, 1) := by decide +kernel
theorem dX12_findsWay_77 : decode cX12_findsWay 77 = .ok (.iadd, 1) := by decide +kernel
theorem dX12_findsWay_78 : decode cX12_findsWay 78 = .ok (.iastore, 1) := by decide +kernel
theorem dX12_findsWay_79 : decode cX12_findsWay 79 = .ok (.aload_n 0, 1) := by decide +kernel
theorem dX12_findsWay_80 : decode cX12_findsWay 80 = .ok (.getfield 137, 3) := by decide +kernel
theorem dX12_findsWay_83 : decode cX12_findsWay 83 = .ok (.iload_n 2, 1) := by decide +kernel
theorem dX12_findsWay_84 : decode cX12_findsWay 84 = .ok (.iaload, 1) := by decide +kernel
theorem dX12_findsWay_85 : decode cX12_findsWay 85 = .ok (.iconst 4, 1) := by decide +kernel
theorem dX12_findsWay_86 : decode cX12_findsWay 86 = .ok (.if_icmp .ge 22, 3) := by decide +kernel
theorem dX12_findsWay_89 : decode cX12_findsWay 89 = .ok (.aload_n 0, 1) := by decide +kernel
theorem dX12_findsWay_90 : decode cX12_findsWay 90 = .ok (.aload_n 0, 1) := by decide +kernel
theorem dX12_findsWay_91 : decode cX12_findsWay 91 = .ok (.getfield 134, 3) := by decide +kernel
theorem dX12_findsWay_94 : decode cX12_findsWay 94 = .ok (.iload_n 2, 1) := by decide +kernel
theorem dX12_findsWay_95 : decode cX12_findsWay 95 = .ok (.iaload, 1) := by decide +kernel
theorem dX12_findsWay_96 : decode cX12_findsWay 96 = .ok (.aload_n 0, 1) := by decide +kernel
theorem dX12_findsWay_97 : decode cX12_findsWay 97 = .ok (.getfield 137, 3) := by decide +kernel
theorem dX12_findsWay_100 : decode cX12_findsWay 100 = .ok (.iload_n 2, 1) := by decide +kernel
theorem dX12_findsWay_101 : decode cX12_findsWay 101 = .ok (.iaload, 1) := by decide +kernel
theorem dX12_findsWay_102 : decode cX12_findsWay 102 = .ok (.invokevirtual 409, 3) := by decide +kernel
theorem dX12_findsWay_105 : decode cX12_findsWay 105 = .ok (.goto 4, 3) := by decide +kernel
theorem dX12_findsWay_108 : decode cX12_findsWay 108 = .ok (.iconst (-1), 1) := by decide +kernel
theorem dX12_findsWay_109 : decode cX12_findsWay 109 = .ok (.istore_n 3, 1) := by decide +kernel
theorem dX12_findsWay_110 : decode cX12_findsWay 110 = .ok (.aload_n 0, 1) := by decide +kernel
theorem dX12_findsWay_111 : decode cX12_findsWay 111 = .ok (.getfield 137, 3) := by decide +kernel
theorem dX12_findsWay_114 : decode cX12_findsWay 114 = .ok (.iload_n 2, 1) := by decide +kernel
theorem dX12_findsWay_115 : decode cX12_findsWay 115 = .ok (.iaload, 1) := by decide +kernel
theorem dX12_findsWay_116 : decode cX12_findsWay 116 = .ok (.iconst 4, 1) := by decide +kernel
theorem dX12_findsWay_117 : decode cX12_findsWay 117 = .ok (.if_icmp .ne 9, 3) := by decide +kernel
theorem dX12_findsWay_120 : decode cX12_findsWay 120 = .ok (.iinc 2 (-1), 3) := by decide +kernel
theorem dX12_findsWay_123 : decode cX12_findsWay 123 = .ok (.goto 112, 3) := by decide +kernel
theorem dX12_findsWay_126 : decode cX12_findsWay 126 = .ok (.iload_n 3, 1) := by decide +kernel
theorem dX12_findsWay_127 : decode cX12_findsWay 127 = .ok (.iconst (-1), 1) := by decide +kernel
theorem dX12_findsWay_128 : decode cX12_findsWay 128 = .ok (.if_icmp .eq 107, 3) := by decide +kernel
theorem dX12_findsWay_131 : decode cX12_findsWay 131 = .ok (.aload_n 0, 1) := by decide +kernel
theorem dX12_findsWay_132 : decode cX12_findsWay 132 = .ok (.aload_n 0, 1) := by decide +kernel
theorem dX12_findsWay_133 : decode cX12_findsWay 133 = .ok (.getfield 140, 3) := by decide +kernel
theorem dX12_findsWay_136 : decode cX12_findsWay 136 = .ok (.iload_n 2, 1) := by decide +kernel
theorem dX12_findsWay_137 : decode cX12_findsWay 137 = .ok (.iaload, 1) := by decide +kernel
theorem dX12_findsWay_138 : decode cX12_findsWay 138 = .ok (.putfield 437, 3) := by decide +kernel
theorem dX12_findsWay_141 : decode cX12_findsWay 141 = .ok (.aload_n 0, 1) := by decide +kernel
theorem dX12_findsWay_142 : decode cX12_findsWay 142 = .ok (.aload_n 0, 1) := by decide +kernel
theorem dX12_findsWay_143 : decode cX12_findsWay 143 = .ok (.getfield 143, 3) := by decide +kernel
theorem dX12_findsWay_146 : decode cX12_findsWay 146 = .ok (.iload_n 2, 1) := by decide +kernel
theorem dX12_findsWay_147 : decode cX12_findsWay 147 = .ok (.iaload, 1) := by decide +kernel
theorem dX12_findsWay_148 : decode cX12_findsWay 148 = .ok (.putfield 443, 3) := by decide +kernel
theorem dX12_findsWay_151 : decode cX12_findsWay 151 = .ok (.aload_n 0, 1) := by decide +kernel
theorem dX12_findsWay_152 : decode cX12_findsWay 152 = .ok (.iload_n 2, 1) := by decide +kernel
theorem dX12_findsWay_153 : decode cX12_findsWay 153 = .ok (.putfield 434, 3) := by decide +kernel
theorem dX12_findsWay_156 : decode cX12_findsWay 156 = .ok (.aload_n 0, 1) := by decide +kernel
theorem dX12_findsWay_157 : decode cX12_findsWay 157 = .ok (.iload_n 1, 1) := by decide +kernel
theorem dX12_findsWay_158 : decode cX12_findsWay 158 = .ok (.iload_n 3, 1) := by decide +kernel
theorem dX12_findsWay_159 : decode cX12_findsWay 159 = .ok (.aload_n 0, 1) := by decide +kernel
theorem dX12_findsWay_160 : decode cX12_findsWay 160 = .ok (.getfield 13, 3) := by decide +kernel
theorem dX12_findsWay_163 : decode cX12_findsWay 163 = .ok (.aload_n 0, 1) := by decide +kernel
theorem dX12_findsWay_164 : decode cX12_findsWay 164 = .ok (.getfield 134, 3) := by decide +kernel
theorem dX12_findsWay_167 : decode cX12_findsWay 167 = .ok (.iload_n 2, 1) := by decide +kernel
theorem dX12_findsWay_168 : decode cX12_findsWay 168 = .ok (.iaload, 1) := by decide +kernel
theorem dX12_findsWay_169 : decode cX12_findsWay 169 = .ok (.iaload, 1) := by decide +kernel
theorem dX12_findsWay_170 : decode cX12_findsWay 170 = .ok (.aload_n 0, 1) := by decide +kernel
theorem dX12_findsWay_171 : decode cX12_findsWay 171 = .ok (.getfield 13, 3) := by decide +kernel
theorem dX12_findsWay_174 : decode cX12_findsWay 174 = .ok (.iload_n 3, 1) := by decide +kernel
theorem dX12_findsWay_175 : decode cX12_findsWay 175 = .ok (.iaload, 1) := by decide +kernel
theorem dX12_findsWay_176 : decode cX12_findsWay 176 = .ok (.isub, 1) := by decide +kernel
theorem dX12_findsWay_177 : decode cX12_findsWay 177 = .ok (.invokevirtual 472, 3) := by decide +kernel
theorem dX12_findsWay_180 : decode cX12_findsWay 180 = .ok (.istore 4, 2) := by decide +kernel
theorem dX12_findsWay_182 : decode cX12_findsWay 182 = .ok (.iload 4, 2) := by decide +kernel
theorem dX12_findsWay_184 : decode cX12_findsWay 184 = .ok (.ifCond .eq 43, 3) := by decide +kernel
theorem dX12_findsWay_187 : decode cX12_findsWay 187 = .ok (.iinc 2 1, 3) := by decide +kernel
theorem dX12_findsWay_190 : decode cX12_findsWay 190 = .ok (.aload_n 0, 1) := by decide +kernel
theorem dX12_findsWay_191 : decode cX12_findsWay 191 = .ok (.getfield 134, 3) := by decide +kernel
theorem dX12_findsWay_194 : decode cX12_findsWay 194 = .ok (.iload_n 2, 1) := by decide +kernel
theorem dX12_findsWay_195 : decode cX12_findsWay 195 = .ok (.iload_n 3, 1) := by decide +kernel
theorem dX12_findsWay_196 : decode cX12_findsWay 196 = .ok (.iastore, 1) := by decide +kernel
theorem dX12_findsWay_197 : decode cX12_findsWay 197 = .ok (.aload_n 0, 1) := by decide +kernel
theorem dX12_findsWay_198 : decode cX12_findsWay 198 = .ok (.getfield 137, 3) := by decide +kernel
theorem dX12_findsWay_201 : decode cX12_findsWay 201 = .ok (.iload_n 2, 1) := by decide +kernel
theorem dX12_findsWay_202 : decode cX12_findsWay 202 = .ok (.iconst (-1), 1) := by decide +kernel
theorem dX12_findsWay_203 : decode cX12_findsWay 203 = .ok (.iastore, 1) := by decide +kernel
theorem dX12_findsWay_204 : decode cX12_findsWay 204 = .ok (.aload_n 0, 1) := by decide +kernel
theorem dX12_findsWay_205 : decode cX12_findsWay 205 = .ok (.getfield 140, 3) := by decide +kernel
theorem dX12_findsWay_208 : decode cX12_findsWay 208 = .ok (.iload_n 2, 1) := by decide +kernel
theorem dX12_findsWay_209 : decode cX12_findsWay 209 = .ok (.aload_n 0, 1) := by decide +kernel
theorem dX12_findsWay_210 : decode cX12_findsWay 210 = .ok (.getfield 437, 3) := by decide +kernel
theorem dX12_findsWay_213 : decode cX12_findsWay 213 = .ok (.iastore, 1) := by decide +kernel
theorem dX12_findsWay_214 : decode cX12_findsWay 214 = .ok (.aload_n 0, 1) := by decide +kernel
theorem dX12_findsWay_215 : decode cX12_findsWay 215 = .ok (.getfield 143, 3) := by decide +kernel
theorem dX12_findsWay_218 : decode cX12_findsWay 218 = .ok (.iload_n 2, 1) := by decide +kernel
theorem dX12_findsWay_219 : decode cX12_findsWay 219 = .ok (.aload_n 0, 1) := by decide +kernel
theorem dX12_findsWay_220 : decode cX12_findsWay 220 = .ok (.getfield 443, 3) := by decide +kernel
theorem dX12_findsWay_223 : decode cX12_findsWay 223 = .ok (.iastore, 1) := by decide +kernel
theorem dX12_findsWay_224 : decode cX12_findsWay 224 = .ok (.goto 11, 3) := by decide +kernel
theorem dX12_findsWay_227 : decode cX12_findsWay 227 = .ok (.aload_n 0, 1) := by decide +kernel
theorem dX12_findsWay_228 : decode cX12_findsWay 228 = .ok (.iload_n 1, 1) := by decide +kernel
theorem dX12_findsWay_229 : decode cX12_findsWay 229 = .ok (.iload_n 2, 1) := by decide +kernel
theorem dX12_findsWay_230 : decode cX12_findsWay 230 = .ok (.iconst 1, 1) := by decide +kernel
theorem dX12_findsWay_231 : decode cX12_findsWay 231 = .ok (.iadd, 1) := by decide +kernel
theorem dX12_findsWay_232 : decode cX12_findsWay 232 = .ok (.invokevirtual 520, 3) := by decide +kernel
theorem dX12_findsWay_235 : decode cX12_findsWay 235 = .ok (.goto (-170), 3) := by decide +kernel
theorem dX12_findsWay_238 : decode cX12_findsWay 238 = .ok (.return_, 1) := by decide +kernel
abbrev D_X12_findsWay : Nat := 7
def f_X12_findsWay_L65 (K238 : Mm → Option Mm) : Nat → Mm → Nat → Int32 → Int32 → Option Mm
  | 0, _, _, _, _ => none
  | n + 1, μ0, a21, x22, x23 =>
    (if x23 < 0 then
    K238 μ0
    else
    ((gR μ0 a21 12 59).bind fun v24 =>
    ((aI μ0 v24 0 x23).bind fun v25 =>
    ((sI μ0 v24 0 x23 (v25 + (1 : Int32))).bind fun μ26 =>
    ((gR μ26 a21 12 59).bind fun v27 =>
    ((aI μ26 v27 0 x23).bind fun v28 =>
    (if (4 : Int32) ≤ v28 then
    (nm (-1 : Int32) fun x29 =>
    ((gR μ26 a21 12 59).bind fun v30 =>
    ((aI μ26 v30 0 x23).bind fun v31 =>
    (if v31 = (4 : Int32) then
    (nm (x23 + Int32.ofInt (-1)) fun x32 =>
    f_X12_findsWay_L65 K238 n μ26 a21 x22 x32)
    else
    (if x29 = (-1 : Int32) then
    f_X12_findsWay_L65 K238 n μ26 a21 x22 x23
    else
    ((gR μ26 a21 12 60).bind fun v33 =>
    ((aI μ26 v33 0 x23).bind fun v34 =>
    ((pV μ26 a21 12 49 (.int v34)).bind fun μ35 =>
    ((gR μ35 a21 12 61).bind fun v36 =>
    ((aI μ35 v36 0 x23).bind fun v37 =>
    ((pV μ35 a21 12 51 (.int v37)).bind fun μ38 =>
    ((pV μ38 a21 12 50 (.int x23)).bind fun μ39 =>
    ((gR μ39 a21 12 2).bind fun v40 =>
    ((gR μ39 a21 12 58).bind fun v41 =>
    ((aI μ39 v41 0 x23).bind fun v42 =>
    ((aI μ39 v40 0 v42).bind fun v43 =>
    ((gR μ39 a21 12 2).bind fun v44 =>
    ((aI μ39 v44 0 x29).bind fun v45 =>
    ((ob μ39 a21 12).bind fun _ =>
    (bd (f_X12_comesTo μ39 a21 x22 x29 (v43 - v45)) fun v47 μ46 =>
    (nm v47 fun x48 =>
    (if x48 = 0 then
    ((ob μ46 a21 12).bind fun _ =>
    ((f_X12_takesWay μ46 a21 x22 (x23 + (1 : Int32))).bind fun μ49 =>
    f_X12_findsWay_L65 K238 n μ49 a21 x22 x23))
    else
    (nm (x23 + Int32.ofInt (1)) fun x50 =>
    ((gR μ46 a21 12 58).bind fun v51 =>
    ((sI μ46 v51 0 x50 x29).bind fun μ52 =>
    ((gR μ52 a21 12 59).bind fun v53 =>
    ((sI μ52 v53 0 x50 (-1 : Int32)).bind fun μ54 =>
    ((gR μ54 a21 12 60).bind fun v55 =>
    ((gI μ54 a21 12 49).bind fun v56 =>
    ((sI μ54 v55 0 x50 v56).bind fun μ57 =>
    ((gR μ57 a21 12 61).bind fun v58 =>
    ((gI μ57 a21 12 51).bind fun v59 =>
    ((sI μ57 v58 0 x50 v59).bind fun μ60 =>
    f_X12_findsWay_L65 K238 n μ60 a21 x22 x50)))))))))))))))))))))))))))))))))
    else
    ((gR μ26 a21 12 58).bind fun v61 =>
    ((aI μ26 v61 0 x23).bind fun v62 =>
    ((gR μ26 a21 12 59).bind fun v63 =>
    ((aI μ26 v63 0 x23).bind fun v64 =>
    ((ob μ26 a21 12).bind fun _ =>
    (bd (f_X12_lower μ26 a21 v62 v64) fun v66 μ65 =>
    (nm v66 fun x67 =>
    ((gR μ65 a21 12 59).bind fun v68 =>
    ((aI μ65 v68 0 x23).bind fun v69 =>
    (if v69 = (4 : Int32) then
    (nm (x23 + Int32.ofInt (-1)) fun x70 =>
    f_X12_findsWay_L65 K238 n μ65 a21 x22 x70)
    else
    (if x67 = (-1 : Int32) then
    f_X12_findsWay_L65 K238 n μ65 a21 x22 x23
    else
    ((gR μ65 a21 12 60).bind fun v71 =>
    ((aI μ65 v71 0 x23).bind fun v72 =>
    ((pV μ65 a21 12 49 (.int v72)).bind fun μ73 =>
    ((gR μ73 a21 12 61).bind fun v74 =>
    ((aI μ73 v74 0 x23).bind fun v75 =>
    ((pV μ73 a21 12 51 (.int v75)).bind fun μ76 =>
    ((pV μ76 a21 12 50 (.int x23)).bind fun μ77 =>
    ((gR μ77 a21 12 2).bind fun v78 =>
    ((gR μ77 a21 12 58).bind fun v79 =>
    ((aI μ77 v79 0 x23).bind fun v80 =>
    ((aI μ77 v78 0 v80).bind fun v81 =>
    ((gR μ77 a21 12 2).bind fun v82 =>
    ((aI μ77 v82 0 x67).bind fun v83 =>
    ((ob μ77 a21 12).bind fun _ =>
    (bd (f_X12_comesTo μ77 a21 x22 x67 (v81 - v83)) fun v85 μ84 =>
    (nm v85 fun x86 =>
    (if x86 = 0 then
    ((ob μ84 a21 12).bind fun _ =>
    ((f_X12_takesWay μ84 a21 x22 (x23 + (1 : Int32))).bind fun μ87 =>
    f_X12_findsWay_L65 K238 n μ87 a21 x22 x23))
    else
    (nm (x23 + Int32.ofInt (1)) fun x88 =>
    ((gR μ84 a21 12 58).bind fun v89 =>
    ((sI μ84 v89 0 x88 x67).bind fun μ90 =>
    ((gR μ90 a21 12 59).bind fun v91 =>
    ((sI μ90 v91 0 x88 (-1 : Int32)).bind fun μ92 =>
    ((gR μ92 a21 12 60).bind fun v93 =>
    ((gI μ92 a21 12 49).bind fun v94 =>
    ((sI μ92 v93 0 x88 v94).bind fun μ95 =>
    ((gR μ95 a21 12 61).bind fun v96 =>
    ((gI μ95 a21 12 51).bind fun v97 =>
    ((sI μ95 v96 0 x88 v97).bind fun μ98 =>
    f_X12_findsWay_L65 K238 n μ98 a21 x22 x88))))))))))))))))))))))))))))))))))))))))))))))
set_option maxHeartbeats 4000000 in
set_option maxRecDepth 100000 in
theorem f_X12_findsWay_L65_ok {l : Launch} {G : GG} {K238 : Mm → Option Mm} {μ' : Mm} (n : Nat) (μ0 : Mm) (a21 : Nat) (x22 : Int32) (x23 : Int32) (hf : f_X12_findsWay_L65 K238 n μ0 a21 x22 x23 = some μ') (hK238 : ∀ (μ1 : Mm), K238 μ1  = some μ' → Ev l G D_X12_findsWay yX12_findsWay cX12_findsWay 5 none 238 [] [] μ1 none μ') : Ev l G D_X12_findsWay yX12_findsWay cX12_findsWay 5 none 65 [(0, .ref a21), (1, .int x22), (2, .int x23)] [] μ0 none μ' := by
  induction n generalizing μ0 a21 x22 x23 with
  | zero => cases hf
  | succ n ih0 =>
    have ih : ∀ (μ0 : Mm) (a21 : Nat) (x22 : Int32) (x23 : Int32), f_X12_findsWay_L65 K238 n μ0 a21 x22 x23 = some μ' → Ev l G D_X12_findsWay yX12_findsWay cX12_findsWay 5 none 65 [(0, .ref a21), (1, .int x22), (2, .int x23)] [] μ0 none μ' := fun μ0 a21 x22 x23 hf => ih0 μ0 a21 x22 x23 hf
    rw [f_X12_findsWay_L65] at hf
    refine E_iload_n (pc := 65) dX12_findsWay_65 rfl ?_
    refine E_if_lt (pc := 66) (tgt := 238) dX12_findsWay_66 (by decide) hf (fun hf => ?_) (fun hf => ?_)
    · refine Ev.sub [] rfl ?_
      exact hK238 _ hf
    · refine E_aload_n (pc := 69) dX12_findsWay_69 rfl ?_
      refine E_getR (pc := 70) dX12_findsWay_70 fl_X12_137 hf (fun v24 hf => ?_)
      refine E_iload_n (pc := 73) dX12_findsWay_73 rfl ?_
      refine E_dup2 (pc := 74) dX12_findsWay_74 rfl rfl ?_
      refine E_iald (pc := 75) dX12_findsWay_75 hf (fun v25 hf => ?_)
      refine E_iconst (pc := 76) (v := (1 : Int32)) dX12_findsWay_76 (by decide) ?_
      refine E_iadd (pc := 77) dX12_findsWay_77 ?_
      refine E_iast (pc := 78) dX12_findsWay_78 hf (fun μ26 hf => ?_)
      refine E_aload_n (pc := 79) dX12_findsWay_79 rfl ?_
      refine E_getR (pc := 80) dX12_findsWay_80 fl_X12_137 hf (fun v27 hf => ?_)
      refine E_iload_n (pc := 83) dX12_findsWay_83 rfl ?_
      refine E_iald (pc := 84) dX12_findsWay_84 hf (fun v28 hf => ?_)
      refine E_iconst (pc := 85) (v := (4 : Int32)) dX12_findsWay_85 (by decide) ?_
      refine E_icmp_ge (pc := 86) (tgt := 108) dX12_findsWay_86 (by decide) hf (fun hf => ?_) (fun hf => ?_)
      · refine E_iconst (pc := 108) (v := (-1 : Int32)) dX12_findsWay_108 (by decide) ?_
        refine E_istore_n (pc := 109) (ls' := fun x29 => [(3, .int x29), (0, .ref a21), (1, .int x22), (2, .int x23)]) dX12_findsWay_109 (by decide) (fun _ => rfl) hf (fun x29 hf => ?_)
        refine E_aload_n (pc := 110) dX12_findsWay_110 rfl ?_
        refine E_getR (pc := 111) dX12_findsWay_111 fl_X12_137 hf (fun v30 hf => ?_)
        refine E_iload_n (pc := 114) dX12_findsWay_114 rfl ?_
        refine E_iald (pc := 115) dX12_findsWay_115 hf (fun v31 hf => ?_)
        refine E_iconst (pc := 116) (v := (4 : Int32)) dX12_findsWay_116 (by decide) ?_
        refine E_icmp_ne (pc := 117) (tgt := 126) dX12_findsWay_117 (by decide) hf (fun hf => ?_) (fun hf => ?_)
        · refine E_iinc (pc := 120) (ls' := fun x32 => [(2, .int x32), (3, .int x29), (0, .ref a21), (1, .int x22)]) dX12_findsWay_120 rfl (by decide) (fun _ => rfl) hf (fun x32 hf => ?_)
          refine E_goto (pc := 123) (tgt := 235) dX12_findsWay_123 (by decide) ?_
          refine E_goto (pc := 235) (tgt := 65) dX12_findsWay_235 (by decide) ?_
          refine Ev.sub [2, 3, 0] rfl ?_
          exact ih _ _ _ _ hf
        · refine E_iload_n (pc := 126) dX12_findsWay_126 rfl ?_
          refine E_iconst (pc := 127) (v := (-1 : Int32)) dX12_findsWay_127 (by decide) ?_
          refine E_icmp_eq (pc := 128) (tgt := 235) dX12_findsWay_128 (by decide) hf (fun hf => ?_) (fun hf => ?_)
          · refine E_goto (pc := 235) (tgt := 65) dX12_findsWay_235 (by decide) ?_
            refine Ev.sub [1, 2, 3] rfl ?_
            exact ih _ _ _ _ hf
          · refine E_aload_n (pc := 131) dX12_findsWay_131 rfl ?_
            refine E_aload_n (pc := 132) dX12_findsWay_132 rfl ?_
            refine E_getR (pc := 133) dX12_findsWay_133 fl_X12_140 hf (fun v33 hf => ?_)
            refine E_iload_n (pc := 136) dX12_findsWay_136 rfl ?_
            refine E_iald (pc := 137) dX12_findsWay_137 hf (fun v34 hf => ?_)
            refine E_putI (pc := 138) dX12_findsWay_138 (pl_X12_437 _) hf (fun μ35 hf => ?_)
            refine E_aload_n (pc := 141) dX12_findsWay_141 rfl ?_
            refine E_aload_n (pc := 142) dX12_findsWay_142 rfl ?_
            refine E_getR (pc := 143) dX12_findsWay_143 fl_X12_143 hf (fun v36 hf => ?_)
            refine E_iload_n (pc := 146) dX12_findsWay_146 rfl ?_
            refine E_iald (pc := 147) dX12_findsWay_147 hf (fun v37 hf => ?_)
            refine E_putI (pc := 148) dX12_findsWay_148 (pl_X12_443 _) hf (fun μ38 hf => ?_)
            refine E_aload_n (pc := 151) dX12_findsWay_151 rfl ?_
            refine E_iload_n (pc := 152) dX12_findsWay_152 rfl ?_
            refine E_putI (pc := 153) dX12_findsWay_153 (pl_X12_434 _) hf (fun μ39 hf => ?_)
            refine E_aload_n (pc := 156) dX12_findsWay_156 rfl ?_
            refine E_iload_n (pc := 157) dX12_findsWay_157 rfl ?_
            refine E_iload_n (pc := 158) dX12_findsWay_158 rfl ?_
            refine E_aload_n (pc := 159) dX12_findsWay_159 rfl ?_
            refine E_getR (pc := 160) dX12_findsWay_160 fl_X12_13 hf (fun v40 hf => ?_)
            refine E_aload_n (pc := 163) dX12_findsWay_163 rfl ?_
            refine E_getR (pc := 164) dX12_findsWay_164 fl_X12_134 hf (fun v41 hf => ?_)
            refine E_iload_n (pc := 167) dX12_findsWay_167 rfl ?_
            refine E_iald (pc := 168) dX12_findsWay_168 hf (fun v42 hf => ?_)
            refine E_iald (pc := 169) dX12_findsWay_169 hf (fun v43 hf => ?_)
            refine E_aload_n (pc := 170) dX12_findsWay_170 rfl ?_
            refine E_getR (pc := 171) dX12_findsWay_171 fl_X12_13 hf (fun v44 hf => ?_)
            refine E_iload_n (pc := 174) dX12_findsWay_174 rfl ?_
            refine E_iald (pc := 175) dX12_findsWay_175 hf (fun v45 hf => ?_)
            refine E_isub (pc := 176) dX12_findsWay_176 ?_
            refine E_Vi (pc := 177) (d2 := D_X12_comesTo) (ci := 12) [.int x22, .int x29, .int (v43 - v45)] dX12_findsWay_177 ml_X12_472 mf_X12_comesTo im_X12_comesTo rfl rfl rfl (by decide) (Nat.le_of_ble_eq_true rfl) (Nat.le_of_ble_eq_true rfl) rfl (fun _ _ h => f_X12_comesTo_ok h) hf (fun v47 μ46 hf => ?_)
            refine E_istore (pc := 180) (ls' := fun x48 => [(4, .int x48), (3, .int x29), (0, .ref a21), (1, .int x22), (2, .int x23)]) dX12_findsWay_180 (by decide) (fun _ => rfl) hf (fun x48 hf => ?_)
            refine E_iload (pc := 182) dX12_findsWay_182 rfl ?_
            refine E_if_eq (pc := 184) (tgt := 227) dX12_findsWay_184 (by decide) hf (fun hf => ?_) (fun hf => ?_)
            · refine E_aload_n (pc := 227) dX12_findsWay_227 rfl ?_
              refine E_iload_n (pc := 228) dX12_findsWay_228 rfl ?_
              refine E_iload_n (pc := 229) dX12_findsWay_229 rfl ?_
              refine E_iconst (pc := 230) (v := (1 : Int32)) dX12_findsWay_230 (by decide) ?_
              refine E_iadd (pc := 231) dX12_findsWay_231 ?_
              refine E_Vv (pc := 232) (d2 := D_X12_takesWay) (ci := 12) [.int x22, .int (x23 + (1 : Int32))] dX12_findsWay_232 ml_X12_520 mf_X12_takesWay im_X12_takesWay rfl rfl rfl (by decide) (Nat.le_of_ble_eq_true rfl) (Nat.le_of_ble_eq_true rfl) rfl (fun _ h => f_X12_takesWay_ok h) hf (fun μ49 hf => ?_)
              refine E_goto (pc := 235) (tgt := 65) dX12_findsWay_235 (by decide) ?_
              refine Ev.sub [2, 3, 4] rfl ?_
              exact ih _ _ _ _ hf
            · refine E_iinc (pc := 187) (ls' := fun x50 => [(2, .int x50), (4, .int x48), (3, .int x29), (0, .ref a21), (1, .int x22)]) dX12_findsWay_187 rfl (by decide) (fun _ => rfl) hf (fun x50 hf => ?_)
              refine E_aload_n (pc := 190) dX12_findsWay_190 rfl ?_
              refine E_getR (pc := 191) dX12_findsWay_191 fl_X12_134 hf (fun v51 hf => ?_)
              refine E_iload_n (pc := 194) dX12_findsWay_194 rfl ?_
              refine E_iload_n (pc := 195) dX12_findsWay_195 rfl ?_
              refine E_iast (pc := 196) dX12_findsWay_196 hf (fun μ52 hf => ?_)
              refine E_aload_n (pc := 197) dX12_findsWay_197 rfl ?_
              refine E_getR (pc := 198) dX12_findsWay_198 fl_X12_137 hf (fun v53 hf => ?_)
              refine E_iload_n (pc := 201) dX12_findsWay_201 rfl ?_
              refine E_iconst (pc := 202) (v := (-1 : Int32)) dX12_findsWay_202 (by decide) ?_
              refine E_iast (pc := 203) dX12_findsWay_203 hf (fun μ54 hf => ?_)
              refine E_aload_n (pc := 204) dX12_findsWay_204 rfl ?_
              refine E_getR (pc := 205) dX12_findsWay_205 fl_X12_140 hf (fun v55 hf => ?_)
              refine E_iload_n (pc := 208) dX12_findsWay_208 rfl ?_
              refine E_aload_n (pc := 209) dX12_findsWay_209 rfl ?_
              refine E_getI (pc := 210) dX12_findsWay_210 fl_X12_437 hf (fun v56 hf => ?_)
              refine E_iast (pc := 213) dX12_findsWay_213 hf (fun μ57 hf => ?_)
              refine E_aload_n (pc := 214) dX12_findsWay_214 rfl ?_
              refine E_getR (pc := 215) dX12_findsWay_215 fl_X12_143 hf (fun v58 hf => ?_)
              refine E_iload_n (pc := 218) dX12_findsWay_218 rfl ?_
              refine E_aload_n (pc := 219) dX12_findsWay_219 rfl ?_
              refine E_getI (pc := 220) dX12_findsWay_220 fl_X12_443 hf (fun v59 hf => ?_)
              refine E_iast (pc := 223) dX12_findsWay_223 hf (fun μ60 hf => ?_)
              refine E_goto (pc := 224) (tgt := 235) dX12_findsWay_224 (by decide) ?_
              refine E_goto (pc := 235) (tgt := 65) dX12_findsWay_235 (by decide) ?_
              refine Ev.sub [3, 4, 0] rfl ?_
              exact ih _ _ _ _ hf
      · refine E_aload_n (pc := 89) dX12_findsWay_89 rfl ?_
        refine E_aload_n (pc := 90) dX12_findsWay_90 rfl ?_
        refine E_getR (pc := 91) dX12_findsWay_91 fl_X12_134 hf (fun v61 hf => ?_)
        refine E_iload_n (pc := 94) dX12_findsWay_94 rfl ?_
        refine E_iald (pc := 95) dX12_findsWay_95 hf (fun v62 hf => ?_)
        refine E_aload_n (pc := 96) dX12_findsWay_96 rfl ?_
        refine E_getR (pc := 97) dX12_findsWay_97 fl_X12_137 hf (fun v63 hf => ?_)
        refine E_iload_n (pc := 100) dX12_findsWay_100 rfl ?_
        refine E_iald (pc := 101) dX12_findsWay_101 hf (fun v64 hf => ?_)
        refine E_Vi (pc := 102) (d2 := D_X12_lower) (ci := 12) [.int v62, .int v64] dX12_findsWay_102 ml_X12_409 mf_X12_lower im_X12_lower rfl rfl rfl (by decide) (Nat.le_of_ble_eq_true rfl) (Nat.le_of_ble_eq_true rfl) rfl (fun _ _ h => f_X12_lower_ok h) hf (fun v66 μ65 hf => ?_)
        refine E_goto (pc := 105) (tgt := 109) dX12_findsWay_105 (by decide) ?_
        refine E_istore_n (pc := 109) (ls' := fun x67 => [(3, .int x67), (0, .ref a21), (1, .int x22), (2, .int x23)]) dX12_findsWay_109 (by decide) (fun _ => rfl) hf (fun x67 hf => ?_)
        refine E_aload_n (pc := 110) dX12_findsWay_110 rfl ?_
        refine E_getR (pc := 111) dX12_findsWay_111 fl_X12_137 hf (fun v68 hf => ?_)
        refine E_iload_n (pc := 114) dX12_findsWay_114 rfl ?_
        refine E_iald (pc := 115) dX12_findsWay_115 hf (fun v69 hf => ?_)
        refine E_iconst (pc := 116) (v := (4 : Int32)) dX12_findsWay_116 (by decide) ?_
        refine E_icmp_ne (pc := 117) (tgt := 126) dX12_findsWay_117 (by decide) hf (fun hf => ?_) (fun hf => ?_)
        · refine E_iinc (pc := 120) (ls' := fun x70 => [(2, .int x70), (3, .int x67), (0, .ref a21), (1, .int x22)]) dX12_findsWay_120 rfl (by decide) (fun _ => rfl) hf (fun x70 hf => ?_)
          refine E_goto (pc := 123) (tgt := 235) dX12_findsWay_123 (by decide) ?_
          refine E_goto (pc := 235) (tgt := 65) dX12_findsWay_235 (by decide) ?_
          refine Ev.sub [2, 3, 0] rfl ?_
          exact ih _ _ _ _ hf
        · refine E_iload_n (pc := 126) dX12_findsWay_126 rfl ?_
          refine E_iconst (pc := 127) (v := (-1 : Int32)) dX12_findsWay_127 (by decide) ?_
          refine E_icmp_eq (pc := 128) (tgt := 235) dX12_findsWay_128 (by decide) hf (fun hf => ?_) (fun hf => ?_)
          · refine E_goto (pc := 235) (tgt := 65) dX12_findsWay_235 (by decide) ?_
            refine Ev.sub [1, 2, 3] rfl ?_
            exact ih _ _ _ _ hf
          · refine E_aload_n (pc := 131) dX12_findsWay_131 rfl ?_
            refine E_aload_n (pc := 132) dX12_findsWay_132 rfl ?_
            refine E_getR (pc := 133) dX12_findsWay_133 fl_X12_140 hf (fun v71 hf => ?_)
            refine E_iload_n (pc := 136) dX12_findsWay_136 rfl ?_
            refine E_iald (pc := 137) dX12_findsWay_137 hf (fun v72 hf => ?_)
            refine E_putI (pc := 138) dX12_findsWay_138 (pl_X12_437 _) hf (fun μ73 hf => ?_)
            refine E_aload_n (pc := 141) dX12_findsWay_141 rfl ?_
            refine E_aload_n (pc := 142) dX12_findsWay_142 rfl ?_
            refine E_getR (pc := 143) dX12_findsWay_143 fl_X12_143 hf (fun v74 hf => ?_)
            refine E_iload_n (pc := 146) dX12_findsWay_146 rfl ?_
            refine E_iald (pc := 147) dX12_findsWay_147 hf (fun v75 hf => ?_)
            refine E_putI (pc := 148) dX12_findsWay_148 (pl_X12_443 _) hf (fun μ76 hf => ?_)
            refine E_aload_n (pc := 151) dX12_findsWay_151 rfl ?_
            refine E_iload_n (pc := 152) dX12_findsWay_152 rfl ?_
            refine E_putI (pc := 153) dX12_findsWay_153 (pl_X12_434 _) hf (fun μ77 hf => ?_)
            refine E_aload_n (pc := 156) dX12_findsWay_156 rfl ?_
            refine E_iload_n (pc := 157) dX12_findsWay_157 rfl ?_
            refine E_iload_n (pc := 158) dX12_findsWay_158 rfl ?_
            refine E_aload_n (pc := 159) dX12_findsWay_159 rfl ?_
            refine E_getR (pc := 160) dX12_findsWay_160 fl_X12_13 hf (fun v78 hf => ?_)
            refine E_aload_n (pc := 163) dX12_findsWay_163 rfl ?_
            refine E_getR (pc := 164) dX12_findsWay_164 fl_X12_134 hf (fun v79 hf => ?_)
            refine E_iload_n (pc := 167) dX12_findsWay_167 rfl ?_
            refine E_iald (pc := 168) dX12_findsWay_168 hf (fun v80 hf => ?_)
            refine E_iald (pc := 169) dX12_findsWay_169 hf (fun v81 hf => ?_)
            refine E_aload_n (pc := 170) dX12_findsWay_170 rfl ?_
            refine E_getR (pc := 171) dX12_findsWay_171 fl_X12_13 hf (fun v82 hf => ?_)
            refine E_iload_n (pc := 174) dX12_findsWay_174 rfl ?_
            refine E_iald (pc := 175) dX12_findsWay_175 hf (fun v83 hf => ?_)
            refine E_isub (pc := 176) dX12_findsWay_176 ?_
            refine E_Vi (pc := 177) (d2 := D_X12_comesTo) (ci := 12) [.int x22, .int x67, .int (v81 - v83)] dX12_findsWay_177 ml_X12_472 mf_X12_comesTo im_X12_comesTo rfl rfl rfl (by decide) (Nat.le_of_ble_eq_true rfl) (Nat.le_of_ble_eq_true rfl) rfl (fun _ _ h => f_X12_comesTo_ok h) hf (fun v85 μ84 hf => ?_)
            refine E_istore (pc := 180) (ls' := fun x86 => [(4, .int x86), (3, .int x67), (0, .ref a21), (1, .int x22), (2, .int x23)]) dX12_findsWay_180 (by decide) (fun _ => rfl) hf (fun x86 hf => ?_)
            refine E_iload (pc := 182) dX12_findsWay_182 rfl ?_
            refine E_if_eq (pc := 184) (tgt := 227) dX12_findsWay_184 (by decide) hf (fun hf => ?_) (fun hf => ?_)
            · refine E_aload_n (pc := 227) dX12_findsWay_227 rfl ?_
              refine E_iload_n (pc := 228) dX12_findsWay_228 rfl ?_
              refine E_iload_n (pc := 229) dX12_findsWay_229 rfl ?_
              refine E_iconst (pc := 230) (v := (1 : Int32)) dX12_findsWay_230 (by decide) ?_
              refine E_iadd (pc := 231) dX12_findsWay_231 ?_
              refine E_Vv (pc := 232) (d2 := D_X12_takesWay) (ci := 12) [.int x22, .int (x23 + (1 : Int32))] dX12_findsWay_232 ml_X12_520 mf_X12_takesWay im_X12_takesWay rfl rfl rfl (by decide) (Nat.le_of_ble_eq_true rfl) (Nat.le_of_ble_eq_true rfl) rfl (fun _ h => f_X12_takesWay_ok h) hf (fun μ87 hf => ?_)
              refine E_goto (pc := 235) (tgt := 65) dX12_findsWay_235 (by decide) ?_
              refine Ev.sub [2, 3, 4] rfl ?_
              exact ih _ _ _ _ hf
            · refine E_iinc (pc := 187) (ls' := fun x88 => [(2, .int x88), (4, .int x86), (3, .int x67), (0, .ref a21), (1, .int x22)]) dX12_findsWay_187 rfl (by decide) (fun _ => rfl) hf (fun x88 hf => ?_)
              refine E_aload_n (pc := 190) dX12_findsWay_190 rfl ?_
              refine E_getR (pc := 191) dX12_findsWay_191 fl_X12_134 hf (fun v89 hf => ?_)
              refine E_iload_n (pc := 194) dX12_findsWay_194 rfl ?_
              refine E_iload_n (pc := 195) dX12_findsWay_195 rfl ?_
              refine E_iast (pc := 196) dX12_findsWay_196 hf (fun μ90 hf => ?_)
              refine E_aload_n (pc := 197) dX12_findsWay_197 rfl ?_
              refine E_getR (pc := 198) dX12_findsWay_198 fl_X12_137 hf (fun v91 hf => ?_)
              refine E_iload_n (pc := 201) dX12_findsWay_201 rfl ?_
              refine E_iconst (pc := 202) (v := (-1 : Int32)) dX12_findsWay_202 (by decide) ?_
              refine E_iast (pc := 203) dX12_findsWay_203 hf (fun μ92 hf => ?_)
              refine E_aload_n (pc := 204) dX12_findsWay_204 rfl ?_
              refine E_getR (pc := 205) dX12_findsWay_205 fl_X12_140 hf (fun v93 hf => ?_)
              refine E_iload_n (pc := 208) dX12_findsWay_208 rfl ?_
              refine E_aload_n (pc := 209) dX12_findsWay_209 rfl ?_
              refine E_getI (pc := 210) dX12_findsWay_210 fl_X12_437 hf (fun v94 hf => ?_)
              refine E_iast (pc := 213) dX12_findsWay_213 hf (fun μ95 hf => ?_)
              refine E_aload_n (pc := 214) dX12_findsWay_214 rfl ?_
              refine E_getR (pc := 215) dX12_findsWay_215 fl_X12_143 hf (fun v96 hf => ?_)
              refine E_iload_n (pc := 218) dX12_findsWay_218 rfl ?_
              refine E_aload_n (pc := 219) dX12_findsWay_219 rfl ?_
              refine E_getI (pc := 220) dX12_findsWay_220 fl_X12_443 hf (fun v97 hf => ?_)
              refine E_iast (pc := 223) dX12_findsWay_223 hf (fun μ98 hf => ?_)
              refine E_goto (pc := 224) (tgt := 235) dX12_findsWay_224 (by decide) ?_
              refine E_goto (pc := 235) (tgt := 65) dX12_findsWay_235 (by decide) ?_
              refine Ev.sub [3, 4, 0] rfl ?_
              exact ih _ _ _ _ hf
set_option maxRecDepth 100000 in
def f_X12_findsWay (μ0 : Mm) (a1 : Nat) (x2 : Int32) : Option Mm :=
 ((pV μ0 a1 12 63 (.int (-1 : Int32))).bind fun μ3 =>
    ((ob μ3 a1 12).bind fun _ =>
    ((f_X12_beginsFall μ3 a1).bind fun μ4 =>
    (nm (0 : Int32) fun x5 =>
    ((gR μ4 a1 12 58).bind fun v6 =>
    ((gR μ4 a1 12 3).bind fun v7 =>
    ((aI μ4 v7 0 x2).bind fun v8 =>
    ((sI μ4 v6 0 (0 : Int32) v8).bind fun μ9 =>
    ((gR μ9 a1 12 59).bind fun v10 =>
    ((sI μ9 v10 0 (0 : Int32) (-1 : Int32)).bind fun μ11 =>
    ((gR μ11 a1 12 60).bind fun v12 =>
    ((sI μ11 v12 0 (0 : Int32) (0 : Int32)).bind fun μ13 =>
    ((gR μ13 a1 12 61).bind fun v14 =>
    ((sI μ13 v14 0 (0 : Int32) (0 : Int32)).bind fun μ15 =>
    ((gR μ15 a1 12 3).bind fun v16 =>
    ((aI μ15 v16 0 x2).bind fun v17 =>
    ((ob μ15 a1 12).bind fun _ =>
    (bd (f_X12_leadsTo μ15 a1 v17) fun v19 μ18 =>
    (if v19 = (-1 : Int32) then
    ((ob μ18 a1 12).bind fun _ =>
    ((f_X12_takesWay μ18 a1 x2 (0 : Int32)).bind fun μ20 =>
    (some μ20)))
    else
    f_X12_findsWay_L65 (fun μ99 =>
    (some μ99)) FU μ18 a1 x2 x5)))))))))))))))))))
set_option maxHeartbeats 4000000 in
set_option maxRecDepth 100000 in
theorem f_X12_findsWay_ok {l : Launch} {G : GG} {μ0 : Mm} {a1 : Nat} {x2 : Int32} {μ' : Mm} (hf : f_X12_findsWay μ0 a1 x2 = some μ') : EvM l G D_X12_findsWay yX12_findsWay cX12_findsWay 5 none [.ref a1, .int x2] μ0 none μ' := by
  show Ev l G D_X12_findsWay yX12_findsWay cX12_findsWay 5 none 0 [(0, .ref a1), (1, .int x2)] [] μ0 none μ'
  unfold f_X12_findsWay at hf
  refine E_aload_n (pc := 0) dX12_findsWay_0 rfl ?_
  refine E_iconst (pc := 1) (v := (-1 : Int32)) dX12_findsWay_1 (by decide) ?_
  refine E_putI (pc := 2) dX12_findsWay_2 (pl_X12_514 _) hf (fun μ3 hf => ?_)
  refine E_aload_n (pc := 5) dX12_findsWay_5 rfl ?_
  refine E_Vv (pc := 6) (d2 := D_X12_beginsFall) (ci := 12) [] dX12_findsWay_6 ml_X12_469 mf_X12_beginsFall im_X12_beginsFall rfl rfl rfl (by decide) (Nat.le_of_ble_eq_true rfl) (Nat.le_of_ble_eq_true rfl) rfl (fun _ h => f_X12_beginsFall_ok h) hf (fun μ4 hf => ?_)
  refine E_iconst (pc := 9) (v := (0 : Int32)) dX12_findsWay_9 (by decide) ?_
  refine E_istore_n (pc := 10) (ls' := fun x5 => [(2, .int x5), (0, .ref a1), (1, .int x2)]) dX12_findsWay_10 (by decide) (fun _ => rfl) hf (fun x5 hf => ?_)
  refine E_aload_n (pc := 11) dX12_findsWay_11 rfl ?_
  refine E_getR (pc := 12) dX12_findsWay_12 fl_X12_134 hf (fun v6 hf => ?_)
  refine E_iconst (pc := 15) (v := (0 : Int32)) dX12_findsWay_15 (by decide) ?_
  refine E_aload_n (pc := 16) dX12_findsWay_16 rfl ?_
  refine E_getR (pc := 17) dX12_findsWay_17 fl_X12_16 hf (fun v7 hf => ?_)
  refine E_iload_n (pc := 20) dX12_findsWay_20 rfl ?_
  refine E_iald (pc := 21) dX12_findsWay_21 hf (fun v8 hf => ?_)
  refine E_iast (pc := 22) dX12_findsWay_22 hf (fun μ9 hf => ?_)
  refine E_aload_n (pc := 23) dX12_findsWay_23 rfl ?_
  refine E_getR (pc := 24) dX12_findsWay_24 fl_X12_137 hf (fun v10 hf => ?_)
  refine E_iconst (pc := 27) (v := (0 : Int32)) dX12_findsWay_27 (by decide) ?_
  refine E_iconst (pc := 28) (v := (-1 : Int32)) dX12_findsWay_28 (by decide) ?_
  refine E_iast (pc := 29) dX12_findsWay_29 hf (fun μ11 hf => ?_)
  refine E_aload_n (pc := 30) dX12_findsWay_30 rfl ?_
  refine E_getR (pc := 31) dX12_findsWay_31 fl_X12_140 hf (fun v12 hf => ?_)
  refine E_iconst (pc := 34) (v := (0 : Int32)) dX12_findsWay_34 (by decide) ?_
  refine E_iconst (pc := 35) (v := (0 : Int32)) dX12_findsWay_35 (by decide) ?_
  refine E_iast (pc := 36) dX12_findsWay_36 hf (fun μ13 hf => ?_)
  refine E_aload_n (pc := 37) dX12_findsWay_37 rfl ?_
  refine E_getR (pc := 38) dX12_findsWay_38 fl_X12_143 hf (fun v14 hf => ?_)
  refine E_iconst (pc := 41) (v := (0 : Int32)) dX12_findsWay_41 (by decide) ?_
  refine E_iconst (pc := 42) (v := (0 : Int32)) dX12_findsWay_42 (by decide) ?_
  refine E_iast (pc := 43) dX12_findsWay_43 hf (fun μ15 hf => ?_)
  refine E_aload_n (pc := 44) dX12_findsWay_44 rfl ?_
  refine E_aload_n (pc := 45) dX12_findsWay_45 rfl ?_
  refine E_getR (pc := 46) dX12_findsWay_46 fl_X12_16 hf (fun v16 hf => ?_)
  refine E_iload_n (pc := 49) dX12_findsWay_49 rfl ?_
  refine E_iald (pc := 50) dX12_findsWay_50 hf (fun v17 hf => ?_)
  refine E_Vi (pc := 51) (d2 := D_X12_leadsTo) (ci := 12) [.int v17] dX12_findsWay_51 ml_X12_412 mf_X12_leadsTo im_X12_leadsTo rfl rfl rfl (by decide) (Nat.le_of_ble_eq_true rfl) (Nat.le_of_ble_eq_true rfl) rfl (fun _ _ h => f_X12_leadsTo_ok h) hf (fun v19 μ18 hf => ?_)
  refine E_iconst (pc := 54) (v := (-1 : Int32)) dX12_findsWay_54 (by decide) ?_
  refine E_icmp_ne (pc := 55) (tgt := 65) dX12_findsWay_55 (by decide) hf (fun hf => ?_) (fun hf => ?_)
  · refine E_aload_n (pc := 58) dX12_findsWay_58 rfl ?_
    refine E_iload_n (pc := 59) dX12_findsWay_59 rfl ?_
    refine E_iconst (pc := 60) (v := (0 : Int32)) dX12_findsWay_60 (by decide) ?_
    refine E_Vv (pc := 61) (d2 := D_X12_takesWay) (ci := 12) [.int x2, .int (0 : Int32)] dX12_findsWay_61 ml_X12_520 mf_X12_takesWay im_X12_takesWay rfl rfl rfl (by decide) (Nat.le_of_ble_eq_true rfl) (Nat.le_of_ble_eq_true rfl) rfl (fun _ h => f_X12_takesWay_ok h) hf (fun μ20 hf => ?_)
    exact E_vret (pc := 64) dX12_findsWay_64 rfl hf
  · refine Ev.sub [1, 2, 0] rfl ?_
    refine f_X12_findsWay_L65_ok  _ _ _ _ _ hf (fun μ99 hf => ?_)
    · exact E_vret (pc := 238) dX12_findsWay_238 rfl hf
theorem dX12_way_0 : decode cX12_way 0 = .ok (.aload_n 0, 1) := by decide +kernel
theorem dX12_way_1 : decode cX12_way 1 = .ok (.iload_n 1, 1) := by decide +kernel
theorem dX12_way_2 : decode cX12_way 2 = .ok (.invokevirtual 428, 3) := by decide +kernel
theorem dX12_way_5 : decode cX12_way 5 = .ok (.ifCond .eq 9, 3) := by decide +kernel
theorem dX12_way_8 : decode cX12_way 8 = .ok (.iload_n 2, 1) := by decide +kernel
theorem dX12_way_9 : decode cX12_way 9 = .ok (.bipush (-2), 2) := by decide +kernel
theorem dX12_way_11 : decode cX12_way 11 = .ok (.if_icmp .ge 6, 3) := by decide +kernel
theorem dX12_way_14 : decode cX12_way 14 = .ok (.bipush (-3), 2) := by decide +kernel
theorem dX12_way_16 : decode cX12_way 16 = .ok (.ireturn, 1) := by decide +kernel
theorem dX12_way_17 : decode cX12_way 17 = .ok (.aload_n 0, 1) := by decide +kernel
theorem dX12_way_18 : decode cX12_way 18 = .ok (.iload_n 1, 1) := by decide +kernel
theorem dX12_way_19 : decode cX12_way 19 = .ok (.invokevirtual 523, 3) := by decide +kernel
theorem dX12_way_22 : decode cX12_way 22 = .ok (.iload_n 2, 1) := by decide +kernel
theorem dX12_way_23 : decode cX12_way 23 = .ok (.ifCond .ge 20, 3) := by decide +kernel
theorem dX12_way_26 : decode cX12_way 26 = .ok (.iload_n 2, 1) := by decide +kernel
theorem dX12_way_27 : decode cX12_way 27 = .ok (.iconst (-1), 1) := by decide +kernel
theorem dX12_way_28 : decode cX12_way 28 = .ok (.if_icmp .ne 10, 3) := by decide +kernel
theorem dX12_way_31 : decode cX12_way 31 = .ok (.aload_n 0, 1) := by decide +kernel
theorem dX12_way_32 : decode cX12_way 32 = .ok (.getfield 514, 3) := by decide +kernel
theorem dX12_way_35 : decode cX12_way 35 = .ok (.goto 7, 3) := by decide +kernel
theorem dX12_way_38 : decode cX12_way 38 = .ok (.aload_n 0, 1) := by decide +kernel
theorem dX12_way_39 : decode cX12_way 39 = .ok (.getfield 517, 3) := by decide +kernel
theorem dX12_way_42 : decode cX12_way 42 = .ok (.ireturn, 1) := by decide +kernel
theorem dX12_way_43 : decode cX12_way 43 = .ok (.iload_n 2, 1) := by decide +kernel
theorem dX12_way_44 : decode cX12_way 44 = .ok (.aload_n 0, 1) := by decide +kernel
theorem dX12_way_45 : decode cX12_way 45 = .ok (.getfield 517, 3) := by decide +kernel
theorem dX12_way_48 : decode cX12_way 48 = .ok (.if_icmp .ge 12, 3) := by decide +kernel
theorem dX12_way_51 : decode cX12_way 51 = .ok (.aload_n 0, 1) := by decide +kernel
theorem dX12_way_52 : decode cX12_way 52 = .ok (.getfield 146, 3) := by decide +kernel
theorem dX12_way_55 : decode cX12_way 55 = .ok (.iload_n 2, 1) := by decide +kernel
theorem dX12_way_56 : decode cX12_way 56 = .ok (.iaload, 1) := by decide +kernel
theorem dX12_way_57 : decode cX12_way 57 = .ok (.goto 5, 3) := by decide +kernel
theorem dX12_way_60 : decode cX12_way 60 = .ok (.bipush (-2), 2) := by decide +kernel
theorem dX12_way_62 : decode cX12_way 62 = .ok (.ireturn, 1) := by decide +kernel
abbrev D_X12_way : Nat := 8
set_option maxRecDepth 100000 in
def f_X12_way (μ0 : Mm) (a1 : Nat) (x2 : Int32) (x3 : Int32) : Option (Int32 × Mm) :=
 ((ob μ0 a1 12).bind fun _ =>
    (bd (f_X12_isPerson μ0 a1 x2) fun v5 μ4 =>
    (if v5 = 0 then
    (some ((-3 : Int32), μ4))
    else
    (if (-2 : Int32) ≤ x3 then
    ((ob μ4 a1 12).bind fun _ =>
    ((f_X12_findsWay μ4 a1 x2).bind fun μ6 =>
    (if 0 ≤ x3 then
    ((gI μ6 a1 12 64).bind fun v7 =>
    (if v7 ≤ x3 then
    (some ((-2 : Int32), μ6))
    else
    ((gR μ6 a1 12 62).bind fun v8 =>
    ((aI μ6 v8 0 x3).bind fun v9 =>
    (some (v9, μ6))))))
    else
    (if x3 = (-1 : Int32) then
    ((gI μ6 a1 12 63).bind fun v10 =>
    (some (v10, μ6)))
    else
    ((gI μ6 a1 12 64).bind fun v11 =>
    (some (v11, μ6)))))))
    else
    (some ((-3 : Int32), μ4))))))
set_option maxHeartbeats 4000000 in
set_option maxRecDepth 100000 in
theorem f_X12_way_ok {l : Launch} {G : GG} {μ0 : Mm} {a1 : Nat} {x2 : Int32} {x3 : Int32} {r : Int32} {μ' : Mm} (hf : f_X12_way μ0 a1 x2 x3 = some (r, μ')) : EvM l G D_X12_way yX12_way cX12_way 3 (some .int) [.ref a1, .int x2, .int x3] μ0 (some (.int r)) μ' := by
  show Ev l G D_X12_way yX12_way cX12_way 3 (some .int) 0 [(0, .ref a1), (1, .int x2), (2, .int x3)] [] μ0 (some (.int r)) μ'
  unfold f_X12_way at hf
  refine E_aload_n (pc := 0) dX12_way_0 rfl ?_
  refine E_iload_n (pc := 1) dX12_way_1 rfl ?_
  refine E_Vi (pc := 2) (d2 := D_X12_isPerson) (ci := 12) [.int x2] dX12_way_2 ml_X12_428 mf_X12_isPerson im_X12_isPerson rfl rfl rfl (by decide) (Nat.le_of_ble_eq_true rfl) (Nat.le_of_ble_eq_true rfl) rfl (fun _ _ h => f_X12_isPerson_ok h) hf (fun v5 μ4 hf => ?_)
  refine E_if_eq (pc := 5) (tgt := 14) dX12_way_5 (by decide) hf (fun hf => ?_) (fun hf => ?_)
  · refine E_bipush (pc := 14) (v := (-3 : Int32)) dX12_way_14 (by decide) ?_
    exact E_iret (pc := 16) dX12_way_16 rfl hf
  · refine E_iload_n (pc := 8) dX12_way_8 rfl ?_
    refine E_bipush (pc := 9) (v := (-2 : Int32)) dX12_way_9 (by decide) ?_
    refine E_icmp_ge (pc := 11) (tgt := 17) dX12_way_11 (by decide) hf (fun hf => ?_) (fun hf => ?_)
    · refine E_aload_n (pc := 17) dX12_way_17 rfl ?_
      refine E_iload_n (pc := 18) dX12_way_18 rfl ?_
      refine E_Vv (pc := 19) (d2 := D_X12_findsWay) (ci := 12) [.int x2] dX12_way_19 ml_X12_523 mf_X12_findsWay im_X12_findsWay rfl rfl rfl (by decide) (Nat.le_of_ble_eq_true rfl) (Nat.le_of_ble_eq_true rfl) rfl (fun _ h => f_X12_findsWay_ok h) hf (fun μ6 hf => ?_)
      refine E_iload_n (pc := 22) dX12_way_22 rfl ?_
      refine E_if_ge (pc := 23) (tgt := 43) dX12_way_23 (by decide) hf (fun hf => ?_) (fun hf => ?_)
      · refine E_iload_n (pc := 43) dX12_way_43 rfl ?_
        refine E_aload_n (pc := 44) dX12_way_44 rfl ?_
        refine E_getI (pc := 45) dX12_way_45 fl_X12_517 hf (fun v7 hf => ?_)
        refine E_icmp_ge (pc := 48) (tgt := 60) dX12_way_48 (by decide) hf (fun hf => ?_) (fun hf => ?_)
        · refine E_bipush (pc := 60) (v := (-2 : Int32)) dX12_way_60 (by decide) ?_
          exact E_iret (pc := 62) dX12_way_62 rfl hf
        · refine E_aload_n (pc := 51) dX12_way_51 rfl ?_
          refine E_getR (pc := 52) dX12_way_52 fl_X12_146 hf (fun v8 hf => ?_)
          refine E_iload_n (pc := 55) dX12_way_55 rfl ?_
          refine E_iald (pc := 56) dX12_way_56 hf (fun v9 hf => ?_)
          refine E_goto (pc := 57) (tgt := 62) dX12_way_57 (by decide) ?_
          exact E_iret (pc := 62) dX12_way_62 rfl hf
      · refine E_iload_n (pc := 26) dX12_way_26 rfl ?_
        refine E_iconst (pc := 27) (v := (-1 : Int32)) dX12_way_27 (by decide) ?_
        refine E_icmp_ne (pc := 28) (tgt := 38) dX12_way_28 (by decide) hf (fun hf => ?_) (fun hf => ?_)
        · refine E_aload_n (pc := 31) dX12_way_31 rfl ?_
          refine E_getI (pc := 32) dX12_way_32 fl_X12_514 hf (fun v10 hf => ?_)
          refine E_goto (pc := 35) (tgt := 42) dX12_way_35 (by decide) ?_
          exact E_iret (pc := 42) dX12_way_42 rfl hf
        · refine E_aload_n (pc := 38) dX12_way_38 rfl ?_
          refine E_getI (pc := 39) dX12_way_39 fl_X12_517 hf (fun v11 hf => ?_)
          exact E_iret (pc := 42) dX12_way_42 rfl hf
    · refine E_bipush (pc := 14) (v := (-3 : Int32)) dX12_way_14 (by decide) ?_
      exact E_iret (pc := 16) dX12_way_16 rfl hf
theorem dX12_clue_0 : decode cX12_clue 0 = .ok (.iload_n 1, 1) := by decide +kernel
theorem dX12_clue_1 : decode cX12_clue 1 = .ok (.iconst (-1), 1) := by decide +kernel
theorem dX12_clue_2 : decode cX12_clue 2 = .ok (.if_icmp .ne 13, 3) := by decide +kernel
theorem dX12_clue_5 : decode cX12_clue 5 = .ok (.aload_n 0, 1) := by decide +kernel
theorem dX12_clue_6 : decode cX12_clue 6 = .ok (.getfield 9, 3) := by decide +kernel
theorem dX12_clue_9 : decode cX12_clue 9 = .ok (.bipush 8, 2) := by decide +kernel
theorem dX12_clue_11 : decode cX12_clue 11 = .ok (.iconst 0, 1) := by decide +kernel
theorem dX12_clue_12 : decode cX12_clue 12 = .ok (.iastore, 1) := by decide +kernel
theorem dX12_clue_13 : decode cX12_clue 13 = .ok (.iconst 0, 1) := by decide +kernel
theorem dX12_clue_14 : decode cX12_clue 14 = .ok (.ireturn, 1) := by decide +kernel
theorem dX12_clue_15 : decode cX12_clue 15 = .ok (.aload_n 0, 1) := by decide +kernel
theorem dX12_clue_16 : decode cX12_clue 16 = .ok (.getfield 9, 3) := by decide +kernel
theorem dX12_clue_19 : decode cX12_clue 19 = .ok (.bipush 8, 2) := by decide +kernel
theorem dX12_clue_21 : decode cX12_clue 21 = .ok (.iaload, 1) := by decide +kernel
theorem dX12_clue_22 : decode cX12_clue 22 = .ok (.istore_n 3, 1) := by decide +kernel
theorem dX12_clue_23 : decode cX12_clue 23 = .ok (.aload_n 0, 1) := by decide +kernel
theorem dX12_clue_24 : decode cX12_clue 24 = .ok (.iload_n 1, 1) := by decide +kernel
theorem dX12_clue_25 : decode cX12_clue 25 = .ok (.invokevirtual 431, 3) := by decide +kernel
theorem dX12_clue_28 : decode cX12_clue 28 = .ok (.ifCond .eq 9, 3) := by decide +kernel
theorem dX12_clue_31 : decode cX12_clue 31 = .ok (.iload_n 3, 1) := by decide +kernel
theorem dX12_clue_32 : decode cX12_clue 32 = .ok (.bipush 8, 2) := by decide +kernel
theorem dX12_clue_34 : decode cX12_clue 34 = .ok (.if_icmp .ne 6, 3) := by decide +kernel
theorem dX12_clue_37 : decode cX12_clue 37 = .ok (.bipush (-2), 2) := by decide +kernel
theorem dX12_clue_39 : decode cX12_clue 39 = .ok (.ireturn, 1) := by decide +kernel
theorem dX12_clue_40 : decode cX12_clue 40 = .ok (.aload_n 0, 1) := by decide +kernel
theorem dX12_clue_41 : decode cX12_clue 41 = .ok (.getfield 46, 3) := by decide +kernel
theorem dX12_clue_44 : decode cX12_clue 44 = .ok (.iload_n 3, 1) := by decide +kernel
theorem dX12_clue_45 : decode cX12_clue 45 = .ok (.iload_n 1, 1) := by decide +kernel
theorem dX12_clue_46 : decode cX12_clue 46 = .ok (.iastore, 1) := by decide +kernel
theorem dX12_clue_47 : decode cX12_clue 47 = .ok (.aload_n 0, 1) := by decide +kernel
theorem dX12_clue_48 : decode cX12_clue 48 = .ok (.getfield 49, 3) := by decide +kernel
theorem dX12_clue_51 : decode cX12_clue 51 = .ok (.iload_n 3, 1) := by decide +kernel
theorem dX12_clue_52 : decode cX12_clue 52 = .ok (.iload_n 2, 1) := by decide +kernel
theorem dX12_clue_53 : decode cX12_clue 53 = .ok (.ifCond .eq 7, 3) := by decide +kernel
theorem dX12_clue_56 : decode cX12_clue 56 = .ok (.iconst 1, 1) := by decide +kernel
theorem dX12_clue_57 : decode cX12_clue 57 = .ok (.goto 4, 3) := by decide +kernel
theorem dX12_clue_60 : decode cX12_clue 60 = .ok (.iconst 0, 1) := by decide +kernel
theorem dX12_clue_61 : decode cX12_clue 61 = .ok (.iastore, 1) := by decide +kernel
theorem dX12_clue_62 : decode cX12_clue 62 = .ok (.aload_n 0, 1) := by decide +kernel
theorem dX12_clue_63 : decode cX12_clue 63 = .ok (.getfield 9, 3) := by decide +kernel
theorem dX12_clue_66 : decode cX12_clue 66 = .ok (.bipush 8, 2) := by decide +kernel
theorem dX12_clue_68 : decode cX12_clue 68 = .ok (.dup2, 1) := by decide +kernel
theorem dX12_clue_69 : decode cX12_clue 69 = .ok (.iaload, 1) := by decide +kernel
theorem dX12_clue_70 : decode cX12_clue 70 = .ok (.iconst 1, 1) := by decide +kernel
theorem dX12_clue_71 : decode cX12_clue 71 = .ok (.iadd, 1) := by decide +kernel
theorem dX12_clue_72 : decode cX12_clue 72 = .ok (.iastore, 1) := by decide +kernel
theorem dX12_clue_73 : decode cX12_clue 73 = .ok (.iload_n 3, 1) := by decide +kernel
theorem dX12_clue_74 : decode cX12_clue 74 = .ok (.iconst 1, 1) := by decide +kernel
theorem dX12_clue_75 : decode cX12_clue 75 = .ok (.iadd, 1) := by decide +kernel
theorem dX12_clue_76 : decode cX12_clue 76 = .ok (.ireturn, 1) := by decide +kernel
abbrev D_X12_clue : Nat := 3
set_option maxRecDepth 100000 in
def f_X12_clue (μ0 : Mm) (a1 : Nat) (x2 : Int32) (x3 : Int32) : Option (Int32 × Mm) :=
 (if x2 = (-1 : Int32) then
    ((gR μ0 a1 12 1).bind fun v4 =>
    ((sI μ0 v4 0 (8 : Int32) (0 : Int32)).bind fun μ5 =>
    (some ((0 : Int32), μ5))))
    else
    ((gR μ0 a1 12 1).bind fun v6 =>
    ((aI μ0 v6 0 (8 : Int32)).bind fun v7 =>
    (nm v7 fun x8 =>
    ((ob μ0 a1 12).bind fun _ =>
    (bd (f_X12_isThing μ0 a1 x2) fun v10 μ9 =>
    (if v10 = 0 then
    (some ((-2 : Int32), μ9))
    else
    (if x8 = (8 : Int32) then
    (some ((-2 : Int32), μ9))
    else
    ((gR μ9 a1 12 13).bind fun v11 =>
    ((sI μ9 v11 0 x8 x2).bind fun μ12 =>
    ((gR μ12 a1 12 14).bind fun v13 =>
    (if x3 = 0 then
    ((sI μ12 v13 0 x8 (0 : Int32)).bind fun μ14 =>
    ((gR μ14 a1 12 1).bind fun v15 =>
    ((aI μ14 v15 0 (8 : Int32)).bind fun v16 =>
    ((sI μ14 v15 0 (8 : Int32) (v16 + (1 : Int32))).bind fun μ17 =>
    (some ((x8 + (1 : Int32)), μ17))))))
    else
    ((sI μ12 v13 0 x8 (1 : Int32)).bind fun μ18 =>
    ((gR μ18 a1 12 1).bind fun v19 =>
    ((aI μ18 v19 0 (8 : Int32)).bind fun v20 =>
    ((sI μ18 v19 0 (8 : Int32) (v20 + (1 : Int32))).bind fun μ21 =>
    (some ((x8 + (1 : Int32)), μ21))))))))))))))))))
set_option maxHeartbeats 4000000 in
set_option maxRecDepth 100000 in
theorem f_X12_clue_ok {l : Launch} {G : GG} {μ0 : Mm} {a1 : Nat} {x2 : Int32} {x3 : Int32} {r : Int32} {μ' : Mm} (hf : f_X12_clue μ0 a1 x2 x3 = some (r, μ')) : EvM l G D_X12_clue yX12_clue cX12_clue 4 (some .int) [.ref a1, .int x2, .int x3] μ0 (some (.int r)) μ' := by
  show Ev l G D_X12_clue yX12_clue cX12_clue 4 (some .int) 0 [(0, .ref a1), (1, .int x2), (2, .int x3)] [] μ0 (some (.int r)) μ'
  unfold f_X12_clue at hf
  refine E_iload_n (pc := 0) dX12_clue_0 rfl ?_
  refine E_iconst (pc := 1) (v := (-1 : Int32)) dX12_clue_1 (by decide) ?_
  refine E_icmp_ne (pc := 2) (tgt := 15) dX12_clue_2 (by decide) hf (fun hf => ?_) (fun hf => ?_)
  · refine E_aload_n (pc := 5) dX12_clue_5 rfl ?_
    refine E_getR (pc := 6) dX12_clue_6 fl_X12_9 hf (fun v4 hf => ?_)
    refine E_bipush (pc := 9) (v := (8 : Int32)) dX12_clue_9 (by decide) ?_
    refine E_iconst (pc := 11) (v := (0 : Int32)) dX12_clue_11 (by decide) ?_
    refine E_iast (pc := 12) dX12_clue_12 hf (fun μ5 hf => ?_)
    refine E_iconst (pc := 13) (v := (0 : Int32)) dX12_clue_13 (by decide) ?_
    exact E_iret (pc := 14) dX12_clue_14 rfl hf
  · refine E_aload_n (pc := 15) dX12_clue_15 rfl ?_
    refine E_getR (pc := 16) dX12_clue_16 fl_X12_9 hf (fun v6 hf => ?_)
    refine E_bipush (pc := 19) (v := (8 : Int32)) dX12_clue_19 (by decide) ?_
    refine E_iald (pc := 21) dX12_clue_21 hf (fun v7 hf => ?_)
    refine E_istore_n (pc := 22) (ls' := fun x8 => [(3, .int x8), (0, .ref a1), (1, .int x2), (2, .int x3)]) dX12_clue_22 (by decide) (fun _ => rfl) hf (fun x8 hf => ?_)
    refine E_aload_n (pc := 23) dX12_clue_23 rfl ?_
    refine E_iload_n (pc := 24) dX12_clue_24 rfl ?_
    refine E_Vi (pc := 25) (d2 := D_X12_isThing) (ci := 12) [.int x2] dX12_clue_25 ml_X12_431 mf_X12_isThing im_X12_isThing rfl rfl rfl (by decide) (Nat.le_of_ble_eq_true rfl) (Nat.le_of_ble_eq_true rfl) rfl (fun _ _ h => f_X12_isThing_ok h) hf (fun v10 μ9 hf => ?_)
    refine E_if_eq (pc := 28) (tgt := 37) dX12_clue_28 (by decide) hf (fun hf => ?_) (fun hf => ?_)
    · refine E_bipush (pc := 37) (v := (-2 : Int32)) dX12_clue_37 (by decide) ?_
      exact E_iret (pc := 39) dX12_clue_39 rfl hf
    · refine E_iload_n (pc := 31) dX12_clue_31 rfl ?_
      refine E_bipush (pc := 32) (v := (8 : Int32)) dX12_clue_32 (by decide) ?_
      refine E_icmp_ne (pc := 34) (tgt := 40) dX12_clue_34 (by decide) hf (fun hf => ?_) (fun hf => ?_)
      · refine E_bipush (pc := 37) (v := (-2 : Int32)) dX12_clue_37 (by decide) ?_
        exact E_iret (pc := 39) dX12_clue_39 rfl hf
      · refine E_aload_n (pc := 40) dX12_clue_40 rfl ?_
        refine E_getR (pc := 41) dX12_clue_41 fl_X12_46 hf (fun v11 hf => ?_)
        refine E_iload_n (pc := 44) dX12_clue_44 rfl ?_
        refine E_iload_n (pc := 45) dX12_clue_45 rfl ?_
        refine E_iast (pc := 46) dX12_clue_46 hf (fun μ12 hf => ?_)
        refine E_aload_n (pc := 47) dX12_clue_47 rfl ?_
        refine E_getR (pc := 48) dX12_clue_48 fl_X12_49 hf (fun v13 hf => ?_)
        refine E_iload_n (pc := 51) dX12_clue_51 rfl ?_
        refine E_iload_n (pc := 52) dX12_clue_52 rfl ?_
        refine E_if_eq (pc := 53) (tgt := 60) dX12_clue_53 (by decide) hf (fun hf => ?_) (fun hf => ?_)
        · refine E_iconst (pc := 60) (v := (0 : Int32)) dX12_clue_60 (by decide) ?_
          refine E_iast (pc := 61) dX12_clue_61 hf (fun μ14 hf => ?_)
          refine E_aload_n (pc := 62) dX12_clue_62 rfl ?_
          refine E_getR (pc := 63) dX12_clue_63 fl_X12_9 hf (fun v15 hf => ?_)
          refine E_bipush (pc := 66) (v := (8 : Int32)) dX12_clue_66 (by decide) ?_
          refine E_dup2 (pc := 68) dX12_clue_68 rfl rfl ?_
          refine E_iald (pc := 69) dX12_clue_69 hf (fun v16 hf => ?_)
          refine E_iconst (pc := 70) (v := (1 : Int32)) dX12_clue_70 (by decide) ?_
          refine E_iadd (pc := 71) dX12_clue_71 ?_
          refine E_iast (pc := 72) dX12_clue_72 hf (fun μ17 hf => ?_)
          refine E_iload_n (pc := 73) dX12_clue_73 rfl ?_
          refine E_iconst (pc := 74) (v := (1 : Int32)) dX12_clue_74 (by decide) ?_
          refine E_iadd (pc := 75) dX12_clue_75 ?_
          exact E_iret (pc := 76) dX12_clue_76 rfl hf
        · refine E_iconst (pc := 56) (v := (1 : Int32)) dX12_clue_56 (by decide) ?_
          refine E_goto (pc := 57) (tgt := 61) dX12_clue_57 (by decide) ?_
          refine E_iast (pc := 61) dX12_clue_61 hf (fun μ18 hf => ?_)
          refine E_aload_n (pc := 62) dX12_clue_62 rfl ?_
          refine E_getR (pc := 63) dX12_clue_63 fl_X12_9 hf (fun v19 hf => ?_)
          refine E_bipush (pc := 66) (v := (8 : Int32)) dX12_clue_66 (by decide) ?_
          refine E_dup2 (pc := 68) dX12_clue_68 rfl rfl ?_
          refine E_iald (pc := 69) dX12_clue_69 hf (fun v20 hf => ?_)
          refine E_iconst (pc := 70) (v := (1 : Int32)) dX12_clue_70 (by decide) ?_
          refine E_iadd (pc := 71) dX12_clue_71 ?_
          refine E_iast (pc := 72) dX12_clue_72 hf (fun μ21 hf => ?_)
          refine E_iload_n (pc := 73) dX12_clue_73 rfl ?_
          refine E_iconst (pc := 74) (v := (1 : Int32)) dX12_clue_74 (by decide) ?_
          refine E_iadd (pc := 75) dX12_clue_75 ?_
          exact E_iret (pc := 76) dX12_clue_76 rfl hf
theorem dX12_doesFit_0 : decode cX12_doesFit 0 = .ok (.aload_n 0, 1) := by decide +kernel
theorem dX12_doesFit_1 : decode cX12_doesFit 1 = .ok (.getfield 9, 3) := by decide +kernel
theorem dX12_doesFit_4 : decode cX12_doesFit 4 = .ok (.bipush 7, 2) := by decide +kernel
theorem dX12_doesFit_6 : decode cX12_doesFit 6 = .ok (.iaload, 1) := by decide +kernel
theorem dX12_doesFit_7 : decode cX12_doesFit 7 = .ok (.istore 4, 2) := by decide +kernel
theorem dX12_doesFit_9 : decode cX12_doesFit 9 = .ok (.aload_n 0, 1) := by decide +kernel
theorem dX12_doesFit_10 : decode cX12_doesFit 10 = .ok (.getfield 9, 3) := by decide +kernel
theorem dX12_doesFit_13 : decode cX12_doesFit 13 = .ok (.bipush 7, 2) := by decide +kernel
theorem dX12_doesFit_15 : decode cX12_doesFit 15 = .ok (.iconst 0, 1) := by decide +kernel
theorem dX12_doesFit_16 : decode cX12_doesFit 16 = .ok (.iastore, 1) := by decide +kernel
theorem dX12_doesFit_17 : decode cX12_doesFit 17 = .ok (.aload_n 0, 1) := by decide +kernel
theorem dX12_doesFit_18 : decode cX12_doesFit 18 = .ok (.iload_n 1, 1) := by decide +kernel
theorem dX12_doesFit_19 : decode cX12_doesFit 19 = .ok (.iload_n 2, 1) := by decide +kernel
theorem dX12_doesFit_20 : decode cX12_doesFit 20 = .ok (.iload_n 3, 1) := by decide +kernel
theorem dX12_doesFit_21 : decode cX12_doesFit 21 = .ok (.invokevirtual 476, 3) := by decide +kernel
theorem dX12_doesFit_24 : decode cX12_doesFit 24 = .ok (.pop, 1) := by decide +kernel
theorem dX12_doesFit_25 : decode cX12_doesFit 25 = .ok (.aload_n 0, 1) := by decide +kernel
theorem dX12_doesFit_26 : decode cX12_doesFit 26 = .ok (.getfield 9, 3) := by decide +kernel
theorem dX12_doesFit_29 : decode cX12_doesFit 29 = .ok (.bipush 7, 2) := by decide +kernel
theorem dX12_doesFit_31 : decode cX12_doesFit 31 = .ok (.iload 4, 2) := by decide +kernel
theorem dX12_doesFit_33 : decode cX12_doesFit 33 = .ok (.iastore, 1) := by decide +kernel
theorem dX12_doesFit_34 : decode cX12_doesFit 34 = .ok (.iconst 1, 1) := by decide +kernel
theorem dX12_doesFit_35 : decode cX12_doesFit 35 = .ok (.istore 5, 2) := by decide +kernel
theorem dX12_doesFit_37 : decode cX12_doesFit 37 = .ok (.iconst 0, 1) := by decide +kernel
theorem dX12_doesFit_38 : decode cX12_doesFit 38 = .ok (.istore 6, 2) := by decide +kernel
theorem dX12_doesFit_40 : decode cX12_doesFit 40 = .ok (.iload 6, 2) := by decide +kernel
theorem dX12_doesFit_42 : decode cX12_doesFit 42 = .ok (.aload_n 0, 1) := by decide +kernel
theorem dX12_doesFit_43 : decode cX12_doesFit 43 = .ok (.getfield 9, 3) := by decide +kernel
theorem dX12_doesFit_46 : decode cX12_doesFit 46 = .ok (.bipush 8, 2) := by decide +kernel
theorem dX12_doesFit_48 : decode cX12_doesFit 48 = .ok (.iaload, 1) := by decide +kernel
theorem dX12_doesFit_49 : decode cX12_doesFit 49 = .ok (.if_icmp .ge 45, 3) := by decide +kernel
theorem dX12_doesFit_52 : decode cX12_doesFit 52 = .ok (.iload 5, 2) := by decide +kernel
theorem dX12_doesFit_54 : decode cX12_doesFit 54 = .ok (.ifCond .eq 31, 3) := by decide +kernel
theorem dX12_doesFit_57 : decode cX12_doesFit 57 = .ok (.aload_n 0, 1) := by decide +kernel
theorem dX12_doesFit_58 : decode cX12_doesFit 58 = .ok (.getfield 443, 3) := by decide +kernel
theorem dX12_doesFit_61 : decode cX12_doesFit 61 = .ok (.aload_n 0, 1) := by decide +kernel
theorem dX12_doesFit_62 : decode cX12_doesFit 62 = .ok (.getfield 46, 3) := by decide +kernel
theorem dX12_doesFit_65 : decode cX12_doesFit 65 = .ok (.iload 6, 2) := by decide +kernel
theorem dX12_doesFit_67 : decode cX12_doesFit 67 = .ok (.iaload, 1) := by decide +kernel
theorem dX12_doesFit_68 : decode cX12_doesFit 68 = .ok (.ishr, 1) := by decide +kernel
theorem dX12_doesFit_69 : decode cX12_doesFit 69 = .ok (.iconst 1, 1) := by decide +kernel
theorem dX12_doesFit_70 : decode cX12_doesFit 70 = .ok (.iand, 1) := by decide +kernel
theorem dX12_doesFit_71 : decode cX12_doesFit 71 = .ok (.aload_n 0, 1) := by decide +kernel
theorem dX12_doesFit_72 : decode cX12_doesFit 72 = .ok (.getfield 49, 3) := by decide +kernel
theorem dX12_doesFit_75 : decode cX12_doesFit 75 = .ok (.iload 6, 2) := by decide +kernel
theorem dX12_doesFit_77 : decode cX12_doesFit 77 = .ok (.iaload, 1) := by decide +kernel
theorem dX12_doesFit_78 : decode cX12_doesFit 78 = .ok (.if_icmp .ne 7, 3) := by decide +kernel
theorem dX12_doesFit_81 : decode cX12_doesFit 81 = .ok (.iconst 1, 1) := by decide +kernel
theorem dX12_doesFit_82 : decode cX12_doesFit 82 = .ok (.goto 4, 3) := by decide +kernel
theorem dX12_doesFit_85 : decode cX12_doesFit 85 = .ok (.iconst 0, 1) := by decide +kernel
theorem dX12_doesFit_86 : decode cX12_doesFit 86 = .ok (.istore 5, 2) := by decide +kernel
theorem dX12_doesFit_88 : decode cX12_doesFit 88 = .ok (.iinc 6 1, 3) := by decide +kernel
theorem dX12_doesFit_91 : decode cX12_doesFit 91 = .ok (.goto (-51), 3) := by decide +kernel
theorem dX12_doesFit_94 : decode cX12_doesFit 94 = .ok (.iload 5, 2) := by decide +kernel
theorem dX12_doesFit_96 : decode cX12_doesFit 96 = .ok (.ireturn, 1) := by decide +kernel
abbrev D_X12_doesFit : Nat := 8
def f_X12_doesFit_L40 (K94 : Mm → Int32 → Option (Int32 × Mm)) : Nat → Mm → Nat → Int32 → Int32 → Option (Int32 × Mm)
  | 0, _, _, _, _ => none
  | n + 1, μ0, a16, x17, x18 =>
    ((gR μ0 a16 12 1).bind fun v19 =>
    ((aI μ0 v19 0 (8 : Int32)).bind fun v20 =>
    (if v20 ≤ x18 then
    K94 μ0 x17
    else
    (if x17 = 0 then
    (nm (0 : Int32) fun x21 =>
    (nm (x18 + Int32.ofInt (1)) fun x22 =>
    f_X12_doesFit_L40 K94 n μ0 a16 x21 x22))
    else
    ((gI μ0 a16 12 51).bind fun v23 =>
    ((gR μ0 a16 12 13).bind fun v24 =>
    ((aI μ0 v24 0 x18).bind fun v25 =>
    ((gR μ0 a16 12 14).bind fun v26 =>
    ((aI μ0 v26 0 x18).bind fun v27 =>
    (if ((v23 >>> (v25 &&& 31)) &&& (1 : Int32)) = v27 then
    (nm (1 : Int32) fun x28 =>
    (nm (x18 + Int32.ofInt (1)) fun x29 =>
    f_X12_doesFit_L40 K94 n μ0 a16 x28 x29))
    else
    (nm (0 : Int32) fun x30 =>
    (nm (x18 + Int32.ofInt (1)) fun x31 =>
    f_X12_doesFit_L40 K94 n μ0 a16 x30 x31))))))))))))
set_option maxHeartbeats 4000000 in
set_option maxRecDepth 100000 in
theorem f_X12_doesFit_L40_ok {l : Launch} {G : GG} {K94 : Mm → Int32 → Option (Int32 × Mm)} {r : Int32} {μ' : Mm} (n : Nat) (μ0 : Mm) (a16 : Nat) (x17 : Int32) (x18 : Int32) (hf : f_X12_doesFit_L40 K94 n μ0 a16 x17 x18 = some (r, μ')) (hK94 : ∀ (μ1 : Mm) (y5 : Int32), K94 μ1 y5 = some (r, μ') → Ev l G D_X12_doesFit yX12_doesFit cX12_doesFit 7 (some .boolean) 94 [(5, .int y5)] [] μ1 (some (.int r)) μ') : Ev l G D_X12_doesFit yX12_doesFit cX12_doesFit 7 (some .boolean) 40 [(0, .ref a16), (5, .int x17), (6, .int x18)] [] μ0 (some (.int r)) μ' := by
  induction n generalizing μ0 a16 x17 x18 with
  | zero => cases hf
  | succ n ih0 =>
    have ih : ∀ (μ0 : Mm) (a16 : Nat) (x17 : Int32) (x18 : Int32), f_X12_doesFit_L40 K94 n μ0 a16 x17 x18 = some (r, μ') → Ev l G D_X12_doesFit yX12_doesFit cX12_doesFit 7 (some .boolean) 40 [(0, .ref a16), (5, .int x17), (6, .int x18)] [] μ0 (some (.int r)) μ' := fun μ0 a16 x17 x18 hf => ih0 μ0 a16 x17 x18 hf
    rw [f_X12_doesFit_L40] at hf
    refine E_iload (pc := 40) dX12_doesFit_40 rfl ?_
    refine E_aload_n (pc := 42) dX12_doesFit_42 rfl ?_
    refine E_getR (pc := 43) dX12_doesFit_43 fl_X12_9 hf (fun v19 hf => ?_)
    refine E_bipush (pc := 46) (v := (8 : Int32)) dX12_doesFit_46 (by decide) ?_
    refine E_iald (pc := 48) dX12_doesFit_48 hf (fun v20 hf => ?_)
    refine E_icmp_ge (pc := 49) (tgt := 94) dX12_doesFit_49 (by decide) hf (fun hf => ?_) (fun hf => ?_)
    · refine Ev.sub [1] rfl ?_
      exact hK94 _ _ hf
    · refine E_iload (pc := 52) dX12_doesFit_52 rfl ?_
      refine E_if_eq (pc := 54) (tgt := 85) dX12_doesFit_54 (by decide) hf (fun hf => ?_) (fun hf => ?_)
      · refine E_iconst (pc := 85) (v := (0 : Int32)) dX12_doesFit_85 (by decide) ?_
        refine E_istore (pc := 86) (ls' := fun x21 => [(5, .int x21), (0, .ref a16), (6, .int x18)]) dX12_doesFit_86 (by decide) (fun _ => rfl) hf (fun x21 hf => ?_)
        refine E_iinc (pc := 88) (ls' := fun x22 => [(6, .int x22), (5, .int x21), (0, .ref a16)]) dX12_doesFit_88 rfl (by decide) (fun _ => rfl) hf (fun x22 hf => ?_)
        refine E_goto (pc := 91) (tgt := 40) dX12_doesFit_91 (by decide) ?_
        refine Ev.sub [2, 1, 0] rfl ?_
        exact ih _ _ _ _ hf
      · refine E_aload_n (pc := 57) dX12_doesFit_57 rfl ?_
        refine E_getI (pc := 58) dX12_doesFit_58 fl_X12_443 hf (fun v23 hf => ?_)
        refine E_aload_n (pc := 61) dX12_doesFit_61 rfl ?_
        refine E_getR (pc := 62) dX12_doesFit_62 fl_X12_46 hf (fun v24 hf => ?_)
        refine E_iload (pc := 65) dX12_doesFit_65 rfl ?_
        refine E_iald (pc := 67) dX12_doesFit_67 hf (fun v25 hf => ?_)
        refine E_ishr (pc := 68) dX12_doesFit_68 ?_
        refine E_iconst (pc := 69) (v := (1 : Int32)) dX12_doesFit_69 (by decide) ?_
        refine E_iand (pc := 70) dX12_doesFit_70 ?_
        refine E_aload_n (pc := 71) dX12_doesFit_71 rfl ?_
        refine E_getR (pc := 72) dX12_doesFit_72 fl_X12_49 hf (fun v26 hf => ?_)
        refine E_iload (pc := 75) dX12_doesFit_75 rfl ?_
        refine E_iald (pc := 77) dX12_doesFit_77 hf (fun v27 hf => ?_)
        refine E_icmp_ne (pc := 78) (tgt := 85) dX12_doesFit_78 (by decide) hf (fun hf => ?_) (fun hf => ?_)
        · refine E_iconst (pc := 81) (v := (1 : Int32)) dX12_doesFit_81 (by decide) ?_
          refine E_goto (pc := 82) (tgt := 86) dX12_doesFit_82 (by decide) ?_
          refine E_istore (pc := 86) (ls' := fun x28 => [(5, .int x28), (0, .ref a16), (6, .int x18)]) dX12_doesFit_86 (by decide) (fun _ => rfl) hf (fun x28 hf => ?_)
          refine E_iinc (pc := 88) (ls' := fun x29 => [(6, .int x29), (5, .int x28), (0, .ref a16)]) dX12_doesFit_88 rfl (by decide) (fun _ => rfl) hf (fun x29 hf => ?_)
          refine E_goto (pc := 91) (tgt := 40) dX12_doesFit_91 (by decide) ?_
          refine Ev.sub [2, 1, 0] rfl ?_
          exact ih _ _ _ _ hf
        · refine E_iconst (pc := 85) (v := (0 : Int32)) dX12_doesFit_85 (by decide) ?_
          refine E_istore (pc := 86) (ls' := fun x30 => [(5, .int x30), (0, .ref a16), (6, .int x18)]) dX12_doesFit_86 (by decide) (fun _ => rfl) hf (fun x30 hf => ?_)
          refine E_iinc (pc := 88) (ls' := fun x31 => [(6, .int x31), (5, .int x30), (0, .ref a16)]) dX12_doesFit_88 rfl (by decide) (fun _ => rfl) hf (fun x31 hf => ?_)
          refine E_goto (pc := 91) (tgt := 40) dX12_doesFit_91 (by decide) ?_
          refine Ev.sub [2, 1, 0] rfl ?_
          exact ih _ _ _ _ hf
set_option maxRecDepth 100000 in
def f_X12_doesFit (μ0 : Mm) (a1 : Nat) (x2 : Int32) (x3 : Int32) (x4 : Int32) : Option (Int32 × Mm) :=
 ((gR μ0 a1 12 1).bind fun v5 =>
    ((aI μ0 v5 0 (7 : Int32)).bind fun v6 =>
    (nm v6 fun x7 =>
    ((gR μ0 a1 12 1).bind fun v8 =>
    ((sI μ0 v8 0 (7 : Int32) (0 : Int32)).bind fun μ9 =>
    ((ob μ9 a1 12).bind fun _ =>
    (bd (f_X12_falls μ9 a1 x2 x3 x4) fun v11 μ10 =>
    ((gR μ10 a1 12 1).bind fun v12 =>
    ((sI μ10 v12 0 (7 : Int32) x7).bind fun μ13 =>
    (nm (1 : Int32) fun x14 =>
    (nm (0 : Int32) fun x15 =>
    f_X12_doesFit_L40 (fun μ32 x33 =>
    (if x33 = 0 ∨ x33 = 1 then some (x33, μ32) else none)) FU μ13 a1 x14 x15)))))))))))
set_option maxHeartbeats 4000000 in
set_option maxRecDepth 100000 in
theorem f_X12_doesFit_ok {l : Launch} {G : GG} {μ0 : Mm} {a1 : Nat} {x2 : Int32} {x3 : Int32} {x4 : Int32} {r : Int32} {μ' : Mm} (hf : f_X12_doesFit μ0 a1 x2 x3 x4 = some (r, μ')) : EvM l G D_X12_doesFit yX12_doesFit cX12_doesFit 7 (some .boolean) [.ref a1, .int x2, .int x3, .int x4] μ0 (some (.int r)) μ' := by
  show Ev l G D_X12_doesFit yX12_doesFit cX12_doesFit 7 (some .boolean) 0 [(0, .ref a1), (1, .int x2), (2, .int x3), (3, .int x4)] [] μ0 (some (.int r)) μ'
  unfold f_X12_doesFit at hf
  refine E_aload_n (pc := 0) dX12_doesFit_0 rfl ?_
  refine E_getR (pc := 1) dX12_doesFit_1 fl_X12_9 hf (fun v5 hf => ?_)
  refine E_bipush (pc := 4) (v := (7 : Int32)) dX12_doesFit_4 (by decide) ?_
  refine E_iald (pc := 6) dX12_doesFit_6 hf (fun v6 hf => ?_)
  refine E_istore (pc := 7) (ls' := fun x7 => [(4, .int x7), (0, .ref a1), (1, .int x2), (2, .int x3), (3, .int x4)]) dX12_doesFit_7 (by decide) (fun _ => rfl) hf (fun x7 hf => ?_)
  refine E_aload_n (pc := 9) dX12_doesFit_9 rfl ?_
  refine E_getR (pc := 10) dX12_doesFit_10 fl_X12_9 hf (fun v8 hf => ?_)
  refine E_bipush (pc := 13) (v := (7 : Int32)) dX12_doesFit_13 (by decide) ?_
  refine E_iconst (pc := 15) (v := (0 : Int32)) dX12_doesFit_15 (by decide) ?_
  refine E_iast (pc := 16) dX12_doesFit_16 hf (fun μ9 hf => ?_)
  refine E_aload_n (pc := 17) dX12_doesFit_17 rfl ?_
  refine E_iload_n (pc := 18) dX12_doesFit_18 rfl ?_
  refine E_iload_n (pc := 19) dX12_doesFit_19 rfl ?_
  refine E_iload_n (pc := 20) dX12_doesFit_20 rfl ?_
  refine E_Vi (pc := 21) (d2 := D_X12_falls) (ci := 12) [.int x2, .int x3, .int x4] dX12_doesFit_21 ml_X12_476 mf_X12_falls im_X12_falls rfl rfl rfl (by decide) (Nat.le_of_ble_eq_true rfl) (Nat.le_of_ble_eq_true rfl) rfl (fun _ _ h => f_X12_falls_ok h) hf (fun v11 μ10 hf => ?_)
  refine E_pop (pc := 24) dX12_doesFit_24 rfl ?_
  refine E_aload_n (pc := 25) dX12_doesFit_25 rfl ?_
  refine E_getR (pc := 26) dX12_doesFit_26 fl_X12_9 hf (fun v12 hf => ?_)
  refine E_bipush (pc := 29) (v := (7 : Int32)) dX12_doesFit_29 (by decide) ?_
  refine E_iload (pc := 31) dX12_doesFit_31 rfl ?_
  refine E_iast (pc := 33) dX12_doesFit_33 hf (fun μ13 hf => ?_)
  refine E_iconst (pc := 34) (v := (1 : Int32)) dX12_doesFit_34 (by decide) ?_
  refine E_istore (pc := 35) (ls' := fun x14 => [(5, .int x14), (4, .int x7), (0, .ref a1), (1, .int x2), (2, .int x3), (3, .int x4)]) dX12_doesFit_35 (by decide) (fun _ => rfl) hf (fun x14 hf => ?_)
  refine E_iconst (pc := 37) (v := (0 : Int32)) dX12_doesFit_37 (by decide) ?_
  refine E_istore (pc := 38) (ls' := fun x15 => [(6, .int x15), (5, .int x14), (4, .int x7), (0, .ref a1), (1, .int x2), (2, .int x3), (3, .int x4)]) dX12_doesFit_38 (by decide) (fun _ => rfl) hf (fun x15 hf => ?_)
  refine Ev.sub [3, 1, 0] rfl ?_
  refine f_X12_doesFit_L40_ok  _ _ _ _ _ hf (fun μ32 x33 hf => ?_)
  · refine E_iload (pc := 94) dX12_doesFit_94 rfl ?_
    exact E_zret (pc := 96) dX12_doesFit_96 rfl hf
theorem dX12_from_0 : decode cX12_from 0 = .ok (.aload_n 0, 1) := by decide +kernel
theorem dX12_from_1 : decode cX12_from 1 = .ok (.iload_n 1, 1) := by decide +kernel
theorem dX12_from_2 : decode cX12_from 2 = .ok (.invokevirtual 428, 3) := by decide +kernel
theorem dX12_from_5 : decode cX12_from 5 = .ok (.ifCond .eq 15, 3) := by decide +kernel
theorem dX12_from_8 : decode cX12_from 8 = .ok (.iload_n 2, 1) := by decide +kernel
theorem dX12_from_9 : decode cX12_from 9 = .ok (.i2l, 1) := by decide +kernel
theorem dX12_from_10 : decode cX12_from 10 = .ok (.lconst 0, 1) := by decide +kernel
theorem dX12_from_11 : decode cX12_from 11 = .ok (.ldc2_w 526, 3) := by decide +kernel
theorem dX12_from_14 : decode cX12_from 14 = .ok (.invokestatic 183, 3) := by decide +kernel
theorem dX12_from_17 : decode cX12_from 17 = .ok (.ifCond .ne 5, 3) := by decide +kernel
theorem dX12_from_20 : decode cX12_from 20 = .ok (.iconst (-1), 1) := by decide +kernel
theorem dX12_from_21 : decode cX12_from 21 = .ok (.ireturn, 1) := by decide +kernel
theorem dX12_from_22 : decode cX12_from 22 = .ok (.iconst 0, 1) := by decide +kernel
theorem dX12_from_23 : decode cX12_from 23 = .ok (.istore_n 3, 1) := by decide +kernel
theorem dX12_from_24 : decode cX12_from 24 = .ok (.bipush (-2), 2) := by decide +kernel
theorem dX12_from_26 : decode cX12_from 26 = .ok (.istore 4, 2) := by decide +kernel
theorem dX12_from_28 : decode cX12_from 28 = .ok (.bipush (-2), 2) := by decide +kernel
theorem dX12_from_30 : decode cX12_from 30 = .ok (.istore 5, 2) := by decide +kernel
theorem dX12_from_32 : decode cX12_from 32 = .ok (.iconst 0, 1) := by decide +kernel
theorem dX12_from_33 : decode cX12_from 33 = .ok (.istore 6, 2) := by decide +kernel
theorem dX12_from_35 : decode cX12_from 35 = .ok (.iload 6, 2) := by decide +kernel
theorem dX12_from_37 : decode cX12_from 37 = .ok (.aload_n 0, 1) := by decide +kernel
theorem dX12_from_38 : decode cX12_from 38 = .ok (.invokevirtual 179, 3) := by decide +kernel
theorem dX12_from_41 : decode cX12_from 41 = .ok (.if_icmp .ge 65, 3) := by decide +kernel
theorem dX12_from_44 : decode cX12_from 44 = .ok (.iconst 0, 1) := by decide +kernel
theorem dX12_from_45 : decode cX12_from 45 = .ok (.istore 7, 2) := by decide +kernel
theorem dX12_from_47 : decode cX12_from 47 = .ok (.iload 7, 2) := by decide +kernel
theorem dX12_from_49 : decode cX12_from 49 = .ok (.iconst 4, 1) := by decide +kernel
theorem dX12_from_50 : decode cX12_from 50 = .ok (.if_icmp .gt 50, 3) := by decide +kernel
theorem dX12_from_53 : decode cX12_from 53 = .ok (.aload_n 0, 1) := by decide +kernel
theorem dX12_from_54 : decode cX12_from 54 = .ok (.iload_n 1, 1) := by decide +kernel
theorem dX12_from_55 : decode cX12_from 55 = .ok (.iload 6, 2) := by decide +kernel
theorem dX12_from_57 : decode cX12_from 57 = .ok (.iload 7, 2) := by decide +kernel
theorem dX12_from_59 : decode cX12_from 59 = .ok (.invokevirtual 528, 3) := by decide +kernel
theorem dX12_from_62 : decode cX12_from 62 = .ok (.ifCond .eq 32, 3) := by decide +kernel
theorem dX12_from_65 : decode cX12_from 65 = .ok (.iload_n 3, 1) := by decide +kernel
theorem dX12_from_66 : decode cX12_from 66 = .ok (.ifCond .ne 8, 3) := by decide +kernel
theorem dX12_from_69 : decode cX12_from 69 = .ok (.iload 6, 2) := by decide +kernel
theorem dX12_from_71 : decode cX12_from 71 = .ok (.goto 5, 3) := by decide +kernel
theorem dX12_from_74 : decode cX12_from 74 = .ok (.iload 4, 2) := by decide +kernel
theorem dX12_from_76 : decode cX12_from 76 = .ok (.istore 4, 2) := by decide +kernel
theorem dX12_from_78 : decode cX12_from 78 = .ok (.iload_n 3, 1) := by decide +kernel
theorem dX12_from_79 : decode cX12_from 79 = .ok (.ifCond .ne 8, 3) := by decide +kernel
theorem dX12_from_82 : decode cX12_from 82 = .ok (.iload 7, 2) := by decide +kernel
theorem dX12_from_84 : decode cX12_from 84 = .ok (.goto 5, 3) := by decide +kernel
theorem dX12_from_87 : decode cX12_from 87 = .ok (.iload 5, 2) := by decide +kernel
theorem dX12_from_89 : decode cX12_from 89 = .ok (.istore 5, 2) := by decide +kernel
theorem dX12_from_91 : decode cX12_from 91 = .ok (.iinc 3 1, 3) := by decide +kernel
theorem dX12_from_94 : decode cX12_from 94 = .ok (.iinc 7 1, 3) := by decide +kernel
theorem dX12_from_97 : decode cX12_from 97 = .ok (.goto (-50), 3) := by decide +kernel
theorem dX12_from_100 : decode cX12_from 100 = .ok (.iinc 6 1, 3) := by decide +kernel
theorem dX12_from_103 : decode cX12_from 103 = .ok (.goto (-68), 3) := by decide +kernel
theorem dX12_from_106 : decode cX12_from 106 = .ok (.iload_n 2, 1) := by decide +kernel
theorem dX12_from_107 : decode cX12_from 107 = .ok (.ifCond .ne 7, 3) := by decide +kernel
theorem dX12_from_110 : decode cX12_from 110 = .ok (.iload_n 3, 1) := by decide +kernel
theorem dX12_from_111 : decode cX12_from 111 = .ok (.goto 15, 3) := by decide +kernel
theorem dX12_from_114 : decode cX12_from 114 = .ok (.iload_n 2, 1) := by decide +kernel
theorem dX12_from_115 : decode cX12_from 115 = .ok (.iconst 1, 1) := by decide +kernel
theorem dX12_from_116 : decode cX12_from 116 = .ok (.if_icmp .ne 8, 3) := by decide +kernel
theorem dX12_from_119 : decode cX12_from 119 = .ok (.iload 4, 2) := by decide +kernel
theorem dX12_from_121 : decode cX12_from 121 = .ok (.goto 5, 3) := by decide +kernel
theorem dX12_from_124 : decode cX12_from 124 = .ok (.iload 5, 2) := by decide +kernel
theorem dX12_from_126 : decode cX12_from 126 = .ok (.ireturn, 1) := by decide +kernel
abbrev D_X12_from : Nat := 9
def f_X12_from_L47 (K100 : Mm → Nat → Int32 → Int32 → Int32 → Int32 → Int32 → Int32 → Option (Int32 × Mm)) : Nat → Mm → Nat → Int32 → Int32 → Int32 → Int32 → Int32 → Int32 → Int32 → Option (Int32 × Mm)
  | 0, _, _, _, _, _, _, _, _, _ => none
  | n + 1, μ0, a22, x23, x24, x25, x26, x27, x28, x29 =>
    (if (4 : Int32) < x29 then
    K100 μ0 a22 x23 x24 x25 x26 x27 x28
    else
    ((ob μ0 a22 12).bind fun _ =>
    (bd (f_X12_doesFit μ0 a22 x23 x28 x29) fun v31 μ30 =>
    (if v31 = 0 then
    (nm (x29 + Int32.ofInt (1)) fun x32 =>
    f_X12_from_L47 K100 n μ30 a22 x23 x24 x25 x26 x27 x28 x32)
    else
    (if x25 = 0 then
    (nm x28 fun x33 =>
    (if x25 = 0 then
    (nm x29 fun x34 =>
    (nm (x25 + Int32.ofInt (1)) fun x35 =>
    (nm (x29 + Int32.ofInt (1)) fun x36 =>
    f_X12_from_L47 K100 n μ30 a22 x23 x24 x35 x33 x34 x28 x36)))
    else
    (nm x27 fun x37 =>
    (nm (x25 + Int32.ofInt (1)) fun x38 =>
    (nm (x29 + Int32.ofInt (1)) fun x39 =>
    f_X12_from_L47 K100 n μ30 a22 x23 x24 x38 x33 x37 x28 x39)))))
    else
    (nm x26 fun x40 =>
    (if x25 = 0 then
    (nm x29 fun x41 =>
    (nm (x25 + Int32.ofInt (1)) fun x42 =>
    (nm (x29 + Int32.ofInt (1)) fun x43 =>
    f_X12_from_L47 K100 n μ30 a22 x23 x24 x42 x40 x41 x28 x43)))
    else
    (nm x27 fun x44 =>
    (nm (x25 + Int32.ofInt (1)) fun x45 =>
    (nm (x29 + Int32.ofInt (1)) fun x46 =>
    f_X12_from_L47 K100 n μ30 a22 x23 x24 x45 x40 x44 x28 x46))))))))))
set_option maxHeartbeats 4000000 in
set_option maxRecDepth 100000 in
theorem f_X12_from_L47_ok {l : Launch} {G : GG} {K100 : Mm → Nat → Int32 → Int32 → Int32 → Int32 → Int32 → Int32 → Option (Int32 × Mm)} {r : Int32} {μ' : Mm} (n : Nat) (μ0 : Mm) (a22 : Nat) (x23 : Int32) (x24 : Int32) (x25 : Int32) (x26 : Int32) (x27 : Int32) (x28 : Int32) (x29 : Int32) (hf : f_X12_from_L47 K100 n μ0 a22 x23 x24 x25 x26 x27 x28 x29 = some (r, μ')) (hK100 : ∀ (μ1 : Mm) (y0 : Nat) (y1 : Int32) (y2 : Int32) (y3 : Int32) (y4 : Int32) (y5 : Int32) (y6 : Int32), K100 μ1 y0 y1 y2 y3 y4 y5 y6 = some (r, μ') → Ev l G D_X12_from yX12_from cX12_from 8 (some .int) 100 [(0, .ref y0), (1, .int y1), (2, .int y2), (3, .int y3), (4, .int y4), (5, .int y5), (6, .int y6)] [] μ1 (some (.int r)) μ') : Ev l G D_X12_from yX12_from cX12_from 8 (some .int) 47 [(0, .ref a22), (1, .int x23), (2, .int x24), (3, .int x25), (4, .int x26), (5, .int x27), (6, .int x28), (7, .int x29)] [] μ0 (some (.int r)) μ' := by
  induction n generalizing μ0 a22 x23 x24 x25 x26 x27 x28 x29 with
  | zero => cases hf
  | succ n ih0 =>
    have ih : ∀ (μ0 : Mm) (a22 : Nat) (x23 : Int32) (x24 : Int32) (x25 : Int32) (x26 : Int32) (x27 : Int32) (x28 : Int32) (x29 : Int32), f_X12_from_L47 K100 n μ0 a22 x23 x24 x25 x26 x27 x28 x29 = some (r, μ') → Ev l G D_X12_from yX12_from cX12_from 8 (some .int) 47 [(0, .ref a22), (1, .int x23), (2, .int x24), (3, .int x25), (4, .int x26), (5, .int x27), (6, .int x28), (7, .int x29)] [] μ0 (some (.int r)) μ' := fun μ0 a22 x23 x24 x25 x26 x27 x28 x29 hf => ih0 μ0 a22 x23 x24 x25 x26 x27 x28 x29 hf
    rw [f_X12_from_L47] at hf
    refine E_iload (pc := 47) dX12_from_47 rfl ?_
    refine E_iconst (pc := 49) (v := (4 : Int32)) dX12_from_49 (by decide) ?_
    refine E_icmp_gt (pc := 50) (tgt := 100) dX12_from_50 (by decide) hf (fun hf => ?_) (fun hf => ?_)
    · refine Ev.sub [0, 1, 2, 3, 4, 5, 6] rfl ?_
      exact hK100 _ _ _ _ _ _ _ _ hf
    · refine E_aload_n (pc := 53) dX12_from_53 rfl ?_
      refine E_iload_n (pc := 54) dX12_from_54 rfl ?_
      refine E_iload (pc := 55) dX12_from_55 rfl ?_
      refine E_iload (pc := 57) dX12_from_57 rfl ?_
      refine E_Vi (pc := 59) (d2 := D_X12_doesFit) (ci := 12) [.int x23, .int x28, .int x29] dX12_from_59 ml_X12_528 mf_X12_doesFit im_X12_doesFit rfl rfl rfl (by decide) (Nat.le_of_ble_eq_true rfl) (Nat.le_of_ble_eq_true rfl) rfl (fun _ _ h => f_X12_doesFit_ok h) hf (fun v31 μ30 hf => ?_)
      refine E_if_eq (pc := 62) (tgt := 94) dX12_from_62 (by decide) hf (fun hf => ?_) (fun hf => ?_)
      · refine E_iinc (pc := 94) (ls' := fun x32 => [(7, .int x32), (0, .ref a22), (1, .int x23), (2, .int x24), (3, .int x25), (4, .int x26), (5, .int x27), (6, .int x28)]) dX12_from_94 rfl (by decide) (fun _ => rfl) hf (fun x32 hf => ?_)
        refine E_goto (pc := 97) (tgt := 47) dX12_from_97 (by decide) ?_
        refine Ev.sub [1, 2, 3, 4, 5, 6, 7, 0] rfl ?_
        exact ih _ _ _ _ _ _ _ _ _ hf
      · refine E_iload_n (pc := 65) dX12_from_65 rfl ?_
        refine E_if_ne (pc := 66) (tgt := 74) dX12_from_66 (by decide) hf (fun hf => ?_) (fun hf => ?_)
        · refine E_iload (pc := 69) dX12_from_69 rfl ?_
          refine E_goto (pc := 71) (tgt := 76) dX12_from_71 (by decide) ?_
          refine E_istore (pc := 76) (ls' := fun x33 => [(4, .int x33), (0, .ref a22), (1, .int x23), (2, .int x24), (3, .int x25), (5, .int x27), (6, .int x28), (7, .int x29)]) dX12_from_76 (by decide) (fun _ => rfl) hf (fun x33 hf => ?_)
          refine E_iload_n (pc := 78) dX12_from_78 rfl ?_
          refine E_if_ne (pc := 79) (tgt := 87) dX12_from_79 (by decide) hf (fun hf => ?_) (fun hf => ?_)
          · refine E_iload (pc := 82) dX12_from_82 rfl ?_
            refine E_goto (pc := 84) (tgt := 89) dX12_from_84 (by decide) ?_
            refine E_istore (pc := 89) (ls' := fun x34 => [(5, .int x34), (4, .int x33), (0, .ref a22), (1, .int x23), (2, .int x24), (3, .int x25), (6, .int x28), (7, .int x29)]) dX12_from_89 (by decide) (fun _ => rfl) hf (fun x34 hf => ?_)
            refine E_iinc (pc := 91) (ls' := fun x35 => [(3, .int x35), (5, .int x34), (4, .int x33), (0, .ref a22), (1, .int x23), (2, .int x24), (6, .int x28), (7, .int x29)]) dX12_from_91 rfl (by decide) (fun _ => rfl) hf (fun x35 hf => ?_)
            refine E_iinc (pc := 94) (ls' := fun x36 => [(7, .int x36), (3, .int x35), (5, .int x34), (4, .int x33), (0, .ref a22), (1, .int x23), (2, .int x24), (6, .int x28)]) dX12_from_94 rfl (by decide) (fun _ => rfl) hf (fun x36 hf => ?_)
            refine E_goto (pc := 97) (tgt := 47) dX12_from_97 (by decide) ?_
            refine Ev.sub [4, 5, 6, 1, 3, 2, 7, 0] rfl ?_
            exact ih _ _ _ _ _ _ _ _ _ hf
          · refine E_iload (pc := 87) dX12_from_87 rfl ?_
            refine E_istore (pc := 89) (ls' := fun x37 => [(5, .int x37), (4, .int x33), (0, .ref a22), (1, .int x23), (2, .int x24), (3, .int x25), (6, .int x28), (7, .int x29)]) dX12_from_89 (by decide) (fun _ => rfl) hf (fun x37 hf => ?_)
            refine E_iinc (pc := 91) (ls' := fun x38 => [(3, .int x38), (5, .int x37), (4, .int x33), (0, .ref a22), (1, .int x23), (2, .int x24), (6, .int x28), (7, .int x29)]) dX12_from_91 rfl (by decide) (fun _ => rfl) hf (fun x38 hf => ?_)
            refine E_iinc (pc := 94) (ls' := fun x39 => [(7, .int x39), (3, .int x38), (5, .int x37), (4, .int x33), (0, .ref a22), (1, .int x23), (2, .int x24), (6, .int x28)]) dX12_from_94 rfl (by decide) (fun _ => rfl) hf (fun x39 hf => ?_)
            refine E_goto (pc := 97) (tgt := 47) dX12_from_97 (by decide) ?_
            refine Ev.sub [4, 5, 6, 1, 3, 2, 7, 0] rfl ?_
            exact ih _ _ _ _ _ _ _ _ _ hf
        · refine E_iload (pc := 74) dX12_from_74 rfl ?_
          refine E_istore (pc := 76) (ls' := fun x40 => [(4, .int x40), (0, .ref a22), (1, .int x23), (2, .int x24), (3, .int x25), (5, .int x27), (6, .int x28), (7, .int x29)]) dX12_from_76 (by decide) (fun _ => rfl) hf (fun x40 hf => ?_)
          refine E_iload_n (pc := 78) dX12_from_78 rfl ?_
          refine E_if_ne (pc := 79) (tgt := 87) dX12_from_79 (by decide) hf (fun hf => ?_) (fun hf => ?_)
          · refine E_iload (pc := 82) dX12_from_82 rfl ?_
            refine E_goto (pc := 84) (tgt := 89) dX12_from_84 (by decide) ?_
            refine E_istore (pc := 89) (ls' := fun x41 => [(5, .int x41), (4, .int x40), (0, .ref a22), (1, .int x23), (2, .int x24), (3, .int x25), (6, .int x28), (7, .int x29)]) dX12_from_89 (by decide) (fun _ => rfl) hf (fun x41 hf => ?_)
            refine E_iinc (pc := 91) (ls' := fun x42 => [(3, .int x42), (5, .int x41), (4, .int x40), (0, .ref a22), (1, .int x23), (2, .int x24), (6, .int x28), (7, .int x29)]) dX12_from_91 rfl (by decide) (fun _ => rfl) hf (fun x42 hf => ?_)
            refine E_iinc (pc := 94) (ls' := fun x43 => [(7, .int x43), (3, .int x42), (5, .int x41), (4, .int x40), (0, .ref a22), (1, .int x23), (2, .int x24), (6, .int x28)]) dX12_from_94 rfl (by decide) (fun _ => rfl) hf (fun x43 hf => ?_)
            refine E_goto (pc := 97) (tgt := 47) dX12_from_97 (by decide) ?_
            refine Ev.sub [4, 5, 6, 1, 3, 2, 7, 0] rfl ?_
            exact ih _ _ _ _ _ _ _ _ _ hf
          · refine E_iload (pc := 87) dX12_from_87 rfl ?_
            refine E_istore (pc := 89) (ls' := fun x44 => [(5, .int x44), (4, .int x40), (0, .ref a22), (1, .int x23), (2, .int x24), (3, .int x25), (6, .int x28), (7, .int x29)]) dX12_from_89 (by decide) (fun _ => rfl) hf (fun x44 hf => ?_)
            refine E_iinc (pc := 91) (ls' := fun x45 => [(3, .int x45), (5, .int x44), (4, .int x40), (0, .ref a22), (1, .int x23), (2, .int x24), (6, .int x28), (7, .int x29)]) dX12_from_91 rfl (by decide) (fun _ => rfl) hf (fun x45 hf => ?_)
            refine E_iinc (pc := 94) (ls' := fun x46 => [(7, .int x46), (3, .int x45), (5, .int x44), (4, .int x40), (0, .ref a22), (1, .int x23), (2, .int x24), (6, .int x28)]) dX12_from_94 rfl (by decide) (fun _ => rfl) hf (fun x46 hf => ?_)
            refine E_goto (pc := 97) (tgt := 47) dX12_from_97 (by decide) ?_
            refine Ev.sub [4, 5, 6, 1, 3, 2, 7, 0] rfl ?_
            exact ih _ _ _ _ _ _ _ _ _ hf
def f_X12_from_L35 (K106 : Mm → Int32 → Int32 → Int32 → Int32 → Option (Int32 × Mm)) : Nat → Mm → Nat → Int32 → Int32 → Int32 → Int32 → Int32 → Int32 → Option (Int32 × Mm)
  | 0, _, _, _, _, _, _, _, _ => none
  | n + 1, μ0, a12, x13, x14, x15, x16, x17, x18 =>
    ((ob μ0 a12 12).bind fun _ =>
    (bd (f_X12_cells μ0 a12) fun v20 μ19 =>
    (if v20 ≤ x18 then
    K106 μ19 x14 x15 x16 x17
    else
    (nm (0 : Int32) fun x21 =>
    f_X12_from_L47 (fun μ47 a48 x49 x50 x51 x52 x53 x54 =>
    (nm (x54 + Int32.ofInt (1)) fun x55 =>
    f_X12_from_L35 K106 n μ47 a48 x49 x50 x51 x52 x53 x55)) FU μ19 a12 x13 x14 x15 x16 x17 x18 x21))))
set_option maxHeartbeats 4000000 in
set_option maxRecDepth 100000 in
theorem f_X12_from_L35_ok {l : Launch} {G : GG} {K106 : Mm → Int32 → Int32 → Int32 → Int32 → Option (Int32 × Mm)} {r : Int32} {μ' : Mm} (n : Nat) (μ0 : Mm) (a12 : Nat) (x13 : Int32) (x14 : Int32) (x15 : Int32) (x16 : Int32) (x17 : Int32) (x18 : Int32) (hf : f_X12_from_L35 K106 n μ0 a12 x13 x14 x15 x16 x17 x18 = some (r, μ')) (hK106 : ∀ (μ1 : Mm) (y2 : Int32) (y3 : Int32) (y4 : Int32) (y5 : Int32), K106 μ1 y2 y3 y4 y5 = some (r, μ') → Ev l G D_X12_from yX12_from cX12_from 8 (some .int) 106 [(2, .int y2), (3, .int y3), (4, .int y4), (5, .int y5)] [] μ1 (some (.int r)) μ') : Ev l G D_X12_from yX12_from cX12_from 8 (some .int) 35 [(0, .ref a12), (1, .int x13), (2, .int x14), (3, .int x15), (4, .int x16), (5, .int x17), (6, .int x18)] [] μ0 (some (.int r)) μ' := by
  induction n generalizing μ0 a12 x13 x14 x15 x16 x17 x18 with
  | zero => cases hf
  | succ n ih0 =>
    have ih : ∀ (μ0 : Mm) (a12 : Nat) (x13 : Int32) (x14 : Int32) (x15 : Int32) (x16 : Int32) (x17 : Int32) (x18 : Int32), f_X12_from_L35 K106 n μ0 a12 x13 x14 x15 x16 x17 x18 = some (r, μ') → Ev l G D_X12_from yX12_from cX12_from 8 (some .int) 35 [(0, .ref a12), (1, .int x13), (2, .int x14), (3, .int x15), (4, .int x16), (5, .int x17), (6, .int x18)] [] μ0 (some (.int r)) μ' := fun μ0 a12 x13 x14 x15 x16 x17 x18 hf => ih0 μ0 a12 x13 x14 x15 x16 x17 x18 hf
    rw [f_X12_from_L35] at hf
    refine E_iload (pc := 35) dX12_from_35 rfl ?_
    refine E_aload_n (pc := 37) dX12_from_37 rfl ?_
    refine E_Vi (pc := 38) (d2 := D_X12_cells) (ci := 12) [] dX12_from_38 ml_X12_179 mf_X12_cells im_X12_cells rfl rfl rfl (by decide) (Nat.le_of_ble_eq_true rfl) (Nat.le_of_ble_eq_true rfl) rfl (fun _ _ h => f_X12_cells_ok h) hf (fun v20 μ19 hf => ?_)
    refine E_icmp_ge (pc := 41) (tgt := 106) dX12_from_41 (by decide) hf (fun hf => ?_) (fun hf => ?_)
    · refine Ev.sub [2, 3, 4, 5] rfl ?_
      exact hK106 _ _ _ _ _ hf
    · refine E_iconst (pc := 44) (v := (0 : Int32)) dX12_from_44 (by decide) ?_
      refine E_istore (pc := 45) (ls' := fun x21 => [(7, .int x21), (0, .ref a12), (1, .int x13), (2, .int x14), (3, .int x15), (4, .int x16), (5, .int x17), (6, .int x18)]) dX12_from_45 (by decide) (fun _ => rfl) hf (fun x21 hf => ?_)
      refine Ev.sub [1, 2, 3, 4, 5, 6, 7, 0] rfl ?_
      refine f_X12_from_L47_ok  _ _ _ _ _ _ _ _ _ _ hf (fun μ47 a48 x49 x50 x51 x52 x53 x54 hf => ?_)
      · refine E_iinc (pc := 100) (ls' := fun x55 => [(6, .int x55), (0, .ref a48), (1, .int x49), (2, .int x50), (3, .int x51), (4, .int x52), (5, .int x53)]) dX12_from_100 rfl (by decide) (fun _ => rfl) hf (fun x55 hf => ?_)
        refine E_goto (pc := 103) (tgt := 35) dX12_from_103 (by decide) ?_
        refine Ev.sub [1, 2, 3, 4, 5, 6, 0] rfl ?_
        exact ih _ _ _ _ _ _ _ _ hf
set_option maxRecDepth 100000 in
def f_X12_from (μ0 : Mm) (a1 : Nat) (x2 : Int32) (x3 : Int32) : Option (Int32 × Mm) :=
 ((ob μ0 a1 12).bind fun _ =>
    (bd (f_X12_isPerson μ0 a1 x2) fun v5 μ4 =>
    (if v5 = 0 then
    (some ((-1 : Int32), μ4))
    else
    (bd (f_X12_in μ4 (x3).toInt64 (0 : Int64) (2 : Int64)) fun v7 μ6 =>
    (if v7 = 0 then
    (some ((-1 : Int32), μ6))
    else
    (nm (0 : Int32) fun x8 =>
    (nm (-2 : Int32) fun x9 =>
    (nm (-2 : Int32) fun x10 =>
    (nm (0 : Int32) fun x11 =>
    f_X12_from_L35 (fun μ56 x57 x58 x59 x60 =>
    (if x57 = 0 then
    (some (x58, μ56))
    else
    (if x57 = (1 : Int32) then
    (some (x59, μ56))
    else
    (some (x60, μ56))))) FU μ6 a1 x2 x3 x8 x9 x10 x11)))))))))
set_option maxHeartbeats 4000000 in
set_option maxRecDepth 100000 in
theorem f_X12_from_ok {l : Launch} {G : GG} {μ0 : Mm} {a1 : Nat} {x2 : Int32} {x3 : Int32} {r : Int32} {μ' : Mm} (hf : f_X12_from μ0 a1 x2 x3 = some (r, μ')) : EvM l G D_X12_from yX12_from cX12_from 8 (some .int) [.ref a1, .int x2, .int x3] μ0 (some (.int r)) μ' := by
  show Ev l G D_X12_from yX12_from cX12_from 8 (some .int) 0 [(0, .ref a1), (1, .int x2), (2, .int x3)] [] μ0 (some (.int r)) μ'
  unfold f_X12_from at hf
  refine E_aload_n (pc := 0) dX12_from_0 rfl ?_
  refine E_iload_n (pc := 1) dX12_from_1 rfl ?_
  refine E_Vi (pc := 2) (d2 := D_X12_isPerson) (ci := 12) [.int x2] dX12_from_2 ml_X12_428 mf_X12_isPerson im_X12_isPerson rfl rfl rfl (by decide) (Nat.le_of_ble_eq_true rfl) (Nat.le_of_ble_eq_true rfl) rfl (fun _ _ h => f_X12_isPerson_ok h) hf (fun v5 μ4 hf => ?_)
  refine E_if_eq (pc := 5) (tgt := 20) dX12_from_5 (by decide) hf (fun hf => ?_) (fun hf => ?_)
  · refine E_iconst (pc := 20) (v := (-1 : Int32)) dX12_from_20 (by decide) ?_
    exact E_iret (pc := 21) dX12_from_21 rfl hf
  · refine E_iload_n (pc := 8) dX12_from_8 rfl ?_
    refine E_i2l (pc := 9) dX12_from_9 ?_
    refine E_lconst (pc := 10) (v := (0 : Int64)) dX12_from_10 (by decide) ?_
    refine E_ldc2 (pc := 11) (v := (2 : Int64)) dX12_from_11 co_X12_526 ?_
    refine E_Si (pc := 14) (d2 := D_X12_in) [.long (x3).toInt64, .long (0 : Int64), .long (2 : Int64)] dX12_from_14 ml_X12_183 mf_X12_in st_X12_in rfl (by decide) (Nat.le_of_ble_eq_true rfl) (Nat.le_of_ble_eq_true rfl) rfl (fun _ _ h => f_X12_in_ok h) hf (fun v7 μ6 hf => ?_)
    refine E_if_ne (pc := 17) (tgt := 22) dX12_from_17 (by decide) hf (fun hf => ?_) (fun hf => ?_)
    · refine E_iconst (pc := 20) (v := (-1 : Int32)) dX12_from_20 (by decide) ?_
      exact E_iret (pc := 21) dX12_from_21 rfl hf
    · refine E_iconst (pc := 22) (v := (0 : Int32)) dX12_from_22 (by decide) ?_
      refine E_istore_n (pc := 23) (ls' := fun x8 => [(3, .int x8), (0, .ref a1), (1, .int x2), (2, .int x3)]) dX12_from_23 (by decide) (fun _ => rfl) hf (fun x8 hf => ?_)
      refine E_bipush (pc := 24) (v := (-2 : Int32)) dX12_from_24 (by decide) ?_
      refine E_istore (pc := 26) (ls' := fun x9 => [(4, .int x9), (3, .int x8), (0, .ref a1), (1, .int x2), (2, .int x3)]) dX12_from_26 (by decide) (fun _ => rfl) hf (fun x9 hf => ?_)
      refine E_bipush (pc := 28) (v := (-2 : Int32)) dX12_from_28 (by decide) ?_
      refine E_istore (pc := 30) (ls' := fun x10 => [(5, .int x10), (4, .int x9), (3, .int x8), (0, .ref a1), (1, .int x2), (2, .int x3)]) dX12_from_30 (by decide) (fun _ => rfl) hf (fun x10 hf => ?_)
      refine E_iconst (pc := 32) (v := (0 : Int32)) dX12_from_32 (by decide) ?_
      refine E_istore (pc := 33) (ls' := fun x11 => [(6, .int x11), (5, .int x10), (4, .int x9), (3, .int x8), (0, .ref a1), (1, .int x2), (2, .int x3)]) dX12_from_33 (by decide) (fun _ => rfl) hf (fun x11 hf => ?_)
      refine Ev.sub [4, 5, 6, 3, 2, 1, 0] rfl ?_
      refine f_X12_from_L35_ok  _ _ _ _ _ _ _ _ _ hf (fun μ56 x57 x58 x59 x60 hf => ?_)
      · refine E_iload_n (pc := 106) dX12_from_106 rfl ?_
        refine E_if_ne (pc := 107) (tgt := 114) dX12_from_107 (by decide) hf (fun hf => ?_) (fun hf => ?_)
        · refine E_iload_n (pc := 110) dX12_from_110 rfl ?_
          refine E_goto (pc := 111) (tgt := 126) dX12_from_111 (by decide) ?_
          exact E_iret (pc := 126) dX12_from_126 rfl hf
        · refine E_iload_n (pc := 114) dX12_from_114 rfl ?_
          refine E_iconst (pc := 115) (v := (1 : Int32)) dX12_from_115 (by decide) ?_
          refine E_icmp_ne (pc := 116) (tgt := 124) dX12_from_116 (by decide) hf (fun hf => ?_) (fun hf => ?_)
          · refine E_iload (pc := 119) dX12_from_119 rfl ?_
            refine E_goto (pc := 121) (tgt := 126) dX12_from_121 (by decide) ?_
            exact E_iret (pc := 126) dX12_from_126 rfl hf
          · refine E_iload (pc := 124) dX12_from_124 rfl ?_
            exact E_iret (pc := 126) dX12_from_126 rfl hf
theorem dX12_shard_0 : decode cX12_shard 0 = .ok (.aload_n 0, 1) := by decide +kernel
theorem dX12_shard_1 : decode cX12_shard 1 = .ok (.iload_n 1, 1) := by decide +kernel
theorem dX12_shard_2 : decode cX12_shard 2 = .ok (.invokevirtual 428, 3) := by decide +kernel
theorem dX12_shard_5 : decode cX12_shard 5 = .ok (.ifCond .eq 13, 3) := by decide +kernel
theorem dX12_shard_8 : decode cX12_shard 8 = .ok (.iload_n 2, 1) := by decide +kernel
theorem dX12_shard_9 : decode cX12_shard 9 = .ok (.i2l, 1) := by decide +kernel
theorem dX12_shard_10 : decode cX12_shard 10 = .ok (.lconst 0, 1) := by decide +kernel
theorem dX12_shard_11 : decode cX12_shard 11 = .ok (.lconst 1, 1) := by decide +kernel
theorem dX12_shard_12 : decode cX12_shard 12 = .ok (.invokestatic 183, 3) := by decide +kernel
theorem dX12_shard_15 : decode cX12_shard 15 = .ok (.ifCond .ne 5, 3) := by decide +kernel
theorem dX12_shard_18 : decode cX12_shard 18 = .ok (.iconst (-1), 1) := by decide +kernel
theorem dX12_shard_19 : decode cX12_shard 19 = .ok (.ireturn, 1) := by decide +kernel
theorem dX12_shard_20 : decode cX12_shard 20 = .ok (.iconst 0, 1) := by decide +kernel
theorem dX12_shard_21 : decode cX12_shard 21 = .ok (.istore_n 3, 1) := by decide +kernel
theorem dX12_shard_22 : decode cX12_shard 22 = .ok (.iload_n 3, 1) := by decide +kernel
theorem dX12_shard_23 : decode cX12_shard 23 = .ok (.bipush 8, 2) := by decide +kernel
theorem dX12_shard_25 : decode cX12_shard 25 = .ok (.if_icmp .ge 16, 3) := by decide +kernel
theorem dX12_shard_28 : decode cX12_shard 28 = .ok (.aload_n 0, 1) := by decide +kernel
theorem dX12_shard_29 : decode cX12_shard 29 = .ok (.getfield 149, 3) := by decide +kernel
theorem dX12_shard_32 : decode cX12_shard 32 = .ok (.iload_n 3, 1) := by decide +kernel
theorem dX12_shard_33 : decode cX12_shard 33 = .ok (.iconst 0, 1) := by decide +kernel
theorem dX12_shard_34 : decode cX12_shard 34 = .ok (.iastore, 1) := by decide +kernel
theorem dX12_shard_35 : decode cX12_shard 35 = .ok (.iinc 3 1, 3) := by decide +kernel
theorem dX12_shard_38 : decode cX12_shard 38 = .ok (.goto (-16), 3) := by decide +kernel
theorem dX12_shard_41 : decode cX12_shard 41 = .ok (.iconst 0, 1) := by decide +kernel
theorem dX12_shard_42 : decode cX12_shard 42 = .ok (.istore_n 3, 1) := by decide +kernel
theorem dX12_shard_43 : decode cX12_shard 43 = .ok (.iconst 0, 1) := by decide +kernel
theorem dX12_shard_44 : decode cX12_shard 44 = .ok (.istore 4, 2) := by decide +kernel
theorem dX12_shard_46 : decode cX12_shard 46 = .ok (.iload 4, 2) := by decide +kernel
theorem dX12_shard_48 : decode cX12_shard 48 = .ok (.aload_n 0, 1) := by decide +kernel
theorem dX12_shard_49 : decode cX12_shard 49 = .ok (.invokevirtual 179, 3) := by decide +kernel
theorem dX12_shard_52 : decode cX12_shard 52 = .ok (.if_icmp .ge 78, 3) := by decide +kernel
theorem dX12_shard_55 : decode cX12_shard 55 = .ok (.iconst 0, 1) := by decide +kernel
theorem dX12_shard_56 : decode cX12_shard 56 = .ok (.istore 5, 2) := by decide +kernel
theorem dX12_shard_58 : decode cX12_shard 58 = .ok (.iload 5, 2) := by decide +kernel
theorem dX12_shard_60 : decode cX12_shard 60 = .ok (.iconst 4, 1) := by decide +kernel
theorem dX12_shard_61 : decode cX12_shard 61 = .ok (.if_icmp .gt 63, 3) := by decide +kernel
theorem dX12_shard_64 : decode cX12_shard 64 = .ok (.aload_n 0, 1) := by decide +kernel
theorem dX12_shard_65 : decode cX12_shard 65 = .ok (.iload_n 1, 1) := by decide +kernel
theorem dX12_shard_66 : decode cX12_shard 66 = .ok (.iload 4, 2) := by decide +kernel
theorem dX12_shard_68 : decode cX12_shard 68 = .ok (.iload 5, 2) := by decide +kernel
theorem dX12_shard_70 : decode cX12_shard 70 = .ok (.invokevirtual 528, 3) := by decide +kernel
theorem dX12_shard_73 : decode cX12_shard 73 = .ok (.ifCond .eq 45, 3) := by decide +kernel
theorem dX12_shard_76 : decode cX12_shard 76 = .ok (.iinc 3 1, 3) := by decide +kernel
theorem dX12_shard_79 : decode cX12_shard 79 = .ok (.iconst 0, 1) := by decide +kernel
theorem dX12_shard_80 : decode cX12_shard 80 = .ok (.istore 6, 2) := by decide +kernel
theorem dX12_shard_82 : decode cX12_shard 82 = .ok (.iload 6, 2) := by decide +kernel
theorem dX12_shard_84 : decode cX12_shard 84 = .ok (.aload_n 0, 1) := by decide +kernel
theorem dX12_shard_85 : decode cX12_shard 85 = .ok (.getfield 9, 3) := by decide +kernel
theorem dX12_shard_88 : decode cX12_shard 88 = .ok (.iconst 3, 1) := by decide +kernel
theorem dX12_shard_89 : decode cX12_shard 89 = .ok (.iaload, 1) := by decide +kernel
theorem dX12_shard_90 : decode cX12_shard 90 = .ok (.if_icmp .ge 28, 3) := by decide +kernel
theorem dX12_shard_93 : decode cX12_shard 93 = .ok (.aload_n 0, 1) := by decide +kernel
theorem dX12_shard_94 : decode cX12_shard 94 = .ok (.getfield 149, 3) := by decide +kernel
theorem dX12_shard_97 : decode cX12_shard 97 = .ok (.iload 6, 2) := by decide +kernel
theorem dX12_shard_99 : decode cX12_shard 99 = .ok (.dup2, 1) := by decide +kernel
theorem dX12_shard_100 : decode cX12_shard 100 = .ok (.iaload, 1) := by decide +kernel
theorem dX12_shard_101 : decode cX12_shard 101 = .ok (.aload_n 0, 1) := by decide +kernel
theorem dX12_shard_102 : decode cX12_shard 102 = .ok (.getfield 443, 3) := by decide +kernel
theorem dX12_shard_105 : decode cX12_shard 105 = .ok (.iload 6, 2) := by decide +kernel
theorem dX12_shard_107 : decode cX12_shard 107 = .ok (.ishr, 1) := by decide +kernel
theorem dX12_shard_108 : decode cX12_shard 108 = .ok (.iconst 1, 1) := by decide +kernel
theorem dX12_shard_109 : decode cX12_shard 109 = .ok (.iand, 1) := by decide +kernel
theorem dX12_shard_110 : decode cX12_shard 110 = .ok (.iadd, 1) := by decide +kernel
theorem dX12_shard_111 : decode cX12_shard 111 = .ok (.iastore, 1) := by decide +kernel
theorem dX12_shard_112 : decode cX12_shard 112 = .ok (.iinc 6 1, 3) := by decide +kernel
theorem dX12_shard_115 : decode cX12_shard 115 = .ok (.goto (-33), 3) := by decide +kernel
theorem dX12_shard_118 : decode cX12_shard 118 = .ok (.iinc 5 1, 3) := by decide +kernel
theorem dX12_shard_121 : decode cX12_shard 121 = .ok (.goto (-63), 3) := by decide +kernel
theorem dX12_shard_124 : decode cX12_shard 124 = .ok (.iinc 4 1, 3) := by decide +kernel
theorem dX12_shard_127 : decode cX12_shard 127 = .ok (.goto (-81), 3) := by decide +kernel
theorem dX12_shard_130 : decode cX12_shard 130 = .ok (.bipush (-2), 2) := by decide +kernel
theorem dX12_shard_132 : decode cX12_shard 132 = .ok (.istore 4, 2) := by decide +kernel
theorem dX12_shard_134 : decode cX12_shard 134 = .ok (.bipush (-2), 2) := by decide +kernel
theorem dX12_shard_136 : decode cX12_shard 136 = .ok (.istore 5, 2) := by decide +kernel
theorem dX12_shard_138 : decode cX12_shard 138 = .ok (.iconst 0, 1) := by decide +kernel
theorem dX12_shard_139 : decode cX12_shard 139 = .ok (.istore 6, 2) := by decide +kernel
theorem dX12_shard_141 : decode cX12_shard 141 = .ok (.iload 6, 2) := by decide +kernel
theorem dX12_shard_143 : decode cX12_shard 143 = .ok (.aload_n 0, 1) := by decide +kernel
theorem dX12_shard_144 : decode cX12_shard 144 = .ok (.getfield 9, 3) := by decide +kernel
theorem dX12_shard_147 : decode cX12_shard 147 = .ok (.iconst 3, 1) := by decide +kernel
theorem dX12_shard_148 : decode cX12_shard 148 = .ok (.iaload, 1) := by decide +kernel
theorem dX12_shard_149 : decode cX12_shard 149 = .ok (.if_icmp .ge 75, 3) := by decide +kernel
theorem dX12_shard_152 : decode cX12_shard 152 = .ok (.iload_n 3, 1) := by decide +kernel
theorem dX12_shard_153 : decode cX12_shard 153 = .ok (.ifCond .le 71, 3) := by decide +kernel
theorem dX12_shard_156 : decode cX12_shard 156 = .ok (.aload_n 0, 1) := by decide +kernel
theorem dX12_shard_157 : decode cX12_shard 157 = .ok (.getfield 149, 3) := by decide +kernel
theorem dX12_shard_160 : decode cX12_shard 160 = .ok (.iload 6, 2) := by decide +kernel
theorem dX12_shard_162 : decode cX12_shard 162 = .ok (.iaload, 1) := by decide +kernel
theorem dX12_shard_163 : decode cX12_shard 163 = .ok (.iload_n 3, 1) := by decide +kernel
theorem dX12_shard_164 : decode cX12_shard 164 = .ok (.aload_n 0, 1) := by decide +kernel
theorem dX12_shard_165 : decode cX12_shard 165 = .ok (.getfield 149, 3) := by decide +kernel
theorem dX12_shard_168 : decode cX12_shard 168 = .ok (.iload 6, 2) := by decide +kernel
theorem dX12_shard_170 : decode cX12_shard 170 = .ok (.iaload, 1) := by decide +kernel
theorem dX12_shard_171 : decode cX12_shard 171 = .ok (.isub, 1) := by decide +kernel
theorem dX12_shard_172 : decode cX12_shard 172 = .ok (.if_icmp .le 13, 3) := by decide +kernel
theorem dX12_shard_175 : decode cX12_shard 175 = .ok (.aload_n 0, 1) := by decide +kernel
theorem dX12_shard_176 : decode cX12_shard 176 = .ok (.getfield 149, 3) := by decide +kernel
theorem dX12_shard_179 : decode cX12_shard 179 = .ok (.iload 6, 2) := by decide +kernel
theorem dX12_shard_181 : decode cX12_shard 181 = .ok (.iaload, 1) := by decide +kernel
theorem dX12_shard_182 : decode cX12_shard 182 = .ok (.goto 12, 3) := by decide +kernel
theorem dX12_shard_185 : decode cX12_shard 185 = .ok (.iload_n 3, 1) := by decide +kernel
theorem dX12_shard_186 : decode cX12_shard 186 = .ok (.aload_n 0, 1) := by decide +kernel
theorem dX12_shard_187 : decode cX12_shard 187 = .ok (.getfield 149, 3) := by decide +kernel
theorem dX12_shard_190 : decode cX12_shard 190 = .ok (.iload 6, 2) := by decide +kernel
theorem dX12_shard_192 : decode cX12_shard 192 = .ok (.iaload, 1) := by decide +kernel
theorem dX12_shard_193 : decode cX12_shard 193 = .ok (.isub, 1) := by decide +kernel
theorem dX12_shard_194 : decode cX12_shard 194 = .ok (.istore 7, 2) := by decide +kernel
theorem dX12_shard_196 : decode cX12_shard 196 = .ok (.iload 4, 2) := by decide +kernel
theorem dX12_shard_198 : decode cX12_shard 198 = .ok (.bipush (-2), 2) := by decide +kernel
theorem dX12_shard_200 : decode cX12_shard 200 = .ok (.if_icmp .eq 10, 3) := by decide +kernel
theorem dX12_shard_203 : decode cX12_shard 203 = .ok (.iload 7, 2) := by decide +kernel
theorem dX12_shard_205 : decode cX12_shard 205 = .ok (.iload 5, 2) := by decide +kernel
theorem dX12_shard_207 : decode cX12_shard 207 = .ok (.if_icmp .ge 11, 3) := by decide +kernel
theorem dX12_shard_210 : decode cX12_shard 210 = .ok (.iload 6, 2) := by decide +kernel
theorem dX12_shard_212 : decode cX12_shard 212 = .ok (.istore 4, 2) := by decide +kernel
theorem dX12_shard_214 : decode cX12_shard 214 = .ok (.iload 7, 2) := by decide +kernel
theorem dX12_shard_216 : decode cX12_shard 216 = .ok (.istore 5, 2) := by decide +kernel
theorem dX12_shard_218 : decode cX12_shard 218 = .ok (.iinc 6 1, 3) := by decide +kernel
theorem dX12_shard_221 : decode cX12_shard 221 = .ok (.goto (-80), 3) := by decide +kernel
theorem dX12_shard_224 : decode cX12_shard 224 = .ok (.iload_n 2, 1) := by decide +kernel
theorem dX12_shard_225 : decode cX12_shard 225 = .ok (.ifCond .ne 8, 3) := by decide +kernel
theorem dX12_shard_228 : decode cX12_shard 228 = .ok (.iload 4, 2) := by decide +kernel
theorem dX12_shard_230 : decode cX12_shard 230 = .ok (.goto 5, 3) := by decide +kernel
theorem dX12_shard_233 : decode cX12_shard 233 = .ok (.iload 5, 2) := by decide +kernel
theorem dX12_shard_235 : decode cX12_shard 235 = .ok (.ireturn, 1) := by decide +kernel
abbrev D_X12_shard : Nat := 9
def f_X12_shard_L22 (K41 : Mm → Nat → Int32 → Int32 → Option (Int32 × Mm)) : Nat → Mm → Nat → Int32 → Int32 → Int32 → Option (Int32 × Mm)
  | 0, _, _, _, _, _ => none
  | n + 1, μ0, a9, x10, x11, x12 =>
    (if (8 : Int32) ≤ x12 then
    K41 μ0 a9 x10 x11
    else
    ((gR μ0 a9 12 65).bind fun v13 =>
    ((sI μ0 v13 0 x12 (0 : Int32)).bind fun μ14 =>
    (nm (x12 + Int32.ofInt (1)) fun x15 =>
    f_X12_shard_L22 K41 n μ14 a9 x10 x11 x15))))
set_option maxHeartbeats 4000000 in
set_option maxRecDepth 100000 in
theorem f_X12_shard_L22_ok {l : Launch} {G : GG} {K41 : Mm → Nat → Int32 → Int32 → Option (Int32 × Mm)} {r : Int32} {μ' : Mm} (n : Nat) (μ0 : Mm) (a9 : Nat) (x10 : Int32) (x11 : Int32) (x12 : Int32) (hf : f_X12_shard_L22 K41 n μ0 a9 x10 x11 x12 = some (r, μ')) (hK41 : ∀ (μ1 : Mm) (y0 : Nat) (y1 : Int32) (y2 : Int32), K41 μ1 y0 y1 y2 = some (r, μ') → Ev l G D_X12_shard yX12_shard cX12_shard 8 (some .int) 41 [(0, .ref y0), (1, .int y1), (2, .int y2)] [] μ1 (some (.int r)) μ') : Ev l G D_X12_shard yX12_shard cX12_shard 8 (some .int) 22 [(0, .ref a9), (1, .int x10), (2, .int x11), (3, .int x12)] [] μ0 (some (.int r)) μ' := by
  induction n generalizing μ0 a9 x10 x11 x12 with
  | zero => cases hf
  | succ n ih0 =>
    have ih : ∀ (μ0 : Mm) (a9 : Nat) (x10 : Int32) (x11 : Int32) (x12 : Int32), f_X12_shard_L22 K41 n μ0 a9 x10 x11 x12 = some (r, μ') → Ev l G D_X12_shard yX12_shard cX12_shard 8 (some .int) 22 [(0, .ref a9), (1, .int x10), (2, .int x11), (3, .int x12)] [] μ0 (some (.int r)) μ' := fun μ0 a9 x10 x11 x12 hf => ih0 μ0 a9 x10 x11 x12 hf
    rw [f_X12_shard_L22] at hf
    refine E_iload_n (pc := 22) dX12_shard_22 rfl ?_
    refine E_bipush (pc := 23) (v := (8 : Int32)) dX12_shard_23 (by decide) ?_
    refine E_icmp_ge (pc := 25) (tgt := 41) dX12_shard_25 (by decide) hf (fun hf => ?_) (fun hf => ?_)
    · refine Ev.sub [0, 1, 2] rfl ?_
      exact hK41 _ _ _ _ hf
    · refine E_aload_n (pc := 28) dX12_shard_28 rfl ?_
      refine E_getR (pc := 29) dX12_shard_29 fl_X12_149 hf (fun v13 hf => ?_)
      refine E_iload_n (pc := 32) dX12_shard_32 rfl ?_
      refine E_iconst (pc := 33) (v := (0 : Int32)) dX12_shard_33 (by decide) ?_
      refine E_iast (pc := 34) dX12_shard_34 hf (fun μ14 hf => ?_)
      refine E_iinc (pc := 35) (ls' := fun x15 => [(3, .int x15), (0, .ref a9), (1, .int x10), (2, .int x11)]) dX12_shard_35 rfl (by decide) (fun _ => rfl) hf (fun x15 hf => ?_)
      refine E_goto (pc := 38) (tgt := 22) dX12_shard_38 (by decide) ?_
      refine Ev.sub [1, 2, 3, 0] rfl ?_
      exact ih _ _ _ _ _ hf
def f_X12_shard_L82 (K118 : Mm → Nat → Int32 → Int32 → Int32 → Int32 → Int32 → Option (Int32 × Mm)) : Nat → Mm → Nat → Int32 → Int32 → Int32 → Int32 → Int32 → Int32 → Option (Int32 × Mm)
  | 0, _, _, _, _, _, _, _, _ => none
  | n + 1, μ0, a41, x42, x43, x44, x45, x46, x47 =>
    ((gR μ0 a41 12 1).bind fun v48 =>
    ((aI μ0 v48 0 (3 : Int32)).bind fun v49 =>
    (if v49 ≤ x47 then
    K118 μ0 a41 x42 x43 x44 x45 x46
    else
    ((gR μ0 a41 12 65).bind fun v50 =>
    ((aI μ0 v50 0 x47).bind fun v51 =>
    ((gI μ0 a41 12 51).bind fun v52 =>
    ((sI μ0 v50 0 x47 (v51 + ((v52 >>> (x47 &&& 31)) &&& (1 : Int32)))).bind fun μ53 =>
    (nm (x47 + Int32.ofInt (1)) fun x54 =>
    f_X12_shard_L82 K118 n μ53 a41 x42 x43 x44 x45 x46 x54))))))))
set_option maxHeartbeats 4000000 in
set_option maxRecDepth 100000 in
theorem f_X12_shard_L82_ok {l : Launch} {G : GG} {K118 : Mm → Nat → Int32 → Int32 → Int32 → Int32 → Int32 → Option (Int32 × Mm)} {r : Int32} {μ' : Mm} (n : Nat) (μ0 : Mm) (a41 : Nat) (x42 : Int32) (x43 : Int32) (x44 : Int32) (x45 : Int32) (x46 : Int32) (x47 : Int32) (hf : f_X12_shard_L82 K118 n μ0 a41 x42 x43 x44 x45 x46 x47 = some (r, μ')) (hK118 : ∀ (μ1 : Mm) (y0 : Nat) (y1 : Int32) (y2 : Int32) (y3 : Int32) (y4 : Int32) (y5 : Int32), K118 μ1 y0 y1 y2 y3 y4 y5 = some (r, μ') → Ev l G D_X12_shard yX12_shard cX12_shard 8 (some .int) 118 [(0, .ref y0), (1, .int y1), (2, .int y2), (3, .int y3), (4, .int y4), (5, .int y5)] [] μ1 (some (.int r)) μ') : Ev l G D_X12_shard yX12_shard cX12_shard 8 (some .int) 82 [(0, .ref a41), (1, .int x42), (2, .int x43), (3, .int x44), (4, .int x45), (5, .int x46), (6, .int x47)] [] μ0 (some (.int r)) μ' := by
  induction n generalizing μ0 a41 x42 x43 x44 x45 x46 x47 with
  | zero => cases hf
  | succ n ih0 =>
    have ih : ∀ (μ0 : Mm) (a41 : Nat) (x42 : Int32) (x43 : Int32) (x44 : Int32) (x45 : Int32) (x46 : Int32) (x47 : Int32), f_X12_shard_L82 K118 n μ0 a41 x42 x43 x44 x45 x46 x47 = some (r, μ') → Ev l G D_X12_shard yX12_shard cX12_shard 8 (some .int) 82 [(0, .ref a41), (1, .int x42), (2, .int x43), (3, .int x44), (4, .int x45), (5, .int x46), (6, .int x47)] [] μ0 (some (.int r)) μ' := fun μ0 a41 x42 x43 x44 x45 x46 x47 hf => ih0 μ0 a41 x42 x43 x44 x45 x46 x47 hf
    rw [f_X12_shard_L82] at hf
    refine E_iload (pc := 82) dX12_shard_82 rfl ?_
    refine E_aload_n (pc := 84) dX12_shard_84 rfl ?_
    refine E_getR (pc := 85) dX12_shard_85 fl_X12_9 hf (fun v48 hf => ?_)
    refine E_iconst (pc := 88) (v := (3 : Int32)) dX12_shard_88 (by decide) ?_
    refine E_iald (pc := 89) dX12_shard_89 hf (fun v49 hf => ?_)
    refine E_icmp_ge (pc := 90) (tgt := 118) dX12_shard_90 (by decide) hf (fun hf => ?_) (fun hf => ?_)
    · refine Ev.sub [0, 1, 2, 3, 4, 5] rfl ?_
      exact hK118 _ _ _ _ _ _ _ hf
    · refine E_aload_n (pc := 93) dX12_shard_93 rfl ?_
      refine E_getR (pc := 94) dX12_shard_94 fl_X12_149 hf (fun v50 hf => ?_)
      refine E_iload (pc := 97) dX12_shard_97 rfl ?_
      refine E_dup2 (pc := 99) dX12_shard_99 rfl rfl ?_
      refine E_iald (pc := 100) dX12_shard_100 hf (fun v51 hf => ?_)
      refine E_aload_n (pc := 101) dX12_shard_101 rfl ?_
      refine E_getI (pc := 102) dX12_shard_102 fl_X12_443 hf (fun v52 hf => ?_)
      refine E_iload (pc := 105) dX12_shard_105 rfl ?_
      refine E_ishr (pc := 107) dX12_shard_107 ?_
      refine E_iconst (pc := 108) (v := (1 : Int32)) dX12_shard_108 (by decide) ?_
      refine E_iand (pc := 109) dX12_shard_109 ?_
      refine E_iadd (pc := 110) dX12_shard_110 ?_
      refine E_iast (pc := 111) dX12_shard_111 hf (fun μ53 hf => ?_)
      refine E_iinc (pc := 112) (ls' := fun x54 => [(6, .int x54), (0, .ref a41), (1, .int x42), (2, .int x43), (3, .int x44), (4, .int x45), (5, .int x46)]) dX12_shard_112 rfl (by decide) (fun _ => rfl) hf (fun x54 hf => ?_)
      refine E_goto (pc := 115) (tgt := 82) dX12_shard_115 (by decide) ?_
      refine Ev.sub [1, 2, 3, 4, 5, 6, 0] rfl ?_
      exact ih _ _ _ _ _ _ _ _ hf
def f_X12_shard_L58 (K124 : Mm → Nat → Int32 → Int32 → Int32 → Int32 → Option (Int32 × Mm)) : Nat → Mm → Nat → Int32 → Int32 → Int32 → Int32 → Int32 → Option (Int32 × Mm)
  | 0, _, _, _, _, _, _, _ => none
  | n + 1, μ0, a30, x31, x32, x33, x34, x35 =>
    (if (4 : Int32) < x35 then
    K124 μ0 a30 x31 x32 x33 x34
    else
    ((ob μ0 a30 12).bind fun _ =>
    (bd (f_X12_doesFit μ0 a30 x31 x34 x35) fun v37 μ36 =>
    (if v37 = 0 then
    (nm (x35 + Int32.ofInt (1)) fun x38 =>
    f_X12_shard_L58 K124 n μ36 a30 x31 x32 x33 x34 x38)
    else
    (nm (x33 + Int32.ofInt (1)) fun x39 =>
    (nm (0 : Int32) fun x40 =>
    f_X12_shard_L82 (fun μ55 a56 x57 x58 x59 x60 x61 =>
    (nm (x61 + Int32.ofInt (1)) fun x62 =>
    f_X12_shard_L58 K124 n μ55 a56 x57 x58 x59 x60 x62)) FU μ36 a30 x31 x32 x39 x34 x35 x40))))))
set_option maxHeartbeats 4000000 in
set_option maxRecDepth 100000 in
theorem f_X12_shard_L58_ok {l : Launch} {G : GG} {K124 : Mm → Nat → Int32 → Int32 → Int32 → Int32 → Option (Int32 × Mm)} {r : Int32} {μ' : Mm} (n : Nat) (μ0 : Mm) (a30 : Nat) (x31 : Int32) (x32 : Int32) (x33 : Int32) (x34 : Int32) (x35 : Int32) (hf : f_X12_shard_L58 K124 n μ0 a30 x31 x32 x33 x34 x35 = some (r, μ')) (hK124 : ∀ (μ1 : Mm) (y0 : Nat) (y1 : Int32) (y2 : Int32) (y3 : Int32) (y4 : Int32), K124 μ1 y0 y1 y2 y3 y4 = some (r, μ') → Ev l G D_X12_shard yX12_shard cX12_shard 8 (some .int) 124 [(0, .ref y0), (1, .int y1), (2, .int y2), (3, .int y3), (4, .int y4)] [] μ1 (some (.int r)) μ') : Ev l G D_X12_shard yX12_shard cX12_shard 8 (some .int) 58 [(0, .ref a30), (1, .int x31), (2, .int x32), (3, .int x33), (4, .int x34), (5, .int x35)] [] μ0 (some (.int r)) μ' := by
  induction n generalizing μ0 a30 x31 x32 x33 x34 x35 with
  | zero => cases hf
  | succ n ih0 =>
    have ih : ∀ (μ0 : Mm) (a30 : Nat) (x31 : Int32) (x32 : Int32) (x33 : Int32) (x34 : Int32) (x35 : Int32), f_X12_shard_L58 K124 n μ0 a30 x31 x32 x33 x34 x35 = some (r, μ') → Ev l G D_X12_shard yX12_shard cX12_shard 8 (some .int) 58 [(0, .ref a30), (1, .int x31), (2, .int x32), (3, .int x33), (4, .int x34), (5, .int x35)] [] μ0 (some (.int r)) μ' := fun μ0 a30 x31 x32 x33 x34 x35 hf => ih0 μ0 a30 x31 x32 x33 x34 x35 hf
    rw [f_X12_shard_L58] at hf
    refine E_iload (pc := 58) dX12_shard_58 rfl ?_
    refine E_iconst (pc := 60) (v := (4 : Int32)) dX12_shard_60 (by decide) ?_
    refine E_icmp_gt (pc := 61) (tgt := 124) dX12_shard_61 (by decide) hf (fun hf => ?_) (fun hf => ?_)
    · refine Ev.sub [0, 1, 2, 3, 4] rfl ?_
      exact hK124 _ _ _ _ _ _ hf
    · refine E_aload_n (pc := 64) dX12_shard_64 rfl ?_
      refine E_iload_n (pc := 65) dX12_shard_65 rfl ?_
      refine E_iload (pc := 66) dX12_shard_66 rfl ?_
      refine E_iload (pc := 68) dX12_shard_68 rfl ?_
      refine E_Vi (pc := 70) (d2 := D_X12_doesFit) (ci := 12) [.int x31, .int x34, .int x35] dX12_shard_70 ml_X12_528 mf_X12_doesFit im_X12_doesFit rfl rfl rfl (by decide) (Nat.le_of_ble_eq_true rfl) (Nat.le_of_ble_eq_true rfl) rfl (fun _ _ h => f_X12_doesFit_ok h) hf (fun v37 μ36 hf => ?_)
      refine E_if_eq (pc := 73) (tgt := 118) dX12_shard_73 (by decide) hf (fun hf => ?_) (fun hf => ?_)
      · refine E_iinc (pc := 118) (ls' := fun x38 => [(5, .int x38), (0, .ref a30), (1, .int x31), (2, .int x32), (3, .int x33), (4, .int x34)]) dX12_shard_118 rfl (by decide) (fun _ => rfl) hf (fun x38 hf => ?_)
        refine E_goto (pc := 121) (tgt := 58) dX12_shard_121 (by decide) ?_
        refine Ev.sub [1, 2, 3, 4, 5, 0] rfl ?_
        exact ih _ _ _ _ _ _ _ hf
      · refine E_iinc (pc := 76) (ls' := fun x39 => [(3, .int x39), (0, .ref a30), (1, .int x31), (2, .int x32), (4, .int x34), (5, .int x35)]) dX12_shard_76 rfl (by decide) (fun _ => rfl) hf (fun x39 hf => ?_)
        refine E_iconst (pc := 79) (v := (0 : Int32)) dX12_shard_79 (by decide) ?_
        refine E_istore (pc := 80) (ls' := fun x40 => [(6, .int x40), (3, .int x39), (0, .ref a30), (1, .int x31), (2, .int x32), (4, .int x34), (5, .int x35)]) dX12_shard_80 (by decide) (fun _ => rfl) hf (fun x40 hf => ?_)
        refine Ev.sub [2, 3, 4, 1, 5, 6, 0] rfl ?_
        refine f_X12_shard_L82_ok  _ _ _ _ _ _ _ _ _ hf (fun μ55 a56 x57 x58 x59 x60 x61 hf => ?_)
        · refine E_iinc (pc := 118) (ls' := fun x62 => [(5, .int x62), (0, .ref a56), (1, .int x57), (2, .int x58), (3, .int x59), (4, .int x60)]) dX12_shard_118 rfl (by decide) (fun _ => rfl) hf (fun x62 hf => ?_)
          refine E_goto (pc := 121) (tgt := 58) dX12_shard_121 (by decide) ?_
          refine Ev.sub [1, 2, 3, 4, 5, 0] rfl ?_
          exact ih _ _ _ _ _ _ _ hf
def f_X12_shard_L46 (K130 : Mm → Nat → Int32 → Int32 → Option (Int32 × Mm)) : Nat → Mm → Nat → Int32 → Int32 → Int32 → Int32 → Option (Int32 × Mm)
  | 0, _, _, _, _, _, _ => none
  | n + 1, μ0, a22, x23, x24, x25, x26 =>
    ((ob μ0 a22 12).bind fun _ =>
    (bd (f_X12_cells μ0 a22) fun v28 μ27 =>
    (if v28 ≤ x26 then
    K130 μ27 a22 x24 x25
    else
    (nm (0 : Int32) fun x29 =>
    f_X12_shard_L58 (fun μ63 a64 x65 x66 x67 x68 =>
    (nm (x68 + Int32.ofInt (1)) fun x69 =>
    f_X12_shard_L46 K130 n μ63 a64 x65 x66 x67 x69)) FU μ27 a22 x23 x24 x25 x26 x29))))
set_option maxHeartbeats 4000000 in
set_option maxRecDepth 100000 in
theorem f_X12_shard_L46_ok {l : Launch} {G : GG} {K130 : Mm → Nat → Int32 → Int32 → Option (Int32 × Mm)} {r : Int32} {μ' : Mm} (n : Nat) (μ0 : Mm) (a22 : Nat) (x23 : Int32) (x24 : Int32) (x25 : Int32) (x26 : Int32) (hf : f_X12_shard_L46 K130 n μ0 a22 x23 x24 x25 x26 = some (r, μ')) (hK130 : ∀ (μ1 : Mm) (y0 : Nat) (y2 : Int32) (y3 : Int32), K130 μ1 y0 y2 y3 = some (r, μ') → Ev l G D_X12_shard yX12_shard cX12_shard 8 (some .int) 130 [(0, .ref y0), (2, .int y2), (3, .int y3)] [] μ1 (some (.int r)) μ') : Ev l G D_X12_shard yX12_shard cX12_shard 8 (some .int) 46 [(0, .ref a22), (1, .int x23), (2, .int x24), (3, .int x25), (4, .int x26)] [] μ0 (some (.int r)) μ' := by
  induction n generalizing μ0 a22 x23 x24 x25 x26 with
  | zero => cases hf
  | succ n ih0 =>
    have ih : ∀ (μ0 : Mm) (a22 : Nat) (x23 : Int32) (x24 : Int32) (x25 : Int32) (x26 : Int32), f_X12_shard_L46 K130 n μ0 a22 x23 x24 x25 x26 = some (r, μ') → Ev l G D_X12_shard yX12_shard cX12_shard 8 (some .int) 46 [(0, .ref a22), (1, .int x23), (2, .int x24), (3, .int x25), (4, .int x26)] [] μ0 (some (.int r)) μ' := fun μ0 a22 x23 x24 x25 x26 hf => ih0 μ0 a22 x23 x24 x25 x26 hf
    rw [f_X12_shard_L46] at hf
    refine E_iload (pc := 46) dX12_shard_46 rfl ?_
    refine E_aload_n (pc := 48) dX12_shard_48 rfl ?_
    refine E_Vi (pc := 49) (d2 := D_X12_cells) (ci := 12) [] dX12_shard_49 ml_X12_179 mf_X12_cells im_X12_cells rfl rfl rfl (by decide) (Nat.le_of_ble_eq_true rfl) (Nat.le_of_ble_eq_true rfl) rfl (fun _ _ h => f_X12_cells_ok h) hf (fun v28 μ27 hf => ?_)
    refine E_icmp_ge (pc := 52) (tgt := 130) dX12_shard_52 (by decide) hf (fun hf => ?_) (fun hf => ?_)
    · refine Ev.sub [0, 2, 3] rfl ?_
      exact hK130 _ _ _ _ hf
    · refine E_iconst (pc := 55) (v := (0 : Int32)) dX12_shard_55 (by decide) ?_
      refine E_istore (pc := 56) (ls' := fun x29 => [(5, .int x29), (0, .ref a22), (1, .int x23), (2, .int x24), (3, .int x25), (4, .int x26)]) dX12_shard_56 (by decide) (fun _ => rfl) hf (fun x29 hf => ?_)
      refine Ev.sub [1, 2, 3, 4, 5, 0] rfl ?_
      refine f_X12_shard_L58_ok  _ _ _ _ _ _ _ _ hf (fun μ63 a64 x65 x66 x67 x68 hf => ?_)
      · refine E_iinc (pc := 124) (ls' := fun x69 => [(4, .int x69), (0, .ref a64), (1, .int x65), (2, .int x66), (3, .int x67)]) dX12_shard_124 rfl (by decide) (fun _ => rfl) hf (fun x69 hf => ?_)
        refine E_goto (pc := 127) (tgt := 46) dX12_shard_127 (by decide) ?_
        refine Ev.sub [1, 2, 3, 4, 0] rfl ?_
        exact ih _ _ _ _ _ _ hf
def f_X12_shard_L141 (K224 : Mm → Int32 → Int32 → Int32 → Option (Int32 × Mm)) : Nat → Mm → Nat → Int32 → Int32 → Int32 → Int32 → Int32 → Option (Int32 × Mm)
  | 0, _, _, _, _, _, _, _ => none
  | n + 1, μ0, a77, x78, x79, x80, x81, x82 =>
    ((gR μ0 a77 12 1).bind fun v83 =>
    ((aI μ0 v83 0 (3 : Int32)).bind fun v84 =>
    (if v84 ≤ x82 then
    K224 μ0 x78 x80 x81
    else
    (if x79 ≤ 0 then
    K224 μ0 x78 x80 x81
    else
    ((gR μ0 a77 12 65).bind fun v85 =>
    ((aI μ0 v85 0 x82).bind fun v86 =>
    ((gR μ0 a77 12 65).bind fun v87 =>
    ((aI μ0 v87 0 x82).bind fun v88 =>
    (if v86 ≤ (x79 - v88) then
    ((gR μ0 a77 12 65).bind fun v89 =>
    ((aI μ0 v89 0 x82).bind fun v90 =>
    (nm (x79 - v90) fun x91 =>
    (if x80 = (-2 : Int32) then
    (nm x82 fun x92 =>
    (nm x91 fun x93 =>
    (nm (x82 + Int32.ofInt (1)) fun x94 =>
    f_X12_shard_L141 K224 n μ0 a77 x78 x79 x92 x93 x94)))
    else
    (if x81 ≤ x91 then
    (nm (x82 + Int32.ofInt (1)) fun x95 =>
    f_X12_shard_L141 K224 n μ0 a77 x78 x79 x80 x81 x95)
    else
    (nm x82 fun x96 =>
    (nm x91 fun x97 =>
    (nm (x82 + Int32.ofInt (1)) fun x98 =>
    f_X12_shard_L141 K224 n μ0 a77 x78 x79 x96 x97 x98))))))))
    else
    ((gR μ0 a77 12 65).bind fun v99 =>
    ((aI μ0 v99 0 x82).bind fun v100 =>
    (nm v100 fun x101 =>
    (if x80 = (-2 : Int32) then
    (nm x82 fun x102 =>
    (nm x101 fun x103 =>
    (nm (x82 + Int32.ofInt (1)) fun x104 =>
    f_X12_shard_L141 K224 n μ0 a77 x78 x79 x102 x103 x104)))
    else
    (if x81 ≤ x101 then
    (nm (x82 + Int32.ofInt (1)) fun x105 =>
    f_X12_shard_L141 K224 n μ0 a77 x78 x79 x80 x81 x105)
    else
    (nm x82 fun x106 =>
    (nm x101 fun x107 =>
    (nm (x82 + Int32.ofInt (1)) fun x108 =>
    f_X12_shard_L141 K224 n μ0 a77 x78 x79 x106 x107 x108)))))))))))))))))
set_option maxHeartbeats 4000000 in
set_option maxRecDepth 100000 in
theorem f_X12_shard_L141_ok {l : Launch} {G : GG} {K224 : Mm → Int32 → Int32 → Int32 → Option (Int32 × Mm)} {r : Int32} {μ' : Mm} (n : Nat) (μ0 : Mm) (a77 : Nat) (x78 : Int32) (x79 : Int32) (x80 : Int32) (x81 : Int32) (x82 : Int32) (hf : f_X12_shard_L141 K224 n μ0 a77 x78 x79 x80 x81 x82 = some (r, μ')) (hK224 : ∀ (μ1 : Mm) (y2 : Int32) (y4 : Int32) (y5 : Int32), K224 μ1 y2 y4 y5 = some (r, μ') → Ev l G D_X12_shard yX12_shard cX12_shard 8 (some .int) 224 [(2, .int y2), (4, .int y4), (5, .int y5)] [] μ1 (some (.int r)) μ') : Ev l G D_X12_shard yX12_shard cX12_shard 8 (some .int) 141 [(0, .ref a77), (2, .int x78), (3, .int x79), (4, .int x80), (5, .int x81), (6, .int x82)] [] μ0 (some (.int r)) μ' := by
  induction n generalizing μ0 a77 x78 x79 x80 x81 x82 with
  | zero => cases hf
  | succ n ih0 =>
    have ih : ∀ (μ0 : Mm) (a77 : Nat) (x78 : Int32) (x79 : Int32) (x80 : Int32) (x81 : Int32) (x82 : Int32), f_X12_shard_L141 K224 n μ0 a77 x78 x79 x80 x81 x82 = some (r, μ') → Ev l G D_X12_shard yX12_shard cX12_shard 8 (some .int) 141 [(0, .ref a77), (2, .int x78), (3, .int x79), (4, .int x80), (5, .int x81), (6, .int x82)] [] μ0 (some (.int r)) μ' := fun μ0 a77 x78 x79 x80 x81 x82 hf => ih0 μ0 a77 x78 x79 x80 x81 x82 hf
    rw [f_X12_shard_L141] at hf
    refine E_iload (pc := 141) dX12_shard_141 rfl ?_
    refine E_aload_n (pc := 143) dX12_shard_143 rfl ?_
    refine E_getR (pc := 144) dX12_shard_144 fl_X12_9 hf (fun v83 hf => ?_)
    refine E_iconst (pc := 147) (v := (3 : Int32)) dX12_shard_147 (by decide) ?_
    refine E_iald (pc := 148) dX12_shard_148 hf (fun v84 hf => ?_)
    refine E_icmp_ge (pc := 149) (tgt := 224) dX12_shard_149 (by decide) hf (fun hf => ?_) (fun hf => ?_)
    · refine Ev.sub [1, 3, 4] rfl ?_
      exact hK224 _ _ _ _ hf
    · refine E_iload_n (pc := 152) dX12_shard_152 rfl ?_
      refine E_if_le (pc := 153) (tgt := 224) dX12_shard_153 (by decide) hf (fun hf => ?_) (fun hf => ?_)
      · refine Ev.sub [1, 3, 4] rfl ?_
        exact hK224 _ _ _ _ hf
      · refine E_aload_n (pc := 156) dX12_shard_156 rfl ?_
        refine E_getR (pc := 157) dX12_shard_157 fl_X12_149 hf (fun v85 hf => ?_)
        refine E_iload (pc := 160) dX12_shard_160 rfl ?_
        refine E_iald (pc := 162) dX12_shard_162 hf (fun v86 hf => ?_)
        refine E_iload_n (pc := 163) dX12_shard_163 rfl ?_
        refine E_aload_n (pc := 164) dX12_shard_164 rfl ?_
        refine E_getR (pc := 165) dX12_shard_165 fl_X12_149 hf (fun v87 hf => ?_)
        refine E_iload (pc := 168) dX12_shard_168 rfl ?_
        refine E_iald (pc := 170) dX12_shard_170 hf (fun v88 hf => ?_)
        refine E_isub (pc := 171) dX12_shard_171 ?_
        refine E_icmp_le (pc := 172) (tgt := 185) dX12_shard_172 (by decide) hf (fun hf => ?_) (fun hf => ?_)
        · refine E_iload_n (pc := 185) dX12_shard_185 rfl ?_
          refine E_aload_n (pc := 186) dX12_shard_186 rfl ?_
          refine E_getR (pc := 187) dX12_shard_187 fl_X12_149 hf (fun v89 hf => ?_)
          refine E_iload (pc := 190) dX12_shard_190 rfl ?_
          refine E_iald (pc := 192) dX12_shard_192 hf (fun v90 hf => ?_)
          refine E_isub (pc := 193) dX12_shard_193 ?_
          refine E_istore (pc := 194) (ls' := fun x91 => [(7, .int x91), (0, .ref a77), (2, .int x78), (3, .int x79), (4, .int x80), (5, .int x81), (6, .int x82)]) dX12_shard_194 (by decide) (fun _ => rfl) hf (fun x91 hf => ?_)
          refine E_iload (pc := 196) dX12_shard_196 rfl ?_
          refine E_bipush (pc := 198) (v := (-2 : Int32)) dX12_shard_198 (by decide) ?_
          refine E_icmp_eq (pc := 200) (tgt := 210) dX12_shard_200 (by decide) hf (fun hf => ?_) (fun hf => ?_)
          · refine E_iload (pc := 210) dX12_shard_210 rfl ?_
            refine E_istore (pc := 212) (ls' := fun x92 => [(4, .int x92), (7, .int x91), (0, .ref a77), (2, .int x78), (3, .int x79), (5, .int x81), (6, .int x82)]) dX12_shard_212 (by decide) (fun _ => rfl) hf (fun x92 hf => ?_)
            refine E_iload (pc := 214) dX12_shard_214 rfl ?_
            refine E_istore (pc := 216) (ls' := fun x93 => [(5, .int x93), (4, .int x92), (7, .int x91), (0, .ref a77), (2, .int x78), (3, .int x79), (6, .int x82)]) dX12_shard_216 (by decide) (fun _ => rfl) hf (fun x93 hf => ?_)
            refine E_iinc (pc := 218) (ls' := fun x94 => [(6, .int x94), (5, .int x93), (4, .int x92), (7, .int x91), (0, .ref a77), (2, .int x78), (3, .int x79)]) dX12_shard_218 rfl (by decide) (fun _ => rfl) hf (fun x94 hf => ?_)
            refine E_goto (pc := 221) (tgt := 141) dX12_shard_221 (by decide) ?_
            refine Ev.sub [4, 5, 6, 2, 1, 0] rfl ?_
            exact ih _ _ _ _ _ _ _ hf
          · refine E_iload (pc := 203) dX12_shard_203 rfl ?_
            refine E_iload (pc := 205) dX12_shard_205 rfl ?_
            refine E_icmp_ge (pc := 207) (tgt := 218) dX12_shard_207 (by decide) hf (fun hf => ?_) (fun hf => ?_)
            · refine E_iinc (pc := 218) (ls' := fun x95 => [(6, .int x95), (7, .int x91), (0, .ref a77), (2, .int x78), (3, .int x79), (4, .int x80), (5, .int x81)]) dX12_shard_218 rfl (by decide) (fun _ => rfl) hf (fun x95 hf => ?_)
              refine E_goto (pc := 221) (tgt := 141) dX12_shard_221 (by decide) ?_
              refine Ev.sub [2, 3, 4, 5, 6, 0] rfl ?_
              exact ih _ _ _ _ _ _ _ hf
            · refine E_iload (pc := 210) dX12_shard_210 rfl ?_
              refine E_istore (pc := 212) (ls' := fun x96 => [(4, .int x96), (7, .int x91), (0, .ref a77), (2, .int x78), (3, .int x79), (5, .int x81), (6, .int x82)]) dX12_shard_212 (by decide) (fun _ => rfl) hf (fun x96 hf => ?_)
              refine E_iload (pc := 214) dX12_shard_214 rfl ?_
              refine E_istore (pc := 216) (ls' := fun x97 => [(5, .int x97), (4, .int x96), (7, .int x91), (0, .ref a77), (2, .int x78), (3, .int x79), (6, .int x82)]) dX12_shard_216 (by decide) (fun _ => rfl) hf (fun x97 hf => ?_)
              refine E_iinc (pc := 218) (ls' := fun x98 => [(6, .int x98), (5, .int x97), (4, .int x96), (7, .int x91), (0, .ref a77), (2, .int x78), (3, .int x79)]) dX12_shard_218 rfl (by decide) (fun _ => rfl) hf (fun x98 hf => ?_)
              refine E_goto (pc := 221) (tgt := 141) dX12_shard_221 (by decide) ?_
              refine Ev.sub [4, 5, 6, 2, 1, 0] rfl ?_
              exact ih _ _ _ _ _ _ _ hf
        · refine E_aload_n (pc := 175) dX12_shard_175 rfl ?_
          refine E_getR (pc := 176) dX12_shard_176 fl_X12_149 hf (fun v99 hf => ?_)
          refine E_iload (pc := 179) dX12_shard_179 rfl ?_
          refine E_iald (pc := 181) dX12_shard_181 hf (fun v100 hf => ?_)
          refine E_goto (pc := 182) (tgt := 194) dX12_shard_182 (by decide) ?_
          refine E_istore (pc := 194) (ls' := fun x101 => [(7, .int x101), (0, .ref a77), (2, .int x78), (3, .int x79), (4, .int x80), (5, .int x81), (6, .int x82)]) dX12_shard_194 (by decide) (fun _ => rfl) hf (fun x101 hf => ?_)
          refine E_iload (pc := 196) dX12_shard_196 rfl ?_
          refine E_bipush (pc := 198) (v := (-2 : Int32)) dX12_shard_198 (by decide) ?_
          refine E_icmp_eq (pc := 200) (tgt := 210) dX12_shard_200 (by decide) hf (fun hf => ?_) (fun hf => ?_)
          · refine E_iload (pc := 210) dX12_shard_210 rfl ?_
            refine E_istore (pc := 212) (ls' := fun x102 => [(4, .int x102), (7, .int x101), (0, .ref a77), (2, .int x78), (3, .int x79), (5, .int x81), (6, .int x82)]) dX12_shard_212 (by decide) (fun _ => rfl) hf (fun x102 hf => ?_)
            refine E_iload (pc := 214) dX12_shard_214 rfl ?_
            refine E_istore (pc := 216) (ls' := fun x103 => [(5, .int x103), (4, .int x102), (7, .int x101), (0, .ref a77), (2, .int x78), (3, .int x79), (6, .int x82)]) dX12_shard_216 (by decide) (fun _ => rfl) hf (fun x103 hf => ?_)
            refine E_iinc (pc := 218) (ls' := fun x104 => [(6, .int x104), (5, .int x103), (4, .int x102), (7, .int x101), (0, .ref a77), (2, .int x78), (3, .int x79)]) dX12_shard_218 rfl (by decide) (fun _ => rfl) hf (fun x104 hf => ?_)
            refine E_goto (pc := 221) (tgt := 141) dX12_shard_221 (by decide) ?_
            refine Ev.sub [4, 5, 6, 2, 1, 0] rfl ?_
            exact ih _ _ _ _ _ _ _ hf
          · refine E_iload (pc := 203) dX12_shard_203 rfl ?_
            refine E_iload (pc := 205) dX12_shard_205 rfl ?_
            refine E_icmp_ge (pc := 207) (tgt := 218) dX12_shard_207 (by decide) hf (fun hf => ?_) (fun hf => ?_)
            · refine E_iinc (pc := 218) (ls' := fun x105 => [(6, .int x105), (7, .int x101), (0, .ref a77), (2, .int x78), (3, .int x79), (4, .int x80), (5, .int x81)]) dX12_shard_218 rfl (by decide) (fun _ => rfl) hf (fun x105 hf => ?_)
              refine E_goto (pc := 221) (tgt := 141) dX12_shard_221 (by decide) ?_
              refine Ev.sub [2, 3, 4, 5, 6, 0] rfl ?_
              exact ih _ _ _ _ _ _ _ hf
            · refine E_iload (pc := 210) dX12_shard_210 rfl ?_
              refine E_istore (pc := 212) (ls' := fun x106 => [(4, .int x106), (7, .int x101), (0, .ref a77), (2, .int x78), (3, .int x79), (5, .int x81), (6, .int x82)]) dX12_shard_212 (by decide) (fun _ => rfl) hf (fun x106 hf => ?_)
              refine E_iload (pc := 214) dX12_shard_214 rfl ?_
              refine E_istore (pc := 216) (ls' := fun x107 => [(5, .int x107), (4, .int x106), (7, .int x101), (0, .ref a77), (2, .int x78), (3, .int x79), (6, .int x82)]) dX12_shard_216 (by decide) (fun _ => rfl) hf (fun x107 hf => ?_)
              refine E_iinc (pc := 218) (ls' := fun x108 => [(6, .int x108), (5, .int x107), (4, .int x106), (7, .int x101), (0, .ref a77), (2, .int x78), (3, .int x79)]) dX12_shard_218 rfl (by decide) (fun _ => rfl) hf (fun x108 hf => ?_)
              refine E_goto (pc := 221) (tgt := 141) dX12_shard_221 (by decide) ?_
              refine Ev.sub [4, 5, 6, 2, 1, 0] rfl ?_
              exact ih _ _ _ _ _ _ _ hf
set_option maxRecDepth 100000 in
def f_X12_shard (μ0 : Mm) (a1 : Nat) (x2 : Int32) (x3 : Int32) : Option (Int32 × Mm) :=
 ((ob μ0 a1 12).bind fun _ =>
    (bd (f_X12_isPerson μ0 a1 x2) fun v5 μ4 =>
    (if v5 = 0 then
    (some ((-1 : Int32), μ4))
    else
    (bd (f_X12_in μ4 (x3).toInt64 (0 : Int64) (1 : Int64)) fun v7 μ6 =>
    (if v7 = 0 then
    (some ((-1 : Int32), μ6))
    else
    (nm (0 : Int32) fun x8 =>
    f_X12_shard_L22 (fun μ16 a17 x18 x19 =>
    (nm (0 : Int32) fun x20 =>
    (nm (0 : Int32) fun x21 =>
    f_X12_shard_L46 (fun μ70 a71 x72 x73 =>
    (nm (-2 : Int32) fun x74 =>
    (nm (-2 : Int32) fun x75 =>
    (nm (0 : Int32) fun x76 =>
    f_X12_shard_L141 (fun μ109 x110 x111 x112 =>
    (if x110 = 0 then
    (some (x111, μ109))
    else
    (some (x112, μ109)))) FU μ70 a71 x72 x73 x74 x75 x76)))) FU μ16 a17 x18 x19 x20 x21))) FU μ6 a1 x2 x3 x8))))))
set_option maxHeartbeats 4000000 in
set_option maxRecDepth 100000 in
theorem f_X12_shard_ok {l : Launch} {G : GG} {μ0 : Mm} {a1 : Nat} {x2 : Int32} {x3 : Int32} {r : Int32} {μ' : Mm} (hf : f_X12_shard μ0 a1 x2 x3 = some (r, μ')) : EvM l G D_X12_shard yX12_shard cX12_shard 8 (some .int) [.ref a1, .int x2, .int x3] μ0 (some (.int r)) μ' := by
  show Ev l G D_X12_shard yX12_shard cX12_shard 8 (some .int) 0 [(0, .ref a1), (1, .int x2), (2, .int x3)] [] μ0 (some (.int r)) μ'
  unfold f_X12_shard at hf
  refine E_aload_n (pc := 0) dX12_shard_0 rfl ?_
  refine E_iload_n (pc := 1) dX12_shard_1 rfl ?_
  refine E_Vi (pc := 2) (d2 := D_X12_isPerson) (ci := 12) [.int x2] dX12_shard_2 ml_X12_428 mf_X12_isPerson im_X12_isPerson rfl rfl rfl (by decide) (Nat.le_of_ble_eq_true rfl) (Nat.le_of_ble_eq_true rfl) rfl (fun _ _ h => f_X12_isPerson_ok h) hf (fun v5 μ4 hf => ?_)
  refine E_if_eq (pc := 5) (tgt := 18) dX12_shard_5 (by decide) hf (fun hf => ?_) (fun hf => ?_)
  · refine E_iconst (pc := 18) (v := (-1 : Int32)) dX12_shard_18 (by decide) ?_
    exact E_iret (pc := 19) dX12_shard_19 rfl hf
  · refine E_iload_n (pc := 8) dX12_shard_8 rfl ?_
    refine E_i2l (pc := 9) dX12_shard_9 ?_
    refine E_lconst (pc := 10) (v := (0 : Int64)) dX12_shard_10 (by decide) ?_
    refine E_lconst (pc := 11) (v := (1 : Int64)) dX12_shard_11 (by decide) ?_
    refine E_Si (pc := 12) (d2 := D_X12_in) [.long (x3).toInt64, .long (0 : Int64), .long (1 : Int64)] dX12_shard_12 ml_X12_183 mf_X12_in st_X12_in rfl (by decide) (Nat.le_of_ble_eq_true rfl) (Nat.le_of_ble_eq_true rfl) rfl (fun _ _ h => f_X12_in_ok h) hf (fun v7 μ6 hf => ?_)
    refine E_if_ne (pc := 15) (tgt := 20) dX12_shard_15 (by decide) hf (fun hf => ?_) (fun hf => ?_)
    · refine E_iconst (pc := 18) (v := (-1 : Int32)) dX12_shard_18 (by decide) ?_
      exact E_iret (pc := 19) dX12_shard_19 rfl hf
    · refine E_iconst (pc := 20) (v := (0 : Int32)) dX12_shard_20 (by decide) ?_
      refine E_istore_n (pc := 21) (ls' := fun x8 => [(3, .int x8), (0, .ref a1), (1, .int x2), (2, .int x3)]) dX12_shard_21 (by decide) (fun _ => rfl) hf (fun x8 hf => ?_)
      refine Ev.sub [1, 2, 3, 0] rfl ?_
      refine f_X12_shard_L22_ok  _ _ _ _ _ _ hf (fun μ16 a17 x18 x19 hf => ?_)
      · refine E_iconst (pc := 41) (v := (0 : Int32)) dX12_shard_41 (by decide) ?_
        refine E_istore_n (pc := 42) (ls' := fun x20 => [(3, .int x20), (0, .ref a17), (1, .int x18), (2, .int x19)]) dX12_shard_42 (by decide) (fun _ => rfl) hf (fun x20 hf => ?_)
        refine E_iconst (pc := 43) (v := (0 : Int32)) dX12_shard_43 (by decide) ?_
        refine E_istore (pc := 44) (ls' := fun x21 => [(4, .int x21), (3, .int x20), (0, .ref a17), (1, .int x18), (2, .int x19)]) dX12_shard_44 (by decide) (fun _ => rfl) hf (fun x21 hf => ?_)
        refine Ev.sub [2, 3, 4, 1, 0] rfl ?_
        refine f_X12_shard_L46_ok  _ _ _ _ _ _ _ hf (fun μ70 a71 x72 x73 hf => ?_)
        · refine E_bipush (pc := 130) (v := (-2 : Int32)) dX12_shard_130 (by decide) ?_
          refine E_istore (pc := 132) (ls' := fun x74 => [(4, .int x74), (0, .ref a71), (2, .int x72), (3, .int x73)]) dX12_shard_132 (by decide) (fun _ => rfl) hf (fun x74 hf => ?_)
          refine E_bipush (pc := 134) (v := (-2 : Int32)) dX12_shard_134 (by decide) ?_
          refine E_istore (pc := 136) (ls' := fun x75 => [(5, .int x75), (4, .int x74), (0, .ref a71), (2, .int x72), (3, .int x73)]) dX12_shard_136 (by decide) (fun _ => rfl) hf (fun x75 hf => ?_)
          refine E_iconst (pc := 138) (v := (0 : Int32)) dX12_shard_138 (by decide) ?_
          refine E_istore (pc := 139) (ls' := fun x76 => [(6, .int x76), (5, .int x75), (4, .int x74), (0, .ref a71), (2, .int x72), (3, .int x73)]) dX12_shard_139 (by decide) (fun _ => rfl) hf (fun x76 hf => ?_)
          refine Ev.sub [3, 4, 5, 2, 1, 0] rfl ?_
          refine f_X12_shard_L141_ok  _ _ _ _ _ _ _ _ hf (fun μ109 x110 x111 x112 hf => ?_)
          · refine E_iload_n (pc := 224) dX12_shard_224 rfl ?_
            refine E_if_ne (pc := 225) (tgt := 233) dX12_shard_225 (by decide) hf (fun hf => ?_) (fun hf => ?_)
            · refine E_iload (pc := 228) dX12_shard_228 rfl ?_
              refine E_goto (pc := 230) (tgt := 235) dX12_shard_230 (by decide) ?_
              exact E_iret (pc := 235) dX12_shard_235 rfl hf
            · refine E_iload (pc := 233) dX12_shard_233 rfl ?_
              exact E_iret (pc := 235) dX12_shard_235 rfl hf
theorem dX12_isOnFall_0 : decode cX12_isOnFall 0 = .ok (.aload_n 0, 1) := by decide +kernel
theorem dX12_isOnFall_1 : decode cX12_isOnFall 1 = .ok (.iload_n 2, 1) := by decide +kernel
theorem dX12_isOnFall_2 : decode cX12_isOnFall 2 = .ok (.invokevirtual 412, 3) := by decide +kernel
theorem dX12_isOnFall_5 : decode cX12_isOnFall 5 = .ok (.istore_n 3, 1) := by decide +kernel
theorem dX12_isOnFall_6 : decode cX12_isOnFall 6 = .ok (.iload_n 3, 1) := by decide +kernel
theorem dX12_isOnFall_7 : decode cX12_isOnFall 7 = .ok (.iconst (-1), 1) := by decide +kernel
theorem dX12_isOnFall_8 : decode cX12_isOnFall 8 = .ok (.if_icmp .eq 19, 3) := by decide +kernel
theorem dX12_isOnFall_11 : decode cX12_isOnFall 11 = .ok (.iload_n 3, 1) := by decide +kernel
theorem dX12_isOnFall_12 : decode cX12_isOnFall 12 = .ok (.iload_n 1, 1) := by decide +kernel
theorem dX12_isOnFall_13 : decode cX12_isOnFall 13 = .ok (.if_icmp .ne 5, 3) := by decide +kernel
theorem dX12_isOnFall_16 : decode cX12_isOnFall 16 = .ok (.iconst 1, 1) := by decide +kernel
theorem dX12_isOnFall_17 : decode cX12_isOnFall 17 = .ok (.ireturn, 1) := by decide +kernel
theorem dX12_isOnFall_18 : decode cX12_isOnFall 18 = .ok (.aload_n 0, 1) := by decide +kernel
theorem dX12_isOnFall_19 : decode cX12_isOnFall 19 = .ok (.iload_n 3, 1) := by decide +kernel
theorem dX12_isOnFall_20 : decode cX12_isOnFall 20 = .ok (.invokevirtual 412, 3) := by decide +kernel
theorem dX12_isOnFall_23 : decode cX12_isOnFall 23 = .ok (.istore_n 3, 1) := by decide +kernel
theorem dX12_isOnFall_24 : decode cX12_isOnFall 24 = .ok (.goto (-18), 3) := by decide +kernel
theorem dX12_isOnFall_27 : decode cX12_isOnFall 27 = .ok (.iconst 0, 1) := by decide +kernel
theorem dX12_isOnFall_28 : decode cX12_isOnFall 28 = .ok (.ireturn, 1) := by decide +kernel
abbrev D_X12_isOnFall : Nat := 5
def f_X12_isOnFall_L6 (K16 : Mm → Option (Int32 × Mm)) (K27 : Mm → Option (Int32 × Mm)) : Nat → Mm → Nat → Int32 → Int32 → Option (Int32 × Mm)
  | 0, _, _, _, _ => none
  | n + 1, μ0, a7, x8, x9 =>
    (if x9 = (-1 : Int32) then
    K27 μ0
    else
    (if x9 = x8 then
    K16 μ0
    else
    ((ob μ0 a7 12).bind fun _ =>
    (bd (f_X12_leadsTo μ0 a7 x9) fun v11 μ10 =>
    (nm v11 fun x12 =>
    f_X12_isOnFall_L6 K16 K27 n μ10 a7 x8 x12)))))
set_option maxHeartbeats 4000000 in
set_option maxRecDepth 100000 in
theorem f_X12_isOnFall_L6_ok {l : Launch} {G : GG} {K16 : Mm → Option (Int32 × Mm)} {K27 : Mm → Option (Int32 × Mm)} {r : Int32} {μ' : Mm} (n : Nat) (μ0 : Mm) (a7 : Nat) (x8 : Int32) (x9 : Int32) (hf : f_X12_isOnFall_L6 K16 K27 n μ0 a7 x8 x9 = some (r, μ')) (hK16 : ∀ (μ1 : Mm), K16 μ1  = some (r, μ') → Ev l G D_X12_isOnFall yX12_isOnFall cX12_isOnFall 4 (some .boolean) 16 [] [] μ1 (some (.int r)) μ') (hK27 : ∀ (μ1 : Mm), K27 μ1  = some (r, μ') → Ev l G D_X12_isOnFall yX12_isOnFall cX12_isOnFall 4 (some .boolean) 27 [] [] μ1 (some (.int r)) μ') : Ev l G D_X12_isOnFall yX12_isOnFall cX12_isOnFall 4 (some .boolean) 6 [(0, .ref a7), (1, .int x8), (3, .int x9)] [] μ0 (some (.int r)) μ' := by
  induction n generalizing μ0 a7 x8 x9 with
  | zero => cases hf
  | succ n ih0 =>
    have ih : ∀ (μ0 : Mm) (a7 : Nat) (x8 : Int32) (x9 : Int32), f_X12_isOnFall_L6 K16 K27 n μ0 a7 x8 x9 = some (r, μ') → Ev l G D_X12_isOnFall yX12_isOnFall cX12_isOnFall 4 (some .boolean) 6 [(0, .ref a7), (1, .int x8), (3, .int x9)] [] μ0 (some (.int r)) μ' := fun μ0 a7 x8 x9 hf => ih0 μ0 a7 x8 x9 hf
    rw [f_X12_isOnFall_L6] at hf
    refine E_iload_n (pc := 6) dX12_isOnFall_6 rfl ?_
    refine E_iconst (pc := 7) (v := (-1 : Int32)) dX12_isOnFall_7 (by decide) ?_
    refine E_icmp_eq (pc := 8) (tgt := 27) dX12_isOnFall_8 (by decide) hf (fun hf => ?_) (fun hf => ?_)
    · refine Ev.sub [] rfl ?_
      exact hK27 _ hf
    · refine E_iload_n (pc := 11) dX12_isOnFall_11 rfl ?_
      refine E_iload_n (pc := 12) dX12_isOnFall_12 rfl ?_
      refine E_icmp_ne (pc := 13) (tgt := 18) dX12_isOnFall_13 (by decide) hf (fun hf => ?_) (fun hf => ?_)
      · refine Ev.sub [] rfl ?_
        exact hK16 _ hf
      · refine E_aload_n (pc := 18) dX12_isOnFall_18 rfl ?_
        refine E_iload_n (pc := 19) dX12_isOnFall_19 rfl ?_
        refine E_Vi (pc := 20) (d2 := D_X12_leadsTo) (ci := 12) [.int x9] dX12_isOnFall_20 ml_X12_412 mf_X12_leadsTo im_X12_leadsTo rfl rfl rfl (by decide) (Nat.le_of_ble_eq_true rfl) (Nat.le_of_ble_eq_true rfl) rfl (fun _ _ h => f_X12_leadsTo_ok h) hf (fun v11 μ10 hf => ?_)
        refine E_istore_n (pc := 23) (ls' := fun x12 => [(3, .int x12), (0, .ref a7), (1, .int x8)]) dX12_isOnFall_23 (by decide) (fun _ => rfl) hf (fun x12 hf => ?_)
        refine E_goto (pc := 24) (tgt := 6) dX12_isOnFall_24 (by decide) ?_
        refine Ev.sub [1, 2, 0] rfl ?_
        exact ih _ _ _ _ hf
set_option maxRecDepth 100000 in
def f_X12_isOnFall (μ0 : Mm) (a1 : Nat) (x2 : Int32) (x3 : Int32) : Option (Int32 × Mm) :=
 ((ob μ0 a1 12).bind fun _ =>
    (bd (f_X12_leadsTo μ0 a1 x3) fun v5 μ4 =>
    (nm v5 fun x6 =>
    f_X12_isOnFall_L6 (fun μ13 =>
    (if (1 : Int32) = 0 ∨ (1 : Int32) = 1 then some ((1 : Int32), μ13) else none)) (fun μ14 =>
    (if (0 : Int32) = 0 ∨ (0 : Int32) = 1 then some ((0 : Int32), μ14) else none)) FU μ4 a1 x2 x6)))
set_option maxHeartbeats 4000000 in
set_option maxRecDepth 100000 in
theorem f_X12_isOnFall_ok {l : Launch} {G : GG} {μ0 : Mm} {a1 : Nat} {x2 : Int32} {x3 : Int32} {r : Int32} {μ' : Mm} (hf : f_X12_isOnFall μ0 a1 x2 x3 = some (r, μ')) : EvM l G D_X12_isOnFall yX12_isOnFall cX12_isOnFall 4 (some .boolean) [.ref a1, .int x2, .int x3] μ0 (some (.int r)) μ' := by
  show Ev l G D_X12_isOnFall yX12_isOnFall cX12_isOnFall 4 (some .boolean) 0 [(0, .ref a1), (1, .int x2), (2, .int x3)] [] μ0 (some (.int r)) μ'
  unfold f_X12_isOnFall at hf
  refine E_aload_n (pc := 0) dX12_isOnFall_0 rfl ?_
  refine E_iload_n (pc := 1) dX12_isOnFall_1 rfl ?_
  refine E_Vi (pc := 2) (d2 := D_X12_leadsTo) (ci := 12) [.int x3] dX12_isOnFall_2 ml_X12_412 mf_X12_leadsTo im_X12_leadsTo rfl rfl rfl (by decide) (Nat.le_of_ble_eq_true rfl) (Nat.le_of_ble_eq_true rfl) rfl (fun _ _ h => f_X12_leadsTo_ok h) hf (fun v5 μ4 hf => ?_)
  refine E_istore_n (pc := 5) (ls' := fun x6 => [(3, .int x6), (0, .ref a1), (1, .int x2), (2, .int x3)]) dX12_isOnFall_5 (by decide) (fun _ => rfl) hf (fun x6 hf => ?_)
  refine Ev.sub [1, 2, 0] rfl ?_
  refine f_X12_isOnFall_L6_ok  _ _ _ _ _ hf (fun μ13 hf => ?_) (fun μ14 hf => ?_)
  · refine E_iconst (pc := 16) (v := (1 : Int32)) dX12_isOnFall_16 (by decide) ?_
    exact E_zret (pc := 17) dX12_isOnFall_17 rfl hf
  · refine E_iconst (pc := 27) (v := (0 : Int32)) dX12_isOnFall_27 (by decide) ?_
    exact E_zret (pc := 28) dX12_isOnFall_28 rfl hf
theorem dX12_areApart_0 : decode cX12_areApart 0 = .ok (.aload_n 0, 1) := by decide +kernel
theorem dX12_areApart_1 : decode cX12_areApart 1 = .ok (.iload_n 1, 1) := by decide +kernel
theorem dX12_areApart_2 : decode cX12_areApart 2 = .ok (.iload_n 2, 1) := by decide +kernel
theorem dX12_areApart_3 : decode cX12_areApart 3 = .ok (.invokevirtual 531, 3) := by decide +kernel
theorem dX12_areApart_6 : decode cX12_areApart 6 = .ok (.ifCond .ne 16, 3) := by decide +kernel
theorem dX12_areApart_9 : decode cX12_areApart 9 = .ok (.aload_n 0, 1) := by decide +kernel
theorem dX12_areApart_10 : decode cX12_areApart 10 = .ok (.iload_n 2, 1) := by decide +kernel
theorem dX12_areApart_11 : decode cX12_areApart 11 = .ok (.iload_n 1, 1) := by decide +kernel
theorem dX12_areApart_12 : decode cX12_areApart 12 = .ok (.invokevirtual 531, 3) := by decide +kernel
theorem dX12_areApart_15 : decode cX12_areApart 15 = .ok (.ifCond .ne 7, 3) := by decide +kernel
theorem dX12_areApart_18 : decode cX12_areApart 18 = .ok (.iconst 1, 1) := by decide +kernel
theorem dX12_areApart_19 : decode cX12_areApart 19 = .ok (.goto 4, 3) := by decide +kernel
theorem dX12_areApart_22 : decode cX12_areApart 22 = .ok (.iconst 0, 1) := by decide +kernel
theorem dX12_areApart_23 : decode cX12_areApart 23 = .ok (.ireturn, 1) := by decide +kernel
abbrev D_X12_areApart : Nat := 6
set_option maxRecDepth 100000 in
def f_X12_areApart (μ0 : Mm) (a1 : Nat) (x2 : Int32) (x3 : Int32) : Option (Int32 × Mm) :=
 ((ob μ0 a1 12).bind fun _ =>
    (bd (f_X12_isOnFall μ0 a1 x2 x3) fun v5 μ4 =>
    (if v5 = 0 then
    ((ob μ4 a1 12).bind fun _ =>
    (bd (f_X12_isOnFall μ4 a1 x3 x2) fun v7 μ6 =>
    (if v7 = 0 then
    (if (1 : Int32) = 0 ∨ (1 : Int32) = 1 then some ((1 : Int32), μ6) else none)
    else
    (if (0 : Int32) = 0 ∨ (0 : Int32) = 1 then some ((0 : Int32), μ6) else none))))
    else
    (if (0 : Int32) = 0 ∨ (0 : Int32) = 1 then some ((0 : Int32), μ4) else none))))
set_option maxHeartbeats 4000000 in
set_option maxRecDepth 100000 in
theorem f_X12_areApart_ok {l : Launch} {G : GG} {μ0 : Mm} {a1 : Nat} {x2 : Int32} {x3 : Int32} {r : Int32} {μ' : Mm} (hf : f_X12_areApart μ0 a1 x2 x3 = some (r, μ')) : EvM l G D_X12_areApart yX12_areApart cX12_areApart 3 (some .boolean) [.ref a1, .int x2, .int x3] μ0 (some (.int r)) μ' := by
  show Ev l G D_X12_areApart yX12_areApart cX12_areApart 3 (some .boolean) 0 [(0, .ref a1), (1, .int x2), (2, .int x3)] [] μ0 (some (.int r)) μ'
  unfold f_X12_areApart at hf
  refine E_aload_n (pc := 0) dX12_areApart_0 rfl ?_
  refine E_iload_n (pc := 1) dX12_areApart_1 rfl ?_
  refine E_iload_n (pc := 2) dX12_areApart_2 rfl ?_
  refine E_Vi (pc := 3) (d2 := D_X12_isOnFall) (ci := 12) [.int x2, .int x3] dX12_areApart_3 ml_X12_531 mf_X12_isOnFall im_X12_isOnFall rfl rfl rfl (by decide) (Nat.le_of_ble_eq_true rfl) (Nat.le_of_ble_eq_true rfl) rfl (fun _ _ h => f_X12_isOnFall_ok h) hf (fun v5 μ4 hf => ?_)
  refine E_if_ne (pc := 6) (tgt := 22) dX12_areApart_6 (by decide) hf (fun hf => ?_) (fun hf => ?_)
  · refine E_aload_n (pc := 9) dX12_areApart_9 rfl ?_
    refine E_iload_n (pc := 10) dX12_areApart_10 rfl ?_
    refine E_iload_n (pc := 11) dX12_areApart_11 rfl ?_
    refine E_Vi (pc := 12) (d2 := D_X12_isOnFall) (ci := 12) [.int x3, .int x2] dX12_areApart_12 ml_X12_531 mf_X12_isOnFall im_X12_isOnFall rfl rfl rfl (by decide) (Nat.le_of_ble_eq_true rfl) (Nat.le_of_ble_eq_true rfl) rfl (fun _ _ h => f_X12_isOnFall_ok h) hf (fun v7 μ6 hf => ?_)
    refine E_if_ne (pc := 15) (tgt := 22) dX12_areApart_15 (by decide) hf (fun hf => ?_) (fun hf => ?_)
    · refine E_iconst (pc := 18) (v := (1 : Int32)) dX12_areApart_18 (by decide) ?_
      refine E_goto (pc := 19) (tgt := 23) dX12_areApart_19 (by decide) ?_
      exact E_zret (pc := 23) dX12_areApart_23 rfl hf
    · refine E_iconst (pc := 22) (v := (0 : Int32)) dX12_areApart_22 (by decide) ?_
      exact E_zret (pc := 23) dX12_areApart_23 rfl hf
  · refine E_iconst (pc := 22) (v := (0 : Int32)) dX12_areApart_22 (by decide) ?_
    exact E_zret (pc := 23) dX12_areApart_23 rfl hf
