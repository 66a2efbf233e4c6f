theorem dX3_init_0 : decode cX3_init 0 = .ok (.aload_n 0, 1) := by decide +kernel
theorem dX3_init_1 : decode cX3_init 1 = .ok (.invokespecial 3, 3) := by decide +kernel
theorem dX3_init_4 : decode cX3_init 4 = .ok (.aload_n 0, 1) := by decide +kernel
theorem dX3_init_5 : decode cX3_init 5 = .ok (.iconst 0, 1) := by decide +kernel
theorem dX3_init_6 : decode cX3_init 6 = .ok (.putfield 9, 3) := by decide +kernel
theorem dX3_init_9 : decode cX3_init 9 = .ok (.aload_n 0, 1) := by decide +kernel
theorem dX3_init_10 : decode cX3_init 10 = .ok (.bipush 8, 2) := by decide +kernel
theorem dX3_init_12 : decode cX3_init 12 = .ok (.newarray .int, 2) := by decide +kernel
theorem dX3_init_14 : decode cX3_init 14 = .ok (.putfield 15, 3) := by decide +kernel
theorem dX3_init_17 : decode cX3_init 17 = .ok (.aload_n 0, 1) := by decide +kernel
theorem dX3_init_18 : decode cX3_init 18 = .ok (.iconst 0, 1) := by decide +kernel
theorem dX3_init_19 : decode cX3_init 19 = .ok (.putfield 19, 3) := by decide +kernel
theorem dX3_init_22 : decode cX3_init 22 = .ok (.aload_n 0, 1) := by decide +kernel
theorem dX3_init_23 : decode cX3_init 23 = .ok (.bipush 10, 2) := by decide +kernel
theorem dX3_init_25 : decode cX3_init 25 = .ok (.newarray .int, 2) := by decide +kernel
theorem dX3_init_27 : decode cX3_init 27 = .ok (.putfield 22, 3) := by decide +kernel
theorem dX3_init_30 : decode cX3_init 30 = .ok (.aload_n 0, 1) := by decide +kernel
theorem dX3_init_31 : decode cX3_init 31 = .ok (.bipush 10, 2) := by decide +kernel
theorem dX3_init_33 : decode cX3_init 33 = .ok (.newarray .int, 2) := by decide +kernel
theorem dX3_init_35 : decode cX3_init 35 = .ok (.putfield 25, 3) := by decide +kernel
theorem dX3_init_38 : decode cX3_init 38 = .ok (.aload_n 0, 1) := by decide +kernel
theorem dX3_init_39 : decode cX3_init 39 = .ok (.bipush 8, 2) := by decide +kernel
theorem dX3_init_41 : decode cX3_init 41 = .ok (.newarray .int, 2) := by decide +kernel
theorem dX3_init_43 : decode cX3_init 43 = .ok (.putfield 28, 3) := by decide +kernel
theorem dX3_init_46 : decode cX3_init 46 = .ok (.aload_n 0, 1) := by decide +kernel
theorem dX3_init_47 : decode cX3_init 47 = .ok (.bipush 8, 2) := by decide +kernel
theorem dX3_init_49 : decode cX3_init 49 = .ok (.newarray .int, 2) := by decide +kernel
theorem dX3_init_51 : decode cX3_init 51 = .ok (.putfield 31, 3) := by decide +kernel
theorem dX3_init_54 : decode cX3_init 54 = .ok (.aload_n 0, 1) := by decide +kernel
theorem dX3_init_55 : decode cX3_init 55 = .ok (.iconst 0, 1) := by decide +kernel
theorem dX3_init_56 : decode cX3_init 56 = .ok (.putfield 34, 3) := by decide +kernel
theorem dX3_init_59 : decode cX3_init 59 = .ok (.return_, 1) := by decide +kernel
abbrev D_X3_init : Nat := 1
set_option maxRecDepth 100000 in
def f_X3_init (μ0 : Mm) (a1 : Nat) : Option Mm :=
 ((pV μ0 a1 3 0 (.int (0 : Int32))).bind fun μ2 =>
    (bd (nA μ2 0 (8 : Int32)) fun a3 μ4 =>
    ((pV μ4 a1 3 1 (.ref a3)).bind fun μ5 =>
    ((pV μ5 a1 3 2 (.int (0 : Int32))).bind fun μ6 =>
    (bd (nA μ6 0 (10 : Int32)) fun a7 μ8 =>
    ((pV μ8 a1 3 3 (.ref a7)).bind fun μ9 =>
    (bd (nA μ9 0 (10 : Int32)) fun a10 μ11 =>
    ((pV μ11 a1 3 4 (.ref a10)).bind fun μ12 =>
    (bd (nA μ12 0 (8 : Int32)) fun a13 μ14 =>
    ((pV μ14 a1 3 5 (.ref a13)).bind fun μ15 =>
    (bd (nA μ15 0 (8 : Int32)) fun a16 μ17 =>
    ((pV μ17 a1 3 6 (.ref a16)).bind fun μ18 =>
    ((pV μ18 a1 3 7 (.int (0 : Int32))).bind fun μ19 =>
    (some μ19))))))))))))))
set_option maxHeartbeats 4000000 in
set_option maxRecDepth 100000 in
theorem f_X3_init_ok {l : Launch} {G : GG} {μ0 : Mm} {a1 : Nat} {μ' : Mm} (hf : f_X3_init μ0 a1 = some μ') : EvM l G D_X3_init yX3_init cX3_init 1 none [.ref a1] μ0 none μ' := by
  show Ev l G D_X3_init yX3_init cX3_init 1 none 0 [(0, .ref a1)] [] μ0 none μ'
  unfold f_X3_init at hf
  refine E_aload_n (pc := 0) dX3_init_0 rfl ?_
  refine E_objI (pc := 1) dX3_init_1 (by decide) (Nat.le_of_ble_eq_true rfl) ml_X3_3 ?_
  refine E_aload_n (pc := 4) dX3_init_4 rfl ?_
  refine E_iconst (pc := 5) (v := (0 : Int32)) dX3_init_5 (by decide) ?_
  refine E_putI (pc := 6) dX3_init_6 (pl_X3_9 _) hf (fun μ2 hf => ?_)
  refine E_aload_n (pc := 9) dX3_init_9 rfl ?_
  refine E_bipush (pc := 10) (v := (8 : Int32)) dX3_init_10 (by decide) ?_
  refine E_newa2 (pc := 12) dX3_init_12 (by decide) ac_int hf (fun a3 μ4 hf => ?_)
  refine E_putA (pc := 14) dX3_init_14 pl_X3_15 hf (fun μ5 hf => ?_)
  refine E_aload_n (pc := 17) dX3_init_17 rfl ?_
  refine E_iconst (pc := 18) (v := (0 : Int32)) dX3_init_18 (by decide) ?_
  refine E_putI (pc := 19) dX3_init_19 (pl_X3_19 _) hf (fun μ6 hf => ?_)
  refine E_aload_n (pc := 22) dX3_init_22 rfl ?_
  refine E_bipush (pc := 23) (v := (10 : Int32)) dX3_init_23 (by decide) ?_
  refine E_newa2 (pc := 25) dX3_init_25 (by decide) ac_int hf (fun a7 μ8 hf => ?_)
  refine E_putA (pc := 27) dX3_init_27 pl_X3_22 hf (fun μ9 hf => ?_)
  refine E_aload_n (pc := 30) dX3_init_30 rfl ?_
  refine E_bipush (pc := 31) (v := (10 : Int32)) dX3_init_31 (by decide) ?_
  refine E_newa2 (pc := 33) dX3_init_33 (by decide) ac_int hf (fun a10 μ11 hf => ?_)
  refine E_putA (pc := 35) dX3_init_35 pl_X3_25 hf (fun μ12 hf => ?_)
  refine E_aload_n (pc := 38) dX3_init_38 rfl ?_
  refine E_bipush (pc := 39) (v := (8 : Int32)) dX3_init_39 (by decide) ?_
  refine E_newa2 (pc := 41) dX3_init_41 (by decide) ac_int hf (fun a13 μ14 hf => ?_)
  refine E_putA (pc := 43) dX3_init_43 pl_X3_28 hf (fun μ15 hf => ?_)
  refine E_aload_n (pc := 46) dX3_init_46 rfl ?_
  refine E_bipush (pc := 47) (v := (8 : Int32)) dX3_init_47 (by decide) ?_
  refine E_newa2 (pc := 49) dX3_init_49 (by decide) ac_int hf (fun a16 μ17 hf => ?_)
  refine E_putA (pc := 51) dX3_init_51 pl_X3_31 hf (fun μ18 hf => ?_)
  refine E_aload_n (pc := 54) dX3_init_54 rfl ?_
  refine E_iconst (pc := 55) (v := (0 : Int32)) dX3_init_55 (by decide) ?_
  refine E_putI (pc := 56) dX3_init_56 (pl_X3_34 _) hf (fun μ19 hf => ?_)
  exact E_vret (pc := 59) dX3_init_59 rfl hf
theorem dX3_startOf_0 : decode cX3_startOf 0 = .ok (.iconst 0, 1) := by decide +kernel
theorem dX3_startOf_1 : decode cX3_startOf 1 = .ok (.istore_n 2, 1) := by decide +kernel
theorem dX3_startOf_2 : decode cX3_startOf 2 = .ok (.iconst 0, 1) := by decide +kernel
theorem dX3_startOf_3 : decode cX3_startOf 3 = .ok (.istore_n 3, 1) := by decide +kernel
theorem dX3_startOf_4 : decode cX3_startOf 4 = .ok (.iload_n 3, 1) := by decide +kernel
theorem dX3_startOf_5 : decode cX3_startOf 5 = .ok (.aload_n 0, 1) := by decide +kernel
theorem dX3_startOf_6 : decode cX3_startOf 6 = .ok (.getfield 19, 3) := by decide +kernel
theorem dX3_startOf_9 : decode cX3_startOf 9 = .ok (.if_icmp .ge 52, 3) := by decide +kernel
theorem dX3_startOf_12 : decode cX3_startOf 12 = .ok (.aload_n 0, 1) := by decide +kernel
theorem dX3_startOf_13 : decode cX3_startOf 13 = .ok (.getfield 22, 3) := by decide +kernel
theorem dX3_startOf_16 : decode cX3_startOf 16 = .ok (.iload_n 3, 1) := by decide +kernel
theorem dX3_startOf_17 : decode cX3_startOf 17 = .ok (.iaload, 1) := by decide +kernel
theorem dX3_startOf_18 : decode cX3_startOf 18 = .ok (.iload_n 1, 1) := by decide +kernel
theorem dX3_startOf_19 : decode cX3_startOf 19 = .ok (.if_icmp .ne 36, 3) := by decide +kernel
theorem dX3_startOf_22 : decode cX3_startOf 22 = .ok (.aload_n 0, 1) := by decide +kernel
theorem dX3_startOf_23 : decode cX3_startOf 23 = .ok (.getfield 28, 3) := by decide +kernel
theorem dX3_startOf_26 : decode cX3_startOf 26 = .ok (.aload_n 0, 1) := by decide +kernel
theorem dX3_startOf_27 : decode cX3_startOf 27 = .ok (.getfield 25, 3) := by decide +kernel
theorem dX3_startOf_30 : decode cX3_startOf 30 = .ok (.iload_n 3, 1) := by decide +kernel
theorem dX3_startOf_31 : decode cX3_startOf 31 = .ok (.iaload, 1) := by decide +kernel
theorem dX3_startOf_32 : decode cX3_startOf 32 = .ok (.iaload, 1) := by decide +kernel
theorem dX3_startOf_33 : decode cX3_startOf 33 = .ok (.iconst (-1), 1) := by decide +kernel
theorem dX3_startOf_34 : decode cX3_startOf 34 = .ok (.if_icmp .ne 5, 3) := by decide +kernel
theorem dX3_startOf_37 : decode cX3_startOf 37 = .ok (.iconst (-1), 1) := by decide +kernel
theorem dX3_startOf_38 : decode cX3_startOf 38 = .ok (.ireturn, 1) := by decide +kernel
theorem dX3_startOf_39 : decode cX3_startOf 39 = .ok (.iload_n 2, 1) := by decide +kernel
theorem dX3_startOf_40 : decode cX3_startOf 40 = .ok (.aload_n 0, 1) := by decide +kernel
theorem dX3_startOf_41 : decode cX3_startOf 41 = .ok (.getfield 28, 3) := by decide +kernel
theorem dX3_startOf_44 : decode cX3_startOf 44 = .ok (.aload_n 0, 1) := by decide +kernel
theorem dX3_startOf_45 : decode cX3_startOf 45 = .ok (.getfield 25, 3) := by decide +kernel
theorem dX3_startOf_48 : decode cX3_startOf 48 = .ok (.iload_n 3, 1) := by decide +kernel
theorem dX3_startOf_49 : decode cX3_startOf 49 = .ok (.iaload, 1) := by decide +kernel
theorem dX3_startOf_50 : decode cX3_startOf 50 = .ok (.iaload, 1) := by decide +kernel
theorem dX3_startOf_51 : decode cX3_startOf 51 = .ok (.invokestatic 51, 3) := by decide +kernel
theorem dX3_startOf_54 : decode cX3_startOf 54 = .ok (.istore_n 2, 1) := by decide +kernel
theorem dX3_startOf_55 : decode cX3_startOf 55 = .ok (.iinc 3 1, 3) := by decide +kernel
theorem dX3_startOf_58 : decode cX3_startOf 58 = .ok (.goto (-54), 3) := by decide +kernel
theorem dX3_startOf_61 : decode cX3_startOf 61 = .ok (.iload_n 2, 1) := by decide +kernel
theorem dX3_startOf_62 : decode cX3_startOf 62 = .ok (.ireturn, 1) := by decide +kernel
abbrev D_X3_startOf : Nat := 1
def f_X3_startOf_L4 (K37 : Mm → Option (Int32 × Mm)) (K61 : Mm → Int32 → Option (Int32 × Mm)) : Nat → Mm → Nat → Int32 → Int32 → Int32 → Option (Int32 × Mm)
  | 0, _, _, _, _, _ => none
  | n + 1, μ0, a5, x6, x7, x8 =>
    ((gI μ0 a5 3 2).bind fun v9 =>
    (if v9 ≤ x8 then
    K61 μ0 x7
    else
    ((gR μ0 a5 3 3).bind fun v10 =>
    ((aI μ0 v10 0 x8).bind fun v11 =>
    (if v11 = x6 then
    ((gR μ0 a5 3 5).bind fun v12 =>
    ((gR μ0 a5 3 4).bind fun v13 =>
    ((aI μ0 v13 0 x8).bind fun v14 =>
    ((aI μ0 v12 0 v14).bind fun v15 =>
    (if v15 = (-1 : Int32) then
    K37 μ0
    else
    ((gR μ0 a5 3 5).bind fun v16 =>
    ((gR μ0 a5 3 4).bind fun v17 =>
    ((aI μ0 v17 0 x8).bind fun v18 =>
    ((aI μ0 v16 0 v18).bind fun v19 =>
    (nm (if x7 < v19 then v19 else x7) fun x20 =>
    (nm (x8 + Int32.ofInt (1)) fun x21 =>
    f_X3_startOf_L4 K37 K61 n μ0 a5 x6 x20 x21)))))))))))
    else
    (nm (x8 + Int32.ofInt (1)) fun x22 =>
    f_X3_startOf_L4 K37 K61 n μ0 a5 x6 x7 x22))))))
set_option maxHeartbeats 4000000 in
set_option maxRecDepth 100000 in
theorem f_X3_startOf_L4_ok {l : Launch} {G : GG} {K37 : Mm → Option (Int32 × Mm)} {K61 : Mm → Int32 → Option (Int32 × Mm)} {r : Int32} {μ' : Mm} (n : Nat) (μ0 : Mm) (a5 : Nat) (x6 : Int32) (x7 : Int32) (x8 : Int32) (hf : f_X3_startOf_L4 K37 K61 n μ0 a5 x6 x7 x8 = some (r, μ')) (hK37 : ∀ (μ1 : Mm), K37 μ1  = some (r, μ') → Ev l G D_X3_startOf yX3_startOf cX3_startOf 4 (some .int) 37 [] [] μ1 (some (.int r)) μ') (hK61 : ∀ (μ1 : Mm) (y2 : Int32), K61 μ1 y2 = some (r, μ') → Ev l G D_X3_startOf yX3_startOf cX3_startOf 4 (some .int) 61 [(2, .int y2)] [] μ1 (some (.int r)) μ') : Ev l G D_X3_startOf yX3_startOf cX3_startOf 4 (some .int) 4 [(0, .ref a5), (1, .int x6), (2, .int x7), (3, .int x8)] [] μ0 (some (.int r)) μ' := by
  induction n generalizing μ0 a5 x6 x7 x8 with
  | zero => cases hf
  | succ n ih0 =>
    have ih : ∀ (μ0 : Mm) (a5 : Nat) (x6 : Int32) (x7 : Int32) (x8 : Int32), f_X3_startOf_L4 K37 K61 n μ0 a5 x6 x7 x8 = some (r, μ') → Ev l G D_X3_startOf yX3_startOf cX3_startOf 4 (some .int) 4 [(0, .ref a5), (1, .int x6), (2, .int x7), (3, .int x8)] [] μ0 (some (.int r)) μ' := fun μ0 a5 x6 x7 x8 hf => ih0 μ0 a5 x6 x7 x8 hf
    rw [f_X3_startOf_L4] at hf
    refine E_iload_n (pc := 4) dX3_startOf_4 rfl ?_
    refine E_aload_n (pc := 5) dX3_startOf_5 rfl ?_
    refine E_getI (pc := 6) dX3_startOf_6 fl_X3_19 hf (fun v9 hf => ?_)
    refine E_icmp_ge (pc := 9) (tgt := 61) dX3_startOf_9 (by decide) hf (fun hf => ?_) (fun hf => ?_)
    · refine Ev.sub [2] rfl ?_
      exact hK61 _ _ hf
    · refine E_aload_n (pc := 12) dX3_startOf_12 rfl ?_
      refine E_getR (pc := 13) dX3_startOf_13 fl_X3_22 hf (fun v10 hf => ?_)
      refine E_iload_n (pc := 16) dX3_startOf_16 rfl ?_
      refine E_iald (pc := 17) dX3_startOf_17 hf (fun v11 hf => ?_)
      refine E_iload_n (pc := 18) dX3_startOf_18 rfl ?_
      refine E_icmp_ne (pc := 19) (tgt := 55) dX3_startOf_19 (by decide) hf (fun hf => ?_) (fun hf => ?_)
      · refine E_aload_n (pc := 22) dX3_startOf_22 rfl ?_
        refine E_getR (pc := 23) dX3_startOf_23 fl_X3_28 hf (fun v12 hf => ?_)
        refine E_aload_n (pc := 26) dX3_startOf_26 rfl ?_
        refine E_getR (pc := 27) dX3_startOf_27 fl_X3_25 hf (fun v13 hf => ?_)
        refine E_iload_n (pc := 30) dX3_startOf_30 rfl ?_
        refine E_iald (pc := 31) dX3_startOf_31 hf (fun v14 hf => ?_)
        refine E_iald (pc := 32) dX3_startOf_32 hf (fun v15 hf => ?_)
        refine E_iconst (pc := 33) (v := (-1 : Int32)) dX3_startOf_33 (by decide) ?_
        refine E_icmp_ne (pc := 34) (tgt := 39) dX3_startOf_34 (by decide) hf (fun hf => ?_) (fun hf => ?_)
        · refine Ev.sub [] rfl ?_
          exact hK37 _ hf
        · refine E_iload_n (pc := 39) dX3_startOf_39 rfl ?_
          refine E_aload_n (pc := 40) dX3_startOf_40 rfl ?_
          refine E_getR (pc := 41) dX3_startOf_41 fl_X3_28 hf (fun v16 hf => ?_)
          refine E_aload_n (pc := 44) dX3_startOf_44 rfl ?_
          refine E_getR (pc := 45) dX3_startOf_45 fl_X3_25 hf (fun v17 hf => ?_)
          refine E_iload_n (pc := 48) dX3_startOf_48 rfl ?_
          refine E_iald (pc := 49) dX3_startOf_49 hf (fun v18 hf => ?_)
          refine E_iald (pc := 50) dX3_startOf_50 hf (fun v19 hf => ?_)
          refine E_max (pc := 51) dX3_startOf_51 ml_X3_51 (by decide) (Nat.le_of_ble_eq_true rfl) ?_
          refine E_istore_n (pc := 54) (ls' := fun x20 => [(2, .int x20), (0, .ref a5), (1, .int x6), (3, .int x8)]) dX3_startOf_54 (by decide) (fun _ => rfl) hf (fun x20 hf => ?_)
          refine E_iinc (pc := 55) (ls' := fun x21 => [(3, .int x21), (2, .int x20), (0, .ref a5), (1, .int x6)]) dX3_startOf_55 rfl (by decide) (fun _ => rfl) hf (fun x21 hf => ?_)
          refine E_goto (pc := 58) (tgt := 4) dX3_startOf_58 (by decide) ?_
          refine Ev.sub [2, 3, 1, 0] rfl ?_
          exact ih _ _ _ _ _ hf
      · refine E_iinc (pc := 55) (ls' := fun x22 => [(3, .int x22), (0, .ref a5), (1, .int x6), (2, .int x7)]) dX3_startOf_55 rfl (by decide) (fun _ => rfl) hf (fun x22 hf => ?_)
        refine E_goto (pc := 58) (tgt := 4) dX3_startOf_58 (by decide) ?_
        refine Ev.sub [1, 2, 3, 0] rfl ?_
        exact ih _ _ _ _ _ hf
set_option maxRecDepth 100000 in
def f_X3_startOf (μ0 : Mm) (a1 : Nat) (x2 : Int32) : Option (Int32 × Mm) :=
 (nm (0 : Int32) fun x3 =>
    (nm (0 : Int32) fun x4 =>
    f_X3_startOf_L4 (fun μ23 =>
    (some ((-1 : Int32), μ23))) (fun μ24 x25 =>
    (some (x25, μ24))) FU μ0 a1 x2 x3 x4))
set_option maxHeartbeats 4000000 in
set_option maxRecDepth 100000 in
theorem f_X3_startOf_ok {l : Launch} {G : GG} {μ0 : Mm} {a1 : Nat} {x2 : Int32} {r : Int32} {μ' : Mm} (hf : f_X3_startOf μ0 a1 x2 = some (r, μ')) : EvM l G D_X3_startOf yX3_startOf cX3_startOf 4 (some .int) [.ref a1, .int x2] μ0 (some (.int r)) μ' := by
  show Ev l G D_X3_startOf yX3_startOf cX3_startOf 4 (some .int) 0 [(0, .ref a1), (1, .int x2)] [] μ0 (some (.int r)) μ'
  unfold f_X3_startOf at hf
  refine E_iconst (pc := 0) (v := (0 : Int32)) dX3_startOf_0 (by decide) ?_
  refine E_istore_n (pc := 1) (ls' := fun x3 => [(2, .int x3), (0, .ref a1), (1, .int x2)]) dX3_startOf_1 (by decide) (fun _ => rfl) hf (fun x3 hf => ?_)
  refine E_iconst (pc := 2) (v := (0 : Int32)) dX3_startOf_2 (by decide) ?_
  refine E_istore_n (pc := 3) (ls' := fun x4 => [(3, .int x4), (2, .int x3), (0, .ref a1), (1, .int x2)]) dX3_startOf_3 (by decide) (fun _ => rfl) hf (fun x4 hf => ?_)
  refine Ev.sub [2, 3, 1, 0] rfl ?_
  refine f_X3_startOf_L4_ok  _ _ _ _ _ _ hf (fun μ23 hf => ?_) (fun μ24 x25 hf => ?_)
  · refine E_iconst (pc := 37) (v := (-1 : Int32)) dX3_startOf_37 (by decide) ?_
    exact E_iret (pc := 38) dX3_startOf_38 rfl hf
  · refine E_iload_n (pc := 61) dX3_startOf_61 rfl ?_
    exact E_iret (pc := 62) dX3_startOf_62 rfl hf
theorem dX3_leastNext_0 : decode cX3_leastNext 0 = .ok (.iconst 0, 1) := by decide +kernel
theorem dX3_leastNext_1 : decode cX3_leastNext 1 = .ok (.istore_n 1, 1) := by decide +kernel
theorem dX3_leastNext_2 : decode cX3_leastNext 2 = .ok (.iload_n 1, 1) := by decide +kernel
theorem dX3_leastNext_3 : decode cX3_leastNext 3 = .ok (.aload_n 0, 1) := by decide +kernel
theorem dX3_leastNext_4 : decode cX3_leastNext 4 = .ok (.getfield 9, 3) := by decide +kernel
theorem dX3_leastNext_7 : decode cX3_leastNext 7 = .ok (.if_icmp .ge 30, 3) := by decide +kernel
theorem dX3_leastNext_10 : decode cX3_leastNext 10 = .ok (.aload_n 0, 1) := by decide +kernel
theorem dX3_leastNext_11 : decode cX3_leastNext 11 = .ok (.getfield 28, 3) := by decide +kernel
theorem dX3_leastNext_14 : decode cX3_leastNext 14 = .ok (.iload_n 1, 1) := by decide +kernel
theorem dX3_leastNext_15 : decode cX3_leastNext 15 = .ok (.iaload, 1) := by decide +kernel
theorem dX3_leastNext_16 : decode cX3_leastNext 16 = .ok (.iconst (-1), 1) := by decide +kernel
theorem dX3_leastNext_17 : decode cX3_leastNext 17 = .ok (.if_icmp .ne 14, 3) := by decide +kernel
theorem dX3_leastNext_20 : decode cX3_leastNext 20 = .ok (.aload_n 0, 1) := by decide +kernel
theorem dX3_leastNext_21 : decode cX3_leastNext 21 = .ok (.iload_n 1, 1) := by decide +kernel
theorem dX3_leastNext_22 : decode cX3_leastNext 22 = .ok (.invokevirtual 47, 3) := by decide +kernel
theorem dX3_leastNext_25 : decode cX3_leastNext 25 = .ok (.iconst (-1), 1) := by decide +kernel
theorem dX3_leastNext_26 : decode cX3_leastNext 26 = .ok (.if_icmp .eq 5, 3) := by decide +kernel
theorem dX3_leastNext_29 : decode cX3_leastNext 29 = .ok (.iload_n 1, 1) := by decide +kernel
theorem dX3_leastNext_30 : decode cX3_leastNext 30 = .ok (.ireturn, 1) := by decide +kernel
theorem dX3_leastNext_31 : decode cX3_leastNext 31 = .ok (.iinc 1 1, 3) := by decide +kernel
theorem dX3_leastNext_34 : decode cX3_leastNext 34 = .ok (.goto (-32), 3) := by decide +kernel
theorem dX3_leastNext_37 : decode cX3_leastNext 37 = .ok (.iconst (-1), 1) := by decide +kernel
theorem dX3_leastNext_38 : decode cX3_leastNext 38 = .ok (.ireturn, 1) := by decide +kernel
abbrev D_X3_leastNext : Nat := 2
def f_X3_leastNext_L2 (K29 : Mm → Int32 → Option (Int32 × Mm)) (K37 : Mm → Option (Int32 × Mm)) : Nat → Mm → Nat → Int32 → Option (Int32 × Mm)
  | 0, _, _, _ => none
  | n + 1, μ0, a3, x4 =>
    ((gI μ0 a3 3 0).bind fun v5 =>
    (if v5 ≤ x4 then
    K37 μ0
    else
    ((gR μ0 a3 3 5).bind fun v6 =>
    ((aI μ0 v6 0 x4).bind fun v7 =>
    (if v7 = (-1 : Int32) then
    ((ob μ0 a3 3).bind fun _ =>
    (bd (f_X3_startOf μ0 a3 x4) fun v9 μ8 =>
    (if v9 = (-1 : Int32) then
    (nm (x4 + Int32.ofInt (1)) fun x10 =>
    f_X3_leastNext_L2 K29 K37 n μ8 a3 x10)
    else
    K29 μ8 x4)))
    else
    (nm (x4 + Int32.ofInt (1)) fun x11 =>
    f_X3_leastNext_L2 K29 K37 n μ0 a3 x11))))))
set_option maxHeartbeats 4000000 in
set_option maxRecDepth 100000 in
theorem f_X3_leastNext_L2_ok {l : Launch} {G : GG} {K29 : Mm → Int32 → Option (Int32 × Mm)} {K37 : Mm → Option (Int32 × Mm)} {r : Int32} {μ' : Mm} (n : Nat) (μ0 : Mm) (a3 : Nat) (x4 : Int32) (hf : f_X3_leastNext_L2 K29 K37 n μ0 a3 x4 = some (r, μ')) (hK29 : ∀ (μ1 : Mm) (y1 : Int32), K29 μ1 y1 = some (r, μ') → Ev l G D_X3_leastNext yX3_leastNext cX3_leastNext 2 (some .int) 29 [(1, .int y1)] [] μ1 (some (.int r)) μ') (hK37 : ∀ (μ1 : Mm), K37 μ1  = some (r, μ') → Ev l G D_X3_leastNext yX3_leastNext cX3_leastNext 2 (some .int) 37 [] [] μ1 (some (.int r)) μ') : Ev l G D_X3_leastNext yX3_leastNext cX3_leastNext 2 (some .int) 2 [(0, .ref a3), (1, .int x4)] [] μ0 (some (.int r)) μ' := by
  induction n generalizing μ0 a3 x4 with
  | zero => cases hf
  | succ n ih0 =>
    have ih : ∀ (μ0 : Mm) (a3 : Nat) (x4 : Int32), f_X3_leastNext_L2 K29 K37 n μ0 a3 x4 = some (r, μ') → Ev l G D_X3_leastNext yX3_leastNext cX3_leastNext 2 (some .int) 2 [(0, .ref a3), (1, .int x4)] [] μ0 (some (.int r)) μ' := fun μ0 a3 x4 hf => ih0 μ0 a3 x4 hf
    rw [f_X3_leastNext_L2] at hf
    refine E_iload_n (pc := 2) dX3_leastNext_2 rfl ?_
    refine E_aload_n (pc := 3) dX3_leastNext_3 rfl ?_
    refine E_getI (pc := 4) dX3_leastNext_4 fl_X3_9 hf (fun v5 hf => ?_)
    refine E_icmp_ge (pc := 7) (tgt := 37) dX3_leastNext_7 (by decide) hf (fun hf => ?_) (fun hf => ?_)
    · refine Ev.sub [] rfl ?_
      exact hK37 _ hf
    · refine E_aload_n (pc := 10) dX3_leastNext_10 rfl ?_
      refine E_getR (pc := 11) dX3_leastNext_11 fl_X3_28 hf (fun v6 hf => ?_)
      refine E_iload_n (pc := 14) dX3_leastNext_14 rfl ?_
      refine E_iald (pc := 15) dX3_leastNext_15 hf (fun v7 hf => ?_)
      refine E_iconst (pc := 16) (v := (-1 : Int32)) dX3_leastNext_16 (by decide) ?_
      refine E_icmp_ne (pc := 17) (tgt := 31) dX3_leastNext_17 (by decide) hf (fun hf => ?_) (fun hf => ?_)
      · refine E_aload_n (pc := 20) dX3_leastNext_20 rfl ?_
        refine E_iload_n (pc := 21) dX3_leastNext_21 rfl ?_
        refine E_Vi (pc := 22) (d2 := D_X3_startOf) (ci := 3) [.int x4] dX3_leastNext_22 ml_X3_47 mf_X3_startOf im_X3_startOf rfl rfl rfl (by decide) (Nat.le_of_ble_eq_true rfl) (Nat.le_of_ble_eq_true rfl) rfl (fun _ _ h => f_X3_startOf_ok h) hf (fun v9 μ8 hf => ?_)
        refine E_iconst (pc := 25) (v := (-1 : Int32)) dX3_leastNext_25 (by decide) ?_
        refine E_icmp_eq (pc := 26) (tgt := 31) dX3_leastNext_26 (by decide) hf (fun hf => ?_) (fun hf => ?_)
        · refine E_iinc (pc := 31) (ls' := fun x10 => [(1, .int x10), (0, .ref a3)]) dX3_leastNext_31 rfl (by decide) (fun _ => rfl) hf (fun x10 hf => ?_)
          refine E_goto (pc := 34) (tgt := 2) dX3_leastNext_34 (by decide) ?_
          refine Ev.sub [1, 0] rfl ?_
          exact ih _ _ _ hf
        · refine Ev.sub [1] rfl ?_
          exact hK29 _ _ hf
      · refine E_iinc (pc := 31) (ls' := fun x11 => [(1, .int x11), (0, .ref a3)]) dX3_leastNext_31 rfl (by decide) (fun _ => rfl) hf (fun x11 hf => ?_)
        refine E_goto (pc := 34) (tgt := 2) dX3_leastNext_34 (by decide) ?_
        refine Ev.sub [1, 0] rfl ?_
        exact ih _ _ _ hf
set_option maxRecDepth 100000 in
def f_X3_leastNext (μ0 : Mm) (a1 : Nat) : Option (Int32 × Mm) :=
 (nm (0 : Int32) fun x2 =>
    f_X3_leastNext_L2 (fun μ12 x13 =>
    (some (x13, μ12))) (fun μ14 =>
    (some ((-1 : Int32), μ14))) FU μ0 a1 x2)
set_option maxHeartbeats 4000000 in
set_option maxRecDepth 100000 in
theorem f_X3_leastNext_ok {l : Launch} {G : GG} {μ0 : Mm} {a1 : Nat} {r : Int32} {μ' : Mm} (hf : f_X3_leastNext μ0 a1 = some (r, μ')) : EvM l G D_X3_leastNext yX3_leastNext cX3_leastNext 2 (some .int) [.ref a1] μ0 (some (.int r)) μ' := by
  show Ev l G D_X3_leastNext yX3_leastNext cX3_leastNext 2 (some .int) 0 [(0, .ref a1)] [] μ0 (some (.int r)) μ'
  unfold f_X3_leastNext at hf
  refine E_iconst (pc := 0) (v := (0 : Int32)) dX3_leastNext_0 (by decide) ?_
  refine E_istore_n (pc := 1) (ls' := fun x2 => [(1, .int x2), (0, .ref a1)]) dX3_leastNext_1 (by decide) (fun _ => rfl) hf (fun x2 hf => ?_)
  refine Ev.sub [1, 0] rfl ?_
  refine f_X3_leastNext_L2_ok  _ _ _ _ hf (fun μ12 x13 hf => ?_) (fun μ14 hf => ?_)
  · refine E_iload_n (pc := 29) dX3_leastNext_29 rfl ?_
    exact E_iret (pc := 30) dX3_leastNext_30 rfl hf
  · refine E_iconst (pc := 37) (v := (-1 : Int32)) dX3_leastNext_37 (by decide) ?_
    exact E_iret (pc := 38) dX3_leastNext_38 rfl hf
theorem dX3_setInRow_0 : decode cX3_setInRow 0 = .ok (.aload_n 0, 1) := by decide +kernel
theorem dX3_setInRow_1 : decode cX3_setInRow 1 = .ok (.getfield 28, 3) := by decide +kernel
theorem dX3_setInRow_4 : decode cX3_setInRow 4 = .ok (.iconst (-1), 1) := by decide +kernel
theorem dX3_setInRow_5 : decode cX3_setInRow 5 = .ok (.invokestatic 37, 3) := by decide +kernel
theorem dX3_setInRow_8 : decode cX3_setInRow 8 = .ok (.aload_n 0, 1) := by decide +kernel
theorem dX3_setInRow_9 : decode cX3_setInRow 9 = .ok (.iconst 0, 1) := by decide +kernel
theorem dX3_setInRow_10 : decode cX3_setInRow 10 = .ok (.putfield 34, 3) := by decide +kernel
theorem dX3_setInRow_13 : decode cX3_setInRow 13 = .ok (.iconst 0, 1) := by decide +kernel
theorem dX3_setInRow_14 : decode cX3_setInRow 14 = .ok (.istore_n 1, 1) := by decide +kernel
theorem dX3_setInRow_15 : decode cX3_setInRow 15 = .ok (.iload_n 1, 1) := by decide +kernel
theorem dX3_setInRow_16 : decode cX3_setInRow 16 = .ok (.aload_n 0, 1) := by decide +kernel
theorem dX3_setInRow_17 : decode cX3_setInRow 17 = .ok (.getfield 9, 3) := by decide +kernel
theorem dX3_setInRow_20 : decode cX3_setInRow 20 = .ok (.if_icmp .ge 58, 3) := by decide +kernel
theorem dX3_setInRow_23 : decode cX3_setInRow 23 = .ok (.aload_n 0, 1) := by decide +kernel
theorem dX3_setInRow_24 : decode cX3_setInRow 24 = .ok (.invokevirtual 43, 3) := by decide +kernel
theorem dX3_setInRow_27 : decode cX3_setInRow 27 = .ok (.istore_n 2, 1) := by decide +kernel
theorem dX3_setInRow_28 : decode cX3_setInRow 28 = .ok (.iload_n 2, 1) := by decide +kernel
theorem dX3_setInRow_29 : decode cX3_setInRow 29 = .ok (.iconst (-1), 1) := by decide +kernel
theorem dX3_setInRow_30 : decode cX3_setInRow 30 = .ok (.if_icmp .ne 4, 3) := by decide +kernel
theorem dX3_setInRow_33 : decode cX3_setInRow 33 = .ok (.return_, 1) := by decide +kernel
theorem dX3_setInRow_34 : decode cX3_setInRow 34 = .ok (.aload_n 0, 1) := by decide +kernel
theorem dX3_setInRow_35 : decode cX3_setInRow 35 = .ok (.getfield 28, 3) := by decide +kernel
theorem dX3_setInRow_38 : decode cX3_setInRow 38 = .ok (.iload_n 2, 1) := by decide +kernel
theorem dX3_setInRow_39 : decode cX3_setInRow 39 = .ok (.aload_n 0, 1) := by decide +kernel
theorem dX3_setInRow_40 : decode cX3_setInRow 40 = .ok (.iload_n 2, 1) := by decide +kernel
theorem dX3_setInRow_41 : decode cX3_setInRow 41 = .ok (.invokevirtual 47, 3) := by decide +kernel
theorem dX3_setInRow_44 : decode cX3_setInRow 44 = .ok (.aload_n 0, 1) := by decide +kernel
theorem dX3_setInRow_45 : decode cX3_setInRow 45 = .ok (.getfield 15, 3) := by decide +kernel
theorem dX3_setInRow_48 : decode cX3_setInRow 48 = .ok (.iload_n 2, 1) := by decide +kernel
theorem dX3_setInRow_49 : decode cX3_setInRow 49 = .ok (.iaload, 1) := by decide +kernel
theorem dX3_setInRow_50 : decode cX3_setInRow 50 = .ok (.iadd, 1) := by decide +kernel
theorem dX3_setInRow_51 : decode cX3_setInRow 51 = .ok (.iastore, 1) := by decide +kernel
theorem dX3_setInRow_52 : decode cX3_setInRow 52 = .ok (.aload_n 0, 1) := by decide +kernel
theorem dX3_setInRow_53 : decode cX3_setInRow 53 = .ok (.getfield 31, 3) := by decide +kernel
theorem dX3_setInRow_56 : decode cX3_setInRow 56 = .ok (.aload_n 0, 1) := by decide +kernel
theorem dX3_setInRow_57 : decode cX3_setInRow 57 = .ok (.getfield 34, 3) := by decide +kernel
theorem dX3_setInRow_60 : decode cX3_setInRow 60 = .ok (.iload_n 2, 1) := by decide +kernel
theorem dX3_setInRow_61 : decode cX3_setInRow 61 = .ok (.iastore, 1) := by decide +kernel
theorem dX3_setInRow_62 : decode cX3_setInRow 62 = .ok (.aload_n 0, 1) := by decide +kernel
theorem dX3_setInRow_63 : decode cX3_setInRow 63 = .ok (.dup, 1) := by decide +kernel
theorem dX3_setInRow_64 : decode cX3_setInRow 64 = .ok (.getfield 34, 3) := by decide +kernel
theorem dX3_setInRow_67 : decode cX3_setInRow 67 = .ok (.iconst 1, 1) := by decide +kernel
theorem dX3_setInRow_68 : decode cX3_setInRow 68 = .ok (.iadd, 1) := by decide +kernel
theorem dX3_setInRow_69 : decode cX3_setInRow 69 = .ok (.putfield 34, 3) := by decide +kernel
theorem dX3_setInRow_72 : decode cX3_setInRow 72 = .ok (.iinc 1 1, 3) := by decide +kernel
theorem dX3_setInRow_75 : decode cX3_setInRow 75 = .ok (.goto (-60), 3) := by decide +kernel
theorem dX3_setInRow_78 : decode cX3_setInRow 78 = .ok (.return_, 1) := by decide +kernel
abbrev D_X3_setInRow : Nat := 3
def f_X3_setInRow_L15 (K33 : Mm → Option Mm) (K78 : Mm → Option Mm) : Nat → Mm → Nat → Int32 → Option Mm
  | 0, _, _, _ => none
  | n + 1, μ0, a6, x7 =>
    ((gI μ0 a6 3 0).bind fun v8 =>
    (if v8 ≤ x7 then
    K78 μ0
    else
    ((ob μ0 a6 3).bind fun _ =>
    (bd (f_X3_leastNext μ0 a6) fun v10 μ9 =>
    (nm v10 fun x11 =>
    (if x11 = (-1 : Int32) then
    K33 μ9
    else
    ((gR μ9 a6 3 5).bind fun v12 =>
    ((ob μ9 a6 3).bind fun _ =>
    (bd (f_X3_startOf μ9 a6 x11) fun v14 μ13 =>
    ((gR μ13 a6 3 1).bind fun v15 =>
    ((aI μ13 v15 0 x11).bind fun v16 =>
    ((sI μ13 v12 0 x11 (v14 + v16)).bind fun μ17 =>
    ((gR μ17 a6 3 6).bind fun v18 =>
    ((gI μ17 a6 3 7).bind fun v19 =>
    ((sI μ17 v18 0 v19 x11).bind fun μ20 =>
    ((gI μ20 a6 3 7).bind fun v21 =>
    ((pV μ20 a6 3 7 (.int (v21 + (1 : Int32)))).bind fun μ22 =>
    (nm (x7 + Int32.ofInt (1)) fun x23 =>
    f_X3_setInRow_L15 K33 K78 n μ22 a6 x23))))))))))))))))))
set_option maxHeartbeats 4000000 in
set_option maxRecDepth 100000 in
theorem f_X3_setInRow_L15_ok {l : Launch} {G : GG} {K33 : Mm → Option Mm} {K78 : Mm → Option Mm} {μ' : Mm} (n : Nat) (μ0 : Mm) (a6 : Nat) (x7 : Int32) (hf : f_X3_setInRow_L15 K33 K78 n μ0 a6 x7 = some μ') (hK33 : ∀ (μ1 : Mm), K33 μ1  = some μ' → Ev l G D_X3_setInRow yX3_setInRow cX3_setInRow 3 none 33 [] [] μ1 none μ') (hK78 : ∀ (μ1 : Mm), K78 μ1  = some μ' → Ev l G D_X3_setInRow yX3_setInRow cX3_setInRow 3 none 78 [] [] μ1 none μ') : Ev l G D_X3_setInRow yX3_setInRow cX3_setInRow 3 none 15 [(0, .ref a6), (1, .int x7)] [] μ0 none μ' := by
  induction n generalizing μ0 a6 x7 with
  | zero => cases hf
  | succ n ih0 =>
    have ih : ∀ (μ0 : Mm) (a6 : Nat) (x7 : Int32), f_X3_setInRow_L15 K33 K78 n μ0 a6 x7 = some μ' → Ev l G D_X3_setInRow yX3_setInRow cX3_setInRow 3 none 15 [(0, .ref a6), (1, .int x7)] [] μ0 none μ' := fun μ0 a6 x7 hf => ih0 μ0 a6 x7 hf
    rw [f_X3_setInRow_L15] at hf
    refine E_iload_n (pc := 15) dX3_setInRow_15 rfl ?_
    refine E_aload_n (pc := 16) dX3_setInRow_16 rfl ?_
    refine E_getI (pc := 17) dX3_setInRow_17 fl_X3_9 hf (fun v8 hf => ?_)
    refine E_icmp_ge (pc := 20) (tgt := 78) dX3_setInRow_20 (by decide) hf (fun hf => ?_) (fun hf => ?_)
    · refine Ev.sub [] rfl ?_
      exact hK78 _ hf
    · refine E_aload_n (pc := 23) dX3_setInRow_23 rfl ?_
      refine E_Vi (pc := 24) (d2 := D_X3_leastNext) (ci := 3) [] dX3_setInRow_24 ml_X3_43 mf_X3_leastNext im_X3_leastNext rfl rfl rfl (by decide) (Nat.le_of_ble_eq_true rfl) (Nat.le_of_ble_eq_true rfl) rfl (fun _ _ h => f_X3_leastNext_ok h) hf (fun v10 μ9 hf => ?_)
      refine E_istore_n (pc := 27) (ls' := fun x11 => [(2, .int x11), (0, .ref a6), (1, .int x7)]) dX3_setInRow_27 (by decide) (fun _ => rfl) hf (fun x11 hf => ?_)
      refine E_iload_n (pc := 28) dX3_setInRow_28 rfl ?_
      refine E_iconst (pc := 29) (v := (-1 : Int32)) dX3_setInRow_29 (by decide) ?_
      refine E_icmp_ne (pc := 30) (tgt := 34) dX3_setInRow_30 (by decide) hf (fun hf => ?_) (fun hf => ?_)
      · refine Ev.sub [] rfl ?_
        exact hK33 _ hf
      · refine E_aload_n (pc := 34) dX3_setInRow_34 rfl ?_
        refine E_getR (pc := 35) dX3_setInRow_35 fl_X3_28 hf (fun v12 hf => ?_)
        refine E_iload_n (pc := 38) dX3_setInRow_38 rfl ?_
        refine E_aload_n (pc := 39) dX3_setInRow_39 rfl ?_
        refine E_iload_n (pc := 40) dX3_setInRow_40 rfl ?_
        refine E_Vi (pc := 41) (d2 := D_X3_startOf) (ci := 3) [.int x11] dX3_setInRow_41 ml_X3_47 mf_X3_startOf im_X3_startOf rfl rfl rfl (by decide) (Nat.le_of_ble_eq_true rfl) (Nat.le_of_ble_eq_true rfl) rfl (fun _ _ h => f_X3_startOf_ok h) hf (fun v14 μ13 hf => ?_)
        refine E_aload_n (pc := 44) dX3_setInRow_44 rfl ?_
        refine E_getR (pc := 45) dX3_setInRow_45 fl_X3_15 hf (fun v15 hf => ?_)
        refine E_iload_n (pc := 48) dX3_setInRow_48 rfl ?_
        refine E_iald (pc := 49) dX3_setInRow_49 hf (fun v16 hf => ?_)
        refine E_iadd (pc := 50) dX3_setInRow_50 ?_
        refine E_iast (pc := 51) dX3_setInRow_51 hf (fun μ17 hf => ?_)
        refine E_aload_n (pc := 52) dX3_setInRow_52 rfl ?_
        refine E_getR (pc := 53) dX3_setInRow_53 fl_X3_31 hf (fun v18 hf => ?_)
        refine E_aload_n (pc := 56) dX3_setInRow_56 rfl ?_
        refine E_getI (pc := 57) dX3_setInRow_57 fl_X3_34 hf (fun v19 hf => ?_)
        refine E_iload_n (pc := 60) dX3_setInRow_60 rfl ?_
        refine E_iast (pc := 61) dX3_setInRow_61 hf (fun μ20 hf => ?_)
        refine E_aload_n (pc := 62) dX3_setInRow_62 rfl ?_
        refine E_dup (pc := 63) dX3_setInRow_63 rfl ?_
        refine E_getI (pc := 64) dX3_setInRow_64 fl_X3_34 hf (fun v21 hf => ?_)
        refine E_iconst (pc := 67) (v := (1 : Int32)) dX3_setInRow_67 (by decide) ?_
        refine E_iadd (pc := 68) dX3_setInRow_68 ?_
        refine E_putI (pc := 69) dX3_setInRow_69 (pl_X3_34 _) hf (fun μ22 hf => ?_)
        refine E_iinc (pc := 72) (ls' := fun x23 => [(1, .int x23), (2, .int x11), (0, .ref a6)]) dX3_setInRow_72 rfl (by decide) (fun _ => rfl) hf (fun x23 hf => ?_)
        refine E_goto (pc := 75) (tgt := 15) dX3_setInRow_75 (by decide) ?_
        refine Ev.sub [2, 0] rfl ?_
        exact ih _ _ _ hf
set_option maxRecDepth 100000 in
def f_X3_setInRow (μ0 : Mm) (a1 : Nat) : Option Mm :=
 ((gR μ0 a1 3 5).bind fun v2 =>
    ((f_J7_fill_53178 μ0 v2 (-1 : Int32)).bind fun μ3 =>
    ((pV μ3 a1 3 7 (.int (0 : Int32))).bind fun μ4 =>
    (nm (0 : Int32) fun x5 =>
    f_X3_setInRow_L15 (fun μ24 =>
    (some μ24)) (fun μ25 =>
    (some μ25)) FU μ4 a1 x5))))
set_option maxHeartbeats 4000000 in
set_option maxRecDepth 100000 in
theorem f_X3_setInRow_ok {l : Launch} {G : GG} {μ0 : Mm} {a1 : Nat} {μ' : Mm} (hf : f_X3_setInRow μ0 a1 = some μ') : EvM l G D_X3_setInRow yX3_setInRow cX3_setInRow 3 none [.ref a1] μ0 none μ' := by
  show Ev l G D_X3_setInRow yX3_setInRow cX3_setInRow 3 none 0 [(0, .ref a1)] [] μ0 none μ'
  unfold f_X3_setInRow at hf
  refine E_aload_n (pc := 0) dX3_setInRow_0 rfl ?_
  refine E_getR (pc := 1) dX3_setInRow_1 fl_X3_28 hf (fun v2 hf => ?_)
  refine E_iconst (pc := 4) (v := (-1 : Int32)) dX3_setInRow_4 (by decide) ?_
  refine E_Sv (pc := 5) (d2 := D_J7_fill_53178) [.ref v2, .int (-1 : Int32)] dX3_setInRow_5 ml_X3_37 mf_J7_fill_53178 st_J7_fill_53178 rfl (by decide) (Nat.le_of_ble_eq_true rfl) (Nat.le_of_ble_eq_true rfl) rfl (fun _ h => f_J7_fill_53178_ok h) hf (fun μ3 hf => ?_)
  refine E_aload_n (pc := 8) dX3_setInRow_8 rfl ?_
  refine E_iconst (pc := 9) (v := (0 : Int32)) dX3_setInRow_9 (by decide) ?_
  refine E_putI (pc := 10) dX3_setInRow_10 (pl_X3_34 _) hf (fun μ4 hf => ?_)
  refine E_iconst (pc := 13) (v := (0 : Int32)) dX3_setInRow_13 (by decide) ?_
  refine E_istore_n (pc := 14) (ls' := fun x5 => [(1, .int x5), (0, .ref a1)]) dX3_setInRow_14 (by decide) (fun _ => rfl) hf (fun x5 hf => ?_)
  refine Ev.sub [1, 0] rfl ?_
  refine f_X3_setInRow_L15_ok  _ _ _ _ hf (fun μ24 hf => ?_) (fun μ25 hf => ?_)
  · exact E_vret (pc := 33) dX3_setInRow_33 rfl hf
  · exact E_vret (pc := 78) dX3_setInRow_78 rfl hf
