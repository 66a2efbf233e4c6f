theorem dX4_init_0 : decode cX4_init 0 = .ok (.aload_n 0, 1) := by decide +kernel
theorem dX4_init_1 : decode cX4_init 1 = .ok (.invokespecial 3, 3) := by decide +kernel
theorem dX4_init_4 : decode cX4_init 4 = .ok (.aload_n 0, 1) := by decide +kernel
theorem dX4_init_5 : decode cX4_init 5 = .ok (.iconst 0, 1) := by decide +kernel
theorem dX4_init_6 : decode cX4_init 6 = .ok (.putfield 9, 3) := by decide +kernel
theorem dX4_init_9 : decode cX4_init 9 = .ok (.aload_n 0, 1) := by decide +kernel
theorem dX4_init_10 : decode cX4_init 10 = .ok (.iconst (-1), 1) := by decide +kernel
theorem dX4_init_11 : decode cX4_init 11 = .ok (.putfield 15, 3) := by decide +kernel
theorem dX4_init_14 : decode cX4_init 14 = .ok (.aload_n 0, 1) := by decide +kernel
theorem dX4_init_15 : decode cX4_init 15 = .ok (.iconst (-1), 1) := by decide +kernel
theorem dX4_init_16 : decode cX4_init 16 = .ok (.putfield 18, 3) := by decide +kernel
theorem dX4_init_19 : decode cX4_init 19 = .ok (.aload_n 0, 1) := by decide +kernel
theorem dX4_init_20 : decode cX4_init 20 = .ok (.bipush 8, 2) := by decide +kernel
theorem dX4_init_22 : decode cX4_init 22 = .ok (.newarray .int, 2) := by decide +kernel
theorem dX4_init_24 : decode cX4_init 24 = .ok (.putfield 21, 3) := by decide +kernel
theorem dX4_init_27 : decode cX4_init 27 = .ok (.aload_n 0, 1) := by decide +kernel
theorem dX4_init_28 : decode cX4_init 28 = .ok (.aload_n 1, 1) := by decide +kernel
theorem dX4_init_29 : decode cX4_init 29 = .ok (.putfield 25, 3) := by decide +kernel
theorem dX4_init_32 : decode cX4_init 32 = .ok (.return_, 1) := by decide +kernel
abbrev D_X4_init : Nat := 1
set_option maxRecDepth 100000 in
def f_X4_init (μ0 : Mm) (a1 : Nat) (a2 : Nat) : Option Mm :=
 ((pV μ0 a1 4 1 (.int (0 : Int32))).bind fun μ3 =>
    ((pV μ3 a1 4 2 (.int (-1 : Int32))).bind fun μ4 =>
    ((pV μ4 a1 4 3 (.int (-1 : Int32))).bind fun μ5 =>
    (bd (nA μ5 0 (8 : Int32)) fun a6 μ7 =>
    ((pV μ7 a1 4 4 (.ref a6)).bind fun μ8 =>
    ((pV μ8 a1 4 0 (.ref a2)).bind fun μ9 =>
    (some μ9)))))))
set_option maxHeartbeats 4000000 in
set_option maxRecDepth 100000 in
theorem f_X4_init_ok {l : Launch} {G : GG} {μ0 : Mm} {a1 : Nat} {a2 : Nat} {μ' : Mm} (hf : f_X4_init μ0 a1 a2 = some μ') : EvM l G D_X4_init yX4_init cX4_init 2 none [.ref a1, .ref a2] μ0 none μ' := by
  show Ev l G D_X4_init yX4_init cX4_init 2 none 0 [(0, .ref a1), (1, .ref a2)] [] μ0 none μ'
  unfold f_X4_init at hf
  refine E_aload_n (pc := 0) dX4_init_0 rfl ?_
  refine E_objI (pc := 1) dX4_init_1 (by decide) (Nat.le_of_ble_eq_true rfl) ml_X4_3 ?_
  refine E_aload_n (pc := 4) dX4_init_4 rfl ?_
  refine E_iconst (pc := 5) (v := (0 : Int32)) dX4_init_5 (by decide) ?_
  refine E_putI (pc := 6) dX4_init_6 (pl_X4_9 _) hf (fun μ3 hf => ?_)
  refine E_aload_n (pc := 9) dX4_init_9 rfl ?_
  refine E_iconst (pc := 10) (v := (-1 : Int32)) dX4_init_10 (by decide) ?_
  refine E_putI (pc := 11) dX4_init_11 (pl_X4_15 _) hf (fun μ4 hf => ?_)
  refine E_aload_n (pc := 14) dX4_init_14 rfl ?_
  refine E_iconst (pc := 15) (v := (-1 : Int32)) dX4_init_15 (by decide) ?_
  refine E_putI (pc := 16) dX4_init_16 (pl_X4_18 _) hf (fun μ5 hf => ?_)
  refine E_aload_n (pc := 19) dX4_init_19 rfl ?_
  refine E_bipush (pc := 20) (v := (8 : Int32)) dX4_init_20 (by decide) ?_
  refine E_newa2 (pc := 22) dX4_init_22 (by decide) ac_int hf (fun a6 μ7 hf => ?_)
  refine E_putA (pc := 24) dX4_init_24 pl_X4_21 hf (fun μ8 hf => ?_)
  refine E_aload_n (pc := 27) dX4_init_27 rfl ?_
  refine E_aload_n (pc := 28) dX4_init_28 rfl ?_
  refine E_putR (pc := 29) dX4_init_29 pl_X4_25 hf (fun μ9 hf => ?_)
  exact E_vret (pc := 32) dX4_init_32 rfl hf
theorem dX4_add_0 : decode cX4_add 0 = .ok (.aload_n 0, 1) := by decide +kernel
theorem dX4_add_1 : decode cX4_add 1 = .ok (.getfield 9, 3) := by decide +kernel
theorem dX4_add_4 : decode cX4_add 4 = .ok (.ifCond .ne 13, 3) := by decide +kernel
theorem dX4_add_7 : decode cX4_add 7 = .ok (.aload_n 0, 1) := by decide +kernel
theorem dX4_add_8 : decode cX4_add 8 = .ok (.iload_n 1, 1) := by decide +kernel
theorem dX4_add_9 : decode cX4_add 9 = .ok (.putfield 15, 3) := by decide +kernel
theorem dX4_add_12 : decode cX4_add 12 = .ok (.aload_n 0, 1) := by decide +kernel
theorem dX4_add_13 : decode cX4_add 13 = .ok (.iload_n 2, 1) := by decide +kernel
theorem dX4_add_14 : decode cX4_add 14 = .ok (.putfield 18, 3) := by decide +kernel
theorem dX4_add_17 : decode cX4_add 17 = .ok (.aload_n 0, 1) := by decide +kernel
theorem dX4_add_18 : decode cX4_add 18 = .ok (.dup, 1) := by decide +kernel
theorem dX4_add_19 : decode cX4_add 19 = .ok (.getfield 9, 3) := by decide +kernel
theorem dX4_add_22 : decode cX4_add 22 = .ok (.iconst 1, 1) := by decide +kernel
theorem dX4_add_23 : decode cX4_add 23 = .ok (.iadd, 1) := by decide +kernel
theorem dX4_add_24 : decode cX4_add 24 = .ok (.putfield 9, 3) := by decide +kernel
theorem dX4_add_27 : decode cX4_add 27 = .ok (.iconst 0, 1) := by decide +kernel
theorem dX4_add_28 : decode cX4_add 28 = .ok (.istore_n 3, 1) := by decide +kernel
theorem dX4_add_29 : decode cX4_add 29 = .ok (.iload_n 3, 1) := by decide +kernel
theorem dX4_add_30 : decode cX4_add 30 = .ok (.bipush 8, 2) := by decide +kernel
theorem dX4_add_32 : decode cX4_add 32 = .ok (.if_icmp .ge 29, 3) := by decide +kernel
theorem dX4_add_35 : decode cX4_add 35 = .ok (.aload_n 0, 1) := by decide +kernel
theorem dX4_add_36 : decode cX4_add 36 = .ok (.getfield 21, 3) := by decide +kernel
theorem dX4_add_39 : decode cX4_add 39 = .ok (.iload_n 3, 1) := by decide +kernel
theorem dX4_add_40 : decode cX4_add 40 = .ok (.dup2, 1) := by decide +kernel
theorem dX4_add_41 : decode cX4_add 41 = .ok (.iaload, 1) := by decide +kernel
theorem dX4_add_42 : decode cX4_add 42 = .ok (.aload_n 0, 1) := by decide +kernel
theorem dX4_add_43 : decode cX4_add 43 = .ok (.getfield 25, 3) := by decide +kernel
theorem dX4_add_46 : decode cX4_add 46 = .ok (.getfield 62, 3) := by decide +kernel
theorem dX4_add_49 : decode cX4_add 49 = .ok (.iload_n 3, 1) := by decide +kernel
theorem dX4_add_50 : decode cX4_add 50 = .ok (.ishr, 1) := by decide +kernel
theorem dX4_add_51 : decode cX4_add 51 = .ok (.iconst 1, 1) := by decide +kernel
theorem dX4_add_52 : decode cX4_add 52 = .ok (.iand, 1) := by decide +kernel
theorem dX4_add_53 : decode cX4_add 53 = .ok (.iadd, 1) := by decide +kernel
theorem dX4_add_54 : decode cX4_add 54 = .ok (.iastore, 1) := by decide +kernel
theorem dX4_add_55 : decode cX4_add 55 = .ok (.iinc 3 1, 3) := by decide +kernel
theorem dX4_add_58 : decode cX4_add 58 = .ok (.goto (-29), 3) := by decide +kernel
theorem dX4_add_61 : decode cX4_add 61 = .ok (.return_, 1) := by decide +kernel
abbrev D_X4_add : Nat := 1
def f_X4_add_L29 (K61 : Mm → Option Mm) : Nat → Mm → Nat → Int32 → Option Mm
  | 0, _, _, _ => none
  | n + 1, μ0, a10, x11 =>
    (if (8 : Int32) ≤ x11 then
    K61 μ0
    else
    ((gR μ0 a10 4 4).bind fun v12 =>
    ((aI μ0 v12 0 x11).bind fun v13 =>
    ((gR μ0 a10 4 0).bind fun v14 =>
    ((gI μ0 v14 0 8).bind fun v15 =>
    ((sI μ0 v12 0 x11 (v13 + ((v15 >>> (x11 &&& 31)) &&& (1 : Int32)))).bind fun μ16 =>
    (nm (x11 + Int32.ofInt (1)) fun x17 =>
    f_X4_add_L29 K61 n μ16 a10 x17)))))))
set_option maxHeartbeats 4000000 in
set_option maxRecDepth 100000 in
theorem f_X4_add_L29_ok {l : Launch} {G : GG} {K61 : Mm → Option Mm} {μ' : Mm} (n : Nat) (μ0 : Mm) (a10 : Nat) (x11 : Int32) (hf : f_X4_add_L29 K61 n μ0 a10 x11 = some μ') (hK61 : ∀ (μ1 : Mm), K61 μ1  = some μ' → Ev l G D_X4_add yX4_add cX4_add 4 none 61 [] [] μ1 none μ') : Ev l G D_X4_add yX4_add cX4_add 4 none 29 [(0, .ref a10), (3, .int x11)] [] μ0 none μ' := by
  induction n generalizing μ0 a10 x11 with
  | zero => cases hf
  | succ n ih0 =>
    have ih : ∀ (μ0 : Mm) (a10 : Nat) (x11 : Int32), f_X4_add_L29 K61 n μ0 a10 x11 = some μ' → Ev l G D_X4_add yX4_add cX4_add 4 none 29 [(0, .ref a10), (3, .int x11)] [] μ0 none μ' := fun μ0 a10 x11 hf => ih0 μ0 a10 x11 hf
    rw [f_X4_add_L29] at hf
    refine E_iload_n (pc := 29) dX4_add_29 rfl ?_
    refine E_bipush (pc := 30) (v := (8 : Int32)) dX4_add_30 (by decide) ?_
    refine E_icmp_ge (pc := 32) (tgt := 61) dX4_add_32 (by decide) hf (fun hf => ?_) (fun hf => ?_)
    · refine Ev.sub [] rfl ?_
      exact hK61 _ hf
    · refine E_aload_n (pc := 35) dX4_add_35 rfl ?_
      refine E_getR (pc := 36) dX4_add_36 fl_X4_21 hf (fun v12 hf => ?_)
      refine E_iload_n (pc := 39) dX4_add_39 rfl ?_
      refine E_dup2 (pc := 40) dX4_add_40 rfl rfl ?_
      refine E_iald (pc := 41) dX4_add_41 hf (fun v13 hf => ?_)
      refine E_aload_n (pc := 42) dX4_add_42 rfl ?_
      refine E_getR (pc := 43) dX4_add_43 fl_X4_25 hf (fun v14 hf => ?_)
      refine E_getI (pc := 46) dX4_add_46 fl_X4_62 hf (fun v15 hf => ?_)
      refine E_iload_n (pc := 49) dX4_add_49 rfl ?_
      refine E_ishr (pc := 50) dX4_add_50 ?_
      refine E_iconst (pc := 51) (v := (1 : Int32)) dX4_add_51 (by decide) ?_
      refine E_iand (pc := 52) dX4_add_52 ?_
      refine E_iadd (pc := 53) dX4_add_53 ?_
      refine E_iast (pc := 54) dX4_add_54 hf (fun μ16 hf => ?_)
      refine E_iinc (pc := 55) (ls' := fun x17 => [(3, .int x17), (0, .ref a10)]) dX4_add_55 rfl (by decide) (fun _ => rfl) hf (fun x17 hf => ?_)
      refine E_goto (pc := 58) (tgt := 29) dX4_add_58 (by decide) ?_
      refine Ev.sub [1, 0] rfl ?_
      exact ih _ _ _ hf
set_option maxRecDepth 100000 in
def f_X4_add (μ0 : Mm) (a1 : Nat) (x2 : Int32) (x3 : Int32) : Option Mm :=
 ((gI μ0 a1 4 1).bind fun v4 =>
    (if v4 = 0 then
    ((pV μ0 a1 4 2 (.int x2)).bind fun μ5 =>
    ((pV μ5 a1 4 3 (.int x3)).bind fun μ6 =>
    ((gI μ6 a1 4 1).bind fun v7 =>
    ((pV μ6 a1 4 1 (.int (v7 + (1 : Int32)))).bind fun μ8 =>
    (nm (0 : Int32) fun x9 =>
    f_X4_add_L29 (fun μ18 =>
    (some μ18)) FU μ8 a1 x9)))))
    else
    ((gI μ0 a1 4 1).bind fun v19 =>
    ((pV μ0 a1 4 1 (.int (v19 + (1 : Int32)))).bind fun μ20 =>
    (nm (0 : Int32) fun x21 =>
    f_X4_add_L29 (fun μ22 =>
    (some μ22)) FU μ20 a1 x21)))))
set_option maxHeartbeats 4000000 in
set_option maxRecDepth 100000 in
theorem f_X4_add_ok {l : Launch} {G : GG} {μ0 : Mm} {a1 : Nat} {x2 : Int32} {x3 : Int32} {μ' : Mm} (hf : f_X4_add μ0 a1 x2 x3 = some μ') : EvM l G D_X4_add yX4_add cX4_add 4 none [.ref a1, .int x2, .int x3] μ0 none μ' := by
  show Ev l G D_X4_add yX4_add cX4_add 4 none 0 [(0, .ref a1), (1, .int x2), (2, .int x3)] [] μ0 none μ'
  unfold f_X4_add at hf
  refine E_aload_n (pc := 0) dX4_add_0 rfl ?_
  refine E_getI (pc := 1) dX4_add_1 fl_X4_9 hf (fun v4 hf => ?_)
  refine E_if_ne (pc := 4) (tgt := 17) dX4_add_4 (by decide) hf (fun hf => ?_) (fun hf => ?_)
  · refine E_aload_n (pc := 7) dX4_add_7 rfl ?_
    refine E_iload_n (pc := 8) dX4_add_8 rfl ?_
    refine E_putI (pc := 9) dX4_add_9 (pl_X4_15 _) hf (fun μ5 hf => ?_)
    refine E_aload_n (pc := 12) dX4_add_12 rfl ?_
    refine E_iload_n (pc := 13) dX4_add_13 rfl ?_
    refine E_putI (pc := 14) dX4_add_14 (pl_X4_18 _) hf (fun μ6 hf => ?_)
    refine E_aload_n (pc := 17) dX4_add_17 rfl ?_
    refine E_dup (pc := 18) dX4_add_18 rfl ?_
    refine E_getI (pc := 19) dX4_add_19 fl_X4_9 hf (fun v7 hf => ?_)
    refine E_iconst (pc := 22) (v := (1 : Int32)) dX4_add_22 (by decide) ?_
    refine E_iadd (pc := 23) dX4_add_23 ?_
    refine E_putI (pc := 24) dX4_add_24 (pl_X4_9 _) hf (fun μ8 hf => ?_)
    refine E_iconst (pc := 27) (v := (0 : Int32)) dX4_add_27 (by decide) ?_
    refine E_istore_n (pc := 28) (ls' := fun x9 => [(3, .int x9), (0, .ref a1), (1, .int x2), (2, .int x3)]) dX4_add_28 (by decide) (fun _ => rfl) hf (fun x9 hf => ?_)
    refine Ev.sub [1, 0] rfl ?_
    refine f_X4_add_L29_ok  _ _ _ _ hf (fun μ18 hf => ?_)
    · exact E_vret (pc := 61) dX4_add_61 rfl hf
  · refine E_aload_n (pc := 17) dX4_add_17 rfl ?_
    refine E_dup (pc := 18) dX4_add_18 rfl ?_
    refine E_getI (pc := 19) dX4_add_19 fl_X4_9 hf (fun v19 hf => ?_)
    refine E_iconst (pc := 22) (v := (1 : Int32)) dX4_add_22 (by decide) ?_
    refine E_iadd (pc := 23) dX4_add_23 ?_
    refine E_putI (pc := 24) dX4_add_24 (pl_X4_9 _) hf (fun μ20 hf => ?_)
    refine E_iconst (pc := 27) (v := (0 : Int32)) dX4_add_27 (by decide) ?_
    refine E_istore_n (pc := 28) (ls' := fun x21 => [(3, .int x21), (0, .ref a1), (1, .int x2), (2, .int x3)]) dX4_add_28 (by decide) (fun _ => rfl) hf (fun x21 hf => ?_)
    refine Ev.sub [1, 0] rfl ?_
    refine f_X4_add_L29_ok  _ _ _ _ hf (fun μ22 hf => ?_)
    · exact E_vret (pc := 61) dX4_add_61 rfl hf
theorem dX4_seek_0 : decode cX4_seek 0 = .ok (.aload_n 0, 1) := by decide +kernel
theorem dX4_seek_1 : decode cX4_seek 1 = .ok (.iconst 0, 1) := by decide +kernel
theorem dX4_seek_2 : decode cX4_seek 2 = .ok (.putfield 9, 3) := by decide +kernel
theorem dX4_seek_5 : decode cX4_seek 5 = .ok (.aload_n 0, 1) := by decide +kernel
theorem dX4_seek_6 : decode cX4_seek 6 = .ok (.getfield 21, 3) := by decide +kernel
theorem dX4_seek_9 : decode cX4_seek 9 = .ok (.iconst 0, 1) := by decide +kernel
theorem dX4_seek_10 : decode cX4_seek 10 = .ok (.invokestatic 29, 3) := by decide +kernel
theorem dX4_seek_13 : decode cX4_seek 13 = .ok (.iconst 0, 1) := by decide +kernel
theorem dX4_seek_14 : decode cX4_seek 14 = .ok (.istore 4, 2) := by decide +kernel
theorem dX4_seek_16 : decode cX4_seek 16 = .ok (.iload 4, 2) := by decide +kernel
theorem dX4_seek_18 : decode cX4_seek 18 = .ok (.aload_n 1, 1) := by decide +kernel
theorem dX4_seek_19 : decode cX4_seek 19 = .ok (.getfield 35, 3) := by decide +kernel
theorem dX4_seek_22 : decode cX4_seek 22 = .ok (.getfield 41, 3) := by decide +kernel
theorem dX4_seek_25 : decode cX4_seek 25 = .ok (.if_icmp .ge 82, 3) := by decide +kernel
theorem dX4_seek_28 : decode cX4_seek 28 = .ok (.iconst 0, 1) := by decide +kernel
theorem dX4_seek_29 : decode cX4_seek 29 = .ok (.istore 5, 2) := by decide +kernel
theorem dX4_seek_31 : decode cX4_seek 31 = .ok (.iload 5, 2) := by decide +kernel
theorem dX4_seek_33 : decode cX4_seek 33 = .ok (.iconst 5, 1) := by decide +kernel
theorem dX4_seek_34 : decode cX4_seek 34 = .ok (.if_icmp .ge 67, 3) := by decide +kernel
theorem dX4_seek_37 : decode cX4_seek 37 = .ok (.aload_n 0, 1) := by decide +kernel
theorem dX4_seek_38 : decode cX4_seek 38 = .ok (.getfield 25, 3) := by decide +kernel
theorem dX4_seek_41 : decode cX4_seek 41 = .ok (.aload_n 1, 1) := by decide +kernel
theorem dX4_seek_42 : decode cX4_seek 42 = .ok (.aload_n 2, 1) := by decide +kernel
theorem dX4_seek_43 : decode cX4_seek 43 = .ok (.iload_n 3, 1) := by decide +kernel
theorem dX4_seek_44 : decode cX4_seek 44 = .ok (.invokevirtual 46, 3) := by decide +kernel
theorem dX4_seek_47 : decode cX4_seek 47 = .ok (.aload_n 0, 1) := by decide +kernel
theorem dX4_seek_48 : decode cX4_seek 48 = .ok (.getfield 25, 3) := by decide +kernel
theorem dX4_seek_51 : decode cX4_seek 51 = .ok (.iload 4, 2) := by decide +kernel
theorem dX4_seek_53 : decode cX4_seek 53 = .ok (.putfield 52, 3) := by decide +kernel
theorem dX4_seek_56 : decode cX4_seek 56 = .ok (.aload_n 0, 1) := by decide +kernel
theorem dX4_seek_57 : decode cX4_seek 57 = .ok (.getfield 25, 3) := by decide +kernel
theorem dX4_seek_60 : decode cX4_seek 60 = .ok (.iconst 0, 1) := by decide +kernel
theorem dX4_seek_61 : decode cX4_seek 61 = .ok (.putfield 55, 3) := by decide +kernel
theorem dX4_seek_64 : decode cX4_seek 64 = .ok (.aload_n 0, 1) := by decide +kernel
theorem dX4_seek_65 : decode cX4_seek 65 = .ok (.getfield 25, 3) := by decide +kernel
theorem dX4_seek_68 : decode cX4_seek 68 = .ok (.iload 5, 2) := by decide +kernel
theorem dX4_seek_70 : decode cX4_seek 70 = .ok (.invokevirtual 58, 3) := by decide +kernel
theorem dX4_seek_73 : decode cX4_seek 73 = .ok (.aload_n 1, 1) := by decide +kernel
theorem dX4_seek_74 : decode cX4_seek 74 = .ok (.aload_n 0, 1) := by decide +kernel
theorem dX4_seek_75 : decode cX4_seek 75 = .ok (.getfield 25, 3) := by decide +kernel
theorem dX4_seek_78 : decode cX4_seek 78 = .ok (.getfield 62, 3) := by decide +kernel
theorem dX4_seek_81 : decode cX4_seek 81 = .ok (.invokevirtual 65, 3) := by decide +kernel
theorem dX4_seek_84 : decode cX4_seek 84 = .ok (.ifCond .eq 11, 3) := by decide +kernel
theorem dX4_seek_87 : decode cX4_seek 87 = .ok (.aload_n 0, 1) := by decide +kernel
theorem dX4_seek_88 : decode cX4_seek 88 = .ok (.iload 4, 2) := by decide +kernel
theorem dX4_seek_90 : decode cX4_seek 90 = .ok (.iload 5, 2) := by decide +kernel
theorem dX4_seek_92 : decode cX4_seek 92 = .ok (.invokevirtual 69, 3) := by decide +kernel
theorem dX4_seek_95 : decode cX4_seek 95 = .ok (.iinc 5 1, 3) := by decide +kernel
theorem dX4_seek_98 : decode cX4_seek 98 = .ok (.goto (-67), 3) := by decide +kernel
theorem dX4_seek_101 : decode cX4_seek 101 = .ok (.iinc 4 1, 3) := by decide +kernel
theorem dX4_seek_104 : decode cX4_seek 104 = .ok (.goto (-88), 3) := by decide +kernel
theorem dX4_seek_107 : decode cX4_seek 107 = .ok (.return_, 1) := by decide +kernel
abbrev D_X4_seek : Nat := 7
def f_X4_seek_L31 (K101 : Mm → Nat → Nat → Nat → Int32 → Int32 → Option Mm) : Nat → Mm → Nat → Nat → Nat → Int32 → Int32 → Int32 → Option Mm
  | 0, _, _, _, _, _, _, _ => none
  | n + 1, μ0, a17, a18, a19, x20, x21, x22 =>
    (if (5 : Int32) ≤ x22 then
    K101 μ0 a17 a18 a19 x20 x21
    else
    ((gR μ0 a17 4 0).bind fun v23 =>
    ((ob μ0 v23 0).bind fun _ =>
    ((f_X0_begin μ0 v23 a18 a19 x20).bind fun μ24 =>
    ((gR μ24 a17 4 0).bind fun v25 =>
    ((pV μ24 v25 0 5 (.int x21)).bind fun μ26 =>
    ((gR μ26 a17 4 0).bind fun v27 =>
    ((pV μ26 v27 0 4 (.int (0 : Int32))).bind fun μ28 =>
    ((gR μ28 a17 4 0).bind fun v29 =>
    ((ob μ28 v29 0).bind fun _ =>
    ((f_X0_run μ28 v29 x22).bind fun μ30 =>
    ((gR μ30 a17 4 0).bind fun v31 =>
    ((gI μ30 v31 0 8).bind fun v32 =>
    ((ob μ30 a18 7).bind fun _ =>
    (bd (f_X7_fitsClues μ30 a18 v32) fun v34 μ33 =>
    (if v34 = 0 then
    (nm (x22 + Int32.ofInt (1)) fun x35 =>
    f_X4_seek_L31 K101 n μ33 a17 a18 a19 x20 x21 x35)
    else
    ((ob μ33 a17 4).bind fun _ =>
    ((f_X4_add μ33 a17 x21 x22).bind fun μ36 =>
    (nm (x22 + Int32.ofInt (1)) fun x37 =>
    f_X4_seek_L31 K101 n μ36 a17 a18 a19 x20 x21 x37)))))))))))))))))))
set_option maxHeartbeats 4000000 in
set_option maxRecDepth 100000 in
theorem f_X4_seek_L31_ok {l : Launch} {G : GG} {K101 : Mm → Nat → Nat → Nat → Int32 → Int32 → Option Mm} {μ' : Mm} (n : Nat) (μ0 : Mm) (a17 : Nat) (a18 : Nat) (a19 : Nat) (x20 : Int32) (x21 : Int32) (x22 : Int32) (hf : f_X4_seek_L31 K101 n μ0 a17 a18 a19 x20 x21 x22 = some μ') (hK101 : ∀ (μ1 : Mm) (y0 : Nat) (y1 : Nat) (y2 : Nat) (y3 : Int32) (y4 : Int32), K101 μ1 y0 y1 y2 y3 y4 = some μ' → Ev l G D_X4_seek yX4_seek cX4_seek 6 none 101 [(0, .ref y0), (1, .ref y1), (2, .ref y2), (3, .int y3), (4, .int y4)] [] μ1 none μ') : Ev l G D_X4_seek yX4_seek cX4_seek 6 none 31 [(0, .ref a17), (1, .ref a18), (2, .ref a19), (3, .int x20), (4, .int x21), (5, .int x22)] [] μ0 none μ' := by
  induction n generalizing μ0 a17 a18 a19 x20 x21 x22 with
  | zero => cases hf
  | succ n ih0 =>
    have ih : ∀ (μ0 : Mm) (a17 : Nat) (a18 : Nat) (a19 : Nat) (x20 : Int32) (x21 : Int32) (x22 : Int32), f_X4_seek_L31 K101 n μ0 a17 a18 a19 x20 x21 x22 = some μ' → Ev l G D_X4_seek yX4_seek cX4_seek 6 none 31 [(0, .ref a17), (1, .ref a18), (2, .ref a19), (3, .int x20), (4, .int x21), (5, .int x22)] [] μ0 none μ' := fun μ0 a17 a18 a19 x20 x21 x22 hf => ih0 μ0 a17 a18 a19 x20 x21 x22 hf
    rw [f_X4_seek_L31] at hf
    refine E_iload (pc := 31) dX4_seek_31 rfl ?_
    refine E_iconst (pc := 33) (v := (5 : Int32)) dX4_seek_33 (by decide) ?_
    refine E_icmp_ge (pc := 34) (tgt := 101) dX4_seek_34 (by decide) hf (fun hf => ?_) (fun hf => ?_)
    · refine Ev.sub [0, 1, 2, 3, 4] rfl ?_
      exact hK101 _ _ _ _ _ _ hf
    · refine E_aload_n (pc := 37) dX4_seek_37 rfl ?_
      refine E_getR (pc := 38) dX4_seek_38 fl_X4_25 hf (fun v23 hf => ?_)
      refine E_aload_n (pc := 41) dX4_seek_41 rfl ?_
      refine E_aload_n (pc := 42) dX4_seek_42 rfl ?_
      refine E_iload_n (pc := 43) dX4_seek_43 rfl ?_
      refine E_Vv (pc := 44) (d2 := D_X0_begin) (ci := 0) [.ref a18, .ref a19, .int x20] dX4_seek_44 ml_X4_46 mf_X0_begin im_X0_begin rfl rfl rfl (by decide) (Nat.le_of_ble_eq_true rfl) (Nat.le_of_ble_eq_true rfl) rfl (fun _ h => f_X0_begin_ok h) hf (fun μ24 hf => ?_)
      refine E_aload_n (pc := 47) dX4_seek_47 rfl ?_
      refine E_getR (pc := 48) dX4_seek_48 fl_X4_25 hf (fun v25 hf => ?_)
      refine E_iload (pc := 51) dX4_seek_51 rfl ?_
      refine E_putI (pc := 53) dX4_seek_53 (pl_X4_52 _) hf (fun μ26 hf => ?_)
      refine E_aload_n (pc := 56) dX4_seek_56 rfl ?_
      refine E_getR (pc := 57) dX4_seek_57 fl_X4_25 hf (fun v27 hf => ?_)
      refine E_iconst (pc := 60) (v := (0 : Int32)) dX4_seek_60 (by decide) ?_
      refine E_putI (pc := 61) dX4_seek_61 (pl_X4_55 _) hf (fun μ28 hf => ?_)
      refine E_aload_n (pc := 64) dX4_seek_64 rfl ?_
      refine E_getR (pc := 65) dX4_seek_65 fl_X4_25 hf (fun v29 hf => ?_)
      refine E_iload (pc := 68) dX4_seek_68 rfl ?_
      refine E_Vv (pc := 70) (d2 := D_X0_run) (ci := 0) [.int x22] dX4_seek_70 ml_X4_58 mf_X0_run im_X0_run rfl rfl rfl (by decide) (Nat.le_of_ble_eq_true rfl) (Nat.le_of_ble_eq_true rfl) rfl (fun _ h => f_X0_run_ok h) hf (fun μ30 hf => ?_)
      refine E_aload_n (pc := 73) dX4_seek_73 rfl ?_
      refine E_aload_n (pc := 74) dX4_seek_74 rfl ?_
      refine E_getR (pc := 75) dX4_seek_75 fl_X4_25 hf (fun v31 hf => ?_)
      refine E_getI (pc := 78) dX4_seek_78 fl_X4_62 hf (fun v32 hf => ?_)
      refine E_Vi (pc := 81) (d2 := D_X7_fitsClues) (ci := 7) [.int v32] dX4_seek_81 ml_X4_65 mf_X7_fitsClues im_X7_fitsClues rfl rfl rfl (by decide) (Nat.le_of_ble_eq_true rfl) (Nat.le_of_ble_eq_true rfl) rfl (fun _ _ h => f_X7_fitsClues_ok h) hf (fun v34 μ33 hf => ?_)
      refine E_if_eq (pc := 84) (tgt := 95) dX4_seek_84 (by decide) hf (fun hf => ?_) (fun hf => ?_)
      · refine E_iinc (pc := 95) (ls' := fun x35 => [(5, .int x35), (0, .ref a17), (1, .ref a18), (2, .ref a19), (3, .int x20), (4, .int x21)]) dX4_seek_95 rfl (by decide) (fun _ => rfl) hf (fun x35 hf => ?_)
        refine E_goto (pc := 98) (tgt := 31) dX4_seek_98 (by decide) ?_
        refine Ev.sub [1, 2, 3, 4, 5, 0] rfl ?_
        exact ih _ _ _ _ _ _ _ hf
      · refine E_aload_n (pc := 87) dX4_seek_87 rfl ?_
        refine E_iload (pc := 88) dX4_seek_88 rfl ?_
        refine E_iload (pc := 90) dX4_seek_90 rfl ?_
        refine E_Vv (pc := 92) (d2 := D_X4_add) (ci := 4) [.int x21, .int x22] dX4_seek_92 ml_X4_69 mf_X4_add im_X4_add rfl rfl rfl (by decide) (Nat.le_of_ble_eq_true rfl) (Nat.le_of_ble_eq_true rfl) rfl (fun _ h => f_X4_add_ok h) hf (fun μ36 hf => ?_)
        refine E_iinc (pc := 95) (ls' := fun x37 => [(5, .int x37), (0, .ref a17), (1, .ref a18), (2, .ref a19), (3, .int x20), (4, .int x21)]) dX4_seek_95 rfl (by decide) (fun _ => rfl) hf (fun x37 hf => ?_)
        refine E_goto (pc := 98) (tgt := 31) dX4_seek_98 (by decide) ?_
        refine Ev.sub [1, 2, 3, 4, 5, 0] rfl ?_
        exact ih _ _ _ _ _ _ _ hf
def f_X4_seek_L16 (K107 : Mm → Option Mm) : Nat → Mm → Nat → Nat → Nat → Int32 → Int32 → Option Mm
  | 0, _, _, _, _, _, _ => none
  | n + 1, μ0, a9, a10, a11, x12, x13 =>
    ((gR μ0 a10 7 0).bind fun v14 =>
    ((gI μ0 v14 1 2).bind fun v15 =>
    (if v15 ≤ x13 then
    K107 μ0
    else
    (nm (0 : Int32) fun x16 =>
    f_X4_seek_L31 (fun μ38 a39 a40 a41 x42 x43 =>
    (nm (x43 + Int32.ofInt (1)) fun x44 =>
    f_X4_seek_L16 K107 n μ38 a39 a40 a41 x42 x44)) FU μ0 a9 a10 a11 x12 x13 x16))))
set_option maxHeartbeats 4000000 in
set_option maxRecDepth 100000 in
theorem f_X4_seek_L16_ok {l : Launch} {G : GG} {K107 : Mm → Option Mm} {μ' : Mm} (n : Nat) (μ0 : Mm) (a9 : Nat) (a10 : Nat) (a11 : Nat) (x12 : Int32) (x13 : Int32) (hf : f_X4_seek_L16 K107 n μ0 a9 a10 a11 x12 x13 = some μ') (hK107 : ∀ (μ1 : Mm), K107 μ1  = some μ' → Ev l G D_X4_seek yX4_seek cX4_seek 6 none 107 [] [] μ1 none μ') : Ev l G D_X4_seek yX4_seek cX4_seek 6 none 16 [(0, .ref a9), (1, .ref a10), (2, .ref a11), (3, .int x12), (4, .int x13)] [] μ0 none μ' := by
  induction n generalizing μ0 a9 a10 a11 x12 x13 with
  | zero => cases hf
  | succ n ih0 =>
    have ih : ∀ (μ0 : Mm) (a9 : Nat) (a10 : Nat) (a11 : Nat) (x12 : Int32) (x13 : Int32), f_X4_seek_L16 K107 n μ0 a9 a10 a11 x12 x13 = some μ' → Ev l G D_X4_seek yX4_seek cX4_seek 6 none 16 [(0, .ref a9), (1, .ref a10), (2, .ref a11), (3, .int x12), (4, .int x13)] [] μ0 none μ' := fun μ0 a9 a10 a11 x12 x13 hf => ih0 μ0 a9 a10 a11 x12 x13 hf
    rw [f_X4_seek_L16] at hf
    refine E_iload (pc := 16) dX4_seek_16 rfl ?_
    refine E_aload_n (pc := 18) dX4_seek_18 rfl ?_
    refine E_getR (pc := 19) dX4_seek_19 fl_X4_35 hf (fun v14 hf => ?_)
    refine E_getI (pc := 22) dX4_seek_22 fl_X4_41 hf (fun v15 hf => ?_)
    refine E_icmp_ge (pc := 25) (tgt := 107) dX4_seek_25 (by decide) hf (fun hf => ?_) (fun hf => ?_)
    · refine Ev.sub [] rfl ?_
      exact hK107 _ hf
    · refine E_iconst (pc := 28) (v := (0 : Int32)) dX4_seek_28 (by decide) ?_
      refine E_istore (pc := 29) (ls' := fun x16 => [(5, .int x16), (0, .ref a9), (1, .ref a10), (2, .ref a11), (3, .int x12), (4, .int x13)]) dX4_seek_29 (by decide) (fun _ => rfl) hf (fun x16 hf => ?_)
      refine Ev.sub [1, 2, 3, 4, 5, 0] rfl ?_
      refine f_X4_seek_L31_ok  _ _ _ _ _ _ _ _ hf (fun μ38 a39 a40 a41 x42 x43 hf => ?_)
      · refine E_iinc (pc := 101) (ls' := fun x44 => [(4, .int x44), (0, .ref a39), (1, .ref a40), (2, .ref a41), (3, .int x42)]) dX4_seek_101 rfl (by decide) (fun _ => rfl) hf (fun x44 hf => ?_)
        refine E_goto (pc := 104) (tgt := 16) dX4_seek_104 (by decide) ?_
        refine Ev.sub [1, 2, 3, 4, 0] rfl ?_
        exact ih _ _ _ _ _ _ hf
set_option maxRecDepth 100000 in
def f_X4_seek (μ0 : Mm) (a1 : Nat) (a2 : Nat) (a3 : Nat) (x4 : Int32) : Option Mm :=
 ((pV μ0 a1 4 1 (.int (0 : Int32))).bind fun μ5 =>
    ((gR μ5 a1 4 4).bind fun v6 =>
    ((f_J7_fill_53178 μ5 v6 (0 : Int32)).bind fun μ7 =>
    (nm (0 : Int32) fun x8 =>
    f_X4_seek_L16 (fun μ45 =>
    (some μ45)) FU μ7 a1 a2 a3 x4 x8))))
set_option maxHeartbeats 4000000 in
set_option maxRecDepth 100000 in
theorem f_X4_seek_ok {l : Launch} {G : GG} {μ0 : Mm} {a1 : Nat} {a2 : Nat} {a3 : Nat} {x4 : Int32} {μ' : Mm} (hf : f_X4_seek μ0 a1 a2 a3 x4 = some μ') : EvM l G D_X4_seek yX4_seek cX4_seek 6 none [.ref a1, .ref a2, .ref a3, .int x4] μ0 none μ' := by
  show Ev l G D_X4_seek yX4_seek cX4_seek 6 none 0 [(0, .ref a1), (1, .ref a2), (2, .ref a3), (3, .int x4)] [] μ0 none μ'
  unfold f_X4_seek at hf
  refine E_aload_n (pc := 0) dX4_seek_0 rfl ?_
  refine E_iconst (pc := 1) (v := (0 : Int32)) dX4_seek_1 (by decide) ?_
  refine E_putI (pc := 2) dX4_seek_2 (pl_X4_9 _) hf (fun μ5 hf => ?_)
  refine E_aload_n (pc := 5) dX4_seek_5 rfl ?_
  refine E_getR (pc := 6) dX4_seek_6 fl_X4_21 hf (fun v6 hf => ?_)
  refine E_iconst (pc := 9) (v := (0 : Int32)) dX4_seek_9 (by decide) ?_
  refine E_Sv (pc := 10) (d2 := D_J7_fill_53178) [.ref v6, .int (0 : Int32)] dX4_seek_10 ml_X4_29 mf_J7_fill_53178 st_J7_fill_53178 rfl (by decide) (Nat.le_of_ble_eq_true rfl) (Nat.le_of_ble_eq_true rfl) rfl (fun _ h => f_J7_fill_53178_ok h) hf (fun μ7 hf => ?_)
  refine E_iconst (pc := 13) (v := (0 : Int32)) dX4_seek_13 (by decide) ?_
  refine E_istore (pc := 14) (ls' := fun x8 => [(4, .int x8), (0, .ref a1), (1, .ref a2), (2, .ref a3), (3, .int x4)]) dX4_seek_14 (by decide) (fun _ => rfl) hf (fun x8 hf => ?_)
  refine Ev.sub [1, 2, 3, 4, 0] rfl ?_
  refine f_X4_seek_L16_ok  _ _ _ _ _ _ _ hf (fun μ45 hf => ?_)
  · exact E_vret (pc := 107) dX4_seek_107 rfl hf
theorem dX4_greaterPart_0 : decode cX4_greaterPart 0 = .ok (.aload_n 0, 1) := by decide +kernel
theorem dX4_greaterPart_1 : decode cX4_greaterPart 1 = .ok (.getfield 21, 3) := by decide +kernel
theorem dX4_greaterPart_4 : decode cX4_greaterPart 4 = .ok (.iload_n 1, 1) := by decide +kernel
theorem dX4_greaterPart_5 : decode cX4_greaterPart 5 = .ok (.iaload, 1) := by decide +kernel
theorem dX4_greaterPart_6 : decode cX4_greaterPart 6 = .ok (.aload_n 0, 1) := by decide +kernel
theorem dX4_greaterPart_7 : decode cX4_greaterPart 7 = .ok (.getfield 9, 3) := by decide +kernel
theorem dX4_greaterPart_10 : decode cX4_greaterPart 10 = .ok (.aload_n 0, 1) := by decide +kernel
theorem dX4_greaterPart_11 : decode cX4_greaterPart 11 = .ok (.getfield 21, 3) := by decide +kernel
theorem dX4_greaterPart_14 : decode cX4_greaterPart 14 = .ok (.iload_n 1, 1) := by decide +kernel
theorem dX4_greaterPart_15 : decode cX4_greaterPart 15 = .ok (.iaload, 1) := by decide +kernel
theorem dX4_greaterPart_16 : decode cX4_greaterPart 16 = .ok (.isub, 1) := by decide +kernel
theorem dX4_greaterPart_17 : decode cX4_greaterPart 17 = .ok (.invokestatic 73, 3) := by decide +kernel
theorem dX4_greaterPart_20 : decode cX4_greaterPart 20 = .ok (.ireturn, 1) := by decide +kernel
abbrev D_X4_greaterPart : Nat := 1
set_option maxRecDepth 100000 in
def f_X4_greaterPart (μ0 : Mm) (a1 : Nat) (x2 : Int32) : Option (Int32 × Mm) :=
 ((gR μ0 a1 4 4).bind fun v3 =>
    ((aI μ0 v3 0 x2).bind fun v4 =>
    ((gI μ0 a1 4 1).bind fun v5 =>
    ((gR μ0 a1 4 4).bind fun v6 =>
    ((aI μ0 v6 0 x2).bind fun v7 =>
    (some ((if v4 < (v5 - v7) then (v5 - v7) else v4), μ0)))))))
set_option maxHeartbeats 4000000 in
set_option maxRecDepth 100000 in
theorem f_X4_greaterPart_ok {l : Launch} {G : GG} {μ0 : Mm} {a1 : Nat} {x2 : Int32} {r : Int32} {μ' : Mm} (hf : f_X4_greaterPart μ0 a1 x2 = some (r, μ')) : EvM l G D_X4_greaterPart yX4_greaterPart cX4_greaterPart 2 (some .int) [.ref a1, .int x2] μ0 (some (.int r)) μ' := by
  show Ev l G D_X4_greaterPart yX4_greaterPart cX4_greaterPart 2 (some .int) 0 [(0, .ref a1), (1, .int x2)] [] μ0 (some (.int r)) μ'
  unfold f_X4_greaterPart at hf
  refine E_aload_n (pc := 0) dX4_greaterPart_0 rfl ?_
  refine E_getR (pc := 1) dX4_greaterPart_1 fl_X4_21 hf (fun v3 hf => ?_)
  refine E_iload_n (pc := 4) dX4_greaterPart_4 rfl ?_
  refine E_iald (pc := 5) dX4_greaterPart_5 hf (fun v4 hf => ?_)
  refine E_aload_n (pc := 6) dX4_greaterPart_6 rfl ?_
  refine E_getI (pc := 7) dX4_greaterPart_7 fl_X4_9 hf (fun v5 hf => ?_)
  refine E_aload_n (pc := 10) dX4_greaterPart_10 rfl ?_
  refine E_getR (pc := 11) dX4_greaterPart_11 fl_X4_21 hf (fun v6 hf => ?_)
  refine E_iload_n (pc := 14) dX4_greaterPart_14 rfl ?_
  refine E_iald (pc := 15) dX4_greaterPart_15 hf (fun v7 hf => ?_)
  refine E_isub (pc := 16) dX4_greaterPart_16 ?_
  refine E_max (pc := 17) dX4_greaterPart_17 ml_X4_73 (by decide) (Nat.le_of_ble_eq_true rfl) ?_
  exact E_iret (pc := 20) dX4_greaterPart_20 rfl hf
theorem dX4_bestShard_0 : decode cX4_bestShard 0 = .ok (.iconst (-1), 1) := by decide +kernel
theorem dX4_bestShard_1 : decode cX4_bestShard 1 = .ok (.istore_n 2, 1) := by decide +kernel
theorem dX4_bestShard_2 : decode cX4_bestShard 2 = .ok (.iconst 0, 1) := by decide +kernel
theorem dX4_bestShard_3 : decode cX4_bestShard 3 = .ok (.istore_n 3, 1) := by decide +kernel
theorem dX4_bestShard_4 : decode cX4_bestShard 4 = .ok (.iload_n 3, 1) := by decide +kernel
theorem dX4_bestShard_5 : decode cX4_bestShard 5 = .ok (.iload_n 1, 1) := by decide +kernel
theorem dX4_bestShard_6 : decode cX4_bestShard 6 = .ok (.if_icmp .ge 29, 3) := by decide +kernel
theorem dX4_bestShard_9 : decode cX4_bestShard 9 = .ok (.iload_n 2, 1) := by decide +kernel
theorem dX4_bestShard_10 : decode cX4_bestShard 10 = .ok (.iconst (-1), 1) := by decide +kernel
theorem dX4_bestShard_11 : decode cX4_bestShard 11 = .ok (.if_icmp .eq 16, 3) := by decide +kernel
theorem dX4_bestShard_14 : decode cX4_bestShard 14 = .ok (.aload_n 0, 1) := by decide +kernel
theorem dX4_bestShard_15 : decode cX4_bestShard 15 = .ok (.iload_n 3, 1) := by decide +kernel
theorem dX4_bestShard_16 : decode cX4_bestShard 16 = .ok (.invokevirtual 79, 3) := by decide +kernel
theorem dX4_bestShard_19 : decode cX4_bestShard 19 = .ok (.aload_n 0, 1) := by decide +kernel
theorem dX4_bestShard_20 : decode cX4_bestShard 20 = .ok (.iload_n 2, 1) := by decide +kernel
theorem dX4_bestShard_21 : decode cX4_bestShard 21 = .ok (.invokevirtual 79, 3) := by decide +kernel
theorem dX4_bestShard_24 : decode cX4_bestShard 24 = .ok (.if_icmp .ge 5, 3) := by decide +kernel
theorem dX4_bestShard_27 : decode cX4_bestShard 27 = .ok (.iload_n 3, 1) := by decide +kernel
theorem dX4_bestShard_28 : decode cX4_bestShard 28 = .ok (.istore_n 2, 1) := by decide +kernel
theorem dX4_bestShard_29 : decode cX4_bestShard 29 = .ok (.iinc 3 1, 3) := by decide +kernel
theorem dX4_bestShard_32 : decode cX4_bestShard 32 = .ok (.goto (-28), 3) := by decide +kernel
theorem dX4_bestShard_35 : decode cX4_bestShard 35 = .ok (.iload_n 2, 1) := by decide +kernel
theorem dX4_bestShard_36 : decode cX4_bestShard 36 = .ok (.ireturn, 1) := by decide +kernel
abbrev D_X4_bestShard : Nat := 2
def f_X4_bestShard_L4 (K35 : Mm → Int32 → Option (Int32 × Mm)) : Nat → Mm → Nat → Int32 → Int32 → Int32 → Option (Int32 × Mm)
  | 0, _, _, _, _, _ => none
  | n + 1, μ0, a5, x6, x7, x8 =>
    (if x6 ≤ x8 then
    K35 μ0 x7
    else
    (if x7 = (-1 : Int32) then
    (nm x8 fun x9 =>
    (nm (x8 + Int32.ofInt (1)) fun x10 =>
    f_X4_bestShard_L4 K35 n μ0 a5 x6 x9 x10))
    else
    ((ob μ0 a5 4).bind fun _ =>
    (bd (f_X4_greaterPart μ0 a5 x8) fun v12 μ11 =>
    ((ob μ11 a5 4).bind fun _ =>
    (bd (f_X4_greaterPart μ11 a5 x7) fun v14 μ13 =>
    (if v14 ≤ v12 then
    (nm (x8 + Int32.ofInt (1)) fun x15 =>
    f_X4_bestShard_L4 K35 n μ13 a5 x6 x7 x15)
    else
    (nm x8 fun x16 =>
    (nm (x8 + Int32.ofInt (1)) fun x17 =>
    f_X4_bestShard_L4 K35 n μ13 a5 x6 x16 x17)))))))))
set_option maxHeartbeats 4000000 in
set_option maxRecDepth 100000 in
theorem f_X4_bestShard_L4_ok {l : Launch} {G : GG} {K35 : Mm → Int32 → Option (Int32 × Mm)} {r : Int32} {μ' : Mm} (n : Nat) (μ0 : Mm) (a5 : Nat) (x6 : Int32) (x7 : Int32) (x8 : Int32) (hf : f_X4_bestShard_L4 K35 n μ0 a5 x6 x7 x8 = some (r, μ')) (hK35 : ∀ (μ1 : Mm) (y2 : Int32), K35 μ1 y2 = some (r, μ') → Ev l G D_X4_bestShard yX4_bestShard cX4_bestShard 4 (some .int) 35 [(2, .int y2)] [] μ1 (some (.int r)) μ') : Ev l G D_X4_bestShard yX4_bestShard cX4_bestShard 4 (some .int) 4 [(0, .ref a5), (1, .int x6), (2, .int x7), (3, .int x8)] [] μ0 (some (.int r)) μ' := by
  induction n generalizing μ0 a5 x6 x7 x8 with
  | zero => cases hf
  | succ n ih0 =>
    have ih : ∀ (μ0 : Mm) (a5 : Nat) (x6 : Int32) (x7 : Int32) (x8 : Int32), f_X4_bestShard_L4 K35 n μ0 a5 x6 x7 x8 = some (r, μ') → Ev l G D_X4_bestShard yX4_bestShard cX4_bestShard 4 (some .int) 4 [(0, .ref a5), (1, .int x6), (2, .int x7), (3, .int x8)] [] μ0 (some (.int r)) μ' := fun μ0 a5 x6 x7 x8 hf => ih0 μ0 a5 x6 x7 x8 hf
    rw [f_X4_bestShard_L4] at hf
    refine E_iload_n (pc := 4) dX4_bestShard_4 rfl ?_
    refine E_iload_n (pc := 5) dX4_bestShard_5 rfl ?_
    refine E_icmp_ge (pc := 6) (tgt := 35) dX4_bestShard_6 (by decide) hf (fun hf => ?_) (fun hf => ?_)
    · refine Ev.sub [2] rfl ?_
      exact hK35 _ _ hf
    · refine E_iload_n (pc := 9) dX4_bestShard_9 rfl ?_
      refine E_iconst (pc := 10) (v := (-1 : Int32)) dX4_bestShard_10 (by decide) ?_
      refine E_icmp_eq (pc := 11) (tgt := 27) dX4_bestShard_11 (by decide) hf (fun hf => ?_) (fun hf => ?_)
      · refine E_iload_n (pc := 27) dX4_bestShard_27 rfl ?_
        refine E_istore_n (pc := 28) (ls' := fun x9 => [(2, .int x9), (0, .ref a5), (1, .int x6), (3, .int x8)]) dX4_bestShard_28 (by decide) (fun _ => rfl) hf (fun x9 hf => ?_)
        refine E_iinc (pc := 29) (ls' := fun x10 => [(3, .int x10), (2, .int x9), (0, .ref a5), (1, .int x6)]) dX4_bestShard_29 rfl (by decide) (fun _ => rfl) hf (fun x10 hf => ?_)
        refine E_goto (pc := 32) (tgt := 4) dX4_bestShard_32 (by decide) ?_
        refine Ev.sub [2, 3, 1, 0] rfl ?_
        exact ih _ _ _ _ _ hf
      · refine E_aload_n (pc := 14) dX4_bestShard_14 rfl ?_
        refine E_iload_n (pc := 15) dX4_bestShard_15 rfl ?_
        refine E_Vi (pc := 16) (d2 := D_X4_greaterPart) (ci := 4) [.int x8] dX4_bestShard_16 ml_X4_79 mf_X4_greaterPart im_X4_greaterPart rfl rfl rfl (by decide) (Nat.le_of_ble_eq_true rfl) (Nat.le_of_ble_eq_true rfl) rfl (fun _ _ h => f_X4_greaterPart_ok h) hf (fun v12 μ11 hf => ?_)
        refine E_aload_n (pc := 19) dX4_bestShard_19 rfl ?_
        refine E_iload_n (pc := 20) dX4_bestShard_20 rfl ?_
        refine E_Vi (pc := 21) (d2 := D_X4_greaterPart) (ci := 4) [.int x7] dX4_bestShard_21 ml_X4_79 mf_X4_greaterPart im_X4_greaterPart rfl rfl rfl (by decide) (Nat.le_of_ble_eq_true rfl) (Nat.le_of_ble_eq_true rfl) rfl (fun _ _ h => f_X4_greaterPart_ok h) hf (fun v14 μ13 hf => ?_)
        refine E_icmp_ge (pc := 24) (tgt := 29) dX4_bestShard_24 (by decide) hf (fun hf => ?_) (fun hf => ?_)
        · refine E_iinc (pc := 29) (ls' := fun x15 => [(3, .int x15), (0, .ref a5), (1, .int x6), (2, .int x7)]) dX4_bestShard_29 rfl (by decide) (fun _ => rfl) hf (fun x15 hf => ?_)
          refine E_goto (pc := 32) (tgt := 4) dX4_bestShard_32 (by decide) ?_
          refine Ev.sub [1, 2, 3, 0] rfl ?_
          exact ih _ _ _ _ _ hf
        · refine E_iload_n (pc := 27) dX4_bestShard_27 rfl ?_
          refine E_istore_n (pc := 28) (ls' := fun x16 => [(2, .int x16), (0, .ref a5), (1, .int x6), (3, .int x8)]) dX4_bestShard_28 (by decide) (fun _ => rfl) hf (fun x16 hf => ?_)
          refine E_iinc (pc := 29) (ls' := fun x17 => [(3, .int x17), (2, .int x16), (0, .ref a5), (1, .int x6)]) dX4_bestShard_29 rfl (by decide) (fun _ => rfl) hf (fun x17 hf => ?_)
          refine E_goto (pc := 32) (tgt := 4) dX4_bestShard_32 (by decide) ?_
          refine Ev.sub [2, 3, 1, 0] rfl ?_
          exact ih _ _ _ _ _ hf
set_option maxRecDepth 100000 in
def f_X4_bestShard (μ0 : Mm) (a1 : Nat) (x2 : Int32) : Option (Int32 × Mm) :=
 (nm (-1 : Int32) fun x3 =>
    (nm (0 : Int32) fun x4 =>
    f_X4_bestShard_L4 (fun μ18 x19 =>
    (some (x19, μ18))) FU μ0 a1 x2 x3 x4))
set_option maxHeartbeats 4000000 in
set_option maxRecDepth 100000 in
theorem f_X4_bestShard_ok {l : Launch} {G : GG} {μ0 : Mm} {a1 : Nat} {x2 : Int32} {r : Int32} {μ' : Mm} (hf : f_X4_bestShard μ0 a1 x2 = some (r, μ')) : EvM l G D_X4_bestShard yX4_bestShard cX4_bestShard 4 (some .int) [.ref a1, .int x2] μ0 (some (.int r)) μ' := by
  show Ev l G D_X4_bestShard yX4_bestShard cX4_bestShard 4 (some .int) 0 [(0, .ref a1), (1, .int x2)] [] μ0 (some (.int r)) μ'
  unfold f_X4_bestShard at hf
  refine E_iconst (pc := 0) (v := (-1 : Int32)) dX4_bestShard_0 (by decide) ?_
  refine E_istore_n (pc := 1) (ls' := fun x3 => [(2, .int x3), (0, .ref a1), (1, .int x2)]) dX4_bestShard_1 (by decide) (fun _ => rfl) hf (fun x3 hf => ?_)
  refine E_iconst (pc := 2) (v := (0 : Int32)) dX4_bestShard_2 (by decide) ?_
  refine E_istore_n (pc := 3) (ls' := fun x4 => [(3, .int x4), (2, .int x3), (0, .ref a1), (1, .int x2)]) dX4_bestShard_3 (by decide) (fun _ => rfl) hf (fun x4 hf => ?_)
  refine Ev.sub [2, 3, 1, 0] rfl ?_
  refine f_X4_bestShard_L4_ok  _ _ _ _ _ _ hf (fun μ18 x19 hf => ?_)
  · refine E_iload_n (pc := 35) dX4_bestShard_35 rfl ?_
    exact E_iret (pc := 36) dX4_bestShard_36 rfl hf
