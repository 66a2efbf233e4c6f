theorem dX9_init_0 : decode cX9_init 0 = .ok (.aload_n 0, 1) := by decide +kernel
theorem dX9_init_1 : decode cX9_init 1 = .ok (.invokespecial 3, 3) := by decide +kernel
theorem dX9_init_4 : decode cX9_init 4 = .ok (.aload_n 0, 1) := by decide +kernel
theorem dX9_init_5 : decode cX9_init 5 = .ok (.sipush 400, 3) := by decide +kernel
theorem dX9_init_8 : decode cX9_init 8 = .ok (.newarray .byte, 2) := by decide +kernel
theorem dX9_init_10 : decode cX9_init 10 = .ok (.putfield 9, 3) := by decide +kernel
theorem dX9_init_13 : decode cX9_init 13 = .ok (.aload_n 0, 1) := by decide +kernel
theorem dX9_init_14 : decode cX9_init 14 = .ok (.iconst 0, 1) := by decide +kernel
theorem dX9_init_15 : decode cX9_init 15 = .ok (.putfield 15, 3) := by decide +kernel
theorem dX9_init_18 : decode cX9_init 18 = .ok (.aload_n 0, 1) := by decide +kernel
theorem dX9_init_19 : decode cX9_init 19 = .ok (.iconst 0, 1) := by decide +kernel
theorem dX9_init_20 : decode cX9_init 20 = .ok (.putfield 19, 3) := by decide +kernel
theorem dX9_init_23 : decode cX9_init 23 = .ok (.aload_n 0, 1) := by decide +kernel
theorem dX9_init_24 : decode cX9_init 24 = .ok (.iconst 0, 1) := by decide +kernel
theorem dX9_init_25 : decode cX9_init 25 = .ok (.putfield 22, 3) := by decide +kernel
theorem dX9_init_28 : decode cX9_init 28 = .ok (.return_, 1) := by decide +kernel
abbrev D_X9_init : Nat := 1
set_option maxRecDepth 100000 in
def f_X9_init (μ0 : Mm) (a1 : Nat) : Option Mm :=
 (bd (nA μ0 1 (400 : Int32)) fun a2 μ3 =>
    ((pV μ3 a1 9 0 (.ref a2)).bind fun μ4 =>
    ((pV μ4 a1 9 1 (.int (0 : Int32))).bind fun μ5 =>
    ((pV μ5 a1 9 2 (.int (0 : Int32))).bind fun μ6 =>
    ((pV μ6 a1 9 3 (.int (0 : Int32))).bind fun μ7 =>
    (some μ7))))))
set_option maxHeartbeats 4000000 in
set_option maxRecDepth 100000 in
theorem f_X9_init_ok {l : Launch} {G : GG} {μ0 : Mm} {a1 : Nat} {μ' : Mm} (hf : f_X9_init μ0 a1 = some μ') : EvM l G D_X9_init yX9_init cX9_init 1 none [.ref a1] μ0 none μ' := by
  show Ev l G D_X9_init yX9_init cX9_init 1 none 0 [(0, .ref a1)] [] μ0 none μ'
  unfold f_X9_init at hf
  refine E_aload_n (pc := 0) dX9_init_0 rfl ?_
  refine E_objI (pc := 1) dX9_init_1 (by decide) (Nat.le_of_ble_eq_true rfl) ml_X9_3 ?_
  refine E_aload_n (pc := 4) dX9_init_4 rfl ?_
  refine E_sipush (pc := 5) (v := (400 : Int32)) dX9_init_5 (by decide) ?_
  refine E_newa2 (pc := 8) dX9_init_8 (by decide) ac_byte hf (fun a2 μ3 hf => ?_)
  refine E_putA (pc := 10) dX9_init_10 pl_X9_9 hf (fun μ4 hf => ?_)
  refine E_aload_n (pc := 13) dX9_init_13 rfl ?_
  refine E_iconst (pc := 14) (v := (0 : Int32)) dX9_init_14 (by decide) ?_
  refine E_putI (pc := 15) dX9_init_15 (pl_X9_15 _) hf (fun μ5 hf => ?_)
  refine E_aload_n (pc := 18) dX9_init_18 rfl ?_
  refine E_iconst (pc := 19) (v := (0 : Int32)) dX9_init_19 (by decide) ?_
  refine E_putI (pc := 20) dX9_init_20 (pl_X9_19 _) hf (fun μ6 hf => ?_)
  refine E_aload_n (pc := 23) dX9_init_23 rfl ?_
  refine E_iconst (pc := 24) (v := (0 : Int32)) dX9_init_24 (by decide) ?_
  refine E_putI (pc := 25) dX9_init_25 (pl_X9_22 _) hf (fun μ7 hf => ?_)
  exact E_vret (pc := 28) dX9_init_28 rfl hf
theorem dX9_append_0 : decode cX9_append 0 = .ok (.bipush 24, 2) := by decide +kernel
theorem dX9_append_2 : decode cX9_append 2 = .ok (.istore_n 2, 1) := by decide +kernel
theorem dX9_append_3 : decode cX9_append 3 = .ok (.iload_n 2, 1) := by decide +kernel
theorem dX9_append_4 : decode cX9_append 4 = .ok (.ifCond .lt 44, 3) := by decide +kernel
theorem dX9_append_7 : decode cX9_append 7 = .ok (.aload_n 0, 1) := by decide +kernel
theorem dX9_append_8 : decode cX9_append 8 = .ok (.getfield 15, 3) := by decide +kernel
theorem dX9_append_11 : decode cX9_append 11 = .ok (.aload_n 0, 1) := by decide +kernel
theorem dX9_append_12 : decode cX9_append 12 = .ok (.getfield 9, 3) := by decide +kernel
theorem dX9_append_15 : decode cX9_append 15 = .ok (.arraylength, 1) := by decide +kernel
theorem dX9_append_16 : decode cX9_append 16 = .ok (.if_icmp .ge 26, 3) := by decide +kernel
theorem dX9_append_19 : decode cX9_append 19 = .ok (.aload_n 0, 1) := by decide +kernel
theorem dX9_append_20 : decode cX9_append 20 = .ok (.getfield 9, 3) := by decide +kernel
theorem dX9_append_23 : decode cX9_append 23 = .ok (.aload_n 0, 1) := by decide +kernel
theorem dX9_append_24 : decode cX9_append 24 = .ok (.getfield 15, 3) := by decide +kernel
theorem dX9_append_27 : decode cX9_append 27 = .ok (.iload_n 1, 1) := by decide +kernel
theorem dX9_append_28 : decode cX9_append 28 = .ok (.iload_n 2, 1) := by decide +kernel
theorem dX9_append_29 : decode cX9_append 29 = .ok (.ishr, 1) := by decide +kernel
theorem dX9_append_30 : decode cX9_append 30 = .ok (.i2b, 1) := by decide +kernel
theorem dX9_append_31 : decode cX9_append 31 = .ok (.bastore, 1) := by decide +kernel
theorem dX9_append_32 : decode cX9_append 32 = .ok (.aload_n 0, 1) := by decide +kernel
theorem dX9_append_33 : decode cX9_append 33 = .ok (.dup, 1) := by decide +kernel
theorem dX9_append_34 : decode cX9_append 34 = .ok (.getfield 15, 3) := by decide +kernel
theorem dX9_append_37 : decode cX9_append 37 = .ok (.iconst 1, 1) := by decide +kernel
theorem dX9_append_38 : decode cX9_append 38 = .ok (.iadd, 1) := by decide +kernel
theorem dX9_append_39 : decode cX9_append 39 = .ok (.putfield 15, 3) := by decide +kernel
theorem dX9_append_42 : decode cX9_append 42 = .ok (.iinc 2 (-8), 3) := by decide +kernel
theorem dX9_append_45 : decode cX9_append 45 = .ok (.goto (-42), 3) := by decide +kernel
theorem dX9_append_48 : decode cX9_append 48 = .ok (.return_, 1) := by decide +kernel
abbrev D_X9_append : Nat := 1
def f_X9_append_L3 (K48 : Mm → Option Mm) : Nat → Mm → Nat → Int32 → Int32 → Option Mm
  | 0, _, _, _, _ => none
  | n + 1, μ0, a4, x5, x6 =>
    (if x6 < 0 then
    K48 μ0
    else
    ((gI μ0 a4 9 1).bind fun v7 =>
    ((gR μ0 a4 9 0).bind fun v8 =>
    ((aN μ0 v8 1).bind fun v9 =>
    (if v9 ≤ v7 then
    (nm (x6 + Int32.ofInt (-8)) fun x10 =>
    f_X9_append_L3 K48 n μ0 a4 x5 x10)
    else
    ((gR μ0 a4 9 0).bind fun v11 =>
    ((gI μ0 a4 9 1).bind fun v12 =>
    ((sI μ0 v11 1 v12 ((x5 >>> (x6 &&& 31))).toInt8.toInt32).bind fun μ13 =>
    ((gI μ13 a4 9 1).bind fun v14 =>
    ((pV μ13 a4 9 1 (.int (v14 + (1 : Int32)))).bind fun μ15 =>
    (nm (x6 + Int32.ofInt (-8)) fun x16 =>
    f_X9_append_L3 K48 n μ15 a4 x5 x16)))))))))))
set_option maxHeartbeats 4000000 in
set_option maxRecDepth 100000 in
theorem f_X9_append_L3_ok {l : Launch} {G : GG} {K48 : Mm → Option Mm} {μ' : Mm} (n : Nat) (μ0 : Mm) (a4 : Nat) (x5 : Int32) (x6 : Int32) (hf : f_X9_append_L3 K48 n μ0 a4 x5 x6 = some μ') (hK48 : ∀ (μ1 : Mm), K48 μ1  = some μ' → Ev l G D_X9_append yX9_append cX9_append 3 none 48 [] [] μ1 none μ') : Ev l G D_X9_append yX9_append cX9_append 3 none 3 [(0, .ref a4), (1, .int x5), (2, .int x6)] [] μ0 none μ' := by
  induction n generalizing μ0 a4 x5 x6 with
  | zero => cases hf
  | succ n ih0 =>
    have ih : ∀ (μ0 : Mm) (a4 : Nat) (x5 : Int32) (x6 : Int32), f_X9_append_L3 K48 n μ0 a4 x5 x6 = some μ' → Ev l G D_X9_append yX9_append cX9_append 3 none 3 [(0, .ref a4), (1, .int x5), (2, .int x6)] [] μ0 none μ' := fun μ0 a4 x5 x6 hf => ih0 μ0 a4 x5 x6 hf
    rw [f_X9_append_L3] at hf
    refine E_iload_n (pc := 3) dX9_append_3 rfl ?_
    refine E_if_lt (pc := 4) (tgt := 48) dX9_append_4 (by decide) hf (fun hf => ?_) (fun hf => ?_)
    · refine Ev.sub [] rfl ?_
      exact hK48 _ hf
    · refine E_aload_n (pc := 7) dX9_append_7 rfl ?_
      refine E_getI (pc := 8) dX9_append_8 fl_X9_15 hf (fun v7 hf => ?_)
      refine E_aload_n (pc := 11) dX9_append_11 rfl ?_
      refine E_getR (pc := 12) dX9_append_12 fl_X9_9 hf (fun v8 hf => ?_)
      refine E_alen (pc := 15) 1 dX9_append_15 (by decide) hf (fun v9 hf => ?_)
      refine E_icmp_ge (pc := 16) (tgt := 42) dX9_append_16 (by decide) hf (fun hf => ?_) (fun hf => ?_)
      · refine E_iinc (pc := 42) (ls' := fun x10 => [(2, .int x10), (0, .ref a4), (1, .int x5)]) dX9_append_42 rfl (by decide) (fun _ => rfl) hf (fun x10 hf => ?_)
        refine E_goto (pc := 45) (tgt := 3) dX9_append_45 (by decide) ?_
        refine Ev.sub [1, 2, 0] rfl ?_
        exact ih _ _ _ _ hf
      · refine E_aload_n (pc := 19) dX9_append_19 rfl ?_
        refine E_getR (pc := 20) dX9_append_20 fl_X9_9 hf (fun v11 hf => ?_)
        refine E_aload_n (pc := 23) dX9_append_23 rfl ?_
        refine E_getI (pc := 24) dX9_append_24 fl_X9_15 hf (fun v12 hf => ?_)
        refine E_iload_n (pc := 27) dX9_append_27 rfl ?_
        refine E_iload_n (pc := 28) dX9_append_28 rfl ?_
        refine E_ishr (pc := 29) dX9_append_29 ?_
        refine E_i2b (pc := 30) dX9_append_30 ?_
        refine E_bast (pc := 31) dX9_append_31 hf (fun μ13 hf => ?_)
        refine E_aload_n (pc := 32) dX9_append_32 rfl ?_
        refine E_dup (pc := 33) dX9_append_33 rfl ?_
        refine E_getI (pc := 34) dX9_append_34 fl_X9_15 hf (fun v14 hf => ?_)
        refine E_iconst (pc := 37) (v := (1 : Int32)) dX9_append_37 (by decide) ?_
        refine E_iadd (pc := 38) dX9_append_38 ?_
        refine E_putI (pc := 39) dX9_append_39 (pl_X9_15 _) hf (fun μ15 hf => ?_)
        refine E_iinc (pc := 42) (ls' := fun x16 => [(2, .int x16), (0, .ref a4), (1, .int x5)]) dX9_append_42 rfl (by decide) (fun _ => rfl) hf (fun x16 hf => ?_)
        refine E_goto (pc := 45) (tgt := 3) dX9_append_45 (by decide) ?_
        refine Ev.sub [1, 2, 0] rfl ?_
        exact ih _ _ _ _ hf
set_option maxRecDepth 100000 in
def f_X9_append (μ0 : Mm) (a1 : Nat) (x2 : Int32) : Option Mm :=
 (nm (24 : Int32) fun x3 =>
    f_X9_append_L3 (fun μ17 =>
    (some μ17)) FU μ0 a1 x2 x3)
set_option maxHeartbeats 4000000 in
set_option maxRecDepth 100000 in
theorem f_X9_append_ok {l : Launch} {G : GG} {μ0 : Mm} {a1 : Nat} {x2 : Int32} {μ' : Mm} (hf : f_X9_append μ0 a1 x2 = some μ') : EvM l G D_X9_append yX9_append cX9_append 3 none [.ref a1, .int x2] μ0 none μ' := by
  show Ev l G D_X9_append yX9_append cX9_append 3 none 0 [(0, .ref a1), (1, .int x2)] [] μ0 none μ'
  unfold f_X9_append at hf
  refine E_bipush (pc := 0) (v := (24 : Int32)) dX9_append_0 (by decide) ?_
  refine E_istore_n (pc := 2) (ls' := fun x3 => [(2, .int x3), (0, .ref a1), (1, .int x2)]) dX9_append_2 (by decide) (fun _ => rfl) hf (fun x3 hf => ?_)
  refine Ev.sub [1, 2, 0] rfl ?_
  refine f_X9_append_L3_ok  _ _ _ _ _ hf (fun μ17 hf => ?_)
  · exact E_vret (pc := 48) dX9_append_48 rfl hf
theorem dX9_rewind_0 : decode cX9_rewind 0 = .ok (.aload_n 0, 1) := by decide +kernel
theorem dX9_rewind_1 : decode cX9_rewind 1 = .ok (.iconst 0, 1) := by decide +kernel
theorem dX9_rewind_2 : decode cX9_rewind 2 = .ok (.putfield 19, 3) := by decide +kernel
theorem dX9_rewind_5 : decode cX9_rewind 5 = .ok (.aload_n 0, 1) := by decide +kernel
theorem dX9_rewind_6 : decode cX9_rewind 6 = .ok (.iconst 0, 1) := by decide +kernel
theorem dX9_rewind_7 : decode cX9_rewind 7 = .ok (.putfield 22, 3) := by decide +kernel
theorem dX9_rewind_10 : decode cX9_rewind 10 = .ok (.return_, 1) := by decide +kernel
abbrev D_X9_rewind : Nat := 1
set_option maxRecDepth 100000 in
def f_X9_rewind (μ0 : Mm) (a1 : Nat) : Option Mm :=
 ((pV μ0 a1 9 2 (.int (0 : Int32))).bind fun μ2 =>
    ((pV μ2 a1 9 3 (.int (0 : Int32))).bind fun μ3 =>
    (some μ3)))
set_option maxHeartbeats 4000000 in
set_option maxRecDepth 100000 in
theorem f_X9_rewind_ok {l : Launch} {G : GG} {μ0 : Mm} {a1 : Nat} {μ' : Mm} (hf : f_X9_rewind μ0 a1 = some μ') : EvM l G D_X9_rewind yX9_rewind cX9_rewind 1 none [.ref a1] μ0 none μ' := by
  show Ev l G D_X9_rewind yX9_rewind cX9_rewind 1 none 0 [(0, .ref a1)] [] μ0 none μ'
  unfold f_X9_rewind at hf
  refine E_aload_n (pc := 0) dX9_rewind_0 rfl ?_
  refine E_iconst (pc := 1) (v := (0 : Int32)) dX9_rewind_1 (by decide) ?_
  refine E_putI (pc := 2) dX9_rewind_2 (pl_X9_19 _) hf (fun μ2 hf => ?_)
  refine E_aload_n (pc := 5) dX9_rewind_5 rfl ?_
  refine E_iconst (pc := 6) (v := (0 : Int32)) dX9_rewind_6 (by decide) ?_
  refine E_putI (pc := 7) dX9_rewind_7 (pl_X9_22 _) hf (fun μ3 hf => ?_)
  exact E_vret (pc := 10) dX9_rewind_10 rfl hf
theorem dX9_isSound_0 : decode cX9_isSound 0 = .ok (.aload_n 0, 1) := by decide +kernel
theorem dX9_isSound_1 : decode cX9_isSound 1 = .ok (.getfield 22, 3) := by decide +kernel
theorem dX9_isSound_4 : decode cX9_isSound 4 = .ok (.ifCond .ne 7, 3) := by decide +kernel
theorem dX9_isSound_7 : decode cX9_isSound 7 = .ok (.iconst 1, 1) := by decide +kernel
theorem dX9_isSound_8 : decode cX9_isSound 8 = .ok (.goto 4, 3) := by decide +kernel
theorem dX9_isSound_11 : decode cX9_isSound 11 = .ok (.iconst 0, 1) := by decide +kernel
theorem dX9_isSound_12 : decode cX9_isSound 12 = .ok (.ireturn, 1) := by decide +kernel
abbrev D_X9_isSound : Nat := 1
set_option maxRecDepth 100000 in
def f_X9_isSound (μ0 : Mm) (a1 : Nat) : Option (Int32 × Mm) :=
 ((gI μ0 a1 9 3).bind fun v2 =>
    (if v2 = 0 then
    (if (1 : Int32) = 0 ∨ (1 : Int32) = 1 then some ((1 : Int32), μ0) else none)
    else
    (if (0 : Int32) = 0 ∨ (0 : Int32) = 1 then some ((0 : Int32), μ0) else none)))
set_option maxHeartbeats 4000000 in
set_option maxRecDepth 100000 in
theorem f_X9_isSound_ok {l : Launch} {G : GG} {μ0 : Mm} {a1 : Nat} {r : Int32} {μ' : Mm} (hf : f_X9_isSound μ0 a1 = some (r, μ')) : EvM l G D_X9_isSound yX9_isSound cX9_isSound 1 (some .boolean) [.ref a1] μ0 (some (.int r)) μ' := by
  show Ev l G D_X9_isSound yX9_isSound cX9_isSound 1 (some .boolean) 0 [(0, .ref a1)] [] μ0 (some (.int r)) μ'
  unfold f_X9_isSound at hf
  refine E_aload_n (pc := 0) dX9_isSound_0 rfl ?_
  refine E_getI (pc := 1) dX9_isSound_1 fl_X9_22 hf (fun v2 hf => ?_)
  refine E_if_ne (pc := 4) (tgt := 11) dX9_isSound_4 (by decide) hf (fun hf => ?_) (fun hf => ?_)
  · refine E_iconst (pc := 7) (v := (1 : Int32)) dX9_isSound_7 (by decide) ?_
    refine E_goto (pc := 8) (tgt := 12) dX9_isSound_8 (by decide) ?_
    exact E_zret (pc := 12) dX9_isSound_12 rfl hf
  · refine E_iconst (pc := 11) (v := (0 : Int32)) dX9_isSound_11 (by decide) ?_
    exact E_zret (pc := 12) dX9_isSound_12 rfl hf
theorem dX9_fail_0 : decode cX9_fail 0 = .ok (.aload_n 0, 1) := by decide +kernel
theorem dX9_fail_1 : decode cX9_fail 1 = .ok (.getfield 22, 3) := by decide +kernel
theorem dX9_fail_4 : decode cX9_fail 4 = .ok (.ifCond .ne 15, 3) := by decide +kernel
theorem dX9_fail_7 : decode cX9_fail 7 = .ok (.aload_n 0, 1) := by decide +kernel
theorem dX9_fail_8 : decode cX9_fail 8 = .ok (.iconst 1, 1) := by decide +kernel
theorem dX9_fail_9 : decode cX9_fail 9 = .ok (.bipush 8, 2) := by decide +kernel
theorem dX9_fail_11 : decode cX9_fail 11 = .ok (.iload_n 1, 1) := by decide +kernel
theorem dX9_fail_12 : decode cX9_fail 12 = .ok (.imul, 1) := by decide +kernel
theorem dX9_fail_13 : decode cX9_fail 13 = .ok (.iadd, 1) := by decide +kernel
theorem dX9_fail_14 : decode cX9_fail 14 = .ok (.iload_n 2, 1) := by decide +kernel
theorem dX9_fail_15 : decode cX9_fail 15 = .ok (.iadd, 1) := by decide +kernel
theorem dX9_fail_16 : decode cX9_fail 16 = .ok (.putfield 22, 3) := by decide +kernel
theorem dX9_fail_19 : decode cX9_fail 19 = .ok (.return_, 1) := by decide +kernel
abbrev D_X9_fail : Nat := 1
set_option maxRecDepth 100000 in
def f_X9_fail (μ0 : Mm) (a1 : Nat) (x2 : Int32) (x3 : Int32) : Option Mm :=
 ((gI μ0 a1 9 3).bind fun v4 =>
    (if v4 = 0 then
    ((pV μ0 a1 9 3 (.int (((1 : Int32) + ((8 : Int32) * x2)) + x3))).bind fun μ5 =>
    (some μ5))
    else
    (some μ0)))
set_option maxHeartbeats 4000000 in
set_option maxRecDepth 100000 in
theorem f_X9_fail_ok {l : Launch} {G : GG} {μ0 : Mm} {a1 : Nat} {x2 : Int32} {x3 : Int32} {μ' : Mm} (hf : f_X9_fail μ0 a1 x2 x3 = some μ') : EvM l G D_X9_fail yX9_fail cX9_fail 3 none [.ref a1, .int x2, .int x3] μ0 none μ' := by
  show Ev l G D_X9_fail yX9_fail cX9_fail 3 none 0 [(0, .ref a1), (1, .int x2), (2, .int x3)] [] μ0 none μ'
  unfold f_X9_fail at hf
  refine E_aload_n (pc := 0) dX9_fail_0 rfl ?_
  refine E_getI (pc := 1) dX9_fail_1 fl_X9_22 hf (fun v4 hf => ?_)
  refine E_if_ne (pc := 4) (tgt := 19) dX9_fail_4 (by decide) hf (fun hf => ?_) (fun hf => ?_)
  · refine E_aload_n (pc := 7) dX9_fail_7 rfl ?_
    refine E_iconst (pc := 8) (v := (1 : Int32)) dX9_fail_8 (by decide) ?_
    refine E_bipush (pc := 9) (v := (8 : Int32)) dX9_fail_9 (by decide) ?_
    refine E_iload_n (pc := 11) dX9_fail_11 rfl ?_
    refine E_imul (pc := 12) dX9_fail_12 ?_
    refine E_iadd (pc := 13) dX9_fail_13 ?_
    refine E_iload_n (pc := 14) dX9_fail_14 rfl ?_
    refine E_iadd (pc := 15) dX9_fail_15 ?_
    refine E_putI (pc := 16) dX9_fail_16 (pl_X9_22 _) hf (fun μ5 hf => ?_)
    exact E_vret (pc := 19) dX9_fail_19 rfl hf
  · exact E_vret (pc := 19) dX9_fail_19 rfl hf
theorem dX9_byteAt_0 : decode cX9_byteAt 0 = .ok (.iload_n 1, 1) := by decide +kernel
theorem dX9_byteAt_1 : decode cX9_byteAt 1 = .ok (.ifCond .lt 24, 3) := by decide +kernel
theorem dX9_byteAt_4 : decode cX9_byteAt 4 = .ok (.iload_n 1, 1) := by decide +kernel
theorem dX9_byteAt_5 : decode cX9_byteAt 5 = .ok (.aload_n 0, 1) := by decide +kernel
theorem dX9_byteAt_6 : decode cX9_byteAt 6 = .ok (.getfield 15, 3) := by decide +kernel
theorem dX9_byteAt_9 : decode cX9_byteAt 9 = .ok (.if_icmp .ge 16, 3) := by decide +kernel
theorem dX9_byteAt_12 : decode cX9_byteAt 12 = .ok (.aload_n 0, 1) := by decide +kernel
theorem dX9_byteAt_13 : decode cX9_byteAt 13 = .ok (.getfield 9, 3) := by decide +kernel
theorem dX9_byteAt_16 : decode cX9_byteAt 16 = .ok (.iload_n 1, 1) := by decide +kernel
theorem dX9_byteAt_17 : decode cX9_byteAt 17 = .ok (.baload, 1) := by decide +kernel
theorem dX9_byteAt_18 : decode cX9_byteAt 18 = .ok (.sipush 255, 3) := by decide +kernel
theorem dX9_byteAt_21 : decode cX9_byteAt 21 = .ok (.iand, 1) := by decide +kernel
theorem dX9_byteAt_22 : decode cX9_byteAt 22 = .ok (.goto 4, 3) := by decide +kernel
theorem dX9_byteAt_25 : decode cX9_byteAt 25 = .ok (.iconst (-1), 1) := by decide +kernel
theorem dX9_byteAt_26 : decode cX9_byteAt 26 = .ok (.ireturn, 1) := by decide +kernel
abbrev D_X9_byteAt : Nat := 1
set_option maxRecDepth 100000 in
def f_X9_byteAt (μ0 : Mm) (a1 : Nat) (x2 : Int32) : Option (Int32 × Mm) :=
 (if x2 < 0 then
    (some ((-1 : Int32), μ0))
    else
    ((gI μ0 a1 9 1).bind fun v3 =>
    (if v3 ≤ x2 then
    (some ((-1 : Int32), μ0))
    else
    ((gR μ0 a1 9 0).bind fun v4 =>
    ((aI μ0 v4 1 x2).bind fun v5 =>
    (some ((v5 &&& (255 : Int32)), μ0)))))))
set_option maxHeartbeats 4000000 in
set_option maxRecDepth 100000 in
theorem f_X9_byteAt_ok {l : Launch} {G : GG} {μ0 : Mm} {a1 : Nat} {x2 : Int32} {r : Int32} {μ' : Mm} (hf : f_X9_byteAt μ0 a1 x2 = some (r, μ')) : EvM l G D_X9_byteAt yX9_byteAt cX9_byteAt 2 (some .int) [.ref a1, .int x2] μ0 (some (.int r)) μ' := by
  show Ev l G D_X9_byteAt yX9_byteAt cX9_byteAt 2 (some .int) 0 [(0, .ref a1), (1, .int x2)] [] μ0 (some (.int r)) μ'
  unfold f_X9_byteAt at hf
  refine E_iload_n (pc := 0) dX9_byteAt_0 rfl ?_
  refine E_if_lt (pc := 1) (tgt := 25) dX9_byteAt_1 (by decide) hf (fun hf => ?_) (fun hf => ?_)
  · refine E_iconst (pc := 25) (v := (-1 : Int32)) dX9_byteAt_25 (by decide) ?_
    exact E_iret (pc := 26) dX9_byteAt_26 rfl hf
  · refine E_iload_n (pc := 4) dX9_byteAt_4 rfl ?_
    refine E_aload_n (pc := 5) dX9_byteAt_5 rfl ?_
    refine E_getI (pc := 6) dX9_byteAt_6 fl_X9_15 hf (fun v3 hf => ?_)
    refine E_icmp_ge (pc := 9) (tgt := 25) dX9_byteAt_9 (by decide) hf (fun hf => ?_) (fun hf => ?_)
    · refine E_iconst (pc := 25) (v := (-1 : Int32)) dX9_byteAt_25 (by decide) ?_
      exact E_iret (pc := 26) dX9_byteAt_26 rfl hf
    · refine E_aload_n (pc := 12) dX9_byteAt_12 rfl ?_
      refine E_getR (pc := 13) dX9_byteAt_13 fl_X9_9 hf (fun v4 hf => ?_)
      refine E_iload_n (pc := 16) dX9_byteAt_16 rfl ?_
      refine E_bald (pc := 17) dX9_byteAt_17 hf (fun v5 hf => ?_)
      refine E_sipush (pc := 18) (v := (255 : Int32)) dX9_byteAt_18 (by decide) ?_
      refine E_iand (pc := 21) dX9_byteAt_21 ?_
      refine E_goto (pc := 22) (tgt := 26) dX9_byteAt_22 (by decide) ?_
      exact E_iret (pc := 26) dX9_byteAt_26 rfl hf
theorem dX9_isDigitAt_0 : decode cX9_isDigitAt 0 = .ok (.iload_n 1, 1) := by decide +kernel
theorem dX9_isDigitAt_1 : decode cX9_isDigitAt 1 = .ok (.ifCond .lt 37, 3) := by decide +kernel
theorem dX9_isDigitAt_4 : decode cX9_isDigitAt 4 = .ok (.iload_n 1, 1) := by decide +kernel
theorem dX9_isDigitAt_5 : decode cX9_isDigitAt 5 = .ok (.aload_n 0, 1) := by decide +kernel
theorem dX9_isDigitAt_6 : decode cX9_isDigitAt 6 = .ok (.getfield 15, 3) := by decide +kernel
theorem dX9_isDigitAt_9 : decode cX9_isDigitAt 9 = .ok (.if_icmp .ge 29, 3) := by decide +kernel
theorem dX9_isDigitAt_12 : decode cX9_isDigitAt 12 = .ok (.aload_n 0, 1) := by decide +kernel
theorem dX9_isDigitAt_13 : decode cX9_isDigitAt 13 = .ok (.getfield 9, 3) := by decide +kernel
theorem dX9_isDigitAt_16 : decode cX9_isDigitAt 16 = .ok (.iload_n 1, 1) := by decide +kernel
theorem dX9_isDigitAt_17 : decode cX9_isDigitAt 17 = .ok (.baload, 1) := by decide +kernel
theorem dX9_isDigitAt_18 : decode cX9_isDigitAt 18 = .ok (.bipush 48, 2) := by decide +kernel
theorem dX9_isDigitAt_20 : decode cX9_isDigitAt 20 = .ok (.if_icmp .lt 18, 3) := by decide +kernel
theorem dX9_isDigitAt_23 : decode cX9_isDigitAt 23 = .ok (.aload_n 0, 1) := by decide +kernel
theorem dX9_isDigitAt_24 : decode cX9_isDigitAt 24 = .ok (.getfield 9, 3) := by decide +kernel
theorem dX9_isDigitAt_27 : decode cX9_isDigitAt 27 = .ok (.iload_n 1, 1) := by decide +kernel
theorem dX9_isDigitAt_28 : decode cX9_isDigitAt 28 = .ok (.baload, 1) := by decide +kernel
theorem dX9_isDigitAt_29 : decode cX9_isDigitAt 29 = .ok (.bipush 57, 2) := by decide +kernel
theorem dX9_isDigitAt_31 : decode cX9_isDigitAt 31 = .ok (.if_icmp .gt 7, 3) := by decide +kernel
theorem dX9_isDigitAt_34 : decode cX9_isDigitAt 34 = .ok (.iconst 1, 1) := by decide +kernel
theorem dX9_isDigitAt_35 : decode cX9_isDigitAt 35 = .ok (.goto 4, 3) := by decide +kernel
theorem dX9_isDigitAt_38 : decode cX9_isDigitAt 38 = .ok (.iconst 0, 1) := by decide +kernel
theorem dX9_isDigitAt_39 : decode cX9_isDigitAt 39 = .ok (.ireturn, 1) := by decide +kernel
abbrev D_X9_isDigitAt : Nat := 1
set_option maxRecDepth 100000 in
def f_X9_isDigitAt (μ0 : Mm) (a1 : Nat) (x2 : Int32) : Option (Int32 × Mm) :=
 (if x2 < 0 then
    (if (0 : Int32) = 0 ∨ (0 : Int32) = 1 then some ((0 : Int32), μ0) else none)
    else
    ((gI μ0 a1 9 1).bind fun v3 =>
    (if v3 ≤ x2 then
    (if (0 : Int32) = 0 ∨ (0 : Int32) = 1 then some ((0 : Int32), μ0) else none)
    else
    ((gR μ0 a1 9 0).bind fun v4 =>
    ((aI μ0 v4 1 x2).bind fun v5 =>
    (if v5 < (48 : Int32) then
    (if (0 : Int32) = 0 ∨ (0 : Int32) = 1 then some ((0 : Int32), μ0) else none)
    else
    ((gR μ0 a1 9 0).bind fun v6 =>
    ((aI μ0 v6 1 x2).bind fun v7 =>
    (if (57 : Int32) < v7 then
    (if (0 : Int32) = 0 ∨ (0 : Int32) = 1 then some ((0 : Int32), μ0) else none)
    else
    (if (1 : Int32) = 0 ∨ (1 : Int32) = 1 then some ((1 : Int32), μ0) else none))))))))))
set_option maxHeartbeats 4000000 in
set_option maxRecDepth 100000 in
theorem f_X9_isDigitAt_ok {l : Launch} {G : GG} {μ0 : Mm} {a1 : Nat} {x2 : Int32} {r : Int32} {μ' : Mm} (hf : f_X9_isDigitAt μ0 a1 x2 = some (r, μ')) : EvM l G D_X9_isDigitAt yX9_isDigitAt cX9_isDigitAt 2 (some .boolean) [.ref a1, .int x2] μ0 (some (.int r)) μ' := by
  show Ev l G D_X9_isDigitAt yX9_isDigitAt cX9_isDigitAt 2 (some .boolean) 0 [(0, .ref a1), (1, .int x2)] [] μ0 (some (.int r)) μ'
  unfold f_X9_isDigitAt at hf
  refine E_iload_n (pc := 0) dX9_isDigitAt_0 rfl ?_
  refine E_if_lt (pc := 1) (tgt := 38) dX9_isDigitAt_1 (by decide) hf (fun hf => ?_) (fun hf => ?_)
  · refine E_iconst (pc := 38) (v := (0 : Int32)) dX9_isDigitAt_38 (by decide) ?_
    exact E_zret (pc := 39) dX9_isDigitAt_39 rfl hf
  · refine E_iload_n (pc := 4) dX9_isDigitAt_4 rfl ?_
    refine E_aload_n (pc := 5) dX9_isDigitAt_5 rfl ?_
    refine E_getI (pc := 6) dX9_isDigitAt_6 fl_X9_15 hf (fun v3 hf => ?_)
    refine E_icmp_ge (pc := 9) (tgt := 38) dX9_isDigitAt_9 (by decide) hf (fun hf => ?_) (fun hf => ?_)
    · refine E_iconst (pc := 38) (v := (0 : Int32)) dX9_isDigitAt_38 (by decide) ?_
      exact E_zret (pc := 39) dX9_isDigitAt_39 rfl hf
    · refine E_aload_n (pc := 12) dX9_isDigitAt_12 rfl ?_
      refine E_getR (pc := 13) dX9_isDigitAt_13 fl_X9_9 hf (fun v4 hf => ?_)
      refine E_iload_n (pc := 16) dX9_isDigitAt_16 rfl ?_
      refine E_bald (pc := 17) dX9_isDigitAt_17 hf (fun v5 hf => ?_)
      refine E_bipush (pc := 18) (v := (48 : Int32)) dX9_isDigitAt_18 (by decide) ?_
      refine E_icmp_lt (pc := 20) (tgt := 38) dX9_isDigitAt_20 (by decide) hf (fun hf => ?_) (fun hf => ?_)
      · refine E_iconst (pc := 38) (v := (0 : Int32)) dX9_isDigitAt_38 (by decide) ?_
        exact E_zret (pc := 39) dX9_isDigitAt_39 rfl hf
      · refine E_aload_n (pc := 23) dX9_isDigitAt_23 rfl ?_
        refine E_getR (pc := 24) dX9_isDigitAt_24 fl_X9_9 hf (fun v6 hf => ?_)
        refine E_iload_n (pc := 27) dX9_isDigitAt_27 rfl ?_
        refine E_bald (pc := 28) dX9_isDigitAt_28 hf (fun v7 hf => ?_)
        refine E_bipush (pc := 29) (v := (57 : Int32)) dX9_isDigitAt_29 (by decide) ?_
        refine E_icmp_gt (pc := 31) (tgt := 38) dX9_isDigitAt_31 (by decide) hf (fun hf => ?_) (fun hf => ?_)
        · refine E_iconst (pc := 38) (v := (0 : Int32)) dX9_isDigitAt_38 (by decide) ?_
          exact E_zret (pc := 39) dX9_isDigitAt_39 rfl hf
        · refine E_iconst (pc := 34) (v := (1 : Int32)) dX9_isDigitAt_34 (by decide) ?_
          refine E_goto (pc := 35) (tgt := 39) dX9_isDigitAt_35 (by decide) ?_
          exact E_zret (pc := 39) dX9_isDigitAt_39 rfl hf
theorem dX9_skipBlanks_0 : decode cX9_skipBlanks 0 = .ok (.aload_n 0, 1) := by decide +kernel
theorem dX9_skipBlanks_1 : decode cX9_skipBlanks 1 = .ok (.getfield 19, 3) := by decide +kernel
theorem dX9_skipBlanks_4 : decode cX9_skipBlanks 4 = .ok (.aload_n 0, 1) := by decide +kernel
theorem dX9_skipBlanks_5 : decode cX9_skipBlanks 5 = .ok (.getfield 15, 3) := by decide +kernel
theorem dX9_skipBlanks_8 : decode cX9_skipBlanks 8 = .ok (.if_icmp .ge 30, 3) := by decide +kernel
theorem dX9_skipBlanks_11 : decode cX9_skipBlanks 11 = .ok (.aload_n 0, 1) := by decide +kernel
theorem dX9_skipBlanks_12 : decode cX9_skipBlanks 12 = .ok (.getfield 9, 3) := by decide +kernel
theorem dX9_skipBlanks_15 : decode cX9_skipBlanks 15 = .ok (.aload_n 0, 1) := by decide +kernel
theorem dX9_skipBlanks_16 : decode cX9_skipBlanks 16 = .ok (.getfield 19, 3) := by decide +kernel
theorem dX9_skipBlanks_19 : decode cX9_skipBlanks 19 = .ok (.baload, 1) := by decide +kernel
theorem dX9_skipBlanks_20 : decode cX9_skipBlanks 20 = .ok (.bipush 32, 2) := by decide +kernel
theorem dX9_skipBlanks_22 : decode cX9_skipBlanks 22 = .ok (.if_icmp .ne 16, 3) := by decide +kernel
theorem dX9_skipBlanks_25 : decode cX9_skipBlanks 25 = .ok (.aload_n 0, 1) := by decide +kernel
theorem dX9_skipBlanks_26 : decode cX9_skipBlanks 26 = .ok (.dup, 1) := by decide +kernel
theorem dX9_skipBlanks_27 : decode cX9_skipBlanks 27 = .ok (.getfield 19, 3) := by decide +kernel
theorem dX9_skipBlanks_30 : decode cX9_skipBlanks 30 = .ok (.iconst 1, 1) := by decide +kernel
theorem dX9_skipBlanks_31 : decode cX9_skipBlanks 31 = .ok (.iadd, 1) := by decide +kernel
theorem dX9_skipBlanks_32 : decode cX9_skipBlanks 32 = .ok (.putfield 19, 3) := by decide +kernel
theorem dX9_skipBlanks_35 : decode cX9_skipBlanks 35 = .ok (.goto (-35), 3) := by decide +kernel
theorem dX9_skipBlanks_38 : decode cX9_skipBlanks 38 = .ok (.aload_n 0, 1) := by decide +kernel
theorem dX9_skipBlanks_39 : decode cX9_skipBlanks 39 = .ok (.getfield 19, 3) := by decide +kernel
theorem dX9_skipBlanks_42 : decode cX9_skipBlanks 42 = .ok (.ireturn, 1) := by decide +kernel
abbrev D_X9_skipBlanks : Nat := 1
def f_X9_skipBlanks_L0 (K38 : Mm → Nat → Option (Int32 × Mm)) : Nat → Mm → Nat → Option (Int32 × Mm)
  | 0, _, _ => none
  | n + 1, μ0, a2 =>
    ((gI μ0 a2 9 2).bind fun v3 =>
    ((gI μ0 a2 9 1).bind fun v4 =>
    (if v4 ≤ v3 then
    K38 μ0 a2
    else
    ((gR μ0 a2 9 0).bind fun v5 =>
    ((gI μ0 a2 9 2).bind fun v6 =>
    ((aI μ0 v5 1 v6).bind fun v7 =>
    (if v7 = (32 : Int32) then
    ((gI μ0 a2 9 2).bind fun v8 =>
    ((pV μ0 a2 9 2 (.int (v8 + (1 : Int32)))).bind fun μ9 =>
    f_X9_skipBlanks_L0 K38 n μ9 a2))
    else
    K38 μ0 a2)))))))
set_option maxHeartbeats 4000000 in
set_option maxRecDepth 100000 in
theorem f_X9_skipBlanks_L0_ok {l : Launch} {G : GG} {K38 : Mm → Nat → Option (Int32 × Mm)} {r : Int32} {μ' : Mm} (n : Nat) (μ0 : Mm) (a2 : Nat) (hf : f_X9_skipBlanks_L0 K38 n μ0 a2 = some (r, μ')) (hK38 : ∀ (μ1 : Mm) (y0 : Nat), K38 μ1 y0 = some (r, μ') → Ev l G D_X9_skipBlanks yX9_skipBlanks cX9_skipBlanks 1 (some .int) 38 [(0, .ref y0)] [] μ1 (some (.int r)) μ') : Ev l G D_X9_skipBlanks yX9_skipBlanks cX9_skipBlanks 1 (some .int) 0 [(0, .ref a2)] [] μ0 (some (.int r)) μ' := by
  induction n generalizing μ0 a2 with
  | zero => cases hf
  | succ n ih0 =>
    have ih : ∀ (μ0 : Mm) (a2 : Nat), f_X9_skipBlanks_L0 K38 n μ0 a2 = some (r, μ') → Ev l G D_X9_skipBlanks yX9_skipBlanks cX9_skipBlanks 1 (some .int) 0 [(0, .ref a2)] [] μ0 (some (.int r)) μ' := fun μ0 a2 hf => ih0 μ0 a2 hf
    rw [f_X9_skipBlanks_L0] at hf
    refine E_aload_n (pc := 0) dX9_skipBlanks_0 rfl ?_
    refine E_getI (pc := 1) dX9_skipBlanks_1 fl_X9_19 hf (fun v3 hf => ?_)
    refine E_aload_n (pc := 4) dX9_skipBlanks_4 rfl ?_
    refine E_getI (pc := 5) dX9_skipBlanks_5 fl_X9_15 hf (fun v4 hf => ?_)
    refine E_icmp_ge (pc := 8) (tgt := 38) dX9_skipBlanks_8 (by decide) hf (fun hf => ?_) (fun hf => ?_)
    · refine Ev.sub [0] rfl ?_
      exact hK38 _ _ hf
    · refine E_aload_n (pc := 11) dX9_skipBlanks_11 rfl ?_
      refine E_getR (pc := 12) dX9_skipBlanks_12 fl_X9_9 hf (fun v5 hf => ?_)
      refine E_aload_n (pc := 15) dX9_skipBlanks_15 rfl ?_
      refine E_getI (pc := 16) dX9_skipBlanks_16 fl_X9_19 hf (fun v6 hf => ?_)
      refine E_bald (pc := 19) dX9_skipBlanks_19 hf (fun v7 hf => ?_)
      refine E_bipush (pc := 20) (v := (32 : Int32)) dX9_skipBlanks_20 (by decide) ?_
      refine E_icmp_ne (pc := 22) (tgt := 38) dX9_skipBlanks_22 (by decide) hf (fun hf => ?_) (fun hf => ?_)
      · refine E_aload_n (pc := 25) dX9_skipBlanks_25 rfl ?_
        refine E_dup (pc := 26) dX9_skipBlanks_26 rfl ?_
        refine E_getI (pc := 27) dX9_skipBlanks_27 fl_X9_19 hf (fun v8 hf => ?_)
        refine E_iconst (pc := 30) (v := (1 : Int32)) dX9_skipBlanks_30 (by decide) ?_
        refine E_iadd (pc := 31) dX9_skipBlanks_31 ?_
        refine E_putI (pc := 32) dX9_skipBlanks_32 (pl_X9_19 _) hf (fun μ9 hf => ?_)
        refine E_goto (pc := 35) (tgt := 0) dX9_skipBlanks_35 (by decide) ?_
        refine Ev.sub [0] rfl ?_
        exact ih _ _ hf
      · refine Ev.sub [0] rfl ?_
        exact hK38 _ _ hf
set_option maxRecDepth 100000 in
def f_X9_skipBlanks (μ0 : Mm) (a1 : Nat) : Option (Int32 × Mm) :=
 f_X9_skipBlanks_L0 (fun μ10 a11 =>
    ((gI μ10 a11 9 2).bind fun v12 =>
    (some (v12, μ10)))) FU μ0 a1
set_option maxHeartbeats 4000000 in
set_option maxRecDepth 100000 in
theorem f_X9_skipBlanks_ok {l : Launch} {G : GG} {μ0 : Mm} {a1 : Nat} {r : Int32} {μ' : Mm} (hf : f_X9_skipBlanks μ0 a1 = some (r, μ')) : EvM l G D_X9_skipBlanks yX9_skipBlanks cX9_skipBlanks 1 (some .int) [.ref a1] μ0 (some (.int r)) μ' := by
  show Ev l G D_X9_skipBlanks yX9_skipBlanks cX9_skipBlanks 1 (some .int) 0 [(0, .ref a1)] [] μ0 (some (.int r)) μ'
  unfold f_X9_skipBlanks at hf
  refine Ev.sub [0] rfl ?_
  refine f_X9_skipBlanks_L0_ok  _ _ _ hf (fun μ10 a11 hf => ?_)
  · refine E_aload_n (pc := 38) dX9_skipBlanks_38 rfl ?_
    refine E_getI (pc := 39) dX9_skipBlanks_39 fl_X9_19 hf (fun v12 hf => ?_)
    exact E_iret (pc := 42) dX9_skipBlanks_42 rfl hf
theorem dX9_takesByte_0 : decode cX9_takesByte 0 = .ok (.aload_n 0, 1) := by decide +kernel
theorem dX9_takesByte_1 : decode cX9_takesByte 1 = .ok (.invokevirtual 25, 3) := by decide +kernel
theorem dX9_takesByte_4 : decode cX9_takesByte 4 = .ok (.ifCond .eq 15, 3) := by decide +kernel
theorem dX9_takesByte_7 : decode cX9_takesByte 7 = .ok (.aload_n 0, 1) := by decide +kernel
theorem dX9_takesByte_8 : decode cX9_takesByte 8 = .ok (.aload_n 0, 1) := by decide +kernel
theorem dX9_takesByte_9 : decode cX9_takesByte 9 = .ok (.invokevirtual 29, 3) := by decide +kernel
theorem dX9_takesByte_12 : decode cX9_takesByte 12 = .ok (.invokevirtual 33, 3) := by decide +kernel
theorem dX9_takesByte_15 : decode cX9_takesByte 15 = .ok (.iload_n 1, 1) := by decide +kernel
theorem dX9_takesByte_16 : decode cX9_takesByte 16 = .ok (.if_icmp .eq 5, 3) := by decide +kernel
theorem dX9_takesByte_19 : decode cX9_takesByte 19 = .ok (.iconst 0, 1) := by decide +kernel
theorem dX9_takesByte_20 : decode cX9_takesByte 20 = .ok (.ireturn, 1) := by decide +kernel
theorem dX9_takesByte_21 : decode cX9_takesByte 21 = .ok (.aload_n 0, 1) := by decide +kernel
theorem dX9_takesByte_22 : decode cX9_takesByte 22 = .ok (.dup, 1) := by decide +kernel
theorem dX9_takesByte_23 : decode cX9_takesByte 23 = .ok (.getfield 19, 3) := by decide +kernel
theorem dX9_takesByte_26 : decode cX9_takesByte 26 = .ok (.iconst 1, 1) := by decide +kernel
theorem dX9_takesByte_27 : decode cX9_takesByte 27 = .ok (.iadd, 1) := by decide +kernel
theorem dX9_takesByte_28 : decode cX9_takesByte 28 = .ok (.putfield 19, 3) := by decide +kernel
theorem dX9_takesByte_31 : decode cX9_takesByte 31 = .ok (.iconst 1, 1) := by decide +kernel
theorem dX9_takesByte_32 : decode cX9_takesByte 32 = .ok (.ireturn, 1) := by decide +kernel
abbrev D_X9_takesByte : Nat := 2
set_option maxRecDepth 100000 in
def f_X9_takesByte (μ0 : Mm) (a1 : Nat) (x2 : Int32) : Option (Int32 × Mm) :=
 ((ob μ0 a1 9).bind fun _ =>
    (bd (f_X9_isSound μ0 a1) fun v4 μ3 =>
    (if v4 = 0 then
    (if (0 : Int32) = 0 ∨ (0 : Int32) = 1 then some ((0 : Int32), μ3) else none)
    else
    ((ob μ3 a1 9).bind fun _ =>
    (bd (f_X9_skipBlanks μ3 a1) fun v6 μ5 =>
    ((ob μ5 a1 9).bind fun _ =>
    (bd (f_X9_byteAt μ5 a1 v6) fun v8 μ7 =>
    (if v8 = x2 then
    ((gI μ7 a1 9 2).bind fun v9 =>
    ((pV μ7 a1 9 2 (.int (v9 + (1 : Int32)))).bind fun μ10 =>
    (if (1 : Int32) = 0 ∨ (1 : Int32) = 1 then some ((1 : Int32), μ10) else none)))
    else
    (if (0 : Int32) = 0 ∨ (0 : Int32) = 1 then some ((0 : Int32), μ7) else none)))))))))
set_option maxHeartbeats 4000000 in
set_option maxRecDepth 100000 in
theorem f_X9_takesByte_ok {l : Launch} {G : GG} {μ0 : Mm} {a1 : Nat} {x2 : Int32} {r : Int32} {μ' : Mm} (hf : f_X9_takesByte μ0 a1 x2 = some (r, μ')) : EvM l G D_X9_takesByte yX9_takesByte cX9_takesByte 2 (some .boolean) [.ref a1, .int x2] μ0 (some (.int r)) μ' := by
  show Ev l G D_X9_takesByte yX9_takesByte cX9_takesByte 2 (some .boolean) 0 [(0, .ref a1), (1, .int x2)] [] μ0 (some (.int r)) μ'
  unfold f_X9_takesByte at hf
  refine E_aload_n (pc := 0) dX9_takesByte_0 rfl ?_
  refine E_Vi (pc := 1) (d2 := D_X9_isSound) (ci := 9) [] dX9_takesByte_1 ml_X9_25 mf_X9_isSound im_X9_isSound rfl rfl rfl (by decide) (Nat.le_of_ble_eq_true rfl) (Nat.le_of_ble_eq_true rfl) rfl (fun _ _ h => f_X9_isSound_ok h) hf (fun v4 μ3 hf => ?_)
  refine E_if_eq (pc := 4) (tgt := 19) dX9_takesByte_4 (by decide) hf (fun hf => ?_) (fun hf => ?_)
  · refine E_iconst (pc := 19) (v := (0 : Int32)) dX9_takesByte_19 (by decide) ?_
    exact E_zret (pc := 20) dX9_takesByte_20 rfl hf
  · refine E_aload_n (pc := 7) dX9_takesByte_7 rfl ?_
    refine E_aload_n (pc := 8) dX9_takesByte_8 rfl ?_
    refine E_Vi (pc := 9) (d2 := D_X9_skipBlanks) (ci := 9) [] dX9_takesByte_9 ml_X9_29 mf_X9_skipBlanks im_X9_skipBlanks rfl rfl rfl (by decide) (Nat.le_of_ble_eq_true rfl) (Nat.le_of_ble_eq_true rfl) rfl (fun _ _ h => f_X9_skipBlanks_ok h) hf (fun v6 μ5 hf => ?_)
    refine E_Vi (pc := 12) (d2 := D_X9_byteAt) (ci := 9) [.int v6] dX9_takesByte_12 ml_X9_33 mf_X9_byteAt im_X9_byteAt rfl rfl rfl (by decide) (Nat.le_of_ble_eq_true rfl) (Nat.le_of_ble_eq_true rfl) rfl (fun _ _ h => f_X9_byteAt_ok h) hf (fun v8 μ7 hf => ?_)
    refine E_iload_n (pc := 15) dX9_takesByte_15 rfl ?_
    refine E_icmp_eq (pc := 16) (tgt := 21) dX9_takesByte_16 (by decide) hf (fun hf => ?_) (fun hf => ?_)
    · refine E_aload_n (pc := 21) dX9_takesByte_21 rfl ?_
      refine E_dup (pc := 22) dX9_takesByte_22 rfl ?_
      refine E_getI (pc := 23) dX9_takesByte_23 fl_X9_19 hf (fun v9 hf => ?_)
      refine E_iconst (pc := 26) (v := (1 : Int32)) dX9_takesByte_26 (by decide) ?_
      refine E_iadd (pc := 27) dX9_takesByte_27 ?_
      refine E_putI (pc := 28) dX9_takesByte_28 (pl_X9_19 _) hf (fun μ10 hf => ?_)
      refine E_iconst (pc := 31) (v := (1 : Int32)) dX9_takesByte_31 (by decide) ?_
      exact E_zret (pc := 32) dX9_takesByte_32 rfl hf
    · refine E_iconst (pc := 19) (v := (0 : Int32)) dX9_takesByte_19 (by decide) ?_
      exact E_zret (pc := 20) dX9_takesByte_20 rfl hf
theorem dX9_takeOneOf_0 : decode cX9_takeOneOf 0 = .ok (.aload_n 0, 1) := by decide +kernel
theorem dX9_takeOneOf_1 : decode cX9_takeOneOf 1 = .ok (.aload_n 0, 1) := by decide +kernel
theorem dX9_takeOneOf_2 : decode cX9_takeOneOf 2 = .ok (.invokevirtual 29, 3) := by decide +kernel
theorem dX9_takeOneOf_5 : decode cX9_takeOneOf 5 = .ok (.invokevirtual 33, 3) := by decide +kernel
theorem dX9_takeOneOf_8 : decode cX9_takeOneOf 8 = .ok (.istore_n 2, 1) := by decide +kernel
theorem dX9_takeOneOf_9 : decode cX9_takeOneOf 9 = .ok (.iconst 0, 1) := by decide +kernel
theorem dX9_takeOneOf_10 : decode cX9_takeOneOf 10 = .ok (.istore_n 3, 1) := by decide +kernel
theorem dX9_takeOneOf_11 : decode cX9_takeOneOf 11 = .ok (.iload_n 3, 1) := by decide +kernel
theorem dX9_takeOneOf_12 : decode cX9_takeOneOf 12 = .ok (.aload_n 1, 1) := by decide +kernel
theorem dX9_takeOneOf_13 : decode cX9_takeOneOf 13 = .ok (.invokevirtual 37, 3) := by decide +kernel
theorem dX9_takeOneOf_16 : decode cX9_takeOneOf 16 = .ok (.if_icmp .ge 37, 3) := by decide +kernel
theorem dX9_takeOneOf_19 : decode cX9_takeOneOf 19 = .ok (.aload_n 0, 1) := by decide +kernel
theorem dX9_takeOneOf_20 : decode cX9_takeOneOf 20 = .ok (.invokevirtual 25, 3) := by decide +kernel
theorem dX9_takeOneOf_23 : decode cX9_takeOneOf 23 = .ok (.ifCond .eq 24, 3) := by decide +kernel
theorem dX9_takeOneOf_26 : decode cX9_takeOneOf 26 = .ok (.iload_n 2, 1) := by decide +kernel
theorem dX9_takeOneOf_27 : decode cX9_takeOneOf 27 = .ok (.aload_n 1, 1) := by decide +kernel
theorem dX9_takeOneOf_28 : decode cX9_takeOneOf 28 = .ok (.iload_n 3, 1) := by decide +kernel
theorem dX9_takeOneOf_29 : decode cX9_takeOneOf 29 = .ok (.invokevirtual 41, 3) := by decide +kernel
theorem dX9_takeOneOf_32 : decode cX9_takeOneOf 32 = .ok (.if_icmp .ne 15, 3) := by decide +kernel
theorem dX9_takeOneOf_35 : decode cX9_takeOneOf 35 = .ok (.aload_n 0, 1) := by decide +kernel
theorem dX9_takeOneOf_36 : decode cX9_takeOneOf 36 = .ok (.dup, 1) := by decide +kernel
theorem dX9_takeOneOf_37 : decode cX9_takeOneOf 37 = .ok (.getfield 19, 3) := by decide +kernel
theorem dX9_takeOneOf_40 : decode cX9_takeOneOf 40 = .ok (.iconst 1, 1) := by decide +kernel
theorem dX9_takeOneOf_41 : decode cX9_takeOneOf 41 = .ok (.iadd, 1) := by decide +kernel
theorem dX9_takeOneOf_42 : decode cX9_takeOneOf 42 = .ok (.putfield 19, 3) := by decide +kernel
theorem dX9_takeOneOf_45 : decode cX9_takeOneOf 45 = .ok (.iload_n 3, 1) := by decide +kernel
theorem dX9_takeOneOf_46 : decode cX9_takeOneOf 46 = .ok (.ireturn, 1) := by decide +kernel
theorem dX9_takeOneOf_47 : decode cX9_takeOneOf 47 = .ok (.iinc 3 1, 3) := by decide +kernel
theorem dX9_takeOneOf_50 : decode cX9_takeOneOf 50 = .ok (.goto (-39), 3) := by decide +kernel
theorem dX9_takeOneOf_53 : decode cX9_takeOneOf 53 = .ok (.iconst (-1), 1) := by decide +kernel
theorem dX9_takeOneOf_54 : decode cX9_takeOneOf 54 = .ok (.ireturn, 1) := by decide +kernel
abbrev D_X9_takeOneOf : Nat := 7
def f_X9_takeOneOf_L11 (K35 : Mm → Nat → Int32 → Option (Int32 × Mm)) (K53 : Mm → Option (Int32 × Mm)) : Nat → Mm → Nat → Nat → Int32 → Int32 → Option (Int32 × Mm)
  | 0, _, _, _, _, _ => none
  | n + 1, μ0, a9, a10, x11, x12 =>
    ((tL a10).bind fun v13 =>
    (if v13 ≤ x12 then
    K53 μ0
    else
    ((ob μ0 a9 9).bind fun _ =>
    (bd (f_X9_isSound μ0 a9) fun v15 μ14 =>
    (if v15 = 0 then
    (nm (x12 + Int32.ofInt (1)) fun x16 =>
    f_X9_takeOneOf_L11 K35 K53 n μ14 a9 a10 x11 x16)
    else
    ((tC a10 x12).bind fun v17 =>
    (if x11 = v17 then
    K35 μ14 a9 x12
    else
    (nm (x12 + Int32.ofInt (1)) fun x18 =>
    f_X9_takeOneOf_L11 K35 K53 n μ14 a9 a10 x11 x18))))))))
set_option maxHeartbeats 4000000 in
set_option maxRecDepth 100000 in
theorem f_X9_takeOneOf_L11_ok {l : Launch} {G : GG} {K35 : Mm → Nat → Int32 → Option (Int32 × Mm)} {K53 : Mm → Option (Int32 × Mm)} {r : Int32} {μ' : Mm} (n : Nat) (μ0 : Mm) (a9 : Nat) (a10 : Nat) (x11 : Int32) (x12 : Int32) (hf : f_X9_takeOneOf_L11 K35 K53 n μ0 a9 a10 x11 x12 = some (r, μ')) (hK35 : ∀ (μ1 : Mm) (y0 : Nat) (y3 : Int32), K35 μ1 y0 y3 = some (r, μ') → Ev l G D_X9_takeOneOf yX9_takeOneOf cX9_takeOneOf 4 (some .int) 35 [(0, .ref y0), (3, .int y3)] [] μ1 (some (.int r)) μ') (hK53 : ∀ (μ1 : Mm), K53 μ1  = some (r, μ') → Ev l G D_X9_takeOneOf yX9_takeOneOf cX9_takeOneOf 4 (some .int) 53 [] [] μ1 (some (.int r)) μ') : Ev l G D_X9_takeOneOf yX9_takeOneOf cX9_takeOneOf 4 (some .int) 11 [(0, .ref a9), (1, .ref a10), (2, .int x11), (3, .int x12)] [] μ0 (some (.int r)) μ' := by
  induction n generalizing μ0 a9 a10 x11 x12 with
  | zero => cases hf
  | succ n ih0 =>
    have ih : ∀ (μ0 : Mm) (a9 : Nat) (a10 : Nat) (x11 : Int32) (x12 : Int32), f_X9_takeOneOf_L11 K35 K53 n μ0 a9 a10 x11 x12 = some (r, μ') → Ev l G D_X9_takeOneOf yX9_takeOneOf cX9_takeOneOf 4 (some .int) 11 [(0, .ref a9), (1, .ref a10), (2, .int x11), (3, .int x12)] [] μ0 (some (.int r)) μ' := fun μ0 a9 a10 x11 x12 hf => ih0 μ0 a9 a10 x11 x12 hf
    rw [f_X9_takeOneOf_L11] at hf
    refine E_iload_n (pc := 11) dX9_takeOneOf_11 rfl ?_
    refine E_aload_n (pc := 12) dX9_takeOneOf_12 rfl ?_
    refine E_slen (pc := 13) dX9_takeOneOf_13 ml_X9_37 (by decide) (Nat.le_of_ble_eq_true rfl) hf (fun v13 hf => ?_)
    refine E_icmp_ge (pc := 16) (tgt := 53) dX9_takeOneOf_16 (by decide) hf (fun hf => ?_) (fun hf => ?_)
    · refine Ev.sub [] rfl ?_
      exact hK53 _ hf
    · refine E_aload_n (pc := 19) dX9_takeOneOf_19 rfl ?_
      refine E_Vi (pc := 20) (d2 := D_X9_isSound) (ci := 9) [] dX9_takeOneOf_20 ml_X9_25 mf_X9_isSound im_X9_isSound rfl rfl rfl (by decide) (Nat.le_of_ble_eq_true rfl) (Nat.le_of_ble_eq_true rfl) rfl (fun _ _ h => f_X9_isSound_ok h) hf (fun v15 μ14 hf => ?_)
      refine E_if_eq (pc := 23) (tgt := 47) dX9_takeOneOf_23 (by decide) hf (fun hf => ?_) (fun hf => ?_)
      · refine E_iinc (pc := 47) (ls' := fun x16 => [(3, .int x16), (0, .ref a9), (1, .ref a10), (2, .int x11)]) dX9_takeOneOf_47 rfl (by decide) (fun _ => rfl) hf (fun x16 hf => ?_)
        refine E_goto (pc := 50) (tgt := 11) dX9_takeOneOf_50 (by decide) ?_
        refine Ev.sub [1, 2, 3, 0] rfl ?_
        exact ih _ _ _ _ _ hf
      · refine E_iload_n (pc := 26) dX9_takeOneOf_26 rfl ?_
        refine E_aload_n (pc := 27) dX9_takeOneOf_27 rfl ?_
        refine E_iload_n (pc := 28) dX9_takeOneOf_28 rfl ?_
        refine E_schr (pc := 29) dX9_takeOneOf_29 ml_X9_41 (by decide) (Nat.le_of_ble_eq_true rfl) hf (fun v17 hf => ?_)
        refine E_icmp_ne (pc := 32) (tgt := 47) dX9_takeOneOf_32 (by decide) hf (fun hf => ?_) (fun hf => ?_)
        · refine Ev.sub [0, 3] rfl ?_
          exact hK35 _ _ _ hf
        · refine E_iinc (pc := 47) (ls' := fun x18 => [(3, .int x18), (0, .ref a9), (1, .ref a10), (2, .int x11)]) dX9_takeOneOf_47 rfl (by decide) (fun _ => rfl) hf (fun x18 hf => ?_)
          refine E_goto (pc := 50) (tgt := 11) dX9_takeOneOf_50 (by decide) ?_
          refine Ev.sub [1, 2, 3, 0] rfl ?_
          exact ih _ _ _ _ _ hf
set_option maxRecDepth 100000 in
def f_X9_takeOneOf (μ0 : Mm) (a1 : Nat) (a2 : Nat) : Option (Int32 × Mm) :=
 ((ob μ0 a1 9).bind fun _ =>
    (bd (f_X9_skipBlanks μ0 a1) fun v4 μ3 =>
    ((ob μ3 a1 9).bind fun _ =>
    (bd (f_X9_byteAt μ3 a1 v4) fun v6 μ5 =>
    (nm v6 fun x7 =>
    (nm (0 : Int32) fun x8 =>
    f_X9_takeOneOf_L11 (fun μ19 a20 x21 =>
    ((gI μ19 a20 9 2).bind fun v22 =>
    ((pV μ19 a20 9 2 (.int (v22 + (1 : Int32)))).bind fun μ23 =>
    (some (x21, μ23))))) (fun μ24 =>
    (some ((-1 : Int32), μ24))) FU μ5 a1 a2 x7 x8))))))
set_option maxHeartbeats 4000000 in
set_option maxRecDepth 100000 in
theorem f_X9_takeOneOf_ok {l : Launch} {G : GG} {μ0 : Mm} {a1 : Nat} {a2 : Nat} {r : Int32} {μ' : Mm} (hf : f_X9_takeOneOf μ0 a1 a2 = some (r, μ')) : EvM l G D_X9_takeOneOf yX9_takeOneOf cX9_takeOneOf 4 (some .int) [.ref a1, .ref a2] μ0 (some (.int r)) μ' := by
  show Ev l G D_X9_takeOneOf yX9_takeOneOf cX9_takeOneOf 4 (some .int) 0 [(0, .ref a1), (1, .ref a2)] [] μ0 (some (.int r)) μ'
  unfold f_X9_takeOneOf at hf
  refine E_aload_n (pc := 0) dX9_takeOneOf_0 rfl ?_
  refine E_aload_n (pc := 1) dX9_takeOneOf_1 rfl ?_
  refine E_Vi (pc := 2) (d2 := D_X9_skipBlanks) (ci := 9) [] dX9_takeOneOf_2 ml_X9_29 mf_X9_skipBlanks im_X9_skipBlanks rfl rfl rfl (by decide) (Nat.le_of_ble_eq_true rfl) (Nat.le_of_ble_eq_true rfl) rfl (fun _ _ h => f_X9_skipBlanks_ok h) hf (fun v4 μ3 hf => ?_)
  refine E_Vi (pc := 5) (d2 := D_X9_byteAt) (ci := 9) [.int v4] dX9_takeOneOf_5 ml_X9_33 mf_X9_byteAt im_X9_byteAt rfl rfl rfl (by decide) (Nat.le_of_ble_eq_true rfl) (Nat.le_of_ble_eq_true rfl) rfl (fun _ _ h => f_X9_byteAt_ok h) hf (fun v6 μ5 hf => ?_)
  refine E_istore_n (pc := 8) (ls' := fun x7 => [(2, .int x7), (0, .ref a1), (1, .ref a2)]) dX9_takeOneOf_8 (by decide) (fun _ => rfl) hf (fun x7 hf => ?_)
  refine E_iconst (pc := 9) (v := (0 : Int32)) dX9_takeOneOf_9 (by decide) ?_
  refine E_istore_n (pc := 10) (ls' := fun x8 => [(3, .int x8), (2, .int x7), (0, .ref a1), (1, .ref a2)]) dX9_takeOneOf_10 (by decide) (fun _ => rfl) hf (fun x8 hf => ?_)
  refine Ev.sub [2, 3, 1, 0] rfl ?_
  refine f_X9_takeOneOf_L11_ok  _ _ _ _ _ _ hf (fun μ19 a20 x21 hf => ?_) (fun μ24 hf => ?_)
  · refine E_aload_n (pc := 35) dX9_takeOneOf_35 rfl ?_
    refine E_dup (pc := 36) dX9_takeOneOf_36 rfl ?_
    refine E_getI (pc := 37) dX9_takeOneOf_37 fl_X9_19 hf (fun v22 hf => ?_)
    refine E_iconst (pc := 40) (v := (1 : Int32)) dX9_takeOneOf_40 (by decide) ?_
    refine E_iadd (pc := 41) dX9_takeOneOf_41 ?_
    refine E_putI (pc := 42) dX9_takeOneOf_42 (pl_X9_19 _) hf (fun μ23 hf => ?_)
    refine E_iload_n (pc := 45) dX9_takeOneOf_45 rfl ?_
    exact E_iret (pc := 46) dX9_takeOneOf_46 rfl hf
  · refine E_iconst (pc := 53) (v := (-1 : Int32)) dX9_takeOneOf_53 (by decide) ?_
    exact E_iret (pc := 54) dX9_takeOneOf_54 rfl hf
theorem dX9_takeWord_0 : decode cX9_takeWord 0 = .ok (.iconst 0, 1) := by decide +kernel
theorem dX9_takeWord_1 : decode cX9_takeWord 1 = .ok (.istore_n 2, 1) := by decide +kernel
theorem dX9_takeWord_2 : decode cX9_takeWord 2 = .ok (.aload_n 0, 1) := by decide +kernel
theorem dX9_takeWord_3 : decode cX9_takeWord 3 = .ok (.getfield 19, 3) := by decide +kernel
theorem dX9_takeWord_6 : decode cX9_takeWord 6 = .ok (.iload_n 2, 1) := by decide +kernel
theorem dX9_takeWord_7 : decode cX9_takeWord 7 = .ok (.iadd, 1) := by decide +kernel
theorem dX9_takeWord_8 : decode cX9_takeWord 8 = .ok (.aload_n 0, 1) := by decide +kernel
theorem dX9_takeWord_9 : decode cX9_takeWord 9 = .ok (.getfield 15, 3) := by decide +kernel
theorem dX9_takeWord_12 : decode cX9_takeWord 12 = .ok (.if_icmp .ge 39, 3) := by decide +kernel
theorem dX9_takeWord_15 : decode cX9_takeWord 15 = .ok (.aload_n 0, 1) := by decide +kernel
theorem dX9_takeWord_16 : decode cX9_takeWord 16 = .ok (.aload_n 0, 1) := by decide +kernel
theorem dX9_takeWord_17 : decode cX9_takeWord 17 = .ok (.getfield 19, 3) := by decide +kernel
theorem dX9_takeWord_20 : decode cX9_takeWord 20 = .ok (.iload_n 2, 1) := by decide +kernel
theorem dX9_takeWord_21 : decode cX9_takeWord 21 = .ok (.iadd, 1) := by decide +kernel
theorem dX9_takeWord_22 : decode cX9_takeWord 22 = .ok (.invokevirtual 33, 3) := by decide +kernel
theorem dX9_takeWord_25 : decode cX9_takeWord 25 = .ok (.bipush 97, 2) := by decide +kernel
theorem dX9_takeWord_27 : decode cX9_takeWord 27 = .ok (.if_icmp .lt 24, 3) := by decide +kernel
theorem dX9_takeWord_30 : decode cX9_takeWord 30 = .ok (.aload_n 0, 1) := by decide +kernel
theorem dX9_takeWord_31 : decode cX9_takeWord 31 = .ok (.aload_n 0, 1) := by decide +kernel
theorem dX9_takeWord_32 : decode cX9_takeWord 32 = .ok (.getfield 19, 3) := by decide +kernel
theorem dX9_takeWord_35 : decode cX9_takeWord 35 = .ok (.iload_n 2, 1) := by decide +kernel
theorem dX9_takeWord_36 : decode cX9_takeWord 36 = .ok (.iadd, 1) := by decide +kernel
theorem dX9_takeWord_37 : decode cX9_takeWord 37 = .ok (.invokevirtual 33, 3) := by decide +kernel
theorem dX9_takeWord_40 : decode cX9_takeWord 40 = .ok (.bipush 122, 2) := by decide +kernel
theorem dX9_takeWord_42 : decode cX9_takeWord 42 = .ok (.if_icmp .gt 9, 3) := by decide +kernel
theorem dX9_takeWord_45 : decode cX9_takeWord 45 = .ok (.iinc 2 1, 3) := by decide +kernel
theorem dX9_takeWord_48 : decode cX9_takeWord 48 = .ok (.goto (-46), 3) := by decide +kernel
theorem dX9_takeWord_51 : decode cX9_takeWord 51 = .ok (.iconst 0, 1) := by decide +kernel
theorem dX9_takeWord_52 : decode cX9_takeWord 52 = .ok (.istore_n 3, 1) := by decide +kernel
theorem dX9_takeWord_53 : decode cX9_takeWord 53 = .ok (.iconst 0, 1) := by decide +kernel
theorem dX9_takeWord_54 : decode cX9_takeWord 54 = .ok (.istore 4, 2) := by decide +kernel
theorem dX9_takeWord_56 : decode cX9_takeWord 56 = .ok (.iconst 1, 1) := by decide +kernel
theorem dX9_takeWord_57 : decode cX9_takeWord 57 = .ok (.istore 5, 2) := by decide +kernel
theorem dX9_takeWord_59 : decode cX9_takeWord 59 = .ok (.iconst 0, 1) := by decide +kernel
theorem dX9_takeWord_60 : decode cX9_takeWord 60 = .ok (.istore 6, 2) := by decide +kernel
theorem dX9_takeWord_62 : decode cX9_takeWord 62 = .ok (.iload 6, 2) := by decide +kernel
theorem dX9_takeWord_64 : decode cX9_takeWord 64 = .ok (.aload_n 1, 1) := by decide +kernel
theorem dX9_takeWord_65 : decode cX9_takeWord 65 = .ok (.invokevirtual 37, 3) := by decide +kernel
theorem dX9_takeWord_68 : decode cX9_takeWord 68 = .ok (.if_icmp .ge 90, 3) := by decide +kernel
theorem dX9_takeWord_71 : decode cX9_takeWord 71 = .ok (.aload_n 1, 1) := by decide +kernel
theorem dX9_takeWord_72 : decode cX9_takeWord 72 = .ok (.iload 6, 2) := by decide +kernel
theorem dX9_takeWord_74 : decode cX9_takeWord 74 = .ok (.invokevirtual 41, 3) := by decide +kernel
theorem dX9_takeWord_77 : decode cX9_takeWord 77 = .ok (.bipush 32, 2) := by decide +kernel
theorem dX9_takeWord_79 : decode cX9_takeWord 79 = .ok (.if_icmp .eq 41, 3) := by decide +kernel
theorem dX9_takeWord_82 : decode cX9_takeWord 82 = .ok (.iload 5, 2) := by decide +kernel
theorem dX9_takeWord_84 : decode cX9_takeWord 84 = .ok (.ifCond .eq 27, 3) := by decide +kernel
theorem dX9_takeWord_87 : decode cX9_takeWord 87 = .ok (.aload_n 1, 1) := by decide +kernel
theorem dX9_takeWord_88 : decode cX9_takeWord 88 = .ok (.iload 6, 2) := by decide +kernel
theorem dX9_takeWord_90 : decode cX9_takeWord 90 = .ok (.invokevirtual 41, 3) := by decide +kernel
theorem dX9_takeWord_93 : decode cX9_takeWord 93 = .ok (.aload_n 0, 1) := by decide +kernel
theorem dX9_takeWord_94 : decode cX9_takeWord 94 = .ok (.aload_n 0, 1) := by decide +kernel
theorem dX9_takeWord_95 : decode cX9_takeWord 95 = .ok (.getfield 19, 3) := by decide +kernel
theorem dX9_takeWord_98 : decode cX9_takeWord 98 = .ok (.iload 4, 2) := by decide +kernel
theorem dX9_takeWord_100 : decode cX9_takeWord 100 = .ok (.iadd, 1) := by decide +kernel
theorem dX9_takeWord_101 : decode cX9_takeWord 101 = .ok (.invokevirtual 33, 3) := by decide +kernel
theorem dX9_takeWord_104 : decode cX9_takeWord 104 = .ok (.if_icmp .ne 7, 3) := by decide +kernel
theorem dX9_takeWord_107 : decode cX9_takeWord 107 = .ok (.iconst 1, 1) := by decide +kernel
theorem dX9_takeWord_108 : decode cX9_takeWord 108 = .ok (.goto 4, 3) := by decide +kernel
theorem dX9_takeWord_111 : decode cX9_takeWord 111 = .ok (.iconst 0, 1) := by decide +kernel
theorem dX9_takeWord_112 : decode cX9_takeWord 112 = .ok (.istore 5, 2) := by decide +kernel
theorem dX9_takeWord_114 : decode cX9_takeWord 114 = .ok (.iinc 4 1, 3) := by decide +kernel
theorem dX9_takeWord_117 : decode cX9_takeWord 117 = .ok (.goto 35, 3) := by decide +kernel
theorem dX9_takeWord_120 : decode cX9_takeWord 120 = .ok (.iload 5, 2) := by decide +kernel
theorem dX9_takeWord_122 : decode cX9_takeWord 122 = .ok (.ifCond .eq 21, 3) := by decide +kernel
theorem dX9_takeWord_125 : decode cX9_takeWord 125 = .ok (.iload 4, 2) := by decide +kernel
theorem dX9_takeWord_127 : decode cX9_takeWord 127 = .ok (.iload_n 2, 1) := by decide +kernel
theorem dX9_takeWord_128 : decode cX9_takeWord 128 = .ok (.if_icmp .ne 15, 3) := by decide +kernel
theorem dX9_takeWord_131 : decode cX9_takeWord 131 = .ok (.aload_n 0, 1) := by decide +kernel
theorem dX9_takeWord_132 : decode cX9_takeWord 132 = .ok (.dup, 1) := by decide +kernel
theorem dX9_takeWord_133 : decode cX9_takeWord 133 = .ok (.getfield 19, 3) := by decide +kernel
theorem dX9_takeWord_136 : decode cX9_takeWord 136 = .ok (.iload_n 2, 1) := by decide +kernel
theorem dX9_takeWord_137 : decode cX9_takeWord 137 = .ok (.iadd, 1) := by decide +kernel
theorem dX9_takeWord_138 : decode cX9_takeWord 138 = .ok (.putfield 19, 3) := by decide +kernel
theorem dX9_takeWord_141 : decode cX9_takeWord 141 = .ok (.iload_n 3, 1) := by decide +kernel
theorem dX9_takeWord_142 : decode cX9_takeWord 142 = .ok (.ireturn, 1) := by decide +kernel
theorem dX9_takeWord_143 : decode cX9_takeWord 143 = .ok (.iinc 3 1, 3) := by decide +kernel
theorem dX9_takeWord_146 : decode cX9_takeWord 146 = .ok (.iconst 0, 1) := by decide +kernel
theorem dX9_takeWord_147 : decode cX9_takeWord 147 = .ok (.istore 4, 2) := by decide +kernel
theorem dX9_takeWord_149 : decode cX9_takeWord 149 = .ok (.iconst 1, 1) := by decide +kernel
theorem dX9_takeWord_150 : decode cX9_takeWord 150 = .ok (.istore 5, 2) := by decide +kernel
theorem dX9_takeWord_152 : decode cX9_takeWord 152 = .ok (.iinc 6 1, 3) := by decide +kernel
theorem dX9_takeWord_155 : decode cX9_takeWord 155 = .ok (.goto (-93), 3) := by decide +kernel
theorem dX9_takeWord_158 : decode cX9_takeWord 158 = .ok (.iconst (-1), 1) := by decide +kernel
theorem dX9_takeWord_159 : decode cX9_takeWord 159 = .ok (.ireturn, 1) := by decide +kernel
abbrev D_X9_takeWord : Nat := 7
def f_X9_takeWord_L2 (K51 : Mm → Nat → Nat → Int32 → Option (Int32 × Mm)) : Nat → Mm → Nat → Nat → Int32 → Option (Int32 × Mm)
  | 0, _, _, _, _ => none
  | n + 1, μ0, a4, a5, x6 =>
    ((gI μ0 a4 9 2).bind fun v7 =>
    ((gI μ0 a4 9 1).bind fun v8 =>
    (if v8 ≤ (v7 + x6) then
    K51 μ0 a4 a5 x6
    else
    ((gI μ0 a4 9 2).bind fun v9 =>
    ((ob μ0 a4 9).bind fun _ =>
    (bd (f_X9_byteAt μ0 a4 (v9 + x6)) fun v11 μ10 =>
    (if v11 < (97 : Int32) then
    K51 μ10 a4 a5 x6
    else
    ((gI μ10 a4 9 2).bind fun v12 =>
    ((ob μ10 a4 9).bind fun _ =>
    (bd (f_X9_byteAt μ10 a4 (v12 + x6)) fun v14 μ13 =>
    (if (122 : Int32) < v14 then
    K51 μ13 a4 a5 x6
    else
    (nm (x6 + Int32.ofInt (1)) fun x15 =>
    f_X9_takeWord_L2 K51 n μ13 a4 a5 x15))))))))))))
set_option maxHeartbeats 4000000 in
set_option maxRecDepth 100000 in
theorem f_X9_takeWord_L2_ok {l : Launch} {G : GG} {K51 : Mm → Nat → Nat → Int32 → Option (Int32 × Mm)} {r : Int32} {μ' : Mm} (n : Nat) (μ0 : Mm) (a4 : Nat) (a5 : Nat) (x6 : Int32) (hf : f_X9_takeWord_L2 K51 n μ0 a4 a5 x6 = some (r, μ')) (hK51 : ∀ (μ1 : Mm) (y0 : Nat) (y1 : Nat) (y2 : Int32), K51 μ1 y0 y1 y2 = some (r, μ') → Ev l G D_X9_takeWord yX9_takeWord cX9_takeWord 7 (some .int) 51 [(0, .ref y0), (1, .ref y1), (2, .int y2)] [] μ1 (some (.int r)) μ') : Ev l G D_X9_takeWord yX9_takeWord cX9_takeWord 7 (some .int) 2 [(0, .ref a4), (1, .ref a5), (2, .int x6)] [] μ0 (some (.int r)) μ' := by
  induction n generalizing μ0 a4 a5 x6 with
  | zero => cases hf
  | succ n ih0 =>
    have ih : ∀ (μ0 : Mm) (a4 : Nat) (a5 : Nat) (x6 : Int32), f_X9_takeWord_L2 K51 n μ0 a4 a5 x6 = some (r, μ') → Ev l G D_X9_takeWord yX9_takeWord cX9_takeWord 7 (some .int) 2 [(0, .ref a4), (1, .ref a5), (2, .int x6)] [] μ0 (some (.int r)) μ' := fun μ0 a4 a5 x6 hf => ih0 μ0 a4 a5 x6 hf
    rw [f_X9_takeWord_L2] at hf
    refine E_aload_n (pc := 2) dX9_takeWord_2 rfl ?_
    refine E_getI (pc := 3) dX9_takeWord_3 fl_X9_19 hf (fun v7 hf => ?_)
    refine E_iload_n (pc := 6) dX9_takeWord_6 rfl ?_
    refine E_iadd (pc := 7) dX9_takeWord_7 ?_
    refine E_aload_n (pc := 8) dX9_takeWord_8 rfl ?_
    refine E_getI (pc := 9) dX9_takeWord_9 fl_X9_15 hf (fun v8 hf => ?_)
    refine E_icmp_ge (pc := 12) (tgt := 51) dX9_takeWord_12 (by decide) hf (fun hf => ?_) (fun hf => ?_)
    · refine Ev.sub [0, 1, 2] rfl ?_
      exact hK51 _ _ _ _ hf
    · refine E_aload_n (pc := 15) dX9_takeWord_15 rfl ?_
      refine E_aload_n (pc := 16) dX9_takeWord_16 rfl ?_
      refine E_getI (pc := 17) dX9_takeWord_17 fl_X9_19 hf (fun v9 hf => ?_)
      refine E_iload_n (pc := 20) dX9_takeWord_20 rfl ?_
      refine E_iadd (pc := 21) dX9_takeWord_21 ?_
      refine E_Vi (pc := 22) (d2 := D_X9_byteAt) (ci := 9) [.int (v9 + x6)] dX9_takeWord_22 ml_X9_33 mf_X9_byteAt im_X9_byteAt rfl rfl rfl (by decide) (Nat.le_of_ble_eq_true rfl) (Nat.le_of_ble_eq_true rfl) rfl (fun _ _ h => f_X9_byteAt_ok h) hf (fun v11 μ10 hf => ?_)
      refine E_bipush (pc := 25) (v := (97 : Int32)) dX9_takeWord_25 (by decide) ?_
      refine E_icmp_lt (pc := 27) (tgt := 51) dX9_takeWord_27 (by decide) hf (fun hf => ?_) (fun hf => ?_)
      · refine Ev.sub [0, 1, 2] rfl ?_
        exact hK51 _ _ _ _ hf
      · refine E_aload_n (pc := 30) dX9_takeWord_30 rfl ?_
        refine E_aload_n (pc := 31) dX9_takeWord_31 rfl ?_
        refine E_getI (pc := 32) dX9_takeWord_32 fl_X9_19 hf (fun v12 hf => ?_)
        refine E_iload_n (pc := 35) dX9_takeWord_35 rfl ?_
        refine E_iadd (pc := 36) dX9_takeWord_36 ?_
        refine E_Vi (pc := 37) (d2 := D_X9_byteAt) (ci := 9) [.int (v12 + x6)] dX9_takeWord_37 ml_X9_33 mf_X9_byteAt im_X9_byteAt rfl rfl rfl (by decide) (Nat.le_of_ble_eq_true rfl) (Nat.le_of_ble_eq_true rfl) rfl (fun _ _ h => f_X9_byteAt_ok h) hf (fun v14 μ13 hf => ?_)
        refine E_bipush (pc := 40) (v := (122 : Int32)) dX9_takeWord_40 (by decide) ?_
        refine E_icmp_gt (pc := 42) (tgt := 51) dX9_takeWord_42 (by decide) hf (fun hf => ?_) (fun hf => ?_)
        · refine Ev.sub [0, 1, 2] rfl ?_
          exact hK51 _ _ _ _ hf
        · refine E_iinc (pc := 45) (ls' := fun x15 => [(2, .int x15), (0, .ref a4), (1, .ref a5)]) dX9_takeWord_45 rfl (by decide) (fun _ => rfl) hf (fun x15 hf => ?_)
          refine E_goto (pc := 48) (tgt := 2) dX9_takeWord_48 (by decide) ?_
          refine Ev.sub [1, 2, 0] rfl ?_
          exact ih _ _ _ _ hf
def f_X9_takeWord_L62 (K131 : Mm → Nat → Int32 → Int32 → Option (Int32 × Mm)) (K158 : Mm → Option (Int32 × Mm)) : Nat → Mm → Nat → Nat → Int32 → Int32 → Int32 → Int32 → Int32 → Option (Int32 × Mm)
  | 0, _, _, _, _, _, _, _, _ => none
  | n + 1, μ0, a24, a25, x26, x27, x28, x29, x30 =>
    ((tL a25).bind fun v31 =>
    (if v31 ≤ x30 then
    K158 μ0
    else
    ((tC a25 x30).bind fun v32 =>
    (if v32 = (32 : Int32) then
    (if x29 = 0 then
    (nm (x27 + Int32.ofInt (1)) fun x33 =>
    (nm (0 : Int32) fun x34 =>
    (nm (1 : Int32) fun x35 =>
    (nm (x30 + Int32.ofInt (1)) fun x36 =>
    f_X9_takeWord_L62 K131 K158 n μ0 a24 a25 x26 x33 x34 x35 x36))))
    else
    (if x28 = x26 then
    K131 μ0 a24 x26 x27
    else
    (nm (x27 + Int32.ofInt (1)) fun x37 =>
    (nm (0 : Int32) fun x38 =>
    (nm (1 : Int32) fun x39 =>
    (nm (x30 + Int32.ofInt (1)) fun x40 =>
    f_X9_takeWord_L62 K131 K158 n μ0 a24 a25 x26 x37 x38 x39 x40))))))
    else
    (if x29 = 0 then
    (nm (0 : Int32) fun x41 =>
    (nm (x28 + Int32.ofInt (1)) fun x42 =>
    (nm (x30 + Int32.ofInt (1)) fun x43 =>
    f_X9_takeWord_L62 K131 K158 n μ0 a24 a25 x26 x27 x42 x41 x43)))
    else
    ((tC a25 x30).bind fun v44 =>
    ((gI μ0 a24 9 2).bind fun v45 =>
    ((ob μ0 a24 9).bind fun _ =>
    (bd (f_X9_byteAt μ0 a24 (v45 + x28)) fun v47 μ46 =>
    (if v44 = v47 then
    (nm (1 : Int32) fun x48 =>
    (nm (x28 + Int32.ofInt (1)) fun x49 =>
    (nm (x30 + Int32.ofInt (1)) fun x50 =>
    f_X9_takeWord_L62 K131 K158 n μ46 a24 a25 x26 x27 x49 x48 x50)))
    else
    (nm (0 : Int32) fun x51 =>
    (nm (x28 + Int32.ofInt (1)) fun x52 =>
    (nm (x30 + Int32.ofInt (1)) fun x53 =>
    f_X9_takeWord_L62 K131 K158 n μ46 a24 a25 x26 x27 x52 x51 x53)))))))))))))
set_option maxHeartbeats 4000000 in
set_option maxRecDepth 100000 in
theorem f_X9_takeWord_L62_ok {l : Launch} {G : GG} {K131 : Mm → Nat → Int32 → Int32 → Option (Int32 × Mm)} {K158 : Mm → Option (Int32 × Mm)} {r : Int32} {μ' : Mm} (n : Nat) (μ0 : Mm) (a24 : Nat) (a25 : Nat) (x26 : Int32) (x27 : Int32) (x28 : Int32) (x29 : Int32) (x30 : Int32) (hf : f_X9_takeWord_L62 K131 K158 n μ0 a24 a25 x26 x27 x28 x29 x30 = some (r, μ')) (hK131 : ∀ (μ1 : Mm) (y0 : Nat) (y2 : Int32) (y3 : Int32), K131 μ1 y0 y2 y3 = some (r, μ') → Ev l G D_X9_takeWord yX9_takeWord cX9_takeWord 7 (some .int) 131 [(0, .ref y0), (2, .int y2), (3, .int y3)] [] μ1 (some (.int r)) μ') (hK158 : ∀ (μ1 : Mm), K158 μ1  = some (r, μ') → Ev l G D_X9_takeWord yX9_takeWord cX9_takeWord 7 (some .int) 158 [] [] μ1 (some (.int r)) μ') : Ev l G D_X9_takeWord yX9_takeWord cX9_takeWord 7 (some .int) 62 [(0, .ref a24), (1, .ref a25), (2, .int x26), (3, .int x27), (4, .int x28), (5, .int x29), (6, .int x30)] [] μ0 (some (.int r)) μ' := by
  induction n generalizing μ0 a24 a25 x26 x27 x28 x29 x30 with
  | zero => cases hf
  | succ n ih0 =>
    have ih : ∀ (μ0 : Mm) (a24 : Nat) (a25 : Nat) (x26 : Int32) (x27 : Int32) (x28 : Int32) (x29 : Int32) (x30 : Int32), f_X9_takeWord_L62 K131 K158 n μ0 a24 a25 x26 x27 x28 x29 x30 = some (r, μ') → Ev l G D_X9_takeWord yX9_takeWord cX9_takeWord 7 (some .int) 62 [(0, .ref a24), (1, .ref a25), (2, .int x26), (3, .int x27), (4, .int x28), (5, .int x29), (6, .int x30)] [] μ0 (some (.int r)) μ' := fun μ0 a24 a25 x26 x27 x28 x29 x30 hf => ih0 μ0 a24 a25 x26 x27 x28 x29 x30 hf
    rw [f_X9_takeWord_L62] at hf
    refine E_iload (pc := 62) dX9_takeWord_62 rfl ?_
    refine E_aload_n (pc := 64) dX9_takeWord_64 rfl ?_
    refine E_slen (pc := 65) dX9_takeWord_65 ml_X9_37 (by decide) (Nat.le_of_ble_eq_true rfl) hf (fun v31 hf => ?_)
    refine E_icmp_ge (pc := 68) (tgt := 158) dX9_takeWord_68 (by decide) hf (fun hf => ?_) (fun hf => ?_)
    · refine Ev.sub [] rfl ?_
      exact hK158 _ hf
    · refine E_aload_n (pc := 71) dX9_takeWord_71 rfl ?_
      refine E_iload (pc := 72) dX9_takeWord_72 rfl ?_
      refine E_schr (pc := 74) dX9_takeWord_74 ml_X9_41 (by decide) (Nat.le_of_ble_eq_true rfl) hf (fun v32 hf => ?_)
      refine E_bipush (pc := 77) (v := (32 : Int32)) dX9_takeWord_77 (by decide) ?_
      refine E_icmp_eq (pc := 79) (tgt := 120) dX9_takeWord_79 (by decide) hf (fun hf => ?_) (fun hf => ?_)
      · refine E_iload (pc := 120) dX9_takeWord_120 rfl ?_
        refine E_if_eq (pc := 122) (tgt := 143) dX9_takeWord_122 (by decide) hf (fun hf => ?_) (fun hf => ?_)
        · refine E_iinc (pc := 143) (ls' := fun x33 => [(3, .int x33), (0, .ref a24), (1, .ref a25), (2, .int x26), (4, .int x28), (5, .int x29), (6, .int x30)]) dX9_takeWord_143 rfl (by decide) (fun _ => rfl) hf (fun x33 hf => ?_)
          refine E_iconst (pc := 146) (v := (0 : Int32)) dX9_takeWord_146 (by decide) ?_
          refine E_istore (pc := 147) (ls' := fun x34 => [(4, .int x34), (3, .int x33), (0, .ref a24), (1, .ref a25), (2, .int x26), (5, .int x29), (6, .int x30)]) dX9_takeWord_147 (by decide) (fun _ => rfl) hf (fun x34 hf => ?_)
          refine E_iconst (pc := 149) (v := (1 : Int32)) dX9_takeWord_149 (by decide) ?_
          refine E_istore (pc := 150) (ls' := fun x35 => [(5, .int x35), (4, .int x34), (3, .int x33), (0, .ref a24), (1, .ref a25), (2, .int x26), (6, .int x30)]) dX9_takeWord_150 (by decide) (fun _ => rfl) hf (fun x35 hf => ?_)
          refine E_iinc (pc := 152) (ls' := fun x36 => [(6, .int x36), (5, .int x35), (4, .int x34), (3, .int x33), (0, .ref a24), (1, .ref a25), (2, .int x26)]) dX9_takeWord_152 rfl (by decide) (fun _ => rfl) hf (fun x36 hf => ?_)
          refine E_goto (pc := 155) (tgt := 62) dX9_takeWord_155 (by decide) ?_
          refine Ev.sub [4, 5, 6, 3, 2, 1, 0] rfl ?_
          exact ih _ _ _ _ _ _ _ _ hf
        · refine E_iload (pc := 125) dX9_takeWord_125 rfl ?_
          refine E_iload_n (pc := 127) dX9_takeWord_127 rfl ?_
          refine E_icmp_ne (pc := 128) (tgt := 143) dX9_takeWord_128 (by decide) hf (fun hf => ?_) (fun hf => ?_)
          · refine Ev.sub [0, 2, 3] rfl ?_
            exact hK131 _ _ _ _ hf
          · refine E_iinc (pc := 143) (ls' := fun x37 => [(3, .int x37), (0, .ref a24), (1, .ref a25), (2, .int x26), (4, .int x28), (5, .int x29), (6, .int x30)]) dX9_takeWord_143 rfl (by decide) (fun _ => rfl) hf (fun x37 hf => ?_)
            refine E_iconst (pc := 146) (v := (0 : Int32)) dX9_takeWord_146 (by decide) ?_
            refine E_istore (pc := 147) (ls' := fun x38 => [(4, .int x38), (3, .int x37), (0, .ref a24), (1, .ref a25), (2, .int x26), (5, .int x29), (6, .int x30)]) dX9_takeWord_147 (by decide) (fun _ => rfl) hf (fun x38 hf => ?_)
            refine E_iconst (pc := 149) (v := (1 : Int32)) dX9_takeWord_149 (by decide) ?_
            refine E_istore (pc := 150) (ls' := fun x39 => [(5, .int x39), (4, .int x38), (3, .int x37), (0, .ref a24), (1, .ref a25), (2, .int x26), (6, .int x30)]) dX9_takeWord_150 (by decide) (fun _ => rfl) hf (fun x39 hf => ?_)
            refine E_iinc (pc := 152) (ls' := fun x40 => [(6, .int x40), (5, .int x39), (4, .int x38), (3, .int x37), (0, .ref a24), (1, .ref a25), (2, .int x26)]) dX9_takeWord_152 rfl (by decide) (fun _ => rfl) hf (fun x40 hf => ?_)
            refine E_goto (pc := 155) (tgt := 62) dX9_takeWord_155 (by decide) ?_
            refine Ev.sub [4, 5, 6, 3, 2, 1, 0] rfl ?_
            exact ih _ _ _ _ _ _ _ _ hf
      · refine E_iload (pc := 82) dX9_takeWord_82 rfl ?_
        refine E_if_eq (pc := 84) (tgt := 111) dX9_takeWord_84 (by decide) hf (fun hf => ?_) (fun hf => ?_)
        · refine E_iconst (pc := 111) (v := (0 : Int32)) dX9_takeWord_111 (by decide) ?_
          refine E_istore (pc := 112) (ls' := fun x41 => [(5, .int x41), (0, .ref a24), (1, .ref a25), (2, .int x26), (3, .int x27), (4, .int x28), (6, .int x30)]) dX9_takeWord_112 (by decide) (fun _ => rfl) hf (fun x41 hf => ?_)
          refine E_iinc (pc := 114) (ls' := fun x42 => [(4, .int x42), (5, .int x41), (0, .ref a24), (1, .ref a25), (2, .int x26), (3, .int x27), (6, .int x30)]) dX9_takeWord_114 rfl (by decide) (fun _ => rfl) hf (fun x42 hf => ?_)
          refine E_goto (pc := 117) (tgt := 152) dX9_takeWord_117 (by decide) ?_
          refine E_iinc (pc := 152) (ls' := fun x43 => [(6, .int x43), (4, .int x42), (5, .int x41), (0, .ref a24), (1, .ref a25), (2, .int x26), (3, .int x27)]) dX9_takeWord_152 rfl (by decide) (fun _ => rfl) hf (fun x43 hf => ?_)
          refine E_goto (pc := 155) (tgt := 62) dX9_takeWord_155 (by decide) ?_
          refine Ev.sub [3, 4, 5, 6, 1, 2, 0] rfl ?_
          exact ih _ _ _ _ _ _ _ _ hf
        · refine E_aload_n (pc := 87) dX9_takeWord_87 rfl ?_
          refine E_iload (pc := 88) dX9_takeWord_88 rfl ?_
          refine E_schr (pc := 90) dX9_takeWord_90 ml_X9_41 (by decide) (Nat.le_of_ble_eq_true rfl) hf (fun v44 hf => ?_)
          refine E_aload_n (pc := 93) dX9_takeWord_93 rfl ?_
          refine E_aload_n (pc := 94) dX9_takeWord_94 rfl ?_
          refine E_getI (pc := 95) dX9_takeWord_95 fl_X9_19 hf (fun v45 hf => ?_)
          refine E_iload (pc := 98) dX9_takeWord_98 rfl ?_
          refine E_iadd (pc := 100) dX9_takeWord_100 ?_
          refine E_Vi (pc := 101) (d2 := D_X9_byteAt) (ci := 9) [.int (v45 + x28)] dX9_takeWord_101 ml_X9_33 mf_X9_byteAt im_X9_byteAt rfl rfl rfl (by decide) (Nat.le_of_ble_eq_true rfl) (Nat.le_of_ble_eq_true rfl) rfl (fun _ _ h => f_X9_byteAt_ok h) hf (fun v47 μ46 hf => ?_)
          refine E_icmp_ne (pc := 104) (tgt := 111) dX9_takeWord_104 (by decide) hf (fun hf => ?_) (fun hf => ?_)
          · refine E_iconst (pc := 107) (v := (1 : Int32)) dX9_takeWord_107 (by decide) ?_
            refine E_goto (pc := 108) (tgt := 112) dX9_takeWord_108 (by decide) ?_
            refine E_istore (pc := 112) (ls' := fun x48 => [(5, .int x48), (0, .ref a24), (1, .ref a25), (2, .int x26), (3, .int x27), (4, .int x28), (6, .int x30)]) dX9_takeWord_112 (by decide) (fun _ => rfl) hf (fun x48 hf => ?_)
            refine E_iinc (pc := 114) (ls' := fun x49 => [(4, .int x49), (5, .int x48), (0, .ref a24), (1, .ref a25), (2, .int x26), (3, .int x27), (6, .int x30)]) dX9_takeWord_114 rfl (by decide) (fun _ => rfl) hf (fun x49 hf => ?_)
            refine E_goto (pc := 117) (tgt := 152) dX9_takeWord_117 (by decide) ?_
            refine E_iinc (pc := 152) (ls' := fun x50 => [(6, .int x50), (4, .int x49), (5, .int x48), (0, .ref a24), (1, .ref a25), (2, .int x26), (3, .int x27)]) dX9_takeWord_152 rfl (by decide) (fun _ => rfl) hf (fun x50 hf => ?_)
            refine E_goto (pc := 155) (tgt := 62) dX9_takeWord_155 (by decide) ?_
            refine Ev.sub [3, 4, 5, 6, 1, 2, 0] rfl ?_
            exact ih _ _ _ _ _ _ _ _ hf
          · refine E_iconst (pc := 111) (v := (0 : Int32)) dX9_takeWord_111 (by decide) ?_
            refine E_istore (pc := 112) (ls' := fun x51 => [(5, .int x51), (0, .ref a24), (1, .ref a25), (2, .int x26), (3, .int x27), (4, .int x28), (6, .int x30)]) dX9_takeWord_112 (by decide) (fun _ => rfl) hf (fun x51 hf => ?_)
            refine E_iinc (pc := 114) (ls' := fun x52 => [(4, .int x52), (5, .int x51), (0, .ref a24), (1, .ref a25), (2, .int x26), (3, .int x27), (6, .int x30)]) dX9_takeWord_114 rfl (by decide) (fun _ => rfl) hf (fun x52 hf => ?_)
            refine E_goto (pc := 117) (tgt := 152) dX9_takeWord_117 (by decide) ?_
            refine E_iinc (pc := 152) (ls' := fun x53 => [(6, .int x53), (4, .int x52), (5, .int x51), (0, .ref a24), (1, .ref a25), (2, .int x26), (3, .int x27)]) dX9_takeWord_152 rfl (by decide) (fun _ => rfl) hf (fun x53 hf => ?_)
            refine E_goto (pc := 155) (tgt := 62) dX9_takeWord_155 (by decide) ?_
            refine Ev.sub [3, 4, 5, 6, 1, 2, 0] rfl ?_
            exact ih _ _ _ _ _ _ _ _ hf
set_option maxRecDepth 100000 in
def f_X9_takeWord (μ0 : Mm) (a1 : Nat) (a2 : Nat) : Option (Int32 × Mm) :=
 (nm (0 : Int32) fun x3 =>
    f_X9_takeWord_L2 (fun μ16 a17 a18 x19 =>
    (nm (0 : Int32) fun x20 =>
    (nm (0 : Int32) fun x21 =>
    (nm (1 : Int32) fun x22 =>
    (nm (0 : Int32) fun x23 =>
    f_X9_takeWord_L62 (fun μ54 a55 x56 x57 =>
    ((gI μ54 a55 9 2).bind fun v58 =>
    ((pV μ54 a55 9 2 (.int (v58 + x56))).bind fun μ59 =>
    (some (x57, μ59))))) (fun μ60 =>
    (some ((-1 : Int32), μ60))) FU μ16 a17 a18 x19 x20 x21 x22 x23))))) FU μ0 a1 a2 x3)
set_option maxHeartbeats 4000000 in
set_option maxRecDepth 100000 in
theorem f_X9_takeWord_ok {l : Launch} {G : GG} {μ0 : Mm} {a1 : Nat} {a2 : Nat} {r : Int32} {μ' : Mm} (hf : f_X9_takeWord μ0 a1 a2 = some (r, μ')) : EvM l G D_X9_takeWord yX9_takeWord cX9_takeWord 7 (some .int) [.ref a1, .ref a2] μ0 (some (.int r)) μ' := by
  show Ev l G D_X9_takeWord yX9_takeWord cX9_takeWord 7 (some .int) 0 [(0, .ref a1), (1, .ref a2)] [] μ0 (some (.int r)) μ'
  unfold f_X9_takeWord at hf
  refine E_iconst (pc := 0) (v := (0 : Int32)) dX9_takeWord_0 (by decide) ?_
  refine E_istore_n (pc := 1) (ls' := fun x3 => [(2, .int x3), (0, .ref a1), (1, .ref a2)]) dX9_takeWord_1 (by decide) (fun _ => rfl) hf (fun x3 hf => ?_)
  refine Ev.sub [1, 2, 0] rfl ?_
  refine f_X9_takeWord_L2_ok  _ _ _ _ _ hf (fun μ16 a17 a18 x19 hf => ?_)
  · refine E_iconst (pc := 51) (v := (0 : Int32)) dX9_takeWord_51 (by decide) ?_
    refine E_istore_n (pc := 52) (ls' := fun x20 => [(3, .int x20), (0, .ref a17), (1, .ref a18), (2, .int x19)]) dX9_takeWord_52 (by decide) (fun _ => rfl) hf (fun x20 hf => ?_)
    refine E_iconst (pc := 53) (v := (0 : Int32)) dX9_takeWord_53 (by decide) ?_
    refine E_istore (pc := 54) (ls' := fun x21 => [(4, .int x21), (3, .int x20), (0, .ref a17), (1, .ref a18), (2, .int x19)]) dX9_takeWord_54 (by decide) (fun _ => rfl) hf (fun x21 hf => ?_)
    refine E_iconst (pc := 56) (v := (1 : Int32)) dX9_takeWord_56 (by decide) ?_
    refine E_istore (pc := 57) (ls' := fun x22 => [(5, .int x22), (4, .int x21), (3, .int x20), (0, .ref a17), (1, .ref a18), (2, .int x19)]) dX9_takeWord_57 (by decide) (fun _ => rfl) hf (fun x22 hf => ?_)
    refine E_iconst (pc := 59) (v := (0 : Int32)) dX9_takeWord_59 (by decide) ?_
    refine E_istore (pc := 60) (ls' := fun x23 => [(6, .int x23), (5, .int x22), (4, .int x21), (3, .int x20), (0, .ref a17), (1, .ref a18), (2, .int x19)]) dX9_takeWord_60 (by decide) (fun _ => rfl) hf (fun x23 hf => ?_)
    refine Ev.sub [4, 5, 6, 3, 2, 1, 0] rfl ?_
    refine f_X9_takeWord_L62_ok  _ _ _ _ _ _ _ _ _ hf (fun μ54 a55 x56 x57 hf => ?_) (fun μ60 hf => ?_)
    · refine E_aload_n (pc := 131) dX9_takeWord_131 rfl ?_
      refine E_dup (pc := 132) dX9_takeWord_132 rfl ?_
      refine E_getI (pc := 133) dX9_takeWord_133 fl_X9_19 hf (fun v58 hf => ?_)
      refine E_iload_n (pc := 136) dX9_takeWord_136 rfl ?_
      refine E_iadd (pc := 137) dX9_takeWord_137 ?_
      refine E_putI (pc := 138) dX9_takeWord_138 (pl_X9_19 _) hf (fun μ59 hf => ?_)
      refine E_iload_n (pc := 141) dX9_takeWord_141 rfl ?_
      exact E_iret (pc := 142) dX9_takeWord_142 rfl hf
    · refine E_iconst (pc := 158) (v := (-1 : Int32)) dX9_takeWord_158 (by decide) ?_
      exact E_iret (pc := 159) dX9_takeWord_159 rfl hf
theorem dX9_takesWord_0 : decode cX9_takesWord 0 = .ok (.aload_n 0, 1) := by decide +kernel
theorem dX9_takesWord_1 : decode cX9_takesWord 1 = .ok (.invokevirtual 29, 3) := by decide +kernel
theorem dX9_takesWord_4 : decode cX9_takesWord 4 = .ok (.pop, 1) := by decide +kernel
theorem dX9_takesWord_5 : decode cX9_takesWord 5 = .ok (.aload_n 0, 1) := by decide +kernel
theorem dX9_takesWord_6 : decode cX9_takesWord 6 = .ok (.invokevirtual 25, 3) := by decide +kernel
theorem dX9_takesWord_9 : decode cX9_takesWord 9 = .ok (.ifCond .eq 15, 3) := by decide +kernel
theorem dX9_takesWord_12 : decode cX9_takesWord 12 = .ok (.aload_n 0, 1) := by decide +kernel
theorem dX9_takesWord_13 : decode cX9_takesWord 13 = .ok (.aload_n 1, 1) := by decide +kernel
theorem dX9_takesWord_14 : decode cX9_takesWord 14 = .ok (.invokevirtual 45, 3) := by decide +kernel
theorem dX9_takesWord_17 : decode cX9_takesWord 17 = .ok (.ifCond .ne 7, 3) := by decide +kernel
theorem dX9_takesWord_20 : decode cX9_takesWord 20 = .ok (.iconst 1, 1) := by decide +kernel
theorem dX9_takesWord_21 : decode cX9_takesWord 21 = .ok (.goto 4, 3) := by decide +kernel
theorem dX9_takesWord_24 : decode cX9_takesWord 24 = .ok (.iconst 0, 1) := by decide +kernel
theorem dX9_takesWord_25 : decode cX9_takesWord 25 = .ok (.ireturn, 1) := by decide +kernel
abbrev D_X9_takesWord : Nat := 8
set_option maxRecDepth 100000 in
def f_X9_takesWord (μ0 : Mm) (a1 : Nat) (a2 : Nat) : Option (Int32 × Mm) :=
 ((ob μ0 a1 9).bind fun _ =>
    (bd (f_X9_skipBlanks μ0 a1) fun v4 μ3 =>
    ((ob μ3 a1 9).bind fun _ =>
    (bd (f_X9_isSound μ3 a1) fun v6 μ5 =>
    (if v6 = 0 then
    (if (0 : Int32) = 0 ∨ (0 : Int32) = 1 then some ((0 : Int32), μ5) else none)
    else
    ((ob μ5 a1 9).bind fun _ =>
    (bd (f_X9_takeWord μ5 a1 a2) fun v8 μ7 =>
    (if v8 = 0 then
    (if (1 : Int32) = 0 ∨ (1 : Int32) = 1 then some ((1 : Int32), μ7) else none)
    else
    (if (0 : Int32) = 0 ∨ (0 : Int32) = 1 then some ((0 : Int32), μ7) else none)))))))))
set_option maxHeartbeats 4000000 in
set_option maxRecDepth 100000 in
theorem f_X9_takesWord_ok {l : Launch} {G : GG} {μ0 : Mm} {a1 : Nat} {a2 : Nat} {r : Int32} {μ' : Mm} (hf : f_X9_takesWord μ0 a1 a2 = some (r, μ')) : EvM l G D_X9_takesWord yX9_takesWord cX9_takesWord 2 (some .boolean) [.ref a1, .ref a2] μ0 (some (.int r)) μ' := by
  show Ev l G D_X9_takesWord yX9_takesWord cX9_takesWord 2 (some .boolean) 0 [(0, .ref a1), (1, .ref a2)] [] μ0 (some (.int r)) μ'
  unfold f_X9_takesWord at hf
  refine E_aload_n (pc := 0) dX9_takesWord_0 rfl ?_
  refine E_Vi (pc := 1) (d2 := D_X9_skipBlanks) (ci := 9) [] dX9_takesWord_1 ml_X9_29 mf_X9_skipBlanks im_X9_skipBlanks rfl rfl rfl (by decide) (Nat.le_of_ble_eq_true rfl) (Nat.le_of_ble_eq_true rfl) rfl (fun _ _ h => f_X9_skipBlanks_ok h) hf (fun v4 μ3 hf => ?_)
  refine E_pop (pc := 4) dX9_takesWord_4 rfl ?_
  refine E_aload_n (pc := 5) dX9_takesWord_5 rfl ?_
  refine E_Vi (pc := 6) (d2 := D_X9_isSound) (ci := 9) [] dX9_takesWord_6 ml_X9_25 mf_X9_isSound im_X9_isSound rfl rfl rfl (by decide) (Nat.le_of_ble_eq_true rfl) (Nat.le_of_ble_eq_true rfl) rfl (fun _ _ h => f_X9_isSound_ok h) hf (fun v6 μ5 hf => ?_)
  refine E_if_eq (pc := 9) (tgt := 24) dX9_takesWord_9 (by decide) hf (fun hf => ?_) (fun hf => ?_)
  · refine E_iconst (pc := 24) (v := (0 : Int32)) dX9_takesWord_24 (by decide) ?_
    exact E_zret (pc := 25) dX9_takesWord_25 rfl hf
  · refine E_aload_n (pc := 12) dX9_takesWord_12 rfl ?_
    refine E_aload_n (pc := 13) dX9_takesWord_13 rfl ?_
    refine E_Vi (pc := 14) (d2 := D_X9_takeWord) (ci := 9) [.ref a2] dX9_takesWord_14 ml_X9_45 mf_X9_takeWord im_X9_takeWord rfl rfl rfl (by decide) (Nat.le_of_ble_eq_true rfl) (Nat.le_of_ble_eq_true rfl) rfl (fun _ _ h => f_X9_takeWord_ok h) hf (fun v8 μ7 hf => ?_)
    refine E_if_ne (pc := 17) (tgt := 24) dX9_takesWord_17 (by decide) hf (fun hf => ?_) (fun hf => ?_)
    · refine E_iconst (pc := 20) (v := (1 : Int32)) dX9_takesWord_20 (by decide) ?_
      refine E_goto (pc := 21) (tgt := 25) dX9_takesWord_21 (by decide) ?_
      exact E_zret (pc := 25) dX9_takesWord_25 rfl hf
    · refine E_iconst (pc := 24) (v := (0 : Int32)) dX9_takesWord_24 (by decide) ?_
      exact E_zret (pc := 25) dX9_takesWord_25 rfl hf
theorem dX9_readNumber_0 : decode cX9_readNumber 0 = .ok (.aload_n 0, 1) := by decide +kernel
theorem dX9_readNumber_1 : decode cX9_readNumber 1 = .ok (.invokevirtual 25, 3) := by decide +kernel
theorem dX9_readNumber_4 : decode cX9_readNumber 4 = .ok (.ifCond .ne 5, 3) := by decide +kernel
theorem dX9_readNumber_7 : decode cX9_readNumber 7 = .ok (.iconst 0, 1) := by decide +kernel
theorem dX9_readNumber_8 : decode cX9_readNumber 8 = .ok (.ireturn, 1) := by decide +kernel
theorem dX9_readNumber_9 : decode cX9_readNumber 9 = .ok (.aload_n 0, 1) := by decide +kernel
theorem dX9_readNumber_10 : decode cX9_readNumber 10 = .ok (.invokevirtual 29, 3) := by decide +kernel
theorem dX9_readNumber_13 : decode cX9_readNumber 13 = .ok (.istore_n 3, 1) := by decide +kernel
theorem dX9_readNumber_14 : decode cX9_readNumber 14 = .ok (.aload_n 0, 1) := by decide +kernel
theorem dX9_readNumber_15 : decode cX9_readNumber 15 = .ok (.iload_n 3, 1) := by decide +kernel
theorem dX9_readNumber_16 : decode cX9_readNumber 16 = .ok (.invokevirtual 49, 3) := by decide +kernel
theorem dX9_readNumber_19 : decode cX9_readNumber 19 = .ok (.ifCond .ne 11, 3) := by decide +kernel
theorem dX9_readNumber_22 : decode cX9_readNumber 22 = .ok (.aload_n 0, 1) := by decide +kernel
theorem dX9_readNumber_23 : decode cX9_readNumber 23 = .ok (.iload_n 3, 1) := by decide +kernel
theorem dX9_readNumber_24 : decode cX9_readNumber 24 = .ok (.iconst 0, 1) := by decide +kernel
theorem dX9_readNumber_25 : decode cX9_readNumber 25 = .ok (.invokevirtual 53, 3) := by decide +kernel
theorem dX9_readNumber_28 : decode cX9_readNumber 28 = .ok (.iconst 0, 1) := by decide +kernel
theorem dX9_readNumber_29 : decode cX9_readNumber 29 = .ok (.ireturn, 1) := by decide +kernel
theorem dX9_readNumber_30 : decode cX9_readNumber 30 = .ok (.iconst 0, 1) := by decide +kernel
theorem dX9_readNumber_31 : decode cX9_readNumber 31 = .ok (.istore 4, 2) := by decide +kernel
theorem dX9_readNumber_33 : decode cX9_readNumber 33 = .ok (.aload_n 0, 1) := by decide +kernel
theorem dX9_readNumber_34 : decode cX9_readNumber 34 = .ok (.getfield 19, 3) := by decide +kernel
theorem dX9_readNumber_37 : decode cX9_readNumber 37 = .ok (.aload_n 0, 1) := by decide +kernel
theorem dX9_readNumber_38 : decode cX9_readNumber 38 = .ok (.getfield 15, 3) := by decide +kernel
theorem dX9_readNumber_41 : decode cX9_readNumber 41 = .ok (.if_icmp .ge 56, 3) := by decide +kernel
theorem dX9_readNumber_44 : decode cX9_readNumber 44 = .ok (.aload_n 0, 1) := by decide +kernel
theorem dX9_readNumber_45 : decode cX9_readNumber 45 = .ok (.aload_n 0, 1) := by decide +kernel
theorem dX9_readNumber_46 : decode cX9_readNumber 46 = .ok (.getfield 19, 3) := by decide +kernel
theorem dX9_readNumber_49 : decode cX9_readNumber 49 = .ok (.invokevirtual 49, 3) := by decide +kernel
theorem dX9_readNumber_52 : decode cX9_readNumber 52 = .ok (.ifCond .eq 45, 3) := by decide +kernel
theorem dX9_readNumber_55 : decode cX9_readNumber 55 = .ok (.aload_n 0, 1) := by decide +kernel
theorem dX9_readNumber_56 : decode cX9_readNumber 56 = .ok (.getfield 19, 3) := by decide +kernel
theorem dX9_readNumber_59 : decode cX9_readNumber 59 = .ok (.iload_n 3, 1) := by decide +kernel
theorem dX9_readNumber_60 : decode cX9_readNumber 60 = .ok (.isub, 1) := by decide +kernel
theorem dX9_readNumber_61 : decode cX9_readNumber 61 = .ok (.iconst 5, 1) := by decide +kernel
theorem dX9_readNumber_62 : decode cX9_readNumber 62 = .ok (.if_icmp .ge 22, 3) := by decide +kernel
theorem dX9_readNumber_65 : decode cX9_readNumber 65 = .ok (.bipush 10, 2) := by decide +kernel
theorem dX9_readNumber_67 : decode cX9_readNumber 67 = .ok (.iload 4, 2) := by decide +kernel
theorem dX9_readNumber_69 : decode cX9_readNumber 69 = .ok (.imul, 1) := by decide +kernel
theorem dX9_readNumber_70 : decode cX9_readNumber 70 = .ok (.aload_n 0, 1) := by decide +kernel
theorem dX9_readNumber_71 : decode cX9_readNumber 71 = .ok (.aload_n 0, 1) := by decide +kernel
theorem dX9_readNumber_72 : decode cX9_readNumber 72 = .ok (.getfield 19, 3) := by decide +kernel
theorem dX9_readNumber_75 : decode cX9_readNumber 75 = .ok (.invokevirtual 33, 3) := by decide +kernel
theorem dX9_readNumber_78 : decode cX9_readNumber 78 = .ok (.iadd, 1) := by decide +kernel
theorem dX9_readNumber_79 : decode cX9_readNumber 79 = .ok (.bipush 48, 2) := by decide +kernel
theorem dX9_readNumber_81 : decode cX9_readNumber 81 = .ok (.isub, 1) := by decide +kernel
theorem dX9_readNumber_82 : decode cX9_readNumber 82 = .ok (.istore 4, 2) := by decide +kernel
theorem dX9_readNumber_84 : decode cX9_readNumber 84 = .ok (.aload_n 0, 1) := by decide +kernel
theorem dX9_readNumber_85 : decode cX9_readNumber 85 = .ok (.dup, 1) := by decide +kernel
theorem dX9_readNumber_86 : decode cX9_readNumber 86 = .ok (.getfield 19, 3) := by decide +kernel
theorem dX9_readNumber_89 : decode cX9_readNumber 89 = .ok (.iconst 1, 1) := by decide +kernel
theorem dX9_readNumber_90 : decode cX9_readNumber 90 = .ok (.iadd, 1) := by decide +kernel
theorem dX9_readNumber_91 : decode cX9_readNumber 91 = .ok (.putfield 19, 3) := by decide +kernel
theorem dX9_readNumber_94 : decode cX9_readNumber 94 = .ok (.goto (-61), 3) := by decide +kernel
theorem dX9_readNumber_97 : decode cX9_readNumber 97 = .ok (.aload_n 0, 1) := by decide +kernel
theorem dX9_readNumber_98 : decode cX9_readNumber 98 = .ok (.getfield 19, 3) := by decide +kernel
theorem dX9_readNumber_101 : decode cX9_readNumber 101 = .ok (.iload_n 3, 1) := by decide +kernel
theorem dX9_readNumber_102 : decode cX9_readNumber 102 = .ok (.isub, 1) := by decide +kernel
theorem dX9_readNumber_103 : decode cX9_readNumber 103 = .ok (.iconst 5, 1) := by decide +kernel
theorem dX9_readNumber_104 : decode cX9_readNumber 104 = .ok (.if_icmp .gt 15, 3) := by decide +kernel
theorem dX9_readNumber_107 : decode cX9_readNumber 107 = .ok (.iload 4, 2) := by decide +kernel
theorem dX9_readNumber_109 : decode cX9_readNumber 109 = .ok (.iload_n 1, 1) := by decide +kernel
theorem dX9_readNumber_110 : decode cX9_readNumber 110 = .ok (.if_icmp .lt 9, 3) := by decide +kernel
theorem dX9_readNumber_113 : decode cX9_readNumber 113 = .ok (.iload 4, 2) := by decide +kernel
theorem dX9_readNumber_115 : decode cX9_readNumber 115 = .ok (.iload_n 2, 1) := by decide +kernel
theorem dX9_readNumber_116 : decode cX9_readNumber 116 = .ok (.if_icmp .le 9, 3) := by decide +kernel
theorem dX9_readNumber_119 : decode cX9_readNumber 119 = .ok (.aload_n 0, 1) := by decide +kernel
theorem dX9_readNumber_120 : decode cX9_readNumber 120 = .ok (.iload_n 3, 1) := by decide +kernel
theorem dX9_readNumber_121 : decode cX9_readNumber 121 = .ok (.iconst 1, 1) := by decide +kernel
theorem dX9_readNumber_122 : decode cX9_readNumber 122 = .ok (.invokevirtual 53, 3) := by decide +kernel
theorem dX9_readNumber_125 : decode cX9_readNumber 125 = .ok (.iload 4, 2) := by decide +kernel
theorem dX9_readNumber_127 : decode cX9_readNumber 127 = .ok (.ireturn, 1) := by decide +kernel
abbrev D_X9_readNumber : Nat := 2
def f_X9_readNumber_L33 (K97 : Mm → Nat → Int32 → Int32 → Int32 → Int32 → Option (Int32 × Mm)) : Nat → Mm → Nat → Int32 → Int32 → Int32 → Int32 → Option (Int32 × Mm)
  | 0, _, _, _, _, _, _ => none
  | n + 1, μ0, a13, x14, x15, x16, x17 =>
    ((gI μ0 a13 9 2).bind fun v18 =>
    ((gI μ0 a13 9 1).bind fun v19 =>
    (if v19 ≤ v18 then
    K97 μ0 a13 x14 x15 x16 x17
    else
    ((gI μ0 a13 9 2).bind fun v20 =>
    ((ob μ0 a13 9).bind fun _ =>
    (bd (f_X9_isDigitAt μ0 a13 v20) fun v22 μ21 =>
    (if v22 = 0 then
    K97 μ21 a13 x14 x15 x16 x17
    else
    ((gI μ21 a13 9 2).bind fun v23 =>
    (if (5 : Int32) ≤ (v23 - x16) then
    ((gI μ21 a13 9 2).bind fun v24 =>
    ((pV μ21 a13 9 2 (.int (v24 + (1 : Int32)))).bind fun μ25 =>
    f_X9_readNumber_L33 K97 n μ25 a13 x14 x15 x16 x17))
    else
    ((gI μ21 a13 9 2).bind fun v26 =>
    ((ob μ21 a13 9).bind fun _ =>
    (bd (f_X9_byteAt μ21 a13 v26) fun v28 μ27 =>
    (nm ((((10 : Int32) * x17) + v28) - (48 : Int32)) fun x29 =>
    ((gI μ27 a13 9 2).bind fun v30 =>
    ((pV μ27 a13 9 2 (.int (v30 + (1 : Int32)))).bind fun μ31 =>
    f_X9_readNumber_L33 K97 n μ31 a13 x14 x15 x16 x29)))))))))))))))
set_option maxHeartbeats 4000000 in
set_option maxRecDepth 100000 in
theorem f_X9_readNumber_L33_ok {l : Launch} {G : GG} {K97 : Mm → Nat → Int32 → Int32 → Int32 → Int32 → Option (Int32 × Mm)} {r : Int32} {μ' : Mm} (n : Nat) (μ0 : Mm) (a13 : Nat) (x14 : Int32) (x15 : Int32) (x16 : Int32) (x17 : Int32) (hf : f_X9_readNumber_L33 K97 n μ0 a13 x14 x15 x16 x17 = some (r, μ')) (hK97 : ∀ (μ1 : Mm) (y0 : Nat) (y1 : Int32) (y2 : Int32) (y3 : Int32) (y4 : Int32), K97 μ1 y0 y1 y2 y3 y4 = some (r, μ') → Ev l G D_X9_readNumber yX9_readNumber cX9_readNumber 5 (some .int) 97 [(0, .ref y0), (1, .int y1), (2, .int y2), (3, .int y3), (4, .int y4)] [] μ1 (some (.int r)) μ') : Ev l G D_X9_readNumber yX9_readNumber cX9_readNumber 5 (some .int) 33 [(0, .ref a13), (1, .int x14), (2, .int x15), (3, .int x16), (4, .int x17)] [] μ0 (some (.int r)) μ' := by
  induction n generalizing μ0 a13 x14 x15 x16 x17 with
  | zero => cases hf
  | succ n ih0 =>
    have ih : ∀ (μ0 : Mm) (a13 : Nat) (x14 : Int32) (x15 : Int32) (x16 : Int32) (x17 : Int32), f_X9_readNumber_L33 K97 n μ0 a13 x14 x15 x16 x17 = some (r, μ') → Ev l G D_X9_readNumber yX9_readNumber cX9_readNumber 5 (some .int) 33 [(0, .ref a13), (1, .int x14), (2, .int x15), (3, .int x16), (4, .int x17)] [] μ0 (some (.int r)) μ' := fun μ0 a13 x14 x15 x16 x17 hf => ih0 μ0 a13 x14 x15 x16 x17 hf
    rw [f_X9_readNumber_L33] at hf
    refine E_aload_n (pc := 33) dX9_readNumber_33 rfl ?_
    refine E_getI (pc := 34) dX9_readNumber_34 fl_X9_19 hf (fun v18 hf => ?_)
    refine E_aload_n (pc := 37) dX9_readNumber_37 rfl ?_
    refine E_getI (pc := 38) dX9_readNumber_38 fl_X9_15 hf (fun v19 hf => ?_)
    refine E_icmp_ge (pc := 41) (tgt := 97) dX9_readNumber_41 (by decide) hf (fun hf => ?_) (fun hf => ?_)
    · refine Ev.sub [0, 1, 2, 3, 4] rfl ?_
      exact hK97 _ _ _ _ _ _ hf
    · refine E_aload_n (pc := 44) dX9_readNumber_44 rfl ?_
      refine E_aload_n (pc := 45) dX9_readNumber_45 rfl ?_
      refine E_getI (pc := 46) dX9_readNumber_46 fl_X9_19 hf (fun v20 hf => ?_)
      refine E_Vi (pc := 49) (d2 := D_X9_isDigitAt) (ci := 9) [.int v20] dX9_readNumber_49 ml_X9_49 mf_X9_isDigitAt im_X9_isDigitAt rfl rfl rfl (by decide) (Nat.le_of_ble_eq_true rfl) (Nat.le_of_ble_eq_true rfl) rfl (fun _ _ h => f_X9_isDigitAt_ok h) hf (fun v22 μ21 hf => ?_)
      refine E_if_eq (pc := 52) (tgt := 97) dX9_readNumber_52 (by decide) hf (fun hf => ?_) (fun hf => ?_)
      · refine Ev.sub [0, 1, 2, 3, 4] rfl ?_
        exact hK97 _ _ _ _ _ _ hf
      · refine E_aload_n (pc := 55) dX9_readNumber_55 rfl ?_
        refine E_getI (pc := 56) dX9_readNumber_56 fl_X9_19 hf (fun v23 hf => ?_)
        refine E_iload_n (pc := 59) dX9_readNumber_59 rfl ?_
        refine E_isub (pc := 60) dX9_readNumber_60 ?_
        refine E_iconst (pc := 61) (v := (5 : Int32)) dX9_readNumber_61 (by decide) ?_
        refine E_icmp_ge (pc := 62) (tgt := 84) dX9_readNumber_62 (by decide) hf (fun hf => ?_) (fun hf => ?_)
        · refine E_aload_n (pc := 84) dX9_readNumber_84 rfl ?_
          refine E_dup (pc := 85) dX9_readNumber_85 rfl ?_
          refine E_getI (pc := 86) dX9_readNumber_86 fl_X9_19 hf (fun v24 hf => ?_)
          refine E_iconst (pc := 89) (v := (1 : Int32)) dX9_readNumber_89 (by decide) ?_
          refine E_iadd (pc := 90) dX9_readNumber_90 ?_
          refine E_putI (pc := 91) dX9_readNumber_91 (pl_X9_19 _) hf (fun μ25 hf => ?_)
          refine E_goto (pc := 94) (tgt := 33) dX9_readNumber_94 (by decide) ?_
          refine Ev.sub [0, 1, 2, 3, 4] rfl ?_
          exact ih _ _ _ _ _ _ hf
        · refine E_bipush (pc := 65) (v := (10 : Int32)) dX9_readNumber_65 (by decide) ?_
          refine E_iload (pc := 67) dX9_readNumber_67 rfl ?_
          refine E_imul (pc := 69) dX9_readNumber_69 ?_
          refine E_aload_n (pc := 70) dX9_readNumber_70 rfl ?_
          refine E_aload_n (pc := 71) dX9_readNumber_71 rfl ?_
          refine E_getI (pc := 72) dX9_readNumber_72 fl_X9_19 hf (fun v26 hf => ?_)
          refine E_Vi (pc := 75) (d2 := D_X9_byteAt) (ci := 9) [.int v26] dX9_readNumber_75 ml_X9_33 mf_X9_byteAt im_X9_byteAt rfl rfl rfl (by decide) (Nat.le_of_ble_eq_true rfl) (Nat.le_of_ble_eq_true rfl) rfl (fun _ _ h => f_X9_byteAt_ok h) hf (fun v28 μ27 hf => ?_)
          refine E_iadd (pc := 78) dX9_readNumber_78 ?_
          refine E_bipush (pc := 79) (v := (48 : Int32)) dX9_readNumber_79 (by decide) ?_
          refine E_isub (pc := 81) dX9_readNumber_81 ?_
          refine E_istore (pc := 82) (ls' := fun x29 => [(4, .int x29), (0, .ref a13), (1, .int x14), (2, .int x15), (3, .int x16)]) dX9_readNumber_82 (by decide) (fun _ => rfl) hf (fun x29 hf => ?_)
          refine E_aload_n (pc := 84) dX9_readNumber_84 rfl ?_
          refine E_dup (pc := 85) dX9_readNumber_85 rfl ?_
          refine E_getI (pc := 86) dX9_readNumber_86 fl_X9_19 hf (fun v30 hf => ?_)
          refine E_iconst (pc := 89) (v := (1 : Int32)) dX9_readNumber_89 (by decide) ?_
          refine E_iadd (pc := 90) dX9_readNumber_90 ?_
          refine E_putI (pc := 91) dX9_readNumber_91 (pl_X9_19 _) hf (fun μ31 hf => ?_)
          refine E_goto (pc := 94) (tgt := 33) dX9_readNumber_94 (by decide) ?_
          refine Ev.sub [1, 2, 3, 4, 0] rfl ?_
          exact ih _ _ _ _ _ _ hf
set_option maxRecDepth 100000 in
def f_X9_readNumber (μ0 : Mm) (a1 : Nat) (x2 : Int32) (x3 : Int32) : Option (Int32 × Mm) :=
 ((ob μ0 a1 9).bind fun _ =>
    (bd (f_X9_isSound μ0 a1) fun v5 μ4 =>
    (if v5 = 0 then
    (some ((0 : Int32), μ4))
    else
    ((ob μ4 a1 9).bind fun _ =>
    (bd (f_X9_skipBlanks μ4 a1) fun v7 μ6 =>
    (nm v7 fun x8 =>
    ((ob μ6 a1 9).bind fun _ =>
    (bd (f_X9_isDigitAt μ6 a1 x8) fun v10 μ9 =>
    (if v10 = 0 then
    ((ob μ9 a1 9).bind fun _ =>
    ((f_X9_fail μ9 a1 x8 (0 : Int32)).bind fun μ11 =>
    (some ((0 : Int32), μ11))))
    else
    (nm (0 : Int32) fun x12 =>
    f_X9_readNumber_L33 (fun μ32 a33 x34 x35 x36 x37 =>
    ((gI μ32 a33 9 2).bind fun v38 =>
    (if (5 : Int32) < (v38 - x36) then
    ((ob μ32 a33 9).bind fun _ =>
    ((f_X9_fail μ32 a33 x36 (1 : Int32)).bind fun μ39 =>
    (some (x37, μ39))))
    else
    (if x37 < x34 then
    ((ob μ32 a33 9).bind fun _ =>
    ((f_X9_fail μ32 a33 x36 (1 : Int32)).bind fun μ40 =>
    (some (x37, μ40))))
    else
    (if x37 ≤ x35 then
    (some (x37, μ32))
    else
    ((ob μ32 a33 9).bind fun _ =>
    ((f_X9_fail μ32 a33 x36 (1 : Int32)).bind fun μ41 =>
    (some (x37, μ41))))))))) FU μ9 a1 x2 x3 x8 x12))))))))))
set_option maxHeartbeats 4000000 in
set_option maxRecDepth 100000 in
theorem f_X9_readNumber_ok {l : Launch} {G : GG} {μ0 : Mm} {a1 : Nat} {x2 : Int32} {x3 : Int32} {r : Int32} {μ' : Mm} (hf : f_X9_readNumber μ0 a1 x2 x3 = some (r, μ')) : EvM l G D_X9_readNumber yX9_readNumber cX9_readNumber 5 (some .int) [.ref a1, .int x2, .int x3] μ0 (some (.int r)) μ' := by
  show Ev l G D_X9_readNumber yX9_readNumber cX9_readNumber 5 (some .int) 0 [(0, .ref a1), (1, .int x2), (2, .int x3)] [] μ0 (some (.int r)) μ'
  unfold f_X9_readNumber at hf
  refine E_aload_n (pc := 0) dX9_readNumber_0 rfl ?_
  refine E_Vi (pc := 1) (d2 := D_X9_isSound) (ci := 9) [] dX9_readNumber_1 ml_X9_25 mf_X9_isSound im_X9_isSound rfl rfl rfl (by decide) (Nat.le_of_ble_eq_true rfl) (Nat.le_of_ble_eq_true rfl) rfl (fun _ _ h => f_X9_isSound_ok h) hf (fun v5 μ4 hf => ?_)
  refine E_if_ne (pc := 4) (tgt := 9) dX9_readNumber_4 (by decide) hf (fun hf => ?_) (fun hf => ?_)
  · refine E_iconst (pc := 7) (v := (0 : Int32)) dX9_readNumber_7 (by decide) ?_
    exact E_iret (pc := 8) dX9_readNumber_8 rfl hf
  · refine E_aload_n (pc := 9) dX9_readNumber_9 rfl ?_
    refine E_Vi (pc := 10) (d2 := D_X9_skipBlanks) (ci := 9) [] dX9_readNumber_10 ml_X9_29 mf_X9_skipBlanks im_X9_skipBlanks rfl rfl rfl (by decide) (Nat.le_of_ble_eq_true rfl) (Nat.le_of_ble_eq_true rfl) rfl (fun _ _ h => f_X9_skipBlanks_ok h) hf (fun v7 μ6 hf => ?_)
    refine E_istore_n (pc := 13) (ls' := fun x8 => [(3, .int x8), (0, .ref a1), (1, .int x2), (2, .int x3)]) dX9_readNumber_13 (by decide) (fun _ => rfl) hf (fun x8 hf => ?_)
    refine E_aload_n (pc := 14) dX9_readNumber_14 rfl ?_
    refine E_iload_n (pc := 15) dX9_readNumber_15 rfl ?_
    refine E_Vi (pc := 16) (d2 := D_X9_isDigitAt) (ci := 9) [.int x8] dX9_readNumber_16 ml_X9_49 mf_X9_isDigitAt im_X9_isDigitAt rfl rfl rfl (by decide) (Nat.le_of_ble_eq_true rfl) (Nat.le_of_ble_eq_true rfl) rfl (fun _ _ h => f_X9_isDigitAt_ok h) hf (fun v10 μ9 hf => ?_)
    refine E_if_ne (pc := 19) (tgt := 30) dX9_readNumber_19 (by decide) hf (fun hf => ?_) (fun hf => ?_)
    · refine E_aload_n (pc := 22) dX9_readNumber_22 rfl ?_
      refine E_iload_n (pc := 23) dX9_readNumber_23 rfl ?_
      refine E_iconst (pc := 24) (v := (0 : Int32)) dX9_readNumber_24 (by decide) ?_
      refine E_Vv (pc := 25) (d2 := D_X9_fail) (ci := 9) [.int x8, .int (0 : Int32)] dX9_readNumber_25 ml_X9_53 mf_X9_fail im_X9_fail rfl rfl rfl (by decide) (Nat.le_of_ble_eq_true rfl) (Nat.le_of_ble_eq_true rfl) rfl (fun _ h => f_X9_fail_ok h) hf (fun μ11 hf => ?_)
      refine E_iconst (pc := 28) (v := (0 : Int32)) dX9_readNumber_28 (by decide) ?_
      exact E_iret (pc := 29) dX9_readNumber_29 rfl hf
    · refine E_iconst (pc := 30) (v := (0 : Int32)) dX9_readNumber_30 (by decide) ?_
      refine E_istore (pc := 31) (ls' := fun x12 => [(4, .int x12), (3, .int x8), (0, .ref a1), (1, .int x2), (2, .int x3)]) dX9_readNumber_31 (by decide) (fun _ => rfl) hf (fun x12 hf => ?_)
      refine Ev.sub [2, 3, 4, 1, 0] rfl ?_
      refine f_X9_readNumber_L33_ok  _ _ _ _ _ _ _ hf (fun μ32 a33 x34 x35 x36 x37 hf => ?_)
      · refine E_aload_n (pc := 97) dX9_readNumber_97 rfl ?_
        refine E_getI (pc := 98) dX9_readNumber_98 fl_X9_19 hf (fun v38 hf => ?_)
        refine E_iload_n (pc := 101) dX9_readNumber_101 rfl ?_
        refine E_isub (pc := 102) dX9_readNumber_102 ?_
        refine E_iconst (pc := 103) (v := (5 : Int32)) dX9_readNumber_103 (by decide) ?_
        refine E_icmp_gt (pc := 104) (tgt := 119) dX9_readNumber_104 (by decide) hf (fun hf => ?_) (fun hf => ?_)
        · refine E_aload_n (pc := 119) dX9_readNumber_119 rfl ?_
          refine E_iload_n (pc := 120) dX9_readNumber_120 rfl ?_
          refine E_iconst (pc := 121) (v := (1 : Int32)) dX9_readNumber_121 (by decide) ?_
          refine E_Vv (pc := 122) (d2 := D_X9_fail) (ci := 9) [.int x36, .int (1 : Int32)] dX9_readNumber_122 ml_X9_53 mf_X9_fail im_X9_fail rfl rfl rfl (by decide) (Nat.le_of_ble_eq_true rfl) (Nat.le_of_ble_eq_true rfl) rfl (fun _ h => f_X9_fail_ok h) hf (fun μ39 hf => ?_)
          refine E_iload (pc := 125) dX9_readNumber_125 rfl ?_
          exact E_iret (pc := 127) dX9_readNumber_127 rfl hf
        · refine E_iload (pc := 107) dX9_readNumber_107 rfl ?_
          refine E_iload_n (pc := 109) dX9_readNumber_109 rfl ?_
          refine E_icmp_lt (pc := 110) (tgt := 119) dX9_readNumber_110 (by decide) hf (fun hf => ?_) (fun hf => ?_)
          · refine E_aload_n (pc := 119) dX9_readNumber_119 rfl ?_
            refine E_iload_n (pc := 120) dX9_readNumber_120 rfl ?_
            refine E_iconst (pc := 121) (v := (1 : Int32)) dX9_readNumber_121 (by decide) ?_
            refine E_Vv (pc := 122) (d2 := D_X9_fail) (ci := 9) [.int x36, .int (1 : Int32)] dX9_readNumber_122 ml_X9_53 mf_X9_fail im_X9_fail rfl rfl rfl (by decide) (Nat.le_of_ble_eq_true rfl) (Nat.le_of_ble_eq_true rfl) rfl (fun _ h => f_X9_fail_ok h) hf (fun μ40 hf => ?_)
            refine E_iload (pc := 125) dX9_readNumber_125 rfl ?_
            exact E_iret (pc := 127) dX9_readNumber_127 rfl hf
          · refine E_iload (pc := 113) dX9_readNumber_113 rfl ?_
            refine E_iload_n (pc := 115) dX9_readNumber_115 rfl ?_
            refine E_icmp_le (pc := 116) (tgt := 125) dX9_readNumber_116 (by decide) hf (fun hf => ?_) (fun hf => ?_)
            · refine E_iload (pc := 125) dX9_readNumber_125 rfl ?_
              exact E_iret (pc := 127) dX9_readNumber_127 rfl hf
            · refine E_aload_n (pc := 119) dX9_readNumber_119 rfl ?_
              refine E_iload_n (pc := 120) dX9_readNumber_120 rfl ?_
              refine E_iconst (pc := 121) (v := (1 : Int32)) dX9_readNumber_121 (by decide) ?_
              refine E_Vv (pc := 122) (d2 := D_X9_fail) (ci := 9) [.int x36, .int (1 : Int32)] dX9_readNumber_122 ml_X9_53 mf_X9_fail im_X9_fail rfl rfl rfl (by decide) (Nat.le_of_ble_eq_true rfl) (Nat.le_of_ble_eq_true rfl) rfl (fun _ h => f_X9_fail_ok h) hf (fun μ41 hf => ?_)
              refine E_iload (pc := 125) dX9_readNumber_125 rfl ?_
              exact E_iret (pc := 127) dX9_readNumber_127 rfl hf
theorem dX9_goesOn_0 : decode cX9_goesOn 0 = .ok (.aload_n 0, 1) := by decide +kernel
theorem dX9_goesOn_1 : decode cX9_goesOn 1 = .ok (.bipush 59, 2) := by decide +kernel
theorem dX9_goesOn_3 : decode cX9_goesOn 3 = .ok (.invokevirtual 57, 3) := by decide +kernel
theorem dX9_goesOn_6 : decode cX9_goesOn 6 = .ok (.ifCond .eq 5, 3) := by decide +kernel
theorem dX9_goesOn_9 : decode cX9_goesOn 9 = .ok (.iconst 1, 1) := by decide +kernel
theorem dX9_goesOn_10 : decode cX9_goesOn 10 = .ok (.ireturn, 1) := by decide +kernel
theorem dX9_goesOn_11 : decode cX9_goesOn 11 = .ok (.aload_n 0, 1) := by decide +kernel
theorem dX9_goesOn_12 : decode cX9_goesOn 12 = .ok (.invokevirtual 29, 3) := by decide +kernel
theorem dX9_goesOn_15 : decode cX9_goesOn 15 = .ok (.aload_n 0, 1) := by decide +kernel
theorem dX9_goesOn_16 : decode cX9_goesOn 16 = .ok (.getfield 15, 3) := by decide +kernel
theorem dX9_goesOn_19 : decode cX9_goesOn 19 = .ok (.if_icmp .ge 12, 3) := by decide +kernel
theorem dX9_goesOn_22 : decode cX9_goesOn 22 = .ok (.aload_n 0, 1) := by decide +kernel
theorem dX9_goesOn_23 : decode cX9_goesOn 23 = .ok (.aload_n 0, 1) := by decide +kernel
theorem dX9_goesOn_24 : decode cX9_goesOn 24 = .ok (.getfield 19, 3) := by decide +kernel
theorem dX9_goesOn_27 : decode cX9_goesOn 27 = .ok (.iconst 0, 1) := by decide +kernel
theorem dX9_goesOn_28 : decode cX9_goesOn 28 = .ok (.invokevirtual 53, 3) := by decide +kernel
theorem dX9_goesOn_31 : decode cX9_goesOn 31 = .ok (.iconst 0, 1) := by decide +kernel
theorem dX9_goesOn_32 : decode cX9_goesOn 32 = .ok (.ireturn, 1) := by decide +kernel
abbrev D_X9_goesOn : Nat := 3
set_option maxRecDepth 100000 in
def f_X9_goesOn (μ0 : Mm) (a1 : Nat) : Option (Int32 × Mm) :=
 ((ob μ0 a1 9).bind fun _ =>
    (bd (f_X9_takesByte μ0 a1 (59 : Int32)) fun v3 μ2 =>
    (if v3 = 0 then
    ((ob μ2 a1 9).bind fun _ =>
    (bd (f_X9_skipBlanks μ2 a1) fun v5 μ4 =>
    ((gI μ4 a1 9 1).bind fun v6 =>
    (if v6 ≤ v5 then
    (if (0 : Int32) = 0 ∨ (0 : Int32) = 1 then some ((0 : Int32), μ4) else none)
    else
    ((gI μ4 a1 9 2).bind fun v7 =>
    ((ob μ4 a1 9).bind fun _ =>
    ((f_X9_fail μ4 a1 v7 (0 : Int32)).bind fun μ8 =>
    (if (0 : Int32) = 0 ∨ (0 : Int32) = 1 then some ((0 : Int32), μ8) else none))))))))
    else
    (if (1 : Int32) = 0 ∨ (1 : Int32) = 1 then some ((1 : Int32), μ2) else none))))
set_option maxHeartbeats 4000000 in
set_option maxRecDepth 100000 in
theorem f_X9_goesOn_ok {l : Launch} {G : GG} {μ0 : Mm} {a1 : Nat} {r : Int32} {μ' : Mm} (hf : f_X9_goesOn μ0 a1 = some (r, μ')) : EvM l G D_X9_goesOn yX9_goesOn cX9_goesOn 1 (some .boolean) [.ref a1] μ0 (some (.int r)) μ' := by
  show Ev l G D_X9_goesOn yX9_goesOn cX9_goesOn 1 (some .boolean) 0 [(0, .ref a1)] [] μ0 (some (.int r)) μ'
  unfold f_X9_goesOn at hf
  refine E_aload_n (pc := 0) dX9_goesOn_0 rfl ?_
  refine E_bipush (pc := 1) (v := (59 : Int32)) dX9_goesOn_1 (by decide) ?_
  refine E_Vi (pc := 3) (d2 := D_X9_takesByte) (ci := 9) [.int (59 : Int32)] dX9_goesOn_3 ml_X9_57 mf_X9_takesByte im_X9_takesByte rfl rfl rfl (by decide) (Nat.le_of_ble_eq_true rfl) (Nat.le_of_ble_eq_true rfl) rfl (fun _ _ h => f_X9_takesByte_ok h) hf (fun v3 μ2 hf => ?_)
  refine E_if_eq (pc := 6) (tgt := 11) dX9_goesOn_6 (by decide) hf (fun hf => ?_) (fun hf => ?_)
  · refine E_aload_n (pc := 11) dX9_goesOn_11 rfl ?_
    refine E_Vi (pc := 12) (d2 := D_X9_skipBlanks) (ci := 9) [] dX9_goesOn_12 ml_X9_29 mf_X9_skipBlanks im_X9_skipBlanks rfl rfl rfl (by decide) (Nat.le_of_ble_eq_true rfl) (Nat.le_of_ble_eq_true rfl) rfl (fun _ _ h => f_X9_skipBlanks_ok h) hf (fun v5 μ4 hf => ?_)
    refine E_aload_n (pc := 15) dX9_goesOn_15 rfl ?_
    refine E_getI (pc := 16) dX9_goesOn_16 fl_X9_15 hf (fun v6 hf => ?_)
    refine E_icmp_ge (pc := 19) (tgt := 31) dX9_goesOn_19 (by decide) hf (fun hf => ?_) (fun hf => ?_)
    · refine E_iconst (pc := 31) (v := (0 : Int32)) dX9_goesOn_31 (by decide) ?_
      exact E_zret (pc := 32) dX9_goesOn_32 rfl hf
    · refine E_aload_n (pc := 22) dX9_goesOn_22 rfl ?_
      refine E_aload_n (pc := 23) dX9_goesOn_23 rfl ?_
      refine E_getI (pc := 24) dX9_goesOn_24 fl_X9_19 hf (fun v7 hf => ?_)
      refine E_iconst (pc := 27) (v := (0 : Int32)) dX9_goesOn_27 (by decide) ?_
      refine E_Vv (pc := 28) (d2 := D_X9_fail) (ci := 9) [.int v7, .int (0 : Int32)] dX9_goesOn_28 ml_X9_53 mf_X9_fail im_X9_fail rfl rfl rfl (by decide) (Nat.le_of_ble_eq_true rfl) (Nat.le_of_ble_eq_true rfl) rfl (fun _ h => f_X9_fail_ok h) hf (fun μ8 hf => ?_)
      refine E_iconst (pc := 31) (v := (0 : Int32)) dX9_goesOn_31 (by decide) ?_
      exact E_zret (pc := 32) dX9_goesOn_32 rfl hf
  · refine E_iconst (pc := 9) (v := (1 : Int32)) dX9_goesOn_9 (by decide) ?_
    exact E_zret (pc := 10) dX9_goesOn_10 rfl hf
