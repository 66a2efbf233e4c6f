theorem dX8_init_0 : decode cX8_init 0 = .ok (.aload_n 0, 1) := by decide +kernel
theorem dX8_init_1 : decode cX8_init 1 = .ok (.invokespecial 3, 3) := by decide +kernel
theorem dX8_init_4 : decode cX8_init 4 = .ok (.aload_n 0, 1) := by decide +kernel
theorem dX8_init_5 : decode cX8_init 5 = .ok (.bipush 48, 2) := by decide +kernel
theorem dX8_init_7 : decode cX8_init 7 = .ok (.newarray .long, 2) := by decide +kernel
theorem dX8_init_9 : decode cX8_init 9 = .ok (.putfield 9, 3) := by decide +kernel
theorem dX8_init_12 : decode cX8_init 12 = .ok (.aload_n 0, 1) := by decide +kernel
theorem dX8_init_13 : decode cX8_init 13 = .ok (.bipush 48, 2) := by decide +kernel
theorem dX8_init_15 : decode cX8_init 15 = .ok (.newarray .long, 2) := by decide +kernel
theorem dX8_init_17 : decode cX8_init 17 = .ok (.putfield 15, 3) := by decide +kernel
theorem dX8_init_20 : decode cX8_init 20 = .ok (.aload_n 0, 1) := by decide +kernel
theorem dX8_init_21 : decode cX8_init 21 = .ok (.iconst 0, 1) := by decide +kernel
theorem dX8_init_22 : decode cX8_init 22 = .ok (.putfield 18, 3) := by decide +kernel
theorem dX8_init_25 : decode cX8_init 25 = .ok (.aload_n 0, 1) := by decide +kernel
theorem dX8_init_26 : decode cX8_init 26 = .ok (.iconst 3, 1) := by decide +kernel
theorem dX8_init_27 : decode cX8_init 27 = .ok (.newarray .int, 2) := by decide +kernel
theorem dX8_init_29 : decode cX8_init 29 = .ok (.putfield 22, 3) := by decide +kernel
theorem dX8_init_32 : decode cX8_init 32 = .ok (.aload_n 0, 1) := by decide +kernel
theorem dX8_init_33 : decode cX8_init 33 = .ok (.bipush 48, 2) := by decide +kernel
theorem dX8_init_35 : decode cX8_init 35 = .ok (.newarray .boolean, 2) := by decide +kernel
theorem dX8_init_37 : decode cX8_init 37 = .ok (.putfield 26, 3) := by decide +kernel
theorem dX8_init_40 : decode cX8_init 40 = .ok (.aload_n 0, 1) := by decide +kernel
theorem dX8_init_41 : decode cX8_init 41 = .ok (.bipush 48, 2) := by decide +kernel
theorem dX8_init_43 : decode cX8_init 43 = .ok (.newarray .long, 2) := by decide +kernel
theorem dX8_init_45 : decode cX8_init 45 = .ok (.putfield 30, 3) := by decide +kernel
theorem dX8_init_48 : decode cX8_init 48 = .ok (.return_, 1) := by decide +kernel
abbrev D_X8_init : Nat := 1
set_option maxRecDepth 100000 in
def f_X8_init (μ0 : Mm) (a1 : Nat) : Option Mm :=
 (bd (nA μ0 3 (48 : Int32)) fun a2 μ3 =>
    ((pV μ3 a1 8 0 (.ref a2)).bind fun μ4 =>
    (bd (nA μ4 3 (48 : Int32)) fun a5 μ6 =>
    ((pV μ6 a1 8 1 (.ref a5)).bind fun μ7 =>
    ((pV μ7 a1 8 2 (.int (0 : Int32))).bind fun μ8 =>
    (bd (nA μ8 0 (3 : Int32)) fun a9 μ10 =>
    ((pV μ10 a1 8 3 (.ref a9)).bind fun μ11 =>
    (bd (nA μ11 2 (48 : Int32)) fun a12 μ13 =>
    ((pV μ13 a1 8 4 (.ref a12)).bind fun μ14 =>
    (bd (nA μ14 3 (48 : Int32)) fun a15 μ16 =>
    ((pV μ16 a1 8 5 (.ref a15)).bind fun μ17 =>
    (some μ17))))))))))))
set_option maxHeartbeats 4000000 in
set_option maxRecDepth 100000 in
theorem f_X8_init_ok {l : Launch} {G : GG} {μ0 : Mm} {a1 : Nat} {μ' : Mm} (hf : f_X8_init μ0 a1 = some μ') : EvM l G D_X8_init yX8_init cX8_init 1 none [.ref a1] μ0 none μ' := by
  show Ev l G D_X8_init yX8_init cX8_init 1 none 0 [(0, .ref a1)] [] μ0 none μ'
  unfold f_X8_init at hf
  refine E_aload_n (pc := 0) dX8_init_0 rfl ?_
  refine E_objI (pc := 1) dX8_init_1 (by decide) (Nat.le_of_ble_eq_true rfl) ml_X8_3 ?_
  refine E_aload_n (pc := 4) dX8_init_4 rfl ?_
  refine E_bipush (pc := 5) (v := (48 : Int32)) dX8_init_5 (by decide) ?_
  refine E_newa2 (pc := 7) dX8_init_7 (by decide) ac_long hf (fun a2 μ3 hf => ?_)
  refine E_putA (pc := 9) dX8_init_9 pl_X8_9 hf (fun μ4 hf => ?_)
  refine E_aload_n (pc := 12) dX8_init_12 rfl ?_
  refine E_bipush (pc := 13) (v := (48 : Int32)) dX8_init_13 (by decide) ?_
  refine E_newa2 (pc := 15) dX8_init_15 (by decide) ac_long hf (fun a5 μ6 hf => ?_)
  refine E_putA (pc := 17) dX8_init_17 pl_X8_15 hf (fun μ7 hf => ?_)
  refine E_aload_n (pc := 20) dX8_init_20 rfl ?_
  refine E_iconst (pc := 21) (v := (0 : Int32)) dX8_init_21 (by decide) ?_
  refine E_putI (pc := 22) dX8_init_22 (pl_X8_18 _) hf (fun μ8 hf => ?_)
  refine E_aload_n (pc := 25) dX8_init_25 rfl ?_
  refine E_iconst (pc := 26) (v := (3 : Int32)) dX8_init_26 (by decide) ?_
  refine E_newa2 (pc := 27) dX8_init_27 (by decide) ac_int hf (fun a9 μ10 hf => ?_)
  refine E_putA (pc := 29) dX8_init_29 pl_X8_22 hf (fun μ11 hf => ?_)
  refine E_aload_n (pc := 32) dX8_init_32 rfl ?_
  refine E_bipush (pc := 33) (v := (48 : Int32)) dX8_init_33 (by decide) ?_
  refine E_newa2 (pc := 35) dX8_init_35 (by decide) ac_boolean hf (fun a12 μ13 hf => ?_)
  refine E_putA (pc := 37) dX8_init_37 pl_X8_26 hf (fun μ14 hf => ?_)
  refine E_aload_n (pc := 40) dX8_init_40 rfl ?_
  refine E_bipush (pc := 41) (v := (48 : Int32)) dX8_init_41 (by decide) ?_
  refine E_newa2 (pc := 43) dX8_init_43 (by decide) ac_long hf (fun a15 μ16 hf => ?_)
  refine E_putA (pc := 45) dX8_init_45 pl_X8_30 hf (fun μ17 hf => ?_)
  exact E_vret (pc := 48) dX8_init_48 rfl hf
theorem dX8_addSets_0 : decode cX8_addSets 0 = .ok (.aload_n 0, 1) := by decide +kernel
theorem dX8_addSets_1 : decode cX8_addSets 1 = .ok (.getfield 18, 3) := by decide +kernel
theorem dX8_addSets_4 : decode cX8_addSets 4 = .ok (.ifCond .ne 29, 3) := by decide +kernel
theorem dX8_addSets_7 : decode cX8_addSets 7 = .ok (.iload 4, 2) := by decide +kernel
theorem dX8_addSets_9 : decode cX8_addSets 9 = .ok (.ifCond .le 24, 3) := by decide +kernel
theorem dX8_addSets_12 : decode cX8_addSets 12 = .ok (.aload_n 0, 1) := by decide +kernel
theorem dX8_addSets_13 : decode cX8_addSets 13 = .ok (.getfield 22, 3) := by decide +kernel
theorem dX8_addSets_16 : decode cX8_addSets 16 = .ok (.iconst 0, 1) := by decide +kernel
theorem dX8_addSets_17 : decode cX8_addSets 17 = .ok (.iload_n 1, 1) := by decide +kernel
theorem dX8_addSets_18 : decode cX8_addSets 18 = .ok (.iastore, 1) := by decide +kernel
theorem dX8_addSets_19 : decode cX8_addSets 19 = .ok (.aload_n 0, 1) := by decide +kernel
theorem dX8_addSets_20 : decode cX8_addSets 20 = .ok (.getfield 22, 3) := by decide +kernel
theorem dX8_addSets_23 : decode cX8_addSets 23 = .ok (.iconst 1, 1) := by decide +kernel
theorem dX8_addSets_24 : decode cX8_addSets 24 = .ok (.iload_n 2, 1) := by decide +kernel
theorem dX8_addSets_25 : decode cX8_addSets 25 = .ok (.iastore, 1) := by decide +kernel
theorem dX8_addSets_26 : decode cX8_addSets 26 = .ok (.aload_n 0, 1) := by decide +kernel
theorem dX8_addSets_27 : decode cX8_addSets 27 = .ok (.getfield 22, 3) := by decide +kernel
theorem dX8_addSets_30 : decode cX8_addSets 30 = .ok (.iconst 2, 1) := by decide +kernel
theorem dX8_addSets_31 : decode cX8_addSets 31 = .ok (.iload_n 3, 1) := by decide +kernel
theorem dX8_addSets_32 : decode cX8_addSets 32 = .ok (.iastore, 1) := by decide +kernel
theorem dX8_addSets_33 : decode cX8_addSets 33 = .ok (.aload_n 0, 1) := by decide +kernel
theorem dX8_addSets_34 : decode cX8_addSets 34 = .ok (.dup, 1) := by decide +kernel
theorem dX8_addSets_35 : decode cX8_addSets 35 = .ok (.getfield 18, 3) := by decide +kernel
theorem dX8_addSets_38 : decode cX8_addSets 38 = .ok (.iload 4, 2) := by decide +kernel
theorem dX8_addSets_40 : decode cX8_addSets 40 = .ok (.iadd, 1) := by decide +kernel
theorem dX8_addSets_41 : decode cX8_addSets 41 = .ok (.putfield 18, 3) := by decide +kernel
theorem dX8_addSets_44 : decode cX8_addSets 44 = .ok (.return_, 1) := by decide +kernel
abbrev D_X8_addSets : Nat := 1
set_option maxRecDepth 100000 in
def f_X8_addSets (μ0 : Mm) (a1 : Nat) (x2 : Int32) (x3 : Int32) (x4 : Int32) (x5 : Int32) : Option Mm :=
 ((gI μ0 a1 8 2).bind fun v6 =>
    (if v6 = 0 then
    (if x5 ≤ 0 then
    ((gI μ0 a1 8 2).bind fun v7 =>
    ((pV μ0 a1 8 2 (.int (v7 + x5))).bind fun μ8 =>
    (some μ8)))
    else
    ((gR μ0 a1 8 3).bind fun v9 =>
    ((sI μ0 v9 0 (0 : Int32) x2).bind fun μ10 =>
    ((gR μ10 a1 8 3).bind fun v11 =>
    ((sI μ10 v11 0 (1 : Int32) x3).bind fun μ12 =>
    ((gR μ12 a1 8 3).bind fun v13 =>
    ((sI μ12 v13 0 (2 : Int32) x4).bind fun μ14 =>
    ((gI μ14 a1 8 2).bind fun v15 =>
    ((pV μ14 a1 8 2 (.int (v15 + x5))).bind fun μ16 =>
    (some μ16))))))))))
    else
    ((gI μ0 a1 8 2).bind fun v17 =>
    ((pV μ0 a1 8 2 (.int (v17 + x5))).bind fun μ18 =>
    (some μ18)))))
set_option maxHeartbeats 4000000 in
set_option maxRecDepth 100000 in
theorem f_X8_addSets_ok {l : Launch} {G : GG} {μ0 : Mm} {a1 : Nat} {x2 : Int32} {x3 : Int32} {x4 : Int32} {x5 : Int32} {μ' : Mm} (hf : f_X8_addSets μ0 a1 x2 x3 x4 x5 = some μ') : EvM l G D_X8_addSets yX8_addSets cX8_addSets 5 none [.ref a1, .int x2, .int x3, .int x4, .int x5] μ0 none μ' := by
  show Ev l G D_X8_addSets yX8_addSets cX8_addSets 5 none 0 [(0, .ref a1), (1, .int x2), (2, .int x3), (3, .int x4), (4, .int x5)] [] μ0 none μ'
  unfold f_X8_addSets at hf
  refine E_aload_n (pc := 0) dX8_addSets_0 rfl ?_
  refine E_getI (pc := 1) dX8_addSets_1 fl_X8_18 hf (fun v6 hf => ?_)
  refine E_if_ne (pc := 4) (tgt := 33) dX8_addSets_4 (by decide) hf (fun hf => ?_) (fun hf => ?_)
  · refine E_iload (pc := 7) dX8_addSets_7 rfl ?_
    refine E_if_le (pc := 9) (tgt := 33) dX8_addSets_9 (by decide) hf (fun hf => ?_) (fun hf => ?_)
    · refine E_aload_n (pc := 33) dX8_addSets_33 rfl ?_
      refine E_dup (pc := 34) dX8_addSets_34 rfl ?_
      refine E_getI (pc := 35) dX8_addSets_35 fl_X8_18 hf (fun v7 hf => ?_)
      refine E_iload (pc := 38) dX8_addSets_38 rfl ?_
      refine E_iadd (pc := 40) dX8_addSets_40 ?_
      refine E_putI (pc := 41) dX8_addSets_41 (pl_X8_18 _) hf (fun μ8 hf => ?_)
      exact E_vret (pc := 44) dX8_addSets_44 rfl hf
    · refine E_aload_n (pc := 12) dX8_addSets_12 rfl ?_
      refine E_getR (pc := 13) dX8_addSets_13 fl_X8_22 hf (fun v9 hf => ?_)
      refine E_iconst (pc := 16) (v := (0 : Int32)) dX8_addSets_16 (by decide) ?_
      refine E_iload_n (pc := 17) dX8_addSets_17 rfl ?_
      refine E_iast (pc := 18) dX8_addSets_18 hf (fun μ10 hf => ?_)
      refine E_aload_n (pc := 19) dX8_addSets_19 rfl ?_
      refine E_getR (pc := 20) dX8_addSets_20 fl_X8_22 hf (fun v11 hf => ?_)
      refine E_iconst (pc := 23) (v := (1 : Int32)) dX8_addSets_23 (by decide) ?_
      refine E_iload_n (pc := 24) dX8_addSets_24 rfl ?_
      refine E_iast (pc := 25) dX8_addSets_25 hf (fun μ12 hf => ?_)
      refine E_aload_n (pc := 26) dX8_addSets_26 rfl ?_
      refine E_getR (pc := 27) dX8_addSets_27 fl_X8_22 hf (fun v13 hf => ?_)
      refine E_iconst (pc := 30) (v := (2 : Int32)) dX8_addSets_30 (by decide) ?_
      refine E_iload_n (pc := 31) dX8_addSets_31 rfl ?_
      refine E_iast (pc := 32) dX8_addSets_32 hf (fun μ14 hf => ?_)
      refine E_aload_n (pc := 33) dX8_addSets_33 rfl ?_
      refine E_dup (pc := 34) dX8_addSets_34 rfl ?_
      refine E_getI (pc := 35) dX8_addSets_35 fl_X8_18 hf (fun v15 hf => ?_)
      refine E_iload (pc := 38) dX8_addSets_38 rfl ?_
      refine E_iadd (pc := 40) dX8_addSets_40 ?_
      refine E_putI (pc := 41) dX8_addSets_41 (pl_X8_18 _) hf (fun μ16 hf => ?_)
      exact E_vret (pc := 44) dX8_addSets_44 rfl hf
  · refine E_aload_n (pc := 33) dX8_addSets_33 rfl ?_
    refine E_dup (pc := 34) dX8_addSets_34 rfl ?_
    refine E_getI (pc := 35) dX8_addSets_35 fl_X8_18 hf (fun v17 hf => ?_)
    refine E_iload (pc := 38) dX8_addSets_38 rfl ?_
    refine E_iadd (pc := 40) dX8_addSets_40 ?_
    refine E_putI (pc := 41) dX8_addSets_41 (pl_X8_18 _) hf (fun μ18 hf => ?_)
    exact E_vret (pc := 44) dX8_addSets_44 rfl hf
theorem dX8_cellsUnder_0 : decode cX8_cellsUnder 0 = .ok (.lconst 1, 1) := by decide +kernel
theorem dX8_cellsUnder_1 : decode cX8_cellsUnder 1 = .ok (.iload_n 1, 1) := by decide +kernel
theorem dX8_cellsUnder_2 : decode cX8_cellsUnder 2 = .ok (.lshl, 1) := by decide +kernel
theorem dX8_cellsUnder_3 : decode cX8_cellsUnder 3 = .ok (.lstore_n 2, 1) := by decide +kernel
theorem dX8_cellsUnder_4 : decode cX8_cellsUnder 4 = .ok (.iload_n 1, 1) := by decide +kernel
theorem dX8_cellsUnder_5 : decode cX8_cellsUnder 5 = .ok (.istore 4, 2) := by decide +kernel
theorem dX8_cellsUnder_7 : decode cX8_cellsUnder 7 = .ok (.iconst 0, 1) := by decide +kernel
theorem dX8_cellsUnder_8 : decode cX8_cellsUnder 8 = .ok (.istore 5, 2) := by decide +kernel
theorem dX8_cellsUnder_10 : decode cX8_cellsUnder 10 = .ok (.iload 5, 2) := by decide +kernel
theorem dX8_cellsUnder_12 : decode cX8_cellsUnder 12 = .ok (.bipush 9, 2) := by decide +kernel
theorem dX8_cellsUnder_14 : decode cX8_cellsUnder 14 = .ok (.if_icmp .ge 36, 3) := by decide +kernel
theorem dX8_cellsUnder_17 : decode cX8_cellsUnder 17 = .ok (.aload_n 0, 1) := by decide +kernel
theorem dX8_cellsUnder_18 : decode cX8_cellsUnder 18 = .ok (.getfield 65, 3) := by decide +kernel
theorem dX8_cellsUnder_21 : decode cX8_cellsUnder 21 = .ok (.iload 4, 2) := by decide +kernel
theorem dX8_cellsUnder_23 : decode cX8_cellsUnder 23 = .ok (.iaload, 1) := by decide +kernel
theorem dX8_cellsUnder_24 : decode cX8_cellsUnder 24 = .ok (.iconst (-1), 1) := by decide +kernel
theorem dX8_cellsUnder_25 : decode cX8_cellsUnder 25 = .ok (.if_icmp .eq 25, 3) := by decide +kernel
theorem dX8_cellsUnder_28 : decode cX8_cellsUnder 28 = .ok (.aload_n 0, 1) := by decide +kernel
theorem dX8_cellsUnder_29 : decode cX8_cellsUnder 29 = .ok (.getfield 65, 3) := by decide +kernel
theorem dX8_cellsUnder_32 : decode cX8_cellsUnder 32 = .ok (.iload 4, 2) := by decide +kernel
theorem dX8_cellsUnder_34 : decode cX8_cellsUnder 34 = .ok (.iaload, 1) := by decide +kernel
theorem dX8_cellsUnder_35 : decode cX8_cellsUnder 35 = .ok (.istore 4, 2) := by decide +kernel
theorem dX8_cellsUnder_37 : decode cX8_cellsUnder 37 = .ok (.lload_n 2, 1) := by decide +kernel
theorem dX8_cellsUnder_38 : decode cX8_cellsUnder 38 = .ok (.lconst 1, 1) := by decide +kernel
theorem dX8_cellsUnder_39 : decode cX8_cellsUnder 39 = .ok (.iload 4, 2) := by decide +kernel
theorem dX8_cellsUnder_41 : decode cX8_cellsUnder 41 = .ok (.lshl, 1) := by decide +kernel
theorem dX8_cellsUnder_42 : decode cX8_cellsUnder 42 = .ok (.lor, 1) := by decide +kernel
theorem dX8_cellsUnder_43 : decode cX8_cellsUnder 43 = .ok (.lstore_n 2, 1) := by decide +kernel
theorem dX8_cellsUnder_44 : decode cX8_cellsUnder 44 = .ok (.iinc 5 1, 3) := by decide +kernel
theorem dX8_cellsUnder_47 : decode cX8_cellsUnder 47 = .ok (.goto (-37), 3) := by decide +kernel
theorem dX8_cellsUnder_50 : decode cX8_cellsUnder 50 = .ok (.lload_n 2, 1) := by decide +kernel
theorem dX8_cellsUnder_51 : decode cX8_cellsUnder 51 = .ok (.lreturn, 1) := by decide +kernel
abbrev D_X8_cellsUnder : Nat := 1
def f_X8_cellsUnder_L10 (K50 : Mm → Int64 → Option (Int64 × Mm)) : Nat → Mm → Nat → Int64 → Int32 → Int32 → Option (Int64 × Mm)
  | 0, _, _, _, _, _ => none
  | n + 1, μ0, a6, w7, x8, x9 =>
    (if (9 : Int32) ≤ x9 then
    K50 μ0 w7
    else
    ((gR μ0 a6 1 4).bind fun v10 =>
    ((aI μ0 v10 0 x8).bind fun v11 =>
    (if v11 = (-1 : Int32) then
    K50 μ0 w7
    else
    ((gR μ0 a6 1 4).bind fun v12 =>
    ((aI μ0 v12 0 x8).bind fun v13 =>
    (nm v13 fun x14 =>
    (nm (w7 ||| ((1 : Int64) <<< ((x14).toInt64 &&& 63))) fun w15 =>
    (nm (x9 + Int32.ofInt (1)) fun x16 =>
    f_X8_cellsUnder_L10 K50 n μ0 a6 w15 x14 x16)))))))))
set_option maxHeartbeats 4000000 in
set_option maxRecDepth 100000 in
theorem f_X8_cellsUnder_L10_ok {l : Launch} {G : GG} {K50 : Mm → Int64 → Option (Int64 × Mm)} {r : Int64} {μ' : Mm} (n : Nat) (μ0 : Mm) (a6 : Nat) (w7 : Int64) (x8 : Int32) (x9 : Int32) (hf : f_X8_cellsUnder_L10 K50 n μ0 a6 w7 x8 x9 = some (r, μ')) (hK50 : ∀ (μ1 : Mm) (y2 : Int64), K50 μ1 y2 = some (r, μ') → Ev l G D_X8_cellsUnder yX8_cellsUnder cX8_cellsUnder 6 (some .long) 50 [(2, .long y2)] [] μ1 (some (.long r)) μ') : Ev l G D_X8_cellsUnder yX8_cellsUnder cX8_cellsUnder 6 (some .long) 10 [(0, .ref a6), (2, .long w7), (4, .int x8), (5, .int x9)] [] μ0 (some (.long r)) μ' := by
  induction n generalizing μ0 a6 w7 x8 x9 with
  | zero => cases hf
  | succ n ih0 =>
    have ih : ∀ (μ0 : Mm) (a6 : Nat) (w7 : Int64) (x8 : Int32) (x9 : Int32), f_X8_cellsUnder_L10 K50 n μ0 a6 w7 x8 x9 = some (r, μ') → Ev l G D_X8_cellsUnder yX8_cellsUnder cX8_cellsUnder 6 (some .long) 10 [(0, .ref a6), (2, .long w7), (4, .int x8), (5, .int x9)] [] μ0 (some (.long r)) μ' := fun μ0 a6 w7 x8 x9 hf => ih0 μ0 a6 w7 x8 x9 hf
    rw [f_X8_cellsUnder_L10] at hf
    refine E_iload (pc := 10) dX8_cellsUnder_10 rfl ?_
    refine E_bipush (pc := 12) (v := (9 : Int32)) dX8_cellsUnder_12 (by decide) ?_
    refine E_icmp_ge (pc := 14) (tgt := 50) dX8_cellsUnder_14 (by decide) hf (fun hf => ?_) (fun hf => ?_)
    · refine Ev.sub [1] rfl ?_
      exact hK50 _ _ hf
    · refine E_aload_n (pc := 17) dX8_cellsUnder_17 rfl ?_
      refine E_getR (pc := 18) dX8_cellsUnder_18 fl_X8_65 hf (fun v10 hf => ?_)
      refine E_iload (pc := 21) dX8_cellsUnder_21 rfl ?_
      refine E_iald (pc := 23) dX8_cellsUnder_23 hf (fun v11 hf => ?_)
      refine E_iconst (pc := 24) (v := (-1 : Int32)) dX8_cellsUnder_24 (by decide) ?_
      refine E_icmp_eq (pc := 25) (tgt := 50) dX8_cellsUnder_25 (by decide) hf (fun hf => ?_) (fun hf => ?_)
      · refine Ev.sub [1] rfl ?_
        exact hK50 _ _ hf
      · refine E_aload_n (pc := 28) dX8_cellsUnder_28 rfl ?_
        refine E_getR (pc := 29) dX8_cellsUnder_29 fl_X8_65 hf (fun v12 hf => ?_)
        refine E_iload (pc := 32) dX8_cellsUnder_32 rfl ?_
        refine E_iald (pc := 34) dX8_cellsUnder_34 hf (fun v13 hf => ?_)
        refine E_istore (pc := 35) (ls' := fun x14 => [(4, .int x14), (0, .ref a6), (2, .long w7), (5, .int x9)]) dX8_cellsUnder_35 (by decide) (fun _ => rfl) hf (fun x14 hf => ?_)
        refine E_lload_n (pc := 37) dX8_cellsUnder_37 rfl ?_
        refine E_lconst (pc := 38) (v := (1 : Int64)) dX8_cellsUnder_38 (by decide) ?_
        refine E_iload (pc := 39) dX8_cellsUnder_39 rfl ?_
        refine E_lshl (pc := 41) dX8_cellsUnder_41 ?_
        refine E_lor (pc := 42) dX8_cellsUnder_42 ?_
        refine E_lstore_n (pc := 43) (ls' := fun w15 => [(2, .long w15), (4, .int x14), (0, .ref a6), (5, .int x9)]) dX8_cellsUnder_43 (by decide) (fun _ => rfl) hf (fun w15 hf => ?_)
        refine E_iinc (pc := 44) (ls' := fun x16 => [(5, .int x16), (2, .long w15), (4, .int x14), (0, .ref a6)]) dX8_cellsUnder_44 rfl (by decide) (fun _ => rfl) hf (fun x16 hf => ?_)
        refine E_goto (pc := 47) (tgt := 10) dX8_cellsUnder_47 (by decide) ?_
        refine Ev.sub [3, 1, 2, 0] rfl ?_
        exact ih _ _ _ _ _ hf
set_option maxRecDepth 100000 in
def f_X8_cellsUnder (μ0 : Mm) (a1 : Nat) (x2 : Int32) : Option (Int64 × Mm) :=
 (nm ((1 : Int64) <<< ((x2).toInt64 &&& 63)) fun w3 =>
    (nm x2 fun x4 =>
    (nm (0 : Int32) fun x5 =>
    f_X8_cellsUnder_L10 (fun μ17 w18 =>
    (some (w18, μ17))) FU μ0 a1 w3 x4 x5)))
set_option maxHeartbeats 4000000 in
set_option maxRecDepth 100000 in
theorem f_X8_cellsUnder_ok {l : Launch} {G : GG} {μ0 : Mm} {a1 : Nat} {x2 : Int32} {r : Int64} {μ' : Mm} (hf : f_X8_cellsUnder μ0 a1 x2 = some (r, μ')) : EvM l G D_X8_cellsUnder yX8_cellsUnder cX8_cellsUnder 6 (some .long) [.ref a1, .int x2] μ0 (some (.long r)) μ' := by
  show Ev l G D_X8_cellsUnder yX8_cellsUnder cX8_cellsUnder 6 (some .long) 0 [(0, .ref a1), (1, .int x2)] [] μ0 (some (.long r)) μ'
  unfold f_X8_cellsUnder at hf
  refine E_lconst (pc := 0) (v := (1 : Int64)) dX8_cellsUnder_0 (by decide) ?_
  refine E_iload_n (pc := 1) dX8_cellsUnder_1 rfl ?_
  refine E_lshl (pc := 2) dX8_cellsUnder_2 ?_
  refine E_lstore_n (pc := 3) (ls' := fun w3 => [(2, .long w3), (0, .ref a1), (1, .int x2)]) dX8_cellsUnder_3 (by decide) (fun _ => rfl) hf (fun w3 hf => ?_)
  refine E_iload_n (pc := 4) dX8_cellsUnder_4 rfl ?_
  refine E_istore (pc := 5) (ls' := fun x4 => [(4, .int x4), (2, .long w3), (0, .ref a1), (1, .int x2)]) dX8_cellsUnder_5 (by decide) (fun _ => rfl) hf (fun x4 hf => ?_)
  refine E_iconst (pc := 7) (v := (0 : Int32)) dX8_cellsUnder_7 (by decide) ?_
  refine E_istore (pc := 8) (ls' := fun x5 => [(5, .int x5), (4, .int x4), (2, .long w3), (0, .ref a1), (1, .int x2)]) dX8_cellsUnder_8 (by decide) (fun _ => rfl) hf (fun x5 hf => ?_)
  refine Ev.sub [3, 2, 1, 0] rfl ?_
  refine f_X8_cellsUnder_L10_ok  _ _ _ _ _ _ hf (fun μ17 w18 hf => ?_)
  · refine E_lload_n (pc := 50) dX8_cellsUnder_50 rfl ?_
    exact E_lret (pc := 51) dX8_cellsUnder_51 rfl hf
theorem dX8_findApart_0 : decode cX8_findApart 0 = .ok (.iconst 0, 1) := by decide +kernel
theorem dX8_findApart_1 : decode cX8_findApart 1 = .ok (.istore_n 2, 1) := by decide +kernel
theorem dX8_findApart_2 : decode cX8_findApart 2 = .ok (.iload_n 2, 1) := by decide +kernel
theorem dX8_findApart_3 : decode cX8_findApart 3 = .ok (.aload_n 1, 1) := by decide +kernel
theorem dX8_findApart_4 : decode cX8_findApart 4 = .ok (.getfield 37, 3) := by decide +kernel
theorem dX8_findApart_7 : decode cX8_findApart 7 = .ok (.if_icmp .ge 20, 3) := by decide +kernel
theorem dX8_findApart_10 : decode cX8_findApart 10 = .ok (.aload_n 0, 1) := by decide +kernel
theorem dX8_findApart_11 : decode cX8_findApart 11 = .ok (.getfield 9, 3) := by decide +kernel
theorem dX8_findApart_14 : decode cX8_findApart 14 = .ok (.iload_n 2, 1) := by decide +kernel
theorem dX8_findApart_15 : decode cX8_findApart 15 = .ok (.aload_n 1, 1) := by decide +kernel
theorem dX8_findApart_16 : decode cX8_findApart 16 = .ok (.iload_n 2, 1) := by decide +kernel
theorem dX8_findApart_17 : decode cX8_findApart 17 = .ok (.invokestatic 61, 3) := by decide +kernel
theorem dX8_findApart_20 : decode cX8_findApart 20 = .ok (.lastore, 1) := by decide +kernel
theorem dX8_findApart_21 : decode cX8_findApart 21 = .ok (.iinc 2 1, 3) := by decide +kernel
theorem dX8_findApart_24 : decode cX8_findApart 24 = .ok (.goto (-22), 3) := by decide +kernel
theorem dX8_findApart_27 : decode cX8_findApart 27 = .ok (.iconst 0, 1) := by decide +kernel
theorem dX8_findApart_28 : decode cX8_findApart 28 = .ok (.istore_n 2, 1) := by decide +kernel
theorem dX8_findApart_29 : decode cX8_findApart 29 = .ok (.iload_n 2, 1) := by decide +kernel
theorem dX8_findApart_30 : decode cX8_findApart 30 = .ok (.aload_n 1, 1) := by decide +kernel
theorem dX8_findApart_31 : decode cX8_findApart 31 = .ok (.getfield 37, 3) := by decide +kernel
theorem dX8_findApart_34 : decode cX8_findApart 34 = .ok (.if_icmp .ge 74, 3) := by decide +kernel
theorem dX8_findApart_37 : decode cX8_findApart 37 = .ok (.aload_n 0, 1) := by decide +kernel
theorem dX8_findApart_38 : decode cX8_findApart 38 = .ok (.getfield 15, 3) := by decide +kernel
theorem dX8_findApart_41 : decode cX8_findApart 41 = .ok (.iload_n 2, 1) := by decide +kernel
theorem dX8_findApart_42 : decode cX8_findApart 42 = .ok (.lconst 0, 1) := by decide +kernel
theorem dX8_findApart_43 : decode cX8_findApart 43 = .ok (.lastore, 1) := by decide +kernel
theorem dX8_findApart_44 : decode cX8_findApart 44 = .ok (.iconst 0, 1) := by decide +kernel
theorem dX8_findApart_45 : decode cX8_findApart 45 = .ok (.istore_n 3, 1) := by decide +kernel
theorem dX8_findApart_46 : decode cX8_findApart 46 = .ok (.iload_n 3, 1) := by decide +kernel
theorem dX8_findApart_47 : decode cX8_findApart 47 = .ok (.aload_n 1, 1) := by decide +kernel
theorem dX8_findApart_48 : decode cX8_findApart 48 = .ok (.getfield 37, 3) := by decide +kernel
theorem dX8_findApart_51 : decode cX8_findApart 51 = .ok (.if_icmp .ge 51, 3) := by decide +kernel
theorem dX8_findApart_54 : decode cX8_findApart 54 = .ok (.aload_n 0, 1) := by decide +kernel
theorem dX8_findApart_55 : decode cX8_findApart 55 = .ok (.getfield 9, 3) := by decide +kernel
theorem dX8_findApart_58 : decode cX8_findApart 58 = .ok (.iload_n 2, 1) := by decide +kernel
theorem dX8_findApart_59 : decode cX8_findApart 59 = .ok (.laload, 1) := by decide +kernel
theorem dX8_findApart_60 : decode cX8_findApart 60 = .ok (.iload_n 3, 1) := by decide +kernel
theorem dX8_findApart_61 : decode cX8_findApart 61 = .ok (.lshr, 1) := by decide +kernel
theorem dX8_findApart_62 : decode cX8_findApart 62 = .ok (.lconst 1, 1) := by decide +kernel
theorem dX8_findApart_63 : decode cX8_findApart 63 = .ok (.land, 1) := by decide +kernel
theorem dX8_findApart_64 : decode cX8_findApart 64 = .ok (.lconst 0, 1) := by decide +kernel
theorem dX8_findApart_65 : decode cX8_findApart 65 = .ok (.lcmp, 1) := by decide +kernel
theorem dX8_findApart_66 : decode cX8_findApart 66 = .ok (.ifCond .ne 30, 3) := by decide +kernel
theorem dX8_findApart_69 : decode cX8_findApart 69 = .ok (.aload_n 0, 1) := by decide +kernel
theorem dX8_findApart_70 : decode cX8_findApart 70 = .ok (.getfield 9, 3) := by decide +kernel
theorem dX8_findApart_73 : decode cX8_findApart 73 = .ok (.iload_n 3, 1) := by decide +kernel
theorem dX8_findApart_74 : decode cX8_findApart 74 = .ok (.laload, 1) := by decide +kernel
theorem dX8_findApart_75 : decode cX8_findApart 75 = .ok (.iload_n 2, 1) := by decide +kernel
theorem dX8_findApart_76 : decode cX8_findApart 76 = .ok (.lshr, 1) := by decide +kernel
theorem dX8_findApart_77 : decode cX8_findApart 77 = .ok (.lconst 1, 1) := by decide +kernel
theorem dX8_findApart_78 : decode cX8_findApart 78 = .ok (.land, 1) := by decide +kernel
theorem dX8_findApart_79 : decode cX8_findApart 79 = .ok (.lconst 0, 1) := by decide +kernel
theorem dX8_findApart_80 : decode cX8_findApart 80 = .ok (.lcmp, 1) := by decide +kernel
theorem dX8_findApart_81 : decode cX8_findApart 81 = .ok (.ifCond .ne 15, 3) := by decide +kernel
theorem dX8_findApart_84 : decode cX8_findApart 84 = .ok (.aload_n 0, 1) := by decide +kernel
theorem dX8_findApart_85 : decode cX8_findApart 85 = .ok (.getfield 15, 3) := by decide +kernel
theorem dX8_findApart_88 : decode cX8_findApart 88 = .ok (.iload_n 2, 1) := by decide +kernel
theorem dX8_findApart_89 : decode cX8_findApart 89 = .ok (.dup2, 1) := by decide +kernel
theorem dX8_findApart_90 : decode cX8_findApart 90 = .ok (.laload, 1) := by decide +kernel
theorem dX8_findApart_91 : decode cX8_findApart 91 = .ok (.lconst 1, 1) := by decide +kernel
theorem dX8_findApart_92 : decode cX8_findApart 92 = .ok (.iload_n 3, 1) := by decide +kernel
theorem dX8_findApart_93 : decode cX8_findApart 93 = .ok (.lshl, 1) := by decide +kernel
theorem dX8_findApart_94 : decode cX8_findApart 94 = .ok (.lor, 1) := by decide +kernel
theorem dX8_findApart_95 : decode cX8_findApart 95 = .ok (.lastore, 1) := by decide +kernel
theorem dX8_findApart_96 : decode cX8_findApart 96 = .ok (.iinc 3 1, 3) := by decide +kernel
theorem dX8_findApart_99 : decode cX8_findApart 99 = .ok (.goto (-53), 3) := by decide +kernel
theorem dX8_findApart_102 : decode cX8_findApart 102 = .ok (.iinc 2 1, 3) := by decide +kernel
theorem dX8_findApart_105 : decode cX8_findApart 105 = .ok (.goto (-76), 3) := by decide +kernel
theorem dX8_findApart_108 : decode cX8_findApart 108 = .ok (.return_, 1) := by decide +kernel
abbrev D_X8_findApart : Nat := 2
def f_X8_findApart_L2 (K27 : Mm → Nat → Nat → Option Mm) : Nat → Mm → Nat → Nat → Int32 → Option Mm
  | 0, _, _, _, _ => none
  | n + 1, μ0, a4, a5, x6 =>
    ((gI μ0 a5 1 2).bind fun v7 =>
    (if v7 ≤ x6 then
    K27 μ0 a4 a5
    else
    ((gR μ0 a4 8 0).bind fun v8 =>
    (bd (f_X8_cellsUnder μ0 a5 x6) fun v10 μ9 =>
    ((sL μ9 v8 3 x6 v10).bind fun μ11 =>
    (nm (x6 + Int32.ofInt (1)) fun x12 =>
    f_X8_findApart_L2 K27 n μ11 a4 a5 x12))))))
set_option maxHeartbeats 4000000 in
set_option maxRecDepth 100000 in
theorem f_X8_findApart_L2_ok {l : Launch} {G : GG} {K27 : Mm → Nat → Nat → Option Mm} {μ' : Mm} (n : Nat) (μ0 : Mm) (a4 : Nat) (a5 : Nat) (x6 : Int32) (hf : f_X8_findApart_L2 K27 n μ0 a4 a5 x6 = some μ') (hK27 : ∀ (μ1 : Mm) (y0 : Nat) (y1 : Nat), K27 μ1 y0 y1 = some μ' → Ev l G D_X8_findApart yX8_findApart cX8_findApart 4 none 27 [(0, .ref y0), (1, .ref y1)] [] μ1 none μ') : Ev l G D_X8_findApart yX8_findApart cX8_findApart 4 none 2 [(0, .ref a4), (1, .ref a5), (2, .int x6)] [] μ0 none μ' := by
  induction n generalizing μ0 a4 a5 x6 with
  | zero => cases hf
  | succ n ih0 =>
    have ih : ∀ (μ0 : Mm) (a4 : Nat) (a5 : Nat) (x6 : Int32), f_X8_findApart_L2 K27 n μ0 a4 a5 x6 = some μ' → Ev l G D_X8_findApart yX8_findApart cX8_findApart 4 none 2 [(0, .ref a4), (1, .ref a5), (2, .int x6)] [] μ0 none μ' := fun μ0 a4 a5 x6 hf => ih0 μ0 a4 a5 x6 hf
    rw [f_X8_findApart_L2] at hf
    refine E_iload_n (pc := 2) dX8_findApart_2 rfl ?_
    refine E_aload_n (pc := 3) dX8_findApart_3 rfl ?_
    refine E_getI (pc := 4) dX8_findApart_4 fl_X8_37 hf (fun v7 hf => ?_)
    refine E_icmp_ge (pc := 7) (tgt := 27) dX8_findApart_7 (by decide) hf (fun hf => ?_) (fun hf => ?_)
    · refine Ev.sub [0, 1] rfl ?_
      exact hK27 _ _ _ hf
    · refine E_aload_n (pc := 10) dX8_findApart_10 rfl ?_
      refine E_getR (pc := 11) dX8_findApart_11 fl_X8_9 hf (fun v8 hf => ?_)
      refine E_iload_n (pc := 14) dX8_findApart_14 rfl ?_
      refine E_aload_n (pc := 15) dX8_findApart_15 rfl ?_
      refine E_iload_n (pc := 16) dX8_findApart_16 rfl ?_
      refine E_Sl (pc := 17) (d2 := D_X8_cellsUnder) [.ref a5, .int x6] dX8_findApart_17 ml_X8_61 mf_X8_cellsUnder st_X8_cellsUnder rfl (by decide) (Nat.le_of_ble_eq_true rfl) (Nat.le_of_ble_eq_true rfl) rfl (fun _ _ h => f_X8_cellsUnder_ok h) hf (fun v10 μ9 hf => ?_)
      refine E_last (pc := 20) dX8_findApart_20 hf (fun μ11 hf => ?_)
      refine E_iinc (pc := 21) (ls' := fun x12 => [(2, .int x12), (0, .ref a4), (1, .ref a5)]) dX8_findApart_21 rfl (by decide) (fun _ => rfl) hf (fun x12 hf => ?_)
      refine E_goto (pc := 24) (tgt := 2) dX8_findApart_24 (by decide) ?_
      refine Ev.sub [1, 2, 0] rfl ?_
      exact ih _ _ _ _ hf
def f_X8_findApart_L46 (K102 : Mm → Nat → Nat → Int32 → Option Mm) : Nat → Mm → Nat → Nat → Int32 → Int32 → Option Mm
  | 0, _, _, _, _, _ => none
  | n + 1, μ0, a24, a25, x26, x27 =>
    ((gI μ0 a25 1 2).bind fun v28 =>
    (if v28 ≤ x27 then
    K102 μ0 a24 a25 x26
    else
    ((gR μ0 a24 8 0).bind fun v29 =>
    ((aL μ0 v29 3 x26).bind fun v30 =>
    (if (lg_cmp ((v30 >>> ((x27).toInt64 &&& 63)) &&& (1 : Int64)) (0 : Int64)) = 0 then
    ((gR μ0 a24 8 0).bind fun v31 =>
    ((aL μ0 v31 3 x27).bind fun v32 =>
    (if (lg_cmp ((v32 >>> ((x26).toInt64 &&& 63)) &&& (1 : Int64)) (0 : Int64)) = 0 then
    ((gR μ0 a24 8 1).bind fun v33 =>
    ((aL μ0 v33 3 x26).bind fun v34 =>
    ((sL μ0 v33 3 x26 (v34 ||| ((1 : Int64) <<< ((x27).toInt64 &&& 63)))).bind fun μ35 =>
    (nm (x27 + Int32.ofInt (1)) fun x36 =>
    f_X8_findApart_L46 K102 n μ35 a24 a25 x26 x36))))
    else
    (nm (x27 + Int32.ofInt (1)) fun x37 =>
    f_X8_findApart_L46 K102 n μ0 a24 a25 x26 x37))))
    else
    (nm (x27 + Int32.ofInt (1)) fun x38 =>
    f_X8_findApart_L46 K102 n μ0 a24 a25 x26 x38))))))
set_option maxHeartbeats 4000000 in
set_option maxRecDepth 100000 in
theorem f_X8_findApart_L46_ok {l : Launch} {G : GG} {K102 : Mm → Nat → Nat → Int32 → Option Mm} {μ' : Mm} (n : Nat) (μ0 : Mm) (a24 : Nat) (a25 : Nat) (x26 : Int32) (x27 : Int32) (hf : f_X8_findApart_L46 K102 n μ0 a24 a25 x26 x27 = some μ') (hK102 : ∀ (μ1 : Mm) (y0 : Nat) (y1 : Nat) (y2 : Int32), K102 μ1 y0 y1 y2 = some μ' → Ev l G D_X8_findApart yX8_findApart cX8_findApart 4 none 102 [(0, .ref y0), (1, .ref y1), (2, .int y2)] [] μ1 none μ') : Ev l G D_X8_findApart yX8_findApart cX8_findApart 4 none 46 [(0, .ref a24), (1, .ref a25), (2, .int x26), (3, .int x27)] [] μ0 none μ' := by
  induction n generalizing μ0 a24 a25 x26 x27 with
  | zero => cases hf
  | succ n ih0 =>
    have ih : ∀ (μ0 : Mm) (a24 : Nat) (a25 : Nat) (x26 : Int32) (x27 : Int32), f_X8_findApart_L46 K102 n μ0 a24 a25 x26 x27 = some μ' → Ev l G D_X8_findApart yX8_findApart cX8_findApart 4 none 46 [(0, .ref a24), (1, .ref a25), (2, .int x26), (3, .int x27)] [] μ0 none μ' := fun μ0 a24 a25 x26 x27 hf => ih0 μ0 a24 a25 x26 x27 hf
    rw [f_X8_findApart_L46] at hf
    refine E_iload_n (pc := 46) dX8_findApart_46 rfl ?_
    refine E_aload_n (pc := 47) dX8_findApart_47 rfl ?_
    refine E_getI (pc := 48) dX8_findApart_48 fl_X8_37 hf (fun v28 hf => ?_)
    refine E_icmp_ge (pc := 51) (tgt := 102) dX8_findApart_51 (by decide) hf (fun hf => ?_) (fun hf => ?_)
    · refine Ev.sub [0, 1, 2] rfl ?_
      exact hK102 _ _ _ _ hf
    · refine E_aload_n (pc := 54) dX8_findApart_54 rfl ?_
      refine E_getR (pc := 55) dX8_findApart_55 fl_X8_9 hf (fun v29 hf => ?_)
      refine E_iload_n (pc := 58) dX8_findApart_58 rfl ?_
      refine E_lald (pc := 59) dX8_findApart_59 hf (fun v30 hf => ?_)
      refine E_iload_n (pc := 60) dX8_findApart_60 rfl ?_
      refine E_lshr (pc := 61) dX8_findApart_61 ?_
      refine E_lconst (pc := 62) (v := (1 : Int64)) dX8_findApart_62 (by decide) ?_
      refine E_land (pc := 63) dX8_findApart_63 ?_
      refine E_lconst (pc := 64) (v := (0 : Int64)) dX8_findApart_64 (by decide) ?_
      refine E_lcmp (pc := 65) dX8_findApart_65 ?_
      refine E_if_ne (pc := 66) (tgt := 96) dX8_findApart_66 (by decide) hf (fun hf => ?_) (fun hf => ?_)
      · refine E_aload_n (pc := 69) dX8_findApart_69 rfl ?_
        refine E_getR (pc := 70) dX8_findApart_70 fl_X8_9 hf (fun v31 hf => ?_)
        refine E_iload_n (pc := 73) dX8_findApart_73 rfl ?_
        refine E_lald (pc := 74) dX8_findApart_74 hf (fun v32 hf => ?_)
        refine E_iload_n (pc := 75) dX8_findApart_75 rfl ?_
        refine E_lshr (pc := 76) dX8_findApart_76 ?_
        refine E_lconst (pc := 77) (v := (1 : Int64)) dX8_findApart_77 (by decide) ?_
        refine E_land (pc := 78) dX8_findApart_78 ?_
        refine E_lconst (pc := 79) (v := (0 : Int64)) dX8_findApart_79 (by decide) ?_
        refine E_lcmp (pc := 80) dX8_findApart_80 ?_
        refine E_if_ne (pc := 81) (tgt := 96) dX8_findApart_81 (by decide) hf (fun hf => ?_) (fun hf => ?_)
        · refine E_aload_n (pc := 84) dX8_findApart_84 rfl ?_
          refine E_getR (pc := 85) dX8_findApart_85 fl_X8_15 hf (fun v33 hf => ?_)
          refine E_iload_n (pc := 88) dX8_findApart_88 rfl ?_
          refine E_dup2 (pc := 89) dX8_findApart_89 rfl rfl ?_
          refine E_lald (pc := 90) dX8_findApart_90 hf (fun v34 hf => ?_)
          refine E_lconst (pc := 91) (v := (1 : Int64)) dX8_findApart_91 (by decide) ?_
          refine E_iload_n (pc := 92) dX8_findApart_92 rfl ?_
          refine E_lshl (pc := 93) dX8_findApart_93 ?_
          refine E_lor (pc := 94) dX8_findApart_94 ?_
          refine E_last (pc := 95) dX8_findApart_95 hf (fun μ35 hf => ?_)
          refine E_iinc (pc := 96) (ls' := fun x36 => [(3, .int x36), (0, .ref a24), (1, .ref a25), (2, .int x26)]) dX8_findApart_96 rfl (by decide) (fun _ => rfl) hf (fun x36 hf => ?_)
          refine E_goto (pc := 99) (tgt := 46) dX8_findApart_99 (by decide) ?_
          refine Ev.sub [1, 2, 3, 0] rfl ?_
          exact ih _ _ _ _ _ hf
        · refine E_iinc (pc := 96) (ls' := fun x37 => [(3, .int x37), (0, .ref a24), (1, .ref a25), (2, .int x26)]) dX8_findApart_96 rfl (by decide) (fun _ => rfl) hf (fun x37 hf => ?_)
          refine E_goto (pc := 99) (tgt := 46) dX8_findApart_99 (by decide) ?_
          refine Ev.sub [1, 2, 3, 0] rfl ?_
          exact ih _ _ _ _ _ hf
      · refine E_iinc (pc := 96) (ls' := fun x38 => [(3, .int x38), (0, .ref a24), (1, .ref a25), (2, .int x26)]) dX8_findApart_96 rfl (by decide) (fun _ => rfl) hf (fun x38 hf => ?_)
        refine E_goto (pc := 99) (tgt := 46) dX8_findApart_99 (by decide) ?_
        refine Ev.sub [1, 2, 3, 0] rfl ?_
        exact ih _ _ _ _ _ hf
def f_X8_findApart_L29 (K108 : Mm → Option Mm) : Nat → Mm → Nat → Nat → Int32 → Option Mm
  | 0, _, _, _, _ => none
  | n + 1, μ0, a17, a18, x19 =>
    ((gI μ0 a18 1 2).bind fun v20 =>
    (if v20 ≤ x19 then
    K108 μ0
    else
    ((gR μ0 a17 8 1).bind fun v21 =>
    ((sL μ0 v21 3 x19 (0 : Int64)).bind fun μ22 =>
    (nm (0 : Int32) fun x23 =>
    f_X8_findApart_L46 (fun μ39 a40 a41 x42 =>
    (nm (x42 + Int32.ofInt (1)) fun x43 =>
    f_X8_findApart_L29 K108 n μ39 a40 a41 x43)) FU μ22 a17 a18 x19 x23)))))
set_option maxHeartbeats 4000000 in
set_option maxRecDepth 100000 in
theorem f_X8_findApart_L29_ok {l : Launch} {G : GG} {K108 : Mm → Option Mm} {μ' : Mm} (n : Nat) (μ0 : Mm) (a17 : Nat) (a18 : Nat) (x19 : Int32) (hf : f_X8_findApart_L29 K108 n μ0 a17 a18 x19 = some μ') (hK108 : ∀ (μ1 : Mm), K108 μ1  = some μ' → Ev l G D_X8_findApart yX8_findApart cX8_findApart 4 none 108 [] [] μ1 none μ') : Ev l G D_X8_findApart yX8_findApart cX8_findApart 4 none 29 [(0, .ref a17), (1, .ref a18), (2, .int x19)] [] μ0 none μ' := by
  induction n generalizing μ0 a17 a18 x19 with
  | zero => cases hf
  | succ n ih0 =>
    have ih : ∀ (μ0 : Mm) (a17 : Nat) (a18 : Nat) (x19 : Int32), f_X8_findApart_L29 K108 n μ0 a17 a18 x19 = some μ' → Ev l G D_X8_findApart yX8_findApart cX8_findApart 4 none 29 [(0, .ref a17), (1, .ref a18), (2, .int x19)] [] μ0 none μ' := fun μ0 a17 a18 x19 hf => ih0 μ0 a17 a18 x19 hf
    rw [f_X8_findApart_L29] at hf
    refine E_iload_n (pc := 29) dX8_findApart_29 rfl ?_
    refine E_aload_n (pc := 30) dX8_findApart_30 rfl ?_
    refine E_getI (pc := 31) dX8_findApart_31 fl_X8_37 hf (fun v20 hf => ?_)
    refine E_icmp_ge (pc := 34) (tgt := 108) dX8_findApart_34 (by decide) hf (fun hf => ?_) (fun hf => ?_)
    · refine Ev.sub [] rfl ?_
      exact hK108 _ hf
    · refine E_aload_n (pc := 37) dX8_findApart_37 rfl ?_
      refine E_getR (pc := 38) dX8_findApart_38 fl_X8_15 hf (fun v21 hf => ?_)
      refine E_iload_n (pc := 41) dX8_findApart_41 rfl ?_
      refine E_lconst (pc := 42) (v := (0 : Int64)) dX8_findApart_42 (by decide) ?_
      refine E_last (pc := 43) dX8_findApart_43 hf (fun μ22 hf => ?_)
      refine E_iconst (pc := 44) (v := (0 : Int32)) dX8_findApart_44 (by decide) ?_
      refine E_istore_n (pc := 45) (ls' := fun x23 => [(3, .int x23), (0, .ref a17), (1, .ref a18), (2, .int x19)]) dX8_findApart_45 (by decide) (fun _ => rfl) hf (fun x23 hf => ?_)
      refine Ev.sub [1, 2, 3, 0] rfl ?_
      refine f_X8_findApart_L46_ok  _ _ _ _ _ _ hf (fun μ39 a40 a41 x42 hf => ?_)
      · refine E_iinc (pc := 102) (ls' := fun x43 => [(2, .int x43), (0, .ref a40), (1, .ref a41)]) dX8_findApart_102 rfl (by decide) (fun _ => rfl) hf (fun x43 hf => ?_)
        refine E_goto (pc := 105) (tgt := 29) dX8_findApart_105 (by decide) ?_
        refine Ev.sub [1, 2, 0] rfl ?_
        exact ih _ _ _ _ hf
set_option maxRecDepth 100000 in
def f_X8_findApart (μ0 : Mm) (a1 : Nat) (a2 : Nat) : Option Mm :=
 (nm (0 : Int32) fun x3 =>
    f_X8_findApart_L2 (fun μ13 a14 a15 =>
    (nm (0 : Int32) fun x16 =>
    f_X8_findApart_L29 (fun μ44 =>
    (some μ44)) FU μ13 a14 a15 x16)) FU μ0 a1 a2 x3)
set_option maxHeartbeats 4000000 in
set_option maxRecDepth 100000 in
theorem f_X8_findApart_ok {l : Launch} {G : GG} {μ0 : Mm} {a1 : Nat} {a2 : Nat} {μ' : Mm} (hf : f_X8_findApart μ0 a1 a2 = some μ') : EvM l G D_X8_findApart yX8_findApart cX8_findApart 4 none [.ref a1, .ref a2] μ0 none μ' := by
  show Ev l G D_X8_findApart yX8_findApart cX8_findApart 4 none 0 [(0, .ref a1), (1, .ref a2)] [] μ0 none μ'
  unfold f_X8_findApart at hf
  refine E_iconst (pc := 0) (v := (0 : Int32)) dX8_findApart_0 (by decide) ?_
  refine E_istore_n (pc := 1) (ls' := fun x3 => [(2, .int x3), (0, .ref a1), (1, .ref a2)]) dX8_findApart_1 (by decide) (fun _ => rfl) hf (fun x3 hf => ?_)
  refine Ev.sub [1, 2, 0] rfl ?_
  refine f_X8_findApart_L2_ok  _ _ _ _ _ hf (fun μ13 a14 a15 hf => ?_)
  · refine E_iconst (pc := 27) (v := (0 : Int32)) dX8_findApart_27 (by decide) ?_
    refine E_istore_n (pc := 28) (ls' := fun x16 => [(2, .int x16), (0, .ref a14), (1, .ref a15)]) dX8_findApart_28 (by decide) (fun _ => rfl) hf (fun x16 hf => ?_)
    refine Ev.sub [1, 2, 0] rfl ?_
    refine f_X8_findApart_L29_ok  _ _ _ _ _ hf (fun μ44 hf => ?_)
    · exact E_vret (pc := 108) dX8_findApart_108 rfl hf
theorem dX8_lowestOf_0 : decode cX8_lowestOf 0 = .ok (.iconst 0, 1) := by decide +kernel
theorem dX8_lowestOf_1 : decode cX8_lowestOf 1 = .ok (.istore_n 2, 1) := by decide +kernel
theorem dX8_lowestOf_2 : decode cX8_lowestOf 2 = .ok (.iload_n 2, 1) := by decide +kernel
theorem dX8_lowestOf_3 : decode cX8_lowestOf 3 = .ok (.bipush 48, 2) := by decide +kernel
theorem dX8_lowestOf_5 : decode cX8_lowestOf 5 = .ok (.if_icmp .ge 21, 3) := by decide +kernel
theorem dX8_lowestOf_8 : decode cX8_lowestOf 8 = .ok (.lload_n 0, 1) := by decide +kernel
theorem dX8_lowestOf_9 : decode cX8_lowestOf 9 = .ok (.iload_n 2, 1) := by decide +kernel
theorem dX8_lowestOf_10 : decode cX8_lowestOf 10 = .ok (.lshr, 1) := by decide +kernel
theorem dX8_lowestOf_11 : decode cX8_lowestOf 11 = .ok (.lconst 1, 1) := by decide +kernel
theorem dX8_lowestOf_12 : decode cX8_lowestOf 12 = .ok (.land, 1) := by decide +kernel
theorem dX8_lowestOf_13 : decode cX8_lowestOf 13 = .ok (.lconst 0, 1) := by decide +kernel
theorem dX8_lowestOf_14 : decode cX8_lowestOf 14 = .ok (.lcmp, 1) := by decide +kernel
theorem dX8_lowestOf_15 : decode cX8_lowestOf 15 = .ok (.ifCond .eq 5, 3) := by decide +kernel
theorem dX8_lowestOf_18 : decode cX8_lowestOf 18 = .ok (.iload_n 2, 1) := by decide +kernel
theorem dX8_lowestOf_19 : decode cX8_lowestOf 19 = .ok (.ireturn, 1) := by decide +kernel
theorem dX8_lowestOf_20 : decode cX8_lowestOf 20 = .ok (.iinc 2 1, 3) := by decide +kernel
theorem dX8_lowestOf_23 : decode cX8_lowestOf 23 = .ok (.goto (-21), 3) := by decide +kernel
theorem dX8_lowestOf_26 : decode cX8_lowestOf 26 = .ok (.iconst (-1), 1) := by decide +kernel
theorem dX8_lowestOf_27 : decode cX8_lowestOf 27 = .ok (.ireturn, 1) := by decide +kernel
abbrev D_X8_lowestOf : Nat := 1
def f_X8_lowestOf_L2 (K18 : Mm → Int32 → Option (Int32 × Mm)) (K26 : Mm → Option (Int32 × Mm)) : Nat → Mm → Int64 → Int32 → Option (Int32 × Mm)
  | 0, _, _, _ => none
  | n + 1, μ0, w3, x4 =>
    (if (48 : Int32) ≤ x4 then
    K26 μ0
    else
    (if (lg_cmp ((w3 >>> ((x4).toInt64 &&& 63)) &&& (1 : Int64)) (0 : Int64)) = 0 then
    (nm (x4 + Int32.ofInt (1)) fun x5 =>
    f_X8_lowestOf_L2 K18 K26 n μ0 w3 x5)
    else
    K18 μ0 x4))
set_option maxHeartbeats 4000000 in
set_option maxRecDepth 100000 in
theorem f_X8_lowestOf_L2_ok {l : Launch} {G : GG} {K18 : Mm → Int32 → Option (Int32 × Mm)} {K26 : Mm → Option (Int32 × Mm)} {r : Int32} {μ' : Mm} (n : Nat) (μ0 : Mm) (w3 : Int64) (x4 : Int32) (hf : f_X8_lowestOf_L2 K18 K26 n μ0 w3 x4 = some (r, μ')) (hK18 : ∀ (μ1 : Mm) (y2 : Int32), K18 μ1 y2 = some (r, μ') → Ev l G D_X8_lowestOf yX8_lowestOf cX8_lowestOf 3 (some .int) 18 [(2, .int y2)] [] μ1 (some (.int r)) μ') (hK26 : ∀ (μ1 : Mm), K26 μ1  = some (r, μ') → Ev l G D_X8_lowestOf yX8_lowestOf cX8_lowestOf 3 (some .int) 26 [] [] μ1 (some (.int r)) μ') : Ev l G D_X8_lowestOf yX8_lowestOf cX8_lowestOf 3 (some .int) 2 [(0, .long w3), (2, .int x4)] [] μ0 (some (.int r)) μ' := by
  induction n generalizing μ0 w3 x4 with
  | zero => cases hf
  | succ n ih0 =>
    have ih : ∀ (μ0 : Mm) (w3 : Int64) (x4 : Int32), f_X8_lowestOf_L2 K18 K26 n μ0 w3 x4 = some (r, μ') → Ev l G D_X8_lowestOf yX8_lowestOf cX8_lowestOf 3 (some .int) 2 [(0, .long w3), (2, .int x4)] [] μ0 (some (.int r)) μ' := fun μ0 w3 x4 hf => ih0 μ0 w3 x4 hf
    rw [f_X8_lowestOf_L2] at hf
    refine E_iload_n (pc := 2) dX8_lowestOf_2 rfl ?_
    refine E_bipush (pc := 3) (v := (48 : Int32)) dX8_lowestOf_3 (by decide) ?_
    refine E_icmp_ge (pc := 5) (tgt := 26) dX8_lowestOf_5 (by decide) hf (fun hf => ?_) (fun hf => ?_)
    · refine Ev.sub [] rfl ?_
      exact hK26 _ hf
    · refine E_lload_n (pc := 8) dX8_lowestOf_8 rfl ?_
      refine E_iload_n (pc := 9) dX8_lowestOf_9 rfl ?_
      refine E_lshr (pc := 10) dX8_lowestOf_10 ?_
      refine E_lconst (pc := 11) (v := (1 : Int64)) dX8_lowestOf_11 (by decide) ?_
      refine E_land (pc := 12) dX8_lowestOf_12 ?_
      refine E_lconst (pc := 13) (v := (0 : Int64)) dX8_lowestOf_13 (by decide) ?_
      refine E_lcmp (pc := 14) dX8_lowestOf_14 ?_
      refine E_if_eq (pc := 15) (tgt := 20) dX8_lowestOf_15 (by decide) hf (fun hf => ?_) (fun hf => ?_)
      · refine E_iinc (pc := 20) (ls' := fun x5 => [(2, .int x5), (0, .long w3)]) dX8_lowestOf_20 rfl (by decide) (fun _ => rfl) hf (fun x5 hf => ?_)
        refine E_goto (pc := 23) (tgt := 2) dX8_lowestOf_23 (by decide) ?_
        refine Ev.sub [1, 0] rfl ?_
        exact ih _ _ _ hf
      · refine Ev.sub [1] rfl ?_
        exact hK18 _ _ hf
set_option maxRecDepth 100000 in
def f_X8_lowestOf (μ0 : Mm) (w1 : Int64) : Option (Int32 × Mm) :=
 (nm (0 : Int32) fun x2 =>
    f_X8_lowestOf_L2 (fun μ6 x7 =>
    (some (x7, μ6))) (fun μ8 =>
    (some ((-1 : Int32), μ8))) FU μ0 w1 x2)
set_option maxHeartbeats 4000000 in
set_option maxRecDepth 100000 in
theorem f_X8_lowestOf_ok {l : Launch} {G : GG} {μ0 : Mm} {w1 : Int64} {r : Int32} {μ' : Mm} (hf : f_X8_lowestOf μ0 w1 = some (r, μ')) : EvM l G D_X8_lowestOf yX8_lowestOf cX8_lowestOf 3 (some .int) [.long w1] μ0 (some (.int r)) μ' := by
  show Ev l G D_X8_lowestOf yX8_lowestOf cX8_lowestOf 3 (some .int) 0 [(0, .long w1)] [] μ0 (some (.int r)) μ'
  unfold f_X8_lowestOf at hf
  refine E_iconst (pc := 0) (v := (0 : Int32)) dX8_lowestOf_0 (by decide) ?_
  refine E_istore_n (pc := 1) (ls' := fun x2 => [(2, .int x2), (0, .long w1)]) dX8_lowestOf_1 (by decide) (fun _ => rfl) hf (fun x2 hf => ?_)
  refine Ev.sub [1, 0] rfl ?_
  refine f_X8_lowestOf_L2_ok  _ _ _ _ hf (fun μ6 x7 hf => ?_) (fun μ8 hf => ?_)
  · refine E_iload_n (pc := 18) dX8_lowestOf_18 rfl ?_
    exact E_iret (pc := 19) dX8_lowestOf_19 rfl hf
  · refine E_iconst (pc := 26) (v := (-1 : Int32)) dX8_lowestOf_26 (by decide) ?_
    exact E_iret (pc := 27) dX8_lowestOf_27 rfl hf
theorem dX8_setTraysBehind_0 : decode cX8_setTraysBehind 0 = .ok (.iload_n 2, 1) := by decide +kernel
theorem dX8_setTraysBehind_1 : decode cX8_setTraysBehind 1 = .ok (.iconst 1, 1) := by decide +kernel
theorem dX8_setTraysBehind_2 : decode cX8_setTraysBehind 2 = .ok (.iadd, 1) := by decide +kernel
theorem dX8_setTraysBehind_3 : decode cX8_setTraysBehind 3 = .ok (.istore 4, 2) := by decide +kernel
theorem dX8_setTraysBehind_5 : decode cX8_setTraysBehind 5 = .ok (.iload 4, 2) := by decide +kernel
theorem dX8_setTraysBehind_7 : decode cX8_setTraysBehind 7 = .ok (.aload_n 1, 1) := by decide +kernel
theorem dX8_setTraysBehind_8 : decode cX8_setTraysBehind 8 = .ok (.getfield 37, 3) := by decide +kernel
theorem dX8_setTraysBehind_11 : decode cX8_setTraysBehind 11 = .ok (.if_icmp .ge 83, 3) := by decide +kernel
theorem dX8_setTraysBehind_14 : decode cX8_setTraysBehind 14 = .ok (.aload_n 0, 1) := by decide +kernel
theorem dX8_setTraysBehind_15 : decode cX8_setTraysBehind 15 = .ok (.getfield 15, 3) := by decide +kernel
theorem dX8_setTraysBehind_18 : decode cX8_setTraysBehind 18 = .ok (.iload_n 2, 1) := by decide +kernel
theorem dX8_setTraysBehind_19 : decode cX8_setTraysBehind 19 = .ok (.laload, 1) := by decide +kernel
theorem dX8_setTraysBehind_20 : decode cX8_setTraysBehind 20 = .ok (.iload 4, 2) := by decide +kernel
theorem dX8_setTraysBehind_22 : decode cX8_setTraysBehind 22 = .ok (.lshr, 1) := by decide +kernel
theorem dX8_setTraysBehind_23 : decode cX8_setTraysBehind 23 = .ok (.lconst 1, 1) := by decide +kernel
theorem dX8_setTraysBehind_24 : decode cX8_setTraysBehind 24 = .ok (.land, 1) := by decide +kernel
theorem dX8_setTraysBehind_25 : decode cX8_setTraysBehind 25 = .ok (.lconst 0, 1) := by decide +kernel
theorem dX8_setTraysBehind_26 : decode cX8_setTraysBehind 26 = .ok (.lcmp, 1) := by decide +kernel
theorem dX8_setTraysBehind_27 : decode cX8_setTraysBehind 27 = .ok (.ifCond .eq 61, 3) := by decide +kernel
theorem dX8_setTraysBehind_30 : decode cX8_setTraysBehind 30 = .ok (.iload_n 3, 1) := by decide +kernel
theorem dX8_setTraysBehind_31 : decode cX8_setTraysBehind 31 = .ok (.iconst 2, 1) := by decide +kernel
theorem dX8_setTraysBehind_32 : decode cX8_setTraysBehind 32 = .ok (.if_icmp .ne 15, 3) := by decide +kernel
theorem dX8_setTraysBehind_35 : decode cX8_setTraysBehind 35 = .ok (.aload_n 0, 1) := by decide +kernel
theorem dX8_setTraysBehind_36 : decode cX8_setTraysBehind 36 = .ok (.iload_n 2, 1) := by decide +kernel
theorem dX8_setTraysBehind_37 : decode cX8_setTraysBehind 37 = .ok (.iload 4, 2) := by decide +kernel
theorem dX8_setTraysBehind_39 : decode cX8_setTraysBehind 39 = .ok (.iconst (-1), 1) := by decide +kernel
theorem dX8_setTraysBehind_40 : decode cX8_setTraysBehind 40 = .ok (.iconst 1, 1) := by decide +kernel
theorem dX8_setTraysBehind_41 : decode cX8_setTraysBehind 41 = .ok (.invokevirtual 42, 3) := by decide +kernel
theorem dX8_setTraysBehind_44 : decode cX8_setTraysBehind 44 = .ok (.goto 44, 3) := by decide +kernel
theorem dX8_setTraysBehind_47 : decode cX8_setTraysBehind 47 = .ok (.aload_n 0, 1) := by decide +kernel
theorem dX8_setTraysBehind_48 : decode cX8_setTraysBehind 48 = .ok (.getfield 15, 3) := by decide +kernel
theorem dX8_setTraysBehind_51 : decode cX8_setTraysBehind 51 = .ok (.iload_n 2, 1) := by decide +kernel
theorem dX8_setTraysBehind_52 : decode cX8_setTraysBehind 52 = .ok (.laload, 1) := by decide +kernel
theorem dX8_setTraysBehind_53 : decode cX8_setTraysBehind 53 = .ok (.aload_n 0, 1) := by decide +kernel
theorem dX8_setTraysBehind_54 : decode cX8_setTraysBehind 54 = .ok (.getfield 15, 3) := by decide +kernel
theorem dX8_setTraysBehind_57 : decode cX8_setTraysBehind 57 = .ok (.iload 4, 2) := by decide +kernel
theorem dX8_setTraysBehind_59 : decode cX8_setTraysBehind 59 = .ok (.laload, 1) := by decide +kernel
theorem dX8_setTraysBehind_60 : decode cX8_setTraysBehind 60 = .ok (.land, 1) := by decide +kernel
theorem dX8_setTraysBehind_61 : decode cX8_setTraysBehind 61 = .ok (.ldc2_w 50, 3) := by decide +kernel
theorem dX8_setTraysBehind_64 : decode cX8_setTraysBehind 64 = .ok (.iload 4, 2) := by decide +kernel
theorem dX8_setTraysBehind_66 : decode cX8_setTraysBehind 66 = .ok (.lshl, 1) := by decide +kernel
theorem dX8_setTraysBehind_67 : decode cX8_setTraysBehind 67 = .ok (.lneg, 1) := by decide +kernel
theorem dX8_setTraysBehind_68 : decode cX8_setTraysBehind 68 = .ok (.land, 1) := by decide +kernel
theorem dX8_setTraysBehind_69 : decode cX8_setTraysBehind 69 = .ok (.lstore 5, 2) := by decide +kernel
theorem dX8_setTraysBehind_71 : decode cX8_setTraysBehind 71 = .ok (.aload_n 0, 1) := by decide +kernel
theorem dX8_setTraysBehind_72 : decode cX8_setTraysBehind 72 = .ok (.iload_n 2, 1) := by decide +kernel
theorem dX8_setTraysBehind_73 : decode cX8_setTraysBehind 73 = .ok (.iload 4, 2) := by decide +kernel
theorem dX8_setTraysBehind_75 : decode cX8_setTraysBehind 75 = .ok (.lload 5, 2) := by decide +kernel
theorem dX8_setTraysBehind_77 : decode cX8_setTraysBehind 77 = .ok (.invokestatic 52, 3) := by decide +kernel
theorem dX8_setTraysBehind_80 : decode cX8_setTraysBehind 80 = .ok (.lload 5, 2) := by decide +kernel
theorem dX8_setTraysBehind_82 : decode cX8_setTraysBehind 82 = .ok (.invokestatic 56, 3) := by decide +kernel
theorem dX8_setTraysBehind_85 : decode cX8_setTraysBehind 85 = .ok (.invokevirtual 42, 3) := by decide +kernel
theorem dX8_setTraysBehind_88 : decode cX8_setTraysBehind 88 = .ok (.iinc 4 1, 3) := by decide +kernel
theorem dX8_setTraysBehind_91 : decode cX8_setTraysBehind 91 = .ok (.goto (-86), 3) := by decide +kernel
theorem dX8_setTraysBehind_94 : decode cX8_setTraysBehind 94 = .ok (.return_, 1) := by decide +kernel
abbrev D_X8_setTraysBehind : Nat := 2
def f_X8_setTraysBehind_L5 (K94 : Mm → Option Mm) : Nat → Mm → Nat → Nat → Int32 → Int32 → Int32 → Option Mm
  | 0, _, _, _, _, _, _ => none
  | n + 1, μ0, a6, a7, x8, x9, x10 =>
    ((gI μ0 a7 1 2).bind fun v11 =>
    (if v11 ≤ x10 then
    K94 μ0
    else
    ((gR μ0 a6 8 1).bind fun v12 =>
    ((aL μ0 v12 3 x8).bind fun v13 =>
    (if (lg_cmp ((v13 >>> ((x10).toInt64 &&& 63)) &&& (1 : Int64)) (0 : Int64)) = 0 then
    (nm (x10 + Int32.ofInt (1)) fun x14 =>
    f_X8_setTraysBehind_L5 K94 n μ0 a6 a7 x8 x9 x14)
    else
    (if x9 = (2 : Int32) then
    ((ob μ0 a6 8).bind fun _ =>
    ((f_X8_addSets μ0 a6 x8 x10 (-1 : Int32) (1 : Int32)).bind fun μ15 =>
    (nm (x10 + Int32.ofInt (1)) fun x16 =>
    f_X8_setTraysBehind_L5 K94 n μ15 a6 a7 x8 x9 x16)))
    else
    ((gR μ0 a6 8 1).bind fun v17 =>
    ((aL μ0 v17 3 x8).bind fun v18 =>
    ((gR μ0 a6 8 1).bind fun v19 =>
    ((aL μ0 v19 3 x10).bind fun v20 =>
    (nm ((v18 &&& v20) &&& (-((2 : Int64) <<< ((x10).toInt64 &&& 63)))) fun w21 =>
    (bd (f_X8_lowestOf μ0 w21) fun v23 μ22 =>
    (bd (f_J13_bitCount_95d88 μ22 w21) fun v25 μ24 =>
    ((ob μ24 a6 8).bind fun _ =>
    ((f_X8_addSets μ24 a6 x8 x10 v23 v25).bind fun μ26 =>
    (nm (x10 + Int32.ofInt (1)) fun x27 =>
    f_X8_setTraysBehind_L5 K94 n μ26 a6 a7 x8 x9 x27))))))))))))))))
set_option maxHeartbeats 4000000 in
set_option maxRecDepth 100000 in
theorem f_X8_setTraysBehind_L5_ok {l : Launch} {G : GG} {K94 : Mm → Option Mm} {μ' : Mm} (n : Nat) (μ0 : Mm) (a6 : Nat) (a7 : Nat) (x8 : Int32) (x9 : Int32) (x10 : Int32) (hf : f_X8_setTraysBehind_L5 K94 n μ0 a6 a7 x8 x9 x10 = some μ') (hK94 : ∀ (μ1 : Mm), K94 μ1  = some μ' → Ev l G D_X8_setTraysBehind yX8_setTraysBehind cX8_setTraysBehind 7 none 94 [] [] μ1 none μ') : Ev l G D_X8_setTraysBehind yX8_setTraysBehind cX8_setTraysBehind 7 none 5 [(0, .ref a6), (1, .ref a7), (2, .int x8), (3, .int x9), (4, .int x10)] [] μ0 none μ' := by
  induction n generalizing μ0 a6 a7 x8 x9 x10 with
  | zero => cases hf
  | succ n ih0 =>
    have ih : ∀ (μ0 : Mm) (a6 : Nat) (a7 : Nat) (x8 : Int32) (x9 : Int32) (x10 : Int32), f_X8_setTraysBehind_L5 K94 n μ0 a6 a7 x8 x9 x10 = some μ' → Ev l G D_X8_setTraysBehind yX8_setTraysBehind cX8_setTraysBehind 7 none 5 [(0, .ref a6), (1, .ref a7), (2, .int x8), (3, .int x9), (4, .int x10)] [] μ0 none μ' := fun μ0 a6 a7 x8 x9 x10 hf => ih0 μ0 a6 a7 x8 x9 x10 hf
    rw [f_X8_setTraysBehind_L5] at hf
    refine E_iload (pc := 5) dX8_setTraysBehind_5 rfl ?_
    refine E_aload_n (pc := 7) dX8_setTraysBehind_7 rfl ?_
    refine E_getI (pc := 8) dX8_setTraysBehind_8 fl_X8_37 hf (fun v11 hf => ?_)
    refine E_icmp_ge (pc := 11) (tgt := 94) dX8_setTraysBehind_11 (by decide) hf (fun hf => ?_) (fun hf => ?_)
    · refine Ev.sub [] rfl ?_
      exact hK94 _ hf
    · refine E_aload_n (pc := 14) dX8_setTraysBehind_14 rfl ?_
      refine E_getR (pc := 15) dX8_setTraysBehind_15 fl_X8_15 hf (fun v12 hf => ?_)
      refine E_iload_n (pc := 18) dX8_setTraysBehind_18 rfl ?_
      refine E_lald (pc := 19) dX8_setTraysBehind_19 hf (fun v13 hf => ?_)
      refine E_iload (pc := 20) dX8_setTraysBehind_20 rfl ?_
      refine E_lshr (pc := 22) dX8_setTraysBehind_22 ?_
      refine E_lconst (pc := 23) (v := (1 : Int64)) dX8_setTraysBehind_23 (by decide) ?_
      refine E_land (pc := 24) dX8_setTraysBehind_24 ?_
      refine E_lconst (pc := 25) (v := (0 : Int64)) dX8_setTraysBehind_25 (by decide) ?_
      refine E_lcmp (pc := 26) dX8_setTraysBehind_26 ?_
      refine E_if_eq (pc := 27) (tgt := 88) dX8_setTraysBehind_27 (by decide) hf (fun hf => ?_) (fun hf => ?_)
      · refine E_iinc (pc := 88) (ls' := fun x14 => [(4, .int x14), (0, .ref a6), (1, .ref a7), (2, .int x8), (3, .int x9)]) dX8_setTraysBehind_88 rfl (by decide) (fun _ => rfl) hf (fun x14 hf => ?_)
        refine E_goto (pc := 91) (tgt := 5) dX8_setTraysBehind_91 (by decide) ?_
        refine Ev.sub [1, 2, 3, 4, 0] rfl ?_
        exact ih _ _ _ _ _ _ hf
      · refine E_iload_n (pc := 30) dX8_setTraysBehind_30 rfl ?_
        refine E_iconst (pc := 31) (v := (2 : Int32)) dX8_setTraysBehind_31 (by decide) ?_
        refine E_icmp_ne (pc := 32) (tgt := 47) dX8_setTraysBehind_32 (by decide) hf (fun hf => ?_) (fun hf => ?_)
        · refine E_aload_n (pc := 35) dX8_setTraysBehind_35 rfl ?_
          refine E_iload_n (pc := 36) dX8_setTraysBehind_36 rfl ?_
          refine E_iload (pc := 37) dX8_setTraysBehind_37 rfl ?_
          refine E_iconst (pc := 39) (v := (-1 : Int32)) dX8_setTraysBehind_39 (by decide) ?_
          refine E_iconst (pc := 40) (v := (1 : Int32)) dX8_setTraysBehind_40 (by decide) ?_
          refine E_Vv (pc := 41) (d2 := D_X8_addSets) (ci := 8) [.int x8, .int x10, .int (-1 : Int32), .int (1 : Int32)] dX8_setTraysBehind_41 ml_X8_42 mf_X8_addSets im_X8_addSets rfl rfl rfl (by decide) (Nat.le_of_ble_eq_true rfl) (Nat.le_of_ble_eq_true rfl) rfl (fun _ h => f_X8_addSets_ok h) hf (fun μ15 hf => ?_)
          refine E_goto (pc := 44) (tgt := 88) dX8_setTraysBehind_44 (by decide) ?_
          refine E_iinc (pc := 88) (ls' := fun x16 => [(4, .int x16), (0, .ref a6), (1, .ref a7), (2, .int x8), (3, .int x9)]) dX8_setTraysBehind_88 rfl (by decide) (fun _ => rfl) hf (fun x16 hf => ?_)
          refine E_goto (pc := 91) (tgt := 5) dX8_setTraysBehind_91 (by decide) ?_
          refine Ev.sub [1, 2, 3, 4, 0] rfl ?_
          exact ih _ _ _ _ _ _ hf
        · refine E_aload_n (pc := 47) dX8_setTraysBehind_47 rfl ?_
          refine E_getR (pc := 48) dX8_setTraysBehind_48 fl_X8_15 hf (fun v17 hf => ?_)
          refine E_iload_n (pc := 51) dX8_setTraysBehind_51 rfl ?_
          refine E_lald (pc := 52) dX8_setTraysBehind_52 hf (fun v18 hf => ?_)
          refine E_aload_n (pc := 53) dX8_setTraysBehind_53 rfl ?_
          refine E_getR (pc := 54) dX8_setTraysBehind_54 fl_X8_15 hf (fun v19 hf => ?_)
          refine E_iload (pc := 57) dX8_setTraysBehind_57 rfl ?_
          refine E_lald (pc := 59) dX8_setTraysBehind_59 hf (fun v20 hf => ?_)
          refine E_land (pc := 60) dX8_setTraysBehind_60 ?_
          refine E_ldc2 (pc := 61) (v := (2 : Int64)) dX8_setTraysBehind_61 co_X8_50 ?_
          refine E_iload (pc := 64) dX8_setTraysBehind_64 rfl ?_
          refine E_lshl (pc := 66) dX8_setTraysBehind_66 ?_
          refine E_lneg (pc := 67) dX8_setTraysBehind_67 ?_
          refine E_land (pc := 68) dX8_setTraysBehind_68 ?_
          refine E_lstore (pc := 69) (ls' := fun w21 => [(5, .long w21), (0, .ref a6), (1, .ref a7), (2, .int x8), (3, .int x9), (4, .int x10)]) dX8_setTraysBehind_69 (by decide) (fun _ => rfl) hf (fun w21 hf => ?_)
          refine E_aload_n (pc := 71) dX8_setTraysBehind_71 rfl ?_
          refine E_iload_n (pc := 72) dX8_setTraysBehind_72 rfl ?_
          refine E_iload (pc := 73) dX8_setTraysBehind_73 rfl ?_
          refine E_lload (pc := 75) dX8_setTraysBehind_75 rfl ?_
          refine E_Si (pc := 77) (d2 := D_X8_lowestOf) [.long w21] dX8_setTraysBehind_77 ml_X8_52 mf_X8_lowestOf st_X8_lowestOf rfl (by decide) (Nat.le_of_ble_eq_true rfl) (Nat.le_of_ble_eq_true rfl) rfl (fun _ _ h => f_X8_lowestOf_ok h) hf (fun v23 μ22 hf => ?_)
          refine E_lload (pc := 80) dX8_setTraysBehind_80 rfl ?_
          refine E_Si (pc := 82) (d2 := D_J13_bitCount_95d88) [.long w21] dX8_setTraysBehind_82 ml_X8_56 mf_J13_bitCount_95d88 st_J13_bitCount_95d88 rfl (by decide) (Nat.le_of_ble_eq_true rfl) (Nat.le_of_ble_eq_true rfl) rfl (fun _ _ h => f_J13_bitCount_95d88_ok h) hf (fun v25 μ24 hf => ?_)
          refine E_Vv (pc := 85) (d2 := D_X8_addSets) (ci := 8) [.int x8, .int x10, .int v23, .int v25] dX8_setTraysBehind_85 ml_X8_42 mf_X8_addSets im_X8_addSets rfl rfl rfl (by decide) (Nat.le_of_ble_eq_true rfl) (Nat.le_of_ble_eq_true rfl) rfl (fun _ h => f_X8_addSets_ok h) hf (fun μ26 hf => ?_)
          refine E_iinc (pc := 88) (ls' := fun x27 => [(4, .int x27), (5, .long w21), (0, .ref a6), (1, .ref a7), (2, .int x8), (3, .int x9)]) dX8_setTraysBehind_88 rfl (by decide) (fun _ => rfl) hf (fun x27 hf => ?_)
          refine E_goto (pc := 91) (tgt := 5) dX8_setTraysBehind_91 (by decide) ?_
          refine Ev.sub [2, 3, 4, 5, 0] rfl ?_
          exact ih _ _ _ _ _ _ hf
set_option maxRecDepth 100000 in
def f_X8_setTraysBehind (μ0 : Mm) (a1 : Nat) (a2 : Nat) (x3 : Int32) (x4 : Int32) : Option Mm :=
 (nm (x3 + (1 : Int32)) fun x5 =>
    f_X8_setTraysBehind_L5 (fun μ28 =>
    (some μ28)) FU μ0 a1 a2 x3 x4 x5)
set_option maxHeartbeats 4000000 in
set_option maxRecDepth 100000 in
theorem f_X8_setTraysBehind_ok {l : Launch} {G : GG} {μ0 : Mm} {a1 : Nat} {a2 : Nat} {x3 : Int32} {x4 : Int32} {μ' : Mm} (hf : f_X8_setTraysBehind μ0 a1 a2 x3 x4 = some μ') : EvM l G D_X8_setTraysBehind yX8_setTraysBehind cX8_setTraysBehind 7 none [.ref a1, .ref a2, .int x3, .int x4] μ0 none μ' := by
  show Ev l G D_X8_setTraysBehind yX8_setTraysBehind cX8_setTraysBehind 7 none 0 [(0, .ref a1), (1, .ref a2), (2, .int x3), (3, .int x4)] [] μ0 none μ'
  unfold f_X8_setTraysBehind at hf
  refine E_iload_n (pc := 0) dX8_setTraysBehind_0 rfl ?_
  refine E_iconst (pc := 1) (v := (1 : Int32)) dX8_setTraysBehind_1 (by decide) ?_
  refine E_iadd (pc := 2) dX8_setTraysBehind_2 ?_
  refine E_istore (pc := 3) (ls' := fun x5 => [(4, .int x5), (0, .ref a1), (1, .ref a2), (2, .int x3), (3, .int x4)]) dX8_setTraysBehind_3 (by decide) (fun _ => rfl) hf (fun x5 hf => ?_)
  refine Ev.sub [1, 2, 3, 4, 0] rfl ?_
  refine f_X8_setTraysBehind_L5_ok  _ _ _ _ _ _ _ hf (fun μ28 hf => ?_)
  · exact E_vret (pc := 94) dX8_setTraysBehind_94 rfl hf
theorem dX8_setTrays_0 : decode cX8_setTrays 0 = .ok (.aload_n 0, 1) := by decide +kernel
theorem dX8_setTrays_1 : decode cX8_setTrays 1 = .ok (.iconst 0, 1) := by decide +kernel
theorem dX8_setTrays_2 : decode cX8_setTrays 2 = .ok (.putfield 18, 3) := by decide +kernel
theorem dX8_setTrays_5 : decode cX8_setTrays 5 = .ok (.aload_n 0, 1) := by decide +kernel
theorem dX8_setTrays_6 : decode cX8_setTrays 6 = .ok (.aload_n 1, 1) := by decide +kernel
theorem dX8_setTrays_7 : decode cX8_setTrays 7 = .ok (.invokevirtual 33, 3) := by decide +kernel
theorem dX8_setTrays_10 : decode cX8_setTrays 10 = .ok (.iconst 0, 1) := by decide +kernel
theorem dX8_setTrays_11 : decode cX8_setTrays 11 = .ok (.istore_n 3, 1) := by decide +kernel
theorem dX8_setTrays_12 : decode cX8_setTrays 12 = .ok (.iload_n 3, 1) := by decide +kernel
theorem dX8_setTrays_13 : decode cX8_setTrays 13 = .ok (.aload_n 1, 1) := by decide +kernel
theorem dX8_setTrays_14 : decode cX8_setTrays 14 = .ok (.getfield 37, 3) := by decide +kernel
theorem dX8_setTrays_17 : decode cX8_setTrays 17 = .ok (.if_icmp .ge 32, 3) := by decide +kernel
theorem dX8_setTrays_20 : decode cX8_setTrays 20 = .ok (.iload_n 2, 1) := by decide +kernel
theorem dX8_setTrays_21 : decode cX8_setTrays 21 = .ok (.iconst 1, 1) := by decide +kernel
theorem dX8_setTrays_22 : decode cX8_setTrays 22 = .ok (.if_icmp .ne 14, 3) := by decide +kernel
theorem dX8_setTrays_25 : decode cX8_setTrays 25 = .ok (.aload_n 0, 1) := by decide +kernel
theorem dX8_setTrays_26 : decode cX8_setTrays 26 = .ok (.iload_n 3, 1) := by decide +kernel
theorem dX8_setTrays_27 : decode cX8_setTrays 27 = .ok (.iconst (-1), 1) := by decide +kernel
theorem dX8_setTrays_28 : decode cX8_setTrays 28 = .ok (.iconst (-1), 1) := by decide +kernel
theorem dX8_setTrays_29 : decode cX8_setTrays 29 = .ok (.iconst 1, 1) := by decide +kernel
theorem dX8_setTrays_30 : decode cX8_setTrays 30 = .ok (.invokevirtual 42, 3) := by decide +kernel
theorem dX8_setTrays_33 : decode cX8_setTrays 33 = .ok (.goto 10, 3) := by decide +kernel
theorem dX8_setTrays_36 : decode cX8_setTrays 36 = .ok (.aload_n 0, 1) := by decide +kernel
theorem dX8_setTrays_37 : decode cX8_setTrays 37 = .ok (.aload_n 1, 1) := by decide +kernel
theorem dX8_setTrays_38 : decode cX8_setTrays 38 = .ok (.iload_n 3, 1) := by decide +kernel
theorem dX8_setTrays_39 : decode cX8_setTrays 39 = .ok (.iload_n 2, 1) := by decide +kernel
theorem dX8_setTrays_40 : decode cX8_setTrays 40 = .ok (.invokevirtual 46, 3) := by decide +kernel
theorem dX8_setTrays_43 : decode cX8_setTrays 43 = .ok (.iinc 3 1, 3) := by decide +kernel
theorem dX8_setTrays_46 : decode cX8_setTrays 46 = .ok (.goto (-34), 3) := by decide +kernel
theorem dX8_setTrays_49 : decode cX8_setTrays 49 = .ok (.return_, 1) := by decide +kernel
abbrev D_X8_setTrays : Nat := 3
def f_X8_setTrays_L12 (K49 : Mm → Option Mm) : Nat → Mm → Nat → Nat → Int32 → Int32 → Option Mm
  | 0, _, _, _, _, _ => none
  | n + 1, μ0, a7, a8, x9, x10 =>
    ((gI μ0 a8 1 2).bind fun v11 =>
    (if v11 ≤ x10 then
    K49 μ0
    else
    (if x9 = (1 : Int32) then
    ((ob μ0 a7 8).bind fun _ =>
    ((f_X8_addSets μ0 a7 x10 (-1 : Int32) (-1 : Int32) (1 : Int32)).bind fun μ12 =>
    (nm (x10 + Int32.ofInt (1)) fun x13 =>
    f_X8_setTrays_L12 K49 n μ12 a7 a8 x9 x13)))
    else
    ((ob μ0 a7 8).bind fun _ =>
    ((f_X8_setTraysBehind μ0 a7 a8 x10 x9).bind fun μ14 =>
    (nm (x10 + Int32.ofInt (1)) fun x15 =>
    f_X8_setTrays_L12 K49 n μ14 a7 a8 x9 x15))))))
set_option maxHeartbeats 4000000 in
set_option maxRecDepth 100000 in
theorem f_X8_setTrays_L12_ok {l : Launch} {G : GG} {K49 : Mm → Option Mm} {μ' : Mm} (n : Nat) (μ0 : Mm) (a7 : Nat) (a8 : Nat) (x9 : Int32) (x10 : Int32) (hf : f_X8_setTrays_L12 K49 n μ0 a7 a8 x9 x10 = some μ') (hK49 : ∀ (μ1 : Mm), K49 μ1  = some μ' → Ev l G D_X8_setTrays yX8_setTrays cX8_setTrays 4 none 49 [] [] μ1 none μ') : Ev l G D_X8_setTrays yX8_setTrays cX8_setTrays 4 none 12 [(0, .ref a7), (1, .ref a8), (2, .int x9), (3, .int x10)] [] μ0 none μ' := by
  induction n generalizing μ0 a7 a8 x9 x10 with
  | zero => cases hf
  | succ n ih0 =>
    have ih : ∀ (μ0 : Mm) (a7 : Nat) (a8 : Nat) (x9 : Int32) (x10 : Int32), f_X8_setTrays_L12 K49 n μ0 a7 a8 x9 x10 = some μ' → Ev l G D_X8_setTrays yX8_setTrays cX8_setTrays 4 none 12 [(0, .ref a7), (1, .ref a8), (2, .int x9), (3, .int x10)] [] μ0 none μ' := fun μ0 a7 a8 x9 x10 hf => ih0 μ0 a7 a8 x9 x10 hf
    rw [f_X8_setTrays_L12] at hf
    refine E_iload_n (pc := 12) dX8_setTrays_12 rfl ?_
    refine E_aload_n (pc := 13) dX8_setTrays_13 rfl ?_
    refine E_getI (pc := 14) dX8_setTrays_14 fl_X8_37 hf (fun v11 hf => ?_)
    refine E_icmp_ge (pc := 17) (tgt := 49) dX8_setTrays_17 (by decide) hf (fun hf => ?_) (fun hf => ?_)
    · refine Ev.sub [] rfl ?_
      exact hK49 _ hf
    · refine E_iload_n (pc := 20) dX8_setTrays_20 rfl ?_
      refine E_iconst (pc := 21) (v := (1 : Int32)) dX8_setTrays_21 (by decide) ?_
      refine E_icmp_ne (pc := 22) (tgt := 36) dX8_setTrays_22 (by decide) hf (fun hf => ?_) (fun hf => ?_)
      · refine E_aload_n (pc := 25) dX8_setTrays_25 rfl ?_
        refine E_iload_n (pc := 26) dX8_setTrays_26 rfl ?_
        refine E_iconst (pc := 27) (v := (-1 : Int32)) dX8_setTrays_27 (by decide) ?_
        refine E_iconst (pc := 28) (v := (-1 : Int32)) dX8_setTrays_28 (by decide) ?_
        refine E_iconst (pc := 29) (v := (1 : Int32)) dX8_setTrays_29 (by decide) ?_
        refine E_Vv (pc := 30) (d2 := D_X8_addSets) (ci := 8) [.int x10, .int (-1 : Int32), .int (-1 : Int32), .int (1 : Int32)] dX8_setTrays_30 ml_X8_42 mf_X8_addSets im_X8_addSets rfl rfl rfl (by decide) (Nat.le_of_ble_eq_true rfl) (Nat.le_of_ble_eq_true rfl) rfl (fun _ h => f_X8_addSets_ok h) hf (fun μ12 hf => ?_)
        refine E_goto (pc := 33) (tgt := 43) dX8_setTrays_33 (by decide) ?_
        refine E_iinc (pc := 43) (ls' := fun x13 => [(3, .int x13), (0, .ref a7), (1, .ref a8), (2, .int x9)]) dX8_setTrays_43 rfl (by decide) (fun _ => rfl) hf (fun x13 hf => ?_)
        refine E_goto (pc := 46) (tgt := 12) dX8_setTrays_46 (by decide) ?_
        refine Ev.sub [1, 2, 3, 0] rfl ?_
        exact ih _ _ _ _ _ hf
      · refine E_aload_n (pc := 36) dX8_setTrays_36 rfl ?_
        refine E_aload_n (pc := 37) dX8_setTrays_37 rfl ?_
        refine E_iload_n (pc := 38) dX8_setTrays_38 rfl ?_
        refine E_iload_n (pc := 39) dX8_setTrays_39 rfl ?_
        refine E_Vv (pc := 40) (d2 := D_X8_setTraysBehind) (ci := 8) [.ref a8, .int x10, .int x9] dX8_setTrays_40 ml_X8_46 mf_X8_setTraysBehind im_X8_setTraysBehind rfl rfl rfl (by decide) (Nat.le_of_ble_eq_true rfl) (Nat.le_of_ble_eq_true rfl) rfl (fun _ h => f_X8_setTraysBehind_ok h) hf (fun μ14 hf => ?_)
        refine E_iinc (pc := 43) (ls' := fun x15 => [(3, .int x15), (0, .ref a7), (1, .ref a8), (2, .int x9)]) dX8_setTrays_43 rfl (by decide) (fun _ => rfl) hf (fun x15 hf => ?_)
        refine E_goto (pc := 46) (tgt := 12) dX8_setTrays_46 (by decide) ?_
        refine Ev.sub [1, 2, 3, 0] rfl ?_
        exact ih _ _ _ _ _ hf
set_option maxRecDepth 100000 in
def f_X8_setTrays (μ0 : Mm) (a1 : Nat) (a2 : Nat) (x3 : Int32) : Option Mm :=
 ((pV μ0 a1 8 2 (.int (0 : Int32))).bind fun μ4 =>
    ((ob μ4 a1 8).bind fun _ =>
    ((f_X8_findApart μ4 a1 a2).bind fun μ5 =>
    (nm (0 : Int32) fun x6 =>
    f_X8_setTrays_L12 (fun μ16 =>
    (some μ16)) FU μ5 a1 a2 x3 x6))))
set_option maxHeartbeats 4000000 in
set_option maxRecDepth 100000 in
theorem f_X8_setTrays_ok {l : Launch} {G : GG} {μ0 : Mm} {a1 : Nat} {a2 : Nat} {x3 : Int32} {μ' : Mm} (hf : f_X8_setTrays μ0 a1 a2 x3 = some μ') : EvM l G D_X8_setTrays yX8_setTrays cX8_setTrays 4 none [.ref a1, .ref a2, .int x3] μ0 none μ' := by
  show Ev l G D_X8_setTrays yX8_setTrays cX8_setTrays 4 none 0 [(0, .ref a1), (1, .ref a2), (2, .int x3)] [] μ0 none μ'
  unfold f_X8_setTrays at hf
  refine E_aload_n (pc := 0) dX8_setTrays_0 rfl ?_
  refine E_iconst (pc := 1) (v := (0 : Int32)) dX8_setTrays_1 (by decide) ?_
  refine E_putI (pc := 2) dX8_setTrays_2 (pl_X8_18 _) hf (fun μ4 hf => ?_)
  refine E_aload_n (pc := 5) dX8_setTrays_5 rfl ?_
  refine E_aload_n (pc := 6) dX8_setTrays_6 rfl ?_
  refine E_Vv (pc := 7) (d2 := D_X8_findApart) (ci := 8) [.ref a2] dX8_setTrays_7 ml_X8_33 mf_X8_findApart im_X8_findApart rfl rfl rfl (by decide) (Nat.le_of_ble_eq_true rfl) (Nat.le_of_ble_eq_true rfl) rfl (fun _ h => f_X8_findApart_ok h) hf (fun μ5 hf => ?_)
  refine E_iconst (pc := 10) (v := (0 : Int32)) dX8_setTrays_10 (by decide) ?_
  refine E_istore_n (pc := 11) (ls' := fun x6 => [(3, .int x6), (0, .ref a1), (1, .ref a2), (2, .int x3)]) dX8_setTrays_11 (by decide) (fun _ => rfl) hf (fun x6 hf => ?_)
  refine Ev.sub [1, 2, 3, 0] rfl ?_
  refine f_X8_setTrays_L12_ok  _ _ _ _ _ _ hf (fun μ16 hf => ?_)
  · exact E_vret (pc := 49) dX8_setTrays_49 rfl hf
theorem dX8_sideToLoser_0 : decode cX8_sideToLoser 0 = .ok (.iconst 0, 1) := by decide +kernel
theorem dX8_sideToLoser_1 : decode cX8_sideToLoser 1 = .ok (.istore_n 3, 1) := by decide +kernel
theorem dX8_sideToLoser_2 : decode cX8_sideToLoser 2 = .ok (.iload_n 3, 1) := by decide +kernel
theorem dX8_sideToLoser_3 : decode cX8_sideToLoser 3 = .ok (.iconst 4, 1) := by decide +kernel
theorem dX8_sideToLoser_4 : decode cX8_sideToLoser 4 = .ok (.if_icmp .ge 35, 3) := by decide +kernel
theorem dX8_sideToLoser_7 : decode cX8_sideToLoser 7 = .ok (.aload_n 1, 1) := by decide +kernel
theorem dX8_sideToLoser_8 : decode cX8_sideToLoser 8 = .ok (.iload_n 2, 1) := by decide +kernel
theorem dX8_sideToLoser_9 : decode cX8_sideToLoser 9 = .ok (.iload_n 3, 1) := by decide +kernel
theorem dX8_sideToLoser_10 : decode cX8_sideToLoser 10 = .ok (.invokevirtual 75, 3) := by decide +kernel
theorem dX8_sideToLoser_13 : decode cX8_sideToLoser 13 = .ok (.istore 4, 2) := by decide +kernel
theorem dX8_sideToLoser_15 : decode cX8_sideToLoser 15 = .ok (.iload 4, 2) := by decide +kernel
theorem dX8_sideToLoser_17 : decode cX8_sideToLoser 17 = .ok (.iconst (-1), 1) := by decide +kernel
theorem dX8_sideToLoser_18 : decode cX8_sideToLoser 18 = .ok (.if_icmp .eq 15, 3) := by decide +kernel
theorem dX8_sideToLoser_21 : decode cX8_sideToLoser 21 = .ok (.aload_n 0, 1) := by decide +kernel
theorem dX8_sideToLoser_22 : decode cX8_sideToLoser 22 = .ok (.getfield 26, 3) := by decide +kernel
theorem dX8_sideToLoser_25 : decode cX8_sideToLoser 25 = .ok (.iload 4, 2) := by decide +kernel
theorem dX8_sideToLoser_27 : decode cX8_sideToLoser 27 = .ok (.baload, 1) := by decide +kernel
theorem dX8_sideToLoser_28 : decode cX8_sideToLoser 28 = .ok (.ifCond .ne 5, 3) := by decide +kernel
theorem dX8_sideToLoser_31 : decode cX8_sideToLoser 31 = .ok (.iload_n 3, 1) := by decide +kernel
theorem dX8_sideToLoser_32 : decode cX8_sideToLoser 32 = .ok (.ireturn, 1) := by decide +kernel
theorem dX8_sideToLoser_33 : decode cX8_sideToLoser 33 = .ok (.iinc 3 1, 3) := by decide +kernel
theorem dX8_sideToLoser_36 : decode cX8_sideToLoser 36 = .ok (.goto (-34), 3) := by decide +kernel
theorem dX8_sideToLoser_39 : decode cX8_sideToLoser 39 = .ok (.iconst (-1), 1) := by decide +kernel
theorem dX8_sideToLoser_40 : decode cX8_sideToLoser 40 = .ok (.ireturn, 1) := by decide +kernel
abbrev D_X8_sideToLoser : Nat := 3
def f_X8_sideToLoser_L2 (K31 : Mm → Int32 → Option (Int32 × Mm)) (K39 : Mm → Option (Int32 × Mm)) : Nat → Mm → Nat → Nat → Int32 → Int32 → Option (Int32 × Mm)
  | 0, _, _, _, _, _ => none
  | n + 1, μ0, a5, a6, x7, x8 =>
    (if (4 : Int32) ≤ x8 then
    K39 μ0
    else
    ((ob μ0 a6 1).bind fun _ =>
    (bd (f_X1_lowerBeside μ0 a6 x7 x8) fun v10 μ9 =>
    (nm v10 fun x11 =>
    (if x11 = (-1 : Int32) then
    (nm (x8 + Int32.ofInt (1)) fun x12 =>
    f_X8_sideToLoser_L2 K31 K39 n μ9 a5 a6 x7 x12)
    else
    ((gR μ9 a5 8 4).bind fun v13 =>
    ((aI μ9 v13 2 x11).bind fun v14 =>
    (if v14 = 0 then
    K31 μ9 x8
    else
    (nm (x8 + Int32.ofInt (1)) fun x15 =>
    f_X8_sideToLoser_L2 K31 K39 n μ9 a5 a6 x7 x15)))))))))
set_option maxHeartbeats 4000000 in
set_option maxRecDepth 100000 in
theorem f_X8_sideToLoser_L2_ok {l : Launch} {G : GG} {K31 : Mm → Int32 → Option (Int32 × Mm)} {K39 : Mm → Option (Int32 × Mm)} {r : Int32} {μ' : Mm} (n : Nat) (μ0 : Mm) (a5 : Nat) (a6 : Nat) (x7 : Int32) (x8 : Int32) (hf : f_X8_sideToLoser_L2 K31 K39 n μ0 a5 a6 x7 x8 = some (r, μ')) (hK31 : ∀ (μ1 : Mm) (y3 : Int32), K31 μ1 y3 = some (r, μ') → Ev l G D_X8_sideToLoser yX8_sideToLoser cX8_sideToLoser 5 (some .int) 31 [(3, .int y3)] [] μ1 (some (.int r)) μ') (hK39 : ∀ (μ1 : Mm), K39 μ1  = some (r, μ') → Ev l G D_X8_sideToLoser yX8_sideToLoser cX8_sideToLoser 5 (some .int) 39 [] [] μ1 (some (.int r)) μ') : Ev l G D_X8_sideToLoser yX8_sideToLoser cX8_sideToLoser 5 (some .int) 2 [(0, .ref a5), (1, .ref a6), (2, .int x7), (3, .int x8)] [] μ0 (some (.int r)) μ' := by
  induction n generalizing μ0 a5 a6 x7 x8 with
  | zero => cases hf
  | succ n ih0 =>
    have ih : ∀ (μ0 : Mm) (a5 : Nat) (a6 : Nat) (x7 : Int32) (x8 : Int32), f_X8_sideToLoser_L2 K31 K39 n μ0 a5 a6 x7 x8 = some (r, μ') → Ev l G D_X8_sideToLoser yX8_sideToLoser cX8_sideToLoser 5 (some .int) 2 [(0, .ref a5), (1, .ref a6), (2, .int x7), (3, .int x8)] [] μ0 (some (.int r)) μ' := fun μ0 a5 a6 x7 x8 hf => ih0 μ0 a5 a6 x7 x8 hf
    rw [f_X8_sideToLoser_L2] at hf
    refine E_iload_n (pc := 2) dX8_sideToLoser_2 rfl ?_
    refine E_iconst (pc := 3) (v := (4 : Int32)) dX8_sideToLoser_3 (by decide) ?_
    refine E_icmp_ge (pc := 4) (tgt := 39) dX8_sideToLoser_4 (by decide) hf (fun hf => ?_) (fun hf => ?_)
    · refine Ev.sub [] rfl ?_
      exact hK39 _ hf
    · refine E_aload_n (pc := 7) dX8_sideToLoser_7 rfl ?_
      refine E_iload_n (pc := 8) dX8_sideToLoser_8 rfl ?_
      refine E_iload_n (pc := 9) dX8_sideToLoser_9 rfl ?_
      refine E_Vi (pc := 10) (d2 := D_X1_lowerBeside) (ci := 1) [.int x7, .int x8] dX8_sideToLoser_10 ml_X8_75 mf_X1_lowerBeside im_X1_lowerBeside rfl rfl rfl (by decide) (Nat.le_of_ble_eq_true rfl) (Nat.le_of_ble_eq_true rfl) rfl (fun _ _ h => f_X1_lowerBeside_ok h) hf (fun v10 μ9 hf => ?_)
      refine E_istore (pc := 13) (ls' := fun x11 => [(4, .int x11), (0, .ref a5), (1, .ref a6), (2, .int x7), (3, .int x8)]) dX8_sideToLoser_13 (by decide) (fun _ => rfl) hf (fun x11 hf => ?_)
      refine E_iload (pc := 15) dX8_sideToLoser_15 rfl ?_
      refine E_iconst (pc := 17) (v := (-1 : Int32)) dX8_sideToLoser_17 (by decide) ?_
      refine E_icmp_eq (pc := 18) (tgt := 33) dX8_sideToLoser_18 (by decide) hf (fun hf => ?_) (fun hf => ?_)
      · refine E_iinc (pc := 33) (ls' := fun x12 => [(3, .int x12), (4, .int x11), (0, .ref a5), (1, .ref a6), (2, .int x7)]) dX8_sideToLoser_33 rfl (by decide) (fun _ => rfl) hf (fun x12 hf => ?_)
        refine E_goto (pc := 36) (tgt := 2) dX8_sideToLoser_36 (by decide) ?_
        refine Ev.sub [2, 3, 4, 0] rfl ?_
        exact ih _ _ _ _ _ hf
      · refine E_aload_n (pc := 21) dX8_sideToLoser_21 rfl ?_
        refine E_getR (pc := 22) dX8_sideToLoser_22 fl_X8_26 hf (fun v13 hf => ?_)
        refine E_iload (pc := 25) dX8_sideToLoser_25 rfl ?_
        refine E_zald (pc := 27) dX8_sideToLoser_27 hf (fun v14 hf => ?_)
        refine E_if_ne (pc := 28) (tgt := 33) dX8_sideToLoser_28 (by decide) hf (fun hf => ?_) (fun hf => ?_)
        · refine Ev.sub [4] rfl ?_
          exact hK31 _ _ hf
        · refine E_iinc (pc := 33) (ls' := fun x15 => [(3, .int x15), (4, .int x11), (0, .ref a5), (1, .ref a6), (2, .int x7)]) dX8_sideToLoser_33 rfl (by decide) (fun _ => rfl) hf (fun x15 hf => ?_)
          refine E_goto (pc := 36) (tgt := 2) dX8_sideToLoser_36 (by decide) ?_
          refine Ev.sub [2, 3, 4, 0] rfl ?_
          exact ih _ _ _ _ _ hf
set_option maxRecDepth 100000 in
def f_X8_sideToLoser (μ0 : Mm) (a1 : Nat) (a2 : Nat) (x3 : Int32) : Option (Int32 × Mm) :=
 (nm (0 : Int32) fun x4 =>
    f_X8_sideToLoser_L2 (fun μ16 x17 =>
    (some (x17, μ16))) (fun μ18 =>
    (some ((-1 : Int32), μ18))) FU μ0 a1 a2 x3 x4)
set_option maxHeartbeats 4000000 in
set_option maxRecDepth 100000 in
theorem f_X8_sideToLoser_ok {l : Launch} {G : GG} {μ0 : Mm} {a1 : Nat} {a2 : Nat} {x3 : Int32} {r : Int32} {μ' : Mm} (hf : f_X8_sideToLoser μ0 a1 a2 x3 = some (r, μ')) : EvM l G D_X8_sideToLoser yX8_sideToLoser cX8_sideToLoser 5 (some .int) [.ref a1, .ref a2, .int x3] μ0 (some (.int r)) μ' := by
  show Ev l G D_X8_sideToLoser yX8_sideToLoser cX8_sideToLoser 5 (some .int) 0 [(0, .ref a1), (1, .ref a2), (2, .int x3)] [] μ0 (some (.int r)) μ'
  unfold f_X8_sideToLoser at hf
  refine E_iconst (pc := 0) (v := (0 : Int32)) dX8_sideToLoser_0 (by decide) ?_
  refine E_istore_n (pc := 1) (ls' := fun x4 => [(3, .int x4), (0, .ref a1), (1, .ref a2), (2, .int x3)]) dX8_sideToLoser_1 (by decide) (fun _ => rfl) hf (fun x4 hf => ?_)
  refine Ev.sub [1, 2, 3, 0] rfl ?_
  refine f_X8_sideToLoser_L2_ok  _ _ _ _ _ _ hf (fun μ16 x17 hf => ?_) (fun μ18 hf => ?_)
  · refine E_iload_n (pc := 31) dX8_sideToLoser_31 rfl ?_
    exact E_iret (pc := 32) dX8_sideToLoser_32 rfl hf
  · refine E_iconst (pc := 39) (v := (-1 : Int32)) dX8_sideToLoser_39 (by decide) ?_
    exact E_iret (pc := 40) dX8_sideToLoser_40 rfl hf
theorem dX8_winningSide_0 : decode cX8_winningSide 0 = .ok (.iconst 0, 1) := by decide +kernel
theorem dX8_winningSide_1 : decode cX8_winningSide 1 = .ok (.istore_n 3, 1) := by decide +kernel
theorem dX8_winningSide_2 : decode cX8_winningSide 2 = .ok (.iload_n 3, 1) := by decide +kernel
theorem dX8_winningSide_3 : decode cX8_winningSide 3 = .ok (.aload_n 1, 1) := by decide +kernel
theorem dX8_winningSide_4 : decode cX8_winningSide 4 = .ok (.getfield 68, 3) := by decide +kernel
theorem dX8_winningSide_7 : decode cX8_winningSide 7 = .ok (.iload_n 2, 1) := by decide +kernel
theorem dX8_winningSide_8 : decode cX8_winningSide 8 = .ok (.iaload, 1) := by decide +kernel
theorem dX8_winningSide_9 : decode cX8_winningSide 9 = .ok (.if_icmp .ge 61, 3) := by decide +kernel
theorem dX8_winningSide_12 : decode cX8_winningSide 12 = .ok (.iconst 0, 1) := by decide +kernel
theorem dX8_winningSide_13 : decode cX8_winningSide 13 = .ok (.istore 4, 2) := by decide +kernel
theorem dX8_winningSide_15 : decode cX8_winningSide 15 = .ok (.iload 4, 2) := by decide +kernel
theorem dX8_winningSide_17 : decode cX8_winningSide 17 = .ok (.aload_n 1, 1) := by decide +kernel
theorem dX8_winningSide_18 : decode cX8_winningSide 18 = .ok (.getfield 37, 3) := by decide +kernel
theorem dX8_winningSide_21 : decode cX8_winningSide 21 = .ok (.if_icmp .ge 43, 3) := by decide +kernel
theorem dX8_winningSide_24 : decode cX8_winningSide 24 = .ok (.aload_n 1, 1) := by decide +kernel
theorem dX8_winningSide_25 : decode cX8_winningSide 25 = .ok (.getfield 68, 3) := by decide +kernel
theorem dX8_winningSide_28 : decode cX8_winningSide 28 = .ok (.iload 4, 2) := by decide +kernel
theorem dX8_winningSide_30 : decode cX8_winningSide 30 = .ok (.iaload, 1) := by decide +kernel
theorem dX8_winningSide_31 : decode cX8_winningSide 31 = .ok (.iload_n 3, 1) := by decide +kernel
theorem dX8_winningSide_32 : decode cX8_winningSide 32 = .ok (.if_icmp .ne 26, 3) := by decide +kernel
theorem dX8_winningSide_35 : decode cX8_winningSide 35 = .ok (.aload_n 0, 1) := by decide +kernel
theorem dX8_winningSide_36 : decode cX8_winningSide 36 = .ok (.getfield 26, 3) := by decide +kernel
theorem dX8_winningSide_39 : decode cX8_winningSide 39 = .ok (.iload 4, 2) := by decide +kernel
theorem dX8_winningSide_41 : decode cX8_winningSide 41 = .ok (.aload_n 0, 1) := by decide +kernel
theorem dX8_winningSide_42 : decode cX8_winningSide 42 = .ok (.aload_n 1, 1) := by decide +kernel
theorem dX8_winningSide_43 : decode cX8_winningSide 43 = .ok (.iload 4, 2) := by decide +kernel
theorem dX8_winningSide_45 : decode cX8_winningSide 45 = .ok (.invokevirtual 71, 3) := by decide +kernel
theorem dX8_winningSide_48 : decode cX8_winningSide 48 = .ok (.iconst (-1), 1) := by decide +kernel
theorem dX8_winningSide_49 : decode cX8_winningSide 49 = .ok (.if_icmp .eq 7, 3) := by decide +kernel
theorem dX8_winningSide_52 : decode cX8_winningSide 52 = .ok (.iconst 1, 1) := by decide +kernel
theorem dX8_winningSide_53 : decode cX8_winningSide 53 = .ok (.goto 4, 3) := by decide +kernel
theorem dX8_winningSide_56 : decode cX8_winningSide 56 = .ok (.iconst 0, 1) := by decide +kernel
theorem dX8_winningSide_57 : decode cX8_winningSide 57 = .ok (.bastore, 1) := by decide +kernel
theorem dX8_winningSide_58 : decode cX8_winningSide 58 = .ok (.iinc 4 1, 3) := by decide +kernel
theorem dX8_winningSide_61 : decode cX8_winningSide 61 = .ok (.goto (-46), 3) := by decide +kernel
theorem dX8_winningSide_64 : decode cX8_winningSide 64 = .ok (.iinc 3 1, 3) := by decide +kernel
theorem dX8_winningSide_67 : decode cX8_winningSide 67 = .ok (.goto (-65), 3) := by decide +kernel
theorem dX8_winningSide_70 : decode cX8_winningSide 70 = .ok (.aload_n 0, 1) := by decide +kernel
theorem dX8_winningSide_71 : decode cX8_winningSide 71 = .ok (.aload_n 1, 1) := by decide +kernel
theorem dX8_winningSide_72 : decode cX8_winningSide 72 = .ok (.iload_n 2, 1) := by decide +kernel
theorem dX8_winningSide_73 : decode cX8_winningSide 73 = .ok (.invokevirtual 71, 3) := by decide +kernel
theorem dX8_winningSide_76 : decode cX8_winningSide 76 = .ok (.ireturn, 1) := by decide +kernel
abbrev D_X8_winningSide : Nat := 4
def f_X8_winningSide_L15 (K64 : Mm → Nat → Nat → Int32 → Int32 → Option (Int32 × Mm)) : Nat → Mm → Nat → Nat → Int32 → Int32 → Int32 → Option (Int32 × Mm)
  | 0, _, _, _, _, _, _ => none
  | n + 1, μ0, a12, a13, x14, x15, x16 =>
    ((gI μ0 a13 1 2).bind fun v17 =>
    (if v17 ≤ x16 then
    K64 μ0 a12 a13 x14 x15
    else
    ((gR μ0 a13 1 3).bind fun v18 =>
    ((aI μ0 v18 0 x16).bind fun v19 =>
    (if v19 = x15 then
    ((gR μ0 a12 8 4).bind fun v20 =>
    ((ob μ0 a12 8).bind fun _ =>
    (bd (f_X8_sideToLoser μ0 a12 a13 x16) fun v22 μ21 =>
    (if v22 = (-1 : Int32) then
    ((sI μ21 v20 2 x16 (0 : Int32)).bind fun μ23 =>
    (nm (x16 + Int32.ofInt (1)) fun x24 =>
    f_X8_winningSide_L15 K64 n μ23 a12 a13 x14 x15 x24))
    else
    ((sI μ21 v20 2 x16 (1 : Int32)).bind fun μ25 =>
    (nm (x16 + Int32.ofInt (1)) fun x26 =>
    f_X8_winningSide_L15 K64 n μ25 a12 a13 x14 x15 x26))))))
    else
    (nm (x16 + Int32.ofInt (1)) fun x27 =>
    f_X8_winningSide_L15 K64 n μ0 a12 a13 x14 x15 x27))))))
set_option maxHeartbeats 4000000 in
set_option maxRecDepth 100000 in
theorem f_X8_winningSide_L15_ok {l : Launch} {G : GG} {K64 : Mm → Nat → Nat → Int32 → Int32 → Option (Int32 × Mm)} {r : Int32} {μ' : Mm} (n : Nat) (μ0 : Mm) (a12 : Nat) (a13 : Nat) (x14 : Int32) (x15 : Int32) (x16 : Int32) (hf : f_X8_winningSide_L15 K64 n μ0 a12 a13 x14 x15 x16 = some (r, μ')) (hK64 : ∀ (μ1 : Mm) (y0 : Nat) (y1 : Nat) (y2 : Int32) (y3 : Int32), K64 μ1 y0 y1 y2 y3 = some (r, μ') → Ev l G D_X8_winningSide yX8_winningSide cX8_winningSide 5 (some .int) 64 [(0, .ref y0), (1, .ref y1), (2, .int y2), (3, .int y3)] [] μ1 (some (.int r)) μ') : Ev l G D_X8_winningSide yX8_winningSide cX8_winningSide 5 (some .int) 15 [(0, .ref a12), (1, .ref a13), (2, .int x14), (3, .int x15), (4, .int x16)] [] μ0 (some (.int r)) μ' := by
  induction n generalizing μ0 a12 a13 x14 x15 x16 with
  | zero => cases hf
  | succ n ih0 =>
    have ih : ∀ (μ0 : Mm) (a12 : Nat) (a13 : Nat) (x14 : Int32) (x15 : Int32) (x16 : Int32), f_X8_winningSide_L15 K64 n μ0 a12 a13 x14 x15 x16 = some (r, μ') → Ev l G D_X8_winningSide yX8_winningSide cX8_winningSide 5 (some .int) 15 [(0, .ref a12), (1, .ref a13), (2, .int x14), (3, .int x15), (4, .int x16)] [] μ0 (some (.int r)) μ' := fun μ0 a12 a13 x14 x15 x16 hf => ih0 μ0 a12 a13 x14 x15 x16 hf
    rw [f_X8_winningSide_L15] at hf
    refine E_iload (pc := 15) dX8_winningSide_15 rfl ?_
    refine E_aload_n (pc := 17) dX8_winningSide_17 rfl ?_
    refine E_getI (pc := 18) dX8_winningSide_18 fl_X8_37 hf (fun v17 hf => ?_)
    refine E_icmp_ge (pc := 21) (tgt := 64) dX8_winningSide_21 (by decide) hf (fun hf => ?_) (fun hf => ?_)
    · refine Ev.sub [0, 1, 2, 3] rfl ?_
      exact hK64 _ _ _ _ _ hf
    · refine E_aload_n (pc := 24) dX8_winningSide_24 rfl ?_
      refine E_getR (pc := 25) dX8_winningSide_25 fl_X8_68 hf (fun v18 hf => ?_)
      refine E_iload (pc := 28) dX8_winningSide_28 rfl ?_
      refine E_iald (pc := 30) dX8_winningSide_30 hf (fun v19 hf => ?_)
      refine E_iload_n (pc := 31) dX8_winningSide_31 rfl ?_
      refine E_icmp_ne (pc := 32) (tgt := 58) dX8_winningSide_32 (by decide) hf (fun hf => ?_) (fun hf => ?_)
      · refine E_aload_n (pc := 35) dX8_winningSide_35 rfl ?_
        refine E_getR (pc := 36) dX8_winningSide_36 fl_X8_26 hf (fun v20 hf => ?_)
        refine E_iload (pc := 39) dX8_winningSide_39 rfl ?_
        refine E_aload_n (pc := 41) dX8_winningSide_41 rfl ?_
        refine E_aload_n (pc := 42) dX8_winningSide_42 rfl ?_
        refine E_iload (pc := 43) dX8_winningSide_43 rfl ?_
        refine E_Vi (pc := 45) (d2 := D_X8_sideToLoser) (ci := 8) [.ref a13, .int x16] dX8_winningSide_45 ml_X8_71 mf_X8_sideToLoser im_X8_sideToLoser rfl rfl rfl (by decide) (Nat.le_of_ble_eq_true rfl) (Nat.le_of_ble_eq_true rfl) rfl (fun _ _ h => f_X8_sideToLoser_ok h) hf (fun v22 μ21 hf => ?_)
        refine E_iconst (pc := 48) (v := (-1 : Int32)) dX8_winningSide_48 (by decide) ?_
        refine E_icmp_eq (pc := 49) (tgt := 56) dX8_winningSide_49 (by decide) hf (fun hf => ?_) (fun hf => ?_)
        · refine E_iconst (pc := 56) (v := (0 : Int32)) dX8_winningSide_56 (by decide) ?_
          refine E_zast (pc := 57) dX8_winningSide_57 hf (fun μ23 hf => ?_)
          refine E_iinc (pc := 58) (ls' := fun x24 => [(4, .int x24), (0, .ref a12), (1, .ref a13), (2, .int x14), (3, .int x15)]) dX8_winningSide_58 rfl (by decide) (fun _ => rfl) hf (fun x24 hf => ?_)
          refine E_goto (pc := 61) (tgt := 15) dX8_winningSide_61 (by decide) ?_
          refine Ev.sub [1, 2, 3, 4, 0] rfl ?_
          exact ih _ _ _ _ _ _ hf
        · refine E_iconst (pc := 52) (v := (1 : Int32)) dX8_winningSide_52 (by decide) ?_
          refine E_goto (pc := 53) (tgt := 57) dX8_winningSide_53 (by decide) ?_
          refine E_zast (pc := 57) dX8_winningSide_57 hf (fun μ25 hf => ?_)
          refine E_iinc (pc := 58) (ls' := fun x26 => [(4, .int x26), (0, .ref a12), (1, .ref a13), (2, .int x14), (3, .int x15)]) dX8_winningSide_58 rfl (by decide) (fun _ => rfl) hf (fun x26 hf => ?_)
          refine E_goto (pc := 61) (tgt := 15) dX8_winningSide_61 (by decide) ?_
          refine Ev.sub [1, 2, 3, 4, 0] rfl ?_
          exact ih _ _ _ _ _ _ hf
      · refine E_iinc (pc := 58) (ls' := fun x27 => [(4, .int x27), (0, .ref a12), (1, .ref a13), (2, .int x14), (3, .int x15)]) dX8_winningSide_58 rfl (by decide) (fun _ => rfl) hf (fun x27 hf => ?_)
        refine E_goto (pc := 61) (tgt := 15) dX8_winningSide_61 (by decide) ?_
        refine Ev.sub [1, 2, 3, 4, 0] rfl ?_
        exact ih _ _ _ _ _ _ hf
def f_X8_winningSide_L2 (K70 : Mm → Nat → Nat → Int32 → Option (Int32 × Mm)) : Nat → Mm → Nat → Nat → Int32 → Int32 → Option (Int32 × Mm)
  | 0, _, _, _, _, _ => none
  | n + 1, μ0, a5, a6, x7, x8 =>
    ((gR μ0 a6 1 3).bind fun v9 =>
    ((aI μ0 v9 0 x7).bind fun v10 =>
    (if v10 ≤ x8 then
    K70 μ0 a5 a6 x7
    else
    (nm (0 : Int32) fun x11 =>
    f_X8_winningSide_L15 (fun μ28 a29 a30 x31 x32 =>
    (nm (x32 + Int32.ofInt (1)) fun x33 =>
    f_X8_winningSide_L2 K70 n μ28 a29 a30 x31 x33)) FU μ0 a5 a6 x7 x8 x11))))
set_option maxHeartbeats 4000000 in
set_option maxRecDepth 100000 in
theorem f_X8_winningSide_L2_ok {l : Launch} {G : GG} {K70 : Mm → Nat → Nat → Int32 → Option (Int32 × Mm)} {r : Int32} {μ' : Mm} (n : Nat) (μ0 : Mm) (a5 : Nat) (a6 : Nat) (x7 : Int32) (x8 : Int32) (hf : f_X8_winningSide_L2 K70 n μ0 a5 a6 x7 x8 = some (r, μ')) (hK70 : ∀ (μ1 : Mm) (y0 : Nat) (y1 : Nat) (y2 : Int32), K70 μ1 y0 y1 y2 = some (r, μ') → Ev l G D_X8_winningSide yX8_winningSide cX8_winningSide 5 (some .int) 70 [(0, .ref y0), (1, .ref y1), (2, .int y2)] [] μ1 (some (.int r)) μ') : Ev l G D_X8_winningSide yX8_winningSide cX8_winningSide 5 (some .int) 2 [(0, .ref a5), (1, .ref a6), (2, .int x7), (3, .int x8)] [] μ0 (some (.int r)) μ' := by
  induction n generalizing μ0 a5 a6 x7 x8 with
  | zero => cases hf
  | succ n ih0 =>
    have ih : ∀ (μ0 : Mm) (a5 : Nat) (a6 : Nat) (x7 : Int32) (x8 : Int32), f_X8_winningSide_L2 K70 n μ0 a5 a6 x7 x8 = some (r, μ') → Ev l G D_X8_winningSide yX8_winningSide cX8_winningSide 5 (some .int) 2 [(0, .ref a5), (1, .ref a6), (2, .int x7), (3, .int x8)] [] μ0 (some (.int r)) μ' := fun μ0 a5 a6 x7 x8 hf => ih0 μ0 a5 a6 x7 x8 hf
    rw [f_X8_winningSide_L2] at hf
    refine E_iload_n (pc := 2) dX8_winningSide_2 rfl ?_
    refine E_aload_n (pc := 3) dX8_winningSide_3 rfl ?_
    refine E_getR (pc := 4) dX8_winningSide_4 fl_X8_68 hf (fun v9 hf => ?_)
    refine E_iload_n (pc := 7) dX8_winningSide_7 rfl ?_
    refine E_iald (pc := 8) dX8_winningSide_8 hf (fun v10 hf => ?_)
    refine E_icmp_ge (pc := 9) (tgt := 70) dX8_winningSide_9 (by decide) hf (fun hf => ?_) (fun hf => ?_)
    · refine Ev.sub [0, 1, 2] rfl ?_
      exact hK70 _ _ _ _ hf
    · refine E_iconst (pc := 12) (v := (0 : Int32)) dX8_winningSide_12 (by decide) ?_
      refine E_istore (pc := 13) (ls' := fun x11 => [(4, .int x11), (0, .ref a5), (1, .ref a6), (2, .int x7), (3, .int x8)]) dX8_winningSide_13 (by decide) (fun _ => rfl) hf (fun x11 hf => ?_)
      refine Ev.sub [1, 2, 3, 4, 0] rfl ?_
      refine f_X8_winningSide_L15_ok  _ _ _ _ _ _ _ hf (fun μ28 a29 a30 x31 x32 hf => ?_)
      · refine E_iinc (pc := 64) (ls' := fun x33 => [(3, .int x33), (0, .ref a29), (1, .ref a30), (2, .int x31)]) dX8_winningSide_64 rfl (by decide) (fun _ => rfl) hf (fun x33 hf => ?_)
        refine E_goto (pc := 67) (tgt := 2) dX8_winningSide_67 (by decide) ?_
        refine Ev.sub [1, 2, 3, 0] rfl ?_
        exact ih _ _ _ _ _ hf
set_option maxRecDepth 100000 in
def f_X8_winningSide (μ0 : Mm) (a1 : Nat) (a2 : Nat) (x3 : Int32) : Option (Int32 × Mm) :=
 (nm (0 : Int32) fun x4 =>
    f_X8_winningSide_L2 (fun μ34 a35 a36 x37 =>
    ((ob μ34 a35 8).bind fun _ =>
    (bd (f_X8_sideToLoser μ34 a35 a36 x37) fun v39 μ38 =>
    (some (v39, μ38))))) FU μ0 a1 a2 x3 x4)
set_option maxHeartbeats 4000000 in
set_option maxRecDepth 100000 in
theorem f_X8_winningSide_ok {l : Launch} {G : GG} {μ0 : Mm} {a1 : Nat} {a2 : Nat} {x3 : Int32} {r : Int32} {μ' : Mm} (hf : f_X8_winningSide μ0 a1 a2 x3 = some (r, μ')) : EvM l G D_X8_winningSide yX8_winningSide cX8_winningSide 5 (some .int) [.ref a1, .ref a2, .int x3] μ0 (some (.int r)) μ' := by
  show Ev l G D_X8_winningSide yX8_winningSide cX8_winningSide 5 (some .int) 0 [(0, .ref a1), (1, .ref a2), (2, .int x3)] [] μ0 (some (.int r)) μ'
  unfold f_X8_winningSide at hf
  refine E_iconst (pc := 0) (v := (0 : Int32)) dX8_winningSide_0 (by decide) ?_
  refine E_istore_n (pc := 1) (ls' := fun x4 => [(3, .int x4), (0, .ref a1), (1, .ref a2), (2, .int x3)]) dX8_winningSide_1 (by decide) (fun _ => rfl) hf (fun x4 hf => ?_)
  refine Ev.sub [1, 2, 3, 0] rfl ?_
  refine f_X8_winningSide_L2_ok  _ _ _ _ _ _ hf (fun μ34 a35 a36 x37 hf => ?_)
  · refine E_aload_n (pc := 70) dX8_winningSide_70 rfl ?_
    refine E_aload_n (pc := 71) dX8_winningSide_71 rfl ?_
    refine E_iload_n (pc := 72) dX8_winningSide_72 rfl ?_
    refine E_Vi (pc := 73) (d2 := D_X8_sideToLoser) (ci := 8) [.ref a36, .int x37] dX8_winningSide_73 ml_X8_71 mf_X8_sideToLoser im_X8_sideToLoser rfl rfl rfl (by decide) (Nat.le_of_ble_eq_true rfl) (Nat.le_of_ble_eq_true rfl) rfl (fun _ _ h => f_X8_sideToLoser_ok h) hf (fun v39 μ38 hf => ?_)
    exact E_iret (pc := 76) dX8_winningSide_76 rfl hf
theorem dX8_twelveTo_0 : decode cX8_twelveTo 0 = .ok (.lconst 1, 1) := by decide +kernel
theorem dX8_twelveTo_1 : decode cX8_twelveTo 1 = .ok (.lstore_n 1, 1) := by decide +kernel
theorem dX8_twelveTo_2 : decode cX8_twelveTo 2 = .ok (.iconst 0, 1) := by decide +kernel
theorem dX8_twelveTo_3 : decode cX8_twelveTo 3 = .ok (.istore_n 3, 1) := by decide +kernel
theorem dX8_twelveTo_4 : decode cX8_twelveTo 4 = .ok (.iload_n 3, 1) := by decide +kernel
theorem dX8_twelveTo_5 : decode cX8_twelveTo 5 = .ok (.iload_n 0, 1) := by decide +kernel
theorem dX8_twelveTo_6 : decode cX8_twelveTo 6 = .ok (.if_icmp .ge 15, 3) := by decide +kernel
theorem dX8_twelveTo_9 : decode cX8_twelveTo 9 = .ok (.lload_n 1, 1) := by decide +kernel
theorem dX8_twelveTo_10 : decode cX8_twelveTo 10 = .ok (.ldc2_w 90, 3) := by decide +kernel
theorem dX8_twelveTo_13 : decode cX8_twelveTo 13 = .ok (.lmul, 1) := by decide +kernel
theorem dX8_twelveTo_14 : decode cX8_twelveTo 14 = .ok (.lstore_n 1, 1) := by decide +kernel
theorem dX8_twelveTo_15 : decode cX8_twelveTo 15 = .ok (.iinc 3 1, 3) := by decide +kernel
theorem dX8_twelveTo_18 : decode cX8_twelveTo 18 = .ok (.goto (-14), 3) := by decide +kernel
theorem dX8_twelveTo_21 : decode cX8_twelveTo 21 = .ok (.lload_n 1, 1) := by decide +kernel
theorem dX8_twelveTo_22 : decode cX8_twelveTo 22 = .ok (.lreturn, 1) := by decide +kernel
abbrev D_X8_twelveTo : Nat := 1
def f_X8_twelveTo_L4 (K21 : Mm → Int64 → Option (Int64 × Mm)) : Nat → Mm → Int32 → Int64 → Int32 → Option (Int64 × Mm)
  | 0, _, _, _, _ => none
  | n + 1, μ0, x4, w5, x6 =>
    (if x4 ≤ x6 then
    K21 μ0 w5
    else
    (nm (w5 * (12 : Int64)) fun w7 =>
    (nm (x6 + Int32.ofInt (1)) fun x8 =>
    f_X8_twelveTo_L4 K21 n μ0 x4 w7 x8)))
set_option maxHeartbeats 4000000 in
set_option maxRecDepth 100000 in
theorem f_X8_twelveTo_L4_ok {l : Launch} {G : GG} {K21 : Mm → Int64 → Option (Int64 × Mm)} {r : Int64} {μ' : Mm} (n : Nat) (μ0 : Mm) (x4 : Int32) (w5 : Int64) (x6 : Int32) (hf : f_X8_twelveTo_L4 K21 n μ0 x4 w5 x6 = some (r, μ')) (hK21 : ∀ (μ1 : Mm) (y1 : Int64), K21 μ1 y1 = some (r, μ') → Ev l G D_X8_twelveTo yX8_twelveTo cX8_twelveTo 4 (some .long) 21 [(1, .long y1)] [] μ1 (some (.long r)) μ') : Ev l G D_X8_twelveTo yX8_twelveTo cX8_twelveTo 4 (some .long) 4 [(0, .int x4), (1, .long w5), (3, .int x6)] [] μ0 (some (.long r)) μ' := by
  induction n generalizing μ0 x4 w5 x6 with
  | zero => cases hf
  | succ n ih0 =>
    have ih : ∀ (μ0 : Mm) (x4 : Int32) (w5 : Int64) (x6 : Int32), f_X8_twelveTo_L4 K21 n μ0 x4 w5 x6 = some (r, μ') → Ev l G D_X8_twelveTo yX8_twelveTo cX8_twelveTo 4 (some .long) 4 [(0, .int x4), (1, .long w5), (3, .int x6)] [] μ0 (some (.long r)) μ' := fun μ0 x4 w5 x6 hf => ih0 μ0 x4 w5 x6 hf
    rw [f_X8_twelveTo_L4] at hf
    refine E_iload_n (pc := 4) dX8_twelveTo_4 rfl ?_
    refine E_iload_n (pc := 5) dX8_twelveTo_5 rfl ?_
    refine E_icmp_ge (pc := 6) (tgt := 21) dX8_twelveTo_6 (by decide) hf (fun hf => ?_) (fun hf => ?_)
    · refine Ev.sub [1] rfl ?_
      exact hK21 _ _ hf
    · refine E_lload_n (pc := 9) dX8_twelveTo_9 rfl ?_
      refine E_ldc2 (pc := 10) (v := (12 : Int64)) dX8_twelveTo_10 co_X8_90 ?_
      refine E_lmul (pc := 13) dX8_twelveTo_13 ?_
      refine E_lstore_n (pc := 14) (ls' := fun w7 => [(1, .long w7), (0, .int x4), (3, .int x6)]) dX8_twelveTo_14 (by decide) (fun _ => rfl) hf (fun w7 hf => ?_)
      refine E_iinc (pc := 15) (ls' := fun x8 => [(3, .int x8), (1, .long w7), (0, .int x4)]) dX8_twelveTo_15 rfl (by decide) (fun _ => rfl) hf (fun x8 hf => ?_)
      refine E_goto (pc := 18) (tgt := 4) dX8_twelveTo_18 (by decide) ?_
      refine Ev.sub [2, 1, 0] rfl ?_
      exact ih _ _ _ _ hf
set_option maxRecDepth 100000 in
def f_X8_twelveTo (μ0 : Mm) (x1 : Int32) : Option (Int64 × Mm) :=
 (nm (1 : Int64) fun w2 =>
    (nm (0 : Int32) fun x3 =>
    f_X8_twelveTo_L4 (fun μ9 w10 =>
    (some (w10, μ9))) FU μ0 x1 w2 x3))
set_option maxHeartbeats 4000000 in
set_option maxRecDepth 100000 in
theorem f_X8_twelveTo_ok {l : Launch} {G : GG} {μ0 : Mm} {x1 : Int32} {r : Int64} {μ' : Mm} (hf : f_X8_twelveTo μ0 x1 = some (r, μ')) : EvM l G D_X8_twelveTo yX8_twelveTo cX8_twelveTo 4 (some .long) [.int x1] μ0 (some (.long r)) μ' := by
  show Ev l G D_X8_twelveTo yX8_twelveTo cX8_twelveTo 4 (some .long) 0 [(0, .int x1)] [] μ0 (some (.long r)) μ'
  unfold f_X8_twelveTo at hf
  refine E_lconst (pc := 0) (v := (1 : Int64)) dX8_twelveTo_0 (by decide) ?_
  refine E_lstore_n (pc := 1) (ls' := fun w2 => [(1, .long w2), (0, .int x1)]) dX8_twelveTo_1 (by decide) (fun _ => rfl) hf (fun w2 hf => ?_)
  refine E_iconst (pc := 2) (v := (0 : Int32)) dX8_twelveTo_2 (by decide) ?_
  refine E_istore_n (pc := 3) (ls' := fun x3 => [(3, .int x3), (1, .long w2), (0, .int x1)]) dX8_twelveTo_3 (by decide) (fun _ => rfl) hf (fun x3 hf => ?_)
  refine Ev.sub [2, 1, 0] rfl ?_
  refine f_X8_twelveTo_L4_ok  _ _ _ _ _ hf (fun μ9 w10 hf => ?_)
  · refine E_lload_n (pc := 21) dX8_twelveTo_21 rfl ?_
    exact E_lret (pc := 22) dX8_twelveTo_22 rfl hf
theorem dX8_shareFrom_0 : decode cX8_shareFrom 0 = .ok (.iload_n 2, 1) := by decide +kernel
theorem dX8_shareFrom_1 : decode cX8_shareFrom 1 = .ok (.iload_n 3, 1) := by decide +kernel
theorem dX8_shareFrom_2 : decode cX8_shareFrom 2 = .ok (.if_icmp .ne 13, 3) := by decide +kernel
theorem dX8_shareFrom_5 : decode cX8_shareFrom 5 = .ok (.aload_n 1, 1) := by decide +kernel
theorem dX8_shareFrom_6 : decode cX8_shareFrom 6 = .ok (.getfield 68, 3) := by decide +kernel
theorem dX8_shareFrom_9 : decode cX8_shareFrom 9 = .ok (.iload_n 2, 1) := by decide +kernel
theorem dX8_shareFrom_10 : decode cX8_shareFrom 10 = .ok (.iaload, 1) := by decide +kernel
theorem dX8_shareFrom_11 : decode cX8_shareFrom 11 = .ok (.invokestatic 83, 3) := by decide +kernel
theorem dX8_shareFrom_14 : decode cX8_shareFrom 14 = .ok (.lreturn, 1) := by decide +kernel
theorem dX8_shareFrom_15 : decode cX8_shareFrom 15 = .ok (.iconst 0, 1) := by decide +kernel
theorem dX8_shareFrom_16 : decode cX8_shareFrom 16 = .ok (.istore 4, 2) := by decide +kernel
theorem dX8_shareFrom_18 : decode cX8_shareFrom 18 = .ok (.iconst 0, 1) := by decide +kernel
theorem dX8_shareFrom_19 : decode cX8_shareFrom 19 = .ok (.istore 5, 2) := by decide +kernel
theorem dX8_shareFrom_21 : decode cX8_shareFrom 21 = .ok (.iload 5, 2) := by decide +kernel
theorem dX8_shareFrom_23 : decode cX8_shareFrom 23 = .ok (.iconst 4, 1) := by decide +kernel
theorem dX8_shareFrom_24 : decode cX8_shareFrom 24 = .ok (.if_icmp .ge 30, 3) := by decide +kernel
theorem dX8_shareFrom_27 : decode cX8_shareFrom 27 = .ok (.iload 4, 2) := by decide +kernel
theorem dX8_shareFrom_29 : decode cX8_shareFrom 29 = .ok (.aload_n 1, 1) := by decide +kernel
theorem dX8_shareFrom_30 : decode cX8_shareFrom 30 = .ok (.iload_n 2, 1) := by decide +kernel
theorem dX8_shareFrom_31 : decode cX8_shareFrom 31 = .ok (.iload 5, 2) := by decide +kernel
theorem dX8_shareFrom_33 : decode cX8_shareFrom 33 = .ok (.invokevirtual 75, 3) := by decide +kernel
theorem dX8_shareFrom_36 : decode cX8_shareFrom 36 = .ok (.iconst (-1), 1) := by decide +kernel
theorem dX8_shareFrom_37 : decode cX8_shareFrom 37 = .ok (.if_icmp .ne 7, 3) := by decide +kernel
theorem dX8_shareFrom_40 : decode cX8_shareFrom 40 = .ok (.iconst 0, 1) := by decide +kernel
theorem dX8_shareFrom_41 : decode cX8_shareFrom 41 = .ok (.goto 4, 3) := by decide +kernel
theorem dX8_shareFrom_44 : decode cX8_shareFrom 44 = .ok (.iconst 1, 1) := by decide +kernel
theorem dX8_shareFrom_45 : decode cX8_shareFrom 45 = .ok (.iadd, 1) := by decide +kernel
theorem dX8_shareFrom_46 : decode cX8_shareFrom 46 = .ok (.istore 4, 2) := by decide +kernel
theorem dX8_shareFrom_48 : decode cX8_shareFrom 48 = .ok (.iinc 5 1, 3) := by decide +kernel
theorem dX8_shareFrom_51 : decode cX8_shareFrom 51 = .ok (.goto (-30), 3) := by decide +kernel
theorem dX8_shareFrom_54 : decode cX8_shareFrom 54 = .ok (.iload 4, 2) := by decide +kernel
theorem dX8_shareFrom_56 : decode cX8_shareFrom 56 = .ok (.ifCond .ne 5, 3) := by decide +kernel
theorem dX8_shareFrom_59 : decode cX8_shareFrom 59 = .ok (.lconst 0, 1) := by decide +kernel
theorem dX8_shareFrom_60 : decode cX8_shareFrom 60 = .ok (.lreturn, 1) := by decide +kernel
theorem dX8_shareFrom_61 : decode cX8_shareFrom 61 = .ok (.lconst 0, 1) := by decide +kernel
theorem dX8_shareFrom_62 : decode cX8_shareFrom 62 = .ok (.lstore 5, 2) := by decide +kernel
theorem dX8_shareFrom_64 : decode cX8_shareFrom 64 = .ok (.iconst 0, 1) := by decide +kernel
theorem dX8_shareFrom_65 : decode cX8_shareFrom 65 = .ok (.istore 7, 2) := by decide +kernel
theorem dX8_shareFrom_67 : decode cX8_shareFrom 67 = .ok (.iload 7, 2) := by decide +kernel
theorem dX8_shareFrom_69 : decode cX8_shareFrom 69 = .ok (.iconst 4, 1) := by decide +kernel
theorem dX8_shareFrom_70 : decode cX8_shareFrom 70 = .ok (.if_icmp .ge 51, 3) := by decide +kernel
theorem dX8_shareFrom_73 : decode cX8_shareFrom 73 = .ok (.aload_n 1, 1) := by decide +kernel
theorem dX8_shareFrom_74 : decode cX8_shareFrom 74 = .ok (.iload_n 2, 1) := by decide +kernel
theorem dX8_shareFrom_75 : decode cX8_shareFrom 75 = .ok (.iload 7, 2) := by decide +kernel
theorem dX8_shareFrom_77 : decode cX8_shareFrom 77 = .ok (.invokevirtual 75, 3) := by decide +kernel
theorem dX8_shareFrom_80 : decode cX8_shareFrom 80 = .ok (.istore 8, 2) := by decide +kernel
theorem dX8_shareFrom_82 : decode cX8_shareFrom 82 = .ok (.iload 8, 2) := by decide +kernel
theorem dX8_shareFrom_84 : decode cX8_shareFrom 84 = .ok (.iconst (-1), 1) := by decide +kernel
theorem dX8_shareFrom_85 : decode cX8_shareFrom 85 = .ok (.if_icmp .eq 30, 3) := by decide +kernel
theorem dX8_shareFrom_88 : decode cX8_shareFrom 88 = .ok (.lload 5, 2) := by decide +kernel
theorem dX8_shareFrom_90 : decode cX8_shareFrom 90 = .ok (.aload_n 0, 1) := by decide +kernel
theorem dX8_shareFrom_91 : decode cX8_shareFrom 91 = .ok (.getfield 30, 3) := by decide +kernel
theorem dX8_shareFrom_94 : decode cX8_shareFrom 94 = .ok (.iload 8, 2) := by decide +kernel
theorem dX8_shareFrom_96 : decode cX8_shareFrom 96 = .ok (.laload, 1) := by decide +kernel
theorem dX8_shareFrom_97 : decode cX8_shareFrom 97 = .ok (.aload_n 1, 1) := by decide +kernel
theorem dX8_shareFrom_98 : decode cX8_shareFrom 98 = .ok (.iload_n 2, 1) := by decide +kernel
theorem dX8_shareFrom_99 : decode cX8_shareFrom 99 = .ok (.iload 8, 2) := by decide +kernel
theorem dX8_shareFrom_101 : decode cX8_shareFrom 101 = .ok (.invokevirtual 87, 3) := by decide +kernel
theorem dX8_shareFrom_104 : decode cX8_shareFrom 104 = .ok (.invokestatic 83, 3) := by decide +kernel
theorem dX8_shareFrom_107 : decode cX8_shareFrom 107 = .ok (.iload 4, 2) := by decide +kernel
theorem dX8_shareFrom_109 : decode cX8_shareFrom 109 = .ok (.i2l, 1) := by decide +kernel
theorem dX8_shareFrom_110 : decode cX8_shareFrom 110 = .ok (.ldiv, 1) := by decide +kernel
theorem dX8_shareFrom_111 : decode cX8_shareFrom 111 = .ok (.lmul, 1) := by decide +kernel
theorem dX8_shareFrom_112 : decode cX8_shareFrom 112 = .ok (.ladd, 1) := by decide +kernel
theorem dX8_shareFrom_113 : decode cX8_shareFrom 113 = .ok (.lstore 5, 2) := by decide +kernel
theorem dX8_shareFrom_115 : decode cX8_shareFrom 115 = .ok (.iinc 7 1, 3) := by decide +kernel
theorem dX8_shareFrom_118 : decode cX8_shareFrom 118 = .ok (.goto (-51), 3) := by decide +kernel
theorem dX8_shareFrom_121 : decode cX8_shareFrom 121 = .ok (.lload 5, 2) := by decide +kernel
theorem dX8_shareFrom_123 : decode cX8_shareFrom 123 = .ok (.lreturn, 1) := by decide +kernel
abbrev D_X8_shareFrom : Nat := 3
def f_X8_shareFrom_L21 (K54 : Mm → Nat → Nat → Int32 → Int32 → Option (Int64 × Mm)) : Nat → Mm → Nat → Nat → Int32 → Int32 → Int32 → Option (Int64 × Mm)
  | 0, _, _, _, _, _, _ => none
  | n + 1, μ0, a11, a12, x13, x14, x15 =>
    (if (4 : Int32) ≤ x15 then
    K54 μ0 a11 a12 x13 x14
    else
    ((ob μ0 a12 1).bind fun _ =>
    (bd (f_X1_lowerBeside μ0 a12 x13 x15) fun v17 μ16 =>
    (if v17 = (-1 : Int32) then
    (nm (x14 + (0 : Int32)) fun x18 =>
    (nm (x15 + Int32.ofInt (1)) fun x19 =>
    f_X8_shareFrom_L21 K54 n μ16 a11 a12 x13 x18 x19))
    else
    (nm (x14 + (1 : Int32)) fun x20 =>
    (nm (x15 + Int32.ofInt (1)) fun x21 =>
    f_X8_shareFrom_L21 K54 n μ16 a11 a12 x13 x20 x21))))))
set_option maxHeartbeats 4000000 in
set_option maxRecDepth 100000 in
theorem f_X8_shareFrom_L21_ok {l : Launch} {G : GG} {K54 : Mm → Nat → Nat → Int32 → Int32 → Option (Int64 × Mm)} {r : Int64} {μ' : Mm} (n : Nat) (μ0 : Mm) (a11 : Nat) (a12 : Nat) (x13 : Int32) (x14 : Int32) (x15 : Int32) (hf : f_X8_shareFrom_L21 K54 n μ0 a11 a12 x13 x14 x15 = some (r, μ')) (hK54 : ∀ (μ1 : Mm) (y0 : Nat) (y1 : Nat) (y2 : Int32) (y4 : Int32), K54 μ1 y0 y1 y2 y4 = some (r, μ') → Ev l G D_X8_shareFrom yX8_shareFrom cX8_shareFrom 9 (some .long) 54 [(0, .ref y0), (1, .ref y1), (2, .int y2), (4, .int y4)] [] μ1 (some (.long r)) μ') : Ev l G D_X8_shareFrom yX8_shareFrom cX8_shareFrom 9 (some .long) 21 [(0, .ref a11), (1, .ref a12), (2, .int x13), (4, .int x14), (5, .int x15)] [] μ0 (some (.long r)) μ' := by
  induction n generalizing μ0 a11 a12 x13 x14 x15 with
  | zero => cases hf
  | succ n ih0 =>
    have ih : ∀ (μ0 : Mm) (a11 : Nat) (a12 : Nat) (x13 : Int32) (x14 : Int32) (x15 : Int32), f_X8_shareFrom_L21 K54 n μ0 a11 a12 x13 x14 x15 = some (r, μ') → Ev l G D_X8_shareFrom yX8_shareFrom cX8_shareFrom 9 (some .long) 21 [(0, .ref a11), (1, .ref a12), (2, .int x13), (4, .int x14), (5, .int x15)] [] μ0 (some (.long r)) μ' := fun μ0 a11 a12 x13 x14 x15 hf => ih0 μ0 a11 a12 x13 x14 x15 hf
    rw [f_X8_shareFrom_L21] at hf
    refine E_iload (pc := 21) dX8_shareFrom_21 rfl ?_
    refine E_iconst (pc := 23) (v := (4 : Int32)) dX8_shareFrom_23 (by decide) ?_
    refine E_icmp_ge (pc := 24) (tgt := 54) dX8_shareFrom_24 (by decide) hf (fun hf => ?_) (fun hf => ?_)
    · refine Ev.sub [0, 1, 2, 3] rfl ?_
      exact hK54 _ _ _ _ _ hf
    · refine E_iload (pc := 27) dX8_shareFrom_27 rfl ?_
      refine E_aload_n (pc := 29) dX8_shareFrom_29 rfl ?_
      refine E_iload_n (pc := 30) dX8_shareFrom_30 rfl ?_
      refine E_iload (pc := 31) dX8_shareFrom_31 rfl ?_
      refine E_Vi (pc := 33) (d2 := D_X1_lowerBeside) (ci := 1) [.int x13, .int x15] dX8_shareFrom_33 ml_X8_75 mf_X1_lowerBeside im_X1_lowerBeside rfl rfl rfl (by decide) (Nat.le_of_ble_eq_true rfl) (Nat.le_of_ble_eq_true rfl) rfl (fun _ _ h => f_X1_lowerBeside_ok h) hf (fun v17 μ16 hf => ?_)
      refine E_iconst (pc := 36) (v := (-1 : Int32)) dX8_shareFrom_36 (by decide) ?_
      refine E_icmp_ne (pc := 37) (tgt := 44) dX8_shareFrom_37 (by decide) hf (fun hf => ?_) (fun hf => ?_)
      · refine E_iconst (pc := 40) (v := (0 : Int32)) dX8_shareFrom_40 (by decide) ?_
        refine E_goto (pc := 41) (tgt := 45) dX8_shareFrom_41 (by decide) ?_
        refine E_iadd (pc := 45) dX8_shareFrom_45 ?_
        refine E_istore (pc := 46) (ls' := fun x18 => [(4, .int x18), (0, .ref a11), (1, .ref a12), (2, .int x13), (5, .int x15)]) dX8_shareFrom_46 (by decide) (fun _ => rfl) hf (fun x18 hf => ?_)
        refine E_iinc (pc := 48) (ls' := fun x19 => [(5, .int x19), (4, .int x18), (0, .ref a11), (1, .ref a12), (2, .int x13)]) dX8_shareFrom_48 rfl (by decide) (fun _ => rfl) hf (fun x19 hf => ?_)
        refine E_goto (pc := 51) (tgt := 21) dX8_shareFrom_51 (by decide) ?_
        refine Ev.sub [2, 3, 4, 1, 0] rfl ?_
        exact ih _ _ _ _ _ _ hf
      · refine E_iconst (pc := 44) (v := (1 : Int32)) dX8_shareFrom_44 (by decide) ?_
        refine E_iadd (pc := 45) dX8_shareFrom_45 ?_
        refine E_istore (pc := 46) (ls' := fun x20 => [(4, .int x20), (0, .ref a11), (1, .ref a12), (2, .int x13), (5, .int x15)]) dX8_shareFrom_46 (by decide) (fun _ => rfl) hf (fun x20 hf => ?_)
        refine E_iinc (pc := 48) (ls' := fun x21 => [(5, .int x21), (4, .int x20), (0, .ref a11), (1, .ref a12), (2, .int x13)]) dX8_shareFrom_48 rfl (by decide) (fun _ => rfl) hf (fun x21 hf => ?_)
        refine E_goto (pc := 51) (tgt := 21) dX8_shareFrom_51 (by decide) ?_
        refine Ev.sub [2, 3, 4, 1, 0] rfl ?_
        exact ih _ _ _ _ _ _ hf
def f_X8_shareFrom_L67 (K121 : Mm → Int64 → Option (Int64 × Mm)) : Nat → Mm → Nat → Nat → Int32 → Int32 → Int64 → Int32 → Option (Int64 × Mm)
  | 0, _, _, _, _, _, _, _ => none
  | n + 1, μ0, a29, a30, x31, x32, w33, x34 =>
    (if (4 : Int32) ≤ x34 then
    K121 μ0 w33
    else
    ((ob μ0 a30 1).bind fun _ =>
    (bd (f_X1_lowerBeside μ0 a30 x31 x34) fun v36 μ35 =>
    (nm v36 fun x37 =>
    (if x37 = (-1 : Int32) then
    (nm (x34 + Int32.ofInt (1)) fun x38 =>
    f_X8_shareFrom_L67 K121 n μ35 a29 a30 x31 x32 w33 x38)
    else
    ((gR μ35 a29 8 5).bind fun v39 =>
    ((aL μ35 v39 3 x37).bind fun v40 =>
    ((ob μ35 a30 1).bind fun _ =>
    (bd (f_X1_dropTo μ35 a30 x31 x37) fun v42 μ41 =>
    (bd (f_X8_twelveTo μ41 v42) fun v44 μ43 =>
    (dvL v44 (x32).toInt64 fun v45 =>
    (nm (w33 + (v40 * v45)) fun w46 =>
    (nm (x34 + Int32.ofInt (1)) fun x47 =>
    f_X8_shareFrom_L67 K121 n μ43 a29 a30 x31 x32 w46 x47)))))))))))))
set_option maxHeartbeats 4000000 in
set_option maxRecDepth 100000 in
theorem f_X8_shareFrom_L67_ok {l : Launch} {G : GG} {K121 : Mm → Int64 → Option (Int64 × Mm)} {r : Int64} {μ' : Mm} (n : Nat) (μ0 : Mm) (a29 : Nat) (a30 : Nat) (x31 : Int32) (x32 : Int32) (w33 : Int64) (x34 : Int32) (hf : f_X8_shareFrom_L67 K121 n μ0 a29 a30 x31 x32 w33 x34 = some (r, μ')) (hK121 : ∀ (μ1 : Mm) (y5 : Int64), K121 μ1 y5 = some (r, μ') → Ev l G D_X8_shareFrom yX8_shareFrom cX8_shareFrom 9 (some .long) 121 [(5, .long y5)] [] μ1 (some (.long r)) μ') : Ev l G D_X8_shareFrom yX8_shareFrom cX8_shareFrom 9 (some .long) 67 [(0, .ref a29), (1, .ref a30), (2, .int x31), (4, .int x32), (5, .long w33), (7, .int x34)] [] μ0 (some (.long r)) μ' := by
  induction n generalizing μ0 a29 a30 x31 x32 w33 x34 with
  | zero => cases hf
  | succ n ih0 =>
    have ih : ∀ (μ0 : Mm) (a29 : Nat) (a30 : Nat) (x31 : Int32) (x32 : Int32) (w33 : Int64) (x34 : Int32), f_X8_shareFrom_L67 K121 n μ0 a29 a30 x31 x32 w33 x34 = some (r, μ') → Ev l G D_X8_shareFrom yX8_shareFrom cX8_shareFrom 9 (some .long) 67 [(0, .ref a29), (1, .ref a30), (2, .int x31), (4, .int x32), (5, .long w33), (7, .int x34)] [] μ0 (some (.long r)) μ' := fun μ0 a29 a30 x31 x32 w33 x34 hf => ih0 μ0 a29 a30 x31 x32 w33 x34 hf
    rw [f_X8_shareFrom_L67] at hf
    refine E_iload (pc := 67) dX8_shareFrom_67 rfl ?_
    refine E_iconst (pc := 69) (v := (4 : Int32)) dX8_shareFrom_69 (by decide) ?_
    refine E_icmp_ge (pc := 70) (tgt := 121) dX8_shareFrom_70 (by decide) hf (fun hf => ?_) (fun hf => ?_)
    · refine Ev.sub [4] rfl ?_
      exact hK121 _ _ hf
    · refine E_aload_n (pc := 73) dX8_shareFrom_73 rfl ?_
      refine E_iload_n (pc := 74) dX8_shareFrom_74 rfl ?_
      refine E_iload (pc := 75) dX8_shareFrom_75 rfl ?_
      refine E_Vi (pc := 77) (d2 := D_X1_lowerBeside) (ci := 1) [.int x31, .int x34] dX8_shareFrom_77 ml_X8_75 mf_X1_lowerBeside im_X1_lowerBeside rfl rfl rfl (by decide) (Nat.le_of_ble_eq_true rfl) (Nat.le_of_ble_eq_true rfl) rfl (fun _ _ h => f_X1_lowerBeside_ok h) hf (fun v36 μ35 hf => ?_)
      refine E_istore (pc := 80) (ls' := fun x37 => [(8, .int x37), (0, .ref a29), (1, .ref a30), (2, .int x31), (4, .int x32), (5, .long w33), (7, .int x34)]) dX8_shareFrom_80 (by decide) (fun _ => rfl) hf (fun x37 hf => ?_)
      refine E_iload (pc := 82) dX8_shareFrom_82 rfl ?_
      refine E_iconst (pc := 84) (v := (-1 : Int32)) dX8_shareFrom_84 (by decide) ?_
      refine E_icmp_eq (pc := 85) (tgt := 115) dX8_shareFrom_85 (by decide) hf (fun hf => ?_) (fun hf => ?_)
      · refine E_iinc (pc := 115) (ls' := fun x38 => [(7, .int x38), (8, .int x37), (0, .ref a29), (1, .ref a30), (2, .int x31), (4, .int x32), (5, .long w33)]) dX8_shareFrom_115 rfl (by decide) (fun _ => rfl) hf (fun x38 hf => ?_)
        refine E_goto (pc := 118) (tgt := 67) dX8_shareFrom_118 (by decide) ?_
        refine Ev.sub [2, 3, 4, 5, 6, 0] rfl ?_
        exact ih _ _ _ _ _ _ _ hf
      · refine E_lload (pc := 88) dX8_shareFrom_88 rfl ?_
        refine E_aload_n (pc := 90) dX8_shareFrom_90 rfl ?_
        refine E_getR (pc := 91) dX8_shareFrom_91 fl_X8_30 hf (fun v39 hf => ?_)
        refine E_iload (pc := 94) dX8_shareFrom_94 rfl ?_
        refine E_lald (pc := 96) dX8_shareFrom_96 hf (fun v40 hf => ?_)
        refine E_aload_n (pc := 97) dX8_shareFrom_97 rfl ?_
        refine E_iload_n (pc := 98) dX8_shareFrom_98 rfl ?_
        refine E_iload (pc := 99) dX8_shareFrom_99 rfl ?_
        refine E_Vi (pc := 101) (d2 := D_X1_dropTo) (ci := 1) [.int x31, .int x37] dX8_shareFrom_101 ml_X8_87 mf_X1_dropTo im_X1_dropTo rfl rfl rfl (by decide) (Nat.le_of_ble_eq_true rfl) (Nat.le_of_ble_eq_true rfl) rfl (fun _ _ h => f_X1_dropTo_ok h) hf (fun v42 μ41 hf => ?_)
        refine E_Sl (pc := 104) (d2 := D_X8_twelveTo) [.int v42] dX8_shareFrom_104 ml_X8_83 mf_X8_twelveTo st_X8_twelveTo rfl (by decide) (Nat.le_of_ble_eq_true rfl) (Nat.le_of_ble_eq_true rfl) rfl (fun _ _ h => f_X8_twelveTo_ok h) hf (fun v44 μ43 hf => ?_)
        refine E_iload (pc := 107) dX8_shareFrom_107 rfl ?_
        refine E_i2l (pc := 109) dX8_shareFrom_109 ?_
        refine E_ldiv2 (pc := 110) dX8_shareFrom_110 hf (fun v45 hf => ?_)
        refine E_lmul (pc := 111) dX8_shareFrom_111 ?_
        refine E_ladd (pc := 112) dX8_shareFrom_112 ?_
        refine E_lstore (pc := 113) (ls' := fun w46 => [(5, .long w46), (8, .int x37), (0, .ref a29), (1, .ref a30), (2, .int x31), (4, .int x32), (7, .int x34)]) dX8_shareFrom_113 (by decide) (fun _ => rfl) hf (fun w46 hf => ?_)
        refine E_iinc (pc := 115) (ls' := fun x47 => [(7, .int x47), (5, .long w46), (8, .int x37), (0, .ref a29), (1, .ref a30), (2, .int x31), (4, .int x32)]) dX8_shareFrom_115 rfl (by decide) (fun _ => rfl) hf (fun x47 hf => ?_)
        refine E_goto (pc := 118) (tgt := 67) dX8_shareFrom_118 (by decide) ?_
        refine Ev.sub [3, 4, 5, 6, 1, 0] rfl ?_
        exact ih _ _ _ _ _ _ _ hf
set_option maxRecDepth 100000 in
def f_X8_shareFrom (μ0 : Mm) (a1 : Nat) (a2 : Nat) (x3 : Int32) (x4 : Int32) : Option (Int64 × Mm) :=
 (if x3 = x4 then
    ((gR μ0 a2 1 3).bind fun v5 =>
    ((aI μ0 v5 0 x3).bind fun v6 =>
    (bd (f_X8_twelveTo μ0 v6) fun v8 μ7 =>
    (some (v8, μ7)))))
    else
    (nm (0 : Int32) fun x9 =>
    (nm (0 : Int32) fun x10 =>
    f_X8_shareFrom_L21 (fun μ22 a23 a24 x25 x26 =>
    (if x26 = 0 then
    (some ((0 : Int64), μ22))
    else
    (nm (0 : Int64) fun w27 =>
    (nm (0 : Int32) fun x28 =>
    f_X8_shareFrom_L67 (fun μ48 w49 =>
    (some (w49, μ48))) FU μ22 a23 a24 x25 x26 w27 x28)))) FU μ0 a1 a2 x3 x9 x10)))
set_option maxHeartbeats 4000000 in
set_option maxRecDepth 100000 in
theorem f_X8_shareFrom_ok {l : Launch} {G : GG} {μ0 : Mm} {a1 : Nat} {a2 : Nat} {x3 : Int32} {x4 : Int32} {r : Int64} {μ' : Mm} (hf : f_X8_shareFrom μ0 a1 a2 x3 x4 = some (r, μ')) : EvM l G D_X8_shareFrom yX8_shareFrom cX8_shareFrom 9 (some .long) [.ref a1, .ref a2, .int x3, .int x4] μ0 (some (.long r)) μ' := by
  show Ev l G D_X8_shareFrom yX8_shareFrom cX8_shareFrom 9 (some .long) 0 [(0, .ref a1), (1, .ref a2), (2, .int x3), (3, .int x4)] [] μ0 (some (.long r)) μ'
  unfold f_X8_shareFrom at hf
  refine E_iload_n (pc := 0) dX8_shareFrom_0 rfl ?_
  refine E_iload_n (pc := 1) dX8_shareFrom_1 rfl ?_
  refine E_icmp_ne (pc := 2) (tgt := 15) dX8_shareFrom_2 (by decide) hf (fun hf => ?_) (fun hf => ?_)
  · refine E_aload_n (pc := 5) dX8_shareFrom_5 rfl ?_
    refine E_getR (pc := 6) dX8_shareFrom_6 fl_X8_68 hf (fun v5 hf => ?_)
    refine E_iload_n (pc := 9) dX8_shareFrom_9 rfl ?_
    refine E_iald (pc := 10) dX8_shareFrom_10 hf (fun v6 hf => ?_)
    refine E_Sl (pc := 11) (d2 := D_X8_twelveTo) [.int v6] dX8_shareFrom_11 ml_X8_83 mf_X8_twelveTo st_X8_twelveTo rfl (by decide) (Nat.le_of_ble_eq_true rfl) (Nat.le_of_ble_eq_true rfl) rfl (fun _ _ h => f_X8_twelveTo_ok h) hf (fun v8 μ7 hf => ?_)
    exact E_lret (pc := 14) dX8_shareFrom_14 rfl hf
  · refine E_iconst (pc := 15) (v := (0 : Int32)) dX8_shareFrom_15 (by decide) ?_
    refine E_istore (pc := 16) (ls' := fun x9 => [(4, .int x9), (0, .ref a1), (1, .ref a2), (2, .int x3), (3, .int x4)]) dX8_shareFrom_16 (by decide) (fun _ => rfl) hf (fun x9 hf => ?_)
    refine E_iconst (pc := 18) (v := (0 : Int32)) dX8_shareFrom_18 (by decide) ?_
    refine E_istore (pc := 19) (ls' := fun x10 => [(5, .int x10), (4, .int x9), (0, .ref a1), (1, .ref a2), (2, .int x3), (3, .int x4)]) dX8_shareFrom_19 (by decide) (fun _ => rfl) hf (fun x10 hf => ?_)
    refine Ev.sub [2, 3, 4, 1, 0] rfl ?_
    refine f_X8_shareFrom_L21_ok  _ _ _ _ _ _ _ hf (fun μ22 a23 a24 x25 x26 hf => ?_)
    · refine E_iload (pc := 54) dX8_shareFrom_54 rfl ?_
      refine E_if_ne (pc := 56) (tgt := 61) dX8_shareFrom_56 (by decide) hf (fun hf => ?_) (fun hf => ?_)
      · refine E_lconst (pc := 59) (v := (0 : Int64)) dX8_shareFrom_59 (by decide) ?_
        exact E_lret (pc := 60) dX8_shareFrom_60 rfl hf
      · refine E_lconst (pc := 61) (v := (0 : Int64)) dX8_shareFrom_61 (by decide) ?_
        refine E_lstore (pc := 62) (ls' := fun w27 => [(5, .long w27), (0, .ref a23), (1, .ref a24), (2, .int x25), (4, .int x26)]) dX8_shareFrom_62 (by decide) (fun _ => rfl) hf (fun w27 hf => ?_)
        refine E_iconst (pc := 64) (v := (0 : Int32)) dX8_shareFrom_64 (by decide) ?_
        refine E_istore (pc := 65) (ls' := fun x28 => [(7, .int x28), (5, .long w27), (0, .ref a23), (1, .ref a24), (2, .int x25), (4, .int x26)]) dX8_shareFrom_65 (by decide) (fun _ => rfl) hf (fun x28 hf => ?_)
        refine Ev.sub [2, 3, 4, 5, 1, 0] rfl ?_
        refine f_X8_shareFrom_L67_ok  _ _ _ _ _ _ _ _ hf (fun μ48 w49 hf => ?_)
        · refine E_lload (pc := 121) dX8_shareFrom_121 rfl ?_
          exact E_lret (pc := 123) dX8_shareFrom_123 rfl hf
theorem dX8_shareOfTwelfths_0 : decode cX8_shareOfTwelfths 0 = .ok (.iconst 0, 1) := by decide +kernel
theorem dX8_shareOfTwelfths_1 : decode cX8_shareOfTwelfths 1 = .ok (.istore 4, 2) := by decide +kernel
theorem dX8_shareOfTwelfths_3 : decode cX8_shareOfTwelfths 3 = .ok (.iload 4, 2) := by decide +kernel
theorem dX8_shareOfTwelfths_5 : decode cX8_shareOfTwelfths 5 = .ok (.aload_n 1, 1) := by decide +kernel
theorem dX8_shareOfTwelfths_6 : decode cX8_shareOfTwelfths 6 = .ok (.getfield 68, 3) := by decide +kernel
theorem dX8_shareOfTwelfths_9 : decode cX8_shareOfTwelfths 9 = .ok (.iload_n 2, 1) := by decide +kernel
theorem dX8_shareOfTwelfths_10 : decode cX8_shareOfTwelfths 10 = .ok (.iaload, 1) := by decide +kernel
theorem dX8_shareOfTwelfths_11 : decode cX8_shareOfTwelfths 11 = .ok (.if_icmp .ge 54, 3) := by decide +kernel
theorem dX8_shareOfTwelfths_14 : decode cX8_shareOfTwelfths 14 = .ok (.iconst 0, 1) := by decide +kernel
theorem dX8_shareOfTwelfths_15 : decode cX8_shareOfTwelfths 15 = .ok (.istore 5, 2) := by decide +kernel
theorem dX8_shareOfTwelfths_17 : decode cX8_shareOfTwelfths 17 = .ok (.iload 5, 2) := by decide +kernel
theorem dX8_shareOfTwelfths_19 : decode cX8_shareOfTwelfths 19 = .ok (.aload_n 1, 1) := by decide +kernel
theorem dX8_shareOfTwelfths_20 : decode cX8_shareOfTwelfths 20 = .ok (.getfield 37, 3) := by decide +kernel
theorem dX8_shareOfTwelfths_23 : decode cX8_shareOfTwelfths 23 = .ok (.if_icmp .ge 36, 3) := by decide +kernel
theorem dX8_shareOfTwelfths_26 : decode cX8_shareOfTwelfths 26 = .ok (.aload_n 1, 1) := by decide +kernel
theorem dX8_shareOfTwelfths_27 : decode cX8_shareOfTwelfths 27 = .ok (.getfield 68, 3) := by decide +kernel
theorem dX8_shareOfTwelfths_30 : decode cX8_shareOfTwelfths 30 = .ok (.iload 5, 2) := by decide +kernel
theorem dX8_shareOfTwelfths_32 : decode cX8_shareOfTwelfths 32 = .ok (.iaload, 1) := by decide +kernel
theorem dX8_shareOfTwelfths_33 : decode cX8_shareOfTwelfths 33 = .ok (.iload 4, 2) := by decide +kernel
theorem dX8_shareOfTwelfths_35 : decode cX8_shareOfTwelfths 35 = .ok (.if_icmp .ne 18, 3) := by decide +kernel
theorem dX8_shareOfTwelfths_38 : decode cX8_shareOfTwelfths 38 = .ok (.aload_n 0, 1) := by decide +kernel
theorem dX8_shareOfTwelfths_39 : decode cX8_shareOfTwelfths 39 = .ok (.getfield 30, 3) := by decide +kernel
theorem dX8_shareOfTwelfths_42 : decode cX8_shareOfTwelfths 42 = .ok (.iload 5, 2) := by decide +kernel
theorem dX8_shareOfTwelfths_44 : decode cX8_shareOfTwelfths 44 = .ok (.aload_n 0, 1) := by decide +kernel
theorem dX8_shareOfTwelfths_45 : decode cX8_shareOfTwelfths 45 = .ok (.aload_n 1, 1) := by decide +kernel
theorem dX8_shareOfTwelfths_46 : decode cX8_shareOfTwelfths 46 = .ok (.iload 5, 2) := by decide +kernel
theorem dX8_shareOfTwelfths_48 : decode cX8_shareOfTwelfths 48 = .ok (.iload_n 3, 1) := by decide +kernel
theorem dX8_shareOfTwelfths_49 : decode cX8_shareOfTwelfths 49 = .ok (.invokevirtual 79, 3) := by decide +kernel
theorem dX8_shareOfTwelfths_52 : decode cX8_shareOfTwelfths 52 = .ok (.lastore, 1) := by decide +kernel
theorem dX8_shareOfTwelfths_53 : decode cX8_shareOfTwelfths 53 = .ok (.iinc 5 1, 3) := by decide +kernel
theorem dX8_shareOfTwelfths_56 : decode cX8_shareOfTwelfths 56 = .ok (.goto (-39), 3) := by decide +kernel
theorem dX8_shareOfTwelfths_59 : decode cX8_shareOfTwelfths 59 = .ok (.iinc 4 1, 3) := by decide +kernel
theorem dX8_shareOfTwelfths_62 : decode cX8_shareOfTwelfths 62 = .ok (.goto (-59), 3) := by decide +kernel
theorem dX8_shareOfTwelfths_65 : decode cX8_shareOfTwelfths 65 = .ok (.aload_n 0, 1) := by decide +kernel
theorem dX8_shareOfTwelfths_66 : decode cX8_shareOfTwelfths 66 = .ok (.aload_n 1, 1) := by decide +kernel
theorem dX8_shareOfTwelfths_67 : decode cX8_shareOfTwelfths 67 = .ok (.iload_n 2, 1) := by decide +kernel
theorem dX8_shareOfTwelfths_68 : decode cX8_shareOfTwelfths 68 = .ok (.iload_n 3, 1) := by decide +kernel
theorem dX8_shareOfTwelfths_69 : decode cX8_shareOfTwelfths 69 = .ok (.invokevirtual 79, 3) := by decide +kernel
theorem dX8_shareOfTwelfths_72 : decode cX8_shareOfTwelfths 72 = .ok (.lreturn, 1) := by decide +kernel
abbrev D_X8_shareOfTwelfths : Nat := 4
def f_X8_shareOfTwelfths_L17 (K59 : Mm → Nat → Nat → Int32 → Int32 → Int32 → Option (Int64 × Mm)) : Nat → Mm → Nat → Nat → Int32 → Int32 → Int32 → Int32 → Option (Int64 × Mm)
  | 0, _, _, _, _, _, _, _ => none
  | n + 1, μ0, a14, a15, x16, x17, x18, x19 =>
    ((gI μ0 a15 1 2).bind fun v20 =>
    (if v20 ≤ x19 then
    K59 μ0 a14 a15 x16 x17 x18
    else
    ((gR μ0 a15 1 3).bind fun v21 =>
    ((aI μ0 v21 0 x19).bind fun v22 =>
    (if v22 = x18 then
    ((gR μ0 a14 8 5).bind fun v23 =>
    ((ob μ0 a14 8).bind fun _ =>
    (bd (f_X8_shareFrom μ0 a14 a15 x19 x17) fun v25 μ24 =>
    ((sL μ24 v23 3 x19 v25).bind fun μ26 =>
    (nm (x19 + Int32.ofInt (1)) fun x27 =>
    f_X8_shareOfTwelfths_L17 K59 n μ26 a14 a15 x16 x17 x18 x27)))))
    else
    (nm (x19 + Int32.ofInt (1)) fun x28 =>
    f_X8_shareOfTwelfths_L17 K59 n μ0 a14 a15 x16 x17 x18 x28))))))
set_option maxHeartbeats 4000000 in
set_option maxRecDepth 100000 in
theorem f_X8_shareOfTwelfths_L17_ok {l : Launch} {G : GG} {K59 : Mm → Nat → Nat → Int32 → Int32 → Int32 → Option (Int64 × Mm)} {r : Int64} {μ' : Mm} (n : Nat) (μ0 : Mm) (a14 : Nat) (a15 : Nat) (x16 : Int32) (x17 : Int32) (x18 : Int32) (x19 : Int32) (hf : f_X8_shareOfTwelfths_L17 K59 n μ0 a14 a15 x16 x17 x18 x19 = some (r, μ')) (hK59 : ∀ (μ1 : Mm) (y0 : Nat) (y1 : Nat) (y2 : Int32) (y3 : Int32) (y4 : Int32), K59 μ1 y0 y1 y2 y3 y4 = some (r, μ') → Ev l G D_X8_shareOfTwelfths yX8_shareOfTwelfths cX8_shareOfTwelfths 6 (some .long) 59 [(0, .ref y0), (1, .ref y1), (2, .int y2), (3, .int y3), (4, .int y4)] [] μ1 (some (.long r)) μ') : Ev l G D_X8_shareOfTwelfths yX8_shareOfTwelfths cX8_shareOfTwelfths 6 (some .long) 17 [(0, .ref a14), (1, .ref a15), (2, .int x16), (3, .int x17), (4, .int x18), (5, .int x19)] [] μ0 (some (.long r)) μ' := by
  induction n generalizing μ0 a14 a15 x16 x17 x18 x19 with
  | zero => cases hf
  | succ n ih0 =>
    have ih : ∀ (μ0 : Mm) (a14 : Nat) (a15 : Nat) (x16 : Int32) (x17 : Int32) (x18 : Int32) (x19 : Int32), f_X8_shareOfTwelfths_L17 K59 n μ0 a14 a15 x16 x17 x18 x19 = some (r, μ') → Ev l G D_X8_shareOfTwelfths yX8_shareOfTwelfths cX8_shareOfTwelfths 6 (some .long) 17 [(0, .ref a14), (1, .ref a15), (2, .int x16), (3, .int x17), (4, .int x18), (5, .int x19)] [] μ0 (some (.long r)) μ' := fun μ0 a14 a15 x16 x17 x18 x19 hf => ih0 μ0 a14 a15 x16 x17 x18 x19 hf
    rw [f_X8_shareOfTwelfths_L17] at hf
    refine E_iload (pc := 17) dX8_shareOfTwelfths_17 rfl ?_
    refine E_aload_n (pc := 19) dX8_shareOfTwelfths_19 rfl ?_
    refine E_getI (pc := 20) dX8_shareOfTwelfths_20 fl_X8_37 hf (fun v20 hf => ?_)
    refine E_icmp_ge (pc := 23) (tgt := 59) dX8_shareOfTwelfths_23 (by decide) hf (fun hf => ?_) (fun hf => ?_)
    · refine Ev.sub [0, 1, 2, 3, 4] rfl ?_
      exact hK59 _ _ _ _ _ _ hf
    · refine E_aload_n (pc := 26) dX8_shareOfTwelfths_26 rfl ?_
      refine E_getR (pc := 27) dX8_shareOfTwelfths_27 fl_X8_68 hf (fun v21 hf => ?_)
      refine E_iload (pc := 30) dX8_shareOfTwelfths_30 rfl ?_
      refine E_iald (pc := 32) dX8_shareOfTwelfths_32 hf (fun v22 hf => ?_)
      refine E_iload (pc := 33) dX8_shareOfTwelfths_33 rfl ?_
      refine E_icmp_ne (pc := 35) (tgt := 53) dX8_shareOfTwelfths_35 (by decide) hf (fun hf => ?_) (fun hf => ?_)
      · refine E_aload_n (pc := 38) dX8_shareOfTwelfths_38 rfl ?_
        refine E_getR (pc := 39) dX8_shareOfTwelfths_39 fl_X8_30 hf (fun v23 hf => ?_)
        refine E_iload (pc := 42) dX8_shareOfTwelfths_42 rfl ?_
        refine E_aload_n (pc := 44) dX8_shareOfTwelfths_44 rfl ?_
        refine E_aload_n (pc := 45) dX8_shareOfTwelfths_45 rfl ?_
        refine E_iload (pc := 46) dX8_shareOfTwelfths_46 rfl ?_
        refine E_iload_n (pc := 48) dX8_shareOfTwelfths_48 rfl ?_
        refine E_Vl (pc := 49) (d2 := D_X8_shareFrom) (ci := 8) [.ref a15, .int x19, .int x17] dX8_shareOfTwelfths_49 ml_X8_79 mf_X8_shareFrom im_X8_shareFrom rfl rfl rfl (by decide) (Nat.le_of_ble_eq_true rfl) (Nat.le_of_ble_eq_true rfl) rfl (fun _ _ h => f_X8_shareFrom_ok h) hf (fun v25 μ24 hf => ?_)
        refine E_last (pc := 52) dX8_shareOfTwelfths_52 hf (fun μ26 hf => ?_)
        refine E_iinc (pc := 53) (ls' := fun x27 => [(5, .int x27), (0, .ref a14), (1, .ref a15), (2, .int x16), (3, .int x17), (4, .int x18)]) dX8_shareOfTwelfths_53 rfl (by decide) (fun _ => rfl) hf (fun x27 hf => ?_)
        refine E_goto (pc := 56) (tgt := 17) dX8_shareOfTwelfths_56 (by decide) ?_
        refine Ev.sub [1, 2, 3, 4, 5, 0] rfl ?_
        exact ih _ _ _ _ _ _ _ hf
      · refine E_iinc (pc := 53) (ls' := fun x28 => [(5, .int x28), (0, .ref a14), (1, .ref a15), (2, .int x16), (3, .int x17), (4, .int x18)]) dX8_shareOfTwelfths_53 rfl (by decide) (fun _ => rfl) hf (fun x28 hf => ?_)
        refine E_goto (pc := 56) (tgt := 17) dX8_shareOfTwelfths_56 (by decide) ?_
        refine Ev.sub [1, 2, 3, 4, 5, 0] rfl ?_
        exact ih _ _ _ _ _ _ _ hf
def f_X8_shareOfTwelfths_L3 (K65 : Mm → Nat → Nat → Int32 → Int32 → Option (Int64 × Mm)) : Nat → Mm → Nat → Nat → Int32 → Int32 → Int32 → Option (Int64 × Mm)
  | 0, _, _, _, _, _, _ => none
  | n + 1, μ0, a6, a7, x8, x9, x10 =>
    ((gR μ0 a7 1 3).bind fun v11 =>
    ((aI μ0 v11 0 x8).bind fun v12 =>
    (if v12 ≤ x10 then
    K65 μ0 a6 a7 x8 x9
    else
    (nm (0 : Int32) fun x13 =>
    f_X8_shareOfTwelfths_L17 (fun μ29 a30 a31 x32 x33 x34 =>
    (nm (x34 + Int32.ofInt (1)) fun x35 =>
    f_X8_shareOfTwelfths_L3 K65 n μ29 a30 a31 x32 x33 x35)) FU μ0 a6 a7 x8 x9 x10 x13))))
set_option maxHeartbeats 4000000 in
set_option maxRecDepth 100000 in
theorem f_X8_shareOfTwelfths_L3_ok {l : Launch} {G : GG} {K65 : Mm → Nat → Nat → Int32 → Int32 → Option (Int64 × Mm)} {r : Int64} {μ' : Mm} (n : Nat) (μ0 : Mm) (a6 : Nat) (a7 : Nat) (x8 : Int32) (x9 : Int32) (x10 : Int32) (hf : f_X8_shareOfTwelfths_L3 K65 n μ0 a6 a7 x8 x9 x10 = some (r, μ')) (hK65 : ∀ (μ1 : Mm) (y0 : Nat) (y1 : Nat) (y2 : Int32) (y3 : Int32), K65 μ1 y0 y1 y2 y3 = some (r, μ') → Ev l G D_X8_shareOfTwelfths yX8_shareOfTwelfths cX8_shareOfTwelfths 6 (some .long) 65 [(0, .ref y0), (1, .ref y1), (2, .int y2), (3, .int y3)] [] μ1 (some (.long r)) μ') : Ev l G D_X8_shareOfTwelfths yX8_shareOfTwelfths cX8_shareOfTwelfths 6 (some .long) 3 [(0, .ref a6), (1, .ref a7), (2, .int x8), (3, .int x9), (4, .int x10)] [] μ0 (some (.long r)) μ' := by
  induction n generalizing μ0 a6 a7 x8 x9 x10 with
  | zero => cases hf
  | succ n ih0 =>
    have ih : ∀ (μ0 : Mm) (a6 : Nat) (a7 : Nat) (x8 : Int32) (x9 : Int32) (x10 : Int32), f_X8_shareOfTwelfths_L3 K65 n μ0 a6 a7 x8 x9 x10 = some (r, μ') → Ev l G D_X8_shareOfTwelfths yX8_shareOfTwelfths cX8_shareOfTwelfths 6 (some .long) 3 [(0, .ref a6), (1, .ref a7), (2, .int x8), (3, .int x9), (4, .int x10)] [] μ0 (some (.long r)) μ' := fun μ0 a6 a7 x8 x9 x10 hf => ih0 μ0 a6 a7 x8 x9 x10 hf
    rw [f_X8_shareOfTwelfths_L3] at hf
    refine E_iload (pc := 3) dX8_shareOfTwelfths_3 rfl ?_
    refine E_aload_n (pc := 5) dX8_shareOfTwelfths_5 rfl ?_
    refine E_getR (pc := 6) dX8_shareOfTwelfths_6 fl_X8_68 hf (fun v11 hf => ?_)
    refine E_iload_n (pc := 9) dX8_shareOfTwelfths_9 rfl ?_
    refine E_iald (pc := 10) dX8_shareOfTwelfths_10 hf (fun v12 hf => ?_)
    refine E_icmp_ge (pc := 11) (tgt := 65) dX8_shareOfTwelfths_11 (by decide) hf (fun hf => ?_) (fun hf => ?_)
    · refine Ev.sub [0, 1, 2, 3] rfl ?_
      exact hK65 _ _ _ _ _ hf
    · refine E_iconst (pc := 14) (v := (0 : Int32)) dX8_shareOfTwelfths_14 (by decide) ?_
      refine E_istore (pc := 15) (ls' := fun x13 => [(5, .int x13), (0, .ref a6), (1, .ref a7), (2, .int x8), (3, .int x9), (4, .int x10)]) dX8_shareOfTwelfths_15 (by decide) (fun _ => rfl) hf (fun x13 hf => ?_)
      refine Ev.sub [1, 2, 3, 4, 5, 0] rfl ?_
      refine f_X8_shareOfTwelfths_L17_ok  _ _ _ _ _ _ _ _ hf (fun μ29 a30 a31 x32 x33 x34 hf => ?_)
      · refine E_iinc (pc := 59) (ls' := fun x35 => [(4, .int x35), (0, .ref a30), (1, .ref a31), (2, .int x32), (3, .int x33)]) dX8_shareOfTwelfths_59 rfl (by decide) (fun _ => rfl) hf (fun x35 hf => ?_)
        refine E_goto (pc := 62) (tgt := 3) dX8_shareOfTwelfths_62 (by decide) ?_
        refine Ev.sub [1, 2, 3, 4, 0] rfl ?_
        exact ih _ _ _ _ _ _ hf
set_option maxRecDepth 100000 in
def f_X8_shareOfTwelfths (μ0 : Mm) (a1 : Nat) (a2 : Nat) (x3 : Int32) (x4 : Int32) : Option (Int64 × Mm) :=
 (nm (0 : Int32) fun x5 =>
    f_X8_shareOfTwelfths_L3 (fun μ36 a37 a38 x39 x40 =>
    ((ob μ36 a37 8).bind fun _ =>
    (bd (f_X8_shareFrom μ36 a37 a38 x39 x40) fun v42 μ41 =>
    (some (v42, μ41))))) FU μ0 a1 a2 x3 x4 x5)
set_option maxHeartbeats 4000000 in
set_option maxRecDepth 100000 in
theorem f_X8_shareOfTwelfths_ok {l : Launch} {G : GG} {μ0 : Mm} {a1 : Nat} {a2 : Nat} {x3 : Int32} {x4 : Int32} {r : Int64} {μ' : Mm} (hf : f_X8_shareOfTwelfths μ0 a1 a2 x3 x4 = some (r, μ')) : EvM l G D_X8_shareOfTwelfths yX8_shareOfTwelfths cX8_shareOfTwelfths 6 (some .long) [.ref a1, .ref a2, .int x3, .int x4] μ0 (some (.long r)) μ' := by
  show Ev l G D_X8_shareOfTwelfths yX8_shareOfTwelfths cX8_shareOfTwelfths 6 (some .long) 0 [(0, .ref a1), (1, .ref a2), (2, .int x3), (3, .int x4)] [] μ0 (some (.long r)) μ'
  unfold f_X8_shareOfTwelfths at hf
  refine E_iconst (pc := 0) (v := (0 : Int32)) dX8_shareOfTwelfths_0 (by decide) ?_
  refine E_istore (pc := 1) (ls' := fun x5 => [(4, .int x5), (0, .ref a1), (1, .ref a2), (2, .int x3), (3, .int x4)]) dX8_shareOfTwelfths_1 (by decide) (fun _ => rfl) hf (fun x5 hf => ?_)
  refine Ev.sub [1, 2, 3, 4, 0] rfl ?_
  refine f_X8_shareOfTwelfths_L3_ok  _ _ _ _ _ _ _ hf (fun μ36 a37 a38 x39 x40 hf => ?_)
  · refine E_aload_n (pc := 65) dX8_shareOfTwelfths_65 rfl ?_
    refine E_aload_n (pc := 66) dX8_shareOfTwelfths_66 rfl ?_
    refine E_iload_n (pc := 67) dX8_shareOfTwelfths_67 rfl ?_
    refine E_iload_n (pc := 68) dX8_shareOfTwelfths_68 rfl ?_
    refine E_Vl (pc := 69) (d2 := D_X8_shareFrom) (ci := 8) [.ref a38, .int x39, .int x40] dX8_shareOfTwelfths_69 ml_X8_79 mf_X8_shareFrom im_X8_shareFrom rfl rfl rfl (by decide) (Nat.le_of_ble_eq_true rfl) (Nat.le_of_ble_eq_true rfl) rfl (fun _ _ h => f_X8_shareFrom_ok h) hf (fun v42 μ41 hf => ?_)
    exact E_lret (pc := 72) dX8_shareOfTwelfths_72 rfl hf
theorem dX8_commonDivisor_0 : decode cX8_commonDivisor 0 = .ok (.lload_n 0, 1) := by decide +kernel
theorem dX8_commonDivisor_1 : decode cX8_commonDivisor 1 = .ok (.lstore 4, 2) := by decide +kernel
theorem dX8_commonDivisor_3 : decode cX8_commonDivisor 3 = .ok (.lload_n 2, 1) := by decide +kernel
theorem dX8_commonDivisor_4 : decode cX8_commonDivisor 4 = .ok (.lstore 6, 2) := by decide +kernel
theorem dX8_commonDivisor_6 : decode cX8_commonDivisor 6 = .ok (.iconst 0, 1) := by decide +kernel
theorem dX8_commonDivisor_7 : decode cX8_commonDivisor 7 = .ok (.istore 8, 2) := by decide +kernel
theorem dX8_commonDivisor_9 : decode cX8_commonDivisor 9 = .ok (.iload 8, 2) := by decide +kernel
theorem dX8_commonDivisor_11 : decode cX8_commonDivisor 11 = .ok (.sipush 400, 3) := by decide +kernel
theorem dX8_commonDivisor_14 : decode cX8_commonDivisor 14 = .ok (.if_icmp .ge 31, 3) := by decide +kernel
theorem dX8_commonDivisor_17 : decode cX8_commonDivisor 17 = .ok (.lload 6, 2) := by decide +kernel
theorem dX8_commonDivisor_19 : decode cX8_commonDivisor 19 = .ok (.lconst 0, 1) := by decide +kernel
theorem dX8_commonDivisor_20 : decode cX8_commonDivisor 20 = .ok (.lcmp, 1) := by decide +kernel
theorem dX8_commonDivisor_21 : decode cX8_commonDivisor 21 = .ok (.ifCond .eq 24, 3) := by decide +kernel
theorem dX8_commonDivisor_24 : decode cX8_commonDivisor 24 = .ok (.lload 4, 2) := by decide +kernel
theorem dX8_commonDivisor_26 : decode cX8_commonDivisor 26 = .ok (.lload 6, 2) := by decide +kernel
theorem dX8_commonDivisor_28 : decode cX8_commonDivisor 28 = .ok (.lrem, 1) := by decide +kernel
theorem dX8_commonDivisor_29 : decode cX8_commonDivisor 29 = .ok (.lstore 9, 2) := by decide +kernel
theorem dX8_commonDivisor_31 : decode cX8_commonDivisor 31 = .ok (.lload 6, 2) := by decide +kernel
theorem dX8_commonDivisor_33 : decode cX8_commonDivisor 33 = .ok (.lstore 4, 2) := by decide +kernel
theorem dX8_commonDivisor_35 : decode cX8_commonDivisor 35 = .ok (.lload 9, 2) := by decide +kernel
theorem dX8_commonDivisor_37 : decode cX8_commonDivisor 37 = .ok (.lstore 6, 2) := by decide +kernel
theorem dX8_commonDivisor_39 : decode cX8_commonDivisor 39 = .ok (.iinc 8 1, 3) := by decide +kernel
theorem dX8_commonDivisor_42 : decode cX8_commonDivisor 42 = .ok (.goto (-33), 3) := by decide +kernel
theorem dX8_commonDivisor_45 : decode cX8_commonDivisor 45 = .ok (.lload 4, 2) := by decide +kernel
theorem dX8_commonDivisor_47 : decode cX8_commonDivisor 47 = .ok (.lreturn, 1) := by decide +kernel
abbrev D_X8_commonDivisor : Nat := 1
def f_X8_commonDivisor_L9 (K45 : Mm → Int64 → Option (Int64 × Mm)) : Nat → Mm → Int64 → Int64 → Int32 → Option (Int64 × Mm)
  | 0, _, _, _, _ => none
  | n + 1, μ0, w6, w7, x8 =>
    (if (400 : Int32) ≤ x8 then
    K45 μ0 w6
    else
    (if (lg_cmp w7 (0 : Int64)) = 0 then
    K45 μ0 w6
    else
    (rmL w6 w7 fun v9 =>
    (nm v9 fun w10 =>
    (nm w7 fun w11 =>
    (nm w10 fun w12 =>
    (nm (x8 + Int32.ofInt (1)) fun x13 =>
    f_X8_commonDivisor_L9 K45 n μ0 w11 w12 x13)))))))
set_option maxHeartbeats 4000000 in
set_option maxRecDepth 100000 in
theorem f_X8_commonDivisor_L9_ok {l : Launch} {G : GG} {K45 : Mm → Int64 → Option (Int64 × Mm)} {r : Int64} {μ' : Mm} (n : Nat) (μ0 : Mm) (w6 : Int64) (w7 : Int64) (x8 : Int32) (hf : f_X8_commonDivisor_L9 K45 n μ0 w6 w7 x8 = some (r, μ')) (hK45 : ∀ (μ1 : Mm) (y4 : Int64), K45 μ1 y4 = some (r, μ') → Ev l G D_X8_commonDivisor yX8_commonDivisor cX8_commonDivisor 11 (some .long) 45 [(4, .long y4)] [] μ1 (some (.long r)) μ') : Ev l G D_X8_commonDivisor yX8_commonDivisor cX8_commonDivisor 11 (some .long) 9 [(4, .long w6), (6, .long w7), (8, .int x8)] [] μ0 (some (.long r)) μ' := by
  induction n generalizing μ0 w6 w7 x8 with
  | zero => cases hf
  | succ n ih0 =>
    have ih : ∀ (μ0 : Mm) (w6 : Int64) (w7 : Int64) (x8 : Int32), f_X8_commonDivisor_L9 K45 n μ0 w6 w7 x8 = some (r, μ') → Ev l G D_X8_commonDivisor yX8_commonDivisor cX8_commonDivisor 11 (some .long) 9 [(4, .long w6), (6, .long w7), (8, .int x8)] [] μ0 (some (.long r)) μ' := fun μ0 w6 w7 x8 hf => ih0 μ0 w6 w7 x8 hf
    rw [f_X8_commonDivisor_L9] at hf
    refine E_iload (pc := 9) dX8_commonDivisor_9 rfl ?_
    refine E_sipush (pc := 11) (v := (400 : Int32)) dX8_commonDivisor_11 (by decide) ?_
    refine E_icmp_ge (pc := 14) (tgt := 45) dX8_commonDivisor_14 (by decide) hf (fun hf => ?_) (fun hf => ?_)
    · refine Ev.sub [0] rfl ?_
      exact hK45 _ _ hf
    · refine E_lload (pc := 17) dX8_commonDivisor_17 rfl ?_
      refine E_lconst (pc := 19) (v := (0 : Int64)) dX8_commonDivisor_19 (by decide) ?_
      refine E_lcmp (pc := 20) dX8_commonDivisor_20 ?_
      refine E_if_eq (pc := 21) (tgt := 45) dX8_commonDivisor_21 (by decide) hf (fun hf => ?_) (fun hf => ?_)
      · refine Ev.sub [0] rfl ?_
        exact hK45 _ _ hf
      · refine E_lload (pc := 24) dX8_commonDivisor_24 rfl ?_
        refine E_lload (pc := 26) dX8_commonDivisor_26 rfl ?_
        refine E_lrem2 (pc := 28) dX8_commonDivisor_28 hf (fun v9 hf => ?_)
        refine E_lstore (pc := 29) (ls' := fun w10 => [(9, .long w10), (4, .long w6), (6, .long w7), (8, .int x8)]) dX8_commonDivisor_29 (by decide) (fun _ => rfl) hf (fun w10 hf => ?_)
        refine E_lload (pc := 31) dX8_commonDivisor_31 rfl ?_
        refine E_lstore (pc := 33) (ls' := fun w11 => [(4, .long w11), (9, .long w10), (6, .long w7), (8, .int x8)]) dX8_commonDivisor_33 (by decide) (fun _ => rfl) hf (fun w11 hf => ?_)
        refine E_lload (pc := 35) dX8_commonDivisor_35 rfl ?_
        refine E_lstore (pc := 37) (ls' := fun w12 => [(6, .long w12), (4, .long w11), (9, .long w10), (8, .int x8)]) dX8_commonDivisor_37 (by decide) (fun _ => rfl) hf (fun w12 hf => ?_)
        refine E_iinc (pc := 39) (ls' := fun x13 => [(8, .int x13), (6, .long w12), (4, .long w11), (9, .long w10)]) dX8_commonDivisor_39 rfl (by decide) (fun _ => rfl) hf (fun x13 hf => ?_)
        refine E_goto (pc := 42) (tgt := 9) dX8_commonDivisor_42 (by decide) ?_
        refine Ev.sub [2, 1, 0] rfl ?_
        exact ih _ _ _ _ hf
set_option maxRecDepth 100000 in
def f_X8_commonDivisor (μ0 : Mm) (w1 : Int64) (w2 : Int64) : Option (Int64 × Mm) :=
 (nm w1 fun w3 =>
    (nm w2 fun w4 =>
    (nm (0 : Int32) fun x5 =>
    f_X8_commonDivisor_L9 (fun μ14 w15 =>
    (some (w15, μ14))) FU μ0 w3 w4 x5)))
set_option maxHeartbeats 4000000 in
set_option maxRecDepth 100000 in
theorem f_X8_commonDivisor_ok {l : Launch} {G : GG} {μ0 : Mm} {w1 : Int64} {w2 : Int64} {r : Int64} {μ' : Mm} (hf : f_X8_commonDivisor μ0 w1 w2 = some (r, μ')) : EvM l G D_X8_commonDivisor yX8_commonDivisor cX8_commonDivisor 11 (some .long) [.long w1, .long w2] μ0 (some (.long r)) μ' := by
  show Ev l G D_X8_commonDivisor yX8_commonDivisor cX8_commonDivisor 11 (some .long) 0 [(0, .long w1), (2, .long w2)] [] μ0 (some (.long r)) μ'
  unfold f_X8_commonDivisor at hf
  refine E_lload_n (pc := 0) dX8_commonDivisor_0 rfl ?_
  refine E_lstore (pc := 1) (ls' := fun w3 => [(4, .long w3), (0, .long w1), (2, .long w2)]) dX8_commonDivisor_1 (by decide) (fun _ => rfl) hf (fun w3 hf => ?_)
  refine E_lload_n (pc := 3) dX8_commonDivisor_3 rfl ?_
  refine E_lstore (pc := 4) (ls' := fun w4 => [(6, .long w4), (4, .long w3), (0, .long w1), (2, .long w2)]) dX8_commonDivisor_4 (by decide) (fun _ => rfl) hf (fun w4 hf => ?_)
  refine E_iconst (pc := 6) (v := (0 : Int32)) dX8_commonDivisor_6 (by decide) ?_
  refine E_istore (pc := 7) (ls' := fun x5 => [(8, .int x5), (6, .long w4), (4, .long w3), (0, .long w1), (2, .long w2)]) dX8_commonDivisor_7 (by decide) (fun _ => rfl) hf (fun x5 hf => ?_)
  refine Ev.sub [2, 1, 0] rfl ?_
  refine f_X8_commonDivisor_L9_ok  _ _ _ _ _ hf (fun μ14 w15 hf => ?_)
  · refine E_lload (pc := 45) dX8_commonDivisor_45 rfl ?_
    exact E_lret (pc := 47) dX8_commonDivisor_47 rfl hf
