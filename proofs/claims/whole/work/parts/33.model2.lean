theorem dX12_value_0 : decode cX12_value 0 = .ok (.aload_n 0, 1) := by decide +kernel
theorem dX12_value_1 : decode cX12_value 1 = .ok (.invokevirtual 236, 3) := by decide +kernel
theorem dX12_value_4 : decode cX12_value 4 = .ok (.aload_n 0, 1) := by decide +kernel
theorem dX12_value_5 : decode cX12_value 5 = .ok (.getfield 217, 3) := by decide +kernel
theorem dX12_value_8 : decode cX12_value 8 = .ok (.istore_n 1, 1) := by decide +kernel
theorem dX12_value_9 : decode cX12_value 9 = .ok (.aload_n 0, 1) := by decide +kernel
theorem dX12_value_10 : decode cX12_value 10 = .ok (.invokevirtual 256, 3) := by decide +kernel
theorem dX12_value_13 : decode cX12_value 13 = .ok (.ifCond .eq 23, 3) := by decide +kernel
theorem dX12_value_16 : decode cX12_value 16 = .ok (.aload_n 0, 1) := by decide +kernel
theorem dX12_value_17 : decode cX12_value 17 = .ok (.ldc_w 260, 3) := by decide +kernel
theorem dX12_value_20 : decode cX12_value 20 = .ok (.invokevirtual 261, 3) := by decide +kernel
theorem dX12_value_23 : decode cX12_value 23 = .ok (.istore_n 2, 1) := by decide +kernel
theorem dX12_value_24 : decode cX12_value 24 = .ok (.aload_n 0, 1) := by decide +kernel
theorem dX12_value_25 : decode cX12_value 25 = .ok (.iload_n 1, 1) := by decide +kernel
theorem dX12_value_26 : decode cX12_value 26 = .ok (.invokevirtual 265, 3) := by decide +kernel
theorem dX12_value_29 : decode cX12_value 29 = .ok (.aload_n 0, 1) := by decide +kernel
theorem dX12_value_30 : decode cX12_value 30 = .ok (.iconst 0, 1) := by decide +kernel
theorem dX12_value_31 : decode cX12_value 31 = .ok (.iload_n 2, 1) := by decide +kernel
theorem dX12_value_32 : decode cX12_value 32 = .ok (.invokevirtual 268, 3) := by decide +kernel
theorem dX12_value_35 : decode cX12_value 35 = .ok (.return_, 1) := by decide +kernel
theorem dX12_value_36 : decode cX12_value 36 = .ok (.iconst 0, 1) := by decide +kernel
theorem dX12_value_37 : decode cX12_value 37 = .ok (.istore_n 2, 1) := by decide +kernel
theorem dX12_value_38 : decode cX12_value 38 = .ok (.iload_n 2, 1) := by decide +kernel
theorem dX12_value_39 : decode cX12_value 39 = .ok (.aload_n 0, 1) := by decide +kernel
theorem dX12_value_40 : decode cX12_value 40 = .ok (.getfield 88, 3) := by decide +kernel
theorem dX12_value_43 : decode cX12_value 43 = .ok (.if_icmp .ge 20, 3) := by decide +kernel
theorem dX12_value_46 : decode cX12_value 46 = .ok (.aload_n 0, 1) := by decide +kernel
theorem dX12_value_47 : decode cX12_value 47 = .ok (.iload_n 2, 1) := by decide +kernel
theorem dX12_value_48 : decode cX12_value 48 = .ok (.invokestatic 271, 3) := by decide +kernel
theorem dX12_value_51 : decode cX12_value 51 = .ok (.invokevirtual 239, 3) := by decide +kernel
theorem dX12_value_54 : decode cX12_value 54 = .ok (.ifCond .ne 9, 3) := by decide +kernel
theorem dX12_value_57 : decode cX12_value 57 = .ok (.iinc 2 1, 3) := by decide +kernel
theorem dX12_value_60 : decode cX12_value 60 = .ok (.goto (-22), 3) := by decide +kernel
theorem dX12_value_63 : decode cX12_value 63 = .ok (.iload_n 2, 1) := by decide +kernel
theorem dX12_value_64 : decode cX12_value 64 = .ok (.aload_n 0, 1) := by decide +kernel
theorem dX12_value_65 : decode cX12_value 65 = .ok (.getfield 88, 3) := by decide +kernel
theorem dX12_value_68 : decode cX12_value 68 = .ok (.if_icmp .ne 10, 3) := by decide +kernel
theorem dX12_value_71 : decode cX12_value 71 = .ok (.aload_n 0, 1) := by decide +kernel
theorem dX12_value_72 : decode cX12_value 72 = .ok (.iconst 0, 1) := by decide +kernel
theorem dX12_value_73 : decode cX12_value 73 = .ok (.iload_n 1, 1) := by decide +kernel
theorem dX12_value_74 : decode cX12_value 74 = .ok (.invokevirtual 252, 3) := by decide +kernel
theorem dX12_value_77 : decode cX12_value 77 = .ok (.return_, 1) := by decide +kernel
theorem dX12_value_78 : decode cX12_value 78 = .ok (.aload_n 0, 1) := by decide +kernel
theorem dX12_value_79 : decode cX12_value 79 = .ok (.iload_n 1, 1) := by decide +kernel
theorem dX12_value_80 : decode cX12_value 80 = .ok (.invokevirtual 265, 3) := by decide +kernel
theorem dX12_value_83 : decode cX12_value 83 = .ok (.aload_n 0, 1) := by decide +kernel
theorem dX12_value_84 : decode cX12_value 84 = .ok (.dup, 1) := by decide +kernel
theorem dX12_value_85 : decode cX12_value 85 = .ok (.getfield 217, 3) := by decide +kernel
theorem dX12_value_88 : decode cX12_value 88 = .ok (.iload_n 2, 1) := by decide +kernel
theorem dX12_value_89 : decode cX12_value 89 = .ok (.invokestatic 271, 3) := by decide +kernel
theorem dX12_value_92 : decode cX12_value 92 = .ok (.invokevirtual 227, 3) := by decide +kernel
theorem dX12_value_95 : decode cX12_value 95 = .ok (.iadd, 1) := by decide +kernel
theorem dX12_value_96 : decode cX12_value 96 = .ok (.putfield 217, 3) := by decide +kernel
theorem dX12_value_99 : decode cX12_value 99 = .ok (.aload_n 0, 1) := by decide +kernel
theorem dX12_value_100 : decode cX12_value 100 = .ok (.iconst 1, 1) := by decide +kernel
theorem dX12_value_101 : decode cX12_value 101 = .ok (.iload_n 2, 1) := by decide +kernel
theorem dX12_value_102 : decode cX12_value 102 = .ok (.invokevirtual 268, 3) := by decide +kernel
theorem dX12_value_105 : decode cX12_value 105 = .ok (.return_, 1) := by decide +kernel
abbrev D_X12_value : Nat := 8
def f_X12_value_L38 (K63 : Mm → Nat → Int32 → Int32 → Option Mm) : Nat → Mm → Nat → Int32 → Int32 → Option Mm
  | 0, _, _, _, _ => none
  | n + 1, μ0, a8, x9, x10 =>
    ((gI μ0 a8 12 37).bind fun v11 =>
    (if v11 ≤ x10 then
    K63 μ0 a8 x9 x10
    else
    (bd (f_X12_wordOf μ0 x10) fun v13 μ12 =>
    ((ob μ12 a8 12).bind fun _ =>
    (bd (f_X12_stood μ12 a8 v13) fun v15 μ14 =>
    (if v15 = 0 then
    (nm (x10 + Int32.ofInt (1)) fun x16 =>
    f_X12_value_L38 K63 n μ14 a8 x9 x16)
    else
    K63 μ14 a8 x9 x10))))))
set_option maxHeartbeats 4000000 in
set_option maxRecDepth 100000 in
theorem f_X12_value_L38_ok {l : Launch} {G : GG} {K63 : Mm → Nat → Int32 → Int32 → Option Mm} {μ' : Mm} (n : Nat) (μ0 : Mm) (a8 : Nat) (x9 : Int32) (x10 : Int32) (hf : f_X12_value_L38 K63 n μ0 a8 x9 x10 = some μ') (hK63 : ∀ (μ1 : Mm) (y0 : Nat) (y1 : Int32) (y2 : Int32), K63 μ1 y0 y1 y2 = some μ' → Ev l G D_X12_value yX12_value cX12_value 3 none 63 [(0, .ref y0), (1, .int y1), (2, .int y2)] [] μ1 none μ') : Ev l G D_X12_value yX12_value cX12_value 3 none 38 [(0, .ref a8), (1, .int x9), (2, .int x10)] [] μ0 none μ' := by
  induction n generalizing μ0 a8 x9 x10 with
  | zero => cases hf
  | succ n ih0 =>
    have ih : ∀ (μ0 : Mm) (a8 : Nat) (x9 : Int32) (x10 : Int32), f_X12_value_L38 K63 n μ0 a8 x9 x10 = some μ' → Ev l G D_X12_value yX12_value cX12_value 3 none 38 [(0, .ref a8), (1, .int x9), (2, .int x10)] [] μ0 none μ' := fun μ0 a8 x9 x10 hf => ih0 μ0 a8 x9 x10 hf
    rw [f_X12_value_L38] at hf
    refine E_iload_n (pc := 38) dX12_value_38 rfl ?_
    refine E_aload_n (pc := 39) dX12_value_39 rfl ?_
    refine E_getI (pc := 40) dX12_value_40 fl_X12_88 hf (fun v11 hf => ?_)
    refine E_icmp_ge (pc := 43) (tgt := 63) dX12_value_43 (by decide) hf (fun hf => ?_) (fun hf => ?_)
    · refine Ev.sub [0, 1, 2] rfl ?_
      exact hK63 _ _ _ _ hf
    · refine E_aload_n (pc := 46) dX12_value_46 rfl ?_
      refine E_iload_n (pc := 47) dX12_value_47 rfl ?_
      refine E_Sr (pc := 48) (d2 := D_X12_wordOf) [.int x10] dX12_value_48 ml_X12_271 mf_X12_wordOf st_X12_wordOf rfl (by decide) (Nat.le_of_ble_eq_true rfl) (Nat.le_of_ble_eq_true rfl) rfl (fun _ _ h => f_X12_wordOf_ok h) hf (fun v13 μ12 hf => ?_)
      refine E_Vi (pc := 51) (d2 := D_X12_stood) (ci := 12) [.ref v13] dX12_value_51 ml_X12_239 mf_X12_stood im_X12_stood rfl rfl rfl (by decide) (Nat.le_of_ble_eq_true rfl) (Nat.le_of_ble_eq_true rfl) rfl (fun _ _ h => f_X12_stood_ok h) hf (fun v15 μ14 hf => ?_)
      refine E_if_ne (pc := 54) (tgt := 63) dX12_value_54 (by decide) hf (fun hf => ?_) (fun hf => ?_)
      · refine E_iinc (pc := 57) (ls' := fun x16 => [(2, .int x16), (0, .ref a8), (1, .int x9)]) dX12_value_57 rfl (by decide) (fun _ => rfl) hf (fun x16 hf => ?_)
        refine E_goto (pc := 60) (tgt := 38) dX12_value_60 (by decide) ?_
        refine Ev.sub [1, 2, 0] rfl ?_
        exact ih _ _ _ _ hf
      · refine Ev.sub [0, 1, 2] rfl ?_
        exact hK63 _ _ _ _ hf
set_option maxRecDepth 100000 in
def f_X12_value (μ0 : Mm) (a1 : Nat) : Option Mm :=
 ((ob μ0 a1 12).bind fun _ =>
    ((f_X12_blanks μ0 a1).bind fun μ2 =>
    ((gI μ2 a1 12 29).bind fun v3 =>
    (nm v3 fun x4 =>
    ((ob μ2 a1 12).bind fun _ =>
    (bd (f_X12_isDigit μ2 a1) fun v6 μ5 =>
    (if v6 = 0 then
    (nm (0 : Int32) fun x7 =>
    f_X12_value_L38 (fun μ17 a18 x19 x20 =>
    ((gI μ17 a18 12 37).bind fun v21 =>
    (if x20 = v21 then
    ((ob μ17 a18 12).bind fun _ =>
    ((f_X12_fails μ17 a18 (0 : Int32) x19).bind fun μ22 =>
    (some μ22)))
    else
    ((ob μ17 a18 12).bind fun _ =>
    ((f_X12_isCounted μ17 a18 x19).bind fun μ23 =>
    ((gI μ23 a18 12 29).bind fun v24 =>
    (bd (f_X12_wordOf μ23 x20) fun v26 μ25 =>
    ((tL v26).bind fun v27 =>
    ((pV μ25 a18 12 29 (.int (v24 + v27))).bind fun μ28 =>
    ((ob μ28 a18 12).bind fun _ =>
    ((f_X12_entry μ28 a18 (1 : Int32) x20).bind fun μ29 =>
    (some μ29)))))))))))) FU μ5 a1 x4 x7)
    else
    ((ob μ5 a1 12).bind fun _ =>
    (bd (f_X12_digits μ5 a1 (99999 : Int32)) fun v31 μ30 =>
    (nm v31 fun x32 =>
    ((ob μ30 a1 12).bind fun _ =>
    ((f_X12_isCounted μ30 a1 x4).bind fun μ33 =>
    ((ob μ33 a1 12).bind fun _ =>
    ((f_X12_entry μ33 a1 (0 : Int32) x32).bind fun μ34 =>
    (some μ34)))))))))))))))
set_option maxHeartbeats 4000000 in
set_option maxRecDepth 100000 in
theorem f_X12_value_ok {l : Launch} {G : GG} {μ0 : Mm} {a1 : Nat} {μ' : Mm} (hf : f_X12_value μ0 a1 = some μ') : EvM l G D_X12_value yX12_value cX12_value 3 none [.ref a1] μ0 none μ' := by
  show Ev l G D_X12_value yX12_value cX12_value 3 none 0 [(0, .ref a1)] [] μ0 none μ'
  unfold f_X12_value at hf
  refine E_aload_n (pc := 0) dX12_value_0 rfl ?_
  refine E_Vv (pc := 1) (d2 := D_X12_blanks) (ci := 12) [] dX12_value_1 ml_X12_236 mf_X12_blanks im_X12_blanks rfl rfl rfl (by decide) (Nat.le_of_ble_eq_true rfl) (Nat.le_of_ble_eq_true rfl) rfl (fun _ h => f_X12_blanks_ok h) hf (fun μ2 hf => ?_)
  refine E_aload_n (pc := 4) dX12_value_4 rfl ?_
  refine E_getI (pc := 5) dX12_value_5 fl_X12_217 hf (fun v3 hf => ?_)
  refine E_istore_n (pc := 8) (ls' := fun x4 => [(1, .int x4), (0, .ref a1)]) dX12_value_8 (by decide) (fun _ => rfl) hf (fun x4 hf => ?_)
  refine E_aload_n (pc := 9) dX12_value_9 rfl ?_
  refine E_Vi (pc := 10) (d2 := D_X12_isDigit) (ci := 12) [] dX12_value_10 ml_X12_256 mf_X12_isDigit im_X12_isDigit rfl rfl rfl (by decide) (Nat.le_of_ble_eq_true rfl) (Nat.le_of_ble_eq_true rfl) rfl (fun _ _ h => f_X12_isDigit_ok h) hf (fun v6 μ5 hf => ?_)
  refine E_if_eq (pc := 13) (tgt := 36) dX12_value_13 (by decide) hf (fun hf => ?_) (fun hf => ?_)
  · refine E_iconst (pc := 36) (v := (0 : Int32)) dX12_value_36 (by decide) ?_
    refine E_istore_n (pc := 37) (ls' := fun x7 => [(2, .int x7), (1, .int x4), (0, .ref a1)]) dX12_value_37 (by decide) (fun _ => rfl) hf (fun x7 hf => ?_)
    refine Ev.sub [2, 1, 0] rfl ?_
    refine f_X12_value_L38_ok  _ _ _ _ _ hf (fun μ17 a18 x19 x20 hf => ?_)
    · refine E_iload_n (pc := 63) dX12_value_63 rfl ?_
      refine E_aload_n (pc := 64) dX12_value_64 rfl ?_
      refine E_getI (pc := 65) dX12_value_65 fl_X12_88 hf (fun v21 hf => ?_)
      refine E_icmp_ne (pc := 68) (tgt := 78) dX12_value_68 (by decide) hf (fun hf => ?_) (fun hf => ?_)
      · refine E_aload_n (pc := 71) dX12_value_71 rfl ?_
        refine E_iconst (pc := 72) (v := (0 : Int32)) dX12_value_72 (by decide) ?_
        refine E_iload_n (pc := 73) dX12_value_73 rfl ?_
        refine E_Vv (pc := 74) (d2 := D_X12_fails) (ci := 12) [.int (0 : Int32), .int x19] dX12_value_74 ml_X12_252 mf_X12_fails im_X12_fails rfl rfl rfl (by decide) (Nat.le_of_ble_eq_true rfl) (Nat.le_of_ble_eq_true rfl) rfl (fun _ h => f_X12_fails_ok h) hf (fun μ22 hf => ?_)
        exact E_vret (pc := 77) dX12_value_77 rfl hf
      · refine E_aload_n (pc := 78) dX12_value_78 rfl ?_
        refine E_iload_n (pc := 79) dX12_value_79 rfl ?_
        refine E_Vv (pc := 80) (d2 := D_X12_isCounted) (ci := 12) [.int x19] dX12_value_80 ml_X12_265 mf_X12_isCounted im_X12_isCounted rfl rfl rfl (by decide) (Nat.le_of_ble_eq_true rfl) (Nat.le_of_ble_eq_true rfl) rfl (fun _ h => f_X12_isCounted_ok h) hf (fun μ23 hf => ?_)
        refine E_aload_n (pc := 83) dX12_value_83 rfl ?_
        refine E_dup (pc := 84) dX12_value_84 rfl ?_
        refine E_getI (pc := 85) dX12_value_85 fl_X12_217 hf (fun v24 hf => ?_)
        refine E_iload_n (pc := 88) dX12_value_88 rfl ?_
        refine E_Sr (pc := 89) (d2 := D_X12_wordOf) [.int x20] dX12_value_89 ml_X12_271 mf_X12_wordOf st_X12_wordOf rfl (by decide) (Nat.le_of_ble_eq_true rfl) (Nat.le_of_ble_eq_true rfl) rfl (fun _ _ h => f_X12_wordOf_ok h) hf (fun v26 μ25 hf => ?_)
        refine E_slen (pc := 92) dX12_value_92 ml_X12_227 (by decide) (Nat.le_of_ble_eq_true rfl) hf (fun v27 hf => ?_)
        refine E_iadd (pc := 95) dX12_value_95 ?_
        refine E_putI (pc := 96) dX12_value_96 (pl_X12_217 _) hf (fun μ28 hf => ?_)
        refine E_aload_n (pc := 99) dX12_value_99 rfl ?_
        refine E_iconst (pc := 100) (v := (1 : Int32)) dX12_value_100 (by decide) ?_
        refine E_iload_n (pc := 101) dX12_value_101 rfl ?_
        refine E_Vv (pc := 102) (d2 := D_X12_entry) (ci := 12) [.int (1 : Int32), .int x20] dX12_value_102 ml_X12_268 mf_X12_entry im_X12_entry rfl rfl rfl (by decide) (Nat.le_of_ble_eq_true rfl) (Nat.le_of_ble_eq_true rfl) rfl (fun _ h => f_X12_entry_ok h) hf (fun μ29 hf => ?_)
        exact E_vret (pc := 105) dX12_value_105 rfl hf
  · refine E_aload_n (pc := 16) dX12_value_16 rfl ?_
    refine E_ldcw (pc := 17) (v := (99999 : Int32)) dX12_value_17 co_X12_260 ?_
    refine E_Vi (pc := 20) (d2 := D_X12_digits) (ci := 12) [.int (99999 : Int32)] dX12_value_20 ml_X12_261 mf_X12_digits im_X12_digits rfl rfl rfl (by decide) (Nat.le_of_ble_eq_true rfl) (Nat.le_of_ble_eq_true rfl) rfl (fun _ _ h => f_X12_digits_ok h) hf (fun v31 μ30 hf => ?_)
    refine E_istore_n (pc := 23) (ls' := fun x32 => [(2, .int x32), (1, .int x4), (0, .ref a1)]) dX12_value_23 (by decide) (fun _ => rfl) hf (fun x32 hf => ?_)
    refine E_aload_n (pc := 24) dX12_value_24 rfl ?_
    refine E_iload_n (pc := 25) dX12_value_25 rfl ?_
    refine E_Vv (pc := 26) (d2 := D_X12_isCounted) (ci := 12) [.int x4] dX12_value_26 ml_X12_265 mf_X12_isCounted im_X12_isCounted rfl rfl rfl (by decide) (Nat.le_of_ble_eq_true rfl) (Nat.le_of_ble_eq_true rfl) rfl (fun _ h => f_X12_isCounted_ok h) hf (fun μ33 hf => ?_)
    refine E_aload_n (pc := 29) dX12_value_29 rfl ?_
    refine E_iconst (pc := 30) (v := (0 : Int32)) dX12_value_30 (by decide) ?_
    refine E_iload_n (pc := 31) dX12_value_31 rfl ?_
    refine E_Vv (pc := 32) (d2 := D_X12_entry) (ci := 12) [.int (0 : Int32), .int x32] dX12_value_32 ml_X12_268 mf_X12_entry im_X12_entry rfl rfl rfl (by decide) (Nat.le_of_ble_eq_true rfl) (Nat.le_of_ble_eq_true rfl) rfl (fun _ h => f_X12_entry_ok h) hf (fun μ34 hf => ?_)
    exact E_vret (pc := 35) dX12_value_35 rfl hf
theorem dX12_term_0 : decode cX12_term 0 = .ok (.aload_n 0, 1) := by decide +kernel
theorem dX12_term_1 : decode cX12_term 1 = .ok (.invokevirtual 275, 3) := by decide +kernel
theorem dX12_term_4 : decode cX12_term 4 = .ok (.aload_n 0, 1) := by decide +kernel
theorem dX12_term_5 : decode cX12_term 5 = .ok (.invokevirtual 236, 3) := by decide +kernel
theorem dX12_term_8 : decode cX12_term 8 = .ok (.aload_n 0, 1) := by decide +kernel
theorem dX12_term_9 : decode cX12_term 9 = .ok (.getfield 214, 3) := by decide +kernel
theorem dX12_term_12 : decode cX12_term 12 = .ok (.ifCond .ne 88, 3) := by decide +kernel
theorem dX12_term_15 : decode cX12_term 15 = .ok (.aload_n 0, 1) := by decide +kernel
theorem dX12_term_16 : decode cX12_term 16 = .ok (.invokevirtual 220, 3) := by decide +kernel
theorem dX12_term_19 : decode cX12_term 19 = .ok (.bipush 42, 2) := by decide +kernel
theorem dX12_term_21 : decode cX12_term 21 = .ok (.if_icmp .eq 21, 3) := by decide +kernel
theorem dX12_term_24 : decode cX12_term 24 = .ok (.aload_n 0, 1) := by decide +kernel
theorem dX12_term_25 : decode cX12_term 25 = .ok (.invokevirtual 220, 3) := by decide +kernel
theorem dX12_term_28 : decode cX12_term 28 = .ok (.bipush 47, 2) := by decide +kernel
theorem dX12_term_30 : decode cX12_term 30 = .ok (.if_icmp .eq 12, 3) := by decide +kernel
theorem dX12_term_33 : decode cX12_term 33 = .ok (.aload_n 0, 1) := by decide +kernel
theorem dX12_term_34 : decode cX12_term 34 = .ok (.invokevirtual 220, 3) := by decide +kernel
theorem dX12_term_37 : decode cX12_term 37 = .ok (.bipush 37, 2) := by decide +kernel
theorem dX12_term_39 : decode cX12_term 39 = .ok (.if_icmp .ne 61, 3) := by decide +kernel
theorem dX12_term_42 : decode cX12_term 42 = .ok (.aload_n 0, 1) := by decide +kernel
theorem dX12_term_43 : decode cX12_term 43 = .ok (.invokevirtual 220, 3) := by decide +kernel
theorem dX12_term_46 : decode cX12_term 46 = .ok (.bipush 42, 2) := by decide +kernel
theorem dX12_term_48 : decode cX12_term 48 = .ok (.if_icmp .ne 8, 3) := by decide +kernel
theorem dX12_term_51 : decode cX12_term 51 = .ok (.bipush 13, 2) := by decide +kernel
theorem dX12_term_53 : decode cX12_term 53 = .ok (.goto 19, 3) := by decide +kernel
theorem dX12_term_56 : decode cX12_term 56 = .ok (.aload_n 0, 1) := by decide +kernel
theorem dX12_term_57 : decode cX12_term 57 = .ok (.invokevirtual 220, 3) := by decide +kernel
theorem dX12_term_60 : decode cX12_term 60 = .ok (.bipush 47, 2) := by decide +kernel
theorem dX12_term_62 : decode cX12_term 62 = .ok (.if_icmp .ne 8, 3) := by decide +kernel
theorem dX12_term_65 : decode cX12_term 65 = .ok (.bipush 14, 2) := by decide +kernel
theorem dX12_term_67 : decode cX12_term 67 = .ok (.goto 5, 3) := by decide +kernel
theorem dX12_term_70 : decode cX12_term 70 = .ok (.bipush 15, 2) := by decide +kernel
theorem dX12_term_72 : decode cX12_term 72 = .ok (.istore_n 1, 1) := by decide +kernel
theorem dX12_term_73 : decode cX12_term 73 = .ok (.aload_n 0, 1) := by decide +kernel
theorem dX12_term_74 : decode cX12_term 74 = .ok (.dup, 1) := by decide +kernel
theorem dX12_term_75 : decode cX12_term 75 = .ok (.getfield 217, 3) := by decide +kernel
theorem dX12_term_78 : decode cX12_term 78 = .ok (.iconst 1, 1) := by decide +kernel
theorem dX12_term_79 : decode cX12_term 79 = .ok (.iadd, 1) := by decide +kernel
theorem dX12_term_80 : decode cX12_term 80 = .ok (.putfield 217, 3) := by decide +kernel
theorem dX12_term_83 : decode cX12_term 83 = .ok (.aload_n 0, 1) := by decide +kernel
theorem dX12_term_84 : decode cX12_term 84 = .ok (.invokevirtual 275, 3) := by decide +kernel
theorem dX12_term_87 : decode cX12_term 87 = .ok (.aload_n 0, 1) := by decide +kernel
theorem dX12_term_88 : decode cX12_term 88 = .ok (.iload_n 1, 1) := by decide +kernel
theorem dX12_term_89 : decode cX12_term 89 = .ok (.iconst 0, 1) := by decide +kernel
theorem dX12_term_90 : decode cX12_term 90 = .ok (.invokevirtual 268, 3) := by decide +kernel
theorem dX12_term_93 : decode cX12_term 93 = .ok (.aload_n 0, 1) := by decide +kernel
theorem dX12_term_94 : decode cX12_term 94 = .ok (.invokevirtual 236, 3) := by decide +kernel
theorem dX12_term_97 : decode cX12_term 97 = .ok (.goto (-89), 3) := by decide +kernel
theorem dX12_term_100 : decode cX12_term 100 = .ok (.return_, 1) := by decide +kernel
abbrev D_X12_term : Nat := 9
def f_X12_term_L8 (K100 : Mm → Option Mm) : Nat → Mm → Nat → Option Mm
  | 0, _, _ => none
  | n + 1, μ0, a4 =>
    ((gI μ0 a4 12 30).bind fun v5 =>
    (if v5 = 0 then
    ((ob μ0 a4 12).bind fun _ =>
    (bd (f_X12_sign μ0 a4) fun v7 μ6 =>
    (if v7 = (42 : Int32) then
    ((ob μ6 a4 12).bind fun _ =>
    (bd (f_X12_sign μ6 a4) fun v9 μ8 =>
    (if v9 = (42 : Int32) then
    (nm (13 : Int32) fun x10 =>
    ((gI μ8 a4 12 29).bind fun v11 =>
    ((pV μ8 a4 12 29 (.int (v11 + (1 : Int32)))).bind fun μ12 =>
    ((ob μ12 a4 12).bind fun _ =>
    ((f_X12_value μ12 a4).bind fun μ13 =>
    ((ob μ13 a4 12).bind fun _ =>
    ((f_X12_entry μ13 a4 x10 (0 : Int32)).bind fun μ14 =>
    ((ob μ14 a4 12).bind fun _ =>
    ((f_X12_blanks μ14 a4).bind fun μ15 =>
    f_X12_term_L8 K100 n μ15 a4)))))))))
    else
    ((ob μ8 a4 12).bind fun _ =>
    (bd (f_X12_sign μ8 a4) fun v17 μ16 =>
    (if v17 = (47 : Int32) then
    (nm (14 : Int32) fun x18 =>
    ((gI μ16 a4 12 29).bind fun v19 =>
    ((pV μ16 a4 12 29 (.int (v19 + (1 : Int32)))).bind fun μ20 =>
    ((ob μ20 a4 12).bind fun _ =>
    ((f_X12_value μ20 a4).bind fun μ21 =>
    ((ob μ21 a4 12).bind fun _ =>
    ((f_X12_entry μ21 a4 x18 (0 : Int32)).bind fun μ22 =>
    ((ob μ22 a4 12).bind fun _ =>
    ((f_X12_blanks μ22 a4).bind fun μ23 =>
    f_X12_term_L8 K100 n μ23 a4)))))))))
    else
    (nm (15 : Int32) fun x24 =>
    ((gI μ16 a4 12 29).bind fun v25 =>
    ((pV μ16 a4 12 29 (.int (v25 + (1 : Int32)))).bind fun μ26 =>
    ((ob μ26 a4 12).bind fun _ =>
    ((f_X12_value μ26 a4).bind fun μ27 =>
    ((ob μ27 a4 12).bind fun _ =>
    ((f_X12_entry μ27 a4 x24 (0 : Int32)).bind fun μ28 =>
    ((ob μ28 a4 12).bind fun _ =>
    ((f_X12_blanks μ28 a4).bind fun μ29 =>
    f_X12_term_L8 K100 n μ29 a4)))))))))))))))
    else
    ((ob μ6 a4 12).bind fun _ =>
    (bd (f_X12_sign μ6 a4) fun v31 μ30 =>
    (if v31 = (47 : Int32) then
    ((ob μ30 a4 12).bind fun _ =>
    (bd (f_X12_sign μ30 a4) fun v33 μ32 =>
    (if v33 = (42 : Int32) then
    (nm (13 : Int32) fun x34 =>
    ((gI μ32 a4 12 29).bind fun v35 =>
    ((pV μ32 a4 12 29 (.int (v35 + (1 : Int32)))).bind fun μ36 =>
    ((ob μ36 a4 12).bind fun _ =>
    ((f_X12_value μ36 a4).bind fun μ37 =>
    ((ob μ37 a4 12).bind fun _ =>
    ((f_X12_entry μ37 a4 x34 (0 : Int32)).bind fun μ38 =>
    ((ob μ38 a4 12).bind fun _ =>
    ((f_X12_blanks μ38 a4).bind fun μ39 =>
    f_X12_term_L8 K100 n μ39 a4)))))))))
    else
    ((ob μ32 a4 12).bind fun _ =>
    (bd (f_X12_sign μ32 a4) fun v41 μ40 =>
    (if v41 = (47 : Int32) then
    (nm (14 : Int32) fun x42 =>
    ((gI μ40 a4 12 29).bind fun v43 =>
    ((pV μ40 a4 12 29 (.int (v43 + (1 : Int32)))).bind fun μ44 =>
    ((ob μ44 a4 12).bind fun _ =>
    ((f_X12_value μ44 a4).bind fun μ45 =>
    ((ob μ45 a4 12).bind fun _ =>
    ((f_X12_entry μ45 a4 x42 (0 : Int32)).bind fun μ46 =>
    ((ob μ46 a4 12).bind fun _ =>
    ((f_X12_blanks μ46 a4).bind fun μ47 =>
    f_X12_term_L8 K100 n μ47 a4)))))))))
    else
    (nm (15 : Int32) fun x48 =>
    ((gI μ40 a4 12 29).bind fun v49 =>
    ((pV μ40 a4 12 29 (.int (v49 + (1 : Int32)))).bind fun μ50 =>
    ((ob μ50 a4 12).bind fun _ =>
    ((f_X12_value μ50 a4).bind fun μ51 =>
    ((ob μ51 a4 12).bind fun _ =>
    ((f_X12_entry μ51 a4 x48 (0 : Int32)).bind fun μ52 =>
    ((ob μ52 a4 12).bind fun _ =>
    ((f_X12_blanks μ52 a4).bind fun μ53 =>
    f_X12_term_L8 K100 n μ53 a4)))))))))))))))
    else
    ((ob μ30 a4 12).bind fun _ =>
    (bd (f_X12_sign μ30 a4) fun v55 μ54 =>
    (if v55 = (37 : Int32) then
    ((ob μ54 a4 12).bind fun _ =>
    (bd (f_X12_sign μ54 a4) fun v57 μ56 =>
    (if v57 = (42 : Int32) then
    (nm (13 : Int32) fun x58 =>
    ((gI μ56 a4 12 29).bind fun v59 =>
    ((pV μ56 a4 12 29 (.int (v59 + (1 : Int32)))).bind fun μ60 =>
    ((ob μ60 a4 12).bind fun _ =>
    ((f_X12_value μ60 a4).bind fun μ61 =>
    ((ob μ61 a4 12).bind fun _ =>
    ((f_X12_entry μ61 a4 x58 (0 : Int32)).bind fun μ62 =>
    ((ob μ62 a4 12).bind fun _ =>
    ((f_X12_blanks μ62 a4).bind fun μ63 =>
    f_X12_term_L8 K100 n μ63 a4)))))))))
    else
    ((ob μ56 a4 12).bind fun _ =>
    (bd (f_X12_sign μ56 a4) fun v65 μ64 =>
    (if v65 = (47 : Int32) then
    (nm (14 : Int32) fun x66 =>
    ((gI μ64 a4 12 29).bind fun v67 =>
    ((pV μ64 a4 12 29 (.int (v67 + (1 : Int32)))).bind fun μ68 =>
    ((ob μ68 a4 12).bind fun _ =>
    ((f_X12_value μ68 a4).bind fun μ69 =>
    ((ob μ69 a4 12).bind fun _ =>
    ((f_X12_entry μ69 a4 x66 (0 : Int32)).bind fun μ70 =>
    ((ob μ70 a4 12).bind fun _ =>
    ((f_X12_blanks μ70 a4).bind fun μ71 =>
    f_X12_term_L8 K100 n μ71 a4)))))))))
    else
    (nm (15 : Int32) fun x72 =>
    ((gI μ64 a4 12 29).bind fun v73 =>
    ((pV μ64 a4 12 29 (.int (v73 + (1 : Int32)))).bind fun μ74 =>
    ((ob μ74 a4 12).bind fun _ =>
    ((f_X12_value μ74 a4).bind fun μ75 =>
    ((ob μ75 a4 12).bind fun _ =>
    ((f_X12_entry μ75 a4 x72 (0 : Int32)).bind fun μ76 =>
    ((ob μ76 a4 12).bind fun _ =>
    ((f_X12_blanks μ76 a4).bind fun μ77 =>
    f_X12_term_L8 K100 n μ77 a4)))))))))))))))
    else
    K100 μ54)))))))))
    else
    K100 μ0))
set_option maxHeartbeats 4000000 in
set_option maxRecDepth 100000 in
theorem f_X12_term_L8_ok {l : Launch} {G : GG} {K100 : Mm → Option Mm} {μ' : Mm} (n : Nat) (μ0 : Mm) (a4 : Nat) (hf : f_X12_term_L8 K100 n μ0 a4 = some μ') (hK100 : ∀ (μ1 : Mm), K100 μ1  = some μ' → Ev l G D_X12_term yX12_term cX12_term 2 none 100 [] [] μ1 none μ') : Ev l G D_X12_term yX12_term cX12_term 2 none 8 [(0, .ref a4)] [] μ0 none μ' := by
  induction n generalizing μ0 a4 with
  | zero => cases hf
  | succ n ih0 =>
    have ih : ∀ (μ0 : Mm) (a4 : Nat), f_X12_term_L8 K100 n μ0 a4 = some μ' → Ev l G D_X12_term yX12_term cX12_term 2 none 8 [(0, .ref a4)] [] μ0 none μ' := fun μ0 a4 hf => ih0 μ0 a4 hf
    rw [f_X12_term_L8] at hf
    refine E_aload_n (pc := 8) dX12_term_8 rfl ?_
    refine E_getI (pc := 9) dX12_term_9 fl_X12_214 hf (fun v5 hf => ?_)
    refine E_if_ne (pc := 12) (tgt := 100) dX12_term_12 (by decide) hf (fun hf => ?_) (fun hf => ?_)
    · refine E_aload_n (pc := 15) dX12_term_15 rfl ?_
      refine E_Vi (pc := 16) (d2 := D_X12_sign) (ci := 12) [] dX12_term_16 ml_X12_220 mf_X12_sign im_X12_sign rfl rfl rfl (by decide) (Nat.le_of_ble_eq_true rfl) (Nat.le_of_ble_eq_true rfl) rfl (fun _ _ h => f_X12_sign_ok h) hf (fun v7 μ6 hf => ?_)
      refine E_bipush (pc := 19) (v := (42 : Int32)) dX12_term_19 (by decide) ?_
      refine E_icmp_eq (pc := 21) (tgt := 42) dX12_term_21 (by decide) hf (fun hf => ?_) (fun hf => ?_)
      · refine E_aload_n (pc := 42) dX12_term_42 rfl ?_
        refine E_Vi (pc := 43) (d2 := D_X12_sign) (ci := 12) [] dX12_term_43 ml_X12_220 mf_X12_sign im_X12_sign rfl rfl rfl (by decide) (Nat.le_of_ble_eq_true rfl) (Nat.le_of_ble_eq_true rfl) rfl (fun _ _ h => f_X12_sign_ok h) hf (fun v9 μ8 hf => ?_)
        refine E_bipush (pc := 46) (v := (42 : Int32)) dX12_term_46 (by decide) ?_
        refine E_icmp_ne (pc := 48) (tgt := 56) dX12_term_48 (by decide) hf (fun hf => ?_) (fun hf => ?_)
        · refine E_bipush (pc := 51) (v := (13 : Int32)) dX12_term_51 (by decide) ?_
          refine E_goto (pc := 53) (tgt := 72) dX12_term_53 (by decide) ?_
          refine E_istore_n (pc := 72) (ls' := fun x10 => [(1, .int x10), (0, .ref a4)]) dX12_term_72 (by decide) (fun _ => rfl) hf (fun x10 hf => ?_)
          refine E_aload_n (pc := 73) dX12_term_73 rfl ?_
          refine E_dup (pc := 74) dX12_term_74 rfl ?_
          refine E_getI (pc := 75) dX12_term_75 fl_X12_217 hf (fun v11 hf => ?_)
          refine E_iconst (pc := 78) (v := (1 : Int32)) dX12_term_78 (by decide) ?_
          refine E_iadd (pc := 79) dX12_term_79 ?_
          refine E_putI (pc := 80) dX12_term_80 (pl_X12_217 _) hf (fun μ12 hf => ?_)
          refine E_aload_n (pc := 83) dX12_term_83 rfl ?_
          refine E_Vv (pc := 84) (d2 := D_X12_value) (ci := 12) [] dX12_term_84 ml_X12_275 mf_X12_value im_X12_value rfl rfl rfl (by decide) (Nat.le_of_ble_eq_true rfl) (Nat.le_of_ble_eq_true rfl) rfl (fun _ h => f_X12_value_ok h) hf (fun μ13 hf => ?_)
          refine E_aload_n (pc := 87) dX12_term_87 rfl ?_
          refine E_iload_n (pc := 88) dX12_term_88 rfl ?_
          refine E_iconst (pc := 89) (v := (0 : Int32)) dX12_term_89 (by decide) ?_
          refine E_Vv (pc := 90) (d2 := D_X12_entry) (ci := 12) [.int x10, .int (0 : Int32)] dX12_term_90 ml_X12_268 mf_X12_entry im_X12_entry rfl rfl rfl (by decide) (Nat.le_of_ble_eq_true rfl) (Nat.le_of_ble_eq_true rfl) rfl (fun _ h => f_X12_entry_ok h) hf (fun μ14 hf => ?_)
          refine E_aload_n (pc := 93) dX12_term_93 rfl ?_
          refine E_Vv (pc := 94) (d2 := D_X12_blanks) (ci := 12) [] dX12_term_94 ml_X12_236 mf_X12_blanks im_X12_blanks rfl rfl rfl (by decide) (Nat.le_of_ble_eq_true rfl) (Nat.le_of_ble_eq_true rfl) rfl (fun _ h => f_X12_blanks_ok h) hf (fun μ15 hf => ?_)
          refine E_goto (pc := 97) (tgt := 8) dX12_term_97 (by decide) ?_
          refine Ev.sub [1] rfl ?_
          exact ih _ _ hf
        · refine E_aload_n (pc := 56) dX12_term_56 rfl ?_
          refine E_Vi (pc := 57) (d2 := D_X12_sign) (ci := 12) [] dX12_term_57 ml_X12_220 mf_X12_sign im_X12_sign rfl rfl rfl (by decide) (Nat.le_of_ble_eq_true rfl) (Nat.le_of_ble_eq_true rfl) rfl (fun _ _ h => f_X12_sign_ok h) hf (fun v17 μ16 hf => ?_)
          refine E_bipush (pc := 60) (v := (47 : Int32)) dX12_term_60 (by decide) ?_
          refine E_icmp_ne (pc := 62) (tgt := 70) dX12_term_62 (by decide) hf (fun hf => ?_) (fun hf => ?_)
          · refine E_bipush (pc := 65) (v := (14 : Int32)) dX12_term_65 (by decide) ?_
            refine E_goto (pc := 67) (tgt := 72) dX12_term_67 (by decide) ?_
            refine E_istore_n (pc := 72) (ls' := fun x18 => [(1, .int x18), (0, .ref a4)]) dX12_term_72 (by decide) (fun _ => rfl) hf (fun x18 hf => ?_)
            refine E_aload_n (pc := 73) dX12_term_73 rfl ?_
            refine E_dup (pc := 74) dX12_term_74 rfl ?_
            refine E_getI (pc := 75) dX12_term_75 fl_X12_217 hf (fun v19 hf => ?_)
            refine E_iconst (pc := 78) (v := (1 : Int32)) dX12_term_78 (by decide) ?_
            refine E_iadd (pc := 79) dX12_term_79 ?_
            refine E_putI (pc := 80) dX12_term_80 (pl_X12_217 _) hf (fun μ20 hf => ?_)
            refine E_aload_n (pc := 83) dX12_term_83 rfl ?_
            refine E_Vv (pc := 84) (d2 := D_X12_value) (ci := 12) [] dX12_term_84 ml_X12_275 mf_X12_value im_X12_value rfl rfl rfl (by decide) (Nat.le_of_ble_eq_true rfl) (Nat.le_of_ble_eq_true rfl) rfl (fun _ h => f_X12_value_ok h) hf (fun μ21 hf => ?_)
            refine E_aload_n (pc := 87) dX12_term_87 rfl ?_
            refine E_iload_n (pc := 88) dX12_term_88 rfl ?_
            refine E_iconst (pc := 89) (v := (0 : Int32)) dX12_term_89 (by decide) ?_
            refine E_Vv (pc := 90) (d2 := D_X12_entry) (ci := 12) [.int x18, .int (0 : Int32)] dX12_term_90 ml_X12_268 mf_X12_entry im_X12_entry rfl rfl rfl (by decide) (Nat.le_of_ble_eq_true rfl) (Nat.le_of_ble_eq_true rfl) rfl (fun _ h => f_X12_entry_ok h) hf (fun μ22 hf => ?_)
            refine E_aload_n (pc := 93) dX12_term_93 rfl ?_
            refine E_Vv (pc := 94) (d2 := D_X12_blanks) (ci := 12) [] dX12_term_94 ml_X12_236 mf_X12_blanks im_X12_blanks rfl rfl rfl (by decide) (Nat.le_of_ble_eq_true rfl) (Nat.le_of_ble_eq_true rfl) rfl (fun _ h => f_X12_blanks_ok h) hf (fun μ23 hf => ?_)
            refine E_goto (pc := 97) (tgt := 8) dX12_term_97 (by decide) ?_
            refine Ev.sub [1] rfl ?_
            exact ih _ _ hf
          · refine E_bipush (pc := 70) (v := (15 : Int32)) dX12_term_70 (by decide) ?_
            refine E_istore_n (pc := 72) (ls' := fun x24 => [(1, .int x24), (0, .ref a4)]) dX12_term_72 (by decide) (fun _ => rfl) hf (fun x24 hf => ?_)
            refine E_aload_n (pc := 73) dX12_term_73 rfl ?_
            refine E_dup (pc := 74) dX12_term_74 rfl ?_
            refine E_getI (pc := 75) dX12_term_75 fl_X12_217 hf (fun v25 hf => ?_)
            refine E_iconst (pc := 78) (v := (1 : Int32)) dX12_term_78 (by decide) ?_
            refine E_iadd (pc := 79) dX12_term_79 ?_
            refine E_putI (pc := 80) dX12_term_80 (pl_X12_217 _) hf (fun μ26 hf => ?_)
            refine E_aload_n (pc := 83) dX12_term_83 rfl ?_
            refine E_Vv (pc := 84) (d2 := D_X12_value) (ci := 12) [] dX12_term_84 ml_X12_275 mf_X12_value im_X12_value rfl rfl rfl (by decide) (Nat.le_of_ble_eq_true rfl) (Nat.le_of_ble_eq_true rfl) rfl (fun _ h => f_X12_value_ok h) hf (fun μ27 hf => ?_)
            refine E_aload_n (pc := 87) dX12_term_87 rfl ?_
            refine E_iload_n (pc := 88) dX12_term_88 rfl ?_
            refine E_iconst (pc := 89) (v := (0 : Int32)) dX12_term_89 (by decide) ?_
            refine E_Vv (pc := 90) (d2 := D_X12_entry) (ci := 12) [.int x24, .int (0 : Int32)] dX12_term_90 ml_X12_268 mf_X12_entry im_X12_entry rfl rfl rfl (by decide) (Nat.le_of_ble_eq_true rfl) (Nat.le_of_ble_eq_true rfl) rfl (fun _ h => f_X12_entry_ok h) hf (fun μ28 hf => ?_)
            refine E_aload_n (pc := 93) dX12_term_93 rfl ?_
            refine E_Vv (pc := 94) (d2 := D_X12_blanks) (ci := 12) [] dX12_term_94 ml_X12_236 mf_X12_blanks im_X12_blanks rfl rfl rfl (by decide) (Nat.le_of_ble_eq_true rfl) (Nat.le_of_ble_eq_true rfl) rfl (fun _ h => f_X12_blanks_ok h) hf (fun μ29 hf => ?_)
            refine E_goto (pc := 97) (tgt := 8) dX12_term_97 (by decide) ?_
            refine Ev.sub [1] rfl ?_
            exact ih _ _ hf
      · refine E_aload_n (pc := 24) dX12_term_24 rfl ?_
        refine E_Vi (pc := 25) (d2 := D_X12_sign) (ci := 12) [] dX12_term_25 ml_X12_220 mf_X12_sign im_X12_sign rfl rfl rfl (by decide) (Nat.le_of_ble_eq_true rfl) (Nat.le_of_ble_eq_true rfl) rfl (fun _ _ h => f_X12_sign_ok h) hf (fun v31 μ30 hf => ?_)
        refine E_bipush (pc := 28) (v := (47 : Int32)) dX12_term_28 (by decide) ?_
        refine E_icmp_eq (pc := 30) (tgt := 42) dX12_term_30 (by decide) hf (fun hf => ?_) (fun hf => ?_)
        · refine E_aload_n (pc := 42) dX12_term_42 rfl ?_
          refine E_Vi (pc := 43) (d2 := D_X12_sign) (ci := 12) [] dX12_term_43 ml_X12_220 mf_X12_sign im_X12_sign rfl rfl rfl (by decide) (Nat.le_of_ble_eq_true rfl) (Nat.le_of_ble_eq_true rfl) rfl (fun _ _ h => f_X12_sign_ok h) hf (fun v33 μ32 hf => ?_)
          refine E_bipush (pc := 46) (v := (42 : Int32)) dX12_term_46 (by decide) ?_
          refine E_icmp_ne (pc := 48) (tgt := 56) dX12_term_48 (by decide) hf (fun hf => ?_) (fun hf => ?_)
          · refine E_bipush (pc := 51) (v := (13 : Int32)) dX12_term_51 (by decide) ?_
            refine E_goto (pc := 53) (tgt := 72) dX12_term_53 (by decide) ?_
            refine E_istore_n (pc := 72) (ls' := fun x34 => [(1, .int x34), (0, .ref a4)]) dX12_term_72 (by decide) (fun _ => rfl) hf (fun x34 hf => ?_)
            refine E_aload_n (pc := 73) dX12_term_73 rfl ?_
            refine E_dup (pc := 74) dX12_term_74 rfl ?_
            refine E_getI (pc := 75) dX12_term_75 fl_X12_217 hf (fun v35 hf => ?_)
            refine E_iconst (pc := 78) (v := (1 : Int32)) dX12_term_78 (by decide) ?_
            refine E_iadd (pc := 79) dX12_term_79 ?_
            refine E_putI (pc := 80) dX12_term_80 (pl_X12_217 _) hf (fun μ36 hf => ?_)
            refine E_aload_n (pc := 83) dX12_term_83 rfl ?_
            refine E_Vv (pc := 84) (d2 := D_X12_value) (ci := 12) [] dX12_term_84 ml_X12_275 mf_X12_value im_X12_value rfl rfl rfl (by decide) (Nat.le_of_ble_eq_true rfl) (Nat.le_of_ble_eq_true rfl) rfl (fun _ h => f_X12_value_ok h) hf (fun μ37 hf => ?_)
            refine E_aload_n (pc := 87) dX12_term_87 rfl ?_
            refine E_iload_n (pc := 88) dX12_term_88 rfl ?_
            refine E_iconst (pc := 89) (v := (0 : Int32)) dX12_term_89 (by decide) ?_
            refine E_Vv (pc := 90) (d2 := D_X12_entry) (ci := 12) [.int x34, .int (0 : Int32)] dX12_term_90 ml_X12_268 mf_X12_entry im_X12_entry rfl rfl rfl (by decide) (Nat.le_of_ble_eq_true rfl) (Nat.le_of_ble_eq_true rfl) rfl (fun _ h => f_X12_entry_ok h) hf (fun μ38 hf => ?_)
            refine E_aload_n (pc := 93) dX12_term_93 rfl ?_
            refine E_Vv (pc := 94) (d2 := D_X12_blanks) (ci := 12) [] dX12_term_94 ml_X12_236 mf_X12_blanks im_X12_blanks rfl rfl rfl (by decide) (Nat.le_of_ble_eq_true rfl) (Nat.le_of_ble_eq_true rfl) rfl (fun _ h => f_X12_blanks_ok h) hf (fun μ39 hf => ?_)
            refine E_goto (pc := 97) (tgt := 8) dX12_term_97 (by decide) ?_
            refine Ev.sub [1] rfl ?_
            exact ih _ _ hf
          · refine E_aload_n (pc := 56) dX12_term_56 rfl ?_
            refine E_Vi (pc := 57) (d2 := D_X12_sign) (ci := 12) [] dX12_term_57 ml_X12_220 mf_X12_sign im_X12_sign rfl rfl rfl (by decide) (Nat.le_of_ble_eq_true rfl) (Nat.le_of_ble_eq_true rfl) rfl (fun _ _ h => f_X12_sign_ok h) hf (fun v41 μ40 hf => ?_)
            refine E_bipush (pc := 60) (v := (47 : Int32)) dX12_term_60 (by decide) ?_
            refine E_icmp_ne (pc := 62) (tgt := 70) dX12_term_62 (by decide) hf (fun hf => ?_) (fun hf => ?_)
            · refine E_bipush (pc := 65) (v := (14 : Int32)) dX12_term_65 (by decide) ?_
              refine E_goto (pc := 67) (tgt := 72) dX12_term_67 (by decide) ?_
              refine E_istore_n (pc := 72) (ls' := fun x42 => [(1, .int x42), (0, .ref a4)]) dX12_term_72 (by decide) (fun _ => rfl) hf (fun x42 hf => ?_)
              refine E_aload_n (pc := 73) dX12_term_73 rfl ?_
              refine E_dup (pc := 74) dX12_term_74 rfl ?_
              refine E_getI (pc := 75) dX12_term_75 fl_X12_217 hf (fun v43 hf => ?_)
              refine E_iconst (pc := 78) (v := (1 : Int32)) dX12_term_78 (by decide) ?_
              refine E_iadd (pc := 79) dX12_term_79 ?_
              refine E_putI (pc := 80) dX12_term_80 (pl_X12_217 _) hf (fun μ44 hf => ?_)
              refine E_aload_n (pc := 83) dX12_term_83 rfl ?_
              refine E_Vv (pc := 84) (d2 := D_X12_value) (ci := 12) [] dX12_term_84 ml_X12_275 mf_X12_value im_X12_value rfl rfl rfl (by decide) (Nat.le_of_ble_eq_true rfl) (Nat.le_of_ble_eq_true rfl) rfl (fun _ h => f_X12_value_ok h) hf (fun μ45 hf => ?_)
              refine E_aload_n (pc := 87) dX12_term_87 rfl ?_
              refine E_iload_n (pc := 88) dX12_term_88 rfl ?_
              refine E_iconst (pc := 89) (v := (0 : Int32)) dX12_term_89 (by decide) ?_
              refine E_Vv (pc := 90) (d2 := D_X12_entry) (ci := 12) [.int x42, .int (0 : Int32)] dX12_term_90 ml_X12_268 mf_X12_entry im_X12_entry rfl rfl rfl (by decide) (Nat.le_of_ble_eq_true rfl) (Nat.le_of_ble_eq_true rfl) rfl (fun _ h => f_X12_entry_ok h) hf (fun μ46 hf => ?_)
              refine E_aload_n (pc := 93) dX12_term_93 rfl ?_
              refine E_Vv (pc := 94) (d2 := D_X12_blanks) (ci := 12) [] dX12_term_94 ml_X12_236 mf_X12_blanks im_X12_blanks rfl rfl rfl (by decide) (Nat.le_of_ble_eq_true rfl) (Nat.le_of_ble_eq_true rfl) rfl (fun _ h => f_X12_blanks_ok h) hf (fun μ47 hf => ?_)
              refine E_goto (pc := 97) (tgt := 8) dX12_term_97 (by decide) ?_
              refine Ev.sub [1] rfl ?_
              exact ih _ _ hf
            · refine E_bipush (pc := 70) (v := (15 : Int32)) dX12_term_70 (by decide) ?_
              refine E_istore_n (pc := 72) (ls' := fun x48 => [(1, .int x48), (0, .ref a4)]) dX12_term_72 (by decide) (fun _ => rfl) hf (fun x48 hf => ?_)
              refine E_aload_n (pc := 73) dX12_term_73 rfl ?_
              refine E_dup (pc := 74) dX12_term_74 rfl ?_
              refine E_getI (pc := 75) dX12_term_75 fl_X12_217 hf (fun v49 hf => ?_)
              refine E_iconst (pc := 78) (v := (1 : Int32)) dX12_term_78 (by decide) ?_
              refine E_iadd (pc := 79) dX12_term_79 ?_
              refine E_putI (pc := 80) dX12_term_80 (pl_X12_217 _) hf (fun μ50 hf => ?_)
              refine E_aload_n (pc := 83) dX12_term_83 rfl ?_
              refine E_Vv (pc := 84) (d2 := D_X12_value) (ci := 12) [] dX12_term_84 ml_X12_275 mf_X12_value im_X12_value rfl rfl rfl (by decide) (Nat.le_of_ble_eq_true rfl) (Nat.le_of_ble_eq_true rfl) rfl (fun _ h => f_X12_value_ok h) hf (fun μ51 hf => ?_)
              refine E_aload_n (pc := 87) dX12_term_87 rfl ?_
              refine E_iload_n (pc := 88) dX12_term_88 rfl ?_
              refine E_iconst (pc := 89) (v := (0 : Int32)) dX12_term_89 (by decide) ?_
              refine E_Vv (pc := 90) (d2 := D_X12_entry) (ci := 12) [.int x48, .int (0 : Int32)] dX12_term_90 ml_X12_268 mf_X12_entry im_X12_entry rfl rfl rfl (by decide) (Nat.le_of_ble_eq_true rfl) (Nat.le_of_ble_eq_true rfl) rfl (fun _ h => f_X12_entry_ok h) hf (fun μ52 hf => ?_)
              refine E_aload_n (pc := 93) dX12_term_93 rfl ?_
              refine E_Vv (pc := 94) (d2 := D_X12_blanks) (ci := 12) [] dX12_term_94 ml_X12_236 mf_X12_blanks im_X12_blanks rfl rfl rfl (by decide) (Nat.le_of_ble_eq_true rfl) (Nat.le_of_ble_eq_true rfl) rfl (fun _ h => f_X12_blanks_ok h) hf (fun μ53 hf => ?_)
              refine E_goto (pc := 97) (tgt := 8) dX12_term_97 (by decide) ?_
              refine Ev.sub [1] rfl ?_
              exact ih _ _ hf
        · refine E_aload_n (pc := 33) dX12_term_33 rfl ?_
          refine E_Vi (pc := 34) (d2 := D_X12_sign) (ci := 12) [] dX12_term_34 ml_X12_220 mf_X12_sign im_X12_sign rfl rfl rfl (by decide) (Nat.le_of_ble_eq_true rfl) (Nat.le_of_ble_eq_true rfl) rfl (fun _ _ h => f_X12_sign_ok h) hf (fun v55 μ54 hf => ?_)
          refine E_bipush (pc := 37) (v := (37 : Int32)) dX12_term_37 (by decide) ?_
          refine E_icmp_ne (pc := 39) (tgt := 100) dX12_term_39 (by decide) hf (fun hf => ?_) (fun hf => ?_)
          · refine E_aload_n (pc := 42) dX12_term_42 rfl ?_
            refine E_Vi (pc := 43) (d2 := D_X12_sign) (ci := 12) [] dX12_term_43 ml_X12_220 mf_X12_sign im_X12_sign rfl rfl rfl (by decide) (Nat.le_of_ble_eq_true rfl) (Nat.le_of_ble_eq_true rfl) rfl (fun _ _ h => f_X12_sign_ok h) hf (fun v57 μ56 hf => ?_)
            refine E_bipush (pc := 46) (v := (42 : Int32)) dX12_term_46 (by decide) ?_
            refine E_icmp_ne (pc := 48) (tgt := 56) dX12_term_48 (by decide) hf (fun hf => ?_) (fun hf => ?_)
            · refine E_bipush (pc := 51) (v := (13 : Int32)) dX12_term_51 (by decide) ?_
              refine E_goto (pc := 53) (tgt := 72) dX12_term_53 (by decide) ?_
              refine E_istore_n (pc := 72) (ls' := fun x58 => [(1, .int x58), (0, .ref a4)]) dX12_term_72 (by decide) (fun _ => rfl) hf (fun x58 hf => ?_)
              refine E_aload_n (pc := 73) dX12_term_73 rfl ?_
              refine E_dup (pc := 74) dX12_term_74 rfl ?_
              refine E_getI (pc := 75) dX12_term_75 fl_X12_217 hf (fun v59 hf => ?_)
              refine E_iconst (pc := 78) (v := (1 : Int32)) dX12_term_78 (by decide) ?_
              refine E_iadd (pc := 79) dX12_term_79 ?_
              refine E_putI (pc := 80) dX12_term_80 (pl_X12_217 _) hf (fun μ60 hf => ?_)
              refine E_aload_n (pc := 83) dX12_term_83 rfl ?_
              refine E_Vv (pc := 84) (d2 := D_X12_value) (ci := 12) [] dX12_term_84 ml_X12_275 mf_X12_value im_X12_value rfl rfl rfl (by decide) (Nat.le_of_ble_eq_true rfl) (Nat.le_of_ble_eq_true rfl) rfl (fun _ h => f_X12_value_ok h) hf (fun μ61 hf => ?_)
              refine E_aload_n (pc := 87) dX12_term_87 rfl ?_
              refine E_iload_n (pc := 88) dX12_term_88 rfl ?_
              refine E_iconst (pc := 89) (v := (0 : Int32)) dX12_term_89 (by decide) ?_
              refine E_Vv (pc := 90) (d2 := D_X12_entry) (ci := 12) [.int x58, .int (0 : Int32)] dX12_term_90 ml_X12_268 mf_X12_entry im_X12_entry rfl rfl rfl (by decide) (Nat.le_of_ble_eq_true rfl) (Nat.le_of_ble_eq_true rfl) rfl (fun _ h => f_X12_entry_ok h) hf (fun μ62 hf => ?_)
              refine E_aload_n (pc := 93) dX12_term_93 rfl ?_
              refine E_Vv (pc := 94) (d2 := D_X12_blanks) (ci := 12) [] dX12_term_94 ml_X12_236 mf_X12_blanks im_X12_blanks rfl rfl rfl (by decide) (Nat.le_of_ble_eq_true rfl) (Nat.le_of_ble_eq_true rfl) rfl (fun _ h => f_X12_blanks_ok h) hf (fun μ63 hf => ?_)
              refine E_goto (pc := 97) (tgt := 8) dX12_term_97 (by decide) ?_
              refine Ev.sub [1] rfl ?_
              exact ih _ _ hf
            · refine E_aload_n (pc := 56) dX12_term_56 rfl ?_
              refine E_Vi (pc := 57) (d2 := D_X12_sign) (ci := 12) [] dX12_term_57 ml_X12_220 mf_X12_sign im_X12_sign rfl rfl rfl (by decide) (Nat.le_of_ble_eq_true rfl) (Nat.le_of_ble_eq_true rfl) rfl (fun _ _ h => f_X12_sign_ok h) hf (fun v65 μ64 hf => ?_)
              refine E_bipush (pc := 60) (v := (47 : Int32)) dX12_term_60 (by decide) ?_
              refine E_icmp_ne (pc := 62) (tgt := 70) dX12_term_62 (by decide) hf (fun hf => ?_) (fun hf => ?_)
              · refine E_bipush (pc := 65) (v := (14 : Int32)) dX12_term_65 (by decide) ?_
                refine E_goto (pc := 67) (tgt := 72) dX12_term_67 (by decide) ?_
                refine E_istore_n (pc := 72) (ls' := fun x66 => [(1, .int x66), (0, .ref a4)]) dX12_term_72 (by decide) (fun _ => rfl) hf (fun x66 hf => ?_)
                refine E_aload_n (pc := 73) dX12_term_73 rfl ?_
                refine E_dup (pc := 74) dX12_term_74 rfl ?_
                refine E_getI (pc := 75) dX12_term_75 fl_X12_217 hf (fun v67 hf => ?_)
                refine E_iconst (pc := 78) (v := (1 : Int32)) dX12_term_78 (by decide) ?_
                refine E_iadd (pc := 79) dX12_term_79 ?_
                refine E_putI (pc := 80) dX12_term_80 (pl_X12_217 _) hf (fun μ68 hf => ?_)
                refine E_aload_n (pc := 83) dX12_term_83 rfl ?_
                refine E_Vv (pc := 84) (d2 := D_X12_value) (ci := 12) [] dX12_term_84 ml_X12_275 mf_X12_value im_X12_value rfl rfl rfl (by decide) (Nat.le_of_ble_eq_true rfl) (Nat.le_of_ble_eq_true rfl) rfl (fun _ h => f_X12_value_ok h) hf (fun μ69 hf => ?_)
                refine E_aload_n (pc := 87) dX12_term_87 rfl ?_
                refine E_iload_n (pc := 88) dX12_term_88 rfl ?_
                refine E_iconst (pc := 89) (v := (0 : Int32)) dX12_term_89 (by decide) ?_
                refine E_Vv (pc := 90) (d2 := D_X12_entry) (ci := 12) [.int x66, .int (0 : Int32)] dX12_term_90 ml_X12_268 mf_X12_entry im_X12_entry rfl rfl rfl (by decide) (Nat.le_of_ble_eq_true rfl) (Nat.le_of_ble_eq_true rfl) rfl (fun _ h => f_X12_entry_ok h) hf (fun μ70 hf => ?_)
                refine E_aload_n (pc := 93) dX12_term_93 rfl ?_
                refine E_Vv (pc := 94) (d2 := D_X12_blanks) (ci := 12) [] dX12_term_94 ml_X12_236 mf_X12_blanks im_X12_blanks rfl rfl rfl (by decide) (Nat.le_of_ble_eq_true rfl) (Nat.le_of_ble_eq_true rfl) rfl (fun _ h => f_X12_blanks_ok h) hf (fun μ71 hf => ?_)
                refine E_goto (pc := 97) (tgt := 8) dX12_term_97 (by decide) ?_
                refine Ev.sub [1] rfl ?_
                exact ih _ _ hf
              · refine E_bipush (pc := 70) (v := (15 : Int32)) dX12_term_70 (by decide) ?_
                refine E_istore_n (pc := 72) (ls' := fun x72 => [(1, .int x72), (0, .ref a4)]) dX12_term_72 (by decide) (fun _ => rfl) hf (fun x72 hf => ?_)
                refine E_aload_n (pc := 73) dX12_term_73 rfl ?_
                refine E_dup (pc := 74) dX12_term_74 rfl ?_
                refine E_getI (pc := 75) dX12_term_75 fl_X12_217 hf (fun v73 hf => ?_)
                refine E_iconst (pc := 78) (v := (1 : Int32)) dX12_term_78 (by decide) ?_
                refine E_iadd (pc := 79) dX12_term_79 ?_
                refine E_putI (pc := 80) dX12_term_80 (pl_X12_217 _) hf (fun μ74 hf => ?_)
                refine E_aload_n (pc := 83) dX12_term_83 rfl ?_
                refine E_Vv (pc := 84) (d2 := D_X12_value) (ci := 12) [] dX12_term_84 ml_X12_275 mf_X12_value im_X12_value rfl rfl rfl (by decide) (Nat.le_of_ble_eq_true rfl) (Nat.le_of_ble_eq_true rfl) rfl (fun _ h => f_X12_value_ok h) hf (fun μ75 hf => ?_)
                refine E_aload_n (pc := 87) dX12_term_87 rfl ?_
                refine E_iload_n (pc := 88) dX12_term_88 rfl ?_
                refine E_iconst (pc := 89) (v := (0 : Int32)) dX12_term_89 (by decide) ?_
                refine E_Vv (pc := 90) (d2 := D_X12_entry) (ci := 12) [.int x72, .int (0 : Int32)] dX12_term_90 ml_X12_268 mf_X12_entry im_X12_entry rfl rfl rfl (by decide) (Nat.le_of_ble_eq_true rfl) (Nat.le_of_ble_eq_true rfl) rfl (fun _ h => f_X12_entry_ok h) hf (fun μ76 hf => ?_)
                refine E_aload_n (pc := 93) dX12_term_93 rfl ?_
                refine E_Vv (pc := 94) (d2 := D_X12_blanks) (ci := 12) [] dX12_term_94 ml_X12_236 mf_X12_blanks im_X12_blanks rfl rfl rfl (by decide) (Nat.le_of_ble_eq_true rfl) (Nat.le_of_ble_eq_true rfl) rfl (fun _ h => f_X12_blanks_ok h) hf (fun μ77 hf => ?_)
                refine E_goto (pc := 97) (tgt := 8) dX12_term_97 (by decide) ?_
                refine Ev.sub [1] rfl ?_
                exact ih _ _ hf
          · refine Ev.sub [] rfl ?_
            exact hK100 _ hf
    · refine Ev.sub [] rfl ?_
      exact hK100 _ hf
set_option maxRecDepth 100000 in
def f_X12_term (μ0 : Mm) (a1 : Nat) : Option Mm :=
 ((ob μ0 a1 12).bind fun _ =>
    ((f_X12_value μ0 a1).bind fun μ2 =>
    ((ob μ2 a1 12).bind fun _ =>
    ((f_X12_blanks μ2 a1).bind fun μ3 =>
    f_X12_term_L8 (fun μ78 =>
    (some μ78)) FU μ3 a1))))
set_option maxHeartbeats 4000000 in
set_option maxRecDepth 100000 in
theorem f_X12_term_ok {l : Launch} {G : GG} {μ0 : Mm} {a1 : Nat} {μ' : Mm} (hf : f_X12_term μ0 a1 = some μ') : EvM l G D_X12_term yX12_term cX12_term 2 none [.ref a1] μ0 none μ' := by
  show Ev l G D_X12_term yX12_term cX12_term 2 none 0 [(0, .ref a1)] [] μ0 none μ'
  unfold f_X12_term at hf
  refine E_aload_n (pc := 0) dX12_term_0 rfl ?_
  refine E_Vv (pc := 1) (d2 := D_X12_value) (ci := 12) [] dX12_term_1 ml_X12_275 mf_X12_value im_X12_value rfl rfl rfl (by decide) (Nat.le_of_ble_eq_true rfl) (Nat.le_of_ble_eq_true rfl) rfl (fun _ h => f_X12_value_ok h) hf (fun μ2 hf => ?_)
  refine E_aload_n (pc := 4) dX12_term_4 rfl ?_
  refine E_Vv (pc := 5) (d2 := D_X12_blanks) (ci := 12) [] dX12_term_5 ml_X12_236 mf_X12_blanks im_X12_blanks rfl rfl rfl (by decide) (Nat.le_of_ble_eq_true rfl) (Nat.le_of_ble_eq_true rfl) rfl (fun _ h => f_X12_blanks_ok h) hf (fun μ3 hf => ?_)
  refine Ev.sub [0] rfl ?_
  refine f_X12_term_L8_ok  _ _ _ hf (fun μ78 hf => ?_)
  · exact E_vret (pc := 100) dX12_term_100 rfl hf
theorem dX12_sum_0 : decode cX12_sum 0 = .ok (.aload_n 0, 1) := by decide +kernel
theorem dX12_sum_1 : decode cX12_sum 1 = .ok (.invokevirtual 278, 3) := by decide +kernel
theorem dX12_sum_4 : decode cX12_sum 4 = .ok (.aload_n 0, 1) := by decide +kernel
theorem dX12_sum_5 : decode cX12_sum 5 = .ok (.getfield 214, 3) := by decide +kernel
theorem dX12_sum_8 : decode cX12_sum 8 = .ok (.ifCond .ne 59, 3) := by decide +kernel
theorem dX12_sum_11 : decode cX12_sum 11 = .ok (.aload_n 0, 1) := by decide +kernel
theorem dX12_sum_12 : decode cX12_sum 12 = .ok (.invokevirtual 220, 3) := by decide +kernel
theorem dX12_sum_15 : decode cX12_sum 15 = .ok (.bipush 43, 2) := by decide +kernel
theorem dX12_sum_17 : decode cX12_sum 17 = .ok (.if_icmp .eq 12, 3) := by decide +kernel
theorem dX12_sum_20 : decode cX12_sum 20 = .ok (.aload_n 0, 1) := by decide +kernel
theorem dX12_sum_21 : decode cX12_sum 21 = .ok (.invokevirtual 220, 3) := by decide +kernel
theorem dX12_sum_24 : decode cX12_sum 24 = .ok (.bipush 45, 2) := by decide +kernel
theorem dX12_sum_26 : decode cX12_sum 26 = .ok (.if_icmp .ne 41, 3) := by decide +kernel
theorem dX12_sum_29 : decode cX12_sum 29 = .ok (.aload_n 0, 1) := by decide +kernel
theorem dX12_sum_30 : decode cX12_sum 30 = .ok (.invokevirtual 220, 3) := by decide +kernel
theorem dX12_sum_33 : decode cX12_sum 33 = .ok (.bipush 43, 2) := by decide +kernel
theorem dX12_sum_35 : decode cX12_sum 35 = .ok (.if_icmp .ne 7, 3) := by decide +kernel
theorem dX12_sum_38 : decode cX12_sum 38 = .ok (.iconst 2, 1) := by decide +kernel
theorem dX12_sum_39 : decode cX12_sum 39 = .ok (.goto 4, 3) := by decide +kernel
theorem dX12_sum_42 : decode cX12_sum 42 = .ok (.iconst 3, 1) := by decide +kernel
theorem dX12_sum_43 : decode cX12_sum 43 = .ok (.istore_n 1, 1) := by decide +kernel
theorem dX12_sum_44 : decode cX12_sum 44 = .ok (.aload_n 0, 1) := by decide +kernel
theorem dX12_sum_45 : decode cX12_sum 45 = .ok (.dup, 1) := by decide +kernel
theorem dX12_sum_46 : decode cX12_sum 46 = .ok (.getfield 217, 3) := by decide +kernel
theorem dX12_sum_49 : decode cX12_sum 49 = .ok (.iconst 1, 1) := by decide +kernel
theorem dX12_sum_50 : decode cX12_sum 50 = .ok (.iadd, 1) := by decide +kernel
theorem dX12_sum_51 : decode cX12_sum 51 = .ok (.putfield 217, 3) := by decide +kernel
theorem dX12_sum_54 : decode cX12_sum 54 = .ok (.aload_n 0, 1) := by decide +kernel
theorem dX12_sum_55 : decode cX12_sum 55 = .ok (.invokevirtual 278, 3) := by decide +kernel
theorem dX12_sum_58 : decode cX12_sum 58 = .ok (.aload_n 0, 1) := by decide +kernel
theorem dX12_sum_59 : decode cX12_sum 59 = .ok (.iload_n 1, 1) := by decide +kernel
theorem dX12_sum_60 : decode cX12_sum 60 = .ok (.iconst 0, 1) := by decide +kernel
theorem dX12_sum_61 : decode cX12_sum 61 = .ok (.invokevirtual 268, 3) := by decide +kernel
theorem dX12_sum_64 : decode cX12_sum 64 = .ok (.goto (-60), 3) := by decide +kernel
theorem dX12_sum_67 : decode cX12_sum 67 = .ok (.return_, 1) := by decide +kernel
abbrev D_X12_sum : Nat := 10
def f_X12_sum_L4 (K67 : Mm → Option Mm) : Nat → Mm → Nat → Option Mm
  | 0, _, _ => none
  | n + 1, μ0, a3 =>
    ((gI μ0 a3 12 30).bind fun v4 =>
    (if v4 = 0 then
    ((ob μ0 a3 12).bind fun _ =>
    (bd (f_X12_sign μ0 a3) fun v6 μ5 =>
    (if v6 = (43 : Int32) then
    ((ob μ5 a3 12).bind fun _ =>
    (bd (f_X12_sign μ5 a3) fun v8 μ7 =>
    (if v8 = (43 : Int32) then
    (nm (2 : Int32) fun x9 =>
    ((gI μ7 a3 12 29).bind fun v10 =>
    ((pV μ7 a3 12 29 (.int (v10 + (1 : Int32)))).bind fun μ11 =>
    ((ob μ11 a3 12).bind fun _ =>
    ((f_X12_term μ11 a3).bind fun μ12 =>
    ((ob μ12 a3 12).bind fun _ =>
    ((f_X12_entry μ12 a3 x9 (0 : Int32)).bind fun μ13 =>
    f_X12_sum_L4 K67 n μ13 a3)))))))
    else
    (nm (3 : Int32) fun x14 =>
    ((gI μ7 a3 12 29).bind fun v15 =>
    ((pV μ7 a3 12 29 (.int (v15 + (1 : Int32)))).bind fun μ16 =>
    ((ob μ16 a3 12).bind fun _ =>
    ((f_X12_term μ16 a3).bind fun μ17 =>
    ((ob μ17 a3 12).bind fun _ =>
    ((f_X12_entry μ17 a3 x14 (0 : Int32)).bind fun μ18 =>
    f_X12_sum_L4 K67 n μ18 a3))))))))))
    else
    ((ob μ5 a3 12).bind fun _ =>
    (bd (f_X12_sign μ5 a3) fun v20 μ19 =>
    (if v20 = (45 : Int32) then
    ((ob μ19 a3 12).bind fun _ =>
    (bd (f_X12_sign μ19 a3) fun v22 μ21 =>
    (if v22 = (43 : Int32) then
    (nm (2 : Int32) fun x23 =>
    ((gI μ21 a3 12 29).bind fun v24 =>
    ((pV μ21 a3 12 29 (.int (v24 + (1 : Int32)))).bind fun μ25 =>
    ((ob μ25 a3 12).bind fun _ =>
    ((f_X12_term μ25 a3).bind fun μ26 =>
    ((ob μ26 a3 12).bind fun _ =>
    ((f_X12_entry μ26 a3 x23 (0 : Int32)).bind fun μ27 =>
    f_X12_sum_L4 K67 n μ27 a3)))))))
    else
    (nm (3 : Int32) fun x28 =>
    ((gI μ21 a3 12 29).bind fun v29 =>
    ((pV μ21 a3 12 29 (.int (v29 + (1 : Int32)))).bind fun μ30 =>
    ((ob μ30 a3 12).bind fun _ =>
    ((f_X12_term μ30 a3).bind fun μ31 =>
    ((ob μ31 a3 12).bind fun _ =>
    ((f_X12_entry μ31 a3 x28 (0 : Int32)).bind fun μ32 =>
    f_X12_sum_L4 K67 n μ32 a3))))))))))
    else
    K67 μ19))))))
    else
    K67 μ0))
set_option maxHeartbeats 4000000 in
set_option maxRecDepth 100000 in
theorem f_X12_sum_L4_ok {l : Launch} {G : GG} {K67 : Mm → Option Mm} {μ' : Mm} (n : Nat) (μ0 : Mm) (a3 : Nat) (hf : f_X12_sum_L4 K67 n μ0 a3 = some μ') (hK67 : ∀ (μ1 : Mm), K67 μ1  = some μ' → Ev l G D_X12_sum yX12_sum cX12_sum 2 none 67 [] [] μ1 none μ') : Ev l G D_X12_sum yX12_sum cX12_sum 2 none 4 [(0, .ref a3)] [] μ0 none μ' := by
  induction n generalizing μ0 a3 with
  | zero => cases hf
  | succ n ih0 =>
    have ih : ∀ (μ0 : Mm) (a3 : Nat), f_X12_sum_L4 K67 n μ0 a3 = some μ' → Ev l G D_X12_sum yX12_sum cX12_sum 2 none 4 [(0, .ref a3)] [] μ0 none μ' := fun μ0 a3 hf => ih0 μ0 a3 hf
    rw [f_X12_sum_L4] at hf
    refine E_aload_n (pc := 4) dX12_sum_4 rfl ?_
    refine E_getI (pc := 5) dX12_sum_5 fl_X12_214 hf (fun v4 hf => ?_)
    refine E_if_ne (pc := 8) (tgt := 67) dX12_sum_8 (by decide) hf (fun hf => ?_) (fun hf => ?_)
    · refine E_aload_n (pc := 11) dX12_sum_11 rfl ?_
      refine E_Vi (pc := 12) (d2 := D_X12_sign) (ci := 12) [] dX12_sum_12 ml_X12_220 mf_X12_sign im_X12_sign rfl rfl rfl (by decide) (Nat.le_of_ble_eq_true rfl) (Nat.le_of_ble_eq_true rfl) rfl (fun _ _ h => f_X12_sign_ok h) hf (fun v6 μ5 hf => ?_)
      refine E_bipush (pc := 15) (v := (43 : Int32)) dX12_sum_15 (by decide) ?_
      refine E_icmp_eq (pc := 17) (tgt := 29) dX12_sum_17 (by decide) hf (fun hf => ?_) (fun hf => ?_)
      · refine E_aload_n (pc := 29) dX12_sum_29 rfl ?_
        refine E_Vi (pc := 30) (d2 := D_X12_sign) (ci := 12) [] dX12_sum_30 ml_X12_220 mf_X12_sign im_X12_sign rfl rfl rfl (by decide) (Nat.le_of_ble_eq_true rfl) (Nat.le_of_ble_eq_true rfl) rfl (fun _ _ h => f_X12_sign_ok h) hf (fun v8 μ7 hf => ?_)
        refine E_bipush (pc := 33) (v := (43 : Int32)) dX12_sum_33 (by decide) ?_
        refine E_icmp_ne (pc := 35) (tgt := 42) dX12_sum_35 (by decide) hf (fun hf => ?_) (fun hf => ?_)
        · refine E_iconst (pc := 38) (v := (2 : Int32)) dX12_sum_38 (by decide) ?_
          refine E_goto (pc := 39) (tgt := 43) dX12_sum_39 (by decide) ?_
          refine E_istore_n (pc := 43) (ls' := fun x9 => [(1, .int x9), (0, .ref a3)]) dX12_sum_43 (by decide) (fun _ => rfl) hf (fun x9 hf => ?_)
          refine E_aload_n (pc := 44) dX12_sum_44 rfl ?_
          refine E_dup (pc := 45) dX12_sum_45 rfl ?_
          refine E_getI (pc := 46) dX12_sum_46 fl_X12_217 hf (fun v10 hf => ?_)
          refine E_iconst (pc := 49) (v := (1 : Int32)) dX12_sum_49 (by decide) ?_
          refine E_iadd (pc := 50) dX12_sum_50 ?_
          refine E_putI (pc := 51) dX12_sum_51 (pl_X12_217 _) hf (fun μ11 hf => ?_)
          refine E_aload_n (pc := 54) dX12_sum_54 rfl ?_
          refine E_Vv (pc := 55) (d2 := D_X12_term) (ci := 12) [] dX12_sum_55 ml_X12_278 mf_X12_term im_X12_term rfl rfl rfl (by decide) (Nat.le_of_ble_eq_true rfl) (Nat.le_of_ble_eq_true rfl) rfl (fun _ h => f_X12_term_ok h) hf (fun μ12 hf => ?_)
          refine E_aload_n (pc := 58) dX12_sum_58 rfl ?_
          refine E_iload_n (pc := 59) dX12_sum_59 rfl ?_
          refine E_iconst (pc := 60) (v := (0 : Int32)) dX12_sum_60 (by decide) ?_
          refine E_Vv (pc := 61) (d2 := D_X12_entry) (ci := 12) [.int x9, .int (0 : Int32)] dX12_sum_61 ml_X12_268 mf_X12_entry im_X12_entry rfl rfl rfl (by decide) (Nat.le_of_ble_eq_true rfl) (Nat.le_of_ble_eq_true rfl) rfl (fun _ h => f_X12_entry_ok h) hf (fun μ13 hf => ?_)
          refine E_goto (pc := 64) (tgt := 4) dX12_sum_64 (by decide) ?_
          refine Ev.sub [1] rfl ?_
          exact ih _ _ hf
        · refine E_iconst (pc := 42) (v := (3 : Int32)) dX12_sum_42 (by decide) ?_
          refine E_istore_n (pc := 43) (ls' := fun x14 => [(1, .int x14), (0, .ref a3)]) dX12_sum_43 (by decide) (fun _ => rfl) hf (fun x14 hf => ?_)
          refine E_aload_n (pc := 44) dX12_sum_44 rfl ?_
          refine E_dup (pc := 45) dX12_sum_45 rfl ?_
          refine E_getI (pc := 46) dX12_sum_46 fl_X12_217 hf (fun v15 hf => ?_)
          refine E_iconst (pc := 49) (v := (1 : Int32)) dX12_sum_49 (by decide) ?_
          refine E_iadd (pc := 50) dX12_sum_50 ?_
          refine E_putI (pc := 51) dX12_sum_51 (pl_X12_217 _) hf (fun μ16 hf => ?_)
          refine E_aload_n (pc := 54) dX12_sum_54 rfl ?_
          refine E_Vv (pc := 55) (d2 := D_X12_term) (ci := 12) [] dX12_sum_55 ml_X12_278 mf_X12_term im_X12_term rfl rfl rfl (by decide) (Nat.le_of_ble_eq_true rfl) (Nat.le_of_ble_eq_true rfl) rfl (fun _ h => f_X12_term_ok h) hf (fun μ17 hf => ?_)
          refine E_aload_n (pc := 58) dX12_sum_58 rfl ?_
          refine E_iload_n (pc := 59) dX12_sum_59 rfl ?_
          refine E_iconst (pc := 60) (v := (0 : Int32)) dX12_sum_60 (by decide) ?_
          refine E_Vv (pc := 61) (d2 := D_X12_entry) (ci := 12) [.int x14, .int (0 : Int32)] dX12_sum_61 ml_X12_268 mf_X12_entry im_X12_entry rfl rfl rfl (by decide) (Nat.le_of_ble_eq_true rfl) (Nat.le_of_ble_eq_true rfl) rfl (fun _ h => f_X12_entry_ok h) hf (fun μ18 hf => ?_)
          refine E_goto (pc := 64) (tgt := 4) dX12_sum_64 (by decide) ?_
          refine Ev.sub [1] rfl ?_
          exact ih _ _ hf
      · refine E_aload_n (pc := 20) dX12_sum_20 rfl ?_
        refine E_Vi (pc := 21) (d2 := D_X12_sign) (ci := 12) [] dX12_sum_21 ml_X12_220 mf_X12_sign im_X12_sign rfl rfl rfl (by decide) (Nat.le_of_ble_eq_true rfl) (Nat.le_of_ble_eq_true rfl) rfl (fun _ _ h => f_X12_sign_ok h) hf (fun v20 μ19 hf => ?_)
        refine E_bipush (pc := 24) (v := (45 : Int32)) dX12_sum_24 (by decide) ?_
        refine E_icmp_ne (pc := 26) (tgt := 67) dX12_sum_26 (by decide) hf (fun hf => ?_) (fun hf => ?_)
        · refine E_aload_n (pc := 29) dX12_sum_29 rfl ?_
          refine E_Vi (pc := 30) (d2 := D_X12_sign) (ci := 12) [] dX12_sum_30 ml_X12_220 mf_X12_sign im_X12_sign rfl rfl rfl (by decide) (Nat.le_of_ble_eq_true rfl) (Nat.le_of_ble_eq_true rfl) rfl (fun _ _ h => f_X12_sign_ok h) hf (fun v22 μ21 hf => ?_)
          refine E_bipush (pc := 33) (v := (43 : Int32)) dX12_sum_33 (by decide) ?_
          refine E_icmp_ne (pc := 35) (tgt := 42) dX12_sum_35 (by decide) hf (fun hf => ?_) (fun hf => ?_)
          · refine E_iconst (pc := 38) (v := (2 : Int32)) dX12_sum_38 (by decide) ?_
            refine E_goto (pc := 39) (tgt := 43) dX12_sum_39 (by decide) ?_
            refine E_istore_n (pc := 43) (ls' := fun x23 => [(1, .int x23), (0, .ref a3)]) dX12_sum_43 (by decide) (fun _ => rfl) hf (fun x23 hf => ?_)
            refine E_aload_n (pc := 44) dX12_sum_44 rfl ?_
            refine E_dup (pc := 45) dX12_sum_45 rfl ?_
            refine E_getI (pc := 46) dX12_sum_46 fl_X12_217 hf (fun v24 hf => ?_)
            refine E_iconst (pc := 49) (v := (1 : Int32)) dX12_sum_49 (by decide) ?_
            refine E_iadd (pc := 50) dX12_sum_50 ?_
            refine E_putI (pc := 51) dX12_sum_51 (pl_X12_217 _) hf (fun μ25 hf => ?_)
            refine E_aload_n (pc := 54) dX12_sum_54 rfl ?_
            refine E_Vv (pc := 55) (d2 := D_X12_term) (ci := 12) [] dX12_sum_55 ml_X12_278 mf_X12_term im_X12_term rfl rfl rfl (by decide) (Nat.le_of_ble_eq_true rfl) (Nat.le_of_ble_eq_true rfl) rfl (fun _ h => f_X12_term_ok h) hf (fun μ26 hf => ?_)
            refine E_aload_n (pc := 58) dX12_sum_58 rfl ?_
            refine E_iload_n (pc := 59) dX12_sum_59 rfl ?_
            refine E_iconst (pc := 60) (v := (0 : Int32)) dX12_sum_60 (by decide) ?_
            refine E_Vv (pc := 61) (d2 := D_X12_entry) (ci := 12) [.int x23, .int (0 : Int32)] dX12_sum_61 ml_X12_268 mf_X12_entry im_X12_entry rfl rfl rfl (by decide) (Nat.le_of_ble_eq_true rfl) (Nat.le_of_ble_eq_true rfl) rfl (fun _ h => f_X12_entry_ok h) hf (fun μ27 hf => ?_)
            refine E_goto (pc := 64) (tgt := 4) dX12_sum_64 (by decide) ?_
            refine Ev.sub [1] rfl ?_
            exact ih _ _ hf
          · refine E_iconst (pc := 42) (v := (3 : Int32)) dX12_sum_42 (by decide) ?_
            refine E_istore_n (pc := 43) (ls' := fun x28 => [(1, .int x28), (0, .ref a3)]) dX12_sum_43 (by decide) (fun _ => rfl) hf (fun x28 hf => ?_)
            refine E_aload_n (pc := 44) dX12_sum_44 rfl ?_
            refine E_dup (pc := 45) dX12_sum_45 rfl ?_
            refine E_getI (pc := 46) dX12_sum_46 fl_X12_217 hf (fun v29 hf => ?_)
            refine E_iconst (pc := 49) (v := (1 : Int32)) dX12_sum_49 (by decide) ?_
            refine E_iadd (pc := 50) dX12_sum_50 ?_
            refine E_putI (pc := 51) dX12_sum_51 (pl_X12_217 _) hf (fun μ30 hf => ?_)
            refine E_aload_n (pc := 54) dX12_sum_54 rfl ?_
            refine E_Vv (pc := 55) (d2 := D_X12_term) (ci := 12) [] dX12_sum_55 ml_X12_278 mf_X12_term im_X12_term rfl rfl rfl (by decide) (Nat.le_of_ble_eq_true rfl) (Nat.le_of_ble_eq_true rfl) rfl (fun _ h => f_X12_term_ok h) hf (fun μ31 hf => ?_)
            refine E_aload_n (pc := 58) dX12_sum_58 rfl ?_
            refine E_iload_n (pc := 59) dX12_sum_59 rfl ?_
            refine E_iconst (pc := 60) (v := (0 : Int32)) dX12_sum_60 (by decide) ?_
            refine E_Vv (pc := 61) (d2 := D_X12_entry) (ci := 12) [.int x28, .int (0 : Int32)] dX12_sum_61 ml_X12_268 mf_X12_entry im_X12_entry rfl rfl rfl (by decide) (Nat.le_of_ble_eq_true rfl) (Nat.le_of_ble_eq_true rfl) rfl (fun _ h => f_X12_entry_ok h) hf (fun μ32 hf => ?_)
            refine E_goto (pc := 64) (tgt := 4) dX12_sum_64 (by decide) ?_
            refine Ev.sub [1] rfl ?_
            exact ih _ _ hf
        · refine Ev.sub [] rfl ?_
          exact hK67 _ hf
    · refine Ev.sub [] rfl ?_
      exact hK67 _ hf
set_option maxRecDepth 100000 in
def f_X12_sum (μ0 : Mm) (a1 : Nat) : Option Mm :=
 ((ob μ0 a1 12).bind fun _ =>
    ((f_X12_term μ0 a1).bind fun μ2 =>
    f_X12_sum_L4 (fun μ33 =>
    (some μ33)) FU μ2 a1))
set_option maxHeartbeats 4000000 in
set_option maxRecDepth 100000 in
theorem f_X12_sum_ok {l : Launch} {G : GG} {μ0 : Mm} {a1 : Nat} {μ' : Mm} (hf : f_X12_sum μ0 a1 = some μ') : EvM l G D_X12_sum yX12_sum cX12_sum 2 none [.ref a1] μ0 none μ' := by
  show Ev l G D_X12_sum yX12_sum cX12_sum 2 none 0 [(0, .ref a1)] [] μ0 none μ'
  unfold f_X12_sum at hf
  refine E_aload_n (pc := 0) dX12_sum_0 rfl ?_
  refine E_Vv (pc := 1) (d2 := D_X12_term) (ci := 12) [] dX12_sum_1 ml_X12_278 mf_X12_term im_X12_term rfl rfl rfl (by decide) (Nat.le_of_ble_eq_true rfl) (Nat.le_of_ble_eq_true rfl) rfl (fun _ h => f_X12_term_ok h) hf (fun μ2 hf => ?_)
  refine Ev.sub [0] rfl ?_
  refine f_X12_sum_L4_ok  _ _ _ hf (fun μ33 hf => ?_)
  · exact E_vret (pc := 67) dX12_sum_67 rfl hf
theorem dX12_compared_0 : decode cX12_compared 0 = .ok (.aload_n 0, 1) := by decide +kernel
theorem dX12_compared_1 : decode cX12_compared 1 = .ok (.invokevirtual 281, 3) := by decide +kernel
theorem dX12_compared_4 : decode cX12_compared 4 = .ok (.aload_n 0, 1) := by decide +kernel
theorem dX12_compared_5 : decode cX12_compared 5 = .ok (.invokevirtual 220, 3) := by decide +kernel
theorem dX12_compared_8 : decode cX12_compared 8 = .ok (.istore_n 1, 1) := by decide +kernel
theorem dX12_compared_9 : decode cX12_compared 9 = .ok (.iload_n 1, 1) := by decide +kernel
theorem dX12_compared_10 : decode cX12_compared 10 = .ok (.bipush 60, 2) := by decide +kernel
theorem dX12_compared_12 : decode cX12_compared 12 = .ok (.if_icmp .eq 25, 3) := by decide +kernel
theorem dX12_compared_15 : decode cX12_compared 15 = .ok (.iload_n 1, 1) := by decide +kernel
theorem dX12_compared_16 : decode cX12_compared 16 = .ok (.bipush 61, 2) := by decide +kernel
theorem dX12_compared_18 : decode cX12_compared 18 = .ok (.if_icmp .eq 19, 3) := by decide +kernel
theorem dX12_compared_21 : decode cX12_compared 21 = .ok (.iload_n 1, 1) := by decide +kernel
theorem dX12_compared_22 : decode cX12_compared 22 = .ok (.bipush 62, 2) := by decide +kernel
theorem dX12_compared_24 : decode cX12_compared 24 = .ok (.if_icmp .eq 13, 3) := by decide +kernel
theorem dX12_compared_27 : decode cX12_compared 27 = .ok (.aload_n 0, 1) := by decide +kernel
theorem dX12_compared_28 : decode cX12_compared 28 = .ok (.iconst 0, 1) := by decide +kernel
theorem dX12_compared_29 : decode cX12_compared 29 = .ok (.aload_n 0, 1) := by decide +kernel
theorem dX12_compared_30 : decode cX12_compared 30 = .ok (.getfield 217, 3) := by decide +kernel
theorem dX12_compared_33 : decode cX12_compared 33 = .ok (.invokevirtual 252, 3) := by decide +kernel
theorem dX12_compared_36 : decode cX12_compared 36 = .ok (.return_, 1) := by decide +kernel
theorem dX12_compared_37 : decode cX12_compared 37 = .ok (.aload_n 0, 1) := by decide +kernel
theorem dX12_compared_38 : decode cX12_compared 38 = .ok (.aload_n 0, 1) := by decide +kernel
theorem dX12_compared_39 : decode cX12_compared 39 = .ok (.getfield 217, 3) := by decide +kernel
theorem dX12_compared_42 : decode cX12_compared 42 = .ok (.invokevirtual 265, 3) := by decide +kernel
theorem dX12_compared_45 : decode cX12_compared 45 = .ok (.aload_n 0, 1) := by decide +kernel
theorem dX12_compared_46 : decode cX12_compared 46 = .ok (.dup, 1) := by decide +kernel
theorem dX12_compared_47 : decode cX12_compared 47 = .ok (.getfield 217, 3) := by decide +kernel
theorem dX12_compared_50 : decode cX12_compared 50 = .ok (.iconst 1, 1) := by decide +kernel
theorem dX12_compared_51 : decode cX12_compared 51 = .ok (.iadd, 1) := by decide +kernel
theorem dX12_compared_52 : decode cX12_compared 52 = .ok (.putfield 217, 3) := by decide +kernel
theorem dX12_compared_55 : decode cX12_compared 55 = .ok (.iload_n 1, 1) := by decide +kernel
theorem dX12_compared_56 : decode cX12_compared 56 = .ok (.bipush 61, 2) := by decide +kernel
theorem dX12_compared_58 : decode cX12_compared 58 = .ok (.if_icmp .eq 16, 3) := by decide +kernel
theorem dX12_compared_61 : decode cX12_compared 61 = .ok (.aload_n 0, 1) := by decide +kernel
theorem dX12_compared_62 : decode cX12_compared 62 = .ok (.invokevirtual 220, 3) := by decide +kernel
theorem dX12_compared_65 : decode cX12_compared 65 = .ok (.bipush 61, 2) := by decide +kernel
theorem dX12_compared_67 : decode cX12_compared 67 = .ok (.if_icmp .ne 7, 3) := by decide +kernel
theorem dX12_compared_70 : decode cX12_compared 70 = .ok (.iconst 1, 1) := by decide +kernel
theorem dX12_compared_71 : decode cX12_compared 71 = .ok (.goto 4, 3) := by decide +kernel
theorem dX12_compared_74 : decode cX12_compared 74 = .ok (.iconst 0, 1) := by decide +kernel
theorem dX12_compared_75 : decode cX12_compared 75 = .ok (.istore_n 2, 1) := by decide +kernel
theorem dX12_compared_76 : decode cX12_compared 76 = .ok (.aload_n 0, 1) := by decide +kernel
theorem dX12_compared_77 : decode cX12_compared 77 = .ok (.dup, 1) := by decide +kernel
theorem dX12_compared_78 : decode cX12_compared 78 = .ok (.getfield 217, 3) := by decide +kernel
theorem dX12_compared_81 : decode cX12_compared 81 = .ok (.iload_n 2, 1) := by decide +kernel
theorem dX12_compared_82 : decode cX12_compared 82 = .ok (.ifCond .eq 7, 3) := by decide +kernel
theorem dX12_compared_85 : decode cX12_compared 85 = .ok (.iconst 1, 1) := by decide +kernel
theorem dX12_compared_86 : decode cX12_compared 86 = .ok (.goto 4, 3) := by decide +kernel
theorem dX12_compared_89 : decode cX12_compared 89 = .ok (.iconst 0, 1) := by decide +kernel
theorem dX12_compared_90 : decode cX12_compared 90 = .ok (.iadd, 1) := by decide +kernel
theorem dX12_compared_91 : decode cX12_compared 91 = .ok (.putfield 217, 3) := by decide +kernel
theorem dX12_compared_94 : decode cX12_compared 94 = .ok (.aload_n 0, 1) := by decide +kernel
theorem dX12_compared_95 : decode cX12_compared 95 = .ok (.invokevirtual 281, 3) := by decide +kernel
theorem dX12_compared_98 : decode cX12_compared 98 = .ok (.aload_n 0, 1) := by decide +kernel
theorem dX12_compared_99 : decode cX12_compared 99 = .ok (.iload_n 1, 1) := by decide +kernel
theorem dX12_compared_100 : decode cX12_compared 100 = .ok (.bipush 61, 2) := by decide +kernel
theorem dX12_compared_102 : decode cX12_compared 102 = .ok (.if_icmp .ne 8, 3) := by decide +kernel
theorem dX12_compared_105 : decode cX12_compared 105 = .ok (.bipush 6, 2) := by decide +kernel
theorem dX12_compared_107 : decode cX12_compared 107 = .ok (.goto 32, 3) := by decide +kernel
theorem dX12_compared_110 : decode cX12_compared 110 = .ok (.iload_n 1, 1) := by decide +kernel
theorem dX12_compared_111 : decode cX12_compared 111 = .ok (.bipush 60, 2) := by decide +kernel
theorem dX12_compared_113 : decode cX12_compared 113 = .ok (.if_icmp .ne 15, 3) := by decide +kernel
theorem dX12_compared_116 : decode cX12_compared 116 = .ok (.iload_n 2, 1) := by decide +kernel
theorem dX12_compared_117 : decode cX12_compared 117 = .ok (.ifCond .eq 7, 3) := by decide +kernel
theorem dX12_compared_120 : decode cX12_compared 120 = .ok (.iconst 5, 1) := by decide +kernel
theorem dX12_compared_121 : decode cX12_compared 121 = .ok (.goto 18, 3) := by decide +kernel
theorem dX12_compared_124 : decode cX12_compared 124 = .ok (.iconst 4, 1) := by decide +kernel
theorem dX12_compared_125 : decode cX12_compared 125 = .ok (.goto 14, 3) := by decide +kernel
theorem dX12_compared_128 : decode cX12_compared 128 = .ok (.iload_n 2, 1) := by decide +kernel
theorem dX12_compared_129 : decode cX12_compared 129 = .ok (.ifCond .eq 8, 3) := by decide +kernel
theorem dX12_compared_132 : decode cX12_compared 132 = .ok (.bipush 7, 2) := by decide +kernel
theorem dX12_compared_134 : decode cX12_compared 134 = .ok (.goto 5, 3) := by decide +kernel
theorem dX12_compared_137 : decode cX12_compared 137 = .ok (.bipush 8, 2) := by decide +kernel
theorem dX12_compared_139 : decode cX12_compared 139 = .ok (.iconst 0, 1) := by decide +kernel
theorem dX12_compared_140 : decode cX12_compared 140 = .ok (.invokevirtual 268, 3) := by decide +kernel
theorem dX12_compared_143 : decode cX12_compared 143 = .ok (.return_, 1) := by decide +kernel
abbrev D_X12_compared : Nat := 11
set_option maxRecDepth 100000 in
def f_X12_compared (μ0 : Mm) (a1 : Nat) : Option Mm :=
 ((ob μ0 a1 12).bind fun _ =>
    ((f_X12_sum μ0 a1).bind fun μ2 =>
    ((ob μ2 a1 12).bind fun _ =>
    (bd (f_X12_sign μ2 a1) fun v4 μ3 =>
    (nm v4 fun x5 =>
    (if x5 = (60 : Int32) then
    ((gI μ3 a1 12 29).bind fun v6 =>
    ((ob μ3 a1 12).bind fun _ =>
    ((f_X12_isCounted μ3 a1 v6).bind fun μ7 =>
    ((gI μ7 a1 12 29).bind fun v8 =>
    ((pV μ7 a1 12 29 (.int (v8 + (1 : Int32)))).bind fun μ9 =>
    (if x5 = (61 : Int32) then
    (nm (0 : Int32) fun x10 =>
    ((gI μ9 a1 12 29).bind fun v11 =>
    (if x10 = 0 then
    ((pV μ9 a1 12 29 (.int (v11 + (0 : Int32)))).bind fun μ12 =>
    ((ob μ12 a1 12).bind fun _ =>
    ((f_X12_sum μ12 a1).bind fun μ13 =>
    (if x5 = (61 : Int32) then
    ((ob μ13 a1 12).bind fun _ =>
    ((f_X12_entry μ13 a1 (6 : Int32) (0 : Int32)).bind fun μ14 =>
    (some μ14)))
    else
    (if x5 = (60 : Int32) then
    (if x10 = 0 then
    ((ob μ13 a1 12).bind fun _ =>
    ((f_X12_entry μ13 a1 (4 : Int32) (0 : Int32)).bind fun μ15 =>
    (some μ15)))
    else
    ((ob μ13 a1 12).bind fun _ =>
    ((f_X12_entry μ13 a1 (5 : Int32) (0 : Int32)).bind fun μ16 =>
    (some μ16))))
    else
    (if x10 = 0 then
    ((ob μ13 a1 12).bind fun _ =>
    ((f_X12_entry μ13 a1 (8 : Int32) (0 : Int32)).bind fun μ17 =>
    (some μ17)))
    else
    ((ob μ13 a1 12).bind fun _ =>
    ((f_X12_entry μ13 a1 (7 : Int32) (0 : Int32)).bind fun μ18 =>
    (some μ18)))))))))
    else
    ((pV μ9 a1 12 29 (.int (v11 + (1 : Int32)))).bind fun μ19 =>
    ((ob μ19 a1 12).bind fun _ =>
    ((f_X12_sum μ19 a1).bind fun μ20 =>
    (if x5 = (61 : Int32) then
    ((ob μ20 a1 12).bind fun _ =>
    ((f_X12_entry μ20 a1 (6 : Int32) (0 : Int32)).bind fun μ21 =>
    (some μ21)))
    else
    (if x5 = (60 : Int32) then
    (if x10 = 0 then
    ((ob μ20 a1 12).bind fun _ =>
    ((f_X12_entry μ20 a1 (4 : Int32) (0 : Int32)).bind fun μ22 =>
    (some μ22)))
    else
    ((ob μ20 a1 12).bind fun _ =>
    ((f_X12_entry μ20 a1 (5 : Int32) (0 : Int32)).bind fun μ23 =>
    (some μ23))))
    else
    (if x10 = 0 then
    ((ob μ20 a1 12).bind fun _ =>
    ((f_X12_entry μ20 a1 (8 : Int32) (0 : Int32)).bind fun μ24 =>
    (some μ24)))
    else
    ((ob μ20 a1 12).bind fun _ =>
    ((f_X12_entry μ20 a1 (7 : Int32) (0 : Int32)).bind fun μ25 =>
    (some μ25))))))))))))
    else
    ((ob μ9 a1 12).bind fun _ =>
    (bd (f_X12_sign μ9 a1) fun v27 μ26 =>
    (if v27 = (61 : Int32) then
    (nm (1 : Int32) fun x28 =>
    ((gI μ26 a1 12 29).bind fun v29 =>
    (if x28 = 0 then
    ((pV μ26 a1 12 29 (.int (v29 + (0 : Int32)))).bind fun μ30 =>
    ((ob μ30 a1 12).bind fun _ =>
    ((f_X12_sum μ30 a1).bind fun μ31 =>
    (if x5 = (61 : Int32) then
    ((ob μ31 a1 12).bind fun _ =>
    ((f_X12_entry μ31 a1 (6 : Int32) (0 : Int32)).bind fun μ32 =>
    (some μ32)))
    else
    (if x5 = (60 : Int32) then
    (if x28 = 0 then
    ((ob μ31 a1 12).bind fun _ =>
    ((f_X12_entry μ31 a1 (4 : Int32) (0 : Int32)).bind fun μ33 =>
    (some μ33)))
    else
    ((ob μ31 a1 12).bind fun _ =>
    ((f_X12_entry μ31 a1 (5 : Int32) (0 : Int32)).bind fun μ34 =>
    (some μ34))))
    else
    (if x28 = 0 then
    ((ob μ31 a1 12).bind fun _ =>
    ((f_X12_entry μ31 a1 (8 : Int32) (0 : Int32)).bind fun μ35 =>
    (some μ35)))
    else
    ((ob μ31 a1 12).bind fun _ =>
    ((f_X12_entry μ31 a1 (7 : Int32) (0 : Int32)).bind fun μ36 =>
    (some μ36)))))))))
    else
    ((pV μ26 a1 12 29 (.int (v29 + (1 : Int32)))).bind fun μ37 =>
    ((ob μ37 a1 12).bind fun _ =>
    ((f_X12_sum μ37 a1).bind fun μ38 =>
    (if x5 = (61 : Int32) then
    ((ob μ38 a1 12).bind fun _ =>
    ((f_X12_entry μ38 a1 (6 : Int32) (0 : Int32)).bind fun μ39 =>
    (some μ39)))
    else
    (if x5 = (60 : Int32) then
    (if x28 = 0 then
    ((ob μ38 a1 12).bind fun _ =>
    ((f_X12_entry μ38 a1 (4 : Int32) (0 : Int32)).bind fun μ40 =>
    (some μ40)))
    else
    ((ob μ38 a1 12).bind fun _ =>
    ((f_X12_entry μ38 a1 (5 : Int32) (0 : Int32)).bind fun μ41 =>
    (some μ41))))
    else
    (if x28 = 0 then
    ((ob μ38 a1 12).bind fun _ =>
    ((f_X12_entry μ38 a1 (8 : Int32) (0 : Int32)).bind fun μ42 =>
    (some μ42)))
    else
    ((ob μ38 a1 12).bind fun _ =>
    ((f_X12_entry μ38 a1 (7 : Int32) (0 : Int32)).bind fun μ43 =>
    (some μ43))))))))))))
    else
    (nm (0 : Int32) fun x44 =>
    ((gI μ26 a1 12 29).bind fun v45 =>
    (if x44 = 0 then
    ((pV μ26 a1 12 29 (.int (v45 + (0 : Int32)))).bind fun μ46 =>
    ((ob μ46 a1 12).bind fun _ =>
    ((f_X12_sum μ46 a1).bind fun μ47 =>
    (if x5 = (61 : Int32) then
    ((ob μ47 a1 12).bind fun _ =>
    ((f_X12_entry μ47 a1 (6 : Int32) (0 : Int32)).bind fun μ48 =>
    (some μ48)))
    else
    (if x5 = (60 : Int32) then
    (if x44 = 0 then
    ((ob μ47 a1 12).bind fun _ =>
    ((f_X12_entry μ47 a1 (4 : Int32) (0 : Int32)).bind fun μ49 =>
    (some μ49)))
    else
    ((ob μ47 a1 12).bind fun _ =>
    ((f_X12_entry μ47 a1 (5 : Int32) (0 : Int32)).bind fun μ50 =>
    (some μ50))))
    else
    (if x44 = 0 then
    ((ob μ47 a1 12).bind fun _ =>
    ((f_X12_entry μ47 a1 (8 : Int32) (0 : Int32)).bind fun μ51 =>
    (some μ51)))
    else
    ((ob μ47 a1 12).bind fun _ =>
    ((f_X12_entry μ47 a1 (7 : Int32) (0 : Int32)).bind fun μ52 =>
    (some μ52)))))))))
    else
    ((pV μ26 a1 12 29 (.int (v45 + (1 : Int32)))).bind fun μ53 =>
    ((ob μ53 a1 12).bind fun _ =>
    ((f_X12_sum μ53 a1).bind fun μ54 =>
    (if x5 = (61 : Int32) then
    ((ob μ54 a1 12).bind fun _ =>
    ((f_X12_entry μ54 a1 (6 : Int32) (0 : Int32)).bind fun μ55 =>
    (some μ55)))
    else
    (if x5 = (60 : Int32) then
    (if x44 = 0 then
    ((ob μ54 a1 12).bind fun _ =>
    ((f_X12_entry μ54 a1 (4 : Int32) (0 : Int32)).bind fun μ56 =>
    (some μ56)))
    else
    ((ob μ54 a1 12).bind fun _ =>
    ((f_X12_entry μ54 a1 (5 : Int32) (0 : Int32)).bind fun μ57 =>
    (some μ57))))
    else
    (if x44 = 0 then
    ((ob μ54 a1 12).bind fun _ =>
    ((f_X12_entry μ54 a1 (8 : Int32) (0 : Int32)).bind fun μ58 =>
    (some μ58)))
    else
    ((ob μ54 a1 12).bind fun _ =>
    ((f_X12_entry μ54 a1 (7 : Int32) (0 : Int32)).bind fun μ59 =>
    (some μ59)))))))))))))))))))))
    else
    (if x5 = (61 : Int32) then
    ((gI μ3 a1 12 29).bind fun v60 =>
    ((ob μ3 a1 12).bind fun _ =>
    ((f_X12_isCounted μ3 a1 v60).bind fun μ61 =>
    ((gI μ61 a1 12 29).bind fun v62 =>
    ((pV μ61 a1 12 29 (.int (v62 + (1 : Int32)))).bind fun μ63 =>
    (if x5 = (61 : Int32) then
    (nm (0 : Int32) fun x64 =>
    ((gI μ63 a1 12 29).bind fun v65 =>
    (if x64 = 0 then
    ((pV μ63 a1 12 29 (.int (v65 + (0 : Int32)))).bind fun μ66 =>
    ((ob μ66 a1 12).bind fun _ =>
    ((f_X12_sum μ66 a1).bind fun μ67 =>
    (if x5 = (61 : Int32) then
    ((ob μ67 a1 12).bind fun _ =>
    ((f_X12_entry μ67 a1 (6 : Int32) (0 : Int32)).bind fun μ68 =>
    (some μ68)))
    else
    (if x5 = (60 : Int32) then
    (if x64 = 0 then
    ((ob μ67 a1 12).bind fun _ =>
    ((f_X12_entry μ67 a1 (4 : Int32) (0 : Int32)).bind fun μ69 =>
    (some μ69)))
    else
    ((ob μ67 a1 12).bind fun _ =>
    ((f_X12_entry μ67 a1 (5 : Int32) (0 : Int32)).bind fun μ70 =>
    (some μ70))))
    else
    (if x64 = 0 then
    ((ob μ67 a1 12).bind fun _ =>
    ((f_X12_entry μ67 a1 (8 : Int32) (0 : Int32)).bind fun μ71 =>
    (some μ71)))
    else
    ((ob μ67 a1 12).bind fun _ =>
    ((f_X12_entry μ67 a1 (7 : Int32) (0 : Int32)).bind fun μ72 =>
    (some μ72)))))))))
    else
    ((pV μ63 a1 12 29 (.int (v65 + (1 : Int32)))).bind fun μ73 =>
    ((ob μ73 a1 12).bind fun _ =>
    ((f_X12_sum μ73 a1).bind fun μ74 =>
    (if x5 = (61 : Int32) then
    ((ob μ74 a1 12).bind fun _ =>
    ((f_X12_entry μ74 a1 (6 : Int32) (0 : Int32)).bind fun μ75 =>
    (some μ75)))
    else
    (if x5 = (60 : Int32) then
    (if x64 = 0 then
    ((ob μ74 a1 12).bind fun _ =>
    ((f_X12_entry μ74 a1 (4 : Int32) (0 : Int32)).bind fun μ76 =>
    (some μ76)))
    else
    ((ob μ74 a1 12).bind fun _ =>
    ((f_X12_entry μ74 a1 (5 : Int32) (0 : Int32)).bind fun μ77 =>
    (some μ77))))
    else
    (if x64 = 0 then
    ((ob μ74 a1 12).bind fun _ =>
    ((f_X12_entry μ74 a1 (8 : Int32) (0 : Int32)).bind fun μ78 =>
    (some μ78)))
    else
    ((ob μ74 a1 12).bind fun _ =>
    ((f_X12_entry μ74 a1 (7 : Int32) (0 : Int32)).bind fun μ79 =>
    (some μ79))))))))))))
    else
    ((ob μ63 a1 12).bind fun _ =>
    (bd (f_X12_sign μ63 a1) fun v81 μ80 =>
    (if v81 = (61 : Int32) then
    (nm (1 : Int32) fun x82 =>
    ((gI μ80 a1 12 29).bind fun v83 =>
    (if x82 = 0 then
    ((pV μ80 a1 12 29 (.int (v83 + (0 : Int32)))).bind fun μ84 =>
    ((ob μ84 a1 12).bind fun _ =>
    ((f_X12_sum μ84 a1).bind fun μ85 =>
    (if x5 = (61 : Int32) then
    ((ob μ85 a1 12).bind fun _ =>
    ((f_X12_entry μ85 a1 (6 : Int32) (0 : Int32)).bind fun μ86 =>
    (some μ86)))
    else
    (if x5 = (60 : Int32) then
    (if x82 = 0 then
    ((ob μ85 a1 12).bind fun _ =>
    ((f_X12_entry μ85 a1 (4 : Int32) (0 : Int32)).bind fun μ87 =>
    (some μ87)))
    else
    ((ob μ85 a1 12).bind fun _ =>
    ((f_X12_entry μ85 a1 (5 : Int32) (0 : Int32)).bind fun μ88 =>
    (some μ88))))
    else
    (if x82 = 0 then
    ((ob μ85 a1 12).bind fun _ =>
    ((f_X12_entry μ85 a1 (8 : Int32) (0 : Int32)).bind fun μ89 =>
    (some μ89)))
    else
    ((ob μ85 a1 12).bind fun _ =>
    ((f_X12_entry μ85 a1 (7 : Int32) (0 : Int32)).bind fun μ90 =>
    (some μ90)))))))))
    else
    ((pV μ80 a1 12 29 (.int (v83 + (1 : Int32)))).bind fun μ91 =>
    ((ob μ91 a1 12).bind fun _ =>
    ((f_X12_sum μ91 a1).bind fun μ92 =>
    (if x5 = (61 : Int32) then
    ((ob μ92 a1 12).bind fun _ =>
    ((f_X12_entry μ92 a1 (6 : Int32) (0 : Int32)).bind fun μ93 =>
    (some μ93)))
    else
    (if x5 = (60 : Int32) then
    (if x82 = 0 then
    ((ob μ92 a1 12).bind fun _ =>
    ((f_X12_entry μ92 a1 (4 : Int32) (0 : Int32)).bind fun μ94 =>
    (some μ94)))
    else
    ((ob μ92 a1 12).bind fun _ =>
    ((f_X12_entry μ92 a1 (5 : Int32) (0 : Int32)).bind fun μ95 =>
    (some μ95))))
    else
    (if x82 = 0 then
    ((ob μ92 a1 12).bind fun _ =>
    ((f_X12_entry μ92 a1 (8 : Int32) (0 : Int32)).bind fun μ96 =>
    (some μ96)))
    else
    ((ob μ92 a1 12).bind fun _ =>
    ((f_X12_entry μ92 a1 (7 : Int32) (0 : Int32)).bind fun μ97 =>
    (some μ97))))))))))))
    else
    (nm (0 : Int32) fun x98 =>
    ((gI μ80 a1 12 29).bind fun v99 =>
    (if x98 = 0 then
    ((pV μ80 a1 12 29 (.int (v99 + (0 : Int32)))).bind fun μ100 =>
    ((ob μ100 a1 12).bind fun _ =>
    ((f_X12_sum μ100 a1).bind fun μ101 =>
    (if x5 = (61 : Int32) then
    ((ob μ101 a1 12).bind fun _ =>
    ((f_X12_entry μ101 a1 (6 : Int32) (0 : Int32)).bind fun μ102 =>
    (some μ102)))
    else
    (if x5 = (60 : Int32) then
    (if x98 = 0 then
    ((ob μ101 a1 12).bind fun _ =>
    ((f_X12_entry μ101 a1 (4 : Int32) (0 : Int32)).bind fun μ103 =>
    (some μ103)))
    else
    ((ob μ101 a1 12).bind fun _ =>
    ((f_X12_entry μ101 a1 (5 : Int32) (0 : Int32)).bind fun μ104 =>
    (some μ104))))
    else
    (if x98 = 0 then
    ((ob μ101 a1 12).bind fun _ =>
    ((f_X12_entry μ101 a1 (8 : Int32) (0 : Int32)).bind fun μ105 =>
    (some μ105)))
    else
    ((ob μ101 a1 12).bind fun _ =>
    ((f_X12_entry μ101 a1 (7 : Int32) (0 : Int32)).bind fun μ106 =>
    (some μ106)))))))))
    else
    ((pV μ80 a1 12 29 (.int (v99 + (1 : Int32)))).bind fun μ107 =>
    ((ob μ107 a1 12).bind fun _ =>
    ((f_X12_sum μ107 a1).bind fun μ108 =>
    (if x5 = (61 : Int32) then
    ((ob μ108 a1 12).bind fun _ =>
    ((f_X12_entry μ108 a1 (6 : Int32) (0 : Int32)).bind fun μ109 =>
    (some μ109)))
    else
    (if x5 = (60 : Int32) then
    (if x98 = 0 then
    ((ob μ108 a1 12).bind fun _ =>
    ((f_X12_entry μ108 a1 (4 : Int32) (0 : Int32)).bind fun μ110 =>
    (some μ110)))
    else
    ((ob μ108 a1 12).bind fun _ =>
    ((f_X12_entry μ108 a1 (5 : Int32) (0 : Int32)).bind fun μ111 =>
    (some μ111))))
    else
    (if x98 = 0 then
    ((ob μ108 a1 12).bind fun _ =>
    ((f_X12_entry μ108 a1 (8 : Int32) (0 : Int32)).bind fun μ112 =>
    (some μ112)))
    else
    ((ob μ108 a1 12).bind fun _ =>
    ((f_X12_entry μ108 a1 (7 : Int32) (0 : Int32)).bind fun μ113 =>
    (some μ113)))))))))))))))))))))
    else
    (if x5 = (62 : Int32) then
    ((gI μ3 a1 12 29).bind fun v114 =>
    ((ob μ3 a1 12).bind fun _ =>
    ((f_X12_isCounted μ3 a1 v114).bind fun μ115 =>
    ((gI μ115 a1 12 29).bind fun v116 =>
    ((pV μ115 a1 12 29 (.int (v116 + (1 : Int32)))).bind fun μ117 =>
    (if x5 = (61 : Int32) then
    (nm (0 : Int32) fun x118 =>
    ((gI μ117 a1 12 29).bind fun v119 =>
    (if x118 = 0 then
    ((pV μ117 a1 12 29 (.int (v119 + (0 : Int32)))).bind fun μ120 =>
    ((ob μ120 a1 12).bind fun _ =>
    ((f_X12_sum μ120 a1).bind fun μ121 =>
    (if x5 = (61 : Int32) then
    ((ob μ121 a1 12).bind fun _ =>
    ((f_X12_entry μ121 a1 (6 : Int32) (0 : Int32)).bind fun μ122 =>
    (some μ122)))
    else
    (if x5 = (60 : Int32) then
    (if x118 = 0 then
    ((ob μ121 a1 12).bind fun _ =>
    ((f_X12_entry μ121 a1 (4 : Int32) (0 : Int32)).bind fun μ123 =>
    (some μ123)))
    else
    ((ob μ121 a1 12).bind fun _ =>
    ((f_X12_entry μ121 a1 (5 : Int32) (0 : Int32)).bind fun μ124 =>
    (some μ124))))
    else
    (if x118 = 0 then
    ((ob μ121 a1 12).bind fun _ =>
    ((f_X12_entry μ121 a1 (8 : Int32) (0 : Int32)).bind fun μ125 =>
    (some μ125)))
    else
    ((ob μ121 a1 12).bind fun _ =>
    ((f_X12_entry μ121 a1 (7 : Int32) (0 : Int32)).bind fun μ126 =>
    (some μ126)))))))))
    else
    ((pV μ117 a1 12 29 (.int (v119 + (1 : Int32)))).bind fun μ127 =>
    ((ob μ127 a1 12).bind fun _ =>
    ((f_X12_sum μ127 a1).bind fun μ128 =>
    (if x5 = (61 : Int32) then
    ((ob μ128 a1 12).bind fun _ =>
    ((f_X12_entry μ128 a1 (6 : Int32) (0 : Int32)).bind fun μ129 =>
    (some μ129)))
    else
    (if x5 = (60 : Int32) then
    (if x118 = 0 then
    ((ob μ128 a1 12).bind fun _ =>
    ((f_X12_entry μ128 a1 (4 : Int32) (0 : Int32)).bind fun μ130 =>
    (some μ130)))
    else
    ((ob μ128 a1 12).bind fun _ =>
    ((f_X12_entry μ128 a1 (5 : Int32) (0 : Int32)).bind fun μ131 =>
    (some μ131))))
    else
    (if x118 = 0 then
    ((ob μ128 a1 12).bind fun _ =>
    ((f_X12_entry μ128 a1 (8 : Int32) (0 : Int32)).bind fun μ132 =>
    (some μ132)))
    else
    ((ob μ128 a1 12).bind fun _ =>
    ((f_X12_entry μ128 a1 (7 : Int32) (0 : Int32)).bind fun μ133 =>
    (some μ133))))))))))))
    else
    ((ob μ117 a1 12).bind fun _ =>
    (bd (f_X12_sign μ117 a1) fun v135 μ134 =>
    (if v135 = (61 : Int32) then
    (nm (1 : Int32) fun x136 =>
    ((gI μ134 a1 12 29).bind fun v137 =>
    (if x136 = 0 then
    ((pV μ134 a1 12 29 (.int (v137 + (0 : Int32)))).bind fun μ138 =>
    ((ob μ138 a1 12).bind fun _ =>
    ((f_X12_sum μ138 a1).bind fun μ139 =>
    (if x5 = (61 : Int32) then
    ((ob μ139 a1 12).bind fun _ =>
    ((f_X12_entry μ139 a1 (6 : Int32) (0 : Int32)).bind fun μ140 =>
    (some μ140)))
    else
    (if x5 = (60 : Int32) then
    (if x136 = 0 then
    ((ob μ139 a1 12).bind fun _ =>
    ((f_X12_entry μ139 a1 (4 : Int32) (0 : Int32)).bind fun μ141 =>
    (some μ141)))
    else
    ((ob μ139 a1 12).bind fun _ =>
    ((f_X12_entry μ139 a1 (5 : Int32) (0 : Int32)).bind fun μ142 =>
    (some μ142))))
    else
    (if x136 = 0 then
    ((ob μ139 a1 12).bind fun _ =>
    ((f_X12_entry μ139 a1 (8 : Int32) (0 : Int32)).bind fun μ143 =>
    (some μ143)))
    else
    ((ob μ139 a1 12).bind fun _ =>
    ((f_X12_entry μ139 a1 (7 : Int32) (0 : Int32)).bind fun μ144 =>
    (some μ144)))))))))
    else
    ((pV μ134 a1 12 29 (.int (v137 + (1 : Int32)))).bind fun μ145 =>
    ((ob μ145 a1 12).bind fun _ =>
    ((f_X12_sum μ145 a1).bind fun μ146 =>
    (if x5 = (61 : Int32) then
    ((ob μ146 a1 12).bind fun _ =>
    ((f_X12_entry μ146 a1 (6 : Int32) (0 : Int32)).bind fun μ147 =>
    (some μ147)))
    else
    (if x5 = (60 : Int32) then
    (if x136 = 0 then
    ((ob μ146 a1 12).bind fun _ =>
    ((f_X12_entry μ146 a1 (4 : Int32) (0 : Int32)).bind fun μ148 =>
    (some μ148)))
    else
    ((ob μ146 a1 12).bind fun _ =>
    ((f_X12_entry μ146 a1 (5 : Int32) (0 : Int32)).bind fun μ149 =>
    (some μ149))))
    else
    (if x136 = 0 then
    ((ob μ146 a1 12).bind fun _ =>
    ((f_X12_entry μ146 a1 (8 : Int32) (0 : Int32)).bind fun μ150 =>
    (some μ150)))
    else
    ((ob μ146 a1 12).bind fun _ =>
    ((f_X12_entry μ146 a1 (7 : Int32) (0 : Int32)).bind fun μ151 =>
    (some μ151))))))))))))
    else
    (nm (0 : Int32) fun x152 =>
    ((gI μ134 a1 12 29).bind fun v153 =>
    (if x152 = 0 then
    ((pV μ134 a1 12 29 (.int (v153 + (0 : Int32)))).bind fun μ154 =>
    ((ob μ154 a1 12).bind fun _ =>
    ((f_X12_sum μ154 a1).bind fun μ155 =>
    (if x5 = (61 : Int32) then
    ((ob μ155 a1 12).bind fun _ =>
    ((f_X12_entry μ155 a1 (6 : Int32) (0 : Int32)).bind fun μ156 =>
    (some μ156)))
    else
    (if x5 = (60 : Int32) then
    (if x152 = 0 then
    ((ob μ155 a1 12).bind fun _ =>
    ((f_X12_entry μ155 a1 (4 : Int32) (0 : Int32)).bind fun μ157 =>
    (some μ157)))
    else
    ((ob μ155 a1 12).bind fun _ =>
    ((f_X12_entry μ155 a1 (5 : Int32) (0 : Int32)).bind fun μ158 =>
    (some μ158))))
    else
    (if x152 = 0 then
    ((ob μ155 a1 12).bind fun _ =>
    ((f_X12_entry μ155 a1 (8 : Int32) (0 : Int32)).bind fun μ159 =>
    (some μ159)))
    else
    ((ob μ155 a1 12).bind fun _ =>
    ((f_X12_entry μ155 a1 (7 : Int32) (0 : Int32)).bind fun μ160 =>
    (some μ160)))))))))
    else
    ((pV μ134 a1 12 29 (.int (v153 + (1 : Int32)))).bind fun μ161 =>
    ((ob μ161 a1 12).bind fun _ =>
    ((f_X12_sum μ161 a1).bind fun μ162 =>
    (if x5 = (61 : Int32) then
    ((ob μ162 a1 12).bind fun _ =>
    ((f_X12_entry μ162 a1 (6 : Int32) (0 : Int32)).bind fun μ163 =>
    (some μ163)))
    else
    (if x5 = (60 : Int32) then
    (if x152 = 0 then
    ((ob μ162 a1 12).bind fun _ =>
    ((f_X12_entry μ162 a1 (4 : Int32) (0 : Int32)).bind fun μ164 =>
    (some μ164)))
    else
    ((ob μ162 a1 12).bind fun _ =>
    ((f_X12_entry μ162 a1 (5 : Int32) (0 : Int32)).bind fun μ165 =>
    (some μ165))))
    else
    (if x152 = 0 then
    ((ob μ162 a1 12).bind fun _ =>
    ((f_X12_entry μ162 a1 (8 : Int32) (0 : Int32)).bind fun μ166 =>
    (some μ166)))
    else
    ((ob μ162 a1 12).bind fun _ =>
    ((f_X12_entry μ162 a1 (7 : Int32) (0 : Int32)).bind fun μ167 =>
    (some μ167)))))))))))))))))))))
    else
    ((gI μ3 a1 12 29).bind fun v168 =>
    ((ob μ3 a1 12).bind fun _ =>
    ((f_X12_fails μ3 a1 (0 : Int32) v168).bind fun μ169 =>
    (some μ169))))))))))))
set_option maxHeartbeats 4000000 in
set_option maxRecDepth 100000 in
theorem f_X12_compared_ok {l : Launch} {G : GG} {μ0 : Mm} {a1 : Nat} {μ' : Mm} (hf : f_X12_compared μ0 a1 = some μ') : EvM l G D_X12_compared yX12_compared cX12_compared 3 none [.ref a1] μ0 none μ' := by
  show Ev l G D_X12_compared yX12_compared cX12_compared 3 none 0 [(0, .ref a1)] [] μ0 none μ'
  unfold f_X12_compared at hf
  refine E_aload_n (pc := 0) dX12_compared_0 rfl ?_
  refine E_Vv (pc := 1) (d2 := D_X12_sum) (ci := 12) [] dX12_compared_1 ml_X12_281 mf_X12_sum im_X12_sum rfl rfl rfl (by decide) (Nat.le_of_ble_eq_true rfl) (Nat.le_of_ble_eq_true rfl) rfl (fun _ h => f_X12_sum_ok h) hf (fun μ2 hf => ?_)
  refine E_aload_n (pc := 4) dX12_compared_4 rfl ?_
  refine E_Vi (pc := 5) (d2 := D_X12_sign) (ci := 12) [] dX12_compared_5 ml_X12_220 mf_X12_sign im_X12_sign rfl rfl rfl (by decide) (Nat.le_of_ble_eq_true rfl) (Nat.le_of_ble_eq_true rfl) rfl (fun _ _ h => f_X12_sign_ok h) hf (fun v4 μ3 hf => ?_)
  refine E_istore_n (pc := 8) (ls' := fun x5 => [(1, .int x5), (0, .ref a1)]) dX12_compared_8 (by decide) (fun _ => rfl) hf (fun x5 hf => ?_)
  refine E_iload_n (pc := 9) dX12_compared_9 rfl ?_
  refine E_bipush (pc := 10) (v := (60 : Int32)) dX12_compared_10 (by decide) ?_
  refine E_icmp_eq (pc := 12) (tgt := 37) dX12_compared_12 (by decide) hf (fun hf => ?_) (fun hf => ?_)
  · refine E_aload_n (pc := 37) dX12_compared_37 rfl ?_
    refine E_aload_n (pc := 38) dX12_compared_38 rfl ?_
    refine E_getI (pc := 39) dX12_compared_39 fl_X12_217 hf (fun v6 hf => ?_)
    refine E_Vv (pc := 42) (d2 := D_X12_isCounted) (ci := 12) [.int v6] dX12_compared_42 ml_X12_265 mf_X12_isCounted im_X12_isCounted rfl rfl rfl (by decide) (Nat.le_of_ble_eq_true rfl) (Nat.le_of_ble_eq_true rfl) rfl (fun _ h => f_X12_isCounted_ok h) hf (fun μ7 hf => ?_)
    refine E_aload_n (pc := 45) dX12_compared_45 rfl ?_
    refine E_dup (pc := 46) dX12_compared_46 rfl ?_
    refine E_getI (pc := 47) dX12_compared_47 fl_X12_217 hf (fun v8 hf => ?_)
    refine E_iconst (pc := 50) (v := (1 : Int32)) dX12_compared_50 (by decide) ?_
    refine E_iadd (pc := 51) dX12_compared_51 ?_
    refine E_putI (pc := 52) dX12_compared_52 (pl_X12_217 _) hf (fun μ9 hf => ?_)
    refine E_iload_n (pc := 55) dX12_compared_55 rfl ?_
    refine E_bipush (pc := 56) (v := (61 : Int32)) dX12_compared_56 (by decide) ?_
    refine E_icmp_eq (pc := 58) (tgt := 74) dX12_compared_58 (by decide) hf (fun hf => ?_) (fun hf => ?_)
    · refine E_iconst (pc := 74) (v := (0 : Int32)) dX12_compared_74 (by decide) ?_
      refine E_istore_n (pc := 75) (ls' := fun x10 => [(2, .int x10), (1, .int x5), (0, .ref a1)]) dX12_compared_75 (by decide) (fun _ => rfl) hf (fun x10 hf => ?_)
      refine E_aload_n (pc := 76) dX12_compared_76 rfl ?_
      refine E_dup (pc := 77) dX12_compared_77 rfl ?_
      refine E_getI (pc := 78) dX12_compared_78 fl_X12_217 hf (fun v11 hf => ?_)
      refine E_iload_n (pc := 81) dX12_compared_81 rfl ?_
      refine E_if_eq (pc := 82) (tgt := 89) dX12_compared_82 (by decide) hf (fun hf => ?_) (fun hf => ?_)
      · refine E_iconst (pc := 89) (v := (0 : Int32)) dX12_compared_89 (by decide) ?_
        refine E_iadd (pc := 90) dX12_compared_90 ?_
        refine E_putI (pc := 91) dX12_compared_91 (pl_X12_217 _) hf (fun μ12 hf => ?_)
        refine E_aload_n (pc := 94) dX12_compared_94 rfl ?_
        refine E_Vv (pc := 95) (d2 := D_X12_sum) (ci := 12) [] dX12_compared_95 ml_X12_281 mf_X12_sum im_X12_sum rfl rfl rfl (by decide) (Nat.le_of_ble_eq_true rfl) (Nat.le_of_ble_eq_true rfl) rfl (fun _ h => f_X12_sum_ok h) hf (fun μ13 hf => ?_)
        refine E_aload_n (pc := 98) dX12_compared_98 rfl ?_
        refine E_iload_n (pc := 99) dX12_compared_99 rfl ?_
        refine E_bipush (pc := 100) (v := (61 : Int32)) dX12_compared_100 (by decide) ?_
        refine E_icmp_ne (pc := 102) (tgt := 110) dX12_compared_102 (by decide) hf (fun hf => ?_) (fun hf => ?_)
        · refine E_bipush (pc := 105) (v := (6 : Int32)) dX12_compared_105 (by decide) ?_
          refine E_goto (pc := 107) (tgt := 139) dX12_compared_107 (by decide) ?_
          refine E_iconst (pc := 139) (v := (0 : Int32)) dX12_compared_139 (by decide) ?_
          refine E_Vv (pc := 140) (d2 := D_X12_entry) (ci := 12) [.int (6 : Int32), .int (0 : Int32)] dX12_compared_140 ml_X12_268 mf_X12_entry im_X12_entry rfl rfl rfl (by decide) (Nat.le_of_ble_eq_true rfl) (Nat.le_of_ble_eq_true rfl) rfl (fun _ h => f_X12_entry_ok h) hf (fun μ14 hf => ?_)
          exact E_vret (pc := 143) dX12_compared_143 rfl hf
        · refine E_iload_n (pc := 110) dX12_compared_110 rfl ?_
          refine E_bipush (pc := 111) (v := (60 : Int32)) dX12_compared_111 (by decide) ?_
          refine E_icmp_ne (pc := 113) (tgt := 128) dX12_compared_113 (by decide) hf (fun hf => ?_) (fun hf => ?_)
          · refine E_iload_n (pc := 116) dX12_compared_116 rfl ?_
            refine E_if_eq (pc := 117) (tgt := 124) dX12_compared_117 (by decide) hf (fun hf => ?_) (fun hf => ?_)
            · refine E_iconst (pc := 124) (v := (4 : Int32)) dX12_compared_124 (by decide) ?_
              refine E_goto (pc := 125) (tgt := 139) dX12_compared_125 (by decide) ?_
              refine E_iconst (pc := 139) (v := (0 : Int32)) dX12_compared_139 (by decide) ?_
              refine E_Vv (pc := 140) (d2 := D_X12_entry) (ci := 12) [.int (4 : Int32), .int (0 : Int32)] dX12_compared_140 ml_X12_268 mf_X12_entry im_X12_entry rfl rfl rfl (by decide) (Nat.le_of_ble_eq_true rfl) (Nat.le_of_ble_eq_true rfl) rfl (fun _ h => f_X12_entry_ok h) hf (fun μ15 hf => ?_)
              exact E_vret (pc := 143) dX12_compared_143 rfl hf
            · refine E_iconst (pc := 120) (v := (5 : Int32)) dX12_compared_120 (by decide) ?_
              refine E_goto (pc := 121) (tgt := 139) dX12_compared_121 (by decide) ?_
              refine E_iconst (pc := 139) (v := (0 : Int32)) dX12_compared_139 (by decide) ?_
              refine E_Vv (pc := 140) (d2 := D_X12_entry) (ci := 12) [.int (5 : Int32), .int (0 : Int32)] dX12_compared_140 ml_X12_268 mf_X12_entry im_X12_entry rfl rfl rfl (by decide) (Nat.le_of_ble_eq_true rfl) (Nat.le_of_ble_eq_true rfl) rfl (fun _ h => f_X12_entry_ok h) hf (fun μ16 hf => ?_)
              exact E_vret (pc := 143) dX12_compared_143 rfl hf
          · refine E_iload_n (pc := 128) dX12_compared_128 rfl ?_
            refine E_if_eq (pc := 129) (tgt := 137) dX12_compared_129 (by decide) hf (fun hf => ?_) (fun hf => ?_)
            · refine E_bipush (pc := 137) (v := (8 : Int32)) dX12_compared_137 (by decide) ?_
              refine E_iconst (pc := 139) (v := (0 : Int32)) dX12_compared_139 (by decide) ?_
              refine E_Vv (pc := 140) (d2 := D_X12_entry) (ci := 12) [.int (8 : Int32), .int (0 : Int32)] dX12_compared_140 ml_X12_268 mf_X12_entry im_X12_entry rfl rfl rfl (by decide) (Nat.le_of_ble_eq_true rfl) (Nat.le_of_ble_eq_true rfl) rfl (fun _ h => f_X12_entry_ok h) hf (fun μ17 hf => ?_)
              exact E_vret (pc := 143) dX12_compared_143 rfl hf
            · refine E_bipush (pc := 132) (v := (7 : Int32)) dX12_compared_132 (by decide) ?_
              refine E_goto (pc := 134) (tgt := 139) dX12_compared_134 (by decide) ?_
              refine E_iconst (pc := 139) (v := (0 : Int32)) dX12_compared_139 (by decide) ?_
              refine E_Vv (pc := 140) (d2 := D_X12_entry) (ci := 12) [.int (7 : Int32), .int (0 : Int32)] dX12_compared_140 ml_X12_268 mf_X12_entry im_X12_entry rfl rfl rfl (by decide) (Nat.le_of_ble_eq_true rfl) (Nat.le_of_ble_eq_true rfl) rfl (fun _ h => f_X12_entry_ok h) hf (fun μ18 hf => ?_)
              exact E_vret (pc := 143) dX12_compared_143 rfl hf
      · refine E_iconst (pc := 85) (v := (1 : Int32)) dX12_compared_85 (by decide) ?_
        refine E_goto (pc := 86) (tgt := 90) dX12_compared_86 (by decide) ?_
        refine E_iadd (pc := 90) dX12_compared_90 ?_
        refine E_putI (pc := 91) dX12_compared_91 (pl_X12_217 _) hf (fun μ19 hf => ?_)
        refine E_aload_n (pc := 94) dX12_compared_94 rfl ?_
        refine E_Vv (pc := 95) (d2 := D_X12_sum) (ci := 12) [] dX12_compared_95 ml_X12_281 mf_X12_sum im_X12_sum rfl rfl rfl (by decide) (Nat.le_of_ble_eq_true rfl) (Nat.le_of_ble_eq_true rfl) rfl (fun _ h => f_X12_sum_ok h) hf (fun μ20 hf => ?_)
        refine E_aload_n (pc := 98) dX12_compared_98 rfl ?_
        refine E_iload_n (pc := 99) dX12_compared_99 rfl ?_
        refine E_bipush (pc := 100) (v := (61 : Int32)) dX12_compared_100 (by decide) ?_
        refine E_icmp_ne (pc := 102) (tgt := 110) dX12_compared_102 (by decide) hf (fun hf => ?_) (fun hf => ?_)
        · refine E_bipush (pc := 105) (v := (6 : Int32)) dX12_compared_105 (by decide) ?_
          refine E_goto (pc := 107) (tgt := 139) dX12_compared_107 (by decide) ?_
          refine E_iconst (pc := 139) (v := (0 : Int32)) dX12_compared_139 (by decide) ?_
          refine E_Vv (pc := 140) (d2 := D_X12_entry) (ci := 12) [.int (6 : Int32), .int (0 : Int32)] dX12_compared_140 ml_X12_268 mf_X12_entry im_X12_entry rfl rfl rfl (by decide) (Nat.le_of_ble_eq_true rfl) (Nat.le_of_ble_eq_true rfl) rfl (fun _ h => f_X12_entry_ok h) hf (fun μ21 hf => ?_)
          exact E_vret (pc := 143) dX12_compared_143 rfl hf
        · refine E_iload_n (pc := 110) dX12_compared_110 rfl ?_
          refine E_bipush (pc := 111) (v := (60 : Int32)) dX12_compared_111 (by decide) ?_
          refine E_icmp_ne (pc := 113) (tgt := 128) dX12_compared_113 (by decide) hf (fun hf => ?_) (fun hf => ?_)
          · refine E_iload_n (pc := 116) dX12_compared_116 rfl ?_
            refine E_if_eq (pc := 117) (tgt := 124) dX12_compared_117 (by decide) hf (fun hf => ?_) (fun hf => ?_)
            · refine E_iconst (pc := 124) (v := (4 : Int32)) dX12_compared_124 (by decide) ?_
              refine E_goto (pc := 125) (tgt := 139) dX12_compared_125 (by decide) ?_
              refine E_iconst (pc := 139) (v := (0 : Int32)) dX12_compared_139 (by decide) ?_
              refine E_Vv (pc := 140) (d2 := D_X12_entry) (ci := 12) [.int (4 : Int32), .int (0 : Int32)] dX12_compared_140 ml_X12_268 mf_X12_entry im_X12_entry rfl rfl rfl (by decide) (Nat.le_of_ble_eq_true rfl) (Nat.le_of_ble_eq_true rfl) rfl (fun _ h => f_X12_entry_ok h) hf (fun μ22 hf => ?_)
              exact E_vret (pc := 143) dX12_compared_143 rfl hf
            · refine E_iconst (pc := 120) (v := (5 : Int32)) dX12_compared_120 (by decide) ?_
              refine E_goto (pc := 121) (tgt := 139) dX12_compared_121 (by decide) ?_
              refine E_iconst (pc := 139) (v := (0 : Int32)) dX12_compared_139 (by decide) ?_
              refine E_Vv (pc := 140) (d2 := D_X12_entry) (ci := 12) [.int (5 : Int32), .int (0 : Int32)] dX12_compared_140 ml_X12_268 mf_X12_entry im_X12_entry rfl rfl rfl (by decide) (Nat.le_of_ble_eq_true rfl) (Nat.le_of_ble_eq_true rfl) rfl (fun _ h => f_X12_entry_ok h) hf (fun μ23 hf => ?_)
              exact E_vret (pc := 143) dX12_compared_143 rfl hf
          · refine E_iload_n (pc := 128) dX12_compared_128 rfl ?_
            refine E_if_eq (pc := 129) (tgt := 137) dX12_compared_129 (by decide) hf (fun hf => ?_) (fun hf => ?_)
            · refine E_bipush (pc := 137) (v := (8 : Int32)) dX12_compared_137 (by decide) ?_
              refine E_iconst (pc := 139) (v := (0 : Int32)) dX12_compared_139 (by decide) ?_
              refine E_Vv (pc := 140) (d2 := D_X12_entry) (ci := 12) [.int (8 : Int32), .int (0 : Int32)] dX12_compared_140 ml_X12_268 mf_X12_entry im_X12_entry rfl rfl rfl (by decide) (Nat.le_of_ble_eq_true rfl) (Nat.le_of_ble_eq_true rfl) rfl (fun _ h => f_X12_entry_ok h) hf (fun μ24 hf => ?_)
              exact E_vret (pc := 143) dX12_compared_143 rfl hf
            · refine E_bipush (pc := 132) (v := (7 : Int32)) dX12_compared_132 (by decide) ?_
              refine E_goto (pc := 134) (tgt := 139) dX12_compared_134 (by decide) ?_
              refine E_iconst (pc := 139) (v := (0 : Int32)) dX12_compared_139 (by decide) ?_
              refine E_Vv (pc := 140) (d2 := D_X12_entry) (ci := 12) [.int (7 : Int32), .int (0 : Int32)] dX12_compared_140 ml_X12_268 mf_X12_entry im_X12_entry rfl rfl rfl (by decide) (Nat.le_of_ble_eq_true rfl) (Nat.le_of_ble_eq_true rfl) rfl (fun _ h => f_X12_entry_ok h) hf (fun μ25 hf => ?_)
              exact E_vret (pc := 143) dX12_compared_143 rfl hf
    · refine E_aload_n (pc := 61) dX12_compared_61 rfl ?_
      refine E_Vi (pc := 62) (d2 := D_X12_sign) (ci := 12) [] dX12_compared_62 ml_X12_220 mf_X12_sign im_X12_sign rfl rfl rfl (by decide) (Nat.le_of_ble_eq_true rfl) (Nat.le_of_ble_eq_true rfl) rfl (fun _ _ h => f_X12_sign_ok h) hf (fun v27 μ26 hf => ?_)
      refine E_bipush (pc := 65) (v := (61 : Int32)) dX12_compared_65 (by decide) ?_
      refine E_icmp_ne (pc := 67) (tgt := 74) dX12_compared_67 (by decide) hf (fun hf => ?_) (fun hf => ?_)
      · refine E_iconst (pc := 70) (v := (1 : Int32)) dX12_compared_70 (by decide) ?_
        refine E_goto (pc := 71) (tgt := 75) dX12_compared_71 (by decide) ?_
        refine E_istore_n (pc := 75) (ls' := fun x28 => [(2, .int x28), (1, .int x5), (0, .ref a1)]) dX12_compared_75 (by decide) (fun _ => rfl) hf (fun x28 hf => ?_)
        refine E_aload_n (pc := 76) dX12_compared_76 rfl ?_
        refine E_dup (pc := 77) dX12_compared_77 rfl ?_
        refine E_getI (pc := 78) dX12_compared_78 fl_X12_217 hf (fun v29 hf => ?_)
        refine E_iload_n (pc := 81) dX12_compared_81 rfl ?_
        refine E_if_eq (pc := 82) (tgt := 89) dX12_compared_82 (by decide) hf (fun hf => ?_) (fun hf => ?_)
        · refine E_iconst (pc := 89) (v := (0 : Int32)) dX12_compared_89 (by decide) ?_
          refine E_iadd (pc := 90) dX12_compared_90 ?_
          refine E_putI (pc := 91) dX12_compared_91 (pl_X12_217 _) hf (fun μ30 hf => ?_)
          refine E_aload_n (pc := 94) dX12_compared_94 rfl ?_
          refine E_Vv (pc := 95) (d2 := D_X12_sum) (ci := 12) [] dX12_compared_95 ml_X12_281 mf_X12_sum im_X12_sum rfl rfl rfl (by decide) (Nat.le_of_ble_eq_true rfl) (Nat.le_of_ble_eq_true rfl) rfl (fun _ h => f_X12_sum_ok h) hf (fun μ31 hf => ?_)
          refine E_aload_n (pc := 98) dX12_compared_98 rfl ?_
          refine E_iload_n (pc := 99) dX12_compared_99 rfl ?_
          refine E_bipush (pc := 100) (v := (61 : Int32)) dX12_compared_100 (by decide) ?_
          refine E_icmp_ne (pc := 102) (tgt := 110) dX12_compared_102 (by decide) hf (fun hf => ?_) (fun hf => ?_)
          · refine E_bipush (pc := 105) (v := (6 : Int32)) dX12_compared_105 (by decide) ?_
            refine E_goto (pc := 107) (tgt := 139) dX12_compared_107 (by decide) ?_
            refine E_iconst (pc := 139) (v := (0 : Int32)) dX12_compared_139 (by decide) ?_
            refine E_Vv (pc := 140) (d2 := D_X12_entry) (ci := 12) [.int (6 : Int32), .int (0 : Int32)] dX12_compared_140 ml_X12_268 mf_X12_entry im_X12_entry rfl rfl rfl (by decide) (Nat.le_of_ble_eq_true rfl) (Nat.le_of_ble_eq_true rfl) rfl (fun _ h => f_X12_entry_ok h) hf (fun μ32 hf => ?_)
            exact E_vret (pc := 143) dX12_compared_143 rfl hf
          · refine E_iload_n (pc := 110) dX12_compared_110 rfl ?_
            refine E_bipush (pc := 111) (v := (60 : Int32)) dX12_compared_111 (by decide) ?_
            refine E_icmp_ne (pc := 113) (tgt := 128) dX12_compared_113 (by decide) hf (fun hf => ?_) (fun hf => ?_)
            · refine E_iload_n (pc := 116) dX12_compared_116 rfl ?_
              refine E_if_eq (pc := 117) (tgt := 124) dX12_compared_117 (by decide) hf (fun hf => ?_) (fun hf => ?_)
              · refine E_iconst (pc := 124) (v := (4 : Int32)) dX12_compared_124 (by decide) ?_
                refine E_goto (pc := 125) (tgt := 139) dX12_compared_125 (by decide) ?_
                refine E_iconst (pc := 139) (v := (0 : Int32)) dX12_compared_139 (by decide) ?_
                refine E_Vv (pc := 140) (d2 := D_X12_entry) (ci := 12) [.int (4 : Int32), .int (0 : Int32)] dX12_compared_140 ml_X12_268 mf_X12_entry im_X12_entry rfl rfl rfl (by decide) (Nat.le_of_ble_eq_true rfl) (Nat.le_of_ble_eq_true rfl) rfl (fun _ h => f_X12_entry_ok h) hf (fun μ33 hf => ?_)
                exact E_vret (pc := 143) dX12_compared_143 rfl hf
              · refine E_iconst (pc := 120) (v := (5 : Int32)) dX12_compared_120 (by decide) ?_
                refine E_goto (pc := 121) (tgt := 139) dX12_compared_121 (by decide) ?_
                refine E_iconst (pc := 139) (v := (0 : Int32)) dX12_compared_139 (by decide) ?_
                refine E_Vv (pc := 140) (d2 := D_X12_entry) (ci := 12) [.int (5 : Int32), .int (0 : Int32)] dX12_compared_140 ml_X12_268 mf_X12_entry im_X12_entry rfl rfl rfl (by decide) (Nat.le_of_ble_eq_true rfl) (Nat.le_of_ble_eq_true rfl) rfl (fun _ h => f_X12_entry_ok h) hf (fun μ34 hf => ?_)
                exact E_vret (pc := 143) dX12_compared_143 rfl hf
            · refine E_iload_n (pc := 128) dX12_compared_128 rfl ?_
              refine E_if_eq (pc := 129) (tgt := 137) dX12_compared_129 (by decide) hf (fun hf => ?_) (fun hf => ?_)
              · refine E_bipush (pc := 137) (v := (8 : Int32)) dX12_compared_137 (by decide) ?_
                refine E_iconst (pc := 139) (v := (0 : Int32)) dX12_compared_139 (by decide) ?_
                refine E_Vv (pc := 140) (d2 := D_X12_entry) (ci := 12) [.int (8 : Int32), .int (0 : Int32)] dX12_compared_140 ml_X12_268 mf_X12_entry im_X12_entry rfl rfl rfl (by decide) (Nat.le_of_ble_eq_true rfl) (Nat.le_of_ble_eq_true rfl) rfl (fun _ h => f_X12_entry_ok h) hf (fun μ35 hf => ?_)
                exact E_vret (pc := 143) dX12_compared_143 rfl hf
              · refine E_bipush (pc := 132) (v := (7 : Int32)) dX12_compared_132 (by decide) ?_
                refine E_goto (pc := 134) (tgt := 139) dX12_compared_134 (by decide) ?_
                refine E_iconst (pc := 139) (v := (0 : Int32)) dX12_compared_139 (by decide) ?_
                refine E_Vv (pc := 140) (d2 := D_X12_entry) (ci := 12) [.int (7 : Int32), .int (0 : Int32)] dX12_compared_140 ml_X12_268 mf_X12_entry im_X12_entry rfl rfl rfl (by decide) (Nat.le_of_ble_eq_true rfl) (Nat.le_of_ble_eq_true rfl) rfl (fun _ h => f_X12_entry_ok h) hf (fun μ36 hf => ?_)
                exact E_vret (pc := 143) dX12_compared_143 rfl hf
        · refine E_iconst (pc := 85) (v := (1 : Int32)) dX12_compared_85 (by decide) ?_
          refine E_goto (pc := 86) (tgt := 90) dX12_compared_86 (by decide) ?_
          refine E_iadd (pc := 90) dX12_compared_90 ?_
          refine E_putI (pc := 91) dX12_compared_91 (pl_X12_217 _) hf (fun μ37 hf => ?_)
          refine E_aload_n (pc := 94) dX12_compared_94 rfl ?_
          refine E_Vv (pc := 95) (d2 := D_X12_sum) (ci := 12) [] dX12_compared_95 ml_X12_281 mf_X12_sum im_X12_sum rfl rfl rfl (by decide) (Nat.le_of_ble_eq_true rfl) (Nat.le_of_ble_eq_true rfl) rfl (fun _ h => f_X12_sum_ok h) hf (fun μ38 hf => ?_)
          refine E_aload_n (pc := 98) dX12_compared_98 rfl ?_
          refine E_iload_n (pc := 99) dX12_compared_99 rfl ?_
          refine E_bipush (pc := 100) (v := (61 : Int32)) dX12_compared_100 (by decide) ?_
          refine E_icmp_ne (pc := 102) (tgt := 110) dX12_compared_102 (by decide) hf (fun hf => ?_) (fun hf => ?_)
          · refine E_bipush (pc := 105) (v := (6 : Int32)) dX12_compared_105 (by decide) ?_
            refine E_goto (pc := 107) (tgt := 139) dX12_compared_107 (by decide) ?_
            refine E_iconst (pc := 139) (v := (0 : Int32)) dX12_compared_139 (by decide) ?_
            refine E_Vv (pc := 140) (d2 := D_X12_entry) (ci := 12) [.int (6 : Int32), .int (0 : Int32)] dX12_compared_140 ml_X12_268 mf_X12_entry im_X12_entry rfl rfl rfl (by decide) (Nat.le_of_ble_eq_true rfl) (Nat.le_of_ble_eq_true rfl) rfl (fun _ h => f_X12_entry_ok h) hf (fun μ39 hf => ?_)
            exact E_vret (pc := 143) dX12_compared_143 rfl hf
          · refine E_iload_n (pc := 110) dX12_compared_110 rfl ?_
            refine E_bipush (pc := 111) (v := (60 : Int32)) dX12_compared_111 (by decide) ?_
            refine E_icmp_ne (pc := 113) (tgt := 128) dX12_compared_113 (by decide) hf (fun hf => ?_) (fun hf => ?_)
            · refine E_iload_n (pc := 116) dX12_compared_116 rfl ?_
              refine E_if_eq (pc := 117) (tgt := 124) dX12_compared_117 (by decide) hf (fun hf => ?_) (fun hf => ?_)
              · refine E_iconst (pc := 124) (v := (4 : Int32)) dX12_compared_124 (by decide) ?_
                refine E_goto (pc := 125) (tgt := 139) dX12_compared_125 (by decide) ?_
                refine E_iconst (pc := 139) (v := (0 : Int32)) dX12_compared_139 (by decide) ?_
                refine E_Vv (pc := 140) (d2 := D_X12_entry) (ci := 12) [.int (4 : Int32), .int (0 : Int32)] dX12_compared_140 ml_X12_268 mf_X12_entry im_X12_entry rfl rfl rfl (by decide) (Nat.le_of_ble_eq_true rfl) (Nat.le_of_ble_eq_true rfl) rfl (fun _ h => f_X12_entry_ok h) hf (fun μ40 hf => ?_)
                exact E_vret (pc := 143) dX12_compared_143 rfl hf
              · refine E_iconst (pc := 120) (v := (5 : Int32)) dX12_compared_120 (by decide) ?_
                refine E_goto (pc := 121) (tgt := 139) dX12_compared_121 (by decide) ?_
                refine E_iconst (pc := 139) (v := (0 : Int32)) dX12_compared_139 (by decide) ?_
                refine E_Vv (pc := 140) (d2 := D_X12_entry) (ci := 12) [.int (5 : Int32), .int (0 : Int32)] dX12_compared_140 ml_X12_268 mf_X12_entry im_X12_entry rfl rfl rfl (by decide) (Nat.le_of_ble_eq_true rfl) (Nat.le_of_ble_eq_true rfl) rfl (fun _ h => f_X12_entry_ok h) hf (fun μ41 hf => ?_)
                exact E_vret (pc := 143) dX12_compared_143 rfl hf
            · refine E_iload_n (pc := 128) dX12_compared_128 rfl ?_
              refine E_if_eq (pc := 129) (tgt := 137) dX12_compared_129 (by decide) hf (fun hf => ?_) (fun hf => ?_)
              · refine E_bipush (pc := 137) (v := (8 : Int32)) dX12_compared_137 (by decide) ?_
                refine E_iconst (pc := 139) (v := (0 : Int32)) dX12_compared_139 (by decide) ?_
                refine E_Vv (pc := 140) (d2 := D_X12_entry) (ci := 12) [.int (8 : Int32), .int (0 : Int32)] dX12_compared_140 ml_X12_268 mf_X12_entry im_X12_entry rfl rfl rfl (by decide) (Nat.le_of_ble_eq_true rfl) (Nat.le_of_ble_eq_true rfl) rfl (fun _ h => f_X12_entry_ok h) hf (fun μ42 hf => ?_)
                exact E_vret (pc := 143) dX12_compared_143 rfl hf
              · refine E_bipush (pc := 132) (v := (7 : Int32)) dX12_compared_132 (by decide) ?_
                refine E_goto (pc := 134) (tgt := 139) dX12_compared_134 (by decide) ?_
                refine E_iconst (pc := 139) (v := (0 : Int32)) dX12_compared_139 (by decide) ?_
                refine E_Vv (pc := 140) (d2 := D_X12_entry) (ci := 12) [.int (7 : Int32), .int (0 : Int32)] dX12_compared_140 ml_X12_268 mf_X12_entry im_X12_entry rfl rfl rfl (by decide) (Nat.le_of_ble_eq_true rfl) (Nat.le_of_ble_eq_true rfl) rfl (fun _ h => f_X12_entry_ok h) hf (fun μ43 hf => ?_)
                exact E_vret (pc := 143) dX12_compared_143 rfl hf
      · refine E_iconst (pc := 74) (v := (0 : Int32)) dX12_compared_74 (by decide) ?_
        refine E_istore_n (pc := 75) (ls' := fun x44 => [(2, .int x44), (1, .int x5), (0, .ref a1)]) dX12_compared_75 (by decide) (fun _ => rfl) hf (fun x44 hf => ?_)
        refine E_aload_n (pc := 76) dX12_compared_76 rfl ?_
        refine E_dup (pc := 77) dX12_compared_77 rfl ?_
        refine E_getI (pc := 78) dX12_compared_78 fl_X12_217 hf (fun v45 hf => ?_)
        refine E_iload_n (pc := 81) dX12_compared_81 rfl ?_
        refine E_if_eq (pc := 82) (tgt := 89) dX12_compared_82 (by decide) hf (fun hf => ?_) (fun hf => ?_)
        · refine E_iconst (pc := 89) (v := (0 : Int32)) dX12_compared_89 (by decide) ?_
          refine E_iadd (pc := 90) dX12_compared_90 ?_
          refine E_putI (pc := 91) dX12_compared_91 (pl_X12_217 _) hf (fun μ46 hf => ?_)
          refine E_aload_n (pc := 94) dX12_compared_94 rfl ?_
          refine E_Vv (pc := 95) (d2 := D_X12_sum) (ci := 12) [] dX12_compared_95 ml_X12_281 mf_X12_sum im_X12_sum rfl rfl rfl (by decide) (Nat.le_of_ble_eq_true rfl) (Nat.le_of_ble_eq_true rfl) rfl (fun _ h => f_X12_sum_ok h) hf (fun μ47 hf => ?_)
          refine E_aload_n (pc := 98) dX12_compared_98 rfl ?_
          refine E_iload_n (pc := 99) dX12_compared_99 rfl ?_
          refine E_bipush (pc := 100) (v := (61 : Int32)) dX12_compared_100 (by decide) ?_
          refine E_icmp_ne (pc := 102) (tgt := 110) dX12_compared_102 (by decide) hf (fun hf => ?_) (fun hf => ?_)
          · refine E_bipush (pc := 105) (v := (6 : Int32)) dX12_compared_105 (by decide) ?_
            refine E_goto (pc := 107) (tgt := 139) dX12_compared_107 (by decide) ?_
            refine E_iconst (pc := 139) (v := (0 : Int32)) dX12_compared_139 (by decide) ?_
            refine E_Vv (pc := 140) (d2 := D_X12_entry) (ci := 12) [.int (6 : Int32), .int (0 : Int32)] dX12_compared_140 ml_X12_268 mf_X12_entry im_X12_entry rfl rfl rfl (by decide) (Nat.le_of_ble_eq_true rfl) (Nat.le_of_ble_eq_true rfl) rfl (fun _ h => f_X12_entry_ok h) hf (fun μ48 hf => ?_)
            exact E_vret (pc := 143) dX12_compared_143 rfl hf
          · refine E_iload_n (pc := 110) dX12_compared_110 rfl ?_
            refine E_bipush (pc := 111) (v := (60 : Int32)) dX12_compared_111 (by decide) ?_
            refine E_icmp_ne (pc := 113) (tgt := 128) dX12_compared_113 (by decide) hf (fun hf => ?_) (fun hf => ?_)
            · refine E_iload_n (pc := 116) dX12_compared_116 rfl ?_
              refine E_if_eq (pc := 117) (tgt := 124) dX12_compared_117 (by decide) hf (fun hf => ?_) (fun hf => ?_)
              · refine E_iconst (pc := 124) (v := (4 : Int32)) dX12_compared_124 (by decide) ?_
                refine E_goto (pc := 125) (tgt := 139) dX12_compared_125 (by decide) ?_
                refine E_iconst (pc := 139) (v := (0 : Int32)) dX12_compared_139 (by decide) ?_
                refine E_Vv (pc := 140) (d2 := D_X12_entry) (ci := 12) [.int (4 : Int32), .int (0 : Int32)] dX12_compared_140 ml_X12_268 mf_X12_entry im_X12_entry rfl rfl rfl (by decide) (Nat.le_of_ble_eq_true rfl) (Nat.le_of_ble_eq_true rfl) rfl (fun _ h => f_X12_entry_ok h) hf (fun μ49 hf => ?_)
                exact E_vret (pc := 143) dX12_compared_143 rfl hf
              · refine E_iconst (pc := 120) (v := (5 : Int32)) dX12_compared_120 (by decide) ?_
                refine E_goto (pc := 121) (tgt := 139) dX12_compared_121 (by decide) ?_
                refine E_iconst (pc := 139) (v := (0 : Int32)) dX12_compared_139 (by decide) ?_
                refine E_Vv (pc := 140) (d2 := D_X12_entry) (ci := 12) [.int (5 : Int32), .int (0 : Int32)] dX12_compared_140 ml_X12_268 mf_X12_entry im_X12_entry rfl rfl rfl (by decide) (Nat.le_of_ble_eq_true rfl) (Nat.le_of_ble_eq_true rfl) rfl (fun _ h => f_X12_entry_ok h) hf (fun μ50 hf => ?_)
                exact E_vret (pc := 143) dX12_compared_143 rfl hf
            · refine E_iload_n (pc := 128) dX12_compared_128 rfl ?_
              refine E_if_eq (pc := 129) (tgt := 137) dX12_compared_129 (by decide) hf (fun hf => ?_) (fun hf => ?_)
              · refine E_bipush (pc := 137) (v := (8 : Int32)) dX12_compared_137 (by decide) ?_
                refine E_iconst (pc := 139) (v := (0 : Int32)) dX12_compared_139 (by decide) ?_
                refine E_Vv (pc := 140) (d2 := D_X12_entry) (ci := 12) [.int (8 : Int32), .int (0 : Int32)] dX12_compared_140 ml_X12_268 mf_X12_entry im_X12_entry rfl rfl rfl (by decide) (Nat.le_of_ble_eq_true rfl) (Nat.le_of_ble_eq_true rfl) rfl (fun _ h => f_X12_entry_ok h) hf (fun μ51 hf => ?_)
                exact E_vret (pc := 143) dX12_compared_143 rfl hf
              · refine E_bipush (pc := 132) (v := (7 : Int32)) dX12_compared_132 (by decide) ?_
                refine E_goto (pc := 134) (tgt := 139) dX12_compared_134 (by decide) ?_
                refine E_iconst (pc := 139) (v := (0 : Int32)) dX12_compared_139 (by decide) ?_
                refine E_Vv (pc := 140) (d2 := D_X12_entry) (ci := 12) [.int (7 : Int32), .int (0 : Int32)] dX12_compared_140 ml_X12_268 mf_X12_entry im_X12_entry rfl rfl rfl (by decide) (Nat.le_of_ble_eq_true rfl) (Nat.le_of_ble_eq_true rfl) rfl (fun _ h => f_X12_entry_ok h) hf (fun μ52 hf => ?_)
                exact E_vret (pc := 143) dX12_compared_143 rfl hf
        · refine E_iconst (pc := 85) (v := (1 : Int32)) dX12_compared_85 (by decide) ?_
          refine E_goto (pc := 86) (tgt := 90) dX12_compared_86 (by decide) ?_
          refine E_iadd (pc := 90) dX12_compared_90 ?_
          refine E_putI (pc := 91) dX12_compared_91 (pl_X12_217 _) hf (fun μ53 hf => ?_)
          refine E_aload_n (pc := 94) dX12_compared_94 rfl ?_
          refine E_Vv (pc := 95) (d2 := D_X12_sum) (ci := 12) [] dX12_compared_95 ml_X12_281 mf_X12_sum im_X12_sum rfl rfl rfl (by decide) (Nat.le_of_ble_eq_true rfl) (Nat.le_of_ble_eq_true rfl) rfl (fun _ h => f_X12_sum_ok h) hf (fun μ54 hf => ?_)
          refine E_aload_n (pc := 98) dX12_compared_98 rfl ?_
          refine E_iload_n (pc := 99) dX12_compared_99 rfl ?_
          refine E_bipush (pc := 100) (v := (61 : Int32)) dX12_compared_100 (by decide) ?_
          refine E_icmp_ne (pc := 102) (tgt := 110) dX12_compared_102 (by decide) hf (fun hf => ?_) (fun hf => ?_)
          · refine E_bipush (pc := 105) (v := (6 : Int32)) dX12_compared_105 (by decide) ?_
            refine E_goto (pc := 107) (tgt := 139) dX12_compared_107 (by decide) ?_
            refine E_iconst (pc := 139) (v := (0 : Int32)) dX12_compared_139 (by decide) ?_
            refine E_Vv (pc := 140) (d2 := D_X12_entry) (ci := 12) [.int (6 : Int32), .int (0 : Int32)] dX12_compared_140 ml_X12_268 mf_X12_entry im_X12_entry rfl rfl rfl (by decide) (Nat.le_of_ble_eq_true rfl) (Nat.le_of_ble_eq_true rfl) rfl (fun _ h => f_X12_entry_ok h) hf (fun μ55 hf => ?_)
            exact E_vret (pc := 143) dX12_compared_143 rfl hf
          · refine E_iload_n (pc := 110) dX12_compared_110 rfl ?_
            refine E_bipush (pc := 111) (v := (60 : Int32)) dX12_compared_111 (by decide) ?_
            refine E_icmp_ne (pc := 113) (tgt := 128) dX12_compared_113 (by decide) hf (fun hf => ?_) (fun hf => ?_)
            · refine E_iload_n (pc := 116) dX12_compared_116 rfl ?_
              refine E_if_eq (pc := 117) (tgt := 124) dX12_compared_117 (by decide) hf (fun hf => ?_) (fun hf => ?_)
              · refine E_iconst (pc := 124) (v := (4 : Int32)) dX12_compared_124 (by decide) ?_
                refine E_goto (pc := 125) (tgt := 139) dX12_compared_125 (by decide) ?_
                refine E_iconst (pc := 139) (v := (0 : Int32)) dX12_compared_139 (by decide) ?_
                refine E_Vv (pc := 140) (d2 := D_X12_entry) (ci := 12) [.int (4 : Int32), .int (0 : Int32)] dX12_compared_140 ml_X12_268 mf_X12_entry im_X12_entry rfl rfl rfl (by decide) (Nat.le_of_ble_eq_true rfl) (Nat.le_of_ble_eq_true rfl) rfl (fun _ h => f_X12_entry_ok h) hf (fun μ56 hf => ?_)
                exact E_vret (pc := 143) dX12_compared_143 rfl hf
              · refine E_iconst (pc := 120) (v := (5 : Int32)) dX12_compared_120 (by decide) ?_
                refine E_goto (pc := 121) (tgt := 139) dX12_compared_121 (by decide) ?_
                refine E_iconst (pc := 139) (v := (0 : Int32)) dX12_compared_139 (by decide) ?_
                refine E_Vv (pc := 140) (d2 := D_X12_entry) (ci := 12) [.int (5 : Int32), .int (0 : Int32)] dX12_compared_140 ml_X12_268 mf_X12_entry im_X12_entry rfl rfl rfl (by decide) (Nat.le_of_ble_eq_true rfl) (Nat.le_of_ble_eq_true rfl) rfl (fun _ h => f_X12_entry_ok h) hf (fun μ57 hf => ?_)
                exact E_vret (pc := 143) dX12_compared_143 rfl hf
            · refine E_iload_n (pc := 128) dX12_compared_128 rfl ?_
              refine E_if_eq (pc := 129) (tgt := 137) dX12_compared_129 (by decide) hf (fun hf => ?_) (fun hf => ?_)
              · refine E_bipush (pc := 137) (v := (8 : Int32)) dX12_compared_137 (by decide) ?_
                refine E_iconst (pc := 139) (v := (0 : Int32)) dX12_compared_139 (by decide) ?_
                refine E_Vv (pc := 140) (d2 := D_X12_entry) (ci := 12) [.int (8 : Int32), .int (0 : Int32)] dX12_compared_140 ml_X12_268 mf_X12_entry im_X12_entry rfl rfl rfl (by decide) (Nat.le_of_ble_eq_true rfl) (Nat.le_of_ble_eq_true rfl) rfl (fun _ h => f_X12_entry_ok h) hf (fun μ58 hf => ?_)
                exact E_vret (pc := 143) dX12_compared_143 rfl hf
              · refine E_bipush (pc := 132) (v := (7 : Int32)) dX12_compared_132 (by decide) ?_
                refine E_goto (pc := 134) (tgt := 139) dX12_compared_134 (by decide) ?_
                refine E_iconst (pc := 139) (v := (0 : Int32)) dX12_compared_139 (by decide) ?_
                refine E_Vv (pc := 140) (d2 := D_X12_entry) (ci := 12) [.int (7 : Int32), .int (0 : Int32)] dX12_compared_140 ml_X12_268 mf_X12_entry im_X12_entry rfl rfl rfl (by decide) (Nat.le_of_ble_eq_true rfl) (Nat.le_of_ble_eq_true rfl) rfl (fun _ h => f_X12_entry_ok h) hf (fun μ59 hf => ?_)
                exact E_vret (pc := 143) dX12_compared_143 rfl hf
  · refine E_iload_n (pc := 15) dX12_compared_15 rfl ?_
    refine E_bipush (pc := 16) (v := (61 : Int32)) dX12_compared_16 (by decide) ?_
    refine E_icmp_eq (pc := 18) (tgt := 37) dX12_compared_18 (by decide) hf (fun hf => ?_) (fun hf => ?_)
    · refine E_aload_n (pc := 37) dX12_compared_37 rfl ?_
      refine E_aload_n (pc := 38) dX12_compared_38 rfl ?_
      refine E_getI (pc := 39) dX12_compared_39 fl_X12_217 hf (fun v60 hf => ?_)
      refine E_Vv (pc := 42) (d2 := D_X12_isCounted) (ci := 12) [.int v60] dX12_compared_42 ml_X12_265 mf_X12_isCounted im_X12_isCounted rfl rfl rfl (by decide) (Nat.le_of_ble_eq_true rfl) (Nat.le_of_ble_eq_true rfl) rfl (fun _ h => f_X12_isCounted_ok h) hf (fun μ61 hf => ?_)
      refine E_aload_n (pc := 45) dX12_compared_45 rfl ?_
      refine E_dup (pc := 46) dX12_compared_46 rfl ?_
      refine E_getI (pc := 47) dX12_compared_47 fl_X12_217 hf (fun v62 hf => ?_)
      refine E_iconst (pc := 50) (v := (1 : Int32)) dX12_compared_50 (by decide) ?_
      refine E_iadd (pc := 51) dX12_compared_51 ?_
      refine E_putI (pc := 52) dX12_compared_52 (pl_X12_217 _) hf (fun μ63 hf => ?_)
      refine E_iload_n (pc := 55) dX12_compared_55 rfl ?_
      refine E_bipush (pc := 56) (v := (61 : Int32)) dX12_compared_56 (by decide) ?_
      refine E_icmp_eq (pc := 58) (tgt := 74) dX12_compared_58 (by decide) hf (fun hf => ?_) (fun hf => ?_)
      · refine E_iconst (pc := 74) (v := (0 : Int32)) dX12_compared_74 (by decide) ?_
        refine E_istore_n (pc := 75) (ls' := fun x64 => [(2, .int x64), (1, .int x5), (0, .ref a1)]) dX12_compared_75 (by decide) (fun _ => rfl) hf (fun x64 hf => ?_)
        refine E_aload_n (pc := 76) dX12_compared_76 rfl ?_
        refine E_dup (pc := 77) dX12_compared_77 rfl ?_
        refine E_getI (pc := 78) dX12_compared_78 fl_X12_217 hf (fun v65 hf => ?_)
        refine E_iload_n (pc := 81) dX12_compared_81 rfl ?_
        refine E_if_eq (pc := 82) (tgt := 89) dX12_compared_82 (by decide) hf (fun hf => ?_) (fun hf => ?_)
        · refine E_iconst (pc := 89) (v := (0 : Int32)) dX12_compared_89 (by decide) ?_
          refine E_iadd (pc := 90) dX12_compared_90 ?_
          refine E_putI (pc := 91) dX12_compared_91 (pl_X12_217 _) hf (fun μ66 hf => ?_)
          refine E_aload_n (pc := 94) dX12_compared_94 rfl ?_
          refine E_Vv (pc := 95) (d2 := D_X12_sum) (ci := 12) [] dX12_compared_95 ml_X12_281 mf_X12_sum im_X12_sum rfl rfl rfl (by decide) (Nat.le_of_ble_eq_true rfl) (Nat.le_of_ble_eq_true rfl) rfl (fun _ h => f_X12_sum_ok h) hf (fun μ67 hf => ?_)
          refine E_aload_n (pc := 98) dX12_compared_98 rfl ?_
          refine E_iload_n (pc := 99) dX12_compared_99 rfl ?_
          refine E_bipush (pc := 100) (v := (61 : Int32)) dX12_compared_100 (by decide) ?_
          refine E_icmp_ne (pc := 102) (tgt := 110) dX12_compared_102 (by decide) hf (fun hf => ?_) (fun hf => ?_)
          · refine E_bipush (pc := 105) (v := (6 : Int32)) dX12_compared_105 (by decide) ?_
            refine E_goto (pc := 107) (tgt := 139) dX12_compared_107 (by decide) ?_
            refine E_iconst (pc := 139) (v := (0 : Int32)) dX12_compared_139 (by decide) ?_
            refine E_Vv (pc := 140) (d2 := D_X12_entry) (ci := 12) [.int (6 : Int32), .int (0 : Int32)] dX12_compared_140 ml_X12_268 mf_X12_entry im_X12_entry rfl rfl rfl (by decide) (Nat.le_of_ble_eq_true rfl) (Nat.le_of_ble_eq_true rfl) rfl (fun _ h => f_X12_entry_ok h) hf (fun μ68 hf => ?_)
            exact E_vret (pc := 143) dX12_compared_143 rfl hf
          · refine E_iload_n (pc := 110) dX12_compared_110 rfl ?_
            refine E_bipush (pc := 111) (v := (60 : Int32)) dX12_compared_111 (by decide) ?_
            refine E_icmp_ne (pc := 113) (tgt := 128) dX12_compared_113 (by decide) hf (fun hf => ?_) (fun hf => ?_)
            · refine E_iload_n (pc := 116) dX12_compared_116 rfl ?_
              refine E_if_eq (pc := 117) (tgt := 124) dX12_compared_117 (by decide) hf (fun hf => ?_) (fun hf => ?_)
              · refine E_iconst (pc := 124) (v := (4 : Int32)) dX12_compared_124 (by decide) ?_
                refine E_goto (pc := 125) (tgt := 139) dX12_compared_125 (by decide) ?_
                refine E_iconst (pc := 139) (v := (0 : Int32)) dX12_compared_139 (by decide) ?_
                refine E_Vv (pc := 140) (d2 := D_X12_entry) (ci := 12) [.int (4 : Int32), .int (0 : Int32)] dX12_compared_140 ml_X12_268 mf_X12_entry im_X12_entry rfl rfl rfl (by decide) (Nat.le_of_ble_eq_true rfl) (Nat.le_of_ble_eq_true rfl) rfl (fun _ h => f_X12_entry_ok h) hf (fun μ69 hf => ?_)
                exact E_vret (pc := 143) dX12_compared_143 rfl hf
              · refine E_iconst (pc := 120) (v := (5 : Int32)) dX12_compared_120 (by decide) ?_
                refine E_goto (pc := 121) (tgt := 139) dX12_compared_121 (by decide) ?_
                refine E_iconst (pc := 139) (v := (0 : Int32)) dX12_compared_139 (by decide) ?_
                refine E_Vv (pc := 140) (d2 := D_X12_entry) (ci := 12) [.int (5 : Int32), .int (0 : Int32)] dX12_compared_140 ml_X12_268 mf_X12_entry im_X12_entry rfl rfl rfl (by decide) (Nat.le_of_ble_eq_true rfl) (Nat.le_of_ble_eq_true rfl) rfl (fun _ h => f_X12_entry_ok h) hf (fun μ70 hf => ?_)
                exact E_vret (pc := 143) dX12_compared_143 rfl hf
            · refine E_iload_n (pc := 128) dX12_compared_128 rfl ?_
              refine E_if_eq (pc := 129) (tgt := 137) dX12_compared_129 (by decide) hf (fun hf => ?_) (fun hf => ?_)
              · refine E_bipush (pc := 137) (v := (8 : Int32)) dX12_compared_137 (by decide) ?_
                refine E_iconst (pc := 139) (v := (0 : Int32)) dX12_compared_139 (by decide) ?_
                refine E_Vv (pc := 140) (d2 := D_X12_entry) (ci := 12) [.int (8 : Int32), .int (0 : Int32)] dX12_compared_140 ml_X12_268 mf_X12_entry im_X12_entry rfl rfl rfl (by decide) (Nat.le_of_ble_eq_true rfl) (Nat.le_of_ble_eq_true rfl) rfl (fun _ h => f_X12_entry_ok h) hf (fun μ71 hf => ?_)
                exact E_vret (pc := 143) dX12_compared_143 rfl hf
              · refine E_bipush (pc := 132) (v := (7 : Int32)) dX12_compared_132 (by decide) ?_
                refine E_goto (pc := 134) (tgt := 139) dX12_compared_134 (by decide) ?_
                refine E_iconst (pc := 139) (v := (0 : Int32)) dX12_compared_139 (by decide) ?_
                refine E_Vv (pc := 140) (d2 := D_X12_entry) (ci := 12) [.int (7 : Int32), .int (0 : Int32)] dX12_compared_140 ml_X12_268 mf_X12_entry im_X12_entry rfl rfl rfl (by decide) (Nat.le_of_ble_eq_true rfl) (Nat.le_of_ble_eq_true rfl) rfl (fun _ h => f_X12_entry_ok h) hf (fun μ72 hf => ?_)
                exact E_vret (pc := 143) dX12_compared_143 rfl hf
        · refine E_iconst (pc := 85) (v := (1 : Int32)) dX12_compared_85 (by decide) ?_
          refine E_goto (pc := 86) (tgt := 90) dX12_compared_86 (by decide) ?_
          refine E_iadd (pc := 90) dX12_compared_90 ?_
          refine E_putI (pc := 91) dX12_compared_91 (pl_X12_217 _) hf (fun μ73 hf => ?_)
          refine E_aload_n (pc := 94) dX12_compared_94 rfl ?_
          refine E_Vv (pc := 95) (d2 := D_X12_sum) (ci := 12) [] dX12_compared_95 ml_X12_281 mf_X12_sum im_X12_sum rfl rfl rfl (by decide) (Nat.le_of_ble_eq_true rfl) (Nat.le_of_ble_eq_true rfl) rfl (fun _ h => f_X12_sum_ok h) hf (fun μ74 hf => ?_)
          refine E_aload_n (pc := 98) dX12_compared_98 rfl ?_
          refine E_iload_n (pc := 99) dX12_compared_99 rfl ?_
          refine E_bipush (pc := 100) (v := (61 : Int32)) dX12_compared_100 (by decide) ?_
          refine E_icmp_ne (pc := 102) (tgt := 110) dX12_compared_102 (by decide) hf (fun hf => ?_) (fun hf => ?_)
          · refine E_bipush (pc := 105) (v := (6 : Int32)) dX12_compared_105 (by decide) ?_
            refine E_goto (pc := 107) (tgt := 139) dX12_compared_107 (by decide) ?_
            refine E_iconst (pc := 139) (v := (0 : Int32)) dX12_compared_139 (by decide) ?_
            refine E_Vv (pc := 140) (d2 := D_X12_entry) (ci := 12) [.int (6 : Int32), .int (0 : Int32)] dX12_compared_140 ml_X12_268 mf_X12_entry im_X12_entry rfl rfl rfl (by decide) (Nat.le_of_ble_eq_true rfl) (Nat.le_of_ble_eq_true rfl) rfl (fun _ h => f_X12_entry_ok h) hf (fun μ75 hf => ?_)
            exact E_vret (pc := 143) dX12_compared_143 rfl hf
          · refine E_iload_n (pc := 110) dX12_compared_110 rfl ?_
            refine E_bipush (pc := 111) (v := (60 : Int32)) dX12_compared_111 (by decide) ?_
            refine E_icmp_ne (pc := 113) (tgt := 128) dX12_compared_113 (by decide) hf (fun hf => ?_) (fun hf => ?_)
            · refine E_iload_n (pc := 116) dX12_compared_116 rfl ?_
              refine E_if_eq (pc := 117) (tgt := 124) dX12_compared_117 (by decide) hf (fun hf => ?_) (fun hf => ?_)
              · refine E_iconst (pc := 124) (v := (4 : Int32)) dX12_compared_124 (by decide) ?_
                refine E_goto (pc := 125) (tgt := 139) dX12_compared_125 (by decide) ?_
                refine E_iconst (pc := 139) (v := (0 : Int32)) dX12_compared_139 (by decide) ?_
                refine E_Vv (pc := 140) (d2 := D_X12_entry) (ci := 12) [.int (4 : Int32), .int (0 : Int32)] dX12_compared_140 ml_X12_268 mf_X12_entry im_X12_entry rfl rfl rfl (by decide) (Nat.le_of_ble_eq_true rfl) (Nat.le_of_ble_eq_true rfl) rfl (fun _ h => f_X12_entry_ok h) hf (fun μ76 hf => ?_)
                exact E_vret (pc := 143) dX12_compared_143 rfl hf
              · refine E_iconst (pc := 120) (v := (5 : Int32)) dX12_compared_120 (by decide) ?_
                refine E_goto (pc := 121) (tgt := 139) dX12_compared_121 (by decide) ?_
                refine E_iconst (pc := 139) (v := (0 : Int32)) dX12_compared_139 (by decide) ?_
                refine E_Vv (pc := 140) (d2 := D_X12_entry) (ci := 12) [.int (5 : Int32), .int (0 : Int32)] dX12_compared_140 ml_X12_268 mf_X12_entry im_X12_entry rfl rfl rfl (by decide) (Nat.le_of_ble_eq_true rfl) (Nat.le_of_ble_eq_true rfl) rfl (fun _ h => f_X12_entry_ok h) hf (fun μ77 hf => ?_)
                exact E_vret (pc := 143) dX12_compared_143 rfl hf
            · refine E_iload_n (pc := 128) dX12_compared_128 rfl ?_
              refine E_if_eq (pc := 129) (tgt := 137) dX12_compared_129 (by decide) hf (fun hf => ?_) (fun hf => ?_)
              · refine E_bipush (pc := 137) (v := (8 : Int32)) dX12_compared_137 (by decide) ?_
                refine E_iconst (pc := 139) (v := (0 : Int32)) dX12_compared_139 (by decide) ?_
                refine E_Vv (pc := 140) (d2 := D_X12_entry) (ci := 12) [.int (8 : Int32), .int (0 : Int32)] dX12_compared_140 ml_X12_268 mf_X12_entry im_X12_entry rfl rfl rfl (by decide) (Nat.le_of_ble_eq_true rfl) (Nat.le_of_ble_eq_true rfl) rfl (fun _ h => f_X12_entry_ok h) hf (fun μ78 hf => ?_)
                exact E_vret (pc := 143) dX12_compared_143 rfl hf
              · refine E_bipush (pc := 132) (v := (7 : Int32)) dX12_compared_132 (by decide) ?_
                refine E_goto (pc := 134) (tgt := 139) dX12_compared_134 (by decide) ?_
                refine E_iconst (pc := 139) (v := (0 : Int32)) dX12_compared_139 (by decide) ?_
                refine E_Vv (pc := 140) (d2 := D_X12_entry) (ci := 12) [.int (7 : Int32), .int (0 : Int32)] dX12_compared_140 ml_X12_268 mf_X12_entry im_X12_entry rfl rfl rfl (by decide) (Nat.le_of_ble_eq_true rfl) (Nat.le_of_ble_eq_true rfl) rfl (fun _ h => f_X12_entry_ok h) hf (fun μ79 hf => ?_)
                exact E_vret (pc := 143) dX12_compared_143 rfl hf
      · refine E_aload_n (pc := 61) dX12_compared_61 rfl ?_
        refine E_Vi (pc := 62) (d2 := D_X12_sign) (ci := 12) [] dX12_compared_62 ml_X12_220 mf_X12_sign im_X12_sign rfl rfl rfl (by decide) (Nat.le_of_ble_eq_true rfl) (Nat.le_of_ble_eq_true rfl) rfl (fun _ _ h => f_X12_sign_ok h) hf (fun v81 μ80 hf => ?_)
        refine E_bipush (pc := 65) (v := (61 : Int32)) dX12_compared_65 (by decide) ?_
        refine E_icmp_ne (pc := 67) (tgt := 74) dX12_compared_67 (by decide) hf (fun hf => ?_) (fun hf => ?_)
        · refine E_iconst (pc := 70) (v := (1 : Int32)) dX12_compared_70 (by decide) ?_
          refine E_goto (pc := 71) (tgt := 75) dX12_compared_71 (by decide) ?_
          refine E_istore_n (pc := 75) (ls' := fun x82 => [(2, .int x82), (1, .int x5), (0, .ref a1)]) dX12_compared_75 (by decide) (fun _ => rfl) hf (fun x82 hf => ?_)
          refine E_aload_n (pc := 76) dX12_compared_76 rfl ?_
          refine E_dup (pc := 77) dX12_compared_77 rfl ?_
          refine E_getI (pc := 78) dX12_compared_78 fl_X12_217 hf (fun v83 hf => ?_)
          refine E_iload_n (pc := 81) dX12_compared_81 rfl ?_
          refine E_if_eq (pc := 82) (tgt := 89) dX12_compared_82 (by decide) hf (fun hf => ?_) (fun hf => ?_)
          · refine E_iconst (pc := 89) (v := (0 : Int32)) dX12_compared_89 (by decide) ?_
            refine E_iadd (pc := 90) dX12_compared_90 ?_
            refine E_putI (pc := 91) dX12_compared_91 (pl_X12_217 _) hf (fun μ84 hf => ?_)
            refine E_aload_n (pc := 94) dX12_compared_94 rfl ?_
            refine E_Vv (pc := 95) (d2 := D_X12_sum) (ci := 12) [] dX12_compared_95 ml_X12_281 mf_X12_sum im_X12_sum rfl rfl rfl (by decide) (Nat.le_of_ble_eq_true rfl) (Nat.le_of_ble_eq_true rfl) rfl (fun _ h => f_X12_sum_ok h) hf (fun μ85 hf => ?_)
            refine E_aload_n (pc := 98) dX12_compared_98 rfl ?_
            refine E_iload_n (pc := 99) dX12_compared_99 rfl ?_
            refine E_bipush (pc := 100) (v := (61 : Int32)) dX12_compared_100 (by decide) ?_
            refine E_icmp_ne (pc := 102) (tgt := 110) dX12_compared_102 (by decide) hf (fun hf => ?_) (fun hf => ?_)
            · refine E_bipush (pc := 105) (v := (6 : Int32)) dX12_compared_105 (by decide) ?_
              refine E_goto (pc := 107) (tgt := 139) dX12_compared_107 (by decide) ?_
              refine E_iconst (pc := 139) (v := (0 : Int32)) dX12_compared_139 (by decide) ?_
              refine E_Vv (pc := 140) (d2 := D_X12_entry) (ci := 12) [.int (6 : Int32), .int (0 : Int32)] dX12_compared_140 ml_X12_268 mf_X12_entry im_X12_entry rfl rfl rfl (by decide) (Nat.le_of_ble_eq_true rfl) (Nat.le_of_ble_eq_true rfl) rfl (fun _ h => f_X12_entry_ok h) hf (fun μ86 hf => ?_)
              exact E_vret (pc := 143) dX12_compared_143 rfl hf
            · refine E_iload_n (pc := 110) dX12_compared_110 rfl ?_
              refine E_bipush (pc := 111) (v := (60 : Int32)) dX12_compared_111 (by decide) ?_
              refine E_icmp_ne (pc := 113) (tgt := 128) dX12_compared_113 (by decide) hf (fun hf => ?_) (fun hf => ?_)
              · refine E_iload_n (pc := 116) dX12_compared_116 rfl ?_
                refine E_if_eq (pc := 117) (tgt := 124) dX12_compared_117 (by decide) hf (fun hf => ?_) (fun hf => ?_)
                · refine E_iconst (pc := 124) (v := (4 : Int32)) dX12_compared_124 (by decide) ?_
                  refine E_goto (pc := 125) (tgt := 139) dX12_compared_125 (by decide) ?_
                  refine E_iconst (pc := 139) (v := (0 : Int32)) dX12_compared_139 (by decide) ?_
                  refine E_Vv (pc := 140) (d2 := D_X12_entry) (ci := 12) [.int (4 : Int32), .int (0 : Int32)] dX12_compared_140 ml_X12_268 mf_X12_entry im_X12_entry rfl rfl rfl (by decide) (Nat.le_of_ble_eq_true rfl) (Nat.le_of_ble_eq_true rfl) rfl (fun _ h => f_X12_entry_ok h) hf (fun μ87 hf => ?_)
                  exact E_vret (pc := 143) dX12_compared_143 rfl hf
                · refine E_iconst (pc := 120) (v := (5 : Int32)) dX12_compared_120 (by decide) ?_
                  refine E_goto (pc := 121) (tgt := 139) dX12_compared_121 (by decide) ?_
                  refine E_iconst (pc := 139) (v := (0 : Int32)) dX12_compared_139 (by decide) ?_
                  refine E_Vv (pc := 140) (d2 := D_X12_entry) (ci := 12) [.int (5 : Int32), .int (0 : Int32)] dX12_compared_140 ml_X12_268 mf_X12_entry im_X12_entry rfl rfl rfl (by decide) (Nat.le_of_ble_eq_true rfl) (Nat.le_of_ble_eq_true rfl) rfl (fun _ h => f_X12_entry_ok h) hf (fun μ88 hf => ?_)
                  exact E_vret (pc := 143) dX12_compared_143 rfl hf
              · refine E_iload_n (pc := 128) dX12_compared_128 rfl ?_
                refine E_if_eq (pc := 129) (tgt := 137) dX12_compared_129 (by decide) hf (fun hf => ?_) (fun hf => ?_)
                · refine E_bipush (pc := 137) (v := (8 : Int32)) dX12_compared_137 (by decide) ?_
                  refine E_iconst (pc := 139) (v := (0 : Int32)) dX12_compared_139 (by decide) ?_
                  refine E_Vv (pc := 140) (d2 := D_X12_entry) (ci := 12) [.int (8 : Int32), .int (0 : Int32)] dX12_compared_140 ml_X12_268 mf_X12_entry im_X12_entry rfl rfl rfl (by decide) (Nat.le_of_ble_eq_true rfl) (Nat.le_of_ble_eq_true rfl) rfl (fun _ h => f_X12_entry_ok h) hf (fun μ89 hf => ?_)
                  exact E_vret (pc := 143) dX12_compared_143 rfl hf
                · refine E_bipush (pc := 132) (v := (7 : Int32)) dX12_compared_132 (by decide) ?_
                  refine E_goto (pc := 134) (tgt := 139) dX12_compared_134 (by decide) ?_
                  refine E_iconst (pc := 139) (v := (0 : Int32)) dX12_compared_139 (by decide) ?_
                  refine E_Vv (pc := 140) (d2 := D_X12_entry) (ci := 12) [.int (7 : Int32), .int (0 : Int32)] dX12_compared_140 ml_X12_268 mf_X12_entry im_X12_entry rfl rfl rfl (by decide) (Nat.le_of_ble_eq_true rfl) (Nat.le_of_ble_eq_true rfl) rfl (fun _ h => f_X12_entry_ok h) hf (fun μ90 hf => ?_)
                  exact E_vret (pc := 143) dX12_compared_143 rfl hf
          · refine E_iconst (pc := 85) (v := (1 : Int32)) dX12_compared_85 (by decide) ?_
            refine E_goto (pc := 86) (tgt := 90) dX12_compared_86 (by decide) ?_
            refine E_iadd (pc := 90) dX12_compared_90 ?_
            refine E_putI (pc := 91) dX12_compared_91 (pl_X12_217 _) hf (fun μ91 hf => ?_)
            refine E_aload_n (pc := 94) dX12_compared_94 rfl ?_
            refine E_Vv (pc := 95) (d2 := D_X12_sum) (ci := 12) [] dX12_compared_95 ml_X12_281 mf_X12_sum im_X12_sum rfl rfl rfl (by decide) (Nat.le_of_ble_eq_true rfl) (Nat.le_of_ble_eq_true rfl) rfl (fun _ h => f_X12_sum_ok h) hf (fun μ92 hf => ?_)
            refine E_aload_n (pc := 98) dX12_compared_98 rfl ?_
            refine E_iload_n (pc := 99) dX12_compared_99 rfl ?_
            refine E_bipush (pc := 100) (v := (61 : Int32)) dX12_compared_100 (by decide) ?_
            refine E_icmp_ne (pc := 102) (tgt := 110) dX12_compared_102 (by decide) hf (fun hf => ?_) (fun hf => ?_)
            · refine E_bipush (pc := 105) (v := (6 : Int32)) dX12_compared_105 (by decide) ?_
              refine E_goto (pc := 107) (tgt := 139) dX12_compared_107 (by decide) ?_
              refine E_iconst (pc := 139) (v := (0 : Int32)) dX12_compared_139 (by decide) ?_
              refine E_Vv (pc := 140) (d2 := D_X12_entry) (ci := 12) [.int (6 : Int32), .int (0 : Int32)] dX12_compared_140 ml_X12_268 mf_X12_entry im_X12_entry rfl rfl rfl (by decide) (Nat.le_of_ble_eq_true rfl) (Nat.le_of_ble_eq_true rfl) rfl (fun _ h => f_X12_entry_ok h) hf (fun μ93 hf => ?_)
              exact E_vret (pc := 143) dX12_compared_143 rfl hf
            · refine E_iload_n (pc := 110) dX12_compared_110 rfl ?_
              refine E_bipush (pc := 111) (v := (60 : Int32)) dX12_compared_111 (by decide) ?_
              refine E_icmp_ne (pc := 113) (tgt := 128) dX12_compared_113 (by decide) hf (fun hf => ?_) (fun hf => ?_)
              · refine E_iload_n (pc := 116) dX12_compared_116 rfl ?_
                refine E_if_eq (pc := 117) (tgt := 124) dX12_compared_117 (by decide) hf (fun hf => ?_) (fun hf => ?_)
                · refine E_iconst (pc := 124) (v := (4 : Int32)) dX12_compared_124 (by decide) ?_
                  refine E_goto (pc := 125) (tgt := 139) dX12_compared_125 (by decide) ?_
                  refine E_iconst (pc := 139) (v := (0 : Int32)) dX12_compared_139 (by decide) ?_
                  refine E_Vv (pc := 140) (d2 := D_X12_entry) (ci := 12) [.int (4 : Int32), .int (0 : Int32)] dX12_compared_140 ml_X12_268 mf_X12_entry im_X12_entry rfl rfl rfl (by decide) (Nat.le_of_ble_eq_true rfl) (Nat.le_of_ble_eq_true rfl) rfl (fun _ h => f_X12_entry_ok h) hf (fun μ94 hf => ?_)
                  exact E_vret (pc := 143) dX12_compared_143 rfl hf
                · refine E_iconst (pc := 120) (v := (5 : Int32)) dX12_compared_120 (by decide) ?_
                  refine E_goto (pc := 121) (tgt := 139) dX12_compared_121 (by decide) ?_
                  refine E_iconst (pc := 139) (v := (0 : Int32)) dX12_compared_139 (by decide) ?_
                  refine E_Vv (pc := 140) (d2 := D_X12_entry) (ci := 12) [.int (5 : Int32), .int (0 : Int32)] dX12_compared_140 ml_X12_268 mf_X12_entry im_X12_entry rfl rfl rfl (by decide) (Nat.le_of_ble_eq_true rfl) (Nat.le_of_ble_eq_true rfl) rfl (fun _ h => f_X12_entry_ok h) hf (fun μ95 hf => ?_)
                  exact E_vret (pc := 143) dX12_compared_143 rfl hf
              · refine E_iload_n (pc := 128) dX12_compared_128 rfl ?_
                refine E_if_eq (pc := 129) (tgt := 137) dX12_compared_129 (by decide) hf (fun hf => ?_) (fun hf => ?_)
                · refine E_bipush (pc := 137) (v := (8 : Int32)) dX12_compared_137 (by decide) ?_
                  refine E_iconst (pc := 139) (v := (0 : Int32)) dX12_compared_139 (by decide) ?_
                  refine E_Vv (pc := 140) (d2 := D_X12_entry) (ci := 12) [.int (8 : Int32), .int (0 : Int32)] dX12_compared_140 ml_X12_268 mf_X12_entry im_X12_entry rfl rfl rfl (by decide) (Nat.le_of_ble_eq_true rfl) (Nat.le_of_ble_eq_true rfl) rfl (fun _ h => f_X12_entry_ok h) hf (fun μ96 hf => ?_)
                  exact E_vret (pc := 143) dX12_compared_143 rfl hf
                · refine E_bipush (pc := 132) (v := (7 : Int32)) dX12_compared_132 (by decide) ?_
                  refine E_goto (pc := 134) (tgt := 139) dX12_compared_134 (by decide) ?_
                  refine E_iconst (pc := 139) (v := (0 : Int32)) dX12_compared_139 (by decide) ?_
                  refine E_Vv (pc := 140) (d2 := D_X12_entry) (ci := 12) [.int (7 : Int32), .int (0 : Int32)] dX12_compared_140 ml_X12_268 mf_X12_entry im_X12_entry rfl rfl rfl (by decide) (Nat.le_of_ble_eq_true rfl) (Nat.le_of_ble_eq_true rfl) rfl (fun _ h => f_X12_entry_ok h) hf (fun μ97 hf => ?_)
                  exact E_vret (pc := 143) dX12_compared_143 rfl hf
        · refine E_iconst (pc := 74) (v := (0 : Int32)) dX12_compared_74 (by decide) ?_
          refine E_istore_n (pc := 75) (ls' := fun x98 => [(2, .int x98), (1, .int x5), (0, .ref a1)]) dX12_compared_75 (by decide) (fun _ => rfl) hf (fun x98 hf => ?_)
          refine E_aload_n (pc := 76) dX12_compared_76 rfl ?_
          refine E_dup (pc := 77) dX12_compared_77 rfl ?_
          refine E_getI (pc := 78) dX12_compared_78 fl_X12_217 hf (fun v99 hf => ?_)
          refine E_iload_n (pc := 81) dX12_compared_81 rfl ?_
          refine E_if_eq (pc := 82) (tgt := 89) dX12_compared_82 (by decide) hf (fun hf => ?_) (fun hf => ?_)
          · refine E_iconst (pc := 89) (v := (0 : Int32)) dX12_compared_89 (by decide) ?_
            refine E_iadd (pc := 90) dX12_compared_90 ?_
            refine E_putI (pc := 91) dX12_compared_91 (pl_X12_217 _) hf (fun μ100 hf => ?_)
            refine E_aload_n (pc := 94) dX12_compared_94 rfl ?_
            refine E_Vv (pc := 95) (d2 := D_X12_sum) (ci := 12) [] dX12_compared_95 ml_X12_281 mf_X12_sum im_X12_sum rfl rfl rfl (by decide) (Nat.le_of_ble_eq_true rfl) (Nat.le_of_ble_eq_true rfl) rfl (fun _ h => f_X12_sum_ok h) hf (fun μ101 hf => ?_)
            refine E_aload_n (pc := 98) dX12_compared_98 rfl ?_
            refine E_iload_n (pc := 99) dX12_compared_99 rfl ?_
            refine E_bipush (pc := 100) (v := (61 : Int32)) dX12_compared_100 (by decide) ?_
            refine E_icmp_ne (pc := 102) (tgt := 110) dX12_compared_102 (by decide) hf (fun hf => ?_) (fun hf => ?_)
            · refine E_bipush (pc := 105) (v := (6 : Int32)) dX12_compared_105 (by decide) ?_
              refine E_goto (pc := 107) (tgt := 139) dX12_compared_107 (by decide) ?_
              refine E_iconst (pc := 139) (v := (0 : Int32)) dX12_compared_139 (by decide) ?_
              refine E_Vv (pc := 140) (d2 := D_X12_entry) (ci := 12) [.int (6 : Int32), .int (0 : Int32)] dX12_compared_140 ml_X12_268 mf_X12_entry im_X12_entry rfl rfl rfl (by decide) (Nat.le_of_ble_eq_true rfl) (Nat.le_of_ble_eq_true rfl) rfl (fun _ h => f_X12_entry_ok h) hf (fun μ102 hf => ?_)
              exact E_vret (pc := 143) dX12_compared_143 rfl hf
            · refine E_iload_n (pc := 110) dX12_compared_110 rfl ?_
              refine E_bipush (pc := 111) (v := (60 : Int32)) dX12_compared_111 (by decide) ?_
              refine E_icmp_ne (pc := 113) (tgt := 128) dX12_compared_113 (by decide) hf (fun hf => ?_) (fun hf => ?_)
              · refine E_iload_n (pc := 116) dX12_compared_116 rfl ?_
                refine E_if_eq (pc := 117) (tgt := 124) dX12_compared_117 (by decide) hf (fun hf => ?_) (fun hf => ?_)
                · refine E_iconst (pc := 124) (v := (4 : Int32)) dX12_compared_124 (by decide) ?_
                  refine E_goto (pc := 125) (tgt := 139) dX12_compared_125 (by decide) ?_
                  refine E_iconst (pc := 139) (v := (0 : Int32)) dX12_compared_139 (by decide) ?_
                  refine E_Vv (pc := 140) (d2 := D_X12_entry) (ci := 12) [.int (4 : Int32), .int (0 : Int32)] dX12_compared_140 ml_X12_268 mf_X12_entry im_X12_entry rfl rfl rfl (by decide) (Nat.le_of_ble_eq_true rfl) (Nat.le_of_ble_eq_true rfl) rfl (fun _ h => f_X12_entry_ok h) hf (fun μ103 hf => ?_)
                  exact E_vret (pc := 143) dX12_compared_143 rfl hf
                · refine E_iconst (pc := 120) (v := (5 : Int32)) dX12_compared_120 (by decide) ?_
                  refine E_goto (pc := 121) (tgt := 139) dX12_compared_121 (by decide) ?_
                  refine E_iconst (pc := 139) (v := (0 : Int32)) dX12_compared_139 (by decide) ?_
                  refine E_Vv (pc := 140) (d2 := D_X12_entry) (ci := 12) [.int (5 : Int32), .int (0 : Int32)] dX12_compared_140 ml_X12_268 mf_X12_entry im_X12_entry rfl rfl rfl (by decide) (Nat.le_of_ble_eq_true rfl) (Nat.le_of_ble_eq_true rfl) rfl (fun _ h => f_X12_entry_ok h) hf (fun μ104 hf => ?_)
                  exact E_vret (pc := 143) dX12_compared_143 rfl hf
              · refine E_iload_n (pc := 128) dX12_compared_128 rfl ?_
                refine E_if_eq (pc := 129) (tgt := 137) dX12_compared_129 (by decide) hf (fun hf => ?_) (fun hf => ?_)
                · refine E_bipush (pc := 137) (v := (8 : Int32)) dX12_compared_137 (by decide) ?_
                  refine E_iconst (pc := 139) (v := (0 : Int32)) dX12_compared_139 (by decide) ?_
                  refine E_Vv (pc := 140) (d2 := D_X12_entry) (ci := 12) [.int (8 : Int32), .int (0 : Int32)] dX12_compared_140 ml_X12_268 mf_X12_entry im_X12_entry rfl rfl rfl (by decide) (Nat.le_of_ble_eq_true rfl) (Nat.le_of_ble_eq_true rfl) rfl (fun _ h => f_X12_entry_ok h) hf (fun μ105 hf => ?_)
                  exact E_vret (pc := 143) dX12_compared_143 rfl hf
                · refine E_bipush (pc := 132) (v := (7 : Int32)) dX12_compared_132 (by decide) ?_
                  refine E_goto (pc := 134) (tgt := 139) dX12_compared_134 (by decide) ?_
                  refine E_iconst (pc := 139) (v := (0 : Int32)) dX12_compared_139 (by decide) ?_
                  refine E_Vv (pc := 140) (d2 := D_X12_entry) (ci := 12) [.int (7 : Int32), .int (0 : Int32)] dX12_compared_140 ml_X12_268 mf_X12_entry im_X12_entry rfl rfl rfl (by decide) (Nat.le_of_ble_eq_true rfl) (Nat.le_of_ble_eq_true rfl) rfl (fun _ h => f_X12_entry_ok h) hf (fun μ106 hf => ?_)
                  exact E_vret (pc := 143) dX12_compared_143 rfl hf
          · refine E_iconst (pc := 85) (v := (1 : Int32)) dX12_compared_85 (by decide) ?_
            refine E_goto (pc := 86) (tgt := 90) dX12_compared_86 (by decide) ?_
            refine E_iadd (pc := 90) dX12_compared_90 ?_
            refine E_putI (pc := 91) dX12_compared_91 (pl_X12_217 _) hf (fun μ107 hf => ?_)
            refine E_aload_n (pc := 94) dX12_compared_94 rfl ?_
            refine E_Vv (pc := 95) (d2 := D_X12_sum) (ci := 12) [] dX12_compared_95 ml_X12_281 mf_X12_sum im_X12_sum rfl rfl rfl (by decide) (Nat.le_of_ble_eq_true rfl) (Nat.le_of_ble_eq_true rfl) rfl (fun _ h => f_X12_sum_ok h) hf (fun μ108 hf => ?_)
            refine E_aload_n (pc := 98) dX12_compared_98 rfl ?_
            refine E_iload_n (pc := 99) dX12_compared_99 rfl ?_
            refine E_bipush (pc := 100) (v := (61 : Int32)) dX12_compared_100 (by decide) ?_
            refine E_icmp_ne (pc := 102) (tgt := 110) dX12_compared_102 (by decide) hf (fun hf => ?_) (fun hf => ?_)
            · refine E_bipush (pc := 105) (v := (6 : Int32)) dX12_compared_105 (by decide) ?_
              refine E_goto (pc := 107) (tgt := 139) dX12_compared_107 (by decide) ?_
              refine E_iconst (pc := 139) (v := (0 : Int32)) dX12_compared_139 (by decide) ?_
              refine E_Vv (pc := 140) (d2 := D_X12_entry) (ci := 12) [.int (6 : Int32), .int (0 : Int32)] dX12_compared_140 ml_X12_268 mf_X12_entry im_X12_entry rfl rfl rfl (by decide) (Nat.le_of_ble_eq_true rfl) (Nat.le_of_ble_eq_true rfl) rfl (fun _ h => f_X12_entry_ok h) hf (fun μ109 hf => ?_)
              exact E_vret (pc := 143) dX12_compared_143 rfl hf
            · refine E_iload_n (pc := 110) dX12_compared_110 rfl ?_
              refine E_bipush (pc := 111) (v := (60 : Int32)) dX12_compared_111 (by decide) ?_
              refine E_icmp_ne (pc := 113) (tgt := 128) dX12_compared_113 (by decide) hf (fun hf => ?_) (fun hf => ?_)
              · refine E_iload_n (pc := 116) dX12_compared_116 rfl ?_
                refine E_if_eq (pc := 117) (tgt := 124) dX12_compared_117 (by decide) hf (fun hf => ?_) (fun hf => ?_)
                · refine E_iconst (pc := 124) (v := (4 : Int32)) dX12_compared_124 (by decide) ?_
                  refine E_goto (pc := 125) (tgt := 139) dX12_compared_125 (by decide) ?_
                  refine E_iconst (pc := 139) (v := (0 : Int32)) dX12_compared_139 (by decide) ?_
                  refine E_Vv (pc := 140) (d2 := D_X12_entry) (ci := 12) [.int (4 : Int32), .int (0 : Int32)] dX12_compared_140 ml_X12_268 mf_X12_entry im_X12_entry rfl rfl rfl (by decide) (Nat.le_of_ble_eq_true rfl) (Nat.le_of_ble_eq_true rfl) rfl (fun _ h => f_X12_entry_ok h) hf (fun μ110 hf => ?_)
                  exact E_vret (pc := 143) dX12_compared_143 rfl hf
                · refine E_iconst (pc := 120) (v := (5 : Int32)) dX12_compared_120 (by decide) ?_
                  refine E_goto (pc := 121) (tgt := 139) dX12_compared_121 (by decide) ?_
                  refine E_iconst (pc := 139) (v := (0 : Int32)) dX12_compared_139 (by decide) ?_
                  refine E_Vv (pc := 140) (d2 := D_X12_entry) (ci := 12) [.int (5 : Int32), .int (0 : Int32)] dX12_compared_140 ml_X12_268 mf_X12_entry im_X12_entry rfl rfl rfl (by decide) (Nat.le_of_ble_eq_true rfl) (Nat.le_of_ble_eq_true rfl) rfl (fun _ h => f_X12_entry_ok h) hf (fun μ111 hf => ?_)
                  exact E_vret (pc := 143) dX12_compared_143 rfl hf
              · refine E_iload_n (pc := 128) dX12_compared_128 rfl ?_
                refine E_if_eq (pc := 129) (tgt := 137) dX12_compared_129 (by decide) hf (fun hf => ?_) (fun hf => ?_)
                · refine E_bipush (pc := 137) (v := (8 : Int32)) dX12_compared_137 (by decide) ?_
                  refine E_iconst (pc := 139) (v := (0 : Int32)) dX12_compared_139 (by decide) ?_
                  refine E_Vv (pc := 140) (d2 := D_X12_entry) (ci := 12) [.int (8 : Int32), .int (0 : Int32)] dX12_compared_140 ml_X12_268 mf_X12_entry im_X12_entry rfl rfl rfl (by decide) (Nat.le_of_ble_eq_true rfl) (Nat.le_of_ble_eq_true rfl) rfl (fun _ h => f_X12_entry_ok h) hf (fun μ112 hf => ?_)
                  exact E_vret (pc := 143) dX12_compared_143 rfl hf
                · refine E_bipush (pc := 132) (v := (7 : Int32)) dX12_compared_132 (by decide) ?_
                  refine E_goto (pc := 134) (tgt := 139) dX12_compared_134 (by decide) ?_
                  refine E_iconst (pc := 139) (v := (0 : Int32)) dX12_compared_139 (by decide) ?_
                  refine E_Vv (pc := 140) (d2 := D_X12_entry) (ci := 12) [.int (7 : Int32), .int (0 : Int32)] dX12_compared_140 ml_X12_268 mf_X12_entry im_X12_entry rfl rfl rfl (by decide) (Nat.le_of_ble_eq_true rfl) (Nat.le_of_ble_eq_true rfl) rfl (fun _ h => f_X12_entry_ok h) hf (fun μ113 hf => ?_)
                  exact E_vret (pc := 143) dX12_compared_143 rfl hf
    · refine E_iload_n (pc := 21) dX12_compared_21 rfl ?_
      refine E_bipush (pc := 22) (v := (62 : Int32)) dX12_compared_22 (by decide) ?_
      refine E_icmp_eq (pc := 24) (tgt := 37) dX12_compared_24 (by decide) hf (fun hf => ?_) (fun hf => ?_)
      · refine E_aload_n (pc := 37) dX12_compared_37 rfl ?_
        refine E_aload_n (pc := 38) dX12_compared_38 rfl ?_
        refine E_getI (pc := 39) dX12_compared_39 fl_X12_217 hf (fun v114 hf => ?_)
        refine E_Vv (pc := 42) (d2 := D_X12_isCounted) (ci := 12) [.int v114] dX12_compared_42 ml_X12_265 mf_X12_isCounted im_X12_isCounted rfl rfl rfl (by decide) (Nat.le_of_ble_eq_true rfl) (Nat.le_of_ble_eq_true rfl) rfl (fun _ h => f_X12_isCounted_ok h) hf (fun μ115 hf => ?_)
        refine E_aload_n (pc := 45) dX12_compared_45 rfl ?_
        refine E_dup (pc := 46) dX12_compared_46 rfl ?_
        refine E_getI (pc := 47) dX12_compared_47 fl_X12_217 hf (fun v116 hf => ?_)
        refine E_iconst (pc := 50) (v := (1 : Int32)) dX12_compared_50 (by decide) ?_
        refine E_iadd (pc := 51) dX12_compared_51 ?_
        refine E_putI (pc := 52) dX12_compared_52 (pl_X12_217 _) hf (fun μ117 hf => ?_)
        refine E_iload_n (pc := 55) dX12_compared_55 rfl ?_
        refine E_bipush (pc := 56) (v := (61 : Int32)) dX12_compared_56 (by decide) ?_
        refine E_icmp_eq (pc := 58) (tgt := 74) dX12_compared_58 (by decide) hf (fun hf => ?_) (fun hf => ?_)
        · refine E_iconst (pc := 74) (v := (0 : Int32)) dX12_compared_74 (by decide) ?_
          refine E_istore_n (pc := 75) (ls' := fun x118 => [(2, .int x118), (1, .int x5), (0, .ref a1)]) dX12_compared_75 (by decide) (fun _ => rfl) hf (fun x118 hf => ?_)
          refine E_aload_n (pc := 76) dX12_compared_76 rfl ?_
          refine E_dup (pc := 77) dX12_compared_77 rfl ?_
          refine E_getI (pc := 78) dX12_compared_78 fl_X12_217 hf (fun v119 hf => ?_)
          refine E_iload_n (pc := 81) dX12_compared_81 rfl ?_
          refine E_if_eq (pc := 82) (tgt := 89) dX12_compared_82 (by decide) hf (fun hf => ?_) (fun hf => ?_)
          · refine E_iconst (pc := 89) (v := (0 : Int32)) dX12_compared_89 (by decide) ?_
            refine E_iadd (pc := 90) dX12_compared_90 ?_
            refine E_putI (pc := 91) dX12_compared_91 (pl_X12_217 _) hf (fun μ120 hf => ?_)
            refine E_aload_n (pc := 94) dX12_compared_94 rfl ?_
            refine E_Vv (pc := 95) (d2 := D_X12_sum) (ci := 12) [] dX12_compared_95 ml_X12_281 mf_X12_sum im_X12_sum rfl rfl rfl (by decide) (Nat.le_of_ble_eq_true rfl) (Nat.le_of_ble_eq_true rfl) rfl (fun _ h => f_X12_sum_ok h) hf (fun μ121 hf => ?_)
            refine E_aload_n (pc := 98) dX12_compared_98 rfl ?_
            refine E_iload_n (pc := 99) dX12_compared_99 rfl ?_
            refine E_bipush (pc := 100) (v := (61 : Int32)) dX12_compared_100 (by decide) ?_
            refine E_icmp_ne (pc := 102) (tgt := 110) dX12_compared_102 (by decide) hf (fun hf => ?_) (fun hf => ?_)
            · refine E_bipush (pc := 105) (v := (6 : Int32)) dX12_compared_105 (by decide) ?_
              refine E_goto (pc := 107) (tgt := 139) dX12_compared_107 (by decide) ?_
              refine E_iconst (pc := 139) (v := (0 : Int32)) dX12_compared_139 (by decide) ?_
              refine E_Vv (pc := 140) (d2 := D_X12_entry) (ci := 12) [.int (6 : Int32), .int (0 : Int32)] dX12_compared_140 ml_X12_268 mf_X12_entry im_X12_entry rfl rfl rfl (by decide) (Nat.le_of_ble_eq_true rfl) (Nat.le_of_ble_eq_true rfl) rfl (fun _ h => f_X12_entry_ok h) hf (fun μ122 hf => ?_)
              exact E_vret (pc := 143) dX12_compared_143 rfl hf
            · refine E_iload_n (pc := 110) dX12_compared_110 rfl ?_
              refine E_bipush (pc := 111) (v := (60 : Int32)) dX12_compared_111 (by decide) ?_
              refine E_icmp_ne (pc := 113) (tgt := 128) dX12_compared_113 (by decide) hf (fun hf => ?_) (fun hf => ?_)
              · refine E_iload_n (pc := 116) dX12_compared_116 rfl ?_
                refine E_if_eq (pc := 117) (tgt := 124) dX12_compared_117 (by decide) hf (fun hf => ?_) (fun hf => ?_)
                · refine E_iconst (pc := 124) (v := (4 : Int32)) dX12_compared_124 (by decide) ?_
                  refine E_goto (pc := 125) (tgt := 139) dX12_compared_125 (by decide) ?_
                  refine E_iconst (pc := 139) (v := (0 : Int32)) dX12_compared_139 (by decide) ?_
                  refine E_Vv (pc := 140) (d2 := D_X12_entry) (ci := 12) [.int (4 : Int32), .int (0 : Int32)] dX12_compared_140 ml_X12_268 mf_X12_entry im_X12_entry rfl rfl rfl (by decide) (Nat.le_of_ble_eq_true rfl) (Nat.le_of_ble_eq_true rfl) rfl (fun _ h => f_X12_entry_ok h) hf (fun μ123 hf => ?_)
                  exact E_vret (pc := 143) dX12_compared_143 rfl hf
                · refine E_iconst (pc := 120) (v := (5 : Int32)) dX12_compared_120 (by decide) ?_
                  refine E_goto (pc := 121) (tgt := 139) dX12_compared_121 (by decide) ?_
                  refine E_iconst (pc := 139) (v := (0 : Int32)) dX12_compared_139 (by decide) ?_
                  refine E_Vv (pc := 140) (d2 := D_X12_entry) (ci := 12) [.int (5 : Int32), .int (0 : Int32)] dX12_compared_140 ml_X12_268 mf_X12_entry im_X12_entry rfl rfl rfl (by decide) (Nat.le_of_ble_eq_true rfl) (Nat.le_of_ble_eq_true rfl) rfl (fun _ h => f_X12_entry_ok h) hf (fun μ124 hf => ?_)
                  exact E_vret (pc := 143) dX12_compared_143 rfl hf
              · refine E_iload_n (pc := 128) dX12_compared_128 rfl ?_
                refine E_if_eq (pc := 129) (tgt := 137) dX12_compared_129 (by decide) hf (fun hf => ?_) (fun hf => ?_)
                · refine E_bipush (pc := 137) (v := (8 : Int32)) dX12_compared_137 (by decide) ?_
                  refine E_iconst (pc := 139) (v := (0 : Int32)) dX12_compared_139 (by decide) ?_
                  refine E_Vv (pc := 140) (d2 := D_X12_entry) (ci := 12) [.int (8 : Int32), .int (0 : Int32)] dX12_compared_140 ml_X12_268 mf_X12_entry im_X12_entry rfl rfl rfl (by decide) (Nat.le_of_ble_eq_true rfl) (Nat.le_of_ble_eq_true rfl) rfl (fun _ h => f_X12_entry_ok h) hf (fun μ125 hf => ?_)
                  exact E_vret (pc := 143) dX12_compared_143 rfl hf
                · refine E_bipush (pc := 132) (v := (7 : Int32)) dX12_compared_132 (by decide) ?_
                  refine E_goto (pc := 134) (tgt := 139) dX12_compared_134 (by decide) ?_
                  refine E_iconst (pc := 139) (v := (0 : Int32)) dX12_compared_139 (by decide) ?_
                  refine E_Vv (pc := 140) (d2 := D_X12_entry) (ci := 12) [.int (7 : Int32), .int (0 : Int32)] dX12_compared_140 ml_X12_268 mf_X12_entry im_X12_entry rfl rfl rfl (by decide) (Nat.le_of_ble_eq_true rfl) (Nat.le_of_ble_eq_true rfl) rfl (fun _ h => f_X12_entry_ok h) hf (fun μ126 hf => ?_)
                  exact E_vret (pc := 143) dX12_compared_143 rfl hf
          · refine E_iconst (pc := 85) (v := (1 : Int32)) dX12_compared_85 (by decide) ?_
            refine E_goto (pc := 86) (tgt := 90) dX12_compared_86 (by decide) ?_
            refine E_iadd (pc := 90) dX12_compared_90 ?_
            refine E_putI (pc := 91) dX12_compared_91 (pl_X12_217 _) hf (fun μ127 hf => ?_)
            refine E_aload_n (pc := 94) dX12_compared_94 rfl ?_
            refine E_Vv (pc := 95) (d2 := D_X12_sum) (ci := 12) [] dX12_compared_95 ml_X12_281 mf_X12_sum im_X12_sum rfl rfl rfl (by decide) (Nat.le_of_ble_eq_true rfl) (Nat.le_of_ble_eq_true rfl) rfl (fun _ h => f_X12_sum_ok h) hf (fun μ128 hf => ?_)
            refine E_aload_n (pc := 98) dX12_compared_98 rfl ?_
            refine E_iload_n (pc := 99) dX12_compared_99 rfl ?_
            refine E_bipush (pc := 100) (v := (61 : Int32)) dX12_compared_100 (by decide) ?_
            refine E_icmp_ne (pc := 102) (tgt := 110) dX12_compared_102 (by decide) hf (fun hf => ?_) (fun hf => ?_)
            · refine E_bipush (pc := 105) (v := (6 : Int32)) dX12_compared_105 (by decide) ?_
              refine E_goto (pc := 107) (tgt := 139) dX12_compared_107 (by decide) ?_
              refine E_iconst (pc := 139) (v := (0 : Int32)) dX12_compared_139 (by decide) ?_
              refine E_Vv (pc := 140) (d2 := D_X12_entry) (ci := 12) [.int (6 : Int32), .int (0 : Int32)] dX12_compared_140 ml_X12_268 mf_X12_entry im_X12_entry rfl rfl rfl (by decide) (Nat.le_of_ble_eq_true rfl) (Nat.le_of_ble_eq_true rfl) rfl (fun _ h => f_X12_entry_ok h) hf (fun μ129 hf => ?_)
              exact E_vret (pc := 143) dX12_compared_143 rfl hf
            · refine E_iload_n (pc := 110) dX12_compared_110 rfl ?_
              refine E_bipush (pc := 111) (v := (60 : Int32)) dX12_compared_111 (by decide) ?_
              refine E_icmp_ne (pc := 113) (tgt := 128) dX12_compared_113 (by decide) hf (fun hf => ?_) (fun hf => ?_)
              · refine E_iload_n (pc := 116) dX12_compared_116 rfl ?_
                refine E_if_eq (pc := 117) (tgt := 124) dX12_compared_117 (by decide) hf (fun hf => ?_) (fun hf => ?_)
                · refine E_iconst (pc := 124) (v := (4 : Int32)) dX12_compared_124 (by decide) ?_
                  refine E_goto (pc := 125) (tgt := 139) dX12_compared_125 (by decide) ?_
                  refine E_iconst (pc := 139) (v := (0 : Int32)) dX12_compared_139 (by decide) ?_
                  refine E_Vv (pc := 140) (d2 := D_X12_entry) (ci := 12) [.int (4 : Int32), .int (0 : Int32)] dX12_compared_140 ml_X12_268 mf_X12_entry im_X12_entry rfl rfl rfl (by decide) (Nat.le_of_ble_eq_true rfl) (Nat.le_of_ble_eq_true rfl) rfl (fun _ h => f_X12_entry_ok h) hf (fun μ130 hf => ?_)
                  exact E_vret (pc := 143) dX12_compared_143 rfl hf
                · refine E_iconst (pc := 120) (v := (5 : Int32)) dX12_compared_120 (by decide) ?_
                  refine E_goto (pc := 121) (tgt := 139) dX12_compared_121 (by decide) ?_
                  refine E_iconst (pc := 139) (v := (0 : Int32)) dX12_compared_139 (by decide) ?_
                  refine E_Vv (pc := 140) (d2 := D_X12_entry) (ci := 12) [.int (5 : Int32), .int (0 : Int32)] dX12_compared_140 ml_X12_268 mf_X12_entry im_X12_entry rfl rfl rfl (by decide) (Nat.le_of_ble_eq_true rfl) (Nat.le_of_ble_eq_true rfl) rfl (fun _ h => f_X12_entry_ok h) hf (fun μ131 hf => ?_)
                  exact E_vret (pc := 143) dX12_compared_143 rfl hf
              · refine E_iload_n (pc := 128) dX12_compared_128 rfl ?_
                refine E_if_eq (pc := 129) (tgt := 137) dX12_compared_129 (by decide) hf (fun hf => ?_) (fun hf => ?_)
                · refine E_bipush (pc := 137) (v := (8 : Int32)) dX12_compared_137 (by decide) ?_
                  refine E_iconst (pc := 139) (v := (0 : Int32)) dX12_compared_139 (by decide) ?_
                  refine E_Vv (pc := 140) (d2 := D_X12_entry) (ci := 12) [.int (8 : Int32), .int (0 : Int32)] dX12_compared_140 ml_X12_268 mf_X12_entry im_X12_entry rfl rfl rfl (by decide) (Nat.le_of_ble_eq_true rfl) (Nat.le_of_ble_eq_true rfl) rfl (fun _ h => f_X12_entry_ok h) hf (fun μ132 hf => ?_)
                  exact E_vret (pc := 143) dX12_compared_143 rfl hf
                · refine E_bipush (pc := 132) (v := (7 : Int32)) dX12_compared_132 (by decide) ?_
                  refine E_goto (pc := 134) (tgt := 139) dX12_compared_134 (by decide) ?_
                  refine E_iconst (pc := 139) (v := (0 : Int32)) dX12_compared_139 (by decide) ?_
                  refine E_Vv (pc := 140) (d2 := D_X12_entry) (ci := 12) [.int (7 : Int32), .int (0 : Int32)] dX12_compared_140 ml_X12_268 mf_X12_entry im_X12_entry rfl rfl rfl (by decide) (Nat.le_of_ble_eq_true rfl) (Nat.le_of_ble_eq_true rfl) rfl (fun _ h => f_X12_entry_ok h) hf (fun μ133 hf => ?_)
                  exact E_vret (pc := 143) dX12_compared_143 rfl hf
        · refine E_aload_n (pc := 61) dX12_compared_61 rfl ?_
          refine E_Vi (pc := 62) (d2 := D_X12_sign) (ci := 12) [] dX12_compared_62 ml_X12_220 mf_X12_sign im_X12_sign rfl rfl rfl (by decide) (Nat.le_of_ble_eq_true rfl) (Nat.le_of_ble_eq_true rfl) rfl (fun _ _ h => f_X12_sign_ok h) hf (fun v135 μ134 hf => ?_)
          refine E_bipush (pc := 65) (v := (61 : Int32)) dX12_compared_65 (by decide) ?_
          refine E_icmp_ne (pc := 67) (tgt := 74) dX12_compared_67 (by decide) hf (fun hf => ?_) (fun hf => ?_)
          · refine E_iconst (pc := 70) (v := (1 : Int32)) dX12_compared_70 (by decide) ?_
            refine E_goto (pc := 71) (tgt := 75) dX12_compared_71 (by decide) ?_
            refine E_istore_n (pc := 75) (ls' := fun x136 => [(2, .int x136), (1, .int x5), (0, .ref a1)]) dX12_compared_75 (by decide) (fun _ => rfl) hf (fun x136 hf => ?_)
            refine E_aload_n (pc := 76) dX12_compared_76 rfl ?_
            refine E_dup (pc := 77) dX12_compared_77 rfl ?_
            refine E_getI (pc := 78) dX12_compared_78 fl_X12_217 hf (fun v137 hf => ?_)
            refine E_iload_n (pc := 81) dX12_compared_81 rfl ?_
            refine E_if_eq (pc := 82) (tgt := 89) dX12_compared_82 (by decide) hf (fun hf => ?_) (fun hf => ?_)
            · refine E_iconst (pc := 89) (v := (0 : Int32)) dX12_compared_89 (by decide) ?_
              refine E_iadd (pc := 90) dX12_compared_90 ?_
              refine E_putI (pc := 91) dX12_compared_91 (pl_X12_217 _) hf (fun μ138 hf => ?_)
              refine E_aload_n (pc := 94) dX12_compared_94 rfl ?_
              refine E_Vv (pc := 95) (d2 := D_X12_sum) (ci := 12) [] dX12_compared_95 ml_X12_281 mf_X12_sum im_X12_sum rfl rfl rfl (by decide) (Nat.le_of_ble_eq_true rfl) (Nat.le_of_ble_eq_true rfl) rfl (fun _ h => f_X12_sum_ok h) hf (fun μ139 hf => ?_)
              refine E_aload_n (pc := 98) dX12_compared_98 rfl ?_
              refine E_iload_n (pc := 99) dX12_compared_99 rfl ?_
              refine E_bipush (pc := 100) (v := (61 : Int32)) dX12_compared_100 (by decide) ?_
              refine E_icmp_ne (pc := 102) (tgt := 110) dX12_compared_102 (by decide) hf (fun hf => ?_) (fun hf => ?_)
              · refine E_bipush (pc := 105) (v := (6 : Int32)) dX12_compared_105 (by decide) ?_
                refine E_goto (pc := 107) (tgt := 139) dX12_compared_107 (by decide) ?_
                refine E_iconst (pc := 139) (v := (0 : Int32)) dX12_compared_139 (by decide) ?_
                refine E_Vv (pc := 140) (d2 := D_X12_entry) (ci := 12) [.int (6 : Int32), .int (0 : Int32)] dX12_compared_140 ml_X12_268 mf_X12_entry im_X12_entry rfl rfl rfl (by decide) (Nat.le_of_ble_eq_true rfl) (Nat.le_of_ble_eq_true rfl) rfl (fun _ h => f_X12_entry_ok h) hf (fun μ140 hf => ?_)
                exact E_vret (pc := 143) dX12_compared_143 rfl hf
              · refine E_iload_n (pc := 110) dX12_compared_110 rfl ?_
                refine E_bipush (pc := 111) (v := (60 : Int32)) dX12_compared_111 (by decide) ?_
                refine E_icmp_ne (pc := 113) (tgt := 128) dX12_compared_113 (by decide) hf (fun hf => ?_) (fun hf => ?_)
                · refine E_iload_n (pc := 116) dX12_compared_116 rfl ?_
                  refine E_if_eq (pc := 117) (tgt := 124) dX12_compared_117 (by decide) hf (fun hf => ?_) (fun hf => ?_)
                  · refine E_iconst (pc := 124) (v := (4 : Int32)) dX12_compared_124 (by decide) ?_
                    refine E_goto (pc := 125) (tgt := 139) dX12_compared_125 (by decide) ?_
                    refine E_iconst (pc := 139) (v := (0 : Int32)) dX12_compared_139 (by decide) ?_
                    refine E_Vv (pc := 140) (d2 := D_X12_entry) (ci := 12) [.int (4 : Int32), .int (0 : Int32)] dX12_compared_140 ml_X12_268 mf_X12_entry im_X12_entry rfl rfl rfl (by decide) (Nat.le_of_ble_eq_true rfl) (Nat.le_of_ble_eq_true rfl) rfl (fun _ h => f_X12_entry_ok h) hf (fun μ141 hf => ?_)
                    exact E_vret (pc := 143) dX12_compared_143 rfl hf
                  · refine E_iconst (pc := 120) (v := (5 : Int32)) dX12_compared_120 (by decide) ?_
                    refine E_goto (pc := 121) (tgt := 139) dX12_compared_121 (by decide) ?_
                    refine E_iconst (pc := 139) (v := (0 : Int32)) dX12_compared_139 (by decide) ?_
                    refine E_Vv (pc := 140) (d2 := D_X12_entry) (ci := 12) [.int (5 : Int32), .int (0 : Int32)] dX12_compared_140 ml_X12_268 mf_X12_entry im_X12_entry rfl rfl rfl (by decide) (Nat.le_of_ble_eq_true rfl) (Nat.le_of_ble_eq_true rfl) rfl (fun _ h => f_X12_entry_ok h) hf (fun μ142 hf => ?_)
                    exact E_vret (pc := 143) dX12_compared_143 rfl hf
                · refine E_iload_n (pc := 128) dX12_compared_128 rfl ?_
                  refine E_if_eq (pc := 129) (tgt := 137) dX12_compared_129 (by decide) hf (fun hf => ?_) (fun hf => ?_)
                  · refine E_bipush (pc := 137) (v := (8 : Int32)) dX12_compared_137 (by decide) ?_
                    refine E_iconst (pc := 139) (v := (0 : Int32)) dX12_compared_139 (by decide) ?_
                    refine E_Vv (pc := 140) (d2 := D_X12_entry) (ci := 12) [.int (8 : Int32), .int (0 : Int32)] dX12_compared_140 ml_X12_268 mf_X12_entry im_X12_entry rfl rfl rfl (by decide) (Nat.le_of_ble_eq_true rfl) (Nat.le_of_ble_eq_true rfl) rfl (fun _ h => f_X12_entry_ok h) hf (fun μ143 hf => ?_)
                    exact E_vret (pc := 143) dX12_compared_143 rfl hf
                  · refine E_bipush (pc := 132) (v := (7 : Int32)) dX12_compared_132 (by decide) ?_
                    refine E_goto (pc := 134) (tgt := 139) dX12_compared_134 (by decide) ?_
                    refine E_iconst (pc := 139) (v := (0 : Int32)) dX12_compared_139 (by decide) ?_
                    refine E_Vv (pc := 140) (d2 := D_X12_entry) (ci := 12) [.int (7 : Int32), .int (0 : Int32)] dX12_compared_140 ml_X12_268 mf_X12_entry im_X12_entry rfl rfl rfl (by decide) (Nat.le_of_ble_eq_true rfl) (Nat.le_of_ble_eq_true rfl) rfl (fun _ h => f_X12_entry_ok h) hf (fun μ144 hf => ?_)
                    exact E_vret (pc := 143) dX12_compared_143 rfl hf
            · refine E_iconst (pc := 85) (v := (1 : Int32)) dX12_compared_85 (by decide) ?_
              refine E_goto (pc := 86) (tgt := 90) dX12_compared_86 (by decide) ?_
              refine E_iadd (pc := 90) dX12_compared_90 ?_
              refine E_putI (pc := 91) dX12_compared_91 (pl_X12_217 _) hf (fun μ145 hf => ?_)
              refine E_aload_n (pc := 94) dX12_compared_94 rfl ?_
              refine E_Vv (pc := 95) (d2 := D_X12_sum) (ci := 12) [] dX12_compared_95 ml_X12_281 mf_X12_sum im_X12_sum rfl rfl rfl (by decide) (Nat.le_of_ble_eq_true rfl) (Nat.le_of_ble_eq_true rfl) rfl (fun _ h => f_X12_sum_ok h) hf (fun μ146 hf => ?_)
              refine E_aload_n (pc := 98) dX12_compared_98 rfl ?_
              refine E_iload_n (pc := 99) dX12_compared_99 rfl ?_
              refine E_bipush (pc := 100) (v := (61 : Int32)) dX12_compared_100 (by decide) ?_
              refine E_icmp_ne (pc := 102) (tgt := 110) dX12_compared_102 (by decide) hf (fun hf => ?_) (fun hf => ?_)
              · refine E_bipush (pc := 105) (v := (6 : Int32)) dX12_compared_105 (by decide) ?_
                refine E_goto (pc := 107) (tgt := 139) dX12_compared_107 (by decide) ?_
                refine E_iconst (pc := 139) (v := (0 : Int32)) dX12_compared_139 (by decide) ?_
                refine E_Vv (pc := 140) (d2 := D_X12_entry) (ci := 12) [.int (6 : Int32), .int (0 : Int32)] dX12_compared_140 ml_X12_268 mf_X12_entry im_X12_entry rfl rfl rfl (by decide) (Nat.le_of_ble_eq_true rfl) (Nat.le_of_ble_eq_true rfl) rfl (fun _ h => f_X12_entry_ok h) hf (fun μ147 hf => ?_)
                exact E_vret (pc := 143) dX12_compared_143 rfl hf
              · refine E_iload_n (pc := 110) dX12_compared_110 rfl ?_
                refine E_bipush (pc := 111) (v := (60 : Int32)) dX12_compared_111 (by decide) ?_
                refine E_icmp_ne (pc := 113) (tgt := 128) dX12_compared_113 (by decide) hf (fun hf => ?_) (fun hf => ?_)
                · refine E_iload_n (pc := 116) dX12_compared_116 rfl ?_
                  refine E_if_eq (pc := 117) (tgt := 124) dX12_compared_117 (by decide) hf (fun hf => ?_) (fun hf => ?_)
                  · refine E_iconst (pc := 124) (v := (4 : Int32)) dX12_compared_124 (by decide) ?_
                    refine E_goto (pc := 125) (tgt := 139) dX12_compared_125 (by decide) ?_
                    refine E_iconst (pc := 139) (v := (0 : Int32)) dX12_compared_139 (by decide) ?_
                    refine E_Vv (pc := 140) (d2 := D_X12_entry) (ci := 12) [.int (4 : Int32), .int (0 : Int32)] dX12_compared_140 ml_X12_268 mf_X12_entry im_X12_entry rfl rfl rfl (by decide) (Nat.le_of_ble_eq_true rfl) (Nat.le_of_ble_eq_true rfl) rfl (fun _ h => f_X12_entry_ok h) hf (fun μ148 hf => ?_)
                    exact E_vret (pc := 143) dX12_compared_143 rfl hf
                  · refine E_iconst (pc := 120) (v := (5 : Int32)) dX12_compared_120 (by decide) ?_
                    refine E_goto (pc := 121) (tgt := 139) dX12_compared_121 (by decide) ?_
                    refine E_iconst (pc := 139) (v := (0 : Int32)) dX12_compared_139 (by decide) ?_
                    refine E_Vv (pc := 140) (d2 := D_X12_entry) (ci := 12) [.int (5 : Int32), .int (0 : Int32)] dX12_compared_140 ml_X12_268 mf_X12_entry im_X12_entry rfl rfl rfl (by decide) (Nat.le_of_ble_eq_true rfl) (Nat.le_of_ble_eq_true rfl) rfl (fun _ h => f_X12_entry_ok h) hf (fun μ149 hf => ?_)
                    exact E_vret (pc := 143) dX12_compared_143 rfl hf
                · refine E_iload_n (pc := 128) dX12_compared_128 rfl ?_
                  refine E_if_eq (pc := 129) (tgt := 137) dX12_compared_129 (by decide) hf (fun hf => ?_) (fun hf => ?_)
                  · refine E_bipush (pc := 137) (v := (8 : Int32)) dX12_compared_137 (by decide) ?_
                    refine E_iconst (pc := 139) (v := (0 : Int32)) dX12_compared_139 (by decide) ?_
                    refine E_Vv (pc := 140) (d2 := D_X12_entry) (ci := 12) [.int (8 : Int32), .int (0 : Int32)] dX12_compared_140 ml_X12_268 mf_X12_entry im_X12_entry rfl rfl rfl (by decide) (Nat.le_of_ble_eq_true rfl) (Nat.le_of_ble_eq_true rfl) rfl (fun _ h => f_X12_entry_ok h) hf (fun μ150 hf => ?_)
                    exact E_vret (pc := 143) dX12_compared_143 rfl hf
                  · refine E_bipush (pc := 132) (v := (7 : Int32)) dX12_compared_132 (by decide) ?_
                    refine E_goto (pc := 134) (tgt := 139) dX12_compared_134 (by decide) ?_
                    refine E_iconst (pc := 139) (v := (0 : Int32)) dX12_compared_139 (by decide) ?_
                    refine E_Vv (pc := 140) (d2 := D_X12_entry) (ci := 12) [.int (7 : Int32), .int (0 : Int32)] dX12_compared_140 ml_X12_268 mf_X12_entry im_X12_entry rfl rfl rfl (by decide) (Nat.le_of_ble_eq_true rfl) (Nat.le_of_ble_eq_true rfl) rfl (fun _ h => f_X12_entry_ok h) hf (fun μ151 hf => ?_)
                    exact E_vret (pc := 143) dX12_compared_143 rfl hf
          · refine E_iconst (pc := 74) (v := (0 : Int32)) dX12_compared_74 (by decide) ?_
            refine E_istore_n (pc := 75) (ls' := fun x152 => [(2, .int x152), (1, .int x5), (0, .ref a1)]) dX12_compared_75 (by decide) (fun _ => rfl) hf (fun x152 hf => ?_)
            refine E_aload_n (pc := 76) dX12_compared_76 rfl ?_
            refine E_dup (pc := 77) dX12_compared_77 rfl ?_
            refine E_getI (pc := 78) dX12_compared_78 fl_X12_217 hf (fun v153 hf => ?_)
            refine E_iload_n (pc := 81) dX12_compared_81 rfl ?_
            refine E_if_eq (pc := 82) (tgt := 89) dX12_compared_82 (by decide) hf (fun hf => ?_) (fun hf => ?_)
            · refine E_iconst (pc := 89) (v := (0 : Int32)) dX12_compared_89 (by decide) ?_
              refine E_iadd (pc := 90) dX12_compared_90 ?_
              refine E_putI (pc := 91) dX12_compared_91 (pl_X12_217 _) hf (fun μ154 hf => ?_)
              refine E_aload_n (pc := 94) dX12_compared_94 rfl ?_
              refine E_Vv (pc := 95) (d2 := D_X12_sum) (ci := 12) [] dX12_compared_95 ml_X12_281 mf_X12_sum im_X12_sum rfl rfl rfl (by decide) (Nat.le_of_ble_eq_true rfl) (Nat.le_of_ble_eq_true rfl) rfl (fun _ h => f_X12_sum_ok h) hf (fun μ155 hf => ?_)
              refine E_aload_n (pc := 98) dX12_compared_98 rfl ?_
              refine E_iload_n (pc := 99) dX12_compared_99 rfl ?_
              refine E_bipush (pc := 100) (v := (61 : Int32)) dX12_compared_100 (by decide) ?_
              refine E_icmp_ne (pc := 102) (tgt := 110) dX12_compared_102 (by decide) hf (fun hf => ?_) (fun hf => ?_)
              · refine E_bipush (pc := 105) (v := (6 : Int32)) dX12_compared_105 (by decide) ?_
                refine E_goto (pc := 107) (tgt := 139) dX12_compared_107 (by decide) ?_
                refine E_iconst (pc := 139) (v := (0 : Int32)) dX12_compared_139 (by decide) ?_
                refine E_Vv (pc := 140) (d2 := D_X12_entry) (ci := 12) [.int (6 : Int32), .int (0 : Int32)] dX12_compared_140 ml_X12_268 mf_X12_entry im_X12_entry rfl rfl rfl (by decide) (Nat.le_of_ble_eq_true rfl) (Nat.le_of_ble_eq_true rfl) rfl (fun _ h => f_X12_entry_ok h) hf (fun μ156 hf => ?_)
                exact E_vret (pc := 143) dX12_compared_143 rfl hf
              · refine E_iload_n (pc := 110) dX12_compared_110 rfl ?_
                refine E_bipush (pc := 111) (v := (60 : Int32)) dX12_compared_111 (by decide) ?_
                refine E_icmp_ne (pc := 113) (tgt := 128) dX12_compared_113 (by decide) hf (fun hf => ?_) (fun hf => ?_)
                · refine E_iload_n (pc := 116) dX12_compared_116 rfl ?_
                  refine E_if_eq (pc := 117) (tgt := 124) dX12_compared_117 (by decide) hf (fun hf => ?_) (fun hf => ?_)
                  · refine E_iconst (pc := 124) (v := (4 : Int32)) dX12_compared_124 (by decide) ?_
                    refine E_goto (pc := 125) (tgt := 139) dX12_compared_125 (by decide) ?_
                    refine E_iconst (pc := 139) (v := (0 : Int32)) dX12_compared_139 (by decide) ?_
                    refine E_Vv (pc := 140) (d2 := D_X12_entry) (ci := 12) [.int (4 : Int32), .int (0 : Int32)] dX12_compared_140 ml_X12_268 mf_X12_entry im_X12_entry rfl rfl rfl (by decide) (Nat.le_of_ble_eq_true rfl) (Nat.le_of_ble_eq_true rfl) rfl (fun _ h => f_X12_entry_ok h) hf (fun μ157 hf => ?_)
                    exact E_vret (pc := 143) dX12_compared_143 rfl hf
                  · refine E_iconst (pc := 120) (v := (5 : Int32)) dX12_compared_120 (by decide) ?_
                    refine E_goto (pc := 121) (tgt := 139) dX12_compared_121 (by decide) ?_
                    refine E_iconst (pc := 139) (v := (0 : Int32)) dX12_compared_139 (by decide) ?_
                    refine E_Vv (pc := 140) (d2 := D_X12_entry) (ci := 12) [.int (5 : Int32), .int (0 : Int32)] dX12_compared_140 ml_X12_268 mf_X12_entry im_X12_entry rfl rfl rfl (by decide) (Nat.le_of_ble_eq_true rfl) (Nat.le_of_ble_eq_true rfl) rfl (fun _ h => f_X12_entry_ok h) hf (fun μ158 hf => ?_)
                    exact E_vret (pc := 143) dX12_compared_143 rfl hf
                · refine E_iload_n (pc := 128) dX12_compared_128 rfl ?_
                  refine E_if_eq (pc := 129) (tgt := 137) dX12_compared_129 (by decide) hf (fun hf => ?_) (fun hf => ?_)
                  · refine E_bipush (pc := 137) (v := (8 : Int32)) dX12_compared_137 (by decide) ?_
                    refine E_iconst (pc := 139) (v := (0 : Int32)) dX12_compared_139 (by decide) ?_
                    refine E_Vv (pc := 140) (d2 := D_X12_entry) (ci := 12) [.int (8 : Int32), .int (0 : Int32)] dX12_compared_140 ml_X12_268 mf_X12_entry im_X12_entry rfl rfl rfl (by decide) (Nat.le_of_ble_eq_true rfl) (Nat.le_of_ble_eq_true rfl) rfl (fun _ h => f_X12_entry_ok h) hf (fun μ159 hf => ?_)
                    exact E_vret (pc := 143) dX12_compared_143 rfl hf
                  · refine E_bipush (pc := 132) (v := (7 : Int32)) dX12_compared_132 (by decide) ?_
                    refine E_goto (pc := 134) (tgt := 139) dX12_compared_134 (by decide) ?_
                    refine E_iconst (pc := 139) (v := (0 : Int32)) dX12_compared_139 (by decide) ?_
                    refine E_Vv (pc := 140) (d2 := D_X12_entry) (ci := 12) [.int (7 : Int32), .int (0 : Int32)] dX12_compared_140 ml_X12_268 mf_X12_entry im_X12_entry rfl rfl rfl (by decide) (Nat.le_of_ble_eq_true rfl) (Nat.le_of_ble_eq_true rfl) rfl (fun _ h => f_X12_entry_ok h) hf (fun μ160 hf => ?_)
                    exact E_vret (pc := 143) dX12_compared_143 rfl hf
            · refine E_iconst (pc := 85) (v := (1 : Int32)) dX12_compared_85 (by decide) ?_
              refine E_goto (pc := 86) (tgt := 90) dX12_compared_86 (by decide) ?_
              refine E_iadd (pc := 90) dX12_compared_90 ?_
              refine E_putI (pc := 91) dX12_compared_91 (pl_X12_217 _) hf (fun μ161 hf => ?_)
              refine E_aload_n (pc := 94) dX12_compared_94 rfl ?_
              refine E_Vv (pc := 95) (d2 := D_X12_sum) (ci := 12) [] dX12_compared_95 ml_X12_281 mf_X12_sum im_X12_sum rfl rfl rfl (by decide) (Nat.le_of_ble_eq_true rfl) (Nat.le_of_ble_eq_true rfl) rfl (fun _ h => f_X12_sum_ok h) hf (fun μ162 hf => ?_)
              refine E_aload_n (pc := 98) dX12_compared_98 rfl ?_
              refine E_iload_n (pc := 99) dX12_compared_99 rfl ?_
              refine E_bipush (pc := 100) (v := (61 : Int32)) dX12_compared_100 (by decide) ?_
              refine E_icmp_ne (pc := 102) (tgt := 110) dX12_compared_102 (by decide) hf (fun hf => ?_) (fun hf => ?_)
              · refine E_bipush (pc := 105) (v := (6 : Int32)) dX12_compared_105 (by decide) ?_
                refine E_goto (pc := 107) (tgt := 139) dX12_compared_107 (by decide) ?_
                refine E_iconst (pc := 139) (v := (0 : Int32)) dX12_compared_139 (by decide) ?_
                refine E_Vv (pc := 140) (d2 := D_X12_entry) (ci := 12) [.int (6 : Int32), .int (0 : Int32)] dX12_compared_140 ml_X12_268 mf_X12_entry im_X12_entry rfl rfl rfl (by decide) (Nat.le_of_ble_eq_true rfl) (Nat.le_of_ble_eq_true rfl) rfl (fun _ h => f_X12_entry_ok h) hf (fun μ163 hf => ?_)
                exact E_vret (pc := 143) dX12_compared_143 rfl hf
              · refine E_iload_n (pc := 110) dX12_compared_110 rfl ?_
                refine E_bipush (pc := 111) (v := (60 : Int32)) dX12_compared_111 (by decide) ?_
                refine E_icmp_ne (pc := 113) (tgt := 128) dX12_compared_113 (by decide) hf (fun hf => ?_) (fun hf => ?_)
                · refine E_iload_n (pc := 116) dX12_compared_116 rfl ?_
                  refine E_if_eq (pc := 117) (tgt := 124) dX12_compared_117 (by decide) hf (fun hf => ?_) (fun hf => ?_)
                  · refine E_iconst (pc := 124) (v := (4 : Int32)) dX12_compared_124 (by decide) ?_
                    refine E_goto (pc := 125) (tgt := 139) dX12_compared_125 (by decide) ?_
                    refine E_iconst (pc := 139) (v := (0 : Int32)) dX12_compared_139 (by decide) ?_
                    refine E_Vv (pc := 140) (d2 := D_X12_entry) (ci := 12) [.int (4 : Int32), .int (0 : Int32)] dX12_compared_140 ml_X12_268 mf_X12_entry im_X12_entry rfl rfl rfl (by decide) (Nat.le_of_ble_eq_true rfl) (Nat.le_of_ble_eq_true rfl) rfl (fun _ h => f_X12_entry_ok h) hf (fun μ164 hf => ?_)
                    exact E_vret (pc := 143) dX12_compared_143 rfl hf
                  · refine E_iconst (pc := 120) (v := (5 : Int32)) dX12_compared_120 (by decide) ?_
                    refine E_goto (pc := 121) (tgt := 139) dX12_compared_121 (by decide) ?_
                    refine E_iconst (pc := 139) (v := (0 : Int32)) dX12_compared_139 (by decide) ?_
                    refine E_Vv (pc := 140) (d2 := D_X12_entry) (ci := 12) [.int (5 : Int32), .int (0 : Int32)] dX12_compared_140 ml_X12_268 mf_X12_entry im_X12_entry rfl rfl rfl (by decide) (Nat.le_of_ble_eq_true rfl) (Nat.le_of_ble_eq_true rfl) rfl (fun _ h => f_X12_entry_ok h) hf (fun μ165 hf => ?_)
                    exact E_vret (pc := 143) dX12_compared_143 rfl hf
                · refine E_iload_n (pc := 128) dX12_compared_128 rfl ?_
                  refine E_if_eq (pc := 129) (tgt := 137) dX12_compared_129 (by decide) hf (fun hf => ?_) (fun hf => ?_)
                  · refine E_bipush (pc := 137) (v := (8 : Int32)) dX12_compared_137 (by decide) ?_
                    refine E_iconst (pc := 139) (v := (0 : Int32)) dX12_compared_139 (by decide) ?_
                    refine E_Vv (pc := 140) (d2 := D_X12_entry) (ci := 12) [.int (8 : Int32), .int (0 : Int32)] dX12_compared_140 ml_X12_268 mf_X12_entry im_X12_entry rfl rfl rfl (by decide) (Nat.le_of_ble_eq_true rfl) (Nat.le_of_ble_eq_true rfl) rfl (fun _ h => f_X12_entry_ok h) hf (fun μ166 hf => ?_)
                    exact E_vret (pc := 143) dX12_compared_143 rfl hf
                  · refine E_bipush (pc := 132) (v := (7 : Int32)) dX12_compared_132 (by decide) ?_
                    refine E_goto (pc := 134) (tgt := 139) dX12_compared_134 (by decide) ?_
                    refine E_iconst (pc := 139) (v := (0 : Int32)) dX12_compared_139 (by decide) ?_
                    refine E_Vv (pc := 140) (d2 := D_X12_entry) (ci := 12) [.int (7 : Int32), .int (0 : Int32)] dX12_compared_140 ml_X12_268 mf_X12_entry im_X12_entry rfl rfl rfl (by decide) (Nat.le_of_ble_eq_true rfl) (Nat.le_of_ble_eq_true rfl) rfl (fun _ h => f_X12_entry_ok h) hf (fun μ167 hf => ?_)
                    exact E_vret (pc := 143) dX12_compared_143 rfl hf
      · refine E_aload_n (pc := 27) dX12_compared_27 rfl ?_
        refine E_iconst (pc := 28) (v := (0 : Int32)) dX12_compared_28 (by decide) ?_
        refine E_aload_n (pc := 29) dX12_compared_29 rfl ?_
        refine E_getI (pc := 30) dX12_compared_30 fl_X12_217 hf (fun v168 hf => ?_)
        refine E_Vv (pc := 33) (d2 := D_X12_fails) (ci := 12) [.int (0 : Int32), .int v168] dX12_compared_33 ml_X12_252 mf_X12_fails im_X12_fails rfl rfl rfl (by decide) (Nat.le_of_ble_eq_true rfl) (Nat.le_of_ble_eq_true rfl) rfl (fun _ h => f_X12_fails_ok h) hf (fun μ169 hf => ?_)
        exact E_vret (pc := 36) dX12_compared_36 rfl hf
theorem dX12_top_0 : decode cX12_top 0 = .ok (.aload_n 0, 1) := by decide +kernel
theorem dX12_top_1 : decode cX12_top 1 = .ok (.getfield 284, 3) := by decide +kernel
theorem dX12_top_4 : decode cX12_top 4 = .ok (.ifCond .ne 7, 3) := by decide +kernel
theorem dX12_top_7 : decode cX12_top 7 = .ok (.iconst (-1), 1) := by decide +kernel
theorem dX12_top_8 : decode cX12_top 8 = .ok (.goto 14, 3) := by decide +kernel
theorem dX12_top_11 : decode cX12_top 11 = .ok (.aload_n 0, 1) := by decide +kernel
theorem dX12_top_12 : decode cX12_top 12 = .ok (.getfield 114, 3) := by decide +kernel
theorem dX12_top_15 : decode cX12_top 15 = .ok (.aload_n 0, 1) := by decide +kernel
theorem dX12_top_16 : decode cX12_top 16 = .ok (.getfield 284, 3) := by decide +kernel
theorem dX12_top_19 : decode cX12_top 19 = .ok (.iconst 1, 1) := by decide +kernel
theorem dX12_top_20 : decode cX12_top 20 = .ok (.isub, 1) := by decide +kernel
theorem dX12_top_21 : decode cX12_top 21 = .ok (.iaload, 1) := by decide +kernel
theorem dX12_top_22 : decode cX12_top 22 = .ok (.ireturn, 1) := by decide +kernel
abbrev D_X12_top : Nat := 1
set_option maxRecDepth 100000 in
def f_X12_top (μ0 : Mm) (a1 : Nat) : Option (Int32 × Mm) :=
 ((gI μ0 a1 12 36).bind fun v2 =>
    (if v2 = 0 then
    (some ((-1 : Int32), μ0))
    else
    ((gR μ0 a1 12 45).bind fun v3 =>
    ((gI μ0 a1 12 36).bind fun v4 =>
    ((aI μ0 v3 0 (v4 - (1 : Int32))).bind fun v5 =>
    (some (v5, μ0)))))))
set_option maxHeartbeats 4000000 in
set_option maxRecDepth 100000 in
theorem f_X12_top_ok {l : Launch} {G : GG} {μ0 : Mm} {a1 : Nat} {r : Int32} {μ' : Mm} (hf : f_X12_top μ0 a1 = some (r, μ')) : EvM l G D_X12_top yX12_top cX12_top 1 (some .int) [.ref a1] μ0 (some (.int r)) μ' := by
  show Ev l G D_X12_top yX12_top cX12_top 1 (some .int) 0 [(0, .ref a1)] [] μ0 (some (.int r)) μ'
  unfold f_X12_top at hf
  refine E_aload_n (pc := 0) dX12_top_0 rfl ?_
  refine E_getI (pc := 1) dX12_top_1 fl_X12_284 hf (fun v2 hf => ?_)
  refine E_if_ne (pc := 4) (tgt := 11) dX12_top_4 (by decide) hf (fun hf => ?_) (fun hf => ?_)
  · refine E_iconst (pc := 7) (v := (-1 : Int32)) dX12_top_7 (by decide) ?_
    refine E_goto (pc := 8) (tgt := 22) dX12_top_8 (by decide) ?_
    exact E_iret (pc := 22) dX12_top_22 rfl hf
  · refine E_aload_n (pc := 11) dX12_top_11 rfl ?_
    refine E_getR (pc := 12) dX12_top_12 fl_X12_114 hf (fun v3 hf => ?_)
    refine E_aload_n (pc := 15) dX12_top_15 rfl ?_
    refine E_getI (pc := 16) dX12_top_16 fl_X12_284 hf (fun v4 hf => ?_)
    refine E_iconst (pc := 19) (v := (1 : Int32)) dX12_top_19 (by decide) ?_
    refine E_isub (pc := 20) dX12_top_20 ?_
    refine E_iald (pc := 21) dX12_top_21 hf (fun v5 hf => ?_)
    exact E_iret (pc := 22) dX12_top_22 rfl hf
theorem dX12_opens_0 : decode cX12_opens 0 = .ok (.iload_n 1, 1) := by decide +kernel
theorem dX12_opens_1 : decode cX12_opens 1 = .ok (.bipush 9, 2) := by decide +kernel
theorem dX12_opens_3 : decode cX12_opens 3 = .ok (.if_icmp .eq 9, 3) := by decide +kernel
theorem dX12_opens_6 : decode cX12_opens 6 = .ok (.iload_n 1, 1) := by decide +kernel
theorem dX12_opens_7 : decode cX12_opens 7 = .ok (.bipush 12, 2) := by decide +kernel
theorem dX12_opens_9 : decode cX12_opens 9 = .ok (.if_icmp .ne 31, 3) := by decide +kernel
theorem dX12_opens_12 : decode cX12_opens 12 = .ok (.aload_n 0, 1) := by decide +kernel
theorem dX12_opens_13 : decode cX12_opens 13 = .ok (.getfield 287, 3) := by decide +kernel
theorem dX12_opens_16 : decode cX12_opens 16 = .ok (.bipush 10, 2) := by decide +kernel
theorem dX12_opens_18 : decode cX12_opens 18 = .ok (.if_icmp .ne 12, 3) := by decide +kernel
theorem dX12_opens_21 : decode cX12_opens 21 = .ok (.aload_n 0, 1) := by decide +kernel
theorem dX12_opens_22 : decode cX12_opens 22 = .ok (.iconst 2, 1) := by decide +kernel
theorem dX12_opens_23 : decode cX12_opens 23 = .ok (.aload_n 0, 1) := by decide +kernel
theorem dX12_opens_24 : decode cX12_opens 24 = .ok (.getfield 217, 3) := by decide +kernel
theorem dX12_opens_27 : decode cX12_opens 27 = .ok (.invokevirtual 252, 3) := by decide +kernel
theorem dX12_opens_30 : decode cX12_opens 30 = .ok (.aload_n 0, 1) := by decide +kernel
theorem dX12_opens_31 : decode cX12_opens 31 = .ok (.dup, 1) := by decide +kernel
theorem dX12_opens_32 : decode cX12_opens 32 = .ok (.getfield 287, 3) := by decide +kernel
theorem dX12_opens_35 : decode cX12_opens 35 = .ok (.iconst 1, 1) := by decide +kernel
theorem dX12_opens_36 : decode cX12_opens 36 = .ok (.iadd, 1) := by decide +kernel
theorem dX12_opens_37 : decode cX12_opens 37 = .ok (.putfield 287, 3) := by decide +kernel
theorem dX12_opens_40 : decode cX12_opens 40 = .ok (.aload_n 0, 1) := by decide +kernel
theorem dX12_opens_41 : decode cX12_opens 41 = .ok (.getfield 114, 3) := by decide +kernel
theorem dX12_opens_44 : decode cX12_opens 44 = .ok (.aload_n 0, 1) := by decide +kernel
theorem dX12_opens_45 : decode cX12_opens 45 = .ok (.getfield 284, 3) := by decide +kernel
theorem dX12_opens_48 : decode cX12_opens 48 = .ok (.iload_n 1, 1) := by decide +kernel
theorem dX12_opens_49 : decode cX12_opens 49 = .ok (.iastore, 1) := by decide +kernel
theorem dX12_opens_50 : decode cX12_opens 50 = .ok (.aload_n 0, 1) := by decide +kernel
theorem dX12_opens_51 : decode cX12_opens 51 = .ok (.dup, 1) := by decide +kernel
theorem dX12_opens_52 : decode cX12_opens 52 = .ok (.getfield 284, 3) := by decide +kernel
theorem dX12_opens_55 : decode cX12_opens 55 = .ok (.iconst 1, 1) := by decide +kernel
theorem dX12_opens_56 : decode cX12_opens 56 = .ok (.iadd, 1) := by decide +kernel
theorem dX12_opens_57 : decode cX12_opens 57 = .ok (.putfield 284, 3) := by decide +kernel
theorem dX12_opens_60 : decode cX12_opens 60 = .ok (.return_, 1) := by decide +kernel
abbrev D_X12_opens : Nat := 2
set_option maxRecDepth 100000 in
def f_X12_opens (μ0 : Mm) (a1 : Nat) (x2 : Int32) : Option Mm :=
 (if x2 = (9 : Int32) then
    ((gI μ0 a1 12 34).bind fun v3 =>
    (if v3 = (10 : Int32) then
    ((gI μ0 a1 12 29).bind fun v4 =>
    ((ob μ0 a1 12).bind fun _ =>
    ((f_X12_fails μ0 a1 (2 : Int32) v4).bind fun μ5 =>
    ((gI μ5 a1 12 34).bind fun v6 =>
    ((pV μ5 a1 12 34 (.int (v6 + (1 : Int32)))).bind fun μ7 =>
    ((gR μ7 a1 12 45).bind fun v8 =>
    ((gI μ7 a1 12 36).bind fun v9 =>
    ((sI μ7 v8 0 v9 x2).bind fun μ10 =>
    ((gI μ10 a1 12 36).bind fun v11 =>
    ((pV μ10 a1 12 36 (.int (v11 + (1 : Int32)))).bind fun μ12 =>
    (some μ12)))))))))))
    else
    ((gI μ0 a1 12 34).bind fun v13 =>
    ((pV μ0 a1 12 34 (.int (v13 + (1 : Int32)))).bind fun μ14 =>
    ((gR μ14 a1 12 45).bind fun v15 =>
    ((gI μ14 a1 12 36).bind fun v16 =>
    ((sI μ14 v15 0 v16 x2).bind fun μ17 =>
    ((gI μ17 a1 12 36).bind fun v18 =>
    ((pV μ17 a1 12 36 (.int (v18 + (1 : Int32)))).bind fun μ19 =>
    (some μ19))))))))))
    else
    (if x2 = (12 : Int32) then
    ((gI μ0 a1 12 34).bind fun v20 =>
    (if v20 = (10 : Int32) then
    ((gI μ0 a1 12 29).bind fun v21 =>
    ((ob μ0 a1 12).bind fun _ =>
    ((f_X12_fails μ0 a1 (2 : Int32) v21).bind fun μ22 =>
    ((gI μ22 a1 12 34).bind fun v23 =>
    ((pV μ22 a1 12 34 (.int (v23 + (1 : Int32)))).bind fun μ24 =>
    ((gR μ24 a1 12 45).bind fun v25 =>
    ((gI μ24 a1 12 36).bind fun v26 =>
    ((sI μ24 v25 0 v26 x2).bind fun μ27 =>
    ((gI μ27 a1 12 36).bind fun v28 =>
    ((pV μ27 a1 12 36 (.int (v28 + (1 : Int32)))).bind fun μ29 =>
    (some μ29)))))))))))
    else
    ((gI μ0 a1 12 34).bind fun v30 =>
    ((pV μ0 a1 12 34 (.int (v30 + (1 : Int32)))).bind fun μ31 =>
    ((gR μ31 a1 12 45).bind fun v32 =>
    ((gI μ31 a1 12 36).bind fun v33 =>
    ((sI μ31 v32 0 v33 x2).bind fun μ34 =>
    ((gI μ34 a1 12 36).bind fun v35 =>
    ((pV μ34 a1 12 36 (.int (v35 + (1 : Int32)))).bind fun μ36 =>
    (some μ36))))))))))
    else
    ((gR μ0 a1 12 45).bind fun v37 =>
    ((gI μ0 a1 12 36).bind fun v38 =>
    ((sI μ0 v37 0 v38 x2).bind fun μ39 =>
    ((gI μ39 a1 12 36).bind fun v40 =>
    ((pV μ39 a1 12 36 (.int (v40 + (1 : Int32)))).bind fun μ41 =>
    (some μ41))))))))
set_option maxHeartbeats 4000000 in
set_option maxRecDepth 100000 in
theorem f_X12_opens_ok {l : Launch} {G : GG} {μ0 : Mm} {a1 : Nat} {x2 : Int32} {μ' : Mm} (hf : f_X12_opens μ0 a1 x2 = some μ') : EvM l G D_X12_opens yX12_opens cX12_opens 2 none [.ref a1, .int x2] μ0 none μ' := by
  show Ev l G D_X12_opens yX12_opens cX12_opens 2 none 0 [(0, .ref a1), (1, .int x2)] [] μ0 none μ'
  unfold f_X12_opens at hf
  refine E_iload_n (pc := 0) dX12_opens_0 rfl ?_
  refine E_bipush (pc := 1) (v := (9 : Int32)) dX12_opens_1 (by decide) ?_
  refine E_icmp_eq (pc := 3) (tgt := 12) dX12_opens_3 (by decide) hf (fun hf => ?_) (fun hf => ?_)
  · refine E_aload_n (pc := 12) dX12_opens_12 rfl ?_
    refine E_getI (pc := 13) dX12_opens_13 fl_X12_287 hf (fun v3 hf => ?_)
    refine E_bipush (pc := 16) (v := (10 : Int32)) dX12_opens_16 (by decide) ?_
    refine E_icmp_ne (pc := 18) (tgt := 30) dX12_opens_18 (by decide) hf (fun hf => ?_) (fun hf => ?_)
    · refine E_aload_n (pc := 21) dX12_opens_21 rfl ?_
      refine E_iconst (pc := 22) (v := (2 : Int32)) dX12_opens_22 (by decide) ?_
      refine E_aload_n (pc := 23) dX12_opens_23 rfl ?_
      refine E_getI (pc := 24) dX12_opens_24 fl_X12_217 hf (fun v4 hf => ?_)
      refine E_Vv (pc := 27) (d2 := D_X12_fails) (ci := 12) [.int (2 : Int32), .int v4] dX12_opens_27 ml_X12_252 mf_X12_fails im_X12_fails rfl rfl rfl (by decide) (Nat.le_of_ble_eq_true rfl) (Nat.le_of_ble_eq_true rfl) rfl (fun _ h => f_X12_fails_ok h) hf (fun μ5 hf => ?_)
      refine E_aload_n (pc := 30) dX12_opens_30 rfl ?_
      refine E_dup (pc := 31) dX12_opens_31 rfl ?_
      refine E_getI (pc := 32) dX12_opens_32 fl_X12_287 hf (fun v6 hf => ?_)
      refine E_iconst (pc := 35) (v := (1 : Int32)) dX12_opens_35 (by decide) ?_
      refine E_iadd (pc := 36) dX12_opens_36 ?_
      refine E_putI (pc := 37) dX12_opens_37 (pl_X12_287 _) hf (fun μ7 hf => ?_)
      refine E_aload_n (pc := 40) dX12_opens_40 rfl ?_
      refine E_getR (pc := 41) dX12_opens_41 fl_X12_114 hf (fun v8 hf => ?_)
      refine E_aload_n (pc := 44) dX12_opens_44 rfl ?_
      refine E_getI (pc := 45) dX12_opens_45 fl_X12_284 hf (fun v9 hf => ?_)
      refine E_iload_n (pc := 48) dX12_opens_48 rfl ?_
      refine E_iast (pc := 49) dX12_opens_49 hf (fun μ10 hf => ?_)
      refine E_aload_n (pc := 50) dX12_opens_50 rfl ?_
      refine E_dup (pc := 51) dX12_opens_51 rfl ?_
      refine E_getI (pc := 52) dX12_opens_52 fl_X12_284 hf (fun v11 hf => ?_)
      refine E_iconst (pc := 55) (v := (1 : Int32)) dX12_opens_55 (by decide) ?_
      refine E_iadd (pc := 56) dX12_opens_56 ?_
      refine E_putI (pc := 57) dX12_opens_57 (pl_X12_284 _) hf (fun μ12 hf => ?_)
      exact E_vret (pc := 60) dX12_opens_60 rfl hf
    · refine E_aload_n (pc := 30) dX12_opens_30 rfl ?_
      refine E_dup (pc := 31) dX12_opens_31 rfl ?_
      refine E_getI (pc := 32) dX12_opens_32 fl_X12_287 hf (fun v13 hf => ?_)
      refine E_iconst (pc := 35) (v := (1 : Int32)) dX12_opens_35 (by decide) ?_
      refine E_iadd (pc := 36) dX12_opens_36 ?_
      refine E_putI (pc := 37) dX12_opens_37 (pl_X12_287 _) hf (fun μ14 hf => ?_)
      refine E_aload_n (pc := 40) dX12_opens_40 rfl ?_
      refine E_getR (pc := 41) dX12_opens_41 fl_X12_114 hf (fun v15 hf => ?_)
      refine E_aload_n (pc := 44) dX12_opens_44 rfl ?_
      refine E_getI (pc := 45) dX12_opens_45 fl_X12_284 hf (fun v16 hf => ?_)
      refine E_iload_n (pc := 48) dX12_opens_48 rfl ?_
      refine E_iast (pc := 49) dX12_opens_49 hf (fun μ17 hf => ?_)
      refine E_aload_n (pc := 50) dX12_opens_50 rfl ?_
      refine E_dup (pc := 51) dX12_opens_51 rfl ?_
      refine E_getI (pc := 52) dX12_opens_52 fl_X12_284 hf (fun v18 hf => ?_)
      refine E_iconst (pc := 55) (v := (1 : Int32)) dX12_opens_55 (by decide) ?_
      refine E_iadd (pc := 56) dX12_opens_56 ?_
      refine E_putI (pc := 57) dX12_opens_57 (pl_X12_284 _) hf (fun μ19 hf => ?_)
      exact E_vret (pc := 60) dX12_opens_60 rfl hf
  · refine E_iload_n (pc := 6) dX12_opens_6 rfl ?_
    refine E_bipush (pc := 7) (v := (12 : Int32)) dX12_opens_7 (by decide) ?_
    refine E_icmp_ne (pc := 9) (tgt := 40) dX12_opens_9 (by decide) hf (fun hf => ?_) (fun hf => ?_)
    · refine E_aload_n (pc := 12) dX12_opens_12 rfl ?_
      refine E_getI (pc := 13) dX12_opens_13 fl_X12_287 hf (fun v20 hf => ?_)
      refine E_bipush (pc := 16) (v := (10 : Int32)) dX12_opens_16 (by decide) ?_
      refine E_icmp_ne (pc := 18) (tgt := 30) dX12_opens_18 (by decide) hf (fun hf => ?_) (fun hf => ?_)
      · refine E_aload_n (pc := 21) dX12_opens_21 rfl ?_
        refine E_iconst (pc := 22) (v := (2 : Int32)) dX12_opens_22 (by decide) ?_
        refine E_aload_n (pc := 23) dX12_opens_23 rfl ?_
        refine E_getI (pc := 24) dX12_opens_24 fl_X12_217 hf (fun v21 hf => ?_)
        refine E_Vv (pc := 27) (d2 := D_X12_fails) (ci := 12) [.int (2 : Int32), .int v21] dX12_opens_27 ml_X12_252 mf_X12_fails im_X12_fails rfl rfl rfl (by decide) (Nat.le_of_ble_eq_true rfl) (Nat.le_of_ble_eq_true rfl) rfl (fun _ h => f_X12_fails_ok h) hf (fun μ22 hf => ?_)
        refine E_aload_n (pc := 30) dX12_opens_30 rfl ?_
        refine E_dup (pc := 31) dX12_opens_31 rfl ?_
        refine E_getI (pc := 32) dX12_opens_32 fl_X12_287 hf (fun v23 hf => ?_)
        refine E_iconst (pc := 35) (v := (1 : Int32)) dX12_opens_35 (by decide) ?_
        refine E_iadd (pc := 36) dX12_opens_36 ?_
        refine E_putI (pc := 37) dX12_opens_37 (pl_X12_287 _) hf (fun μ24 hf => ?_)
        refine E_aload_n (pc := 40) dX12_opens_40 rfl ?_
        refine E_getR (pc := 41) dX12_opens_41 fl_X12_114 hf (fun v25 hf => ?_)
        refine E_aload_n (pc := 44) dX12_opens_44 rfl ?_
        refine E_getI (pc := 45) dX12_opens_45 fl_X12_284 hf (fun v26 hf => ?_)
        refine E_iload_n (pc := 48) dX12_opens_48 rfl ?_
        refine E_iast (pc := 49) dX12_opens_49 hf (fun μ27 hf => ?_)
        refine E_aload_n (pc := 50) dX12_opens_50 rfl ?_
        refine E_dup (pc := 51) dX12_opens_51 rfl ?_
        refine E_getI (pc := 52) dX12_opens_52 fl_X12_284 hf (fun v28 hf => ?_)
        refine E_iconst (pc := 55) (v := (1 : Int32)) dX12_opens_55 (by decide) ?_
        refine E_iadd (pc := 56) dX12_opens_56 ?_
        refine E_putI (pc := 57) dX12_opens_57 (pl_X12_284 _) hf (fun μ29 hf => ?_)
        exact E_vret (pc := 60) dX12_opens_60 rfl hf
      · refine E_aload_n (pc := 30) dX12_opens_30 rfl ?_
        refine E_dup (pc := 31) dX12_opens_31 rfl ?_
        refine E_getI (pc := 32) dX12_opens_32 fl_X12_287 hf (fun v30 hf => ?_)
        refine E_iconst (pc := 35) (v := (1 : Int32)) dX12_opens_35 (by decide) ?_
        refine E_iadd (pc := 36) dX12_opens_36 ?_
        refine E_putI (pc := 37) dX12_opens_37 (pl_X12_287 _) hf (fun μ31 hf => ?_)
        refine E_aload_n (pc := 40) dX12_opens_40 rfl ?_
        refine E_getR (pc := 41) dX12_opens_41 fl_X12_114 hf (fun v32 hf => ?_)
        refine E_aload_n (pc := 44) dX12_opens_44 rfl ?_
        refine E_getI (pc := 45) dX12_opens_45 fl_X12_284 hf (fun v33 hf => ?_)
        refine E_iload_n (pc := 48) dX12_opens_48 rfl ?_
        refine E_iast (pc := 49) dX12_opens_49 hf (fun μ34 hf => ?_)
        refine E_aload_n (pc := 50) dX12_opens_50 rfl ?_
        refine E_dup (pc := 51) dX12_opens_51 rfl ?_
        refine E_getI (pc := 52) dX12_opens_52 fl_X12_284 hf (fun v35 hf => ?_)
        refine E_iconst (pc := 55) (v := (1 : Int32)) dX12_opens_55 (by decide) ?_
        refine E_iadd (pc := 56) dX12_opens_56 ?_
        refine E_putI (pc := 57) dX12_opens_57 (pl_X12_284 _) hf (fun μ36 hf => ?_)
        exact E_vret (pc := 60) dX12_opens_60 rfl hf
    · refine E_aload_n (pc := 40) dX12_opens_40 rfl ?_
      refine E_getR (pc := 41) dX12_opens_41 fl_X12_114 hf (fun v37 hf => ?_)
      refine E_aload_n (pc := 44) dX12_opens_44 rfl ?_
      refine E_getI (pc := 45) dX12_opens_45 fl_X12_284 hf (fun v38 hf => ?_)
      refine E_iload_n (pc := 48) dX12_opens_48 rfl ?_
      refine E_iast (pc := 49) dX12_opens_49 hf (fun μ39 hf => ?_)
      refine E_aload_n (pc := 50) dX12_opens_50 rfl ?_
      refine E_dup (pc := 51) dX12_opens_51 rfl ?_
      refine E_getI (pc := 52) dX12_opens_52 fl_X12_284 hf (fun v40 hf => ?_)
      refine E_iconst (pc := 55) (v := (1 : Int32)) dX12_opens_55 (by decide) ?_
      refine E_iadd (pc := 56) dX12_opens_56 ?_
      refine E_putI (pc := 57) dX12_opens_57 (pl_X12_284 _) hf (fun μ41 hf => ?_)
      exact E_vret (pc := 60) dX12_opens_60 rfl hf
theorem dX12_answers_0 : decode cX12_answers 0 = .ok (.aload_n 0, 1) := by decide +kernel
theorem dX12_answers_1 : decode cX12_answers 1 = .ok (.invokevirtual 290, 3) := by decide +kernel
theorem dX12_answers_4 : decode cX12_answers 4 = .ok (.iload_n 1, 1) := by decide +kernel
theorem dX12_answers_5 : decode cX12_answers 5 = .ok (.if_icmp .ne 49, 3) := by decide +kernel
theorem dX12_answers_8 : decode cX12_answers 8 = .ok (.aload_n 0, 1) := by decide +kernel
theorem dX12_answers_9 : decode cX12_answers 9 = .ok (.getfield 214, 3) := by decide +kernel
theorem dX12_answers_12 : decode cX12_answers 12 = .ok (.ifCond .ne 42, 3) := by decide +kernel
theorem dX12_answers_15 : decode cX12_answers 15 = .ok (.aload_n 0, 1) := by decide +kernel
theorem dX12_answers_16 : decode cX12_answers 16 = .ok (.iload_n 1, 1) := by decide +kernel
theorem dX12_answers_17 : decode cX12_answers 17 = .ok (.iconst 0, 1) := by decide +kernel
theorem dX12_answers_18 : decode cX12_answers 18 = .ok (.invokevirtual 268, 3) := by decide +kernel
theorem dX12_answers_21 : decode cX12_answers 21 = .ok (.aload_n 0, 1) := by decide +kernel
theorem dX12_answers_22 : decode cX12_answers 22 = .ok (.dup, 1) := by decide +kernel
theorem dX12_answers_23 : decode cX12_answers 23 = .ok (.getfield 284, 3) := by decide +kernel
theorem dX12_answers_26 : decode cX12_answers 26 = .ok (.iconst 1, 1) := by decide +kernel
theorem dX12_answers_27 : decode cX12_answers 27 = .ok (.isub, 1) := by decide +kernel
theorem dX12_answers_28 : decode cX12_answers 28 = .ok (.putfield 284, 3) := by decide +kernel
theorem dX12_answers_31 : decode cX12_answers 31 = .ok (.aload_n 0, 1) := by decide +kernel
theorem dX12_answers_32 : decode cX12_answers 32 = .ok (.dup, 1) := by decide +kernel
theorem dX12_answers_33 : decode cX12_answers 33 = .ok (.getfield 287, 3) := by decide +kernel
theorem dX12_answers_36 : decode cX12_answers 36 = .ok (.iload_n 1, 1) := by decide +kernel
theorem dX12_answers_37 : decode cX12_answers 37 = .ok (.bipush 9, 2) := by decide +kernel
theorem dX12_answers_39 : decode cX12_answers 39 = .ok (.if_icmp .ne 7, 3) := by decide +kernel
theorem dX12_answers_42 : decode cX12_answers 42 = .ok (.iconst 1, 1) := by decide +kernel
theorem dX12_answers_43 : decode cX12_answers 43 = .ok (.goto 4, 3) := by decide +kernel
theorem dX12_answers_46 : decode cX12_answers 46 = .ok (.iconst 0, 1) := by decide +kernel
theorem dX12_answers_47 : decode cX12_answers 47 = .ok (.isub, 1) := by decide +kernel
theorem dX12_answers_48 : decode cX12_answers 48 = .ok (.putfield 287, 3) := by decide +kernel
theorem dX12_answers_51 : decode cX12_answers 51 = .ok (.goto (-51), 3) := by decide +kernel
theorem dX12_answers_54 : decode cX12_answers 54 = .ok (.return_, 1) := by decide +kernel
abbrev D_X12_answers : Nat := 2
def f_X12_answers_L0 (K54 : Mm → Option Mm) : Nat → Mm → Nat → Int32 → Option Mm
  | 0, _, _, _ => none
  | n + 1, μ0, a3, x4 =>
    ((ob μ0 a3 12).bind fun _ =>
    (bd (f_X12_top μ0 a3) fun v6 μ5 =>
    (if v6 = x4 then
    ((gI μ5 a3 12 30).bind fun v7 =>
    (if v7 = 0 then
    ((ob μ5 a3 12).bind fun _ =>
    ((f_X12_entry μ5 a3 x4 (0 : Int32)).bind fun μ8 =>
    ((gI μ8 a3 12 36).bind fun v9 =>
    ((pV μ8 a3 12 36 (.int (v9 - (1 : Int32)))).bind fun μ10 =>
    ((gI μ10 a3 12 34).bind fun v11 =>
    (if x4 = (9 : Int32) then
    ((pV μ10 a3 12 34 (.int (v11 - (1 : Int32)))).bind fun μ12 =>
    f_X12_answers_L0 K54 n μ12 a3 x4)
    else
    ((pV μ10 a3 12 34 (.int (v11 - (0 : Int32)))).bind fun μ13 =>
    f_X12_answers_L0 K54 n μ13 a3 x4)))))))
    else
    K54 μ5))
    else
    K54 μ5)))
set_option maxHeartbeats 4000000 in
set_option maxRecDepth 100000 in
theorem f_X12_answers_L0_ok {l : Launch} {G : GG} {K54 : Mm → Option Mm} {μ' : Mm} (n : Nat) (μ0 : Mm) (a3 : Nat) (x4 : Int32) (hf : f_X12_answers_L0 K54 n μ0 a3 x4 = some μ') (hK54 : ∀ (μ1 : Mm), K54 μ1  = some μ' → Ev l G D_X12_answers yX12_answers cX12_answers 2 none 54 [] [] μ1 none μ') : Ev l G D_X12_answers yX12_answers cX12_answers 2 none 0 [(0, .ref a3), (1, .int x4)] [] μ0 none μ' := by
  induction n generalizing μ0 a3 x4 with
  | zero => cases hf
  | succ n ih0 =>
    have ih : ∀ (μ0 : Mm) (a3 : Nat) (x4 : Int32), f_X12_answers_L0 K54 n μ0 a3 x4 = some μ' → Ev l G D_X12_answers yX12_answers cX12_answers 2 none 0 [(0, .ref a3), (1, .int x4)] [] μ0 none μ' := fun μ0 a3 x4 hf => ih0 μ0 a3 x4 hf
    rw [f_X12_answers_L0] at hf
    refine E_aload_n (pc := 0) dX12_answers_0 rfl ?_
    refine E_Vi (pc := 1) (d2 := D_X12_top) (ci := 12) [] dX12_answers_1 ml_X12_290 mf_X12_top im_X12_top rfl rfl rfl (by decide) (Nat.le_of_ble_eq_true rfl) (Nat.le_of_ble_eq_true rfl) rfl (fun _ _ h => f_X12_top_ok h) hf (fun v6 μ5 hf => ?_)
    refine E_iload_n (pc := 4) dX12_answers_4 rfl ?_
    refine E_icmp_ne (pc := 5) (tgt := 54) dX12_answers_5 (by decide) hf (fun hf => ?_) (fun hf => ?_)
    · refine E_aload_n (pc := 8) dX12_answers_8 rfl ?_
      refine E_getI (pc := 9) dX12_answers_9 fl_X12_214 hf (fun v7 hf => ?_)
      refine E_if_ne (pc := 12) (tgt := 54) dX12_answers_12 (by decide) hf (fun hf => ?_) (fun hf => ?_)
      · refine E_aload_n (pc := 15) dX12_answers_15 rfl ?_
        refine E_iload_n (pc := 16) dX12_answers_16 rfl ?_
        refine E_iconst (pc := 17) (v := (0 : Int32)) dX12_answers_17 (by decide) ?_
        refine E_Vv (pc := 18) (d2 := D_X12_entry) (ci := 12) [.int x4, .int (0 : Int32)] dX12_answers_18 ml_X12_268 mf_X12_entry im_X12_entry rfl rfl rfl (by decide) (Nat.le_of_ble_eq_true rfl) (Nat.le_of_ble_eq_true rfl) rfl (fun _ h => f_X12_entry_ok h) hf (fun μ8 hf => ?_)
        refine E_aload_n (pc := 21) dX12_answers_21 rfl ?_
        refine E_dup (pc := 22) dX12_answers_22 rfl ?_
        refine E_getI (pc := 23) dX12_answers_23 fl_X12_284 hf (fun v9 hf => ?_)
        refine E_iconst (pc := 26) (v := (1 : Int32)) dX12_answers_26 (by decide) ?_
        refine E_isub (pc := 27) dX12_answers_27 ?_
        refine E_putI (pc := 28) dX12_answers_28 (pl_X12_284 _) hf (fun μ10 hf => ?_)
        refine E_aload_n (pc := 31) dX12_answers_31 rfl ?_
        refine E_dup (pc := 32) dX12_answers_32 rfl ?_
        refine E_getI (pc := 33) dX12_answers_33 fl_X12_287 hf (fun v11 hf => ?_)
        refine E_iload_n (pc := 36) dX12_answers_36 rfl ?_
        refine E_bipush (pc := 37) (v := (9 : Int32)) dX12_answers_37 (by decide) ?_
        refine E_icmp_ne (pc := 39) (tgt := 46) dX12_answers_39 (by decide) hf (fun hf => ?_) (fun hf => ?_)
        · refine E_iconst (pc := 42) (v := (1 : Int32)) dX12_answers_42 (by decide) ?_
          refine E_goto (pc := 43) (tgt := 47) dX12_answers_43 (by decide) ?_
          refine E_isub (pc := 47) dX12_answers_47 ?_
          refine E_putI (pc := 48) dX12_answers_48 (pl_X12_287 _) hf (fun μ12 hf => ?_)
          refine E_goto (pc := 51) (tgt := 0) dX12_answers_51 (by decide) ?_
          refine Ev.sub [0, 1] rfl ?_
          exact ih _ _ _ hf
        · refine E_iconst (pc := 46) (v := (0 : Int32)) dX12_answers_46 (by decide) ?_
          refine E_isub (pc := 47) dX12_answers_47 ?_
          refine E_putI (pc := 48) dX12_answers_48 (pl_X12_287 _) hf (fun μ13 hf => ?_)
          refine E_goto (pc := 51) (tgt := 0) dX12_answers_51 (by decide) ?_
          refine Ev.sub [0, 1] rfl ?_
          exact ih _ _ _ hf
      · refine Ev.sub [] rfl ?_
        exact hK54 _ hf
    · refine Ev.sub [] rfl ?_
      exact hK54 _ hf
set_option maxRecDepth 100000 in
def f_X12_answers (μ0 : Mm) (a1 : Nat) (x2 : Int32) : Option Mm :=
 f_X12_answers_L0 (fun μ14 =>
    (some μ14)) FU μ0 a1 x2
set_option maxHeartbeats 4000000 in
set_option maxRecDepth 100000 in
theorem f_X12_answers_ok {l : Launch} {G : GG} {μ0 : Mm} {a1 : Nat} {x2 : Int32} {μ' : Mm} (hf : f_X12_answers μ0 a1 x2 = some μ') : EvM l G D_X12_answers yX12_answers cX12_answers 2 none [.ref a1, .int x2] μ0 none μ' := by
  show Ev l G D_X12_answers yX12_answers cX12_answers 2 none 0 [(0, .ref a1), (1, .int x2)] [] μ0 none μ'
  unfold f_X12_answers at hf
  refine Ev.sub [0, 1] rfl ?_
  refine f_X12_answers_L0_ok  _ _ _ _ hf (fun μ14 hf => ?_)
  · exact E_vret (pc := 54) dX12_answers_54 rfl hf
theorem dX12_fact_0 : decode cX12_fact 0 = .ok (.aload_n 0, 1) := by decide +kernel
theorem dX12_fact_1 : decode cX12_fact 1 = .ok (.invokevirtual 236, 3) := by decide +kernel
theorem dX12_fact_4 : decode cX12_fact 4 = .ok (.aload_n 0, 1) := by decide +kernel
theorem dX12_fact_5 : decode cX12_fact 5 = .ok (.ldc_w 293, 3) := by decide +kernel
theorem dX12_fact_8 : decode cX12_fact 8 = .ok (.invokevirtual 239, 3) := by decide +kernel
theorem dX12_fact_11 : decode cX12_fact 11 = .ok (.ifCond .eq 21, 3) := by decide +kernel
theorem dX12_fact_14 : decode cX12_fact 14 = .ok (.aload_n 0, 1) := by decide +kernel
theorem dX12_fact_15 : decode cX12_fact 15 = .ok (.bipush 9, 2) := by decide +kernel
theorem dX12_fact_17 : decode cX12_fact 17 = .ok (.invokevirtual 295, 3) := by decide +kernel
theorem dX12_fact_20 : decode cX12_fact 20 = .ok (.aload_n 0, 1) := by decide +kernel
theorem dX12_fact_21 : decode cX12_fact 21 = .ok (.dup, 1) := by decide +kernel
theorem dX12_fact_22 : decode cX12_fact 22 = .ok (.getfield 217, 3) := by decide +kernel
theorem dX12_fact_25 : decode cX12_fact 25 = .ok (.iconst 3, 1) := by decide +kernel
theorem dX12_fact_26 : decode cX12_fact 26 = .ok (.iadd, 1) := by decide +kernel
theorem dX12_fact_27 : decode cX12_fact 27 = .ok (.putfield 217, 3) := by decide +kernel
theorem dX12_fact_30 : decode cX12_fact 30 = .ok (.iconst 0, 1) := by decide +kernel
theorem dX12_fact_31 : decode cX12_fact 31 = .ok (.ireturn, 1) := by decide +kernel
theorem dX12_fact_32 : decode cX12_fact 32 = .ok (.aload_n 0, 1) := by decide +kernel
theorem dX12_fact_33 : decode cX12_fact 33 = .ok (.invokevirtual 220, 3) := by decide +kernel
theorem dX12_fact_36 : decode cX12_fact 36 = .ok (.bipush 91, 2) := by decide +kernel
theorem dX12_fact_38 : decode cX12_fact 38 = .ok (.if_icmp .ne 21, 3) := by decide +kernel
theorem dX12_fact_41 : decode cX12_fact 41 = .ok (.aload_n 0, 1) := by decide +kernel
theorem dX12_fact_42 : decode cX12_fact 42 = .ok (.bipush 12, 2) := by decide +kernel
theorem dX12_fact_44 : decode cX12_fact 44 = .ok (.invokevirtual 295, 3) := by decide +kernel
theorem dX12_fact_47 : decode cX12_fact 47 = .ok (.aload_n 0, 1) := by decide +kernel
theorem dX12_fact_48 : decode cX12_fact 48 = .ok (.dup, 1) := by decide +kernel
theorem dX12_fact_49 : decode cX12_fact 49 = .ok (.getfield 217, 3) := by decide +kernel
theorem dX12_fact_52 : decode cX12_fact 52 = .ok (.iconst 1, 1) := by decide +kernel
theorem dX12_fact_53 : decode cX12_fact 53 = .ok (.iadd, 1) := by decide +kernel
theorem dX12_fact_54 : decode cX12_fact 54 = .ok (.putfield 217, 3) := by decide +kernel
theorem dX12_fact_57 : decode cX12_fact 57 = .ok (.iconst 0, 1) := by decide +kernel
theorem dX12_fact_58 : decode cX12_fact 58 = .ok (.ireturn, 1) := by decide +kernel
theorem dX12_fact_59 : decode cX12_fact 59 = .ok (.aload_n 0, 1) := by decide +kernel
theorem dX12_fact_60 : decode cX12_fact 60 = .ok (.invokevirtual 298, 3) := by decide +kernel
theorem dX12_fact_63 : decode cX12_fact 63 = .ok (.iconst 1, 1) := by decide +kernel
theorem dX12_fact_64 : decode cX12_fact 64 = .ok (.ireturn, 1) := by decide +kernel
abbrev D_X12_fact : Nat := 12
set_option maxRecDepth 100000 in
def f_X12_fact (μ0 : Mm) (a1 : Nat) : Option (Int32 × Mm) :=
 ((ob μ0 a1 12).bind fun _ =>
    ((f_X12_blanks μ0 a1).bind fun μ2 =>
    ((ob μ2 a1 12).bind fun _ =>
    (bd (f_X12_stood μ2 a1 (29 : Nat)) fun v4 μ3 =>
    (if v4 = 0 then
    ((ob μ3 a1 12).bind fun _ =>
    (bd (f_X12_sign μ3 a1) fun v6 μ5 =>
    (if v6 = (91 : Int32) then
    ((ob μ5 a1 12).bind fun _ =>
    ((f_X12_opens μ5 a1 (12 : Int32)).bind fun μ7 =>
    ((gI μ7 a1 12 29).bind fun v8 =>
    ((pV μ7 a1 12 29 (.int (v8 + (1 : Int32)))).bind fun μ9 =>
    (if (0 : Int32) = 0 ∨ (0 : Int32) = 1 then some ((0 : Int32), μ9) else none)))))
    else
    ((ob μ5 a1 12).bind fun _ =>
    ((f_X12_compared μ5 a1).bind fun μ10 =>
    (if (1 : Int32) = 0 ∨ (1 : Int32) = 1 then some ((1 : Int32), μ10) else none))))))
    else
    ((ob μ3 a1 12).bind fun _ =>
    ((f_X12_opens μ3 a1 (9 : Int32)).bind fun μ11 =>
    ((gI μ11 a1 12 29).bind fun v12 =>
    ((pV μ11 a1 12 29 (.int (v12 + (3 : Int32)))).bind fun μ13 =>
    (if (0 : Int32) = 0 ∨ (0 : Int32) = 1 then some ((0 : Int32), μ13) else none))))))))))
set_option maxHeartbeats 4000000 in
set_option maxRecDepth 100000 in
theorem f_X12_fact_ok {l : Launch} {G : GG} {μ0 : Mm} {a1 : Nat} {r : Int32} {μ' : Mm} (hf : f_X12_fact μ0 a1 = some (r, μ')) : EvM l G D_X12_fact yX12_fact cX12_fact 1 (some .boolean) [.ref a1] μ0 (some (.int r)) μ' := by
  show Ev l G D_X12_fact yX12_fact cX12_fact 1 (some .boolean) 0 [(0, .ref a1)] [] μ0 (some (.int r)) μ'
  unfold f_X12_fact at hf
  refine E_aload_n (pc := 0) dX12_fact_0 rfl ?_
  refine E_Vv (pc := 1) (d2 := D_X12_blanks) (ci := 12) [] dX12_fact_1 ml_X12_236 mf_X12_blanks im_X12_blanks rfl rfl rfl (by decide) (Nat.le_of_ble_eq_true rfl) (Nat.le_of_ble_eq_true rfl) rfl (fun _ h => f_X12_blanks_ok h) hf (fun μ2 hf => ?_)
  refine E_aload_n (pc := 4) dX12_fact_4 rfl ?_
  refine E_ldcwS (pc := 5) (29 : Nat) dX12_fact_5 (by decide) ⟨rfl, rfl⟩ ?_
  refine E_Vi (pc := 8) (d2 := D_X12_stood) (ci := 12) [.ref (29 : Nat)] dX12_fact_8 ml_X12_239 mf_X12_stood im_X12_stood rfl rfl rfl (by decide) (Nat.le_of_ble_eq_true rfl) (Nat.le_of_ble_eq_true rfl) rfl (fun _ _ h => f_X12_stood_ok h) hf (fun v4 μ3 hf => ?_)
  refine E_if_eq (pc := 11) (tgt := 32) dX12_fact_11 (by decide) hf (fun hf => ?_) (fun hf => ?_)
  · refine E_aload_n (pc := 32) dX12_fact_32 rfl ?_
    refine E_Vi (pc := 33) (d2 := D_X12_sign) (ci := 12) [] dX12_fact_33 ml_X12_220 mf_X12_sign im_X12_sign rfl rfl rfl (by decide) (Nat.le_of_ble_eq_true rfl) (Nat.le_of_ble_eq_true rfl) rfl (fun _ _ h => f_X12_sign_ok h) hf (fun v6 μ5 hf => ?_)
    refine E_bipush (pc := 36) (v := (91 : Int32)) dX12_fact_36 (by decide) ?_
    refine E_icmp_ne (pc := 38) (tgt := 59) dX12_fact_38 (by decide) hf (fun hf => ?_) (fun hf => ?_)
    · refine E_aload_n (pc := 41) dX12_fact_41 rfl ?_
      refine E_bipush (pc := 42) (v := (12 : Int32)) dX12_fact_42 (by decide) ?_
      refine E_Vv (pc := 44) (d2 := D_X12_opens) (ci := 12) [.int (12 : Int32)] dX12_fact_44 ml_X12_295 mf_X12_opens im_X12_opens rfl rfl rfl (by decide) (Nat.le_of_ble_eq_true rfl) (Nat.le_of_ble_eq_true rfl) rfl (fun _ h => f_X12_opens_ok h) hf (fun μ7 hf => ?_)
      refine E_aload_n (pc := 47) dX12_fact_47 rfl ?_
      refine E_dup (pc := 48) dX12_fact_48 rfl ?_
      refine E_getI (pc := 49) dX12_fact_49 fl_X12_217 hf (fun v8 hf => ?_)
      refine E_iconst (pc := 52) (v := (1 : Int32)) dX12_fact_52 (by decide) ?_
      refine E_iadd (pc := 53) dX12_fact_53 ?_
      refine E_putI (pc := 54) dX12_fact_54 (pl_X12_217 _) hf (fun μ9 hf => ?_)
      refine E_iconst (pc := 57) (v := (0 : Int32)) dX12_fact_57 (by decide) ?_
      exact E_zret (pc := 58) dX12_fact_58 rfl hf
    · refine E_aload_n (pc := 59) dX12_fact_59 rfl ?_
      refine E_Vv (pc := 60) (d2 := D_X12_compared) (ci := 12) [] dX12_fact_60 ml_X12_298 mf_X12_compared im_X12_compared rfl rfl rfl (by decide) (Nat.le_of_ble_eq_true rfl) (Nat.le_of_ble_eq_true rfl) rfl (fun _ h => f_X12_compared_ok h) hf (fun μ10 hf => ?_)
      refine E_iconst (pc := 63) (v := (1 : Int32)) dX12_fact_63 (by decide) ?_
      exact E_zret (pc := 64) dX12_fact_64 rfl hf
  · refine E_aload_n (pc := 14) dX12_fact_14 rfl ?_
    refine E_bipush (pc := 15) (v := (9 : Int32)) dX12_fact_15 (by decide) ?_
    refine E_Vv (pc := 17) (d2 := D_X12_opens) (ci := 12) [.int (9 : Int32)] dX12_fact_17 ml_X12_295 mf_X12_opens im_X12_opens rfl rfl rfl (by decide) (Nat.le_of_ble_eq_true rfl) (Nat.le_of_ble_eq_true rfl) rfl (fun _ h => f_X12_opens_ok h) hf (fun μ11 hf => ?_)
    refine E_aload_n (pc := 20) dX12_fact_20 rfl ?_
    refine E_dup (pc := 21) dX12_fact_21 rfl ?_
    refine E_getI (pc := 22) dX12_fact_22 fl_X12_217 hf (fun v12 hf => ?_)
    refine E_iconst (pc := 25) (v := (3 : Int32)) dX12_fact_25 (by decide) ?_
    refine E_iadd (pc := 26) dX12_fact_26 ?_
    refine E_putI (pc := 27) dX12_fact_27 (pl_X12_217 _) hf (fun μ13 hf => ?_)
    refine E_iconst (pc := 30) (v := (0 : Int32)) dX12_fact_30 (by decide) ?_
    exact E_zret (pc := 31) dX12_fact_31 rfl hf
theorem dX12_test_0 : decode cX12_test 0 = .ok (.aload_n 0, 1) := by decide +kernel
theorem dX12_test_1 : decode cX12_test 1 = .ok (.iconst 0, 1) := by decide +kernel
theorem dX12_test_2 : decode cX12_test 2 = .ok (.putfield 284, 3) := by decide +kernel
theorem dX12_test_5 : decode cX12_test 5 = .ok (.iconst 1, 1) := by decide +kernel
theorem dX12_test_6 : decode cX12_test 6 = .ok (.istore_n 1, 1) := by decide +kernel
theorem dX12_test_7 : decode cX12_test 7 = .ok (.iconst 1, 1) := by decide +kernel
theorem dX12_test_8 : decode cX12_test 8 = .ok (.istore_n 2, 1) := by decide +kernel
theorem dX12_test_9 : decode cX12_test 9 = .ok (.iload_n 2, 1) := by decide +kernel
theorem dX12_test_10 : decode cX12_test 10 = .ok (.ifCond .eq 192, 3) := by decide +kernel
theorem dX12_test_13 : decode cX12_test 13 = .ok (.aload_n 0, 1) := by decide +kernel
theorem dX12_test_14 : decode cX12_test 14 = .ok (.getfield 214, 3) := by decide +kernel
theorem dX12_test_17 : decode cX12_test 17 = .ok (.ifCond .ne 185, 3) := by decide +kernel
theorem dX12_test_20 : decode cX12_test 20 = .ok (.iload_n 1, 1) := by decide +kernel
theorem dX12_test_21 : decode cX12_test 21 = .ok (.ifCond .eq 19, 3) := by decide +kernel
theorem dX12_test_24 : decode cX12_test 24 = .ok (.aload_n 0, 1) := by decide +kernel
theorem dX12_test_25 : decode cX12_test 25 = .ok (.invokevirtual 301, 3) := by decide +kernel
theorem dX12_test_28 : decode cX12_test 28 = .ok (.ifCond .ne 7, 3) := by decide +kernel
theorem dX12_test_31 : decode cX12_test 31 = .ok (.iconst 1, 1) := by decide +kernel
theorem dX12_test_32 : decode cX12_test 32 = .ok (.goto 4, 3) := by decide +kernel
theorem dX12_test_35 : decode cX12_test 35 = .ok (.iconst 0, 1) := by decide +kernel
theorem dX12_test_36 : decode cX12_test 36 = .ok (.istore_n 1, 1) := by decide +kernel
theorem dX12_test_37 : decode cX12_test 37 = .ok (.goto (-28), 3) := by decide +kernel
theorem dX12_test_40 : decode cX12_test 40 = .ok (.aload_n 0, 1) := by decide +kernel
theorem dX12_test_41 : decode cX12_test 41 = .ok (.bipush 9, 2) := by decide +kernel
theorem dX12_test_43 : decode cX12_test 43 = .ok (.invokevirtual 304, 3) := by decide +kernel
theorem dX12_test_46 : decode cX12_test 46 = .ok (.aload_n 0, 1) := by decide +kernel
theorem dX12_test_47 : decode cX12_test 47 = .ok (.invokevirtual 236, 3) := by decide +kernel
theorem dX12_test_50 : decode cX12_test 50 = .ok (.aload_n 0, 1) := by decide +kernel
theorem dX12_test_51 : decode cX12_test 51 = .ok (.ldc_w 307, 3) := by decide +kernel
theorem dX12_test_54 : decode cX12_test 54 = .ok (.invokevirtual 239, 3) := by decide +kernel
theorem dX12_test_57 : decode cX12_test 57 = .ok (.istore_n 3, 1) := by decide +kernel
theorem dX12_test_58 : decode cX12_test 58 = .ok (.aload_n 0, 1) := by decide +kernel
theorem dX12_test_59 : decode cX12_test 59 = .ok (.ldc_w 309, 3) := by decide +kernel
theorem dX12_test_62 : decode cX12_test 62 = .ok (.invokevirtual 239, 3) := by decide +kernel
theorem dX12_test_65 : decode cX12_test 65 = .ok (.istore 4, 2) := by decide +kernel
theorem dX12_test_67 : decode cX12_test 67 = .ok (.aload_n 0, 1) := by decide +kernel
theorem dX12_test_68 : decode cX12_test 68 = .ok (.bipush 10, 2) := by decide +kernel
theorem dX12_test_70 : decode cX12_test 70 = .ok (.invokevirtual 304, 3) := by decide +kernel
theorem dX12_test_73 : decode cX12_test 73 = .ok (.iload_n 3, 1) := by decide +kernel
theorem dX12_test_74 : decode cX12_test 74 = .ok (.ifCond .ne 8, 3) := by decide +kernel
theorem dX12_test_77 : decode cX12_test 77 = .ok (.iload 4, 2) := by decide +kernel
theorem dX12_test_79 : decode cX12_test 79 = .ok (.ifCond .eq 52, 3) := by decide +kernel
theorem dX12_test_82 : decode cX12_test 82 = .ok (.iload 4, 2) := by decide +kernel
theorem dX12_test_84 : decode cX12_test 84 = .ok (.ifCond .eq 9, 3) := by decide +kernel
theorem dX12_test_87 : decode cX12_test 87 = .ok (.aload_n 0, 1) := by decide +kernel
theorem dX12_test_88 : decode cX12_test 88 = .ok (.bipush 11, 2) := by decide +kernel
theorem dX12_test_90 : decode cX12_test 90 = .ok (.invokevirtual 304, 3) := by decide +kernel
theorem dX12_test_93 : decode cX12_test 93 = .ok (.aload_n 0, 1) := by decide +kernel
theorem dX12_test_94 : decode cX12_test 94 = .ok (.iload_n 3, 1) := by decide +kernel
theorem dX12_test_95 : decode cX12_test 95 = .ok (.ifCond .eq 8, 3) := by decide +kernel
theorem dX12_test_98 : decode cX12_test 98 = .ok (.bipush 10, 2) := by decide +kernel
theorem dX12_test_100 : decode cX12_test 100 = .ok (.goto 5, 3) := by decide +kernel
theorem dX12_test_103 : decode cX12_test 103 = .ok (.bipush 11, 2) := by decide +kernel
theorem dX12_test_105 : decode cX12_test 105 = .ok (.invokevirtual 295, 3) := by decide +kernel
theorem dX12_test_108 : decode cX12_test 108 = .ok (.aload_n 0, 1) := by decide +kernel
theorem dX12_test_109 : decode cX12_test 109 = .ok (.dup, 1) := by decide +kernel
theorem dX12_test_110 : decode cX12_test 110 = .ok (.getfield 217, 3) := by decide +kernel
theorem dX12_test_113 : decode cX12_test 113 = .ok (.iload_n 3, 1) := by decide +kernel
theorem dX12_test_114 : decode cX12_test 114 = .ok (.ifCond .eq 7, 3) := by decide +kernel
theorem dX12_test_117 : decode cX12_test 117 = .ok (.iconst 3, 1) := by decide +kernel
theorem dX12_test_118 : decode cX12_test 118 = .ok (.goto 4, 3) := by decide +kernel
theorem dX12_test_121 : decode cX12_test 121 = .ok (.iconst 2, 1) := by decide +kernel
theorem dX12_test_122 : decode cX12_test 122 = .ok (.iadd, 1) := by decide +kernel
theorem dX12_test_123 : decode cX12_test 123 = .ok (.putfield 217, 3) := by decide +kernel
theorem dX12_test_126 : decode cX12_test 126 = .ok (.iconst 1, 1) := by decide +kernel
theorem dX12_test_127 : decode cX12_test 127 = .ok (.istore_n 1, 1) := by decide +kernel
theorem dX12_test_128 : decode cX12_test 128 = .ok (.goto 71, 3) := by decide +kernel
theorem dX12_test_131 : decode cX12_test 131 = .ok (.aload_n 0, 1) := by decide +kernel
theorem dX12_test_132 : decode cX12_test 132 = .ok (.bipush 11, 2) := by decide +kernel
theorem dX12_test_134 : decode cX12_test 134 = .ok (.invokevirtual 304, 3) := by decide +kernel
theorem dX12_test_137 : decode cX12_test 137 = .ok (.aload_n 0, 1) := by decide +kernel
theorem dX12_test_138 : decode cX12_test 138 = .ok (.invokevirtual 290, 3) := by decide +kernel
theorem dX12_test_141 : decode cX12_test 141 = .ok (.bipush 12, 2) := by decide +kernel
theorem dX12_test_143 : decode cX12_test 143 = .ok (.if_icmp .ne 54, 3) := by decide +kernel
theorem dX12_test_146 : decode cX12_test 146 = .ok (.aload_n 0, 1) := by decide +kernel
theorem dX12_test_147 : decode cX12_test 147 = .ok (.invokevirtual 220, 3) := by decide +kernel
theorem dX12_test_150 : decode cX12_test 150 = .ok (.bipush 93, 2) := by decide +kernel
theorem dX12_test_152 : decode cX12_test 152 = .ok (.if_icmp .eq 12, 3) := by decide +kernel
theorem dX12_test_155 : decode cX12_test 155 = .ok (.aload_n 0, 1) := by decide +kernel
theorem dX12_test_156 : decode cX12_test 156 = .ok (.iconst 0, 1) := by decide +kernel
theorem dX12_test_157 : decode cX12_test 157 = .ok (.aload_n 0, 1) := by decide +kernel
theorem dX12_test_158 : decode cX12_test 158 = .ok (.getfield 217, 3) := by decide +kernel
theorem dX12_test_161 : decode cX12_test 161 = .ok (.invokevirtual 252, 3) := by decide +kernel
theorem dX12_test_164 : decode cX12_test 164 = .ok (.aload_n 0, 1) := by decide +kernel
theorem dX12_test_165 : decode cX12_test 165 = .ok (.dup, 1) := by decide +kernel
theorem dX12_test_166 : decode cX12_test 166 = .ok (.getfield 217, 3) := by decide +kernel
theorem dX12_test_169 : decode cX12_test 169 = .ok (.iconst 1, 1) := by decide +kernel
theorem dX12_test_170 : decode cX12_test 170 = .ok (.iadd, 1) := by decide +kernel
theorem dX12_test_171 : decode cX12_test 171 = .ok (.putfield 217, 3) := by decide +kernel
theorem dX12_test_174 : decode cX12_test 174 = .ok (.aload_n 0, 1) := by decide +kernel
theorem dX12_test_175 : decode cX12_test 175 = .ok (.dup, 1) := by decide +kernel
theorem dX12_test_176 : decode cX12_test 176 = .ok (.getfield 284, 3) := by decide +kernel
theorem dX12_test_179 : decode cX12_test 179 = .ok (.iconst 1, 1) := by decide +kernel
theorem dX12_test_180 : decode cX12_test 180 = .ok (.isub, 1) := by decide +kernel
theorem dX12_test_181 : decode cX12_test 181 = .ok (.putfield 284, 3) := by decide +kernel
theorem dX12_test_184 : decode cX12_test 184 = .ok (.aload_n 0, 1) := by decide +kernel
theorem dX12_test_185 : decode cX12_test 185 = .ok (.dup, 1) := by decide +kernel
theorem dX12_test_186 : decode cX12_test 186 = .ok (.getfield 287, 3) := by decide +kernel
theorem dX12_test_189 : decode cX12_test 189 = .ok (.iconst 1, 1) := by decide +kernel
theorem dX12_test_190 : decode cX12_test 190 = .ok (.isub, 1) := by decide +kernel
theorem dX12_test_191 : decode cX12_test 191 = .ok (.putfield 287, 3) := by decide +kernel
theorem dX12_test_194 : decode cX12_test 194 = .ok (.goto 5, 3) := by decide +kernel
theorem dX12_test_197 : decode cX12_test 197 = .ok (.iconst 0, 1) := by decide +kernel
theorem dX12_test_198 : decode cX12_test 198 = .ok (.istore_n 2, 1) := by decide +kernel
theorem dX12_test_199 : decode cX12_test 199 = .ok (.goto (-190), 3) := by decide +kernel
theorem dX12_test_202 : decode cX12_test 202 = .ok (.return_, 1) := by decide +kernel
abbrev D_X12_test : Nat := 13
def f_X12_test_L9 (K202 : Mm → Option Mm) : Nat → Mm → Nat → Int32 → Int32 → Option Mm
  | 0, _, _, _, _ => none
  | n + 1, μ0, a5, x6, x7 =>
    (if x7 = 0 then
    K202 μ0
    else
    ((gI μ0 a5 12 30).bind fun v8 =>
    (if v8 = 0 then
    (if x6 = 0 then
    ((ob μ0 a5 12).bind fun _ =>
    ((f_X12_answers μ0 a5 (9 : Int32)).bind fun μ9 =>
    ((ob μ9 a5 12).bind fun _ =>
    ((f_X12_blanks μ9 a5).bind fun μ10 =>
    ((ob μ10 a5 12).bind fun _ =>
    (bd (f_X12_stood μ10 a5 (30 : Nat)) fun v12 μ11 =>
    (nm v12 fun x13 =>
    ((ob μ11 a5 12).bind fun _ =>
    (bd (f_X12_stood μ11 a5 (31 : Nat)) fun v15 μ14 =>
    (nm v15 fun x16 =>
    ((ob μ14 a5 12).bind fun _ =>
    ((f_X12_answers μ14 a5 (10 : Int32)).bind fun μ17 =>
    (if x13 = 0 then
    (if x16 = 0 then
    ((ob μ17 a5 12).bind fun _ =>
    ((f_X12_answers μ17 a5 (11 : Int32)).bind fun μ18 =>
    ((ob μ18 a5 12).bind fun _ =>
    (bd (f_X12_top μ18 a5) fun v20 μ19 =>
    (if v20 = (12 : Int32) then
    ((ob μ19 a5 12).bind fun _ =>
    (bd (f_X12_sign μ19 a5) fun v22 μ21 =>
    (if v22 = (93 : Int32) then
    ((gI μ21 a5 12 29).bind fun v23 =>
    ((pV μ21 a5 12 29 (.int (v23 + (1 : Int32)))).bind fun μ24 =>
    ((gI μ24 a5 12 36).bind fun v25 =>
    ((pV μ24 a5 12 36 (.int (v25 - (1 : Int32)))).bind fun μ26 =>
    ((gI μ26 a5 12 34).bind fun v27 =>
    ((pV μ26 a5 12 34 (.int (v27 - (1 : Int32)))).bind fun μ28 =>
    f_X12_test_L9 K202 n μ28 a5 x6 x7))))))
    else
    ((gI μ21 a5 12 29).bind fun v29 =>
    ((ob μ21 a5 12).bind fun _ =>
    ((f_X12_fails μ21 a5 (0 : Int32) v29).bind fun μ30 =>
    ((gI μ30 a5 12 29).bind fun v31 =>
    ((pV μ30 a5 12 29 (.int (v31 + (1 : Int32)))).bind fun μ32 =>
    ((gI μ32 a5 12 36).bind fun v33 =>
    ((pV μ32 a5 12 36 (.int (v33 - (1 : Int32)))).bind fun μ34 =>
    ((gI μ34 a5 12 34).bind fun v35 =>
    ((pV μ34 a5 12 34 (.int (v35 - (1 : Int32)))).bind fun μ36 =>
    f_X12_test_L9 K202 n μ36 a5 x6 x7))))))))))))
    else
    (nm (0 : Int32) fun x37 =>
    f_X12_test_L9 K202 n μ19 a5 x6 x37))))))
    else
    (if x16 = 0 then
    (if x13 = 0 then
    ((ob μ17 a5 12).bind fun _ =>
    ((f_X12_opens μ17 a5 (11 : Int32)).bind fun μ38 =>
    ((gI μ38 a5 12 29).bind fun v39 =>
    (if x13 = 0 then
    ((pV μ38 a5 12 29 (.int (v39 + (2 : Int32)))).bind fun μ40 =>
    (nm (1 : Int32) fun x41 =>
    f_X12_test_L9 K202 n μ40 a5 x41 x7))
    else
    ((pV μ38 a5 12 29 (.int (v39 + (3 : Int32)))).bind fun μ42 =>
    (nm (1 : Int32) fun x43 =>
    f_X12_test_L9 K202 n μ42 a5 x43 x7))))))
    else
    ((ob μ17 a5 12).bind fun _ =>
    ((f_X12_opens μ17 a5 (10 : Int32)).bind fun μ44 =>
    ((gI μ44 a5 12 29).bind fun v45 =>
    (if x13 = 0 then
    ((pV μ44 a5 12 29 (.int (v45 + (2 : Int32)))).bind fun μ46 =>
    (nm (1 : Int32) fun x47 =>
    f_X12_test_L9 K202 n μ46 a5 x47 x7))
    else
    ((pV μ44 a5 12 29 (.int (v45 + (3 : Int32)))).bind fun μ48 =>
    (nm (1 : Int32) fun x49 =>
    f_X12_test_L9 K202 n μ48 a5 x49 x7)))))))
    else
    ((ob μ17 a5 12).bind fun _ =>
    ((f_X12_answers μ17 a5 (11 : Int32)).bind fun μ50 =>
    (if x13 = 0 then
    ((ob μ50 a5 12).bind fun _ =>
    ((f_X12_opens μ50 a5 (11 : Int32)).bind fun μ51 =>
    ((gI μ51 a5 12 29).bind fun v52 =>
    (if x13 = 0 then
    ((pV μ51 a5 12 29 (.int (v52 + (2 : Int32)))).bind fun μ53 =>
    (nm (1 : Int32) fun x54 =>
    f_X12_test_L9 K202 n μ53 a5 x54 x7))
    else
    ((pV μ51 a5 12 29 (.int (v52 + (3 : Int32)))).bind fun μ55 =>
    (nm (1 : Int32) fun x56 =>
    f_X12_test_L9 K202 n μ55 a5 x56 x7))))))
    else
    ((ob μ50 a5 12).bind fun _ =>
    ((f_X12_opens μ50 a5 (10 : Int32)).bind fun μ57 =>
    ((gI μ57 a5 12 29).bind fun v58 =>
    (if x13 = 0 then
    ((pV μ57 a5 12 29 (.int (v58 + (2 : Int32)))).bind fun μ59 =>
    (nm (1 : Int32) fun x60 =>
    f_X12_test_L9 K202 n μ59 a5 x60 x7))
    else
    ((pV μ57 a5 12 29 (.int (v58 + (3 : Int32)))).bind fun μ61 =>
    (nm (1 : Int32) fun x62 =>
    f_X12_test_L9 K202 n μ61 a5 x62 x7)))))))))))
    else
    (if x16 = 0 then
    (if x13 = 0 then
    ((ob μ17 a5 12).bind fun _ =>
    ((f_X12_opens μ17 a5 (11 : Int32)).bind fun μ63 =>
    ((gI μ63 a5 12 29).bind fun v64 =>
    (if x13 = 0 then
    ((pV μ63 a5 12 29 (.int (v64 + (2 : Int32)))).bind fun μ65 =>
    (nm (1 : Int32) fun x66 =>
    f_X12_test_L9 K202 n μ65 a5 x66 x7))
    else
    ((pV μ63 a5 12 29 (.int (v64 + (3 : Int32)))).bind fun μ67 =>
    (nm (1 : Int32) fun x68 =>
    f_X12_test_L9 K202 n μ67 a5 x68 x7))))))
    else
    ((ob μ17 a5 12).bind fun _ =>
    ((f_X12_opens μ17 a5 (10 : Int32)).bind fun μ69 =>
    ((gI μ69 a5 12 29).bind fun v70 =>
    (if x13 = 0 then
    ((pV μ69 a5 12 29 (.int (v70 + (2 : Int32)))).bind fun μ71 =>
    (nm (1 : Int32) fun x72 =>
    f_X12_test_L9 K202 n μ71 a5 x72 x7))
    else
    ((pV μ69 a5 12 29 (.int (v70 + (3 : Int32)))).bind fun μ73 =>
    (nm (1 : Int32) fun x74 =>
    f_X12_test_L9 K202 n μ73 a5 x74 x7)))))))
    else
    ((ob μ17 a5 12).bind fun _ =>
    ((f_X12_answers μ17 a5 (11 : Int32)).bind fun μ75 =>
    (if x13 = 0 then
    ((ob μ75 a5 12).bind fun _ =>
    ((f_X12_opens μ75 a5 (11 : Int32)).bind fun μ76 =>
    ((gI μ76 a5 12 29).bind fun v77 =>
    (if x13 = 0 then
    ((pV μ76 a5 12 29 (.int (v77 + (2 : Int32)))).bind fun μ78 =>
    (nm (1 : Int32) fun x79 =>
    f_X12_test_L9 K202 n μ78 a5 x79 x7))
    else
    ((pV μ76 a5 12 29 (.int (v77 + (3 : Int32)))).bind fun μ80 =>
    (nm (1 : Int32) fun x81 =>
    f_X12_test_L9 K202 n μ80 a5 x81 x7))))))
    else
    ((ob μ75 a5 12).bind fun _ =>
    ((f_X12_opens μ75 a5 (10 : Int32)).bind fun μ82 =>
    ((gI μ82 a5 12 29).bind fun v83 =>
    (if x13 = 0 then
    ((pV μ82 a5 12 29 (.int (v83 + (2 : Int32)))).bind fun μ84 =>
    (nm (1 : Int32) fun x85 =>
    f_X12_test_L9 K202 n μ84 a5 x85 x7))
    else
    ((pV μ82 a5 12 29 (.int (v83 + (3 : Int32)))).bind fun μ86 =>
    (nm (1 : Int32) fun x87 =>
    f_X12_test_L9 K202 n μ86 a5 x87 x7)))))))))))))))))))))))
    else
    ((ob μ0 a5 12).bind fun _ =>
    (bd (f_X12_fact μ0 a5) fun v89 μ88 =>
    (if v89 = 0 then
    (nm (1 : Int32) fun x90 =>
    f_X12_test_L9 K202 n μ88 a5 x90 x7)
    else
    (nm (0 : Int32) fun x91 =>
    f_X12_test_L9 K202 n μ88 a5 x91 x7)))))
    else
    K202 μ0)))
set_option maxHeartbeats 4000000 in
set_option maxRecDepth 100000 in
theorem f_X12_test_L9_ok {l : Launch} {G : GG} {K202 : Mm → Option Mm} {μ' : Mm} (n : Nat) (μ0 : Mm) (a5 : Nat) (x6 : Int32) (x7 : Int32) (hf : f_X12_test_L9 K202 n μ0 a5 x6 x7 = some μ') (hK202 : ∀ (μ1 : Mm), K202 μ1  = some μ' → Ev l G D_X12_test yX12_test cX12_test 5 none 202 [] [] μ1 none μ') : Ev l G D_X12_test yX12_test cX12_test 5 none 9 [(0, .ref a5), (1, .int x6), (2, .int x7)] [] μ0 none μ' := by
  induction n generalizing μ0 a5 x6 x7 with
  | zero => cases hf
  | succ n ih0 =>
    have ih : ∀ (μ0 : Mm) (a5 : Nat) (x6 : Int32) (x7 : Int32), f_X12_test_L9 K202 n μ0 a5 x6 x7 = some μ' → Ev l G D_X12_test yX12_test cX12_test 5 none 9 [(0, .ref a5), (1, .int x6), (2, .int x7)] [] μ0 none μ' := fun μ0 a5 x6 x7 hf => ih0 μ0 a5 x6 x7 hf
    rw [f_X12_test_L9] at hf
    refine E_iload_n (pc := 9) dX12_test_9 rfl ?_
    refine E_if_eq (pc := 10) (tgt := 202) dX12_test_10 (by decide) hf (fun hf => ?_) (fun hf => ?_)
    · refine Ev.sub [] rfl ?_
      exact hK202 _ hf
    · refine E_aload_n (pc := 13) dX12_test_13 rfl ?_
      refine E_getI (pc := 14) dX12_test_14 fl_X12_214 hf (fun v8 hf => ?_)
      refine E_if_ne (pc := 17) (tgt := 202) dX12_test_17 (by decide) hf (fun hf => ?_) (fun hf => ?_)
      · refine E_iload_n (pc := 20) dX12_test_20 rfl ?_
        refine E_if_eq (pc := 21) (tgt := 40) dX12_test_21 (by decide) hf (fun hf => ?_) (fun hf => ?_)
        · refine E_aload_n (pc := 40) dX12_test_40 rfl ?_
          refine E_bipush (pc := 41) (v := (9 : Int32)) dX12_test_41 (by decide) ?_
          refine E_Vv (pc := 43) (d2 := D_X12_answers) (ci := 12) [.int (9 : Int32)] dX12_test_43 ml_X12_304 mf_X12_answers im_X12_answers rfl rfl rfl (by decide) (Nat.le_of_ble_eq_true rfl) (Nat.le_of_ble_eq_true rfl) rfl (fun _ h => f_X12_answers_ok h) hf (fun μ9 hf => ?_)
          refine E_aload_n (pc := 46) dX12_test_46 rfl ?_
          refine E_Vv (pc := 47) (d2 := D_X12_blanks) (ci := 12) [] dX12_test_47 ml_X12_236 mf_X12_blanks im_X12_blanks rfl rfl rfl (by decide) (Nat.le_of_ble_eq_true rfl) (Nat.le_of_ble_eq_true rfl) rfl (fun _ h => f_X12_blanks_ok h) hf (fun μ10 hf => ?_)
          refine E_aload_n (pc := 50) dX12_test_50 rfl ?_
          refine E_ldcwS (pc := 51) (30 : Nat) dX12_test_51 (by decide) ⟨rfl, rfl⟩ ?_
          refine E_Vi (pc := 54) (d2 := D_X12_stood) (ci := 12) [.ref (30 : Nat)] dX12_test_54 ml_X12_239 mf_X12_stood im_X12_stood rfl rfl rfl (by decide) (Nat.le_of_ble_eq_true rfl) (Nat.le_of_ble_eq_true rfl) rfl (fun _ _ h => f_X12_stood_ok h) hf (fun v12 μ11 hf => ?_)
          refine E_istore_n (pc := 57) (ls' := fun x13 => [(3, .int x13), (0, .ref a5), (1, .int x6), (2, .int x7)]) dX12_test_57 (by decide) (fun _ => rfl) hf (fun x13 hf => ?_)
          refine E_aload_n (pc := 58) dX12_test_58 rfl ?_
          refine E_ldcwS (pc := 59) (31 : Nat) dX12_test_59 (by decide) ⟨rfl, rfl⟩ ?_
          refine E_Vi (pc := 62) (d2 := D_X12_stood) (ci := 12) [.ref (31 : Nat)] dX12_test_62 ml_X12_239 mf_X12_stood im_X12_stood rfl rfl rfl (by decide) (Nat.le_of_ble_eq_true rfl) (Nat.le_of_ble_eq_true rfl) rfl (fun _ _ h => f_X12_stood_ok h) hf (fun v15 μ14 hf => ?_)
          refine E_istore (pc := 65) (ls' := fun x16 => [(4, .int x16), (3, .int x13), (0, .ref a5), (1, .int x6), (2, .int x7)]) dX12_test_65 (by decide) (fun _ => rfl) hf (fun x16 hf => ?_)
          refine E_aload_n (pc := 67) dX12_test_67 rfl ?_
          refine E_bipush (pc := 68) (v := (10 : Int32)) dX12_test_68 (by decide) ?_
          refine E_Vv (pc := 70) (d2 := D_X12_answers) (ci := 12) [.int (10 : Int32)] dX12_test_70 ml_X12_304 mf_X12_answers im_X12_answers rfl rfl rfl (by decide) (Nat.le_of_ble_eq_true rfl) (Nat.le_of_ble_eq_true rfl) rfl (fun _ h => f_X12_answers_ok h) hf (fun μ17 hf => ?_)
          refine E_iload_n (pc := 73) dX12_test_73 rfl ?_
          refine E_if_ne (pc := 74) (tgt := 82) dX12_test_74 (by decide) hf (fun hf => ?_) (fun hf => ?_)
          · refine E_iload (pc := 77) dX12_test_77 rfl ?_
            refine E_if_eq (pc := 79) (tgt := 131) dX12_test_79 (by decide) hf (fun hf => ?_) (fun hf => ?_)
            · refine E_aload_n (pc := 131) dX12_test_131 rfl ?_
              refine E_bipush (pc := 132) (v := (11 : Int32)) dX12_test_132 (by decide) ?_
              refine E_Vv (pc := 134) (d2 := D_X12_answers) (ci := 12) [.int (11 : Int32)] dX12_test_134 ml_X12_304 mf_X12_answers im_X12_answers rfl rfl rfl (by decide) (Nat.le_of_ble_eq_true rfl) (Nat.le_of_ble_eq_true rfl) rfl (fun _ h => f_X12_answers_ok h) hf (fun μ18 hf => ?_)
              refine E_aload_n (pc := 137) dX12_test_137 rfl ?_
              refine E_Vi (pc := 138) (d2 := D_X12_top) (ci := 12) [] dX12_test_138 ml_X12_290 mf_X12_top im_X12_top rfl rfl rfl (by decide) (Nat.le_of_ble_eq_true rfl) (Nat.le_of_ble_eq_true rfl) rfl (fun _ _ h => f_X12_top_ok h) hf (fun v20 μ19 hf => ?_)
              refine E_bipush (pc := 141) (v := (12 : Int32)) dX12_test_141 (by decide) ?_
              refine E_icmp_ne (pc := 143) (tgt := 197) dX12_test_143 (by decide) hf (fun hf => ?_) (fun hf => ?_)
              · refine E_aload_n (pc := 146) dX12_test_146 rfl ?_
                refine E_Vi (pc := 147) (d2 := D_X12_sign) (ci := 12) [] dX12_test_147 ml_X12_220 mf_X12_sign im_X12_sign rfl rfl rfl (by decide) (Nat.le_of_ble_eq_true rfl) (Nat.le_of_ble_eq_true rfl) rfl (fun _ _ h => f_X12_sign_ok h) hf (fun v22 μ21 hf => ?_)
                refine E_bipush (pc := 150) (v := (93 : Int32)) dX12_test_150 (by decide) ?_
                refine E_icmp_eq (pc := 152) (tgt := 164) dX12_test_152 (by decide) hf (fun hf => ?_) (fun hf => ?_)
                · refine E_aload_n (pc := 164) dX12_test_164 rfl ?_
                  refine E_dup (pc := 165) dX12_test_165 rfl ?_
                  refine E_getI (pc := 166) dX12_test_166 fl_X12_217 hf (fun v23 hf => ?_)
                  refine E_iconst (pc := 169) (v := (1 : Int32)) dX12_test_169 (by decide) ?_
                  refine E_iadd (pc := 170) dX12_test_170 ?_
                  refine E_putI (pc := 171) dX12_test_171 (pl_X12_217 _) hf (fun μ24 hf => ?_)
                  refine E_aload_n (pc := 174) dX12_test_174 rfl ?_
                  refine E_dup (pc := 175) dX12_test_175 rfl ?_
                  refine E_getI (pc := 176) dX12_test_176 fl_X12_284 hf (fun v25 hf => ?_)
                  refine E_iconst (pc := 179) (v := (1 : Int32)) dX12_test_179 (by decide) ?_
                  refine E_isub (pc := 180) dX12_test_180 ?_
                  refine E_putI (pc := 181) dX12_test_181 (pl_X12_284 _) hf (fun μ26 hf => ?_)
                  refine E_aload_n (pc := 184) dX12_test_184 rfl ?_
                  refine E_dup (pc := 185) dX12_test_185 rfl ?_
                  refine E_getI (pc := 186) dX12_test_186 fl_X12_287 hf (fun v27 hf => ?_)
                  refine E_iconst (pc := 189) (v := (1 : Int32)) dX12_test_189 (by decide) ?_
                  refine E_isub (pc := 190) dX12_test_190 ?_
                  refine E_putI (pc := 191) dX12_test_191 (pl_X12_287 _) hf (fun μ28 hf => ?_)
                  refine E_goto (pc := 194) (tgt := 199) dX12_test_194 (by decide) ?_
                  refine E_goto (pc := 199) (tgt := 9) dX12_test_199 (by decide) ?_
                  refine Ev.sub [2, 3, 4] rfl ?_
                  exact ih _ _ _ _ hf
                · refine E_aload_n (pc := 155) dX12_test_155 rfl ?_
                  refine E_iconst (pc := 156) (v := (0 : Int32)) dX12_test_156 (by decide) ?_
                  refine E_aload_n (pc := 157) dX12_test_157 rfl ?_
                  refine E_getI (pc := 158) dX12_test_158 fl_X12_217 hf (fun v29 hf => ?_)
                  refine E_Vv (pc := 161) (d2 := D_X12_fails) (ci := 12) [.int (0 : Int32), .int v29] dX12_test_161 ml_X12_252 mf_X12_fails im_X12_fails rfl rfl rfl (by decide) (Nat.le_of_ble_eq_true rfl) (Nat.le_of_ble_eq_true rfl) rfl (fun _ h => f_X12_fails_ok h) hf (fun μ30 hf => ?_)
                  refine E_aload_n (pc := 164) dX12_test_164 rfl ?_
                  refine E_dup (pc := 165) dX12_test_165 rfl ?_
                  refine E_getI (pc := 166) dX12_test_166 fl_X12_217 hf (fun v31 hf => ?_)
                  refine E_iconst (pc := 169) (v := (1 : Int32)) dX12_test_169 (by decide) ?_
                  refine E_iadd (pc := 170) dX12_test_170 ?_
                  refine E_putI (pc := 171) dX12_test_171 (pl_X12_217 _) hf (fun μ32 hf => ?_)
                  refine E_aload_n (pc := 174) dX12_test_174 rfl ?_
                  refine E_dup (pc := 175) dX12_test_175 rfl ?_
                  refine E_getI (pc := 176) dX12_test_176 fl_X12_284 hf (fun v33 hf => ?_)
                  refine E_iconst (pc := 179) (v := (1 : Int32)) dX12_test_179 (by decide) ?_
                  refine E_isub (pc := 180) dX12_test_180 ?_
                  refine E_putI (pc := 181) dX12_test_181 (pl_X12_284 _) hf (fun μ34 hf => ?_)
                  refine E_aload_n (pc := 184) dX12_test_184 rfl ?_
                  refine E_dup (pc := 185) dX12_test_185 rfl ?_
                  refine E_getI (pc := 186) dX12_test_186 fl_X12_287 hf (fun v35 hf => ?_)
                  refine E_iconst (pc := 189) (v := (1 : Int32)) dX12_test_189 (by decide) ?_
                  refine E_isub (pc := 190) dX12_test_190 ?_
                  refine E_putI (pc := 191) dX12_test_191 (pl_X12_287 _) hf (fun μ36 hf => ?_)
                  refine E_goto (pc := 194) (tgt := 199) dX12_test_194 (by decide) ?_
                  refine E_goto (pc := 199) (tgt := 9) dX12_test_199 (by decide) ?_
                  refine Ev.sub [2, 3, 4] rfl ?_
                  exact ih _ _ _ _ hf
              · refine E_iconst (pc := 197) (v := (0 : Int32)) dX12_test_197 (by decide) ?_
                refine E_istore_n (pc := 198) (ls' := fun x37 => [(2, .int x37), (4, .int x16), (3, .int x13), (0, .ref a5), (1, .int x6)]) dX12_test_198 (by decide) (fun _ => rfl) hf (fun x37 hf => ?_)
                refine E_goto (pc := 199) (tgt := 9) dX12_test_199 (by decide) ?_
                refine Ev.sub [3, 4, 0] rfl ?_
                exact ih _ _ _ _ hf
            · refine E_iload (pc := 82) dX12_test_82 rfl ?_
              refine E_if_eq (pc := 84) (tgt := 93) dX12_test_84 (by decide) hf (fun hf => ?_) (fun hf => ?_)
              · refine E_aload_n (pc := 93) dX12_test_93 rfl ?_
                refine E_iload_n (pc := 94) dX12_test_94 rfl ?_
                refine E_if_eq (pc := 95) (tgt := 103) dX12_test_95 (by decide) hf (fun hf => ?_) (fun hf => ?_)
                · refine E_bipush (pc := 103) (v := (11 : Int32)) dX12_test_103 (by decide) ?_
                  refine E_Vv (pc := 105) (d2 := D_X12_opens) (ci := 12) [.int (11 : Int32)] dX12_test_105 ml_X12_295 mf_X12_opens im_X12_opens rfl rfl rfl (by decide) (Nat.le_of_ble_eq_true rfl) (Nat.le_of_ble_eq_true rfl) rfl (fun _ h => f_X12_opens_ok h) hf (fun μ38 hf => ?_)
                  refine E_aload_n (pc := 108) dX12_test_108 rfl ?_
                  refine E_dup (pc := 109) dX12_test_109 rfl ?_
                  refine E_getI (pc := 110) dX12_test_110 fl_X12_217 hf (fun v39 hf => ?_)
                  refine E_iload_n (pc := 113) dX12_test_113 rfl ?_
                  refine E_if_eq (pc := 114) (tgt := 121) dX12_test_114 (by decide) hf (fun hf => ?_) (fun hf => ?_)
                  · refine E_iconst (pc := 121) (v := (2 : Int32)) dX12_test_121 (by decide) ?_
                    refine E_iadd (pc := 122) dX12_test_122 ?_
                    refine E_putI (pc := 123) dX12_test_123 (pl_X12_217 _) hf (fun μ40 hf => ?_)
                    refine E_iconst (pc := 126) (v := (1 : Int32)) dX12_test_126 (by decide) ?_
                    refine E_istore_n (pc := 127) (ls' := fun x41 => [(1, .int x41), (4, .int x16), (3, .int x13), (0, .ref a5), (2, .int x7)]) dX12_test_127 (by decide) (fun _ => rfl) hf (fun x41 hf => ?_)
                    refine E_goto (pc := 128) (tgt := 199) dX12_test_128 (by decide) ?_
                    refine E_goto (pc := 199) (tgt := 9) dX12_test_199 (by decide) ?_
                    refine Ev.sub [3, 0, 4] rfl ?_
                    exact ih _ _ _ _ hf
                  · refine E_iconst (pc := 117) (v := (3 : Int32)) dX12_test_117 (by decide) ?_
                    refine E_goto (pc := 118) (tgt := 122) dX12_test_118 (by decide) ?_
                    refine E_iadd (pc := 122) dX12_test_122 ?_
                    refine E_putI (pc := 123) dX12_test_123 (pl_X12_217 _) hf (fun μ42 hf => ?_)
                    refine E_iconst (pc := 126) (v := (1 : Int32)) dX12_test_126 (by decide) ?_
                    refine E_istore_n (pc := 127) (ls' := fun x43 => [(1, .int x43), (4, .int x16), (3, .int x13), (0, .ref a5), (2, .int x7)]) dX12_test_127 (by decide) (fun _ => rfl) hf (fun x43 hf => ?_)
                    refine E_goto (pc := 128) (tgt := 199) dX12_test_128 (by decide) ?_
                    refine E_goto (pc := 199) (tgt := 9) dX12_test_199 (by decide) ?_
                    refine Ev.sub [3, 0, 4] rfl ?_
                    exact ih _ _ _ _ hf
                · refine E_bipush (pc := 98) (v := (10 : Int32)) dX12_test_98 (by decide) ?_
                  refine E_goto (pc := 100) (tgt := 105) dX12_test_100 (by decide) ?_
                  refine E_Vv (pc := 105) (d2 := D_X12_opens) (ci := 12) [.int (10 : Int32)] dX12_test_105 ml_X12_295 mf_X12_opens im_X12_opens rfl rfl rfl (by decide) (Nat.le_of_ble_eq_true rfl) (Nat.le_of_ble_eq_true rfl) rfl (fun _ h => f_X12_opens_ok h) hf (fun μ44 hf => ?_)
                  refine E_aload_n (pc := 108) dX12_test_108 rfl ?_
                  refine E_dup (pc := 109) dX12_test_109 rfl ?_
                  refine E_getI (pc := 110) dX12_test_110 fl_X12_217 hf (fun v45 hf => ?_)
                  refine E_iload_n (pc := 113) dX12_test_113 rfl ?_
                  refine E_if_eq (pc := 114) (tgt := 121) dX12_test_114 (by decide) hf (fun hf => ?_) (fun hf => ?_)
                  · refine E_iconst (pc := 121) (v := (2 : Int32)) dX12_test_121 (by decide) ?_
                    refine E_iadd (pc := 122) dX12_test_122 ?_
                    refine E_putI (pc := 123) dX12_test_123 (pl_X12_217 _) hf (fun μ46 hf => ?_)
                    refine E_iconst (pc := 126) (v := (1 : Int32)) dX12_test_126 (by decide) ?_
                    refine E_istore_n (pc := 127) (ls' := fun x47 => [(1, .int x47), (4, .int x16), (3, .int x13), (0, .ref a5), (2, .int x7)]) dX12_test_127 (by decide) (fun _ => rfl) hf (fun x47 hf => ?_)
                    refine E_goto (pc := 128) (tgt := 199) dX12_test_128 (by decide) ?_
                    refine E_goto (pc := 199) (tgt := 9) dX12_test_199 (by decide) ?_
                    refine Ev.sub [3, 0, 4] rfl ?_
                    exact ih _ _ _ _ hf
                  · refine E_iconst (pc := 117) (v := (3 : Int32)) dX12_test_117 (by decide) ?_
                    refine E_goto (pc := 118) (tgt := 122) dX12_test_118 (by decide) ?_
                    refine E_iadd (pc := 122) dX12_test_122 ?_
                    refine E_putI (pc := 123) dX12_test_123 (pl_X12_217 _) hf (fun μ48 hf => ?_)
                    refine E_iconst (pc := 126) (v := (1 : Int32)) dX12_test_126 (by decide) ?_
                    refine E_istore_n (pc := 127) (ls' := fun x49 => [(1, .int x49), (4, .int x16), (3, .int x13), (0, .ref a5), (2, .int x7)]) dX12_test_127 (by decide) (fun _ => rfl) hf (fun x49 hf => ?_)
                    refine E_goto (pc := 128) (tgt := 199) dX12_test_128 (by decide) ?_
                    refine E_goto (pc := 199) (tgt := 9) dX12_test_199 (by decide) ?_
                    refine Ev.sub [3, 0, 4] rfl ?_
                    exact ih _ _ _ _ hf
              · refine E_aload_n (pc := 87) dX12_test_87 rfl ?_
                refine E_bipush (pc := 88) (v := (11 : Int32)) dX12_test_88 (by decide) ?_
                refine E_Vv (pc := 90) (d2 := D_X12_answers) (ci := 12) [.int (11 : Int32)] dX12_test_90 ml_X12_304 mf_X12_answers im_X12_answers rfl rfl rfl (by decide) (Nat.le_of_ble_eq_true rfl) (Nat.le_of_ble_eq_true rfl) rfl (fun _ h => f_X12_answers_ok h) hf (fun μ50 hf => ?_)
                refine E_aload_n (pc := 93) dX12_test_93 rfl ?_
                refine E_iload_n (pc := 94) dX12_test_94 rfl ?_
                refine E_if_eq (pc := 95) (tgt := 103) dX12_test_95 (by decide) hf (fun hf => ?_) (fun hf => ?_)
                · refine E_bipush (pc := 103) (v := (11 : Int32)) dX12_test_103 (by decide) ?_
                  refine E_Vv (pc := 105) (d2 := D_X12_opens) (ci := 12) [.int (11 : Int32)] dX12_test_105 ml_X12_295 mf_X12_opens im_X12_opens rfl rfl rfl (by decide) (Nat.le_of_ble_eq_true rfl) (Nat.le_of_ble_eq_true rfl) rfl (fun _ h => f_X12_opens_ok h) hf (fun μ51 hf => ?_)
                  refine E_aload_n (pc := 108) dX12_test_108 rfl ?_
                  refine E_dup (pc := 109) dX12_test_109 rfl ?_
                  refine E_getI (pc := 110) dX12_test_110 fl_X12_217 hf (fun v52 hf => ?_)
                  refine E_iload_n (pc := 113) dX12_test_113 rfl ?_
                  refine E_if_eq (pc := 114) (tgt := 121) dX12_test_114 (by decide) hf (fun hf => ?_) (fun hf => ?_)
                  · refine E_iconst (pc := 121) (v := (2 : Int32)) dX12_test_121 (by decide) ?_
                    refine E_iadd (pc := 122) dX12_test_122 ?_
                    refine E_putI (pc := 123) dX12_test_123 (pl_X12_217 _) hf (fun μ53 hf => ?_)
                    refine E_iconst (pc := 126) (v := (1 : Int32)) dX12_test_126 (by decide) ?_
                    refine E_istore_n (pc := 127) (ls' := fun x54 => [(1, .int x54), (4, .int x16), (3, .int x13), (0, .ref a5), (2, .int x7)]) dX12_test_127 (by decide) (fun _ => rfl) hf (fun x54 hf => ?_)
                    refine E_goto (pc := 128) (tgt := 199) dX12_test_128 (by decide) ?_
                    refine E_goto (pc := 199) (tgt := 9) dX12_test_199 (by decide) ?_
                    refine Ev.sub [3, 0, 4] rfl ?_
                    exact ih _ _ _ _ hf
                  · refine E_iconst (pc := 117) (v := (3 : Int32)) dX12_test_117 (by decide) ?_
                    refine E_goto (pc := 118) (tgt := 122) dX12_test_118 (by decide) ?_
                    refine E_iadd (pc := 122) dX12_test_122 ?_
                    refine E_putI (pc := 123) dX12_test_123 (pl_X12_217 _) hf (fun μ55 hf => ?_)
                    refine E_iconst (pc := 126) (v := (1 : Int32)) dX12_test_126 (by decide) ?_
                    refine E_istore_n (pc := 127) (ls' := fun x56 => [(1, .int x56), (4, .int x16), (3, .int x13), (0, .ref a5), (2, .int x7)]) dX12_test_127 (by decide) (fun _ => rfl) hf (fun x56 hf => ?_)
                    refine E_goto (pc := 128) (tgt := 199) dX12_test_128 (by decide) ?_
                    refine E_goto (pc := 199) (tgt := 9) dX12_test_199 (by decide) ?_
                    refine Ev.sub [3, 0, 4] rfl ?_
                    exact ih _ _ _ _ hf
                · refine E_bipush (pc := 98) (v := (10 : Int32)) dX12_test_98 (by decide) ?_
                  refine E_goto (pc := 100) (tgt := 105) dX12_test_100 (by decide) ?_
                  refine E_Vv (pc := 105) (d2 := D_X12_opens) (ci := 12) [.int (10 : Int32)] dX12_test_105 ml_X12_295 mf_X12_opens im_X12_opens rfl rfl rfl (by decide) (Nat.le_of_ble_eq_true rfl) (Nat.le_of_ble_eq_true rfl) rfl (fun _ h => f_X12_opens_ok h) hf (fun μ57 hf => ?_)
                  refine E_aload_n (pc := 108) dX12_test_108 rfl ?_
                  refine E_dup (pc := 109) dX12_test_109 rfl ?_
                  refine E_getI (pc := 110) dX12_test_110 fl_X12_217 hf (fun v58 hf => ?_)
                  refine E_iload_n (pc := 113) dX12_test_113 rfl ?_
                  refine E_if_eq (pc := 114) (tgt := 121) dX12_test_114 (by decide) hf (fun hf => ?_) (fun hf => ?_)
                  · refine E_iconst (pc := 121) (v := (2 : Int32)) dX12_test_121 (by decide) ?_
                    refine E_iadd (pc := 122) dX12_test_122 ?_
                    refine E_putI (pc := 123) dX12_test_123 (pl_X12_217 _) hf (fun μ59 hf => ?_)
                    refine E_iconst (pc := 126) (v := (1 : Int32)) dX12_test_126 (by decide) ?_
                    refine E_istore_n (pc := 127) (ls' := fun x60 => [(1, .int x60), (4, .int x16), (3, .int x13), (0, .ref a5), (2, .int x7)]) dX12_test_127 (by decide) (fun _ => rfl) hf (fun x60 hf => ?_)
                    refine E_goto (pc := 128) (tgt := 199) dX12_test_128 (by decide) ?_
                    refine E_goto (pc := 199) (tgt := 9) dX12_test_199 (by decide) ?_
                    refine Ev.sub [3, 0, 4] rfl ?_
                    exact ih _ _ _ _ hf
                  · refine E_iconst (pc := 117) (v := (3 : Int32)) dX12_test_117 (by decide) ?_
                    refine E_goto (pc := 118) (tgt := 122) dX12_test_118 (by decide) ?_
                    refine E_iadd (pc := 122) dX12_test_122 ?_
                    refine E_putI (pc := 123) dX12_test_123 (pl_X12_217 _) hf (fun μ61 hf => ?_)
                    refine E_iconst (pc := 126) (v := (1 : Int32)) dX12_test_126 (by decide) ?_
                    refine E_istore_n (pc := 127) (ls' := fun x62 => [(1, .int x62), (4, .int x16), (3, .int x13), (0, .ref a5), (2, .int x7)]) dX12_test_127 (by decide) (fun _ => rfl) hf (fun x62 hf => ?_)
                    refine E_goto (pc := 128) (tgt := 199) dX12_test_128 (by decide) ?_
                    refine E_goto (pc := 199) (tgt := 9) dX12_test_199 (by decide) ?_
                    refine Ev.sub [3, 0, 4] rfl ?_
                    exact ih _ _ _ _ hf
          · refine E_iload (pc := 82) dX12_test_82 rfl ?_
            refine E_if_eq (pc := 84) (tgt := 93) dX12_test_84 (by decide) hf (fun hf => ?_) (fun hf => ?_)
            · refine E_aload_n (pc := 93) dX12_test_93 rfl ?_
              refine E_iload_n (pc := 94) dX12_test_94 rfl ?_
              refine E_if_eq (pc := 95) (tgt := 103) dX12_test_95 (by decide) hf (fun hf => ?_) (fun hf => ?_)
              · refine E_bipush (pc := 103) (v := (11 : Int32)) dX12_test_103 (by decide) ?_
                refine E_Vv (pc := 105) (d2 := D_X12_opens) (ci := 12) [.int (11 : Int32)] dX12_test_105 ml_X12_295 mf_X12_opens im_X12_opens rfl rfl rfl (by decide) (Nat.le_of_ble_eq_true rfl) (Nat.le_of_ble_eq_true rfl) rfl (fun _ h => f_X12_opens_ok h) hf (fun μ63 hf => ?_)
                refine E_aload_n (pc := 108) dX12_test_108 rfl ?_
                refine E_dup (pc := 109) dX12_test_109 rfl ?_
                refine E_getI (pc := 110) dX12_test_110 fl_X12_217 hf (fun v64 hf => ?_)
                refine E_iload_n (pc := 113) dX12_test_113 rfl ?_
                refine E_if_eq (pc := 114) (tgt := 121) dX12_test_114 (by decide) hf (fun hf => ?_) (fun hf => ?_)
                · refine E_iconst (pc := 121) (v := (2 : Int32)) dX12_test_121 (by decide) ?_
                  refine E_iadd (pc := 122) dX12_test_122 ?_
                  refine E_putI (pc := 123) dX12_test_123 (pl_X12_217 _) hf (fun μ65 hf => ?_)
                  refine E_iconst (pc := 126) (v := (1 : Int32)) dX12_test_126 (by decide) ?_
                  refine E_istore_n (pc := 127) (ls' := fun x66 => [(1, .int x66), (4, .int x16), (3, .int x13), (0, .ref a5), (2, .int x7)]) dX12_test_127 (by decide) (fun _ => rfl) hf (fun x66 hf => ?_)
                  refine E_goto (pc := 128) (tgt := 199) dX12_test_128 (by decide) ?_
                  refine E_goto (pc := 199) (tgt := 9) dX12_test_199 (by decide) ?_
                  refine Ev.sub [3, 0, 4] rfl ?_
                  exact ih _ _ _ _ hf
                · refine E_iconst (pc := 117) (v := (3 : Int32)) dX12_test_117 (by decide) ?_
                  refine E_goto (pc := 118) (tgt := 122) dX12_test_118 (by decide) ?_
                  refine E_iadd (pc := 122) dX12_test_122 ?_
                  refine E_putI (pc := 123) dX12_test_123 (pl_X12_217 _) hf (fun μ67 hf => ?_)
                  refine E_iconst (pc := 126) (v := (1 : Int32)) dX12_test_126 (by decide) ?_
                  refine E_istore_n (pc := 127) (ls' := fun x68 => [(1, .int x68), (4, .int x16), (3, .int x13), (0, .ref a5), (2, .int x7)]) dX12_test_127 (by decide) (fun _ => rfl) hf (fun x68 hf => ?_)
                  refine E_goto (pc := 128) (tgt := 199) dX12_test_128 (by decide) ?_
                  refine E_goto (pc := 199) (tgt := 9) dX12_test_199 (by decide) ?_
                  refine Ev.sub [3, 0, 4] rfl ?_
                  exact ih _ _ _ _ hf
              · refine E_bipush (pc := 98) (v := (10 : Int32)) dX12_test_98 (by decide) ?_
                refine E_goto (pc := 100) (tgt := 105) dX12_test_100 (by decide) ?_
                refine E_Vv (pc := 105) (d2 := D_X12_opens) (ci := 12) [.int (10 : Int32)] dX12_test_105 ml_X12_295 mf_X12_opens im_X12_opens rfl rfl rfl (by decide) (Nat.le_of_ble_eq_true rfl) (Nat.le_of_ble_eq_true rfl) rfl (fun _ h => f_X12_opens_ok h) hf (fun μ69 hf => ?_)
                refine E_aload_n (pc := 108) dX12_test_108 rfl ?_
                refine E_dup (pc := 109) dX12_test_109 rfl ?_
                refine E_getI (pc := 110) dX12_test_110 fl_X12_217 hf (fun v70 hf => ?_)
                refine E_iload_n (pc := 113) dX12_test_113 rfl ?_
                refine E_if_eq (pc := 114) (tgt := 121) dX12_test_114 (by decide) hf (fun hf => ?_) (fun hf => ?_)
                · refine E_iconst (pc := 121) (v := (2 : Int32)) dX12_test_121 (by decide) ?_
                  refine E_iadd (pc := 122) dX12_test_122 ?_
                  refine E_putI (pc := 123) dX12_test_123 (pl_X12_217 _) hf (fun μ71 hf => ?_)
                  refine E_iconst (pc := 126) (v := (1 : Int32)) dX12_test_126 (by decide) ?_
                  refine E_istore_n (pc := 127) (ls' := fun x72 => [(1, .int x72), (4, .int x16), (3, .int x13), (0, .ref a5), (2, .int x7)]) dX12_test_127 (by decide) (fun _ => rfl) hf (fun x72 hf => ?_)
                  refine E_goto (pc := 128) (tgt := 199) dX12_test_128 (by decide) ?_
                  refine E_goto (pc := 199) (tgt := 9) dX12_test_199 (by decide) ?_
                  refine Ev.sub [3, 0, 4] rfl ?_
                  exact ih _ _ _ _ hf
                · refine E_iconst (pc := 117) (v := (3 : Int32)) dX12_test_117 (by decide) ?_
                  refine E_goto (pc := 118) (tgt := 122) dX12_test_118 (by decide) ?_
                  refine E_iadd (pc := 122) dX12_test_122 ?_
                  refine E_putI (pc := 123) dX12_test_123 (pl_X12_217 _) hf (fun μ73 hf => ?_)
                  refine E_iconst (pc := 126) (v := (1 : Int32)) dX12_test_126 (by decide) ?_
                  refine E_istore_n (pc := 127) (ls' := fun x74 => [(1, .int x74), (4, .int x16), (3, .int x13), (0, .ref a5), (2, .int x7)]) dX12_test_127 (by decide) (fun _ => rfl) hf (fun x74 hf => ?_)
                  refine E_goto (pc := 128) (tgt := 199) dX12_test_128 (by decide) ?_
                  refine E_goto (pc := 199) (tgt := 9) dX12_test_199 (by decide) ?_
                  refine Ev.sub [3, 0, 4] rfl ?_
                  exact ih _ _ _ _ hf
            · refine E_aload_n (pc := 87) dX12_test_87 rfl ?_
              refine E_bipush (pc := 88) (v := (11 : Int32)) dX12_test_88 (by decide) ?_
              refine E_Vv (pc := 90) (d2 := D_X12_answers) (ci := 12) [.int (11 : Int32)] dX12_test_90 ml_X12_304 mf_X12_answers im_X12_answers rfl rfl rfl (by decide) (Nat.le_of_ble_eq_true rfl) (Nat.le_of_ble_eq_true rfl) rfl (fun _ h => f_X12_answers_ok h) hf (fun μ75 hf => ?_)
              refine E_aload_n (pc := 93) dX12_test_93 rfl ?_
              refine E_iload_n (pc := 94) dX12_test_94 rfl ?_
              refine E_if_eq (pc := 95) (tgt := 103) dX12_test_95 (by decide) hf (fun hf => ?_) (fun hf => ?_)
              · refine E_bipush (pc := 103) (v := (11 : Int32)) dX12_test_103 (by decide) ?_
                refine E_Vv (pc := 105) (d2 := D_X12_opens) (ci := 12) [.int (11 : Int32)] dX12_test_105 ml_X12_295 mf_X12_opens im_X12_opens rfl rfl rfl (by decide) (Nat.le_of_ble_eq_true rfl) (Nat.le_of_ble_eq_true rfl) rfl (fun _ h => f_X12_opens_ok h) hf (fun μ76 hf => ?_)
                refine E_aload_n (pc := 108) dX12_test_108 rfl ?_
                refine E_dup (pc := 109) dX12_test_109 rfl ?_
                refine E_getI (pc := 110) dX12_test_110 fl_X12_217 hf (fun v77 hf => ?_)
                refine E_iload_n (pc := 113) dX12_test_113 rfl ?_
                refine E_if_eq (pc := 114) (tgt := 121) dX12_test_114 (by decide) hf (fun hf => ?_) (fun hf => ?_)
                · refine E_iconst (pc := 121) (v := (2 : Int32)) dX12_test_121 (by decide) ?_
                  refine E_iadd (pc := 122) dX12_test_122 ?_
                  refine E_putI (pc := 123) dX12_test_123 (pl_X12_217 _) hf (fun μ78 hf => ?_)
                  refine E_iconst (pc := 126) (v := (1 : Int32)) dX12_test_126 (by decide) ?_
                  refine E_istore_n (pc := 127) (ls' := fun x79 => [(1, .int x79), (4, .int x16), (3, .int x13), (0, .ref a5), (2, .int x7)]) dX12_test_127 (by decide) (fun _ => rfl) hf (fun x79 hf => ?_)
                  refine E_goto (pc := 128) (tgt := 199) dX12_test_128 (by decide) ?_
                  refine E_goto (pc := 199) (tgt := 9) dX12_test_199 (by decide) ?_
                  refine Ev.sub [3, 0, 4] rfl ?_
                  exact ih _ _ _ _ hf
                · refine E_iconst (pc := 117) (v := (3 : Int32)) dX12_test_117 (by decide) ?_
                  refine E_goto (pc := 118) (tgt := 122) dX12_test_118 (by decide) ?_
                  refine E_iadd (pc := 122) dX12_test_122 ?_
                  refine E_putI (pc := 123) dX12_test_123 (pl_X12_217 _) hf (fun μ80 hf => ?_)
                  refine E_iconst (pc := 126) (v := (1 : Int32)) dX12_test_126 (by decide) ?_
                  refine E_istore_n (pc := 127) (ls' := fun x81 => [(1, .int x81), (4, .int x16), (3, .int x13), (0, .ref a5), (2, .int x7)]) dX12_test_127 (by decide) (fun _ => rfl) hf (fun x81 hf => ?_)
                  refine E_goto (pc := 128) (tgt := 199) dX12_test_128 (by decide) ?_
                  refine E_goto (pc := 199) (tgt := 9) dX12_test_199 (by decide) ?_
                  refine Ev.sub [3, 0, 4] rfl ?_
                  exact ih _ _ _ _ hf
              · refine E_bipush (pc := 98) (v := (10 : Int32)) dX12_test_98 (by decide) ?_
                refine E_goto (pc := 100) (tgt := 105) dX12_test_100 (by decide) ?_
                refine E_Vv (pc := 105) (d2 := D_X12_opens) (ci := 12) [.int (10 : Int32)] dX12_test_105 ml_X12_295 mf_X12_opens im_X12_opens rfl rfl rfl (by decide) (Nat.le_of_ble_eq_true rfl) (Nat.le_of_ble_eq_true rfl) rfl (fun _ h => f_X12_opens_ok h) hf (fun μ82 hf => ?_)
                refine E_aload_n (pc := 108) dX12_test_108 rfl ?_
                refine E_dup (pc := 109) dX12_test_109 rfl ?_
                refine E_getI (pc := 110) dX12_test_110 fl_X12_217 hf (fun v83 hf => ?_)
                refine E_iload_n (pc := 113) dX12_test_113 rfl ?_
                refine E_if_eq (pc := 114) (tgt := 121) dX12_test_114 (by decide) hf (fun hf => ?_) (fun hf => ?_)
                · refine E_iconst (pc := 121) (v := (2 : Int32)) dX12_test_121 (by decide) ?_
                  refine E_iadd (pc := 122) dX12_test_122 ?_
                  refine E_putI (pc := 123) dX12_test_123 (pl_X12_217 _) hf (fun μ84 hf => ?_)
                  refine E_iconst (pc := 126) (v := (1 : Int32)) dX12_test_126 (by decide) ?_
                  refine E_istore_n (pc := 127) (ls' := fun x85 => [(1, .int x85), (4, .int x16), (3, .int x13), (0, .ref a5), (2, .int x7)]) dX12_test_127 (by decide) (fun _ => rfl) hf (fun x85 hf => ?_)
                  refine E_goto (pc := 128) (tgt := 199) dX12_test_128 (by decide) ?_
                  refine E_goto (pc := 199) (tgt := 9) dX12_test_199 (by decide) ?_
                  refine Ev.sub [3, 0, 4] rfl ?_
                  exact ih _ _ _ _ hf
                · refine E_iconst (pc := 117) (v := (3 : Int32)) dX12_test_117 (by decide) ?_
                  refine E_goto (pc := 118) (tgt := 122) dX12_test_118 (by decide) ?_
                  refine E_iadd (pc := 122) dX12_test_122 ?_
                  refine E_putI (pc := 123) dX12_test_123 (pl_X12_217 _) hf (fun μ86 hf => ?_)
                  refine E_iconst (pc := 126) (v := (1 : Int32)) dX12_test_126 (by decide) ?_
                  refine E_istore_n (pc := 127) (ls' := fun x87 => [(1, .int x87), (4, .int x16), (3, .int x13), (0, .ref a5), (2, .int x7)]) dX12_test_127 (by decide) (fun _ => rfl) hf (fun x87 hf => ?_)
                  refine E_goto (pc := 128) (tgt := 199) dX12_test_128 (by decide) ?_
                  refine E_goto (pc := 199) (tgt := 9) dX12_test_199 (by decide) ?_
                  refine Ev.sub [3, 0, 4] rfl ?_
                  exact ih _ _ _ _ hf
        · refine E_aload_n (pc := 24) dX12_test_24 rfl ?_
          refine E_Vi (pc := 25) (d2 := D_X12_fact) (ci := 12) [] dX12_test_25 ml_X12_301 mf_X12_fact im_X12_fact rfl rfl rfl (by decide) (Nat.le_of_ble_eq_true rfl) (Nat.le_of_ble_eq_true rfl) rfl (fun _ _ h => f_X12_fact_ok h) hf (fun v89 μ88 hf => ?_)
          refine E_if_ne (pc := 28) (tgt := 35) dX12_test_28 (by decide) hf (fun hf => ?_) (fun hf => ?_)
          · refine E_iconst (pc := 31) (v := (1 : Int32)) dX12_test_31 (by decide) ?_
            refine E_goto (pc := 32) (tgt := 36) dX12_test_32 (by decide) ?_
            refine E_istore_n (pc := 36) (ls' := fun x90 => [(1, .int x90), (0, .ref a5), (2, .int x7)]) dX12_test_36 (by decide) (fun _ => rfl) hf (fun x90 hf => ?_)
            refine E_goto (pc := 37) (tgt := 9) dX12_test_37 (by decide) ?_
            refine Ev.sub [1, 0, 2] rfl ?_
            exact ih _ _ _ _ hf
          · refine E_iconst (pc := 35) (v := (0 : Int32)) dX12_test_35 (by decide) ?_
            refine E_istore_n (pc := 36) (ls' := fun x91 => [(1, .int x91), (0, .ref a5), (2, .int x7)]) dX12_test_36 (by decide) (fun _ => rfl) hf (fun x91 hf => ?_)
            refine E_goto (pc := 37) (tgt := 9) dX12_test_37 (by decide) ?_
            refine Ev.sub [1, 0, 2] rfl ?_
            exact ih _ _ _ _ hf
      · refine Ev.sub [] rfl ?_
        exact hK202 _ hf
set_option maxRecDepth 100000 in
def f_X12_test (μ0 : Mm) (a1 : Nat) : Option Mm :=
 ((pV μ0 a1 12 36 (.int (0 : Int32))).bind fun μ2 =>
    (nm (1 : Int32) fun x3 =>
    (nm (1 : Int32) fun x4 =>
    f_X12_test_L9 (fun μ92 =>
    (some μ92)) FU μ2 a1 x3 x4)))
set_option maxHeartbeats 4000000 in
set_option maxRecDepth 100000 in
theorem f_X12_test_ok {l : Launch} {G : GG} {μ0 : Mm} {a1 : Nat} {μ' : Mm} (hf : f_X12_test μ0 a1 = some μ') : EvM l G D_X12_test yX12_test cX12_test 5 none [.ref a1] μ0 none μ' := by
  show Ev l G D_X12_test yX12_test cX12_test 5 none 0 [(0, .ref a1)] [] μ0 none μ'
  unfold f_X12_test at hf
  refine E_aload_n (pc := 0) dX12_test_0 rfl ?_
  refine E_iconst (pc := 1) (v := (0 : Int32)) dX12_test_1 (by decide) ?_
  refine E_putI (pc := 2) dX12_test_2 (pl_X12_284 _) hf (fun μ2 hf => ?_)
  refine E_iconst (pc := 5) (v := (1 : Int32)) dX12_test_5 (by decide) ?_
  refine E_istore_n (pc := 6) (ls' := fun x3 => [(1, .int x3), (0, .ref a1)]) dX12_test_6 (by decide) (fun _ => rfl) hf (fun x3 hf => ?_)
  refine E_iconst (pc := 7) (v := (1 : Int32)) dX12_test_7 (by decide) ?_
  refine E_istore_n (pc := 8) (ls' := fun x4 => [(2, .int x4), (1, .int x3), (0, .ref a1)]) dX12_test_8 (by decide) (fun _ => rfl) hf (fun x4 hf => ?_)
  refine Ev.sub [2, 1, 0] rfl ?_
  refine f_X12_test_L9_ok  _ _ _ _ _ hf (fun μ92 hf => ?_)
  · exact E_vret (pc := 202) dX12_test_202 rfl hf
theorem dX12_amount_0 : decode cX12_amount 0 = .ok (.aload_n 0, 1) := by decide +kernel
theorem dX12_amount_1 : decode cX12_amount 1 = .ok (.invokevirtual 236, 3) := by decide +kernel
theorem dX12_amount_4 : decode cX12_amount 4 = .ok (.aload_n 0, 1) := by decide +kernel
theorem dX12_amount_5 : decode cX12_amount 5 = .ok (.getfield 217, 3) := by decide +kernel
theorem dX12_amount_8 : decode cX12_amount 8 = .ok (.istore_n 3, 1) := by decide +kernel
theorem dX12_amount_9 : decode cX12_amount 9 = .ok (.aload_n 0, 1) := by decide +kernel
theorem dX12_amount_10 : decode cX12_amount 10 = .ok (.getfield 214, 3) := by decide +kernel
theorem dX12_amount_13 : decode cX12_amount 13 = .ok (.ifCond .ne 13, 3) := by decide +kernel
theorem dX12_amount_16 : decode cX12_amount 16 = .ok (.aload_n 0, 1) := by decide +kernel
theorem dX12_amount_17 : decode cX12_amount 17 = .ok (.ldc_w 260, 3) := by decide +kernel
theorem dX12_amount_20 : decode cX12_amount 20 = .ok (.invokevirtual 261, 3) := by decide +kernel
theorem dX12_amount_23 : decode cX12_amount 23 = .ok (.goto 4, 3) := by decide +kernel
theorem dX12_amount_26 : decode cX12_amount 26 = .ok (.iconst 0, 1) := by decide +kernel
theorem dX12_amount_27 : decode cX12_amount 27 = .ok (.istore 4, 2) := by decide +kernel
theorem dX12_amount_29 : decode cX12_amount 29 = .ok (.aload_n 0, 1) := by decide +kernel
theorem dX12_amount_30 : decode cX12_amount 30 = .ok (.getfield 214, 3) := by decide +kernel
theorem dX12_amount_33 : decode cX12_amount 33 = .ok (.ifCond .ne 22, 3) := by decide +kernel
theorem dX12_amount_36 : decode cX12_amount 36 = .ok (.iload 4, 2) := by decide +kernel
theorem dX12_amount_38 : decode cX12_amount 38 = .ok (.i2l, 1) := by decide +kernel
theorem dX12_amount_39 : decode cX12_amount 39 = .ok (.iload_n 1, 1) := by decide +kernel
theorem dX12_amount_40 : decode cX12_amount 40 = .ok (.i2l, 1) := by decide +kernel
theorem dX12_amount_41 : decode cX12_amount 41 = .ok (.iload_n 2, 1) := by decide +kernel
theorem dX12_amount_42 : decode cX12_amount 42 = .ok (.i2l, 1) := by decide +kernel
theorem dX12_amount_43 : decode cX12_amount 43 = .ok (.invokestatic 183, 3) := by decide +kernel
theorem dX12_amount_46 : decode cX12_amount 46 = .ok (.ifCond .ne 9, 3) := by decide +kernel
theorem dX12_amount_49 : decode cX12_amount 49 = .ok (.aload_n 0, 1) := by decide +kernel
theorem dX12_amount_50 : decode cX12_amount 50 = .ok (.iconst 1, 1) := by decide +kernel
theorem dX12_amount_51 : decode cX12_amount 51 = .ok (.iload_n 3, 1) := by decide +kernel
theorem dX12_amount_52 : decode cX12_amount 52 = .ok (.invokevirtual 252, 3) := by decide +kernel
theorem dX12_amount_55 : decode cX12_amount 55 = .ok (.iload 4, 2) := by decide +kernel
theorem dX12_amount_57 : decode cX12_amount 57 = .ok (.ireturn, 1) := by decide +kernel
abbrev D_X12_amount : Nat := 4
set_option maxRecDepth 100000 in
def f_X12_amount (μ0 : Mm) (a1 : Nat) (x2 : Int32) (x3 : Int32) : Option (Int32 × Mm) :=
 ((ob μ0 a1 12).bind fun _ =>
    ((f_X12_blanks μ0 a1).bind fun μ4 =>
    ((gI μ4 a1 12 29).bind fun v5 =>
    (nm v5 fun x6 =>
    ((gI μ4 a1 12 30).bind fun v7 =>
    (if v7 = 0 then
    ((ob μ4 a1 12).bind fun _ =>
    (bd (f_X12_digits μ4 a1 (99999 : Int32)) fun v9 μ8 =>
    (nm v9 fun x10 =>
    ((gI μ8 a1 12 30).bind fun v11 =>
    (if v11 = 0 then
    (bd (f_X12_in μ8 (x10).toInt64 (x2).toInt64 (x3).toInt64) fun v13 μ12 =>
    (if v13 = 0 then
    ((ob μ12 a1 12).bind fun _ =>
    ((f_X12_fails μ12 a1 (1 : Int32) x6).bind fun μ14 =>
    (some (x10, μ14))))
    else
    (some (x10, μ12))))
    else
    (some (x10, μ8)))))))
    else
    (nm (0 : Int32) fun x15 =>
    ((gI μ4 a1 12 30).bind fun v16 =>
    (if v16 = 0 then
    (bd (f_X12_in μ4 (x15).toInt64 (x2).toInt64 (x3).toInt64) fun v18 μ17 =>
    (if v18 = 0 then
    ((ob μ17 a1 12).bind fun _ =>
    ((f_X12_fails μ17 a1 (1 : Int32) x6).bind fun μ19 =>
    (some (x15, μ19))))
    else
    (some (x15, μ17))))
    else
    (some (x15, μ4)))))))))))
set_option maxHeartbeats 4000000 in
set_option maxRecDepth 100000 in
theorem f_X12_amount_ok {l : Launch} {G : GG} {μ0 : Mm} {a1 : Nat} {x2 : Int32} {x3 : Int32} {r : Int32} {μ' : Mm} (hf : f_X12_amount μ0 a1 x2 x3 = some (r, μ')) : EvM l G D_X12_amount yX12_amount cX12_amount 5 (some .int) [.ref a1, .int x2, .int x3] μ0 (some (.int r)) μ' := by
  show Ev l G D_X12_amount yX12_amount cX12_amount 5 (some .int) 0 [(0, .ref a1), (1, .int x2), (2, .int x3)] [] μ0 (some (.int r)) μ'
  unfold f_X12_amount at hf
  refine E_aload_n (pc := 0) dX12_amount_0 rfl ?_
  refine E_Vv (pc := 1) (d2 := D_X12_blanks) (ci := 12) [] dX12_amount_1 ml_X12_236 mf_X12_blanks im_X12_blanks rfl rfl rfl (by decide) (Nat.le_of_ble_eq_true rfl) (Nat.le_of_ble_eq_true rfl) rfl (fun _ h => f_X12_blanks_ok h) hf (fun μ4 hf => ?_)
  refine E_aload_n (pc := 4) dX12_amount_4 rfl ?_
  refine E_getI (pc := 5) dX12_amount_5 fl_X12_217 hf (fun v5 hf => ?_)
  refine E_istore_n (pc := 8) (ls' := fun x6 => [(3, .int x6), (0, .ref a1), (1, .int x2), (2, .int x3)]) dX12_amount_8 (by decide) (fun _ => rfl) hf (fun x6 hf => ?_)
  refine E_aload_n (pc := 9) dX12_amount_9 rfl ?_
  refine E_getI (pc := 10) dX12_amount_10 fl_X12_214 hf (fun v7 hf => ?_)
  refine E_if_ne (pc := 13) (tgt := 26) dX12_amount_13 (by decide) hf (fun hf => ?_) (fun hf => ?_)
  · refine E_aload_n (pc := 16) dX12_amount_16 rfl ?_
    refine E_ldcw (pc := 17) (v := (99999 : Int32)) dX12_amount_17 co_X12_260 ?_
    refine E_Vi (pc := 20) (d2 := D_X12_digits) (ci := 12) [.int (99999 : Int32)] dX12_amount_20 ml_X12_261 mf_X12_digits im_X12_digits rfl rfl rfl (by decide) (Nat.le_of_ble_eq_true rfl) (Nat.le_of_ble_eq_true rfl) rfl (fun _ _ h => f_X12_digits_ok h) hf (fun v9 μ8 hf => ?_)
    refine E_goto (pc := 23) (tgt := 27) dX12_amount_23 (by decide) ?_
    refine E_istore (pc := 27) (ls' := fun x10 => [(4, .int x10), (3, .int x6), (0, .ref a1), (1, .int x2), (2, .int x3)]) dX12_amount_27 (by decide) (fun _ => rfl) hf (fun x10 hf => ?_)
    refine E_aload_n (pc := 29) dX12_amount_29 rfl ?_
    refine E_getI (pc := 30) dX12_amount_30 fl_X12_214 hf (fun v11 hf => ?_)
    refine E_if_ne (pc := 33) (tgt := 55) dX12_amount_33 (by decide) hf (fun hf => ?_) (fun hf => ?_)
    · refine E_iload (pc := 36) dX12_amount_36 rfl ?_
      refine E_i2l (pc := 38) dX12_amount_38 ?_
      refine E_iload_n (pc := 39) dX12_amount_39 rfl ?_
      refine E_i2l (pc := 40) dX12_amount_40 ?_
      refine E_iload_n (pc := 41) dX12_amount_41 rfl ?_
      refine E_i2l (pc := 42) dX12_amount_42 ?_
      refine E_Si (pc := 43) (d2 := D_X12_in) [.long (x10).toInt64, .long (x2).toInt64, .long (x3).toInt64] dX12_amount_43 ml_X12_183 mf_X12_in st_X12_in rfl (by decide) (Nat.le_of_ble_eq_true rfl) (Nat.le_of_ble_eq_true rfl) rfl (fun _ _ h => f_X12_in_ok h) hf (fun v13 μ12 hf => ?_)
      refine E_if_ne (pc := 46) (tgt := 55) dX12_amount_46 (by decide) hf (fun hf => ?_) (fun hf => ?_)
      · refine E_aload_n (pc := 49) dX12_amount_49 rfl ?_
        refine E_iconst (pc := 50) (v := (1 : Int32)) dX12_amount_50 (by decide) ?_
        refine E_iload_n (pc := 51) dX12_amount_51 rfl ?_
        refine E_Vv (pc := 52) (d2 := D_X12_fails) (ci := 12) [.int (1 : Int32), .int x6] dX12_amount_52 ml_X12_252 mf_X12_fails im_X12_fails rfl rfl rfl (by decide) (Nat.le_of_ble_eq_true rfl) (Nat.le_of_ble_eq_true rfl) rfl (fun _ h => f_X12_fails_ok h) hf (fun μ14 hf => ?_)
        refine E_iload (pc := 55) dX12_amount_55 rfl ?_
        exact E_iret (pc := 57) dX12_amount_57 rfl hf
      · refine E_iload (pc := 55) dX12_amount_55 rfl ?_
        exact E_iret (pc := 57) dX12_amount_57 rfl hf
    · refine E_iload (pc := 55) dX12_amount_55 rfl ?_
      exact E_iret (pc := 57) dX12_amount_57 rfl hf
  · refine E_iconst (pc := 26) (v := (0 : Int32)) dX12_amount_26 (by decide) ?_
    refine E_istore (pc := 27) (ls' := fun x15 => [(4, .int x15), (3, .int x6), (0, .ref a1), (1, .int x2), (2, .int x3)]) dX12_amount_27 (by decide) (fun _ => rfl) hf (fun x15 hf => ?_)
    refine E_aload_n (pc := 29) dX12_amount_29 rfl ?_
    refine E_getI (pc := 30) dX12_amount_30 fl_X12_214 hf (fun v16 hf => ?_)
    refine E_if_ne (pc := 33) (tgt := 55) dX12_amount_33 (by decide) hf (fun hf => ?_) (fun hf => ?_)
    · refine E_iload (pc := 36) dX12_amount_36 rfl ?_
      refine E_i2l (pc := 38) dX12_amount_38 ?_
      refine E_iload_n (pc := 39) dX12_amount_39 rfl ?_
      refine E_i2l (pc := 40) dX12_amount_40 ?_
      refine E_iload_n (pc := 41) dX12_amount_41 rfl ?_
      refine E_i2l (pc := 42) dX12_amount_42 ?_
      refine E_Si (pc := 43) (d2 := D_X12_in) [.long (x15).toInt64, .long (x2).toInt64, .long (x3).toInt64] dX12_amount_43 ml_X12_183 mf_X12_in st_X12_in rfl (by decide) (Nat.le_of_ble_eq_true rfl) (Nat.le_of_ble_eq_true rfl) rfl (fun _ _ h => f_X12_in_ok h) hf (fun v18 μ17 hf => ?_)
      refine E_if_ne (pc := 46) (tgt := 55) dX12_amount_46 (by decide) hf (fun hf => ?_) (fun hf => ?_)
      · refine E_aload_n (pc := 49) dX12_amount_49 rfl ?_
        refine E_iconst (pc := 50) (v := (1 : Int32)) dX12_amount_50 (by decide) ?_
        refine E_iload_n (pc := 51) dX12_amount_51 rfl ?_
        refine E_Vv (pc := 52) (d2 := D_X12_fails) (ci := 12) [.int (1 : Int32), .int x6] dX12_amount_52 ml_X12_252 mf_X12_fails im_X12_fails rfl rfl rfl (by decide) (Nat.le_of_ble_eq_true rfl) (Nat.le_of_ble_eq_true rfl) rfl (fun _ h => f_X12_fails_ok h) hf (fun μ19 hf => ?_)
        refine E_iload (pc := 55) dX12_amount_55 rfl ?_
        exact E_iret (pc := 57) dX12_amount_57 rfl hf
      · refine E_iload (pc := 55) dX12_amount_55 rfl ?_
        exact E_iret (pc := 57) dX12_amount_57 rfl hf
    · refine E_iload (pc := 55) dX12_amount_55 rfl ?_
      exact E_iret (pc := 57) dX12_amount_57 rfl hf
theorem dX12_groundWord_0 : decode cX12_groundWord 0 = .ok (.iload_n 0, 1) := by decide +kernel
theorem dX12_groundWord_1 : decode cX12_groundWord 1 = .ok (.tableswitch 61 0 5 #[39, 43, 47, 50, 53, 57], 39) := by decide +kernel
theorem dX12_groundWord_40 : decode cX12_groundWord 40 = .ok (.ldc_w 311, 3) := by decide +kernel
theorem dX12_groundWord_43 : decode cX12_groundWord 43 = .ok (.areturn, 1) := by decide +kernel
theorem dX12_groundWord_44 : decode cX12_groundWord 44 = .ok (.ldc_w 313, 3) := by decide +kernel
theorem dX12_groundWord_47 : decode cX12_groundWord 47 = .ok (.areturn, 1) := by decide +kernel
theorem dX12_groundWord_48 : decode cX12_groundWord 48 = .ok (.ldc 194, 2) := by decide +kernel
theorem dX12_groundWord_50 : decode cX12_groundWord 50 = .ok (.areturn, 1) := by decide +kernel
theorem dX12_groundWord_51 : decode cX12_groundWord 51 = .ok (.ldc 196, 2) := by decide +kernel
theorem dX12_groundWord_53 : decode cX12_groundWord 53 = .ok (.areturn, 1) := by decide +kernel
theorem dX12_groundWord_54 : decode cX12_groundWord 54 = .ok (.ldc_w 315, 3) := by decide +kernel
theorem dX12_groundWord_57 : decode cX12_groundWord 57 = .ok (.areturn, 1) := by decide +kernel
theorem dX12_groundWord_58 : decode cX12_groundWord 58 = .ok (.ldc_w 317, 3) := by decide +kernel
theorem dX12_groundWord_61 : decode cX12_groundWord 61 = .ok (.areturn, 1) := by decide +kernel
theorem dX12_groundWord_62 : decode cX12_groundWord 62 = .ok (.ldc_w 319, 3) := by decide +kernel
theorem dX12_groundWord_65 : decode cX12_groundWord 65 = .ok (.areturn, 1) := by decide +kernel
abbrev D_X12_groundWord : Nat := 1
set_option maxRecDepth 100000 in
def f_X12_groundWord (μ0 : Mm) (x1 : Int32) : Option (Nat × Mm) :=
 (if x1 = (0 : Int32) then
    (some ((9 : Nat), μ0))
    else
    (if x1 = (1 : Int32) then
    (some ((10 : Nat), μ0))
    else
    (if x1 = (2 : Int32) then
    (some ((11 : Nat), μ0))
    else
    (if x1 = (3 : Int32) then
    (some ((12 : Nat), μ0))
    else
    (if x1 = (4 : Int32) then
    (some ((13 : Nat), μ0))
    else
    (if x1 = (5 : Int32) then
    (some ((14 : Nat), μ0))
    else
    (some ((15 : Nat), μ0))))))))
set_option maxHeartbeats 4000000 in
set_option maxRecDepth 100000 in
theorem f_X12_groundWord_ok {l : Launch} {G : GG} {μ0 : Mm} {x1 : Int32} {r : Nat} {μ' : Mm} (hf : f_X12_groundWord μ0 x1 = some (r, μ')) : EvM l G D_X12_groundWord yX12_groundWord cX12_groundWord 1 (some (.object "java/lang/String")) [.int x1] μ0 (some (.ref r)) μ' := by
  show Ev l G D_X12_groundWord yX12_groundWord cX12_groundWord 1 (some (.object "java/lang/String")) 0 [(0, .int x1)] [] μ0 (some (.ref r)) μ'
  unfold f_X12_groundWord at hf
  refine E_iload_n (pc := 0) dX12_groundWord_0 rfl ?_
  refine ifS hf (fun n1_0 hf => ?_) (fun n1_0 hf => ?_)
  · refine E_tswI (pc := 1) (tgt := 40) (0) dX12_groundWord_1 (by rw [n1_0]; decide) (by decide) (by decide) rfl (by decide) ?_
    refine E_ldcwS (pc := 40) (9 : Nat) dX12_groundWord_40 (by decide) ⟨rfl, rfl⟩ ?_
    exact E_aret (pc := 43) dX12_groundWord_43 rfl (Or.inl ⟨_, rfl⟩) hf
  · refine ifS hf (fun n1_1 hf => ?_) (fun n1_1 hf => ?_)
    · refine E_tswI (pc := 1) (tgt := 44) (1) dX12_groundWord_1 (by rw [n1_1]; decide) (by decide) (by decide) rfl (by decide) ?_
      refine E_ldcwS (pc := 44) (10 : Nat) dX12_groundWord_44 (by decide) ⟨rfl, rfl⟩ ?_
      exact E_aret (pc := 47) dX12_groundWord_47 rfl (Or.inl ⟨_, rfl⟩) hf
    · refine ifS hf (fun n1_2 hf => ?_) (fun n1_2 hf => ?_)
      · refine E_tswI (pc := 1) (tgt := 48) (2) dX12_groundWord_1 (by rw [n1_2]; decide) (by decide) (by decide) rfl (by decide) ?_
        refine E_ldcS (pc := 48) (11 : Nat) dX12_groundWord_48 (by decide) ⟨rfl, rfl⟩ ?_
        exact E_aret (pc := 50) dX12_groundWord_50 rfl (Or.inl ⟨_, rfl⟩) hf
      · refine ifS hf (fun n1_3 hf => ?_) (fun n1_3 hf => ?_)
        · refine E_tswI (pc := 1) (tgt := 51) (3) dX12_groundWord_1 (by rw [n1_3]; decide) (by decide) (by decide) rfl (by decide) ?_
          refine E_ldcS (pc := 51) (12 : Nat) dX12_groundWord_51 (by decide) ⟨rfl, rfl⟩ ?_
          exact E_aret (pc := 53) dX12_groundWord_53 rfl (Or.inl ⟨_, rfl⟩) hf
        · refine ifS hf (fun n1_4 hf => ?_) (fun n1_4 hf => ?_)
          · refine E_tswI (pc := 1) (tgt := 54) (4) dX12_groundWord_1 (by rw [n1_4]; decide) (by decide) (by decide) rfl (by decide) ?_
            refine E_ldcwS (pc := 54) (13 : Nat) dX12_groundWord_54 (by decide) ⟨rfl, rfl⟩ ?_
            exact E_aret (pc := 57) dX12_groundWord_57 rfl (Or.inl ⟨_, rfl⟩) hf
          · refine ifS hf (fun n1_5 hf => ?_) (fun n1_5 hf => ?_)
            · refine E_tswI (pc := 1) (tgt := 58) (5) dX12_groundWord_1 (by rw [n1_5]; decide) (by decide) (by decide) rfl (by decide) ?_
              refine E_ldcwS (pc := 58) (14 : Nat) dX12_groundWord_58 (by decide) ⟨rfl, rfl⟩ ?_
              exact E_aret (pc := 61) dX12_groundWord_61 rfl (Or.inl ⟨_, rfl⟩) hf
            · refine E_tswD (pc := 1) (tgt := 62) dX12_groundWord_1 (by have q0 : ¬ (x1).toInt = 0 := i32ne n1_0; have q1 : ¬ (x1).toInt = 1 := i32ne n1_1; have q2 : ¬ (x1).toInt = 2 := i32ne n1_2; have q3 : ¬ (x1).toInt = 3 := i32ne n1_3; have q4 : ¬ (x1).toInt = 4 := i32ne n1_4; have q5 : ¬ (x1).toInt = 5 := i32ne n1_5;  omega) (by decide) ?_
              refine E_ldcwS (pc := 62) (15 : Nat) dX12_groundWord_62 (by decide) ⟨rfl, rfl⟩ ?_
              exact E_aret (pc := 65) dX12_groundWord_65 rfl (Or.inl ⟨_, rfl⟩) hf
theorem dX12_newCells_0 : decode cX12_newCells 0 = .ok (.aload_n 0, 1) := by decide +kernel
theorem dX12_newCells_1 : decode cX12_newCells 1 = .ok (.getfield 52, 3) := by decide +kernel
theorem dX12_newCells_4 : decode cX12_newCells 4 = .ok (.iconst 0, 1) := by decide +kernel
theorem dX12_newCells_5 : decode cX12_newCells 5 = .ok (.iaload, 1) := by decide +kernel
theorem dX12_newCells_6 : decode cX12_newCells 6 = .ok (.aload_n 0, 1) := by decide +kernel
theorem dX12_newCells_7 : decode cX12_newCells 7 = .ok (.getfield 52, 3) := by decide +kernel
theorem dX12_newCells_10 : decode cX12_newCells 10 = .ok (.iconst 1, 1) := by decide +kernel
theorem dX12_newCells_11 : decode cX12_newCells 11 = .ok (.iaload, 1) := by decide +kernel
theorem dX12_newCells_12 : decode cX12_newCells 12 = .ok (.imul, 1) := by decide +kernel
theorem dX12_newCells_13 : decode cX12_newCells 13 = .ok (.ireturn, 1) := by decide +kernel
abbrev D_X12_newCells : Nat := 1
set_option maxRecDepth 100000 in
def f_X12_newCells (μ0 : Mm) (a1 : Nat) : Option (Int32 × Mm) :=
 ((gR μ0 a1 12 15).bind fun v2 =>
    ((aI μ0 v2 0 (0 : Int32)).bind fun v3 =>
    ((gR μ0 a1 12 15).bind fun v4 =>
    ((aI μ0 v4 0 (1 : Int32)).bind fun v5 =>
    (some ((v3 * v5), μ0))))))
set_option maxHeartbeats 4000000 in
set_option maxRecDepth 100000 in
theorem f_X12_newCells_ok {l : Launch} {G : GG} {μ0 : Mm} {a1 : Nat} {r : Int32} {μ' : Mm} (hf : f_X12_newCells μ0 a1 = some (r, μ')) : EvM l G D_X12_newCells yX12_newCells cX12_newCells 1 (some .int) [.ref a1] μ0 (some (.int r)) μ' := by
  show Ev l G D_X12_newCells yX12_newCells cX12_newCells 1 (some .int) 0 [(0, .ref a1)] [] μ0 (some (.int r)) μ'
  unfold f_X12_newCells at hf
  refine E_aload_n (pc := 0) dX12_newCells_0 rfl ?_
  refine E_getR (pc := 1) dX12_newCells_1 fl_X12_52 hf (fun v2 hf => ?_)
  refine E_iconst (pc := 4) (v := (0 : Int32)) dX12_newCells_4 (by decide) ?_
  refine E_iald (pc := 5) dX12_newCells_5 hf (fun v3 hf => ?_)
  refine E_aload_n (pc := 6) dX12_newCells_6 rfl ?_
  refine E_getR (pc := 7) dX12_newCells_7 fl_X12_52 hf (fun v4 hf => ?_)
  refine E_iconst (pc := 10) (v := (1 : Int32)) dX12_newCells_10 (by decide) ?_
  refine E_iald (pc := 11) dX12_newCells_11 hf (fun v5 hf => ?_)
  refine E_imul (pc := 12) dX12_newCells_12 ?_
  exact E_iret (pc := 13) dX12_newCells_13 rfl hf
theorem dX12_readsRow_0 : decode cX12_readsRow 0 = .ok (.aload_n 0, 1) := by decide +kernel
theorem dX12_readsRow_1 : decode cX12_readsRow 1 = .ok (.invokevirtual 236, 3) := by decide +kernel
theorem dX12_readsRow_4 : decode cX12_readsRow 4 = .ok (.iconst 0, 1) := by decide +kernel
theorem dX12_readsRow_5 : decode cX12_readsRow 5 = .ok (.istore_n 1, 1) := by decide +kernel
theorem dX12_readsRow_6 : decode cX12_readsRow 6 = .ok (.iload_n 1, 1) := by decide +kernel
theorem dX12_readsRow_7 : decode cX12_readsRow 7 = .ok (.aload_n 0, 1) := by decide +kernel
theorem dX12_readsRow_8 : decode cX12_readsRow 8 = .ok (.getfield 52, 3) := by decide +kernel
theorem dX12_readsRow_11 : decode cX12_readsRow 11 = .ok (.iconst 0, 1) := by decide +kernel
theorem dX12_readsRow_12 : decode cX12_readsRow 12 = .ok (.iaload, 1) := by decide +kernel
theorem dX12_readsRow_13 : decode cX12_readsRow 13 = .ok (.if_icmp .ge 70, 3) := by decide +kernel
theorem dX12_readsRow_16 : decode cX12_readsRow 16 = .ok (.aload_n 0, 1) := by decide +kernel
theorem dX12_readsRow_17 : decode cX12_readsRow 17 = .ok (.getfield 214, 3) := by decide +kernel
theorem dX12_readsRow_20 : decode cX12_readsRow 20 = .ok (.ifCond .ne 63, 3) := by decide +kernel
theorem dX12_readsRow_23 : decode cX12_readsRow 23 = .ok (.aload_n 0, 1) := by decide +kernel
theorem dX12_readsRow_24 : decode cX12_readsRow 24 = .ok (.invokevirtual 256, 3) := by decide +kernel
theorem dX12_readsRow_27 : decode cX12_readsRow 27 = .ok (.ifCond .eq 41, 3) := by decide +kernel
theorem dX12_readsRow_30 : decode cX12_readsRow 30 = .ok (.aload_n 0, 1) := by decide +kernel
theorem dX12_readsRow_31 : decode cX12_readsRow 31 = .ok (.getfield 55, 3) := by decide +kernel
theorem dX12_readsRow_34 : decode cX12_readsRow 34 = .ok (.aload_n 0, 1) := by decide +kernel
theorem dX12_readsRow_35 : decode cX12_readsRow 35 = .ok (.getfield 52, 3) := by decide +kernel
theorem dX12_readsRow_38 : decode cX12_readsRow 38 = .ok (.iconst 0, 1) := by decide +kernel
theorem dX12_readsRow_39 : decode cX12_readsRow 39 = .ok (.iaload, 1) := by decide +kernel
theorem dX12_readsRow_40 : decode cX12_readsRow 40 = .ok (.aload_n 0, 1) := by decide +kernel
theorem dX12_readsRow_41 : decode cX12_readsRow 41 = .ok (.getfield 321, 3) := by decide +kernel
theorem dX12_readsRow_44 : decode cX12_readsRow 44 = .ok (.imul, 1) := by decide +kernel
theorem dX12_readsRow_45 : decode cX12_readsRow 45 = .ok (.iload_n 1, 1) := by decide +kernel
theorem dX12_readsRow_46 : decode cX12_readsRow 46 = .ok (.iadd, 1) := by decide +kernel
theorem dX12_readsRow_47 : decode cX12_readsRow 47 = .ok (.aload_n 0, 1) := by decide +kernel
theorem dX12_readsRow_48 : decode cX12_readsRow 48 = .ok (.invokevirtual 220, 3) := by decide +kernel
theorem dX12_readsRow_51 : decode cX12_readsRow 51 = .ok (.bipush 48, 2) := by decide +kernel
theorem dX12_readsRow_53 : decode cX12_readsRow 53 = .ok (.isub, 1) := by decide +kernel
theorem dX12_readsRow_54 : decode cX12_readsRow 54 = .ok (.iastore, 1) := by decide +kernel
theorem dX12_readsRow_55 : decode cX12_readsRow 55 = .ok (.aload_n 0, 1) := by decide +kernel
theorem dX12_readsRow_56 : decode cX12_readsRow 56 = .ok (.dup, 1) := by decide +kernel
theorem dX12_readsRow_57 : decode cX12_readsRow 57 = .ok (.getfield 217, 3) := by decide +kernel
theorem dX12_readsRow_60 : decode cX12_readsRow 60 = .ok (.iconst 1, 1) := by decide +kernel
theorem dX12_readsRow_61 : decode cX12_readsRow 61 = .ok (.iadd, 1) := by decide +kernel
theorem dX12_readsRow_62 : decode cX12_readsRow 62 = .ok (.putfield 217, 3) := by decide +kernel
theorem dX12_readsRow_65 : decode cX12_readsRow 65 = .ok (.goto 12, 3) := by decide +kernel
theorem dX12_readsRow_68 : decode cX12_readsRow 68 = .ok (.aload_n 0, 1) := by decide +kernel
theorem dX12_readsRow_69 : decode cX12_readsRow 69 = .ok (.iconst 0, 1) := by decide +kernel
theorem dX12_readsRow_70 : decode cX12_readsRow 70 = .ok (.aload_n 0, 1) := by decide +kernel
theorem dX12_readsRow_71 : decode cX12_readsRow 71 = .ok (.getfield 217, 3) := by decide +kernel
theorem dX12_readsRow_74 : decode cX12_readsRow 74 = .ok (.invokevirtual 252, 3) := by decide +kernel
theorem dX12_readsRow_77 : decode cX12_readsRow 77 = .ok (.iinc 1 1, 3) := by decide +kernel
theorem dX12_readsRow_80 : decode cX12_readsRow 80 = .ok (.goto (-74), 3) := by decide +kernel
theorem dX12_readsRow_83 : decode cX12_readsRow 83 = .ok (.aload_n 0, 1) := by decide +kernel
theorem dX12_readsRow_84 : decode cX12_readsRow 84 = .ok (.getfield 214, 3) := by decide +kernel
theorem dX12_readsRow_87 : decode cX12_readsRow 87 = .ok (.ifCond .ne 19, 3) := by decide +kernel
theorem dX12_readsRow_90 : decode cX12_readsRow 90 = .ok (.aload_n 0, 1) := by decide +kernel
theorem dX12_readsRow_91 : decode cX12_readsRow 91 = .ok (.invokevirtual 256, 3) := by decide +kernel
theorem dX12_readsRow_94 : decode cX12_readsRow 94 = .ok (.ifCond .eq 12, 3) := by decide +kernel
theorem dX12_readsRow_97 : decode cX12_readsRow 97 = .ok (.aload_n 0, 1) := by decide +kernel
theorem dX12_readsRow_98 : decode cX12_readsRow 98 = .ok (.iconst 0, 1) := by decide +kernel
theorem dX12_readsRow_99 : decode cX12_readsRow 99 = .ok (.aload_n 0, 1) := by decide +kernel
theorem dX12_readsRow_100 : decode cX12_readsRow 100 = .ok (.getfield 217, 3) := by decide +kernel
theorem dX12_readsRow_103 : decode cX12_readsRow 103 = .ok (.invokevirtual 252, 3) := by decide +kernel
theorem dX12_readsRow_106 : decode cX12_readsRow 106 = .ok (.aload_n 0, 1) := by decide +kernel
theorem dX12_readsRow_107 : decode cX12_readsRow 107 = .ok (.dup, 1) := by decide +kernel
theorem dX12_readsRow_108 : decode cX12_readsRow 108 = .ok (.getfield 321, 3) := by decide +kernel
theorem dX12_readsRow_111 : decode cX12_readsRow 111 = .ok (.iconst 1, 1) := by decide +kernel
theorem dX12_readsRow_112 : decode cX12_readsRow 112 = .ok (.iadd, 1) := by decide +kernel
theorem dX12_readsRow_113 : decode cX12_readsRow 113 = .ok (.putfield 321, 3) := by decide +kernel
theorem dX12_readsRow_116 : decode cX12_readsRow 116 = .ok (.return_, 1) := by decide +kernel
abbrev D_X12_readsRow : Nat := 3
def f_X12_readsRow_L6 (K83 : Mm → Nat → Option Mm) : Nat → Mm → Nat → Int32 → Option Mm
  | 0, _, _, _ => none
  | n + 1, μ0, a4, x5 =>
    ((gR μ0 a4 12 15).bind fun v6 =>
    ((aI μ0 v6 0 (0 : Int32)).bind fun v7 =>
    (if v7 ≤ x5 then
    K83 μ0 a4
    else
    ((gI μ0 a4 12 30).bind fun v8 =>
    (if v8 = 0 then
    ((ob μ0 a4 12).bind fun _ =>
    (bd (f_X12_isDigit μ0 a4) fun v10 μ9 =>
    (if v10 = 0 then
    ((gI μ9 a4 12 29).bind fun v11 =>
    ((ob μ9 a4 12).bind fun _ =>
    ((f_X12_fails μ9 a4 (0 : Int32) v11).bind fun μ12 =>
    (nm (x5 + Int32.ofInt (1)) fun x13 =>
    f_X12_readsRow_L6 K83 n μ12 a4 x13))))
    else
    ((gR μ9 a4 12 16).bind fun v14 =>
    ((gR μ9 a4 12 15).bind fun v15 =>
    ((aI μ9 v15 0 (0 : Int32)).bind fun v16 =>
    ((gI μ9 a4 12 27).bind fun v17 =>
    ((ob μ9 a4 12).bind fun _ =>
    (bd (f_X12_sign μ9 a4) fun v19 μ18 =>
    ((sI μ18 v14 0 ((v16 * v17) + x5) (v19 - (48 : Int32))).bind fun μ20 =>
    ((gI μ20 a4 12 29).bind fun v21 =>
    ((pV μ20 a4 12 29 (.int (v21 + (1 : Int32)))).bind fun μ22 =>
    (nm (x5 + Int32.ofInt (1)) fun x23 =>
    f_X12_readsRow_L6 K83 n μ22 a4 x23)))))))))))))
    else
    K83 μ0 a4)))))
set_option maxHeartbeats 4000000 in
set_option maxRecDepth 100000 in
theorem f_X12_readsRow_L6_ok {l : Launch} {G : GG} {K83 : Mm → Nat → Option Mm} {μ' : Mm} (n : Nat) (μ0 : Mm) (a4 : Nat) (x5 : Int32) (hf : f_X12_readsRow_L6 K83 n μ0 a4 x5 = some μ') (hK83 : ∀ (μ1 : Mm) (y0 : Nat), K83 μ1 y0 = some μ' → Ev l G D_X12_readsRow yX12_readsRow cX12_readsRow 2 none 83 [(0, .ref y0)] [] μ1 none μ') : Ev l G D_X12_readsRow yX12_readsRow cX12_readsRow 2 none 6 [(0, .ref a4), (1, .int x5)] [] μ0 none μ' := by
  induction n generalizing μ0 a4 x5 with
  | zero => cases hf
  | succ n ih0 =>
    have ih : ∀ (μ0 : Mm) (a4 : Nat) (x5 : Int32), f_X12_readsRow_L6 K83 n μ0 a4 x5 = some μ' → Ev l G D_X12_readsRow yX12_readsRow cX12_readsRow 2 none 6 [(0, .ref a4), (1, .int x5)] [] μ0 none μ' := fun μ0 a4 x5 hf => ih0 μ0 a4 x5 hf
    rw [f_X12_readsRow_L6] at hf
    refine E_iload_n (pc := 6) dX12_readsRow_6 rfl ?_
    refine E_aload_n (pc := 7) dX12_readsRow_7 rfl ?_
    refine E_getR (pc := 8) dX12_readsRow_8 fl_X12_52 hf (fun v6 hf => ?_)
    refine E_iconst (pc := 11) (v := (0 : Int32)) dX12_readsRow_11 (by decide) ?_
    refine E_iald (pc := 12) dX12_readsRow_12 hf (fun v7 hf => ?_)
    refine E_icmp_ge (pc := 13) (tgt := 83) dX12_readsRow_13 (by decide) hf (fun hf => ?_) (fun hf => ?_)
    · refine Ev.sub [0] rfl ?_
      exact hK83 _ _ hf
    · refine E_aload_n (pc := 16) dX12_readsRow_16 rfl ?_
      refine E_getI (pc := 17) dX12_readsRow_17 fl_X12_214 hf (fun v8 hf => ?_)
      refine E_if_ne (pc := 20) (tgt := 83) dX12_readsRow_20 (by decide) hf (fun hf => ?_) (fun hf => ?_)
      · refine E_aload_n (pc := 23) dX12_readsRow_23 rfl ?_
        refine E_Vi (pc := 24) (d2 := D_X12_isDigit) (ci := 12) [] dX12_readsRow_24 ml_X12_256 mf_X12_isDigit im_X12_isDigit rfl rfl rfl (by decide) (Nat.le_of_ble_eq_true rfl) (Nat.le_of_ble_eq_true rfl) rfl (fun _ _ h => f_X12_isDigit_ok h) hf (fun v10 μ9 hf => ?_)
        refine E_if_eq (pc := 27) (tgt := 68) dX12_readsRow_27 (by decide) hf (fun hf => ?_) (fun hf => ?_)
        · refine E_aload_n (pc := 68) dX12_readsRow_68 rfl ?_
          refine E_iconst (pc := 69) (v := (0 : Int32)) dX12_readsRow_69 (by decide) ?_
          refine E_aload_n (pc := 70) dX12_readsRow_70 rfl ?_
          refine E_getI (pc := 71) dX12_readsRow_71 fl_X12_217 hf (fun v11 hf => ?_)
          refine E_Vv (pc := 74) (d2 := D_X12_fails) (ci := 12) [.int (0 : Int32), .int v11] dX12_readsRow_74 ml_X12_252 mf_X12_fails im_X12_fails rfl rfl rfl (by decide) (Nat.le_of_ble_eq_true rfl) (Nat.le_of_ble_eq_true rfl) rfl (fun _ h => f_X12_fails_ok h) hf (fun μ12 hf => ?_)
          refine E_iinc (pc := 77) (ls' := fun x13 => [(1, .int x13), (0, .ref a4)]) dX12_readsRow_77 rfl (by decide) (fun _ => rfl) hf (fun x13 hf => ?_)
          refine E_goto (pc := 80) (tgt := 6) dX12_readsRow_80 (by decide) ?_
          refine Ev.sub [1, 0] rfl ?_
          exact ih _ _ _ hf
        · refine E_aload_n (pc := 30) dX12_readsRow_30 rfl ?_
          refine E_getR (pc := 31) dX12_readsRow_31 fl_X12_55 hf (fun v14 hf => ?_)
          refine E_aload_n (pc := 34) dX12_readsRow_34 rfl ?_
          refine E_getR (pc := 35) dX12_readsRow_35 fl_X12_52 hf (fun v15 hf => ?_)
          refine E_iconst (pc := 38) (v := (0 : Int32)) dX12_readsRow_38 (by decide) ?_
          refine E_iald (pc := 39) dX12_readsRow_39 hf (fun v16 hf => ?_)
          refine E_aload_n (pc := 40) dX12_readsRow_40 rfl ?_
          refine E_getI (pc := 41) dX12_readsRow_41 fl_X12_321 hf (fun v17 hf => ?_)
          refine E_imul (pc := 44) dX12_readsRow_44 ?_
          refine E_iload_n (pc := 45) dX12_readsRow_45 rfl ?_
          refine E_iadd (pc := 46) dX12_readsRow_46 ?_
          refine E_aload_n (pc := 47) dX12_readsRow_47 rfl ?_
          refine E_Vi (pc := 48) (d2 := D_X12_sign) (ci := 12) [] dX12_readsRow_48 ml_X12_220 mf_X12_sign im_X12_sign rfl rfl rfl (by decide) (Nat.le_of_ble_eq_true rfl) (Nat.le_of_ble_eq_true rfl) rfl (fun _ _ h => f_X12_sign_ok h) hf (fun v19 μ18 hf => ?_)
          refine E_bipush (pc := 51) (v := (48 : Int32)) dX12_readsRow_51 (by decide) ?_
          refine E_isub (pc := 53) dX12_readsRow_53 ?_
          refine E_iast (pc := 54) dX12_readsRow_54 hf (fun μ20 hf => ?_)
          refine E_aload_n (pc := 55) dX12_readsRow_55 rfl ?_
          refine E_dup (pc := 56) dX12_readsRow_56 rfl ?_
          refine E_getI (pc := 57) dX12_readsRow_57 fl_X12_217 hf (fun v21 hf => ?_)
          refine E_iconst (pc := 60) (v := (1 : Int32)) dX12_readsRow_60 (by decide) ?_
          refine E_iadd (pc := 61) dX12_readsRow_61 ?_
          refine E_putI (pc := 62) dX12_readsRow_62 (pl_X12_217 _) hf (fun μ22 hf => ?_)
          refine E_goto (pc := 65) (tgt := 77) dX12_readsRow_65 (by decide) ?_
          refine E_iinc (pc := 77) (ls' := fun x23 => [(1, .int x23), (0, .ref a4)]) dX12_readsRow_77 rfl (by decide) (fun _ => rfl) hf (fun x23 hf => ?_)
          refine E_goto (pc := 80) (tgt := 6) dX12_readsRow_80 (by decide) ?_
          refine Ev.sub [1, 0] rfl ?_
          exact ih _ _ _ hf
      · refine Ev.sub [0] rfl ?_
        exact hK83 _ _ hf
set_option maxRecDepth 100000 in
def f_X12_readsRow (μ0 : Mm) (a1 : Nat) : Option Mm :=
 ((ob μ0 a1 12).bind fun _ =>
    ((f_X12_blanks μ0 a1).bind fun μ2 =>
    (nm (0 : Int32) fun x3 =>
    f_X12_readsRow_L6 (fun μ24 a25 =>
    ((gI μ24 a25 12 30).bind fun v26 =>
    (if v26 = 0 then
    ((ob μ24 a25 12).bind fun _ =>
    (bd (f_X12_isDigit μ24 a25) fun v28 μ27 =>
    (if v28 = 0 then
    ((gI μ27 a25 12 27).bind fun v29 =>
    ((pV μ27 a25 12 27 (.int (v29 + (1 : Int32)))).bind fun μ30 =>
    (some μ30)))
    else
    ((gI μ27 a25 12 29).bind fun v31 =>
    ((ob μ27 a25 12).bind fun _ =>
    ((f_X12_fails μ27 a25 (0 : Int32) v31).bind fun μ32 =>
    ((gI μ32 a25 12 27).bind fun v33 =>
    ((pV μ32 a25 12 27 (.int (v33 + (1 : Int32)))).bind fun μ34 =>
    (some μ34)))))))))
    else
    ((gI μ24 a25 12 27).bind fun v35 =>
    ((pV μ24 a25 12 27 (.int (v35 + (1 : Int32)))).bind fun μ36 =>
    (some μ36)))))) FU μ2 a1 x3)))
set_option maxHeartbeats 4000000 in
set_option maxRecDepth 100000 in
theorem f_X12_readsRow_ok {l : Launch} {G : GG} {μ0 : Mm} {a1 : Nat} {μ' : Mm} (hf : f_X12_readsRow μ0 a1 = some μ') : EvM l G D_X12_readsRow yX12_readsRow cX12_readsRow 2 none [.ref a1] μ0 none μ' := by
  show Ev l G D_X12_readsRow yX12_readsRow cX12_readsRow 2 none 0 [(0, .ref a1)] [] μ0 none μ'
  unfold f_X12_readsRow at hf
  refine E_aload_n (pc := 0) dX12_readsRow_0 rfl ?_
  refine E_Vv (pc := 1) (d2 := D_X12_blanks) (ci := 12) [] dX12_readsRow_1 ml_X12_236 mf_X12_blanks im_X12_blanks rfl rfl rfl (by decide) (Nat.le_of_ble_eq_true rfl) (Nat.le_of_ble_eq_true rfl) rfl (fun _ h => f_X12_blanks_ok h) hf (fun μ2 hf => ?_)
  refine E_iconst (pc := 4) (v := (0 : Int32)) dX12_readsRow_4 (by decide) ?_
  refine E_istore_n (pc := 5) (ls' := fun x3 => [(1, .int x3), (0, .ref a1)]) dX12_readsRow_5 (by decide) (fun _ => rfl) hf (fun x3 hf => ?_)
  refine Ev.sub [1, 0] rfl ?_
  refine f_X12_readsRow_L6_ok  _ _ _ _ hf (fun μ24 a25 hf => ?_)
  · refine E_aload_n (pc := 83) dX12_readsRow_83 rfl ?_
    refine E_getI (pc := 84) dX12_readsRow_84 fl_X12_214 hf (fun v26 hf => ?_)
    refine E_if_ne (pc := 87) (tgt := 106) dX12_readsRow_87 (by decide) hf (fun hf => ?_) (fun hf => ?_)
    · refine E_aload_n (pc := 90) dX12_readsRow_90 rfl ?_
      refine E_Vi (pc := 91) (d2 := D_X12_isDigit) (ci := 12) [] dX12_readsRow_91 ml_X12_256 mf_X12_isDigit im_X12_isDigit rfl rfl rfl (by decide) (Nat.le_of_ble_eq_true rfl) (Nat.le_of_ble_eq_true rfl) rfl (fun _ _ h => f_X12_isDigit_ok h) hf (fun v28 μ27 hf => ?_)
      refine E_if_eq (pc := 94) (tgt := 106) dX12_readsRow_94 (by decide) hf (fun hf => ?_) (fun hf => ?_)
      · refine E_aload_n (pc := 106) dX12_readsRow_106 rfl ?_
        refine E_dup (pc := 107) dX12_readsRow_107 rfl ?_
        refine E_getI (pc := 108) dX12_readsRow_108 fl_X12_321 hf (fun v29 hf => ?_)
        refine E_iconst (pc := 111) (v := (1 : Int32)) dX12_readsRow_111 (by decide) ?_
        refine E_iadd (pc := 112) dX12_readsRow_112 ?_
        refine E_putI (pc := 113) dX12_readsRow_113 (pl_X12_321 _) hf (fun μ30 hf => ?_)
        exact E_vret (pc := 116) dX12_readsRow_116 rfl hf
      · refine E_aload_n (pc := 97) dX12_readsRow_97 rfl ?_
        refine E_iconst (pc := 98) (v := (0 : Int32)) dX12_readsRow_98 (by decide) ?_
        refine E_aload_n (pc := 99) dX12_readsRow_99 rfl ?_
        refine E_getI (pc := 100) dX12_readsRow_100 fl_X12_217 hf (fun v31 hf => ?_)
        refine E_Vv (pc := 103) (d2 := D_X12_fails) (ci := 12) [.int (0 : Int32), .int v31] dX12_readsRow_103 ml_X12_252 mf_X12_fails im_X12_fails rfl rfl rfl (by decide) (Nat.le_of_ble_eq_true rfl) (Nat.le_of_ble_eq_true rfl) rfl (fun _ h => f_X12_fails_ok h) hf (fun μ32 hf => ?_)
        refine E_aload_n (pc := 106) dX12_readsRow_106 rfl ?_
        refine E_dup (pc := 107) dX12_readsRow_107 rfl ?_
        refine E_getI (pc := 108) dX12_readsRow_108 fl_X12_321 hf (fun v33 hf => ?_)
        refine E_iconst (pc := 111) (v := (1 : Int32)) dX12_readsRow_111 (by decide) ?_
        refine E_iadd (pc := 112) dX12_readsRow_112 ?_
        refine E_putI (pc := 113) dX12_readsRow_113 (pl_X12_321 _) hf (fun μ34 hf => ?_)
        exact E_vret (pc := 116) dX12_readsRow_116 rfl hf
    · refine E_aload_n (pc := 106) dX12_readsRow_106 rfl ?_
      refine E_dup (pc := 107) dX12_readsRow_107 rfl ?_
      refine E_getI (pc := 108) dX12_readsRow_108 fl_X12_321 hf (fun v35 hf => ?_)
      refine E_iconst (pc := 111) (v := (1 : Int32)) dX12_readsRow_111 (by decide) ?_
      refine E_iadd (pc := 112) dX12_readsRow_112 ?_
      refine E_putI (pc := 113) dX12_readsRow_113 (pl_X12_321 _) hf (fun μ36 hf => ?_)
      exact E_vret (pc := 116) dX12_readsRow_116 rfl hf
theorem dX12_readsThing_0 : decode cX12_readsThing 0 = .ok (.aload_n 0, 1) := by decide +kernel
theorem dX12_readsThing_1 : decode cX12_readsThing 1 = .ok (.getfield 52, 3) := by decide +kernel
theorem dX12_readsThing_4 : decode cX12_readsThing 4 = .ok (.iconst 3, 1) := by decide +kernel
theorem dX12_readsThing_5 : decode cX12_readsThing 5 = .ok (.iaload, 1) := by decide +kernel
theorem dX12_readsThing_6 : decode cX12_readsThing 6 = .ok (.istore_n 1, 1) := by decide +kernel
theorem dX12_readsThing_7 : decode cX12_readsThing 7 = .ok (.aload_n 0, 1) := by decide +kernel
theorem dX12_readsThing_8 : decode cX12_readsThing 8 = .ok (.getfield 64, 3) := by decide +kernel
theorem dX12_readsThing_11 : decode cX12_readsThing 11 = .ok (.iload_n 1, 1) := by decide +kernel
theorem dX12_readsThing_12 : decode cX12_readsThing 12 = .ok (.aload_n 0, 1) := by decide +kernel
theorem dX12_readsThing_13 : decode cX12_readsThing 13 = .ok (.iconst 0, 1) := by decide +kernel
theorem dX12_readsThing_14 : decode cX12_readsThing 14 = .ok (.aload_n 0, 1) := by decide +kernel
theorem dX12_readsThing_15 : decode cX12_readsThing 15 = .ok (.invokevirtual 324, 3) := by decide +kernel
theorem dX12_readsThing_18 : decode cX12_readsThing 18 = .ok (.iconst 1, 1) := by decide +kernel
theorem dX12_readsThing_19 : decode cX12_readsThing 19 = .ok (.isub, 1) := by decide +kernel
theorem dX12_readsThing_20 : decode cX12_readsThing 20 = .ok (.invokevirtual 327, 3) := by decide +kernel
theorem dX12_readsThing_23 : decode cX12_readsThing 23 = .ok (.iastore, 1) := by decide +kernel
theorem dX12_readsThing_24 : decode cX12_readsThing 24 = .ok (.aload_n 0, 1) := by decide +kernel
theorem dX12_readsThing_25 : decode cX12_readsThing 25 = .ok (.invokevirtual 236, 3) := by decide +kernel
theorem dX12_readsThing_28 : decode cX12_readsThing 28 = .ok (.aload_n 0, 1) := by decide +kernel
theorem dX12_readsThing_29 : decode cX12_readsThing 29 = .ok (.getfield 217, 3) := by decide +kernel
theorem dX12_readsThing_32 : decode cX12_readsThing 32 = .ok (.istore_n 2, 1) := by decide +kernel
theorem dX12_readsThing_33 : decode cX12_readsThing 33 = .ok (.aload_n 0, 1) := by decide +kernel
theorem dX12_readsThing_34 : decode cX12_readsThing 34 = .ok (.iconst 0, 1) := by decide +kernel
theorem dX12_readsThing_35 : decode cX12_readsThing 35 = .ok (.ldc_w 260, 3) := by decide +kernel
theorem dX12_readsThing_38 : decode cX12_readsThing 38 = .ok (.invokevirtual 327, 3) := by decide +kernel
theorem dX12_readsThing_41 : decode cX12_readsThing 41 = .ok (.istore_n 3, 1) := by decide +kernel
theorem dX12_readsThing_42 : decode cX12_readsThing 42 = .ok (.aload_n 0, 1) := by decide +kernel
theorem dX12_readsThing_43 : decode cX12_readsThing 43 = .ok (.getfield 214, 3) := by decide +kernel
theorem dX12_readsThing_46 : decode cX12_readsThing 46 = .ok (.ifCond .ne 25, 3) := by decide +kernel
theorem dX12_readsThing_49 : decode cX12_readsThing 49 = .ok (.iload_n 3, 1) := by decide +kernel
theorem dX12_readsThing_50 : decode cX12_readsThing 50 = .ok (.bipush 9, 2) := by decide +kernel
theorem dX12_readsThing_52 : decode cX12_readsThing 52 = .ok (.if_icmp .eq 19, 3) := by decide +kernel
theorem dX12_readsThing_55 : decode cX12_readsThing 55 = .ok (.iload_n 3, 1) := by decide +kernel
theorem dX12_readsThing_56 : decode cX12_readsThing 56 = .ok (.aload_n 0, 1) := by decide +kernel
theorem dX12_readsThing_57 : decode cX12_readsThing 57 = .ok (.getfield 52, 3) := by decide +kernel
theorem dX12_readsThing_60 : decode cX12_readsThing 60 = .ok (.iconst 2, 1) := by decide +kernel
theorem dX12_readsThing_61 : decode cX12_readsThing 61 = .ok (.iaload, 1) := by decide +kernel
theorem dX12_readsThing_62 : decode cX12_readsThing 62 = .ok (.if_icmp .lt 9, 3) := by decide +kernel
theorem dX12_readsThing_65 : decode cX12_readsThing 65 = .ok (.aload_n 0, 1) := by decide +kernel
theorem dX12_readsThing_66 : decode cX12_readsThing 66 = .ok (.iconst 1, 1) := by decide +kernel
theorem dX12_readsThing_67 : decode cX12_readsThing 67 = .ok (.iload_n 2, 1) := by decide +kernel
theorem dX12_readsThing_68 : decode cX12_readsThing 68 = .ok (.invokevirtual 252, 3) := by decide +kernel
theorem dX12_readsThing_71 : decode cX12_readsThing 71 = .ok (.aload_n 0, 1) := by decide +kernel
theorem dX12_readsThing_72 : decode cX12_readsThing 72 = .ok (.getfield 67, 3) := by decide +kernel
theorem dX12_readsThing_75 : decode cX12_readsThing 75 = .ok (.iload_n 1, 1) := by decide +kernel
theorem dX12_readsThing_76 : decode cX12_readsThing 76 = .ok (.iload_n 3, 1) := by decide +kernel
theorem dX12_readsThing_77 : decode cX12_readsThing 77 = .ok (.iastore, 1) := by decide +kernel
theorem dX12_readsThing_78 : decode cX12_readsThing 78 = .ok (.aload_n 0, 1) := by decide +kernel
theorem dX12_readsThing_79 : decode cX12_readsThing 79 = .ok (.getfield 70, 3) := by decide +kernel
theorem dX12_readsThing_82 : decode cX12_readsThing 82 = .ok (.iload_n 1, 1) := by decide +kernel
theorem dX12_readsThing_83 : decode cX12_readsThing 83 = .ok (.aload_n 0, 1) := by decide +kernel
theorem dX12_readsThing_84 : decode cX12_readsThing 84 = .ok (.iconst 1, 1) := by decide +kernel
theorem dX12_readsThing_85 : decode cX12_readsThing 85 = .ok (.bipush 30, 2) := by decide +kernel
theorem dX12_readsThing_87 : decode cX12_readsThing 87 = .ok (.invokevirtual 327, 3) := by decide +kernel
theorem dX12_readsThing_90 : decode cX12_readsThing 90 = .ok (.iastore, 1) := by decide +kernel
theorem dX12_readsThing_91 : decode cX12_readsThing 91 = .ok (.aload_n 0, 1) := by decide +kernel
theorem dX12_readsThing_92 : decode cX12_readsThing 92 = .ok (.getfield 73, 3) := by decide +kernel
theorem dX12_readsThing_95 : decode cX12_readsThing 95 = .ok (.iload_n 1, 1) := by decide +kernel
theorem dX12_readsThing_96 : decode cX12_readsThing 96 = .ok (.aload_n 0, 1) := by decide +kernel
theorem dX12_readsThing_97 : decode cX12_readsThing 97 = .ok (.iconst 0, 1) := by decide +kernel
theorem dX12_readsThing_98 : decode cX12_readsThing 98 = .ok (.bipush 60, 2) := by decide +kernel
theorem dX12_readsThing_100 : decode cX12_readsThing 100 = .ok (.invokevirtual 327, 3) := by decide +kernel
theorem dX12_readsThing_103 : decode cX12_readsThing 103 = .ok (.iastore, 1) := by decide +kernel
theorem dX12_readsThing_104 : decode cX12_readsThing 104 = .ok (.aload_n 0, 1) := by decide +kernel
theorem dX12_readsThing_105 : decode cX12_readsThing 105 = .ok (.getfield 52, 3) := by decide +kernel
theorem dX12_readsThing_108 : decode cX12_readsThing 108 = .ok (.iconst 3, 1) := by decide +kernel
theorem dX12_readsThing_109 : decode cX12_readsThing 109 = .ok (.dup2, 1) := by decide +kernel
theorem dX12_readsThing_110 : decode cX12_readsThing 110 = .ok (.iaload, 1) := by decide +kernel
theorem dX12_readsThing_111 : decode cX12_readsThing 111 = .ok (.iconst 1, 1) := by decide +kernel
theorem dX12_readsThing_112 : decode cX12_readsThing 112 = .ok (.iadd, 1) := by decide +kernel
theorem dX12_readsThing_113 : decode cX12_readsThing 113 = .ok (.iastore, 1) := by decide +kernel
theorem dX12_readsThing_114 : decode cX12_readsThing 114 = .ok (.return_, 1) := by decide +kernel
abbrev D_X12_readsThing : Nat := 5
set_option maxRecDepth 100000 in
def f_X12_readsThing (μ0 : Mm) (a1 : Nat) : Option Mm :=
 ((gR μ0 a1 12 15).bind fun v2 =>
    ((aI μ0 v2 0 (3 : Int32)).bind fun v3 =>
    (nm v3 fun x4 =>
    ((gR μ0 a1 12 19).bind fun v5 =>
    ((ob μ0 a1 12).bind fun _ =>
    (bd (f_X12_newCells μ0 a1) fun v7 μ6 =>
    ((ob μ6 a1 12).bind fun _ =>
    (bd (f_X12_amount μ6 a1 (0 : Int32) (v7 - (1 : Int32))) fun v9 μ8 =>
    ((sI μ8 v5 0 x4 v9).bind fun μ10 =>
    ((ob μ10 a1 12).bind fun _ =>
    ((f_X12_blanks μ10 a1).bind fun μ11 =>
    ((gI μ11 a1 12 29).bind fun v12 =>
    (nm v12 fun x13 =>
    ((ob μ11 a1 12).bind fun _ =>
    (bd (f_X12_amount μ11 a1 (0 : Int32) (99999 : Int32)) fun v15 μ14 =>
    (nm v15 fun x16 =>
    ((gI μ14 a1 12 30).bind fun v17 =>
    (if v17 = 0 then
    (if x16 = (9 : Int32) then
    ((gR μ14 a1 12 20).bind fun v18 =>
    ((sI μ14 v18 0 x4 x16).bind fun μ19 =>
    ((gR μ19 a1 12 21).bind fun v20 =>
    ((ob μ19 a1 12).bind fun _ =>
    (bd (f_X12_amount μ19 a1 (1 : Int32) (30 : Int32)) fun v22 μ21 =>
    ((sI μ21 v20 0 x4 v22).bind fun μ23 =>
    ((gR μ23 a1 12 22).bind fun v24 =>
    ((ob μ23 a1 12).bind fun _ =>
    (bd (f_X12_amount μ23 a1 (0 : Int32) (60 : Int32)) fun v26 μ25 =>
    ((sI μ25 v24 0 x4 v26).bind fun μ27 =>
    ((gR μ27 a1 12 15).bind fun v28 =>
    ((aI μ27 v28 0 (3 : Int32)).bind fun v29 =>
    ((sI μ27 v28 0 (3 : Int32) (v29 + (1 : Int32))).bind fun μ30 =>
    (some μ30))))))))))))))
    else
    ((gR μ14 a1 12 15).bind fun v31 =>
    ((aI μ14 v31 0 (2 : Int32)).bind fun v32 =>
    (if x16 < v32 then
    ((gR μ14 a1 12 20).bind fun v33 =>
    ((sI μ14 v33 0 x4 x16).bind fun μ34 =>
    ((gR μ34 a1 12 21).bind fun v35 =>
    ((ob μ34 a1 12).bind fun _ =>
    (bd (f_X12_amount μ34 a1 (1 : Int32) (30 : Int32)) fun v37 μ36 =>
    ((sI μ36 v35 0 x4 v37).bind fun μ38 =>
    ((gR μ38 a1 12 22).bind fun v39 =>
    ((ob μ38 a1 12).bind fun _ =>
    (bd (f_X12_amount μ38 a1 (0 : Int32) (60 : Int32)) fun v41 μ40 =>
    ((sI μ40 v39 0 x4 v41).bind fun μ42 =>
    ((gR μ42 a1 12 15).bind fun v43 =>
    ((aI μ42 v43 0 (3 : Int32)).bind fun v44 =>
    ((sI μ42 v43 0 (3 : Int32) (v44 + (1 : Int32))).bind fun μ45 =>
    (some μ45))))))))))))))
    else
    ((ob μ14 a1 12).bind fun _ =>
    ((f_X12_fails μ14 a1 (1 : Int32) x13).bind fun μ46 =>
    ((gR μ46 a1 12 20).bind fun v47 =>
    ((sI μ46 v47 0 x4 x16).bind fun μ48 =>
    ((gR μ48 a1 12 21).bind fun v49 =>
    ((ob μ48 a1 12).bind fun _ =>
    (bd (f_X12_amount μ48 a1 (1 : Int32) (30 : Int32)) fun v51 μ50 =>
    ((sI μ50 v49 0 x4 v51).bind fun μ52 =>
    ((gR μ52 a1 12 22).bind fun v53 =>
    ((ob μ52 a1 12).bind fun _ =>
    (bd (f_X12_amount μ52 a1 (0 : Int32) (60 : Int32)) fun v55 μ54 =>
    ((sI μ54 v53 0 x4 v55).bind fun μ56 =>
    ((gR μ56 a1 12 15).bind fun v57 =>
    ((aI μ56 v57 0 (3 : Int32)).bind fun v58 =>
    ((sI μ56 v57 0 (3 : Int32) (v58 + (1 : Int32))).bind fun μ59 =>
    (some μ59))))))))))))))))))))
    else
    ((gR μ14 a1 12 20).bind fun v60 =>
    ((sI μ14 v60 0 x4 x16).bind fun μ61 =>
    ((gR μ61 a1 12 21).bind fun v62 =>
    ((ob μ61 a1 12).bind fun _ =>
    (bd (f_X12_amount μ61 a1 (1 : Int32) (30 : Int32)) fun v64 μ63 =>
    ((sI μ63 v62 0 x4 v64).bind fun μ65 =>
    ((gR μ65 a1 12 22).bind fun v66 =>
    ((ob μ65 a1 12).bind fun _ =>
    (bd (f_X12_amount μ65 a1 (0 : Int32) (60 : Int32)) fun v68 μ67 =>
    ((sI μ67 v66 0 x4 v68).bind fun μ69 =>
    ((gR μ69 a1 12 15).bind fun v70 =>
    ((aI μ69 v70 0 (3 : Int32)).bind fun v71 =>
    ((sI μ69 v70 0 (3 : Int32) (v71 + (1 : Int32))).bind fun μ72 =>
    (some μ72))))))))))))))))))))))))))))))))
set_option maxHeartbeats 4000000 in
set_option maxRecDepth 100000 in
theorem f_X12_readsThing_ok {l : Launch} {G : GG} {μ0 : Mm} {a1 : Nat} {μ' : Mm} (hf : f_X12_readsThing μ0 a1 = some μ') : EvM l G D_X12_readsThing yX12_readsThing cX12_readsThing 4 none [.ref a1] μ0 none μ' := by
  show Ev l G D_X12_readsThing yX12_readsThing cX12_readsThing 4 none 0 [(0, .ref a1)] [] μ0 none μ'
  unfold f_X12_readsThing at hf
  refine E_aload_n (pc := 0) dX12_readsThing_0 rfl ?_
  refine E_getR (pc := 1) dX12_readsThing_1 fl_X12_52 hf (fun v2 hf => ?_)
  refine E_iconst (pc := 4) (v := (3 : Int32)) dX12_readsThing_4 (by decide) ?_
  refine E_iald (pc := 5) dX12_readsThing_5 hf (fun v3 hf => ?_)
  refine E_istore_n (pc := 6) (ls' := fun x4 => [(1, .int x4), (0, .ref a1)]) dX12_readsThing_6 (by decide) (fun _ => rfl) hf (fun x4 hf => ?_)
  refine E_aload_n (pc := 7) dX12_readsThing_7 rfl ?_
  refine E_getR (pc := 8) dX12_readsThing_8 fl_X12_64 hf (fun v5 hf => ?_)
  refine E_iload_n (pc := 11) dX12_readsThing_11 rfl ?_
  refine E_aload_n (pc := 12) dX12_readsThing_12 rfl ?_
  refine E_iconst (pc := 13) (v := (0 : Int32)) dX12_readsThing_13 (by decide) ?_
  refine E_aload_n (pc := 14) dX12_readsThing_14 rfl ?_
  refine E_Vi (pc := 15) (d2 := D_X12_newCells) (ci := 12) [] dX12_readsThing_15 ml_X12_324 mf_X12_newCells im_X12_newCells rfl rfl rfl (by decide) (Nat.le_of_ble_eq_true rfl) (Nat.le_of_ble_eq_true rfl) rfl (fun _ _ h => f_X12_newCells_ok h) hf (fun v7 μ6 hf => ?_)
  refine E_iconst (pc := 18) (v := (1 : Int32)) dX12_readsThing_18 (by decide) ?_
  refine E_isub (pc := 19) dX12_readsThing_19 ?_
  refine E_Vi (pc := 20) (d2 := D_X12_amount) (ci := 12) [.int (0 : Int32), .int (v7 - (1 : Int32))] dX12_readsThing_20 ml_X12_327 mf_X12_amount im_X12_amount rfl rfl rfl (by decide) (Nat.le_of_ble_eq_true rfl) (Nat.le_of_ble_eq_true rfl) rfl (fun _ _ h => f_X12_amount_ok h) hf (fun v9 μ8 hf => ?_)
  refine E_iast (pc := 23) dX12_readsThing_23 hf (fun μ10 hf => ?_)
  refine E_aload_n (pc := 24) dX12_readsThing_24 rfl ?_
  refine E_Vv (pc := 25) (d2 := D_X12_blanks) (ci := 12) [] dX12_readsThing_25 ml_X12_236 mf_X12_blanks im_X12_blanks rfl rfl rfl (by decide) (Nat.le_of_ble_eq_true rfl) (Nat.le_of_ble_eq_true rfl) rfl (fun _ h => f_X12_blanks_ok h) hf (fun μ11 hf => ?_)
  refine E_aload_n (pc := 28) dX12_readsThing_28 rfl ?_
  refine E_getI (pc := 29) dX12_readsThing_29 fl_X12_217 hf (fun v12 hf => ?_)
  refine E_istore_n (pc := 32) (ls' := fun x13 => [(2, .int x13), (1, .int x4), (0, .ref a1)]) dX12_readsThing_32 (by decide) (fun _ => rfl) hf (fun x13 hf => ?_)
  refine E_aload_n (pc := 33) dX12_readsThing_33 rfl ?_
  refine E_iconst (pc := 34) (v := (0 : Int32)) dX12_readsThing_34 (by decide) ?_
  refine E_ldcw (pc := 35) (v := (99999 : Int32)) dX12_readsThing_35 co_X12_260 ?_
  refine E_Vi (pc := 38) (d2 := D_X12_amount) (ci := 12) [.int (0 : Int32), .int (99999 : Int32)] dX12_readsThing_38 ml_X12_327 mf_X12_amount im_X12_amount rfl rfl rfl (by decide) (Nat.le_of_ble_eq_true rfl) (Nat.le_of_ble_eq_true rfl) rfl (fun _ _ h => f_X12_amount_ok h) hf (fun v15 μ14 hf => ?_)
  refine E_istore_n (pc := 41) (ls' := fun x16 => [(3, .int x16), (2, .int x13), (1, .int x4), (0, .ref a1)]) dX12_readsThing_41 (by decide) (fun _ => rfl) hf (fun x16 hf => ?_)
  refine E_aload_n (pc := 42) dX12_readsThing_42 rfl ?_
  refine E_getI (pc := 43) dX12_readsThing_43 fl_X12_214 hf (fun v17 hf => ?_)
  refine E_if_ne (pc := 46) (tgt := 71) dX12_readsThing_46 (by decide) hf (fun hf => ?_) (fun hf => ?_)
  · refine E_iload_n (pc := 49) dX12_readsThing_49 rfl ?_
    refine E_bipush (pc := 50) (v := (9 : Int32)) dX12_readsThing_50 (by decide) ?_
    refine E_icmp_eq (pc := 52) (tgt := 71) dX12_readsThing_52 (by decide) hf (fun hf => ?_) (fun hf => ?_)
    · refine E_aload_n (pc := 71) dX12_readsThing_71 rfl ?_
      refine E_getR (pc := 72) dX12_readsThing_72 fl_X12_67 hf (fun v18 hf => ?_)
      refine E_iload_n (pc := 75) dX12_readsThing_75 rfl ?_
      refine E_iload_n (pc := 76) dX12_readsThing_76 rfl ?_
      refine E_iast (pc := 77) dX12_readsThing_77 hf (fun μ19 hf => ?_)
      refine E_aload_n (pc := 78) dX12_readsThing_78 rfl ?_
      refine E_getR (pc := 79) dX12_readsThing_79 fl_X12_70 hf (fun v20 hf => ?_)
      refine E_iload_n (pc := 82) dX12_readsThing_82 rfl ?_
      refine E_aload_n (pc := 83) dX12_readsThing_83 rfl ?_
      refine E_iconst (pc := 84) (v := (1 : Int32)) dX12_readsThing_84 (by decide) ?_
      refine E_bipush (pc := 85) (v := (30 : Int32)) dX12_readsThing_85 (by decide) ?_
      refine E_Vi (pc := 87) (d2 := D_X12_amount) (ci := 12) [.int (1 : Int32), .int (30 : Int32)] dX12_readsThing_87 ml_X12_327 mf_X12_amount im_X12_amount rfl rfl rfl (by decide) (Nat.le_of_ble_eq_true rfl) (Nat.le_of_ble_eq_true rfl) rfl (fun _ _ h => f_X12_amount_ok h) hf (fun v22 μ21 hf => ?_)
      refine E_iast (pc := 90) dX12_readsThing_90 hf (fun μ23 hf => ?_)
      refine E_aload_n (pc := 91) dX12_readsThing_91 rfl ?_
      refine E_getR (pc := 92) dX12_readsThing_92 fl_X12_73 hf (fun v24 hf => ?_)
      refine E_iload_n (pc := 95) dX12_readsThing_95 rfl ?_
      refine E_aload_n (pc := 96) dX12_readsThing_96 rfl ?_
      refine E_iconst (pc := 97) (v := (0 : Int32)) dX12_readsThing_97 (by decide) ?_
      refine E_bipush (pc := 98) (v := (60 : Int32)) dX12_readsThing_98 (by decide) ?_
      refine E_Vi (pc := 100) (d2 := D_X12_amount) (ci := 12) [.int (0 : Int32), .int (60 : Int32)] dX12_readsThing_100 ml_X12_327 mf_X12_amount im_X12_amount rfl rfl rfl (by decide) (Nat.le_of_ble_eq_true rfl) (Nat.le_of_ble_eq_true rfl) rfl (fun _ _ h => f_X12_amount_ok h) hf (fun v26 μ25 hf => ?_)
      refine E_iast (pc := 103) dX12_readsThing_103 hf (fun μ27 hf => ?_)
      refine E_aload_n (pc := 104) dX12_readsThing_104 rfl ?_
      refine E_getR (pc := 105) dX12_readsThing_105 fl_X12_52 hf (fun v28 hf => ?_)
      refine E_iconst (pc := 108) (v := (3 : Int32)) dX12_readsThing_108 (by decide) ?_
      refine E_dup2 (pc := 109) dX12_readsThing_109 rfl rfl ?_
      refine E_iald (pc := 110) dX12_readsThing_110 hf (fun v29 hf => ?_)
      refine E_iconst (pc := 111) (v := (1 : Int32)) dX12_readsThing_111 (by decide) ?_
      refine E_iadd (pc := 112) dX12_readsThing_112 ?_
      refine E_iast (pc := 113) dX12_readsThing_113 hf (fun μ30 hf => ?_)
      exact E_vret (pc := 114) dX12_readsThing_114 rfl hf
    · refine E_iload_n (pc := 55) dX12_readsThing_55 rfl ?_
      refine E_aload_n (pc := 56) dX12_readsThing_56 rfl ?_
      refine E_getR (pc := 57) dX12_readsThing_57 fl_X12_52 hf (fun v31 hf => ?_)
      refine E_iconst (pc := 60) (v := (2 : Int32)) dX12_readsThing_60 (by decide) ?_
      refine E_iald (pc := 61) dX12_readsThing_61 hf (fun v32 hf => ?_)
      refine E_icmp_lt (pc := 62) (tgt := 71) dX12_readsThing_62 (by decide) hf (fun hf => ?_) (fun hf => ?_)
      · refine E_aload_n (pc := 71) dX12_readsThing_71 rfl ?_
        refine E_getR (pc := 72) dX12_readsThing_72 fl_X12_67 hf (fun v33 hf => ?_)
        refine E_iload_n (pc := 75) dX12_readsThing_75 rfl ?_
        refine E_iload_n (pc := 76) dX12_readsThing_76 rfl ?_
        refine E_iast (pc := 77) dX12_readsThing_77 hf (fun μ34 hf => ?_)
        refine E_aload_n (pc := 78) dX12_readsThing_78 rfl ?_
        refine E_getR (pc := 79) dX12_readsThing_79 fl_X12_70 hf (fun v35 hf => ?_)
        refine E_iload_n (pc := 82) dX12_readsThing_82 rfl ?_
        refine E_aload_n (pc := 83) dX12_readsThing_83 rfl ?_
        refine E_iconst (pc := 84) (v := (1 : Int32)) dX12_readsThing_84 (by decide) ?_
        refine E_bipush (pc := 85) (v := (30 : Int32)) dX12_readsThing_85 (by decide) ?_
        refine E_Vi (pc := 87) (d2 := D_X12_amount) (ci := 12) [.int (1 : Int32), .int (30 : Int32)] dX12_readsThing_87 ml_X12_327 mf_X12_amount im_X12_amount rfl rfl rfl (by decide) (Nat.le_of_ble_eq_true rfl) (Nat.le_of_ble_eq_true rfl) rfl (fun _ _ h => f_X12_amount_ok h) hf (fun v37 μ36 hf => ?_)
        refine E_iast (pc := 90) dX12_readsThing_90 hf (fun μ38 hf => ?_)
        refine E_aload_n (pc := 91) dX12_readsThing_91 rfl ?_
        refine E_getR (pc := 92) dX12_readsThing_92 fl_X12_73 hf (fun v39 hf => ?_)
        refine E_iload_n (pc := 95) dX12_readsThing_95 rfl ?_
        refine E_aload_n (pc := 96) dX12_readsThing_96 rfl ?_
        refine E_iconst (pc := 97) (v := (0 : Int32)) dX12_readsThing_97 (by decide) ?_
        refine E_bipush (pc := 98) (v := (60 : Int32)) dX12_readsThing_98 (by decide) ?_
        refine E_Vi (pc := 100) (d2 := D_X12_amount) (ci := 12) [.int (0 : Int32), .int (60 : Int32)] dX12_readsThing_100 ml_X12_327 mf_X12_amount im_X12_amount rfl rfl rfl (by decide) (Nat.le_of_ble_eq_true rfl) (Nat.le_of_ble_eq_true rfl) rfl (fun _ _ h => f_X12_amount_ok h) hf (fun v41 μ40 hf => ?_)
        refine E_iast (pc := 103) dX12_readsThing_103 hf (fun μ42 hf => ?_)
        refine E_aload_n (pc := 104) dX12_readsThing_104 rfl ?_
        refine E_getR (pc := 105) dX12_readsThing_105 fl_X12_52 hf (fun v43 hf => ?_)
        refine E_iconst (pc := 108) (v := (3 : Int32)) dX12_readsThing_108 (by decide) ?_
        refine E_dup2 (pc := 109) dX12_readsThing_109 rfl rfl ?_
        refine E_iald (pc := 110) dX12_readsThing_110 hf (fun v44 hf => ?_)
        refine E_iconst (pc := 111) (v := (1 : Int32)) dX12_readsThing_111 (by decide) ?_
        refine E_iadd (pc := 112) dX12_readsThing_112 ?_
        refine E_iast (pc := 113) dX12_readsThing_113 hf (fun μ45 hf => ?_)
        exact E_vret (pc := 114) dX12_readsThing_114 rfl hf
      · refine E_aload_n (pc := 65) dX12_readsThing_65 rfl ?_
        refine E_iconst (pc := 66) (v := (1 : Int32)) dX12_readsThing_66 (by decide) ?_
        refine E_iload_n (pc := 67) dX12_readsThing_67 rfl ?_
        refine E_Vv (pc := 68) (d2 := D_X12_fails) (ci := 12) [.int (1 : Int32), .int x13] dX12_readsThing_68 ml_X12_252 mf_X12_fails im_X12_fails rfl rfl rfl (by decide) (Nat.le_of_ble_eq_true rfl) (Nat.le_of_ble_eq_true rfl) rfl (fun _ h => f_X12_fails_ok h) hf (fun μ46 hf => ?_)
        refine E_aload_n (pc := 71) dX12_readsThing_71 rfl ?_
        refine E_getR (pc := 72) dX12_readsThing_72 fl_X12_67 hf (fun v47 hf => ?_)
        refine E_iload_n (pc := 75) dX12_readsThing_75 rfl ?_
        refine E_iload_n (pc := 76) dX12_readsThing_76 rfl ?_
        refine E_iast (pc := 77) dX12_readsThing_77 hf (fun μ48 hf => ?_)
        refine E_aload_n (pc := 78) dX12_readsThing_78 rfl ?_
        refine E_getR (pc := 79) dX12_readsThing_79 fl_X12_70 hf (fun v49 hf => ?_)
        refine E_iload_n (pc := 82) dX12_readsThing_82 rfl ?_
        refine E_aload_n (pc := 83) dX12_readsThing_83 rfl ?_
        refine E_iconst (pc := 84) (v := (1 : Int32)) dX12_readsThing_84 (by decide) ?_
        refine E_bipush (pc := 85) (v := (30 : Int32)) dX12_readsThing_85 (by decide) ?_
        refine E_Vi (pc := 87) (d2 := D_X12_amount) (ci := 12) [.int (1 : Int32), .int (30 : Int32)] dX12_readsThing_87 ml_X12_327 mf_X12_amount im_X12_amount rfl rfl rfl (by decide) (Nat.le_of_ble_eq_true rfl) (Nat.le_of_ble_eq_true rfl) rfl (fun _ _ h => f_X12_amount_ok h) hf (fun v51 μ50 hf => ?_)
        refine E_iast (pc := 90) dX12_readsThing_90 hf (fun μ52 hf => ?_)
        refine E_aload_n (pc := 91) dX12_readsThing_91 rfl ?_
        refine E_getR (pc := 92) dX12_readsThing_92 fl_X12_73 hf (fun v53 hf => ?_)
        refine E_iload_n (pc := 95) dX12_readsThing_95 rfl ?_
        refine E_aload_n (pc := 96) dX12_readsThing_96 rfl ?_
        refine E_iconst (pc := 97) (v := (0 : Int32)) dX12_readsThing_97 (by decide) ?_
        refine E_bipush (pc := 98) (v := (60 : Int32)) dX12_readsThing_98 (by decide) ?_
        refine E_Vi (pc := 100) (d2 := D_X12_amount) (ci := 12) [.int (0 : Int32), .int (60 : Int32)] dX12_readsThing_100 ml_X12_327 mf_X12_amount im_X12_amount rfl rfl rfl (by decide) (Nat.le_of_ble_eq_true rfl) (Nat.le_of_ble_eq_true rfl) rfl (fun _ _ h => f_X12_amount_ok h) hf (fun v55 μ54 hf => ?_)
        refine E_iast (pc := 103) dX12_readsThing_103 hf (fun μ56 hf => ?_)
        refine E_aload_n (pc := 104) dX12_readsThing_104 rfl ?_
        refine E_getR (pc := 105) dX12_readsThing_105 fl_X12_52 hf (fun v57 hf => ?_)
        refine E_iconst (pc := 108) (v := (3 : Int32)) dX12_readsThing_108 (by decide) ?_
        refine E_dup2 (pc := 109) dX12_readsThing_109 rfl rfl ?_
        refine E_iald (pc := 110) dX12_readsThing_110 hf (fun v58 hf => ?_)
        refine E_iconst (pc := 111) (v := (1 : Int32)) dX12_readsThing_111 (by decide) ?_
        refine E_iadd (pc := 112) dX12_readsThing_112 ?_
        refine E_iast (pc := 113) dX12_readsThing_113 hf (fun μ59 hf => ?_)
        exact E_vret (pc := 114) dX12_readsThing_114 rfl hf
  · refine E_aload_n (pc := 71) dX12_readsThing_71 rfl ?_
    refine E_getR (pc := 72) dX12_readsThing_72 fl_X12_67 hf (fun v60 hf => ?_)
    refine E_iload_n (pc := 75) dX12_readsThing_75 rfl ?_
    refine E_iload_n (pc := 76) dX12_readsThing_76 rfl ?_
    refine E_iast (pc := 77) dX12_readsThing_77 hf (fun μ61 hf => ?_)
    refine E_aload_n (pc := 78) dX12_readsThing_78 rfl ?_
    refine E_getR (pc := 79) dX12_readsThing_79 fl_X12_70 hf (fun v62 hf => ?_)
    refine E_iload_n (pc := 82) dX12_readsThing_82 rfl ?_
    refine E_aload_n (pc := 83) dX12_readsThing_83 rfl ?_
    refine E_iconst (pc := 84) (v := (1 : Int32)) dX12_readsThing_84 (by decide) ?_
    refine E_bipush (pc := 85) (v := (30 : Int32)) dX12_readsThing_85 (by decide) ?_
    refine E_Vi (pc := 87) (d2 := D_X12_amount) (ci := 12) [.int (1 : Int32), .int (30 : Int32)] dX12_readsThing_87 ml_X12_327 mf_X12_amount im_X12_amount rfl rfl rfl (by decide) (Nat.le_of_ble_eq_true rfl) (Nat.le_of_ble_eq_true rfl) rfl (fun _ _ h => f_X12_amount_ok h) hf (fun v64 μ63 hf => ?_)
    refine E_iast (pc := 90) dX12_readsThing_90 hf (fun μ65 hf => ?_)
    refine E_aload_n (pc := 91) dX12_readsThing_91 rfl ?_
    refine E_getR (pc := 92) dX12_readsThing_92 fl_X12_73 hf (fun v66 hf => ?_)
    refine E_iload_n (pc := 95) dX12_readsThing_95 rfl ?_
    refine E_aload_n (pc := 96) dX12_readsThing_96 rfl ?_
    refine E_iconst (pc := 97) (v := (0 : Int32)) dX12_readsThing_97 (by decide) ?_
    refine E_bipush (pc := 98) (v := (60 : Int32)) dX12_readsThing_98 (by decide) ?_
    refine E_Vi (pc := 100) (d2 := D_X12_amount) (ci := 12) [.int (0 : Int32), .int (60 : Int32)] dX12_readsThing_100 ml_X12_327 mf_X12_amount im_X12_amount rfl rfl rfl (by decide) (Nat.le_of_ble_eq_true rfl) (Nat.le_of_ble_eq_true rfl) rfl (fun _ _ h => f_X12_amount_ok h) hf (fun v68 μ67 hf => ?_)
    refine E_iast (pc := 103) dX12_readsThing_103 hf (fun μ69 hf => ?_)
    refine E_aload_n (pc := 104) dX12_readsThing_104 rfl ?_
    refine E_getR (pc := 105) dX12_readsThing_105 fl_X12_52 hf (fun v70 hf => ?_)
    refine E_iconst (pc := 108) (v := (3 : Int32)) dX12_readsThing_108 (by decide) ?_
    refine E_dup2 (pc := 109) dX12_readsThing_109 rfl rfl ?_
    refine E_iald (pc := 110) dX12_readsThing_110 hf (fun v71 hf => ?_)
    refine E_iconst (pc := 111) (v := (1 : Int32)) dX12_readsThing_111 (by decide) ?_
    refine E_iadd (pc := 112) dX12_readsThing_112 ?_
    refine E_iast (pc := 113) dX12_readsThing_113 hf (fun μ72 hf => ?_)
    exact E_vret (pc := 114) dX12_readsThing_114 rfl hf
theorem dX12_readsNet_0 : decode cX12_readsNet 0 = .ok (.aload_n 0, 1) := by decide +kernel
theorem dX12_readsNet_1 : decode cX12_readsNet 1 = .ok (.getfield 52, 3) := by decide +kernel
theorem dX12_readsNet_4 : decode cX12_readsNet 4 = .ok (.iconst 4, 1) := by decide +kernel
theorem dX12_readsNet_5 : decode cX12_readsNet 5 = .ok (.iaload, 1) := by decide +kernel
theorem dX12_readsNet_6 : decode cX12_readsNet 6 = .ok (.istore_n 1, 1) := by decide +kernel
theorem dX12_readsNet_7 : decode cX12_readsNet 7 = .ok (.aload_n 0, 1) := by decide +kernel
theorem dX12_readsNet_8 : decode cX12_readsNet 8 = .ok (.invokevirtual 236, 3) := by decide +kernel
theorem dX12_readsNet_11 : decode cX12_readsNet 11 = .ok (.aload_n 0, 1) := by decide +kernel
theorem dX12_readsNet_12 : decode cX12_readsNet 12 = .ok (.getfield 217, 3) := by decide +kernel
theorem dX12_readsNet_15 : decode cX12_readsNet 15 = .ok (.istore_n 2, 1) := by decide +kernel
theorem dX12_readsNet_16 : decode cX12_readsNet 16 = .ok (.aload_n 0, 1) := by decide +kernel
theorem dX12_readsNet_17 : decode cX12_readsNet 17 = .ok (.iconst 0, 1) := by decide +kernel
theorem dX12_readsNet_18 : decode cX12_readsNet 18 = .ok (.aload_n 0, 1) := by decide +kernel
theorem dX12_readsNet_19 : decode cX12_readsNet 19 = .ok (.invokevirtual 324, 3) := by decide +kernel
theorem dX12_readsNet_22 : decode cX12_readsNet 22 = .ok (.iconst 1, 1) := by decide +kernel
theorem dX12_readsNet_23 : decode cX12_readsNet 23 = .ok (.isub, 1) := by decide +kernel
theorem dX12_readsNet_24 : decode cX12_readsNet 24 = .ok (.invokevirtual 327, 3) := by decide +kernel
theorem dX12_readsNet_27 : decode cX12_readsNet 27 = .ok (.istore_n 3, 1) := by decide +kernel
theorem dX12_readsNet_28 : decode cX12_readsNet 28 = .ok (.iconst 0, 1) := by decide +kernel
theorem dX12_readsNet_29 : decode cX12_readsNet 29 = .ok (.istore 4, 2) := by decide +kernel
theorem dX12_readsNet_31 : decode cX12_readsNet 31 = .ok (.iload 4, 2) := by decide +kernel
theorem dX12_readsNet_33 : decode cX12_readsNet 33 = .ok (.iload_n 1, 1) := by decide +kernel
theorem dX12_readsNet_34 : decode cX12_readsNet 34 = .ok (.if_icmp .ge 33, 3) := by decide +kernel
theorem dX12_readsNet_37 : decode cX12_readsNet 37 = .ok (.aload_n 0, 1) := by decide +kernel
theorem dX12_readsNet_38 : decode cX12_readsNet 38 = .ok (.getfield 76, 3) := by decide +kernel
theorem dX12_readsNet_41 : decode cX12_readsNet 41 = .ok (.iload 4, 2) := by decide +kernel
theorem dX12_readsNet_43 : decode cX12_readsNet 43 = .ok (.iaload, 1) := by decide +kernel
theorem dX12_readsNet_44 : decode cX12_readsNet 44 = .ok (.iload_n 3, 1) := by decide +kernel
theorem dX12_readsNet_45 : decode cX12_readsNet 45 = .ok (.if_icmp .ne 16, 3) := by decide +kernel
theorem dX12_readsNet_48 : decode cX12_readsNet 48 = .ok (.aload_n 0, 1) := by decide +kernel
theorem dX12_readsNet_49 : decode cX12_readsNet 49 = .ok (.getfield 214, 3) := by decide +kernel
theorem dX12_readsNet_52 : decode cX12_readsNet 52 = .ok (.ifCond .ne 9, 3) := by decide +kernel
theorem dX12_readsNet_55 : decode cX12_readsNet 55 = .ok (.aload_n 0, 1) := by decide +kernel
theorem dX12_readsNet_56 : decode cX12_readsNet 56 = .ok (.iconst 1, 1) := by decide +kernel
theorem dX12_readsNet_57 : decode cX12_readsNet 57 = .ok (.iload_n 2, 1) := by decide +kernel
theorem dX12_readsNet_58 : decode cX12_readsNet 58 = .ok (.invokevirtual 252, 3) := by decide +kernel
theorem dX12_readsNet_61 : decode cX12_readsNet 61 = .ok (.iinc 4 1, 3) := by decide +kernel
theorem dX12_readsNet_64 : decode cX12_readsNet 64 = .ok (.goto (-33), 3) := by decide +kernel
theorem dX12_readsNet_67 : decode cX12_readsNet 67 = .ok (.aload_n 0, 1) := by decide +kernel
theorem dX12_readsNet_68 : decode cX12_readsNet 68 = .ok (.getfield 76, 3) := by decide +kernel
theorem dX12_readsNet_71 : decode cX12_readsNet 71 = .ok (.iload_n 1, 1) := by decide +kernel
theorem dX12_readsNet_72 : decode cX12_readsNet 72 = .ok (.iload_n 3, 1) := by decide +kernel
theorem dX12_readsNet_73 : decode cX12_readsNet 73 = .ok (.iastore, 1) := by decide +kernel
theorem dX12_readsNet_74 : decode cX12_readsNet 74 = .ok (.aload_n 0, 1) := by decide +kernel
theorem dX12_readsNet_75 : decode cX12_readsNet 75 = .ok (.getfield 52, 3) := by decide +kernel
theorem dX12_readsNet_78 : decode cX12_readsNet 78 = .ok (.iconst 4, 1) := by decide +kernel
theorem dX12_readsNet_79 : decode cX12_readsNet 79 = .ok (.dup2, 1) := by decide +kernel
theorem dX12_readsNet_80 : decode cX12_readsNet 80 = .ok (.iaload, 1) := by decide +kernel
theorem dX12_readsNet_81 : decode cX12_readsNet 81 = .ok (.iconst 1, 1) := by decide +kernel
theorem dX12_readsNet_82 : decode cX12_readsNet 82 = .ok (.iadd, 1) := by decide +kernel
theorem dX12_readsNet_83 : decode cX12_readsNet 83 = .ok (.iastore, 1) := by decide +kernel
theorem dX12_readsNet_84 : decode cX12_readsNet 84 = .ok (.return_, 1) := by decide +kernel
abbrev D_X12_readsNet : Nat := 5
def f_X12_readsNet_L31 (K67 : Mm → Nat → Int32 → Int32 → Option Mm) : Nat → Mm → Nat → Int32 → Int32 → Int32 → Int32 → Option Mm
  | 0, _, _, _, _, _, _ => none
  | n + 1, μ0, a14, x15, x16, x17, x18 =>
    (if x15 ≤ x18 then
    K67 μ0 a14 x15 x17
    else
    ((gR μ0 a14 12 23).bind fun v19 =>
    ((aI μ0 v19 0 x18).bind fun v20 =>
    (if v20 = x17 then
    ((gI μ0 a14 12 30).bind fun v21 =>
    (if v21 = 0 then
    ((ob μ0 a14 12).bind fun _ =>
    ((f_X12_fails μ0 a14 (1 : Int32) x16).bind fun μ22 =>
    (nm (x18 + Int32.ofInt (1)) fun x23 =>
    f_X12_readsNet_L31 K67 n μ22 a14 x15 x16 x17 x23)))
    else
    (nm (x18 + Int32.ofInt (1)) fun x24 =>
    f_X12_readsNet_L31 K67 n μ0 a14 x15 x16 x17 x24)))
    else
    (nm (x18 + Int32.ofInt (1)) fun x25 =>
    f_X12_readsNet_L31 K67 n μ0 a14 x15 x16 x17 x25)))))
set_option maxHeartbeats 4000000 in
set_option maxRecDepth 100000 in
theorem f_X12_readsNet_L31_ok {l : Launch} {G : GG} {K67 : Mm → Nat → Int32 → Int32 → Option Mm} {μ' : Mm} (n : Nat) (μ0 : Mm) (a14 : Nat) (x15 : Int32) (x16 : Int32) (x17 : Int32) (x18 : Int32) (hf : f_X12_readsNet_L31 K67 n μ0 a14 x15 x16 x17 x18 = some μ') (hK67 : ∀ (μ1 : Mm) (y0 : Nat) (y1 : Int32) (y3 : Int32), K67 μ1 y0 y1 y3 = some μ' → Ev l G D_X12_readsNet yX12_readsNet cX12_readsNet 5 none 67 [(0, .ref y0), (1, .int y1), (3, .int y3)] [] μ1 none μ') : Ev l G D_X12_readsNet yX12_readsNet cX12_readsNet 5 none 31 [(0, .ref a14), (1, .int x15), (2, .int x16), (3, .int x17), (4, .int x18)] [] μ0 none μ' := by
  induction n generalizing μ0 a14 x15 x16 x17 x18 with
  | zero => cases hf
  | succ n ih0 =>
    have ih : ∀ (μ0 : Mm) (a14 : Nat) (x15 : Int32) (x16 : Int32) (x17 : Int32) (x18 : Int32), f_X12_readsNet_L31 K67 n μ0 a14 x15 x16 x17 x18 = some μ' → Ev l G D_X12_readsNet yX12_readsNet cX12_readsNet 5 none 31 [(0, .ref a14), (1, .int x15), (2, .int x16), (3, .int x17), (4, .int x18)] [] μ0 none μ' := fun μ0 a14 x15 x16 x17 x18 hf => ih0 μ0 a14 x15 x16 x17 x18 hf
    rw [f_X12_readsNet_L31] at hf
    refine E_iload (pc := 31) dX12_readsNet_31 rfl ?_
    refine E_iload_n (pc := 33) dX12_readsNet_33 rfl ?_
    refine E_icmp_ge (pc := 34) (tgt := 67) dX12_readsNet_34 (by decide) hf (fun hf => ?_) (fun hf => ?_)
    · refine Ev.sub [0, 1, 3] rfl ?_
      exact hK67 _ _ _ _ hf
    · refine E_aload_n (pc := 37) dX12_readsNet_37 rfl ?_
      refine E_getR (pc := 38) dX12_readsNet_38 fl_X12_76 hf (fun v19 hf => ?_)
      refine E_iload (pc := 41) dX12_readsNet_41 rfl ?_
      refine E_iald (pc := 43) dX12_readsNet_43 hf (fun v20 hf => ?_)
      refine E_iload_n (pc := 44) dX12_readsNet_44 rfl ?_
      refine E_icmp_ne (pc := 45) (tgt := 61) dX12_readsNet_45 (by decide) hf (fun hf => ?_) (fun hf => ?_)
      · refine E_aload_n (pc := 48) dX12_readsNet_48 rfl ?_
        refine E_getI (pc := 49) dX12_readsNet_49 fl_X12_214 hf (fun v21 hf => ?_)
        refine E_if_ne (pc := 52) (tgt := 61) dX12_readsNet_52 (by decide) hf (fun hf => ?_) (fun hf => ?_)
        · refine E_aload_n (pc := 55) dX12_readsNet_55 rfl ?_
          refine E_iconst (pc := 56) (v := (1 : Int32)) dX12_readsNet_56 (by decide) ?_
          refine E_iload_n (pc := 57) dX12_readsNet_57 rfl ?_
          refine E_Vv (pc := 58) (d2 := D_X12_fails) (ci := 12) [.int (1 : Int32), .int x16] dX12_readsNet_58 ml_X12_252 mf_X12_fails im_X12_fails rfl rfl rfl (by decide) (Nat.le_of_ble_eq_true rfl) (Nat.le_of_ble_eq_true rfl) rfl (fun _ h => f_X12_fails_ok h) hf (fun μ22 hf => ?_)
          refine E_iinc (pc := 61) (ls' := fun x23 => [(4, .int x23), (0, .ref a14), (1, .int x15), (2, .int x16), (3, .int x17)]) dX12_readsNet_61 rfl (by decide) (fun _ => rfl) hf (fun x23 hf => ?_)
          refine E_goto (pc := 64) (tgt := 31) dX12_readsNet_64 (by decide) ?_
          refine Ev.sub [1, 2, 3, 4, 0] rfl ?_
          exact ih _ _ _ _ _ _ hf
        · refine E_iinc (pc := 61) (ls' := fun x24 => [(4, .int x24), (0, .ref a14), (1, .int x15), (2, .int x16), (3, .int x17)]) dX12_readsNet_61 rfl (by decide) (fun _ => rfl) hf (fun x24 hf => ?_)
          refine E_goto (pc := 64) (tgt := 31) dX12_readsNet_64 (by decide) ?_
          refine Ev.sub [1, 2, 3, 4, 0] rfl ?_
          exact ih _ _ _ _ _ _ hf
      · refine E_iinc (pc := 61) (ls' := fun x25 => [(4, .int x25), (0, .ref a14), (1, .int x15), (2, .int x16), (3, .int x17)]) dX12_readsNet_61 rfl (by decide) (fun _ => rfl) hf (fun x25 hf => ?_)
        refine E_goto (pc := 64) (tgt := 31) dX12_readsNet_64 (by decide) ?_
        refine Ev.sub [1, 2, 3, 4, 0] rfl ?_
        exact ih _ _ _ _ _ _ hf
set_option maxRecDepth 100000 in
def f_X12_readsNet (μ0 : Mm) (a1 : Nat) : Option Mm :=
 ((gR μ0 a1 12 15).bind fun v2 =>
    ((aI μ0 v2 0 (4 : Int32)).bind fun v3 =>
    (nm v3 fun x4 =>
    ((ob μ0 a1 12).bind fun _ =>
    ((f_X12_blanks μ0 a1).bind fun μ5 =>
    ((gI μ5 a1 12 29).bind fun v6 =>
    (nm v6 fun x7 =>
    ((ob μ5 a1 12).bind fun _ =>
    (bd (f_X12_newCells μ5 a1) fun v9 μ8 =>
    ((ob μ8 a1 12).bind fun _ =>
    (bd (f_X12_amount μ8 a1 (0 : Int32) (v9 - (1 : Int32))) fun v11 μ10 =>
    (nm v11 fun x12 =>
    (nm (0 : Int32) fun x13 =>
    f_X12_readsNet_L31 (fun μ26 a27 x28 x29 =>
    ((gR μ26 a27 12 23).bind fun v30 =>
    ((sI μ26 v30 0 x28 x29).bind fun μ31 =>
    ((gR μ31 a27 12 15).bind fun v32 =>
    ((aI μ31 v32 0 (4 : Int32)).bind fun v33 =>
    ((sI μ31 v32 0 (4 : Int32) (v33 + (1 : Int32))).bind fun μ34 =>
    (some μ34))))))) FU μ10 a1 x4 x7 x12 x13)))))))))))))
set_option maxHeartbeats 4000000 in
set_option maxRecDepth 100000 in
theorem f_X12_readsNet_ok {l : Launch} {G : GG} {μ0 : Mm} {a1 : Nat} {μ' : Mm} (hf : f_X12_readsNet μ0 a1 = some μ') : EvM l G D_X12_readsNet yX12_readsNet cX12_readsNet 5 none [.ref a1] μ0 none μ' := by
  show Ev l G D_X12_readsNet yX12_readsNet cX12_readsNet 5 none 0 [(0, .ref a1)] [] μ0 none μ'
  unfold f_X12_readsNet at hf
  refine E_aload_n (pc := 0) dX12_readsNet_0 rfl ?_
  refine E_getR (pc := 1) dX12_readsNet_1 fl_X12_52 hf (fun v2 hf => ?_)
  refine E_iconst (pc := 4) (v := (4 : Int32)) dX12_readsNet_4 (by decide) ?_
  refine E_iald (pc := 5) dX12_readsNet_5 hf (fun v3 hf => ?_)
  refine E_istore_n (pc := 6) (ls' := fun x4 => [(1, .int x4), (0, .ref a1)]) dX12_readsNet_6 (by decide) (fun _ => rfl) hf (fun x4 hf => ?_)
  refine E_aload_n (pc := 7) dX12_readsNet_7 rfl ?_
  refine E_Vv (pc := 8) (d2 := D_X12_blanks) (ci := 12) [] dX12_readsNet_8 ml_X12_236 mf_X12_blanks im_X12_blanks rfl rfl rfl (by decide) (Nat.le_of_ble_eq_true rfl) (Nat.le_of_ble_eq_true rfl) rfl (fun _ h => f_X12_blanks_ok h) hf (fun μ5 hf => ?_)
  refine E_aload_n (pc := 11) dX12_readsNet_11 rfl ?_
  refine E_getI (pc := 12) dX12_readsNet_12 fl_X12_217 hf (fun v6 hf => ?_)
  refine E_istore_n (pc := 15) (ls' := fun x7 => [(2, .int x7), (1, .int x4), (0, .ref a1)]) dX12_readsNet_15 (by decide) (fun _ => rfl) hf (fun x7 hf => ?_)
  refine E_aload_n (pc := 16) dX12_readsNet_16 rfl ?_
  refine E_iconst (pc := 17) (v := (0 : Int32)) dX12_readsNet_17 (by decide) ?_
  refine E_aload_n (pc := 18) dX12_readsNet_18 rfl ?_
  refine E_Vi (pc := 19) (d2 := D_X12_newCells) (ci := 12) [] dX12_readsNet_19 ml_X12_324 mf_X12_newCells im_X12_newCells rfl rfl rfl (by decide) (Nat.le_of_ble_eq_true rfl) (Nat.le_of_ble_eq_true rfl) rfl (fun _ _ h => f_X12_newCells_ok h) hf (fun v9 μ8 hf => ?_)
  refine E_iconst (pc := 22) (v := (1 : Int32)) dX12_readsNet_22 (by decide) ?_
  refine E_isub (pc := 23) dX12_readsNet_23 ?_
  refine E_Vi (pc := 24) (d2 := D_X12_amount) (ci := 12) [.int (0 : Int32), .int (v9 - (1 : Int32))] dX12_readsNet_24 ml_X12_327 mf_X12_amount im_X12_amount rfl rfl rfl (by decide) (Nat.le_of_ble_eq_true rfl) (Nat.le_of_ble_eq_true rfl) rfl (fun _ _ h => f_X12_amount_ok h) hf (fun v11 μ10 hf => ?_)
  refine E_istore_n (pc := 27) (ls' := fun x12 => [(3, .int x12), (2, .int x7), (1, .int x4), (0, .ref a1)]) dX12_readsNet_27 (by decide) (fun _ => rfl) hf (fun x12 hf => ?_)
  refine E_iconst (pc := 28) (v := (0 : Int32)) dX12_readsNet_28 (by decide) ?_
  refine E_istore (pc := 29) (ls' := fun x13 => [(4, .int x13), (3, .int x12), (2, .int x7), (1, .int x4), (0, .ref a1)]) dX12_readsNet_29 (by decide) (fun _ => rfl) hf (fun x13 hf => ?_)
  refine Ev.sub [4, 3, 2, 1, 0] rfl ?_
  refine f_X12_readsNet_L31_ok  _ _ _ _ _ _ _ hf (fun μ26 a27 x28 x29 hf => ?_)
  · refine E_aload_n (pc := 67) dX12_readsNet_67 rfl ?_
    refine E_getR (pc := 68) dX12_readsNet_68 fl_X12_76 hf (fun v30 hf => ?_)
    refine E_iload_n (pc := 71) dX12_readsNet_71 rfl ?_
    refine E_iload_n (pc := 72) dX12_readsNet_72 rfl ?_
    refine E_iast (pc := 73) dX12_readsNet_73 hf (fun μ31 hf => ?_)
    refine E_aload_n (pc := 74) dX12_readsNet_74 rfl ?_
    refine E_getR (pc := 75) dX12_readsNet_75 fl_X12_52 hf (fun v32 hf => ?_)
    refine E_iconst (pc := 78) (v := (4 : Int32)) dX12_readsNet_78 (by decide) ?_
    refine E_dup2 (pc := 79) dX12_readsNet_79 rfl rfl ?_
    refine E_iald (pc := 80) dX12_readsNet_80 hf (fun v33 hf => ?_)
    refine E_iconst (pc := 81) (v := (1 : Int32)) dX12_readsNet_81 (by decide) ?_
    refine E_iadd (pc := 82) dX12_readsNet_82 ?_
    refine E_iast (pc := 83) dX12_readsNet_83 hf (fun μ34 hf => ?_)
    exact E_vret (pc := 84) dX12_readsNet_84 rfl hf
theorem dX12_readsAfter_0 : decode cX12_readsAfter 0 = .ok (.aload_n 0, 1) := by decide +kernel
theorem dX12_readsAfter_1 : decode cX12_readsAfter 1 = .ok (.getfield 52, 3) := by decide +kernel
theorem dX12_readsAfter_4 : decode cX12_readsAfter 4 = .ok (.bipush 6, 2) := by decide +kernel
theorem dX12_readsAfter_6 : decode cX12_readsAfter 6 = .ok (.iaload, 1) := by decide +kernel
theorem dX12_readsAfter_7 : decode cX12_readsAfter 7 = .ok (.istore_n 1, 1) := by decide +kernel
theorem dX12_readsAfter_8 : decode cX12_readsAfter 8 = .ok (.aload_n 0, 1) := by decide +kernel
theorem dX12_readsAfter_9 : decode cX12_readsAfter 9 = .ok (.getfield 82, 3) := by decide +kernel
theorem dX12_readsAfter_12 : decode cX12_readsAfter 12 = .ok (.iload_n 1, 1) := by decide +kernel
theorem dX12_readsAfter_13 : decode cX12_readsAfter 13 = .ok (.aload_n 0, 1) := by decide +kernel
theorem dX12_readsAfter_14 : decode cX12_readsAfter 14 = .ok (.iconst 0, 1) := by decide +kernel
theorem dX12_readsAfter_15 : decode cX12_readsAfter 15 = .ok (.aload_n 0, 1) := by decide +kernel
theorem dX12_readsAfter_16 : decode cX12_readsAfter 16 = .ok (.getfield 52, 3) := by decide +kernel
theorem dX12_readsAfter_19 : decode cX12_readsAfter 19 = .ok (.iconst 5, 1) := by decide +kernel
theorem dX12_readsAfter_20 : decode cX12_readsAfter 20 = .ok (.iaload, 1) := by decide +kernel
theorem dX12_readsAfter_21 : decode cX12_readsAfter 21 = .ok (.iconst 1, 1) := by decide +kernel
theorem dX12_readsAfter_22 : decode cX12_readsAfter 22 = .ok (.isub, 1) := by decide +kernel
theorem dX12_readsAfter_23 : decode cX12_readsAfter 23 = .ok (.invokevirtual 327, 3) := by decide +kernel
theorem dX12_readsAfter_26 : decode cX12_readsAfter 26 = .ok (.iastore, 1) := by decide +kernel
theorem dX12_readsAfter_27 : decode cX12_readsAfter 27 = .ok (.aload_n 0, 1) := by decide +kernel
theorem dX12_readsAfter_28 : decode cX12_readsAfter 28 = .ok (.invokevirtual 236, 3) := by decide +kernel
theorem dX12_readsAfter_31 : decode cX12_readsAfter 31 = .ok (.aload_n 0, 1) := by decide +kernel
theorem dX12_readsAfter_32 : decode cX12_readsAfter 32 = .ok (.getfield 217, 3) := by decide +kernel
theorem dX12_readsAfter_35 : decode cX12_readsAfter 35 = .ok (.istore_n 2, 1) := by decide +kernel
theorem dX12_readsAfter_36 : decode cX12_readsAfter 36 = .ok (.aload_n 0, 1) := by decide +kernel
theorem dX12_readsAfter_37 : decode cX12_readsAfter 37 = .ok (.getfield 85, 3) := by decide +kernel
theorem dX12_readsAfter_40 : decode cX12_readsAfter 40 = .ok (.iload_n 1, 1) := by decide +kernel
theorem dX12_readsAfter_41 : decode cX12_readsAfter 41 = .ok (.aload_n 0, 1) := by decide +kernel
theorem dX12_readsAfter_42 : decode cX12_readsAfter 42 = .ok (.iconst 0, 1) := by decide +kernel
theorem dX12_readsAfter_43 : decode cX12_readsAfter 43 = .ok (.aload_n 0, 1) := by decide +kernel
theorem dX12_readsAfter_44 : decode cX12_readsAfter 44 = .ok (.getfield 52, 3) := by decide +kernel
theorem dX12_readsAfter_47 : decode cX12_readsAfter 47 = .ok (.iconst 5, 1) := by decide +kernel
theorem dX12_readsAfter_48 : decode cX12_readsAfter 48 = .ok (.iaload, 1) := by decide +kernel
theorem dX12_readsAfter_49 : decode cX12_readsAfter 49 = .ok (.iconst 1, 1) := by decide +kernel
theorem dX12_readsAfter_50 : decode cX12_readsAfter 50 = .ok (.isub, 1) := by decide +kernel
theorem dX12_readsAfter_51 : decode cX12_readsAfter 51 = .ok (.invokevirtual 327, 3) := by decide +kernel
theorem dX12_readsAfter_54 : decode cX12_readsAfter 54 = .ok (.iastore, 1) := by decide +kernel
theorem dX12_readsAfter_55 : decode cX12_readsAfter 55 = .ok (.aload_n 0, 1) := by decide +kernel
theorem dX12_readsAfter_56 : decode cX12_readsAfter 56 = .ok (.getfield 214, 3) := by decide +kernel
theorem dX12_readsAfter_59 : decode cX12_readsAfter 59 = .ok (.ifCond .ne 24, 3) := by decide +kernel
theorem dX12_readsAfter_62 : decode cX12_readsAfter 62 = .ok (.aload_n 0, 1) := by decide +kernel
theorem dX12_readsAfter_63 : decode cX12_readsAfter 63 = .ok (.getfield 85, 3) := by decide +kernel
theorem dX12_readsAfter_66 : decode cX12_readsAfter 66 = .ok (.iload_n 1, 1) := by decide +kernel
theorem dX12_readsAfter_67 : decode cX12_readsAfter 67 = .ok (.iaload, 1) := by decide +kernel
theorem dX12_readsAfter_68 : decode cX12_readsAfter 68 = .ok (.aload_n 0, 1) := by decide +kernel
theorem dX12_readsAfter_69 : decode cX12_readsAfter 69 = .ok (.getfield 82, 3) := by decide +kernel
theorem dX12_readsAfter_72 : decode cX12_readsAfter 72 = .ok (.iload_n 1, 1) := by decide +kernel
theorem dX12_readsAfter_73 : decode cX12_readsAfter 73 = .ok (.iaload, 1) := by decide +kernel
theorem dX12_readsAfter_74 : decode cX12_readsAfter 74 = .ok (.if_icmp .ne 9, 3) := by decide +kernel
theorem dX12_readsAfter_77 : decode cX12_readsAfter 77 = .ok (.aload_n 0, 1) := by decide +kernel
theorem dX12_readsAfter_78 : decode cX12_readsAfter 78 = .ok (.iconst 1, 1) := by decide +kernel
theorem dX12_readsAfter_79 : decode cX12_readsAfter 79 = .ok (.iload_n 2, 1) := by decide +kernel
theorem dX12_readsAfter_80 : decode cX12_readsAfter 80 = .ok (.invokevirtual 252, 3) := by decide +kernel
theorem dX12_readsAfter_83 : decode cX12_readsAfter 83 = .ok (.aload_n 0, 1) := by decide +kernel
theorem dX12_readsAfter_84 : decode cX12_readsAfter 84 = .ok (.getfield 52, 3) := by decide +kernel
theorem dX12_readsAfter_87 : decode cX12_readsAfter 87 = .ok (.bipush 6, 2) := by decide +kernel
theorem dX12_readsAfter_89 : decode cX12_readsAfter 89 = .ok (.dup2, 1) := by decide +kernel
theorem dX12_readsAfter_90 : decode cX12_readsAfter 90 = .ok (.iaload, 1) := by decide +kernel
theorem dX12_readsAfter_91 : decode cX12_readsAfter 91 = .ok (.iconst 1, 1) := by decide +kernel
theorem dX12_readsAfter_92 : decode cX12_readsAfter 92 = .ok (.iadd, 1) := by decide +kernel
theorem dX12_readsAfter_93 : decode cX12_readsAfter 93 = .ok (.iastore, 1) := by decide +kernel
theorem dX12_readsAfter_94 : decode cX12_readsAfter 94 = .ok (.return_, 1) := by decide +kernel
abbrev D_X12_readsAfter : Nat := 5
set_option maxRecDepth 100000 in
def f_X12_readsAfter (μ0 : Mm) (a1 : Nat) : Option Mm :=
 ((gR μ0 a1 12 15).bind fun v2 =>
    ((aI μ0 v2 0 (6 : Int32)).bind fun v3 =>
    (nm v3 fun x4 =>
    ((gR μ0 a1 12 25).bind fun v5 =>
    ((gR μ0 a1 12 15).bind fun v6 =>
    ((aI μ0 v6 0 (5 : Int32)).bind fun v7 =>
    ((ob μ0 a1 12).bind fun _ =>
    (bd (f_X12_amount μ0 a1 (0 : Int32) (v7 - (1 : Int32))) fun v9 μ8 =>
    ((sI μ8 v5 0 x4 v9).bind fun μ10 =>
    ((ob μ10 a1 12).bind fun _ =>
    ((f_X12_blanks μ10 a1).bind fun μ11 =>
    ((gI μ11 a1 12 29).bind fun v12 =>
    (nm v12 fun x13 =>
    ((gR μ11 a1 12 26).bind fun v14 =>
    ((gR μ11 a1 12 15).bind fun v15 =>
    ((aI μ11 v15 0 (5 : Int32)).bind fun v16 =>
    ((ob μ11 a1 12).bind fun _ =>
    (bd (f_X12_amount μ11 a1 (0 : Int32) (v16 - (1 : Int32))) fun v18 μ17 =>
    ((sI μ17 v14 0 x4 v18).bind fun μ19 =>
    ((gI μ19 a1 12 30).bind fun v20 =>
    (if v20 = 0 then
    ((gR μ19 a1 12 26).bind fun v21 =>
    ((aI μ19 v21 0 x4).bind fun v22 =>
    ((gR μ19 a1 12 25).bind fun v23 =>
    ((aI μ19 v23 0 x4).bind fun v24 =>
    (if v22 = v24 then
    ((ob μ19 a1 12).bind fun _ =>
    ((f_X12_fails μ19 a1 (1 : Int32) x13).bind fun μ25 =>
    ((gR μ25 a1 12 15).bind fun v26 =>
    ((aI μ25 v26 0 (6 : Int32)).bind fun v27 =>
    ((sI μ25 v26 0 (6 : Int32) (v27 + (1 : Int32))).bind fun μ28 =>
    (some μ28))))))
    else
    ((gR μ19 a1 12 15).bind fun v29 =>
    ((aI μ19 v29 0 (6 : Int32)).bind fun v30 =>
    ((sI μ19 v29 0 (6 : Int32) (v30 + (1 : Int32))).bind fun μ31 =>
    (some μ31)))))))))
    else
    ((gR μ19 a1 12 15).bind fun v32 =>
    ((aI μ19 v32 0 (6 : Int32)).bind fun v33 =>
    ((sI μ19 v32 0 (6 : Int32) (v33 + (1 : Int32))).bind fun μ34 =>
    (some μ34)))))))))))))))))))))))))
set_option maxHeartbeats 4000000 in
set_option maxRecDepth 100000 in
theorem f_X12_readsAfter_ok {l : Launch} {G : GG} {μ0 : Mm} {a1 : Nat} {μ' : Mm} (hf : f_X12_readsAfter μ0 a1 = some μ') : EvM l G D_X12_readsAfter yX12_readsAfter cX12_readsAfter 3 none [.ref a1] μ0 none μ' := by
  show Ev l G D_X12_readsAfter yX12_readsAfter cX12_readsAfter 3 none 0 [(0, .ref a1)] [] μ0 none μ'
  unfold f_X12_readsAfter at hf
  refine E_aload_n (pc := 0) dX12_readsAfter_0 rfl ?_
  refine E_getR (pc := 1) dX12_readsAfter_1 fl_X12_52 hf (fun v2 hf => ?_)
  refine E_bipush (pc := 4) (v := (6 : Int32)) dX12_readsAfter_4 (by decide) ?_
  refine E_iald (pc := 6) dX12_readsAfter_6 hf (fun v3 hf => ?_)
  refine E_istore_n (pc := 7) (ls' := fun x4 => [(1, .int x4), (0, .ref a1)]) dX12_readsAfter_7 (by decide) (fun _ => rfl) hf (fun x4 hf => ?_)
  refine E_aload_n (pc := 8) dX12_readsAfter_8 rfl ?_
  refine E_getR (pc := 9) dX12_readsAfter_9 fl_X12_82 hf (fun v5 hf => ?_)
  refine E_iload_n (pc := 12) dX12_readsAfter_12 rfl ?_
  refine E_aload_n (pc := 13) dX12_readsAfter_13 rfl ?_
  refine E_iconst (pc := 14) (v := (0 : Int32)) dX12_readsAfter_14 (by decide) ?_
  refine E_aload_n (pc := 15) dX12_readsAfter_15 rfl ?_
  refine E_getR (pc := 16) dX12_readsAfter_16 fl_X12_52 hf (fun v6 hf => ?_)
  refine E_iconst (pc := 19) (v := (5 : Int32)) dX12_readsAfter_19 (by decide) ?_
  refine E_iald (pc := 20) dX12_readsAfter_20 hf (fun v7 hf => ?_)
  refine E_iconst (pc := 21) (v := (1 : Int32)) dX12_readsAfter_21 (by decide) ?_
  refine E_isub (pc := 22) dX12_readsAfter_22 ?_
  refine E_Vi (pc := 23) (d2 := D_X12_amount) (ci := 12) [.int (0 : Int32), .int (v7 - (1 : Int32))] dX12_readsAfter_23 ml_X12_327 mf_X12_amount im_X12_amount rfl rfl rfl (by decide) (Nat.le_of_ble_eq_true rfl) (Nat.le_of_ble_eq_true rfl) rfl (fun _ _ h => f_X12_amount_ok h) hf (fun v9 μ8 hf => ?_)
  refine E_iast (pc := 26) dX12_readsAfter_26 hf (fun μ10 hf => ?_)
  refine E_aload_n (pc := 27) dX12_readsAfter_27 rfl ?_
  refine E_Vv (pc := 28) (d2 := D_X12_blanks) (ci := 12) [] dX12_readsAfter_28 ml_X12_236 mf_X12_blanks im_X12_blanks rfl rfl rfl (by decide) (Nat.le_of_ble_eq_true rfl) (Nat.le_of_ble_eq_true rfl) rfl (fun _ h => f_X12_blanks_ok h) hf (fun μ11 hf => ?_)
  refine E_aload_n (pc := 31) dX12_readsAfter_31 rfl ?_
  refine E_getI (pc := 32) dX12_readsAfter_32 fl_X12_217 hf (fun v12 hf => ?_)
  refine E_istore_n (pc := 35) (ls' := fun x13 => [(2, .int x13), (1, .int x4), (0, .ref a1)]) dX12_readsAfter_35 (by decide) (fun _ => rfl) hf (fun x13 hf => ?_)
  refine E_aload_n (pc := 36) dX12_readsAfter_36 rfl ?_
  refine E_getR (pc := 37) dX12_readsAfter_37 fl_X12_85 hf (fun v14 hf => ?_)
  refine E_iload_n (pc := 40) dX12_readsAfter_40 rfl ?_
  refine E_aload_n (pc := 41) dX12_readsAfter_41 rfl ?_
  refine E_iconst (pc := 42) (v := (0 : Int32)) dX12_readsAfter_42 (by decide) ?_
  refine E_aload_n (pc := 43) dX12_readsAfter_43 rfl ?_
  refine E_getR (pc := 44) dX12_readsAfter_44 fl_X12_52 hf (fun v15 hf => ?_)
  refine E_iconst (pc := 47) (v := (5 : Int32)) dX12_readsAfter_47 (by decide) ?_
  refine E_iald (pc := 48) dX12_readsAfter_48 hf (fun v16 hf => ?_)
  refine E_iconst (pc := 49) (v := (1 : Int32)) dX12_readsAfter_49 (by decide) ?_
  refine E_isub (pc := 50) dX12_readsAfter_50 ?_
  refine E_Vi (pc := 51) (d2 := D_X12_amount) (ci := 12) [.int (0 : Int32), .int (v16 - (1 : Int32))] dX12_readsAfter_51 ml_X12_327 mf_X12_amount im_X12_amount rfl rfl rfl (by decide) (Nat.le_of_ble_eq_true rfl) (Nat.le_of_ble_eq_true rfl) rfl (fun _ _ h => f_X12_amount_ok h) hf (fun v18 μ17 hf => ?_)
  refine E_iast (pc := 54) dX12_readsAfter_54 hf (fun μ19 hf => ?_)
  refine E_aload_n (pc := 55) dX12_readsAfter_55 rfl ?_
  refine E_getI (pc := 56) dX12_readsAfter_56 fl_X12_214 hf (fun v20 hf => ?_)
  refine E_if_ne (pc := 59) (tgt := 83) dX12_readsAfter_59 (by decide) hf (fun hf => ?_) (fun hf => ?_)
  · refine E_aload_n (pc := 62) dX12_readsAfter_62 rfl ?_
    refine E_getR (pc := 63) dX12_readsAfter_63 fl_X12_85 hf (fun v21 hf => ?_)
    refine E_iload_n (pc := 66) dX12_readsAfter_66 rfl ?_
    refine E_iald (pc := 67) dX12_readsAfter_67 hf (fun v22 hf => ?_)
    refine E_aload_n (pc := 68) dX12_readsAfter_68 rfl ?_
    refine E_getR (pc := 69) dX12_readsAfter_69 fl_X12_82 hf (fun v23 hf => ?_)
    refine E_iload_n (pc := 72) dX12_readsAfter_72 rfl ?_
    refine E_iald (pc := 73) dX12_readsAfter_73 hf (fun v24 hf => ?_)
    refine E_icmp_ne (pc := 74) (tgt := 83) dX12_readsAfter_74 (by decide) hf (fun hf => ?_) (fun hf => ?_)
    · refine E_aload_n (pc := 77) dX12_readsAfter_77 rfl ?_
      refine E_iconst (pc := 78) (v := (1 : Int32)) dX12_readsAfter_78 (by decide) ?_
      refine E_iload_n (pc := 79) dX12_readsAfter_79 rfl ?_
      refine E_Vv (pc := 80) (d2 := D_X12_fails) (ci := 12) [.int (1 : Int32), .int x13] dX12_readsAfter_80 ml_X12_252 mf_X12_fails im_X12_fails rfl rfl rfl (by decide) (Nat.le_of_ble_eq_true rfl) (Nat.le_of_ble_eq_true rfl) rfl (fun _ h => f_X12_fails_ok h) hf (fun μ25 hf => ?_)
      refine E_aload_n (pc := 83) dX12_readsAfter_83 rfl ?_
      refine E_getR (pc := 84) dX12_readsAfter_84 fl_X12_52 hf (fun v26 hf => ?_)
      refine E_bipush (pc := 87) (v := (6 : Int32)) dX12_readsAfter_87 (by decide) ?_
      refine E_dup2 (pc := 89) dX12_readsAfter_89 rfl rfl ?_
      refine E_iald (pc := 90) dX12_readsAfter_90 hf (fun v27 hf => ?_)
      refine E_iconst (pc := 91) (v := (1 : Int32)) dX12_readsAfter_91 (by decide) ?_
      refine E_iadd (pc := 92) dX12_readsAfter_92 ?_
      refine E_iast (pc := 93) dX12_readsAfter_93 hf (fun μ28 hf => ?_)
      exact E_vret (pc := 94) dX12_readsAfter_94 rfl hf
    · refine E_aload_n (pc := 83) dX12_readsAfter_83 rfl ?_
      refine E_getR (pc := 84) dX12_readsAfter_84 fl_X12_52 hf (fun v29 hf => ?_)
      refine E_bipush (pc := 87) (v := (6 : Int32)) dX12_readsAfter_87 (by decide) ?_
      refine E_dup2 (pc := 89) dX12_readsAfter_89 rfl rfl ?_
      refine E_iald (pc := 90) dX12_readsAfter_90 hf (fun v30 hf => ?_)
      refine E_iconst (pc := 91) (v := (1 : Int32)) dX12_readsAfter_91 (by decide) ?_
      refine E_iadd (pc := 92) dX12_readsAfter_92 ?_
      refine E_iast (pc := 93) dX12_readsAfter_93 hf (fun μ31 hf => ?_)
      exact E_vret (pc := 94) dX12_readsAfter_94 rfl hf
  · refine E_aload_n (pc := 83) dX12_readsAfter_83 rfl ?_
    refine E_getR (pc := 84) dX12_readsAfter_84 fl_X12_52 hf (fun v32 hf => ?_)
    refine E_bipush (pc := 87) (v := (6 : Int32)) dX12_readsAfter_87 (by decide) ?_
    refine E_dup2 (pc := 89) dX12_readsAfter_89 rfl rfl ?_
    refine E_iald (pc := 90) dX12_readsAfter_90 hf (fun v33 hf => ?_)
    refine E_iconst (pc := 91) (v := (1 : Int32)) dX12_readsAfter_91 (by decide) ?_
    refine E_iadd (pc := 92) dX12_readsAfter_92 ?_
    refine E_iast (pc := 93) dX12_readsAfter_93 hf (fun μ34 hf => ?_)
    exact E_vret (pc := 94) dX12_readsAfter_94 rfl hf
theorem dX12_groundPart_0 : decode cX12_groundPart 0 = .ok (.iload_n 1, 1) := by decide +kernel
theorem dX12_groundPart_1 : decode cX12_groundPart 1 = .ok (.tableswitch 170 0 5 #[39, 68, 75, 125, 132, 139], 39) := by decide +kernel
theorem dX12_groundPart_40 : decode cX12_groundPart 40 = .ok (.aload_n 0, 1) := by decide +kernel
theorem dX12_groundPart_41 : decode cX12_groundPart 41 = .ok (.getfield 52, 3) := by decide +kernel
theorem dX12_groundPart_44 : decode cX12_groundPart 44 = .ok (.iconst 0, 1) := by decide +kernel
theorem dX12_groundPart_45 : decode cX12_groundPart 45 = .ok (.aload_n 0, 1) := by decide +kernel
theorem dX12_groundPart_46 : decode cX12_groundPart 46 = .ok (.iconst 2, 1) := by decide +kernel
theorem dX12_groundPart_47 : decode cX12_groundPart 47 = .ok (.bipush 8, 2) := by decide +kernel
theorem dX12_groundPart_49 : decode cX12_groundPart 49 = .ok (.invokevirtual 327, 3) := by decide +kernel
theorem dX12_groundPart_52 : decode cX12_groundPart 52 = .ok (.iastore, 1) := by decide +kernel
theorem dX12_groundPart_53 : decode cX12_groundPart 53 = .ok (.aload_n 0, 1) := by decide +kernel
theorem dX12_groundPart_54 : decode cX12_groundPart 54 = .ok (.getfield 52, 3) := by decide +kernel
theorem dX12_groundPart_57 : decode cX12_groundPart 57 = .ok (.iconst 1, 1) := by decide +kernel
theorem dX12_groundPart_58 : decode cX12_groundPart 58 = .ok (.aload_n 0, 1) := by decide +kernel
theorem dX12_groundPart_59 : decode cX12_groundPart 59 = .ok (.iconst 2, 1) := by decide +kernel
theorem dX12_groundPart_60 : decode cX12_groundPart 60 = .ok (.bipush 6, 2) := by decide +kernel
theorem dX12_groundPart_62 : decode cX12_groundPart 62 = .ok (.invokevirtual 327, 3) := by decide +kernel
theorem dX12_groundPart_65 : decode cX12_groundPart 65 = .ok (.iastore, 1) := by decide +kernel
theorem dX12_groundPart_66 : decode cX12_groundPart 66 = .ok (.goto 109, 3) := by decide +kernel
theorem dX12_groundPart_69 : decode cX12_groundPart 69 = .ok (.aload_n 0, 1) := by decide +kernel
theorem dX12_groundPart_70 : decode cX12_groundPart 70 = .ok (.invokevirtual 331, 3) := by decide +kernel
theorem dX12_groundPart_73 : decode cX12_groundPart 73 = .ok (.goto 102, 3) := by decide +kernel
theorem dX12_groundPart_76 : decode cX12_groundPart 76 = .ok (.aload_n 0, 1) := by decide +kernel
theorem dX12_groundPart_77 : decode cX12_groundPart 77 = .ok (.getfield 52, 3) := by decide +kernel
theorem dX12_groundPart_80 : decode cX12_groundPart 80 = .ok (.iconst 2, 1) := by decide +kernel
theorem dX12_groundPart_81 : decode cX12_groundPart 81 = .ok (.iaload, 1) := by decide +kernel
theorem dX12_groundPart_82 : decode cX12_groundPart 82 = .ok (.istore_n 2, 1) := by decide +kernel
theorem dX12_groundPart_83 : decode cX12_groundPart 83 = .ok (.aload_n 0, 1) := by decide +kernel
theorem dX12_groundPart_84 : decode cX12_groundPart 84 = .ok (.getfield 58, 3) := by decide +kernel
theorem dX12_groundPart_87 : decode cX12_groundPart 87 = .ok (.iload_n 2, 1) := by decide +kernel
theorem dX12_groundPart_88 : decode cX12_groundPart 88 = .ok (.aload_n 0, 1) := by decide +kernel
theorem dX12_groundPart_89 : decode cX12_groundPart 89 = .ok (.iconst 0, 1) := by decide +kernel
theorem dX12_groundPart_90 : decode cX12_groundPart 90 = .ok (.aload_n 0, 1) := by decide +kernel
theorem dX12_groundPart_91 : decode cX12_groundPart 91 = .ok (.invokevirtual 324, 3) := by decide +kernel
theorem dX12_groundPart_94 : decode cX12_groundPart 94 = .ok (.iconst 1, 1) := by decide +kernel
theorem dX12_groundPart_95 : decode cX12_groundPart 95 = .ok (.isub, 1) := by decide +kernel
theorem dX12_groundPart_96 : decode cX12_groundPart 96 = .ok (.invokevirtual 327, 3) := by decide +kernel
theorem dX12_groundPart_99 : decode cX12_groundPart 99 = .ok (.iastore, 1) := by decide +kernel
theorem dX12_groundPart_100 : decode cX12_groundPart 100 = .ok (.aload_n 0, 1) := by decide +kernel
theorem dX12_groundPart_101 : decode cX12_groundPart 101 = .ok (.getfield 61, 3) := by decide +kernel
theorem dX12_groundPart_104 : decode cX12_groundPart 104 = .ok (.iload_n 2, 1) := by decide +kernel
theorem dX12_groundPart_105 : decode cX12_groundPart 105 = .ok (.aload_n 0, 1) := by decide +kernel
theorem dX12_groundPart_106 : decode cX12_groundPart 106 = .ok (.iconst 0, 1) := by decide +kernel
theorem dX12_groundPart_107 : decode cX12_groundPart 107 = .ok (.bipush 9, 2) := by decide +kernel
theorem dX12_groundPart_109 : decode cX12_groundPart 109 = .ok (.invokevirtual 327, 3) := by decide +kernel
theorem dX12_groundPart_112 : decode cX12_groundPart 112 = .ok (.iastore, 1) := by decide +kernel
theorem dX12_groundPart_113 : decode cX12_groundPart 113 = .ok (.aload_n 0, 1) := by decide +kernel
theorem dX12_groundPart_114 : decode cX12_groundPart 114 = .ok (.getfield 52, 3) := by decide +kernel
theorem dX12_groundPart_117 : decode cX12_groundPart 117 = .ok (.iconst 2, 1) := by decide +kernel
theorem dX12_groundPart_118 : decode cX12_groundPart 118 = .ok (.dup2, 1) := by decide +kernel
theorem dX12_groundPart_119 : decode cX12_groundPart 119 = .ok (.iaload, 1) := by decide +kernel
theorem dX12_groundPart_120 : decode cX12_groundPart 120 = .ok (.iconst 1, 1) := by decide +kernel
theorem dX12_groundPart_121 : decode cX12_groundPart 121 = .ok (.iadd, 1) := by decide +kernel
theorem dX12_groundPart_122 : decode cX12_groundPart 122 = .ok (.iastore, 1) := by decide +kernel
theorem dX12_groundPart_123 : decode cX12_groundPart 123 = .ok (.goto 52, 3) := by decide +kernel
theorem dX12_groundPart_126 : decode cX12_groundPart 126 = .ok (.aload_n 0, 1) := by decide +kernel
theorem dX12_groundPart_127 : decode cX12_groundPart 127 = .ok (.invokevirtual 334, 3) := by decide +kernel
theorem dX12_groundPart_130 : decode cX12_groundPart 130 = .ok (.goto 45, 3) := by decide +kernel
theorem dX12_groundPart_133 : decode cX12_groundPart 133 = .ok (.aload_n 0, 1) := by decide +kernel
theorem dX12_groundPart_134 : decode cX12_groundPart 134 = .ok (.invokevirtual 337, 3) := by decide +kernel
theorem dX12_groundPart_137 : decode cX12_groundPart 137 = .ok (.goto 38, 3) := by decide +kernel
theorem dX12_groundPart_140 : decode cX12_groundPart 140 = .ok (.aload_n 0, 1) := by decide +kernel
theorem dX12_groundPart_141 : decode cX12_groundPart 141 = .ok (.getfield 79, 3) := by decide +kernel
theorem dX12_groundPart_144 : decode cX12_groundPart 144 = .ok (.aload_n 0, 1) := by decide +kernel
theorem dX12_groundPart_145 : decode cX12_groundPart 145 = .ok (.getfield 52, 3) := by decide +kernel
theorem dX12_groundPart_148 : decode cX12_groundPart 148 = .ok (.iconst 5, 1) := by decide +kernel
theorem dX12_groundPart_149 : decode cX12_groundPart 149 = .ok (.iaload, 1) := by decide +kernel
theorem dX12_groundPart_150 : decode cX12_groundPart 150 = .ok (.aload_n 0, 1) := by decide +kernel
theorem dX12_groundPart_151 : decode cX12_groundPart 151 = .ok (.iconst 1, 1) := by decide +kernel
theorem dX12_groundPart_152 : decode cX12_groundPart 152 = .ok (.bipush 20, 2) := by decide +kernel
theorem dX12_groundPart_154 : decode cX12_groundPart 154 = .ok (.invokevirtual 327, 3) := by decide +kernel
theorem dX12_groundPart_157 : decode cX12_groundPart 157 = .ok (.iastore, 1) := by decide +kernel
theorem dX12_groundPart_158 : decode cX12_groundPart 158 = .ok (.aload_n 0, 1) := by decide +kernel
theorem dX12_groundPart_159 : decode cX12_groundPart 159 = .ok (.getfield 52, 3) := by decide +kernel
theorem dX12_groundPart_162 : decode cX12_groundPart 162 = .ok (.iconst 5, 1) := by decide +kernel
theorem dX12_groundPart_163 : decode cX12_groundPart 163 = .ok (.dup2, 1) := by decide +kernel
theorem dX12_groundPart_164 : decode cX12_groundPart 164 = .ok (.iaload, 1) := by decide +kernel
theorem dX12_groundPart_165 : decode cX12_groundPart 165 = .ok (.iconst 1, 1) := by decide +kernel
theorem dX12_groundPart_166 : decode cX12_groundPart 166 = .ok (.iadd, 1) := by decide +kernel
theorem dX12_groundPart_167 : decode cX12_groundPart 167 = .ok (.iastore, 1) := by decide +kernel
theorem dX12_groundPart_168 : decode cX12_groundPart 168 = .ok (.goto 7, 3) := by decide +kernel
theorem dX12_groundPart_171 : decode cX12_groundPart 171 = .ok (.aload_n 0, 1) := by decide +kernel
theorem dX12_groundPart_172 : decode cX12_groundPart 172 = .ok (.invokevirtual 340, 3) := by decide +kernel
theorem dX12_groundPart_175 : decode cX12_groundPart 175 = .ok (.return_, 1) := by decide +kernel
abbrev D_X12_groundPart : Nat := 6
set_option maxRecDepth 100000 in
def f_X12_groundPart (μ0 : Mm) (a1 : Nat) (x2 : Int32) : Option Mm :=
 (if x2 = (0 : Int32) then
    ((gR μ0 a1 12 15).bind fun v32 =>
    ((ob μ0 a1 12).bind fun _ =>
    (bd (f_X12_amount μ0 a1 (2 : Int32) (8 : Int32)) fun v34 μ33 =>
    ((sI μ33 v32 0 (0 : Int32) v34).bind fun μ35 =>
    ((gR μ35 a1 12 15).bind fun v36 =>
    ((ob μ35 a1 12).bind fun _ =>
    (bd (f_X12_amount μ35 a1 (2 : Int32) (6 : Int32)) fun v38 μ37 =>
    ((sI μ37 v36 0 (1 : Int32) v38).bind fun μ39 =>
    (some μ39)))))))))
    else
    (if x2 = (1 : Int32) then
    ((ob μ0 a1 12).bind fun _ =>
    ((f_X12_readsRow μ0 a1).bind fun μ31 =>
    (some μ31)))
    else
    (if x2 = (2 : Int32) then
    ((gR μ0 a1 12 15).bind fun v15 =>
    ((aI μ0 v15 0 (2 : Int32)).bind fun v16 =>
    (nm v16 fun x17 =>
    ((gR μ0 a1 12 17).bind fun v18 =>
    ((ob μ0 a1 12).bind fun _ =>
    (bd (f_X12_newCells μ0 a1) fun v20 μ19 =>
    ((ob μ19 a1 12).bind fun _ =>
    (bd (f_X12_amount μ19 a1 (0 : Int32) (v20 - (1 : Int32))) fun v22 μ21 =>
    ((sI μ21 v18 0 x17 v22).bind fun μ23 =>
    ((gR μ23 a1 12 18).bind fun v24 =>
    ((ob μ23 a1 12).bind fun _ =>
    (bd (f_X12_amount μ23 a1 (0 : Int32) (9 : Int32)) fun v26 μ25 =>
    ((sI μ25 v24 0 x17 v26).bind fun μ27 =>
    ((gR μ27 a1 12 15).bind fun v28 =>
    ((aI μ27 v28 0 (2 : Int32)).bind fun v29 =>
    ((sI μ27 v28 0 (2 : Int32) (v29 + (1 : Int32))).bind fun μ30 =>
    (some μ30)))))))))))))))))
    else
    (if x2 = (3 : Int32) then
    ((ob μ0 a1 12).bind fun _ =>
    ((f_X12_readsThing μ0 a1).bind fun μ14 =>
    (some μ14)))
    else
    (if x2 = (4 : Int32) then
    ((ob μ0 a1 12).bind fun _ =>
    ((f_X12_readsNet μ0 a1).bind fun μ13 =>
    (some μ13)))
    else
    (if x2 = (5 : Int32) then
    ((gR μ0 a1 12 24).bind fun v4 =>
    ((gR μ0 a1 12 15).bind fun v5 =>
    ((aI μ0 v5 0 (5 : Int32)).bind fun v6 =>
    ((ob μ0 a1 12).bind fun _ =>
    (bd (f_X12_amount μ0 a1 (1 : Int32) (20 : Int32)) fun v8 μ7 =>
    ((sI μ7 v4 0 v6 v8).bind fun μ9 =>
    ((gR μ9 a1 12 15).bind fun v10 =>
    ((aI μ9 v10 0 (5 : Int32)).bind fun v11 =>
    ((sI μ9 v10 0 (5 : Int32) (v11 + (1 : Int32))).bind fun μ12 =>
    (some μ12))))))))))
    else
    ((ob μ0 a1 12).bind fun _ =>
    ((f_X12_readsAfter μ0 a1).bind fun μ3 =>
    (some μ3)))))))))
set_option maxHeartbeats 4000000 in
set_option maxRecDepth 100000 in
theorem f_X12_groundPart_ok {l : Launch} {G : GG} {μ0 : Mm} {a1 : Nat} {x2 : Int32} {μ' : Mm} (hf : f_X12_groundPart μ0 a1 x2 = some μ') : EvM l G D_X12_groundPart yX12_groundPart cX12_groundPart 3 none [.ref a1, .int x2] μ0 none μ' := by
  show Ev l G D_X12_groundPart yX12_groundPart cX12_groundPart 3 none 0 [(0, .ref a1), (1, .int x2)] [] μ0 none μ'
  unfold f_X12_groundPart at hf
  refine E_iload_n (pc := 0) dX12_groundPart_0 rfl ?_
  refine ifS hf (fun n1_0 hf => ?_) (fun n1_0 hf => ?_)
  · refine E_tswI (pc := 1) (tgt := 40) (0) dX12_groundPart_1 (by rw [n1_0]; decide) (by decide) (by decide) rfl (by decide) ?_
    refine E_aload_n (pc := 40) dX12_groundPart_40 rfl ?_
    refine E_getR (pc := 41) dX12_groundPart_41 fl_X12_52 hf (fun v32 hf => ?_)
    refine E_iconst (pc := 44) (v := (0 : Int32)) dX12_groundPart_44 (by decide) ?_
    refine E_aload_n (pc := 45) dX12_groundPart_45 rfl ?_
    refine E_iconst (pc := 46) (v := (2 : Int32)) dX12_groundPart_46 (by decide) ?_
    refine E_bipush (pc := 47) (v := (8 : Int32)) dX12_groundPart_47 (by decide) ?_
    refine E_Vi (pc := 49) (d2 := D_X12_amount) (ci := 12) [.int (2 : Int32), .int (8 : Int32)] dX12_groundPart_49 ml_X12_327 mf_X12_amount im_X12_amount rfl rfl rfl (by decide) (Nat.le_of_ble_eq_true rfl) (Nat.le_of_ble_eq_true rfl) rfl (fun _ _ h => f_X12_amount_ok h) hf (fun v34 μ33 hf => ?_)
    refine E_iast (pc := 52) dX12_groundPart_52 hf (fun μ35 hf => ?_)
    refine E_aload_n (pc := 53) dX12_groundPart_53 rfl ?_
    refine E_getR (pc := 54) dX12_groundPart_54 fl_X12_52 hf (fun v36 hf => ?_)
    refine E_iconst (pc := 57) (v := (1 : Int32)) dX12_groundPart_57 (by decide) ?_
    refine E_aload_n (pc := 58) dX12_groundPart_58 rfl ?_
    refine E_iconst (pc := 59) (v := (2 : Int32)) dX12_groundPart_59 (by decide) ?_
    refine E_bipush (pc := 60) (v := (6 : Int32)) dX12_groundPart_60 (by decide) ?_
    refine E_Vi (pc := 62) (d2 := D_X12_amount) (ci := 12) [.int (2 : Int32), .int (6 : Int32)] dX12_groundPart_62 ml_X12_327 mf_X12_amount im_X12_amount rfl rfl rfl (by decide) (Nat.le_of_ble_eq_true rfl) (Nat.le_of_ble_eq_true rfl) rfl (fun _ _ h => f_X12_amount_ok h) hf (fun v38 μ37 hf => ?_)
    refine E_iast (pc := 65) dX12_groundPart_65 hf (fun μ39 hf => ?_)
    refine E_goto (pc := 66) (tgt := 175) dX12_groundPart_66 (by decide) ?_
    exact E_vret (pc := 175) dX12_groundPart_175 rfl hf
  · refine ifS hf (fun n1_1 hf => ?_) (fun n1_1 hf => ?_)
    · refine E_tswI (pc := 1) (tgt := 69) (1) dX12_groundPart_1 (by rw [n1_1]; decide) (by decide) (by decide) rfl (by decide) ?_
      refine E_aload_n (pc := 69) dX12_groundPart_69 rfl ?_
      refine E_Vv (pc := 70) (d2 := D_X12_readsRow) (ci := 12) [] dX12_groundPart_70 ml_X12_331 mf_X12_readsRow im_X12_readsRow rfl rfl rfl (by decide) (Nat.le_of_ble_eq_true rfl) (Nat.le_of_ble_eq_true rfl) rfl (fun _ h => f_X12_readsRow_ok h) hf (fun μ31 hf => ?_)
      refine E_goto (pc := 73) (tgt := 175) dX12_groundPart_73 (by decide) ?_
      exact E_vret (pc := 175) dX12_groundPart_175 rfl hf
    · refine ifS hf (fun n1_2 hf => ?_) (fun n1_2 hf => ?_)
      · refine E_tswI (pc := 1) (tgt := 76) (2) dX12_groundPart_1 (by rw [n1_2]; decide) (by decide) (by decide) rfl (by decide) ?_
        refine E_aload_n (pc := 76) dX12_groundPart_76 rfl ?_
        refine E_getR (pc := 77) dX12_groundPart_77 fl_X12_52 hf (fun v15 hf => ?_)
        refine E_iconst (pc := 80) (v := (2 : Int32)) dX12_groundPart_80 (by decide) ?_
        refine E_iald (pc := 81) dX12_groundPart_81 hf (fun v16 hf => ?_)
        refine E_istore_n (pc := 82) (ls' := fun x17 => [(2, .int x17), (0, .ref a1), (1, .int x2)]) dX12_groundPart_82 (by decide) (fun _ => rfl) hf (fun x17 hf => ?_)
        refine E_aload_n (pc := 83) dX12_groundPart_83 rfl ?_
        refine E_getR (pc := 84) dX12_groundPart_84 fl_X12_58 hf (fun v18 hf => ?_)
        refine E_iload_n (pc := 87) dX12_groundPart_87 rfl ?_
        refine E_aload_n (pc := 88) dX12_groundPart_88 rfl ?_
        refine E_iconst (pc := 89) (v := (0 : Int32)) dX12_groundPart_89 (by decide) ?_
        refine E_aload_n (pc := 90) dX12_groundPart_90 rfl ?_
        refine E_Vi (pc := 91) (d2 := D_X12_newCells) (ci := 12) [] dX12_groundPart_91 ml_X12_324 mf_X12_newCells im_X12_newCells rfl rfl rfl (by decide) (Nat.le_of_ble_eq_true rfl) (Nat.le_of_ble_eq_true rfl) rfl (fun _ _ h => f_X12_newCells_ok h) hf (fun v20 μ19 hf => ?_)
        refine E_iconst (pc := 94) (v := (1 : Int32)) dX12_groundPart_94 (by decide) ?_
        refine E_isub (pc := 95) dX12_groundPart_95 ?_
        refine E_Vi (pc := 96) (d2 := D_X12_amount) (ci := 12) [.int (0 : Int32), .int (v20 - (1 : Int32))] dX12_groundPart_96 ml_X12_327 mf_X12_amount im_X12_amount rfl rfl rfl (by decide) (Nat.le_of_ble_eq_true rfl) (Nat.le_of_ble_eq_true rfl) rfl (fun _ _ h => f_X12_amount_ok h) hf (fun v22 μ21 hf => ?_)
        refine E_iast (pc := 99) dX12_groundPart_99 hf (fun μ23 hf => ?_)
        refine E_aload_n (pc := 100) dX12_groundPart_100 rfl ?_
        refine E_getR (pc := 101) dX12_groundPart_101 fl_X12_61 hf (fun v24 hf => ?_)
        refine E_iload_n (pc := 104) dX12_groundPart_104 rfl ?_
        refine E_aload_n (pc := 105) dX12_groundPart_105 rfl ?_
        refine E_iconst (pc := 106) (v := (0 : Int32)) dX12_groundPart_106 (by decide) ?_
        refine E_bipush (pc := 107) (v := (9 : Int32)) dX12_groundPart_107 (by decide) ?_
        refine E_Vi (pc := 109) (d2 := D_X12_amount) (ci := 12) [.int (0 : Int32), .int (9 : Int32)] dX12_groundPart_109 ml_X12_327 mf_X12_amount im_X12_amount rfl rfl rfl (by decide) (Nat.le_of_ble_eq_true rfl) (Nat.le_of_ble_eq_true rfl) rfl (fun _ _ h => f_X12_amount_ok h) hf (fun v26 μ25 hf => ?_)
        refine E_iast (pc := 112) dX12_groundPart_112 hf (fun μ27 hf => ?_)
        refine E_aload_n (pc := 113) dX12_groundPart_113 rfl ?_
        refine E_getR (pc := 114) dX12_groundPart_114 fl_X12_52 hf (fun v28 hf => ?_)
        refine E_iconst (pc := 117) (v := (2 : Int32)) dX12_groundPart_117 (by decide) ?_
        refine E_dup2 (pc := 118) dX12_groundPart_118 rfl rfl ?_
        refine E_iald (pc := 119) dX12_groundPart_119 hf (fun v29 hf => ?_)
        refine E_iconst (pc := 120) (v := (1 : Int32)) dX12_groundPart_120 (by decide) ?_
        refine E_iadd (pc := 121) dX12_groundPart_121 ?_
        refine E_iast (pc := 122) dX12_groundPart_122 hf (fun μ30 hf => ?_)
        refine E_goto (pc := 123) (tgt := 175) dX12_groundPart_123 (by decide) ?_
        exact E_vret (pc := 175) dX12_groundPart_175 rfl hf
      · refine ifS hf (fun n1_3 hf => ?_) (fun n1_3 hf => ?_)
        · refine E_tswI (pc := 1) (tgt := 126) (3) dX12_groundPart_1 (by rw [n1_3]; decide) (by decide) (by decide) rfl (by decide) ?_
          refine E_aload_n (pc := 126) dX12_groundPart_126 rfl ?_
          refine E_Vv (pc := 127) (d2 := D_X12_readsThing) (ci := 12) [] dX12_groundPart_127 ml_X12_334 mf_X12_readsThing im_X12_readsThing rfl rfl rfl (by decide) (Nat.le_of_ble_eq_true rfl) (Nat.le_of_ble_eq_true rfl) rfl (fun _ h => f_X12_readsThing_ok h) hf (fun μ14 hf => ?_)
          refine E_goto (pc := 130) (tgt := 175) dX12_groundPart_130 (by decide) ?_
          exact E_vret (pc := 175) dX12_groundPart_175 rfl hf
        · refine ifS hf (fun n1_4 hf => ?_) (fun n1_4 hf => ?_)
          · refine E_tswI (pc := 1) (tgt := 133) (4) dX12_groundPart_1 (by rw [n1_4]; decide) (by decide) (by decide) rfl (by decide) ?_
            refine E_aload_n (pc := 133) dX12_groundPart_133 rfl ?_
            refine E_Vv (pc := 134) (d2 := D_X12_readsNet) (ci := 12) [] dX12_groundPart_134 ml_X12_337 mf_X12_readsNet im_X12_readsNet rfl rfl rfl (by decide) (Nat.le_of_ble_eq_true rfl) (Nat.le_of_ble_eq_true rfl) rfl (fun _ h => f_X12_readsNet_ok h) hf (fun μ13 hf => ?_)
            refine E_goto (pc := 137) (tgt := 175) dX12_groundPart_137 (by decide) ?_
            exact E_vret (pc := 175) dX12_groundPart_175 rfl hf
          · refine ifS hf (fun n1_5 hf => ?_) (fun n1_5 hf => ?_)
            · refine E_tswI (pc := 1) (tgt := 140) (5) dX12_groundPart_1 (by rw [n1_5]; decide) (by decide) (by decide) rfl (by decide) ?_
              refine E_aload_n (pc := 140) dX12_groundPart_140 rfl ?_
              refine E_getR (pc := 141) dX12_groundPart_141 fl_X12_79 hf (fun v4 hf => ?_)
              refine E_aload_n (pc := 144) dX12_groundPart_144 rfl ?_
              refine E_getR (pc := 145) dX12_groundPart_145 fl_X12_52 hf (fun v5 hf => ?_)
              refine E_iconst (pc := 148) (v := (5 : Int32)) dX12_groundPart_148 (by decide) ?_
              refine E_iald (pc := 149) dX12_groundPart_149 hf (fun v6 hf => ?_)
              refine E_aload_n (pc := 150) dX12_groundPart_150 rfl ?_
              refine E_iconst (pc := 151) (v := (1 : Int32)) dX12_groundPart_151 (by decide) ?_
              refine E_bipush (pc := 152) (v := (20 : Int32)) dX12_groundPart_152 (by decide) ?_
              refine E_Vi (pc := 154) (d2 := D_X12_amount) (ci := 12) [.int (1 : Int32), .int (20 : Int32)] dX12_groundPart_154 ml_X12_327 mf_X12_amount im_X12_amount rfl rfl rfl (by decide) (Nat.le_of_ble_eq_true rfl) (Nat.le_of_ble_eq_true rfl) rfl (fun _ _ h => f_X12_amount_ok h) hf (fun v8 μ7 hf => ?_)
              refine E_iast (pc := 157) dX12_groundPart_157 hf (fun μ9 hf => ?_)
              refine E_aload_n (pc := 158) dX12_groundPart_158 rfl ?_
              refine E_getR (pc := 159) dX12_groundPart_159 fl_X12_52 hf (fun v10 hf => ?_)
              refine E_iconst (pc := 162) (v := (5 : Int32)) dX12_groundPart_162 (by decide) ?_
              refine E_dup2 (pc := 163) dX12_groundPart_163 rfl rfl ?_
              refine E_iald (pc := 164) dX12_groundPart_164 hf (fun v11 hf => ?_)
              refine E_iconst (pc := 165) (v := (1 : Int32)) dX12_groundPart_165 (by decide) ?_
              refine E_iadd (pc := 166) dX12_groundPart_166 ?_
              refine E_iast (pc := 167) dX12_groundPart_167 hf (fun μ12 hf => ?_)
              refine E_goto (pc := 168) (tgt := 175) dX12_groundPart_168 (by decide) ?_
              exact E_vret (pc := 175) dX12_groundPart_175 rfl hf
            · refine E_tswD (pc := 1) (tgt := 171) dX12_groundPart_1 (by have q0 : ¬ (x2).toInt = 0 := i32ne n1_0; have q1 : ¬ (x2).toInt = 1 := i32ne n1_1; have q2 : ¬ (x2).toInt = 2 := i32ne n1_2; have q3 : ¬ (x2).toInt = 3 := i32ne n1_3; have q4 : ¬ (x2).toInt = 4 := i32ne n1_4; have q5 : ¬ (x2).toInt = 5 := i32ne n1_5;  omega) (by decide) ?_
              refine E_aload_n (pc := 171) dX12_groundPart_171 rfl ?_
              refine E_Vv (pc := 172) (d2 := D_X12_readsAfter) (ci := 12) [] dX12_groundPart_172 ml_X12_340 mf_X12_readsAfter im_X12_readsAfter rfl rfl rfl (by decide) (Nat.le_of_ble_eq_true rfl) (Nat.le_of_ble_eq_true rfl) rfl (fun _ h => f_X12_readsAfter_ok h) hf (fun μ3 hf => ?_)
              exact E_vret (pc := 175) dX12_groundPart_175 rfl hf
theorem dX12_isFull_0 : decode cX12_isFull 0 = .ok (.iload_n 2, 1) := by decide +kernel
theorem dX12_isFull_1 : decode cX12_isFull 1 = .ok (.bipush 40, 2) := by decide +kernel
theorem dX12_isFull_3 : decode cX12_isFull 3 = .ok (.if_icmp .eq 24, 3) := by decide +kernel
theorem dX12_isFull_6 : decode cX12_isFull 6 = .ok (.iload_n 1, 1) := by decide +kernel
theorem dX12_isFull_7 : decode cX12_isFull 7 = .ok (.ifCond .ne 7, 3) := by decide +kernel
theorem dX12_isFull_10 : decode cX12_isFull 10 = .ok (.iconst 1, 1) := by decide +kernel
theorem dX12_isFull_11 : decode cX12_isFull 11 = .ok (.goto 4, 3) := by decide +kernel
theorem dX12_isFull_14 : decode cX12_isFull 14 = .ok (.iconst 0, 1) := by decide +kernel
theorem dX12_isFull_15 : decode cX12_isFull 15 = .ok (.iload_n 2, 1) := by decide +kernel
theorem dX12_isFull_16 : decode cX12_isFull 16 = .ok (.ifCond .ne 7, 3) := by decide +kernel
theorem dX12_isFull_19 : decode cX12_isFull 19 = .ok (.iconst 1, 1) := by decide +kernel
theorem dX12_isFull_20 : decode cX12_isFull 20 = .ok (.goto 4, 3) := by decide +kernel
theorem dX12_isFull_23 : decode cX12_isFull 23 = .ok (.iconst 0, 1) := by decide +kernel
theorem dX12_isFull_24 : decode cX12_isFull 24 = .ok (.if_icmp .eq 5, 3) := by decide +kernel
theorem dX12_isFull_27 : decode cX12_isFull 27 = .ok (.iconst 1, 1) := by decide +kernel
theorem dX12_isFull_28 : decode cX12_isFull 28 = .ok (.ireturn, 1) := by decide +kernel
theorem dX12_isFull_29 : decode cX12_isFull 29 = .ok (.iload_n 1, 1) := by decide +kernel
theorem dX12_isFull_30 : decode cX12_isFull 30 = .ok (.tableswitch 141 1 6 #[38, 57, 73, 90, 106, 123], 38) := by decide +kernel
theorem dX12_isFull_68 : decode cX12_isFull 68 = .ok (.aload_n 0, 1) := by decide +kernel
theorem dX12_isFull_69 : decode cX12_isFull 69 = .ok (.getfield 321, 3) := by decide +kernel
theorem dX12_isFull_72 : decode cX12_isFull 72 = .ok (.aload_n 0, 1) := by decide +kernel
theorem dX12_isFull_73 : decode cX12_isFull 73 = .ok (.getfield 52, 3) := by decide +kernel
theorem dX12_isFull_76 : decode cX12_isFull 76 = .ok (.iconst 1, 1) := by decide +kernel
theorem dX12_isFull_77 : decode cX12_isFull 77 = .ok (.iaload, 1) := by decide +kernel
theorem dX12_isFull_78 : decode cX12_isFull 78 = .ok (.if_icmp .ne 7, 3) := by decide +kernel
theorem dX12_isFull_81 : decode cX12_isFull 81 = .ok (.iconst 1, 1) := by decide +kernel
theorem dX12_isFull_82 : decode cX12_isFull 82 = .ok (.goto 4, 3) := by decide +kernel
theorem dX12_isFull_85 : decode cX12_isFull 85 = .ok (.iconst 0, 1) := by decide +kernel
theorem dX12_isFull_86 : decode cX12_isFull 86 = .ok (.ireturn, 1) := by decide +kernel
theorem dX12_isFull_87 : decode cX12_isFull 87 = .ok (.aload_n 0, 1) := by decide +kernel
theorem dX12_isFull_88 : decode cX12_isFull 88 = .ok (.getfield 52, 3) := by decide +kernel
theorem dX12_isFull_91 : decode cX12_isFull 91 = .ok (.iconst 2, 1) := by decide +kernel
theorem dX12_isFull_92 : decode cX12_isFull 92 = .ok (.iaload, 1) := by decide +kernel
theorem dX12_isFull_93 : decode cX12_isFull 93 = .ok (.iconst 5, 1) := by decide +kernel
theorem dX12_isFull_94 : decode cX12_isFull 94 = .ok (.if_icmp .ne 7, 3) := by decide +kernel
theorem dX12_isFull_97 : decode cX12_isFull 97 = .ok (.iconst 1, 1) := by decide +kernel
theorem dX12_isFull_98 : decode cX12_isFull 98 = .ok (.goto 4, 3) := by decide +kernel
theorem dX12_isFull_101 : decode cX12_isFull 101 = .ok (.iconst 0, 1) := by decide +kernel
theorem dX12_isFull_102 : decode cX12_isFull 102 = .ok (.ireturn, 1) := by decide +kernel
theorem dX12_isFull_103 : decode cX12_isFull 103 = .ok (.aload_n 0, 1) := by decide +kernel
theorem dX12_isFull_104 : decode cX12_isFull 104 = .ok (.getfield 52, 3) := by decide +kernel
theorem dX12_isFull_107 : decode cX12_isFull 107 = .ok (.iconst 3, 1) := by decide +kernel
theorem dX12_isFull_108 : decode cX12_isFull 108 = .ok (.iaload, 1) := by decide +kernel
theorem dX12_isFull_109 : decode cX12_isFull 109 = .ok (.bipush 8, 2) := by decide +kernel
theorem dX12_isFull_111 : decode cX12_isFull 111 = .ok (.if_icmp .ne 7, 3) := by decide +kernel
theorem dX12_isFull_114 : decode cX12_isFull 114 = .ok (.iconst 1, 1) := by decide +kernel
theorem dX12_isFull_115 : decode cX12_isFull 115 = .ok (.goto 4, 3) := by decide +kernel
theorem dX12_isFull_118 : decode cX12_isFull 118 = .ok (.iconst 0, 1) := by decide +kernel
theorem dX12_isFull_119 : decode cX12_isFull 119 = .ok (.ireturn, 1) := by decide +kernel
theorem dX12_isFull_120 : decode cX12_isFull 120 = .ok (.aload_n 0, 1) := by decide +kernel
theorem dX12_isFull_121 : decode cX12_isFull 121 = .ok (.getfield 52, 3) := by decide +kernel
theorem dX12_isFull_124 : decode cX12_isFull 124 = .ok (.iconst 4, 1) := by decide +kernel
theorem dX12_isFull_125 : decode cX12_isFull 125 = .ok (.iaload, 1) := by decide +kernel
theorem dX12_isFull_126 : decode cX12_isFull 126 = .ok (.iconst 4, 1) := by decide +kernel
theorem dX12_isFull_127 : decode cX12_isFull 127 = .ok (.if_icmp .ne 7, 3) := by decide +kernel
theorem dX12_isFull_130 : decode cX12_isFull 130 = .ok (.iconst 1, 1) := by decide +kernel
theorem dX12_isFull_131 : decode cX12_isFull 131 = .ok (.goto 4, 3) := by decide +kernel
theorem dX12_isFull_134 : decode cX12_isFull 134 = .ok (.iconst 0, 1) := by decide +kernel
theorem dX12_isFull_135 : decode cX12_isFull 135 = .ok (.ireturn, 1) := by decide +kernel
theorem dX12_isFull_136 : decode cX12_isFull 136 = .ok (.aload_n 0, 1) := by decide +kernel
theorem dX12_isFull_137 : decode cX12_isFull 137 = .ok (.getfield 52, 3) := by decide +kernel
theorem dX12_isFull_140 : decode cX12_isFull 140 = .ok (.iconst 5, 1) := by decide +kernel
theorem dX12_isFull_141 : decode cX12_isFull 141 = .ok (.iaload, 1) := by decide +kernel
theorem dX12_isFull_142 : decode cX12_isFull 142 = .ok (.bipush 8, 2) := by decide +kernel
theorem dX12_isFull_144 : decode cX12_isFull 144 = .ok (.if_icmp .ne 7, 3) := by decide +kernel
theorem dX12_isFull_147 : decode cX12_isFull 147 = .ok (.iconst 1, 1) := by decide +kernel
theorem dX12_isFull_148 : decode cX12_isFull 148 = .ok (.goto 4, 3) := by decide +kernel
theorem dX12_isFull_151 : decode cX12_isFull 151 = .ok (.iconst 0, 1) := by decide +kernel
theorem dX12_isFull_152 : decode cX12_isFull 152 = .ok (.ireturn, 1) := by decide +kernel
theorem dX12_isFull_153 : decode cX12_isFull 153 = .ok (.aload_n 0, 1) := by decide +kernel
theorem dX12_isFull_154 : decode cX12_isFull 154 = .ok (.getfield 52, 3) := by decide +kernel
theorem dX12_isFull_157 : decode cX12_isFull 157 = .ok (.bipush 6, 2) := by decide +kernel
theorem dX12_isFull_159 : decode cX12_isFull 159 = .ok (.iaload, 1) := by decide +kernel
theorem dX12_isFull_160 : decode cX12_isFull 160 = .ok (.bipush 10, 2) := by decide +kernel
theorem dX12_isFull_162 : decode cX12_isFull 162 = .ok (.if_icmp .ne 7, 3) := by decide +kernel
theorem dX12_isFull_165 : decode cX12_isFull 165 = .ok (.iconst 1, 1) := by decide +kernel
theorem dX12_isFull_166 : decode cX12_isFull 166 = .ok (.goto 4, 3) := by decide +kernel
theorem dX12_isFull_169 : decode cX12_isFull 169 = .ok (.iconst 0, 1) := by decide +kernel
theorem dX12_isFull_170 : decode cX12_isFull 170 = .ok (.ireturn, 1) := by decide +kernel
theorem dX12_isFull_171 : decode cX12_isFull 171 = .ok (.iconst 0, 1) := by decide +kernel
theorem dX12_isFull_172 : decode cX12_isFull 172 = .ok (.ireturn, 1) := by decide +kernel
abbrev D_X12_isFull : Nat := 1
set_option maxRecDepth 100000 in
def f_X12_isFull (μ0 : Mm) (a1 : Nat) (x2 : Int32) (x3 : Int32) : Option (Int32 × Mm) :=
 (if x3 = (40 : Int32) then
    (if (1 : Int32) = 0 ∨ (1 : Int32) = 1 then some ((1 : Int32), μ0) else none)
    else
    (if x2 = 0 then
    (if x3 = 0 then
    (if (1 : Int32) = (1 : Int32) then
    (if x2 = (1 : Int32) then
    ((gI μ0 a1 12 27).bind fun v14 =>
    ((gR μ0 a1 12 15).bind fun v15 =>
    ((aI μ0 v15 0 (1 : Int32)).bind fun v16 =>
    (if v14 = v16 then
    (if (1 : Int32) = 0 ∨ (1 : Int32) = 1 then some ((1 : Int32), μ0) else none)
    else
    (if (0 : Int32) = 0 ∨ (0 : Int32) = 1 then some ((0 : Int32), μ0) else none)))))
    else
    (if x2 = (2 : Int32) then
    ((gR μ0 a1 12 15).bind fun v12 =>
    ((aI μ0 v12 0 (2 : Int32)).bind fun v13 =>
    (if v13 = (5 : Int32) then
    (if (1 : Int32) = 0 ∨ (1 : Int32) = 1 then some ((1 : Int32), μ0) else none)
    else
    (if (0 : Int32) = 0 ∨ (0 : Int32) = 1 then some ((0 : Int32), μ0) else none))))
    else
    (if x2 = (3 : Int32) then
    ((gR μ0 a1 12 15).bind fun v10 =>
    ((aI μ0 v10 0 (3 : Int32)).bind fun v11 =>
    (if v11 = (8 : Int32) then
    (if (1 : Int32) = 0 ∨ (1 : Int32) = 1 then some ((1 : Int32), μ0) else none)
    else
    (if (0 : Int32) = 0 ∨ (0 : Int32) = 1 then some ((0 : Int32), μ0) else none))))
    else
    (if x2 = (4 : Int32) then
    ((gR μ0 a1 12 15).bind fun v8 =>
    ((aI μ0 v8 0 (4 : Int32)).bind fun v9 =>
    (if v9 = (4 : Int32) then
    (if (1 : Int32) = 0 ∨ (1 : Int32) = 1 then some ((1 : Int32), μ0) else none)
    else
    (if (0 : Int32) = 0 ∨ (0 : Int32) = 1 then some ((0 : Int32), μ0) else none))))
    else
    (if x2 = (5 : Int32) then
    ((gR μ0 a1 12 15).bind fun v6 =>
    ((aI μ0 v6 0 (5 : Int32)).bind fun v7 =>
    (if v7 = (8 : Int32) then
    (if (1 : Int32) = 0 ∨ (1 : Int32) = 1 then some ((1 : Int32), μ0) else none)
    else
    (if (0 : Int32) = 0 ∨ (0 : Int32) = 1 then some ((0 : Int32), μ0) else none))))
    else
    (if x2 = (6 : Int32) then
    ((gR μ0 a1 12 15).bind fun v4 =>
    ((aI μ0 v4 0 (6 : Int32)).bind fun v5 =>
    (if v5 = (10 : Int32) then
    (if (1 : Int32) = 0 ∨ (1 : Int32) = 1 then some ((1 : Int32), μ0) else none)
    else
    (if (0 : Int32) = 0 ∨ (0 : Int32) = 1 then some ((0 : Int32), μ0) else none))))
    else
    (if (0 : Int32) = 0 ∨ (0 : Int32) = 1 then some ((0 : Int32), μ0) else none)))))))
    else
    (if (1 : Int32) = 0 ∨ (1 : Int32) = 1 then some ((1 : Int32), μ0) else none))
    else
    (if (1 : Int32) = (0 : Int32) then
    (if x2 = (1 : Int32) then
    ((gI μ0 a1 12 27).bind fun v27 =>
    ((gR μ0 a1 12 15).bind fun v28 =>
    ((aI μ0 v28 0 (1 : Int32)).bind fun v29 =>
    (if v27 = v29 then
    (if (1 : Int32) = 0 ∨ (1 : Int32) = 1 then some ((1 : Int32), μ0) else none)
    else
    (if (0 : Int32) = 0 ∨ (0 : Int32) = 1 then some ((0 : Int32), μ0) else none)))))
    else
    (if x2 = (2 : Int32) then
    ((gR μ0 a1 12 15).bind fun v25 =>
    ((aI μ0 v25 0 (2 : Int32)).bind fun v26 =>
    (if v26 = (5 : Int32) then
    (if (1 : Int32) = 0 ∨ (1 : Int32) = 1 then some ((1 : Int32), μ0) else none)
    else
    (if (0 : Int32) = 0 ∨ (0 : Int32) = 1 then some ((0 : Int32), μ0) else none))))
    else
    (if x2 = (3 : Int32) then
    ((gR μ0 a1 12 15).bind fun v23 =>
    ((aI μ0 v23 0 (3 : Int32)).bind fun v24 =>
    (if v24 = (8 : Int32) then
    (if (1 : Int32) = 0 ∨ (1 : Int32) = 1 then some ((1 : Int32), μ0) else none)
    else
    (if (0 : Int32) = 0 ∨ (0 : Int32) = 1 then some ((0 : Int32), μ0) else none))))
    else
    (if x2 = (4 : Int32) then
    ((gR μ0 a1 12 15).bind fun v21 =>
    ((aI μ0 v21 0 (4 : Int32)).bind fun v22 =>
    (if v22 = (4 : Int32) then
    (if (1 : Int32) = 0 ∨ (1 : Int32) = 1 then some ((1 : Int32), μ0) else none)
    else
    (if (0 : Int32) = 0 ∨ (0 : Int32) = 1 then some ((0 : Int32), μ0) else none))))
    else
    (if x2 = (5 : Int32) then
    ((gR μ0 a1 12 15).bind fun v19 =>
    ((aI μ0 v19 0 (5 : Int32)).bind fun v20 =>
    (if v20 = (8 : Int32) then
    (if (1 : Int32) = 0 ∨ (1 : Int32) = 1 then some ((1 : Int32), μ0) else none)
    else
    (if (0 : Int32) = 0 ∨ (0 : Int32) = 1 then some ((0 : Int32), μ0) else none))))
    else
    (if x2 = (6 : Int32) then
    ((gR μ0 a1 12 15).bind fun v17 =>
    ((aI μ0 v17 0 (6 : Int32)).bind fun v18 =>
    (if v18 = (10 : Int32) then
    (if (1 : Int32) = 0 ∨ (1 : Int32) = 1 then some ((1 : Int32), μ0) else none)
    else
    (if (0 : Int32) = 0 ∨ (0 : Int32) = 1 then some ((0 : Int32), μ0) else none))))
    else
    (if (0 : Int32) = 0 ∨ (0 : Int32) = 1 then some ((0 : Int32), μ0) else none)))))))
    else
    (if (1 : Int32) = 0 ∨ (1 : Int32) = 1 then some ((1 : Int32), μ0) else none)))
    else
    (if x3 = 0 then
    (if (0 : Int32) = (1 : Int32) then
    (if x2 = (1 : Int32) then
    ((gI μ0 a1 12 27).bind fun v40 =>
    ((gR μ0 a1 12 15).bind fun v41 =>
    ((aI μ0 v41 0 (1 : Int32)).bind fun v42 =>
    (if v40 = v42 then
    (if (1 : Int32) = 0 ∨ (1 : Int32) = 1 then some ((1 : Int32), μ0) else none)
    else
    (if (0 : Int32) = 0 ∨ (0 : Int32) = 1 then some ((0 : Int32), μ0) else none)))))
    else
    (if x2 = (2 : Int32) then
    ((gR μ0 a1 12 15).bind fun v38 =>
    ((aI μ0 v38 0 (2 : Int32)).bind fun v39 =>
    (if v39 = (5 : Int32) then
    (if (1 : Int32) = 0 ∨ (1 : Int32) = 1 then some ((1 : Int32), μ0) else none)
    else
    (if (0 : Int32) = 0 ∨ (0 : Int32) = 1 then some ((0 : Int32), μ0) else none))))
    else
    (if x2 = (3 : Int32) then
    ((gR μ0 a1 12 15).bind fun v36 =>
    ((aI μ0 v36 0 (3 : Int32)).bind fun v37 =>
    (if v37 = (8 : Int32) then
    (if (1 : Int32) = 0 ∨ (1 : Int32) = 1 then some ((1 : Int32), μ0) else none)
    else
    (if (0 : Int32) = 0 ∨ (0 : Int32) = 1 then some ((0 : Int32), μ0) else none))))
    else
    (if x2 = (4 : Int32) then
    ((gR μ0 a1 12 15).bind fun v34 =>
    ((aI μ0 v34 0 (4 : Int32)).bind fun v35 =>
    (if v35 = (4 : Int32) then
    (if (1 : Int32) = 0 ∨ (1 : Int32) = 1 then some ((1 : Int32), μ0) else none)
    else
    (if (0 : Int32) = 0 ∨ (0 : Int32) = 1 then some ((0 : Int32), μ0) else none))))
    else
    (if x2 = (5 : Int32) then
    ((gR μ0 a1 12 15).bind fun v32 =>
    ((aI μ0 v32 0 (5 : Int32)).bind fun v33 =>
    (if v33 = (8 : Int32) then
    (if (1 : Int32) = 0 ∨ (1 : Int32) = 1 then some ((1 : Int32), μ0) else none)
    else
    (if (0 : Int32) = 0 ∨ (0 : Int32) = 1 then some ((0 : Int32), μ0) else none))))
    else
    (if x2 = (6 : Int32) then
    ((gR μ0 a1 12 15).bind fun v30 =>
    ((aI μ0 v30 0 (6 : Int32)).bind fun v31 =>
    (if v31 = (10 : Int32) then
    (if (1 : Int32) = 0 ∨ (1 : Int32) = 1 then some ((1 : Int32), μ0) else none)
    else
    (if (0 : Int32) = 0 ∨ (0 : Int32) = 1 then some ((0 : Int32), μ0) else none))))
    else
    (if (0 : Int32) = 0 ∨ (0 : Int32) = 1 then some ((0 : Int32), μ0) else none)))))))
    else
    (if (1 : Int32) = 0 ∨ (1 : Int32) = 1 then some ((1 : Int32), μ0) else none))
    else
    (if (0 : Int32) = (0 : Int32) then
    (if x2 = (1 : Int32) then
    ((gI μ0 a1 12 27).bind fun v53 =>
    ((gR μ0 a1 12 15).bind fun v54 =>
    ((aI μ0 v54 0 (1 : Int32)).bind fun v55 =>
    (if v53 = v55 then
    (if (1 : Int32) = 0 ∨ (1 : Int32) = 1 then some ((1 : Int32), μ0) else none)
    else
    (if (0 : Int32) = 0 ∨ (0 : Int32) = 1 then some ((0 : Int32), μ0) else none)))))
    else
    (if x2 = (2 : Int32) then
    ((gR μ0 a1 12 15).bind fun v51 =>
    ((aI μ0 v51 0 (2 : Int32)).bind fun v52 =>
    (if v52 = (5 : Int32) then
    (if (1 : Int32) = 0 ∨ (1 : Int32) = 1 then some ((1 : Int32), μ0) else none)
    else
    (if (0 : Int32) = 0 ∨ (0 : Int32) = 1 then some ((0 : Int32), μ0) else none))))
    else
    (if x2 = (3 : Int32) then
    ((gR μ0 a1 12 15).bind fun v49 =>
    ((aI μ0 v49 0 (3 : Int32)).bind fun v50 =>
    (if v50 = (8 : Int32) then
    (if (1 : Int32) = 0 ∨ (1 : Int32) = 1 then some ((1 : Int32), μ0) else none)
    else
    (if (0 : Int32) = 0 ∨ (0 : Int32) = 1 then some ((0 : Int32), μ0) else none))))
    else
    (if x2 = (4 : Int32) then
    ((gR μ0 a1 12 15).bind fun v47 =>
    ((aI μ0 v47 0 (4 : Int32)).bind fun v48 =>
    (if v48 = (4 : Int32) then
    (if (1 : Int32) = 0 ∨ (1 : Int32) = 1 then some ((1 : Int32), μ0) else none)
    else
    (if (0 : Int32) = 0 ∨ (0 : Int32) = 1 then some ((0 : Int32), μ0) else none))))
    else
    (if x2 = (5 : Int32) then
    ((gR μ0 a1 12 15).bind fun v45 =>
    ((aI μ0 v45 0 (5 : Int32)).bind fun v46 =>
    (if v46 = (8 : Int32) then
    (if (1 : Int32) = 0 ∨ (1 : Int32) = 1 then some ((1 : Int32), μ0) else none)
    else
    (if (0 : Int32) = 0 ∨ (0 : Int32) = 1 then some ((0 : Int32), μ0) else none))))
    else
    (if x2 = (6 : Int32) then
    ((gR μ0 a1 12 15).bind fun v43 =>
    ((aI μ0 v43 0 (6 : Int32)).bind fun v44 =>
    (if v44 = (10 : Int32) then
    (if (1 : Int32) = 0 ∨ (1 : Int32) = 1 then some ((1 : Int32), μ0) else none)
    else
    (if (0 : Int32) = 0 ∨ (0 : Int32) = 1 then some ((0 : Int32), μ0) else none))))
    else
    (if (0 : Int32) = 0 ∨ (0 : Int32) = 1 then some ((0 : Int32), μ0) else none)))))))
    else
    (if (1 : Int32) = 0 ∨ (1 : Int32) = 1 then some ((1 : Int32), μ0) else none)))))
set_option maxHeartbeats 4000000 in
set_option maxRecDepth 100000 in
theorem f_X12_isFull_ok {l : Launch} {G : GG} {μ0 : Mm} {a1 : Nat} {x2 : Int32} {x3 : Int32} {r : Int32} {μ' : Mm} (hf : f_X12_isFull μ0 a1 x2 x3 = some (r, μ')) : EvM l G D_X12_isFull yX12_isFull cX12_isFull 3 (some .boolean) [.ref a1, .int x2, .int x3] μ0 (some (.int r)) μ' := by
  show Ev l G D_X12_isFull yX12_isFull cX12_isFull 3 (some .boolean) 0 [(0, .ref a1), (1, .int x2), (2, .int x3)] [] μ0 (some (.int r)) μ'
  unfold f_X12_isFull at hf
  refine E_iload_n (pc := 0) dX12_isFull_0 rfl ?_
  refine E_bipush (pc := 1) (v := (40 : Int32)) dX12_isFull_1 (by decide) ?_
  refine E_icmp_eq (pc := 3) (tgt := 27) dX12_isFull_3 (by decide) hf (fun hf => ?_) (fun hf => ?_)
  · refine E_iconst (pc := 27) (v := (1 : Int32)) dX12_isFull_27 (by decide) ?_
    exact E_zret (pc := 28) dX12_isFull_28 rfl hf
  · refine E_iload_n (pc := 6) dX12_isFull_6 rfl ?_
    refine E_if_ne (pc := 7) (tgt := 14) dX12_isFull_7 (by decide) hf (fun hf => ?_) (fun hf => ?_)
    · refine E_iconst (pc := 10) (v := (1 : Int32)) dX12_isFull_10 (by decide) ?_
      refine E_goto (pc := 11) (tgt := 15) dX12_isFull_11 (by decide) ?_
      refine E_iload_n (pc := 15) dX12_isFull_15 rfl ?_
      refine E_if_ne (pc := 16) (tgt := 23) dX12_isFull_16 (by decide) hf (fun hf => ?_) (fun hf => ?_)
      · refine E_iconst (pc := 19) (v := (1 : Int32)) dX12_isFull_19 (by decide) ?_
        refine E_goto (pc := 20) (tgt := 24) dX12_isFull_20 (by decide) ?_
        refine E_icmp_eq (pc := 24) (tgt := 29) dX12_isFull_24 (by decide) hf (fun hf => ?_) (fun hf => ?_)
        · refine E_iload_n (pc := 29) dX12_isFull_29 rfl ?_
          refine ifS hf (fun n30_0 hf => ?_) (fun n30_0 hf => ?_)
          · refine E_tswI (pc := 30) (tgt := 68) (1) dX12_isFull_30 (by rw [n30_0]; decide) (by decide) (by decide) rfl (by decide) ?_
            refine E_aload_n (pc := 68) dX12_isFull_68 rfl ?_
            refine E_getI (pc := 69) dX12_isFull_69 fl_X12_321 hf (fun v14 hf => ?_)
            refine E_aload_n (pc := 72) dX12_isFull_72 rfl ?_
            refine E_getR (pc := 73) dX12_isFull_73 fl_X12_52 hf (fun v15 hf => ?_)
            refine E_iconst (pc := 76) (v := (1 : Int32)) dX12_isFull_76 (by decide) ?_
            refine E_iald (pc := 77) dX12_isFull_77 hf (fun v16 hf => ?_)
            refine E_icmp_ne (pc := 78) (tgt := 85) dX12_isFull_78 (by decide) hf (fun hf => ?_) (fun hf => ?_)
            · refine E_iconst (pc := 81) (v := (1 : Int32)) dX12_isFull_81 (by decide) ?_
              refine E_goto (pc := 82) (tgt := 86) dX12_isFull_82 (by decide) ?_
              exact E_zret (pc := 86) dX12_isFull_86 rfl hf
            · refine E_iconst (pc := 85) (v := (0 : Int32)) dX12_isFull_85 (by decide) ?_
              exact E_zret (pc := 86) dX12_isFull_86 rfl hf
          · refine ifS hf (fun n30_1 hf => ?_) (fun n30_1 hf => ?_)
            · refine E_tswI (pc := 30) (tgt := 87) (2) dX12_isFull_30 (by rw [n30_1]; decide) (by decide) (by decide) rfl (by decide) ?_
              refine E_aload_n (pc := 87) dX12_isFull_87 rfl ?_
              refine E_getR (pc := 88) dX12_isFull_88 fl_X12_52 hf (fun v12 hf => ?_)
              refine E_iconst (pc := 91) (v := (2 : Int32)) dX12_isFull_91 (by decide) ?_
              refine E_iald (pc := 92) dX12_isFull_92 hf (fun v13 hf => ?_)
              refine E_iconst (pc := 93) (v := (5 : Int32)) dX12_isFull_93 (by decide) ?_
              refine E_icmp_ne (pc := 94) (tgt := 101) dX12_isFull_94 (by decide) hf (fun hf => ?_) (fun hf => ?_)
              · refine E_iconst (pc := 97) (v := (1 : Int32)) dX12_isFull_97 (by decide) ?_
                refine E_goto (pc := 98) (tgt := 102) dX12_isFull_98 (by decide) ?_
                exact E_zret (pc := 102) dX12_isFull_102 rfl hf
              · refine E_iconst (pc := 101) (v := (0 : Int32)) dX12_isFull_101 (by decide) ?_
                exact E_zret (pc := 102) dX12_isFull_102 rfl hf
            · refine ifS hf (fun n30_2 hf => ?_) (fun n30_2 hf => ?_)
              · refine E_tswI (pc := 30) (tgt := 103) (3) dX12_isFull_30 (by rw [n30_2]; decide) (by decide) (by decide) rfl (by decide) ?_
                refine E_aload_n (pc := 103) dX12_isFull_103 rfl ?_
                refine E_getR (pc := 104) dX12_isFull_104 fl_X12_52 hf (fun v10 hf => ?_)
                refine E_iconst (pc := 107) (v := (3 : Int32)) dX12_isFull_107 (by decide) ?_
                refine E_iald (pc := 108) dX12_isFull_108 hf (fun v11 hf => ?_)
                refine E_bipush (pc := 109) (v := (8 : Int32)) dX12_isFull_109 (by decide) ?_
                refine E_icmp_ne (pc := 111) (tgt := 118) dX12_isFull_111 (by decide) hf (fun hf => ?_) (fun hf => ?_)
                · refine E_iconst (pc := 114) (v := (1 : Int32)) dX12_isFull_114 (by decide) ?_
                  refine E_goto (pc := 115) (tgt := 119) dX12_isFull_115 (by decide) ?_
                  exact E_zret (pc := 119) dX12_isFull_119 rfl hf
                · refine E_iconst (pc := 118) (v := (0 : Int32)) dX12_isFull_118 (by decide) ?_
                  exact E_zret (pc := 119) dX12_isFull_119 rfl hf
              · refine ifS hf (fun n30_3 hf => ?_) (fun n30_3 hf => ?_)
                · refine E_tswI (pc := 30) (tgt := 120) (4) dX12_isFull_30 (by rw [n30_3]; decide) (by decide) (by decide) rfl (by decide) ?_
                  refine E_aload_n (pc := 120) dX12_isFull_120 rfl ?_
                  refine E_getR (pc := 121) dX12_isFull_121 fl_X12_52 hf (fun v8 hf => ?_)
                  refine E_iconst (pc := 124) (v := (4 : Int32)) dX12_isFull_124 (by decide) ?_
                  refine E_iald (pc := 125) dX12_isFull_125 hf (fun v9 hf => ?_)
                  refine E_iconst (pc := 126) (v := (4 : Int32)) dX12_isFull_126 (by decide) ?_
                  refine E_icmp_ne (pc := 127) (tgt := 134) dX12_isFull_127 (by decide) hf (fun hf => ?_) (fun hf => ?_)
                  · refine E_iconst (pc := 130) (v := (1 : Int32)) dX12_isFull_130 (by decide) ?_
                    refine E_goto (pc := 131) (tgt := 135) dX12_isFull_131 (by decide) ?_
                    exact E_zret (pc := 135) dX12_isFull_135 rfl hf
                  · refine E_iconst (pc := 134) (v := (0 : Int32)) dX12_isFull_134 (by decide) ?_
                    exact E_zret (pc := 135) dX12_isFull_135 rfl hf
                · refine ifS hf (fun n30_4 hf => ?_) (fun n30_4 hf => ?_)
                  · refine E_tswI (pc := 30) (tgt := 136) (5) dX12_isFull_30 (by rw [n30_4]; decide) (by decide) (by decide) rfl (by decide) ?_
                    refine E_aload_n (pc := 136) dX12_isFull_136 rfl ?_
                    refine E_getR (pc := 137) dX12_isFull_137 fl_X12_52 hf (fun v6 hf => ?_)
                    refine E_iconst (pc := 140) (v := (5 : Int32)) dX12_isFull_140 (by decide) ?_
                    refine E_iald (pc := 141) dX12_isFull_141 hf (fun v7 hf => ?_)
                    refine E_bipush (pc := 142) (v := (8 : Int32)) dX12_isFull_142 (by decide) ?_
                    refine E_icmp_ne (pc := 144) (tgt := 151) dX12_isFull_144 (by decide) hf (fun hf => ?_) (fun hf => ?_)
                    · refine E_iconst (pc := 147) (v := (1 : Int32)) dX12_isFull_147 (by decide) ?_
                      refine E_goto (pc := 148) (tgt := 152) dX12_isFull_148 (by decide) ?_
                      exact E_zret (pc := 152) dX12_isFull_152 rfl hf
                    · refine E_iconst (pc := 151) (v := (0 : Int32)) dX12_isFull_151 (by decide) ?_
                      exact E_zret (pc := 152) dX12_isFull_152 rfl hf
                  · refine ifS hf (fun n30_5 hf => ?_) (fun n30_5 hf => ?_)
                    · refine E_tswI (pc := 30) (tgt := 153) (6) dX12_isFull_30 (by rw [n30_5]; decide) (by decide) (by decide) rfl (by decide) ?_
                      refine E_aload_n (pc := 153) dX12_isFull_153 rfl ?_
                      refine E_getR (pc := 154) dX12_isFull_154 fl_X12_52 hf (fun v4 hf => ?_)
                      refine E_bipush (pc := 157) (v := (6 : Int32)) dX12_isFull_157 (by decide) ?_
                      refine E_iald (pc := 159) dX12_isFull_159 hf (fun v5 hf => ?_)
                      refine E_bipush (pc := 160) (v := (10 : Int32)) dX12_isFull_160 (by decide) ?_
                      refine E_icmp_ne (pc := 162) (tgt := 169) dX12_isFull_162 (by decide) hf (fun hf => ?_) (fun hf => ?_)
                      · refine E_iconst (pc := 165) (v := (1 : Int32)) dX12_isFull_165 (by decide) ?_
                        refine E_goto (pc := 166) (tgt := 170) dX12_isFull_166 (by decide) ?_
                        exact E_zret (pc := 170) dX12_isFull_170 rfl hf
                      · refine E_iconst (pc := 169) (v := (0 : Int32)) dX12_isFull_169 (by decide) ?_
                        exact E_zret (pc := 170) dX12_isFull_170 rfl hf
                    · refine E_tswD (pc := 30) (tgt := 171) dX12_isFull_30 (by have q0 : ¬ (x2).toInt = 1 := i32ne n30_0; have q1 : ¬ (x2).toInt = 2 := i32ne n30_1; have q2 : ¬ (x2).toInt = 3 := i32ne n30_2; have q3 : ¬ (x2).toInt = 4 := i32ne n30_3; have q4 : ¬ (x2).toInt = 5 := i32ne n30_4; have q5 : ¬ (x2).toInt = 6 := i32ne n30_5;  omega) (by decide) ?_
                      refine E_iconst (pc := 171) (v := (0 : Int32)) dX12_isFull_171 (by decide) ?_
                      exact E_zret (pc := 172) dX12_isFull_172 rfl hf
        · refine E_iconst (pc := 27) (v := (1 : Int32)) dX12_isFull_27 (by decide) ?_
          exact E_zret (pc := 28) dX12_isFull_28 rfl hf
      · refine E_iconst (pc := 23) (v := (0 : Int32)) dX12_isFull_23 (by decide) ?_
        refine E_icmp_eq (pc := 24) (tgt := 29) dX12_isFull_24 (by decide) hf (fun hf => ?_) (fun hf => ?_)
        · refine E_iload_n (pc := 29) dX12_isFull_29 rfl ?_
          refine ifS hf (fun n30_0 hf => ?_) (fun n30_0 hf => ?_)
          · refine E_tswI (pc := 30) (tgt := 68) (1) dX12_isFull_30 (by rw [n30_0]; decide) (by decide) (by decide) rfl (by decide) ?_
            refine E_aload_n (pc := 68) dX12_isFull_68 rfl ?_
            refine E_getI (pc := 69) dX12_isFull_69 fl_X12_321 hf (fun v27 hf => ?_)
            refine E_aload_n (pc := 72) dX12_isFull_72 rfl ?_
            refine E_getR (pc := 73) dX12_isFull_73 fl_X12_52 hf (fun v28 hf => ?_)
            refine E_iconst (pc := 76) (v := (1 : Int32)) dX12_isFull_76 (by decide) ?_
            refine E_iald (pc := 77) dX12_isFull_77 hf (fun v29 hf => ?_)
            refine E_icmp_ne (pc := 78) (tgt := 85) dX12_isFull_78 (by decide) hf (fun hf => ?_) (fun hf => ?_)
            · refine E_iconst (pc := 81) (v := (1 : Int32)) dX12_isFull_81 (by decide) ?_
              refine E_goto (pc := 82) (tgt := 86) dX12_isFull_82 (by decide) ?_
              exact E_zret (pc := 86) dX12_isFull_86 rfl hf
            · refine E_iconst (pc := 85) (v := (0 : Int32)) dX12_isFull_85 (by decide) ?_
              exact E_zret (pc := 86) dX12_isFull_86 rfl hf
          · refine ifS hf (fun n30_1 hf => ?_) (fun n30_1 hf => ?_)
            · refine E_tswI (pc := 30) (tgt := 87) (2) dX12_isFull_30 (by rw [n30_1]; decide) (by decide) (by decide) rfl (by decide) ?_
              refine E_aload_n (pc := 87) dX12_isFull_87 rfl ?_
              refine E_getR (pc := 88) dX12_isFull_88 fl_X12_52 hf (fun v25 hf => ?_)
              refine E_iconst (pc := 91) (v := (2 : Int32)) dX12_isFull_91 (by decide) ?_
              refine E_iald (pc := 92) dX12_isFull_92 hf (fun v26 hf => ?_)
              refine E_iconst (pc := 93) (v := (5 : Int32)) dX12_isFull_93 (by decide) ?_
              refine E_icmp_ne (pc := 94) (tgt := 101) dX12_isFull_94 (by decide) hf (fun hf => ?_) (fun hf => ?_)
              · refine E_iconst (pc := 97) (v := (1 : Int32)) dX12_isFull_97 (by decide) ?_
                refine E_goto (pc := 98) (tgt := 102) dX12_isFull_98 (by decide) ?_
                exact E_zret (pc := 102) dX12_isFull_102 rfl hf
              · refine E_iconst (pc := 101) (v := (0 : Int32)) dX12_isFull_101 (by decide) ?_
                exact E_zret (pc := 102) dX12_isFull_102 rfl hf
            · refine ifS hf (fun n30_2 hf => ?_) (fun n30_2 hf => ?_)
              · refine E_tswI (pc := 30) (tgt := 103) (3) dX12_isFull_30 (by rw [n30_2]; decide) (by decide) (by decide) rfl (by decide) ?_
                refine E_aload_n (pc := 103) dX12_isFull_103 rfl ?_
                refine E_getR (pc := 104) dX12_isFull_104 fl_X12_52 hf (fun v23 hf => ?_)
                refine E_iconst (pc := 107) (v := (3 : Int32)) dX12_isFull_107 (by decide) ?_
                refine E_iald (pc := 108) dX12_isFull_108 hf (fun v24 hf => ?_)
                refine E_bipush (pc := 109) (v := (8 : Int32)) dX12_isFull_109 (by decide) ?_
                refine E_icmp_ne (pc := 111) (tgt := 118) dX12_isFull_111 (by decide) hf (fun hf => ?_) (fun hf => ?_)
                · refine E_iconst (pc := 114) (v := (1 : Int32)) dX12_isFull_114 (by decide) ?_
                  refine E_goto (pc := 115) (tgt := 119) dX12_isFull_115 (by decide) ?_
                  exact E_zret (pc := 119) dX12_isFull_119 rfl hf
                · refine E_iconst (pc := 118) (v := (0 : Int32)) dX12_isFull_118 (by decide) ?_
                  exact E_zret (pc := 119) dX12_isFull_119 rfl hf
              · refine ifS hf (fun n30_3 hf => ?_) (fun n30_3 hf => ?_)
                · refine E_tswI (pc := 30) (tgt := 120) (4) dX12_isFull_30 (by rw [n30_3]; decide) (by decide) (by decide) rfl (by decide) ?_
                  refine E_aload_n (pc := 120) dX12_isFull_120 rfl ?_
                  refine E_getR (pc := 121) dX12_isFull_121 fl_X12_52 hf (fun v21 hf => ?_)
                  refine E_iconst (pc := 124) (v := (4 : Int32)) dX12_isFull_124 (by decide) ?_
                  refine E_iald (pc := 125) dX12_isFull_125 hf (fun v22 hf => ?_)
                  refine E_iconst (pc := 126) (v := (4 : Int32)) dX12_isFull_126 (by decide) ?_
                  refine E_icmp_ne (pc := 127) (tgt := 134) dX12_isFull_127 (by decide) hf (fun hf => ?_) (fun hf => ?_)
                  · refine E_iconst (pc := 130) (v := (1 : Int32)) dX12_isFull_130 (by decide) ?_
                    refine E_goto (pc := 131) (tgt := 135) dX12_isFull_131 (by decide) ?_
                    exact E_zret (pc := 135) dX12_isFull_135 rfl hf
                  · refine E_iconst (pc := 134) (v := (0 : Int32)) dX12_isFull_134 (by decide) ?_
                    exact E_zret (pc := 135) dX12_isFull_135 rfl hf
                · refine ifS hf (fun n30_4 hf => ?_) (fun n30_4 hf => ?_)
                  · refine E_tswI (pc := 30) (tgt := 136) (5) dX12_isFull_30 (by rw [n30_4]; decide) (by decide) (by decide) rfl (by decide) ?_
                    refine E_aload_n (pc := 136) dX12_isFull_136 rfl ?_
                    refine E_getR (pc := 137) dX12_isFull_137 fl_X12_52 hf (fun v19 hf => ?_)
                    refine E_iconst (pc := 140) (v := (5 : Int32)) dX12_isFull_140 (by decide) ?_
                    refine E_iald (pc := 141) dX12_isFull_141 hf (fun v20 hf => ?_)
                    refine E_bipush (pc := 142) (v := (8 : Int32)) dX12_isFull_142 (by decide) ?_
                    refine E_icmp_ne (pc := 144) (tgt := 151) dX12_isFull_144 (by decide) hf (fun hf => ?_) (fun hf => ?_)
                    · refine E_iconst (pc := 147) (v := (1 : Int32)) dX12_isFull_147 (by decide) ?_
                      refine E_goto (pc := 148) (tgt := 152) dX12_isFull_148 (by decide) ?_
                      exact E_zret (pc := 152) dX12_isFull_152 rfl hf
                    · refine E_iconst (pc := 151) (v := (0 : Int32)) dX12_isFull_151 (by decide) ?_
                      exact E_zret (pc := 152) dX12_isFull_152 rfl hf
                  · refine ifS hf (fun n30_5 hf => ?_) (fun n30_5 hf => ?_)
                    · refine E_tswI (pc := 30) (tgt := 153) (6) dX12_isFull_30 (by rw [n30_5]; decide) (by decide) (by decide) rfl (by decide) ?_
                      refine E_aload_n (pc := 153) dX12_isFull_153 rfl ?_
                      refine E_getR (pc := 154) dX12_isFull_154 fl_X12_52 hf (fun v17 hf => ?_)
                      refine E_bipush (pc := 157) (v := (6 : Int32)) dX12_isFull_157 (by decide) ?_
                      refine E_iald (pc := 159) dX12_isFull_159 hf (fun v18 hf => ?_)
                      refine E_bipush (pc := 160) (v := (10 : Int32)) dX12_isFull_160 (by decide) ?_
                      refine E_icmp_ne (pc := 162) (tgt := 169) dX12_isFull_162 (by decide) hf (fun hf => ?_) (fun hf => ?_)
                      · refine E_iconst (pc := 165) (v := (1 : Int32)) dX12_isFull_165 (by decide) ?_
                        refine E_goto (pc := 166) (tgt := 170) dX12_isFull_166 (by decide) ?_
                        exact E_zret (pc := 170) dX12_isFull_170 rfl hf
                      · refine E_iconst (pc := 169) (v := (0 : Int32)) dX12_isFull_169 (by decide) ?_
                        exact E_zret (pc := 170) dX12_isFull_170 rfl hf
                    · refine E_tswD (pc := 30) (tgt := 171) dX12_isFull_30 (by have q0 : ¬ (x2).toInt = 1 := i32ne n30_0; have q1 : ¬ (x2).toInt = 2 := i32ne n30_1; have q2 : ¬ (x2).toInt = 3 := i32ne n30_2; have q3 : ¬ (x2).toInt = 4 := i32ne n30_3; have q4 : ¬ (x2).toInt = 5 := i32ne n30_4; have q5 : ¬ (x2).toInt = 6 := i32ne n30_5;  omega) (by decide) ?_
                      refine E_iconst (pc := 171) (v := (0 : Int32)) dX12_isFull_171 (by decide) ?_
                      exact E_zret (pc := 172) dX12_isFull_172 rfl hf
        · refine E_iconst (pc := 27) (v := (1 : Int32)) dX12_isFull_27 (by decide) ?_
          exact E_zret (pc := 28) dX12_isFull_28 rfl hf
    · refine E_iconst (pc := 14) (v := (0 : Int32)) dX12_isFull_14 (by decide) ?_
      refine E_iload_n (pc := 15) dX12_isFull_15 rfl ?_
      refine E_if_ne (pc := 16) (tgt := 23) dX12_isFull_16 (by decide) hf (fun hf => ?_) (fun hf => ?_)
      · refine E_iconst (pc := 19) (v := (1 : Int32)) dX12_isFull_19 (by decide) ?_
        refine E_goto (pc := 20) (tgt := 24) dX12_isFull_20 (by decide) ?_
        refine E_icmp_eq (pc := 24) (tgt := 29) dX12_isFull_24 (by decide) hf (fun hf => ?_) (fun hf => ?_)
        · refine E_iload_n (pc := 29) dX12_isFull_29 rfl ?_
          refine ifS hf (fun n30_0 hf => ?_) (fun n30_0 hf => ?_)
          · refine E_tswI (pc := 30) (tgt := 68) (1) dX12_isFull_30 (by rw [n30_0]; decide) (by decide) (by decide) rfl (by decide) ?_
            refine E_aload_n (pc := 68) dX12_isFull_68 rfl ?_
            refine E_getI (pc := 69) dX12_isFull_69 fl_X12_321 hf (fun v40 hf => ?_)
            refine E_aload_n (pc := 72) dX12_isFull_72 rfl ?_
            refine E_getR (pc := 73) dX12_isFull_73 fl_X12_52 hf (fun v41 hf => ?_)
            refine E_iconst (pc := 76) (v := (1 : Int32)) dX12_isFull_76 (by decide) ?_
            refine E_iald (pc := 77) dX12_isFull_77 hf (fun v42 hf => ?_)
            refine E_icmp_ne (pc := 78) (tgt := 85) dX12_isFull_78 (by decide) hf (fun hf => ?_) (fun hf => ?_)
            · refine E_iconst (pc := 81) (v := (1 : Int32)) dX12_isFull_81 (by decide) ?_
              refine E_goto (pc := 82) (tgt := 86) dX12_isFull_82 (by decide) ?_
              exact E_zret (pc := 86) dX12_isFull_86 rfl hf
            · refine E_iconst (pc := 85) (v := (0 : Int32)) dX12_isFull_85 (by decide) ?_
              exact E_zret (pc := 86) dX12_isFull_86 rfl hf
          · refine ifS hf (fun n30_1 hf => ?_) (fun n30_1 hf => ?_)
            · refine E_tswI (pc := 30) (tgt := 87) (2) dX12_isFull_30 (by rw [n30_1]; decide) (by decide) (by decide) rfl (by decide) ?_
              refine E_aload_n (pc := 87) dX12_isFull_87 rfl ?_
              refine E_getR (pc := 88) dX12_isFull_88 fl_X12_52 hf (fun v38 hf => ?_)
              refine E_iconst (pc := 91) (v := (2 : Int32)) dX12_isFull_91 (by decide) ?_
              refine E_iald (pc := 92) dX12_isFull_92 hf (fun v39 hf => ?_)
              refine E_iconst (pc := 93) (v := (5 : Int32)) dX12_isFull_93 (by decide) ?_
              refine E_icmp_ne (pc := 94) (tgt := 101) dX12_isFull_94 (by decide) hf (fun hf => ?_) (fun hf => ?_)
              · refine E_iconst (pc := 97) (v := (1 : Int32)) dX12_isFull_97 (by decide) ?_
                refine E_goto (pc := 98) (tgt := 102) dX12_isFull_98 (by decide) ?_
                exact E_zret (pc := 102) dX12_isFull_102 rfl hf
              · refine E_iconst (pc := 101) (v := (0 : Int32)) dX12_isFull_101 (by decide) ?_
                exact E_zret (pc := 102) dX12_isFull_102 rfl hf
            · refine ifS hf (fun n30_2 hf => ?_) (fun n30_2 hf => ?_)
              · refine E_tswI (pc := 30) (tgt := 103) (3) dX12_isFull_30 (by rw [n30_2]; decide) (by decide) (by decide) rfl (by decide) ?_
                refine E_aload_n (pc := 103) dX12_isFull_103 rfl ?_
                refine E_getR (pc := 104) dX12_isFull_104 fl_X12_52 hf (fun v36 hf => ?_)
                refine E_iconst (pc := 107) (v := (3 : Int32)) dX12_isFull_107 (by decide) ?_
                refine E_iald (pc := 108) dX12_isFull_108 hf (fun v37 hf => ?_)
                refine E_bipush (pc := 109) (v := (8 : Int32)) dX12_isFull_109 (by decide) ?_
                refine E_icmp_ne (pc := 111) (tgt := 118) dX12_isFull_111 (by decide) hf (fun hf => ?_) (fun hf => ?_)
                · refine E_iconst (pc := 114) (v := (1 : Int32)) dX12_isFull_114 (by decide) ?_
                  refine E_goto (pc := 115) (tgt := 119) dX12_isFull_115 (by decide) ?_
                  exact E_zret (pc := 119) dX12_isFull_119 rfl hf
                · refine E_iconst (pc := 118) (v := (0 : Int32)) dX12_isFull_118 (by decide) ?_
                  exact E_zret (pc := 119) dX12_isFull_119 rfl hf
              · refine ifS hf (fun n30_3 hf => ?_) (fun n30_3 hf => ?_)
                · refine E_tswI (pc := 30) (tgt := 120) (4) dX12_isFull_30 (by rw [n30_3]; decide) (by decide) (by decide) rfl (by decide) ?_
                  refine E_aload_n (pc := 120) dX12_isFull_120 rfl ?_
                  refine E_getR (pc := 121) dX12_isFull_121 fl_X12_52 hf (fun v34 hf => ?_)
                  refine E_iconst (pc := 124) (v := (4 : Int32)) dX12_isFull_124 (by decide) ?_
                  refine E_iald (pc := 125) dX12_isFull_125 hf (fun v35 hf => ?_)
                  refine E_iconst (pc := 126) (v := (4 : Int32)) dX12_isFull_126 (by decide) ?_
                  refine E_icmp_ne (pc := 127) (tgt := 134) dX12_isFull_127 (by decide) hf (fun hf => ?_) (fun hf => ?_)
                  · refine E_iconst (pc := 130) (v := (1 : Int32)) dX12_isFull_130 (by decide) ?_
                    refine E_goto (pc := 131) (tgt := 135) dX12_isFull_131 (by decide) ?_
                    exact E_zret (pc := 135) dX12_isFull_135 rfl hf
                  · refine E_iconst (pc := 134) (v := (0 : Int32)) dX12_isFull_134 (by decide) ?_
                    exact E_zret (pc := 135) dX12_isFull_135 rfl hf
                · refine ifS hf (fun n30_4 hf => ?_) (fun n30_4 hf => ?_)
                  · refine E_tswI (pc := 30) (tgt := 136) (5) dX12_isFull_30 (by rw [n30_4]; decide) (by decide) (by decide) rfl (by decide) ?_
                    refine E_aload_n (pc := 136) dX12_isFull_136 rfl ?_
                    refine E_getR (pc := 137) dX12_isFull_137 fl_X12_52 hf (fun v32 hf => ?_)
                    refine E_iconst (pc := 140) (v := (5 : Int32)) dX12_isFull_140 (by decide) ?_
                    refine E_iald (pc := 141) dX12_isFull_141 hf (fun v33 hf => ?_)
                    refine E_bipush (pc := 142) (v := (8 : Int32)) dX12_isFull_142 (by decide) ?_
                    refine E_icmp_ne (pc := 144) (tgt := 151) dX12_isFull_144 (by decide) hf (fun hf => ?_) (fun hf => ?_)
                    · refine E_iconst (pc := 147) (v := (1 : Int32)) dX12_isFull_147 (by decide) ?_
                      refine E_goto (pc := 148) (tgt := 152) dX12_isFull_148 (by decide) ?_
                      exact E_zret (pc := 152) dX12_isFull_152 rfl hf
                    · refine E_iconst (pc := 151) (v := (0 : Int32)) dX12_isFull_151 (by decide) ?_
                      exact E_zret (pc := 152) dX12_isFull_152 rfl hf
                  · refine ifS hf (fun n30_5 hf => ?_) (fun n30_5 hf => ?_)
                    · refine E_tswI (pc := 30) (tgt := 153) (6) dX12_isFull_30 (by rw [n30_5]; decide) (by decide) (by decide) rfl (by decide) ?_
                      refine E_aload_n (pc := 153) dX12_isFull_153 rfl ?_
                      refine E_getR (pc := 154) dX12_isFull_154 fl_X12_52 hf (fun v30 hf => ?_)
                      refine E_bipush (pc := 157) (v := (6 : Int32)) dX12_isFull_157 (by decide) ?_
                      refine E_iald (pc := 159) dX12_isFull_159 hf (fun v31 hf => ?_)
                      refine E_bipush (pc := 160) (v := (10 : Int32)) dX12_isFull_160 (by decide) ?_
                      refine E_icmp_ne (pc := 162) (tgt := 169) dX12_isFull_162 (by decide) hf (fun hf => ?_) (fun hf => ?_)
                      · refine E_iconst (pc := 165) (v := (1 : Int32)) dX12_isFull_165 (by decide) ?_
                        refine E_goto (pc := 166) (tgt := 170) dX12_isFull_166 (by decide) ?_
                        exact E_zret (pc := 170) dX12_isFull_170 rfl hf
                      · refine E_iconst (pc := 169) (v := (0 : Int32)) dX12_isFull_169 (by decide) ?_
                        exact E_zret (pc := 170) dX12_isFull_170 rfl hf
                    · refine E_tswD (pc := 30) (tgt := 171) dX12_isFull_30 (by have q0 : ¬ (x2).toInt = 1 := i32ne n30_0; have q1 : ¬ (x2).toInt = 2 := i32ne n30_1; have q2 : ¬ (x2).toInt = 3 := i32ne n30_2; have q3 : ¬ (x2).toInt = 4 := i32ne n30_3; have q4 : ¬ (x2).toInt = 5 := i32ne n30_4; have q5 : ¬ (x2).toInt = 6 := i32ne n30_5;  omega) (by decide) ?_
                      refine E_iconst (pc := 171) (v := (0 : Int32)) dX12_isFull_171 (by decide) ?_
                      exact E_zret (pc := 172) dX12_isFull_172 rfl hf
        · refine E_iconst (pc := 27) (v := (1 : Int32)) dX12_isFull_27 (by decide) ?_
          exact E_zret (pc := 28) dX12_isFull_28 rfl hf
      · refine E_iconst (pc := 23) (v := (0 : Int32)) dX12_isFull_23 (by decide) ?_
        refine E_icmp_eq (pc := 24) (tgt := 29) dX12_isFull_24 (by decide) hf (fun hf => ?_) (fun hf => ?_)
        · refine E_iload_n (pc := 29) dX12_isFull_29 rfl ?_
          refine ifS hf (fun n30_0 hf => ?_) (fun n30_0 hf => ?_)
          · refine E_tswI (pc := 30) (tgt := 68) (1) dX12_isFull_30 (by rw [n30_0]; decide) (by decide) (by decide) rfl (by decide) ?_
            refine E_aload_n (pc := 68) dX12_isFull_68 rfl ?_
            refine E_getI (pc := 69) dX12_isFull_69 fl_X12_321 hf (fun v53 hf => ?_)
            refine E_aload_n (pc := 72) dX12_isFull_72 rfl ?_
            refine E_getR (pc := 73) dX12_isFull_73 fl_X12_52 hf (fun v54 hf => ?_)
            refine E_iconst (pc := 76) (v := (1 : Int32)) dX12_isFull_76 (by decide) ?_
            refine E_iald (pc := 77) dX12_isFull_77 hf (fun v55 hf => ?_)
            refine E_icmp_ne (pc := 78) (tgt := 85) dX12_isFull_78 (by decide) hf (fun hf => ?_) (fun hf => ?_)
            · refine E_iconst (pc := 81) (v := (1 : Int32)) dX12_isFull_81 (by decide) ?_
              refine E_goto (pc := 82) (tgt := 86) dX12_isFull_82 (by decide) ?_
              exact E_zret (pc := 86) dX12_isFull_86 rfl hf
            · refine E_iconst (pc := 85) (v := (0 : Int32)) dX12_isFull_85 (by decide) ?_
              exact E_zret (pc := 86) dX12_isFull_86 rfl hf
          · refine ifS hf (fun n30_1 hf => ?_) (fun n30_1 hf => ?_)
            · refine E_tswI (pc := 30) (tgt := 87) (2) dX12_isFull_30 (by rw [n30_1]; decide) (by decide) (by decide) rfl (by decide) ?_
              refine E_aload_n (pc := 87) dX12_isFull_87 rfl ?_
              refine E_getR (pc := 88) dX12_isFull_88 fl_X12_52 hf (fun v51 hf => ?_)
              refine E_iconst (pc := 91) (v := (2 : Int32)) dX12_isFull_91 (by decide) ?_
              refine E_iald (pc := 92) dX12_isFull_92 hf (fun v52 hf => ?_)
              refine E_iconst (pc := 93) (v := (5 : Int32)) dX12_isFull_93 (by decide) ?_
              refine E_icmp_ne (pc := 94) (tgt := 101) dX12_isFull_94 (by decide) hf (fun hf => ?_) (fun hf => ?_)
              · refine E_iconst (pc := 97) (v := (1 : Int32)) dX12_isFull_97 (by decide) ?_
                refine E_goto (pc := 98) (tgt := 102) dX12_isFull_98 (by decide) ?_
                exact E_zret (pc := 102) dX12_isFull_102 rfl hf
              · refine E_iconst (pc := 101) (v := (0 : Int32)) dX12_isFull_101 (by decide) ?_
                exact E_zret (pc := 102) dX12_isFull_102 rfl hf
            · refine ifS hf (fun n30_2 hf => ?_) (fun n30_2 hf => ?_)
              · refine E_tswI (pc := 30) (tgt := 103) (3) dX12_isFull_30 (by rw [n30_2]; decide) (by decide) (by decide) rfl (by decide) ?_
                refine E_aload_n (pc := 103) dX12_isFull_103 rfl ?_
                refine E_getR (pc := 104) dX12_isFull_104 fl_X12_52 hf (fun v49 hf => ?_)
                refine E_iconst (pc := 107) (v := (3 : Int32)) dX12_isFull_107 (by decide) ?_
                refine E_iald (pc := 108) dX12_isFull_108 hf (fun v50 hf => ?_)
                refine E_bipush (pc := 109) (v := (8 : Int32)) dX12_isFull_109 (by decide) ?_
                refine E_icmp_ne (pc := 111) (tgt := 118) dX12_isFull_111 (by decide) hf (fun hf => ?_) (fun hf => ?_)
                · refine E_iconst (pc := 114) (v := (1 : Int32)) dX12_isFull_114 (by decide) ?_
                  refine E_goto (pc := 115) (tgt := 119) dX12_isFull_115 (by decide) ?_
                  exact E_zret (pc := 119) dX12_isFull_119 rfl hf
                · refine E_iconst (pc := 118) (v := (0 : Int32)) dX12_isFull_118 (by decide) ?_
                  exact E_zret (pc := 119) dX12_isFull_119 rfl hf
              · refine ifS hf (fun n30_3 hf => ?_) (fun n30_3 hf => ?_)
                · refine E_tswI (pc := 30) (tgt := 120) (4) dX12_isFull_30 (by rw [n30_3]; decide) (by decide) (by decide) rfl (by decide) ?_
                  refine E_aload_n (pc := 120) dX12_isFull_120 rfl ?_
                  refine E_getR (pc := 121) dX12_isFull_121 fl_X12_52 hf (fun v47 hf => ?_)
                  refine E_iconst (pc := 124) (v := (4 : Int32)) dX12_isFull_124 (by decide) ?_
                  refine E_iald (pc := 125) dX12_isFull_125 hf (fun v48 hf => ?_)
                  refine E_iconst (pc := 126) (v := (4 : Int32)) dX12_isFull_126 (by decide) ?_
                  refine E_icmp_ne (pc := 127) (tgt := 134) dX12_isFull_127 (by decide) hf (fun hf => ?_) (fun hf => ?_)
                  · refine E_iconst (pc := 130) (v := (1 : Int32)) dX12_isFull_130 (by decide) ?_
                    refine E_goto (pc := 131) (tgt := 135) dX12_isFull_131 (by decide) ?_
                    exact E_zret (pc := 135) dX12_isFull_135 rfl hf
                  · refine E_iconst (pc := 134) (v := (0 : Int32)) dX12_isFull_134 (by decide) ?_
                    exact E_zret (pc := 135) dX12_isFull_135 rfl hf
                · refine ifS hf (fun n30_4 hf => ?_) (fun n30_4 hf => ?_)
                  · refine E_tswI (pc := 30) (tgt := 136) (5) dX12_isFull_30 (by rw [n30_4]; decide) (by decide) (by decide) rfl (by decide) ?_
                    refine E_aload_n (pc := 136) dX12_isFull_136 rfl ?_
                    refine E_getR (pc := 137) dX12_isFull_137 fl_X12_52 hf (fun v45 hf => ?_)
                    refine E_iconst (pc := 140) (v := (5 : Int32)) dX12_isFull_140 (by decide) ?_
                    refine E_iald (pc := 141) dX12_isFull_141 hf (fun v46 hf => ?_)
                    refine E_bipush (pc := 142) (v := (8 : Int32)) dX12_isFull_142 (by decide) ?_
                    refine E_icmp_ne (pc := 144) (tgt := 151) dX12_isFull_144 (by decide) hf (fun hf => ?_) (fun hf => ?_)
                    · refine E_iconst (pc := 147) (v := (1 : Int32)) dX12_isFull_147 (by decide) ?_
                      refine E_goto (pc := 148) (tgt := 152) dX12_isFull_148 (by decide) ?_
                      exact E_zret (pc := 152) dX12_isFull_152 rfl hf
                    · refine E_iconst (pc := 151) (v := (0 : Int32)) dX12_isFull_151 (by decide) ?_
                      exact E_zret (pc := 152) dX12_isFull_152 rfl hf
                  · refine ifS hf (fun n30_5 hf => ?_) (fun n30_5 hf => ?_)
                    · refine E_tswI (pc := 30) (tgt := 153) (6) dX12_isFull_30 (by rw [n30_5]; decide) (by decide) (by decide) rfl (by decide) ?_
                      refine E_aload_n (pc := 153) dX12_isFull_153 rfl ?_
                      refine E_getR (pc := 154) dX12_isFull_154 fl_X12_52 hf (fun v43 hf => ?_)
                      refine E_bipush (pc := 157) (v := (6 : Int32)) dX12_isFull_157 (by decide) ?_
                      refine E_iald (pc := 159) dX12_isFull_159 hf (fun v44 hf => ?_)
                      refine E_bipush (pc := 160) (v := (10 : Int32)) dX12_isFull_160 (by decide) ?_
                      refine E_icmp_ne (pc := 162) (tgt := 169) dX12_isFull_162 (by decide) hf (fun hf => ?_) (fun hf => ?_)
                      · refine E_iconst (pc := 165) (v := (1 : Int32)) dX12_isFull_165 (by decide) ?_
                        refine E_goto (pc := 166) (tgt := 170) dX12_isFull_166 (by decide) ?_
                        exact E_zret (pc := 170) dX12_isFull_170 rfl hf
                      · refine E_iconst (pc := 169) (v := (0 : Int32)) dX12_isFull_169 (by decide) ?_
                        exact E_zret (pc := 170) dX12_isFull_170 rfl hf
                    · refine E_tswD (pc := 30) (tgt := 171) dX12_isFull_30 (by have q0 : ¬ (x2).toInt = 1 := i32ne n30_0; have q1 : ¬ (x2).toInt = 2 := i32ne n30_1; have q2 : ¬ (x2).toInt = 3 := i32ne n30_2; have q3 : ¬ (x2).toInt = 4 := i32ne n30_3; have q4 : ¬ (x2).toInt = 5 := i32ne n30_4; have q5 : ¬ (x2).toInt = 6 := i32ne n30_5;  omega) (by decide) ?_
                      refine E_iconst (pc := 171) (v := (0 : Int32)) dX12_isFull_171 (by decide) ?_
                      exact E_zret (pc := 172) dX12_isFull_172 rfl hf
        · refine E_iconst (pc := 27) (v := (1 : Int32)) dX12_isFull_27 (by decide) ?_
          exact E_zret (pc := 28) dX12_isFull_28 rfl hf
theorem dX12_groundClause_0 : decode cX12_groundClause 0 = .ok (.aload_n 0, 1) := by decide +kernel
theorem dX12_groundClause_1 : decode cX12_groundClause 1 = .ok (.invokevirtual 236, 3) := by decide +kernel
theorem dX12_groundClause_4 : decode cX12_groundClause 4 = .ok (.aload_n 0, 1) := by decide +kernel
theorem dX12_groundClause_5 : decode cX12_groundClause 5 = .ok (.getfield 217, 3) := by decide +kernel
theorem dX12_groundClause_8 : decode cX12_groundClause 8 = .ok (.istore_n 2, 1) := by decide +kernel
theorem dX12_groundClause_9 : decode cX12_groundClause 9 = .ok (.iconst 0, 1) := by decide +kernel
theorem dX12_groundClause_10 : decode cX12_groundClause 10 = .ok (.istore_n 3, 1) := by decide +kernel
theorem dX12_groundClause_11 : decode cX12_groundClause 11 = .ok (.iload_n 3, 1) := by decide +kernel
theorem dX12_groundClause_12 : decode cX12_groundClause 12 = .ok (.bipush 7, 2) := by decide +kernel
theorem dX12_groundClause_14 : decode cX12_groundClause 14 = .ok (.if_icmp .ge 20, 3) := by decide +kernel
theorem dX12_groundClause_17 : decode cX12_groundClause 17 = .ok (.aload_n 0, 1) := by decide +kernel
theorem dX12_groundClause_18 : decode cX12_groundClause 18 = .ok (.iload_n 3, 1) := by decide +kernel
theorem dX12_groundClause_19 : decode cX12_groundClause 19 = .ok (.invokestatic 343, 3) := by decide +kernel
theorem dX12_groundClause_22 : decode cX12_groundClause 22 = .ok (.invokevirtual 239, 3) := by decide +kernel
theorem dX12_groundClause_25 : decode cX12_groundClause 25 = .ok (.ifCond .ne 9, 3) := by decide +kernel
theorem dX12_groundClause_28 : decode cX12_groundClause 28 = .ok (.iinc 3 1, 3) := by decide +kernel
theorem dX12_groundClause_31 : decode cX12_groundClause 31 = .ok (.goto (-20), 3) := by decide +kernel
theorem dX12_groundClause_34 : decode cX12_groundClause 34 = .ok (.iload_n 3, 1) := by decide +kernel
theorem dX12_groundClause_35 : decode cX12_groundClause 35 = .ok (.bipush 7, 2) := by decide +kernel
theorem dX12_groundClause_37 : decode cX12_groundClause 37 = .ok (.if_icmp .ne 10, 3) := by decide +kernel
theorem dX12_groundClause_40 : decode cX12_groundClause 40 = .ok (.aload_n 0, 1) := by decide +kernel
theorem dX12_groundClause_41 : decode cX12_groundClause 41 = .ok (.iconst 0, 1) := by decide +kernel
theorem dX12_groundClause_42 : decode cX12_groundClause 42 = .ok (.iload_n 2, 1) := by decide +kernel
theorem dX12_groundClause_43 : decode cX12_groundClause 43 = .ok (.invokevirtual 252, 3) := by decide +kernel
theorem dX12_groundClause_46 : decode cX12_groundClause 46 = .ok (.return_, 1) := by decide +kernel
theorem dX12_groundClause_47 : decode cX12_groundClause 47 = .ok (.aload_n 0, 1) := by decide +kernel
theorem dX12_groundClause_48 : decode cX12_groundClause 48 = .ok (.iload_n 3, 1) := by decide +kernel
theorem dX12_groundClause_49 : decode cX12_groundClause 49 = .ok (.iload_n 1, 1) := by decide +kernel
theorem dX12_groundClause_50 : decode cX12_groundClause 50 = .ok (.invokevirtual 346, 3) := by decide +kernel
theorem dX12_groundClause_53 : decode cX12_groundClause 53 = .ok (.ifCond .eq 10, 3) := by decide +kernel
theorem dX12_groundClause_56 : decode cX12_groundClause 56 = .ok (.aload_n 0, 1) := by decide +kernel
theorem dX12_groundClause_57 : decode cX12_groundClause 57 = .ok (.iconst 4, 1) := by decide +kernel
theorem dX12_groundClause_58 : decode cX12_groundClause 58 = .ok (.iload_n 2, 1) := by decide +kernel
theorem dX12_groundClause_59 : decode cX12_groundClause 59 = .ok (.invokevirtual 252, 3) := by decide +kernel
theorem dX12_groundClause_62 : decode cX12_groundClause 62 = .ok (.return_, 1) := by decide +kernel
theorem dX12_groundClause_63 : decode cX12_groundClause 63 = .ok (.aload_n 0, 1) := by decide +kernel
theorem dX12_groundClause_64 : decode cX12_groundClause 64 = .ok (.dup, 1) := by decide +kernel
theorem dX12_groundClause_65 : decode cX12_groundClause 65 = .ok (.getfield 217, 3) := by decide +kernel
theorem dX12_groundClause_68 : decode cX12_groundClause 68 = .ok (.iload_n 3, 1) := by decide +kernel
theorem dX12_groundClause_69 : decode cX12_groundClause 69 = .ok (.invokestatic 343, 3) := by decide +kernel
theorem dX12_groundClause_72 : decode cX12_groundClause 72 = .ok (.invokevirtual 227, 3) := by decide +kernel
theorem dX12_groundClause_75 : decode cX12_groundClause 75 = .ok (.iadd, 1) := by decide +kernel
theorem dX12_groundClause_76 : decode cX12_groundClause 76 = .ok (.putfield 217, 3) := by decide +kernel
theorem dX12_groundClause_79 : decode cX12_groundClause 79 = .ok (.aload_n 0, 1) := by decide +kernel
theorem dX12_groundClause_80 : decode cX12_groundClause 80 = .ok (.iload_n 3, 1) := by decide +kernel
theorem dX12_groundClause_81 : decode cX12_groundClause 81 = .ok (.invokevirtual 350, 3) := by decide +kernel
theorem dX12_groundClause_84 : decode cX12_groundClause 84 = .ok (.return_, 1) := by decide +kernel
abbrev D_X12_groundClause : Nat := 8
def f_X12_groundClause_L11 (K34 : Mm → Nat → Int32 → Int32 → Int32 → Option Mm) : Nat → Mm → Nat → Int32 → Int32 → Int32 → Option Mm
  | 0, _, _, _, _, _ => none
  | n + 1, μ0, a7, x8, x9, x10 =>
    (if (7 : Int32) ≤ x10 then
    K34 μ0 a7 x8 x9 x10
    else
    (bd (f_X12_groundWord μ0 x10) fun v12 μ11 =>
    ((ob μ11 a7 12).bind fun _ =>
    (bd (f_X12_stood μ11 a7 v12) fun v14 μ13 =>
    (if v14 = 0 then
    (nm (x10 + Int32.ofInt (1)) fun x15 =>
    f_X12_groundClause_L11 K34 n μ13 a7 x8 x9 x15)
    else
    K34 μ13 a7 x8 x9 x10)))))
set_option maxHeartbeats 4000000 in
set_option maxRecDepth 100000 in
theorem f_X12_groundClause_L11_ok {l : Launch} {G : GG} {K34 : Mm → Nat → Int32 → Int32 → Int32 → Option Mm} {μ' : Mm} (n : Nat) (μ0 : Mm) (a7 : Nat) (x8 : Int32) (x9 : Int32) (x10 : Int32) (hf : f_X12_groundClause_L11 K34 n μ0 a7 x8 x9 x10 = some μ') (hK34 : ∀ (μ1 : Mm) (y0 : Nat) (y1 : Int32) (y2 : Int32) (y3 : Int32), K34 μ1 y0 y1 y2 y3 = some μ' → Ev l G D_X12_groundClause yX12_groundClause cX12_groundClause 4 none 34 [(0, .ref y0), (1, .int y1), (2, .int y2), (3, .int y3)] [] μ1 none μ') : Ev l G D_X12_groundClause yX12_groundClause cX12_groundClause 4 none 11 [(0, .ref a7), (1, .int x8), (2, .int x9), (3, .int x10)] [] μ0 none μ' := by
  induction n generalizing μ0 a7 x8 x9 x10 with
  | zero => cases hf
  | succ n ih0 =>
    have ih : ∀ (μ0 : Mm) (a7 : Nat) (x8 : Int32) (x9 : Int32) (x10 : Int32), f_X12_groundClause_L11 K34 n μ0 a7 x8 x9 x10 = some μ' → Ev l G D_X12_groundClause yX12_groundClause cX12_groundClause 4 none 11 [(0, .ref a7), (1, .int x8), (2, .int x9), (3, .int x10)] [] μ0 none μ' := fun μ0 a7 x8 x9 x10 hf => ih0 μ0 a7 x8 x9 x10 hf
    rw [f_X12_groundClause_L11] at hf
    refine E_iload_n (pc := 11) dX12_groundClause_11 rfl ?_
    refine E_bipush (pc := 12) (v := (7 : Int32)) dX12_groundClause_12 (by decide) ?_
    refine E_icmp_ge (pc := 14) (tgt := 34) dX12_groundClause_14 (by decide) hf (fun hf => ?_) (fun hf => ?_)
    · refine Ev.sub [0, 1, 2, 3] rfl ?_
      exact hK34 _ _ _ _ _ hf
    · refine E_aload_n (pc := 17) dX12_groundClause_17 rfl ?_
      refine E_iload_n (pc := 18) dX12_groundClause_18 rfl ?_
      refine E_Sr (pc := 19) (d2 := D_X12_groundWord) [.int x10] dX12_groundClause_19 ml_X12_343 mf_X12_groundWord st_X12_groundWord rfl (by decide) (Nat.le_of_ble_eq_true rfl) (Nat.le_of_ble_eq_true rfl) rfl (fun _ _ h => f_X12_groundWord_ok h) hf (fun v12 μ11 hf => ?_)
      refine E_Vi (pc := 22) (d2 := D_X12_stood) (ci := 12) [.ref v12] dX12_groundClause_22 ml_X12_239 mf_X12_stood im_X12_stood rfl rfl rfl (by decide) (Nat.le_of_ble_eq_true rfl) (Nat.le_of_ble_eq_true rfl) rfl (fun _ _ h => f_X12_stood_ok h) hf (fun v14 μ13 hf => ?_)
      refine E_if_ne (pc := 25) (tgt := 34) dX12_groundClause_25 (by decide) hf (fun hf => ?_) (fun hf => ?_)
      · refine E_iinc (pc := 28) (ls' := fun x15 => [(3, .int x15), (0, .ref a7), (1, .int x8), (2, .int x9)]) dX12_groundClause_28 rfl (by decide) (fun _ => rfl) hf (fun x15 hf => ?_)
        refine E_goto (pc := 31) (tgt := 11) dX12_groundClause_31 (by decide) ?_
        refine Ev.sub [1, 2, 3, 0] rfl ?_
        exact ih _ _ _ _ _ hf
      · refine Ev.sub [0, 1, 2, 3] rfl ?_
        exact hK34 _ _ _ _ _ hf
set_option maxRecDepth 100000 in
def f_X12_groundClause (μ0 : Mm) (a1 : Nat) (x2 : Int32) : Option Mm :=
 ((ob μ0 a1 12).bind fun _ =>
    ((f_X12_blanks μ0 a1).bind fun μ3 =>
    ((gI μ3 a1 12 29).bind fun v4 =>
    (nm v4 fun x5 =>
    (nm (0 : Int32) fun x6 =>
    f_X12_groundClause_L11 (fun μ16 a17 x18 x19 x20 =>
    (if x20 = (7 : Int32) then
    ((ob μ16 a17 12).bind fun _ =>
    ((f_X12_fails μ16 a17 (0 : Int32) x19).bind fun μ21 =>
    (some μ21)))
    else
    ((ob μ16 a17 12).bind fun _ =>
    (bd (f_X12_isFull μ16 a17 x20 x18) fun v23 μ22 =>
    (if v23 = 0 then
    ((gI μ22 a17 12 29).bind fun v24 =>
    (bd (f_X12_groundWord μ22 x20) fun v26 μ25 =>
    ((tL v26).bind fun v27 =>
    ((pV μ25 a17 12 29 (.int (v24 + v27))).bind fun μ28 =>
    ((ob μ28 a17 12).bind fun _ =>
    ((f_X12_groundPart μ28 a17 x20).bind fun μ29 =>
    (some μ29)))))))
    else
    ((ob μ22 a17 12).bind fun _ =>
    ((f_X12_fails μ22 a17 (4 : Int32) x19).bind fun μ30 =>
    (some μ30)))))))) FU μ3 a1 x2 x5 x6)))))
set_option maxHeartbeats 4000000 in
set_option maxRecDepth 100000 in
theorem f_X12_groundClause_ok {l : Launch} {G : GG} {μ0 : Mm} {a1 : Nat} {x2 : Int32} {μ' : Mm} (hf : f_X12_groundClause μ0 a1 x2 = some μ') : EvM l G D_X12_groundClause yX12_groundClause cX12_groundClause 4 none [.ref a1, .int x2] μ0 none μ' := by
  show Ev l G D_X12_groundClause yX12_groundClause cX12_groundClause 4 none 0 [(0, .ref a1), (1, .int x2)] [] μ0 none μ'
  unfold f_X12_groundClause at hf
  refine E_aload_n (pc := 0) dX12_groundClause_0 rfl ?_
  refine E_Vv (pc := 1) (d2 := D_X12_blanks) (ci := 12) [] dX12_groundClause_1 ml_X12_236 mf_X12_blanks im_X12_blanks rfl rfl rfl (by decide) (Nat.le_of_ble_eq_true rfl) (Nat.le_of_ble_eq_true rfl) rfl (fun _ h => f_X12_blanks_ok h) hf (fun μ3 hf => ?_)
  refine E_aload_n (pc := 4) dX12_groundClause_4 rfl ?_
  refine E_getI (pc := 5) dX12_groundClause_5 fl_X12_217 hf (fun v4 hf => ?_)
  refine E_istore_n (pc := 8) (ls' := fun x5 => [(2, .int x5), (0, .ref a1), (1, .int x2)]) dX12_groundClause_8 (by decide) (fun _ => rfl) hf (fun x5 hf => ?_)
  refine E_iconst (pc := 9) (v := (0 : Int32)) dX12_groundClause_9 (by decide) ?_
  refine E_istore_n (pc := 10) (ls' := fun x6 => [(3, .int x6), (2, .int x5), (0, .ref a1), (1, .int x2)]) dX12_groundClause_10 (by decide) (fun _ => rfl) hf (fun x6 hf => ?_)
  refine Ev.sub [2, 3, 1, 0] rfl ?_
  refine f_X12_groundClause_L11_ok  _ _ _ _ _ _ hf (fun μ16 a17 x18 x19 x20 hf => ?_)
  · refine E_iload_n (pc := 34) dX12_groundClause_34 rfl ?_
    refine E_bipush (pc := 35) (v := (7 : Int32)) dX12_groundClause_35 (by decide) ?_
    refine E_icmp_ne (pc := 37) (tgt := 47) dX12_groundClause_37 (by decide) hf (fun hf => ?_) (fun hf => ?_)
    · refine E_aload_n (pc := 40) dX12_groundClause_40 rfl ?_
      refine E_iconst (pc := 41) (v := (0 : Int32)) dX12_groundClause_41 (by decide) ?_
      refine E_iload_n (pc := 42) dX12_groundClause_42 rfl ?_
      refine E_Vv (pc := 43) (d2 := D_X12_fails) (ci := 12) [.int (0 : Int32), .int x19] dX12_groundClause_43 ml_X12_252 mf_X12_fails im_X12_fails rfl rfl rfl (by decide) (Nat.le_of_ble_eq_true rfl) (Nat.le_of_ble_eq_true rfl) rfl (fun _ h => f_X12_fails_ok h) hf (fun μ21 hf => ?_)
      exact E_vret (pc := 46) dX12_groundClause_46 rfl hf
    · refine E_aload_n (pc := 47) dX12_groundClause_47 rfl ?_
      refine E_iload_n (pc := 48) dX12_groundClause_48 rfl ?_
      refine E_iload_n (pc := 49) dX12_groundClause_49 rfl ?_
      refine E_Vi (pc := 50) (d2 := D_X12_isFull) (ci := 12) [.int x20, .int x18] dX12_groundClause_50 ml_X12_346 mf_X12_isFull im_X12_isFull rfl rfl rfl (by decide) (Nat.le_of_ble_eq_true rfl) (Nat.le_of_ble_eq_true rfl) rfl (fun _ _ h => f_X12_isFull_ok h) hf (fun v23 μ22 hf => ?_)
      refine E_if_eq (pc := 53) (tgt := 63) dX12_groundClause_53 (by decide) hf (fun hf => ?_) (fun hf => ?_)
      · refine E_aload_n (pc := 63) dX12_groundClause_63 rfl ?_
        refine E_dup (pc := 64) dX12_groundClause_64 rfl ?_
        refine E_getI (pc := 65) dX12_groundClause_65 fl_X12_217 hf (fun v24 hf => ?_)
        refine E_iload_n (pc := 68) dX12_groundClause_68 rfl ?_
        refine E_Sr (pc := 69) (d2 := D_X12_groundWord) [.int x20] dX12_groundClause_69 ml_X12_343 mf_X12_groundWord st_X12_groundWord rfl (by decide) (Nat.le_of_ble_eq_true rfl) (Nat.le_of_ble_eq_true rfl) rfl (fun _ _ h => f_X12_groundWord_ok h) hf (fun v26 μ25 hf => ?_)
        refine E_slen (pc := 72) dX12_groundClause_72 ml_X12_227 (by decide) (Nat.le_of_ble_eq_true rfl) hf (fun v27 hf => ?_)
        refine E_iadd (pc := 75) dX12_groundClause_75 ?_
        refine E_putI (pc := 76) dX12_groundClause_76 (pl_X12_217 _) hf (fun μ28 hf => ?_)
        refine E_aload_n (pc := 79) dX12_groundClause_79 rfl ?_
        refine E_iload_n (pc := 80) dX12_groundClause_80 rfl ?_
        refine E_Vv (pc := 81) (d2 := D_X12_groundPart) (ci := 12) [.int x20] dX12_groundClause_81 ml_X12_350 mf_X12_groundPart im_X12_groundPart rfl rfl rfl (by decide) (Nat.le_of_ble_eq_true rfl) (Nat.le_of_ble_eq_true rfl) rfl (fun _ h => f_X12_groundPart_ok h) hf (fun μ29 hf => ?_)
        exact E_vret (pc := 84) dX12_groundClause_84 rfl hf
      · refine E_aload_n (pc := 56) dX12_groundClause_56 rfl ?_
        refine E_iconst (pc := 57) (v := (4 : Int32)) dX12_groundClause_57 (by decide) ?_
        refine E_iload_n (pc := 58) dX12_groundClause_58 rfl ?_
        refine E_Vv (pc := 59) (d2 := D_X12_fails) (ci := 12) [.int (4 : Int32), .int x19] dX12_groundClause_59 ml_X12_252 mf_X12_fails im_X12_fails rfl rfl rfl (by decide) (Nat.le_of_ble_eq_true rfl) (Nat.le_of_ble_eq_true rfl) rfl (fun _ h => f_X12_fails_ok h) hf (fun μ30 hf => ?_)
        exact E_vret (pc := 62) dX12_groundClause_62 rfl hf
theorem dX12_copies_0 : decode cX12_copies 0 = .ok (.iconst 0, 1) := by decide +kernel
theorem dX12_copies_1 : decode cX12_copies 1 = .ok (.istore_n 2, 1) := by decide +kernel
theorem dX12_copies_2 : decode cX12_copies 2 = .ok (.iload_n 2, 1) := by decide +kernel
theorem dX12_copies_3 : decode cX12_copies 3 = .ok (.aload_n 0, 1) := by decide +kernel
theorem dX12_copies_4 : decode cX12_copies 4 = .ok (.arraylength, 1) := by decide +kernel
theorem dX12_copies_5 : decode cX12_copies 5 = .ok (.if_icmp .ge 15, 3) := by decide +kernel
theorem dX12_copies_8 : decode cX12_copies 8 = .ok (.aload_n 1, 1) := by decide +kernel
theorem dX12_copies_9 : decode cX12_copies 9 = .ok (.iload_n 2, 1) := by decide +kernel
theorem dX12_copies_10 : decode cX12_copies 10 = .ok (.aload_n 0, 1) := by decide +kernel
theorem dX12_copies_11 : decode cX12_copies 11 = .ok (.iload_n 2, 1) := by decide +kernel
theorem dX12_copies_12 : decode cX12_copies 12 = .ok (.iaload, 1) := by decide +kernel
theorem dX12_copies_13 : decode cX12_copies 13 = .ok (.iastore, 1) := by decide +kernel
theorem dX12_copies_14 : decode cX12_copies 14 = .ok (.iinc 2 1, 3) := by decide +kernel
theorem dX12_copies_17 : decode cX12_copies 17 = .ok (.goto (-15), 3) := by decide +kernel
theorem dX12_copies_20 : decode cX12_copies 20 = .ok (.return_, 1) := by decide +kernel
abbrev D_X12_copies : Nat := 1
def f_X12_copies_L2 (K20 : Mm → Option Mm) : Nat → Mm → Nat → Nat → Int32 → Option Mm
  | 0, _, _, _, _ => none
  | n + 1, μ0, a4, a5, x6 =>
    ((aN μ0 a4 0).bind fun v7 =>
    (if v7 ≤ x6 then
    K20 μ0
    else
    ((aI μ0 a4 0 x6).bind fun v8 =>
    ((sI μ0 a5 0 x6 v8).bind fun μ9 =>
    (nm (x6 + Int32.ofInt (1)) fun x10 =>
    f_X12_copies_L2 K20 n μ9 a4 a5 x10)))))
set_option maxHeartbeats 4000000 in
set_option maxRecDepth 100000 in
theorem f_X12_copies_L2_ok {l : Launch} {G : GG} {K20 : Mm → Option Mm} {μ' : Mm} (n : Nat) (μ0 : Mm) (a4 : Nat) (a5 : Nat) (x6 : Int32) (hf : f_X12_copies_L2 K20 n μ0 a4 a5 x6 = some μ') (hK20 : ∀ (μ1 : Mm), K20 μ1  = some μ' → Ev l G D_X12_copies yX12_copies cX12_copies 3 none 20 [] [] μ1 none μ') : Ev l G D_X12_copies yX12_copies cX12_copies 3 none 2 [(0, .ref a4), (1, .ref a5), (2, .int x6)] [] μ0 none μ' := by
  induction n generalizing μ0 a4 a5 x6 with
  | zero => cases hf
  | succ n ih0 =>
    have ih : ∀ (μ0 : Mm) (a4 : Nat) (a5 : Nat) (x6 : Int32), f_X12_copies_L2 K20 n μ0 a4 a5 x6 = some μ' → Ev l G D_X12_copies yX12_copies cX12_copies 3 none 2 [(0, .ref a4), (1, .ref a5), (2, .int x6)] [] μ0 none μ' := fun μ0 a4 a5 x6 hf => ih0 μ0 a4 a5 x6 hf
    rw [f_X12_copies_L2] at hf
    refine E_iload_n (pc := 2) dX12_copies_2 rfl ?_
    refine E_aload_n (pc := 3) dX12_copies_3 rfl ?_
    refine E_alen (pc := 4) 0 dX12_copies_4 (by decide) hf (fun v7 hf => ?_)
    refine E_icmp_ge (pc := 5) (tgt := 20) dX12_copies_5 (by decide) hf (fun hf => ?_) (fun hf => ?_)
    · refine Ev.sub [] rfl ?_
      exact hK20 _ hf
    · refine E_aload_n (pc := 8) dX12_copies_8 rfl ?_
      refine E_iload_n (pc := 9) dX12_copies_9 rfl ?_
      refine E_aload_n (pc := 10) dX12_copies_10 rfl ?_
      refine E_iload_n (pc := 11) dX12_copies_11 rfl ?_
      refine E_iald (pc := 12) dX12_copies_12 hf (fun v8 hf => ?_)
      refine E_iast (pc := 13) dX12_copies_13 hf (fun μ9 hf => ?_)
      refine E_iinc (pc := 14) (ls' := fun x10 => [(2, .int x10), (0, .ref a4), (1, .ref a5)]) dX12_copies_14 rfl (by decide) (fun _ => rfl) hf (fun x10 hf => ?_)
      refine E_goto (pc := 17) (tgt := 2) dX12_copies_17 (by decide) ?_
      refine Ev.sub [1, 2, 0] rfl ?_
      exact ih _ _ _ _ hf
set_option maxRecDepth 100000 in
def f_X12_copies (μ0 : Mm) (a1 : Nat) (a2 : Nat) : Option Mm :=
 (nm (0 : Int32) fun x3 =>
    f_X12_copies_L2 (fun μ11 =>
    (some μ11)) FU μ0 a1 a2 x3)
set_option maxHeartbeats 4000000 in
set_option maxRecDepth 100000 in
theorem f_X12_copies_ok {l : Launch} {G : GG} {μ0 : Mm} {a1 : Nat} {a2 : Nat} {μ' : Mm} (hf : f_X12_copies μ0 a1 a2 = some μ') : EvM l G D_X12_copies yX12_copies cX12_copies 3 none [.ref a1, .ref a2] μ0 none μ' := by
  show Ev l G D_X12_copies yX12_copies cX12_copies 3 none 0 [(0, .ref a1), (1, .ref a2)] [] μ0 none μ'
  unfold f_X12_copies at hf
  refine E_iconst (pc := 0) (v := (0 : Int32)) dX12_copies_0 (by decide) ?_
  refine E_istore_n (pc := 1) (ls' := fun x3 => [(2, .int x3), (0, .ref a1), (1, .ref a2)]) dX12_copies_1 (by decide) (fun _ => rfl) hf (fun x3 hf => ?_)
  refine Ev.sub [1, 2, 0] rfl ?_
  refine f_X12_copies_L2_ok  _ _ _ _ _ hf (fun μ11 hf => ?_)
  · exact E_vret (pc := 20) dX12_copies_20 rfl hf
theorem dX12_goesOn_0 : decode cX12_goesOn 0 = .ok (.aload_n 0, 1) := by decide +kernel
theorem dX12_goesOn_1 : decode cX12_goesOn 1 = .ok (.invokevirtual 236, 3) := by decide +kernel
theorem dX12_goesOn_4 : decode cX12_goesOn 4 = .ok (.aload_n 0, 1) := by decide +kernel
theorem dX12_goesOn_5 : decode cX12_goesOn 5 = .ok (.getfield 214, 3) := by decide +kernel
theorem dX12_goesOn_8 : decode cX12_goesOn 8 = .ok (.ifCond .ne 32, 3) := by decide +kernel
theorem dX12_goesOn_11 : decode cX12_goesOn 11 = .ok (.aload_n 0, 1) := by decide +kernel
theorem dX12_goesOn_12 : decode cX12_goesOn 12 = .ok (.getfield 217, 3) := by decide +kernel
theorem dX12_goesOn_15 : decode cX12_goesOn 15 = .ok (.aload_n 0, 1) := by decide +kernel
theorem dX12_goesOn_16 : decode cX12_goesOn 16 = .ok (.getfield 187, 3) := by decide +kernel
theorem dX12_goesOn_19 : decode cX12_goesOn 19 = .ok (.if_icmp .ge 21, 3) := by decide +kernel
theorem dX12_goesOn_22 : decode cX12_goesOn 22 = .ok (.aload_n 0, 1) := by decide +kernel
theorem dX12_goesOn_23 : decode cX12_goesOn 23 = .ok (.invokevirtual 220, 3) := by decide +kernel
theorem dX12_goesOn_26 : decode cX12_goesOn 26 = .ok (.bipush 59, 2) := by decide +kernel
theorem dX12_goesOn_28 : decode cX12_goesOn 28 = .ok (.if_icmp .eq 12, 3) := by decide +kernel
theorem dX12_goesOn_31 : decode cX12_goesOn 31 = .ok (.aload_n 0, 1) := by decide +kernel
theorem dX12_goesOn_32 : decode cX12_goesOn 32 = .ok (.iconst 0, 1) := by decide +kernel
theorem dX12_goesOn_33 : decode cX12_goesOn 33 = .ok (.aload_n 0, 1) := by decide +kernel
theorem dX12_goesOn_34 : decode cX12_goesOn 34 = .ok (.getfield 217, 3) := by decide +kernel
theorem dX12_goesOn_37 : decode cX12_goesOn 37 = .ok (.invokevirtual 252, 3) := by decide +kernel
theorem dX12_goesOn_40 : decode cX12_goesOn 40 = .ok (.aload_n 0, 1) := by decide +kernel
theorem dX12_goesOn_41 : decode cX12_goesOn 41 = .ok (.getfield 214, 3) := by decide +kernel
theorem dX12_goesOn_44 : decode cX12_goesOn 44 = .ok (.ifCond .ne 18, 3) := by decide +kernel
theorem dX12_goesOn_47 : decode cX12_goesOn 47 = .ok (.aload_n 0, 1) := by decide +kernel
theorem dX12_goesOn_48 : decode cX12_goesOn 48 = .ok (.getfield 217, 3) := by decide +kernel
theorem dX12_goesOn_51 : decode cX12_goesOn 51 = .ok (.aload_n 0, 1) := by decide +kernel
theorem dX12_goesOn_52 : decode cX12_goesOn 52 = .ok (.getfield 187, 3) := by decide +kernel
theorem dX12_goesOn_55 : decode cX12_goesOn 55 = .ok (.if_icmp .ge 7, 3) := by decide +kernel
theorem dX12_goesOn_58 : decode cX12_goesOn 58 = .ok (.iconst 1, 1) := by decide +kernel
theorem dX12_goesOn_59 : decode cX12_goesOn 59 = .ok (.goto 4, 3) := by decide +kernel
theorem dX12_goesOn_62 : decode cX12_goesOn 62 = .ok (.iconst 0, 1) := by decide +kernel
theorem dX12_goesOn_63 : decode cX12_goesOn 63 = .ok (.istore_n 1, 1) := by decide +kernel
theorem dX12_goesOn_64 : decode cX12_goesOn 64 = .ok (.aload_n 0, 1) := by decide +kernel
theorem dX12_goesOn_65 : decode cX12_goesOn 65 = .ok (.dup, 1) := by decide +kernel
theorem dX12_goesOn_66 : decode cX12_goesOn 66 = .ok (.getfield 217, 3) := by decide +kernel
theorem dX12_goesOn_69 : decode cX12_goesOn 69 = .ok (.iconst 1, 1) := by decide +kernel
theorem dX12_goesOn_70 : decode cX12_goesOn 70 = .ok (.iadd, 1) := by decide +kernel
theorem dX12_goesOn_71 : decode cX12_goesOn 71 = .ok (.putfield 217, 3) := by decide +kernel
theorem dX12_goesOn_74 : decode cX12_goesOn 74 = .ok (.iload_n 1, 1) := by decide +kernel
theorem dX12_goesOn_75 : decode cX12_goesOn 75 = .ok (.ireturn, 1) := by decide +kernel
abbrev D_X12_goesOn : Nat := 3
set_option maxRecDepth 100000 in
def f_X12_goesOn (μ0 : Mm) (a1 : Nat) : Option (Int32 × Mm) :=
 ((ob μ0 a1 12).bind fun _ =>
    ((f_X12_blanks μ0 a1).bind fun μ2 =>
    ((gI μ2 a1 12 30).bind fun v3 =>
    (if v3 = 0 then
    ((gI μ2 a1 12 29).bind fun v4 =>
    ((gI μ2 a1 12 28).bind fun v5 =>
    (if v5 ≤ v4 then
    ((gI μ2 a1 12 30).bind fun v6 =>
    (if v6 = 0 then
    ((gI μ2 a1 12 29).bind fun v7 =>
    ((gI μ2 a1 12 28).bind fun v8 =>
    (if v8 ≤ v7 then
    (nm (0 : Int32) fun x9 =>
    ((gI μ2 a1 12 29).bind fun v10 =>
    ((pV μ2 a1 12 29 (.int (v10 + (1 : Int32)))).bind fun μ11 =>
    (if x9 = 0 ∨ x9 = 1 then some (x9, μ11) else none))))
    else
    (nm (1 : Int32) fun x12 =>
    ((gI μ2 a1 12 29).bind fun v13 =>
    ((pV μ2 a1 12 29 (.int (v13 + (1 : Int32)))).bind fun μ14 =>
    (if x12 = 0 ∨ x12 = 1 then some (x12, μ14) else none)))))))
    else
    (nm (0 : Int32) fun x15 =>
    ((gI μ2 a1 12 29).bind fun v16 =>
    ((pV μ2 a1 12 29 (.int (v16 + (1 : Int32)))).bind fun μ17 =>
    (if x15 = 0 ∨ x15 = 1 then some (x15, μ17) else none))))))
    else
    ((ob μ2 a1 12).bind fun _ =>
    (bd (f_X12_sign μ2 a1) fun v19 μ18 =>
    (if v19 = (59 : Int32) then
    ((gI μ18 a1 12 30).bind fun v20 =>
    (if v20 = 0 then
    ((gI μ18 a1 12 29).bind fun v21 =>
    ((gI μ18 a1 12 28).bind fun v22 =>
    (if v22 ≤ v21 then
    (nm (0 : Int32) fun x23 =>
    ((gI μ18 a1 12 29).bind fun v24 =>
    ((pV μ18 a1 12 29 (.int (v24 + (1 : Int32)))).bind fun μ25 =>
    (if x23 = 0 ∨ x23 = 1 then some (x23, μ25) else none))))
    else
    (nm (1 : Int32) fun x26 =>
    ((gI μ18 a1 12 29).bind fun v27 =>
    ((pV μ18 a1 12 29 (.int (v27 + (1 : Int32)))).bind fun μ28 =>
    (if x26 = 0 ∨ x26 = 1 then some (x26, μ28) else none)))))))
    else
    (nm (0 : Int32) fun x29 =>
    ((gI μ18 a1 12 29).bind fun v30 =>
    ((pV μ18 a1 12 29 (.int (v30 + (1 : Int32)))).bind fun μ31 =>
    (if x29 = 0 ∨ x29 = 1 then some (x29, μ31) else none))))))
    else
    ((gI μ18 a1 12 29).bind fun v32 =>
    ((ob μ18 a1 12).bind fun _ =>
    ((f_X12_fails μ18 a1 (0 : Int32) v32).bind fun μ33 =>
    ((gI μ33 a1 12 30).bind fun v34 =>
    (if v34 = 0 then
    ((gI μ33 a1 12 29).bind fun v35 =>
    ((gI μ33 a1 12 28).bind fun v36 =>
    (if v36 ≤ v35 then
    (nm (0 : Int32) fun x37 =>
    ((gI μ33 a1 12 29).bind fun v38 =>
    ((pV μ33 a1 12 29 (.int (v38 + (1 : Int32)))).bind fun μ39 =>
    (if x37 = 0 ∨ x37 = 1 then some (x37, μ39) else none))))
    else
    (nm (1 : Int32) fun x40 =>
    ((gI μ33 a1 12 29).bind fun v41 =>
    ((pV μ33 a1 12 29 (.int (v41 + (1 : Int32)))).bind fun μ42 =>
    (if x40 = 0 ∨ x40 = 1 then some (x40, μ42) else none)))))))
    else
    (nm (0 : Int32) fun x43 =>
    ((gI μ33 a1 12 29).bind fun v44 =>
    ((pV μ33 a1 12 29 (.int (v44 + (1 : Int32)))).bind fun μ45 =>
    (if x43 = 0 ∨ x43 = 1 then some (x43, μ45) else none)))))))))))))))
    else
    ((gI μ2 a1 12 30).bind fun v46 =>
    (if v46 = 0 then
    ((gI μ2 a1 12 29).bind fun v47 =>
    ((gI μ2 a1 12 28).bind fun v48 =>
    (if v48 ≤ v47 then
    (nm (0 : Int32) fun x49 =>
    ((gI μ2 a1 12 29).bind fun v50 =>
    ((pV μ2 a1 12 29 (.int (v50 + (1 : Int32)))).bind fun μ51 =>
    (if x49 = 0 ∨ x49 = 1 then some (x49, μ51) else none))))
    else
    (nm (1 : Int32) fun x52 =>
    ((gI μ2 a1 12 29).bind fun v53 =>
    ((pV μ2 a1 12 29 (.int (v53 + (1 : Int32)))).bind fun μ54 =>
    (if x52 = 0 ∨ x52 = 1 then some (x52, μ54) else none)))))))
    else
    (nm (0 : Int32) fun x55 =>
    ((gI μ2 a1 12 29).bind fun v56 =>
    ((pV μ2 a1 12 29 (.int (v56 + (1 : Int32)))).bind fun μ57 =>
    (if x55 = 0 ∨ x55 = 1 then some (x55, μ57) else none))))))))))
set_option maxHeartbeats 4000000 in
set_option maxRecDepth 100000 in
theorem f_X12_goesOn_ok {l : Launch} {G : GG} {μ0 : Mm} {a1 : Nat} {r : Int32} {μ' : Mm} (hf : f_X12_goesOn μ0 a1 = some (r, μ')) : EvM l G D_X12_goesOn yX12_goesOn cX12_goesOn 2 (some .boolean) [.ref a1] μ0 (some (.int r)) μ' := by
  show Ev l G D_X12_goesOn yX12_goesOn cX12_goesOn 2 (some .boolean) 0 [(0, .ref a1)] [] μ0 (some (.int r)) μ'
  unfold f_X12_goesOn at hf
  refine E_aload_n (pc := 0) dX12_goesOn_0 rfl ?_
  refine E_Vv (pc := 1) (d2 := D_X12_blanks) (ci := 12) [] dX12_goesOn_1 ml_X12_236 mf_X12_blanks im_X12_blanks rfl rfl rfl (by decide) (Nat.le_of_ble_eq_true rfl) (Nat.le_of_ble_eq_true rfl) rfl (fun _ h => f_X12_blanks_ok h) hf (fun μ2 hf => ?_)
  refine E_aload_n (pc := 4) dX12_goesOn_4 rfl ?_
  refine E_getI (pc := 5) dX12_goesOn_5 fl_X12_214 hf (fun v3 hf => ?_)
  refine E_if_ne (pc := 8) (tgt := 40) dX12_goesOn_8 (by decide) hf (fun hf => ?_) (fun hf => ?_)
  · refine E_aload_n (pc := 11) dX12_goesOn_11 rfl ?_
    refine E_getI (pc := 12) dX12_goesOn_12 fl_X12_217 hf (fun v4 hf => ?_)
    refine E_aload_n (pc := 15) dX12_goesOn_15 rfl ?_
    refine E_getI (pc := 16) dX12_goesOn_16 fl_X12_187 hf (fun v5 hf => ?_)
    refine E_icmp_ge (pc := 19) (tgt := 40) dX12_goesOn_19 (by decide) hf (fun hf => ?_) (fun hf => ?_)
    · refine E_aload_n (pc := 40) dX12_goesOn_40 rfl ?_
      refine E_getI (pc := 41) dX12_goesOn_41 fl_X12_214 hf (fun v6 hf => ?_)
      refine E_if_ne (pc := 44) (tgt := 62) dX12_goesOn_44 (by decide) hf (fun hf => ?_) (fun hf => ?_)
      · refine E_aload_n (pc := 47) dX12_goesOn_47 rfl ?_
        refine E_getI (pc := 48) dX12_goesOn_48 fl_X12_217 hf (fun v7 hf => ?_)
        refine E_aload_n (pc := 51) dX12_goesOn_51 rfl ?_
        refine E_getI (pc := 52) dX12_goesOn_52 fl_X12_187 hf (fun v8 hf => ?_)
        refine E_icmp_ge (pc := 55) (tgt := 62) dX12_goesOn_55 (by decide) hf (fun hf => ?_) (fun hf => ?_)
        · refine E_iconst (pc := 62) (v := (0 : Int32)) dX12_goesOn_62 (by decide) ?_
          refine E_istore_n (pc := 63) (ls' := fun x9 => [(1, .int x9), (0, .ref a1)]) dX12_goesOn_63 (by decide) (fun _ => rfl) hf (fun x9 hf => ?_)
          refine E_aload_n (pc := 64) dX12_goesOn_64 rfl ?_
          refine E_dup (pc := 65) dX12_goesOn_65 rfl ?_
          refine E_getI (pc := 66) dX12_goesOn_66 fl_X12_217 hf (fun v10 hf => ?_)
          refine E_iconst (pc := 69) (v := (1 : Int32)) dX12_goesOn_69 (by decide) ?_
          refine E_iadd (pc := 70) dX12_goesOn_70 ?_
          refine E_putI (pc := 71) dX12_goesOn_71 (pl_X12_217 _) hf (fun μ11 hf => ?_)
          refine E_iload_n (pc := 74) dX12_goesOn_74 rfl ?_
          exact E_zret (pc := 75) dX12_goesOn_75 rfl hf
        · refine E_iconst (pc := 58) (v := (1 : Int32)) dX12_goesOn_58 (by decide) ?_
          refine E_goto (pc := 59) (tgt := 63) dX12_goesOn_59 (by decide) ?_
          refine E_istore_n (pc := 63) (ls' := fun x12 => [(1, .int x12), (0, .ref a1)]) dX12_goesOn_63 (by decide) (fun _ => rfl) hf (fun x12 hf => ?_)
          refine E_aload_n (pc := 64) dX12_goesOn_64 rfl ?_
          refine E_dup (pc := 65) dX12_goesOn_65 rfl ?_
          refine E_getI (pc := 66) dX12_goesOn_66 fl_X12_217 hf (fun v13 hf => ?_)
          refine E_iconst (pc := 69) (v := (1 : Int32)) dX12_goesOn_69 (by decide) ?_
          refine E_iadd (pc := 70) dX12_goesOn_70 ?_
          refine E_putI (pc := 71) dX12_goesOn_71 (pl_X12_217 _) hf (fun μ14 hf => ?_)
          refine E_iload_n (pc := 74) dX12_goesOn_74 rfl ?_
          exact E_zret (pc := 75) dX12_goesOn_75 rfl hf
      · refine E_iconst (pc := 62) (v := (0 : Int32)) dX12_goesOn_62 (by decide) ?_
        refine E_istore_n (pc := 63) (ls' := fun x15 => [(1, .int x15), (0, .ref a1)]) dX12_goesOn_63 (by decide) (fun _ => rfl) hf (fun x15 hf => ?_)
        refine E_aload_n (pc := 64) dX12_goesOn_64 rfl ?_
        refine E_dup (pc := 65) dX12_goesOn_65 rfl ?_
        refine E_getI (pc := 66) dX12_goesOn_66 fl_X12_217 hf (fun v16 hf => ?_)
        refine E_iconst (pc := 69) (v := (1 : Int32)) dX12_goesOn_69 (by decide) ?_
        refine E_iadd (pc := 70) dX12_goesOn_70 ?_
        refine E_putI (pc := 71) dX12_goesOn_71 (pl_X12_217 _) hf (fun μ17 hf => ?_)
        refine E_iload_n (pc := 74) dX12_goesOn_74 rfl ?_
        exact E_zret (pc := 75) dX12_goesOn_75 rfl hf
    · refine E_aload_n (pc := 22) dX12_goesOn_22 rfl ?_
      refine E_Vi (pc := 23) (d2 := D_X12_sign) (ci := 12) [] dX12_goesOn_23 ml_X12_220 mf_X12_sign im_X12_sign rfl rfl rfl (by decide) (Nat.le_of_ble_eq_true rfl) (Nat.le_of_ble_eq_true rfl) rfl (fun _ _ h => f_X12_sign_ok h) hf (fun v19 μ18 hf => ?_)
      refine E_bipush (pc := 26) (v := (59 : Int32)) dX12_goesOn_26 (by decide) ?_
      refine E_icmp_eq (pc := 28) (tgt := 40) dX12_goesOn_28 (by decide) hf (fun hf => ?_) (fun hf => ?_)
      · refine E_aload_n (pc := 40) dX12_goesOn_40 rfl ?_
        refine E_getI (pc := 41) dX12_goesOn_41 fl_X12_214 hf (fun v20 hf => ?_)
        refine E_if_ne (pc := 44) (tgt := 62) dX12_goesOn_44 (by decide) hf (fun hf => ?_) (fun hf => ?_)
        · refine E_aload_n (pc := 47) dX12_goesOn_47 rfl ?_
          refine E_getI (pc := 48) dX12_goesOn_48 fl_X12_217 hf (fun v21 hf => ?_)
          refine E_aload_n (pc := 51) dX12_goesOn_51 rfl ?_
          refine E_getI (pc := 52) dX12_goesOn_52 fl_X12_187 hf (fun v22 hf => ?_)
          refine E_icmp_ge (pc := 55) (tgt := 62) dX12_goesOn_55 (by decide) hf (fun hf => ?_) (fun hf => ?_)
          · refine E_iconst (pc := 62) (v := (0 : Int32)) dX12_goesOn_62 (by decide) ?_
            refine E_istore_n (pc := 63) (ls' := fun x23 => [(1, .int x23), (0, .ref a1)]) dX12_goesOn_63 (by decide) (fun _ => rfl) hf (fun x23 hf => ?_)
            refine E_aload_n (pc := 64) dX12_goesOn_64 rfl ?_
            refine E_dup (pc := 65) dX12_goesOn_65 rfl ?_
            refine E_getI (pc := 66) dX12_goesOn_66 fl_X12_217 hf (fun v24 hf => ?_)
            refine E_iconst (pc := 69) (v := (1 : Int32)) dX12_goesOn_69 (by decide) ?_
            refine E_iadd (pc := 70) dX12_goesOn_70 ?_
            refine E_putI (pc := 71) dX12_goesOn_71 (pl_X12_217 _) hf (fun μ25 hf => ?_)
            refine E_iload_n (pc := 74) dX12_goesOn_74 rfl ?_
            exact E_zret (pc := 75) dX12_goesOn_75 rfl hf
          · refine E_iconst (pc := 58) (v := (1 : Int32)) dX12_goesOn_58 (by decide) ?_
            refine E_goto (pc := 59) (tgt := 63) dX12_goesOn_59 (by decide) ?_
            refine E_istore_n (pc := 63) (ls' := fun x26 => [(1, .int x26), (0, .ref a1)]) dX12_goesOn_63 (by decide) (fun _ => rfl) hf (fun x26 hf => ?_)
            refine E_aload_n (pc := 64) dX12_goesOn_64 rfl ?_
            refine E_dup (pc := 65) dX12_goesOn_65 rfl ?_
            refine E_getI (pc := 66) dX12_goesOn_66 fl_X12_217 hf (fun v27 hf => ?_)
            refine E_iconst (pc := 69) (v := (1 : Int32)) dX12_goesOn_69 (by decide) ?_
            refine E_iadd (pc := 70) dX12_goesOn_70 ?_
            refine E_putI (pc := 71) dX12_goesOn_71 (pl_X12_217 _) hf (fun μ28 hf => ?_)
            refine E_iload_n (pc := 74) dX12_goesOn_74 rfl ?_
            exact E_zret (pc := 75) dX12_goesOn_75 rfl hf
        · refine E_iconst (pc := 62) (v := (0 : Int32)) dX12_goesOn_62 (by decide) ?_
          refine E_istore_n (pc := 63) (ls' := fun x29 => [(1, .int x29), (0, .ref a1)]) dX12_goesOn_63 (by decide) (fun _ => rfl) hf (fun x29 hf => ?_)
          refine E_aload_n (pc := 64) dX12_goesOn_64 rfl ?_
          refine E_dup (pc := 65) dX12_goesOn_65 rfl ?_
          refine E_getI (pc := 66) dX12_goesOn_66 fl_X12_217 hf (fun v30 hf => ?_)
          refine E_iconst (pc := 69) (v := (1 : Int32)) dX12_goesOn_69 (by decide) ?_
          refine E_iadd (pc := 70) dX12_goesOn_70 ?_
          refine E_putI (pc := 71) dX12_goesOn_71 (pl_X12_217 _) hf (fun μ31 hf => ?_)
          refine E_iload_n (pc := 74) dX12_goesOn_74 rfl ?_
          exact E_zret (pc := 75) dX12_goesOn_75 rfl hf
      · refine E_aload_n (pc := 31) dX12_goesOn_31 rfl ?_
        refine E_iconst (pc := 32) (v := (0 : Int32)) dX12_goesOn_32 (by decide) ?_
        refine E_aload_n (pc := 33) dX12_goesOn_33 rfl ?_
        refine E_getI (pc := 34) dX12_goesOn_34 fl_X12_217 hf (fun v32 hf => ?_)
        refine E_Vv (pc := 37) (d2 := D_X12_fails) (ci := 12) [.int (0 : Int32), .int v32] dX12_goesOn_37 ml_X12_252 mf_X12_fails im_X12_fails rfl rfl rfl (by decide) (Nat.le_of_ble_eq_true rfl) (Nat.le_of_ble_eq_true rfl) rfl (fun _ h => f_X12_fails_ok h) hf (fun μ33 hf => ?_)
        refine E_aload_n (pc := 40) dX12_goesOn_40 rfl ?_
        refine E_getI (pc := 41) dX12_goesOn_41 fl_X12_214 hf (fun v34 hf => ?_)
        refine E_if_ne (pc := 44) (tgt := 62) dX12_goesOn_44 (by decide) hf (fun hf => ?_) (fun hf => ?_)
        · refine E_aload_n (pc := 47) dX12_goesOn_47 rfl ?_
          refine E_getI (pc := 48) dX12_goesOn_48 fl_X12_217 hf (fun v35 hf => ?_)
          refine E_aload_n (pc := 51) dX12_goesOn_51 rfl ?_
          refine E_getI (pc := 52) dX12_goesOn_52 fl_X12_187 hf (fun v36 hf => ?_)
          refine E_icmp_ge (pc := 55) (tgt := 62) dX12_goesOn_55 (by decide) hf (fun hf => ?_) (fun hf => ?_)
          · refine E_iconst (pc := 62) (v := (0 : Int32)) dX12_goesOn_62 (by decide) ?_
            refine E_istore_n (pc := 63) (ls' := fun x37 => [(1, .int x37), (0, .ref a1)]) dX12_goesOn_63 (by decide) (fun _ => rfl) hf (fun x37 hf => ?_)
            refine E_aload_n (pc := 64) dX12_goesOn_64 rfl ?_
            refine E_dup (pc := 65) dX12_goesOn_65 rfl ?_
            refine E_getI (pc := 66) dX12_goesOn_66 fl_X12_217 hf (fun v38 hf => ?_)
            refine E_iconst (pc := 69) (v := (1 : Int32)) dX12_goesOn_69 (by decide) ?_
            refine E_iadd (pc := 70) dX12_goesOn_70 ?_
            refine E_putI (pc := 71) dX12_goesOn_71 (pl_X12_217 _) hf (fun μ39 hf => ?_)
            refine E_iload_n (pc := 74) dX12_goesOn_74 rfl ?_
            exact E_zret (pc := 75) dX12_goesOn_75 rfl hf
          · refine E_iconst (pc := 58) (v := (1 : Int32)) dX12_goesOn_58 (by decide) ?_
            refine E_goto (pc := 59) (tgt := 63) dX12_goesOn_59 (by decide) ?_
            refine E_istore_n (pc := 63) (ls' := fun x40 => [(1, .int x40), (0, .ref a1)]) dX12_goesOn_63 (by decide) (fun _ => rfl) hf (fun x40 hf => ?_)
            refine E_aload_n (pc := 64) dX12_goesOn_64 rfl ?_
            refine E_dup (pc := 65) dX12_goesOn_65 rfl ?_
            refine E_getI (pc := 66) dX12_goesOn_66 fl_X12_217 hf (fun v41 hf => ?_)
            refine E_iconst (pc := 69) (v := (1 : Int32)) dX12_goesOn_69 (by decide) ?_
            refine E_iadd (pc := 70) dX12_goesOn_70 ?_
            refine E_putI (pc := 71) dX12_goesOn_71 (pl_X12_217 _) hf (fun μ42 hf => ?_)
            refine E_iload_n (pc := 74) dX12_goesOn_74 rfl ?_
            exact E_zret (pc := 75) dX12_goesOn_75 rfl hf
        · refine E_iconst (pc := 62) (v := (0 : Int32)) dX12_goesOn_62 (by decide) ?_
          refine E_istore_n (pc := 63) (ls' := fun x43 => [(1, .int x43), (0, .ref a1)]) dX12_goesOn_63 (by decide) (fun _ => rfl) hf (fun x43 hf => ?_)
          refine E_aload_n (pc := 64) dX12_goesOn_64 rfl ?_
          refine E_dup (pc := 65) dX12_goesOn_65 rfl ?_
          refine E_getI (pc := 66) dX12_goesOn_66 fl_X12_217 hf (fun v44 hf => ?_)
          refine E_iconst (pc := 69) (v := (1 : Int32)) dX12_goesOn_69 (by decide) ?_
          refine E_iadd (pc := 70) dX12_goesOn_70 ?_
          refine E_putI (pc := 71) dX12_goesOn_71 (pl_X12_217 _) hf (fun μ45 hf => ?_)
          refine E_iload_n (pc := 74) dX12_goesOn_74 rfl ?_
          exact E_zret (pc := 75) dX12_goesOn_75 rfl hf
  · refine E_aload_n (pc := 40) dX12_goesOn_40 rfl ?_
    refine E_getI (pc := 41) dX12_goesOn_41 fl_X12_214 hf (fun v46 hf => ?_)
    refine E_if_ne (pc := 44) (tgt := 62) dX12_goesOn_44 (by decide) hf (fun hf => ?_) (fun hf => ?_)
    · refine E_aload_n (pc := 47) dX12_goesOn_47 rfl ?_
      refine E_getI (pc := 48) dX12_goesOn_48 fl_X12_217 hf (fun v47 hf => ?_)
      refine E_aload_n (pc := 51) dX12_goesOn_51 rfl ?_
      refine E_getI (pc := 52) dX12_goesOn_52 fl_X12_187 hf (fun v48 hf => ?_)
      refine E_icmp_ge (pc := 55) (tgt := 62) dX12_goesOn_55 (by decide) hf (fun hf => ?_) (fun hf => ?_)
      · refine E_iconst (pc := 62) (v := (0 : Int32)) dX12_goesOn_62 (by decide) ?_
        refine E_istore_n (pc := 63) (ls' := fun x49 => [(1, .int x49), (0, .ref a1)]) dX12_goesOn_63 (by decide) (fun _ => rfl) hf (fun x49 hf => ?_)
        refine E_aload_n (pc := 64) dX12_goesOn_64 rfl ?_
        refine E_dup (pc := 65) dX12_goesOn_65 rfl ?_
        refine E_getI (pc := 66) dX12_goesOn_66 fl_X12_217 hf (fun v50 hf => ?_)
        refine E_iconst (pc := 69) (v := (1 : Int32)) dX12_goesOn_69 (by decide) ?_
        refine E_iadd (pc := 70) dX12_goesOn_70 ?_
        refine E_putI (pc := 71) dX12_goesOn_71 (pl_X12_217 _) hf (fun μ51 hf => ?_)
        refine E_iload_n (pc := 74) dX12_goesOn_74 rfl ?_
        exact E_zret (pc := 75) dX12_goesOn_75 rfl hf
      · refine E_iconst (pc := 58) (v := (1 : Int32)) dX12_goesOn_58 (by decide) ?_
        refine E_goto (pc := 59) (tgt := 63) dX12_goesOn_59 (by decide) ?_
        refine E_istore_n (pc := 63) (ls' := fun x52 => [(1, .int x52), (0, .ref a1)]) dX12_goesOn_63 (by decide) (fun _ => rfl) hf (fun x52 hf => ?_)
        refine E_aload_n (pc := 64) dX12_goesOn_64 rfl ?_
        refine E_dup (pc := 65) dX12_goesOn_65 rfl ?_
        refine E_getI (pc := 66) dX12_goesOn_66 fl_X12_217 hf (fun v53 hf => ?_)
        refine E_iconst (pc := 69) (v := (1 : Int32)) dX12_goesOn_69 (by decide) ?_
        refine E_iadd (pc := 70) dX12_goesOn_70 ?_
        refine E_putI (pc := 71) dX12_goesOn_71 (pl_X12_217 _) hf (fun μ54 hf => ?_)
        refine E_iload_n (pc := 74) dX12_goesOn_74 rfl ?_
        exact E_zret (pc := 75) dX12_goesOn_75 rfl hf
    · refine E_iconst (pc := 62) (v := (0 : Int32)) dX12_goesOn_62 (by decide) ?_
      refine E_istore_n (pc := 63) (ls' := fun x55 => [(1, .int x55), (0, .ref a1)]) dX12_goesOn_63 (by decide) (fun _ => rfl) hf (fun x55 hf => ?_)
      refine E_aload_n (pc := 64) dX12_goesOn_64 rfl ?_
      refine E_dup (pc := 65) dX12_goesOn_65 rfl ?_
      refine E_getI (pc := 66) dX12_goesOn_66 fl_X12_217 hf (fun v56 hf => ?_)
      refine E_iconst (pc := 69) (v := (1 : Int32)) dX12_goesOn_69 (by decide) ?_
      refine E_iadd (pc := 70) dX12_goesOn_70 ?_
      refine E_putI (pc := 71) dX12_goesOn_71 (pl_X12_217 _) hf (fun μ57 hf => ?_)
      refine E_iload_n (pc := 74) dX12_goesOn_74 rfl ?_
      exact E_zret (pc := 75) dX12_goesOn_75 rfl hf
theorem dX12_starts_0 : decode cX12_starts 0 = .ok (.aload_n 0, 1) := by decide +kernel
theorem dX12_starts_1 : decode cX12_starts 1 = .ok (.iconst 0, 1) := by decide +kernel
theorem dX12_starts_2 : decode cX12_starts 2 = .ok (.putfield 217, 3) := by decide +kernel
theorem dX12_starts_5 : decode cX12_starts 5 = .ok (.aload_n 0, 1) := by decide +kernel
theorem dX12_starts_6 : decode cX12_starts 6 = .ok (.iconst 0, 1) := by decide +kernel
theorem dX12_starts_7 : decode cX12_starts 7 = .ok (.putfield 214, 3) := by decide +kernel
theorem dX12_starts_10 : decode cX12_starts 10 = .ok (.aload_n 0, 1) := by decide +kernel
theorem dX12_starts_11 : decode cX12_starts 11 = .ok (.iconst 0, 1) := by decide +kernel
theorem dX12_starts_12 : decode cX12_starts 12 = .ok (.putfield 246, 3) := by decide +kernel
theorem dX12_starts_15 : decode cX12_starts 15 = .ok (.aload_n 0, 1) := by decide +kernel
theorem dX12_starts_16 : decode cX12_starts 16 = .ok (.iconst 0, 1) := by decide +kernel
theorem dX12_starts_17 : decode cX12_starts 17 = .ok (.putfield 287, 3) := by decide +kernel
theorem dX12_starts_20 : decode cX12_starts 20 = .ok (.aload_n 0, 1) := by decide +kernel
theorem dX12_starts_21 : decode cX12_starts 21 = .ok (.iconst 0, 1) := by decide +kernel
theorem dX12_starts_22 : decode cX12_starts 22 = .ok (.putfield 249, 3) := by decide +kernel
theorem dX12_starts_25 : decode cX12_starts 25 = .ok (.return_, 1) := by decide +kernel
abbrev D_X12_starts : Nat := 1
set_option maxRecDepth 100000 in
def f_X12_starts (μ0 : Mm) (a1 : Nat) : Option Mm :=
 ((pV μ0 a1 12 29 (.int (0 : Int32))).bind fun μ2 =>
    ((pV μ2 a1 12 30 (.int (0 : Int32))).bind fun μ3 =>
    ((pV μ3 a1 12 33 (.int (0 : Int32))).bind fun μ4 =>
    ((pV μ4 a1 12 34 (.int (0 : Int32))).bind fun μ5 =>
    ((pV μ5 a1 12 35 (.int (0 : Int32))).bind fun μ6 =>
    (some μ6))))))
set_option maxHeartbeats 4000000 in
set_option maxRecDepth 100000 in
theorem f_X12_starts_ok {l : Launch} {G : GG} {μ0 : Mm} {a1 : Nat} {μ' : Mm} (hf : f_X12_starts μ0 a1 = some μ') : EvM l G D_X12_starts yX12_starts cX12_starts 1 none [.ref a1] μ0 none μ' := by
  show Ev l G D_X12_starts yX12_starts cX12_starts 1 none 0 [(0, .ref a1)] [] μ0 none μ'
  unfold f_X12_starts at hf
  refine E_aload_n (pc := 0) dX12_starts_0 rfl ?_
  refine E_iconst (pc := 1) (v := (0 : Int32)) dX12_starts_1 (by decide) ?_
  refine E_putI (pc := 2) dX12_starts_2 (pl_X12_217 _) hf (fun μ2 hf => ?_)
  refine E_aload_n (pc := 5) dX12_starts_5 rfl ?_
  refine E_iconst (pc := 6) (v := (0 : Int32)) dX12_starts_6 (by decide) ?_
  refine E_putI (pc := 7) dX12_starts_7 (pl_X12_214 _) hf (fun μ3 hf => ?_)
  refine E_aload_n (pc := 10) dX12_starts_10 rfl ?_
  refine E_iconst (pc := 11) (v := (0 : Int32)) dX12_starts_11 (by decide) ?_
  refine E_putI (pc := 12) dX12_starts_12 (pl_X12_246 _) hf (fun μ4 hf => ?_)
  refine E_aload_n (pc := 15) dX12_starts_15 rfl ?_
  refine E_iconst (pc := 16) (v := (0 : Int32)) dX12_starts_16 (by decide) ?_
  refine E_putI (pc := 17) dX12_starts_17 (pl_X12_287 _) hf (fun μ5 hf => ?_)
  refine E_aload_n (pc := 20) dX12_starts_20 rfl ?_
  refine E_iconst (pc := 21) (v := (0 : Int32)) dX12_starts_21 (by decide) ?_
  refine E_putI (pc := 22) dX12_starts_22 (pl_X12_249 _) hf (fun μ6 hf => ?_)
  exact E_vret (pc := 25) dX12_starts_25 rfl hf
theorem dX12_readsAll_0 : decode cX12_readsAll 0 = .ok (.aload_n 0, 1) := by decide +kernel
theorem dX12_readsAll_1 : decode cX12_readsAll 1 = .ok (.invokevirtual 353, 3) := by decide +kernel
theorem dX12_readsAll_4 : decode cX12_readsAll 4 = .ok (.iconst 0, 1) := by decide +kernel
theorem dX12_readsAll_5 : decode cX12_readsAll 5 = .ok (.istore_n 1, 1) := by decide +kernel
theorem dX12_readsAll_6 : decode cX12_readsAll 6 = .ok (.iload_n 1, 1) := by decide +kernel
theorem dX12_readsAll_7 : decode cX12_readsAll 7 = .ok (.bipush 7, 2) := by decide +kernel
theorem dX12_readsAll_9 : decode cX12_readsAll 9 = .ok (.if_icmp .ge 16, 3) := by decide +kernel
theorem dX12_readsAll_12 : decode cX12_readsAll 12 = .ok (.aload_n 0, 1) := by decide +kernel
theorem dX12_readsAll_13 : decode cX12_readsAll 13 = .ok (.getfield 52, 3) := by decide +kernel
theorem dX12_readsAll_16 : decode cX12_readsAll 16 = .ok (.iload_n 1, 1) := by decide +kernel
theorem dX12_readsAll_17 : decode cX12_readsAll 17 = .ok (.iconst 0, 1) := by decide +kernel
theorem dX12_readsAll_18 : decode cX12_readsAll 18 = .ok (.iastore, 1) := by decide +kernel
theorem dX12_readsAll_19 : decode cX12_readsAll 19 = .ok (.iinc 1 1, 3) := by decide +kernel
theorem dX12_readsAll_22 : decode cX12_readsAll 22 = .ok (.goto (-16), 3) := by decide +kernel
theorem dX12_readsAll_25 : decode cX12_readsAll 25 = .ok (.iconst 0, 1) := by decide +kernel
theorem dX12_readsAll_26 : decode cX12_readsAll 26 = .ok (.istore_n 1, 1) := by decide +kernel
theorem dX12_readsAll_27 : decode cX12_readsAll 27 = .ok (.iload_n 1, 1) := by decide +kernel
theorem dX12_readsAll_28 : decode cX12_readsAll 28 = .ok (.bipush 48, 2) := by decide +kernel
theorem dX12_readsAll_30 : decode cX12_readsAll 30 = .ok (.if_icmp .ge 16, 3) := by decide +kernel
theorem dX12_readsAll_33 : decode cX12_readsAll 33 = .ok (.aload_n 0, 1) := by decide +kernel
theorem dX12_readsAll_34 : decode cX12_readsAll 34 = .ok (.getfield 55, 3) := by decide +kernel
theorem dX12_readsAll_37 : decode cX12_readsAll 37 = .ok (.iload_n 1, 1) := by decide +kernel
theorem dX12_readsAll_38 : decode cX12_readsAll 38 = .ok (.iconst 0, 1) := by decide +kernel
theorem dX12_readsAll_39 : decode cX12_readsAll 39 = .ok (.iastore, 1) := by decide +kernel
theorem dX12_readsAll_40 : decode cX12_readsAll 40 = .ok (.iinc 1 1, 3) := by decide +kernel
theorem dX12_readsAll_43 : decode cX12_readsAll 43 = .ok (.goto (-16), 3) := by decide +kernel
theorem dX12_readsAll_46 : decode cX12_readsAll 46 = .ok (.aload_n 0, 1) := by decide +kernel
theorem dX12_readsAll_47 : decode cX12_readsAll 47 = .ok (.iconst 0, 1) := by decide +kernel
theorem dX12_readsAll_48 : decode cX12_readsAll 48 = .ok (.putfield 321, 3) := by decide +kernel
theorem dX12_readsAll_51 : decode cX12_readsAll 51 = .ok (.iconst 0, 1) := by decide +kernel
theorem dX12_readsAll_52 : decode cX12_readsAll 52 = .ok (.istore_n 1, 1) := by decide +kernel
theorem dX12_readsAll_53 : decode cX12_readsAll 53 = .ok (.iconst 1, 1) := by decide +kernel
theorem dX12_readsAll_54 : decode cX12_readsAll 54 = .ok (.istore_n 2, 1) := by decide +kernel
theorem dX12_readsAll_55 : decode cX12_readsAll 55 = .ok (.iload_n 2, 1) := by decide +kernel
theorem dX12_readsAll_56 : decode cX12_readsAll 56 = .ok (.ifCond .eq 19, 3) := by decide +kernel
theorem dX12_readsAll_59 : decode cX12_readsAll 59 = .ok (.aload_n 0, 1) := by decide +kernel
theorem dX12_readsAll_60 : decode cX12_readsAll 60 = .ok (.iload_n 1, 1) := by decide +kernel
theorem dX12_readsAll_61 : decode cX12_readsAll 61 = .ok (.invokevirtual 356, 3) := by decide +kernel
theorem dX12_readsAll_64 : decode cX12_readsAll 64 = .ok (.iinc 1 1, 3) := by decide +kernel
theorem dX12_readsAll_67 : decode cX12_readsAll 67 = .ok (.aload_n 0, 1) := by decide +kernel
theorem dX12_readsAll_68 : decode cX12_readsAll 68 = .ok (.invokevirtual 359, 3) := by decide +kernel
theorem dX12_readsAll_71 : decode cX12_readsAll 71 = .ok (.istore_n 2, 1) := by decide +kernel
theorem dX12_readsAll_72 : decode cX12_readsAll 72 = .ok (.goto (-17), 3) := by decide +kernel
theorem dX12_readsAll_75 : decode cX12_readsAll 75 = .ok (.aload_n 0, 1) := by decide +kernel
theorem dX12_readsAll_76 : decode cX12_readsAll 76 = .ok (.iconst 0, 1) := by decide +kernel
theorem dX12_readsAll_77 : decode cX12_readsAll 77 = .ok (.putfield 187, 3) := by decide +kernel
theorem dX12_readsAll_80 : decode cX12_readsAll 80 = .ok (.return_, 1) := by decide +kernel
abbrev D_X12_readsAll : Nat := 9
def f_X12_readsAll_L6 (K25 : Mm → Nat → Option Mm) : Nat → Mm → Nat → Int32 → Option Mm
  | 0, _, _, _ => none
  | n + 1, μ0, a4, x5 =>
    (if (7 : Int32) ≤ x5 then
    K25 μ0 a4
    else
    ((gR μ0 a4 12 15).bind fun v6 =>
    ((sI μ0 v6 0 x5 (0 : Int32)).bind fun μ7 =>
    (nm (x5 + Int32.ofInt (1)) fun x8 =>
    f_X12_readsAll_L6 K25 n μ7 a4 x8))))
set_option maxHeartbeats 4000000 in
set_option maxRecDepth 100000 in
theorem f_X12_readsAll_L6_ok {l : Launch} {G : GG} {K25 : Mm → Nat → Option Mm} {μ' : Mm} (n : Nat) (μ0 : Mm) (a4 : Nat) (x5 : Int32) (hf : f_X12_readsAll_L6 K25 n μ0 a4 x5 = some μ') (hK25 : ∀ (μ1 : Mm) (y0 : Nat), K25 μ1 y0 = some μ' → Ev l G D_X12_readsAll yX12_readsAll cX12_readsAll 3 none 25 [(0, .ref y0)] [] μ1 none μ') : Ev l G D_X12_readsAll yX12_readsAll cX12_readsAll 3 none 6 [(0, .ref a4), (1, .int x5)] [] μ0 none μ' := by
  induction n generalizing μ0 a4 x5 with
  | zero => cases hf
  | succ n ih0 =>
    have ih : ∀ (μ0 : Mm) (a4 : Nat) (x5 : Int32), f_X12_readsAll_L6 K25 n μ0 a4 x5 = some μ' → Ev l G D_X12_readsAll yX12_readsAll cX12_readsAll 3 none 6 [(0, .ref a4), (1, .int x5)] [] μ0 none μ' := fun μ0 a4 x5 hf => ih0 μ0 a4 x5 hf
    rw [f_X12_readsAll_L6] at hf
    refine E_iload_n (pc := 6) dX12_readsAll_6 rfl ?_
    refine E_bipush (pc := 7) (v := (7 : Int32)) dX12_readsAll_7 (by decide) ?_
    refine E_icmp_ge (pc := 9) (tgt := 25) dX12_readsAll_9 (by decide) hf (fun hf => ?_) (fun hf => ?_)
    · refine Ev.sub [0] rfl ?_
      exact hK25 _ _ hf
    · refine E_aload_n (pc := 12) dX12_readsAll_12 rfl ?_
      refine E_getR (pc := 13) dX12_readsAll_13 fl_X12_52 hf (fun v6 hf => ?_)
      refine E_iload_n (pc := 16) dX12_readsAll_16 rfl ?_
      refine E_iconst (pc := 17) (v := (0 : Int32)) dX12_readsAll_17 (by decide) ?_
      refine E_iast (pc := 18) dX12_readsAll_18 hf (fun μ7 hf => ?_)
      refine E_iinc (pc := 19) (ls' := fun x8 => [(1, .int x8), (0, .ref a4)]) dX12_readsAll_19 rfl (by decide) (fun _ => rfl) hf (fun x8 hf => ?_)
      refine E_goto (pc := 22) (tgt := 6) dX12_readsAll_22 (by decide) ?_
      refine Ev.sub [1, 0] rfl ?_
      exact ih _ _ _ hf
def f_X12_readsAll_L27 (K46 : Mm → Nat → Option Mm) : Nat → Mm → Nat → Int32 → Option Mm
  | 0, _, _, _ => none
  | n + 1, μ0, a12, x13 =>
    (if (48 : Int32) ≤ x13 then
    K46 μ0 a12
    else
    ((gR μ0 a12 12 16).bind fun v14 =>
    ((sI μ0 v14 0 x13 (0 : Int32)).bind fun μ15 =>
    (nm (x13 + Int32.ofInt (1)) fun x16 =>
    f_X12_readsAll_L27 K46 n μ15 a12 x16))))
set_option maxHeartbeats 4000000 in
set_option maxRecDepth 100000 in
theorem f_X12_readsAll_L27_ok {l : Launch} {G : GG} {K46 : Mm → Nat → Option Mm} {μ' : Mm} (n : Nat) (μ0 : Mm) (a12 : Nat) (x13 : Int32) (hf : f_X12_readsAll_L27 K46 n μ0 a12 x13 = some μ') (hK46 : ∀ (μ1 : Mm) (y0 : Nat), K46 μ1 y0 = some μ' → Ev l G D_X12_readsAll yX12_readsAll cX12_readsAll 3 none 46 [(0, .ref y0)] [] μ1 none μ') : Ev l G D_X12_readsAll yX12_readsAll cX12_readsAll 3 none 27 [(0, .ref a12), (1, .int x13)] [] μ0 none μ' := by
  induction n generalizing μ0 a12 x13 with
  | zero => cases hf
  | succ n ih0 =>
    have ih : ∀ (μ0 : Mm) (a12 : Nat) (x13 : Int32), f_X12_readsAll_L27 K46 n μ0 a12 x13 = some μ' → Ev l G D_X12_readsAll yX12_readsAll cX12_readsAll 3 none 27 [(0, .ref a12), (1, .int x13)] [] μ0 none μ' := fun μ0 a12 x13 hf => ih0 μ0 a12 x13 hf
    rw [f_X12_readsAll_L27] at hf
    refine E_iload_n (pc := 27) dX12_readsAll_27 rfl ?_
    refine E_bipush (pc := 28) (v := (48 : Int32)) dX12_readsAll_28 (by decide) ?_
    refine E_icmp_ge (pc := 30) (tgt := 46) dX12_readsAll_30 (by decide) hf (fun hf => ?_) (fun hf => ?_)
    · refine Ev.sub [0] rfl ?_
      exact hK46 _ _ hf
    · refine E_aload_n (pc := 33) dX12_readsAll_33 rfl ?_
      refine E_getR (pc := 34) dX12_readsAll_34 fl_X12_55 hf (fun v14 hf => ?_)
      refine E_iload_n (pc := 37) dX12_readsAll_37 rfl ?_
      refine E_iconst (pc := 38) (v := (0 : Int32)) dX12_readsAll_38 (by decide) ?_
      refine E_iast (pc := 39) dX12_readsAll_39 hf (fun μ15 hf => ?_)
      refine E_iinc (pc := 40) (ls' := fun x16 => [(1, .int x16), (0, .ref a12)]) dX12_readsAll_40 rfl (by decide) (fun _ => rfl) hf (fun x16 hf => ?_)
      refine E_goto (pc := 43) (tgt := 27) dX12_readsAll_43 (by decide) ?_
      refine Ev.sub [1, 0] rfl ?_
      exact ih _ _ _ hf
def f_X12_readsAll_L55 (K75 : Mm → Nat → Option Mm) : Nat → Mm → Nat → Int32 → Int32 → Option Mm
  | 0, _, _, _, _ => none
  | n + 1, μ0, a22, x23, x24 =>
    (if x24 = 0 then
    K75 μ0 a22
    else
    ((ob μ0 a22 12).bind fun _ =>
    ((f_X12_groundClause μ0 a22 x23).bind fun μ25 =>
    (nm (x23 + Int32.ofInt (1)) fun x26 =>
    ((ob μ25 a22 12).bind fun _ =>
    (bd (f_X12_goesOn μ25 a22) fun v28 μ27 =>
    (nm v28 fun x29 =>
    f_X12_readsAll_L55 K75 n μ27 a22 x26 x29)))))))
set_option maxHeartbeats 4000000 in
set_option maxRecDepth 100000 in
theorem f_X12_readsAll_L55_ok {l : Launch} {G : GG} {K75 : Mm → Nat → Option Mm} {μ' : Mm} (n : Nat) (μ0 : Mm) (a22 : Nat) (x23 : Int32) (x24 : Int32) (hf : f_X12_readsAll_L55 K75 n μ0 a22 x23 x24 = some μ') (hK75 : ∀ (μ1 : Mm) (y0 : Nat), K75 μ1 y0 = some μ' → Ev l G D_X12_readsAll yX12_readsAll cX12_readsAll 3 none 75 [(0, .ref y0)] [] μ1 none μ') : Ev l G D_X12_readsAll yX12_readsAll cX12_readsAll 3 none 55 [(0, .ref a22), (1, .int x23), (2, .int x24)] [] μ0 none μ' := by
  induction n generalizing μ0 a22 x23 x24 with
  | zero => cases hf
  | succ n ih0 =>
    have ih : ∀ (μ0 : Mm) (a22 : Nat) (x23 : Int32) (x24 : Int32), f_X12_readsAll_L55 K75 n μ0 a22 x23 x24 = some μ' → Ev l G D_X12_readsAll yX12_readsAll cX12_readsAll 3 none 55 [(0, .ref a22), (1, .int x23), (2, .int x24)] [] μ0 none μ' := fun μ0 a22 x23 x24 hf => ih0 μ0 a22 x23 x24 hf
    rw [f_X12_readsAll_L55] at hf
    refine E_iload_n (pc := 55) dX12_readsAll_55 rfl ?_
    refine E_if_eq (pc := 56) (tgt := 75) dX12_readsAll_56 (by decide) hf (fun hf => ?_) (fun hf => ?_)
    · refine Ev.sub [0] rfl ?_
      exact hK75 _ _ hf
    · refine E_aload_n (pc := 59) dX12_readsAll_59 rfl ?_
      refine E_iload_n (pc := 60) dX12_readsAll_60 rfl ?_
      refine E_Vv (pc := 61) (d2 := D_X12_groundClause) (ci := 12) [.int x23] dX12_readsAll_61 ml_X12_356 mf_X12_groundClause im_X12_groundClause rfl rfl rfl (by decide) (Nat.le_of_ble_eq_true rfl) (Nat.le_of_ble_eq_true rfl) rfl (fun _ h => f_X12_groundClause_ok h) hf (fun μ25 hf => ?_)
      refine E_iinc (pc := 64) (ls' := fun x26 => [(1, .int x26), (0, .ref a22), (2, .int x24)]) dX12_readsAll_64 rfl (by decide) (fun _ => rfl) hf (fun x26 hf => ?_)
      refine E_aload_n (pc := 67) dX12_readsAll_67 rfl ?_
      refine E_Vi (pc := 68) (d2 := D_X12_goesOn) (ci := 12) [] dX12_readsAll_68 ml_X12_359 mf_X12_goesOn im_X12_goesOn rfl rfl rfl (by decide) (Nat.le_of_ble_eq_true rfl) (Nat.le_of_ble_eq_true rfl) rfl (fun _ _ h => f_X12_goesOn_ok h) hf (fun v28 μ27 hf => ?_)
      refine E_istore_n (pc := 71) (ls' := fun x29 => [(2, .int x29), (1, .int x26), (0, .ref a22)]) dX12_readsAll_71 (by decide) (fun _ => rfl) hf (fun x29 hf => ?_)
      refine E_goto (pc := 72) (tgt := 55) dX12_readsAll_72 (by decide) ?_
      refine Ev.sub [2, 1, 0] rfl ?_
      exact ih _ _ _ _ hf
set_option maxRecDepth 100000 in
def f_X12_readsAll (μ0 : Mm) (a1 : Nat) : Option Mm :=
 ((ob μ0 a1 12).bind fun _ =>
    ((f_X12_starts μ0 a1).bind fun μ2 =>
    (nm (0 : Int32) fun x3 =>
    f_X12_readsAll_L6 (fun μ9 a10 =>
    (nm (0 : Int32) fun x11 =>
    f_X12_readsAll_L27 (fun μ17 a18 =>
    ((pV μ17 a18 12 27 (.int (0 : Int32))).bind fun μ19 =>
    (nm (0 : Int32) fun x20 =>
    (nm (1 : Int32) fun x21 =>
    f_X12_readsAll_L55 (fun μ30 a31 =>
    ((pV μ30 a31 12 28 (.int (0 : Int32))).bind fun μ32 =>
    (some μ32))) FU μ19 a18 x20 x21)))) FU μ9 a10 x11)) FU μ2 a1 x3)))
set_option maxHeartbeats 4000000 in
set_option maxRecDepth 100000 in
theorem f_X12_readsAll_ok {l : Launch} {G : GG} {μ0 : Mm} {a1 : Nat} {μ' : Mm} (hf : f_X12_readsAll μ0 a1 = some μ') : EvM l G D_X12_readsAll yX12_readsAll cX12_readsAll 3 none [.ref a1] μ0 none μ' := by
  show Ev l G D_X12_readsAll yX12_readsAll cX12_readsAll 3 none 0 [(0, .ref a1)] [] μ0 none μ'
  unfold f_X12_readsAll at hf
  refine E_aload_n (pc := 0) dX12_readsAll_0 rfl ?_
  refine E_Vv (pc := 1) (d2 := D_X12_starts) (ci := 12) [] dX12_readsAll_1 ml_X12_353 mf_X12_starts im_X12_starts rfl rfl rfl (by decide) (Nat.le_of_ble_eq_true rfl) (Nat.le_of_ble_eq_true rfl) rfl (fun _ h => f_X12_starts_ok h) hf (fun μ2 hf => ?_)
  refine E_iconst (pc := 4) (v := (0 : Int32)) dX12_readsAll_4 (by decide) ?_
  refine E_istore_n (pc := 5) (ls' := fun x3 => [(1, .int x3), (0, .ref a1)]) dX12_readsAll_5 (by decide) (fun _ => rfl) hf (fun x3 hf => ?_)
  refine Ev.sub [1, 0] rfl ?_
  refine f_X12_readsAll_L6_ok  _ _ _ _ hf (fun μ9 a10 hf => ?_)
  · refine E_iconst (pc := 25) (v := (0 : Int32)) dX12_readsAll_25 (by decide) ?_
    refine E_istore_n (pc := 26) (ls' := fun x11 => [(1, .int x11), (0, .ref a10)]) dX12_readsAll_26 (by decide) (fun _ => rfl) hf (fun x11 hf => ?_)
    refine Ev.sub [1, 0] rfl ?_
    refine f_X12_readsAll_L27_ok  _ _ _ _ hf (fun μ17 a18 hf => ?_)
    · refine E_aload_n (pc := 46) dX12_readsAll_46 rfl ?_
      refine E_iconst (pc := 47) (v := (0 : Int32)) dX12_readsAll_47 (by decide) ?_
      refine E_putI (pc := 48) dX12_readsAll_48 (pl_X12_321 _) hf (fun μ19 hf => ?_)
      refine E_iconst (pc := 51) (v := (0 : Int32)) dX12_readsAll_51 (by decide) ?_
      refine E_istore_n (pc := 52) (ls' := fun x20 => [(1, .int x20), (0, .ref a18)]) dX12_readsAll_52 (by decide) (fun _ => rfl) hf (fun x20 hf => ?_)
      refine E_iconst (pc := 53) (v := (1 : Int32)) dX12_readsAll_53 (by decide) ?_
      refine E_istore_n (pc := 54) (ls' := fun x21 => [(2, .int x21), (1, .int x20), (0, .ref a18)]) dX12_readsAll_54 (by decide) (fun _ => rfl) hf (fun x21 hf => ?_)
      refine Ev.sub [2, 1, 0] rfl ?_
      refine f_X12_readsAll_L55_ok  _ _ _ _ _ hf (fun μ30 a31 hf => ?_)
      · refine E_aload_n (pc := 75) dX12_readsAll_75 rfl ?_
        refine E_iconst (pc := 76) (v := (0 : Int32)) dX12_readsAll_76 (by decide) ?_
        refine E_putI (pc := 77) dX12_readsAll_77 (pl_X12_187 _) hf (fun μ32 hf => ?_)
        exact E_vret (pc := 80) dX12_readsAll_80 rfl hf
