theorem dX12_ground_0 : decode cX12_ground 0 = .ok (.aload_n 0, 1) := by decide +kernel
theorem dX12_ground_1 : decode cX12_ground 1 = .ok (.invokevirtual 362, 3) := by decide +kernel
theorem dX12_ground_4 : decode cX12_ground 4 = .ok (.aload_n 0, 1) := by decide +kernel
theorem dX12_ground_5 : decode cX12_ground 5 = .ok (.getfield 214, 3) := by decide +kernel
theorem dX12_ground_8 : decode cX12_ground 8 = .ok (.ifCond .le 11, 3) := by decide +kernel
theorem dX12_ground_11 : decode cX12_ground 11 = .ok (.bipush (-2), 2) := by decide +kernel
theorem dX12_ground_13 : decode cX12_ground 13 = .ok (.aload_n 0, 1) := by decide +kernel
theorem dX12_ground_14 : decode cX12_ground 14 = .ok (.getfield 214, 3) := by decide +kernel
theorem dX12_ground_17 : decode cX12_ground 17 = .ok (.isub, 1) := by decide +kernel
theorem dX12_ground_18 : decode cX12_ground 18 = .ok (.ireturn, 1) := by decide +kernel
theorem dX12_ground_19 : decode cX12_ground 19 = .ok (.iconst 0, 1) := by decide +kernel
theorem dX12_ground_20 : decode cX12_ground 20 = .ok (.istore_n 1, 1) := by decide +kernel
theorem dX12_ground_21 : decode cX12_ground 21 = .ok (.iload_n 1, 1) := by decide +kernel
theorem dX12_ground_22 : decode cX12_ground 22 = .ok (.bipush 9, 2) := by decide +kernel
theorem dX12_ground_24 : decode cX12_ground 24 = .ok (.if_icmp .ge 31, 3) := by decide +kernel
theorem dX12_ground_27 : decode cX12_ground 27 = .ok (.aload_n 0, 1) := by decide +kernel
theorem dX12_ground_28 : decode cX12_ground 28 = .ok (.getfield 9, 3) := by decide +kernel
theorem dX12_ground_31 : decode cX12_ground 31 = .ok (.iload_n 1, 1) := by decide +kernel
theorem dX12_ground_32 : decode cX12_ground 32 = .ok (.iload_n 1, 1) := by decide +kernel
theorem dX12_ground_33 : decode cX12_ground 33 = .ok (.bipush 7, 2) := by decide +kernel
theorem dX12_ground_35 : decode cX12_ground 35 = .ok (.if_icmp .ge 12, 3) := by decide +kernel
theorem dX12_ground_38 : decode cX12_ground 38 = .ok (.aload_n 0, 1) := by decide +kernel
theorem dX12_ground_39 : decode cX12_ground 39 = .ok (.getfield 52, 3) := by decide +kernel
theorem dX12_ground_42 : decode cX12_ground 42 = .ok (.iload_n 1, 1) := by decide +kernel
theorem dX12_ground_43 : decode cX12_ground 43 = .ok (.iaload, 1) := by decide +kernel
theorem dX12_ground_44 : decode cX12_ground 44 = .ok (.goto 4, 3) := by decide +kernel
theorem dX12_ground_47 : decode cX12_ground 47 = .ok (.iconst 0, 1) := by decide +kernel
theorem dX12_ground_48 : decode cX12_ground 48 = .ok (.iastore, 1) := by decide +kernel
theorem dX12_ground_49 : decode cX12_ground 49 = .ok (.iinc 1 1, 3) := by decide +kernel
theorem dX12_ground_52 : decode cX12_ground 52 = .ok (.goto (-31), 3) := by decide +kernel
theorem dX12_ground_55 : decode cX12_ground 55 = .ok (.aload_n 0, 1) := by decide +kernel
theorem dX12_ground_56 : decode cX12_ground 56 = .ok (.getfield 55, 3) := by decide +kernel
theorem dX12_ground_59 : decode cX12_ground 59 = .ok (.aload_n 0, 1) := by decide +kernel
theorem dX12_ground_60 : decode cX12_ground 60 = .ok (.getfield 13, 3) := by decide +kernel
theorem dX12_ground_63 : decode cX12_ground 63 = .ok (.invokestatic 365, 3) := by decide +kernel
theorem dX12_ground_66 : decode cX12_ground 66 = .ok (.aload_n 0, 1) := by decide +kernel
theorem dX12_ground_67 : decode cX12_ground 67 = .ok (.getfield 58, 3) := by decide +kernel
theorem dX12_ground_70 : decode cX12_ground 70 = .ok (.aload_n 0, 1) := by decide +kernel
theorem dX12_ground_71 : decode cX12_ground 71 = .ok (.getfield 16, 3) := by decide +kernel
theorem dX12_ground_74 : decode cX12_ground 74 = .ok (.invokestatic 365, 3) := by decide +kernel
theorem dX12_ground_77 : decode cX12_ground 77 = .ok (.aload_n 0, 1) := by decide +kernel
theorem dX12_ground_78 : decode cX12_ground 78 = .ok (.getfield 61, 3) := by decide +kernel
theorem dX12_ground_81 : decode cX12_ground 81 = .ok (.aload_n 0, 1) := by decide +kernel
theorem dX12_ground_82 : decode cX12_ground 82 = .ok (.getfield 19, 3) := by decide +kernel
theorem dX12_ground_85 : decode cX12_ground 85 = .ok (.invokestatic 365, 3) := by decide +kernel
theorem dX12_ground_88 : decode cX12_ground 88 = .ok (.aload_n 0, 1) := by decide +kernel
theorem dX12_ground_89 : decode cX12_ground 89 = .ok (.getfield 64, 3) := by decide +kernel
theorem dX12_ground_92 : decode cX12_ground 92 = .ok (.aload_n 0, 1) := by decide +kernel
theorem dX12_ground_93 : decode cX12_ground 93 = .ok (.getfield 22, 3) := by decide +kernel
theorem dX12_ground_96 : decode cX12_ground 96 = .ok (.invokestatic 365, 3) := by decide +kernel
theorem dX12_ground_99 : decode cX12_ground 99 = .ok (.aload_n 0, 1) := by decide +kernel
theorem dX12_ground_100 : decode cX12_ground 100 = .ok (.getfield 67, 3) := by decide +kernel
theorem dX12_ground_103 : decode cX12_ground 103 = .ok (.aload_n 0, 1) := by decide +kernel
theorem dX12_ground_104 : decode cX12_ground 104 = .ok (.getfield 25, 3) := by decide +kernel
theorem dX12_ground_107 : decode cX12_ground 107 = .ok (.invokestatic 365, 3) := by decide +kernel
theorem dX12_ground_110 : decode cX12_ground 110 = .ok (.aload_n 0, 1) := by decide +kernel
theorem dX12_ground_111 : decode cX12_ground 111 = .ok (.getfield 70, 3) := by decide +kernel
theorem dX12_ground_114 : decode cX12_ground 114 = .ok (.aload_n 0, 1) := by decide +kernel
theorem dX12_ground_115 : decode cX12_ground 115 = .ok (.getfield 28, 3) := by decide +kernel
theorem dX12_ground_118 : decode cX12_ground 118 = .ok (.invokestatic 365, 3) := by decide +kernel
theorem dX12_ground_121 : decode cX12_ground 121 = .ok (.aload_n 0, 1) := by decide +kernel
theorem dX12_ground_122 : decode cX12_ground 122 = .ok (.getfield 73, 3) := by decide +kernel
theorem dX12_ground_125 : decode cX12_ground 125 = .ok (.aload_n 0, 1) := by decide +kernel
theorem dX12_ground_126 : decode cX12_ground 126 = .ok (.getfield 31, 3) := by decide +kernel
theorem dX12_ground_129 : decode cX12_ground 129 = .ok (.invokestatic 365, 3) := by decide +kernel
theorem dX12_ground_132 : decode cX12_ground 132 = .ok (.aload_n 0, 1) := by decide +kernel
theorem dX12_ground_133 : decode cX12_ground 133 = .ok (.getfield 76, 3) := by decide +kernel
theorem dX12_ground_136 : decode cX12_ground 136 = .ok (.aload_n 0, 1) := by decide +kernel
theorem dX12_ground_137 : decode cX12_ground 137 = .ok (.getfield 34, 3) := by decide +kernel
theorem dX12_ground_140 : decode cX12_ground 140 = .ok (.invokestatic 365, 3) := by decide +kernel
theorem dX12_ground_143 : decode cX12_ground 143 = .ok (.aload_n 0, 1) := by decide +kernel
theorem dX12_ground_144 : decode cX12_ground 144 = .ok (.getfield 79, 3) := by decide +kernel
theorem dX12_ground_147 : decode cX12_ground 147 = .ok (.aload_n 0, 1) := by decide +kernel
theorem dX12_ground_148 : decode cX12_ground 148 = .ok (.getfield 37, 3) := by decide +kernel
theorem dX12_ground_151 : decode cX12_ground 151 = .ok (.invokestatic 365, 3) := by decide +kernel
theorem dX12_ground_154 : decode cX12_ground 154 = .ok (.aload_n 0, 1) := by decide +kernel
theorem dX12_ground_155 : decode cX12_ground 155 = .ok (.getfield 82, 3) := by decide +kernel
theorem dX12_ground_158 : decode cX12_ground 158 = .ok (.aload_n 0, 1) := by decide +kernel
theorem dX12_ground_159 : decode cX12_ground 159 = .ok (.getfield 40, 3) := by decide +kernel
theorem dX12_ground_162 : decode cX12_ground 162 = .ok (.invokestatic 365, 3) := by decide +kernel
theorem dX12_ground_165 : decode cX12_ground 165 = .ok (.aload_n 0, 1) := by decide +kernel
theorem dX12_ground_166 : decode cX12_ground 166 = .ok (.getfield 85, 3) := by decide +kernel
theorem dX12_ground_169 : decode cX12_ground 169 = .ok (.aload_n 0, 1) := by decide +kernel
theorem dX12_ground_170 : decode cX12_ground 170 = .ok (.getfield 43, 3) := by decide +kernel
theorem dX12_ground_173 : decode cX12_ground 173 = .ok (.invokestatic 365, 3) := by decide +kernel
theorem dX12_ground_176 : decode cX12_ground 176 = .ok (.aload_n 0, 1) := by decide +kernel
theorem dX12_ground_177 : decode cX12_ground 177 = .ok (.iconst 0, 1) := by decide +kernel
theorem dX12_ground_178 : decode cX12_ground 178 = .ok (.putfield 369, 3) := by decide +kernel
theorem dX12_ground_181 : decode cX12_ground 181 = .ok (.aload_n 0, 1) := by decide +kernel
theorem dX12_ground_182 : decode cX12_ground 182 = .ok (.invokevirtual 179, 3) := by decide +kernel
theorem dX12_ground_185 : decode cX12_ground 185 = .ok (.ireturn, 1) := by decide +kernel
abbrev D_X12_ground : Nat := 10
def f_X12_ground_L21 (K55 : Mm → Nat → Option (Int32 × Mm)) : Nat → Mm → Nat → Int32 → Option (Int32 × Mm)
  | 0, _, _, _ => none
  | n + 1, μ0, a5, x6 =>
    (if (9 : Int32) ≤ x6 then
    K55 μ0 a5
    else
    ((gR μ0 a5 12 1).bind fun v7 =>
    (if (7 : Int32) ≤ x6 then
    ((sI μ0 v7 0 x6 (0 : Int32)).bind fun μ8 =>
    (nm (x6 + Int32.ofInt (1)) fun x9 =>
    f_X12_ground_L21 K55 n μ8 a5 x9))
    else
    ((gR μ0 a5 12 15).bind fun v10 =>
    ((aI μ0 v10 0 x6).bind fun v11 =>
    ((sI μ0 v7 0 x6 v11).bind fun μ12 =>
    (nm (x6 + Int32.ofInt (1)) fun x13 =>
    f_X12_ground_L21 K55 n μ12 a5 x13)))))))
set_option maxHeartbeats 4000000 in
set_option maxRecDepth 100000 in
theorem f_X12_ground_L21_ok {l : Launch} {G : GG} {K55 : Mm → Nat → Option (Int32 × Mm)} {r : Int32} {μ' : Mm} (n : Nat) (μ0 : Mm) (a5 : Nat) (x6 : Int32) (hf : f_X12_ground_L21 K55 n μ0 a5 x6 = some (r, μ')) (hK55 : ∀ (μ1 : Mm) (y0 : Nat), K55 μ1 y0 = some (r, μ') → Ev l G D_X12_ground yX12_ground cX12_ground 2 (some .int) 55 [(0, .ref y0)] [] μ1 (some (.int r)) μ') : Ev l G D_X12_ground yX12_ground cX12_ground 2 (some .int) 21 [(0, .ref a5), (1, .int x6)] [] μ0 (some (.int r)) μ' := by
  induction n generalizing μ0 a5 x6 with
  | zero => cases hf
  | succ n ih0 =>
    have ih : ∀ (μ0 : Mm) (a5 : Nat) (x6 : Int32), f_X12_ground_L21 K55 n μ0 a5 x6 = some (r, μ') → Ev l G D_X12_ground yX12_ground cX12_ground 2 (some .int) 21 [(0, .ref a5), (1, .int x6)] [] μ0 (some (.int r)) μ' := fun μ0 a5 x6 hf => ih0 μ0 a5 x6 hf
    rw [f_X12_ground_L21] at hf
    refine E_iload_n (pc := 21) dX12_ground_21 rfl ?_
    refine E_bipush (pc := 22) (v := (9 : Int32)) dX12_ground_22 (by decide) ?_
    refine E_icmp_ge (pc := 24) (tgt := 55) dX12_ground_24 (by decide) hf (fun hf => ?_) (fun hf => ?_)
    · refine Ev.sub [0] rfl ?_
      exact hK55 _ _ hf
    · refine E_aload_n (pc := 27) dX12_ground_27 rfl ?_
      refine E_getR (pc := 28) dX12_ground_28 fl_X12_9 hf (fun v7 hf => ?_)
      refine E_iload_n (pc := 31) dX12_ground_31 rfl ?_
      refine E_iload_n (pc := 32) dX12_ground_32 rfl ?_
      refine E_bipush (pc := 33) (v := (7 : Int32)) dX12_ground_33 (by decide) ?_
      refine E_icmp_ge (pc := 35) (tgt := 47) dX12_ground_35 (by decide) hf (fun hf => ?_) (fun hf => ?_)
      · refine E_iconst (pc := 47) (v := (0 : Int32)) dX12_ground_47 (by decide) ?_
        refine E_iast (pc := 48) dX12_ground_48 hf (fun μ8 hf => ?_)
        refine E_iinc (pc := 49) (ls' := fun x9 => [(1, .int x9), (0, .ref a5)]) dX12_ground_49 rfl (by decide) (fun _ => rfl) hf (fun x9 hf => ?_)
        refine E_goto (pc := 52) (tgt := 21) dX12_ground_52 (by decide) ?_
        refine Ev.sub [1, 0] rfl ?_
        exact ih _ _ _ hf
      · refine E_aload_n (pc := 38) dX12_ground_38 rfl ?_
        refine E_getR (pc := 39) dX12_ground_39 fl_X12_52 hf (fun v10 hf => ?_)
        refine E_iload_n (pc := 42) dX12_ground_42 rfl ?_
        refine E_iald (pc := 43) dX12_ground_43 hf (fun v11 hf => ?_)
        refine E_goto (pc := 44) (tgt := 48) dX12_ground_44 (by decide) ?_
        refine E_iast (pc := 48) dX12_ground_48 hf (fun μ12 hf => ?_)
        refine E_iinc (pc := 49) (ls' := fun x13 => [(1, .int x13), (0, .ref a5)]) dX12_ground_49 rfl (by decide) (fun _ => rfl) hf (fun x13 hf => ?_)
        refine E_goto (pc := 52) (tgt := 21) dX12_ground_52 (by decide) ?_
        refine Ev.sub [1, 0] rfl ?_
        exact ih _ _ _ hf
set_option maxRecDepth 100000 in
def f_X12_ground (μ0 : Mm) (a1 : Nat) : Option (Int32 × Mm) :=
 ((ob μ0 a1 12).bind fun _ =>
    ((f_X12_readsAll μ0 a1).bind fun μ2 =>
    ((gI μ2 a1 12 30).bind fun v3 =>
    (if v3 ≤ 0 then
    (nm (0 : Int32) fun x4 =>
    f_X12_ground_L21 (fun μ14 a15 =>
    ((gR μ14 a15 12 16).bind fun v16 =>
    ((gR μ14 a15 12 2).bind fun v17 =>
    ((f_X12_copies μ14 v16 v17).bind fun μ18 =>
    ((gR μ18 a15 12 17).bind fun v19 =>
    ((gR μ18 a15 12 3).bind fun v20 =>
    ((f_X12_copies μ18 v19 v20).bind fun μ21 =>
    ((gR μ21 a15 12 18).bind fun v22 =>
    ((gR μ21 a15 12 4).bind fun v23 =>
    ((f_X12_copies μ21 v22 v23).bind fun μ24 =>
    ((gR μ24 a15 12 19).bind fun v25 =>
    ((gR μ24 a15 12 5).bind fun v26 =>
    ((f_X12_copies μ24 v25 v26).bind fun μ27 =>
    ((gR μ27 a15 12 20).bind fun v28 =>
    ((gR μ27 a15 12 6).bind fun v29 =>
    ((f_X12_copies μ27 v28 v29).bind fun μ30 =>
    ((gR μ30 a15 12 21).bind fun v31 =>
    ((gR μ30 a15 12 7).bind fun v32 =>
    ((f_X12_copies μ30 v31 v32).bind fun μ33 =>
    ((gR μ33 a15 12 22).bind fun v34 =>
    ((gR μ33 a15 12 8).bind fun v35 =>
    ((f_X12_copies μ33 v34 v35).bind fun μ36 =>
    ((gR μ36 a15 12 23).bind fun v37 =>
    ((gR μ36 a15 12 9).bind fun v38 =>
    ((f_X12_copies μ36 v37 v38).bind fun μ39 =>
    ((gR μ39 a15 12 24).bind fun v40 =>
    ((gR μ39 a15 12 10).bind fun v41 =>
    ((f_X12_copies μ39 v40 v41).bind fun μ42 =>
    ((gR μ42 a15 12 25).bind fun v43 =>
    ((gR μ42 a15 12 11).bind fun v44 =>
    ((f_X12_copies μ42 v43 v44).bind fun μ45 =>
    ((gR μ45 a15 12 26).bind fun v46 =>
    ((gR μ45 a15 12 12).bind fun v47 =>
    ((f_X12_copies μ45 v46 v47).bind fun μ48 =>
    ((pV μ48 a15 12 55 (.int (0 : Int32))).bind fun μ49 =>
    ((ob μ49 a15 12).bind fun _ =>
    (bd (f_X12_cells μ49 a15) fun v51 μ50 =>
    (some (v51, μ50))))))))))))))))))))))))))))))))))))))) FU μ2 a1 x4)
    else
    ((gI μ2 a1 12 30).bind fun v52 =>
    (some (((-2 : Int32) - v52), μ2)))))))
set_option maxHeartbeats 4000000 in
set_option maxRecDepth 100000 in
theorem f_X12_ground_ok {l : Launch} {G : GG} {μ0 : Mm} {a1 : Nat} {r : Int32} {μ' : Mm} (hf : f_X12_ground μ0 a1 = some (r, μ')) : EvM l G D_X12_ground yX12_ground cX12_ground 2 (some .int) [.ref a1] μ0 (some (.int r)) μ' := by
  show Ev l G D_X12_ground yX12_ground cX12_ground 2 (some .int) 0 [(0, .ref a1)] [] μ0 (some (.int r)) μ'
  unfold f_X12_ground at hf
  refine E_aload_n (pc := 0) dX12_ground_0 rfl ?_
  refine E_Vv (pc := 1) (d2 := D_X12_readsAll) (ci := 12) [] dX12_ground_1 ml_X12_362 mf_X12_readsAll im_X12_readsAll rfl rfl rfl (by decide) (Nat.le_of_ble_eq_true rfl) (Nat.le_of_ble_eq_true rfl) rfl (fun _ h => f_X12_readsAll_ok h) hf (fun μ2 hf => ?_)
  refine E_aload_n (pc := 4) dX12_ground_4 rfl ?_
  refine E_getI (pc := 5) dX12_ground_5 fl_X12_214 hf (fun v3 hf => ?_)
  refine E_if_le (pc := 8) (tgt := 19) dX12_ground_8 (by decide) hf (fun hf => ?_) (fun hf => ?_)
  · refine E_iconst (pc := 19) (v := (0 : Int32)) dX12_ground_19 (by decide) ?_
    refine E_istore_n (pc := 20) (ls' := fun x4 => [(1, .int x4), (0, .ref a1)]) dX12_ground_20 (by decide) (fun _ => rfl) hf (fun x4 hf => ?_)
    refine Ev.sub [1, 0] rfl ?_
    refine f_X12_ground_L21_ok  _ _ _ _ hf (fun μ14 a15 hf => ?_)
    · refine E_aload_n (pc := 55) dX12_ground_55 rfl ?_
      refine E_getR (pc := 56) dX12_ground_56 fl_X12_55 hf (fun v16 hf => ?_)
      refine E_aload_n (pc := 59) dX12_ground_59 rfl ?_
      refine E_getR (pc := 60) dX12_ground_60 fl_X12_13 hf (fun v17 hf => ?_)
      refine E_Sv (pc := 63) (d2 := D_X12_copies) [.ref v16, .ref v17] dX12_ground_63 ml_X12_365 mf_X12_copies st_X12_copies rfl (by decide) (Nat.le_of_ble_eq_true rfl) (Nat.le_of_ble_eq_true rfl) rfl (fun _ h => f_X12_copies_ok h) hf (fun μ18 hf => ?_)
      refine E_aload_n (pc := 66) dX12_ground_66 rfl ?_
      refine E_getR (pc := 67) dX12_ground_67 fl_X12_58 hf (fun v19 hf => ?_)
      refine E_aload_n (pc := 70) dX12_ground_70 rfl ?_
      refine E_getR (pc := 71) dX12_ground_71 fl_X12_16 hf (fun v20 hf => ?_)
      refine E_Sv (pc := 74) (d2 := D_X12_copies) [.ref v19, .ref v20] dX12_ground_74 ml_X12_365 mf_X12_copies st_X12_copies rfl (by decide) (Nat.le_of_ble_eq_true rfl) (Nat.le_of_ble_eq_true rfl) rfl (fun _ h => f_X12_copies_ok h) hf (fun μ21 hf => ?_)
      refine E_aload_n (pc := 77) dX12_ground_77 rfl ?_
      refine E_getR (pc := 78) dX12_ground_78 fl_X12_61 hf (fun v22 hf => ?_)
      refine E_aload_n (pc := 81) dX12_ground_81 rfl ?_
      refine E_getR (pc := 82) dX12_ground_82 fl_X12_19 hf (fun v23 hf => ?_)
      refine E_Sv (pc := 85) (d2 := D_X12_copies) [.ref v22, .ref v23] dX12_ground_85 ml_X12_365 mf_X12_copies st_X12_copies rfl (by decide) (Nat.le_of_ble_eq_true rfl) (Nat.le_of_ble_eq_true rfl) rfl (fun _ h => f_X12_copies_ok h) hf (fun μ24 hf => ?_)
      refine E_aload_n (pc := 88) dX12_ground_88 rfl ?_
      refine E_getR (pc := 89) dX12_ground_89 fl_X12_64 hf (fun v25 hf => ?_)
      refine E_aload_n (pc := 92) dX12_ground_92 rfl ?_
      refine E_getR (pc := 93) dX12_ground_93 fl_X12_22 hf (fun v26 hf => ?_)
      refine E_Sv (pc := 96) (d2 := D_X12_copies) [.ref v25, .ref v26] dX12_ground_96 ml_X12_365 mf_X12_copies st_X12_copies rfl (by decide) (Nat.le_of_ble_eq_true rfl) (Nat.le_of_ble_eq_true rfl) rfl (fun _ h => f_X12_copies_ok h) hf (fun μ27 hf => ?_)
      refine E_aload_n (pc := 99) dX12_ground_99 rfl ?_
      refine E_getR (pc := 100) dX12_ground_100 fl_X12_67 hf (fun v28 hf => ?_)
      refine E_aload_n (pc := 103) dX12_ground_103 rfl ?_
      refine E_getR (pc := 104) dX12_ground_104 fl_X12_25 hf (fun v29 hf => ?_)
      refine E_Sv (pc := 107) (d2 := D_X12_copies) [.ref v28, .ref v29] dX12_ground_107 ml_X12_365 mf_X12_copies st_X12_copies rfl (by decide) (Nat.le_of_ble_eq_true rfl) (Nat.le_of_ble_eq_true rfl) rfl (fun _ h => f_X12_copies_ok h) hf (fun μ30 hf => ?_)
      refine E_aload_n (pc := 110) dX12_ground_110 rfl ?_
      refine E_getR (pc := 111) dX12_ground_111 fl_X12_70 hf (fun v31 hf => ?_)
      refine E_aload_n (pc := 114) dX12_ground_114 rfl ?_
      refine E_getR (pc := 115) dX12_ground_115 fl_X12_28 hf (fun v32 hf => ?_)
      refine E_Sv (pc := 118) (d2 := D_X12_copies) [.ref v31, .ref v32] dX12_ground_118 ml_X12_365 mf_X12_copies st_X12_copies rfl (by decide) (Nat.le_of_ble_eq_true rfl) (Nat.le_of_ble_eq_true rfl) rfl (fun _ h => f_X12_copies_ok h) hf (fun μ33 hf => ?_)
      refine E_aload_n (pc := 121) dX12_ground_121 rfl ?_
      refine E_getR (pc := 122) dX12_ground_122 fl_X12_73 hf (fun v34 hf => ?_)
      refine E_aload_n (pc := 125) dX12_ground_125 rfl ?_
      refine E_getR (pc := 126) dX12_ground_126 fl_X12_31 hf (fun v35 hf => ?_)
      refine E_Sv (pc := 129) (d2 := D_X12_copies) [.ref v34, .ref v35] dX12_ground_129 ml_X12_365 mf_X12_copies st_X12_copies rfl (by decide) (Nat.le_of_ble_eq_true rfl) (Nat.le_of_ble_eq_true rfl) rfl (fun _ h => f_X12_copies_ok h) hf (fun μ36 hf => ?_)
      refine E_aload_n (pc := 132) dX12_ground_132 rfl ?_
      refine E_getR (pc := 133) dX12_ground_133 fl_X12_76 hf (fun v37 hf => ?_)
      refine E_aload_n (pc := 136) dX12_ground_136 rfl ?_
      refine E_getR (pc := 137) dX12_ground_137 fl_X12_34 hf (fun v38 hf => ?_)
      refine E_Sv (pc := 140) (d2 := D_X12_copies) [.ref v37, .ref v38] dX12_ground_140 ml_X12_365 mf_X12_copies st_X12_copies rfl (by decide) (Nat.le_of_ble_eq_true rfl) (Nat.le_of_ble_eq_true rfl) rfl (fun _ h => f_X12_copies_ok h) hf (fun μ39 hf => ?_)
      refine E_aload_n (pc := 143) dX12_ground_143 rfl ?_
      refine E_getR (pc := 144) dX12_ground_144 fl_X12_79 hf (fun v40 hf => ?_)
      refine E_aload_n (pc := 147) dX12_ground_147 rfl ?_
      refine E_getR (pc := 148) dX12_ground_148 fl_X12_37 hf (fun v41 hf => ?_)
      refine E_Sv (pc := 151) (d2 := D_X12_copies) [.ref v40, .ref v41] dX12_ground_151 ml_X12_365 mf_X12_copies st_X12_copies rfl (by decide) (Nat.le_of_ble_eq_true rfl) (Nat.le_of_ble_eq_true rfl) rfl (fun _ h => f_X12_copies_ok h) hf (fun μ42 hf => ?_)
      refine E_aload_n (pc := 154) dX12_ground_154 rfl ?_
      refine E_getR (pc := 155) dX12_ground_155 fl_X12_82 hf (fun v43 hf => ?_)
      refine E_aload_n (pc := 158) dX12_ground_158 rfl ?_
      refine E_getR (pc := 159) dX12_ground_159 fl_X12_40 hf (fun v44 hf => ?_)
      refine E_Sv (pc := 162) (d2 := D_X12_copies) [.ref v43, .ref v44] dX12_ground_162 ml_X12_365 mf_X12_copies st_X12_copies rfl (by decide) (Nat.le_of_ble_eq_true rfl) (Nat.le_of_ble_eq_true rfl) rfl (fun _ h => f_X12_copies_ok h) hf (fun μ45 hf => ?_)
      refine E_aload_n (pc := 165) dX12_ground_165 rfl ?_
      refine E_getR (pc := 166) dX12_ground_166 fl_X12_85 hf (fun v46 hf => ?_)
      refine E_aload_n (pc := 169) dX12_ground_169 rfl ?_
      refine E_getR (pc := 170) dX12_ground_170 fl_X12_43 hf (fun v47 hf => ?_)
      refine E_Sv (pc := 173) (d2 := D_X12_copies) [.ref v46, .ref v47] dX12_ground_173 ml_X12_365 mf_X12_copies st_X12_copies rfl (by decide) (Nat.le_of_ble_eq_true rfl) (Nat.le_of_ble_eq_true rfl) rfl (fun _ h => f_X12_copies_ok h) hf (fun μ48 hf => ?_)
      refine E_aload_n (pc := 176) dX12_ground_176 rfl ?_
      refine E_iconst (pc := 177) (v := (0 : Int32)) dX12_ground_177 (by decide) ?_
      refine E_putI (pc := 178) dX12_ground_178 (pl_X12_369 _) hf (fun μ49 hf => ?_)
      refine E_aload_n (pc := 181) dX12_ground_181 rfl ?_
      refine E_Vi (pc := 182) (d2 := D_X12_cells) (ci := 12) [] dX12_ground_182 ml_X12_179 mf_X12_cells im_X12_cells rfl rfl rfl (by decide) (Nat.le_of_ble_eq_true rfl) (Nat.le_of_ble_eq_true rfl) rfl (fun _ _ h => f_X12_cells_ok h) hf (fun v51 μ50 hf => ?_)
      exact E_iret (pc := 185) dX12_ground_185 rfl hf
  · refine E_bipush (pc := 11) (v := (-2 : Int32)) dX12_ground_11 (by decide) ?_
    refine E_aload_n (pc := 13) dX12_ground_13 rfl ?_
    refine E_getI (pc := 14) dX12_ground_14 fl_X12_214 hf (fun v52 hf => ?_)
    refine E_isub (pc := 17) dX12_ground_17 ?_
    exact E_iret (pc := 18) dX12_ground_18 rfl hf
theorem dX12_ruleClause_0 : decode cX12_ruleClause 0 = .ok (.aload_n 0, 1) := by decide +kernel
theorem dX12_ruleClause_1 : decode cX12_ruleClause 1 = .ok (.invokevirtual 236, 3) := by decide +kernel
theorem dX12_ruleClause_4 : decode cX12_ruleClause 4 = .ok (.aload_n 0, 1) := by decide +kernel
theorem dX12_ruleClause_5 : decode cX12_ruleClause 5 = .ok (.getfield 217, 3) := by decide +kernel
theorem dX12_ruleClause_8 : decode cX12_ruleClause 8 = .ok (.istore_n 2, 1) := by decide +kernel
theorem dX12_ruleClause_9 : decode cX12_ruleClause 9 = .ok (.aload_n 0, 1) := by decide +kernel
theorem dX12_ruleClause_10 : decode cX12_ruleClause 10 = .ok (.ldc_w 372, 3) := by decide +kernel
theorem dX12_ruleClause_13 : decode cX12_ruleClause 13 = .ok (.invokevirtual 239, 3) := by decide +kernel
theorem dX12_ruleClause_16 : decode cX12_ruleClause 16 = .ok (.istore_n 3, 1) := by decide +kernel
theorem dX12_ruleClause_17 : decode cX12_ruleClause 17 = .ok (.iload_n 3, 1) := by decide +kernel
theorem dX12_ruleClause_18 : decode cX12_ruleClause 18 = .ok (.ifCond .ne 20, 3) := by decide +kernel
theorem dX12_ruleClause_21 : decode cX12_ruleClause 21 = .ok (.aload_n 0, 1) := by decide +kernel
theorem dX12_ruleClause_22 : decode cX12_ruleClause 22 = .ok (.ldc_w 374, 3) := by decide +kernel
theorem dX12_ruleClause_25 : decode cX12_ruleClause 25 = .ok (.invokevirtual 239, 3) := by decide +kernel
theorem dX12_ruleClause_28 : decode cX12_ruleClause 28 = .ok (.ifCond .ne 10, 3) := by decide +kernel
theorem dX12_ruleClause_31 : decode cX12_ruleClause 31 = .ok (.aload_n 0, 1) := by decide +kernel
theorem dX12_ruleClause_32 : decode cX12_ruleClause 32 = .ok (.iconst 0, 1) := by decide +kernel
theorem dX12_ruleClause_33 : decode cX12_ruleClause 33 = .ok (.iload_n 2, 1) := by decide +kernel
theorem dX12_ruleClause_34 : decode cX12_ruleClause 34 = .ok (.invokevirtual 252, 3) := by decide +kernel
theorem dX12_ruleClause_37 : decode cX12_ruleClause 37 = .ok (.return_, 1) := by decide +kernel
theorem dX12_ruleClause_38 : decode cX12_ruleClause 38 = .ok (.iload_n 1, 1) := by decide +kernel
theorem dX12_ruleClause_39 : decode cX12_ruleClause 39 = .ok (.bipush 12, 2) := by decide +kernel
theorem dX12_ruleClause_41 : decode cX12_ruleClause 41 = .ok (.if_icmp .ne 10, 3) := by decide +kernel
theorem dX12_ruleClause_44 : decode cX12_ruleClause 44 = .ok (.aload_n 0, 1) := by decide +kernel
theorem dX12_ruleClause_45 : decode cX12_ruleClause 45 = .ok (.iconst 4, 1) := by decide +kernel
theorem dX12_ruleClause_46 : decode cX12_ruleClause 46 = .ok (.iload_n 2, 1) := by decide +kernel
theorem dX12_ruleClause_47 : decode cX12_ruleClause 47 = .ok (.invokevirtual 252, 3) := by decide +kernel
theorem dX12_ruleClause_50 : decode cX12_ruleClause 50 = .ok (.return_, 1) := by decide +kernel
theorem dX12_ruleClause_51 : decode cX12_ruleClause 51 = .ok (.aload_n 0, 1) := by decide +kernel
theorem dX12_ruleClause_52 : decode cX12_ruleClause 52 = .ok (.dup, 1) := by decide +kernel
theorem dX12_ruleClause_53 : decode cX12_ruleClause 53 = .ok (.getfield 217, 3) := by decide +kernel
theorem dX12_ruleClause_56 : decode cX12_ruleClause 56 = .ok (.iload_n 3, 1) := by decide +kernel
theorem dX12_ruleClause_57 : decode cX12_ruleClause 57 = .ok (.ifCond .eq 7, 3) := by decide +kernel
theorem dX12_ruleClause_60 : decode cX12_ruleClause 60 = .ok (.iconst 5, 1) := by decide +kernel
theorem dX12_ruleClause_61 : decode cX12_ruleClause 61 = .ok (.goto 4, 3) := by decide +kernel
theorem dX12_ruleClause_64 : decode cX12_ruleClause 64 = .ok (.iconst 4, 1) := by decide +kernel
theorem dX12_ruleClause_65 : decode cX12_ruleClause 65 = .ok (.iadd, 1) := by decide +kernel
theorem dX12_ruleClause_66 : decode cX12_ruleClause 66 = .ok (.putfield 217, 3) := by decide +kernel
theorem dX12_ruleClause_69 : decode cX12_ruleClause 69 = .ok (.bipush 12, 2) := by decide +kernel
theorem dX12_ruleClause_71 : decode cX12_ruleClause 71 = .ok (.aload_n 0, 1) := by decide +kernel
theorem dX12_ruleClause_72 : decode cX12_ruleClause 72 = .ok (.getfield 243, 3) := by decide +kernel
theorem dX12_ruleClause_75 : decode cX12_ruleClause 75 = .ok (.imul, 1) := by decide +kernel
theorem dX12_ruleClause_76 : decode cX12_ruleClause 76 = .ok (.iload_n 1, 1) := by decide +kernel
theorem dX12_ruleClause_77 : decode cX12_ruleClause 77 = .ok (.iadd, 1) := by decide +kernel
theorem dX12_ruleClause_78 : decode cX12_ruleClause 78 = .ok (.istore 4, 2) := by decide +kernel
theorem dX12_ruleClause_80 : decode cX12_ruleClause 80 = .ok (.aload_n 0, 1) := by decide +kernel
theorem dX12_ruleClause_81 : decode cX12_ruleClause 81 = .ok (.getfield 117, 3) := by decide +kernel
theorem dX12_ruleClause_84 : decode cX12_ruleClause 84 = .ok (.iload 4, 2) := by decide +kernel
theorem dX12_ruleClause_86 : decode cX12_ruleClause 86 = .ok (.iload_n 3, 1) := by decide +kernel
theorem dX12_ruleClause_87 : decode cX12_ruleClause 87 = .ok (.bastore, 1) := by decide +kernel
theorem dX12_ruleClause_88 : decode cX12_ruleClause 88 = .ok (.aload_n 0, 1) := by decide +kernel
theorem dX12_ruleClause_89 : decode cX12_ruleClause 89 = .ok (.getfield 105, 3) := by decide +kernel
theorem dX12_ruleClause_92 : decode cX12_ruleClause 92 = .ok (.iload 4, 2) := by decide +kernel
theorem dX12_ruleClause_94 : decode cX12_ruleClause 94 = .ok (.aload_n 0, 1) := by decide +kernel
theorem dX12_ruleClause_95 : decode cX12_ruleClause 95 = .ok (.getfield 246, 3) := by decide +kernel
theorem dX12_ruleClause_98 : decode cX12_ruleClause 98 = .ok (.iastore, 1) := by decide +kernel
theorem dX12_ruleClause_99 : decode cX12_ruleClause 99 = .ok (.iload_n 3, 1) := by decide +kernel
theorem dX12_ruleClause_100 : decode cX12_ruleClause 100 = .ok (.ifCond .ne 7, 3) := by decide +kernel
theorem dX12_ruleClause_103 : decode cX12_ruleClause 103 = .ok (.aload_n 0, 1) := by decide +kernel
theorem dX12_ruleClause_104 : decode cX12_ruleClause 104 = .ok (.invokevirtual 281, 3) := by decide +kernel
theorem dX12_ruleClause_107 : decode cX12_ruleClause 107 = .ok (.aload_n 0, 1) := by decide +kernel
theorem dX12_ruleClause_108 : decode cX12_ruleClause 108 = .ok (.getfield 108, 3) := by decide +kernel
theorem dX12_ruleClause_111 : decode cX12_ruleClause 111 = .ok (.iload 4, 2) := by decide +kernel
theorem dX12_ruleClause_113 : decode cX12_ruleClause 113 = .ok (.aload_n 0, 1) := by decide +kernel
theorem dX12_ruleClause_114 : decode cX12_ruleClause 114 = .ok (.getfield 246, 3) := by decide +kernel
theorem dX12_ruleClause_117 : decode cX12_ruleClause 117 = .ok (.iastore, 1) := by decide +kernel
theorem dX12_ruleClause_118 : decode cX12_ruleClause 118 = .ok (.aload_n 0, 1) := by decide +kernel
theorem dX12_ruleClause_119 : decode cX12_ruleClause 119 = .ok (.getfield 214, 3) := by decide +kernel
theorem dX12_ruleClause_122 : decode cX12_ruleClause 122 = .ok (.ifCond .ne 21, 3) := by decide +kernel
theorem dX12_ruleClause_125 : decode cX12_ruleClause 125 = .ok (.iload_n 3, 1) := by decide +kernel
theorem dX12_ruleClause_126 : decode cX12_ruleClause 126 = .ok (.ifCond .ne 13, 3) := by decide +kernel
theorem dX12_ruleClause_129 : decode cX12_ruleClause 129 = .ok (.aload_n 0, 1) := by decide +kernel
theorem dX12_ruleClause_130 : decode cX12_ruleClause 130 = .ok (.ldc_w 376, 3) := by decide +kernel
theorem dX12_ruleClause_133 : decode cX12_ruleClause 133 = .ok (.invokevirtual 378, 3) := by decide +kernel
theorem dX12_ruleClause_136 : decode cX12_ruleClause 136 = .ok (.ifCond .eq 7, 3) := by decide +kernel
theorem dX12_ruleClause_139 : decode cX12_ruleClause 139 = .ok (.aload_n 0, 1) := by decide +kernel
theorem dX12_ruleClause_140 : decode cX12_ruleClause 140 = .ok (.invokevirtual 381, 3) := by decide +kernel
theorem dX12_ruleClause_143 : decode cX12_ruleClause 143 = .ok (.aload_n 0, 1) := by decide +kernel
theorem dX12_ruleClause_144 : decode cX12_ruleClause 144 = .ok (.getfield 111, 3) := by decide +kernel
theorem dX12_ruleClause_147 : decode cX12_ruleClause 147 = .ok (.iload 4, 2) := by decide +kernel
theorem dX12_ruleClause_149 : decode cX12_ruleClause 149 = .ok (.aload_n 0, 1) := by decide +kernel
theorem dX12_ruleClause_150 : decode cX12_ruleClause 150 = .ok (.getfield 246, 3) := by decide +kernel
theorem dX12_ruleClause_153 : decode cX12_ruleClause 153 = .ok (.iastore, 1) := by decide +kernel
theorem dX12_ruleClause_154 : decode cX12_ruleClause 154 = .ok (.return_, 1) := by decide +kernel
abbrev D_X12_ruleClause : Nat := 14
set_option maxRecDepth 100000 in
def f_X12_ruleClause (μ0 : Mm) (a1 : Nat) (x2 : Int32) : Option Mm :=
 ((ob μ0 a1 12).bind fun _ =>
    ((f_X12_blanks μ0 a1).bind fun μ3 =>
    ((gI μ3 a1 12 29).bind fun v4 =>
    (nm v4 fun x5 =>
    ((ob μ3 a1 12).bind fun _ =>
    (bd (f_X12_stood μ3 a1 (16 : Nat)) fun v7 μ6 =>
    (nm v7 fun x8 =>
    (if x8 = 0 then
    ((ob μ6 a1 12).bind fun _ =>
    (bd (f_X12_stood μ6 a1 (17 : Nat)) fun v10 μ9 =>
    (if v10 = 0 then
    ((ob μ9 a1 12).bind fun _ =>
    ((f_X12_fails μ9 a1 (0 : Int32) x5).bind fun μ11 =>
    (some μ11)))
    else
    (if x2 = (12 : Int32) then
    ((ob μ9 a1 12).bind fun _ =>
    ((f_X12_fails μ9 a1 (4 : Int32) x5).bind fun μ12 =>
    (some μ12)))
    else
    ((gI μ9 a1 12 29).bind fun v13 =>
    (if x8 = 0 then
    ((pV μ9 a1 12 29 (.int (v13 + (4 : Int32)))).bind fun μ14 =>
    ((gI μ14 a1 12 31).bind fun v15 =>
    (nm (((12 : Int32) * v15) + x2) fun x16 =>
    ((gR μ14 a1 12 46).bind fun v17 =>
    ((sI μ14 v17 2 x16 x8).bind fun μ18 =>
    ((gR μ18 a1 12 42).bind fun v19 =>
    ((gI μ18 a1 12 33).bind fun v20 =>
    ((sI μ18 v19 0 x16 v20).bind fun μ21 =>
    (if x8 = 0 then
    ((ob μ21 a1 12).bind fun _ =>
    ((f_X12_sum μ21 a1).bind fun μ22 =>
    ((gR μ22 a1 12 43).bind fun v23 =>
    ((gI μ22 a1 12 33).bind fun v24 =>
    ((sI μ22 v23 0 x16 v24).bind fun μ25 =>
    ((gI μ25 a1 12 30).bind fun v26 =>
    (if v26 = 0 then
    (if x8 = 0 then
    ((ob μ25 a1 12).bind fun _ =>
    (bd (f_X12_takes μ25 a1 (28 : Nat)) fun v28 μ27 =>
    (if v28 = 0 then
    ((gR μ27 a1 12 44).bind fun v29 =>
    ((gI μ27 a1 12 33).bind fun v30 =>
    ((sI μ27 v29 0 x16 v30).bind fun μ31 =>
    (some μ31))))
    else
    ((ob μ27 a1 12).bind fun _ =>
    ((f_X12_test μ27 a1).bind fun μ32 =>
    ((gR μ32 a1 12 44).bind fun v33 =>
    ((gI μ32 a1 12 33).bind fun v34 =>
    ((sI μ32 v33 0 x16 v34).bind fun μ35 =>
    (some μ35)))))))))
    else
    ((ob μ25 a1 12).bind fun _ =>
    ((f_X12_test μ25 a1).bind fun μ36 =>
    ((gR μ36 a1 12 44).bind fun v37 =>
    ((gI μ36 a1 12 33).bind fun v38 =>
    ((sI μ36 v37 0 x16 v38).bind fun μ39 =>
    (some μ39)))))))
    else
    ((gR μ25 a1 12 44).bind fun v40 =>
    ((gI μ25 a1 12 33).bind fun v41 =>
    ((sI μ25 v40 0 x16 v41).bind fun μ42 =>
    (some μ42)))))))))))
    else
    ((gR μ21 a1 12 43).bind fun v43 =>
    ((gI μ21 a1 12 33).bind fun v44 =>
    ((sI μ21 v43 0 x16 v44).bind fun μ45 =>
    ((gI μ45 a1 12 30).bind fun v46 =>
    (if v46 = 0 then
    (if x8 = 0 then
    ((ob μ45 a1 12).bind fun _ =>
    (bd (f_X12_takes μ45 a1 (28 : Nat)) fun v48 μ47 =>
    (if v48 = 0 then
    ((gR μ47 a1 12 44).bind fun v49 =>
    ((gI μ47 a1 12 33).bind fun v50 =>
    ((sI μ47 v49 0 x16 v50).bind fun μ51 =>
    (some μ51))))
    else
    ((ob μ47 a1 12).bind fun _ =>
    ((f_X12_test μ47 a1).bind fun μ52 =>
    ((gR μ52 a1 12 44).bind fun v53 =>
    ((gI μ52 a1 12 33).bind fun v54 =>
    ((sI μ52 v53 0 x16 v54).bind fun μ55 =>
    (some μ55)))))))))
    else
    ((ob μ45 a1 12).bind fun _ =>
    ((f_X12_test μ45 a1).bind fun μ56 =>
    ((gR μ56 a1 12 44).bind fun v57 =>
    ((gI μ56 a1 12 33).bind fun v58 =>
    ((sI μ56 v57 0 x16 v58).bind fun μ59 =>
    (some μ59)))))))
    else
    ((gR μ45 a1 12 44).bind fun v60 =>
    ((gI μ45 a1 12 33).bind fun v61 =>
    ((sI μ45 v60 0 x16 v61).bind fun μ62 =>
    (some μ62))))))))))))))))))
    else
    ((pV μ9 a1 12 29 (.int (v13 + (5 : Int32)))).bind fun μ63 =>
    ((gI μ63 a1 12 31).bind fun v64 =>
    (nm (((12 : Int32) * v64) + x2) fun x65 =>
    ((gR μ63 a1 12 46).bind fun v66 =>
    ((sI μ63 v66 2 x65 x8).bind fun μ67 =>
    ((gR μ67 a1 12 42).bind fun v68 =>
    ((gI μ67 a1 12 33).bind fun v69 =>
    ((sI μ67 v68 0 x65 v69).bind fun μ70 =>
    (if x8 = 0 then
    ((ob μ70 a1 12).bind fun _ =>
    ((f_X12_sum μ70 a1).bind fun μ71 =>
    ((gR μ71 a1 12 43).bind fun v72 =>
    ((gI μ71 a1 12 33).bind fun v73 =>
    ((sI μ71 v72 0 x65 v73).bind fun μ74 =>
    ((gI μ74 a1 12 30).bind fun v75 =>
    (if v75 = 0 then
    (if x8 = 0 then
    ((ob μ74 a1 12).bind fun _ =>
    (bd (f_X12_takes μ74 a1 (28 : Nat)) fun v77 μ76 =>
    (if v77 = 0 then
    ((gR μ76 a1 12 44).bind fun v78 =>
    ((gI μ76 a1 12 33).bind fun v79 =>
    ((sI μ76 v78 0 x65 v79).bind fun μ80 =>
    (some μ80))))
    else
    ((ob μ76 a1 12).bind fun _ =>
    ((f_X12_test μ76 a1).bind fun μ81 =>
    ((gR μ81 a1 12 44).bind fun v82 =>
    ((gI μ81 a1 12 33).bind fun v83 =>
    ((sI μ81 v82 0 x65 v83).bind fun μ84 =>
    (some μ84)))))))))
    else
    ((ob μ74 a1 12).bind fun _ =>
    ((f_X12_test μ74 a1).bind fun μ85 =>
    ((gR μ85 a1 12 44).bind fun v86 =>
    ((gI μ85 a1 12 33).bind fun v87 =>
    ((sI μ85 v86 0 x65 v87).bind fun μ88 =>
    (some μ88)))))))
    else
    ((gR μ74 a1 12 44).bind fun v89 =>
    ((gI μ74 a1 12 33).bind fun v90 =>
    ((sI μ74 v89 0 x65 v90).bind fun μ91 =>
    (some μ91)))))))))))
    else
    ((gR μ70 a1 12 43).bind fun v92 =>
    ((gI μ70 a1 12 33).bind fun v93 =>
    ((sI μ70 v92 0 x65 v93).bind fun μ94 =>
    ((gI μ94 a1 12 30).bind fun v95 =>
    (if v95 = 0 then
    (if x8 = 0 then
    ((ob μ94 a1 12).bind fun _ =>
    (bd (f_X12_takes μ94 a1 (28 : Nat)) fun v97 μ96 =>
    (if v97 = 0 then
    ((gR μ96 a1 12 44).bind fun v98 =>
    ((gI μ96 a1 12 33).bind fun v99 =>
    ((sI μ96 v98 0 x65 v99).bind fun μ100 =>
    (some μ100))))
    else
    ((ob μ96 a1 12).bind fun _ =>
    ((f_X12_test μ96 a1).bind fun μ101 =>
    ((gR μ101 a1 12 44).bind fun v102 =>
    ((gI μ101 a1 12 33).bind fun v103 =>
    ((sI μ101 v102 0 x65 v103).bind fun μ104 =>
    (some μ104)))))))))
    else
    ((ob μ94 a1 12).bind fun _ =>
    ((f_X12_test μ94 a1).bind fun μ105 =>
    ((gR μ105 a1 12 44).bind fun v106 =>
    ((gI μ105 a1 12 33).bind fun v107 =>
    ((sI μ105 v106 0 x65 v107).bind fun μ108 =>
    (some μ108)))))))
    else
    ((gR μ94 a1 12 44).bind fun v109 =>
    ((gI μ94 a1 12 33).bind fun v110 =>
    ((sI μ94 v109 0 x65 v110).bind fun μ111 =>
    (some μ111))))))))))))))))))))))))
    else
    (if x2 = (12 : Int32) then
    ((ob μ6 a1 12).bind fun _ =>
    ((f_X12_fails μ6 a1 (4 : Int32) x5).bind fun μ112 =>
    (some μ112)))
    else
    ((gI μ6 a1 12 29).bind fun v113 =>
    (if x8 = 0 then
    ((pV μ6 a1 12 29 (.int (v113 + (4 : Int32)))).bind fun μ114 =>
    ((gI μ114 a1 12 31).bind fun v115 =>
    (nm (((12 : Int32) * v115) + x2) fun x116 =>
    ((gR μ114 a1 12 46).bind fun v117 =>
    ((sI μ114 v117 2 x116 x8).bind fun μ118 =>
    ((gR μ118 a1 12 42).bind fun v119 =>
    ((gI μ118 a1 12 33).bind fun v120 =>
    ((sI μ118 v119 0 x116 v120).bind fun μ121 =>
    (if x8 = 0 then
    ((ob μ121 a1 12).bind fun _ =>
    ((f_X12_sum μ121 a1).bind fun μ122 =>
    ((gR μ122 a1 12 43).bind fun v123 =>
    ((gI μ122 a1 12 33).bind fun v124 =>
    ((sI μ122 v123 0 x116 v124).bind fun μ125 =>
    ((gI μ125 a1 12 30).bind fun v126 =>
    (if v126 = 0 then
    (if x8 = 0 then
    ((ob μ125 a1 12).bind fun _ =>
    (bd (f_X12_takes μ125 a1 (28 : Nat)) fun v128 μ127 =>
    (if v128 = 0 then
    ((gR μ127 a1 12 44).bind fun v129 =>
    ((gI μ127 a1 12 33).bind fun v130 =>
    ((sI μ127 v129 0 x116 v130).bind fun μ131 =>
    (some μ131))))
    else
    ((ob μ127 a1 12).bind fun _ =>
    ((f_X12_test μ127 a1).bind fun μ132 =>
    ((gR μ132 a1 12 44).bind fun v133 =>
    ((gI μ132 a1 12 33).bind fun v134 =>
    ((sI μ132 v133 0 x116 v134).bind fun μ135 =>
    (some μ135)))))))))
    else
    ((ob μ125 a1 12).bind fun _ =>
    ((f_X12_test μ125 a1).bind fun μ136 =>
    ((gR μ136 a1 12 44).bind fun v137 =>
    ((gI μ136 a1 12 33).bind fun v138 =>
    ((sI μ136 v137 0 x116 v138).bind fun μ139 =>
    (some μ139)))))))
    else
    ((gR μ125 a1 12 44).bind fun v140 =>
    ((gI μ125 a1 12 33).bind fun v141 =>
    ((sI μ125 v140 0 x116 v141).bind fun μ142 =>
    (some μ142)))))))))))
    else
    ((gR μ121 a1 12 43).bind fun v143 =>
    ((gI μ121 a1 12 33).bind fun v144 =>
    ((sI μ121 v143 0 x116 v144).bind fun μ145 =>
    ((gI μ145 a1 12 30).bind fun v146 =>
    (if v146 = 0 then
    (if x8 = 0 then
    ((ob μ145 a1 12).bind fun _ =>
    (bd (f_X12_takes μ145 a1 (28 : Nat)) fun v148 μ147 =>
    (if v148 = 0 then
    ((gR μ147 a1 12 44).bind fun v149 =>
    ((gI μ147 a1 12 33).bind fun v150 =>
    ((sI μ147 v149 0 x116 v150).bind fun μ151 =>
    (some μ151))))
    else
    ((ob μ147 a1 12).bind fun _ =>
    ((f_X12_test μ147 a1).bind fun μ152 =>
    ((gR μ152 a1 12 44).bind fun v153 =>
    ((gI μ152 a1 12 33).bind fun v154 =>
    ((sI μ152 v153 0 x116 v154).bind fun μ155 =>
    (some μ155)))))))))
    else
    ((ob μ145 a1 12).bind fun _ =>
    ((f_X12_test μ145 a1).bind fun μ156 =>
    ((gR μ156 a1 12 44).bind fun v157 =>
    ((gI μ156 a1 12 33).bind fun v158 =>
    ((sI μ156 v157 0 x116 v158).bind fun μ159 =>
    (some μ159)))))))
    else
    ((gR μ145 a1 12 44).bind fun v160 =>
    ((gI μ145 a1 12 33).bind fun v161 =>
    ((sI μ145 v160 0 x116 v161).bind fun μ162 =>
    (some μ162))))))))))))))))))
    else
    ((pV μ6 a1 12 29 (.int (v113 + (5 : Int32)))).bind fun μ163 =>
    ((gI μ163 a1 12 31).bind fun v164 =>
    (nm (((12 : Int32) * v164) + x2) fun x165 =>
    ((gR μ163 a1 12 46).bind fun v166 =>
    ((sI μ163 v166 2 x165 x8).bind fun μ167 =>
    ((gR μ167 a1 12 42).bind fun v168 =>
    ((gI μ167 a1 12 33).bind fun v169 =>
    ((sI μ167 v168 0 x165 v169).bind fun μ170 =>
    (if x8 = 0 then
    ((ob μ170 a1 12).bind fun _ =>
    ((f_X12_sum μ170 a1).bind fun μ171 =>
    ((gR μ171 a1 12 43).bind fun v172 =>
    ((gI μ171 a1 12 33).bind fun v173 =>
    ((sI μ171 v172 0 x165 v173).bind fun μ174 =>
    ((gI μ174 a1 12 30).bind fun v175 =>
    (if v175 = 0 then
    (if x8 = 0 then
    ((ob μ174 a1 12).bind fun _ =>
    (bd (f_X12_takes μ174 a1 (28 : Nat)) fun v177 μ176 =>
    (if v177 = 0 then
    ((gR μ176 a1 12 44).bind fun v178 =>
    ((gI μ176 a1 12 33).bind fun v179 =>
    ((sI μ176 v178 0 x165 v179).bind fun μ180 =>
    (some μ180))))
    else
    ((ob μ176 a1 12).bind fun _ =>
    ((f_X12_test μ176 a1).bind fun μ181 =>
    ((gR μ181 a1 12 44).bind fun v182 =>
    ((gI μ181 a1 12 33).bind fun v183 =>
    ((sI μ181 v182 0 x165 v183).bind fun μ184 =>
    (some μ184)))))))))
    else
    ((ob μ174 a1 12).bind fun _ =>
    ((f_X12_test μ174 a1).bind fun μ185 =>
    ((gR μ185 a1 12 44).bind fun v186 =>
    ((gI μ185 a1 12 33).bind fun v187 =>
    ((sI μ185 v186 0 x165 v187).bind fun μ188 =>
    (some μ188)))))))
    else
    ((gR μ174 a1 12 44).bind fun v189 =>
    ((gI μ174 a1 12 33).bind fun v190 =>
    ((sI μ174 v189 0 x165 v190).bind fun μ191 =>
    (some μ191)))))))))))
    else
    ((gR μ170 a1 12 43).bind fun v192 =>
    ((gI μ170 a1 12 33).bind fun v193 =>
    ((sI μ170 v192 0 x165 v193).bind fun μ194 =>
    ((gI μ194 a1 12 30).bind fun v195 =>
    (if v195 = 0 then
    (if x8 = 0 then
    ((ob μ194 a1 12).bind fun _ =>
    (bd (f_X12_takes μ194 a1 (28 : Nat)) fun v197 μ196 =>
    (if v197 = 0 then
    ((gR μ196 a1 12 44).bind fun v198 =>
    ((gI μ196 a1 12 33).bind fun v199 =>
    ((sI μ196 v198 0 x165 v199).bind fun μ200 =>
    (some μ200))))
    else
    ((ob μ196 a1 12).bind fun _ =>
    ((f_X12_test μ196 a1).bind fun μ201 =>
    ((gR μ201 a1 12 44).bind fun v202 =>
    ((gI μ201 a1 12 33).bind fun v203 =>
    ((sI μ201 v202 0 x165 v203).bind fun μ204 =>
    (some μ204)))))))))
    else
    ((ob μ194 a1 12).bind fun _ =>
    ((f_X12_test μ194 a1).bind fun μ205 =>
    ((gR μ205 a1 12 44).bind fun v206 =>
    ((gI μ205 a1 12 33).bind fun v207 =>
    ((sI μ205 v206 0 x165 v207).bind fun μ208 =>
    (some μ208)))))))
    else
    ((gR μ194 a1 12 44).bind fun v209 =>
    ((gI μ194 a1 12 33).bind fun v210 =>
    ((sI μ194 v209 0 x165 v210).bind fun μ211 =>
    (some μ211)))))))))))))))))))))))))))))
set_option maxHeartbeats 4000000 in
set_option maxRecDepth 100000 in
theorem f_X12_ruleClause_ok {l : Launch} {G : GG} {μ0 : Mm} {a1 : Nat} {x2 : Int32} {μ' : Mm} (hf : f_X12_ruleClause μ0 a1 x2 = some μ') : EvM l G D_X12_ruleClause yX12_ruleClause cX12_ruleClause 5 none [.ref a1, .int x2] μ0 none μ' := by
  show Ev l G D_X12_ruleClause yX12_ruleClause cX12_ruleClause 5 none 0 [(0, .ref a1), (1, .int x2)] [] μ0 none μ'
  unfold f_X12_ruleClause at hf
  refine E_aload_n (pc := 0) dX12_ruleClause_0 rfl ?_
  refine E_Vv (pc := 1) (d2 := D_X12_blanks) (ci := 12) [] dX12_ruleClause_1 ml_X12_236 mf_X12_blanks im_X12_blanks rfl rfl rfl (by decide) (Nat.le_of_ble_eq_true rfl) (Nat.le_of_ble_eq_true rfl) rfl (fun _ h => f_X12_blanks_ok h) hf (fun μ3 hf => ?_)
  refine E_aload_n (pc := 4) dX12_ruleClause_4 rfl ?_
  refine E_getI (pc := 5) dX12_ruleClause_5 fl_X12_217 hf (fun v4 hf => ?_)
  refine E_istore_n (pc := 8) (ls' := fun x5 => [(2, .int x5), (0, .ref a1), (1, .int x2)]) dX12_ruleClause_8 (by decide) (fun _ => rfl) hf (fun x5 hf => ?_)
  refine E_aload_n (pc := 9) dX12_ruleClause_9 rfl ?_
  refine E_ldcwS (pc := 10) (16 : Nat) dX12_ruleClause_10 (by decide) ⟨rfl, rfl⟩ ?_
  refine E_Vi (pc := 13) (d2 := D_X12_stood) (ci := 12) [.ref (16 : Nat)] dX12_ruleClause_13 ml_X12_239 mf_X12_stood im_X12_stood rfl rfl rfl (by decide) (Nat.le_of_ble_eq_true rfl) (Nat.le_of_ble_eq_true rfl) rfl (fun _ _ h => f_X12_stood_ok h) hf (fun v7 μ6 hf => ?_)
  refine E_istore_n (pc := 16) (ls' := fun x8 => [(3, .int x8), (2, .int x5), (0, .ref a1), (1, .int x2)]) dX12_ruleClause_16 (by decide) (fun _ => rfl) hf (fun x8 hf => ?_)
  refine E_iload_n (pc := 17) dX12_ruleClause_17 rfl ?_
  refine E_if_ne (pc := 18) (tgt := 38) dX12_ruleClause_18 (by decide) hf (fun hf => ?_) (fun hf => ?_)
  · refine E_aload_n (pc := 21) dX12_ruleClause_21 rfl ?_
    refine E_ldcwS (pc := 22) (17 : Nat) dX12_ruleClause_22 (by decide) ⟨rfl, rfl⟩ ?_
    refine E_Vi (pc := 25) (d2 := D_X12_stood) (ci := 12) [.ref (17 : Nat)] dX12_ruleClause_25 ml_X12_239 mf_X12_stood im_X12_stood rfl rfl rfl (by decide) (Nat.le_of_ble_eq_true rfl) (Nat.le_of_ble_eq_true rfl) rfl (fun _ _ h => f_X12_stood_ok h) hf (fun v10 μ9 hf => ?_)
    refine E_if_ne (pc := 28) (tgt := 38) dX12_ruleClause_28 (by decide) hf (fun hf => ?_) (fun hf => ?_)
    · refine E_aload_n (pc := 31) dX12_ruleClause_31 rfl ?_
      refine E_iconst (pc := 32) (v := (0 : Int32)) dX12_ruleClause_32 (by decide) ?_
      refine E_iload_n (pc := 33) dX12_ruleClause_33 rfl ?_
      refine E_Vv (pc := 34) (d2 := D_X12_fails) (ci := 12) [.int (0 : Int32), .int x5] dX12_ruleClause_34 ml_X12_252 mf_X12_fails im_X12_fails rfl rfl rfl (by decide) (Nat.le_of_ble_eq_true rfl) (Nat.le_of_ble_eq_true rfl) rfl (fun _ h => f_X12_fails_ok h) hf (fun μ11 hf => ?_)
      exact E_vret (pc := 37) dX12_ruleClause_37 rfl hf
    · refine E_iload_n (pc := 38) dX12_ruleClause_38 rfl ?_
      refine E_bipush (pc := 39) (v := (12 : Int32)) dX12_ruleClause_39 (by decide) ?_
      refine E_icmp_ne (pc := 41) (tgt := 51) dX12_ruleClause_41 (by decide) hf (fun hf => ?_) (fun hf => ?_)
      · refine E_aload_n (pc := 44) dX12_ruleClause_44 rfl ?_
        refine E_iconst (pc := 45) (v := (4 : Int32)) dX12_ruleClause_45 (by decide) ?_
        refine E_iload_n (pc := 46) dX12_ruleClause_46 rfl ?_
        refine E_Vv (pc := 47) (d2 := D_X12_fails) (ci := 12) [.int (4 : Int32), .int x5] dX12_ruleClause_47 ml_X12_252 mf_X12_fails im_X12_fails rfl rfl rfl (by decide) (Nat.le_of_ble_eq_true rfl) (Nat.le_of_ble_eq_true rfl) rfl (fun _ h => f_X12_fails_ok h) hf (fun μ12 hf => ?_)
        exact E_vret (pc := 50) dX12_ruleClause_50 rfl hf
      · refine E_aload_n (pc := 51) dX12_ruleClause_51 rfl ?_
        refine E_dup (pc := 52) dX12_ruleClause_52 rfl ?_
        refine E_getI (pc := 53) dX12_ruleClause_53 fl_X12_217 hf (fun v13 hf => ?_)
        refine E_iload_n (pc := 56) dX12_ruleClause_56 rfl ?_
        refine E_if_eq (pc := 57) (tgt := 64) dX12_ruleClause_57 (by decide) hf (fun hf => ?_) (fun hf => ?_)
        · refine E_iconst (pc := 64) (v := (4 : Int32)) dX12_ruleClause_64 (by decide) ?_
          refine E_iadd (pc := 65) dX12_ruleClause_65 ?_
          refine E_putI (pc := 66) dX12_ruleClause_66 (pl_X12_217 _) hf (fun μ14 hf => ?_)
          refine E_bipush (pc := 69) (v := (12 : Int32)) dX12_ruleClause_69 (by decide) ?_
          refine E_aload_n (pc := 71) dX12_ruleClause_71 rfl ?_
          refine E_getI (pc := 72) dX12_ruleClause_72 fl_X12_243 hf (fun v15 hf => ?_)
          refine E_imul (pc := 75) dX12_ruleClause_75 ?_
          refine E_iload_n (pc := 76) dX12_ruleClause_76 rfl ?_
          refine E_iadd (pc := 77) dX12_ruleClause_77 ?_
          refine E_istore (pc := 78) (ls' := fun x16 => [(4, .int x16), (3, .int x8), (2, .int x5), (0, .ref a1), (1, .int x2)]) dX12_ruleClause_78 (by decide) (fun _ => rfl) hf (fun x16 hf => ?_)
          refine E_aload_n (pc := 80) dX12_ruleClause_80 rfl ?_
          refine E_getR (pc := 81) dX12_ruleClause_81 fl_X12_117 hf (fun v17 hf => ?_)
          refine E_iload (pc := 84) dX12_ruleClause_84 rfl ?_
          refine E_iload_n (pc := 86) dX12_ruleClause_86 rfl ?_
          refine E_zast (pc := 87) dX12_ruleClause_87 hf (fun μ18 hf => ?_)
          refine E_aload_n (pc := 88) dX12_ruleClause_88 rfl ?_
          refine E_getR (pc := 89) dX12_ruleClause_89 fl_X12_105 hf (fun v19 hf => ?_)
          refine E_iload (pc := 92) dX12_ruleClause_92 rfl ?_
          refine E_aload_n (pc := 94) dX12_ruleClause_94 rfl ?_
          refine E_getI (pc := 95) dX12_ruleClause_95 fl_X12_246 hf (fun v20 hf => ?_)
          refine E_iast (pc := 98) dX12_ruleClause_98 hf (fun μ21 hf => ?_)
          refine E_iload_n (pc := 99) dX12_ruleClause_99 rfl ?_
          refine E_if_ne (pc := 100) (tgt := 107) dX12_ruleClause_100 (by decide) hf (fun hf => ?_) (fun hf => ?_)
          · refine E_aload_n (pc := 103) dX12_ruleClause_103 rfl ?_
            refine E_Vv (pc := 104) (d2 := D_X12_sum) (ci := 12) [] dX12_ruleClause_104 ml_X12_281 mf_X12_sum im_X12_sum rfl rfl rfl (by decide) (Nat.le_of_ble_eq_true rfl) (Nat.le_of_ble_eq_true rfl) rfl (fun _ h => f_X12_sum_ok h) hf (fun μ22 hf => ?_)
            refine E_aload_n (pc := 107) dX12_ruleClause_107 rfl ?_
            refine E_getR (pc := 108) dX12_ruleClause_108 fl_X12_108 hf (fun v23 hf => ?_)
            refine E_iload (pc := 111) dX12_ruleClause_111 rfl ?_
            refine E_aload_n (pc := 113) dX12_ruleClause_113 rfl ?_
            refine E_getI (pc := 114) dX12_ruleClause_114 fl_X12_246 hf (fun v24 hf => ?_)
            refine E_iast (pc := 117) dX12_ruleClause_117 hf (fun μ25 hf => ?_)
            refine E_aload_n (pc := 118) dX12_ruleClause_118 rfl ?_
            refine E_getI (pc := 119) dX12_ruleClause_119 fl_X12_214 hf (fun v26 hf => ?_)
            refine E_if_ne (pc := 122) (tgt := 143) dX12_ruleClause_122 (by decide) hf (fun hf => ?_) (fun hf => ?_)
            · refine E_iload_n (pc := 125) dX12_ruleClause_125 rfl ?_
              refine E_if_ne (pc := 126) (tgt := 139) dX12_ruleClause_126 (by decide) hf (fun hf => ?_) (fun hf => ?_)
              · refine E_aload_n (pc := 129) dX12_ruleClause_129 rfl ?_
                refine E_ldcwS (pc := 130) (28 : Nat) dX12_ruleClause_130 (by decide) ⟨rfl, rfl⟩ ?_
                refine E_Vi (pc := 133) (d2 := D_X12_takes) (ci := 12) [.ref (28 : Nat)] dX12_ruleClause_133 ml_X12_378 mf_X12_takes im_X12_takes rfl rfl rfl (by decide) (Nat.le_of_ble_eq_true rfl) (Nat.le_of_ble_eq_true rfl) rfl (fun _ _ h => f_X12_takes_ok h) hf (fun v28 μ27 hf => ?_)
                refine E_if_eq (pc := 136) (tgt := 143) dX12_ruleClause_136 (by decide) hf (fun hf => ?_) (fun hf => ?_)
                · refine E_aload_n (pc := 143) dX12_ruleClause_143 rfl ?_
                  refine E_getR (pc := 144) dX12_ruleClause_144 fl_X12_111 hf (fun v29 hf => ?_)
                  refine E_iload (pc := 147) dX12_ruleClause_147 rfl ?_
                  refine E_aload_n (pc := 149) dX12_ruleClause_149 rfl ?_
                  refine E_getI (pc := 150) dX12_ruleClause_150 fl_X12_246 hf (fun v30 hf => ?_)
                  refine E_iast (pc := 153) dX12_ruleClause_153 hf (fun μ31 hf => ?_)
                  exact E_vret (pc := 154) dX12_ruleClause_154 rfl hf
                · refine E_aload_n (pc := 139) dX12_ruleClause_139 rfl ?_
                  refine E_Vv (pc := 140) (d2 := D_X12_test) (ci := 12) [] dX12_ruleClause_140 ml_X12_381 mf_X12_test im_X12_test rfl rfl rfl (by decide) (Nat.le_of_ble_eq_true rfl) (Nat.le_of_ble_eq_true rfl) rfl (fun _ h => f_X12_test_ok h) hf (fun μ32 hf => ?_)
                  refine E_aload_n (pc := 143) dX12_ruleClause_143 rfl ?_
                  refine E_getR (pc := 144) dX12_ruleClause_144 fl_X12_111 hf (fun v33 hf => ?_)
                  refine E_iload (pc := 147) dX12_ruleClause_147 rfl ?_
                  refine E_aload_n (pc := 149) dX12_ruleClause_149 rfl ?_
                  refine E_getI (pc := 150) dX12_ruleClause_150 fl_X12_246 hf (fun v34 hf => ?_)
                  refine E_iast (pc := 153) dX12_ruleClause_153 hf (fun μ35 hf => ?_)
                  exact E_vret (pc := 154) dX12_ruleClause_154 rfl hf
              · refine E_aload_n (pc := 139) dX12_ruleClause_139 rfl ?_
                refine E_Vv (pc := 140) (d2 := D_X12_test) (ci := 12) [] dX12_ruleClause_140 ml_X12_381 mf_X12_test im_X12_test rfl rfl rfl (by decide) (Nat.le_of_ble_eq_true rfl) (Nat.le_of_ble_eq_true rfl) rfl (fun _ h => f_X12_test_ok h) hf (fun μ36 hf => ?_)
                refine E_aload_n (pc := 143) dX12_ruleClause_143 rfl ?_
                refine E_getR (pc := 144) dX12_ruleClause_144 fl_X12_111 hf (fun v37 hf => ?_)
                refine E_iload (pc := 147) dX12_ruleClause_147 rfl ?_
                refine E_aload_n (pc := 149) dX12_ruleClause_149 rfl ?_
                refine E_getI (pc := 150) dX12_ruleClause_150 fl_X12_246 hf (fun v38 hf => ?_)
                refine E_iast (pc := 153) dX12_ruleClause_153 hf (fun μ39 hf => ?_)
                exact E_vret (pc := 154) dX12_ruleClause_154 rfl hf
            · refine E_aload_n (pc := 143) dX12_ruleClause_143 rfl ?_
              refine E_getR (pc := 144) dX12_ruleClause_144 fl_X12_111 hf (fun v40 hf => ?_)
              refine E_iload (pc := 147) dX12_ruleClause_147 rfl ?_
              refine E_aload_n (pc := 149) dX12_ruleClause_149 rfl ?_
              refine E_getI (pc := 150) dX12_ruleClause_150 fl_X12_246 hf (fun v41 hf => ?_)
              refine E_iast (pc := 153) dX12_ruleClause_153 hf (fun μ42 hf => ?_)
              exact E_vret (pc := 154) dX12_ruleClause_154 rfl hf
          · refine E_aload_n (pc := 107) dX12_ruleClause_107 rfl ?_
            refine E_getR (pc := 108) dX12_ruleClause_108 fl_X12_108 hf (fun v43 hf => ?_)
            refine E_iload (pc := 111) dX12_ruleClause_111 rfl ?_
            refine E_aload_n (pc := 113) dX12_ruleClause_113 rfl ?_
            refine E_getI (pc := 114) dX12_ruleClause_114 fl_X12_246 hf (fun v44 hf => ?_)
            refine E_iast (pc := 117) dX12_ruleClause_117 hf (fun μ45 hf => ?_)
            refine E_aload_n (pc := 118) dX12_ruleClause_118 rfl ?_
            refine E_getI (pc := 119) dX12_ruleClause_119 fl_X12_214 hf (fun v46 hf => ?_)
            refine E_if_ne (pc := 122) (tgt := 143) dX12_ruleClause_122 (by decide) hf (fun hf => ?_) (fun hf => ?_)
            · refine E_iload_n (pc := 125) dX12_ruleClause_125 rfl ?_
              refine E_if_ne (pc := 126) (tgt := 139) dX12_ruleClause_126 (by decide) hf (fun hf => ?_) (fun hf => ?_)
              · refine E_aload_n (pc := 129) dX12_ruleClause_129 rfl ?_
                refine E_ldcwS (pc := 130) (28 : Nat) dX12_ruleClause_130 (by decide) ⟨rfl, rfl⟩ ?_
                refine E_Vi (pc := 133) (d2 := D_X12_takes) (ci := 12) [.ref (28 : Nat)] dX12_ruleClause_133 ml_X12_378 mf_X12_takes im_X12_takes rfl rfl rfl (by decide) (Nat.le_of_ble_eq_true rfl) (Nat.le_of_ble_eq_true rfl) rfl (fun _ _ h => f_X12_takes_ok h) hf (fun v48 μ47 hf => ?_)
                refine E_if_eq (pc := 136) (tgt := 143) dX12_ruleClause_136 (by decide) hf (fun hf => ?_) (fun hf => ?_)
                · refine E_aload_n (pc := 143) dX12_ruleClause_143 rfl ?_
                  refine E_getR (pc := 144) dX12_ruleClause_144 fl_X12_111 hf (fun v49 hf => ?_)
                  refine E_iload (pc := 147) dX12_ruleClause_147 rfl ?_
                  refine E_aload_n (pc := 149) dX12_ruleClause_149 rfl ?_
                  refine E_getI (pc := 150) dX12_ruleClause_150 fl_X12_246 hf (fun v50 hf => ?_)
                  refine E_iast (pc := 153) dX12_ruleClause_153 hf (fun μ51 hf => ?_)
                  exact E_vret (pc := 154) dX12_ruleClause_154 rfl hf
                · refine E_aload_n (pc := 139) dX12_ruleClause_139 rfl ?_
                  refine E_Vv (pc := 140) (d2 := D_X12_test) (ci := 12) [] dX12_ruleClause_140 ml_X12_381 mf_X12_test im_X12_test rfl rfl rfl (by decide) (Nat.le_of_ble_eq_true rfl) (Nat.le_of_ble_eq_true rfl) rfl (fun _ h => f_X12_test_ok h) hf (fun μ52 hf => ?_)
                  refine E_aload_n (pc := 143) dX12_ruleClause_143 rfl ?_
                  refine E_getR (pc := 144) dX12_ruleClause_144 fl_X12_111 hf (fun v53 hf => ?_)
                  refine E_iload (pc := 147) dX12_ruleClause_147 rfl ?_
                  refine E_aload_n (pc := 149) dX12_ruleClause_149 rfl ?_
                  refine E_getI (pc := 150) dX12_ruleClause_150 fl_X12_246 hf (fun v54 hf => ?_)
                  refine E_iast (pc := 153) dX12_ruleClause_153 hf (fun μ55 hf => ?_)
                  exact E_vret (pc := 154) dX12_ruleClause_154 rfl hf
              · refine E_aload_n (pc := 139) dX12_ruleClause_139 rfl ?_
                refine E_Vv (pc := 140) (d2 := D_X12_test) (ci := 12) [] dX12_ruleClause_140 ml_X12_381 mf_X12_test im_X12_test rfl rfl rfl (by decide) (Nat.le_of_ble_eq_true rfl) (Nat.le_of_ble_eq_true rfl) rfl (fun _ h => f_X12_test_ok h) hf (fun μ56 hf => ?_)
                refine E_aload_n (pc := 143) dX12_ruleClause_143 rfl ?_
                refine E_getR (pc := 144) dX12_ruleClause_144 fl_X12_111 hf (fun v57 hf => ?_)
                refine E_iload (pc := 147) dX12_ruleClause_147 rfl ?_
                refine E_aload_n (pc := 149) dX12_ruleClause_149 rfl ?_
                refine E_getI (pc := 150) dX12_ruleClause_150 fl_X12_246 hf (fun v58 hf => ?_)
                refine E_iast (pc := 153) dX12_ruleClause_153 hf (fun μ59 hf => ?_)
                exact E_vret (pc := 154) dX12_ruleClause_154 rfl hf
            · refine E_aload_n (pc := 143) dX12_ruleClause_143 rfl ?_
              refine E_getR (pc := 144) dX12_ruleClause_144 fl_X12_111 hf (fun v60 hf => ?_)
              refine E_iload (pc := 147) dX12_ruleClause_147 rfl ?_
              refine E_aload_n (pc := 149) dX12_ruleClause_149 rfl ?_
              refine E_getI (pc := 150) dX12_ruleClause_150 fl_X12_246 hf (fun v61 hf => ?_)
              refine E_iast (pc := 153) dX12_ruleClause_153 hf (fun μ62 hf => ?_)
              exact E_vret (pc := 154) dX12_ruleClause_154 rfl hf
        · refine E_iconst (pc := 60) (v := (5 : Int32)) dX12_ruleClause_60 (by decide) ?_
          refine E_goto (pc := 61) (tgt := 65) dX12_ruleClause_61 (by decide) ?_
          refine E_iadd (pc := 65) dX12_ruleClause_65 ?_
          refine E_putI (pc := 66) dX12_ruleClause_66 (pl_X12_217 _) hf (fun μ63 hf => ?_)
          refine E_bipush (pc := 69) (v := (12 : Int32)) dX12_ruleClause_69 (by decide) ?_
          refine E_aload_n (pc := 71) dX12_ruleClause_71 rfl ?_
          refine E_getI (pc := 72) dX12_ruleClause_72 fl_X12_243 hf (fun v64 hf => ?_)
          refine E_imul (pc := 75) dX12_ruleClause_75 ?_
          refine E_iload_n (pc := 76) dX12_ruleClause_76 rfl ?_
          refine E_iadd (pc := 77) dX12_ruleClause_77 ?_
          refine E_istore (pc := 78) (ls' := fun x65 => [(4, .int x65), (3, .int x8), (2, .int x5), (0, .ref a1), (1, .int x2)]) dX12_ruleClause_78 (by decide) (fun _ => rfl) hf (fun x65 hf => ?_)
          refine E_aload_n (pc := 80) dX12_ruleClause_80 rfl ?_
          refine E_getR (pc := 81) dX12_ruleClause_81 fl_X12_117 hf (fun v66 hf => ?_)
          refine E_iload (pc := 84) dX12_ruleClause_84 rfl ?_
          refine E_iload_n (pc := 86) dX12_ruleClause_86 rfl ?_
          refine E_zast (pc := 87) dX12_ruleClause_87 hf (fun μ67 hf => ?_)
          refine E_aload_n (pc := 88) dX12_ruleClause_88 rfl ?_
          refine E_getR (pc := 89) dX12_ruleClause_89 fl_X12_105 hf (fun v68 hf => ?_)
          refine E_iload (pc := 92) dX12_ruleClause_92 rfl ?_
          refine E_aload_n (pc := 94) dX12_ruleClause_94 rfl ?_
          refine E_getI (pc := 95) dX12_ruleClause_95 fl_X12_246 hf (fun v69 hf => ?_)
          refine E_iast (pc := 98) dX12_ruleClause_98 hf (fun μ70 hf => ?_)
          refine E_iload_n (pc := 99) dX12_ruleClause_99 rfl ?_
          refine E_if_ne (pc := 100) (tgt := 107) dX12_ruleClause_100 (by decide) hf (fun hf => ?_) (fun hf => ?_)
          · refine E_aload_n (pc := 103) dX12_ruleClause_103 rfl ?_
            refine E_Vv (pc := 104) (d2 := D_X12_sum) (ci := 12) [] dX12_ruleClause_104 ml_X12_281 mf_X12_sum im_X12_sum rfl rfl rfl (by decide) (Nat.le_of_ble_eq_true rfl) (Nat.le_of_ble_eq_true rfl) rfl (fun _ h => f_X12_sum_ok h) hf (fun μ71 hf => ?_)
            refine E_aload_n (pc := 107) dX12_ruleClause_107 rfl ?_
            refine E_getR (pc := 108) dX12_ruleClause_108 fl_X12_108 hf (fun v72 hf => ?_)
            refine E_iload (pc := 111) dX12_ruleClause_111 rfl ?_
            refine E_aload_n (pc := 113) dX12_ruleClause_113 rfl ?_
            refine E_getI (pc := 114) dX12_ruleClause_114 fl_X12_246 hf (fun v73 hf => ?_)
            refine E_iast (pc := 117) dX12_ruleClause_117 hf (fun μ74 hf => ?_)
            refine E_aload_n (pc := 118) dX12_ruleClause_118 rfl ?_
            refine E_getI (pc := 119) dX12_ruleClause_119 fl_X12_214 hf (fun v75 hf => ?_)
            refine E_if_ne (pc := 122) (tgt := 143) dX12_ruleClause_122 (by decide) hf (fun hf => ?_) (fun hf => ?_)
            · refine E_iload_n (pc := 125) dX12_ruleClause_125 rfl ?_
              refine E_if_ne (pc := 126) (tgt := 139) dX12_ruleClause_126 (by decide) hf (fun hf => ?_) (fun hf => ?_)
              · refine E_aload_n (pc := 129) dX12_ruleClause_129 rfl ?_
                refine E_ldcwS (pc := 130) (28 : Nat) dX12_ruleClause_130 (by decide) ⟨rfl, rfl⟩ ?_
                refine E_Vi (pc := 133) (d2 := D_X12_takes) (ci := 12) [.ref (28 : Nat)] dX12_ruleClause_133 ml_X12_378 mf_X12_takes im_X12_takes rfl rfl rfl (by decide) (Nat.le_of_ble_eq_true rfl) (Nat.le_of_ble_eq_true rfl) rfl (fun _ _ h => f_X12_takes_ok h) hf (fun v77 μ76 hf => ?_)
                refine E_if_eq (pc := 136) (tgt := 143) dX12_ruleClause_136 (by decide) hf (fun hf => ?_) (fun hf => ?_)
                · refine E_aload_n (pc := 143) dX12_ruleClause_143 rfl ?_
                  refine E_getR (pc := 144) dX12_ruleClause_144 fl_X12_111 hf (fun v78 hf => ?_)
                  refine E_iload (pc := 147) dX12_ruleClause_147 rfl ?_
                  refine E_aload_n (pc := 149) dX12_ruleClause_149 rfl ?_
                  refine E_getI (pc := 150) dX12_ruleClause_150 fl_X12_246 hf (fun v79 hf => ?_)
                  refine E_iast (pc := 153) dX12_ruleClause_153 hf (fun μ80 hf => ?_)
                  exact E_vret (pc := 154) dX12_ruleClause_154 rfl hf
                · refine E_aload_n (pc := 139) dX12_ruleClause_139 rfl ?_
                  refine E_Vv (pc := 140) (d2 := D_X12_test) (ci := 12) [] dX12_ruleClause_140 ml_X12_381 mf_X12_test im_X12_test rfl rfl rfl (by decide) (Nat.le_of_ble_eq_true rfl) (Nat.le_of_ble_eq_true rfl) rfl (fun _ h => f_X12_test_ok h) hf (fun μ81 hf => ?_)
                  refine E_aload_n (pc := 143) dX12_ruleClause_143 rfl ?_
                  refine E_getR (pc := 144) dX12_ruleClause_144 fl_X12_111 hf (fun v82 hf => ?_)
                  refine E_iload (pc := 147) dX12_ruleClause_147 rfl ?_
                  refine E_aload_n (pc := 149) dX12_ruleClause_149 rfl ?_
                  refine E_getI (pc := 150) dX12_ruleClause_150 fl_X12_246 hf (fun v83 hf => ?_)
                  refine E_iast (pc := 153) dX12_ruleClause_153 hf (fun μ84 hf => ?_)
                  exact E_vret (pc := 154) dX12_ruleClause_154 rfl hf
              · refine E_aload_n (pc := 139) dX12_ruleClause_139 rfl ?_
                refine E_Vv (pc := 140) (d2 := D_X12_test) (ci := 12) [] dX12_ruleClause_140 ml_X12_381 mf_X12_test im_X12_test rfl rfl rfl (by decide) (Nat.le_of_ble_eq_true rfl) (Nat.le_of_ble_eq_true rfl) rfl (fun _ h => f_X12_test_ok h) hf (fun μ85 hf => ?_)
                refine E_aload_n (pc := 143) dX12_ruleClause_143 rfl ?_
                refine E_getR (pc := 144) dX12_ruleClause_144 fl_X12_111 hf (fun v86 hf => ?_)
                refine E_iload (pc := 147) dX12_ruleClause_147 rfl ?_
                refine E_aload_n (pc := 149) dX12_ruleClause_149 rfl ?_
                refine E_getI (pc := 150) dX12_ruleClause_150 fl_X12_246 hf (fun v87 hf => ?_)
                refine E_iast (pc := 153) dX12_ruleClause_153 hf (fun μ88 hf => ?_)
                exact E_vret (pc := 154) dX12_ruleClause_154 rfl hf
            · refine E_aload_n (pc := 143) dX12_ruleClause_143 rfl ?_
              refine E_getR (pc := 144) dX12_ruleClause_144 fl_X12_111 hf (fun v89 hf => ?_)
              refine E_iload (pc := 147) dX12_ruleClause_147 rfl ?_
              refine E_aload_n (pc := 149) dX12_ruleClause_149 rfl ?_
              refine E_getI (pc := 150) dX12_ruleClause_150 fl_X12_246 hf (fun v90 hf => ?_)
              refine E_iast (pc := 153) dX12_ruleClause_153 hf (fun μ91 hf => ?_)
              exact E_vret (pc := 154) dX12_ruleClause_154 rfl hf
          · refine E_aload_n (pc := 107) dX12_ruleClause_107 rfl ?_
            refine E_getR (pc := 108) dX12_ruleClause_108 fl_X12_108 hf (fun v92 hf => ?_)
            refine E_iload (pc := 111) dX12_ruleClause_111 rfl ?_
            refine E_aload_n (pc := 113) dX12_ruleClause_113 rfl ?_
            refine E_getI (pc := 114) dX12_ruleClause_114 fl_X12_246 hf (fun v93 hf => ?_)
            refine E_iast (pc := 117) dX12_ruleClause_117 hf (fun μ94 hf => ?_)
            refine E_aload_n (pc := 118) dX12_ruleClause_118 rfl ?_
            refine E_getI (pc := 119) dX12_ruleClause_119 fl_X12_214 hf (fun v95 hf => ?_)
            refine E_if_ne (pc := 122) (tgt := 143) dX12_ruleClause_122 (by decide) hf (fun hf => ?_) (fun hf => ?_)
            · refine E_iload_n (pc := 125) dX12_ruleClause_125 rfl ?_
              refine E_if_ne (pc := 126) (tgt := 139) dX12_ruleClause_126 (by decide) hf (fun hf => ?_) (fun hf => ?_)
              · refine E_aload_n (pc := 129) dX12_ruleClause_129 rfl ?_
                refine E_ldcwS (pc := 130) (28 : Nat) dX12_ruleClause_130 (by decide) ⟨rfl, rfl⟩ ?_
                refine E_Vi (pc := 133) (d2 := D_X12_takes) (ci := 12) [.ref (28 : Nat)] dX12_ruleClause_133 ml_X12_378 mf_X12_takes im_X12_takes rfl rfl rfl (by decide) (Nat.le_of_ble_eq_true rfl) (Nat.le_of_ble_eq_true rfl) rfl (fun _ _ h => f_X12_takes_ok h) hf (fun v97 μ96 hf => ?_)
                refine E_if_eq (pc := 136) (tgt := 143) dX12_ruleClause_136 (by decide) hf (fun hf => ?_) (fun hf => ?_)
                · refine E_aload_n (pc := 143) dX12_ruleClause_143 rfl ?_
                  refine E_getR (pc := 144) dX12_ruleClause_144 fl_X12_111 hf (fun v98 hf => ?_)
                  refine E_iload (pc := 147) dX12_ruleClause_147 rfl ?_
                  refine E_aload_n (pc := 149) dX12_ruleClause_149 rfl ?_
                  refine E_getI (pc := 150) dX12_ruleClause_150 fl_X12_246 hf (fun v99 hf => ?_)
                  refine E_iast (pc := 153) dX12_ruleClause_153 hf (fun μ100 hf => ?_)
                  exact E_vret (pc := 154) dX12_ruleClause_154 rfl hf
                · refine E_aload_n (pc := 139) dX12_ruleClause_139 rfl ?_
                  refine E_Vv (pc := 140) (d2 := D_X12_test) (ci := 12) [] dX12_ruleClause_140 ml_X12_381 mf_X12_test im_X12_test rfl rfl rfl (by decide) (Nat.le_of_ble_eq_true rfl) (Nat.le_of_ble_eq_true rfl) rfl (fun _ h => f_X12_test_ok h) hf (fun μ101 hf => ?_)
                  refine E_aload_n (pc := 143) dX12_ruleClause_143 rfl ?_
                  refine E_getR (pc := 144) dX12_ruleClause_144 fl_X12_111 hf (fun v102 hf => ?_)
                  refine E_iload (pc := 147) dX12_ruleClause_147 rfl ?_
                  refine E_aload_n (pc := 149) dX12_ruleClause_149 rfl ?_
                  refine E_getI (pc := 150) dX12_ruleClause_150 fl_X12_246 hf (fun v103 hf => ?_)
                  refine E_iast (pc := 153) dX12_ruleClause_153 hf (fun μ104 hf => ?_)
                  exact E_vret (pc := 154) dX12_ruleClause_154 rfl hf
              · refine E_aload_n (pc := 139) dX12_ruleClause_139 rfl ?_
                refine E_Vv (pc := 140) (d2 := D_X12_test) (ci := 12) [] dX12_ruleClause_140 ml_X12_381 mf_X12_test im_X12_test rfl rfl rfl (by decide) (Nat.le_of_ble_eq_true rfl) (Nat.le_of_ble_eq_true rfl) rfl (fun _ h => f_X12_test_ok h) hf (fun μ105 hf => ?_)
                refine E_aload_n (pc := 143) dX12_ruleClause_143 rfl ?_
                refine E_getR (pc := 144) dX12_ruleClause_144 fl_X12_111 hf (fun v106 hf => ?_)
                refine E_iload (pc := 147) dX12_ruleClause_147 rfl ?_
                refine E_aload_n (pc := 149) dX12_ruleClause_149 rfl ?_
                refine E_getI (pc := 150) dX12_ruleClause_150 fl_X12_246 hf (fun v107 hf => ?_)
                refine E_iast (pc := 153) dX12_ruleClause_153 hf (fun μ108 hf => ?_)
                exact E_vret (pc := 154) dX12_ruleClause_154 rfl hf
            · refine E_aload_n (pc := 143) dX12_ruleClause_143 rfl ?_
              refine E_getR (pc := 144) dX12_ruleClause_144 fl_X12_111 hf (fun v109 hf => ?_)
              refine E_iload (pc := 147) dX12_ruleClause_147 rfl ?_
              refine E_aload_n (pc := 149) dX12_ruleClause_149 rfl ?_
              refine E_getI (pc := 150) dX12_ruleClause_150 fl_X12_246 hf (fun v110 hf => ?_)
              refine E_iast (pc := 153) dX12_ruleClause_153 hf (fun μ111 hf => ?_)
              exact E_vret (pc := 154) dX12_ruleClause_154 rfl hf
  · refine E_iload_n (pc := 38) dX12_ruleClause_38 rfl ?_
    refine E_bipush (pc := 39) (v := (12 : Int32)) dX12_ruleClause_39 (by decide) ?_
    refine E_icmp_ne (pc := 41) (tgt := 51) dX12_ruleClause_41 (by decide) hf (fun hf => ?_) (fun hf => ?_)
    · refine E_aload_n (pc := 44) dX12_ruleClause_44 rfl ?_
      refine E_iconst (pc := 45) (v := (4 : Int32)) dX12_ruleClause_45 (by decide) ?_
      refine E_iload_n (pc := 46) dX12_ruleClause_46 rfl ?_
      refine E_Vv (pc := 47) (d2 := D_X12_fails) (ci := 12) [.int (4 : Int32), .int x5] dX12_ruleClause_47 ml_X12_252 mf_X12_fails im_X12_fails rfl rfl rfl (by decide) (Nat.le_of_ble_eq_true rfl) (Nat.le_of_ble_eq_true rfl) rfl (fun _ h => f_X12_fails_ok h) hf (fun μ112 hf => ?_)
      exact E_vret (pc := 50) dX12_ruleClause_50 rfl hf
    · refine E_aload_n (pc := 51) dX12_ruleClause_51 rfl ?_
      refine E_dup (pc := 52) dX12_ruleClause_52 rfl ?_
      refine E_getI (pc := 53) dX12_ruleClause_53 fl_X12_217 hf (fun v113 hf => ?_)
      refine E_iload_n (pc := 56) dX12_ruleClause_56 rfl ?_
      refine E_if_eq (pc := 57) (tgt := 64) dX12_ruleClause_57 (by decide) hf (fun hf => ?_) (fun hf => ?_)
      · refine E_iconst (pc := 64) (v := (4 : Int32)) dX12_ruleClause_64 (by decide) ?_
        refine E_iadd (pc := 65) dX12_ruleClause_65 ?_
        refine E_putI (pc := 66) dX12_ruleClause_66 (pl_X12_217 _) hf (fun μ114 hf => ?_)
        refine E_bipush (pc := 69) (v := (12 : Int32)) dX12_ruleClause_69 (by decide) ?_
        refine E_aload_n (pc := 71) dX12_ruleClause_71 rfl ?_
        refine E_getI (pc := 72) dX12_ruleClause_72 fl_X12_243 hf (fun v115 hf => ?_)
        refine E_imul (pc := 75) dX12_ruleClause_75 ?_
        refine E_iload_n (pc := 76) dX12_ruleClause_76 rfl ?_
        refine E_iadd (pc := 77) dX12_ruleClause_77 ?_
        refine E_istore (pc := 78) (ls' := fun x116 => [(4, .int x116), (3, .int x8), (2, .int x5), (0, .ref a1), (1, .int x2)]) dX12_ruleClause_78 (by decide) (fun _ => rfl) hf (fun x116 hf => ?_)
        refine E_aload_n (pc := 80) dX12_ruleClause_80 rfl ?_
        refine E_getR (pc := 81) dX12_ruleClause_81 fl_X12_117 hf (fun v117 hf => ?_)
        refine E_iload (pc := 84) dX12_ruleClause_84 rfl ?_
        refine E_iload_n (pc := 86) dX12_ruleClause_86 rfl ?_
        refine E_zast (pc := 87) dX12_ruleClause_87 hf (fun μ118 hf => ?_)
        refine E_aload_n (pc := 88) dX12_ruleClause_88 rfl ?_
        refine E_getR (pc := 89) dX12_ruleClause_89 fl_X12_105 hf (fun v119 hf => ?_)
        refine E_iload (pc := 92) dX12_ruleClause_92 rfl ?_
        refine E_aload_n (pc := 94) dX12_ruleClause_94 rfl ?_
        refine E_getI (pc := 95) dX12_ruleClause_95 fl_X12_246 hf (fun v120 hf => ?_)
        refine E_iast (pc := 98) dX12_ruleClause_98 hf (fun μ121 hf => ?_)
        refine E_iload_n (pc := 99) dX12_ruleClause_99 rfl ?_
        refine E_if_ne (pc := 100) (tgt := 107) dX12_ruleClause_100 (by decide) hf (fun hf => ?_) (fun hf => ?_)
        · refine E_aload_n (pc := 103) dX12_ruleClause_103 rfl ?_
          refine E_Vv (pc := 104) (d2 := D_X12_sum) (ci := 12) [] dX12_ruleClause_104 ml_X12_281 mf_X12_sum im_X12_sum rfl rfl rfl (by decide) (Nat.le_of_ble_eq_true rfl) (Nat.le_of_ble_eq_true rfl) rfl (fun _ h => f_X12_sum_ok h) hf (fun μ122 hf => ?_)
          refine E_aload_n (pc := 107) dX12_ruleClause_107 rfl ?_
          refine E_getR (pc := 108) dX12_ruleClause_108 fl_X12_108 hf (fun v123 hf => ?_)
          refine E_iload (pc := 111) dX12_ruleClause_111 rfl ?_
          refine E_aload_n (pc := 113) dX12_ruleClause_113 rfl ?_
          refine E_getI (pc := 114) dX12_ruleClause_114 fl_X12_246 hf (fun v124 hf => ?_)
          refine E_iast (pc := 117) dX12_ruleClause_117 hf (fun μ125 hf => ?_)
          refine E_aload_n (pc := 118) dX12_ruleClause_118 rfl ?_
          refine E_getI (pc := 119) dX12_ruleClause_119 fl_X12_214 hf (fun v126 hf => ?_)
          refine E_if_ne (pc := 122) (tgt := 143) dX12_ruleClause_122 (by decide) hf (fun hf => ?_) (fun hf => ?_)
          · refine E_iload_n (pc := 125) dX12_ruleClause_125 rfl ?_
            refine E_if_ne (pc := 126) (tgt := 139) dX12_ruleClause_126 (by decide) hf (fun hf => ?_) (fun hf => ?_)
            · refine E_aload_n (pc := 129) dX12_ruleClause_129 rfl ?_
              refine E_ldcwS (pc := 130) (28 : Nat) dX12_ruleClause_130 (by decide) ⟨rfl, rfl⟩ ?_
              refine E_Vi (pc := 133) (d2 := D_X12_takes) (ci := 12) [.ref (28 : Nat)] dX12_ruleClause_133 ml_X12_378 mf_X12_takes im_X12_takes rfl rfl rfl (by decide) (Nat.le_of_ble_eq_true rfl) (Nat.le_of_ble_eq_true rfl) rfl (fun _ _ h => f_X12_takes_ok h) hf (fun v128 μ127 hf => ?_)
              refine E_if_eq (pc := 136) (tgt := 143) dX12_ruleClause_136 (by decide) hf (fun hf => ?_) (fun hf => ?_)
              · refine E_aload_n (pc := 143) dX12_ruleClause_143 rfl ?_
                refine E_getR (pc := 144) dX12_ruleClause_144 fl_X12_111 hf (fun v129 hf => ?_)
                refine E_iload (pc := 147) dX12_ruleClause_147 rfl ?_
                refine E_aload_n (pc := 149) dX12_ruleClause_149 rfl ?_
                refine E_getI (pc := 150) dX12_ruleClause_150 fl_X12_246 hf (fun v130 hf => ?_)
                refine E_iast (pc := 153) dX12_ruleClause_153 hf (fun μ131 hf => ?_)
                exact E_vret (pc := 154) dX12_ruleClause_154 rfl hf
              · refine E_aload_n (pc := 139) dX12_ruleClause_139 rfl ?_
                refine E_Vv (pc := 140) (d2 := D_X12_test) (ci := 12) [] dX12_ruleClause_140 ml_X12_381 mf_X12_test im_X12_test rfl rfl rfl (by decide) (Nat.le_of_ble_eq_true rfl) (Nat.le_of_ble_eq_true rfl) rfl (fun _ h => f_X12_test_ok h) hf (fun μ132 hf => ?_)
                refine E_aload_n (pc := 143) dX12_ruleClause_143 rfl ?_
                refine E_getR (pc := 144) dX12_ruleClause_144 fl_X12_111 hf (fun v133 hf => ?_)
                refine E_iload (pc := 147) dX12_ruleClause_147 rfl ?_
                refine E_aload_n (pc := 149) dX12_ruleClause_149 rfl ?_
                refine E_getI (pc := 150) dX12_ruleClause_150 fl_X12_246 hf (fun v134 hf => ?_)
                refine E_iast (pc := 153) dX12_ruleClause_153 hf (fun μ135 hf => ?_)
                exact E_vret (pc := 154) dX12_ruleClause_154 rfl hf
            · refine E_aload_n (pc := 139) dX12_ruleClause_139 rfl ?_
              refine E_Vv (pc := 140) (d2 := D_X12_test) (ci := 12) [] dX12_ruleClause_140 ml_X12_381 mf_X12_test im_X12_test rfl rfl rfl (by decide) (Nat.le_of_ble_eq_true rfl) (Nat.le_of_ble_eq_true rfl) rfl (fun _ h => f_X12_test_ok h) hf (fun μ136 hf => ?_)
              refine E_aload_n (pc := 143) dX12_ruleClause_143 rfl ?_
              refine E_getR (pc := 144) dX12_ruleClause_144 fl_X12_111 hf (fun v137 hf => ?_)
              refine E_iload (pc := 147) dX12_ruleClause_147 rfl ?_
              refine E_aload_n (pc := 149) dX12_ruleClause_149 rfl ?_
              refine E_getI (pc := 150) dX12_ruleClause_150 fl_X12_246 hf (fun v138 hf => ?_)
              refine E_iast (pc := 153) dX12_ruleClause_153 hf (fun μ139 hf => ?_)
              exact E_vret (pc := 154) dX12_ruleClause_154 rfl hf
          · refine E_aload_n (pc := 143) dX12_ruleClause_143 rfl ?_
            refine E_getR (pc := 144) dX12_ruleClause_144 fl_X12_111 hf (fun v140 hf => ?_)
            refine E_iload (pc := 147) dX12_ruleClause_147 rfl ?_
            refine E_aload_n (pc := 149) dX12_ruleClause_149 rfl ?_
            refine E_getI (pc := 150) dX12_ruleClause_150 fl_X12_246 hf (fun v141 hf => ?_)
            refine E_iast (pc := 153) dX12_ruleClause_153 hf (fun μ142 hf => ?_)
            exact E_vret (pc := 154) dX12_ruleClause_154 rfl hf
        · refine E_aload_n (pc := 107) dX12_ruleClause_107 rfl ?_
          refine E_getR (pc := 108) dX12_ruleClause_108 fl_X12_108 hf (fun v143 hf => ?_)
          refine E_iload (pc := 111) dX12_ruleClause_111 rfl ?_
          refine E_aload_n (pc := 113) dX12_ruleClause_113 rfl ?_
          refine E_getI (pc := 114) dX12_ruleClause_114 fl_X12_246 hf (fun v144 hf => ?_)
          refine E_iast (pc := 117) dX12_ruleClause_117 hf (fun μ145 hf => ?_)
          refine E_aload_n (pc := 118) dX12_ruleClause_118 rfl ?_
          refine E_getI (pc := 119) dX12_ruleClause_119 fl_X12_214 hf (fun v146 hf => ?_)
          refine E_if_ne (pc := 122) (tgt := 143) dX12_ruleClause_122 (by decide) hf (fun hf => ?_) (fun hf => ?_)
          · refine E_iload_n (pc := 125) dX12_ruleClause_125 rfl ?_
            refine E_if_ne (pc := 126) (tgt := 139) dX12_ruleClause_126 (by decide) hf (fun hf => ?_) (fun hf => ?_)
            · refine E_aload_n (pc := 129) dX12_ruleClause_129 rfl ?_
              refine E_ldcwS (pc := 130) (28 : Nat) dX12_ruleClause_130 (by decide) ⟨rfl, rfl⟩ ?_
              refine E_Vi (pc := 133) (d2 := D_X12_takes) (ci := 12) [.ref (28 : Nat)] dX12_ruleClause_133 ml_X12_378 mf_X12_takes im_X12_takes rfl rfl rfl (by decide) (Nat.le_of_ble_eq_true rfl) (Nat.le_of_ble_eq_true rfl) rfl (fun _ _ h => f_X12_takes_ok h) hf (fun v148 μ147 hf => ?_)
              refine E_if_eq (pc := 136) (tgt := 143) dX12_ruleClause_136 (by decide) hf (fun hf => ?_) (fun hf => ?_)
              · refine E_aload_n (pc := 143) dX12_ruleClause_143 rfl ?_
                refine E_getR (pc := 144) dX12_ruleClause_144 fl_X12_111 hf (fun v149 hf => ?_)
                refine E_iload (pc := 147) dX12_ruleClause_147 rfl ?_
                refine E_aload_n (pc := 149) dX12_ruleClause_149 rfl ?_
                refine E_getI (pc := 150) dX12_ruleClause_150 fl_X12_246 hf (fun v150 hf => ?_)
                refine E_iast (pc := 153) dX12_ruleClause_153 hf (fun μ151 hf => ?_)
                exact E_vret (pc := 154) dX12_ruleClause_154 rfl hf
              · refine E_aload_n (pc := 139) dX12_ruleClause_139 rfl ?_
                refine E_Vv (pc := 140) (d2 := D_X12_test) (ci := 12) [] dX12_ruleClause_140 ml_X12_381 mf_X12_test im_X12_test rfl rfl rfl (by decide) (Nat.le_of_ble_eq_true rfl) (Nat.le_of_ble_eq_true rfl) rfl (fun _ h => f_X12_test_ok h) hf (fun μ152 hf => ?_)
                refine E_aload_n (pc := 143) dX12_ruleClause_143 rfl ?_
                refine E_getR (pc := 144) dX12_ruleClause_144 fl_X12_111 hf (fun v153 hf => ?_)
                refine E_iload (pc := 147) dX12_ruleClause_147 rfl ?_
                refine E_aload_n (pc := 149) dX12_ruleClause_149 rfl ?_
                refine E_getI (pc := 150) dX12_ruleClause_150 fl_X12_246 hf (fun v154 hf => ?_)
                refine E_iast (pc := 153) dX12_ruleClause_153 hf (fun μ155 hf => ?_)
                exact E_vret (pc := 154) dX12_ruleClause_154 rfl hf
            · refine E_aload_n (pc := 139) dX12_ruleClause_139 rfl ?_
              refine E_Vv (pc := 140) (d2 := D_X12_test) (ci := 12) [] dX12_ruleClause_140 ml_X12_381 mf_X12_test im_X12_test rfl rfl rfl (by decide) (Nat.le_of_ble_eq_true rfl) (Nat.le_of_ble_eq_true rfl) rfl (fun _ h => f_X12_test_ok h) hf (fun μ156 hf => ?_)
              refine E_aload_n (pc := 143) dX12_ruleClause_143 rfl ?_
              refine E_getR (pc := 144) dX12_ruleClause_144 fl_X12_111 hf (fun v157 hf => ?_)
              refine E_iload (pc := 147) dX12_ruleClause_147 rfl ?_
              refine E_aload_n (pc := 149) dX12_ruleClause_149 rfl ?_
              refine E_getI (pc := 150) dX12_ruleClause_150 fl_X12_246 hf (fun v158 hf => ?_)
              refine E_iast (pc := 153) dX12_ruleClause_153 hf (fun μ159 hf => ?_)
              exact E_vret (pc := 154) dX12_ruleClause_154 rfl hf
          · refine E_aload_n (pc := 143) dX12_ruleClause_143 rfl ?_
            refine E_getR (pc := 144) dX12_ruleClause_144 fl_X12_111 hf (fun v160 hf => ?_)
            refine E_iload (pc := 147) dX12_ruleClause_147 rfl ?_
            refine E_aload_n (pc := 149) dX12_ruleClause_149 rfl ?_
            refine E_getI (pc := 150) dX12_ruleClause_150 fl_X12_246 hf (fun v161 hf => ?_)
            refine E_iast (pc := 153) dX12_ruleClause_153 hf (fun μ162 hf => ?_)
            exact E_vret (pc := 154) dX12_ruleClause_154 rfl hf
      · refine E_iconst (pc := 60) (v := (5 : Int32)) dX12_ruleClause_60 (by decide) ?_
        refine E_goto (pc := 61) (tgt := 65) dX12_ruleClause_61 (by decide) ?_
        refine E_iadd (pc := 65) dX12_ruleClause_65 ?_
        refine E_putI (pc := 66) dX12_ruleClause_66 (pl_X12_217 _) hf (fun μ163 hf => ?_)
        refine E_bipush (pc := 69) (v := (12 : Int32)) dX12_ruleClause_69 (by decide) ?_
        refine E_aload_n (pc := 71) dX12_ruleClause_71 rfl ?_
        refine E_getI (pc := 72) dX12_ruleClause_72 fl_X12_243 hf (fun v164 hf => ?_)
        refine E_imul (pc := 75) dX12_ruleClause_75 ?_
        refine E_iload_n (pc := 76) dX12_ruleClause_76 rfl ?_
        refine E_iadd (pc := 77) dX12_ruleClause_77 ?_
        refine E_istore (pc := 78) (ls' := fun x165 => [(4, .int x165), (3, .int x8), (2, .int x5), (0, .ref a1), (1, .int x2)]) dX12_ruleClause_78 (by decide) (fun _ => rfl) hf (fun x165 hf => ?_)
        refine E_aload_n (pc := 80) dX12_ruleClause_80 rfl ?_
        refine E_getR (pc := 81) dX12_ruleClause_81 fl_X12_117 hf (fun v166 hf => ?_)
        refine E_iload (pc := 84) dX12_ruleClause_84 rfl ?_
        refine E_iload_n (pc := 86) dX12_ruleClause_86 rfl ?_
        refine E_zast (pc := 87) dX12_ruleClause_87 hf (fun μ167 hf => ?_)
        refine E_aload_n (pc := 88) dX12_ruleClause_88 rfl ?_
        refine E_getR (pc := 89) dX12_ruleClause_89 fl_X12_105 hf (fun v168 hf => ?_)
        refine E_iload (pc := 92) dX12_ruleClause_92 rfl ?_
        refine E_aload_n (pc := 94) dX12_ruleClause_94 rfl ?_
        refine E_getI (pc := 95) dX12_ruleClause_95 fl_X12_246 hf (fun v169 hf => ?_)
        refine E_iast (pc := 98) dX12_ruleClause_98 hf (fun μ170 hf => ?_)
        refine E_iload_n (pc := 99) dX12_ruleClause_99 rfl ?_
        refine E_if_ne (pc := 100) (tgt := 107) dX12_ruleClause_100 (by decide) hf (fun hf => ?_) (fun hf => ?_)
        · refine E_aload_n (pc := 103) dX12_ruleClause_103 rfl ?_
          refine E_Vv (pc := 104) (d2 := D_X12_sum) (ci := 12) [] dX12_ruleClause_104 ml_X12_281 mf_X12_sum im_X12_sum rfl rfl rfl (by decide) (Nat.le_of_ble_eq_true rfl) (Nat.le_of_ble_eq_true rfl) rfl (fun _ h => f_X12_sum_ok h) hf (fun μ171 hf => ?_)
          refine E_aload_n (pc := 107) dX12_ruleClause_107 rfl ?_
          refine E_getR (pc := 108) dX12_ruleClause_108 fl_X12_108 hf (fun v172 hf => ?_)
          refine E_iload (pc := 111) dX12_ruleClause_111 rfl ?_
          refine E_aload_n (pc := 113) dX12_ruleClause_113 rfl ?_
          refine E_getI (pc := 114) dX12_ruleClause_114 fl_X12_246 hf (fun v173 hf => ?_)
          refine E_iast (pc := 117) dX12_ruleClause_117 hf (fun μ174 hf => ?_)
          refine E_aload_n (pc := 118) dX12_ruleClause_118 rfl ?_
          refine E_getI (pc := 119) dX12_ruleClause_119 fl_X12_214 hf (fun v175 hf => ?_)
          refine E_if_ne (pc := 122) (tgt := 143) dX12_ruleClause_122 (by decide) hf (fun hf => ?_) (fun hf => ?_)
          · refine E_iload_n (pc := 125) dX12_ruleClause_125 rfl ?_
            refine E_if_ne (pc := 126) (tgt := 139) dX12_ruleClause_126 (by decide) hf (fun hf => ?_) (fun hf => ?_)
            · refine E_aload_n (pc := 129) dX12_ruleClause_129 rfl ?_
              refine E_ldcwS (pc := 130) (28 : Nat) dX12_ruleClause_130 (by decide) ⟨rfl, rfl⟩ ?_
              refine E_Vi (pc := 133) (d2 := D_X12_takes) (ci := 12) [.ref (28 : Nat)] dX12_ruleClause_133 ml_X12_378 mf_X12_takes im_X12_takes rfl rfl rfl (by decide) (Nat.le_of_ble_eq_true rfl) (Nat.le_of_ble_eq_true rfl) rfl (fun _ _ h => f_X12_takes_ok h) hf (fun v177 μ176 hf => ?_)
              refine E_if_eq (pc := 136) (tgt := 143) dX12_ruleClause_136 (by decide) hf (fun hf => ?_) (fun hf => ?_)
              · refine E_aload_n (pc := 143) dX12_ruleClause_143 rfl ?_
                refine E_getR (pc := 144) dX12_ruleClause_144 fl_X12_111 hf (fun v178 hf => ?_)
                refine E_iload (pc := 147) dX12_ruleClause_147 rfl ?_
                refine E_aload_n (pc := 149) dX12_ruleClause_149 rfl ?_
                refine E_getI (pc := 150) dX12_ruleClause_150 fl_X12_246 hf (fun v179 hf => ?_)
                refine E_iast (pc := 153) dX12_ruleClause_153 hf (fun μ180 hf => ?_)
                exact E_vret (pc := 154) dX12_ruleClause_154 rfl hf
              · refine E_aload_n (pc := 139) dX12_ruleClause_139 rfl ?_
                refine E_Vv (pc := 140) (d2 := D_X12_test) (ci := 12) [] dX12_ruleClause_140 ml_X12_381 mf_X12_test im_X12_test rfl rfl rfl (by decide) (Nat.le_of_ble_eq_true rfl) (Nat.le_of_ble_eq_true rfl) rfl (fun _ h => f_X12_test_ok h) hf (fun μ181 hf => ?_)
                refine E_aload_n (pc := 143) dX12_ruleClause_143 rfl ?_
                refine E_getR (pc := 144) dX12_ruleClause_144 fl_X12_111 hf (fun v182 hf => ?_)
                refine E_iload (pc := 147) dX12_ruleClause_147 rfl ?_
                refine E_aload_n (pc := 149) dX12_ruleClause_149 rfl ?_
                refine E_getI (pc := 150) dX12_ruleClause_150 fl_X12_246 hf (fun v183 hf => ?_)
                refine E_iast (pc := 153) dX12_ruleClause_153 hf (fun μ184 hf => ?_)
                exact E_vret (pc := 154) dX12_ruleClause_154 rfl hf
            · refine E_aload_n (pc := 139) dX12_ruleClause_139 rfl ?_
              refine E_Vv (pc := 140) (d2 := D_X12_test) (ci := 12) [] dX12_ruleClause_140 ml_X12_381 mf_X12_test im_X12_test rfl rfl rfl (by decide) (Nat.le_of_ble_eq_true rfl) (Nat.le_of_ble_eq_true rfl) rfl (fun _ h => f_X12_test_ok h) hf (fun μ185 hf => ?_)
              refine E_aload_n (pc := 143) dX12_ruleClause_143 rfl ?_
              refine E_getR (pc := 144) dX12_ruleClause_144 fl_X12_111 hf (fun v186 hf => ?_)
              refine E_iload (pc := 147) dX12_ruleClause_147 rfl ?_
              refine E_aload_n (pc := 149) dX12_ruleClause_149 rfl ?_
              refine E_getI (pc := 150) dX12_ruleClause_150 fl_X12_246 hf (fun v187 hf => ?_)
              refine E_iast (pc := 153) dX12_ruleClause_153 hf (fun μ188 hf => ?_)
              exact E_vret (pc := 154) dX12_ruleClause_154 rfl hf
          · refine E_aload_n (pc := 143) dX12_ruleClause_143 rfl ?_
            refine E_getR (pc := 144) dX12_ruleClause_144 fl_X12_111 hf (fun v189 hf => ?_)
            refine E_iload (pc := 147) dX12_ruleClause_147 rfl ?_
            refine E_aload_n (pc := 149) dX12_ruleClause_149 rfl ?_
            refine E_getI (pc := 150) dX12_ruleClause_150 fl_X12_246 hf (fun v190 hf => ?_)
            refine E_iast (pc := 153) dX12_ruleClause_153 hf (fun μ191 hf => ?_)
            exact E_vret (pc := 154) dX12_ruleClause_154 rfl hf
        · refine E_aload_n (pc := 107) dX12_ruleClause_107 rfl ?_
          refine E_getR (pc := 108) dX12_ruleClause_108 fl_X12_108 hf (fun v192 hf => ?_)
          refine E_iload (pc := 111) dX12_ruleClause_111 rfl ?_
          refine E_aload_n (pc := 113) dX12_ruleClause_113 rfl ?_
          refine E_getI (pc := 114) dX12_ruleClause_114 fl_X12_246 hf (fun v193 hf => ?_)
          refine E_iast (pc := 117) dX12_ruleClause_117 hf (fun μ194 hf => ?_)
          refine E_aload_n (pc := 118) dX12_ruleClause_118 rfl ?_
          refine E_getI (pc := 119) dX12_ruleClause_119 fl_X12_214 hf (fun v195 hf => ?_)
          refine E_if_ne (pc := 122) (tgt := 143) dX12_ruleClause_122 (by decide) hf (fun hf => ?_) (fun hf => ?_)
          · refine E_iload_n (pc := 125) dX12_ruleClause_125 rfl ?_
            refine E_if_ne (pc := 126) (tgt := 139) dX12_ruleClause_126 (by decide) hf (fun hf => ?_) (fun hf => ?_)
            · refine E_aload_n (pc := 129) dX12_ruleClause_129 rfl ?_
              refine E_ldcwS (pc := 130) (28 : Nat) dX12_ruleClause_130 (by decide) ⟨rfl, rfl⟩ ?_
              refine E_Vi (pc := 133) (d2 := D_X12_takes) (ci := 12) [.ref (28 : Nat)] dX12_ruleClause_133 ml_X12_378 mf_X12_takes im_X12_takes rfl rfl rfl (by decide) (Nat.le_of_ble_eq_true rfl) (Nat.le_of_ble_eq_true rfl) rfl (fun _ _ h => f_X12_takes_ok h) hf (fun v197 μ196 hf => ?_)
              refine E_if_eq (pc := 136) (tgt := 143) dX12_ruleClause_136 (by decide) hf (fun hf => ?_) (fun hf => ?_)
              · refine E_aload_n (pc := 143) dX12_ruleClause_143 rfl ?_
                refine E_getR (pc := 144) dX12_ruleClause_144 fl_X12_111 hf (fun v198 hf => ?_)
                refine E_iload (pc := 147) dX12_ruleClause_147 rfl ?_
                refine E_aload_n (pc := 149) dX12_ruleClause_149 rfl ?_
                refine E_getI (pc := 150) dX12_ruleClause_150 fl_X12_246 hf (fun v199 hf => ?_)
                refine E_iast (pc := 153) dX12_ruleClause_153 hf (fun μ200 hf => ?_)
                exact E_vret (pc := 154) dX12_ruleClause_154 rfl hf
              · refine E_aload_n (pc := 139) dX12_ruleClause_139 rfl ?_
                refine E_Vv (pc := 140) (d2 := D_X12_test) (ci := 12) [] dX12_ruleClause_140 ml_X12_381 mf_X12_test im_X12_test rfl rfl rfl (by decide) (Nat.le_of_ble_eq_true rfl) (Nat.le_of_ble_eq_true rfl) rfl (fun _ h => f_X12_test_ok h) hf (fun μ201 hf => ?_)
                refine E_aload_n (pc := 143) dX12_ruleClause_143 rfl ?_
                refine E_getR (pc := 144) dX12_ruleClause_144 fl_X12_111 hf (fun v202 hf => ?_)
                refine E_iload (pc := 147) dX12_ruleClause_147 rfl ?_
                refine E_aload_n (pc := 149) dX12_ruleClause_149 rfl ?_
                refine E_getI (pc := 150) dX12_ruleClause_150 fl_X12_246 hf (fun v203 hf => ?_)
                refine E_iast (pc := 153) dX12_ruleClause_153 hf (fun μ204 hf => ?_)
                exact E_vret (pc := 154) dX12_ruleClause_154 rfl hf
            · refine E_aload_n (pc := 139) dX12_ruleClause_139 rfl ?_
              refine E_Vv (pc := 140) (d2 := D_X12_test) (ci := 12) [] dX12_ruleClause_140 ml_X12_381 mf_X12_test im_X12_test rfl rfl rfl (by decide) (Nat.le_of_ble_eq_true rfl) (Nat.le_of_ble_eq_true rfl) rfl (fun _ h => f_X12_test_ok h) hf (fun μ205 hf => ?_)
              refine E_aload_n (pc := 143) dX12_ruleClause_143 rfl ?_
              refine E_getR (pc := 144) dX12_ruleClause_144 fl_X12_111 hf (fun v206 hf => ?_)
              refine E_iload (pc := 147) dX12_ruleClause_147 rfl ?_
              refine E_aload_n (pc := 149) dX12_ruleClause_149 rfl ?_
              refine E_getI (pc := 150) dX12_ruleClause_150 fl_X12_246 hf (fun v207 hf => ?_)
              refine E_iast (pc := 153) dX12_ruleClause_153 hf (fun μ208 hf => ?_)
              exact E_vret (pc := 154) dX12_ruleClause_154 rfl hf
          · refine E_aload_n (pc := 143) dX12_ruleClause_143 rfl ?_
            refine E_getR (pc := 144) dX12_ruleClause_144 fl_X12_111 hf (fun v209 hf => ?_)
            refine E_iload (pc := 147) dX12_ruleClause_147 rfl ?_
            refine E_aload_n (pc := 149) dX12_ruleClause_149 rfl ?_
            refine E_getI (pc := 150) dX12_ruleClause_150 fl_X12_246 hf (fun v210 hf => ?_)
            refine E_iast (pc := 153) dX12_ruleClause_153 hf (fun μ211 hf => ?_)
            exact E_vret (pc := 154) dX12_ruleClause_154 rfl hf
theorem dX12_rule_0 : decode cX12_rule 0 = .ok (.aload_n 0, 1) := by decide +kernel
theorem dX12_rule_1 : decode cX12_rule 1 = .ok (.getfield 384, 3) := by decide +kernel
theorem dX12_rule_4 : decode cX12_rule 4 = .ok (.bipush 6, 2) := by decide +kernel
theorem dX12_rule_6 : decode cX12_rule 6 = .ok (.if_icmp .ne 5, 3) := by decide +kernel
theorem dX12_rule_9 : decode cX12_rule 9 = .ok (.iconst (-1), 1) := by decide +kernel
theorem dX12_rule_10 : decode cX12_rule 10 = .ok (.ireturn, 1) := by decide +kernel
theorem dX12_rule_11 : decode cX12_rule 11 = .ok (.aload_n 0, 1) := by decide +kernel
theorem dX12_rule_12 : decode cX12_rule 12 = .ok (.aload_n 0, 1) := by decide +kernel
theorem dX12_rule_13 : decode cX12_rule 13 = .ok (.getfield 384, 3) := by decide +kernel
theorem dX12_rule_16 : decode cX12_rule 16 = .ok (.putfield 243, 3) := by decide +kernel
theorem dX12_rule_19 : decode cX12_rule 19 = .ok (.aload_n 0, 1) := by decide +kernel
theorem dX12_rule_20 : decode cX12_rule 20 = .ok (.invokevirtual 353, 3) := by decide +kernel
theorem dX12_rule_23 : decode cX12_rule 23 = .ok (.iconst 0, 1) := by decide +kernel
theorem dX12_rule_24 : decode cX12_rule 24 = .ok (.istore_n 1, 1) := by decide +kernel
theorem dX12_rule_25 : decode cX12_rule 25 = .ok (.iconst 1, 1) := by decide +kernel
theorem dX12_rule_26 : decode cX12_rule 26 = .ok (.istore_n 2, 1) := by decide +kernel
theorem dX12_rule_27 : decode cX12_rule 27 = .ok (.iload_n 2, 1) := by decide +kernel
theorem dX12_rule_28 : decode cX12_rule 28 = .ok (.ifCond .eq 19, 3) := by decide +kernel
theorem dX12_rule_31 : decode cX12_rule 31 = .ok (.aload_n 0, 1) := by decide +kernel
theorem dX12_rule_32 : decode cX12_rule 32 = .ok (.iload_n 1, 1) := by decide +kernel
theorem dX12_rule_33 : decode cX12_rule 33 = .ok (.invokevirtual 387, 3) := by decide +kernel
theorem dX12_rule_36 : decode cX12_rule 36 = .ok (.iinc 1 1, 3) := by decide +kernel
theorem dX12_rule_39 : decode cX12_rule 39 = .ok (.aload_n 0, 1) := by decide +kernel
theorem dX12_rule_40 : decode cX12_rule 40 = .ok (.invokevirtual 359, 3) := by decide +kernel
theorem dX12_rule_43 : decode cX12_rule 43 = .ok (.istore_n 2, 1) := by decide +kernel
theorem dX12_rule_44 : decode cX12_rule 44 = .ok (.goto (-17), 3) := by decide +kernel
theorem dX12_rule_47 : decode cX12_rule 47 = .ok (.aload_n 0, 1) := by decide +kernel
theorem dX12_rule_48 : decode cX12_rule 48 = .ok (.iconst 0, 1) := by decide +kernel
theorem dX12_rule_49 : decode cX12_rule 49 = .ok (.putfield 187, 3) := by decide +kernel
theorem dX12_rule_52 : decode cX12_rule 52 = .ok (.aload_n 0, 1) := by decide +kernel
theorem dX12_rule_53 : decode cX12_rule 53 = .ok (.getfield 102, 3) := by decide +kernel
theorem dX12_rule_56 : decode cX12_rule 56 = .ok (.aload_n 0, 1) := by decide +kernel
theorem dX12_rule_57 : decode cX12_rule 57 = .ok (.getfield 243, 3) := by decide +kernel
theorem dX12_rule_60 : decode cX12_rule 60 = .ok (.iload_n 1, 1) := by decide +kernel
theorem dX12_rule_61 : decode cX12_rule 61 = .ok (.iastore, 1) := by decide +kernel
theorem dX12_rule_62 : decode cX12_rule 62 = .ok (.aload_n 0, 1) := by decide +kernel
theorem dX12_rule_63 : decode cX12_rule 63 = .ok (.dup, 1) := by decide +kernel
theorem dX12_rule_64 : decode cX12_rule 64 = .ok (.getfield 384, 3) := by decide +kernel
theorem dX12_rule_67 : decode cX12_rule 67 = .ok (.aload_n 0, 1) := by decide +kernel
theorem dX12_rule_68 : decode cX12_rule 68 = .ok (.getfield 214, 3) := by decide +kernel
theorem dX12_rule_71 : decode cX12_rule 71 = .ok (.ifCond .ne 7, 3) := by decide +kernel
theorem dX12_rule_74 : decode cX12_rule 74 = .ok (.iconst 1, 1) := by decide +kernel
theorem dX12_rule_75 : decode cX12_rule 75 = .ok (.goto 4, 3) := by decide +kernel
theorem dX12_rule_78 : decode cX12_rule 78 = .ok (.iconst 0, 1) := by decide +kernel
theorem dX12_rule_79 : decode cX12_rule 79 = .ok (.iadd, 1) := by decide +kernel
theorem dX12_rule_80 : decode cX12_rule 80 = .ok (.putfield 384, 3) := by decide +kernel
theorem dX12_rule_83 : decode cX12_rule 83 = .ok (.aload_n 0, 1) := by decide +kernel
theorem dX12_rule_84 : decode cX12_rule 84 = .ok (.getfield 214, 3) := by decide +kernel
theorem dX12_rule_87 : decode cX12_rule 87 = .ok (.ifCond .le 13, 3) := by decide +kernel
theorem dX12_rule_90 : decode cX12_rule 90 = .ok (.bipush (-2), 2) := by decide +kernel
theorem dX12_rule_92 : decode cX12_rule 92 = .ok (.aload_n 0, 1) := by decide +kernel
theorem dX12_rule_93 : decode cX12_rule 93 = .ok (.getfield 214, 3) := by decide +kernel
theorem dX12_rule_96 : decode cX12_rule 96 = .ok (.isub, 1) := by decide +kernel
theorem dX12_rule_97 : decode cX12_rule 97 = .ok (.goto 9, 3) := by decide +kernel
theorem dX12_rule_100 : decode cX12_rule 100 = .ok (.aload_n 0, 1) := by decide +kernel
theorem dX12_rule_101 : decode cX12_rule 101 = .ok (.getfield 384, 3) := by decide +kernel
theorem dX12_rule_104 : decode cX12_rule 104 = .ok (.iconst 1, 1) := by decide +kernel
theorem dX12_rule_105 : decode cX12_rule 105 = .ok (.isub, 1) := by decide +kernel
theorem dX12_rule_106 : decode cX12_rule 106 = .ok (.ireturn, 1) := by decide +kernel
abbrev D_X12_rule : Nat := 15
def f_X12_rule_L27 (K47 : Mm → Nat → Int32 → Option (Int32 × Mm)) : Nat → Mm → Nat → Int32 → Int32 → Option (Int32 × Mm)
  | 0, _, _, _, _ => none
  | n + 1, μ0, a8, x9, x10 =>
    (if x10 = 0 then
    K47 μ0 a8 x9
    else
    ((ob μ0 a8 12).bind fun _ =>
    ((f_X12_ruleClause μ0 a8 x9).bind fun μ11 =>
    (nm (x9 + Int32.ofInt (1)) fun x12 =>
    ((ob μ11 a8 12).bind fun _ =>
    (bd (f_X12_goesOn μ11 a8) fun v14 μ13 =>
    (nm v14 fun x15 =>
    f_X12_rule_L27 K47 n μ13 a8 x12 x15)))))))
set_option maxHeartbeats 4000000 in
set_option maxRecDepth 100000 in
theorem f_X12_rule_L27_ok {l : Launch} {G : GG} {K47 : Mm → Nat → Int32 → Option (Int32 × Mm)} {r : Int32} {μ' : Mm} (n : Nat) (μ0 : Mm) (a8 : Nat) (x9 : Int32) (x10 : Int32) (hf : f_X12_rule_L27 K47 n μ0 a8 x9 x10 = some (r, μ')) (hK47 : ∀ (μ1 : Mm) (y0 : Nat) (y1 : Int32), K47 μ1 y0 y1 = some (r, μ') → Ev l G D_X12_rule yX12_rule cX12_rule 3 (some .int) 47 [(0, .ref y0), (1, .int y1)] [] μ1 (some (.int r)) μ') : Ev l G D_X12_rule yX12_rule cX12_rule 3 (some .int) 27 [(0, .ref a8), (1, .int x9), (2, .int x10)] [] μ0 (some (.int r)) μ' := by
  induction n generalizing μ0 a8 x9 x10 with
  | zero => cases hf
  | succ n ih0 =>
    have ih : ∀ (μ0 : Mm) (a8 : Nat) (x9 : Int32) (x10 : Int32), f_X12_rule_L27 K47 n μ0 a8 x9 x10 = some (r, μ') → Ev l G D_X12_rule yX12_rule cX12_rule 3 (some .int) 27 [(0, .ref a8), (1, .int x9), (2, .int x10)] [] μ0 (some (.int r)) μ' := fun μ0 a8 x9 x10 hf => ih0 μ0 a8 x9 x10 hf
    rw [f_X12_rule_L27] at hf
    refine E_iload_n (pc := 27) dX12_rule_27 rfl ?_
    refine E_if_eq (pc := 28) (tgt := 47) dX12_rule_28 (by decide) hf (fun hf => ?_) (fun hf => ?_)
    · refine Ev.sub [0, 1] rfl ?_
      exact hK47 _ _ _ hf
    · refine E_aload_n (pc := 31) dX12_rule_31 rfl ?_
      refine E_iload_n (pc := 32) dX12_rule_32 rfl ?_
      refine E_Vv (pc := 33) (d2 := D_X12_ruleClause) (ci := 12) [.int x9] dX12_rule_33 ml_X12_387 mf_X12_ruleClause im_X12_ruleClause rfl rfl rfl (by decide) (Nat.le_of_ble_eq_true rfl) (Nat.le_of_ble_eq_true rfl) rfl (fun _ h => f_X12_ruleClause_ok h) hf (fun μ11 hf => ?_)
      refine E_iinc (pc := 36) (ls' := fun x12 => [(1, .int x12), (0, .ref a8), (2, .int x10)]) dX12_rule_36 rfl (by decide) (fun _ => rfl) hf (fun x12 hf => ?_)
      refine E_aload_n (pc := 39) dX12_rule_39 rfl ?_
      refine E_Vi (pc := 40) (d2 := D_X12_goesOn) (ci := 12) [] dX12_rule_40 ml_X12_359 mf_X12_goesOn im_X12_goesOn rfl rfl rfl (by decide) (Nat.le_of_ble_eq_true rfl) (Nat.le_of_ble_eq_true rfl) rfl (fun _ _ h => f_X12_goesOn_ok h) hf (fun v14 μ13 hf => ?_)
      refine E_istore_n (pc := 43) (ls' := fun x15 => [(2, .int x15), (1, .int x12), (0, .ref a8)]) dX12_rule_43 (by decide) (fun _ => rfl) hf (fun x15 hf => ?_)
      refine E_goto (pc := 44) (tgt := 27) dX12_rule_44 (by decide) ?_
      refine Ev.sub [2, 1, 0] rfl ?_
      exact ih _ _ _ _ hf
set_option maxRecDepth 100000 in
def f_X12_rule (μ0 : Mm) (a1 : Nat) : Option (Int32 × Mm) :=
 ((gI μ0 a1 12 32).bind fun v2 =>
    (if v2 = (6 : Int32) then
    (some ((-1 : Int32), μ0))
    else
    ((gI μ0 a1 12 32).bind fun v3 =>
    ((pV μ0 a1 12 31 (.int v3)).bind fun μ4 =>
    ((ob μ4 a1 12).bind fun _ =>
    ((f_X12_starts μ4 a1).bind fun μ5 =>
    (nm (0 : Int32) fun x6 =>
    (nm (1 : Int32) fun x7 =>
    f_X12_rule_L27 (fun μ16 a17 x18 =>
    ((pV μ16 a17 12 28 (.int (0 : Int32))).bind fun μ19 =>
    ((gR μ19 a17 12 41).bind fun v20 =>
    ((gI μ19 a17 12 31).bind fun v21 =>
    ((sI μ19 v20 0 v21 x18).bind fun μ22 =>
    ((gI μ22 a17 12 32).bind fun v23 =>
    ((gI μ22 a17 12 30).bind fun v24 =>
    (if v24 = 0 then
    ((pV μ22 a17 12 32 (.int (v23 + (1 : Int32)))).bind fun μ25 =>
    ((gI μ25 a17 12 30).bind fun v26 =>
    (if v26 ≤ 0 then
    ((gI μ25 a17 12 32).bind fun v27 =>
    (some ((v27 - (1 : Int32)), μ25)))
    else
    ((gI μ25 a17 12 30).bind fun v28 =>
    (some (((-2 : Int32) - v28), μ25))))))
    else
    ((pV μ22 a17 12 32 (.int (v23 + (0 : Int32)))).bind fun μ29 =>
    ((gI μ29 a17 12 30).bind fun v30 =>
    (if v30 ≤ 0 then
    ((gI μ29 a17 12 32).bind fun v31 =>
    (some ((v31 - (1 : Int32)), μ29)))
    else
    ((gI μ29 a17 12 30).bind fun v32 =>
    (some (((-2 : Int32) - v32), μ29)))))))))))))) FU μ5 a1 x6 x7))))))))
set_option maxHeartbeats 4000000 in
set_option maxRecDepth 100000 in
theorem f_X12_rule_ok {l : Launch} {G : GG} {μ0 : Mm} {a1 : Nat} {r : Int32} {μ' : Mm} (hf : f_X12_rule μ0 a1 = some (r, μ')) : EvM l G D_X12_rule yX12_rule cX12_rule 3 (some .int) [.ref a1] μ0 (some (.int r)) μ' := by
  show Ev l G D_X12_rule yX12_rule cX12_rule 3 (some .int) 0 [(0, .ref a1)] [] μ0 (some (.int r)) μ'
  unfold f_X12_rule at hf
  refine E_aload_n (pc := 0) dX12_rule_0 rfl ?_
  refine E_getI (pc := 1) dX12_rule_1 fl_X12_384 hf (fun v2 hf => ?_)
  refine E_bipush (pc := 4) (v := (6 : Int32)) dX12_rule_4 (by decide) ?_
  refine E_icmp_ne (pc := 6) (tgt := 11) dX12_rule_6 (by decide) hf (fun hf => ?_) (fun hf => ?_)
  · refine E_iconst (pc := 9) (v := (-1 : Int32)) dX12_rule_9 (by decide) ?_
    exact E_iret (pc := 10) dX12_rule_10 rfl hf
  · refine E_aload_n (pc := 11) dX12_rule_11 rfl ?_
    refine E_aload_n (pc := 12) dX12_rule_12 rfl ?_
    refine E_getI (pc := 13) dX12_rule_13 fl_X12_384 hf (fun v3 hf => ?_)
    refine E_putI (pc := 16) dX12_rule_16 (pl_X12_243 _) hf (fun μ4 hf => ?_)
    refine E_aload_n (pc := 19) dX12_rule_19 rfl ?_
    refine E_Vv (pc := 20) (d2 := D_X12_starts) (ci := 12) [] dX12_rule_20 ml_X12_353 mf_X12_starts im_X12_starts rfl rfl rfl (by decide) (Nat.le_of_ble_eq_true rfl) (Nat.le_of_ble_eq_true rfl) rfl (fun _ h => f_X12_starts_ok h) hf (fun μ5 hf => ?_)
    refine E_iconst (pc := 23) (v := (0 : Int32)) dX12_rule_23 (by decide) ?_
    refine E_istore_n (pc := 24) (ls' := fun x6 => [(1, .int x6), (0, .ref a1)]) dX12_rule_24 (by decide) (fun _ => rfl) hf (fun x6 hf => ?_)
    refine E_iconst (pc := 25) (v := (1 : Int32)) dX12_rule_25 (by decide) ?_
    refine E_istore_n (pc := 26) (ls' := fun x7 => [(2, .int x7), (1, .int x6), (0, .ref a1)]) dX12_rule_26 (by decide) (fun _ => rfl) hf (fun x7 hf => ?_)
    refine Ev.sub [2, 1, 0] rfl ?_
    refine f_X12_rule_L27_ok  _ _ _ _ _ hf (fun μ16 a17 x18 hf => ?_)
    · refine E_aload_n (pc := 47) dX12_rule_47 rfl ?_
      refine E_iconst (pc := 48) (v := (0 : Int32)) dX12_rule_48 (by decide) ?_
      refine E_putI (pc := 49) dX12_rule_49 (pl_X12_187 _) hf (fun μ19 hf => ?_)
      refine E_aload_n (pc := 52) dX12_rule_52 rfl ?_
      refine E_getR (pc := 53) dX12_rule_53 fl_X12_102 hf (fun v20 hf => ?_)
      refine E_aload_n (pc := 56) dX12_rule_56 rfl ?_
      refine E_getI (pc := 57) dX12_rule_57 fl_X12_243 hf (fun v21 hf => ?_)
      refine E_iload_n (pc := 60) dX12_rule_60 rfl ?_
      refine E_iast (pc := 61) dX12_rule_61 hf (fun μ22 hf => ?_)
      refine E_aload_n (pc := 62) dX12_rule_62 rfl ?_
      refine E_dup (pc := 63) dX12_rule_63 rfl ?_
      refine E_getI (pc := 64) dX12_rule_64 fl_X12_384 hf (fun v23 hf => ?_)
      refine E_aload_n (pc := 67) dX12_rule_67 rfl ?_
      refine E_getI (pc := 68) dX12_rule_68 fl_X12_214 hf (fun v24 hf => ?_)
      refine E_if_ne (pc := 71) (tgt := 78) dX12_rule_71 (by decide) hf (fun hf => ?_) (fun hf => ?_)
      · refine E_iconst (pc := 74) (v := (1 : Int32)) dX12_rule_74 (by decide) ?_
        refine E_goto (pc := 75) (tgt := 79) dX12_rule_75 (by decide) ?_
        refine E_iadd (pc := 79) dX12_rule_79 ?_
        refine E_putI (pc := 80) dX12_rule_80 (pl_X12_384 _) hf (fun μ25 hf => ?_)
        refine E_aload_n (pc := 83) dX12_rule_83 rfl ?_
        refine E_getI (pc := 84) dX12_rule_84 fl_X12_214 hf (fun v26 hf => ?_)
        refine E_if_le (pc := 87) (tgt := 100) dX12_rule_87 (by decide) hf (fun hf => ?_) (fun hf => ?_)
        · refine E_aload_n (pc := 100) dX12_rule_100 rfl ?_
          refine E_getI (pc := 101) dX12_rule_101 fl_X12_384 hf (fun v27 hf => ?_)
          refine E_iconst (pc := 104) (v := (1 : Int32)) dX12_rule_104 (by decide) ?_
          refine E_isub (pc := 105) dX12_rule_105 ?_
          exact E_iret (pc := 106) dX12_rule_106 rfl hf
        · refine E_bipush (pc := 90) (v := (-2 : Int32)) dX12_rule_90 (by decide) ?_
          refine E_aload_n (pc := 92) dX12_rule_92 rfl ?_
          refine E_getI (pc := 93) dX12_rule_93 fl_X12_214 hf (fun v28 hf => ?_)
          refine E_isub (pc := 96) dX12_rule_96 ?_
          refine E_goto (pc := 97) (tgt := 106) dX12_rule_97 (by decide) ?_
          exact E_iret (pc := 106) dX12_rule_106 rfl hf
      · refine E_iconst (pc := 78) (v := (0 : Int32)) dX12_rule_78 (by decide) ?_
        refine E_iadd (pc := 79) dX12_rule_79 ?_
        refine E_putI (pc := 80) dX12_rule_80 (pl_X12_384 _) hf (fun μ29 hf => ?_)
        refine E_aload_n (pc := 83) dX12_rule_83 rfl ?_
        refine E_getI (pc := 84) dX12_rule_84 fl_X12_214 hf (fun v30 hf => ?_)
        refine E_if_le (pc := 87) (tgt := 100) dX12_rule_87 (by decide) hf (fun hf => ?_) (fun hf => ?_)
        · refine E_aload_n (pc := 100) dX12_rule_100 rfl ?_
          refine E_getI (pc := 101) dX12_rule_101 fl_X12_384 hf (fun v31 hf => ?_)
          refine E_iconst (pc := 104) (v := (1 : Int32)) dX12_rule_104 (by decide) ?_
          refine E_isub (pc := 105) dX12_rule_105 ?_
          exact E_iret (pc := 106) dX12_rule_106 rfl hf
        · refine E_bipush (pc := 90) (v := (-2 : Int32)) dX12_rule_90 (by decide) ?_
          refine E_aload_n (pc := 92) dX12_rule_92 rfl ?_
          refine E_getI (pc := 93) dX12_rule_93 fl_X12_214 hf (fun v32 hf => ?_)
          refine E_isub (pc := 96) dX12_rule_96 ?_
          refine E_goto (pc := 97) (tgt := 106) dX12_rule_97 (by decide) ?_
          exact E_iret (pc := 106) dX12_rule_106 rfl hf
theorem dX12_force_0 : decode cX12_force 0 = .ok (.iload_n 1, 1) := by decide +kernel
theorem dX12_force_1 : decode cX12_force 1 = .ok (.i2l, 1) := by decide +kernel
theorem dX12_force_2 : decode cX12_force 2 = .ok (.ldc2_w 390, 3) := by decide +kernel
theorem dX12_force_5 : decode cX12_force 5 = .ok (.aload_n 0, 1) := by decide +kernel
theorem dX12_force_6 : decode cX12_force 6 = .ok (.getfield 384, 3) := by decide +kernel
theorem dX12_force_9 : decode cX12_force 9 = .ok (.iconst 1, 1) := by decide +kernel
theorem dX12_force_10 : decode cX12_force 10 = .ok (.isub, 1) := by decide +kernel
theorem dX12_force_11 : decode cX12_force 11 = .ok (.i2l, 1) := by decide +kernel
theorem dX12_force_12 : decode cX12_force 12 = .ok (.invokestatic 183, 3) := by decide +kernel
theorem dX12_force_15 : decode cX12_force 15 = .ok (.ifCond .ne 6, 3) := by decide +kernel
theorem dX12_force_18 : decode cX12_force 18 = .ok (.bipush (-2), 2) := by decide +kernel
theorem dX12_force_20 : decode cX12_force 20 = .ok (.ireturn, 1) := by decide +kernel
theorem dX12_force_21 : decode cX12_force 21 = .ok (.aload_n 0, 1) := by decide +kernel
theorem dX12_force_22 : decode cX12_force 22 = .ok (.getfield 9, 3) := by decide +kernel
theorem dX12_force_25 : decode cX12_force 25 = .ok (.bipush 10, 2) := by decide +kernel
theorem dX12_force_27 : decode cX12_force 27 = .ok (.iaload, 1) := by decide +kernel
theorem dX12_force_28 : decode cX12_force 28 = .ok (.istore_n 2, 1) := by decide +kernel
theorem dX12_force_29 : decode cX12_force 29 = .ok (.aload_n 0, 1) := by decide +kernel
theorem dX12_force_30 : decode cX12_force 30 = .ok (.getfield 9, 3) := by decide +kernel
theorem dX12_force_33 : decode cX12_force 33 = .ok (.bipush 10, 2) := by decide +kernel
theorem dX12_force_35 : decode cX12_force 35 = .ok (.iload_n 1, 1) := by decide +kernel
theorem dX12_force_36 : decode cX12_force 36 = .ok (.iastore, 1) := by decide +kernel
theorem dX12_force_37 : decode cX12_force 37 = .ok (.iload_n 2, 1) := by decide +kernel
theorem dX12_force_38 : decode cX12_force 38 = .ok (.ireturn, 1) := by decide +kernel
abbrev D_X12_force : Nat := 2
set_option maxRecDepth 100000 in
def f_X12_force (μ0 : Mm) (a1 : Nat) (x2 : Int32) : Option (Int32 × Mm) :=
 ((gI μ0 a1 12 32).bind fun v3 =>
    (bd (f_X12_in μ0 (x2).toInt64 (-1 : Int64) ((v3 - (1 : Int32))).toInt64) fun v5 μ4 =>
    (if v5 = 0 then
    (some ((-2 : Int32), μ4))
    else
    ((gR μ4 a1 12 1).bind fun v6 =>
    ((aI μ4 v6 0 (10 : Int32)).bind fun v7 =>
    (nm v7 fun x8 =>
    ((gR μ4 a1 12 1).bind fun v9 =>
    ((sI μ4 v9 0 (10 : Int32) x2).bind fun μ10 =>
    (some (x8, μ10))))))))))
set_option maxHeartbeats 4000000 in
set_option maxRecDepth 100000 in
theorem f_X12_force_ok {l : Launch} {G : GG} {μ0 : Mm} {a1 : Nat} {x2 : Int32} {r : Int32} {μ' : Mm} (hf : f_X12_force μ0 a1 x2 = some (r, μ')) : EvM l G D_X12_force yX12_force cX12_force 3 (some .int) [.ref a1, .int x2] μ0 (some (.int r)) μ' := by
  show Ev l G D_X12_force yX12_force cX12_force 3 (some .int) 0 [(0, .ref a1), (1, .int x2)] [] μ0 (some (.int r)) μ'
  unfold f_X12_force at hf
  refine E_iload_n (pc := 0) dX12_force_0 rfl ?_
  refine E_i2l (pc := 1) dX12_force_1 ?_
  refine E_ldc2 (pc := 2) (v := (-1 : Int64)) dX12_force_2 co_X12_390 ?_
  refine E_aload_n (pc := 5) dX12_force_5 rfl ?_
  refine E_getI (pc := 6) dX12_force_6 fl_X12_384 hf (fun v3 hf => ?_)
  refine E_iconst (pc := 9) (v := (1 : Int32)) dX12_force_9 (by decide) ?_
  refine E_isub (pc := 10) dX12_force_10 ?_
  refine E_i2l (pc := 11) dX12_force_11 ?_
  refine E_Si (pc := 12) (d2 := D_X12_in) [.long (x2).toInt64, .long (-1 : Int64), .long ((v3 - (1 : Int32))).toInt64] dX12_force_12 ml_X12_183 mf_X12_in st_X12_in rfl (by decide) (Nat.le_of_ble_eq_true rfl) (Nat.le_of_ble_eq_true rfl) rfl (fun _ _ h => f_X12_in_ok h) hf (fun v5 μ4 hf => ?_)
  refine E_if_ne (pc := 15) (tgt := 21) dX12_force_15 (by decide) hf (fun hf => ?_) (fun hf => ?_)
  · refine E_bipush (pc := 18) (v := (-2 : Int32)) dX12_force_18 (by decide) ?_
    exact E_iret (pc := 20) dX12_force_20 rfl hf
  · refine E_aload_n (pc := 21) dX12_force_21 rfl ?_
    refine E_getR (pc := 22) dX12_force_22 fl_X12_9 hf (fun v6 hf => ?_)
    refine E_bipush (pc := 25) (v := (10 : Int32)) dX12_force_25 (by decide) ?_
    refine E_iald (pc := 27) dX12_force_27 hf (fun v7 hf => ?_)
    refine E_istore_n (pc := 28) (ls' := fun x8 => [(2, .int x8), (0, .ref a1), (1, .int x2)]) dX12_force_28 (by decide) (fun _ => rfl) hf (fun x8 hf => ?_)
    refine E_aload_n (pc := 29) dX12_force_29 rfl ?_
    refine E_getR (pc := 30) dX12_force_30 fl_X12_9 hf (fun v9 hf => ?_)
    refine E_bipush (pc := 33) (v := (10 : Int32)) dX12_force_33 (by decide) ?_
    refine E_iload_n (pc := 35) dX12_force_35 rfl ?_
    refine E_iast (pc := 36) dX12_force_36 hf (fun μ10 hf => ?_)
    refine E_iload_n (pc := 37) dX12_force_37 rfl ?_
    exact E_iret (pc := 38) dX12_force_38 rfl hf
theorem dX12_tells_0 : decode cX12_tells 0 = .ok (.aload_n 0, 1) := by decide +kernel
theorem dX12_tells_1 : decode cX12_tells 1 = .ok (.getfield 9, 3) := by decide +kernel
theorem dX12_tells_4 : decode cX12_tells 4 = .ok (.bipush 10, 2) := by decide +kernel
theorem dX12_tells_6 : decode cX12_tells 6 = .ok (.iaload, 1) := by decide +kernel
theorem dX12_tells_7 : decode cX12_tells 7 = .ok (.istore_n 2, 1) := by decide +kernel
theorem dX12_tells_8 : decode cX12_tells 8 = .ok (.bipush 12, 2) := by decide +kernel
theorem dX12_tells_10 : decode cX12_tells 10 = .ok (.iload_n 2, 1) := by decide +kernel
theorem dX12_tells_11 : decode cX12_tells 11 = .ok (.imul, 1) := by decide +kernel
theorem dX12_tells_12 : decode cX12_tells 12 = .ok (.istore_n 3, 1) := by decide +kernel
theorem dX12_tells_13 : decode cX12_tells 13 = .ok (.iload_n 2, 1) := by decide +kernel
theorem dX12_tells_14 : decode cX12_tells 14 = .ok (.iconst (-1), 1) := by decide +kernel
theorem dX12_tells_15 : decode cX12_tells 15 = .ok (.if_icmp .eq 36, 3) := by decide +kernel
theorem dX12_tells_18 : decode cX12_tells 18 = .ok (.iload_n 3, 1) := by decide +kernel
theorem dX12_tells_19 : decode cX12_tells 19 = .ok (.bipush 12, 2) := by decide +kernel
theorem dX12_tells_21 : decode cX12_tells 21 = .ok (.iload_n 2, 1) := by decide +kernel
theorem dX12_tells_22 : decode cX12_tells 22 = .ok (.imul, 1) := by decide +kernel
theorem dX12_tells_23 : decode cX12_tells 23 = .ok (.aload_n 0, 1) := by decide +kernel
theorem dX12_tells_24 : decode cX12_tells 24 = .ok (.getfield 102, 3) := by decide +kernel
theorem dX12_tells_27 : decode cX12_tells 27 = .ok (.iload_n 2, 1) := by decide +kernel
theorem dX12_tells_28 : decode cX12_tells 28 = .ok (.iaload, 1) := by decide +kernel
theorem dX12_tells_29 : decode cX12_tells 29 = .ok (.iadd, 1) := by decide +kernel
theorem dX12_tells_30 : decode cX12_tells 30 = .ok (.if_icmp .ge 21, 3) := by decide +kernel
theorem dX12_tells_33 : decode cX12_tells 33 = .ok (.aload_n 0, 1) := by decide +kernel
theorem dX12_tells_34 : decode cX12_tells 34 = .ok (.getfield 117, 3) := by decide +kernel
theorem dX12_tells_37 : decode cX12_tells 37 = .ok (.iload_n 3, 1) := by decide +kernel
theorem dX12_tells_38 : decode cX12_tells 38 = .ok (.baload, 1) := by decide +kernel
theorem dX12_tells_39 : decode cX12_tells 39 = .ok (.iload_n 1, 1) := by decide +kernel
theorem dX12_tells_40 : decode cX12_tells 40 = .ok (.if_icmp .ne 5, 3) := by decide +kernel
theorem dX12_tells_43 : decode cX12_tells 43 = .ok (.iconst 1, 1) := by decide +kernel
theorem dX12_tells_44 : decode cX12_tells 44 = .ok (.ireturn, 1) := by decide +kernel
theorem dX12_tells_45 : decode cX12_tells 45 = .ok (.iinc 3 1, 3) := by decide +kernel
theorem dX12_tells_48 : decode cX12_tells 48 = .ok (.goto (-35), 3) := by decide +kernel
theorem dX12_tells_51 : decode cX12_tells 51 = .ok (.iconst 0, 1) := by decide +kernel
theorem dX12_tells_52 : decode cX12_tells 52 = .ok (.ireturn, 1) := by decide +kernel
abbrev D_X12_tells : Nat := 1
def f_X12_tells_L13 (K43 : Mm → Option (Int32 × Mm)) (K51 : Mm → Option (Int32 × Mm)) : Nat → Mm → Nat → Int32 → Int32 → Int32 → Option (Int32 × Mm)
  | 0, _, _, _, _, _ => none
  | n + 1, μ0, a7, x8, x9, x10 =>
    (if x9 = (-1 : Int32) then
    K51 μ0
    else
    ((gR μ0 a7 12 41).bind fun v11 =>
    ((aI μ0 v11 0 x9).bind fun v12 =>
    (if (((12 : Int32) * x9) + v12) ≤ x10 then
    K51 μ0
    else
    ((gR μ0 a7 12 46).bind fun v13 =>
    ((aI μ0 v13 2 x10).bind fun v14 =>
    (if v14 = x8 then
    K43 μ0
    else
    (nm (x10 + Int32.ofInt (1)) fun x15 =>
    f_X12_tells_L13 K43 K51 n μ0 a7 x8 x9 x15))))))))
set_option maxHeartbeats 4000000 in
set_option maxRecDepth 100000 in
theorem f_X12_tells_L13_ok {l : Launch} {G : GG} {K43 : Mm → Option (Int32 × Mm)} {K51 : Mm → Option (Int32 × Mm)} {r : Int32} {μ' : Mm} (n : Nat) (μ0 : Mm) (a7 : Nat) (x8 : Int32) (x9 : Int32) (x10 : Int32) (hf : f_X12_tells_L13 K43 K51 n μ0 a7 x8 x9 x10 = some (r, μ')) (hK43 : ∀ (μ1 : Mm), K43 μ1  = some (r, μ') → Ev l G D_X12_tells yX12_tells cX12_tells 4 (some .boolean) 43 [] [] μ1 (some (.int r)) μ') (hK51 : ∀ (μ1 : Mm), K51 μ1  = some (r, μ') → Ev l G D_X12_tells yX12_tells cX12_tells 4 (some .boolean) 51 [] [] μ1 (some (.int r)) μ') : Ev l G D_X12_tells yX12_tells cX12_tells 4 (some .boolean) 13 [(0, .ref a7), (1, .int x8), (2, .int x9), (3, .int x10)] [] μ0 (some (.int r)) μ' := by
  induction n generalizing μ0 a7 x8 x9 x10 with
  | zero => cases hf
  | succ n ih0 =>
    have ih : ∀ (μ0 : Mm) (a7 : Nat) (x8 : Int32) (x9 : Int32) (x10 : Int32), f_X12_tells_L13 K43 K51 n μ0 a7 x8 x9 x10 = some (r, μ') → Ev l G D_X12_tells yX12_tells cX12_tells 4 (some .boolean) 13 [(0, .ref a7), (1, .int x8), (2, .int x9), (3, .int x10)] [] μ0 (some (.int r)) μ' := fun μ0 a7 x8 x9 x10 hf => ih0 μ0 a7 x8 x9 x10 hf
    rw [f_X12_tells_L13] at hf
    refine E_iload_n (pc := 13) dX12_tells_13 rfl ?_
    refine E_iconst (pc := 14) (v := (-1 : Int32)) dX12_tells_14 (by decide) ?_
    refine E_icmp_eq (pc := 15) (tgt := 51) dX12_tells_15 (by decide) hf (fun hf => ?_) (fun hf => ?_)
    · refine Ev.sub [] rfl ?_
      exact hK51 _ hf
    · refine E_iload_n (pc := 18) dX12_tells_18 rfl ?_
      refine E_bipush (pc := 19) (v := (12 : Int32)) dX12_tells_19 (by decide) ?_
      refine E_iload_n (pc := 21) dX12_tells_21 rfl ?_
      refine E_imul (pc := 22) dX12_tells_22 ?_
      refine E_aload_n (pc := 23) dX12_tells_23 rfl ?_
      refine E_getR (pc := 24) dX12_tells_24 fl_X12_102 hf (fun v11 hf => ?_)
      refine E_iload_n (pc := 27) dX12_tells_27 rfl ?_
      refine E_iald (pc := 28) dX12_tells_28 hf (fun v12 hf => ?_)
      refine E_iadd (pc := 29) dX12_tells_29 ?_
      refine E_icmp_ge (pc := 30) (tgt := 51) dX12_tells_30 (by decide) hf (fun hf => ?_) (fun hf => ?_)
      · refine Ev.sub [] rfl ?_
        exact hK51 _ hf
      · refine E_aload_n (pc := 33) dX12_tells_33 rfl ?_
        refine E_getR (pc := 34) dX12_tells_34 fl_X12_117 hf (fun v13 hf => ?_)
        refine E_iload_n (pc := 37) dX12_tells_37 rfl ?_
        refine E_zald (pc := 38) dX12_tells_38 hf (fun v14 hf => ?_)
        refine E_iload_n (pc := 39) dX12_tells_39 rfl ?_
        refine E_icmp_ne (pc := 40) (tgt := 45) dX12_tells_40 (by decide) hf (fun hf => ?_) (fun hf => ?_)
        · refine Ev.sub [] rfl ?_
          exact hK43 _ hf
        · refine E_iinc (pc := 45) (ls' := fun x15 => [(3, .int x15), (0, .ref a7), (1, .int x8), (2, .int x9)]) dX12_tells_45 rfl (by decide) (fun _ => rfl) hf (fun x15 hf => ?_)
          refine E_goto (pc := 48) (tgt := 13) dX12_tells_48 (by decide) ?_
          refine Ev.sub [1, 2, 3, 0] rfl ?_
          exact ih _ _ _ _ _ hf
set_option maxRecDepth 100000 in
def f_X12_tells (μ0 : Mm) (a1 : Nat) (x2 : Int32) : Option (Int32 × Mm) :=
 ((gR μ0 a1 12 1).bind fun v3 =>
    ((aI μ0 v3 0 (10 : Int32)).bind fun v4 =>
    (nm v4 fun x5 =>
    (nm ((12 : Int32) * x5) fun x6 =>
    f_X12_tells_L13 (fun μ16 =>
    (if (1 : Int32) = 0 ∨ (1 : Int32) = 1 then some ((1 : Int32), μ16) else none)) (fun μ17 =>
    (if (0 : Int32) = 0 ∨ (0 : Int32) = 1 then some ((0 : Int32), μ17) else none)) FU μ0 a1 x2 x5 x6))))
set_option maxHeartbeats 4000000 in
set_option maxRecDepth 100000 in
theorem f_X12_tells_ok {l : Launch} {G : GG} {μ0 : Mm} {a1 : Nat} {x2 : Int32} {r : Int32} {μ' : Mm} (hf : f_X12_tells μ0 a1 x2 = some (r, μ')) : EvM l G D_X12_tells yX12_tells cX12_tells 4 (some .boolean) [.ref a1, .int x2] μ0 (some (.int r)) μ' := by
  show Ev l G D_X12_tells yX12_tells cX12_tells 4 (some .boolean) 0 [(0, .ref a1), (1, .int x2)] [] μ0 (some (.int r)) μ'
  unfold f_X12_tells at hf
  refine E_aload_n (pc := 0) dX12_tells_0 rfl ?_
  refine E_getR (pc := 1) dX12_tells_1 fl_X12_9 hf (fun v3 hf => ?_)
  refine E_bipush (pc := 4) (v := (10 : Int32)) dX12_tells_4 (by decide) ?_
  refine E_iald (pc := 6) dX12_tells_6 hf (fun v4 hf => ?_)
  refine E_istore_n (pc := 7) (ls' := fun x5 => [(2, .int x5), (0, .ref a1), (1, .int x2)]) dX12_tells_7 (by decide) (fun _ => rfl) hf (fun x5 hf => ?_)
  refine E_bipush (pc := 8) (v := (12 : Int32)) dX12_tells_8 (by decide) ?_
  refine E_iload_n (pc := 10) dX12_tells_10 rfl ?_
  refine E_imul (pc := 11) dX12_tells_11 ?_
  refine E_istore_n (pc := 12) (ls' := fun x6 => [(3, .int x6), (2, .int x5), (0, .ref a1), (1, .int x2)]) dX12_tells_12 (by decide) (fun _ => rfl) hf (fun x6 hf => ?_)
  refine Ev.sub [2, 3, 1, 0] rfl ?_
  refine f_X12_tells_L13_ok  _ _ _ _ _ _ hf (fun μ16 hf => ?_) (fun μ17 hf => ?_)
  · refine E_iconst (pc := 43) (v := (1 : Int32)) dX12_tells_43 (by decide) ?_
    exact E_zret (pc := 44) dX12_tells_44 rfl hf
  · refine E_iconst (pc := 51) (v := (0 : Int32)) dX12_tells_51 (by decide) ?_
    exact E_zret (pc := 52) dX12_tells_52 rfl hf
theorem dX12_truth_0 : decode cX12_truth 0 = .ok (.iload_n 0, 1) := by decide +kernel
theorem dX12_truth_1 : decode cX12_truth 1 = .ok (.ifCond .eq 7, 3) := by decide +kernel
theorem dX12_truth_4 : decode cX12_truth 4 = .ok (.lconst 1, 1) := by decide +kernel
theorem dX12_truth_5 : decode cX12_truth 5 = .ok (.goto 4, 3) := by decide +kernel
theorem dX12_truth_8 : decode cX12_truth 8 = .ok (.lconst 0, 1) := by decide +kernel
theorem dX12_truth_9 : decode cX12_truth 9 = .ok (.lreturn, 1) := by decide +kernel
abbrev D_X12_truth : Nat := 1
set_option maxRecDepth 100000 in
def f_X12_truth (μ0 : Mm) (x1 : Int32) : Option (Int64 × Mm) :=
 (if x1 = 0 then
    (some ((0 : Int64), μ0))
    else
    (some ((1 : Int64), μ0)))
set_option maxHeartbeats 4000000 in
set_option maxRecDepth 100000 in
theorem f_X12_truth_ok {l : Launch} {G : GG} {μ0 : Mm} {x1 : Int32} {r : Int64} {μ' : Mm} (hf : f_X12_truth μ0 x1 = some (r, μ')) : EvM l G D_X12_truth yX12_truth cX12_truth 1 (some .long) [.int x1] μ0 (some (.long r)) μ' := by
  show Ev l G D_X12_truth yX12_truth cX12_truth 1 (some .long) 0 [(0, .int x1)] [] μ0 (some (.long r)) μ'
  unfold f_X12_truth at hf
  refine E_iload_n (pc := 0) dX12_truth_0 rfl ?_
  refine E_if_eq (pc := 1) (tgt := 8) dX12_truth_1 (by decide) hf (fun hf => ?_) (fun hf => ?_)
  · refine E_lconst (pc := 8) (v := (0 : Int64)) dX12_truth_8 (by decide) ?_
    exact E_lret (pc := 9) dX12_truth_9 rfl hf
  · refine E_lconst (pc := 4) (v := (1 : Int64)) dX12_truth_4 (by decide) ?_
    refine E_goto (pc := 5) (tgt := 9) dX12_truth_5 (by decide) ?_
    exact E_lret (pc := 9) dX12_truth_9 rfl hf
theorem dX12_both_0 : decode cX12_both 0 = .ok (.iload_n 0, 1) := by decide +kernel
theorem dX12_both_1 : decode cX12_both 1 = .ok (.tableswitch 190 2 15 #[71, 75, 111, 126, 141, 156, 171, 190, 186, 190, 190, 79, 83, 97], 71) := by decide +kernel
theorem dX12_both_72 : decode cX12_both 72 = .ok (.lload_n 1, 1) := by decide +kernel
theorem dX12_both_73 : decode cX12_both 73 = .ok (.lload_n 3, 1) := by decide +kernel
theorem dX12_both_74 : decode cX12_both 74 = .ok (.ladd, 1) := by decide +kernel
theorem dX12_both_75 : decode cX12_both 75 = .ok (.lreturn, 1) := by decide +kernel
theorem dX12_both_76 : decode cX12_both 76 = .ok (.lload_n 1, 1) := by decide +kernel
theorem dX12_both_77 : decode cX12_both 77 = .ok (.lload_n 3, 1) := by decide +kernel
theorem dX12_both_78 : decode cX12_both 78 = .ok (.lsub, 1) := by decide +kernel
theorem dX12_both_79 : decode cX12_both 79 = .ok (.lreturn, 1) := by decide +kernel
theorem dX12_both_80 : decode cX12_both 80 = .ok (.lload_n 1, 1) := by decide +kernel
theorem dX12_both_81 : decode cX12_both 81 = .ok (.lload_n 3, 1) := by decide +kernel
theorem dX12_both_82 : decode cX12_both 82 = .ok (.lmul, 1) := by decide +kernel
theorem dX12_both_83 : decode cX12_both 83 = .ok (.lreturn, 1) := by decide +kernel
theorem dX12_both_84 : decode cX12_both 84 = .ok (.lload_n 3, 1) := by decide +kernel
theorem dX12_both_85 : decode cX12_both 85 = .ok (.lconst 0, 1) := by decide +kernel
theorem dX12_both_86 : decode cX12_both 86 = .ok (.lcmp, 1) := by decide +kernel
theorem dX12_both_87 : decode cX12_both 87 = .ok (.ifCond .ne 7, 3) := by decide +kernel
theorem dX12_both_90 : decode cX12_both 90 = .ok (.lconst 0, 1) := by decide +kernel
theorem dX12_both_91 : decode cX12_both 91 = .ok (.goto 6, 3) := by decide +kernel
theorem dX12_both_94 : decode cX12_both 94 = .ok (.lload_n 1, 1) := by decide +kernel
theorem dX12_both_95 : decode cX12_both 95 = .ok (.lload_n 3, 1) := by decide +kernel
theorem dX12_both_96 : decode cX12_both 96 = .ok (.ldiv, 1) := by decide +kernel
theorem dX12_both_97 : decode cX12_both 97 = .ok (.lreturn, 1) := by decide +kernel
theorem dX12_both_98 : decode cX12_both 98 = .ok (.lload_n 3, 1) := by decide +kernel
theorem dX12_both_99 : decode cX12_both 99 = .ok (.lconst 0, 1) := by decide +kernel
theorem dX12_both_100 : decode cX12_both 100 = .ok (.lcmp, 1) := by decide +kernel
theorem dX12_both_101 : decode cX12_both 101 = .ok (.ifCond .ne 7, 3) := by decide +kernel
theorem dX12_both_104 : decode cX12_both 104 = .ok (.lconst 0, 1) := by decide +kernel
theorem dX12_both_105 : decode cX12_both 105 = .ok (.goto 6, 3) := by decide +kernel
theorem dX12_both_108 : decode cX12_both 108 = .ok (.lload_n 1, 1) := by decide +kernel
theorem dX12_both_109 : decode cX12_both 109 = .ok (.lload_n 3, 1) := by decide +kernel
theorem dX12_both_110 : decode cX12_both 110 = .ok (.lrem, 1) := by decide +kernel
theorem dX12_both_111 : decode cX12_both 111 = .ok (.lreturn, 1) := by decide +kernel
theorem dX12_both_112 : decode cX12_both 112 = .ok (.lload_n 1, 1) := by decide +kernel
theorem dX12_both_113 : decode cX12_both 113 = .ok (.lload_n 3, 1) := by decide +kernel
theorem dX12_both_114 : decode cX12_both 114 = .ok (.lcmp, 1) := by decide +kernel
theorem dX12_both_115 : decode cX12_both 115 = .ok (.ifCond .ge 7, 3) := by decide +kernel
theorem dX12_both_118 : decode cX12_both 118 = .ok (.iconst 1, 1) := by decide +kernel
theorem dX12_both_119 : decode cX12_both 119 = .ok (.goto 4, 3) := by decide +kernel
theorem dX12_both_122 : decode cX12_both 122 = .ok (.iconst 0, 1) := by decide +kernel
theorem dX12_both_123 : decode cX12_both 123 = .ok (.invokestatic 398, 3) := by decide +kernel
theorem dX12_both_126 : decode cX12_both 126 = .ok (.lreturn, 1) := by decide +kernel
theorem dX12_both_127 : decode cX12_both 127 = .ok (.lload_n 1, 1) := by decide +kernel
theorem dX12_both_128 : decode cX12_both 128 = .ok (.lload_n 3, 1) := by decide +kernel
theorem dX12_both_129 : decode cX12_both 129 = .ok (.lcmp, 1) := by decide +kernel
theorem dX12_both_130 : decode cX12_both 130 = .ok (.ifCond .gt 7, 3) := by decide +kernel
theorem dX12_both_133 : decode cX12_both 133 = .ok (.iconst 1, 1) := by decide +kernel
theorem dX12_both_134 : decode cX12_both 134 = .ok (.goto 4, 3) := by decide +kernel
theorem dX12_both_137 : decode cX12_both 137 = .ok (.iconst 0, 1) := by decide +kernel
theorem dX12_both_138 : decode cX12_both 138 = .ok (.invokestatic 398, 3) := by decide +kernel
theorem dX12_both_141 : decode cX12_both 141 = .ok (.lreturn, 1) := by decide +kernel
theorem dX12_both_142 : decode cX12_both 142 = .ok (.lload_n 1, 1) := by decide +kernel
theorem dX12_both_143 : decode cX12_both 143 = .ok (.lload_n 3, 1) := by decide +kernel
theorem dX12_both_144 : decode cX12_both 144 = .ok (.lcmp, 1) := by decide +kernel
theorem dX12_both_145 : decode cX12_both 145 = .ok (.ifCond .ne 7, 3) := by decide +kernel
theorem dX12_both_148 : decode cX12_both 148 = .ok (.iconst 1, 1) := by decide +kernel
theorem dX12_both_149 : decode cX12_both 149 = .ok (.goto 4, 3) := by decide +kernel
theorem dX12_both_152 : decode cX12_both 152 = .ok (.iconst 0, 1) := by decide +kernel
theorem dX12_both_153 : decode cX12_both 153 = .ok (.invokestatic 398, 3) := by decide +kernel
theorem dX12_both_156 : decode cX12_both 156 = .ok (.lreturn, 1) := by decide +kernel
theorem dX12_both_157 : decode cX12_both 157 = .ok (.lload_n 1, 1) := by decide +kernel
theorem dX12_both_158 : decode cX12_both 158 = .ok (.lload_n 3, 1) := by decide +kernel
theorem dX12_both_159 : decode cX12_both 159 = .ok (.lcmp, 1) := by decide +kernel
theorem dX12_both_160 : decode cX12_both 160 = .ok (.ifCond .lt 7, 3) := by decide +kernel
theorem dX12_both_163 : decode cX12_both 163 = .ok (.iconst 1, 1) := by decide +kernel
theorem dX12_both_164 : decode cX12_both 164 = .ok (.goto 4, 3) := by decide +kernel
theorem dX12_both_167 : decode cX12_both 167 = .ok (.iconst 0, 1) := by decide +kernel
theorem dX12_both_168 : decode cX12_both 168 = .ok (.invokestatic 398, 3) := by decide +kernel
theorem dX12_both_171 : decode cX12_both 171 = .ok (.lreturn, 1) := by decide +kernel
theorem dX12_both_172 : decode cX12_both 172 = .ok (.lload_n 1, 1) := by decide +kernel
theorem dX12_both_173 : decode cX12_both 173 = .ok (.lload_n 3, 1) := by decide +kernel
theorem dX12_both_174 : decode cX12_both 174 = .ok (.lcmp, 1) := by decide +kernel
theorem dX12_both_175 : decode cX12_both 175 = .ok (.ifCond .le 7, 3) := by decide +kernel
theorem dX12_both_178 : decode cX12_both 178 = .ok (.iconst 1, 1) := by decide +kernel
theorem dX12_both_179 : decode cX12_both 179 = .ok (.goto 4, 3) := by decide +kernel
theorem dX12_both_182 : decode cX12_both 182 = .ok (.iconst 0, 1) := by decide +kernel
theorem dX12_both_183 : decode cX12_both 183 = .ok (.invokestatic 398, 3) := by decide +kernel
theorem dX12_both_186 : decode cX12_both 186 = .ok (.lreturn, 1) := by decide +kernel
theorem dX12_both_187 : decode cX12_both 187 = .ok (.lload_n 1, 1) := by decide +kernel
theorem dX12_both_188 : decode cX12_both 188 = .ok (.lload_n 3, 1) := by decide +kernel
theorem dX12_both_189 : decode cX12_both 189 = .ok (.land, 1) := by decide +kernel
theorem dX12_both_190 : decode cX12_both 190 = .ok (.lreturn, 1) := by decide +kernel
theorem dX12_both_191 : decode cX12_both 191 = .ok (.lload_n 1, 1) := by decide +kernel
theorem dX12_both_192 : decode cX12_both 192 = .ok (.lload_n 3, 1) := by decide +kernel
theorem dX12_both_193 : decode cX12_both 193 = .ok (.lor, 1) := by decide +kernel
theorem dX12_both_194 : decode cX12_both 194 = .ok (.lreturn, 1) := by decide +kernel
abbrev D_X12_both : Nat := 2
set_option maxRecDepth 100000 in
def f_X12_both (μ0 : Mm) (x1 : Int32) (w2 : Int64) (w3 : Int64) : Option (Int64 × Mm) :=
 (if x1 = (2 : Int32) then
    (some ((w2 + w3), μ0))
    else
    (if x1 = (3 : Int32) then
    (some ((w2 - w3), μ0))
    else
    (if x1 = (4 : Int32) then
    (if 0 ≤ (lg_cmp w2 w3) then
    (bd (f_X12_truth μ0 (0 : Int32)) fun v23 μ22 =>
    (some (v23, μ22)))
    else
    (bd (f_X12_truth μ0 (1 : Int32)) fun v25 μ24 =>
    (some (v25, μ24))))
    else
    (if x1 = (5 : Int32) then
    (if 0 < (lg_cmp w2 w3) then
    (bd (f_X12_truth μ0 (0 : Int32)) fun v19 μ18 =>
    (some (v19, μ18)))
    else
    (bd (f_X12_truth μ0 (1 : Int32)) fun v21 μ20 =>
    (some (v21, μ20))))
    else
    (if x1 = (6 : Int32) then
    (if (lg_cmp w2 w3) = 0 then
    (bd (f_X12_truth μ0 (1 : Int32)) fun v15 μ14 =>
    (some (v15, μ14)))
    else
    (bd (f_X12_truth μ0 (0 : Int32)) fun v17 μ16 =>
    (some (v17, μ16))))
    else
    (if x1 = (7 : Int32) then
    (if (lg_cmp w2 w3) < 0 then
    (bd (f_X12_truth μ0 (0 : Int32)) fun v11 μ10 =>
    (some (v11, μ10)))
    else
    (bd (f_X12_truth μ0 (1 : Int32)) fun v13 μ12 =>
    (some (v13, μ12))))
    else
    (if x1 = (8 : Int32) then
    (if (lg_cmp w2 w3) ≤ 0 then
    (bd (f_X12_truth μ0 (0 : Int32)) fun v7 μ6 =>
    (some (v7, μ6)))
    else
    (bd (f_X12_truth μ0 (1 : Int32)) fun v9 μ8 =>
    (some (v9, μ8))))
    else
    (if x1 = (9 : Int32) then
    (some ((w2 ||| w3), μ0))
    else
    (if x1 = (10 : Int32) then
    (some ((w2 &&& w3), μ0))
    else
    (if x1 = (11 : Int32) then
    (some ((w2 ||| w3), μ0))
    else
    (if x1 = (12 : Int32) then
    (some ((w2 ||| w3), μ0))
    else
    (if x1 = (13 : Int32) then
    (some ((w2 * w3), μ0))
    else
    (if x1 = (14 : Int32) then
    (if (lg_cmp w3 (0 : Int64)) = 0 then
    (some ((0 : Int64), μ0))
    else
    (dvL w2 w3 fun v5 =>
    (some (v5, μ0))))
    else
    (if x1 = (15 : Int32) then
    (if (lg_cmp w3 (0 : Int64)) = 0 then
    (some ((0 : Int64), μ0))
    else
    (rmL w2 w3 fun v4 =>
    (some (v4, μ0))))
    else
    (some ((w2 ||| w3), μ0))))))))))))))))
set_option maxHeartbeats 4000000 in
set_option maxRecDepth 100000 in
theorem f_X12_both_ok {l : Launch} {G : GG} {μ0 : Mm} {x1 : Int32} {w2 : Int64} {w3 : Int64} {r : Int64} {μ' : Mm} (hf : f_X12_both μ0 x1 w2 w3 = some (r, μ')) : EvM l G D_X12_both yX12_both cX12_both 5 (some .long) [.int x1, .long w2, .long w3] μ0 (some (.long r)) μ' := by
  show Ev l G D_X12_both yX12_both cX12_both 5 (some .long) 0 [(0, .int x1), (1, .long w2), (3, .long w3)] [] μ0 (some (.long r)) μ'
  unfold f_X12_both at hf
  refine E_iload_n (pc := 0) dX12_both_0 rfl ?_
  refine ifS hf (fun n1_0 hf => ?_) (fun n1_0 hf => ?_)
  · refine E_tswI (pc := 1) (tgt := 72) (2) dX12_both_1 (by rw [n1_0]; decide) (by decide) (by decide) rfl (by decide) ?_
    refine E_lload_n (pc := 72) dX12_both_72 rfl ?_
    refine E_lload_n (pc := 73) dX12_both_73 rfl ?_
    refine E_ladd (pc := 74) dX12_both_74 ?_
    exact E_lret (pc := 75) dX12_both_75 rfl hf
  · refine ifS hf (fun n1_1 hf => ?_) (fun n1_1 hf => ?_)
    · refine E_tswI (pc := 1) (tgt := 76) (3) dX12_both_1 (by rw [n1_1]; decide) (by decide) (by decide) rfl (by decide) ?_
      refine E_lload_n (pc := 76) dX12_both_76 rfl ?_
      refine E_lload_n (pc := 77) dX12_both_77 rfl ?_
      refine E_lsub (pc := 78) dX12_both_78 ?_
      exact E_lret (pc := 79) dX12_both_79 rfl hf
    · refine ifS hf (fun n1_2 hf => ?_) (fun n1_2 hf => ?_)
      · refine E_tswI (pc := 1) (tgt := 112) (4) dX12_both_1 (by rw [n1_2]; decide) (by decide) (by decide) rfl (by decide) ?_
        refine E_lload_n (pc := 112) dX12_both_112 rfl ?_
        refine E_lload_n (pc := 113) dX12_both_113 rfl ?_
        refine E_lcmp (pc := 114) dX12_both_114 ?_
        refine E_if_ge (pc := 115) (tgt := 122) dX12_both_115 (by decide) hf (fun hf => ?_) (fun hf => ?_)
        · refine E_iconst (pc := 122) (v := (0 : Int32)) dX12_both_122 (by decide) ?_
          refine E_Sl (pc := 123) (d2 := D_X12_truth) [.int (0 : Int32)] dX12_both_123 ml_X12_398 mf_X12_truth st_X12_truth rfl (by decide) (Nat.le_of_ble_eq_true rfl) (Nat.le_of_ble_eq_true rfl) rfl (fun _ _ h => f_X12_truth_ok h) hf (fun v23 μ22 hf => ?_)
          exact E_lret (pc := 126) dX12_both_126 rfl hf
        · refine E_iconst (pc := 118) (v := (1 : Int32)) dX12_both_118 (by decide) ?_
          refine E_goto (pc := 119) (tgt := 123) dX12_both_119 (by decide) ?_
          refine E_Sl (pc := 123) (d2 := D_X12_truth) [.int (1 : Int32)] dX12_both_123 ml_X12_398 mf_X12_truth st_X12_truth rfl (by decide) (Nat.le_of_ble_eq_true rfl) (Nat.le_of_ble_eq_true rfl) rfl (fun _ _ h => f_X12_truth_ok h) hf (fun v25 μ24 hf => ?_)
          exact E_lret (pc := 126) dX12_both_126 rfl hf
      · refine ifS hf (fun n1_3 hf => ?_) (fun n1_3 hf => ?_)
        · refine E_tswI (pc := 1) (tgt := 127) (5) dX12_both_1 (by rw [n1_3]; decide) (by decide) (by decide) rfl (by decide) ?_
          refine E_lload_n (pc := 127) dX12_both_127 rfl ?_
          refine E_lload_n (pc := 128) dX12_both_128 rfl ?_
          refine E_lcmp (pc := 129) dX12_both_129 ?_
          refine E_if_gt (pc := 130) (tgt := 137) dX12_both_130 (by decide) hf (fun hf => ?_) (fun hf => ?_)
          · refine E_iconst (pc := 137) (v := (0 : Int32)) dX12_both_137 (by decide) ?_
            refine E_Sl (pc := 138) (d2 := D_X12_truth) [.int (0 : Int32)] dX12_both_138 ml_X12_398 mf_X12_truth st_X12_truth rfl (by decide) (Nat.le_of_ble_eq_true rfl) (Nat.le_of_ble_eq_true rfl) rfl (fun _ _ h => f_X12_truth_ok h) hf (fun v19 μ18 hf => ?_)
            exact E_lret (pc := 141) dX12_both_141 rfl hf
          · refine E_iconst (pc := 133) (v := (1 : Int32)) dX12_both_133 (by decide) ?_
            refine E_goto (pc := 134) (tgt := 138) dX12_both_134 (by decide) ?_
            refine E_Sl (pc := 138) (d2 := D_X12_truth) [.int (1 : Int32)] dX12_both_138 ml_X12_398 mf_X12_truth st_X12_truth rfl (by decide) (Nat.le_of_ble_eq_true rfl) (Nat.le_of_ble_eq_true rfl) rfl (fun _ _ h => f_X12_truth_ok h) hf (fun v21 μ20 hf => ?_)
            exact E_lret (pc := 141) dX12_both_141 rfl hf
        · refine ifS hf (fun n1_4 hf => ?_) (fun n1_4 hf => ?_)
          · refine E_tswI (pc := 1) (tgt := 142) (6) dX12_both_1 (by rw [n1_4]; decide) (by decide) (by decide) rfl (by decide) ?_
            refine E_lload_n (pc := 142) dX12_both_142 rfl ?_
            refine E_lload_n (pc := 143) dX12_both_143 rfl ?_
            refine E_lcmp (pc := 144) dX12_both_144 ?_
            refine E_if_ne (pc := 145) (tgt := 152) dX12_both_145 (by decide) hf (fun hf => ?_) (fun hf => ?_)
            · refine E_iconst (pc := 148) (v := (1 : Int32)) dX12_both_148 (by decide) ?_
              refine E_goto (pc := 149) (tgt := 153) dX12_both_149 (by decide) ?_
              refine E_Sl (pc := 153) (d2 := D_X12_truth) [.int (1 : Int32)] dX12_both_153 ml_X12_398 mf_X12_truth st_X12_truth rfl (by decide) (Nat.le_of_ble_eq_true rfl) (Nat.le_of_ble_eq_true rfl) rfl (fun _ _ h => f_X12_truth_ok h) hf (fun v15 μ14 hf => ?_)
              exact E_lret (pc := 156) dX12_both_156 rfl hf
            · refine E_iconst (pc := 152) (v := (0 : Int32)) dX12_both_152 (by decide) ?_
              refine E_Sl (pc := 153) (d2 := D_X12_truth) [.int (0 : Int32)] dX12_both_153 ml_X12_398 mf_X12_truth st_X12_truth rfl (by decide) (Nat.le_of_ble_eq_true rfl) (Nat.le_of_ble_eq_true rfl) rfl (fun _ _ h => f_X12_truth_ok h) hf (fun v17 μ16 hf => ?_)
              exact E_lret (pc := 156) dX12_both_156 rfl hf
          · refine ifS hf (fun n1_5 hf => ?_) (fun n1_5 hf => ?_)
            · refine E_tswI (pc := 1) (tgt := 157) (7) dX12_both_1 (by rw [n1_5]; decide) (by decide) (by decide) rfl (by decide) ?_
              refine E_lload_n (pc := 157) dX12_both_157 rfl ?_
              refine E_lload_n (pc := 158) dX12_both_158 rfl ?_
              refine E_lcmp (pc := 159) dX12_both_159 ?_
              refine E_if_lt (pc := 160) (tgt := 167) dX12_both_160 (by decide) hf (fun hf => ?_) (fun hf => ?_)
              · refine E_iconst (pc := 167) (v := (0 : Int32)) dX12_both_167 (by decide) ?_
                refine E_Sl (pc := 168) (d2 := D_X12_truth) [.int (0 : Int32)] dX12_both_168 ml_X12_398 mf_X12_truth st_X12_truth rfl (by decide) (Nat.le_of_ble_eq_true rfl) (Nat.le_of_ble_eq_true rfl) rfl (fun _ _ h => f_X12_truth_ok h) hf (fun v11 μ10 hf => ?_)
                exact E_lret (pc := 171) dX12_both_171 rfl hf
              · refine E_iconst (pc := 163) (v := (1 : Int32)) dX12_both_163 (by decide) ?_
                refine E_goto (pc := 164) (tgt := 168) dX12_both_164 (by decide) ?_
                refine E_Sl (pc := 168) (d2 := D_X12_truth) [.int (1 : Int32)] dX12_both_168 ml_X12_398 mf_X12_truth st_X12_truth rfl (by decide) (Nat.le_of_ble_eq_true rfl) (Nat.le_of_ble_eq_true rfl) rfl (fun _ _ h => f_X12_truth_ok h) hf (fun v13 μ12 hf => ?_)
                exact E_lret (pc := 171) dX12_both_171 rfl hf
            · refine ifS hf (fun n1_6 hf => ?_) (fun n1_6 hf => ?_)
              · refine E_tswI (pc := 1) (tgt := 172) (8) dX12_both_1 (by rw [n1_6]; decide) (by decide) (by decide) rfl (by decide) ?_
                refine E_lload_n (pc := 172) dX12_both_172 rfl ?_
                refine E_lload_n (pc := 173) dX12_both_173 rfl ?_
                refine E_lcmp (pc := 174) dX12_both_174 ?_
                refine E_if_le (pc := 175) (tgt := 182) dX12_both_175 (by decide) hf (fun hf => ?_) (fun hf => ?_)
                · refine E_iconst (pc := 182) (v := (0 : Int32)) dX12_both_182 (by decide) ?_
                  refine E_Sl (pc := 183) (d2 := D_X12_truth) [.int (0 : Int32)] dX12_both_183 ml_X12_398 mf_X12_truth st_X12_truth rfl (by decide) (Nat.le_of_ble_eq_true rfl) (Nat.le_of_ble_eq_true rfl) rfl (fun _ _ h => f_X12_truth_ok h) hf (fun v7 μ6 hf => ?_)
                  exact E_lret (pc := 186) dX12_both_186 rfl hf
                · refine E_iconst (pc := 178) (v := (1 : Int32)) dX12_both_178 (by decide) ?_
                  refine E_goto (pc := 179) (tgt := 183) dX12_both_179 (by decide) ?_
                  refine E_Sl (pc := 183) (d2 := D_X12_truth) [.int (1 : Int32)] dX12_both_183 ml_X12_398 mf_X12_truth st_X12_truth rfl (by decide) (Nat.le_of_ble_eq_true rfl) (Nat.le_of_ble_eq_true rfl) rfl (fun _ _ h => f_X12_truth_ok h) hf (fun v9 μ8 hf => ?_)
                  exact E_lret (pc := 186) dX12_both_186 rfl hf
              · refine ifS hf (fun n1_7 hf => ?_) (fun n1_7 hf => ?_)
                · refine E_tswI (pc := 1) (tgt := 191) (9) dX12_both_1 (by rw [n1_7]; decide) (by decide) (by decide) rfl (by decide) ?_
                  refine E_lload_n (pc := 191) dX12_both_191 rfl ?_
                  refine E_lload_n (pc := 192) dX12_both_192 rfl ?_
                  refine E_lor (pc := 193) dX12_both_193 ?_
                  exact E_lret (pc := 194) dX12_both_194 rfl hf
                · refine ifS hf (fun n1_8 hf => ?_) (fun n1_8 hf => ?_)
                  · refine E_tswI (pc := 1) (tgt := 187) (10) dX12_both_1 (by rw [n1_8]; decide) (by decide) (by decide) rfl (by decide) ?_
                    refine E_lload_n (pc := 187) dX12_both_187 rfl ?_
                    refine E_lload_n (pc := 188) dX12_both_188 rfl ?_
                    refine E_land (pc := 189) dX12_both_189 ?_
                    exact E_lret (pc := 190) dX12_both_190 rfl hf
                  · refine ifS hf (fun n1_9 hf => ?_) (fun n1_9 hf => ?_)
                    · refine E_tswI (pc := 1) (tgt := 191) (11) dX12_both_1 (by rw [n1_9]; decide) (by decide) (by decide) rfl (by decide) ?_
                      refine E_lload_n (pc := 191) dX12_both_191 rfl ?_
                      refine E_lload_n (pc := 192) dX12_both_192 rfl ?_
                      refine E_lor (pc := 193) dX12_both_193 ?_
                      exact E_lret (pc := 194) dX12_both_194 rfl hf
                    · refine ifS hf (fun n1_10 hf => ?_) (fun n1_10 hf => ?_)
                      · refine E_tswI (pc := 1) (tgt := 191) (12) dX12_both_1 (by rw [n1_10]; decide) (by decide) (by decide) rfl (by decide) ?_
                        refine E_lload_n (pc := 191) dX12_both_191 rfl ?_
                        refine E_lload_n (pc := 192) dX12_both_192 rfl ?_
                        refine E_lor (pc := 193) dX12_both_193 ?_
                        exact E_lret (pc := 194) dX12_both_194 rfl hf
                      · refine ifS hf (fun n1_11 hf => ?_) (fun n1_11 hf => ?_)
                        · refine E_tswI (pc := 1) (tgt := 80) (13) dX12_both_1 (by rw [n1_11]; decide) (by decide) (by decide) rfl (by decide) ?_
                          refine E_lload_n (pc := 80) dX12_both_80 rfl ?_
                          refine E_lload_n (pc := 81) dX12_both_81 rfl ?_
                          refine E_lmul (pc := 82) dX12_both_82 ?_
                          exact E_lret (pc := 83) dX12_both_83 rfl hf
                        · refine ifS hf (fun n1_12 hf => ?_) (fun n1_12 hf => ?_)
                          · refine E_tswI (pc := 1) (tgt := 84) (14) dX12_both_1 (by rw [n1_12]; decide) (by decide) (by decide) rfl (by decide) ?_
                            refine E_lload_n (pc := 84) dX12_both_84 rfl ?_
                            refine E_lconst (pc := 85) (v := (0 : Int64)) dX12_both_85 (by decide) ?_
                            refine E_lcmp (pc := 86) dX12_both_86 ?_
                            refine E_if_ne (pc := 87) (tgt := 94) dX12_both_87 (by decide) hf (fun hf => ?_) (fun hf => ?_)
                            · refine E_lconst (pc := 90) (v := (0 : Int64)) dX12_both_90 (by decide) ?_
                              refine E_goto (pc := 91) (tgt := 97) dX12_both_91 (by decide) ?_
                              exact E_lret (pc := 97) dX12_both_97 rfl hf
                            · refine E_lload_n (pc := 94) dX12_both_94 rfl ?_
                              refine E_lload_n (pc := 95) dX12_both_95 rfl ?_
                              refine E_ldiv2 (pc := 96) dX12_both_96 hf (fun v5 hf => ?_)
                              exact E_lret (pc := 97) dX12_both_97 rfl hf
                          · refine ifS hf (fun n1_13 hf => ?_) (fun n1_13 hf => ?_)
                            · refine E_tswI (pc := 1) (tgt := 98) (15) dX12_both_1 (by rw [n1_13]; decide) (by decide) (by decide) rfl (by decide) ?_
                              refine E_lload_n (pc := 98) dX12_both_98 rfl ?_
                              refine E_lconst (pc := 99) (v := (0 : Int64)) dX12_both_99 (by decide) ?_
                              refine E_lcmp (pc := 100) dX12_both_100 ?_
                              refine E_if_ne (pc := 101) (tgt := 108) dX12_both_101 (by decide) hf (fun hf => ?_) (fun hf => ?_)
                              · refine E_lconst (pc := 104) (v := (0 : Int64)) dX12_both_104 (by decide) ?_
                                refine E_goto (pc := 105) (tgt := 111) dX12_both_105 (by decide) ?_
                                exact E_lret (pc := 111) dX12_both_111 rfl hf
                              · refine E_lload_n (pc := 108) dX12_both_108 rfl ?_
                                refine E_lload_n (pc := 109) dX12_both_109 rfl ?_
                                refine E_lrem2 (pc := 110) dX12_both_110 hf (fun v4 hf => ?_)
                                exact E_lret (pc := 111) dX12_both_111 rfl hf
                            · refine E_tswD (pc := 1) (tgt := 191) dX12_both_1 (by have q0 : ¬ (x1).toInt = 2 := i32ne n1_0; have q1 : ¬ (x1).toInt = 3 := i32ne n1_1; have q2 : ¬ (x1).toInt = 4 := i32ne n1_2; have q3 : ¬ (x1).toInt = 5 := i32ne n1_3; have q4 : ¬ (x1).toInt = 6 := i32ne n1_4; have q5 : ¬ (x1).toInt = 7 := i32ne n1_5; have q6 : ¬ (x1).toInt = 8 := i32ne n1_6; have q7 : ¬ (x1).toInt = 9 := i32ne n1_7; have q8 : ¬ (x1).toInt = 10 := i32ne n1_8; have q9 : ¬ (x1).toInt = 11 := i32ne n1_9; have q10 : ¬ (x1).toInt = 12 := i32ne n1_10; have q11 : ¬ (x1).toInt = 13 := i32ne n1_11; have q12 : ¬ (x1).toInt = 14 := i32ne n1_12; have q13 : ¬ (x1).toInt = 15 := i32ne n1_13;  omega) (by decide) ?_
                              refine E_lload_n (pc := 191) dX12_both_191 rfl ?_
                              refine E_lload_n (pc := 192) dX12_both_192 rfl ?_
                              refine E_lor (pc := 193) dX12_both_193 ?_
                              exact E_lret (pc := 194) dX12_both_194 rfl hf
theorem dX12_answer_0 : decode cX12_answer 0 = .ok (.iconst 0, 1) := by decide +kernel
theorem dX12_answer_1 : decode cX12_answer 1 = .ok (.istore 4, 2) := by decide +kernel
theorem dX12_answer_3 : decode cX12_answer 3 = .ok (.iload_n 2, 1) := by decide +kernel
theorem dX12_answer_4 : decode cX12_answer 4 = .ok (.istore 5, 2) := by decide +kernel
theorem dX12_answer_6 : decode cX12_answer 6 = .ok (.iload 5, 2) := by decide +kernel
theorem dX12_answer_8 : decode cX12_answer 8 = .ok (.iload_n 3, 1) := by decide +kernel
theorem dX12_answer_9 : decode cX12_answer 9 = .ok (.if_icmp .ge 144, 3) := by decide +kernel
theorem dX12_answer_12 : decode cX12_answer 12 = .ok (.aload_n 0, 1) := by decide +kernel
theorem dX12_answer_13 : decode cX12_answer 13 = .ok (.getfield 96, 3) := by decide +kernel
theorem dX12_answer_16 : decode cX12_answer 16 = .ok (.sipush 300, 3) := by decide +kernel
theorem dX12_answer_19 : decode cX12_answer 19 = .ok (.iload_n 1, 1) := by decide +kernel
theorem dX12_answer_20 : decode cX12_answer 20 = .ok (.imul, 1) := by decide +kernel
theorem dX12_answer_21 : decode cX12_answer 21 = .ok (.iload 5, 2) := by decide +kernel
theorem dX12_answer_23 : decode cX12_answer 23 = .ok (.iadd, 1) := by decide +kernel
theorem dX12_answer_24 : decode cX12_answer 24 = .ok (.iaload, 1) := by decide +kernel
theorem dX12_answer_25 : decode cX12_answer 25 = .ok (.istore 6, 2) := by decide +kernel
theorem dX12_answer_27 : decode cX12_answer 27 = .ok (.aload_n 0, 1) := by decide +kernel
theorem dX12_answer_28 : decode cX12_answer 28 = .ok (.getfield 99, 3) := by decide +kernel
theorem dX12_answer_31 : decode cX12_answer 31 = .ok (.sipush 300, 3) := by decide +kernel
theorem dX12_answer_34 : decode cX12_answer 34 = .ok (.iload_n 1, 1) := by decide +kernel
theorem dX12_answer_35 : decode cX12_answer 35 = .ok (.imul, 1) := by decide +kernel
theorem dX12_answer_36 : decode cX12_answer 36 = .ok (.iload 5, 2) := by decide +kernel
theorem dX12_answer_38 : decode cX12_answer 38 = .ok (.iadd, 1) := by decide +kernel
theorem dX12_answer_39 : decode cX12_answer 39 = .ok (.iaload, 1) := by decide +kernel
theorem dX12_answer_40 : decode cX12_answer 40 = .ok (.istore 7, 2) := by decide +kernel
theorem dX12_answer_42 : decode cX12_answer 42 = .ok (.iload 6, 2) := by decide +kernel
theorem dX12_answer_44 : decode cX12_answer 44 = .ok (.ifCond .eq 9, 3) := by decide +kernel
theorem dX12_answer_47 : decode cX12_answer 47 = .ok (.iload 6, 2) := by decide +kernel
theorem dX12_answer_49 : decode cX12_answer 49 = .ok (.iconst 1, 1) := by decide +kernel
theorem dX12_answer_50 : decode cX12_answer 50 = .ok (.if_icmp .ne 34, 3) := by decide +kernel
theorem dX12_answer_53 : decode cX12_answer 53 = .ok (.aload_n 0, 1) := by decide +kernel
theorem dX12_answer_54 : decode cX12_answer 54 = .ok (.getfield 125, 3) := by decide +kernel
theorem dX12_answer_57 : decode cX12_answer 57 = .ok (.iload 4, 2) := by decide +kernel
theorem dX12_answer_59 : decode cX12_answer 59 = .ok (.iload 6, 2) := by decide +kernel
theorem dX12_answer_61 : decode cX12_answer 61 = .ok (.ifCond .ne 9, 3) := by decide +kernel
theorem dX12_answer_64 : decode cX12_answer 64 = .ok (.iload 7, 2) := by decide +kernel
theorem dX12_answer_66 : decode cX12_answer 66 = .ok (.i2l, 1) := by decide +kernel
theorem dX12_answer_67 : decode cX12_answer 67 = .ok (.goto 10, 3) := by decide +kernel
theorem dX12_answer_70 : decode cX12_answer 70 = .ok (.aload_n 0, 1) := by decide +kernel
theorem dX12_answer_71 : decode cX12_answer 71 = .ok (.getfield 121, 3) := by decide +kernel
theorem dX12_answer_74 : decode cX12_answer 74 = .ok (.iload 7, 2) := by decide +kernel
theorem dX12_answer_76 : decode cX12_answer 76 = .ok (.laload, 1) := by decide +kernel
theorem dX12_answer_77 : decode cX12_answer 77 = .ok (.lastore, 1) := by decide +kernel
theorem dX12_answer_78 : decode cX12_answer 78 = .ok (.iinc 4 1, 3) := by decide +kernel
theorem dX12_answer_81 : decode cX12_answer 81 = .ok (.goto 66, 3) := by decide +kernel
theorem dX12_answer_84 : decode cX12_answer 84 = .ok (.iload 6, 2) := by decide +kernel
theorem dX12_answer_86 : decode cX12_answer 86 = .ok (.bipush 9, 2) := by decide +kernel
theorem dX12_answer_88 : decode cX12_answer 88 = .ok (.if_icmp .ne 26, 3) := by decide +kernel
theorem dX12_answer_91 : decode cX12_answer 91 = .ok (.aload_n 0, 1) := by decide +kernel
theorem dX12_answer_92 : decode cX12_answer 92 = .ok (.getfield 125, 3) := by decide +kernel
theorem dX12_answer_95 : decode cX12_answer 95 = .ok (.iload 4, 2) := by decide +kernel
theorem dX12_answer_97 : decode cX12_answer 97 = .ok (.iconst 1, 1) := by decide +kernel
theorem dX12_answer_98 : decode cX12_answer 98 = .ok (.isub, 1) := by decide +kernel
theorem dX12_answer_99 : decode cX12_answer 99 = .ok (.lconst 1, 1) := by decide +kernel
theorem dX12_answer_100 : decode cX12_answer 100 = .ok (.aload_n 0, 1) := by decide +kernel
theorem dX12_answer_101 : decode cX12_answer 101 = .ok (.getfield 125, 3) := by decide +kernel
theorem dX12_answer_104 : decode cX12_answer 104 = .ok (.iload 4, 2) := by decide +kernel
theorem dX12_answer_106 : decode cX12_answer 106 = .ok (.iconst 1, 1) := by decide +kernel
theorem dX12_answer_107 : decode cX12_answer 107 = .ok (.isub, 1) := by decide +kernel
theorem dX12_answer_108 : decode cX12_answer 108 = .ok (.laload, 1) := by decide +kernel
theorem dX12_answer_109 : decode cX12_answer 109 = .ok (.lsub, 1) := by decide +kernel
theorem dX12_answer_110 : decode cX12_answer 110 = .ok (.lastore, 1) := by decide +kernel
theorem dX12_answer_111 : decode cX12_answer 111 = .ok (.goto 36, 3) := by decide +kernel
theorem dX12_answer_114 : decode cX12_answer 114 = .ok (.iinc 4 (-1), 3) := by decide +kernel
theorem dX12_answer_117 : decode cX12_answer 117 = .ok (.aload_n 0, 1) := by decide +kernel
theorem dX12_answer_118 : decode cX12_answer 118 = .ok (.getfield 125, 3) := by decide +kernel
theorem dX12_answer_121 : decode cX12_answer 121 = .ok (.iload 4, 2) := by decide +kernel
theorem dX12_answer_123 : decode cX12_answer 123 = .ok (.iconst 1, 1) := by decide +kernel
theorem dX12_answer_124 : decode cX12_answer 124 = .ok (.isub, 1) := by decide +kernel
theorem dX12_answer_125 : decode cX12_answer 125 = .ok (.iload 6, 2) := by decide +kernel
theorem dX12_answer_127 : decode cX12_answer 127 = .ok (.aload_n 0, 1) := by decide +kernel
theorem dX12_answer_128 : decode cX12_answer 128 = .ok (.getfield 125, 3) := by decide +kernel
theorem dX12_answer_131 : decode cX12_answer 131 = .ok (.iload 4, 2) := by decide +kernel
theorem dX12_answer_133 : decode cX12_answer 133 = .ok (.iconst 1, 1) := by decide +kernel
theorem dX12_answer_134 : decode cX12_answer 134 = .ok (.isub, 1) := by decide +kernel
theorem dX12_answer_135 : decode cX12_answer 135 = .ok (.laload, 1) := by decide +kernel
theorem dX12_answer_136 : decode cX12_answer 136 = .ok (.aload_n 0, 1) := by decide +kernel
theorem dX12_answer_137 : decode cX12_answer 137 = .ok (.getfield 125, 3) := by decide +kernel
theorem dX12_answer_140 : decode cX12_answer 140 = .ok (.iload 4, 2) := by decide +kernel
theorem dX12_answer_142 : decode cX12_answer 142 = .ok (.laload, 1) := by decide +kernel
theorem dX12_answer_143 : decode cX12_answer 143 = .ok (.invokestatic 402, 3) := by decide +kernel
theorem dX12_answer_146 : decode cX12_answer 146 = .ok (.lastore, 1) := by decide +kernel
theorem dX12_answer_147 : decode cX12_answer 147 = .ok (.iinc 5 1, 3) := by decide +kernel
theorem dX12_answer_150 : decode cX12_answer 150 = .ok (.goto (-144), 3) := by decide +kernel
theorem dX12_answer_153 : decode cX12_answer 153 = .ok (.aload_n 0, 1) := by decide +kernel
theorem dX12_answer_154 : decode cX12_answer 154 = .ok (.getfield 125, 3) := by decide +kernel
theorem dX12_answer_157 : decode cX12_answer 157 = .ok (.iconst 0, 1) := by decide +kernel
theorem dX12_answer_158 : decode cX12_answer 158 = .ok (.laload, 1) := by decide +kernel
theorem dX12_answer_159 : decode cX12_answer 159 = .ok (.lreturn, 1) := by decide +kernel
abbrev D_X12_answer : Nat := 3
def f_X12_answer_L6 (K153 : Mm → Nat → Option (Int64 × Mm)) : Nat → Mm → Nat → Int32 → Int32 → Int32 → Int32 → Option (Int64 × Mm)
  | 0, _, _, _, _, _, _ => none
  | n + 1, μ0, a7, x8, x9, x10, x11 =>
    (if x9 ≤ x11 then
    K153 μ0 a7
    else
    ((gR μ0 a7 12 39).bind fun v12 =>
    ((aI μ0 v12 0 (((300 : Int32) * x8) + x11)).bind fun v13 =>
    (nm v13 fun x14 =>
    ((gR μ0 a7 12 40).bind fun v15 =>
    ((aI μ0 v15 0 (((300 : Int32) * x8) + x11)).bind fun v16 =>
    (nm v16 fun x17 =>
    (if x14 = 0 then
    ((gR μ0 a7 12 48).bind fun v18 =>
    (if x14 = 0 then
    ((sL μ0 v18 3 x10 (x17).toInt64).bind fun μ19 =>
    (nm (x10 + Int32.ofInt (1)) fun x20 =>
    (nm (x11 + Int32.ofInt (1)) fun x21 =>
    f_X12_answer_L6 K153 n μ19 a7 x8 x9 x20 x21)))
    else
    ((gR μ0 a7 12 47).bind fun v22 =>
    ((aL μ0 v22 3 x17).bind fun v23 =>
    ((sL μ0 v18 3 x10 v23).bind fun μ24 =>
    (nm (x10 + Int32.ofInt (1)) fun x25 =>
    (nm (x11 + Int32.ofInt (1)) fun x26 =>
    f_X12_answer_L6 K153 n μ24 a7 x8 x9 x25 x26)))))))
    else
    (if x14 = (1 : Int32) then
    ((gR μ0 a7 12 48).bind fun v27 =>
    (if x14 = 0 then
    ((sL μ0 v27 3 x10 (x17).toInt64).bind fun μ28 =>
    (nm (x10 + Int32.ofInt (1)) fun x29 =>
    (nm (x11 + Int32.ofInt (1)) fun x30 =>
    f_X12_answer_L6 K153 n μ28 a7 x8 x9 x29 x30)))
    else
    ((gR μ0 a7 12 47).bind fun v31 =>
    ((aL μ0 v31 3 x17).bind fun v32 =>
    ((sL μ0 v27 3 x10 v32).bind fun μ33 =>
    (nm (x10 + Int32.ofInt (1)) fun x34 =>
    (nm (x11 + Int32.ofInt (1)) fun x35 =>
    f_X12_answer_L6 K153 n μ33 a7 x8 x9 x34 x35)))))))
    else
    (if x14 = (9 : Int32) then
    ((gR μ0 a7 12 48).bind fun v36 =>
    ((gR μ0 a7 12 48).bind fun v37 =>
    ((aL μ0 v37 3 (x10 - (1 : Int32))).bind fun v38 =>
    ((sL μ0 v36 3 (x10 - (1 : Int32)) ((1 : Int64) - v38)).bind fun μ39 =>
    (nm (x11 + Int32.ofInt (1)) fun x40 =>
    f_X12_answer_L6 K153 n μ39 a7 x8 x9 x10 x40)))))
    else
    (nm (x10 + Int32.ofInt (-1)) fun x41 =>
    ((gR μ0 a7 12 48).bind fun v42 =>
    ((gR μ0 a7 12 48).bind fun v43 =>
    ((aL μ0 v43 3 (x41 - (1 : Int32))).bind fun v44 =>
    ((gR μ0 a7 12 48).bind fun v45 =>
    ((aL μ0 v45 3 x41).bind fun v46 =>
    (bd (f_X12_both μ0 x14 v44 v46) fun v48 μ47 =>
    ((sL μ47 v42 3 (x41 - (1 : Int32)) v48).bind fun μ49 =>
    (nm (x11 + Int32.ofInt (1)) fun x50 =>
    f_X12_answer_L6 K153 n μ49 a7 x8 x9 x41 x50)))))))))))))))))))
set_option maxHeartbeats 4000000 in
set_option maxRecDepth 100000 in
theorem f_X12_answer_L6_ok {l : Launch} {G : GG} {K153 : Mm → Nat → Option (Int64 × Mm)} {r : Int64} {μ' : Mm} (n : Nat) (μ0 : Mm) (a7 : Nat) (x8 : Int32) (x9 : Int32) (x10 : Int32) (x11 : Int32) (hf : f_X12_answer_L6 K153 n μ0 a7 x8 x9 x10 x11 = some (r, μ')) (hK153 : ∀ (μ1 : Mm) (y0 : Nat), K153 μ1 y0 = some (r, μ') → Ev l G D_X12_answer yX12_answer cX12_answer 8 (some .long) 153 [(0, .ref y0)] [] μ1 (some (.long r)) μ') : Ev l G D_X12_answer yX12_answer cX12_answer 8 (some .long) 6 [(0, .ref a7), (1, .int x8), (3, .int x9), (4, .int x10), (5, .int x11)] [] μ0 (some (.long r)) μ' := by
  induction n generalizing μ0 a7 x8 x9 x10 x11 with
  | zero => cases hf
  | succ n ih0 =>
    have ih : ∀ (μ0 : Mm) (a7 : Nat) (x8 : Int32) (x9 : Int32) (x10 : Int32) (x11 : Int32), f_X12_answer_L6 K153 n μ0 a7 x8 x9 x10 x11 = some (r, μ') → Ev l G D_X12_answer yX12_answer cX12_answer 8 (some .long) 6 [(0, .ref a7), (1, .int x8), (3, .int x9), (4, .int x10), (5, .int x11)] [] μ0 (some (.long r)) μ' := fun μ0 a7 x8 x9 x10 x11 hf => ih0 μ0 a7 x8 x9 x10 x11 hf
    rw [f_X12_answer_L6] at hf
    refine E_iload (pc := 6) dX12_answer_6 rfl ?_
    refine E_iload_n (pc := 8) dX12_answer_8 rfl ?_
    refine E_icmp_ge (pc := 9) (tgt := 153) dX12_answer_9 (by decide) hf (fun hf => ?_) (fun hf => ?_)
    · refine Ev.sub [0] rfl ?_
      exact hK153 _ _ hf
    · refine E_aload_n (pc := 12) dX12_answer_12 rfl ?_
      refine E_getR (pc := 13) dX12_answer_13 fl_X12_96 hf (fun v12 hf => ?_)
      refine E_sipush (pc := 16) (v := (300 : Int32)) dX12_answer_16 (by decide) ?_
      refine E_iload_n (pc := 19) dX12_answer_19 rfl ?_
      refine E_imul (pc := 20) dX12_answer_20 ?_
      refine E_iload (pc := 21) dX12_answer_21 rfl ?_
      refine E_iadd (pc := 23) dX12_answer_23 ?_
      refine E_iald (pc := 24) dX12_answer_24 hf (fun v13 hf => ?_)
      refine E_istore (pc := 25) (ls' := fun x14 => [(6, .int x14), (0, .ref a7), (1, .int x8), (3, .int x9), (4, .int x10), (5, .int x11)]) dX12_answer_25 (by decide) (fun _ => rfl) hf (fun x14 hf => ?_)
      refine E_aload_n (pc := 27) dX12_answer_27 rfl ?_
      refine E_getR (pc := 28) dX12_answer_28 fl_X12_99 hf (fun v15 hf => ?_)
      refine E_sipush (pc := 31) (v := (300 : Int32)) dX12_answer_31 (by decide) ?_
      refine E_iload_n (pc := 34) dX12_answer_34 rfl ?_
      refine E_imul (pc := 35) dX12_answer_35 ?_
      refine E_iload (pc := 36) dX12_answer_36 rfl ?_
      refine E_iadd (pc := 38) dX12_answer_38 ?_
      refine E_iald (pc := 39) dX12_answer_39 hf (fun v16 hf => ?_)
      refine E_istore (pc := 40) (ls' := fun x17 => [(7, .int x17), (6, .int x14), (0, .ref a7), (1, .int x8), (3, .int x9), (4, .int x10), (5, .int x11)]) dX12_answer_40 (by decide) (fun _ => rfl) hf (fun x17 hf => ?_)
      refine E_iload (pc := 42) dX12_answer_42 rfl ?_
      refine E_if_eq (pc := 44) (tgt := 53) dX12_answer_44 (by decide) hf (fun hf => ?_) (fun hf => ?_)
      · refine E_aload_n (pc := 53) dX12_answer_53 rfl ?_
        refine E_getR (pc := 54) dX12_answer_54 fl_X12_125 hf (fun v18 hf => ?_)
        refine E_iload (pc := 57) dX12_answer_57 rfl ?_
        refine E_iload (pc := 59) dX12_answer_59 rfl ?_
        refine E_if_ne (pc := 61) (tgt := 70) dX12_answer_61 (by decide) hf (fun hf => ?_) (fun hf => ?_)
        · refine E_iload (pc := 64) dX12_answer_64 rfl ?_
          refine E_i2l (pc := 66) dX12_answer_66 ?_
          refine E_goto (pc := 67) (tgt := 77) dX12_answer_67 (by decide) ?_
          refine E_last (pc := 77) dX12_answer_77 hf (fun μ19 hf => ?_)
          refine E_iinc (pc := 78) (ls' := fun x20 => [(4, .int x20), (7, .int x17), (6, .int x14), (0, .ref a7), (1, .int x8), (3, .int x9), (5, .int x11)]) dX12_answer_78 rfl (by decide) (fun _ => rfl) hf (fun x20 hf => ?_)
          refine E_goto (pc := 81) (tgt := 147) dX12_answer_81 (by decide) ?_
          refine E_iinc (pc := 147) (ls' := fun x21 => [(5, .int x21), (4, .int x20), (7, .int x17), (6, .int x14), (0, .ref a7), (1, .int x8), (3, .int x9)]) dX12_answer_147 rfl (by decide) (fun _ => rfl) hf (fun x21 hf => ?_)
          refine E_goto (pc := 150) (tgt := 6) dX12_answer_150 (by decide) ?_
          refine Ev.sub [4, 5, 6, 1, 0] rfl ?_
          exact ih _ _ _ _ _ _ hf
        · refine E_aload_n (pc := 70) dX12_answer_70 rfl ?_
          refine E_getR (pc := 71) dX12_answer_71 fl_X12_121 hf (fun v22 hf => ?_)
          refine E_iload (pc := 74) dX12_answer_74 rfl ?_
          refine E_lald (pc := 76) dX12_answer_76 hf (fun v23 hf => ?_)
          refine E_last (pc := 77) dX12_answer_77 hf (fun μ24 hf => ?_)
          refine E_iinc (pc := 78) (ls' := fun x25 => [(4, .int x25), (7, .int x17), (6, .int x14), (0, .ref a7), (1, .int x8), (3, .int x9), (5, .int x11)]) dX12_answer_78 rfl (by decide) (fun _ => rfl) hf (fun x25 hf => ?_)
          refine E_goto (pc := 81) (tgt := 147) dX12_answer_81 (by decide) ?_
          refine E_iinc (pc := 147) (ls' := fun x26 => [(5, .int x26), (4, .int x25), (7, .int x17), (6, .int x14), (0, .ref a7), (1, .int x8), (3, .int x9)]) dX12_answer_147 rfl (by decide) (fun _ => rfl) hf (fun x26 hf => ?_)
          refine E_goto (pc := 150) (tgt := 6) dX12_answer_150 (by decide) ?_
          refine Ev.sub [4, 5, 6, 1, 0] rfl ?_
          exact ih _ _ _ _ _ _ hf
      · refine E_iload (pc := 47) dX12_answer_47 rfl ?_
        refine E_iconst (pc := 49) (v := (1 : Int32)) dX12_answer_49 (by decide) ?_
        refine E_icmp_ne (pc := 50) (tgt := 84) dX12_answer_50 (by decide) hf (fun hf => ?_) (fun hf => ?_)
        · refine E_aload_n (pc := 53) dX12_answer_53 rfl ?_
          refine E_getR (pc := 54) dX12_answer_54 fl_X12_125 hf (fun v27 hf => ?_)
          refine E_iload (pc := 57) dX12_answer_57 rfl ?_
          refine E_iload (pc := 59) dX12_answer_59 rfl ?_
          refine E_if_ne (pc := 61) (tgt := 70) dX12_answer_61 (by decide) hf (fun hf => ?_) (fun hf => ?_)
          · refine E_iload (pc := 64) dX12_answer_64 rfl ?_
            refine E_i2l (pc := 66) dX12_answer_66 ?_
            refine E_goto (pc := 67) (tgt := 77) dX12_answer_67 (by decide) ?_
            refine E_last (pc := 77) dX12_answer_77 hf (fun μ28 hf => ?_)
            refine E_iinc (pc := 78) (ls' := fun x29 => [(4, .int x29), (7, .int x17), (6, .int x14), (0, .ref a7), (1, .int x8), (3, .int x9), (5, .int x11)]) dX12_answer_78 rfl (by decide) (fun _ => rfl) hf (fun x29 hf => ?_)
            refine E_goto (pc := 81) (tgt := 147) dX12_answer_81 (by decide) ?_
            refine E_iinc (pc := 147) (ls' := fun x30 => [(5, .int x30), (4, .int x29), (7, .int x17), (6, .int x14), (0, .ref a7), (1, .int x8), (3, .int x9)]) dX12_answer_147 rfl (by decide) (fun _ => rfl) hf (fun x30 hf => ?_)
            refine E_goto (pc := 150) (tgt := 6) dX12_answer_150 (by decide) ?_
            refine Ev.sub [4, 5, 6, 1, 0] rfl ?_
            exact ih _ _ _ _ _ _ hf
          · refine E_aload_n (pc := 70) dX12_answer_70 rfl ?_
            refine E_getR (pc := 71) dX12_answer_71 fl_X12_121 hf (fun v31 hf => ?_)
            refine E_iload (pc := 74) dX12_answer_74 rfl ?_
            refine E_lald (pc := 76) dX12_answer_76 hf (fun v32 hf => ?_)
            refine E_last (pc := 77) dX12_answer_77 hf (fun μ33 hf => ?_)
            refine E_iinc (pc := 78) (ls' := fun x34 => [(4, .int x34), (7, .int x17), (6, .int x14), (0, .ref a7), (1, .int x8), (3, .int x9), (5, .int x11)]) dX12_answer_78 rfl (by decide) (fun _ => rfl) hf (fun x34 hf => ?_)
            refine E_goto (pc := 81) (tgt := 147) dX12_answer_81 (by decide) ?_
            refine E_iinc (pc := 147) (ls' := fun x35 => [(5, .int x35), (4, .int x34), (7, .int x17), (6, .int x14), (0, .ref a7), (1, .int x8), (3, .int x9)]) dX12_answer_147 rfl (by decide) (fun _ => rfl) hf (fun x35 hf => ?_)
            refine E_goto (pc := 150) (tgt := 6) dX12_answer_150 (by decide) ?_
            refine Ev.sub [4, 5, 6, 1, 0] rfl ?_
            exact ih _ _ _ _ _ _ hf
        · refine E_iload (pc := 84) dX12_answer_84 rfl ?_
          refine E_bipush (pc := 86) (v := (9 : Int32)) dX12_answer_86 (by decide) ?_
          refine E_icmp_ne (pc := 88) (tgt := 114) dX12_answer_88 (by decide) hf (fun hf => ?_) (fun hf => ?_)
          · refine E_aload_n (pc := 91) dX12_answer_91 rfl ?_
            refine E_getR (pc := 92) dX12_answer_92 fl_X12_125 hf (fun v36 hf => ?_)
            refine E_iload (pc := 95) dX12_answer_95 rfl ?_
            refine E_iconst (pc := 97) (v := (1 : Int32)) dX12_answer_97 (by decide) ?_
            refine E_isub (pc := 98) dX12_answer_98 ?_
            refine E_lconst (pc := 99) (v := (1 : Int64)) dX12_answer_99 (by decide) ?_
            refine E_aload_n (pc := 100) dX12_answer_100 rfl ?_
            refine E_getR (pc := 101) dX12_answer_101 fl_X12_125 hf (fun v37 hf => ?_)
            refine E_iload (pc := 104) dX12_answer_104 rfl ?_
            refine E_iconst (pc := 106) (v := (1 : Int32)) dX12_answer_106 (by decide) ?_
            refine E_isub (pc := 107) dX12_answer_107 ?_
            refine E_lald (pc := 108) dX12_answer_108 hf (fun v38 hf => ?_)
            refine E_lsub (pc := 109) dX12_answer_109 ?_
            refine E_last (pc := 110) dX12_answer_110 hf (fun μ39 hf => ?_)
            refine E_goto (pc := 111) (tgt := 147) dX12_answer_111 (by decide) ?_
            refine E_iinc (pc := 147) (ls' := fun x40 => [(5, .int x40), (7, .int x17), (6, .int x14), (0, .ref a7), (1, .int x8), (3, .int x9), (4, .int x10)]) dX12_answer_147 rfl (by decide) (fun _ => rfl) hf (fun x40 hf => ?_)
            refine E_goto (pc := 150) (tgt := 6) dX12_answer_150 (by decide) ?_
            refine Ev.sub [3, 4, 5, 6, 0] rfl ?_
            exact ih _ _ _ _ _ _ hf
          · refine E_iinc (pc := 114) (ls' := fun x41 => [(4, .int x41), (7, .int x17), (6, .int x14), (0, .ref a7), (1, .int x8), (3, .int x9), (5, .int x11)]) dX12_answer_114 rfl (by decide) (fun _ => rfl) hf (fun x41 hf => ?_)
            refine E_aload_n (pc := 117) dX12_answer_117 rfl ?_
            refine E_getR (pc := 118) dX12_answer_118 fl_X12_125 hf (fun v42 hf => ?_)
            refine E_iload (pc := 121) dX12_answer_121 rfl ?_
            refine E_iconst (pc := 123) (v := (1 : Int32)) dX12_answer_123 (by decide) ?_
            refine E_isub (pc := 124) dX12_answer_124 ?_
            refine E_iload (pc := 125) dX12_answer_125 rfl ?_
            refine E_aload_n (pc := 127) dX12_answer_127 rfl ?_
            refine E_getR (pc := 128) dX12_answer_128 fl_X12_125 hf (fun v43 hf => ?_)
            refine E_iload (pc := 131) dX12_answer_131 rfl ?_
            refine E_iconst (pc := 133) (v := (1 : Int32)) dX12_answer_133 (by decide) ?_
            refine E_isub (pc := 134) dX12_answer_134 ?_
            refine E_lald (pc := 135) dX12_answer_135 hf (fun v44 hf => ?_)
            refine E_aload_n (pc := 136) dX12_answer_136 rfl ?_
            refine E_getR (pc := 137) dX12_answer_137 fl_X12_125 hf (fun v45 hf => ?_)
            refine E_iload (pc := 140) dX12_answer_140 rfl ?_
            refine E_lald (pc := 142) dX12_answer_142 hf (fun v46 hf => ?_)
            refine E_Sl (pc := 143) (d2 := D_X12_both) [.int x14, .long v44, .long v46] dX12_answer_143 ml_X12_402 mf_X12_both st_X12_both rfl (by decide) (Nat.le_of_ble_eq_true rfl) (Nat.le_of_ble_eq_true rfl) rfl (fun _ _ h => f_X12_both_ok h) hf (fun v48 μ47 hf => ?_)
            refine E_last (pc := 146) dX12_answer_146 hf (fun μ49 hf => ?_)
            refine E_iinc (pc := 147) (ls' := fun x50 => [(5, .int x50), (4, .int x41), (7, .int x17), (6, .int x14), (0, .ref a7), (1, .int x8), (3, .int x9)]) dX12_answer_147 rfl (by decide) (fun _ => rfl) hf (fun x50 hf => ?_)
            refine E_goto (pc := 150) (tgt := 6) dX12_answer_150 (by decide) ?_
            refine Ev.sub [4, 5, 6, 1, 0] rfl ?_
            exact ih _ _ _ _ _ _ hf
set_option maxRecDepth 100000 in
def f_X12_answer (μ0 : Mm) (a1 : Nat) (x2 : Int32) (x3 : Int32) (x4 : Int32) : Option (Int64 × Mm) :=
 (nm (0 : Int32) fun x5 =>
    (nm x3 fun x6 =>
    f_X12_answer_L6 (fun μ51 a52 =>
    ((gR μ51 a52 12 48).bind fun v53 =>
    ((aL μ51 v53 3 (0 : Int32)).bind fun v54 =>
    (some (v54, μ51))))) FU μ0 a1 x2 x4 x5 x6))
set_option maxHeartbeats 4000000 in
set_option maxRecDepth 100000 in
theorem f_X12_answer_ok {l : Launch} {G : GG} {μ0 : Mm} {a1 : Nat} {x2 : Int32} {x3 : Int32} {x4 : Int32} {r : Int64} {μ' : Mm} (hf : f_X12_answer μ0 a1 x2 x3 x4 = some (r, μ')) : EvM l G D_X12_answer yX12_answer cX12_answer 8 (some .long) [.ref a1, .int x2, .int x3, .int x4] μ0 (some (.long r)) μ' := by
  show Ev l G D_X12_answer yX12_answer cX12_answer 8 (some .long) 0 [(0, .ref a1), (1, .int x2), (2, .int x3), (3, .int x4)] [] μ0 (some (.long r)) μ'
  unfold f_X12_answer at hf
  refine E_iconst (pc := 0) (v := (0 : Int32)) dX12_answer_0 (by decide) ?_
  refine E_istore (pc := 1) (ls' := fun x5 => [(4, .int x5), (0, .ref a1), (1, .int x2), (2, .int x3), (3, .int x4)]) dX12_answer_1 (by decide) (fun _ => rfl) hf (fun x5 hf => ?_)
  refine E_iload_n (pc := 3) dX12_answer_3 rfl ?_
  refine E_istore (pc := 4) (ls' := fun x6 => [(5, .int x6), (4, .int x5), (0, .ref a1), (1, .int x2), (2, .int x3), (3, .int x4)]) dX12_answer_4 (by decide) (fun _ => rfl) hf (fun x6 hf => ?_)
  refine Ev.sub [2, 3, 5, 1, 0] rfl ?_
  refine f_X12_answer_L6_ok  _ _ _ _ _ _ _ hf (fun μ51 a52 hf => ?_)
  · refine E_aload_n (pc := 153) dX12_answer_153 rfl ?_
    refine E_getR (pc := 154) dX12_answer_154 fl_X12_125 hf (fun v53 hf => ?_)
    refine E_iconst (pc := 157) (v := (0 : Int32)) dX12_answer_157 (by decide) ?_
    refine E_lald (pc := 158) dX12_answer_158 hf (fun v54 hf => ?_)
    exact E_lret (pc := 159) dX12_answer_159 rfl hf
theorem dX12_isBroken_0 : decode cX12_isBroken 0 = .ok (.aload_n 0, 1) := by decide +kernel
theorem dX12_isBroken_1 : decode cX12_isBroken 1 = .ok (.getfield 9, 3) := by decide +kernel
theorem dX12_isBroken_4 : decode cX12_isBroken 4 = .ok (.bipush 10, 2) := by decide +kernel
theorem dX12_isBroken_6 : decode cX12_isBroken 6 = .ok (.iaload, 1) := by decide +kernel
theorem dX12_isBroken_7 : decode cX12_isBroken 7 = .ok (.istore_n 1, 1) := by decide +kernel
theorem dX12_isBroken_8 : decode cX12_isBroken 8 = .ok (.bipush 12, 2) := by decide +kernel
theorem dX12_isBroken_10 : decode cX12_isBroken 10 = .ok (.iload_n 1, 1) := by decide +kernel
theorem dX12_isBroken_11 : decode cX12_isBroken 11 = .ok (.imul, 1) := by decide +kernel
theorem dX12_isBroken_12 : decode cX12_isBroken 12 = .ok (.istore_n 2, 1) := by decide +kernel
theorem dX12_isBroken_13 : decode cX12_isBroken 13 = .ok (.iload_n 2, 1) := by decide +kernel
theorem dX12_isBroken_14 : decode cX12_isBroken 14 = .ok (.bipush 12, 2) := by decide +kernel
theorem dX12_isBroken_16 : decode cX12_isBroken 16 = .ok (.iload_n 1, 1) := by decide +kernel
theorem dX12_isBroken_17 : decode cX12_isBroken 17 = .ok (.imul, 1) := by decide +kernel
theorem dX12_isBroken_18 : decode cX12_isBroken 18 = .ok (.aload_n 0, 1) := by decide +kernel
theorem dX12_isBroken_19 : decode cX12_isBroken 19 = .ok (.getfield 102, 3) := by decide +kernel
theorem dX12_isBroken_22 : decode cX12_isBroken 22 = .ok (.iload_n 1, 1) := by decide +kernel
theorem dX12_isBroken_23 : decode cX12_isBroken 23 = .ok (.iaload, 1) := by decide +kernel
theorem dX12_isBroken_24 : decode cX12_isBroken 24 = .ok (.iadd, 1) := by decide +kernel
theorem dX12_isBroken_25 : decode cX12_isBroken 25 = .ok (.if_icmp .ge 42, 3) := by decide +kernel
theorem dX12_isBroken_28 : decode cX12_isBroken 28 = .ok (.aload_n 0, 1) := by decide +kernel
theorem dX12_isBroken_29 : decode cX12_isBroken 29 = .ok (.getfield 117, 3) := by decide +kernel
theorem dX12_isBroken_32 : decode cX12_isBroken 32 = .ok (.iload_n 2, 1) := by decide +kernel
theorem dX12_isBroken_33 : decode cX12_isBroken 33 = .ok (.baload, 1) := by decide +kernel
theorem dX12_isBroken_34 : decode cX12_isBroken 34 = .ok (.ifCond .eq 27, 3) := by decide +kernel
theorem dX12_isBroken_37 : decode cX12_isBroken 37 = .ok (.aload_n 0, 1) := by decide +kernel
theorem dX12_isBroken_38 : decode cX12_isBroken 38 = .ok (.iload_n 1, 1) := by decide +kernel
theorem dX12_isBroken_39 : decode cX12_isBroken 39 = .ok (.aload_n 0, 1) := by decide +kernel
theorem dX12_isBroken_40 : decode cX12_isBroken 40 = .ok (.getfield 108, 3) := by decide +kernel
theorem dX12_isBroken_43 : decode cX12_isBroken 43 = .ok (.iload_n 2, 1) := by decide +kernel
theorem dX12_isBroken_44 : decode cX12_isBroken 44 = .ok (.iaload, 1) := by decide +kernel
theorem dX12_isBroken_45 : decode cX12_isBroken 45 = .ok (.aload_n 0, 1) := by decide +kernel
theorem dX12_isBroken_46 : decode cX12_isBroken 46 = .ok (.getfield 111, 3) := by decide +kernel
theorem dX12_isBroken_49 : decode cX12_isBroken 49 = .ok (.iload_n 2, 1) := by decide +kernel
theorem dX12_isBroken_50 : decode cX12_isBroken 50 = .ok (.iaload, 1) := by decide +kernel
theorem dX12_isBroken_51 : decode cX12_isBroken 51 = .ok (.invokevirtual 392, 3) := by decide +kernel
theorem dX12_isBroken_54 : decode cX12_isBroken 54 = .ok (.lconst 1, 1) := by decide +kernel
theorem dX12_isBroken_55 : decode cX12_isBroken 55 = .ok (.lcmp, 1) := by decide +kernel
theorem dX12_isBroken_56 : decode cX12_isBroken 56 = .ok (.ifCond .ne 5, 3) := by decide +kernel
theorem dX12_isBroken_59 : decode cX12_isBroken 59 = .ok (.iconst 1, 1) := by decide +kernel
theorem dX12_isBroken_60 : decode cX12_isBroken 60 = .ok (.ireturn, 1) := by decide +kernel
theorem dX12_isBroken_61 : decode cX12_isBroken 61 = .ok (.iinc 2 1, 3) := by decide +kernel
theorem dX12_isBroken_64 : decode cX12_isBroken 64 = .ok (.goto (-51), 3) := by decide +kernel
theorem dX12_isBroken_67 : decode cX12_isBroken 67 = .ok (.iconst 0, 1) := by decide +kernel
theorem dX12_isBroken_68 : decode cX12_isBroken 68 = .ok (.ireturn, 1) := by decide +kernel
abbrev D_X12_isBroken : Nat := 4
def f_X12_isBroken_L13 (K59 : Mm → Option (Int32 × Mm)) (K67 : Mm → Option (Int32 × Mm)) : Nat → Mm → Nat → Int32 → Int32 → Option (Int32 × Mm)
  | 0, _, _, _, _ => none
  | n + 1, μ0, a6, x7, x8 =>
    ((gR μ0 a6 12 41).bind fun v9 =>
    ((aI μ0 v9 0 x7).bind fun v10 =>
    (if (((12 : Int32) * x7) + v10) ≤ x8 then
    K67 μ0
    else
    ((gR μ0 a6 12 46).bind fun v11 =>
    ((aI μ0 v11 2 x8).bind fun v12 =>
    (if v12 = 0 then
    (nm (x8 + Int32.ofInt (1)) fun x13 =>
    f_X12_isBroken_L13 K59 K67 n μ0 a6 x7 x13)
    else
    ((gR μ0 a6 12 43).bind fun v14 =>
    ((aI μ0 v14 0 x8).bind fun v15 =>
    ((gR μ0 a6 12 44).bind fun v16 =>
    ((aI μ0 v16 0 x8).bind fun v17 =>
    ((ob μ0 a6 12).bind fun _ =>
    (bd (f_X12_answer μ0 a6 x7 v15 v17) fun v19 μ18 =>
    (if (lg_cmp v19 (1 : Int64)) = 0 then
    K59 μ18
    else
    (nm (x8 + Int32.ofInt (1)) fun x20 =>
    f_X12_isBroken_L13 K59 K67 n μ18 a6 x7 x20))))))))))))))
set_option maxHeartbeats 4000000 in
set_option maxRecDepth 100000 in
theorem f_X12_isBroken_L13_ok {l : Launch} {G : GG} {K59 : Mm → Option (Int32 × Mm)} {K67 : Mm → Option (Int32 × Mm)} {r : Int32} {μ' : Mm} (n : Nat) (μ0 : Mm) (a6 : Nat) (x7 : Int32) (x8 : Int32) (hf : f_X12_isBroken_L13 K59 K67 n μ0 a6 x7 x8 = some (r, μ')) (hK59 : ∀ (μ1 : Mm), K59 μ1  = some (r, μ') → Ev l G D_X12_isBroken yX12_isBroken cX12_isBroken 3 (some .boolean) 59 [] [] μ1 (some (.int r)) μ') (hK67 : ∀ (μ1 : Mm), K67 μ1  = some (r, μ') → Ev l G D_X12_isBroken yX12_isBroken cX12_isBroken 3 (some .boolean) 67 [] [] μ1 (some (.int r)) μ') : Ev l G D_X12_isBroken yX12_isBroken cX12_isBroken 3 (some .boolean) 13 [(0, .ref a6), (1, .int x7), (2, .int x8)] [] μ0 (some (.int r)) μ' := by
  induction n generalizing μ0 a6 x7 x8 with
  | zero => cases hf
  | succ n ih0 =>
    have ih : ∀ (μ0 : Mm) (a6 : Nat) (x7 : Int32) (x8 : Int32), f_X12_isBroken_L13 K59 K67 n μ0 a6 x7 x8 = some (r, μ') → Ev l G D_X12_isBroken yX12_isBroken cX12_isBroken 3 (some .boolean) 13 [(0, .ref a6), (1, .int x7), (2, .int x8)] [] μ0 (some (.int r)) μ' := fun μ0 a6 x7 x8 hf => ih0 μ0 a6 x7 x8 hf
    rw [f_X12_isBroken_L13] at hf
    refine E_iload_n (pc := 13) dX12_isBroken_13 rfl ?_
    refine E_bipush (pc := 14) (v := (12 : Int32)) dX12_isBroken_14 (by decide) ?_
    refine E_iload_n (pc := 16) dX12_isBroken_16 rfl ?_
    refine E_imul (pc := 17) dX12_isBroken_17 ?_
    refine E_aload_n (pc := 18) dX12_isBroken_18 rfl ?_
    refine E_getR (pc := 19) dX12_isBroken_19 fl_X12_102 hf (fun v9 hf => ?_)
    refine E_iload_n (pc := 22) dX12_isBroken_22 rfl ?_
    refine E_iald (pc := 23) dX12_isBroken_23 hf (fun v10 hf => ?_)
    refine E_iadd (pc := 24) dX12_isBroken_24 ?_
    refine E_icmp_ge (pc := 25) (tgt := 67) dX12_isBroken_25 (by decide) hf (fun hf => ?_) (fun hf => ?_)
    · refine Ev.sub [] rfl ?_
      exact hK67 _ hf
    · refine E_aload_n (pc := 28) dX12_isBroken_28 rfl ?_
      refine E_getR (pc := 29) dX12_isBroken_29 fl_X12_117 hf (fun v11 hf => ?_)
      refine E_iload_n (pc := 32) dX12_isBroken_32 rfl ?_
      refine E_zald (pc := 33) dX12_isBroken_33 hf (fun v12 hf => ?_)
      refine E_if_eq (pc := 34) (tgt := 61) dX12_isBroken_34 (by decide) hf (fun hf => ?_) (fun hf => ?_)
      · refine E_iinc (pc := 61) (ls' := fun x13 => [(2, .int x13), (0, .ref a6), (1, .int x7)]) dX12_isBroken_61 rfl (by decide) (fun _ => rfl) hf (fun x13 hf => ?_)
        refine E_goto (pc := 64) (tgt := 13) dX12_isBroken_64 (by decide) ?_
        refine Ev.sub [1, 2, 0] rfl ?_
        exact ih _ _ _ _ hf
      · refine E_aload_n (pc := 37) dX12_isBroken_37 rfl ?_
        refine E_iload_n (pc := 38) dX12_isBroken_38 rfl ?_
        refine E_aload_n (pc := 39) dX12_isBroken_39 rfl ?_
        refine E_getR (pc := 40) dX12_isBroken_40 fl_X12_108 hf (fun v14 hf => ?_)
        refine E_iload_n (pc := 43) dX12_isBroken_43 rfl ?_
        refine E_iald (pc := 44) dX12_isBroken_44 hf (fun v15 hf => ?_)
        refine E_aload_n (pc := 45) dX12_isBroken_45 rfl ?_
        refine E_getR (pc := 46) dX12_isBroken_46 fl_X12_111 hf (fun v16 hf => ?_)
        refine E_iload_n (pc := 49) dX12_isBroken_49 rfl ?_
        refine E_iald (pc := 50) dX12_isBroken_50 hf (fun v17 hf => ?_)
        refine E_Vl (pc := 51) (d2 := D_X12_answer) (ci := 12) [.int x7, .int v15, .int v17] dX12_isBroken_51 ml_X12_392 mf_X12_answer im_X12_answer rfl rfl rfl (by decide) (Nat.le_of_ble_eq_true rfl) (Nat.le_of_ble_eq_true rfl) rfl (fun _ _ h => f_X12_answer_ok h) hf (fun v19 μ18 hf => ?_)
        refine E_lconst (pc := 54) (v := (1 : Int64)) dX12_isBroken_54 (by decide) ?_
        refine E_lcmp (pc := 55) dX12_isBroken_55 ?_
        refine E_if_ne (pc := 56) (tgt := 61) dX12_isBroken_56 (by decide) hf (fun hf => ?_) (fun hf => ?_)
        · refine Ev.sub [] rfl ?_
          exact hK59 _ hf
        · refine E_iinc (pc := 61) (ls' := fun x20 => [(2, .int x20), (0, .ref a6), (1, .int x7)]) dX12_isBroken_61 rfl (by decide) (fun _ => rfl) hf (fun x20 hf => ?_)
          refine E_goto (pc := 64) (tgt := 13) dX12_isBroken_64 (by decide) ?_
          refine Ev.sub [1, 2, 0] rfl ?_
          exact ih _ _ _ _ hf
set_option maxRecDepth 100000 in
def f_X12_isBroken (μ0 : Mm) (a1 : Nat) : Option (Int32 × Mm) :=
 ((gR μ0 a1 12 1).bind fun v2 =>
    ((aI μ0 v2 0 (10 : Int32)).bind fun v3 =>
    (nm v3 fun x4 =>
    (nm ((12 : Int32) * x4) fun x5 =>
    f_X12_isBroken_L13 (fun μ21 =>
    (if (1 : Int32) = 0 ∨ (1 : Int32) = 1 then some ((1 : Int32), μ21) else none)) (fun μ22 =>
    (if (0 : Int32) = 0 ∨ (0 : Int32) = 1 then some ((0 : Int32), μ22) else none)) FU μ0 a1 x4 x5))))
set_option maxHeartbeats 4000000 in
set_option maxRecDepth 100000 in
theorem f_X12_isBroken_ok {l : Launch} {G : GG} {μ0 : Mm} {a1 : Nat} {r : Int32} {μ' : Mm} (hf : f_X12_isBroken μ0 a1 = some (r, μ')) : EvM l G D_X12_isBroken yX12_isBroken cX12_isBroken 3 (some .boolean) [.ref a1] μ0 (some (.int r)) μ' := by
  show Ev l G D_X12_isBroken yX12_isBroken cX12_isBroken 3 (some .boolean) 0 [(0, .ref a1)] [] μ0 (some (.int r)) μ'
  unfold f_X12_isBroken at hf
  refine E_aload_n (pc := 0) dX12_isBroken_0 rfl ?_
  refine E_getR (pc := 1) dX12_isBroken_1 fl_X12_9 hf (fun v2 hf => ?_)
  refine E_bipush (pc := 4) (v := (10 : Int32)) dX12_isBroken_4 (by decide) ?_
  refine E_iald (pc := 6) dX12_isBroken_6 hf (fun v3 hf => ?_)
  refine E_istore_n (pc := 7) (ls' := fun x4 => [(1, .int x4), (0, .ref a1)]) dX12_isBroken_7 (by decide) (fun _ => rfl) hf (fun x4 hf => ?_)
  refine E_bipush (pc := 8) (v := (12 : Int32)) dX12_isBroken_8 (by decide) ?_
  refine E_iload_n (pc := 10) dX12_isBroken_10 rfl ?_
  refine E_imul (pc := 11) dX12_isBroken_11 ?_
  refine E_istore_n (pc := 12) (ls' := fun x5 => [(2, .int x5), (1, .int x4), (0, .ref a1)]) dX12_isBroken_12 (by decide) (fun _ => rfl) hf (fun x5 hf => ?_)
  refine Ev.sub [2, 1, 0] rfl ?_
  refine f_X12_isBroken_L13_ok  _ _ _ _ _ hf (fun μ21 hf => ?_) (fun μ22 hf => ?_)
  · refine E_iconst (pc := 59) (v := (1 : Int32)) dX12_isBroken_59 (by decide) ?_
    exact E_zret (pc := 60) dX12_isBroken_60 rfl hf
  · refine E_iconst (pc := 67) (v := (0 : Int32)) dX12_isBroken_67 (by decide) ?_
    exact E_zret (pc := 68) dX12_isBroken_68 rfl hf
theorem dX12_marked_0 : decode cX12_marked 0 = .ok (.aload_n 0, 1) := by decide +kernel
theorem dX12_marked_1 : decode cX12_marked 1 = .ok (.getfield 9, 3) := by decide +kernel
theorem dX12_marked_4 : decode cX12_marked 4 = .ok (.bipush 10, 2) := by decide +kernel
theorem dX12_marked_6 : decode cX12_marked 6 = .ok (.iaload, 1) := by decide +kernel
theorem dX12_marked_7 : decode cX12_marked 7 = .ok (.istore_n 1, 1) := by decide +kernel
theorem dX12_marked_8 : decode cX12_marked 8 = .ok (.bipush 12, 2) := by decide +kernel
theorem dX12_marked_10 : decode cX12_marked 10 = .ok (.iload_n 1, 1) := by decide +kernel
theorem dX12_marked_11 : decode cX12_marked 11 = .ok (.imul, 1) := by decide +kernel
theorem dX12_marked_12 : decode cX12_marked 12 = .ok (.istore_n 2, 1) := by decide +kernel
theorem dX12_marked_13 : decode cX12_marked 13 = .ok (.iload_n 2, 1) := by decide +kernel
theorem dX12_marked_14 : decode cX12_marked 14 = .ok (.bipush 12, 2) := by decide +kernel
theorem dX12_marked_16 : decode cX12_marked 16 = .ok (.iload_n 1, 1) := by decide +kernel
theorem dX12_marked_17 : decode cX12_marked 17 = .ok (.imul, 1) := by decide +kernel
theorem dX12_marked_18 : decode cX12_marked 18 = .ok (.aload_n 0, 1) := by decide +kernel
theorem dX12_marked_19 : decode cX12_marked 19 = .ok (.getfield 102, 3) := by decide +kernel
theorem dX12_marked_22 : decode cX12_marked 22 = .ok (.iload_n 1, 1) := by decide +kernel
theorem dX12_marked_23 : decode cX12_marked 23 = .ok (.iaload, 1) := by decide +kernel
theorem dX12_marked_24 : decode cX12_marked 24 = .ok (.iadd, 1) := by decide +kernel
theorem dX12_marked_25 : decode cX12_marked 25 = .ok (.if_icmp .ge 99, 3) := by decide +kernel
theorem dX12_marked_28 : decode cX12_marked 28 = .ok (.aload_n 0, 1) := by decide +kernel
theorem dX12_marked_29 : decode cX12_marked 29 = .ok (.getfield 117, 3) := by decide +kernel
theorem dX12_marked_32 : decode cX12_marked 32 = .ok (.iload_n 2, 1) := by decide +kernel
theorem dX12_marked_33 : decode cX12_marked 33 = .ok (.baload, 1) := by decide +kernel
theorem dX12_marked_34 : decode cX12_marked 34 = .ok (.ifCond .ne 84, 3) := by decide +kernel
theorem dX12_marked_37 : decode cX12_marked 37 = .ok (.aload_n 0, 1) := by decide +kernel
theorem dX12_marked_38 : decode cX12_marked 38 = .ok (.getfield 108, 3) := by decide +kernel
theorem dX12_marked_41 : decode cX12_marked 41 = .ok (.iload_n 2, 1) := by decide +kernel
theorem dX12_marked_42 : decode cX12_marked 42 = .ok (.iaload, 1) := by decide +kernel
theorem dX12_marked_43 : decode cX12_marked 43 = .ok (.aload_n 0, 1) := by decide +kernel
theorem dX12_marked_44 : decode cX12_marked 44 = .ok (.getfield 111, 3) := by decide +kernel
theorem dX12_marked_47 : decode cX12_marked 47 = .ok (.iload_n 2, 1) := by decide +kernel
theorem dX12_marked_48 : decode cX12_marked 48 = .ok (.iaload, 1) := by decide +kernel
theorem dX12_marked_49 : decode cX12_marked 49 = .ok (.if_icmp .eq 25, 3) := by decide +kernel
theorem dX12_marked_52 : decode cX12_marked 52 = .ok (.aload_n 0, 1) := by decide +kernel
theorem dX12_marked_53 : decode cX12_marked 53 = .ok (.iload_n 1, 1) := by decide +kernel
theorem dX12_marked_54 : decode cX12_marked 54 = .ok (.aload_n 0, 1) := by decide +kernel
theorem dX12_marked_55 : decode cX12_marked 55 = .ok (.getfield 108, 3) := by decide +kernel
theorem dX12_marked_58 : decode cX12_marked 58 = .ok (.iload_n 2, 1) := by decide +kernel
theorem dX12_marked_59 : decode cX12_marked 59 = .ok (.iaload, 1) := by decide +kernel
theorem dX12_marked_60 : decode cX12_marked 60 = .ok (.aload_n 0, 1) := by decide +kernel
theorem dX12_marked_61 : decode cX12_marked 61 = .ok (.getfield 111, 3) := by decide +kernel
theorem dX12_marked_64 : decode cX12_marked 64 = .ok (.iload_n 2, 1) := by decide +kernel
theorem dX12_marked_65 : decode cX12_marked 65 = .ok (.iaload, 1) := by decide +kernel
theorem dX12_marked_66 : decode cX12_marked 66 = .ok (.invokevirtual 392, 3) := by decide +kernel
theorem dX12_marked_69 : decode cX12_marked 69 = .ok (.lconst 1, 1) := by decide +kernel
theorem dX12_marked_70 : decode cX12_marked 70 = .ok (.lcmp, 1) := by decide +kernel
theorem dX12_marked_71 : decode cX12_marked 71 = .ok (.ifCond .ne 47, 3) := by decide +kernel
theorem dX12_marked_74 : decode cX12_marked 74 = .ok (.aload_n 0, 1) := by decide +kernel
theorem dX12_marked_75 : decode cX12_marked 75 = .ok (.iload_n 1, 1) := by decide +kernel
theorem dX12_marked_76 : decode cX12_marked 76 = .ok (.aload_n 0, 1) := by decide +kernel
theorem dX12_marked_77 : decode cX12_marked 77 = .ok (.getfield 105, 3) := by decide +kernel
theorem dX12_marked_80 : decode cX12_marked 80 = .ok (.iload_n 2, 1) := by decide +kernel
theorem dX12_marked_81 : decode cX12_marked 81 = .ok (.iaload, 1) := by decide +kernel
theorem dX12_marked_82 : decode cX12_marked 82 = .ok (.aload_n 0, 1) := by decide +kernel
theorem dX12_marked_83 : decode cX12_marked 83 = .ok (.getfield 108, 3) := by decide +kernel
theorem dX12_marked_86 : decode cX12_marked 86 = .ok (.iload_n 2, 1) := by decide +kernel
theorem dX12_marked_87 : decode cX12_marked 87 = .ok (.iaload, 1) := by decide +kernel
theorem dX12_marked_88 : decode cX12_marked 88 = .ok (.invokevirtual 392, 3) := by decide +kernel
theorem dX12_marked_91 : decode cX12_marked 91 = .ok (.lstore_n 3, 1) := by decide +kernel
theorem dX12_marked_92 : decode cX12_marked 92 = .ok (.lload_n 3, 1) := by decide +kernel
theorem dX12_marked_93 : decode cX12_marked 93 = .ok (.lconst 0, 1) := by decide +kernel
theorem dX12_marked_94 : decode cX12_marked 94 = .ok (.lcmp, 1) := by decide +kernel
theorem dX12_marked_95 : decode cX12_marked 95 = .ok (.ifCond .ge 7, 3) := by decide +kernel
theorem dX12_marked_98 : decode cX12_marked 98 = .ok (.iconst 0, 1) := by decide +kernel
theorem dX12_marked_99 : decode cX12_marked 99 = .ok (.goto 18, 3) := by decide +kernel
theorem dX12_marked_102 : decode cX12_marked 102 = .ok (.lload_n 3, 1) := by decide +kernel
theorem dX12_marked_103 : decode cX12_marked 103 = .ok (.ldc2_w 396, 3) := by decide +kernel
theorem dX12_marked_106 : decode cX12_marked 106 = .ok (.lcmp, 1) := by decide +kernel
theorem dX12_marked_107 : decode cX12_marked 107 = .ok (.ifCond .le 8, 3) := by decide +kernel
theorem dX12_marked_110 : decode cX12_marked 110 = .ok (.bipush 100, 2) := by decide +kernel
theorem dX12_marked_112 : decode cX12_marked 112 = .ok (.goto 5, 3) := by decide +kernel
theorem dX12_marked_115 : decode cX12_marked 115 = .ok (.lload_n 3, 1) := by decide +kernel
theorem dX12_marked_116 : decode cX12_marked 116 = .ok (.l2i, 1) := by decide +kernel
theorem dX12_marked_117 : decode cX12_marked 117 = .ok (.ireturn, 1) := by decide +kernel
theorem dX12_marked_118 : decode cX12_marked 118 = .ok (.iinc 2 1, 3) := by decide +kernel
theorem dX12_marked_121 : decode cX12_marked 121 = .ok (.goto (-108), 3) := by decide +kernel
theorem dX12_marked_124 : decode cX12_marked 124 = .ok (.iconst 0, 1) := by decide +kernel
theorem dX12_marked_125 : decode cX12_marked 125 = .ok (.ireturn, 1) := by decide +kernel
abbrev D_X12_marked : Nat := 4
def f_X12_marked_L13 (K74 : Mm → Nat → Int32 → Int32 → Option (Int32 × Mm)) (K124 : Mm → Option (Int32 × Mm)) : Nat → Mm → Nat → Int32 → Int32 → Option (Int32 × Mm)
  | 0, _, _, _, _ => none
  | n + 1, μ0, a6, x7, x8 =>
    ((gR μ0 a6 12 41).bind fun v9 =>
    ((aI μ0 v9 0 x7).bind fun v10 =>
    (if (((12 : Int32) * x7) + v10) ≤ x8 then
    K124 μ0
    else
    ((gR μ0 a6 12 46).bind fun v11 =>
    ((aI μ0 v11 2 x8).bind fun v12 =>
    (if v12 = 0 then
    ((gR μ0 a6 12 43).bind fun v13 =>
    ((aI μ0 v13 0 x8).bind fun v14 =>
    ((gR μ0 a6 12 44).bind fun v15 =>
    ((aI μ0 v15 0 x8).bind fun v16 =>
    (if v14 = v16 then
    K74 μ0 a6 x7 x8
    else
    ((gR μ0 a6 12 43).bind fun v17 =>
    ((aI μ0 v17 0 x8).bind fun v18 =>
    ((gR μ0 a6 12 44).bind fun v19 =>
    ((aI μ0 v19 0 x8).bind fun v20 =>
    ((ob μ0 a6 12).bind fun _ =>
    (bd (f_X12_answer μ0 a6 x7 v18 v20) fun v22 μ21 =>
    (if (lg_cmp v22 (1 : Int64)) = 0 then
    K74 μ21 a6 x7 x8
    else
    (nm (x8 + Int32.ofInt (1)) fun x23 =>
    f_X12_marked_L13 K74 K124 n μ21 a6 x7 x23)))))))))))))
    else
    (nm (x8 + Int32.ofInt (1)) fun x24 =>
    f_X12_marked_L13 K74 K124 n μ0 a6 x7 x24)))))))
set_option maxHeartbeats 4000000 in
set_option maxRecDepth 100000 in
theorem f_X12_marked_L13_ok {l : Launch} {G : GG} {K74 : Mm → Nat → Int32 → Int32 → Option (Int32 × Mm)} {K124 : Mm → Option (Int32 × Mm)} {r : Int32} {μ' : Mm} (n : Nat) (μ0 : Mm) (a6 : Nat) (x7 : Int32) (x8 : Int32) (hf : f_X12_marked_L13 K74 K124 n μ0 a6 x7 x8 = some (r, μ')) (hK74 : ∀ (μ1 : Mm) (y0 : Nat) (y1 : Int32) (y2 : Int32), K74 μ1 y0 y1 y2 = some (r, μ') → Ev l G D_X12_marked yX12_marked cX12_marked 5 (some .int) 74 [(0, .ref y0), (1, .int y1), (2, .int y2)] [] μ1 (some (.int r)) μ') (hK124 : ∀ (μ1 : Mm), K124 μ1  = some (r, μ') → Ev l G D_X12_marked yX12_marked cX12_marked 5 (some .int) 124 [] [] μ1 (some (.int r)) μ') : Ev l G D_X12_marked yX12_marked cX12_marked 5 (some .int) 13 [(0, .ref a6), (1, .int x7), (2, .int x8)] [] μ0 (some (.int r)) μ' := by
  induction n generalizing μ0 a6 x7 x8 with
  | zero => cases hf
  | succ n ih0 =>
    have ih : ∀ (μ0 : Mm) (a6 : Nat) (x7 : Int32) (x8 : Int32), f_X12_marked_L13 K74 K124 n μ0 a6 x7 x8 = some (r, μ') → Ev l G D_X12_marked yX12_marked cX12_marked 5 (some .int) 13 [(0, .ref a6), (1, .int x7), (2, .int x8)] [] μ0 (some (.int r)) μ' := fun μ0 a6 x7 x8 hf => ih0 μ0 a6 x7 x8 hf
    rw [f_X12_marked_L13] at hf
    refine E_iload_n (pc := 13) dX12_marked_13 rfl ?_
    refine E_bipush (pc := 14) (v := (12 : Int32)) dX12_marked_14 (by decide) ?_
    refine E_iload_n (pc := 16) dX12_marked_16 rfl ?_
    refine E_imul (pc := 17) dX12_marked_17 ?_
    refine E_aload_n (pc := 18) dX12_marked_18 rfl ?_
    refine E_getR (pc := 19) dX12_marked_19 fl_X12_102 hf (fun v9 hf => ?_)
    refine E_iload_n (pc := 22) dX12_marked_22 rfl ?_
    refine E_iald (pc := 23) dX12_marked_23 hf (fun v10 hf => ?_)
    refine E_iadd (pc := 24) dX12_marked_24 ?_
    refine E_icmp_ge (pc := 25) (tgt := 124) dX12_marked_25 (by decide) hf (fun hf => ?_) (fun hf => ?_)
    · refine Ev.sub [] rfl ?_
      exact hK124 _ hf
    · refine E_aload_n (pc := 28) dX12_marked_28 rfl ?_
      refine E_getR (pc := 29) dX12_marked_29 fl_X12_117 hf (fun v11 hf => ?_)
      refine E_iload_n (pc := 32) dX12_marked_32 rfl ?_
      refine E_zald (pc := 33) dX12_marked_33 hf (fun v12 hf => ?_)
      refine E_if_ne (pc := 34) (tgt := 118) dX12_marked_34 (by decide) hf (fun hf => ?_) (fun hf => ?_)
      · refine E_aload_n (pc := 37) dX12_marked_37 rfl ?_
        refine E_getR (pc := 38) dX12_marked_38 fl_X12_108 hf (fun v13 hf => ?_)
        refine E_iload_n (pc := 41) dX12_marked_41 rfl ?_
        refine E_iald (pc := 42) dX12_marked_42 hf (fun v14 hf => ?_)
        refine E_aload_n (pc := 43) dX12_marked_43 rfl ?_
        refine E_getR (pc := 44) dX12_marked_44 fl_X12_111 hf (fun v15 hf => ?_)
        refine E_iload_n (pc := 47) dX12_marked_47 rfl ?_
        refine E_iald (pc := 48) dX12_marked_48 hf (fun v16 hf => ?_)
        refine E_icmp_eq (pc := 49) (tgt := 74) dX12_marked_49 (by decide) hf (fun hf => ?_) (fun hf => ?_)
        · refine Ev.sub [0, 1, 2] rfl ?_
          exact hK74 _ _ _ _ hf
        · refine E_aload_n (pc := 52) dX12_marked_52 rfl ?_
          refine E_iload_n (pc := 53) dX12_marked_53 rfl ?_
          refine E_aload_n (pc := 54) dX12_marked_54 rfl ?_
          refine E_getR (pc := 55) dX12_marked_55 fl_X12_108 hf (fun v17 hf => ?_)
          refine E_iload_n (pc := 58) dX12_marked_58 rfl ?_
          refine E_iald (pc := 59) dX12_marked_59 hf (fun v18 hf => ?_)
          refine E_aload_n (pc := 60) dX12_marked_60 rfl ?_
          refine E_getR (pc := 61) dX12_marked_61 fl_X12_111 hf (fun v19 hf => ?_)
          refine E_iload_n (pc := 64) dX12_marked_64 rfl ?_
          refine E_iald (pc := 65) dX12_marked_65 hf (fun v20 hf => ?_)
          refine E_Vl (pc := 66) (d2 := D_X12_answer) (ci := 12) [.int x7, .int v18, .int v20] dX12_marked_66 ml_X12_392 mf_X12_answer im_X12_answer rfl rfl rfl (by decide) (Nat.le_of_ble_eq_true rfl) (Nat.le_of_ble_eq_true rfl) rfl (fun _ _ h => f_X12_answer_ok h) hf (fun v22 μ21 hf => ?_)
          refine E_lconst (pc := 69) (v := (1 : Int64)) dX12_marked_69 (by decide) ?_
          refine E_lcmp (pc := 70) dX12_marked_70 ?_
          refine E_if_ne (pc := 71) (tgt := 118) dX12_marked_71 (by decide) hf (fun hf => ?_) (fun hf => ?_)
          · refine Ev.sub [0, 1, 2] rfl ?_
            exact hK74 _ _ _ _ hf
          · refine E_iinc (pc := 118) (ls' := fun x23 => [(2, .int x23), (0, .ref a6), (1, .int x7)]) dX12_marked_118 rfl (by decide) (fun _ => rfl) hf (fun x23 hf => ?_)
            refine E_goto (pc := 121) (tgt := 13) dX12_marked_121 (by decide) ?_
            refine Ev.sub [1, 2, 0] rfl ?_
            exact ih _ _ _ _ hf
      · refine E_iinc (pc := 118) (ls' := fun x24 => [(2, .int x24), (0, .ref a6), (1, .int x7)]) dX12_marked_118 rfl (by decide) (fun _ => rfl) hf (fun x24 hf => ?_)
        refine E_goto (pc := 121) (tgt := 13) dX12_marked_121 (by decide) ?_
        refine Ev.sub [1, 2, 0] rfl ?_
        exact ih _ _ _ _ hf
set_option maxRecDepth 100000 in
def f_X12_marked (μ0 : Mm) (a1 : Nat) : Option (Int32 × Mm) :=
 ((gR μ0 a1 12 1).bind fun v2 =>
    ((aI μ0 v2 0 (10 : Int32)).bind fun v3 =>
    (nm v3 fun x4 =>
    (nm ((12 : Int32) * x4) fun x5 =>
    f_X12_marked_L13 (fun μ25 a26 x27 x28 =>
    ((gR μ25 a26 12 42).bind fun v29 =>
    ((aI μ25 v29 0 x28).bind fun v30 =>
    ((gR μ25 a26 12 43).bind fun v31 =>
    ((aI μ25 v31 0 x28).bind fun v32 =>
    ((ob μ25 a26 12).bind fun _ =>
    (bd (f_X12_answer μ25 a26 x27 v30 v32) fun v34 μ33 =>
    (nm v34 fun w35 =>
    (if 0 ≤ (lg_cmp w35 (0 : Int64)) then
    (if (lg_cmp w35 (100 : Int64)) ≤ 0 then
    (some ((w35).toInt32, μ33))
    else
    (some ((100 : Int32), μ33)))
    else
    (some ((0 : Int32), μ33))))))))))) (fun μ36 =>
    (some ((0 : Int32), μ36))) FU μ0 a1 x4 x5))))
set_option maxHeartbeats 4000000 in
set_option maxRecDepth 100000 in
theorem f_X12_marked_ok {l : Launch} {G : GG} {μ0 : Mm} {a1 : Nat} {r : Int32} {μ' : Mm} (hf : f_X12_marked μ0 a1 = some (r, μ')) : EvM l G D_X12_marked yX12_marked cX12_marked 5 (some .int) [.ref a1] μ0 (some (.int r)) μ' := by
  show Ev l G D_X12_marked yX12_marked cX12_marked 5 (some .int) 0 [(0, .ref a1)] [] μ0 (some (.int r)) μ'
  unfold f_X12_marked at hf
  refine E_aload_n (pc := 0) dX12_marked_0 rfl ?_
  refine E_getR (pc := 1) dX12_marked_1 fl_X12_9 hf (fun v2 hf => ?_)
  refine E_bipush (pc := 4) (v := (10 : Int32)) dX12_marked_4 (by decide) ?_
  refine E_iald (pc := 6) dX12_marked_6 hf (fun v3 hf => ?_)
  refine E_istore_n (pc := 7) (ls' := fun x4 => [(1, .int x4), (0, .ref a1)]) dX12_marked_7 (by decide) (fun _ => rfl) hf (fun x4 hf => ?_)
  refine E_bipush (pc := 8) (v := (12 : Int32)) dX12_marked_8 (by decide) ?_
  refine E_iload_n (pc := 10) dX12_marked_10 rfl ?_
  refine E_imul (pc := 11) dX12_marked_11 ?_
  refine E_istore_n (pc := 12) (ls' := fun x5 => [(2, .int x5), (1, .int x4), (0, .ref a1)]) dX12_marked_12 (by decide) (fun _ => rfl) hf (fun x5 hf => ?_)
  refine Ev.sub [2, 1, 0] rfl ?_
  refine f_X12_marked_L13_ok  _ _ _ _ _ hf (fun μ25 a26 x27 x28 hf => ?_) (fun μ36 hf => ?_)
  · refine E_aload_n (pc := 74) dX12_marked_74 rfl ?_
    refine E_iload_n (pc := 75) dX12_marked_75 rfl ?_
    refine E_aload_n (pc := 76) dX12_marked_76 rfl ?_
    refine E_getR (pc := 77) dX12_marked_77 fl_X12_105 hf (fun v29 hf => ?_)
    refine E_iload_n (pc := 80) dX12_marked_80 rfl ?_
    refine E_iald (pc := 81) dX12_marked_81 hf (fun v30 hf => ?_)
    refine E_aload_n (pc := 82) dX12_marked_82 rfl ?_
    refine E_getR (pc := 83) dX12_marked_83 fl_X12_108 hf (fun v31 hf => ?_)
    refine E_iload_n (pc := 86) dX12_marked_86 rfl ?_
    refine E_iald (pc := 87) dX12_marked_87 hf (fun v32 hf => ?_)
    refine E_Vl (pc := 88) (d2 := D_X12_answer) (ci := 12) [.int x27, .int v30, .int v32] dX12_marked_88 ml_X12_392 mf_X12_answer im_X12_answer rfl rfl rfl (by decide) (Nat.le_of_ble_eq_true rfl) (Nat.le_of_ble_eq_true rfl) rfl (fun _ _ h => f_X12_answer_ok h) hf (fun v34 μ33 hf => ?_)
    refine E_lstore_n (pc := 91) (ls' := fun w35 => [(3, .long w35), (0, .ref a26), (1, .int x27), (2, .int x28)]) dX12_marked_91 (by decide) (fun _ => rfl) hf (fun w35 hf => ?_)
    refine E_lload_n (pc := 92) dX12_marked_92 rfl ?_
    refine E_lconst (pc := 93) (v := (0 : Int64)) dX12_marked_93 (by decide) ?_
    refine E_lcmp (pc := 94) dX12_marked_94 ?_
    refine E_if_ge (pc := 95) (tgt := 102) dX12_marked_95 (by decide) hf (fun hf => ?_) (fun hf => ?_)
    · refine E_lload_n (pc := 102) dX12_marked_102 rfl ?_
      refine E_ldc2 (pc := 103) (v := (100 : Int64)) dX12_marked_103 co_X12_396 ?_
      refine E_lcmp (pc := 106) dX12_marked_106 ?_
      refine E_if_le (pc := 107) (tgt := 115) dX12_marked_107 (by decide) hf (fun hf => ?_) (fun hf => ?_)
      · refine E_lload_n (pc := 115) dX12_marked_115 rfl ?_
        refine E_l2i (pc := 116) dX12_marked_116 ?_
        exact E_iret (pc := 117) dX12_marked_117 rfl hf
      · refine E_bipush (pc := 110) (v := (100 : Int32)) dX12_marked_110 (by decide) ?_
        refine E_goto (pc := 112) (tgt := 117) dX12_marked_112 (by decide) ?_
        exact E_iret (pc := 117) dX12_marked_117 rfl hf
    · refine E_iconst (pc := 98) (v := (0 : Int32)) dX12_marked_98 (by decide) ?_
      refine E_goto (pc := 99) (tgt := 117) dX12_marked_99 (by decide) ?_
      exact E_iret (pc := 117) dX12_marked_117 rfl hf
  · refine E_iconst (pc := 124) (v := (0 : Int32)) dX12_marked_124 (by decide) ?_
    exact E_iret (pc := 125) dX12_marked_125 rfl hf
theorem dX12_beside_0 : decode cX12_beside 0 = .ok (.iload_n 1, 1) := by decide +kernel
theorem dX12_beside_1 : decode cX12_beside 1 = .ok (.aload_n 0, 1) := by decide +kernel
theorem dX12_beside_2 : decode cX12_beside 2 = .ok (.getfield 9, 3) := by decide +kernel
theorem dX12_beside_5 : decode cX12_beside 5 = .ok (.iconst 0, 1) := by decide +kernel
theorem dX12_beside_6 : decode cX12_beside 6 = .ok (.iaload, 1) := by decide +kernel
theorem dX12_beside_7 : decode cX12_beside 7 = .ok (.irem, 1) := by decide +kernel
theorem dX12_beside_8 : decode cX12_beside 8 = .ok (.istore_n 3, 1) := by decide +kernel
theorem dX12_beside_9 : decode cX12_beside 9 = .ok (.iload_n 2, 1) := by decide +kernel
theorem dX12_beside_10 : decode cX12_beside 10 = .ok (.tableswitch 97 0 2 #[26, 49, 69], 26) := by decide +kernel
theorem dX12_beside_36 : decode cX12_beside 36 = .ok (.iload_n 1, 1) := by decide +kernel
theorem dX12_beside_37 : decode cX12_beside 37 = .ok (.aload_n 0, 1) := by decide +kernel
theorem dX12_beside_38 : decode cX12_beside 38 = .ok (.getfield 9, 3) := by decide +kernel
theorem dX12_beside_41 : decode cX12_beside 41 = .ok (.iconst 0, 1) := by decide +kernel
theorem dX12_beside_42 : decode cX12_beside 42 = .ok (.iaload, 1) := by decide +kernel
theorem dX12_beside_43 : decode cX12_beside 43 = .ok (.if_icmp .lt 14, 3) := by decide +kernel
theorem dX12_beside_46 : decode cX12_beside 46 = .ok (.iload_n 1, 1) := by decide +kernel
theorem dX12_beside_47 : decode cX12_beside 47 = .ok (.aload_n 0, 1) := by decide +kernel
theorem dX12_beside_48 : decode cX12_beside 48 = .ok (.getfield 9, 3) := by decide +kernel
theorem dX12_beside_51 : decode cX12_beside 51 = .ok (.iconst 0, 1) := by decide +kernel
theorem dX12_beside_52 : decode cX12_beside 52 = .ok (.iaload, 1) := by decide +kernel
theorem dX12_beside_53 : decode cX12_beside 53 = .ok (.isub, 1) := by decide +kernel
theorem dX12_beside_54 : decode cX12_beside 54 = .ok (.goto 4, 3) := by decide +kernel
theorem dX12_beside_57 : decode cX12_beside 57 = .ok (.iconst (-1), 1) := by decide +kernel
theorem dX12_beside_58 : decode cX12_beside 58 = .ok (.ireturn, 1) := by decide +kernel
theorem dX12_beside_59 : decode cX12_beside 59 = .ok (.iload_n 3, 1) := by decide +kernel
theorem dX12_beside_60 : decode cX12_beside 60 = .ok (.iconst 1, 1) := by decide +kernel
theorem dX12_beside_61 : decode cX12_beside 61 = .ok (.iadd, 1) := by decide +kernel
theorem dX12_beside_62 : decode cX12_beside 62 = .ok (.aload_n 0, 1) := by decide +kernel
theorem dX12_beside_63 : decode cX12_beside 63 = .ok (.getfield 9, 3) := by decide +kernel
theorem dX12_beside_66 : decode cX12_beside 66 = .ok (.iconst 0, 1) := by decide +kernel
theorem dX12_beside_67 : decode cX12_beside 67 = .ok (.iaload, 1) := by decide +kernel
theorem dX12_beside_68 : decode cX12_beside 68 = .ok (.if_icmp .ge 9, 3) := by decide +kernel
theorem dX12_beside_71 : decode cX12_beside 71 = .ok (.iload_n 1, 1) := by decide +kernel
theorem dX12_beside_72 : decode cX12_beside 72 = .ok (.iconst 1, 1) := by decide +kernel
theorem dX12_beside_73 : decode cX12_beside 73 = .ok (.iadd, 1) := by decide +kernel
theorem dX12_beside_74 : decode cX12_beside 74 = .ok (.goto 4, 3) := by decide +kernel
theorem dX12_beside_77 : decode cX12_beside 77 = .ok (.iconst (-1), 1) := by decide +kernel
theorem dX12_beside_78 : decode cX12_beside 78 = .ok (.ireturn, 1) := by decide +kernel
theorem dX12_beside_79 : decode cX12_beside 79 = .ok (.iload_n 1, 1) := by decide +kernel
theorem dX12_beside_80 : decode cX12_beside 80 = .ok (.aload_n 0, 1) := by decide +kernel
theorem dX12_beside_81 : decode cX12_beside 81 = .ok (.getfield 9, 3) := by decide +kernel
theorem dX12_beside_84 : decode cX12_beside 84 = .ok (.iconst 0, 1) := by decide +kernel
theorem dX12_beside_85 : decode cX12_beside 85 = .ok (.iaload, 1) := by decide +kernel
theorem dX12_beside_86 : decode cX12_beside 86 = .ok (.iadd, 1) := by decide +kernel
theorem dX12_beside_87 : decode cX12_beside 87 = .ok (.aload_n 0, 1) := by decide +kernel
theorem dX12_beside_88 : decode cX12_beside 88 = .ok (.invokevirtual 179, 3) := by decide +kernel
theorem dX12_beside_91 : decode cX12_beside 91 = .ok (.if_icmp .ge 14, 3) := by decide +kernel
theorem dX12_beside_94 : decode cX12_beside 94 = .ok (.iload_n 1, 1) := by decide +kernel
theorem dX12_beside_95 : decode cX12_beside 95 = .ok (.aload_n 0, 1) := by decide +kernel
theorem dX12_beside_96 : decode cX12_beside 96 = .ok (.getfield 9, 3) := by decide +kernel
theorem dX12_beside_99 : decode cX12_beside 99 = .ok (.iconst 0, 1) := by decide +kernel
theorem dX12_beside_100 : decode cX12_beside 100 = .ok (.iaload, 1) := by decide +kernel
theorem dX12_beside_101 : decode cX12_beside 101 = .ok (.iadd, 1) := by decide +kernel
theorem dX12_beside_102 : decode cX12_beside 102 = .ok (.goto 4, 3) := by decide +kernel
theorem dX12_beside_105 : decode cX12_beside 105 = .ok (.iconst (-1), 1) := by decide +kernel
theorem dX12_beside_106 : decode cX12_beside 106 = .ok (.ireturn, 1) := by decide +kernel
theorem dX12_beside_107 : decode cX12_beside 107 = .ok (.iload_n 3, 1) := by decide +kernel
theorem dX12_beside_108 : decode cX12_beside 108 = .ok (.ifCond .le 9, 3) := by decide +kernel
theorem dX12_beside_111 : decode cX12_beside 111 = .ok (.iload_n 1, 1) := by decide +kernel
theorem dX12_beside_112 : decode cX12_beside 112 = .ok (.iconst 1, 1) := by decide +kernel
theorem dX12_beside_113 : decode cX12_beside 113 = .ok (.isub, 1) := by decide +kernel
theorem dX12_beside_114 : decode cX12_beside 114 = .ok (.goto 4, 3) := by decide +kernel
theorem dX12_beside_117 : decode cX12_beside 117 = .ok (.iconst (-1), 1) := by decide +kernel
theorem dX12_beside_118 : decode cX12_beside 118 = .ok (.ireturn, 1) := by decide +kernel
abbrev D_X12_beside : Nat := 2
set_option maxRecDepth 100000 in
def f_X12_beside (μ0 : Mm) (a1 : Nat) (x2 : Int32) (x3 : Int32) : Option (Int32 × Mm) :=
 ((gR μ0 a1 12 1).bind fun v4 =>
    ((aI μ0 v4 0 (0 : Int32)).bind fun v5 =>
    (rmI x2 v5 fun v6 =>
    (nm v6 fun x7 =>
    (if x3 = (0 : Int32) then
    ((gR μ0 a1 12 1).bind fun v16 =>
    ((aI μ0 v16 0 (0 : Int32)).bind fun v17 =>
    (if x2 < v17 then
    (some ((-1 : Int32), μ0))
    else
    ((gR μ0 a1 12 1).bind fun v18 =>
    ((aI μ0 v18 0 (0 : Int32)).bind fun v19 =>
    (some ((x2 - v19), μ0)))))))
    else
    (if x3 = (1 : Int32) then
    ((gR μ0 a1 12 1).bind fun v14 =>
    ((aI μ0 v14 0 (0 : Int32)).bind fun v15 =>
    (if v15 ≤ (x7 + (1 : Int32)) then
    (some ((-1 : Int32), μ0))
    else
    (some ((x2 + (1 : Int32)), μ0)))))
    else
    (if x3 = (2 : Int32) then
    ((gR μ0 a1 12 1).bind fun v8 =>
    ((aI μ0 v8 0 (0 : Int32)).bind fun v9 =>
    ((ob μ0 a1 12).bind fun _ =>
    (bd (f_X12_cells μ0 a1) fun v11 μ10 =>
    (if v11 ≤ (x2 + v9) then
    (some ((-1 : Int32), μ10))
    else
    ((gR μ10 a1 12 1).bind fun v12 =>
    ((aI μ10 v12 0 (0 : Int32)).bind fun v13 =>
    (some ((x2 + v13), μ10)))))))))
    else
    (if x7 ≤ 0 then
    (some ((-1 : Int32), μ0))
    else
    (some ((x2 - (1 : Int32)), μ0))))))))))
set_option maxHeartbeats 4000000 in
set_option maxRecDepth 100000 in
theorem f_X12_beside_ok {l : Launch} {G : GG} {μ0 : Mm} {a1 : Nat} {x2 : Int32} {x3 : Int32} {r : Int32} {μ' : Mm} (hf : f_X12_beside μ0 a1 x2 x3 = some (r, μ')) : EvM l G D_X12_beside yX12_beside cX12_beside 4 (some .int) [.ref a1, .int x2, .int x3] μ0 (some (.int r)) μ' := by
  show Ev l G D_X12_beside yX12_beside cX12_beside 4 (some .int) 0 [(0, .ref a1), (1, .int x2), (2, .int x3)] [] μ0 (some (.int r)) μ'
  unfold f_X12_beside at hf
  refine E_iload_n (pc := 0) dX12_beside_0 rfl ?_
  refine E_aload_n (pc := 1) dX12_beside_1 rfl ?_
  refine E_getR (pc := 2) dX12_beside_2 fl_X12_9 hf (fun v4 hf => ?_)
  refine E_iconst (pc := 5) (v := (0 : Int32)) dX12_beside_5 (by decide) ?_
  refine E_iald (pc := 6) dX12_beside_6 hf (fun v5 hf => ?_)
  refine E_irem2 (pc := 7) dX12_beside_7 hf (fun v6 hf => ?_)
  refine E_istore_n (pc := 8) (ls' := fun x7 => [(3, .int x7), (0, .ref a1), (1, .int x2), (2, .int x3)]) dX12_beside_8 (by decide) (fun _ => rfl) hf (fun x7 hf => ?_)
  refine E_iload_n (pc := 9) dX12_beside_9 rfl ?_
  refine ifS hf (fun n10_0 hf => ?_) (fun n10_0 hf => ?_)
  · refine E_tswI (pc := 10) (tgt := 36) (0) dX12_beside_10 (by rw [n10_0]; decide) (by decide) (by decide) rfl (by decide) ?_
    refine E_iload_n (pc := 36) dX12_beside_36 rfl ?_
    refine E_aload_n (pc := 37) dX12_beside_37 rfl ?_
    refine E_getR (pc := 38) dX12_beside_38 fl_X12_9 hf (fun v16 hf => ?_)
    refine E_iconst (pc := 41) (v := (0 : Int32)) dX12_beside_41 (by decide) ?_
    refine E_iald (pc := 42) dX12_beside_42 hf (fun v17 hf => ?_)
    refine E_icmp_lt (pc := 43) (tgt := 57) dX12_beside_43 (by decide) hf (fun hf => ?_) (fun hf => ?_)
    · refine E_iconst (pc := 57) (v := (-1 : Int32)) dX12_beside_57 (by decide) ?_
      exact E_iret (pc := 58) dX12_beside_58 rfl hf
    · refine E_iload_n (pc := 46) dX12_beside_46 rfl ?_
      refine E_aload_n (pc := 47) dX12_beside_47 rfl ?_
      refine E_getR (pc := 48) dX12_beside_48 fl_X12_9 hf (fun v18 hf => ?_)
      refine E_iconst (pc := 51) (v := (0 : Int32)) dX12_beside_51 (by decide) ?_
      refine E_iald (pc := 52) dX12_beside_52 hf (fun v19 hf => ?_)
      refine E_isub (pc := 53) dX12_beside_53 ?_
      refine E_goto (pc := 54) (tgt := 58) dX12_beside_54 (by decide) ?_
      exact E_iret (pc := 58) dX12_beside_58 rfl hf
  · refine ifS hf (fun n10_1 hf => ?_) (fun n10_1 hf => ?_)
    · refine E_tswI (pc := 10) (tgt := 59) (1) dX12_beside_10 (by rw [n10_1]; decide) (by decide) (by decide) rfl (by decide) ?_
      refine E_iload_n (pc := 59) dX12_beside_59 rfl ?_
      refine E_iconst (pc := 60) (v := (1 : Int32)) dX12_beside_60 (by decide) ?_
      refine E_iadd (pc := 61) dX12_beside_61 ?_
      refine E_aload_n (pc := 62) dX12_beside_62 rfl ?_
      refine E_getR (pc := 63) dX12_beside_63 fl_X12_9 hf (fun v14 hf => ?_)
      refine E_iconst (pc := 66) (v := (0 : Int32)) dX12_beside_66 (by decide) ?_
      refine E_iald (pc := 67) dX12_beside_67 hf (fun v15 hf => ?_)
      refine E_icmp_ge (pc := 68) (tgt := 77) dX12_beside_68 (by decide) hf (fun hf => ?_) (fun hf => ?_)
      · refine E_iconst (pc := 77) (v := (-1 : Int32)) dX12_beside_77 (by decide) ?_
        exact E_iret (pc := 78) dX12_beside_78 rfl hf
      · refine E_iload_n (pc := 71) dX12_beside_71 rfl ?_
        refine E_iconst (pc := 72) (v := (1 : Int32)) dX12_beside_72 (by decide) ?_
        refine E_iadd (pc := 73) dX12_beside_73 ?_
        refine E_goto (pc := 74) (tgt := 78) dX12_beside_74 (by decide) ?_
        exact E_iret (pc := 78) dX12_beside_78 rfl hf
    · refine ifS hf (fun n10_2 hf => ?_) (fun n10_2 hf => ?_)
      · refine E_tswI (pc := 10) (tgt := 79) (2) dX12_beside_10 (by rw [n10_2]; decide) (by decide) (by decide) rfl (by decide) ?_
        refine E_iload_n (pc := 79) dX12_beside_79 rfl ?_
        refine E_aload_n (pc := 80) dX12_beside_80 rfl ?_
        refine E_getR (pc := 81) dX12_beside_81 fl_X12_9 hf (fun v8 hf => ?_)
        refine E_iconst (pc := 84) (v := (0 : Int32)) dX12_beside_84 (by decide) ?_
        refine E_iald (pc := 85) dX12_beside_85 hf (fun v9 hf => ?_)
        refine E_iadd (pc := 86) dX12_beside_86 ?_
        refine E_aload_n (pc := 87) dX12_beside_87 rfl ?_
        refine E_Vi (pc := 88) (d2 := D_X12_cells) (ci := 12) [] dX12_beside_88 ml_X12_179 mf_X12_cells im_X12_cells rfl rfl rfl (by decide) (Nat.le_of_ble_eq_true rfl) (Nat.le_of_ble_eq_true rfl) rfl (fun _ _ h => f_X12_cells_ok h) hf (fun v11 μ10 hf => ?_)
        refine E_icmp_ge (pc := 91) (tgt := 105) dX12_beside_91 (by decide) hf (fun hf => ?_) (fun hf => ?_)
        · refine E_iconst (pc := 105) (v := (-1 : Int32)) dX12_beside_105 (by decide) ?_
          exact E_iret (pc := 106) dX12_beside_106 rfl hf
        · refine E_iload_n (pc := 94) dX12_beside_94 rfl ?_
          refine E_aload_n (pc := 95) dX12_beside_95 rfl ?_
          refine E_getR (pc := 96) dX12_beside_96 fl_X12_9 hf (fun v12 hf => ?_)
          refine E_iconst (pc := 99) (v := (0 : Int32)) dX12_beside_99 (by decide) ?_
          refine E_iald (pc := 100) dX12_beside_100 hf (fun v13 hf => ?_)
          refine E_iadd (pc := 101) dX12_beside_101 ?_
          refine E_goto (pc := 102) (tgt := 106) dX12_beside_102 (by decide) ?_
          exact E_iret (pc := 106) dX12_beside_106 rfl hf
      · refine E_tswD (pc := 10) (tgt := 107) dX12_beside_10 (by have q0 : ¬ (x3).toInt = 0 := i32ne n10_0; have q1 : ¬ (x3).toInt = 1 := i32ne n10_1; have q2 : ¬ (x3).toInt = 2 := i32ne n10_2;  omega) (by decide) ?_
        refine E_iload_n (pc := 107) dX12_beside_107 rfl ?_
        refine E_if_le (pc := 108) (tgt := 117) dX12_beside_108 (by decide) hf (fun hf => ?_) (fun hf => ?_)
        · refine E_iconst (pc := 117) (v := (-1 : Int32)) dX12_beside_117 (by decide) ?_
          exact E_iret (pc := 118) dX12_beside_118 rfl hf
        · refine E_iload_n (pc := 111) dX12_beside_111 rfl ?_
          refine E_iconst (pc := 112) (v := (1 : Int32)) dX12_beside_112 (by decide) ?_
          refine E_isub (pc := 113) dX12_beside_113 ?_
          refine E_goto (pc := 114) (tgt := 118) dX12_beside_114 (by decide) ?_
          exact E_iret (pc := 118) dX12_beside_118 rfl hf
theorem dX12_lower_0 : decode cX12_lower 0 = .ok (.aload_n 0, 1) := by decide +kernel
theorem dX12_lower_1 : decode cX12_lower 1 = .ok (.iload_n 1, 1) := by decide +kernel
theorem dX12_lower_2 : decode cX12_lower 2 = .ok (.iload_n 2, 1) := by decide +kernel
theorem dX12_lower_3 : decode cX12_lower 3 = .ok (.invokevirtual 406, 3) := by decide +kernel
theorem dX12_lower_6 : decode cX12_lower 6 = .ok (.istore_n 3, 1) := by decide +kernel
theorem dX12_lower_7 : decode cX12_lower 7 = .ok (.iload_n 3, 1) := by decide +kernel
theorem dX12_lower_8 : decode cX12_lower 8 = .ok (.iconst (-1), 1) := by decide +kernel
theorem dX12_lower_9 : decode cX12_lower 9 = .ok (.if_icmp .eq 22, 3) := by decide +kernel
theorem dX12_lower_12 : decode cX12_lower 12 = .ok (.aload_n 0, 1) := by decide +kernel
theorem dX12_lower_13 : decode cX12_lower 13 = .ok (.getfield 13, 3) := by decide +kernel
theorem dX12_lower_16 : decode cX12_lower 16 = .ok (.iload_n 3, 1) := by decide +kernel
theorem dX12_lower_17 : decode cX12_lower 17 = .ok (.iaload, 1) := by decide +kernel
theorem dX12_lower_18 : decode cX12_lower 18 = .ok (.aload_n 0, 1) := by decide +kernel
theorem dX12_lower_19 : decode cX12_lower 19 = .ok (.getfield 13, 3) := by decide +kernel
theorem dX12_lower_22 : decode cX12_lower 22 = .ok (.iload_n 1, 1) := by decide +kernel
theorem dX12_lower_23 : decode cX12_lower 23 = .ok (.iaload, 1) := by decide +kernel
theorem dX12_lower_24 : decode cX12_lower 24 = .ok (.if_icmp .ge 7, 3) := by decide +kernel
theorem dX12_lower_27 : decode cX12_lower 27 = .ok (.iload_n 3, 1) := by decide +kernel
theorem dX12_lower_28 : decode cX12_lower 28 = .ok (.goto 4, 3) := by decide +kernel
theorem dX12_lower_31 : decode cX12_lower 31 = .ok (.iconst (-1), 1) := by decide +kernel
theorem dX12_lower_32 : decode cX12_lower 32 = .ok (.ireturn, 1) := by decide +kernel
abbrev D_X12_lower : Nat := 3
set_option maxRecDepth 100000 in
def f_X12_lower (μ0 : Mm) (a1 : Nat) (x2 : Int32) (x3 : Int32) : Option (Int32 × Mm) :=
 ((ob μ0 a1 12).bind fun _ =>
    (bd (f_X12_beside μ0 a1 x2 x3) fun v5 μ4 =>
    (nm v5 fun x6 =>
    (if x6 = (-1 : Int32) then
    (some ((-1 : Int32), μ4))
    else
    ((gR μ4 a1 12 2).bind fun v7 =>
    ((aI μ4 v7 0 x6).bind fun v8 =>
    ((gR μ4 a1 12 2).bind fun v9 =>
    ((aI μ4 v9 0 x2).bind fun v10 =>
    (if v10 ≤ v8 then
    (some ((-1 : Int32), μ4))
    else
    (some (x6, μ4)))))))))))
set_option maxHeartbeats 4000000 in
set_option maxRecDepth 100000 in
theorem f_X12_lower_ok {l : Launch} {G : GG} {μ0 : Mm} {a1 : Nat} {x2 : Int32} {x3 : Int32} {r : Int32} {μ' : Mm} (hf : f_X12_lower μ0 a1 x2 x3 = some (r, μ')) : EvM l G D_X12_lower yX12_lower cX12_lower 4 (some .int) [.ref a1, .int x2, .int x3] μ0 (some (.int r)) μ' := by
  show Ev l G D_X12_lower yX12_lower cX12_lower 4 (some .int) 0 [(0, .ref a1), (1, .int x2), (2, .int x3)] [] μ0 (some (.int r)) μ'
  unfold f_X12_lower at hf
  refine E_aload_n (pc := 0) dX12_lower_0 rfl ?_
  refine E_iload_n (pc := 1) dX12_lower_1 rfl ?_
  refine E_iload_n (pc := 2) dX12_lower_2 rfl ?_
  refine E_Vi (pc := 3) (d2 := D_X12_beside) (ci := 12) [.int x2, .int x3] dX12_lower_3 ml_X12_406 mf_X12_beside im_X12_beside rfl rfl rfl (by decide) (Nat.le_of_ble_eq_true rfl) (Nat.le_of_ble_eq_true rfl) rfl (fun _ _ h => f_X12_beside_ok h) hf (fun v5 μ4 hf => ?_)
  refine E_istore_n (pc := 6) (ls' := fun x6 => [(3, .int x6), (0, .ref a1), (1, .int x2), (2, .int x3)]) dX12_lower_6 (by decide) (fun _ => rfl) hf (fun x6 hf => ?_)
  refine E_iload_n (pc := 7) dX12_lower_7 rfl ?_
  refine E_iconst (pc := 8) (v := (-1 : Int32)) dX12_lower_8 (by decide) ?_
  refine E_icmp_eq (pc := 9) (tgt := 31) dX12_lower_9 (by decide) hf (fun hf => ?_) (fun hf => ?_)
  · refine E_iconst (pc := 31) (v := (-1 : Int32)) dX12_lower_31 (by decide) ?_
    exact E_iret (pc := 32) dX12_lower_32 rfl hf
  · refine E_aload_n (pc := 12) dX12_lower_12 rfl ?_
    refine E_getR (pc := 13) dX12_lower_13 fl_X12_13 hf (fun v7 hf => ?_)
    refine E_iload_n (pc := 16) dX12_lower_16 rfl ?_
    refine E_iald (pc := 17) dX12_lower_17 hf (fun v8 hf => ?_)
    refine E_aload_n (pc := 18) dX12_lower_18 rfl ?_
    refine E_getR (pc := 19) dX12_lower_19 fl_X12_13 hf (fun v9 hf => ?_)
    refine E_iload_n (pc := 22) dX12_lower_22 rfl ?_
    refine E_iald (pc := 23) dX12_lower_23 hf (fun v10 hf => ?_)
    refine E_icmp_ge (pc := 24) (tgt := 31) dX12_lower_24 (by decide) hf (fun hf => ?_) (fun hf => ?_)
    · refine E_iconst (pc := 31) (v := (-1 : Int32)) dX12_lower_31 (by decide) ?_
      exact E_iret (pc := 32) dX12_lower_32 rfl hf
    · refine E_iload_n (pc := 27) dX12_lower_27 rfl ?_
      refine E_goto (pc := 28) (tgt := 32) dX12_lower_28 (by decide) ?_
      exact E_iret (pc := 32) dX12_lower_32 rfl hf
theorem dX12_leadsTo_0 : decode cX12_leadsTo 0 = .ok (.iconst (-1), 1) := by decide +kernel
theorem dX12_leadsTo_1 : decode cX12_leadsTo 1 = .ok (.istore_n 2, 1) := by decide +kernel
theorem dX12_leadsTo_2 : decode cX12_leadsTo 2 = .ok (.iconst 0, 1) := by decide +kernel
theorem dX12_leadsTo_3 : decode cX12_leadsTo 3 = .ok (.istore_n 3, 1) := by decide +kernel
theorem dX12_leadsTo_4 : decode cX12_leadsTo 4 = .ok (.iload_n 3, 1) := by decide +kernel
theorem dX12_leadsTo_5 : decode cX12_leadsTo 5 = .ok (.iconst 4, 1) := by decide +kernel
theorem dX12_leadsTo_6 : decode cX12_leadsTo 6 = .ok (.if_icmp .ge 51, 3) := by decide +kernel
theorem dX12_leadsTo_9 : decode cX12_leadsTo 9 = .ok (.aload_n 0, 1) := by decide +kernel
theorem dX12_leadsTo_10 : decode cX12_leadsTo 10 = .ok (.iload_n 1, 1) := by decide +kernel
theorem dX12_leadsTo_11 : decode cX12_leadsTo 11 = .ok (.iload_n 3, 1) := by decide +kernel
theorem dX12_leadsTo_12 : decode cX12_leadsTo 12 = .ok (.invokevirtual 409, 3) := by decide +kernel
theorem dX12_leadsTo_15 : decode cX12_leadsTo 15 = .ok (.istore 4, 2) := by decide +kernel
theorem dX12_leadsTo_17 : decode cX12_leadsTo 17 = .ok (.iload 4, 2) := by decide +kernel
theorem dX12_leadsTo_19 : decode cX12_leadsTo 19 = .ok (.iconst (-1), 1) := by decide +kernel
theorem dX12_leadsTo_20 : decode cX12_leadsTo 20 = .ok (.if_icmp .eq 29, 3) := by decide +kernel
theorem dX12_leadsTo_23 : decode cX12_leadsTo 23 = .ok (.iload_n 2, 1) := by decide +kernel
theorem dX12_leadsTo_24 : decode cX12_leadsTo 24 = .ok (.iconst (-1), 1) := by decide +kernel
theorem dX12_leadsTo_25 : decode cX12_leadsTo 25 = .ok (.if_icmp .eq 19, 3) := by decide +kernel
theorem dX12_leadsTo_28 : decode cX12_leadsTo 28 = .ok (.aload_n 0, 1) := by decide +kernel
theorem dX12_leadsTo_29 : decode cX12_leadsTo 29 = .ok (.getfield 13, 3) := by decide +kernel
theorem dX12_leadsTo_32 : decode cX12_leadsTo 32 = .ok (.iload 4, 2) := by decide +kernel
theorem dX12_leadsTo_34 : decode cX12_leadsTo 34 = .ok (.iaload, 1) := by decide +kernel
theorem dX12_leadsTo_35 : decode cX12_leadsTo 35 = .ok (.aload_n 0, 1) := by decide +kernel
theorem dX12_leadsTo_36 : decode cX12_leadsTo 36 = .ok (.getfield 13, 3) := by decide +kernel
theorem dX12_leadsTo_39 : decode cX12_leadsTo 39 = .ok (.iload_n 2, 1) := by decide +kernel
theorem dX12_leadsTo_40 : decode cX12_leadsTo 40 = .ok (.iaload, 1) := by decide +kernel
theorem dX12_leadsTo_41 : decode cX12_leadsTo 41 = .ok (.if_icmp .ge 8, 3) := by decide +kernel
theorem dX12_leadsTo_44 : decode cX12_leadsTo 44 = .ok (.iload 4, 2) := by decide +kernel
theorem dX12_leadsTo_46 : decode cX12_leadsTo 46 = .ok (.goto 4, 3) := by decide +kernel
theorem dX12_leadsTo_49 : decode cX12_leadsTo 49 = .ok (.iload_n 2, 1) := by decide +kernel
theorem dX12_leadsTo_50 : decode cX12_leadsTo 50 = .ok (.istore_n 2, 1) := by decide +kernel
theorem dX12_leadsTo_51 : decode cX12_leadsTo 51 = .ok (.iinc 3 1, 3) := by decide +kernel
theorem dX12_leadsTo_54 : decode cX12_leadsTo 54 = .ok (.goto (-50), 3) := by decide +kernel
theorem dX12_leadsTo_57 : decode cX12_leadsTo 57 = .ok (.iload_n 2, 1) := by decide +kernel
theorem dX12_leadsTo_58 : decode cX12_leadsTo 58 = .ok (.ireturn, 1) := by decide +kernel
abbrev D_X12_leadsTo : Nat := 4
def f_X12_leadsTo_L4 (K57 : Mm → Int32 → Option (Int32 × Mm)) : Nat → Mm → Nat → Int32 → Int32 → Int32 → Option (Int32 × Mm)
  | 0, _, _, _, _, _ => none
  | n + 1, μ0, a5, x6, x7, x8 =>
    (if (4 : Int32) ≤ x8 then
    K57 μ0 x7
    else
    ((ob μ0 a5 12).bind fun _ =>
    (bd (f_X12_lower μ0 a5 x6 x8) fun v10 μ9 =>
    (nm v10 fun x11 =>
    (if x11 = (-1 : Int32) then
    (nm x7 fun x12 =>
    (nm (x8 + Int32.ofInt (1)) fun x13 =>
    f_X12_leadsTo_L4 K57 n μ9 a5 x6 x12 x13))
    else
    (if x7 = (-1 : Int32) then
    (nm x11 fun x14 =>
    (nm (x8 + Int32.ofInt (1)) fun x15 =>
    f_X12_leadsTo_L4 K57 n μ9 a5 x6 x14 x15))
    else
    ((gR μ9 a5 12 2).bind fun v16 =>
    ((aI μ9 v16 0 x11).bind fun v17 =>
    ((gR μ9 a5 12 2).bind fun v18 =>
    ((aI μ9 v18 0 x7).bind fun v19 =>
    (if v19 ≤ v17 then
    (nm x7 fun x20 =>
    (nm (x8 + Int32.ofInt (1)) fun x21 =>
    f_X12_leadsTo_L4 K57 n μ9 a5 x6 x20 x21))
    else
    (nm x11 fun x22 =>
    (nm (x8 + Int32.ofInt (1)) fun x23 =>
    f_X12_leadsTo_L4 K57 n μ9 a5 x6 x22 x23)))))))))))))
set_option maxHeartbeats 4000000 in
set_option maxRecDepth 100000 in
theorem f_X12_leadsTo_L4_ok {l : Launch} {G : GG} {K57 : Mm → Int32 → Option (Int32 × Mm)} {r : Int32} {μ' : Mm} (n : Nat) (μ0 : Mm) (a5 : Nat) (x6 : Int32) (x7 : Int32) (x8 : Int32) (hf : f_X12_leadsTo_L4 K57 n μ0 a5 x6 x7 x8 = some (r, μ')) (hK57 : ∀ (μ1 : Mm) (y2 : Int32), K57 μ1 y2 = some (r, μ') → Ev l G D_X12_leadsTo yX12_leadsTo cX12_leadsTo 5 (some .int) 57 [(2, .int y2)] [] μ1 (some (.int r)) μ') : Ev l G D_X12_leadsTo yX12_leadsTo cX12_leadsTo 5 (some .int) 4 [(0, .ref a5), (1, .int x6), (2, .int x7), (3, .int x8)] [] μ0 (some (.int r)) μ' := by
  induction n generalizing μ0 a5 x6 x7 x8 with
  | zero => cases hf
  | succ n ih0 =>
    have ih : ∀ (μ0 : Mm) (a5 : Nat) (x6 : Int32) (x7 : Int32) (x8 : Int32), f_X12_leadsTo_L4 K57 n μ0 a5 x6 x7 x8 = some (r, μ') → Ev l G D_X12_leadsTo yX12_leadsTo cX12_leadsTo 5 (some .int) 4 [(0, .ref a5), (1, .int x6), (2, .int x7), (3, .int x8)] [] μ0 (some (.int r)) μ' := fun μ0 a5 x6 x7 x8 hf => ih0 μ0 a5 x6 x7 x8 hf
    rw [f_X12_leadsTo_L4] at hf
    refine E_iload_n (pc := 4) dX12_leadsTo_4 rfl ?_
    refine E_iconst (pc := 5) (v := (4 : Int32)) dX12_leadsTo_5 (by decide) ?_
    refine E_icmp_ge (pc := 6) (tgt := 57) dX12_leadsTo_6 (by decide) hf (fun hf => ?_) (fun hf => ?_)
    · refine Ev.sub [2] rfl ?_
      exact hK57 _ _ hf
    · refine E_aload_n (pc := 9) dX12_leadsTo_9 rfl ?_
      refine E_iload_n (pc := 10) dX12_leadsTo_10 rfl ?_
      refine E_iload_n (pc := 11) dX12_leadsTo_11 rfl ?_
      refine E_Vi (pc := 12) (d2 := D_X12_lower) (ci := 12) [.int x6, .int x8] dX12_leadsTo_12 ml_X12_409 mf_X12_lower im_X12_lower rfl rfl rfl (by decide) (Nat.le_of_ble_eq_true rfl) (Nat.le_of_ble_eq_true rfl) rfl (fun _ _ h => f_X12_lower_ok h) hf (fun v10 μ9 hf => ?_)
      refine E_istore (pc := 15) (ls' := fun x11 => [(4, .int x11), (0, .ref a5), (1, .int x6), (2, .int x7), (3, .int x8)]) dX12_leadsTo_15 (by decide) (fun _ => rfl) hf (fun x11 hf => ?_)
      refine E_iload (pc := 17) dX12_leadsTo_17 rfl ?_
      refine E_iconst (pc := 19) (v := (-1 : Int32)) dX12_leadsTo_19 (by decide) ?_
      refine E_icmp_eq (pc := 20) (tgt := 49) dX12_leadsTo_20 (by decide) hf (fun hf => ?_) (fun hf => ?_)
      · refine E_iload_n (pc := 49) dX12_leadsTo_49 rfl ?_
        refine E_istore_n (pc := 50) (ls' := fun x12 => [(2, .int x12), (4, .int x11), (0, .ref a5), (1, .int x6), (3, .int x8)]) dX12_leadsTo_50 (by decide) (fun _ => rfl) hf (fun x12 hf => ?_)
        refine E_iinc (pc := 51) (ls' := fun x13 => [(3, .int x13), (2, .int x12), (4, .int x11), (0, .ref a5), (1, .int x6)]) dX12_leadsTo_51 rfl (by decide) (fun _ => rfl) hf (fun x13 hf => ?_)
        refine E_goto (pc := 54) (tgt := 4) dX12_leadsTo_54 (by decide) ?_
        refine Ev.sub [3, 4, 1, 0] rfl ?_
        exact ih _ _ _ _ _ hf
      · refine E_iload_n (pc := 23) dX12_leadsTo_23 rfl ?_
        refine E_iconst (pc := 24) (v := (-1 : Int32)) dX12_leadsTo_24 (by decide) ?_
        refine E_icmp_eq (pc := 25) (tgt := 44) dX12_leadsTo_25 (by decide) hf (fun hf => ?_) (fun hf => ?_)
        · refine E_iload (pc := 44) dX12_leadsTo_44 rfl ?_
          refine E_goto (pc := 46) (tgt := 50) dX12_leadsTo_46 (by decide) ?_
          refine E_istore_n (pc := 50) (ls' := fun x14 => [(2, .int x14), (4, .int x11), (0, .ref a5), (1, .int x6), (3, .int x8)]) dX12_leadsTo_50 (by decide) (fun _ => rfl) hf (fun x14 hf => ?_)
          refine E_iinc (pc := 51) (ls' := fun x15 => [(3, .int x15), (2, .int x14), (4, .int x11), (0, .ref a5), (1, .int x6)]) dX12_leadsTo_51 rfl (by decide) (fun _ => rfl) hf (fun x15 hf => ?_)
          refine E_goto (pc := 54) (tgt := 4) dX12_leadsTo_54 (by decide) ?_
          refine Ev.sub [3, 4, 1, 0] rfl ?_
          exact ih _ _ _ _ _ hf
        · refine E_aload_n (pc := 28) dX12_leadsTo_28 rfl ?_
          refine E_getR (pc := 29) dX12_leadsTo_29 fl_X12_13 hf (fun v16 hf => ?_)
          refine E_iload (pc := 32) dX12_leadsTo_32 rfl ?_
          refine E_iald (pc := 34) dX12_leadsTo_34 hf (fun v17 hf => ?_)
          refine E_aload_n (pc := 35) dX12_leadsTo_35 rfl ?_
          refine E_getR (pc := 36) dX12_leadsTo_36 fl_X12_13 hf (fun v18 hf => ?_)
          refine E_iload_n (pc := 39) dX12_leadsTo_39 rfl ?_
          refine E_iald (pc := 40) dX12_leadsTo_40 hf (fun v19 hf => ?_)
          refine E_icmp_ge (pc := 41) (tgt := 49) dX12_leadsTo_41 (by decide) hf (fun hf => ?_) (fun hf => ?_)
          · refine E_iload_n (pc := 49) dX12_leadsTo_49 rfl ?_
            refine E_istore_n (pc := 50) (ls' := fun x20 => [(2, .int x20), (4, .int x11), (0, .ref a5), (1, .int x6), (3, .int x8)]) dX12_leadsTo_50 (by decide) (fun _ => rfl) hf (fun x20 hf => ?_)
            refine E_iinc (pc := 51) (ls' := fun x21 => [(3, .int x21), (2, .int x20), (4, .int x11), (0, .ref a5), (1, .int x6)]) dX12_leadsTo_51 rfl (by decide) (fun _ => rfl) hf (fun x21 hf => ?_)
            refine E_goto (pc := 54) (tgt := 4) dX12_leadsTo_54 (by decide) ?_
            refine Ev.sub [3, 4, 1, 0] rfl ?_
            exact ih _ _ _ _ _ hf
          · refine E_iload (pc := 44) dX12_leadsTo_44 rfl ?_
            refine E_goto (pc := 46) (tgt := 50) dX12_leadsTo_46 (by decide) ?_
            refine E_istore_n (pc := 50) (ls' := fun x22 => [(2, .int x22), (4, .int x11), (0, .ref a5), (1, .int x6), (3, .int x8)]) dX12_leadsTo_50 (by decide) (fun _ => rfl) hf (fun x22 hf => ?_)
            refine E_iinc (pc := 51) (ls' := fun x23 => [(3, .int x23), (2, .int x22), (4, .int x11), (0, .ref a5), (1, .int x6)]) dX12_leadsTo_51 rfl (by decide) (fun _ => rfl) hf (fun x23 hf => ?_)
            refine E_goto (pc := 54) (tgt := 4) dX12_leadsTo_54 (by decide) ?_
            refine Ev.sub [3, 4, 1, 0] rfl ?_
            exact ih _ _ _ _ _ hf
set_option maxRecDepth 100000 in
def f_X12_leadsTo (μ0 : Mm) (a1 : Nat) (x2 : Int32) : Option (Int32 × Mm) :=
 (nm (-1 : Int32) fun x3 =>
    (nm (0 : Int32) fun x4 =>
    f_X12_leadsTo_L4 (fun μ24 x25 =>
    (some (x25, μ24))) FU μ0 a1 x2 x3 x4))
set_option maxHeartbeats 4000000 in
set_option maxRecDepth 100000 in
theorem f_X12_leadsTo_ok {l : Launch} {G : GG} {μ0 : Mm} {a1 : Nat} {x2 : Int32} {r : Int32} {μ' : Mm} (hf : f_X12_leadsTo μ0 a1 x2 = some (r, μ')) : EvM l G D_X12_leadsTo yX12_leadsTo cX12_leadsTo 5 (some .int) [.ref a1, .int x2] μ0 (some (.int r)) μ' := by
  show Ev l G D_X12_leadsTo yX12_leadsTo cX12_leadsTo 5 (some .int) 0 [(0, .ref a1), (1, .int x2)] [] μ0 (some (.int r)) μ'
  unfold f_X12_leadsTo at hf
  refine E_iconst (pc := 0) (v := (-1 : Int32)) dX12_leadsTo_0 (by decide) ?_
  refine E_istore_n (pc := 1) (ls' := fun x3 => [(2, .int x3), (0, .ref a1), (1, .int x2)]) dX12_leadsTo_1 (by decide) (fun _ => rfl) hf (fun x3 hf => ?_)
  refine E_iconst (pc := 2) (v := (0 : Int32)) dX12_leadsTo_2 (by decide) ?_
  refine E_istore_n (pc := 3) (ls' := fun x4 => [(3, .int x4), (2, .int x3), (0, .ref a1), (1, .int x2)]) dX12_leadsTo_3 (by decide) (fun _ => rfl) hf (fun x4 hf => ?_)
  refine Ev.sub [2, 3, 1, 0] rfl ?_
  refine f_X12_leadsTo_L4_ok  _ _ _ _ _ _ hf (fun μ24 x25 hf => ?_)
  · refine E_iload_n (pc := 57) dX12_leadsTo_57 rfl ?_
    exact E_iret (pc := 58) dX12_leadsTo_58 rfl hf
theorem dX12_endOf_0 : decode cX12_endOf 0 = .ok (.iload_n 1, 1) := by decide +kernel
theorem dX12_endOf_1 : decode cX12_endOf 1 = .ok (.istore_n 2, 1) := by decide +kernel
theorem dX12_endOf_2 : decode cX12_endOf 2 = .ok (.aload_n 0, 1) := by decide +kernel
theorem dX12_endOf_3 : decode cX12_endOf 3 = .ok (.iload_n 2, 1) := by decide +kernel
theorem dX12_endOf_4 : decode cX12_endOf 4 = .ok (.invokevirtual 412, 3) := by decide +kernel
theorem dX12_endOf_7 : decode cX12_endOf 7 = .ok (.iconst (-1), 1) := by decide +kernel
theorem dX12_endOf_8 : decode cX12_endOf 8 = .ok (.if_icmp .eq 12, 3) := by decide +kernel
theorem dX12_endOf_11 : decode cX12_endOf 11 = .ok (.aload_n 0, 1) := by decide +kernel
theorem dX12_endOf_12 : decode cX12_endOf 12 = .ok (.iload_n 2, 1) := by decide +kernel
theorem dX12_endOf_13 : decode cX12_endOf 13 = .ok (.invokevirtual 412, 3) := by decide +kernel
theorem dX12_endOf_16 : decode cX12_endOf 16 = .ok (.istore_n 2, 1) := by decide +kernel
theorem dX12_endOf_17 : decode cX12_endOf 17 = .ok (.goto (-15), 3) := by decide +kernel
theorem dX12_endOf_20 : decode cX12_endOf 20 = .ok (.iload_n 2, 1) := by decide +kernel
theorem dX12_endOf_21 : decode cX12_endOf 21 = .ok (.ireturn, 1) := by decide +kernel
abbrev D_X12_endOf : Nat := 5
def f_X12_endOf_L2 (K20 : Mm → Int32 → Option (Int32 × Mm)) : Nat → Mm → Nat → Int32 → Option (Int32 × Mm)
  | 0, _, _, _ => none
  | n + 1, μ0, a4, x5 =>
    ((ob μ0 a4 12).bind fun _ =>
    (bd (f_X12_leadsTo μ0 a4 x5) fun v7 μ6 =>
    (if v7 = (-1 : Int32) then
    K20 μ6 x5
    else
    ((ob μ6 a4 12).bind fun _ =>
    (bd (f_X12_leadsTo μ6 a4 x5) fun v9 μ8 =>
    (nm v9 fun x10 =>
    f_X12_endOf_L2 K20 n μ8 a4 x10))))))
set_option maxHeartbeats 4000000 in
set_option maxRecDepth 100000 in
theorem f_X12_endOf_L2_ok {l : Launch} {G : GG} {K20 : Mm → Int32 → Option (Int32 × Mm)} {r : Int32} {μ' : Mm} (n : Nat) (μ0 : Mm) (a4 : Nat) (x5 : Int32) (hf : f_X12_endOf_L2 K20 n μ0 a4 x5 = some (r, μ')) (hK20 : ∀ (μ1 : Mm) (y2 : Int32), K20 μ1 y2 = some (r, μ') → Ev l G D_X12_endOf yX12_endOf cX12_endOf 3 (some .int) 20 [(2, .int y2)] [] μ1 (some (.int r)) μ') : Ev l G D_X12_endOf yX12_endOf cX12_endOf 3 (some .int) 2 [(0, .ref a4), (2, .int x5)] [] μ0 (some (.int r)) μ' := by
  induction n generalizing μ0 a4 x5 with
  | zero => cases hf
  | succ n ih0 =>
    have ih : ∀ (μ0 : Mm) (a4 : Nat) (x5 : Int32), f_X12_endOf_L2 K20 n μ0 a4 x5 = some (r, μ') → Ev l G D_X12_endOf yX12_endOf cX12_endOf 3 (some .int) 2 [(0, .ref a4), (2, .int x5)] [] μ0 (some (.int r)) μ' := fun μ0 a4 x5 hf => ih0 μ0 a4 x5 hf
    rw [f_X12_endOf_L2] at hf
    refine E_aload_n (pc := 2) dX12_endOf_2 rfl ?_
    refine E_iload_n (pc := 3) dX12_endOf_3 rfl ?_
    refine E_Vi (pc := 4) (d2 := D_X12_leadsTo) (ci := 12) [.int x5] dX12_endOf_4 ml_X12_412 mf_X12_leadsTo im_X12_leadsTo rfl rfl rfl (by decide) (Nat.le_of_ble_eq_true rfl) (Nat.le_of_ble_eq_true rfl) rfl (fun _ _ h => f_X12_leadsTo_ok h) hf (fun v7 μ6 hf => ?_)
    refine E_iconst (pc := 7) (v := (-1 : Int32)) dX12_endOf_7 (by decide) ?_
    refine E_icmp_eq (pc := 8) (tgt := 20) dX12_endOf_8 (by decide) hf (fun hf => ?_) (fun hf => ?_)
    · refine Ev.sub [1] rfl ?_
      exact hK20 _ _ hf
    · refine E_aload_n (pc := 11) dX12_endOf_11 rfl ?_
      refine E_iload_n (pc := 12) dX12_endOf_12 rfl ?_
      refine E_Vi (pc := 13) (d2 := D_X12_leadsTo) (ci := 12) [.int x5] dX12_endOf_13 ml_X12_412 mf_X12_leadsTo im_X12_leadsTo rfl rfl rfl (by decide) (Nat.le_of_ble_eq_true rfl) (Nat.le_of_ble_eq_true rfl) rfl (fun _ _ h => f_X12_leadsTo_ok h) hf (fun v9 μ8 hf => ?_)
      refine E_istore_n (pc := 16) (ls' := fun x10 => [(2, .int x10), (0, .ref a4)]) dX12_endOf_16 (by decide) (fun _ => rfl) hf (fun x10 hf => ?_)
      refine E_goto (pc := 17) (tgt := 2) dX12_endOf_17 (by decide) ?_
      refine Ev.sub [1, 0] rfl ?_
      exact ih _ _ _ hf
set_option maxRecDepth 100000 in
def f_X12_endOf (μ0 : Mm) (a1 : Nat) (x2 : Int32) : Option (Int32 × Mm) :=
 (nm x2 fun x3 =>
    f_X12_endOf_L2 (fun μ11 x12 =>
    (some (x12, μ11))) FU μ0 a1 x3)
set_option maxHeartbeats 4000000 in
set_option maxRecDepth 100000 in
theorem f_X12_endOf_ok {l : Launch} {G : GG} {μ0 : Mm} {a1 : Nat} {x2 : Int32} {r : Int32} {μ' : Mm} (hf : f_X12_endOf μ0 a1 x2 = some (r, μ')) : EvM l G D_X12_endOf yX12_endOf cX12_endOf 3 (some .int) [.ref a1, .int x2] μ0 (some (.int r)) μ' := by
  show Ev l G D_X12_endOf yX12_endOf cX12_endOf 3 (some .int) 0 [(0, .ref a1), (1, .int x2)] [] μ0 (some (.int r)) μ'
  unfold f_X12_endOf at hf
  refine E_iload_n (pc := 0) dX12_endOf_0 rfl ?_
  refine E_istore_n (pc := 1) (ls' := fun x3 => [(2, .int x3), (0, .ref a1), (1, .int x2)]) dX12_endOf_1 (by decide) (fun _ => rfl) hf (fun x3 hf => ?_)
  refine Ev.sub [1, 0] rfl ?_
  refine f_X12_endOf_L2_ok  _ _ _ _ hf (fun μ11 x12 hf => ?_)
  · refine E_iload_n (pc := 20) dX12_endOf_20 rfl ?_
    exact E_iret (pc := 21) dX12_endOf_21 rfl hf
theorem dX12_stepsOf_0 : decode cX12_stepsOf 0 = .ok (.iconst 0, 1) := by decide +kernel
theorem dX12_stepsOf_1 : decode cX12_stepsOf 1 = .ok (.istore_n 2, 1) := by decide +kernel
theorem dX12_stepsOf_2 : decode cX12_stepsOf 2 = .ok (.iload_n 1, 1) := by decide +kernel
theorem dX12_stepsOf_3 : decode cX12_stepsOf 3 = .ok (.istore_n 3, 1) := by decide +kernel
theorem dX12_stepsOf_4 : decode cX12_stepsOf 4 = .ok (.aload_n 0, 1) := by decide +kernel
theorem dX12_stepsOf_5 : decode cX12_stepsOf 5 = .ok (.iload_n 3, 1) := by decide +kernel
theorem dX12_stepsOf_6 : decode cX12_stepsOf 6 = .ok (.invokevirtual 412, 3) := by decide +kernel
theorem dX12_stepsOf_9 : decode cX12_stepsOf 9 = .ok (.iconst (-1), 1) := by decide +kernel
theorem dX12_stepsOf_10 : decode cX12_stepsOf 10 = .ok (.if_icmp .eq 15, 3) := by decide +kernel
theorem dX12_stepsOf_13 : decode cX12_stepsOf 13 = .ok (.aload_n 0, 1) := by decide +kernel
theorem dX12_stepsOf_14 : decode cX12_stepsOf 14 = .ok (.iload_n 3, 1) := by decide +kernel
theorem dX12_stepsOf_15 : decode cX12_stepsOf 15 = .ok (.invokevirtual 412, 3) := by decide +kernel
theorem dX12_stepsOf_18 : decode cX12_stepsOf 18 = .ok (.istore_n 3, 1) := by decide +kernel
theorem dX12_stepsOf_19 : decode cX12_stepsOf 19 = .ok (.iinc 2 1, 3) := by decide +kernel
theorem dX12_stepsOf_22 : decode cX12_stepsOf 22 = .ok (.goto (-18), 3) := by decide +kernel
theorem dX12_stepsOf_25 : decode cX12_stepsOf 25 = .ok (.iload_n 2, 1) := by decide +kernel
theorem dX12_stepsOf_26 : decode cX12_stepsOf 26 = .ok (.ireturn, 1) := by decide +kernel
abbrev D_X12_stepsOf : Nat := 5
def f_X12_stepsOf_L4 (K25 : Mm → Int32 → Option (Int32 × Mm)) : Nat → Mm → Nat → Int32 → Int32 → Option (Int32 × Mm)
  | 0, _, _, _, _ => none
  | n + 1, μ0, a5, x6, x7 =>
    ((ob μ0 a5 12).bind fun _ =>
    (bd (f_X12_leadsTo μ0 a5 x7) fun v9 μ8 =>
    (if v9 = (-1 : Int32) then
    K25 μ8 x6
    else
    ((ob μ8 a5 12).bind fun _ =>
    (bd (f_X12_leadsTo μ8 a5 x7) fun v11 μ10 =>
    (nm v11 fun x12 =>
    (nm (x6 + Int32.ofInt (1)) fun x13 =>
    f_X12_stepsOf_L4 K25 n μ10 a5 x13 x12)))))))
set_option maxHeartbeats 4000000 in
set_option maxRecDepth 100000 in
theorem f_X12_stepsOf_L4_ok {l : Launch} {G : GG} {K25 : Mm → Int32 → Option (Int32 × Mm)} {r : Int32} {μ' : Mm} (n : Nat) (μ0 : Mm) (a5 : Nat) (x6 : Int32) (x7 : Int32) (hf : f_X12_stepsOf_L4 K25 n μ0 a5 x6 x7 = some (r, μ')) (hK25 : ∀ (μ1 : Mm) (y2 : Int32), K25 μ1 y2 = some (r, μ') → Ev l G D_X12_stepsOf yX12_stepsOf cX12_stepsOf 4 (some .int) 25 [(2, .int y2)] [] μ1 (some (.int r)) μ') : Ev l G D_X12_stepsOf yX12_stepsOf cX12_stepsOf 4 (some .int) 4 [(0, .ref a5), (2, .int x6), (3, .int x7)] [] μ0 (some (.int r)) μ' := by
  induction n generalizing μ0 a5 x6 x7 with
  | zero => cases hf
  | succ n ih0 =>
    have ih : ∀ (μ0 : Mm) (a5 : Nat) (x6 : Int32) (x7 : Int32), f_X12_stepsOf_L4 K25 n μ0 a5 x6 x7 = some (r, μ') → Ev l G D_X12_stepsOf yX12_stepsOf cX12_stepsOf 4 (some .int) 4 [(0, .ref a5), (2, .int x6), (3, .int x7)] [] μ0 (some (.int r)) μ' := fun μ0 a5 x6 x7 hf => ih0 μ0 a5 x6 x7 hf
    rw [f_X12_stepsOf_L4] at hf
    refine E_aload_n (pc := 4) dX12_stepsOf_4 rfl ?_
    refine E_iload_n (pc := 5) dX12_stepsOf_5 rfl ?_
    refine E_Vi (pc := 6) (d2 := D_X12_leadsTo) (ci := 12) [.int x7] dX12_stepsOf_6 ml_X12_412 mf_X12_leadsTo im_X12_leadsTo rfl rfl rfl (by decide) (Nat.le_of_ble_eq_true rfl) (Nat.le_of_ble_eq_true rfl) rfl (fun _ _ h => f_X12_leadsTo_ok h) hf (fun v9 μ8 hf => ?_)
    refine E_iconst (pc := 9) (v := (-1 : Int32)) dX12_stepsOf_9 (by decide) ?_
    refine E_icmp_eq (pc := 10) (tgt := 25) dX12_stepsOf_10 (by decide) hf (fun hf => ?_) (fun hf => ?_)
    · refine Ev.sub [1] rfl ?_
      exact hK25 _ _ hf
    · refine E_aload_n (pc := 13) dX12_stepsOf_13 rfl ?_
      refine E_iload_n (pc := 14) dX12_stepsOf_14 rfl ?_
      refine E_Vi (pc := 15) (d2 := D_X12_leadsTo) (ci := 12) [.int x7] dX12_stepsOf_15 ml_X12_412 mf_X12_leadsTo im_X12_leadsTo rfl rfl rfl (by decide) (Nat.le_of_ble_eq_true rfl) (Nat.le_of_ble_eq_true rfl) rfl (fun _ _ h => f_X12_leadsTo_ok h) hf (fun v11 μ10 hf => ?_)
      refine E_istore_n (pc := 18) (ls' := fun x12 => [(3, .int x12), (0, .ref a5), (2, .int x6)]) dX12_stepsOf_18 (by decide) (fun _ => rfl) hf (fun x12 hf => ?_)
      refine E_iinc (pc := 19) (ls' := fun x13 => [(2, .int x13), (3, .int x12), (0, .ref a5)]) dX12_stepsOf_19 rfl (by decide) (fun _ => rfl) hf (fun x13 hf => ?_)
      refine E_goto (pc := 22) (tgt := 4) dX12_stepsOf_22 (by decide) ?_
      refine Ev.sub [2, 0, 1] rfl ?_
      exact ih _ _ _ _ hf
set_option maxRecDepth 100000 in
def f_X12_stepsOf (μ0 : Mm) (a1 : Nat) (x2 : Int32) : Option (Int32 × Mm) :=
 (nm (0 : Int32) fun x3 =>
    (nm x2 fun x4 =>
    f_X12_stepsOf_L4 (fun μ14 x15 =>
    (some (x15, μ14))) FU μ0 a1 x3 x4))
set_option maxHeartbeats 4000000 in
set_option maxRecDepth 100000 in
theorem f_X12_stepsOf_ok {l : Launch} {G : GG} {μ0 : Mm} {a1 : Nat} {x2 : Int32} {r : Int32} {μ' : Mm} (hf : f_X12_stepsOf μ0 a1 x2 = some (r, μ')) : EvM l G D_X12_stepsOf yX12_stepsOf cX12_stepsOf 4 (some .int) [.ref a1, .int x2] μ0 (some (.int r)) μ' := by
  show Ev l G D_X12_stepsOf yX12_stepsOf cX12_stepsOf 4 (some .int) 0 [(0, .ref a1), (1, .int x2)] [] μ0 (some (.int r)) μ'
  unfold f_X12_stepsOf at hf
  refine E_iconst (pc := 0) (v := (0 : Int32)) dX12_stepsOf_0 (by decide) ?_
  refine E_istore_n (pc := 1) (ls' := fun x3 => [(2, .int x3), (0, .ref a1), (1, .int x2)]) dX12_stepsOf_1 (by decide) (fun _ => rfl) hf (fun x3 hf => ?_)
  refine E_iload_n (pc := 2) dX12_stepsOf_2 rfl ?_
  refine E_istore_n (pc := 3) (ls' := fun x4 => [(3, .int x4), (2, .int x3), (0, .ref a1), (1, .int x2)]) dX12_stepsOf_3 (by decide) (fun _ => rfl) hf (fun x4 hf => ?_)
  refine Ev.sub [2, 1, 0] rfl ?_
  refine f_X12_stepsOf_L4_ok  _ _ _ _ _ hf (fun μ14 x15 hf => ?_)
  · refine E_iload_n (pc := 25) dX12_stepsOf_25 rfl ?_
    exact E_iret (pc := 26) dX12_stepsOf_26 rfl hf
theorem dX12_othersIn_0 : decode cX12_othersIn 0 = .ok (.iconst 0, 1) := by decide +kernel
theorem dX12_othersIn_1 : decode cX12_othersIn 1 = .ok (.istore_n 3, 1) := by decide +kernel
theorem dX12_othersIn_2 : decode cX12_othersIn 2 = .ok (.iconst 0, 1) := by decide +kernel
theorem dX12_othersIn_3 : decode cX12_othersIn 3 = .ok (.istore 4, 2) := by decide +kernel
theorem dX12_othersIn_5 : decode cX12_othersIn 5 = .ok (.iload 4, 2) := by decide +kernel
theorem dX12_othersIn_7 : decode cX12_othersIn 7 = .ok (.aload_n 0, 1) := by decide +kernel
theorem dX12_othersIn_8 : decode cX12_othersIn 8 = .ok (.getfield 9, 3) := by decide +kernel
theorem dX12_othersIn_11 : decode cX12_othersIn 11 = .ok (.iconst 2, 1) := by decide +kernel
theorem dX12_othersIn_12 : decode cX12_othersIn 12 = .ok (.iaload, 1) := by decide +kernel
theorem dX12_othersIn_13 : decode cX12_othersIn 13 = .ok (.if_icmp .ge 34, 3) := by decide +kernel
theorem dX12_othersIn_16 : decode cX12_othersIn 16 = .ok (.iload_n 3, 1) := by decide +kernel
theorem dX12_othersIn_17 : decode cX12_othersIn 17 = .ok (.iload 4, 2) := by decide +kernel
theorem dX12_othersIn_19 : decode cX12_othersIn 19 = .ok (.iload_n 2, 1) := by decide +kernel
theorem dX12_othersIn_20 : decode cX12_othersIn 20 = .ok (.if_icmp .eq 18, 3) := by decide +kernel
theorem dX12_othersIn_23 : decode cX12_othersIn 23 = .ok (.aload_n 0, 1) := by decide +kernel
theorem dX12_othersIn_24 : decode cX12_othersIn 24 = .ok (.getfield 16, 3) := by decide +kernel
theorem dX12_othersIn_27 : decode cX12_othersIn 27 = .ok (.iload 4, 2) := by decide +kernel
theorem dX12_othersIn_29 : decode cX12_othersIn 29 = .ok (.iaload, 1) := by decide +kernel
theorem dX12_othersIn_30 : decode cX12_othersIn 30 = .ok (.iload_n 1, 1) := by decide +kernel
theorem dX12_othersIn_31 : decode cX12_othersIn 31 = .ok (.if_icmp .ne 7, 3) := by decide +kernel
theorem dX12_othersIn_34 : decode cX12_othersIn 34 = .ok (.iconst 1, 1) := by decide +kernel
theorem dX12_othersIn_35 : decode cX12_othersIn 35 = .ok (.goto 4, 3) := by decide +kernel
theorem dX12_othersIn_38 : decode cX12_othersIn 38 = .ok (.iconst 0, 1) := by decide +kernel
theorem dX12_othersIn_39 : decode cX12_othersIn 39 = .ok (.iadd, 1) := by decide +kernel
theorem dX12_othersIn_40 : decode cX12_othersIn 40 = .ok (.istore_n 3, 1) := by decide +kernel
theorem dX12_othersIn_41 : decode cX12_othersIn 41 = .ok (.iinc 4 1, 3) := by decide +kernel
theorem dX12_othersIn_44 : decode cX12_othersIn 44 = .ok (.goto (-39), 3) := by decide +kernel
theorem dX12_othersIn_47 : decode cX12_othersIn 47 = .ok (.iload_n 3, 1) := by decide +kernel
theorem dX12_othersIn_48 : decode cX12_othersIn 48 = .ok (.ireturn, 1) := by decide +kernel
abbrev D_X12_othersIn : Nat := 1
def f_X12_othersIn_L5 (K47 : Mm → Int32 → Option (Int32 × Mm)) : Nat → Mm → Nat → Int32 → Int32 → Int32 → Int32 → Option (Int32 × Mm)
  | 0, _, _, _, _, _, _ => none
  | n + 1, μ0, a6, x7, x8, x9, x10 =>
    ((gR μ0 a6 12 1).bind fun v11 =>
    ((aI μ0 v11 0 (2 : Int32)).bind fun v12 =>
    (if v12 ≤ x10 then
    K47 μ0 x9
    else
    (if x10 = x8 then
    (nm (x9 + (0 : Int32)) fun x13 =>
    (nm (x10 + Int32.ofInt (1)) fun x14 =>
    f_X12_othersIn_L5 K47 n μ0 a6 x7 x8 x13 x14))
    else
    ((gR μ0 a6 12 3).bind fun v15 =>
    ((aI μ0 v15 0 x10).bind fun v16 =>
    (if v16 = x7 then
    (nm (x9 + (1 : Int32)) fun x17 =>
    (nm (x10 + Int32.ofInt (1)) fun x18 =>
    f_X12_othersIn_L5 K47 n μ0 a6 x7 x8 x17 x18))
    else
    (nm (x9 + (0 : Int32)) fun x19 =>
    (nm (x10 + Int32.ofInt (1)) fun x20 =>
    f_X12_othersIn_L5 K47 n μ0 a6 x7 x8 x19 x20)))))))))
set_option maxHeartbeats 4000000 in
set_option maxRecDepth 100000 in
theorem f_X12_othersIn_L5_ok {l : Launch} {G : GG} {K47 : Mm → Int32 → Option (Int32 × Mm)} {r : Int32} {μ' : Mm} (n : Nat) (μ0 : Mm) (a6 : Nat) (x7 : Int32) (x8 : Int32) (x9 : Int32) (x10 : Int32) (hf : f_X12_othersIn_L5 K47 n μ0 a6 x7 x8 x9 x10 = some (r, μ')) (hK47 : ∀ (μ1 : Mm) (y3 : Int32), K47 μ1 y3 = some (r, μ') → Ev l G D_X12_othersIn yX12_othersIn cX12_othersIn 5 (some .int) 47 [(3, .int y3)] [] μ1 (some (.int r)) μ') : Ev l G D_X12_othersIn yX12_othersIn cX12_othersIn 5 (some .int) 5 [(0, .ref a6), (1, .int x7), (2, .int x8), (3, .int x9), (4, .int x10)] [] μ0 (some (.int r)) μ' := by
  induction n generalizing μ0 a6 x7 x8 x9 x10 with
  | zero => cases hf
  | succ n ih0 =>
    have ih : ∀ (μ0 : Mm) (a6 : Nat) (x7 : Int32) (x8 : Int32) (x9 : Int32) (x10 : Int32), f_X12_othersIn_L5 K47 n μ0 a6 x7 x8 x9 x10 = some (r, μ') → Ev l G D_X12_othersIn yX12_othersIn cX12_othersIn 5 (some .int) 5 [(0, .ref a6), (1, .int x7), (2, .int x8), (3, .int x9), (4, .int x10)] [] μ0 (some (.int r)) μ' := fun μ0 a6 x7 x8 x9 x10 hf => ih0 μ0 a6 x7 x8 x9 x10 hf
    rw [f_X12_othersIn_L5] at hf
    refine E_iload (pc := 5) dX12_othersIn_5 rfl ?_
    refine E_aload_n (pc := 7) dX12_othersIn_7 rfl ?_
    refine E_getR (pc := 8) dX12_othersIn_8 fl_X12_9 hf (fun v11 hf => ?_)
    refine E_iconst (pc := 11) (v := (2 : Int32)) dX12_othersIn_11 (by decide) ?_
    refine E_iald (pc := 12) dX12_othersIn_12 hf (fun v12 hf => ?_)
    refine E_icmp_ge (pc := 13) (tgt := 47) dX12_othersIn_13 (by decide) hf (fun hf => ?_) (fun hf => ?_)
    · refine Ev.sub [3] rfl ?_
      exact hK47 _ _ hf
    · refine E_iload_n (pc := 16) dX12_othersIn_16 rfl ?_
      refine E_iload (pc := 17) dX12_othersIn_17 rfl ?_
      refine E_iload_n (pc := 19) dX12_othersIn_19 rfl ?_
      refine E_icmp_eq (pc := 20) (tgt := 38) dX12_othersIn_20 (by decide) hf (fun hf => ?_) (fun hf => ?_)
      · refine E_iconst (pc := 38) (v := (0 : Int32)) dX12_othersIn_38 (by decide) ?_
        refine E_iadd (pc := 39) dX12_othersIn_39 ?_
        refine E_istore_n (pc := 40) (ls' := fun x13 => [(3, .int x13), (0, .ref a6), (1, .int x7), (2, .int x8), (4, .int x10)]) dX12_othersIn_40 (by decide) (fun _ => rfl) hf (fun x13 hf => ?_)
        refine E_iinc (pc := 41) (ls' := fun x14 => [(4, .int x14), (3, .int x13), (0, .ref a6), (1, .int x7), (2, .int x8)]) dX12_othersIn_41 rfl (by decide) (fun _ => rfl) hf (fun x14 hf => ?_)
        refine E_goto (pc := 44) (tgt := 5) dX12_othersIn_44 (by decide) ?_
        refine Ev.sub [2, 3, 4, 1, 0] rfl ?_
        exact ih _ _ _ _ _ _ hf
      · refine E_aload_n (pc := 23) dX12_othersIn_23 rfl ?_
        refine E_getR (pc := 24) dX12_othersIn_24 fl_X12_16 hf (fun v15 hf => ?_)
        refine E_iload (pc := 27) dX12_othersIn_27 rfl ?_
        refine E_iald (pc := 29) dX12_othersIn_29 hf (fun v16 hf => ?_)
        refine E_iload_n (pc := 30) dX12_othersIn_30 rfl ?_
        refine E_icmp_ne (pc := 31) (tgt := 38) dX12_othersIn_31 (by decide) hf (fun hf => ?_) (fun hf => ?_)
        · refine E_iconst (pc := 34) (v := (1 : Int32)) dX12_othersIn_34 (by decide) ?_
          refine E_goto (pc := 35) (tgt := 39) dX12_othersIn_35 (by decide) ?_
          refine E_iadd (pc := 39) dX12_othersIn_39 ?_
          refine E_istore_n (pc := 40) (ls' := fun x17 => [(3, .int x17), (0, .ref a6), (1, .int x7), (2, .int x8), (4, .int x10)]) dX12_othersIn_40 (by decide) (fun _ => rfl) hf (fun x17 hf => ?_)
          refine E_iinc (pc := 41) (ls' := fun x18 => [(4, .int x18), (3, .int x17), (0, .ref a6), (1, .int x7), (2, .int x8)]) dX12_othersIn_41 rfl (by decide) (fun _ => rfl) hf (fun x18 hf => ?_)
          refine E_goto (pc := 44) (tgt := 5) dX12_othersIn_44 (by decide) ?_
          refine Ev.sub [2, 3, 4, 1, 0] rfl ?_
          exact ih _ _ _ _ _ _ hf
        · refine E_iconst (pc := 38) (v := (0 : Int32)) dX12_othersIn_38 (by decide) ?_
          refine E_iadd (pc := 39) dX12_othersIn_39 ?_
          refine E_istore_n (pc := 40) (ls' := fun x19 => [(3, .int x19), (0, .ref a6), (1, .int x7), (2, .int x8), (4, .int x10)]) dX12_othersIn_40 (by decide) (fun _ => rfl) hf (fun x19 hf => ?_)
          refine E_iinc (pc := 41) (ls' := fun x20 => [(4, .int x20), (3, .int x19), (0, .ref a6), (1, .int x7), (2, .int x8)]) dX12_othersIn_41 rfl (by decide) (fun _ => rfl) hf (fun x20 hf => ?_)
          refine E_goto (pc := 44) (tgt := 5) dX12_othersIn_44 (by decide) ?_
          refine Ev.sub [2, 3, 4, 1, 0] rfl ?_
          exact ih _ _ _ _ _ _ hf
set_option maxRecDepth 100000 in
def f_X12_othersIn (μ0 : Mm) (a1 : Nat) (x2 : Int32) (x3 : Int32) : Option (Int32 × Mm) :=
 (nm (0 : Int32) fun x4 =>
    (nm (0 : Int32) fun x5 =>
    f_X12_othersIn_L5 (fun μ21 x22 =>
    (some (x22, μ21))) FU μ0 a1 x2 x3 x4 x5))
set_option maxHeartbeats 4000000 in
set_option maxRecDepth 100000 in
theorem f_X12_othersIn_ok {l : Launch} {G : GG} {μ0 : Mm} {a1 : Nat} {x2 : Int32} {x3 : Int32} {r : Int32} {μ' : Mm} (hf : f_X12_othersIn μ0 a1 x2 x3 = some (r, μ')) : EvM l G D_X12_othersIn yX12_othersIn cX12_othersIn 5 (some .int) [.ref a1, .int x2, .int x3] μ0 (some (.int r)) μ' := by
  show Ev l G D_X12_othersIn yX12_othersIn cX12_othersIn 5 (some .int) 0 [(0, .ref a1), (1, .int x2), (2, .int x3)] [] μ0 (some (.int r)) μ'
  unfold f_X12_othersIn at hf
  refine E_iconst (pc := 0) (v := (0 : Int32)) dX12_othersIn_0 (by decide) ?_
  refine E_istore_n (pc := 1) (ls' := fun x4 => [(3, .int x4), (0, .ref a1), (1, .int x2), (2, .int x3)]) dX12_othersIn_1 (by decide) (fun _ => rfl) hf (fun x4 hf => ?_)
  refine E_iconst (pc := 2) (v := (0 : Int32)) dX12_othersIn_2 (by decide) ?_
  refine E_istore (pc := 3) (ls' := fun x5 => [(4, .int x5), (3, .int x4), (0, .ref a1), (1, .int x2), (2, .int x3)]) dX12_othersIn_3 (by decide) (fun _ => rfl) hf (fun x5 hf => ?_)
  refine Ev.sub [2, 3, 4, 1, 0] rfl ?_
  refine f_X12_othersIn_L5_ok  _ _ _ _ _ _ _ hf (fun μ21 x22 hf => ?_)
  · refine E_iload_n (pc := 47) dX12_othersIn_47 rfl ?_
    exact E_iret (pc := 48) dX12_othersIn_48 rfl hf
theorem dX12_cell_0 : decode cX12_cell 0 = .ok (.aload_n 0, 1) := by decide +kernel
theorem dX12_cell_1 : decode cX12_cell 1 = .ok (.iload_n 1, 1) := by decide +kernel
theorem dX12_cell_2 : decode cX12_cell 2 = .ok (.invokevirtual 415, 3) := by decide +kernel
theorem dX12_cell_5 : decode cX12_cell 5 = .ok (.ifCond .ne 6, 3) := by decide +kernel
theorem dX12_cell_8 : decode cX12_cell 8 = .ok (.bipush (-2), 2) := by decide +kernel
theorem dX12_cell_10 : decode cX12_cell 10 = .ok (.ireturn, 1) := by decide +kernel
theorem dX12_cell_11 : decode cX12_cell 11 = .ok (.iload_n 2, 1) := by decide +kernel
theorem dX12_cell_12 : decode cX12_cell 12 = .ok (.tableswitch 175 0 6 #[44, 51, 57, 71, 117, 163, 169], 44) := by decide +kernel
theorem dX12_cell_56 : decode cX12_cell 56 = .ok (.aload_n 0, 1) := by decide +kernel
theorem dX12_cell_57 : decode cX12_cell 57 = .ok (.getfield 13, 3) := by decide +kernel
theorem dX12_cell_60 : decode cX12_cell 60 = .ok (.iload_n 1, 1) := by decide +kernel
theorem dX12_cell_61 : decode cX12_cell 61 = .ok (.iaload, 1) := by decide +kernel
theorem dX12_cell_62 : decode cX12_cell 62 = .ok (.ireturn, 1) := by decide +kernel
theorem dX12_cell_63 : decode cX12_cell 63 = .ok (.aload_n 0, 1) := by decide +kernel
theorem dX12_cell_64 : decode cX12_cell 64 = .ok (.iload_n 1, 1) := by decide +kernel
theorem dX12_cell_65 : decode cX12_cell 65 = .ok (.invokevirtual 412, 3) := by decide +kernel
theorem dX12_cell_68 : decode cX12_cell 68 = .ok (.ireturn, 1) := by decide +kernel
theorem dX12_cell_69 : decode cX12_cell 69 = .ok (.aload_n 0, 1) := by decide +kernel
theorem dX12_cell_70 : decode cX12_cell 70 = .ok (.iload_n 1, 1) := by decide +kernel
theorem dX12_cell_71 : decode cX12_cell 71 = .ok (.invokevirtual 419, 3) := by decide +kernel
theorem dX12_cell_74 : decode cX12_cell 74 = .ok (.ifCond .eq 7, 3) := by decide +kernel
theorem dX12_cell_77 : decode cX12_cell 77 = .ok (.iconst 1, 1) := by decide +kernel
theorem dX12_cell_78 : decode cX12_cell 78 = .ok (.goto 4, 3) := by decide +kernel
theorem dX12_cell_81 : decode cX12_cell 81 = .ok (.iconst 0, 1) := by decide +kernel
theorem dX12_cell_82 : decode cX12_cell 82 = .ok (.ireturn, 1) := by decide +kernel
theorem dX12_cell_83 : decode cX12_cell 83 = .ok (.iconst 0, 1) := by decide +kernel
theorem dX12_cell_84 : decode cX12_cell 84 = .ok (.istore_n 3, 1) := by decide +kernel
theorem dX12_cell_85 : decode cX12_cell 85 = .ok (.iconst 0, 1) := by decide +kernel
theorem dX12_cell_86 : decode cX12_cell 86 = .ok (.istore 4, 2) := by decide +kernel
theorem dX12_cell_88 : decode cX12_cell 88 = .ok (.iload 4, 2) := by decide +kernel
theorem dX12_cell_90 : decode cX12_cell 90 = .ok (.aload_n 0, 1) := by decide +kernel
theorem dX12_cell_91 : decode cX12_cell 91 = .ok (.getfield 9, 3) := by decide +kernel
theorem dX12_cell_94 : decode cX12_cell 94 = .ok (.iconst 2, 1) := by decide +kernel
theorem dX12_cell_95 : decode cX12_cell 95 = .ok (.iaload, 1) := by decide +kernel
theorem dX12_cell_96 : decode cX12_cell 96 = .ok (.if_icmp .ge 31, 3) := by decide +kernel
theorem dX12_cell_99 : decode cX12_cell 99 = .ok (.iload_n 3, 1) := by decide +kernel
theorem dX12_cell_100 : decode cX12_cell 100 = .ok (.aload_n 0, 1) := by decide +kernel
theorem dX12_cell_101 : decode cX12_cell 101 = .ok (.getfield 16, 3) := by decide +kernel
theorem dX12_cell_104 : decode cX12_cell 104 = .ok (.iload 4, 2) := by decide +kernel
theorem dX12_cell_106 : decode cX12_cell 106 = .ok (.iaload, 1) := by decide +kernel
theorem dX12_cell_107 : decode cX12_cell 107 = .ok (.iload_n 1, 1) := by decide +kernel
theorem dX12_cell_108 : decode cX12_cell 108 = .ok (.if_icmp .ne 10, 3) := by decide +kernel
theorem dX12_cell_111 : decode cX12_cell 111 = .ok (.iconst 1, 1) := by decide +kernel
theorem dX12_cell_112 : decode cX12_cell 112 = .ok (.iload 4, 2) := by decide +kernel
theorem dX12_cell_114 : decode cX12_cell 114 = .ok (.ishl, 1) := by decide +kernel
theorem dX12_cell_115 : decode cX12_cell 115 = .ok (.goto 4, 3) := by decide +kernel
theorem dX12_cell_118 : decode cX12_cell 118 = .ok (.iconst 0, 1) := by decide +kernel
theorem dX12_cell_119 : decode cX12_cell 119 = .ok (.ior, 1) := by decide +kernel
theorem dX12_cell_120 : decode cX12_cell 120 = .ok (.istore_n 3, 1) := by decide +kernel
theorem dX12_cell_121 : decode cX12_cell 121 = .ok (.iinc 4 1, 3) := by decide +kernel
theorem dX12_cell_124 : decode cX12_cell 124 = .ok (.goto (-36), 3) := by decide +kernel
theorem dX12_cell_127 : decode cX12_cell 127 = .ok (.iload_n 3, 1) := by decide +kernel
theorem dX12_cell_128 : decode cX12_cell 128 = .ok (.ireturn, 1) := by decide +kernel
theorem dX12_cell_129 : decode cX12_cell 129 = .ok (.iconst 0, 1) := by decide +kernel
theorem dX12_cell_130 : decode cX12_cell 130 = .ok (.istore_n 3, 1) := by decide +kernel
theorem dX12_cell_131 : decode cX12_cell 131 = .ok (.iconst 0, 1) := by decide +kernel
theorem dX12_cell_132 : decode cX12_cell 132 = .ok (.istore 4, 2) := by decide +kernel
theorem dX12_cell_134 : decode cX12_cell 134 = .ok (.iload 4, 2) := by decide +kernel
theorem dX12_cell_136 : decode cX12_cell 136 = .ok (.aload_n 0, 1) := by decide +kernel
theorem dX12_cell_137 : decode cX12_cell 137 = .ok (.getfield 9, 3) := by decide +kernel
theorem dX12_cell_140 : decode cX12_cell 140 = .ok (.iconst 3, 1) := by decide +kernel
theorem dX12_cell_141 : decode cX12_cell 141 = .ok (.iaload, 1) := by decide +kernel
theorem dX12_cell_142 : decode cX12_cell 142 = .ok (.if_icmp .ge 31, 3) := by decide +kernel
theorem dX12_cell_145 : decode cX12_cell 145 = .ok (.iload_n 3, 1) := by decide +kernel
theorem dX12_cell_146 : decode cX12_cell 146 = .ok (.aload_n 0, 1) := by decide +kernel
theorem dX12_cell_147 : decode cX12_cell 147 = .ok (.getfield 22, 3) := by decide +kernel
theorem dX12_cell_150 : decode cX12_cell 150 = .ok (.iload 4, 2) := by decide +kernel
theorem dX12_cell_152 : decode cX12_cell 152 = .ok (.iaload, 1) := by decide +kernel
theorem dX12_cell_153 : decode cX12_cell 153 = .ok (.iload_n 1, 1) := by decide +kernel
theorem dX12_cell_154 : decode cX12_cell 154 = .ok (.if_icmp .ne 10, 3) := by decide +kernel
theorem dX12_cell_157 : decode cX12_cell 157 = .ok (.iconst 1, 1) := by decide +kernel
theorem dX12_cell_158 : decode cX12_cell 158 = .ok (.iload 4, 2) := by decide +kernel
theorem dX12_cell_160 : decode cX12_cell 160 = .ok (.ishl, 1) := by decide +kernel
theorem dX12_cell_161 : decode cX12_cell 161 = .ok (.goto 4, 3) := by decide +kernel
theorem dX12_cell_164 : decode cX12_cell 164 = .ok (.iconst 0, 1) := by decide +kernel
theorem dX12_cell_165 : decode cX12_cell 165 = .ok (.ior, 1) := by decide +kernel
theorem dX12_cell_166 : decode cX12_cell 166 = .ok (.istore_n 3, 1) := by decide +kernel
theorem dX12_cell_167 : decode cX12_cell 167 = .ok (.iinc 4 1, 3) := by decide +kernel
theorem dX12_cell_170 : decode cX12_cell 170 = .ok (.goto (-36), 3) := by decide +kernel
theorem dX12_cell_173 : decode cX12_cell 173 = .ok (.iload_n 3, 1) := by decide +kernel
theorem dX12_cell_174 : decode cX12_cell 174 = .ok (.ireturn, 1) := by decide +kernel
theorem dX12_cell_175 : decode cX12_cell 175 = .ok (.aload_n 0, 1) := by decide +kernel
theorem dX12_cell_176 : decode cX12_cell 176 = .ok (.iload_n 1, 1) := by decide +kernel
theorem dX12_cell_177 : decode cX12_cell 177 = .ok (.invokevirtual 422, 3) := by decide +kernel
theorem dX12_cell_180 : decode cX12_cell 180 = .ok (.ireturn, 1) := by decide +kernel
theorem dX12_cell_181 : decode cX12_cell 181 = .ok (.aload_n 0, 1) := by decide +kernel
theorem dX12_cell_182 : decode cX12_cell 182 = .ok (.iload_n 1, 1) := by decide +kernel
theorem dX12_cell_183 : decode cX12_cell 183 = .ok (.invokevirtual 425, 3) := by decide +kernel
theorem dX12_cell_186 : decode cX12_cell 186 = .ok (.ireturn, 1) := by decide +kernel
theorem dX12_cell_187 : decode cX12_cell 187 = .ok (.bipush (-2), 2) := by decide +kernel
theorem dX12_cell_189 : decode cX12_cell 189 = .ok (.ireturn, 1) := by decide +kernel
abbrev D_X12_cell : Nat := 6
def f_X12_cell_L134 (K173 : Mm → Int32 → Option (Int32 × Mm)) : Nat → Mm → Nat → Int32 → Int32 → Int32 → Option (Int32 × Mm)
  | 0, _, _, _, _, _ => none
  | n + 1, μ0, a12, x13, x14, x15 =>
    ((gR μ0 a12 12 1).bind fun v16 =>
    ((aI μ0 v16 0 (3 : Int32)).bind fun v17 =>
    (if v17 ≤ x15 then
    K173 μ0 x14
    else
    ((gR μ0 a12 12 5).bind fun v18 =>
    ((aI μ0 v18 0 x15).bind fun v19 =>
    (if v19 = x13 then
    (nm (x14 ||| ((1 : Int32) <<< (x15 &&& 31))) fun x20 =>
    (nm (x15 + Int32.ofInt (1)) fun x21 =>
    f_X12_cell_L134 K173 n μ0 a12 x13 x20 x21))
    else
    (nm (x14 ||| (0 : Int32)) fun x22 =>
    (nm (x15 + Int32.ofInt (1)) fun x23 =>
    f_X12_cell_L134 K173 n μ0 a12 x13 x22 x23))))))))
set_option maxHeartbeats 4000000 in
set_option maxRecDepth 100000 in
theorem f_X12_cell_L134_ok {l : Launch} {G : GG} {K173 : Mm → Int32 → Option (Int32 × Mm)} {r : Int32} {μ' : Mm} (n : Nat) (μ0 : Mm) (a12 : Nat) (x13 : Int32) (x14 : Int32) (x15 : Int32) (hf : f_X12_cell_L134 K173 n μ0 a12 x13 x14 x15 = some (r, μ')) (hK173 : ∀ (μ1 : Mm) (y3 : Int32), K173 μ1 y3 = some (r, μ') → Ev l G D_X12_cell yX12_cell cX12_cell 5 (some .int) 173 [(3, .int y3)] [] μ1 (some (.int r)) μ') : Ev l G D_X12_cell yX12_cell cX12_cell 5 (some .int) 134 [(0, .ref a12), (1, .int x13), (3, .int x14), (4, .int x15)] [] μ0 (some (.int r)) μ' := by
  induction n generalizing μ0 a12 x13 x14 x15 with
  | zero => cases hf
  | succ n ih0 =>
    have ih : ∀ (μ0 : Mm) (a12 : Nat) (x13 : Int32) (x14 : Int32) (x15 : Int32), f_X12_cell_L134 K173 n μ0 a12 x13 x14 x15 = some (r, μ') → Ev l G D_X12_cell yX12_cell cX12_cell 5 (some .int) 134 [(0, .ref a12), (1, .int x13), (3, .int x14), (4, .int x15)] [] μ0 (some (.int r)) μ' := fun μ0 a12 x13 x14 x15 hf => ih0 μ0 a12 x13 x14 x15 hf
    rw [f_X12_cell_L134] at hf
    refine E_iload (pc := 134) dX12_cell_134 rfl ?_
    refine E_aload_n (pc := 136) dX12_cell_136 rfl ?_
    refine E_getR (pc := 137) dX12_cell_137 fl_X12_9 hf (fun v16 hf => ?_)
    refine E_iconst (pc := 140) (v := (3 : Int32)) dX12_cell_140 (by decide) ?_
    refine E_iald (pc := 141) dX12_cell_141 hf (fun v17 hf => ?_)
    refine E_icmp_ge (pc := 142) (tgt := 173) dX12_cell_142 (by decide) hf (fun hf => ?_) (fun hf => ?_)
    · refine Ev.sub [2] rfl ?_
      exact hK173 _ _ hf
    · refine E_iload_n (pc := 145) dX12_cell_145 rfl ?_
      refine E_aload_n (pc := 146) dX12_cell_146 rfl ?_
      refine E_getR (pc := 147) dX12_cell_147 fl_X12_22 hf (fun v18 hf => ?_)
      refine E_iload (pc := 150) dX12_cell_150 rfl ?_
      refine E_iald (pc := 152) dX12_cell_152 hf (fun v19 hf => ?_)
      refine E_iload_n (pc := 153) dX12_cell_153 rfl ?_
      refine E_icmp_ne (pc := 154) (tgt := 164) dX12_cell_154 (by decide) hf (fun hf => ?_) (fun hf => ?_)
      · refine E_iconst (pc := 157) (v := (1 : Int32)) dX12_cell_157 (by decide) ?_
        refine E_iload (pc := 158) dX12_cell_158 rfl ?_
        refine E_ishl (pc := 160) dX12_cell_160 ?_
        refine E_goto (pc := 161) (tgt := 165) dX12_cell_161 (by decide) ?_
        refine E_ior (pc := 165) dX12_cell_165 ?_
        refine E_istore_n (pc := 166) (ls' := fun x20 => [(3, .int x20), (0, .ref a12), (1, .int x13), (4, .int x15)]) dX12_cell_166 (by decide) (fun _ => rfl) hf (fun x20 hf => ?_)
        refine E_iinc (pc := 167) (ls' := fun x21 => [(4, .int x21), (3, .int x20), (0, .ref a12), (1, .int x13)]) dX12_cell_167 rfl (by decide) (fun _ => rfl) hf (fun x21 hf => ?_)
        refine E_goto (pc := 170) (tgt := 134) dX12_cell_170 (by decide) ?_
        refine Ev.sub [2, 3, 1, 0] rfl ?_
        exact ih _ _ _ _ _ hf
      · refine E_iconst (pc := 164) (v := (0 : Int32)) dX12_cell_164 (by decide) ?_
        refine E_ior (pc := 165) dX12_cell_165 ?_
        refine E_istore_n (pc := 166) (ls' := fun x22 => [(3, .int x22), (0, .ref a12), (1, .int x13), (4, .int x15)]) dX12_cell_166 (by decide) (fun _ => rfl) hf (fun x22 hf => ?_)
        refine E_iinc (pc := 167) (ls' := fun x23 => [(4, .int x23), (3, .int x22), (0, .ref a12), (1, .int x13)]) dX12_cell_167 rfl (by decide) (fun _ => rfl) hf (fun x23 hf => ?_)
        refine E_goto (pc := 170) (tgt := 134) dX12_cell_170 (by decide) ?_
        refine Ev.sub [2, 3, 1, 0] rfl ?_
        exact ih _ _ _ _ _ hf
def f_X12_cell_L88 (K127 : Mm → Int32 → Option (Int32 × Mm)) : Nat → Mm → Nat → Int32 → Int32 → Int32 → Option (Int32 × Mm)
  | 0, _, _, _, _, _ => none
  | n + 1, μ0, a28, x29, x30, x31 =>
    ((gR μ0 a28 12 1).bind fun v32 =>
    ((aI μ0 v32 0 (2 : Int32)).bind fun v33 =>
    (if v33 ≤ x31 then
    K127 μ0 x30
    else
    ((gR μ0 a28 12 3).bind fun v34 =>
    ((aI μ0 v34 0 x31).bind fun v35 =>
    (if v35 = x29 then
    (nm (x30 ||| ((1 : Int32) <<< (x31 &&& 31))) fun x36 =>
    (nm (x31 + Int32.ofInt (1)) fun x37 =>
    f_X12_cell_L88 K127 n μ0 a28 x29 x36 x37))
    else
    (nm (x30 ||| (0 : Int32)) fun x38 =>
    (nm (x31 + Int32.ofInt (1)) fun x39 =>
    f_X12_cell_L88 K127 n μ0 a28 x29 x38 x39))))))))
set_option maxHeartbeats 4000000 in
set_option maxRecDepth 100000 in
theorem f_X12_cell_L88_ok {l : Launch} {G : GG} {K127 : Mm → Int32 → Option (Int32 × Mm)} {r : Int32} {μ' : Mm} (n : Nat) (μ0 : Mm) (a28 : Nat) (x29 : Int32) (x30 : Int32) (x31 : Int32) (hf : f_X12_cell_L88 K127 n μ0 a28 x29 x30 x31 = some (r, μ')) (hK127 : ∀ (μ1 : Mm) (y3 : Int32), K127 μ1 y3 = some (r, μ') → Ev l G D_X12_cell yX12_cell cX12_cell 5 (some .int) 127 [(3, .int y3)] [] μ1 (some (.int r)) μ') : Ev l G D_X12_cell yX12_cell cX12_cell 5 (some .int) 88 [(0, .ref a28), (1, .int x29), (3, .int x30), (4, .int x31)] [] μ0 (some (.int r)) μ' := by
  induction n generalizing μ0 a28 x29 x30 x31 with
  | zero => cases hf
  | succ n ih0 =>
    have ih : ∀ (μ0 : Mm) (a28 : Nat) (x29 : Int32) (x30 : Int32) (x31 : Int32), f_X12_cell_L88 K127 n μ0 a28 x29 x30 x31 = some (r, μ') → Ev l G D_X12_cell yX12_cell cX12_cell 5 (some .int) 88 [(0, .ref a28), (1, .int x29), (3, .int x30), (4, .int x31)] [] μ0 (some (.int r)) μ' := fun μ0 a28 x29 x30 x31 hf => ih0 μ0 a28 x29 x30 x31 hf
    rw [f_X12_cell_L88] at hf
    refine E_iload (pc := 88) dX12_cell_88 rfl ?_
    refine E_aload_n (pc := 90) dX12_cell_90 rfl ?_
    refine E_getR (pc := 91) dX12_cell_91 fl_X12_9 hf (fun v32 hf => ?_)
    refine E_iconst (pc := 94) (v := (2 : Int32)) dX12_cell_94 (by decide) ?_
    refine E_iald (pc := 95) dX12_cell_95 hf (fun v33 hf => ?_)
    refine E_icmp_ge (pc := 96) (tgt := 127) dX12_cell_96 (by decide) hf (fun hf => ?_) (fun hf => ?_)
    · refine Ev.sub [2] rfl ?_
      exact hK127 _ _ hf
    · refine E_iload_n (pc := 99) dX12_cell_99 rfl ?_
      refine E_aload_n (pc := 100) dX12_cell_100 rfl ?_
      refine E_getR (pc := 101) dX12_cell_101 fl_X12_16 hf (fun v34 hf => ?_)
      refine E_iload (pc := 104) dX12_cell_104 rfl ?_
      refine E_iald (pc := 106) dX12_cell_106 hf (fun v35 hf => ?_)
      refine E_iload_n (pc := 107) dX12_cell_107 rfl ?_
      refine E_icmp_ne (pc := 108) (tgt := 118) dX12_cell_108 (by decide) hf (fun hf => ?_) (fun hf => ?_)
      · refine E_iconst (pc := 111) (v := (1 : Int32)) dX12_cell_111 (by decide) ?_
        refine E_iload (pc := 112) dX12_cell_112 rfl ?_
        refine E_ishl (pc := 114) dX12_cell_114 ?_
        refine E_goto (pc := 115) (tgt := 119) dX12_cell_115 (by decide) ?_
        refine E_ior (pc := 119) dX12_cell_119 ?_
        refine E_istore_n (pc := 120) (ls' := fun x36 => [(3, .int x36), (0, .ref a28), (1, .int x29), (4, .int x31)]) dX12_cell_120 (by decide) (fun _ => rfl) hf (fun x36 hf => ?_)
        refine E_iinc (pc := 121) (ls' := fun x37 => [(4, .int x37), (3, .int x36), (0, .ref a28), (1, .int x29)]) dX12_cell_121 rfl (by decide) (fun _ => rfl) hf (fun x37 hf => ?_)
        refine E_goto (pc := 124) (tgt := 88) dX12_cell_124 (by decide) ?_
        refine Ev.sub [2, 3, 1, 0] rfl ?_
        exact ih _ _ _ _ _ hf
      · refine E_iconst (pc := 118) (v := (0 : Int32)) dX12_cell_118 (by decide) ?_
        refine E_ior (pc := 119) dX12_cell_119 ?_
        refine E_istore_n (pc := 120) (ls' := fun x38 => [(3, .int x38), (0, .ref a28), (1, .int x29), (4, .int x31)]) dX12_cell_120 (by decide) (fun _ => rfl) hf (fun x38 hf => ?_)
        refine E_iinc (pc := 121) (ls' := fun x39 => [(4, .int x39), (3, .int x38), (0, .ref a28), (1, .int x29)]) dX12_cell_121 rfl (by decide) (fun _ => rfl) hf (fun x39 hf => ?_)
        refine E_goto (pc := 124) (tgt := 88) dX12_cell_124 (by decide) ?_
        refine Ev.sub [2, 3, 1, 0] rfl ?_
        exact ih _ _ _ _ _ hf
set_option maxRecDepth 100000 in
def f_X12_cell (μ0 : Mm) (a1 : Nat) (x2 : Int32) (x3 : Int32) : Option (Int32 × Mm) :=
 ((ob μ0 a1 12).bind fun _ =>
    (bd (f_X12_isCell μ0 a1 x2) fun v5 μ4 =>
    (if v5 = 0 then
    (some ((-2 : Int32), μ4))
    else
    (if x3 = (0 : Int32) then
    ((gR μ4 a1 12 2).bind fun v46 =>
    ((aI μ4 v46 0 x2).bind fun v47 =>
    (some (v47, μ4))))
    else
    (if x3 = (1 : Int32) then
    ((ob μ4 a1 12).bind fun _ =>
    (bd (f_X12_leadsTo μ4 a1 x2) fun v45 μ44 =>
    (some (v45, μ44))))
    else
    (if x3 = (2 : Int32) then
    ((ob μ4 a1 12).bind fun _ =>
    (bd (f_X12_isNet μ4 a1 x2) fun v43 μ42 =>
    (if v43 = 0 then
    (some ((0 : Int32), μ42))
    else
    (some ((1 : Int32), μ42)))))
    else
    (if x3 = (3 : Int32) then
    (nm (0 : Int32) fun x26 =>
    (nm (0 : Int32) fun x27 =>
    f_X12_cell_L88 (fun μ40 x41 =>
    (some (x41, μ40))) FU μ4 a1 x2 x26 x27))
    else
    (if x3 = (4 : Int32) then
    (nm (0 : Int32) fun x10 =>
    (nm (0 : Int32) fun x11 =>
    f_X12_cell_L134 (fun μ24 x25 =>
    (some (x25, μ24))) FU μ4 a1 x2 x10 x11))
    else
    (if x3 = (5 : Int32) then
    ((ob μ4 a1 12).bind fun _ =>
    (bd (f_X12_endOf μ4 a1 x2) fun v9 μ8 =>
    (some (v9, μ8))))
    else
    (if x3 = (6 : Int32) then
    ((ob μ4 a1 12).bind fun _ =>
    (bd (f_X12_stepsOf μ4 a1 x2) fun v7 μ6 =>
    (some (v7, μ6))))
    else
    (some ((-2 : Int32), μ4))))))))))))
set_option maxHeartbeats 4000000 in
set_option maxRecDepth 100000 in
theorem f_X12_cell_ok {l : Launch} {G : GG} {μ0 : Mm} {a1 : Nat} {x2 : Int32} {x3 : Int32} {r : Int32} {μ' : Mm} (hf : f_X12_cell μ0 a1 x2 x3 = some (r, μ')) : EvM l G D_X12_cell yX12_cell cX12_cell 5 (some .int) [.ref a1, .int x2, .int x3] μ0 (some (.int r)) μ' := by
  show Ev l G D_X12_cell yX12_cell cX12_cell 5 (some .int) 0 [(0, .ref a1), (1, .int x2), (2, .int x3)] [] μ0 (some (.int r)) μ'
  unfold f_X12_cell at hf
  refine E_aload_n (pc := 0) dX12_cell_0 rfl ?_
  refine E_iload_n (pc := 1) dX12_cell_1 rfl ?_
  refine E_Vi (pc := 2) (d2 := D_X12_isCell) (ci := 12) [.int x2] dX12_cell_2 ml_X12_415 mf_X12_isCell im_X12_isCell rfl rfl rfl (by decide) (Nat.le_of_ble_eq_true rfl) (Nat.le_of_ble_eq_true rfl) rfl (fun _ _ h => f_X12_isCell_ok h) hf (fun v5 μ4 hf => ?_)
  refine E_if_ne (pc := 5) (tgt := 11) dX12_cell_5 (by decide) hf (fun hf => ?_) (fun hf => ?_)
  · refine E_bipush (pc := 8) (v := (-2 : Int32)) dX12_cell_8 (by decide) ?_
    exact E_iret (pc := 10) dX12_cell_10 rfl hf
  · refine E_iload_n (pc := 11) dX12_cell_11 rfl ?_
    refine ifS hf (fun n12_0 hf => ?_) (fun n12_0 hf => ?_)
    · refine E_tswI (pc := 12) (tgt := 56) (0) dX12_cell_12 (by rw [n12_0]; decide) (by decide) (by decide) rfl (by decide) ?_
      refine E_aload_n (pc := 56) dX12_cell_56 rfl ?_
      refine E_getR (pc := 57) dX12_cell_57 fl_X12_13 hf (fun v46 hf => ?_)
      refine E_iload_n (pc := 60) dX12_cell_60 rfl ?_
      refine E_iald (pc := 61) dX12_cell_61 hf (fun v47 hf => ?_)
      exact E_iret (pc := 62) dX12_cell_62 rfl hf
    · refine ifS hf (fun n12_1 hf => ?_) (fun n12_1 hf => ?_)
      · refine E_tswI (pc := 12) (tgt := 63) (1) dX12_cell_12 (by rw [n12_1]; decide) (by decide) (by decide) rfl (by decide) ?_
        refine E_aload_n (pc := 63) dX12_cell_63 rfl ?_
        refine E_iload_n (pc := 64) dX12_cell_64 rfl ?_
        refine E_Vi (pc := 65) (d2 := D_X12_leadsTo) (ci := 12) [.int x2] dX12_cell_65 ml_X12_412 mf_X12_leadsTo im_X12_leadsTo rfl rfl rfl (by decide) (Nat.le_of_ble_eq_true rfl) (Nat.le_of_ble_eq_true rfl) rfl (fun _ _ h => f_X12_leadsTo_ok h) hf (fun v45 μ44 hf => ?_)
        exact E_iret (pc := 68) dX12_cell_68 rfl hf
      · refine ifS hf (fun n12_2 hf => ?_) (fun n12_2 hf => ?_)
        · refine E_tswI (pc := 12) (tgt := 69) (2) dX12_cell_12 (by rw [n12_2]; decide) (by decide) (by decide) rfl (by decide) ?_
          refine E_aload_n (pc := 69) dX12_cell_69 rfl ?_
          refine E_iload_n (pc := 70) dX12_cell_70 rfl ?_
          refine E_Vi (pc := 71) (d2 := D_X12_isNet) (ci := 12) [.int x2] dX12_cell_71 ml_X12_419 mf_X12_isNet im_X12_isNet rfl rfl rfl (by decide) (Nat.le_of_ble_eq_true rfl) (Nat.le_of_ble_eq_true rfl) rfl (fun _ _ h => f_X12_isNet_ok h) hf (fun v43 μ42 hf => ?_)
          refine E_if_eq (pc := 74) (tgt := 81) dX12_cell_74 (by decide) hf (fun hf => ?_) (fun hf => ?_)
          · refine E_iconst (pc := 81) (v := (0 : Int32)) dX12_cell_81 (by decide) ?_
            exact E_iret (pc := 82) dX12_cell_82 rfl hf
          · refine E_iconst (pc := 77) (v := (1 : Int32)) dX12_cell_77 (by decide) ?_
            refine E_goto (pc := 78) (tgt := 82) dX12_cell_78 (by decide) ?_
            exact E_iret (pc := 82) dX12_cell_82 rfl hf
        · refine ifS hf (fun n12_3 hf => ?_) (fun n12_3 hf => ?_)
          · refine E_tswI (pc := 12) (tgt := 83) (3) dX12_cell_12 (by rw [n12_3]; decide) (by decide) (by decide) rfl (by decide) ?_
            refine E_iconst (pc := 83) (v := (0 : Int32)) dX12_cell_83 (by decide) ?_
            refine E_istore_n (pc := 84) (ls' := fun x26 => [(3, .int x26), (0, .ref a1), (1, .int x2), (2, .int x3)]) dX12_cell_84 (by decide) (fun _ => rfl) hf (fun x26 hf => ?_)
            refine E_iconst (pc := 85) (v := (0 : Int32)) dX12_cell_85 (by decide) ?_
            refine E_istore (pc := 86) (ls' := fun x27 => [(4, .int x27), (3, .int x26), (0, .ref a1), (1, .int x2), (2, .int x3)]) dX12_cell_86 (by decide) (fun _ => rfl) hf (fun x27 hf => ?_)
            refine Ev.sub [2, 3, 1, 0] rfl ?_
            refine f_X12_cell_L88_ok  _ _ _ _ _ _ hf (fun μ40 x41 hf => ?_)
            · refine E_iload_n (pc := 127) dX12_cell_127 rfl ?_
              exact E_iret (pc := 128) dX12_cell_128 rfl hf
          · refine ifS hf (fun n12_4 hf => ?_) (fun n12_4 hf => ?_)
            · refine E_tswI (pc := 12) (tgt := 129) (4) dX12_cell_12 (by rw [n12_4]; decide) (by decide) (by decide) rfl (by decide) ?_
              refine E_iconst (pc := 129) (v := (0 : Int32)) dX12_cell_129 (by decide) ?_
              refine E_istore_n (pc := 130) (ls' := fun x10 => [(3, .int x10), (0, .ref a1), (1, .int x2), (2, .int x3)]) dX12_cell_130 (by decide) (fun _ => rfl) hf (fun x10 hf => ?_)
              refine E_iconst (pc := 131) (v := (0 : Int32)) dX12_cell_131 (by decide) ?_
              refine E_istore (pc := 132) (ls' := fun x11 => [(4, .int x11), (3, .int x10), (0, .ref a1), (1, .int x2), (2, .int x3)]) dX12_cell_132 (by decide) (fun _ => rfl) hf (fun x11 hf => ?_)
              refine Ev.sub [2, 3, 1, 0] rfl ?_
              refine f_X12_cell_L134_ok  _ _ _ _ _ _ hf (fun μ24 x25 hf => ?_)
              · refine E_iload_n (pc := 173) dX12_cell_173 rfl ?_
                exact E_iret (pc := 174) dX12_cell_174 rfl hf
            · refine ifS hf (fun n12_5 hf => ?_) (fun n12_5 hf => ?_)
              · refine E_tswI (pc := 12) (tgt := 175) (5) dX12_cell_12 (by rw [n12_5]; decide) (by decide) (by decide) rfl (by decide) ?_
                refine E_aload_n (pc := 175) dX12_cell_175 rfl ?_
                refine E_iload_n (pc := 176) dX12_cell_176 rfl ?_
                refine E_Vi (pc := 177) (d2 := D_X12_endOf) (ci := 12) [.int x2] dX12_cell_177 ml_X12_422 mf_X12_endOf im_X12_endOf rfl rfl rfl (by decide) (Nat.le_of_ble_eq_true rfl) (Nat.le_of_ble_eq_true rfl) rfl (fun _ _ h => f_X12_endOf_ok h) hf (fun v9 μ8 hf => ?_)
                exact E_iret (pc := 180) dX12_cell_180 rfl hf
              · refine ifS hf (fun n12_6 hf => ?_) (fun n12_6 hf => ?_)
                · refine E_tswI (pc := 12) (tgt := 181) (6) dX12_cell_12 (by rw [n12_6]; decide) (by decide) (by decide) rfl (by decide) ?_
                  refine E_aload_n (pc := 181) dX12_cell_181 rfl ?_
                  refine E_iload_n (pc := 182) dX12_cell_182 rfl ?_
                  refine E_Vi (pc := 183) (d2 := D_X12_stepsOf) (ci := 12) [.int x2] dX12_cell_183 ml_X12_425 mf_X12_stepsOf im_X12_stepsOf rfl rfl rfl (by decide) (Nat.le_of_ble_eq_true rfl) (Nat.le_of_ble_eq_true rfl) rfl (fun _ _ h => f_X12_stepsOf_ok h) hf (fun v7 μ6 hf => ?_)
                  exact E_iret (pc := 186) dX12_cell_186 rfl hf
                · refine E_tswD (pc := 12) (tgt := 187) dX12_cell_12 (by have q0 : ¬ (x3).toInt = 0 := i32ne n12_0; have q1 : ¬ (x3).toInt = 1 := i32ne n12_1; have q2 : ¬ (x3).toInt = 2 := i32ne n12_2; have q3 : ¬ (x3).toInt = 3 := i32ne n12_3; have q4 : ¬ (x3).toInt = 4 := i32ne n12_4; have q5 : ¬ (x3).toInt = 5 := i32ne n12_5; have q6 : ¬ (x3).toInt = 6 := i32ne n12_6;  omega) (by decide) ?_
                  refine E_bipush (pc := 187) (v := (-2 : Int32)) dX12_cell_187 (by decide) ?_
                  exact E_iret (pc := 189) dX12_cell_189 rfl hf
theorem dX12_person_0 : decode cX12_person 0 = .ok (.aload_n 0, 1) := by decide +kernel
theorem dX12_person_1 : decode cX12_person 1 = .ok (.iload_n 1, 1) := by decide +kernel
theorem dX12_person_2 : decode cX12_person 2 = .ok (.invokevirtual 428, 3) := by decide +kernel
theorem dX12_person_5 : decode cX12_person 5 = .ok (.ifCond .ne 5, 3) := by decide +kernel
theorem dX12_person_8 : decode cX12_person 8 = .ok (.iconst (-1), 1) := by decide +kernel
theorem dX12_person_9 : decode cX12_person 9 = .ok (.ireturn, 1) := by decide +kernel
theorem dX12_person_10 : decode cX12_person 10 = .ok (.iload_n 2, 1) := by decide +kernel
theorem dX12_person_11 : decode cX12_person 11 = .ok (.lookupswitch 39 #[(0, 25), (1, 32)], 25) := by decide +kernel
theorem dX12_person_36 : decode cX12_person 36 = .ok (.aload_n 0, 1) := by decide +kernel
theorem dX12_person_37 : decode cX12_person 37 = .ok (.getfield 16, 3) := by decide +kernel
theorem dX12_person_40 : decode cX12_person 40 = .ok (.iload_n 1, 1) := by decide +kernel
theorem dX12_person_41 : decode cX12_person 41 = .ok (.iaload, 1) := by decide +kernel
theorem dX12_person_42 : decode cX12_person 42 = .ok (.ireturn, 1) := by decide +kernel
theorem dX12_person_43 : decode cX12_person 43 = .ok (.aload_n 0, 1) := by decide +kernel
theorem dX12_person_44 : decode cX12_person 44 = .ok (.getfield 19, 3) := by decide +kernel
theorem dX12_person_47 : decode cX12_person 47 = .ok (.iload_n 1, 1) := by decide +kernel
theorem dX12_person_48 : decode cX12_person 48 = .ok (.iaload, 1) := by decide +kernel
theorem dX12_person_49 : decode cX12_person 49 = .ok (.ireturn, 1) := by decide +kernel
theorem dX12_person_50 : decode cX12_person 50 = .ok (.iconst (-1), 1) := by decide +kernel
theorem dX12_person_51 : decode cX12_person 51 = .ok (.ireturn, 1) := by decide +kernel
abbrev D_X12_person : Nat := 3
set_option maxRecDepth 100000 in
def f_X12_person (μ0 : Mm) (a1 : Nat) (x2 : Int32) (x3 : Int32) : Option (Int32 × Mm) :=
 ((ob μ0 a1 12).bind fun _ =>
    (bd (f_X12_isPerson μ0 a1 x2) fun v5 μ4 =>
    (if v5 = 0 then
    (some ((-1 : Int32), μ4))
    else
    (if x3 = (0 : Int32) then
    ((gR μ4 a1 12 3).bind fun v8 =>
    ((aI μ4 v8 0 x2).bind fun v9 =>
    (some (v9, μ4))))
    else
    (if x3 = (1 : Int32) then
    ((gR μ4 a1 12 4).bind fun v6 =>
    ((aI μ4 v6 0 x2).bind fun v7 =>
    (some (v7, μ4))))
    else
    (some ((-1 : Int32), μ4)))))))
set_option maxHeartbeats 4000000 in
set_option maxRecDepth 100000 in
theorem f_X12_person_ok {l : Launch} {G : GG} {μ0 : Mm} {a1 : Nat} {x2 : Int32} {x3 : Int32} {r : Int32} {μ' : Mm} (hf : f_X12_person μ0 a1 x2 x3 = some (r, μ')) : EvM l G D_X12_person yX12_person cX12_person 3 (some .int) [.ref a1, .int x2, .int x3] μ0 (some (.int r)) μ' := by
  show Ev l G D_X12_person yX12_person cX12_person 3 (some .int) 0 [(0, .ref a1), (1, .int x2), (2, .int x3)] [] μ0 (some (.int r)) μ'
  unfold f_X12_person at hf
  refine E_aload_n (pc := 0) dX12_person_0 rfl ?_
  refine E_iload_n (pc := 1) dX12_person_1 rfl ?_
  refine E_Vi (pc := 2) (d2 := D_X12_isPerson) (ci := 12) [.int x2] dX12_person_2 ml_X12_428 mf_X12_isPerson im_X12_isPerson rfl rfl rfl (by decide) (Nat.le_of_ble_eq_true rfl) (Nat.le_of_ble_eq_true rfl) rfl (fun _ _ h => f_X12_isPerson_ok h) hf (fun v5 μ4 hf => ?_)
  refine E_if_ne (pc := 5) (tgt := 10) dX12_person_5 (by decide) hf (fun hf => ?_) (fun hf => ?_)
  · refine E_iconst (pc := 8) (v := (-1 : Int32)) dX12_person_8 (by decide) ?_
    exact E_iret (pc := 9) dX12_person_9 rfl hf
  · refine E_iload_n (pc := 10) dX12_person_10 rfl ?_
    refine ifS hf (fun n11_0 hf => ?_) (fun n11_0 hf => ?_)
    · refine E_lsw (α := Nat) (pc := 11) (tgt := 36) dX12_person_11 (by decide) (by rw [n11_0]; decide) ?_
      refine E_aload_n (pc := 36) dX12_person_36 rfl ?_
      refine E_getR (pc := 37) dX12_person_37 fl_X12_16 hf (fun v8 hf => ?_)
      refine E_iload_n (pc := 40) dX12_person_40 rfl ?_
      refine E_iald (pc := 41) dX12_person_41 hf (fun v9 hf => ?_)
      exact E_iret (pc := 42) dX12_person_42 rfl hf
    · refine ifS hf (fun n11_1 hf => ?_) (fun n11_1 hf => ?_)
      · refine E_lsw (α := Nat) (pc := 11) (tgt := 43) dX12_person_11 (by decide) (by rw [n11_1]; decide) ?_
        refine E_aload_n (pc := 43) dX12_person_43 rfl ?_
        refine E_getR (pc := 44) dX12_person_44 fl_X12_19 hf (fun v6 hf => ?_)
        refine E_iload_n (pc := 47) dX12_person_47 rfl ?_
        refine E_iald (pc := 48) dX12_person_48 hf (fun v7 hf => ?_)
        exact E_iret (pc := 49) dX12_person_49 rfl hf
      · refine E_lsw (α := Nat) (pc := 11) (tgt := 50) dX12_person_11 (by decide) (by have q0 : ¬ (x3).toInt = 0 := i32ne n11_0; have p0 : ¬ 0 = (x3).toInt := fun h => q0 h.symm; have q1 : ¬ (x3).toInt = 1 := i32ne n11_1; have p1 : ¬ 1 = (x3).toInt := fun h => q1 h.symm;  simp [Op.lookupswitch.offset, q0, p0, q1, p1]) ?_
        refine E_iconst (pc := 50) (v := (-1 : Int32)) dX12_person_50 (by decide) ?_
        exact E_iret (pc := 51) dX12_person_51 rfl hf
theorem dX12_thing_0 : decode cX12_thing 0 = .ok (.aload_n 0, 1) := by decide +kernel
theorem dX12_thing_1 : decode cX12_thing 1 = .ok (.iload_n 1, 1) := by decide +kernel
theorem dX12_thing_2 : decode cX12_thing 2 = .ok (.invokevirtual 431, 3) := by decide +kernel
theorem dX12_thing_5 : decode cX12_thing 5 = .ok (.ifCond .ne 5, 3) := by decide +kernel
theorem dX12_thing_8 : decode cX12_thing 8 = .ok (.iconst (-1), 1) := by decide +kernel
theorem dX12_thing_9 : decode cX12_thing 9 = .ok (.ireturn, 1) := by decide +kernel
theorem dX12_thing_10 : decode cX12_thing 10 = .ok (.iload_n 2, 1) := by decide +kernel
theorem dX12_thing_11 : decode cX12_thing 11 = .ok (.tableswitch 73 0 4 #[33, 40, 47, 54, 61], 33) := by decide +kernel
theorem dX12_thing_44 : decode cX12_thing 44 = .ok (.aload_n 0, 1) := by decide +kernel
theorem dX12_thing_45 : decode cX12_thing 45 = .ok (.getfield 22, 3) := by decide +kernel
theorem dX12_thing_48 : decode cX12_thing 48 = .ok (.iload_n 1, 1) := by decide +kernel
theorem dX12_thing_49 : decode cX12_thing 49 = .ok (.iaload, 1) := by decide +kernel
theorem dX12_thing_50 : decode cX12_thing 50 = .ok (.ireturn, 1) := by decide +kernel
theorem dX12_thing_51 : decode cX12_thing 51 = .ok (.aload_n 0, 1) := by decide +kernel
theorem dX12_thing_52 : decode cX12_thing 52 = .ok (.getfield 25, 3) := by decide +kernel
theorem dX12_thing_55 : decode cX12_thing 55 = .ok (.iload_n 1, 1) := by decide +kernel
theorem dX12_thing_56 : decode cX12_thing 56 = .ok (.iaload, 1) := by decide +kernel
theorem dX12_thing_57 : decode cX12_thing 57 = .ok (.ireturn, 1) := by decide +kernel
theorem dX12_thing_58 : decode cX12_thing 58 = .ok (.aload_n 0, 1) := by decide +kernel
theorem dX12_thing_59 : decode cX12_thing 59 = .ok (.getfield 28, 3) := by decide +kernel
theorem dX12_thing_62 : decode cX12_thing 62 = .ok (.iload_n 1, 1) := by decide +kernel
theorem dX12_thing_63 : decode cX12_thing 63 = .ok (.iaload, 1) := by decide +kernel
theorem dX12_thing_64 : decode cX12_thing 64 = .ok (.ireturn, 1) := by decide +kernel
theorem dX12_thing_65 : decode cX12_thing 65 = .ok (.aload_n 0, 1) := by decide +kernel
theorem dX12_thing_66 : decode cX12_thing 66 = .ok (.getfield 31, 3) := by decide +kernel
theorem dX12_thing_69 : decode cX12_thing 69 = .ok (.iload_n 1, 1) := by decide +kernel
theorem dX12_thing_70 : decode cX12_thing 70 = .ok (.iaload, 1) := by decide +kernel
theorem dX12_thing_71 : decode cX12_thing 71 = .ok (.ireturn, 1) := by decide +kernel
theorem dX12_thing_72 : decode cX12_thing 72 = .ok (.aload_n 0, 1) := by decide +kernel
theorem dX12_thing_73 : decode cX12_thing 73 = .ok (.getfield 9, 3) := by decide +kernel
theorem dX12_thing_76 : decode cX12_thing 76 = .ok (.bipush 7, 2) := by decide +kernel
theorem dX12_thing_78 : decode cX12_thing 78 = .ok (.iaload, 1) := by decide +kernel
theorem dX12_thing_79 : decode cX12_thing 79 = .ok (.iload_n 1, 1) := by decide +kernel
theorem dX12_thing_80 : decode cX12_thing 80 = .ok (.ishr, 1) := by decide +kernel
theorem dX12_thing_81 : decode cX12_thing 81 = .ok (.iconst 1, 1) := by decide +kernel
theorem dX12_thing_82 : decode cX12_thing 82 = .ok (.iand, 1) := by decide +kernel
theorem dX12_thing_83 : decode cX12_thing 83 = .ok (.ireturn, 1) := by decide +kernel
theorem dX12_thing_84 : decode cX12_thing 84 = .ok (.iconst (-1), 1) := by decide +kernel
theorem dX12_thing_85 : decode cX12_thing 85 = .ok (.ireturn, 1) := by decide +kernel
abbrev D_X12_thing : Nat := 3
set_option maxRecDepth 100000 in
def f_X12_thing (μ0 : Mm) (a1 : Nat) (x2 : Int32) (x3 : Int32) : Option (Int32 × Mm) :=
 ((ob μ0 a1 12).bind fun _ =>
    (bd (f_X12_isThing μ0 a1 x2) fun v5 μ4 =>
    (if v5 = 0 then
    (some ((-1 : Int32), μ4))
    else
    (if x3 = (0 : Int32) then
    ((gR μ4 a1 12 5).bind fun v14 =>
    ((aI μ4 v14 0 x2).bind fun v15 =>
    (some (v15, μ4))))
    else
    (if x3 = (1 : Int32) then
    ((gR μ4 a1 12 6).bind fun v12 =>
    ((aI μ4 v12 0 x2).bind fun v13 =>
    (some (v13, μ4))))
    else
    (if x3 = (2 : Int32) then
    ((gR μ4 a1 12 7).bind fun v10 =>
    ((aI μ4 v10 0 x2).bind fun v11 =>
    (some (v11, μ4))))
    else
    (if x3 = (3 : Int32) then
    ((gR μ4 a1 12 8).bind fun v8 =>
    ((aI μ4 v8 0 x2).bind fun v9 =>
    (some (v9, μ4))))
    else
    (if x3 = (4 : Int32) then
    ((gR μ4 a1 12 1).bind fun v6 =>
    ((aI μ4 v6 0 (7 : Int32)).bind fun v7 =>
    (some (((v7 >>> (x2 &&& 31)) &&& (1 : Int32)), μ4))))
    else
    (some ((-1 : Int32), μ4))))))))))
set_option maxHeartbeats 4000000 in
set_option maxRecDepth 100000 in
theorem f_X12_thing_ok {l : Launch} {G : GG} {μ0 : Mm} {a1 : Nat} {x2 : Int32} {x3 : Int32} {r : Int32} {μ' : Mm} (hf : f_X12_thing μ0 a1 x2 x3 = some (r, μ')) : EvM l G D_X12_thing yX12_thing cX12_thing 3 (some .int) [.ref a1, .int x2, .int x3] μ0 (some (.int r)) μ' := by
  show Ev l G D_X12_thing yX12_thing cX12_thing 3 (some .int) 0 [(0, .ref a1), (1, .int x2), (2, .int x3)] [] μ0 (some (.int r)) μ'
  unfold f_X12_thing at hf
  refine E_aload_n (pc := 0) dX12_thing_0 rfl ?_
  refine E_iload_n (pc := 1) dX12_thing_1 rfl ?_
  refine E_Vi (pc := 2) (d2 := D_X12_isThing) (ci := 12) [.int x2] dX12_thing_2 ml_X12_431 mf_X12_isThing im_X12_isThing rfl rfl rfl (by decide) (Nat.le_of_ble_eq_true rfl) (Nat.le_of_ble_eq_true rfl) rfl (fun _ _ h => f_X12_isThing_ok h) hf (fun v5 μ4 hf => ?_)
  refine E_if_ne (pc := 5) (tgt := 10) dX12_thing_5 (by decide) hf (fun hf => ?_) (fun hf => ?_)
  · refine E_iconst (pc := 8) (v := (-1 : Int32)) dX12_thing_8 (by decide) ?_
    exact E_iret (pc := 9) dX12_thing_9 rfl hf
  · refine E_iload_n (pc := 10) dX12_thing_10 rfl ?_
    refine ifS hf (fun n11_0 hf => ?_) (fun n11_0 hf => ?_)
    · refine E_tswI (pc := 11) (tgt := 44) (0) dX12_thing_11 (by rw [n11_0]; decide) (by decide) (by decide) rfl (by decide) ?_
      refine E_aload_n (pc := 44) dX12_thing_44 rfl ?_
      refine E_getR (pc := 45) dX12_thing_45 fl_X12_22 hf (fun v14 hf => ?_)
      refine E_iload_n (pc := 48) dX12_thing_48 rfl ?_
      refine E_iald (pc := 49) dX12_thing_49 hf (fun v15 hf => ?_)
      exact E_iret (pc := 50) dX12_thing_50 rfl hf
    · refine ifS hf (fun n11_1 hf => ?_) (fun n11_1 hf => ?_)
      · refine E_tswI (pc := 11) (tgt := 51) (1) dX12_thing_11 (by rw [n11_1]; decide) (by decide) (by decide) rfl (by decide) ?_
        refine E_aload_n (pc := 51) dX12_thing_51 rfl ?_
        refine E_getR (pc := 52) dX12_thing_52 fl_X12_25 hf (fun v12 hf => ?_)
        refine E_iload_n (pc := 55) dX12_thing_55 rfl ?_
        refine E_iald (pc := 56) dX12_thing_56 hf (fun v13 hf => ?_)
        exact E_iret (pc := 57) dX12_thing_57 rfl hf
      · refine ifS hf (fun n11_2 hf => ?_) (fun n11_2 hf => ?_)
        · refine E_tswI (pc := 11) (tgt := 58) (2) dX12_thing_11 (by rw [n11_2]; decide) (by decide) (by decide) rfl (by decide) ?_
          refine E_aload_n (pc := 58) dX12_thing_58 rfl ?_
          refine E_getR (pc := 59) dX12_thing_59 fl_X12_28 hf (fun v10 hf => ?_)
          refine E_iload_n (pc := 62) dX12_thing_62 rfl ?_
          refine E_iald (pc := 63) dX12_thing_63 hf (fun v11 hf => ?_)
          exact E_iret (pc := 64) dX12_thing_64 rfl hf
        · refine ifS hf (fun n11_3 hf => ?_) (fun n11_3 hf => ?_)
          · refine E_tswI (pc := 11) (tgt := 65) (3) dX12_thing_11 (by rw [n11_3]; decide) (by decide) (by decide) rfl (by decide) ?_
            refine E_aload_n (pc := 65) dX12_thing_65 rfl ?_
            refine E_getR (pc := 66) dX12_thing_66 fl_X12_31 hf (fun v8 hf => ?_)
            refine E_iload_n (pc := 69) dX12_thing_69 rfl ?_
            refine E_iald (pc := 70) dX12_thing_70 hf (fun v9 hf => ?_)
            exact E_iret (pc := 71) dX12_thing_71 rfl hf
          · refine ifS hf (fun n11_4 hf => ?_) (fun n11_4 hf => ?_)
            · refine E_tswI (pc := 11) (tgt := 72) (4) dX12_thing_11 (by rw [n11_4]; decide) (by decide) (by decide) rfl (by decide) ?_
              refine E_aload_n (pc := 72) dX12_thing_72 rfl ?_
              refine E_getR (pc := 73) dX12_thing_73 fl_X12_9 hf (fun v6 hf => ?_)
              refine E_bipush (pc := 76) (v := (7 : Int32)) dX12_thing_76 (by decide) ?_
              refine E_iald (pc := 78) dX12_thing_78 hf (fun v7 hf => ?_)
              refine E_iload_n (pc := 79) dX12_thing_79 rfl ?_
              refine E_ishr (pc := 80) dX12_thing_80 ?_
              refine E_iconst (pc := 81) (v := (1 : Int32)) dX12_thing_81 (by decide) ?_
              refine E_iand (pc := 82) dX12_thing_82 ?_
              exact E_iret (pc := 83) dX12_thing_83 rfl hf
            · refine E_tswD (pc := 11) (tgt := 84) dX12_thing_11 (by have q0 : ¬ (x3).toInt = 0 := i32ne n11_0; have q1 : ¬ (x3).toInt = 1 := i32ne n11_1; have q2 : ¬ (x3).toInt = 2 := i32ne n11_2; have q3 : ¬ (x3).toInt = 3 := i32ne n11_3; have q4 : ¬ (x3).toInt = 4 := i32ne n11_4;  omega) (by decide) ?_
              refine E_iconst (pc := 84) (v := (-1 : Int32)) dX12_thing_84 (by decide) ?_
              exact E_iret (pc := 85) dX12_thing_85 rfl hf
theorem dX12_touches_0 : decode cX12_touches 0 = .ok (.aload_n 0, 1) := by decide +kernel
theorem dX12_touches_1 : decode cX12_touches 1 = .ok (.getfield 121, 3) := by decide +kernel
theorem dX12_touches_4 : decode cX12_touches 4 = .ok (.iconst 0, 1) := by decide +kernel
theorem dX12_touches_5 : decode cX12_touches 5 = .ok (.iload_n 1, 1) := by decide +kernel
theorem dX12_touches_6 : decode cX12_touches 6 = .ok (.i2l, 1) := by decide +kernel
theorem dX12_touches_7 : decode cX12_touches 7 = .ok (.lastore, 1) := by decide +kernel
theorem dX12_touches_8 : decode cX12_touches 8 = .ok (.aload_n 0, 1) := by decide +kernel
theorem dX12_touches_9 : decode cX12_touches 9 = .ok (.getfield 121, 3) := by decide +kernel
theorem dX12_touches_12 : decode cX12_touches 12 = .ok (.iconst 1, 1) := by decide +kernel
theorem dX12_touches_13 : decode cX12_touches 13 = .ok (.iload_n 2, 1) := by decide +kernel
theorem dX12_touches_14 : decode cX12_touches 14 = .ok (.i2l, 1) := by decide +kernel
theorem dX12_touches_15 : decode cX12_touches 15 = .ok (.lastore, 1) := by decide +kernel
theorem dX12_touches_16 : decode cX12_touches 16 = .ok (.aload_n 0, 1) := by decide +kernel
theorem dX12_touches_17 : decode cX12_touches 17 = .ok (.getfield 121, 3) := by decide +kernel
theorem dX12_touches_20 : decode cX12_touches 20 = .ok (.iconst 2, 1) := by decide +kernel
theorem dX12_touches_21 : decode cX12_touches 21 = .ok (.aload_n 0, 1) := by decide +kernel
theorem dX12_touches_22 : decode cX12_touches 22 = .ok (.getfield 437, 3) := by decide +kernel
theorem dX12_touches_25 : decode cX12_touches 25 = .ok (.i2l, 1) := by decide +kernel
theorem dX12_touches_26 : decode cX12_touches 26 = .ok (.lastore, 1) := by decide +kernel
theorem dX12_touches_27 : decode cX12_touches 27 = .ok (.aload_n 0, 1) := by decide +kernel
theorem dX12_touches_28 : decode cX12_touches 28 = .ok (.getfield 121, 3) := by decide +kernel
theorem dX12_touches_31 : decode cX12_touches 31 = .ok (.iconst 3, 1) := by decide +kernel
theorem dX12_touches_32 : decode cX12_touches 32 = .ok (.iload 4, 2) := by decide +kernel
theorem dX12_touches_34 : decode cX12_touches 34 = .ok (.i2l, 1) := by decide +kernel
theorem dX12_touches_35 : decode cX12_touches 35 = .ok (.lastore, 1) := by decide +kernel
theorem dX12_touches_36 : decode cX12_touches 36 = .ok (.aload_n 0, 1) := by decide +kernel
theorem dX12_touches_37 : decode cX12_touches 37 = .ok (.getfield 121, 3) := by decide +kernel
theorem dX12_touches_40 : decode cX12_touches 40 = .ok (.iconst 4, 1) := by decide +kernel
theorem dX12_touches_41 : decode cX12_touches 41 = .ok (.aload_n 0, 1) := by decide +kernel
theorem dX12_touches_42 : decode cX12_touches 42 = .ok (.getfield 434, 3) := by decide +kernel
theorem dX12_touches_45 : decode cX12_touches 45 = .ok (.i2l, 1) := by decide +kernel
theorem dX12_touches_46 : decode cX12_touches 46 = .ok (.lastore, 1) := by decide +kernel
theorem dX12_touches_47 : decode cX12_touches 47 = .ok (.aload_n 0, 1) := by decide +kernel
theorem dX12_touches_48 : decode cX12_touches 48 = .ok (.getfield 121, 3) := by decide +kernel
theorem dX12_touches_51 : decode cX12_touches 51 = .ok (.iconst 5, 1) := by decide +kernel
theorem dX12_touches_52 : decode cX12_touches 52 = .ok (.aload_n 0, 1) := by decide +kernel
theorem dX12_touches_53 : decode cX12_touches 53 = .ok (.getfield 13, 3) := by decide +kernel
theorem dX12_touches_56 : decode cX12_touches 56 = .ok (.iload_n 3, 1) := by decide +kernel
theorem dX12_touches_57 : decode cX12_touches 57 = .ok (.iaload, 1) := by decide +kernel
theorem dX12_touches_58 : decode cX12_touches 58 = .ok (.i2l, 1) := by decide +kernel
theorem dX12_touches_59 : decode cX12_touches 59 = .ok (.lastore, 1) := by decide +kernel
theorem dX12_touches_60 : decode cX12_touches 60 = .ok (.aload_n 0, 1) := by decide +kernel
theorem dX12_touches_61 : decode cX12_touches 61 = .ok (.getfield 121, 3) := by decide +kernel
theorem dX12_touches_64 : decode cX12_touches 64 = .ok (.bipush 6, 2) := by decide +kernel
theorem dX12_touches_66 : decode cX12_touches 66 = .ok (.aload_n 0, 1) := by decide +kernel
theorem dX12_touches_67 : decode cX12_touches 67 = .ok (.getfield 28, 3) := by decide +kernel
theorem dX12_touches_70 : decode cX12_touches 70 = .ok (.iload_n 2, 1) := by decide +kernel
theorem dX12_touches_71 : decode cX12_touches 71 = .ok (.iaload, 1) := by decide +kernel
theorem dX12_touches_72 : decode cX12_touches 72 = .ok (.i2l, 1) := by decide +kernel
theorem dX12_touches_73 : decode cX12_touches 73 = .ok (.lastore, 1) := by decide +kernel
theorem dX12_touches_74 : decode cX12_touches 74 = .ok (.aload_n 0, 1) := by decide +kernel
theorem dX12_touches_75 : decode cX12_touches 75 = .ok (.getfield 121, 3) := by decide +kernel
theorem dX12_touches_78 : decode cX12_touches 78 = .ok (.bipush 7, 2) := by decide +kernel
theorem dX12_touches_80 : decode cX12_touches 80 = .ok (.aload_n 0, 1) := by decide +kernel
theorem dX12_touches_81 : decode cX12_touches 81 = .ok (.getfield 31, 3) := by decide +kernel
theorem dX12_touches_84 : decode cX12_touches 84 = .ok (.iload_n 2, 1) := by decide +kernel
theorem dX12_touches_85 : decode cX12_touches 85 = .ok (.iaload, 1) := by decide +kernel
theorem dX12_touches_86 : decode cX12_touches 86 = .ok (.i2l, 1) := by decide +kernel
theorem dX12_touches_87 : decode cX12_touches 87 = .ok (.lastore, 1) := by decide +kernel
theorem dX12_touches_88 : decode cX12_touches 88 = .ok (.aload_n 0, 1) := by decide +kernel
theorem dX12_touches_89 : decode cX12_touches 89 = .ok (.getfield 121, 3) := by decide +kernel
theorem dX12_touches_92 : decode cX12_touches 92 = .ok (.bipush 8, 2) := by decide +kernel
theorem dX12_touches_94 : decode cX12_touches 94 = .ok (.aload_n 0, 1) := by decide +kernel
theorem dX12_touches_95 : decode cX12_touches 95 = .ok (.getfield 25, 3) := by decide +kernel
theorem dX12_touches_98 : decode cX12_touches 98 = .ok (.iload_n 2, 1) := by decide +kernel
theorem dX12_touches_99 : decode cX12_touches 99 = .ok (.iaload, 1) := by decide +kernel
theorem dX12_touches_100 : decode cX12_touches 100 = .ok (.iload_n 1, 1) := by decide +kernel
theorem dX12_touches_101 : decode cX12_touches 101 = .ok (.if_icmp .ne 7, 3) := by decide +kernel
theorem dX12_touches_104 : decode cX12_touches 104 = .ok (.lconst 1, 1) := by decide +kernel
theorem dX12_touches_105 : decode cX12_touches 105 = .ok (.goto 4, 3) := by decide +kernel
theorem dX12_touches_108 : decode cX12_touches 108 = .ok (.lconst 0, 1) := by decide +kernel
theorem dX12_touches_109 : decode cX12_touches 109 = .ok (.lastore, 1) := by decide +kernel
theorem dX12_touches_110 : decode cX12_touches 110 = .ok (.aload_n 0, 1) := by decide +kernel
theorem dX12_touches_111 : decode cX12_touches 111 = .ok (.getfield 121, 3) := by decide +kernel
theorem dX12_touches_114 : decode cX12_touches 114 = .ok (.bipush 9, 2) := by decide +kernel
theorem dX12_touches_116 : decode cX12_touches 116 = .ok (.aload_n 0, 1) := by decide +kernel
theorem dX12_touches_117 : decode cX12_touches 117 = .ok (.getfield 443, 3) := by decide +kernel
theorem dX12_touches_120 : decode cX12_touches 120 = .ok (.invokestatic 453, 3) := by decide +kernel
theorem dX12_touches_123 : decode cX12_touches 123 = .ok (.i2l, 1) := by decide +kernel
theorem dX12_touches_124 : decode cX12_touches 124 = .ok (.lastore, 1) := by decide +kernel
theorem dX12_touches_125 : decode cX12_touches 125 = .ok (.aload_n 0, 1) := by decide +kernel
theorem dX12_touches_126 : decode cX12_touches 126 = .ok (.getfield 121, 3) := by decide +kernel
theorem dX12_touches_129 : decode cX12_touches 129 = .ok (.bipush 10, 2) := by decide +kernel
theorem dX12_touches_131 : decode cX12_touches 131 = .ok (.aload_n 0, 1) := by decide +kernel
theorem dX12_touches_132 : decode cX12_touches 132 = .ok (.getfield 19, 3) := by decide +kernel
theorem dX12_touches_135 : decode cX12_touches 135 = .ok (.iload_n 1, 1) := by decide +kernel
theorem dX12_touches_136 : decode cX12_touches 136 = .ok (.iaload, 1) := by decide +kernel
theorem dX12_touches_137 : decode cX12_touches 137 = .ok (.i2l, 1) := by decide +kernel
theorem dX12_touches_138 : decode cX12_touches 138 = .ok (.lastore, 1) := by decide +kernel
theorem dX12_touches_139 : decode cX12_touches 139 = .ok (.aload_n 0, 1) := by decide +kernel
theorem dX12_touches_140 : decode cX12_touches 140 = .ok (.getfield 121, 3) := by decide +kernel
theorem dX12_touches_143 : decode cX12_touches 143 = .ok (.bipush 11, 2) := by decide +kernel
theorem dX12_touches_145 : decode cX12_touches 145 = .ok (.iload 5, 2) := by decide +kernel
theorem dX12_touches_147 : decode cX12_touches 147 = .ok (.i2l, 1) := by decide +kernel
theorem dX12_touches_148 : decode cX12_touches 148 = .ok (.lastore, 1) := by decide +kernel
theorem dX12_touches_149 : decode cX12_touches 149 = .ok (.aload_n 0, 1) := by decide +kernel
theorem dX12_touches_150 : decode cX12_touches 150 = .ok (.iconst 1, 1) := by decide +kernel
theorem dX12_touches_151 : decode cX12_touches 151 = .ok (.invokevirtual 456, 3) := by decide +kernel
theorem dX12_touches_154 : decode cX12_touches 154 = .ok (.ifCond .eq 13, 3) := by decide +kernel
theorem dX12_touches_157 : decode cX12_touches 157 = .ok (.aload_n 0, 1) := by decide +kernel
theorem dX12_touches_158 : decode cX12_touches 158 = .ok (.invokevirtual 460, 3) := by decide +kernel
theorem dX12_touches_161 : decode cX12_touches 161 = .ok (.ifCond .ne 20, 3) := by decide +kernel
theorem dX12_touches_164 : decode cX12_touches 164 = .ok (.goto 16, 3) := by decide +kernel
theorem dX12_touches_167 : decode cX12_touches 167 = .ok (.aload_n 0, 1) := by decide +kernel
theorem dX12_touches_168 : decode cX12_touches 168 = .ok (.getfield 437, 3) := by decide +kernel
theorem dX12_touches_171 : decode cX12_touches 171 = .ok (.aload_n 0, 1) := by decide +kernel
theorem dX12_touches_172 : decode cX12_touches 172 = .ok (.getfield 28, 3) := by decide +kernel
theorem dX12_touches_175 : decode cX12_touches 175 = .ok (.iload_n 2, 1) := by decide +kernel
theorem dX12_touches_176 : decode cX12_touches 176 = .ok (.iaload, 1) := by decide +kernel
theorem dX12_touches_177 : decode cX12_touches 177 = .ok (.if_icmp .ge 4, 3) := by decide +kernel
theorem dX12_touches_180 : decode cX12_touches 180 = .ok (.return_, 1) := by decide +kernel
theorem dX12_touches_181 : decode cX12_touches 181 = .ok (.aload_n 0, 1) := by decide +kernel
theorem dX12_touches_182 : decode cX12_touches 182 = .ok (.dup, 1) := by decide +kernel
theorem dX12_touches_183 : decode cX12_touches 183 = .ok (.getfield 463, 3) := by decide +kernel
theorem dX12_touches_186 : decode cX12_touches 186 = .ok (.aload_n 0, 1) := by decide +kernel
theorem dX12_touches_187 : decode cX12_touches 187 = .ok (.iconst 0, 1) := by decide +kernel
theorem dX12_touches_188 : decode cX12_touches 188 = .ok (.invokevirtual 456, 3) := by decide +kernel
theorem dX12_touches_191 : decode cX12_touches 191 = .ok (.ifCond .eq 10, 3) := by decide +kernel
theorem dX12_touches_194 : decode cX12_touches 194 = .ok (.aload_n 0, 1) := by decide +kernel
theorem dX12_touches_195 : decode cX12_touches 195 = .ok (.invokevirtual 466, 3) := by decide +kernel
theorem dX12_touches_198 : decode cX12_touches 198 = .ok (.goto 23, 3) := by decide +kernel
theorem dX12_touches_201 : decode cX12_touches 201 = .ok (.aload_n 0, 1) := by decide +kernel
theorem dX12_touches_202 : decode cX12_touches 202 = .ok (.getfield 25, 3) := by decide +kernel
theorem dX12_touches_205 : decode cX12_touches 205 = .ok (.iload_n 2, 1) := by decide +kernel
theorem dX12_touches_206 : decode cX12_touches 206 = .ok (.iaload, 1) := by decide +kernel
theorem dX12_touches_207 : decode cX12_touches 207 = .ok (.iload_n 1, 1) := by decide +kernel
theorem dX12_touches_208 : decode cX12_touches 208 = .ok (.if_icmp .ne 7, 3) := by decide +kernel
theorem dX12_touches_211 : decode cX12_touches 211 = .ok (.iconst 0, 1) := by decide +kernel
theorem dX12_touches_212 : decode cX12_touches 212 = .ok (.goto 9, 3) := by decide +kernel
theorem dX12_touches_215 : decode cX12_touches 215 = .ok (.aload_n 0, 1) := by decide +kernel
theorem dX12_touches_216 : decode cX12_touches 216 = .ok (.getfield 31, 3) := by decide +kernel
theorem dX12_touches_219 : decode cX12_touches 219 = .ok (.iload_n 2, 1) := by decide +kernel
theorem dX12_touches_220 : decode cX12_touches 220 = .ok (.iaload, 1) := by decide +kernel
theorem dX12_touches_221 : decode cX12_touches 221 = .ok (.iadd, 1) := by decide +kernel
theorem dX12_touches_222 : decode cX12_touches 222 = .ok (.putfield 463, 3) := by decide +kernel
theorem dX12_touches_225 : decode cX12_touches 225 = .ok (.aload_n 0, 1) := by decide +kernel
theorem dX12_touches_226 : decode cX12_touches 226 = .ok (.dup, 1) := by decide +kernel
theorem dX12_touches_227 : decode cX12_touches 227 = .ok (.getfield 443, 3) := by decide +kernel
theorem dX12_touches_230 : decode cX12_touches 230 = .ok (.iconst 1, 1) := by decide +kernel
theorem dX12_touches_231 : decode cX12_touches 231 = .ok (.iload_n 2, 1) := by decide +kernel
theorem dX12_touches_232 : decode cX12_touches 232 = .ok (.ishl, 1) := by decide +kernel
theorem dX12_touches_233 : decode cX12_touches 233 = .ok (.ior, 1) := by decide +kernel
theorem dX12_touches_234 : decode cX12_touches 234 = .ok (.putfield 443, 3) := by decide +kernel
theorem dX12_touches_237 : decode cX12_touches 237 = .ok (.return_, 1) := by decide +kernel
abbrev D_X12_touches : Nat := 5
set_option maxRecDepth 100000 in
def f_X12_touches (μ0 : Mm) (a1 : Nat) (x2 : Int32) (x3 : Int32) (x4 : Int32) (x5 : Int32) (x6 : Int32) : Option Mm :=
 ((gR μ0 a1 12 47).bind fun v7 =>
    ((sL μ0 v7 3 (0 : Int32) (x2).toInt64).bind fun μ8 =>
    ((gR μ8 a1 12 47).bind fun v9 =>
    ((sL μ8 v9 3 (1 : Int32) (x3).toInt64).bind fun μ10 =>
    ((gR μ10 a1 12 47).bind fun v11 =>
    ((gI μ10 a1 12 49).bind fun v12 =>
    ((sL μ10 v11 3 (2 : Int32) (v12).toInt64).bind fun μ13 =>
    ((gR μ13 a1 12 47).bind fun v14 =>
    ((sL μ13 v14 3 (3 : Int32) (x5).toInt64).bind fun μ15 =>
    ((gR μ15 a1 12 47).bind fun v16 =>
    ((gI μ15 a1 12 50).bind fun v17 =>
    ((sL μ15 v16 3 (4 : Int32) (v17).toInt64).bind fun μ18 =>
    ((gR μ18 a1 12 47).bind fun v19 =>
    ((gR μ18 a1 12 2).bind fun v20 =>
    ((aI μ18 v20 0 x4).bind fun v21 =>
    ((sL μ18 v19 3 (5 : Int32) (v21).toInt64).bind fun μ22 =>
    ((gR μ22 a1 12 47).bind fun v23 =>
    ((gR μ22 a1 12 7).bind fun v24 =>
    ((aI μ22 v24 0 x3).bind fun v25 =>
    ((sL μ22 v23 3 (6 : Int32) (v25).toInt64).bind fun μ26 =>
    ((gR μ26 a1 12 47).bind fun v27 =>
    ((gR μ26 a1 12 8).bind fun v28 =>
    ((aI μ26 v28 0 x3).bind fun v29 =>
    ((sL μ26 v27 3 (7 : Int32) (v29).toInt64).bind fun μ30 =>
    ((gR μ30 a1 12 47).bind fun v31 =>
    ((gR μ30 a1 12 6).bind fun v32 =>
    ((aI μ30 v32 0 x3).bind fun v33 =>
    (if v33 = x2 then
    ((sL μ30 v31 3 (8 : Int32) (1 : Int64)).bind fun μ34 =>
    ((gR μ34 a1 12 47).bind fun v35 =>
    ((gI μ34 a1 12 51).bind fun v36 =>
    (bd (f_X12_bits μ34 v36) fun v38 μ37 =>
    ((sL μ37 v35 3 (9 : Int32) (v38).toInt64).bind fun μ39 =>
    ((gR μ39 a1 12 47).bind fun v40 =>
    ((gR μ39 a1 12 4).bind fun v41 =>
    ((aI μ39 v41 0 x2).bind fun v42 =>
    ((sL μ39 v40 3 (10 : Int32) (v42).toInt64).bind fun μ43 =>
    ((gR μ43 a1 12 47).bind fun v44 =>
    ((sL μ43 v44 3 (11 : Int32) (x6).toInt64).bind fun μ45 =>
    ((ob μ45 a1 12).bind fun _ =>
    (bd (f_X12_tells μ45 a1 (1 : Int32)) fun v47 μ46 =>
    (if v47 = 0 then
    ((gI μ46 a1 12 49).bind fun v48 =>
    ((gR μ46 a1 12 7).bind fun v49 =>
    ((aI μ46 v49 0 x3).bind fun v50 =>
    (if v50 ≤ v48 then
    ((gI μ46 a1 12 52).bind fun v51 =>
    ((ob μ46 a1 12).bind fun _ =>
    (bd (f_X12_tells μ46 a1 (0 : Int32)) fun v53 μ52 =>
    (if v53 = 0 then
    ((gR μ52 a1 12 6).bind fun v54 =>
    ((aI μ52 v54 0 x3).bind fun v55 =>
    (if v55 = x2 then
    ((pV μ52 a1 12 52 (.int (v51 + (0 : Int32)))).bind fun μ56 =>
    ((gI μ56 a1 12 51).bind fun v57 =>
    ((pV μ56 a1 12 51 (.int (v57 ||| ((1 : Int32) <<< (x3 &&& 31))))).bind fun μ58 =>
    (some μ58))))
    else
    ((gR μ52 a1 12 8).bind fun v59 =>
    ((aI μ52 v59 0 x3).bind fun v60 =>
    ((pV μ52 a1 12 52 (.int (v51 + v60))).bind fun μ61 =>
    ((gI μ61 a1 12 51).bind fun v62 =>
    ((pV μ61 a1 12 51 (.int (v62 ||| ((1 : Int32) <<< (x3 &&& 31))))).bind fun μ63 =>
    (some μ63)))))))))
    else
    ((ob μ52 a1 12).bind fun _ =>
    (bd (f_X12_marked μ52 a1) fun v65 μ64 =>
    ((pV μ64 a1 12 52 (.int (v51 + v65))).bind fun μ66 =>
    ((gI μ66 a1 12 51).bind fun v67 =>
    ((pV μ66 a1 12 51 (.int (v67 ||| ((1 : Int32) <<< (x3 &&& 31))))).bind fun μ68 =>
    (some μ68))))))))))
    else
    (some μ46)))))
    else
    ((ob μ46 a1 12).bind fun _ =>
    (bd (f_X12_isBroken μ46 a1) fun v70 μ69 =>
    (if v70 = 0 then
    (some μ69)
    else
    ((gI μ69 a1 12 52).bind fun v71 =>
    ((ob μ69 a1 12).bind fun _ =>
    (bd (f_X12_tells μ69 a1 (0 : Int32)) fun v73 μ72 =>
    (if v73 = 0 then
    ((gR μ72 a1 12 6).bind fun v74 =>
    ((aI μ72 v74 0 x3).bind fun v75 =>
    (if v75 = x2 then
    ((pV μ72 a1 12 52 (.int (v71 + (0 : Int32)))).bind fun μ76 =>
    ((gI μ76 a1 12 51).bind fun v77 =>
    ((pV μ76 a1 12 51 (.int (v77 ||| ((1 : Int32) <<< (x3 &&& 31))))).bind fun μ78 =>
    (some μ78))))
    else
    ((gR μ72 a1 12 8).bind fun v79 =>
    ((aI μ72 v79 0 x3).bind fun v80 =>
    ((pV μ72 a1 12 52 (.int (v71 + v80))).bind fun μ81 =>
    ((gI μ81 a1 12 51).bind fun v82 =>
    ((pV μ81 a1 12 51 (.int (v82 ||| ((1 : Int32) <<< (x3 &&& 31))))).bind fun μ83 =>
    (some μ83)))))))))
    else
    ((ob μ72 a1 12).bind fun _ =>
    (bd (f_X12_marked μ72 a1) fun v85 μ84 =>
    ((pV μ84 a1 12 52 (.int (v71 + v85))).bind fun μ86 =>
    ((gI μ86 a1 12 51).bind fun v87 =>
    ((pV μ86 a1 12 51 (.int (v87 ||| ((1 : Int32) <<< (x3 &&& 31))))).bind fun μ88 =>
    (some μ88)))))))))))))))))))))))))))
    else
    ((sL μ30 v31 3 (8 : Int32) (0 : Int64)).bind fun μ89 =>
    ((gR μ89 a1 12 47).bind fun v90 =>
    ((gI μ89 a1 12 51).bind fun v91 =>
    (bd (f_X12_bits μ89 v91) fun v93 μ92 =>
    ((sL μ92 v90 3 (9 : Int32) (v93).toInt64).bind fun μ94 =>
    ((gR μ94 a1 12 47).bind fun v95 =>
    ((gR μ94 a1 12 4).bind fun v96 =>
    ((aI μ94 v96 0 x2).bind fun v97 =>
    ((sL μ94 v95 3 (10 : Int32) (v97).toInt64).bind fun μ98 =>
    ((gR μ98 a1 12 47).bind fun v99 =>
    ((sL μ98 v99 3 (11 : Int32) (x6).toInt64).bind fun μ100 =>
    ((ob μ100 a1 12).bind fun _ =>
    (bd (f_X12_tells μ100 a1 (1 : Int32)) fun v102 μ101 =>
    (if v102 = 0 then
    ((gI μ101 a1 12 49).bind fun v103 =>
    ((gR μ101 a1 12 7).bind fun v104 =>
    ((aI μ101 v104 0 x3).bind fun v105 =>
    (if v105 ≤ v103 then
    ((gI μ101 a1 12 52).bind fun v106 =>
    ((ob μ101 a1 12).bind fun _ =>
    (bd (f_X12_tells μ101 a1 (0 : Int32)) fun v108 μ107 =>
    (if v108 = 0 then
    ((gR μ107 a1 12 6).bind fun v109 =>
    ((aI μ107 v109 0 x3).bind fun v110 =>
    (if v110 = x2 then
    ((pV μ107 a1 12 52 (.int (v106 + (0 : Int32)))).bind fun μ111 =>
    ((gI μ111 a1 12 51).bind fun v112 =>
    ((pV μ111 a1 12 51 (.int (v112 ||| ((1 : Int32) <<< (x3 &&& 31))))).bind fun μ113 =>
    (some μ113))))
    else
    ((gR μ107 a1 12 8).bind fun v114 =>
    ((aI μ107 v114 0 x3).bind fun v115 =>
    ((pV μ107 a1 12 52 (.int (v106 + v115))).bind fun μ116 =>
    ((gI μ116 a1 12 51).bind fun v117 =>
    ((pV μ116 a1 12 51 (.int (v117 ||| ((1 : Int32) <<< (x3 &&& 31))))).bind fun μ118 =>
    (some μ118)))))))))
    else
    ((ob μ107 a1 12).bind fun _ =>
    (bd (f_X12_marked μ107 a1) fun v120 μ119 =>
    ((pV μ119 a1 12 52 (.int (v106 + v120))).bind fun μ121 =>
    ((gI μ121 a1 12 51).bind fun v122 =>
    ((pV μ121 a1 12 51 (.int (v122 ||| ((1 : Int32) <<< (x3 &&& 31))))).bind fun μ123 =>
    (some μ123))))))))))
    else
    (some μ101)))))
    else
    ((ob μ101 a1 12).bind fun _ =>
    (bd (f_X12_isBroken μ101 a1) fun v125 μ124 =>
    (if v125 = 0 then
    (some μ124)
    else
    ((gI μ124 a1 12 52).bind fun v126 =>
    ((ob μ124 a1 12).bind fun _ =>
    (bd (f_X12_tells μ124 a1 (0 : Int32)) fun v128 μ127 =>
    (if v128 = 0 then
    ((gR μ127 a1 12 6).bind fun v129 =>
    ((aI μ127 v129 0 x3).bind fun v130 =>
    (if v130 = x2 then
    ((pV μ127 a1 12 52 (.int (v126 + (0 : Int32)))).bind fun μ131 =>
    ((gI μ131 a1 12 51).bind fun v132 =>
    ((pV μ131 a1 12 51 (.int (v132 ||| ((1 : Int32) <<< (x3 &&& 31))))).bind fun μ133 =>
    (some μ133))))
    else
    ((gR μ127 a1 12 8).bind fun v134 =>
    ((aI μ127 v134 0 x3).bind fun v135 =>
    ((pV μ127 a1 12 52 (.int (v126 + v135))).bind fun μ136 =>
    ((gI μ136 a1 12 51).bind fun v137 =>
    ((pV μ136 a1 12 51 (.int (v137 ||| ((1 : Int32) <<< (x3 &&& 31))))).bind fun μ138 =>
    (some μ138)))))))))
    else
    ((ob μ127 a1 12).bind fun _ =>
    (bd (f_X12_marked μ127 a1) fun v140 μ139 =>
    ((pV μ139 a1 12 52 (.int (v126 + v140))).bind fun μ141 =>
    ((gI μ141 a1 12 51).bind fun v142 =>
    ((pV μ141 a1 12 51 (.int (v142 ||| ((1 : Int32) <<< (x3 &&& 31))))).bind fun μ143 =>
    (some μ143)))))))))))))))))))))))))))))))))))))))))))))))))))))))
set_option maxHeartbeats 4000000 in
set_option maxRecDepth 100000 in
theorem f_X12_touches_ok {l : Launch} {G : GG} {μ0 : Mm} {a1 : Nat} {x2 : Int32} {x3 : Int32} {x4 : Int32} {x5 : Int32} {x6 : Int32} {μ' : Mm} (hf : f_X12_touches μ0 a1 x2 x3 x4 x5 x6 = some μ') : EvM l G D_X12_touches yX12_touches cX12_touches 6 none [.ref a1, .int x2, .int x3, .int x4, .int x5, .int x6] μ0 none μ' := by
  show Ev l G D_X12_touches yX12_touches cX12_touches 6 none 0 [(0, .ref a1), (1, .int x2), (2, .int x3), (3, .int x4), (4, .int x5), (5, .int x6)] [] μ0 none μ'
  unfold f_X12_touches at hf
  refine E_aload_n (pc := 0) dX12_touches_0 rfl ?_
  refine E_getR (pc := 1) dX12_touches_1 fl_X12_121 hf (fun v7 hf => ?_)
  refine E_iconst (pc := 4) (v := (0 : Int32)) dX12_touches_4 (by decide) ?_
  refine E_iload_n (pc := 5) dX12_touches_5 rfl ?_
  refine E_i2l (pc := 6) dX12_touches_6 ?_
  refine E_last (pc := 7) dX12_touches_7 hf (fun μ8 hf => ?_)
  refine E_aload_n (pc := 8) dX12_touches_8 rfl ?_
  refine E_getR (pc := 9) dX12_touches_9 fl_X12_121 hf (fun v9 hf => ?_)
  refine E_iconst (pc := 12) (v := (1 : Int32)) dX12_touches_12 (by decide) ?_
  refine E_iload_n (pc := 13) dX12_touches_13 rfl ?_
  refine E_i2l (pc := 14) dX12_touches_14 ?_
  refine E_last (pc := 15) dX12_touches_15 hf (fun μ10 hf => ?_)
  refine E_aload_n (pc := 16) dX12_touches_16 rfl ?_
  refine E_getR (pc := 17) dX12_touches_17 fl_X12_121 hf (fun v11 hf => ?_)
  refine E_iconst (pc := 20) (v := (2 : Int32)) dX12_touches_20 (by decide) ?_
  refine E_aload_n (pc := 21) dX12_touches_21 rfl ?_
  refine E_getI (pc := 22) dX12_touches_22 fl_X12_437 hf (fun v12 hf => ?_)
  refine E_i2l (pc := 25) dX12_touches_25 ?_
  refine E_last (pc := 26) dX12_touches_26 hf (fun μ13 hf => ?_)
  refine E_aload_n (pc := 27) dX12_touches_27 rfl ?_
  refine E_getR (pc := 28) dX12_touches_28 fl_X12_121 hf (fun v14 hf => ?_)
  refine E_iconst (pc := 31) (v := (3 : Int32)) dX12_touches_31 (by decide) ?_
  refine E_iload (pc := 32) dX12_touches_32 rfl ?_
  refine E_i2l (pc := 34) dX12_touches_34 ?_
  refine E_last (pc := 35) dX12_touches_35 hf (fun μ15 hf => ?_)
  refine E_aload_n (pc := 36) dX12_touches_36 rfl ?_
  refine E_getR (pc := 37) dX12_touches_37 fl_X12_121 hf (fun v16 hf => ?_)
  refine E_iconst (pc := 40) (v := (4 : Int32)) dX12_touches_40 (by decide) ?_
  refine E_aload_n (pc := 41) dX12_touches_41 rfl ?_
  refine E_getI (pc := 42) dX12_touches_42 fl_X12_434 hf (fun v17 hf => ?_)
  refine E_i2l (pc := 45) dX12_touches_45 ?_
  refine E_last (pc := 46) dX12_touches_46 hf (fun μ18 hf => ?_)
  refine E_aload_n (pc := 47) dX12_touches_47 rfl ?_
  refine E_getR (pc := 48) dX12_touches_48 fl_X12_121 hf (fun v19 hf => ?_)
  refine E_iconst (pc := 51) (v := (5 : Int32)) dX12_touches_51 (by decide) ?_
  refine E_aload_n (pc := 52) dX12_touches_52 rfl ?_
  refine E_getR (pc := 53) dX12_touches_53 fl_X12_13 hf (fun v20 hf => ?_)
  refine E_iload_n (pc := 56) dX12_touches_56 rfl ?_
  refine E_iald (pc := 57) dX12_touches_57 hf (fun v21 hf => ?_)
  refine E_i2l (pc := 58) dX12_touches_58 ?_
  refine E_last (pc := 59) dX12_touches_59 hf (fun μ22 hf => ?_)
  refine E_aload_n (pc := 60) dX12_touches_60 rfl ?_
  refine E_getR (pc := 61) dX12_touches_61 fl_X12_121 hf (fun v23 hf => ?_)
  refine E_bipush (pc := 64) (v := (6 : Int32)) dX12_touches_64 (by decide) ?_
  refine E_aload_n (pc := 66) dX12_touches_66 rfl ?_
  refine E_getR (pc := 67) dX12_touches_67 fl_X12_28 hf (fun v24 hf => ?_)
  refine E_iload_n (pc := 70) dX12_touches_70 rfl ?_
  refine E_iald (pc := 71) dX12_touches_71 hf (fun v25 hf => ?_)
  refine E_i2l (pc := 72) dX12_touches_72 ?_
  refine E_last (pc := 73) dX12_touches_73 hf (fun μ26 hf => ?_)
  refine E_aload_n (pc := 74) dX12_touches_74 rfl ?_
  refine E_getR (pc := 75) dX12_touches_75 fl_X12_121 hf (fun v27 hf => ?_)
  refine E_bipush (pc := 78) (v := (7 : Int32)) dX12_touches_78 (by decide) ?_
  refine E_aload_n (pc := 80) dX12_touches_80 rfl ?_
  refine E_getR (pc := 81) dX12_touches_81 fl_X12_31 hf (fun v28 hf => ?_)
  refine E_iload_n (pc := 84) dX12_touches_84 rfl ?_
  refine E_iald (pc := 85) dX12_touches_85 hf (fun v29 hf => ?_)
  refine E_i2l (pc := 86) dX12_touches_86 ?_
  refine E_last (pc := 87) dX12_touches_87 hf (fun μ30 hf => ?_)
  refine E_aload_n (pc := 88) dX12_touches_88 rfl ?_
  refine E_getR (pc := 89) dX12_touches_89 fl_X12_121 hf (fun v31 hf => ?_)
  refine E_bipush (pc := 92) (v := (8 : Int32)) dX12_touches_92 (by decide) ?_
  refine E_aload_n (pc := 94) dX12_touches_94 rfl ?_
  refine E_getR (pc := 95) dX12_touches_95 fl_X12_25 hf (fun v32 hf => ?_)
  refine E_iload_n (pc := 98) dX12_touches_98 rfl ?_
  refine E_iald (pc := 99) dX12_touches_99 hf (fun v33 hf => ?_)
  refine E_iload_n (pc := 100) dX12_touches_100 rfl ?_
  refine E_icmp_ne (pc := 101) (tgt := 108) dX12_touches_101 (by decide) hf (fun hf => ?_) (fun hf => ?_)
  · refine E_lconst (pc := 104) (v := (1 : Int64)) dX12_touches_104 (by decide) ?_
    refine E_goto (pc := 105) (tgt := 109) dX12_touches_105 (by decide) ?_
    refine E_last (pc := 109) dX12_touches_109 hf (fun μ34 hf => ?_)
    refine E_aload_n (pc := 110) dX12_touches_110 rfl ?_
    refine E_getR (pc := 111) dX12_touches_111 fl_X12_121 hf (fun v35 hf => ?_)
    refine E_bipush (pc := 114) (v := (9 : Int32)) dX12_touches_114 (by decide) ?_
    refine E_aload_n (pc := 116) dX12_touches_116 rfl ?_
    refine E_getI (pc := 117) dX12_touches_117 fl_X12_443 hf (fun v36 hf => ?_)
    refine E_Si (pc := 120) (d2 := D_X12_bits) [.int v36] dX12_touches_120 ml_X12_453 mf_X12_bits st_X12_bits rfl (by decide) (Nat.le_of_ble_eq_true rfl) (Nat.le_of_ble_eq_true rfl) rfl (fun _ _ h => f_X12_bits_ok h) hf (fun v38 μ37 hf => ?_)
    refine E_i2l (pc := 123) dX12_touches_123 ?_
    refine E_last (pc := 124) dX12_touches_124 hf (fun μ39 hf => ?_)
    refine E_aload_n (pc := 125) dX12_touches_125 rfl ?_
    refine E_getR (pc := 126) dX12_touches_126 fl_X12_121 hf (fun v40 hf => ?_)
    refine E_bipush (pc := 129) (v := (10 : Int32)) dX12_touches_129 (by decide) ?_
    refine E_aload_n (pc := 131) dX12_touches_131 rfl ?_
    refine E_getR (pc := 132) dX12_touches_132 fl_X12_19 hf (fun v41 hf => ?_)
    refine E_iload_n (pc := 135) dX12_touches_135 rfl ?_
    refine E_iald (pc := 136) dX12_touches_136 hf (fun v42 hf => ?_)
    refine E_i2l (pc := 137) dX12_touches_137 ?_
    refine E_last (pc := 138) dX12_touches_138 hf (fun μ43 hf => ?_)
    refine E_aload_n (pc := 139) dX12_touches_139 rfl ?_
    refine E_getR (pc := 140) dX12_touches_140 fl_X12_121 hf (fun v44 hf => ?_)
    refine E_bipush (pc := 143) (v := (11 : Int32)) dX12_touches_143 (by decide) ?_
    refine E_iload (pc := 145) dX12_touches_145 rfl ?_
    refine E_i2l (pc := 147) dX12_touches_147 ?_
    refine E_last (pc := 148) dX12_touches_148 hf (fun μ45 hf => ?_)
    refine E_aload_n (pc := 149) dX12_touches_149 rfl ?_
    refine E_iconst (pc := 150) (v := (1 : Int32)) dX12_touches_150 (by decide) ?_
    refine E_Vi (pc := 151) (d2 := D_X12_tells) (ci := 12) [.int (1 : Int32)] dX12_touches_151 ml_X12_456 mf_X12_tells im_X12_tells rfl rfl rfl (by decide) (Nat.le_of_ble_eq_true rfl) (Nat.le_of_ble_eq_true rfl) rfl (fun _ _ h => f_X12_tells_ok h) hf (fun v47 μ46 hf => ?_)
    refine E_if_eq (pc := 154) (tgt := 167) dX12_touches_154 (by decide) hf (fun hf => ?_) (fun hf => ?_)
    · refine E_aload_n (pc := 167) dX12_touches_167 rfl ?_
      refine E_getI (pc := 168) dX12_touches_168 fl_X12_437 hf (fun v48 hf => ?_)
      refine E_aload_n (pc := 171) dX12_touches_171 rfl ?_
      refine E_getR (pc := 172) dX12_touches_172 fl_X12_28 hf (fun v49 hf => ?_)
      refine E_iload_n (pc := 175) dX12_touches_175 rfl ?_
      refine E_iald (pc := 176) dX12_touches_176 hf (fun v50 hf => ?_)
      refine E_icmp_ge (pc := 177) (tgt := 181) dX12_touches_177 (by decide) hf (fun hf => ?_) (fun hf => ?_)
      · refine E_aload_n (pc := 181) dX12_touches_181 rfl ?_
        refine E_dup (pc := 182) dX12_touches_182 rfl ?_
        refine E_getI (pc := 183) dX12_touches_183 fl_X12_463 hf (fun v51 hf => ?_)
        refine E_aload_n (pc := 186) dX12_touches_186 rfl ?_
        refine E_iconst (pc := 187) (v := (0 : Int32)) dX12_touches_187 (by decide) ?_
        refine E_Vi (pc := 188) (d2 := D_X12_tells) (ci := 12) [.int (0 : Int32)] dX12_touches_188 ml_X12_456 mf_X12_tells im_X12_tells rfl rfl rfl (by decide) (Nat.le_of_ble_eq_true rfl) (Nat.le_of_ble_eq_true rfl) rfl (fun _ _ h => f_X12_tells_ok h) hf (fun v53 μ52 hf => ?_)
        refine E_if_eq (pc := 191) (tgt := 201) dX12_touches_191 (by decide) hf (fun hf => ?_) (fun hf => ?_)
        · refine E_aload_n (pc := 201) dX12_touches_201 rfl ?_
          refine E_getR (pc := 202) dX12_touches_202 fl_X12_25 hf (fun v54 hf => ?_)
          refine E_iload_n (pc := 205) dX12_touches_205 rfl ?_
          refine E_iald (pc := 206) dX12_touches_206 hf (fun v55 hf => ?_)
          refine E_iload_n (pc := 207) dX12_touches_207 rfl ?_
          refine E_icmp_ne (pc := 208) (tgt := 215) dX12_touches_208 (by decide) hf (fun hf => ?_) (fun hf => ?_)
          · refine E_iconst (pc := 211) (v := (0 : Int32)) dX12_touches_211 (by decide) ?_
            refine E_goto (pc := 212) (tgt := 221) dX12_touches_212 (by decide) ?_
            refine E_iadd (pc := 221) dX12_touches_221 ?_
            refine E_putI (pc := 222) dX12_touches_222 (pl_X12_463 _) hf (fun μ56 hf => ?_)
            refine E_aload_n (pc := 225) dX12_touches_225 rfl ?_
            refine E_dup (pc := 226) dX12_touches_226 rfl ?_
            refine E_getI (pc := 227) dX12_touches_227 fl_X12_443 hf (fun v57 hf => ?_)
            refine E_iconst (pc := 230) (v := (1 : Int32)) dX12_touches_230 (by decide) ?_
            refine E_iload_n (pc := 231) dX12_touches_231 rfl ?_
            refine E_ishl (pc := 232) dX12_touches_232 ?_
            refine E_ior (pc := 233) dX12_touches_233 ?_
            refine E_putI (pc := 234) dX12_touches_234 (pl_X12_443 _) hf (fun μ58 hf => ?_)
            exact E_vret (pc := 237) dX12_touches_237 rfl hf
          · refine E_aload_n (pc := 215) dX12_touches_215 rfl ?_
            refine E_getR (pc := 216) dX12_touches_216 fl_X12_31 hf (fun v59 hf => ?_)
            refine E_iload_n (pc := 219) dX12_touches_219 rfl ?_
            refine E_iald (pc := 220) dX12_touches_220 hf (fun v60 hf => ?_)
            refine E_iadd (pc := 221) dX12_touches_221 ?_
            refine E_putI (pc := 222) dX12_touches_222 (pl_X12_463 _) hf (fun μ61 hf => ?_)
            refine E_aload_n (pc := 225) dX12_touches_225 rfl ?_
            refine E_dup (pc := 226) dX12_touches_226 rfl ?_
            refine E_getI (pc := 227) dX12_touches_227 fl_X12_443 hf (fun v62 hf => ?_)
            refine E_iconst (pc := 230) (v := (1 : Int32)) dX12_touches_230 (by decide) ?_
            refine E_iload_n (pc := 231) dX12_touches_231 rfl ?_
            refine E_ishl (pc := 232) dX12_touches_232 ?_
            refine E_ior (pc := 233) dX12_touches_233 ?_
            refine E_putI (pc := 234) dX12_touches_234 (pl_X12_443 _) hf (fun μ63 hf => ?_)
            exact E_vret (pc := 237) dX12_touches_237 rfl hf
        · refine E_aload_n (pc := 194) dX12_touches_194 rfl ?_
          refine E_Vi (pc := 195) (d2 := D_X12_marked) (ci := 12) [] dX12_touches_195 ml_X12_466 mf_X12_marked im_X12_marked rfl rfl rfl (by decide) (Nat.le_of_ble_eq_true rfl) (Nat.le_of_ble_eq_true rfl) rfl (fun _ _ h => f_X12_marked_ok h) hf (fun v65 μ64 hf => ?_)
          refine E_goto (pc := 198) (tgt := 221) dX12_touches_198 (by decide) ?_
          refine E_iadd (pc := 221) dX12_touches_221 ?_
          refine E_putI (pc := 222) dX12_touches_222 (pl_X12_463 _) hf (fun μ66 hf => ?_)
          refine E_aload_n (pc := 225) dX12_touches_225 rfl ?_
          refine E_dup (pc := 226) dX12_touches_226 rfl ?_
          refine E_getI (pc := 227) dX12_touches_227 fl_X12_443 hf (fun v67 hf => ?_)
          refine E_iconst (pc := 230) (v := (1 : Int32)) dX12_touches_230 (by decide) ?_
          refine E_iload_n (pc := 231) dX12_touches_231 rfl ?_
          refine E_ishl (pc := 232) dX12_touches_232 ?_
          refine E_ior (pc := 233) dX12_touches_233 ?_
          refine E_putI (pc := 234) dX12_touches_234 (pl_X12_443 _) hf (fun μ68 hf => ?_)
          exact E_vret (pc := 237) dX12_touches_237 rfl hf
      · exact E_vret (pc := 180) dX12_touches_180 rfl hf
    · refine E_aload_n (pc := 157) dX12_touches_157 rfl ?_
      refine E_Vi (pc := 158) (d2 := D_X12_isBroken) (ci := 12) [] dX12_touches_158 ml_X12_460 mf_X12_isBroken im_X12_isBroken rfl rfl rfl (by decide) (Nat.le_of_ble_eq_true rfl) (Nat.le_of_ble_eq_true rfl) rfl (fun _ _ h => f_X12_isBroken_ok h) hf (fun v70 μ69 hf => ?_)
      refine E_if_ne (pc := 161) (tgt := 181) dX12_touches_161 (by decide) hf (fun hf => ?_) (fun hf => ?_)
      · refine E_goto (pc := 164) (tgt := 180) dX12_touches_164 (by decide) ?_
        exact E_vret (pc := 180) dX12_touches_180 rfl hf
      · refine E_aload_n (pc := 181) dX12_touches_181 rfl ?_
        refine E_dup (pc := 182) dX12_touches_182 rfl ?_
        refine E_getI (pc := 183) dX12_touches_183 fl_X12_463 hf (fun v71 hf => ?_)
        refine E_aload_n (pc := 186) dX12_touches_186 rfl ?_
        refine E_iconst (pc := 187) (v := (0 : Int32)) dX12_touches_187 (by decide) ?_
        refine E_Vi (pc := 188) (d2 := D_X12_tells) (ci := 12) [.int (0 : Int32)] dX12_touches_188 ml_X12_456 mf_X12_tells im_X12_tells rfl rfl rfl (by decide) (Nat.le_of_ble_eq_true rfl) (Nat.le_of_ble_eq_true rfl) rfl (fun _ _ h => f_X12_tells_ok h) hf (fun v73 μ72 hf => ?_)
        refine E_if_eq (pc := 191) (tgt := 201) dX12_touches_191 (by decide) hf (fun hf => ?_) (fun hf => ?_)
        · refine E_aload_n (pc := 201) dX12_touches_201 rfl ?_
          refine E_getR (pc := 202) dX12_touches_202 fl_X12_25 hf (fun v74 hf => ?_)
          refine E_iload_n (pc := 205) dX12_touches_205 rfl ?_
          refine E_iald (pc := 206) dX12_touches_206 hf (fun v75 hf => ?_)
          refine E_iload_n (pc := 207) dX12_touches_207 rfl ?_
          refine E_icmp_ne (pc := 208) (tgt := 215) dX12_touches_208 (by decide) hf (fun hf => ?_) (fun hf => ?_)
          · refine E_iconst (pc := 211) (v := (0 : Int32)) dX12_touches_211 (by decide) ?_
            refine E_goto (pc := 212) (tgt := 221) dX12_touches_212 (by decide) ?_
            refine E_iadd (pc := 221) dX12_touches_221 ?_
            refine E_putI (pc := 222) dX12_touches_222 (pl_X12_463 _) hf (fun μ76 hf => ?_)
            refine E_aload_n (pc := 225) dX12_touches_225 rfl ?_
            refine E_dup (pc := 226) dX12_touches_226 rfl ?_
            refine E_getI (pc := 227) dX12_touches_227 fl_X12_443 hf (fun v77 hf => ?_)
            refine E_iconst (pc := 230) (v := (1 : Int32)) dX12_touches_230 (by decide) ?_
            refine E_iload_n (pc := 231) dX12_touches_231 rfl ?_
            refine E_ishl (pc := 232) dX12_touches_232 ?_
            refine E_ior (pc := 233) dX12_touches_233 ?_
            refine E_putI (pc := 234) dX12_touches_234 (pl_X12_443 _) hf (fun μ78 hf => ?_)
            exact E_vret (pc := 237) dX12_touches_237 rfl hf
          · refine E_aload_n (pc := 215) dX12_touches_215 rfl ?_
            refine E_getR (pc := 216) dX12_touches_216 fl_X12_31 hf (fun v79 hf => ?_)
            refine E_iload_n (pc := 219) dX12_touches_219 rfl ?_
            refine E_iald (pc := 220) dX12_touches_220 hf (fun v80 hf => ?_)
            refine E_iadd (pc := 221) dX12_touches_221 ?_
            refine E_putI (pc := 222) dX12_touches_222 (pl_X12_463 _) hf (fun μ81 hf => ?_)
            refine E_aload_n (pc := 225) dX12_touches_225 rfl ?_
            refine E_dup (pc := 226) dX12_touches_226 rfl ?_
            refine E_getI (pc := 227) dX12_touches_227 fl_X12_443 hf (fun v82 hf => ?_)
            refine E_iconst (pc := 230) (v := (1 : Int32)) dX12_touches_230 (by decide) ?_
            refine E_iload_n (pc := 231) dX12_touches_231 rfl ?_
            refine E_ishl (pc := 232) dX12_touches_232 ?_
            refine E_ior (pc := 233) dX12_touches_233 ?_
            refine E_putI (pc := 234) dX12_touches_234 (pl_X12_443 _) hf (fun μ83 hf => ?_)
            exact E_vret (pc := 237) dX12_touches_237 rfl hf
        · refine E_aload_n (pc := 194) dX12_touches_194 rfl ?_
          refine E_Vi (pc := 195) (d2 := D_X12_marked) (ci := 12) [] dX12_touches_195 ml_X12_466 mf_X12_marked im_X12_marked rfl rfl rfl (by decide) (Nat.le_of_ble_eq_true rfl) (Nat.le_of_ble_eq_true rfl) rfl (fun _ _ h => f_X12_marked_ok h) hf (fun v85 μ84 hf => ?_)
          refine E_goto (pc := 198) (tgt := 221) dX12_touches_198 (by decide) ?_
          refine E_iadd (pc := 221) dX12_touches_221 ?_
          refine E_putI (pc := 222) dX12_touches_222 (pl_X12_463 _) hf (fun μ86 hf => ?_)
          refine E_aload_n (pc := 225) dX12_touches_225 rfl ?_
          refine E_dup (pc := 226) dX12_touches_226 rfl ?_
          refine E_getI (pc := 227) dX12_touches_227 fl_X12_443 hf (fun v87 hf => ?_)
          refine E_iconst (pc := 230) (v := (1 : Int32)) dX12_touches_230 (by decide) ?_
          refine E_iload_n (pc := 231) dX12_touches_231 rfl ?_
          refine E_ishl (pc := 232) dX12_touches_232 ?_
          refine E_ior (pc := 233) dX12_touches_233 ?_
          refine E_putI (pc := 234) dX12_touches_234 (pl_X12_443 _) hf (fun μ88 hf => ?_)
          exact E_vret (pc := 237) dX12_touches_237 rfl hf
  · refine E_lconst (pc := 108) (v := (0 : Int64)) dX12_touches_108 (by decide) ?_
    refine E_last (pc := 109) dX12_touches_109 hf (fun μ89 hf => ?_)
    refine E_aload_n (pc := 110) dX12_touches_110 rfl ?_
    refine E_getR (pc := 111) dX12_touches_111 fl_X12_121 hf (fun v90 hf => ?_)
    refine E_bipush (pc := 114) (v := (9 : Int32)) dX12_touches_114 (by decide) ?_
    refine E_aload_n (pc := 116) dX12_touches_116 rfl ?_
    refine E_getI (pc := 117) dX12_touches_117 fl_X12_443 hf (fun v91 hf => ?_)
    refine E_Si (pc := 120) (d2 := D_X12_bits) [.int v91] dX12_touches_120 ml_X12_453 mf_X12_bits st_X12_bits rfl (by decide) (Nat.le_of_ble_eq_true rfl) (Nat.le_of_ble_eq_true rfl) rfl (fun _ _ h => f_X12_bits_ok h) hf (fun v93 μ92 hf => ?_)
    refine E_i2l (pc := 123) dX12_touches_123 ?_
    refine E_last (pc := 124) dX12_touches_124 hf (fun μ94 hf => ?_)
    refine E_aload_n (pc := 125) dX12_touches_125 rfl ?_
    refine E_getR (pc := 126) dX12_touches_126 fl_X12_121 hf (fun v95 hf => ?_)
    refine E_bipush (pc := 129) (v := (10 : Int32)) dX12_touches_129 (by decide) ?_
    refine E_aload_n (pc := 131) dX12_touches_131 rfl ?_
    refine E_getR (pc := 132) dX12_touches_132 fl_X12_19 hf (fun v96 hf => ?_)
    refine E_iload_n (pc := 135) dX12_touches_135 rfl ?_
    refine E_iald (pc := 136) dX12_touches_136 hf (fun v97 hf => ?_)
    refine E_i2l (pc := 137) dX12_touches_137 ?_
    refine E_last (pc := 138) dX12_touches_138 hf (fun μ98 hf => ?_)
    refine E_aload_n (pc := 139) dX12_touches_139 rfl ?_
    refine E_getR (pc := 140) dX12_touches_140 fl_X12_121 hf (fun v99 hf => ?_)
    refine E_bipush (pc := 143) (v := (11 : Int32)) dX12_touches_143 (by decide) ?_
    refine E_iload (pc := 145) dX12_touches_145 rfl ?_
    refine E_i2l (pc := 147) dX12_touches_147 ?_
    refine E_last (pc := 148) dX12_touches_148 hf (fun μ100 hf => ?_)
    refine E_aload_n (pc := 149) dX12_touches_149 rfl ?_
    refine E_iconst (pc := 150) (v := (1 : Int32)) dX12_touches_150 (by decide) ?_
    refine E_Vi (pc := 151) (d2 := D_X12_tells) (ci := 12) [.int (1 : Int32)] dX12_touches_151 ml_X12_456 mf_X12_tells im_X12_tells rfl rfl rfl (by decide) (Nat.le_of_ble_eq_true rfl) (Nat.le_of_ble_eq_true rfl) rfl (fun _ _ h => f_X12_tells_ok h) hf (fun v102 μ101 hf => ?_)
    refine E_if_eq (pc := 154) (tgt := 167) dX12_touches_154 (by decide) hf (fun hf => ?_) (fun hf => ?_)
    · refine E_aload_n (pc := 167) dX12_touches_167 rfl ?_
      refine E_getI (pc := 168) dX12_touches_168 fl_X12_437 hf (fun v103 hf => ?_)
      refine E_aload_n (pc := 171) dX12_touches_171 rfl ?_
      refine E_getR (pc := 172) dX12_touches_172 fl_X12_28 hf (fun v104 hf => ?_)
      refine E_iload_n (pc := 175) dX12_touches_175 rfl ?_
      refine E_iald (pc := 176) dX12_touches_176 hf (fun v105 hf => ?_)
      refine E_icmp_ge (pc := 177) (tgt := 181) dX12_touches_177 (by decide) hf (fun hf => ?_) (fun hf => ?_)
      · refine E_aload_n (pc := 181) dX12_touches_181 rfl ?_
        refine E_dup (pc := 182) dX12_touches_182 rfl ?_
        refine E_getI (pc := 183) dX12_touches_183 fl_X12_463 hf (fun v106 hf => ?_)
        refine E_aload_n (pc := 186) dX12_touches_186 rfl ?_
        refine E_iconst (pc := 187) (v := (0 : Int32)) dX12_touches_187 (by decide) ?_
        refine E_Vi (pc := 188) (d2 := D_X12_tells) (ci := 12) [.int (0 : Int32)] dX12_touches_188 ml_X12_456 mf_X12_tells im_X12_tells rfl rfl rfl (by decide) (Nat.le_of_ble_eq_true rfl) (Nat.le_of_ble_eq_true rfl) rfl (fun _ _ h => f_X12_tells_ok h) hf (fun v108 μ107 hf => ?_)
        refine E_if_eq (pc := 191) (tgt := 201) dX12_touches_191 (by decide) hf (fun hf => ?_) (fun hf => ?_)
        · refine E_aload_n (pc := 201) dX12_touches_201 rfl ?_
          refine E_getR (pc := 202) dX12_touches_202 fl_X12_25 hf (fun v109 hf => ?_)
          refine E_iload_n (pc := 205) dX12_touches_205 rfl ?_
          refine E_iald (pc := 206) dX12_touches_206 hf (fun v110 hf => ?_)
          refine E_iload_n (pc := 207) dX12_touches_207 rfl ?_
          refine E_icmp_ne (pc := 208) (tgt := 215) dX12_touches_208 (by decide) hf (fun hf => ?_) (fun hf => ?_)
          · refine E_iconst (pc := 211) (v := (0 : Int32)) dX12_touches_211 (by decide) ?_
            refine E_goto (pc := 212) (tgt := 221) dX12_touches_212 (by decide) ?_
            refine E_iadd (pc := 221) dX12_touches_221 ?_
            refine E_putI (pc := 222) dX12_touches_222 (pl_X12_463 _) hf (fun μ111 hf => ?_)
            refine E_aload_n (pc := 225) dX12_touches_225 rfl ?_
            refine E_dup (pc := 226) dX12_touches_226 rfl ?_
            refine E_getI (pc := 227) dX12_touches_227 fl_X12_443 hf (fun v112 hf => ?_)
            refine E_iconst (pc := 230) (v := (1 : Int32)) dX12_touches_230 (by decide) ?_
            refine E_iload_n (pc := 231) dX12_touches_231 rfl ?_
            refine E_ishl (pc := 232) dX12_touches_232 ?_
            refine E_ior (pc := 233) dX12_touches_233 ?_
            refine E_putI (pc := 234) dX12_touches_234 (pl_X12_443 _) hf (fun μ113 hf => ?_)
            exact E_vret (pc := 237) dX12_touches_237 rfl hf
          · refine E_aload_n (pc := 215) dX12_touches_215 rfl ?_
            refine E_getR (pc := 216) dX12_touches_216 fl_X12_31 hf (fun v114 hf => ?_)
            refine E_iload_n (pc := 219) dX12_touches_219 rfl ?_
            refine E_iald (pc := 220) dX12_touches_220 hf (fun v115 hf => ?_)
            refine E_iadd (pc := 221) dX12_touches_221 ?_
            refine E_putI (pc := 222) dX12_touches_222 (pl_X12_463 _) hf (fun μ116 hf => ?_)
            refine E_aload_n (pc := 225) dX12_touches_225 rfl ?_
            refine E_dup (pc := 226) dX12_touches_226 rfl ?_
            refine E_getI (pc := 227) dX12_touches_227 fl_X12_443 hf (fun v117 hf => ?_)
            refine E_iconst (pc := 230) (v := (1 : Int32)) dX12_touches_230 (by decide) ?_
            refine E_iload_n (pc := 231) dX12_touches_231 rfl ?_
            refine E_ishl (pc := 232) dX12_touches_232 ?_
            refine E_ior (pc := 233) dX12_touches_233 ?_
            refine E_putI (pc := 234) dX12_touches_234 (pl_X12_443 _) hf (fun μ118 hf => ?_)
            exact E_vret (pc := 237) dX12_touches_237 rfl hf
        · refine E_aload_n (pc := 194) dX12_touches_194 rfl ?_
          refine E_Vi (pc := 195) (d2 := D_X12_marked) (ci := 12) [] dX12_touches_195 ml_X12_466 mf_X12_marked im_X12_marked rfl rfl rfl (by decide) (Nat.le_of_ble_eq_true rfl) (Nat.le_of_ble_eq_true rfl) rfl (fun _ _ h => f_X12_marked_ok h) hf (fun v120 μ119 hf => ?_)
          refine E_goto (pc := 198) (tgt := 221) dX12_touches_198 (by decide) ?_
          refine E_iadd (pc := 221) dX12_touches_221 ?_
          refine E_putI (pc := 222) dX12_touches_222 (pl_X12_463 _) hf (fun μ121 hf => ?_)
          refine E_aload_n (pc := 225) dX12_touches_225 rfl ?_
          refine E_dup (pc := 226) dX12_touches_226 rfl ?_
          refine E_getI (pc := 227) dX12_touches_227 fl_X12_443 hf (fun v122 hf => ?_)
          refine E_iconst (pc := 230) (v := (1 : Int32)) dX12_touches_230 (by decide) ?_
          refine E_iload_n (pc := 231) dX12_touches_231 rfl ?_
          refine E_ishl (pc := 232) dX12_touches_232 ?_
          refine E_ior (pc := 233) dX12_touches_233 ?_
          refine E_putI (pc := 234) dX12_touches_234 (pl_X12_443 _) hf (fun μ123 hf => ?_)
          exact E_vret (pc := 237) dX12_touches_237 rfl hf
      · exact E_vret (pc := 180) dX12_touches_180 rfl hf
    · refine E_aload_n (pc := 157) dX12_touches_157 rfl ?_
      refine E_Vi (pc := 158) (d2 := D_X12_isBroken) (ci := 12) [] dX12_touches_158 ml_X12_460 mf_X12_isBroken im_X12_isBroken rfl rfl rfl (by decide) (Nat.le_of_ble_eq_true rfl) (Nat.le_of_ble_eq_true rfl) rfl (fun _ _ h => f_X12_isBroken_ok h) hf (fun v125 μ124 hf => ?_)
      refine E_if_ne (pc := 161) (tgt := 181) dX12_touches_161 (by decide) hf (fun hf => ?_) (fun hf => ?_)
      · refine E_goto (pc := 164) (tgt := 180) dX12_touches_164 (by decide) ?_
        exact E_vret (pc := 180) dX12_touches_180 rfl hf
      · refine E_aload_n (pc := 181) dX12_touches_181 rfl ?_
        refine E_dup (pc := 182) dX12_touches_182 rfl ?_
        refine E_getI (pc := 183) dX12_touches_183 fl_X12_463 hf (fun v126 hf => ?_)
        refine E_aload_n (pc := 186) dX12_touches_186 rfl ?_
        refine E_iconst (pc := 187) (v := (0 : Int32)) dX12_touches_187 (by decide) ?_
        refine E_Vi (pc := 188) (d2 := D_X12_tells) (ci := 12) [.int (0 : Int32)] dX12_touches_188 ml_X12_456 mf_X12_tells im_X12_tells rfl rfl rfl (by decide) (Nat.le_of_ble_eq_true rfl) (Nat.le_of_ble_eq_true rfl) rfl (fun _ _ h => f_X12_tells_ok h) hf (fun v128 μ127 hf => ?_)
        refine E_if_eq (pc := 191) (tgt := 201) dX12_touches_191 (by decide) hf (fun hf => ?_) (fun hf => ?_)
        · refine E_aload_n (pc := 201) dX12_touches_201 rfl ?_
          refine E_getR (pc := 202) dX12_touches_202 fl_X12_25 hf (fun v129 hf => ?_)
          refine E_iload_n (pc := 205) dX12_touches_205 rfl ?_
          refine E_iald (pc := 206) dX12_touches_206 hf (fun v130 hf => ?_)
          refine E_iload_n (pc := 207) dX12_touches_207 rfl ?_
          refine E_icmp_ne (pc := 208) (tgt := 215) dX12_touches_208 (by decide) hf (fun hf => ?_) (fun hf => ?_)
          · refine E_iconst (pc := 211) (v := (0 : Int32)) dX12_touches_211 (by decide) ?_
            refine E_goto (pc := 212) (tgt := 221) dX12_touches_212 (by decide) ?_
            refine E_iadd (pc := 221) dX12_touches_221 ?_
            refine E_putI (pc := 222) dX12_touches_222 (pl_X12_463 _) hf (fun μ131 hf => ?_)
            refine E_aload_n (pc := 225) dX12_touches_225 rfl ?_
            refine E_dup (pc := 226) dX12_touches_226 rfl ?_
            refine E_getI (pc := 227) dX12_touches_227 fl_X12_443 hf (fun v132 hf => ?_)
            refine E_iconst (pc := 230) (v := (1 : Int32)) dX12_touches_230 (by decide) ?_
            refine E_iload_n (pc := 231) dX12_touches_231 rfl ?_
            refine E_ishl (pc := 232) dX12_touches_232 ?_
            refine E_ior (pc := 233) dX12_touches_233 ?_
            refine E_putI (pc := 234) dX12_touches_234 (pl_X12_443 _) hf (fun μ133 hf => ?_)
            exact E_vret (pc := 237) dX12_touches_237 rfl hf
          · refine E_aload_n (pc := 215) dX12_touches_215 rfl ?_
            refine E_getR (pc := 216) dX12_touches_216 fl_X12_31 hf (fun v134 hf => ?_)
            refine E_iload_n (pc := 219) dX12_touches_219 rfl ?_
            refine E_iald (pc := 220) dX12_touches_220 hf (fun v135 hf => ?_)
            refine E_iadd (pc := 221) dX12_touches_221 ?_
            refine E_putI (pc := 222) dX12_touches_222 (pl_X12_463 _) hf (fun μ136 hf => ?_)
            refine E_aload_n (pc := 225) dX12_touches_225 rfl ?_
            refine E_dup (pc := 226) dX12_touches_226 rfl ?_
            refine E_getI (pc := 227) dX12_touches_227 fl_X12_443 hf (fun v137 hf => ?_)
            refine E_iconst (pc := 230) (v := (1 : Int32)) dX12_touches_230 (by decide) ?_
            refine E_iload_n (pc := 231) dX12_touches_231 rfl ?_
            refine E_ishl (pc := 232) dX12_touches_232 ?_
            refine E_ior (pc := 233) dX12_touches_233 ?_
            refine E_putI (pc := 234) dX12_touches_234 (pl_X12_443 _) hf (fun μ138 hf => ?_)
            exact E_vret (pc := 237) dX12_touches_237 rfl hf
        · refine E_aload_n (pc := 194) dX12_touches_194 rfl ?_
          refine E_Vi (pc := 195) (d2 := D_X12_marked) (ci := 12) [] dX12_touches_195 ml_X12_466 mf_X12_marked im_X12_marked rfl rfl rfl (by decide) (Nat.le_of_ble_eq_true rfl) (Nat.le_of_ble_eq_true rfl) rfl (fun _ _ h => f_X12_marked_ok h) hf (fun v140 μ139 hf => ?_)
          refine E_goto (pc := 198) (tgt := 221) dX12_touches_198 (by decide) ?_
          refine E_iadd (pc := 221) dX12_touches_221 ?_
          refine E_putI (pc := 222) dX12_touches_222 (pl_X12_463 _) hf (fun μ141 hf => ?_)
          refine E_aload_n (pc := 225) dX12_touches_225 rfl ?_
          refine E_dup (pc := 226) dX12_touches_226 rfl ?_
          refine E_getI (pc := 227) dX12_touches_227 fl_X12_443 hf (fun v142 hf => ?_)
          refine E_iconst (pc := 230) (v := (1 : Int32)) dX12_touches_230 (by decide) ?_
          refine E_iload_n (pc := 231) dX12_touches_231 rfl ?_
          refine E_ishl (pc := 232) dX12_touches_232 ?_
          refine E_ior (pc := 233) dX12_touches_233 ?_
          refine E_putI (pc := 234) dX12_touches_234 (pl_X12_443 _) hf (fun μ143 hf => ?_)
          exact E_vret (pc := 237) dX12_touches_237 rfl hf
theorem dX12_comesTo_0 : decode cX12_comesTo 0 = .ok (.aload_n 0, 1) := by decide +kernel
theorem dX12_comesTo_1 : decode cX12_comesTo 1 = .ok (.dup, 1) := by decide +kernel
theorem dX12_comesTo_2 : decode cX12_comesTo 2 = .ok (.getfield 434, 3) := by decide +kernel
theorem dX12_comesTo_5 : decode cX12_comesTo 5 = .ok (.iconst 1, 1) := by decide +kernel
theorem dX12_comesTo_6 : decode cX12_comesTo 6 = .ok (.iadd, 1) := by decide +kernel
theorem dX12_comesTo_7 : decode cX12_comesTo 7 = .ok (.putfield 434, 3) := by decide +kernel
theorem dX12_comesTo_10 : decode cX12_comesTo 10 = .ok (.aload_n 0, 1) := by decide +kernel
theorem dX12_comesTo_11 : decode cX12_comesTo 11 = .ok (.dup, 1) := by decide +kernel
theorem dX12_comesTo_12 : decode cX12_comesTo 12 = .ok (.getfield 437, 3) := by decide +kernel
theorem dX12_comesTo_15 : decode cX12_comesTo 15 = .ok (.iload_n 3, 1) := by decide +kernel
theorem dX12_comesTo_16 : decode cX12_comesTo 16 = .ok (.aload_n 0, 1) := by decide +kernel
theorem dX12_comesTo_17 : decode cX12_comesTo 17 = .ok (.getfield 19, 3) := by decide +kernel
theorem dX12_comesTo_20 : decode cX12_comesTo 20 = .ok (.iload_n 1, 1) := by decide +kernel
theorem dX12_comesTo_21 : decode cX12_comesTo 21 = .ok (.iaload, 1) := by decide +kernel
theorem dX12_comesTo_22 : decode cX12_comesTo 22 = .ok (.isub, 1) := by decide +kernel
theorem dX12_comesTo_23 : decode cX12_comesTo 23 = .ok (.iadd, 1) := by decide +kernel
theorem dX12_comesTo_24 : decode cX12_comesTo 24 = .ok (.putfield 437, 3) := by decide +kernel
theorem dX12_comesTo_27 : decode cX12_comesTo 27 = .ok (.aload_n 0, 1) := by decide +kernel
theorem dX12_comesTo_28 : decode cX12_comesTo 28 = .ok (.aload_n 0, 1) := by decide +kernel
theorem dX12_comesTo_29 : decode cX12_comesTo 29 = .ok (.getfield 437, 3) := by decide +kernel
theorem dX12_comesTo_32 : decode cX12_comesTo 32 = .ok (.ifCond .ge 7, 3) := by decide +kernel
theorem dX12_comesTo_35 : decode cX12_comesTo 35 = .ok (.iconst 0, 1) := by decide +kernel
theorem dX12_comesTo_36 : decode cX12_comesTo 36 = .ok (.goto 7, 3) := by decide +kernel
theorem dX12_comesTo_39 : decode cX12_comesTo 39 = .ok (.aload_n 0, 1) := by decide +kernel
theorem dX12_comesTo_40 : decode cX12_comesTo 40 = .ok (.getfield 437, 3) := by decide +kernel
theorem dX12_comesTo_43 : decode cX12_comesTo 43 = .ok (.putfield 437, 3) := by decide +kernel
theorem dX12_comesTo_46 : decode cX12_comesTo 46 = .ok (.aload_n 0, 1) := by decide +kernel
theorem dX12_comesTo_47 : decode cX12_comesTo 47 = .ok (.iload_n 2, 1) := by decide +kernel
theorem dX12_comesTo_48 : decode cX12_comesTo 48 = .ok (.invokevirtual 419, 3) := by decide +kernel
theorem dX12_comesTo_51 : decode cX12_comesTo 51 = .ok (.ifCond .eq 10, 3) := by decide +kernel
theorem dX12_comesTo_54 : decode cX12_comesTo 54 = .ok (.aload_n 0, 1) := by decide +kernel
theorem dX12_comesTo_55 : decode cX12_comesTo 55 = .ok (.iconst 0, 1) := by decide +kernel
theorem dX12_comesTo_56 : decode cX12_comesTo 56 = .ok (.putfield 437, 3) := by decide +kernel
theorem dX12_comesTo_59 : decode cX12_comesTo 59 = .ok (.iconst 0, 1) := by decide +kernel
theorem dX12_comesTo_60 : decode cX12_comesTo 60 = .ok (.ireturn, 1) := by decide +kernel
theorem dX12_comesTo_61 : decode cX12_comesTo 61 = .ok (.aload_n 0, 1) := by decide +kernel
theorem dX12_comesTo_62 : decode cX12_comesTo 62 = .ok (.iload_n 2, 1) := by decide +kernel
theorem dX12_comesTo_63 : decode cX12_comesTo 63 = .ok (.iload_n 1, 1) := by decide +kernel
theorem dX12_comesTo_64 : decode cX12_comesTo 64 = .ok (.invokevirtual 440, 3) := by decide +kernel
theorem dX12_comesTo_67 : decode cX12_comesTo 67 = .ok (.istore 4, 2) := by decide +kernel
theorem dX12_comesTo_69 : decode cX12_comesTo 69 = .ok (.iconst 0, 1) := by decide +kernel
theorem dX12_comesTo_70 : decode cX12_comesTo 70 = .ok (.istore 5, 2) := by decide +kernel
theorem dX12_comesTo_72 : decode cX12_comesTo 72 = .ok (.iload 5, 2) := by decide +kernel
theorem dX12_comesTo_74 : decode cX12_comesTo 74 = .ok (.aload_n 0, 1) := by decide +kernel
theorem dX12_comesTo_75 : decode cX12_comesTo 75 = .ok (.getfield 9, 3) := by decide +kernel
theorem dX12_comesTo_78 : decode cX12_comesTo 78 = .ok (.iconst 3, 1) := by decide +kernel
theorem dX12_comesTo_79 : decode cX12_comesTo 79 = .ok (.iaload, 1) := by decide +kernel
theorem dX12_comesTo_80 : decode cX12_comesTo 80 = .ok (.if_icmp .ge 51, 3) := by decide +kernel
theorem dX12_comesTo_83 : decode cX12_comesTo 83 = .ok (.aload_n 0, 1) := by decide +kernel
theorem dX12_comesTo_84 : decode cX12_comesTo 84 = .ok (.getfield 22, 3) := by decide +kernel
theorem dX12_comesTo_87 : decode cX12_comesTo 87 = .ok (.iload 5, 2) := by decide +kernel
theorem dX12_comesTo_89 : decode cX12_comesTo 89 = .ok (.iaload, 1) := by decide +kernel
theorem dX12_comesTo_90 : decode cX12_comesTo 90 = .ok (.iload_n 2, 1) := by decide +kernel
theorem dX12_comesTo_91 : decode cX12_comesTo 91 = .ok (.if_icmp .ne 34, 3) := by decide +kernel
theorem dX12_comesTo_94 : decode cX12_comesTo 94 = .ok (.aload_n 0, 1) := by decide +kernel
theorem dX12_comesTo_95 : decode cX12_comesTo 95 = .ok (.getfield 9, 3) := by decide +kernel
theorem dX12_comesTo_98 : decode cX12_comesTo 98 = .ok (.bipush 7, 2) := by decide +kernel
theorem dX12_comesTo_100 : decode cX12_comesTo 100 = .ok (.iaload, 1) := by decide +kernel
theorem dX12_comesTo_101 : decode cX12_comesTo 101 = .ok (.aload_n 0, 1) := by decide +kernel
theorem dX12_comesTo_102 : decode cX12_comesTo 102 = .ok (.getfield 443, 3) := by decide +kernel
theorem dX12_comesTo_105 : decode cX12_comesTo 105 = .ok (.ior, 1) := by decide +kernel
theorem dX12_comesTo_106 : decode cX12_comesTo 106 = .ok (.iload 5, 2) := by decide +kernel
theorem dX12_comesTo_108 : decode cX12_comesTo 108 = .ok (.invokestatic 446, 3) := by decide +kernel
theorem dX12_comesTo_111 : decode cX12_comesTo 111 = .ok (.ifCond .ne 14, 3) := by decide +kernel
theorem dX12_comesTo_114 : decode cX12_comesTo 114 = .ok (.aload_n 0, 1) := by decide +kernel
theorem dX12_comesTo_115 : decode cX12_comesTo 115 = .ok (.iload_n 1, 1) := by decide +kernel
theorem dX12_comesTo_116 : decode cX12_comesTo 116 = .ok (.iload 5, 2) := by decide +kernel
theorem dX12_comesTo_118 : decode cX12_comesTo 118 = .ok (.iload_n 2, 1) := by decide +kernel
theorem dX12_comesTo_119 : decode cX12_comesTo 119 = .ok (.iload_n 3, 1) := by decide +kernel
theorem dX12_comesTo_120 : decode cX12_comesTo 120 = .ok (.iload 4, 2) := by decide +kernel
theorem dX12_comesTo_122 : decode cX12_comesTo 122 = .ok (.invokevirtual 449, 3) := by decide +kernel
theorem dX12_comesTo_125 : decode cX12_comesTo 125 = .ok (.iinc 5 1, 3) := by decide +kernel
theorem dX12_comesTo_128 : decode cX12_comesTo 128 = .ok (.goto (-56), 3) := by decide +kernel
theorem dX12_comesTo_131 : decode cX12_comesTo 131 = .ok (.aload_n 0, 1) := by decide +kernel
theorem dX12_comesTo_132 : decode cX12_comesTo 132 = .ok (.iload 4, 2) := by decide +kernel
theorem dX12_comesTo_134 : decode cX12_comesTo 134 = .ok (.ifCond .le 12, 3) := by decide +kernel
theorem dX12_comesTo_137 : decode cX12_comesTo 137 = .ok (.aload_n 0, 1) := by decide +kernel
theorem dX12_comesTo_138 : decode cX12_comesTo 138 = .ok (.getfield 437, 3) := by decide +kernel
theorem dX12_comesTo_141 : decode cX12_comesTo 141 = .ok (.iconst 2, 1) := by decide +kernel
theorem dX12_comesTo_142 : decode cX12_comesTo 142 = .ok (.idiv, 1) := by decide +kernel
theorem dX12_comesTo_143 : decode cX12_comesTo 143 = .ok (.goto 7, 3) := by decide +kernel
theorem dX12_comesTo_146 : decode cX12_comesTo 146 = .ok (.aload_n 0, 1) := by decide +kernel
theorem dX12_comesTo_147 : decode cX12_comesTo 147 = .ok (.getfield 437, 3) := by decide +kernel
theorem dX12_comesTo_150 : decode cX12_comesTo 150 = .ok (.putfield 437, 3) := by decide +kernel
theorem dX12_comesTo_153 : decode cX12_comesTo 153 = .ok (.aload_n 0, 1) := by decide +kernel
theorem dX12_comesTo_154 : decode cX12_comesTo 154 = .ok (.iload_n 2, 1) := by decide +kernel
theorem dX12_comesTo_155 : decode cX12_comesTo 155 = .ok (.invokevirtual 412, 3) := by decide +kernel
theorem dX12_comesTo_158 : decode cX12_comesTo 158 = .ok (.iconst (-1), 1) := by decide +kernel
theorem dX12_comesTo_159 : decode cX12_comesTo 159 = .ok (.if_icmp .eq 7, 3) := by decide +kernel
theorem dX12_comesTo_162 : decode cX12_comesTo 162 = .ok (.iconst 1, 1) := by decide +kernel
theorem dX12_comesTo_163 : decode cX12_comesTo 163 = .ok (.goto 4, 3) := by decide +kernel
theorem dX12_comesTo_166 : decode cX12_comesTo 166 = .ok (.iconst 0, 1) := by decide +kernel
theorem dX12_comesTo_167 : decode cX12_comesTo 167 = .ok (.ireturn, 1) := by decide +kernel
abbrev D_X12_comesTo : Nat := 6
def f_X12_comesTo_L72 (K131 : Mm → Nat → Int32 → Int32 → Option (Int32 × Mm)) : Nat → Mm → Nat → Int32 → Int32 → Int32 → Int32 → Int32 → Option (Int32 × Mm)
  | 0, _, _, _, _, _, _, _ => none
  | n + 1, μ0, a20, x21, x22, x23, x24, x25 =>
    ((gR μ0 a20 12 1).bind fun v26 =>
    ((aI μ0 v26 0 (3 : Int32)).bind fun v27 =>
    (if v27 ≤ x25 then
    K131 μ0 a20 x22 x24
    else
    ((gR μ0 a20 12 5).bind fun v28 =>
    ((aI μ0 v28 0 x25).bind fun v29 =>
    (if v29 = x22 then
    ((gR μ0 a20 12 1).bind fun v30 =>
    ((aI μ0 v30 0 (7 : Int32)).bind fun v31 =>
    ((gI μ0 a20 12 51).bind fun v32 =>
    (bd (f_X12_has μ0 (v31 ||| v32) x25) fun v34 μ33 =>
    (if v34 = 0 then
    ((ob μ33 a20 12).bind fun _ =>
    ((f_X12_touches μ33 a20 x21 x25 x22 x23 x24).bind fun μ35 =>
    (nm (x25 + Int32.ofInt (1)) fun x36 =>
    f_X12_comesTo_L72 K131 n μ35 a20 x21 x22 x23 x24 x36)))
    else
    (nm (x25 + Int32.ofInt (1)) fun x37 =>
    f_X12_comesTo_L72 K131 n μ33 a20 x21 x22 x23 x24 x37))))))
    else
    (nm (x25 + Int32.ofInt (1)) fun x38 =>
    f_X12_comesTo_L72 K131 n μ0 a20 x21 x22 x23 x24 x38)))))))
set_option maxHeartbeats 4000000 in
set_option maxRecDepth 100000 in
theorem f_X12_comesTo_L72_ok {l : Launch} {G : GG} {K131 : Mm → Nat → Int32 → Int32 → Option (Int32 × Mm)} {r : Int32} {μ' : Mm} (n : Nat) (μ0 : Mm) (a20 : Nat) (x21 : Int32) (x22 : Int32) (x23 : Int32) (x24 : Int32) (x25 : Int32) (hf : f_X12_comesTo_L72 K131 n μ0 a20 x21 x22 x23 x24 x25 = some (r, μ')) (hK131 : ∀ (μ1 : Mm) (y0 : Nat) (y2 : Int32) (y4 : Int32), K131 μ1 y0 y2 y4 = some (r, μ') → Ev l G D_X12_comesTo yX12_comesTo cX12_comesTo 6 (some .boolean) 131 [(0, .ref y0), (2, .int y2), (4, .int y4)] [] μ1 (some (.int r)) μ') : Ev l G D_X12_comesTo yX12_comesTo cX12_comesTo 6 (some .boolean) 72 [(0, .ref a20), (1, .int x21), (2, .int x22), (3, .int x23), (4, .int x24), (5, .int x25)] [] μ0 (some (.int r)) μ' := by
  induction n generalizing μ0 a20 x21 x22 x23 x24 x25 with
  | zero => cases hf
  | succ n ih0 =>
    have ih : ∀ (μ0 : Mm) (a20 : Nat) (x21 : Int32) (x22 : Int32) (x23 : Int32) (x24 : Int32) (x25 : Int32), f_X12_comesTo_L72 K131 n μ0 a20 x21 x22 x23 x24 x25 = some (r, μ') → Ev l G D_X12_comesTo yX12_comesTo cX12_comesTo 6 (some .boolean) 72 [(0, .ref a20), (1, .int x21), (2, .int x22), (3, .int x23), (4, .int x24), (5, .int x25)] [] μ0 (some (.int r)) μ' := fun μ0 a20 x21 x22 x23 x24 x25 hf => ih0 μ0 a20 x21 x22 x23 x24 x25 hf
    rw [f_X12_comesTo_L72] at hf
    refine E_iload (pc := 72) dX12_comesTo_72 rfl ?_
    refine E_aload_n (pc := 74) dX12_comesTo_74 rfl ?_
    refine E_getR (pc := 75) dX12_comesTo_75 fl_X12_9 hf (fun v26 hf => ?_)
    refine E_iconst (pc := 78) (v := (3 : Int32)) dX12_comesTo_78 (by decide) ?_
    refine E_iald (pc := 79) dX12_comesTo_79 hf (fun v27 hf => ?_)
    refine E_icmp_ge (pc := 80) (tgt := 131) dX12_comesTo_80 (by decide) hf (fun hf => ?_) (fun hf => ?_)
    · refine Ev.sub [0, 2, 4] rfl ?_
      exact hK131 _ _ _ _ hf
    · refine E_aload_n (pc := 83) dX12_comesTo_83 rfl ?_
      refine E_getR (pc := 84) dX12_comesTo_84 fl_X12_22 hf (fun v28 hf => ?_)
      refine E_iload (pc := 87) dX12_comesTo_87 rfl ?_
      refine E_iald (pc := 89) dX12_comesTo_89 hf (fun v29 hf => ?_)
      refine E_iload_n (pc := 90) dX12_comesTo_90 rfl ?_
      refine E_icmp_ne (pc := 91) (tgt := 125) dX12_comesTo_91 (by decide) hf (fun hf => ?_) (fun hf => ?_)
      · refine E_aload_n (pc := 94) dX12_comesTo_94 rfl ?_
        refine E_getR (pc := 95) dX12_comesTo_95 fl_X12_9 hf (fun v30 hf => ?_)
        refine E_bipush (pc := 98) (v := (7 : Int32)) dX12_comesTo_98 (by decide) ?_
        refine E_iald (pc := 100) dX12_comesTo_100 hf (fun v31 hf => ?_)
        refine E_aload_n (pc := 101) dX12_comesTo_101 rfl ?_
        refine E_getI (pc := 102) dX12_comesTo_102 fl_X12_443 hf (fun v32 hf => ?_)
        refine E_ior (pc := 105) dX12_comesTo_105 ?_
        refine E_iload (pc := 106) dX12_comesTo_106 rfl ?_
        refine E_Si (pc := 108) (d2 := D_X12_has) [.int (v31 ||| v32), .int x25] dX12_comesTo_108 ml_X12_446 mf_X12_has st_X12_has rfl (by decide) (Nat.le_of_ble_eq_true rfl) (Nat.le_of_ble_eq_true rfl) rfl (fun _ _ h => f_X12_has_ok h) hf (fun v34 μ33 hf => ?_)
        refine E_if_ne (pc := 111) (tgt := 125) dX12_comesTo_111 (by decide) hf (fun hf => ?_) (fun hf => ?_)
        · refine E_aload_n (pc := 114) dX12_comesTo_114 rfl ?_
          refine E_iload_n (pc := 115) dX12_comesTo_115 rfl ?_
          refine E_iload (pc := 116) dX12_comesTo_116 rfl ?_
          refine E_iload_n (pc := 118) dX12_comesTo_118 rfl ?_
          refine E_iload_n (pc := 119) dX12_comesTo_119 rfl ?_
          refine E_iload (pc := 120) dX12_comesTo_120 rfl ?_
          refine E_Vv (pc := 122) (d2 := D_X12_touches) (ci := 12) [.int x21, .int x25, .int x22, .int x23, .int x24] dX12_comesTo_122 ml_X12_449 mf_X12_touches im_X12_touches rfl rfl rfl (by decide) (Nat.le_of_ble_eq_true rfl) (Nat.le_of_ble_eq_true rfl) rfl (fun _ h => f_X12_touches_ok h) hf (fun μ35 hf => ?_)
          refine E_iinc (pc := 125) (ls' := fun x36 => [(5, .int x36), (0, .ref a20), (1, .int x21), (2, .int x22), (3, .int x23), (4, .int x24)]) dX12_comesTo_125 rfl (by decide) (fun _ => rfl) hf (fun x36 hf => ?_)
          refine E_goto (pc := 128) (tgt := 72) dX12_comesTo_128 (by decide) ?_
          refine Ev.sub [1, 2, 3, 4, 5, 0] rfl ?_
          exact ih _ _ _ _ _ _ _ hf
        · refine E_iinc (pc := 125) (ls' := fun x37 => [(5, .int x37), (0, .ref a20), (1, .int x21), (2, .int x22), (3, .int x23), (4, .int x24)]) dX12_comesTo_125 rfl (by decide) (fun _ => rfl) hf (fun x37 hf => ?_)
          refine E_goto (pc := 128) (tgt := 72) dX12_comesTo_128 (by decide) ?_
          refine Ev.sub [1, 2, 3, 4, 5, 0] rfl ?_
          exact ih _ _ _ _ _ _ _ hf
      · refine E_iinc (pc := 125) (ls' := fun x38 => [(5, .int x38), (0, .ref a20), (1, .int x21), (2, .int x22), (3, .int x23), (4, .int x24)]) dX12_comesTo_125 rfl (by decide) (fun _ => rfl) hf (fun x38 hf => ?_)
        refine E_goto (pc := 128) (tgt := 72) dX12_comesTo_128 (by decide) ?_
        refine Ev.sub [1, 2, 3, 4, 5, 0] rfl ?_
        exact ih _ _ _ _ _ _ _ hf
set_option maxRecDepth 100000 in
def f_X12_comesTo (μ0 : Mm) (a1 : Nat) (x2 : Int32) (x3 : Int32) (x4 : Int32) : Option (Int32 × Mm) :=
 ((gI μ0 a1 12 50).bind fun v5 =>
    ((pV μ0 a1 12 50 (.int (v5 + (1 : Int32)))).bind fun μ6 =>
    ((gI μ6 a1 12 49).bind fun v7 =>
    ((gR μ6 a1 12 4).bind fun v8 =>
    ((aI μ6 v8 0 x2).bind fun v9 =>
    ((pV μ6 a1 12 49 (.int (v7 + (x4 - v9)))).bind fun μ10 =>
    ((gI μ10 a1 12 49).bind fun v11 =>
    (if 0 ≤ v11 then
    ((gI μ10 a1 12 49).bind fun v12 =>
    ((pV μ10 a1 12 49 (.int v12)).bind fun μ13 =>
    ((ob μ13 a1 12).bind fun _ =>
    (bd (f_X12_isNet μ13 a1 x3) fun v15 μ14 =>
    (if v15 = 0 then
    ((ob μ14 a1 12).bind fun _ =>
    (bd (f_X12_othersIn μ14 a1 x3 x2) fun v17 μ16 =>
    (nm v17 fun x18 =>
    (nm (0 : Int32) fun x19 =>
    f_X12_comesTo_L72 (fun μ39 a40 x41 x42 =>
    (if x42 ≤ 0 then
    ((gI μ39 a40 12 49).bind fun v43 =>
    ((pV μ39 a40 12 49 (.int v43)).bind fun μ44 =>
    ((ob μ44 a40 12).bind fun _ =>
    (bd (f_X12_leadsTo μ44 a40 x41) fun v46 μ45 =>
    (if v46 = (-1 : Int32) then
    (if (0 : Int32) = 0 ∨ (0 : Int32) = 1 then some ((0 : Int32), μ45) else none)
    else
    (if (1 : Int32) = 0 ∨ (1 : Int32) = 1 then some ((1 : Int32), μ45) else none))))))
    else
    ((gI μ39 a40 12 49).bind fun v47 =>
    (dvI v47 (2 : Int32) fun v48 =>
    ((pV μ39 a40 12 49 (.int v48)).bind fun μ49 =>
    ((ob μ49 a40 12).bind fun _ =>
    (bd (f_X12_leadsTo μ49 a40 x41) fun v51 μ50 =>
    (if v51 = (-1 : Int32) then
    (if (0 : Int32) = 0 ∨ (0 : Int32) = 1 then some ((0 : Int32), μ50) else none)
    else
    (if (1 : Int32) = 0 ∨ (1 : Int32) = 1 then some ((1 : Int32), μ50) else none))))))))) FU μ16 a1 x2 x3 x4 x18 x19))))
    else
    ((pV μ14 a1 12 49 (.int (0 : Int32))).bind fun μ52 =>
    (if (0 : Int32) = 0 ∨ (0 : Int32) = 1 then some ((0 : Int32), μ52) else none)))))))
    else
    ((pV μ10 a1 12 49 (.int (0 : Int32))).bind fun μ53 =>
    ((ob μ53 a1 12).bind fun _ =>
    (bd (f_X12_isNet μ53 a1 x3) fun v55 μ54 =>
    (if v55 = 0 then
    ((ob μ54 a1 12).bind fun _ =>
    (bd (f_X12_othersIn μ54 a1 x3 x2) fun v57 μ56 =>
    (nm v57 fun x58 =>
    (nm (0 : Int32) fun x59 =>
    f_X12_comesTo_L72 (fun μ60 a61 x62 x63 =>
    (if x63 ≤ 0 then
    ((gI μ60 a61 12 49).bind fun v64 =>
    ((pV μ60 a61 12 49 (.int v64)).bind fun μ65 =>
    ((ob μ65 a61 12).bind fun _ =>
    (bd (f_X12_leadsTo μ65 a61 x62) fun v67 μ66 =>
    (if v67 = (-1 : Int32) then
    (if (0 : Int32) = 0 ∨ (0 : Int32) = 1 then some ((0 : Int32), μ66) else none)
    else
    (if (1 : Int32) = 0 ∨ (1 : Int32) = 1 then some ((1 : Int32), μ66) else none))))))
    else
    ((gI μ60 a61 12 49).bind fun v68 =>
    (dvI v68 (2 : Int32) fun v69 =>
    ((pV μ60 a61 12 49 (.int v69)).bind fun μ70 =>
    ((ob μ70 a61 12).bind fun _ =>
    (bd (f_X12_leadsTo μ70 a61 x62) fun v72 μ71 =>
    (if v72 = (-1 : Int32) then
    (if (0 : Int32) = 0 ∨ (0 : Int32) = 1 then some ((0 : Int32), μ71) else none)
    else
    (if (1 : Int32) = 0 ∨ (1 : Int32) = 1 then some ((1 : Int32), μ71) else none))))))))) FU μ56 a1 x2 x3 x4 x58 x59))))
    else
    ((pV μ54 a1 12 49 (.int (0 : Int32))).bind fun μ73 =>
    (if (0 : Int32) = 0 ∨ (0 : Int32) = 1 then some ((0 : Int32), μ73) else none))))))))))))))
set_option maxHeartbeats 4000000 in
set_option maxRecDepth 100000 in
theorem f_X12_comesTo_ok {l : Launch} {G : GG} {μ0 : Mm} {a1 : Nat} {x2 : Int32} {x3 : Int32} {x4 : Int32} {r : Int32} {μ' : Mm} (hf : f_X12_comesTo μ0 a1 x2 x3 x4 = some (r, μ')) : EvM l G D_X12_comesTo yX12_comesTo cX12_comesTo 6 (some .boolean) [.ref a1, .int x2, .int x3, .int x4] μ0 (some (.int r)) μ' := by
  show Ev l G D_X12_comesTo yX12_comesTo cX12_comesTo 6 (some .boolean) 0 [(0, .ref a1), (1, .int x2), (2, .int x3), (3, .int x4)] [] μ0 (some (.int r)) μ'
  unfold f_X12_comesTo at hf
  refine E_aload_n (pc := 0) dX12_comesTo_0 rfl ?_
  refine E_dup (pc := 1) dX12_comesTo_1 rfl ?_
  refine E_getI (pc := 2) dX12_comesTo_2 fl_X12_434 hf (fun v5 hf => ?_)
  refine E_iconst (pc := 5) (v := (1 : Int32)) dX12_comesTo_5 (by decide) ?_
  refine E_iadd (pc := 6) dX12_comesTo_6 ?_
  refine E_putI (pc := 7) dX12_comesTo_7 (pl_X12_434 _) hf (fun μ6 hf => ?_)
  refine E_aload_n (pc := 10) dX12_comesTo_10 rfl ?_
  refine E_dup (pc := 11) dX12_comesTo_11 rfl ?_
  refine E_getI (pc := 12) dX12_comesTo_12 fl_X12_437 hf (fun v7 hf => ?_)
  refine E_iload_n (pc := 15) dX12_comesTo_15 rfl ?_
  refine E_aload_n (pc := 16) dX12_comesTo_16 rfl ?_
  refine E_getR (pc := 17) dX12_comesTo_17 fl_X12_19 hf (fun v8 hf => ?_)
  refine E_iload_n (pc := 20) dX12_comesTo_20 rfl ?_
  refine E_iald (pc := 21) dX12_comesTo_21 hf (fun v9 hf => ?_)
  refine E_isub (pc := 22) dX12_comesTo_22 ?_
  refine E_iadd (pc := 23) dX12_comesTo_23 ?_
  refine E_putI (pc := 24) dX12_comesTo_24 (pl_X12_437 _) hf (fun μ10 hf => ?_)
  refine E_aload_n (pc := 27) dX12_comesTo_27 rfl ?_
  refine E_aload_n (pc := 28) dX12_comesTo_28 rfl ?_
  refine E_getI (pc := 29) dX12_comesTo_29 fl_X12_437 hf (fun v11 hf => ?_)
  refine E_if_ge (pc := 32) (tgt := 39) dX12_comesTo_32 (by decide) hf (fun hf => ?_) (fun hf => ?_)
  · refine E_aload_n (pc := 39) dX12_comesTo_39 rfl ?_
    refine E_getI (pc := 40) dX12_comesTo_40 fl_X12_437 hf (fun v12 hf => ?_)
    refine E_putI (pc := 43) dX12_comesTo_43 (pl_X12_437 _) hf (fun μ13 hf => ?_)
    refine E_aload_n (pc := 46) dX12_comesTo_46 rfl ?_
    refine E_iload_n (pc := 47) dX12_comesTo_47 rfl ?_
    refine E_Vi (pc := 48) (d2 := D_X12_isNet) (ci := 12) [.int x3] dX12_comesTo_48 ml_X12_419 mf_X12_isNet im_X12_isNet rfl rfl rfl (by decide) (Nat.le_of_ble_eq_true rfl) (Nat.le_of_ble_eq_true rfl) rfl (fun _ _ h => f_X12_isNet_ok h) hf (fun v15 μ14 hf => ?_)
    refine E_if_eq (pc := 51) (tgt := 61) dX12_comesTo_51 (by decide) hf (fun hf => ?_) (fun hf => ?_)
    · refine E_aload_n (pc := 61) dX12_comesTo_61 rfl ?_
      refine E_iload_n (pc := 62) dX12_comesTo_62 rfl ?_
      refine E_iload_n (pc := 63) dX12_comesTo_63 rfl ?_
      refine E_Vi (pc := 64) (d2 := D_X12_othersIn) (ci := 12) [.int x3, .int x2] dX12_comesTo_64 ml_X12_440 mf_X12_othersIn im_X12_othersIn rfl rfl rfl (by decide) (Nat.le_of_ble_eq_true rfl) (Nat.le_of_ble_eq_true rfl) rfl (fun _ _ h => f_X12_othersIn_ok h) hf (fun v17 μ16 hf => ?_)
      refine E_istore (pc := 67) (ls' := fun x18 => [(4, .int x18), (0, .ref a1), (1, .int x2), (2, .int x3), (3, .int x4)]) dX12_comesTo_67 (by decide) (fun _ => rfl) hf (fun x18 hf => ?_)
      refine E_iconst (pc := 69) (v := (0 : Int32)) dX12_comesTo_69 (by decide) ?_
      refine E_istore (pc := 70) (ls' := fun x19 => [(5, .int x19), (4, .int x18), (0, .ref a1), (1, .int x2), (2, .int x3), (3, .int x4)]) dX12_comesTo_70 (by decide) (fun _ => rfl) hf (fun x19 hf => ?_)
      refine Ev.sub [2, 3, 4, 5, 1, 0] rfl ?_
      refine f_X12_comesTo_L72_ok  _ _ _ _ _ _ _ _ hf (fun μ39 a40 x41 x42 hf => ?_)
      · refine E_aload_n (pc := 131) dX12_comesTo_131 rfl ?_
        refine E_iload (pc := 132) dX12_comesTo_132 rfl ?_
        refine E_if_le (pc := 134) (tgt := 146) dX12_comesTo_134 (by decide) hf (fun hf => ?_) (fun hf => ?_)
        · refine E_aload_n (pc := 146) dX12_comesTo_146 rfl ?_
          refine E_getI (pc := 147) dX12_comesTo_147 fl_X12_437 hf (fun v43 hf => ?_)
          refine E_putI (pc := 150) dX12_comesTo_150 (pl_X12_437 _) hf (fun μ44 hf => ?_)
          refine E_aload_n (pc := 153) dX12_comesTo_153 rfl ?_
          refine E_iload_n (pc := 154) dX12_comesTo_154 rfl ?_
          refine E_Vi (pc := 155) (d2 := D_X12_leadsTo) (ci := 12) [.int x41] dX12_comesTo_155 ml_X12_412 mf_X12_leadsTo im_X12_leadsTo rfl rfl rfl (by decide) (Nat.le_of_ble_eq_true rfl) (Nat.le_of_ble_eq_true rfl) rfl (fun _ _ h => f_X12_leadsTo_ok h) hf (fun v46 μ45 hf => ?_)
          refine E_iconst (pc := 158) (v := (-1 : Int32)) dX12_comesTo_158 (by decide) ?_
          refine E_icmp_eq (pc := 159) (tgt := 166) dX12_comesTo_159 (by decide) hf (fun hf => ?_) (fun hf => ?_)
          · refine E_iconst (pc := 166) (v := (0 : Int32)) dX12_comesTo_166 (by decide) ?_
            exact E_zret (pc := 167) dX12_comesTo_167 rfl hf
          · refine E_iconst (pc := 162) (v := (1 : Int32)) dX12_comesTo_162 (by decide) ?_
            refine E_goto (pc := 163) (tgt := 167) dX12_comesTo_163 (by decide) ?_
            exact E_zret (pc := 167) dX12_comesTo_167 rfl hf
        · refine E_aload_n (pc := 137) dX12_comesTo_137 rfl ?_
          refine E_getI (pc := 138) dX12_comesTo_138 fl_X12_437 hf (fun v47 hf => ?_)
          refine E_iconst (pc := 141) (v := (2 : Int32)) dX12_comesTo_141 (by decide) ?_
          refine E_idiv2 (pc := 142) dX12_comesTo_142 hf (fun v48 hf => ?_)
          refine E_goto (pc := 143) (tgt := 150) dX12_comesTo_143 (by decide) ?_
          refine E_putI (pc := 150) dX12_comesTo_150 (pl_X12_437 _) hf (fun μ49 hf => ?_)
          refine E_aload_n (pc := 153) dX12_comesTo_153 rfl ?_
          refine E_iload_n (pc := 154) dX12_comesTo_154 rfl ?_
          refine E_Vi (pc := 155) (d2 := D_X12_leadsTo) (ci := 12) [.int x41] dX12_comesTo_155 ml_X12_412 mf_X12_leadsTo im_X12_leadsTo rfl rfl rfl (by decide) (Nat.le_of_ble_eq_true rfl) (Nat.le_of_ble_eq_true rfl) rfl (fun _ _ h => f_X12_leadsTo_ok h) hf (fun v51 μ50 hf => ?_)
          refine E_iconst (pc := 158) (v := (-1 : Int32)) dX12_comesTo_158 (by decide) ?_
          refine E_icmp_eq (pc := 159) (tgt := 166) dX12_comesTo_159 (by decide) hf (fun hf => ?_) (fun hf => ?_)
          · refine E_iconst (pc := 166) (v := (0 : Int32)) dX12_comesTo_166 (by decide) ?_
            exact E_zret (pc := 167) dX12_comesTo_167 rfl hf
          · refine E_iconst (pc := 162) (v := (1 : Int32)) dX12_comesTo_162 (by decide) ?_
            refine E_goto (pc := 163) (tgt := 167) dX12_comesTo_163 (by decide) ?_
            exact E_zret (pc := 167) dX12_comesTo_167 rfl hf
    · refine E_aload_n (pc := 54) dX12_comesTo_54 rfl ?_
      refine E_iconst (pc := 55) (v := (0 : Int32)) dX12_comesTo_55 (by decide) ?_
      refine E_putI (pc := 56) dX12_comesTo_56 (pl_X12_437 _) hf (fun μ52 hf => ?_)
      refine E_iconst (pc := 59) (v := (0 : Int32)) dX12_comesTo_59 (by decide) ?_
      exact E_zret (pc := 60) dX12_comesTo_60 rfl hf
  · refine E_iconst (pc := 35) (v := (0 : Int32)) dX12_comesTo_35 (by decide) ?_
    refine E_goto (pc := 36) (tgt := 43) dX12_comesTo_36 (by decide) ?_
    refine E_putI (pc := 43) dX12_comesTo_43 (pl_X12_437 _) hf (fun μ53 hf => ?_)
    refine E_aload_n (pc := 46) dX12_comesTo_46 rfl ?_
    refine E_iload_n (pc := 47) dX12_comesTo_47 rfl ?_
    refine E_Vi (pc := 48) (d2 := D_X12_isNet) (ci := 12) [.int x3] dX12_comesTo_48 ml_X12_419 mf_X12_isNet im_X12_isNet rfl rfl rfl (by decide) (Nat.le_of_ble_eq_true rfl) (Nat.le_of_ble_eq_true rfl) rfl (fun _ _ h => f_X12_isNet_ok h) hf (fun v55 μ54 hf => ?_)
    refine E_if_eq (pc := 51) (tgt := 61) dX12_comesTo_51 (by decide) hf (fun hf => ?_) (fun hf => ?_)
    · refine E_aload_n (pc := 61) dX12_comesTo_61 rfl ?_
      refine E_iload_n (pc := 62) dX12_comesTo_62 rfl ?_
      refine E_iload_n (pc := 63) dX12_comesTo_63 rfl ?_
      refine E_Vi (pc := 64) (d2 := D_X12_othersIn) (ci := 12) [.int x3, .int x2] dX12_comesTo_64 ml_X12_440 mf_X12_othersIn im_X12_othersIn rfl rfl rfl (by decide) (Nat.le_of_ble_eq_true rfl) (Nat.le_of_ble_eq_true rfl) rfl (fun _ _ h => f_X12_othersIn_ok h) hf (fun v57 μ56 hf => ?_)
      refine E_istore (pc := 67) (ls' := fun x58 => [(4, .int x58), (0, .ref a1), (1, .int x2), (2, .int x3), (3, .int x4)]) dX12_comesTo_67 (by decide) (fun _ => rfl) hf (fun x58 hf => ?_)
      refine E_iconst (pc := 69) (v := (0 : Int32)) dX12_comesTo_69 (by decide) ?_
      refine E_istore (pc := 70) (ls' := fun x59 => [(5, .int x59), (4, .int x58), (0, .ref a1), (1, .int x2), (2, .int x3), (3, .int x4)]) dX12_comesTo_70 (by decide) (fun _ => rfl) hf (fun x59 hf => ?_)
      refine Ev.sub [2, 3, 4, 5, 1, 0] rfl ?_
      refine f_X12_comesTo_L72_ok  _ _ _ _ _ _ _ _ hf (fun μ60 a61 x62 x63 hf => ?_)
      · refine E_aload_n (pc := 131) dX12_comesTo_131 rfl ?_
        refine E_iload (pc := 132) dX12_comesTo_132 rfl ?_
        refine E_if_le (pc := 134) (tgt := 146) dX12_comesTo_134 (by decide) hf (fun hf => ?_) (fun hf => ?_)
        · refine E_aload_n (pc := 146) dX12_comesTo_146 rfl ?_
          refine E_getI (pc := 147) dX12_comesTo_147 fl_X12_437 hf (fun v64 hf => ?_)
          refine E_putI (pc := 150) dX12_comesTo_150 (pl_X12_437 _) hf (fun μ65 hf => ?_)
          refine E_aload_n (pc := 153) dX12_comesTo_153 rfl ?_
          refine E_iload_n (pc := 154) dX12_comesTo_154 rfl ?_
          refine E_Vi (pc := 155) (d2 := D_X12_leadsTo) (ci := 12) [.int x62] dX12_comesTo_155 ml_X12_412 mf_X12_leadsTo im_X12_leadsTo rfl rfl rfl (by decide) (Nat.le_of_ble_eq_true rfl) (Nat.le_of_ble_eq_true rfl) rfl (fun _ _ h => f_X12_leadsTo_ok h) hf (fun v67 μ66 hf => ?_)
          refine E_iconst (pc := 158) (v := (-1 : Int32)) dX12_comesTo_158 (by decide) ?_
          refine E_icmp_eq (pc := 159) (tgt := 166) dX12_comesTo_159 (by decide) hf (fun hf => ?_) (fun hf => ?_)
          · refine E_iconst (pc := 166) (v := (0 : Int32)) dX12_comesTo_166 (by decide) ?_
            exact E_zret (pc := 167) dX12_comesTo_167 rfl hf
          · refine E_iconst (pc := 162) (v := (1 : Int32)) dX12_comesTo_162 (by decide) ?_
            refine E_goto (pc := 163) (tgt := 167) dX12_comesTo_163 (by decide) ?_
            exact E_zret (pc := 167) dX12_comesTo_167 rfl hf
        · refine E_aload_n (pc := 137) dX12_comesTo_137 rfl ?_
          refine E_getI (pc := 138) dX12_comesTo_138 fl_X12_437 hf (fun v68 hf => ?_)
          refine E_iconst (pc := 141) (v := (2 : Int32)) dX12_comesTo_141 (by decide) ?_
          refine E_idiv2 (pc := 142) dX12_comesTo_142 hf (fun v69 hf => ?_)
          refine E_goto (pc := 143) (tgt := 150) dX12_comesTo_143 (by decide) ?_
          refine E_putI (pc := 150) dX12_comesTo_150 (pl_X12_437 _) hf (fun μ70 hf => ?_)
          refine E_aload_n (pc := 153) dX12_comesTo_153 rfl ?_
          refine E_iload_n (pc := 154) dX12_comesTo_154 rfl ?_
          refine E_Vi (pc := 155) (d2 := D_X12_leadsTo) (ci := 12) [.int x62] dX12_comesTo_155 ml_X12_412 mf_X12_leadsTo im_X12_leadsTo rfl rfl rfl (by decide) (Nat.le_of_ble_eq_true rfl) (Nat.le_of_ble_eq_true rfl) rfl (fun _ _ h => f_X12_leadsTo_ok h) hf (fun v72 μ71 hf => ?_)
          refine E_iconst (pc := 158) (v := (-1 : Int32)) dX12_comesTo_158 (by decide) ?_
          refine E_icmp_eq (pc := 159) (tgt := 166) dX12_comesTo_159 (by decide) hf (fun hf => ?_) (fun hf => ?_)
          · refine E_iconst (pc := 166) (v := (0 : Int32)) dX12_comesTo_166 (by decide) ?_
            exact E_zret (pc := 167) dX12_comesTo_167 rfl hf
          · refine E_iconst (pc := 162) (v := (1 : Int32)) dX12_comesTo_162 (by decide) ?_
            refine E_goto (pc := 163) (tgt := 167) dX12_comesTo_163 (by decide) ?_
            exact E_zret (pc := 167) dX12_comesTo_167 rfl hf
    · refine E_aload_n (pc := 54) dX12_comesTo_54 rfl ?_
      refine E_iconst (pc := 55) (v := (0 : Int32)) dX12_comesTo_55 (by decide) ?_
      refine E_putI (pc := 56) dX12_comesTo_56 (pl_X12_437 _) hf (fun μ73 hf => ?_)
      refine E_iconst (pc := 59) (v := (0 : Int32)) dX12_comesTo_59 (by decide) ?_
      exact E_zret (pc := 60) dX12_comesTo_60 rfl hf
theorem dX12_beginsFall_0 : decode cX12_beginsFall 0 = .ok (.aload_n 0, 1) := by decide +kernel
theorem dX12_beginsFall_1 : decode cX12_beginsFall 1 = .ok (.iconst 0, 1) := by decide +kernel
theorem dX12_beginsFall_2 : decode cX12_beginsFall 2 = .ok (.putfield 437, 3) := by decide +kernel
theorem dX12_beginsFall_5 : decode cX12_beginsFall 5 = .ok (.aload_n 0, 1) := by decide +kernel
theorem dX12_beginsFall_6 : decode cX12_beginsFall 6 = .ok (.iconst 0, 1) := by decide +kernel
theorem dX12_beginsFall_7 : decode cX12_beginsFall 7 = .ok (.putfield 434, 3) := by decide +kernel
theorem dX12_beginsFall_10 : decode cX12_beginsFall 10 = .ok (.aload_n 0, 1) := by decide +kernel
theorem dX12_beginsFall_11 : decode cX12_beginsFall 11 = .ok (.iconst 0, 1) := by decide +kernel
theorem dX12_beginsFall_12 : decode cX12_beginsFall 12 = .ok (.putfield 443, 3) := by decide +kernel
theorem dX12_beginsFall_15 : decode cX12_beginsFall 15 = .ok (.aload_n 0, 1) := by decide +kernel
theorem dX12_beginsFall_16 : decode cX12_beginsFall 16 = .ok (.iconst 0, 1) := by decide +kernel
theorem dX12_beginsFall_17 : decode cX12_beginsFall 17 = .ok (.putfield 463, 3) := by decide +kernel
theorem dX12_beginsFall_20 : decode cX12_beginsFall 20 = .ok (.return_, 1) := by decide +kernel
abbrev D_X12_beginsFall : Nat := 1
set_option maxRecDepth 100000 in
def f_X12_beginsFall (μ0 : Mm) (a1 : Nat) : Option Mm :=
 ((pV μ0 a1 12 49 (.int (0 : Int32))).bind fun μ2 =>
    ((pV μ2 a1 12 50 (.int (0 : Int32))).bind fun μ3 =>
    ((pV μ3 a1 12 51 (.int (0 : Int32))).bind fun μ4 =>
    ((pV μ4 a1 12 52 (.int (0 : Int32))).bind fun μ5 =>
    (some μ5)))))
set_option maxHeartbeats 4000000 in
set_option maxRecDepth 100000 in
theorem f_X12_beginsFall_ok {l : Launch} {G : GG} {μ0 : Mm} {a1 : Nat} {μ' : Mm} (hf : f_X12_beginsFall μ0 a1 = some μ') : EvM l G D_X12_beginsFall yX12_beginsFall cX12_beginsFall 1 none [.ref a1] μ0 none μ' := by
  show Ev l G D_X12_beginsFall yX12_beginsFall cX12_beginsFall 1 none 0 [(0, .ref a1)] [] μ0 none μ'
  unfold f_X12_beginsFall at hf
  refine E_aload_n (pc := 0) dX12_beginsFall_0 rfl ?_
  refine E_iconst (pc := 1) (v := (0 : Int32)) dX12_beginsFall_1 (by decide) ?_
  refine E_putI (pc := 2) dX12_beginsFall_2 (pl_X12_437 _) hf (fun μ2 hf => ?_)
  refine E_aload_n (pc := 5) dX12_beginsFall_5 rfl ?_
  refine E_iconst (pc := 6) (v := (0 : Int32)) dX12_beginsFall_6 (by decide) ?_
  refine E_putI (pc := 7) dX12_beginsFall_7 (pl_X12_434 _) hf (fun μ3 hf => ?_)
  refine E_aload_n (pc := 10) dX12_beginsFall_10 rfl ?_
  refine E_iconst (pc := 11) (v := (0 : Int32)) dX12_beginsFall_11 (by decide) ?_
  refine E_putI (pc := 12) dX12_beginsFall_12 (pl_X12_443 _) hf (fun μ4 hf => ?_)
  refine E_aload_n (pc := 15) dX12_beginsFall_15 rfl ?_
  refine E_iconst (pc := 16) (v := (0 : Int32)) dX12_beginsFall_16 (by decide) ?_
  refine E_putI (pc := 17) dX12_beginsFall_17 (pl_X12_463 _) hf (fun μ5 hf => ?_)
  exact E_vret (pc := 20) dX12_beginsFall_20 rfl hf
theorem dX12_falls_0 : decode cX12_falls 0 = .ok (.aload_n 0, 1) := by decide +kernel
theorem dX12_falls_1 : decode cX12_falls 1 = .ok (.invokevirtual 469, 3) := by decide +kernel
theorem dX12_falls_4 : decode cX12_falls 4 = .ok (.iload_n 2, 1) := by decide +kernel
theorem dX12_falls_5 : decode cX12_falls 5 = .ok (.istore 4, 2) := by decide +kernel
theorem dX12_falls_7 : decode cX12_falls 7 = .ok (.aload_n 0, 1) := by decide +kernel
theorem dX12_falls_8 : decode cX12_falls 8 = .ok (.iload_n 2, 1) := by decide +kernel
theorem dX12_falls_9 : decode cX12_falls 9 = .ok (.invokevirtual 412, 3) := by decide +kernel
theorem dX12_falls_12 : decode cX12_falls 12 = .ok (.iconst (-1), 1) := by decide +kernel
theorem dX12_falls_13 : decode cX12_falls 13 = .ok (.if_icmp .eq 7, 3) := by decide +kernel
theorem dX12_falls_16 : decode cX12_falls 16 = .ok (.iconst 1, 1) := by decide +kernel
theorem dX12_falls_17 : decode cX12_falls 17 = .ok (.goto 4, 3) := by decide +kernel
theorem dX12_falls_20 : decode cX12_falls 20 = .ok (.iconst 0, 1) := by decide +kernel
theorem dX12_falls_21 : decode cX12_falls 21 = .ok (.istore 5, 2) := by decide +kernel
theorem dX12_falls_23 : decode cX12_falls 23 = .ok (.iload 5, 2) := by decide +kernel
theorem dX12_falls_25 : decode cX12_falls 25 = .ok (.ifCond .eq 82, 3) := by decide +kernel
theorem dX12_falls_28 : decode cX12_falls 28 = .ok (.aload_n 0, 1) := by decide +kernel
theorem dX12_falls_29 : decode cX12_falls 29 = .ok (.getfield 434, 3) := by decide +kernel
theorem dX12_falls_32 : decode cX12_falls 32 = .ok (.ifCond .ne 18, 3) := by decide +kernel
theorem dX12_falls_35 : decode cX12_falls 35 = .ok (.iload_n 3, 1) := by decide +kernel
theorem dX12_falls_36 : decode cX12_falls 36 = .ok (.iconst 4, 1) := by decide +kernel
theorem dX12_falls_37 : decode cX12_falls 37 = .ok (.if_icmp .ge 13, 3) := by decide +kernel
theorem dX12_falls_40 : decode cX12_falls 40 = .ok (.aload_n 0, 1) := by decide +kernel
theorem dX12_falls_41 : decode cX12_falls 41 = .ok (.iload 4, 2) := by decide +kernel
theorem dX12_falls_43 : decode cX12_falls 43 = .ok (.iload_n 3, 1) := by decide +kernel
theorem dX12_falls_44 : decode cX12_falls 44 = .ok (.invokevirtual 409, 3) := by decide +kernel
theorem dX12_falls_47 : decode cX12_falls 47 = .ok (.goto 4, 3) := by decide +kernel
theorem dX12_falls_50 : decode cX12_falls 50 = .ok (.iconst (-1), 1) := by decide +kernel
theorem dX12_falls_51 : decode cX12_falls 51 = .ok (.istore 6, 2) := by decide +kernel
theorem dX12_falls_53 : decode cX12_falls 53 = .ok (.iload 6, 2) := by decide +kernel
theorem dX12_falls_55 : decode cX12_falls 55 = .ok (.iconst (-1), 1) := by decide +kernel
theorem dX12_falls_56 : decode cX12_falls 56 = .ok (.if_icmp .eq 8, 3) := by decide +kernel
theorem dX12_falls_59 : decode cX12_falls 59 = .ok (.iload 6, 2) := by decide +kernel
theorem dX12_falls_61 : decode cX12_falls 61 = .ok (.goto 9, 3) := by decide +kernel
theorem dX12_falls_64 : decode cX12_falls 64 = .ok (.aload_n 0, 1) := by decide +kernel
theorem dX12_falls_65 : decode cX12_falls 65 = .ok (.iload 4, 2) := by decide +kernel
theorem dX12_falls_67 : decode cX12_falls 67 = .ok (.invokevirtual 412, 3) := by decide +kernel
theorem dX12_falls_70 : decode cX12_falls 70 = .ok (.istore 7, 2) := by decide +kernel
theorem dX12_falls_72 : decode cX12_falls 72 = .ok (.aload_n 0, 1) := by decide +kernel
theorem dX12_falls_73 : decode cX12_falls 73 = .ok (.getfield 13, 3) := by decide +kernel
theorem dX12_falls_76 : decode cX12_falls 76 = .ok (.iload 4, 2) := by decide +kernel
theorem dX12_falls_78 : decode cX12_falls 78 = .ok (.iaload, 1) := by decide +kernel
theorem dX12_falls_79 : decode cX12_falls 79 = .ok (.aload_n 0, 1) := by decide +kernel
theorem dX12_falls_80 : decode cX12_falls 80 = .ok (.getfield 13, 3) := by decide +kernel
theorem dX12_falls_83 : decode cX12_falls 83 = .ok (.iload 7, 2) := by decide +kernel
theorem dX12_falls_85 : decode cX12_falls 85 = .ok (.iaload, 1) := by decide +kernel
theorem dX12_falls_86 : decode cX12_falls 86 = .ok (.isub, 1) := by decide +kernel
theorem dX12_falls_87 : decode cX12_falls 87 = .ok (.istore 8, 2) := by decide +kernel
theorem dX12_falls_89 : decode cX12_falls 89 = .ok (.iload 7, 2) := by decide +kernel
theorem dX12_falls_91 : decode cX12_falls 91 = .ok (.istore 4, 2) := by decide +kernel
theorem dX12_falls_93 : decode cX12_falls 93 = .ok (.aload_n 0, 1) := by decide +kernel
theorem dX12_falls_94 : decode cX12_falls 94 = .ok (.iload_n 1, 1) := by decide +kernel
theorem dX12_falls_95 : decode cX12_falls 95 = .ok (.iload 7, 2) := by decide +kernel
theorem dX12_falls_97 : decode cX12_falls 97 = .ok (.iload 8, 2) := by decide +kernel
theorem dX12_falls_99 : decode cX12_falls 99 = .ok (.invokevirtual 472, 3) := by decide +kernel
theorem dX12_falls_102 : decode cX12_falls 102 = .ok (.istore 5, 2) := by decide +kernel
theorem dX12_falls_104 : decode cX12_falls 104 = .ok (.goto (-81), 3) := by decide +kernel
theorem dX12_falls_107 : decode cX12_falls 107 = .ok (.iload 4, 2) := by decide +kernel
theorem dX12_falls_109 : decode cX12_falls 109 = .ok (.ireturn, 1) := by decide +kernel
abbrev D_X12_falls : Nat := 7
def f_X12_falls_L23 (K107 : Mm → Int32 → Option (Int32 × Mm)) : Nat → Mm → Nat → Int32 → Int32 → Int32 → Int32 → Option (Int32 × Mm)
  | 0, _, _, _, _, _, _ => none
  | n + 1, μ0, a10, x11, x12, x13, x14 =>
    (if x14 = 0 then
    K107 μ0 x13
    else
    ((gI μ0 a10 12 50).bind fun v15 =>
    (if v15 = 0 then
    (if (4 : Int32) ≤ x12 then
    (nm (-1 : Int32) fun x16 =>
    (if x16 = (-1 : Int32) then
    ((ob μ0 a10 12).bind fun _ =>
    (bd (f_X12_leadsTo μ0 a10 x13) fun v18 μ17 =>
    (nm v18 fun x19 =>
    ((gR μ17 a10 12 2).bind fun v20 =>
    ((aI μ17 v20 0 x13).bind fun v21 =>
    ((gR μ17 a10 12 2).bind fun v22 =>
    ((aI μ17 v22 0 x19).bind fun v23 =>
    (nm (v21 - v23) fun x24 =>
    (nm x19 fun x25 =>
    ((ob μ17 a10 12).bind fun _ =>
    (bd (f_X12_comesTo μ17 a10 x11 x19 x24) fun v27 μ26 =>
    (nm v27 fun x28 =>
    f_X12_falls_L23 K107 n μ26 a10 x11 x12 x25 x28))))))))))))
    else
    (nm x16 fun x29 =>
    ((gR μ0 a10 12 2).bind fun v30 =>
    ((aI μ0 v30 0 x13).bind fun v31 =>
    ((gR μ0 a10 12 2).bind fun v32 =>
    ((aI μ0 v32 0 x29).bind fun v33 =>
    (nm (v31 - v33) fun x34 =>
    (nm x29 fun x35 =>
    ((ob μ0 a10 12).bind fun _ =>
    (bd (f_X12_comesTo μ0 a10 x11 x29 x34) fun v37 μ36 =>
    (nm v37 fun x38 =>
    f_X12_falls_L23 K107 n μ36 a10 x11 x12 x35 x38))))))))))))
    else
    ((ob μ0 a10 12).bind fun _ =>
    (bd (f_X12_lower μ0 a10 x13 x12) fun v40 μ39 =>
    (nm v40 fun x41 =>
    (if x41 = (-1 : Int32) then
    ((ob μ39 a10 12).bind fun _ =>
    (bd (f_X12_leadsTo μ39 a10 x13) fun v43 μ42 =>
    (nm v43 fun x44 =>
    ((gR μ42 a10 12 2).bind fun v45 =>
    ((aI μ42 v45 0 x13).bind fun v46 =>
    ((gR μ42 a10 12 2).bind fun v47 =>
    ((aI μ42 v47 0 x44).bind fun v48 =>
    (nm (v46 - v48) fun x49 =>
    (nm x44 fun x50 =>
    ((ob μ42 a10 12).bind fun _ =>
    (bd (f_X12_comesTo μ42 a10 x11 x44 x49) fun v52 μ51 =>
    (nm v52 fun x53 =>
    f_X12_falls_L23 K107 n μ51 a10 x11 x12 x50 x53))))))))))))
    else
    (nm x41 fun x54 =>
    ((gR μ39 a10 12 2).bind fun v55 =>
    ((aI μ39 v55 0 x13).bind fun v56 =>
    ((gR μ39 a10 12 2).bind fun v57 =>
    ((aI μ39 v57 0 x54).bind fun v58 =>
    (nm (v56 - v58) fun x59 =>
    (nm x54 fun x60 =>
    ((ob μ39 a10 12).bind fun _ =>
    (bd (f_X12_comesTo μ39 a10 x11 x54 x59) fun v62 μ61 =>
    (nm v62 fun x63 =>
    f_X12_falls_L23 K107 n μ61 a10 x11 x12 x60 x63)))))))))))))))
    else
    (nm (-1 : Int32) fun x64 =>
    (if x64 = (-1 : Int32) then
    ((ob μ0 a10 12).bind fun _ =>
    (bd (f_X12_leadsTo μ0 a10 x13) fun v66 μ65 =>
    (nm v66 fun x67 =>
    ((gR μ65 a10 12 2).bind fun v68 =>
    ((aI μ65 v68 0 x13).bind fun v69 =>
    ((gR μ65 a10 12 2).bind fun v70 =>
    ((aI μ65 v70 0 x67).bind fun v71 =>
    (nm (v69 - v71) fun x72 =>
    (nm x67 fun x73 =>
    ((ob μ65 a10 12).bind fun _ =>
    (bd (f_X12_comesTo μ65 a10 x11 x67 x72) fun v75 μ74 =>
    (nm v75 fun x76 =>
    f_X12_falls_L23 K107 n μ74 a10 x11 x12 x73 x76))))))))))))
    else
    (nm x64 fun x77 =>
    ((gR μ0 a10 12 2).bind fun v78 =>
    ((aI μ0 v78 0 x13).bind fun v79 =>
    ((gR μ0 a10 12 2).bind fun v80 =>
    ((aI μ0 v80 0 x77).bind fun v81 =>
    (nm (v79 - v81) fun x82 =>
    (nm x77 fun x83 =>
    ((ob μ0 a10 12).bind fun _ =>
    (bd (f_X12_comesTo μ0 a10 x11 x77 x82) fun v85 μ84 =>
    (nm v85 fun x86 =>
    f_X12_falls_L23 K107 n μ84 a10 x11 x12 x83 x86)))))))))))))))
set_option maxHeartbeats 4000000 in
set_option maxRecDepth 100000 in
theorem f_X12_falls_L23_ok {l : Launch} {G : GG} {K107 : Mm → Int32 → Option (Int32 × Mm)} {r : Int32} {μ' : Mm} (n : Nat) (μ0 : Mm) (a10 : Nat) (x11 : Int32) (x12 : Int32) (x13 : Int32) (x14 : Int32) (hf : f_X12_falls_L23 K107 n μ0 a10 x11 x12 x13 x14 = some (r, μ')) (hK107 : ∀ (μ1 : Mm) (y4 : Int32), K107 μ1 y4 = some (r, μ') → Ev l G D_X12_falls yX12_falls cX12_falls 9 (some .int) 107 [(4, .int y4)] [] μ1 (some (.int r)) μ') : Ev l G D_X12_falls yX12_falls cX12_falls 9 (some .int) 23 [(0, .ref a10), (1, .int x11), (3, .int x12), (4, .int x13), (5, .int x14)] [] μ0 (some (.int r)) μ' := by
  induction n generalizing μ0 a10 x11 x12 x13 x14 with
  | zero => cases hf
  | succ n ih0 =>
    have ih : ∀ (μ0 : Mm) (a10 : Nat) (x11 : Int32) (x12 : Int32) (x13 : Int32) (x14 : Int32), f_X12_falls_L23 K107 n μ0 a10 x11 x12 x13 x14 = some (r, μ') → Ev l G D_X12_falls yX12_falls cX12_falls 9 (some .int) 23 [(0, .ref a10), (1, .int x11), (3, .int x12), (4, .int x13), (5, .int x14)] [] μ0 (some (.int r)) μ' := fun μ0 a10 x11 x12 x13 x14 hf => ih0 μ0 a10 x11 x12 x13 x14 hf
    rw [f_X12_falls_L23] at hf
    refine E_iload (pc := 23) dX12_falls_23 rfl ?_
    refine E_if_eq (pc := 25) (tgt := 107) dX12_falls_25 (by decide) hf (fun hf => ?_) (fun hf => ?_)
    · refine Ev.sub [3] rfl ?_
      exact hK107 _ _ hf
    · refine E_aload_n (pc := 28) dX12_falls_28 rfl ?_
      refine E_getI (pc := 29) dX12_falls_29 fl_X12_434 hf (fun v15 hf => ?_)
      refine E_if_ne (pc := 32) (tgt := 50) dX12_falls_32 (by decide) hf (fun hf => ?_) (fun hf => ?_)
      · refine E_iload_n (pc := 35) dX12_falls_35 rfl ?_
        refine E_iconst (pc := 36) (v := (4 : Int32)) dX12_falls_36 (by decide) ?_
        refine E_icmp_ge (pc := 37) (tgt := 50) dX12_falls_37 (by decide) hf (fun hf => ?_) (fun hf => ?_)
        · refine E_iconst (pc := 50) (v := (-1 : Int32)) dX12_falls_50 (by decide) ?_
          refine E_istore (pc := 51) (ls' := fun x16 => [(6, .int x16), (0, .ref a10), (1, .int x11), (3, .int x12), (4, .int x13), (5, .int x14)]) dX12_falls_51 (by decide) (fun _ => rfl) hf (fun x16 hf => ?_)
          refine E_iload (pc := 53) dX12_falls_53 rfl ?_
          refine E_iconst (pc := 55) (v := (-1 : Int32)) dX12_falls_55 (by decide) ?_
          refine E_icmp_eq (pc := 56) (tgt := 64) dX12_falls_56 (by decide) hf (fun hf => ?_) (fun hf => ?_)
          · refine E_aload_n (pc := 64) dX12_falls_64 rfl ?_
            refine E_iload (pc := 65) dX12_falls_65 rfl ?_
            refine E_Vi (pc := 67) (d2 := D_X12_leadsTo) (ci := 12) [.int x13] dX12_falls_67 ml_X12_412 mf_X12_leadsTo im_X12_leadsTo rfl rfl rfl (by decide) (Nat.le_of_ble_eq_true rfl) (Nat.le_of_ble_eq_true rfl) rfl (fun _ _ h => f_X12_leadsTo_ok h) hf (fun v18 μ17 hf => ?_)
            refine E_istore (pc := 70) (ls' := fun x19 => [(7, .int x19), (6, .int x16), (0, .ref a10), (1, .int x11), (3, .int x12), (4, .int x13), (5, .int x14)]) dX12_falls_70 (by decide) (fun _ => rfl) hf (fun x19 hf => ?_)
            refine E_aload_n (pc := 72) dX12_falls_72 rfl ?_
            refine E_getR (pc := 73) dX12_falls_73 fl_X12_13 hf (fun v20 hf => ?_)
            refine E_iload (pc := 76) dX12_falls_76 rfl ?_
            refine E_iald (pc := 78) dX12_falls_78 hf (fun v21 hf => ?_)
            refine E_aload_n (pc := 79) dX12_falls_79 rfl ?_
            refine E_getR (pc := 80) dX12_falls_80 fl_X12_13 hf (fun v22 hf => ?_)
            refine E_iload (pc := 83) dX12_falls_83 rfl ?_
            refine E_iald (pc := 85) dX12_falls_85 hf (fun v23 hf => ?_)
            refine E_isub (pc := 86) dX12_falls_86 ?_
            refine E_istore (pc := 87) (ls' := fun x24 => [(8, .int x24), (7, .int x19), (6, .int x16), (0, .ref a10), (1, .int x11), (3, .int x12), (4, .int x13), (5, .int x14)]) dX12_falls_87 (by decide) (fun _ => rfl) hf (fun x24 hf => ?_)
            refine E_iload (pc := 89) dX12_falls_89 rfl ?_
            refine E_istore (pc := 91) (ls' := fun x25 => [(4, .int x25), (8, .int x24), (7, .int x19), (6, .int x16), (0, .ref a10), (1, .int x11), (3, .int x12), (5, .int x14)]) dX12_falls_91 (by decide) (fun _ => rfl) hf (fun x25 hf => ?_)
            refine E_aload_n (pc := 93) dX12_falls_93 rfl ?_
            refine E_iload_n (pc := 94) dX12_falls_94 rfl ?_
            refine E_iload (pc := 95) dX12_falls_95 rfl ?_
            refine E_iload (pc := 97) dX12_falls_97 rfl ?_
            refine E_Vi (pc := 99) (d2 := D_X12_comesTo) (ci := 12) [.int x11, .int x19, .int x24] dX12_falls_99 ml_X12_472 mf_X12_comesTo im_X12_comesTo rfl rfl rfl (by decide) (Nat.le_of_ble_eq_true rfl) (Nat.le_of_ble_eq_true rfl) rfl (fun _ _ h => f_X12_comesTo_ok h) hf (fun v27 μ26 hf => ?_)
            refine E_istore (pc := 102) (ls' := fun x28 => [(5, .int x28), (4, .int x25), (8, .int x24), (7, .int x19), (6, .int x16), (0, .ref a10), (1, .int x11), (3, .int x12)]) dX12_falls_102 (by decide) (fun _ => rfl) hf (fun x28 hf => ?_)
            refine E_goto (pc := 104) (tgt := 23) dX12_falls_104 (by decide) ?_
            refine Ev.sub [5, 6, 7, 1, 0] rfl ?_
            exact ih _ _ _ _ _ _ hf
          · refine E_iload (pc := 59) dX12_falls_59 rfl ?_
            refine E_goto (pc := 61) (tgt := 70) dX12_falls_61 (by decide) ?_
            refine E_istore (pc := 70) (ls' := fun x29 => [(7, .int x29), (6, .int x16), (0, .ref a10), (1, .int x11), (3, .int x12), (4, .int x13), (5, .int x14)]) dX12_falls_70 (by decide) (fun _ => rfl) hf (fun x29 hf => ?_)
            refine E_aload_n (pc := 72) dX12_falls_72 rfl ?_
            refine E_getR (pc := 73) dX12_falls_73 fl_X12_13 hf (fun v30 hf => ?_)
            refine E_iload (pc := 76) dX12_falls_76 rfl ?_
            refine E_iald (pc := 78) dX12_falls_78 hf (fun v31 hf => ?_)
            refine E_aload_n (pc := 79) dX12_falls_79 rfl ?_
            refine E_getR (pc := 80) dX12_falls_80 fl_X12_13 hf (fun v32 hf => ?_)
            refine E_iload (pc := 83) dX12_falls_83 rfl ?_
            refine E_iald (pc := 85) dX12_falls_85 hf (fun v33 hf => ?_)
            refine E_isub (pc := 86) dX12_falls_86 ?_
            refine E_istore (pc := 87) (ls' := fun x34 => [(8, .int x34), (7, .int x29), (6, .int x16), (0, .ref a10), (1, .int x11), (3, .int x12), (4, .int x13), (5, .int x14)]) dX12_falls_87 (by decide) (fun _ => rfl) hf (fun x34 hf => ?_)
            refine E_iload (pc := 89) dX12_falls_89 rfl ?_
            refine E_istore (pc := 91) (ls' := fun x35 => [(4, .int x35), (8, .int x34), (7, .int x29), (6, .int x16), (0, .ref a10), (1, .int x11), (3, .int x12), (5, .int x14)]) dX12_falls_91 (by decide) (fun _ => rfl) hf (fun x35 hf => ?_)
            refine E_aload_n (pc := 93) dX12_falls_93 rfl ?_
            refine E_iload_n (pc := 94) dX12_falls_94 rfl ?_
            refine E_iload (pc := 95) dX12_falls_95 rfl ?_
            refine E_iload (pc := 97) dX12_falls_97 rfl ?_
            refine E_Vi (pc := 99) (d2 := D_X12_comesTo) (ci := 12) [.int x11, .int x29, .int x34] dX12_falls_99 ml_X12_472 mf_X12_comesTo im_X12_comesTo rfl rfl rfl (by decide) (Nat.le_of_ble_eq_true rfl) (Nat.le_of_ble_eq_true rfl) rfl (fun _ _ h => f_X12_comesTo_ok h) hf (fun v37 μ36 hf => ?_)
            refine E_istore (pc := 102) (ls' := fun x38 => [(5, .int x38), (4, .int x35), (8, .int x34), (7, .int x29), (6, .int x16), (0, .ref a10), (1, .int x11), (3, .int x12)]) dX12_falls_102 (by decide) (fun _ => rfl) hf (fun x38 hf => ?_)
            refine E_goto (pc := 104) (tgt := 23) dX12_falls_104 (by decide) ?_
            refine Ev.sub [5, 6, 7, 1, 0] rfl ?_
            exact ih _ _ _ _ _ _ hf
        · refine E_aload_n (pc := 40) dX12_falls_40 rfl ?_
          refine E_iload (pc := 41) dX12_falls_41 rfl ?_
          refine E_iload_n (pc := 43) dX12_falls_43 rfl ?_
          refine E_Vi (pc := 44) (d2 := D_X12_lower) (ci := 12) [.int x13, .int x12] dX12_falls_44 ml_X12_409 mf_X12_lower im_X12_lower rfl rfl rfl (by decide) (Nat.le_of_ble_eq_true rfl) (Nat.le_of_ble_eq_true rfl) rfl (fun _ _ h => f_X12_lower_ok h) hf (fun v40 μ39 hf => ?_)
          refine E_goto (pc := 47) (tgt := 51) dX12_falls_47 (by decide) ?_
          refine E_istore (pc := 51) (ls' := fun x41 => [(6, .int x41), (0, .ref a10), (1, .int x11), (3, .int x12), (4, .int x13), (5, .int x14)]) dX12_falls_51 (by decide) (fun _ => rfl) hf (fun x41 hf => ?_)
          refine E_iload (pc := 53) dX12_falls_53 rfl ?_
          refine E_iconst (pc := 55) (v := (-1 : Int32)) dX12_falls_55 (by decide) ?_
          refine E_icmp_eq (pc := 56) (tgt := 64) dX12_falls_56 (by decide) hf (fun hf => ?_) (fun hf => ?_)
          · refine E_aload_n (pc := 64) dX12_falls_64 rfl ?_
            refine E_iload (pc := 65) dX12_falls_65 rfl ?_
            refine E_Vi (pc := 67) (d2 := D_X12_leadsTo) (ci := 12) [.int x13] dX12_falls_67 ml_X12_412 mf_X12_leadsTo im_X12_leadsTo rfl rfl rfl (by decide) (Nat.le_of_ble_eq_true rfl) (Nat.le_of_ble_eq_true rfl) rfl (fun _ _ h => f_X12_leadsTo_ok h) hf (fun v43 μ42 hf => ?_)
            refine E_istore (pc := 70) (ls' := fun x44 => [(7, .int x44), (6, .int x41), (0, .ref a10), (1, .int x11), (3, .int x12), (4, .int x13), (5, .int x14)]) dX12_falls_70 (by decide) (fun _ => rfl) hf (fun x44 hf => ?_)
            refine E_aload_n (pc := 72) dX12_falls_72 rfl ?_
            refine E_getR (pc := 73) dX12_falls_73 fl_X12_13 hf (fun v45 hf => ?_)
            refine E_iload (pc := 76) dX12_falls_76 rfl ?_
            refine E_iald (pc := 78) dX12_falls_78 hf (fun v46 hf => ?_)
            refine E_aload_n (pc := 79) dX12_falls_79 rfl ?_
            refine E_getR (pc := 80) dX12_falls_80 fl_X12_13 hf (fun v47 hf => ?_)
            refine E_iload (pc := 83) dX12_falls_83 rfl ?_
            refine E_iald (pc := 85) dX12_falls_85 hf (fun v48 hf => ?_)
            refine E_isub (pc := 86) dX12_falls_86 ?_
            refine E_istore (pc := 87) (ls' := fun x49 => [(8, .int x49), (7, .int x44), (6, .int x41), (0, .ref a10), (1, .int x11), (3, .int x12), (4, .int x13), (5, .int x14)]) dX12_falls_87 (by decide) (fun _ => rfl) hf (fun x49 hf => ?_)
            refine E_iload (pc := 89) dX12_falls_89 rfl ?_
            refine E_istore (pc := 91) (ls' := fun x50 => [(4, .int x50), (8, .int x49), (7, .int x44), (6, .int x41), (0, .ref a10), (1, .int x11), (3, .int x12), (5, .int x14)]) dX12_falls_91 (by decide) (fun _ => rfl) hf (fun x50 hf => ?_)
            refine E_aload_n (pc := 93) dX12_falls_93 rfl ?_
            refine E_iload_n (pc := 94) dX12_falls_94 rfl ?_
            refine E_iload (pc := 95) dX12_falls_95 rfl ?_
            refine E_iload (pc := 97) dX12_falls_97 rfl ?_
            refine E_Vi (pc := 99) (d2 := D_X12_comesTo) (ci := 12) [.int x11, .int x44, .int x49] dX12_falls_99 ml_X12_472 mf_X12_comesTo im_X12_comesTo rfl rfl rfl (by decide) (Nat.le_of_ble_eq_true rfl) (Nat.le_of_ble_eq_true rfl) rfl (fun _ _ h => f_X12_comesTo_ok h) hf (fun v52 μ51 hf => ?_)
            refine E_istore (pc := 102) (ls' := fun x53 => [(5, .int x53), (4, .int x50), (8, .int x49), (7, .int x44), (6, .int x41), (0, .ref a10), (1, .int x11), (3, .int x12)]) dX12_falls_102 (by decide) (fun _ => rfl) hf (fun x53 hf => ?_)
            refine E_goto (pc := 104) (tgt := 23) dX12_falls_104 (by decide) ?_
            refine Ev.sub [5, 6, 7, 1, 0] rfl ?_
            exact ih _ _ _ _ _ _ hf
          · refine E_iload (pc := 59) dX12_falls_59 rfl ?_
            refine E_goto (pc := 61) (tgt := 70) dX12_falls_61 (by decide) ?_
            refine E_istore (pc := 70) (ls' := fun x54 => [(7, .int x54), (6, .int x41), (0, .ref a10), (1, .int x11), (3, .int x12), (4, .int x13), (5, .int x14)]) dX12_falls_70 (by decide) (fun _ => rfl) hf (fun x54 hf => ?_)
            refine E_aload_n (pc := 72) dX12_falls_72 rfl ?_
            refine E_getR (pc := 73) dX12_falls_73 fl_X12_13 hf (fun v55 hf => ?_)
            refine E_iload (pc := 76) dX12_falls_76 rfl ?_
            refine E_iald (pc := 78) dX12_falls_78 hf (fun v56 hf => ?_)
            refine E_aload_n (pc := 79) dX12_falls_79 rfl ?_
            refine E_getR (pc := 80) dX12_falls_80 fl_X12_13 hf (fun v57 hf => ?_)
            refine E_iload (pc := 83) dX12_falls_83 rfl ?_
            refine E_iald (pc := 85) dX12_falls_85 hf (fun v58 hf => ?_)
            refine E_isub (pc := 86) dX12_falls_86 ?_
            refine E_istore (pc := 87) (ls' := fun x59 => [(8, .int x59), (7, .int x54), (6, .int x41), (0, .ref a10), (1, .int x11), (3, .int x12), (4, .int x13), (5, .int x14)]) dX12_falls_87 (by decide) (fun _ => rfl) hf (fun x59 hf => ?_)
            refine E_iload (pc := 89) dX12_falls_89 rfl ?_
            refine E_istore (pc := 91) (ls' := fun x60 => [(4, .int x60), (8, .int x59), (7, .int x54), (6, .int x41), (0, .ref a10), (1, .int x11), (3, .int x12), (5, .int x14)]) dX12_falls_91 (by decide) (fun _ => rfl) hf (fun x60 hf => ?_)
            refine E_aload_n (pc := 93) dX12_falls_93 rfl ?_
            refine E_iload_n (pc := 94) dX12_falls_94 rfl ?_
            refine E_iload (pc := 95) dX12_falls_95 rfl ?_
            refine E_iload (pc := 97) dX12_falls_97 rfl ?_
            refine E_Vi (pc := 99) (d2 := D_X12_comesTo) (ci := 12) [.int x11, .int x54, .int x59] dX12_falls_99 ml_X12_472 mf_X12_comesTo im_X12_comesTo rfl rfl rfl (by decide) (Nat.le_of_ble_eq_true rfl) (Nat.le_of_ble_eq_true rfl) rfl (fun _ _ h => f_X12_comesTo_ok h) hf (fun v62 μ61 hf => ?_)
            refine E_istore (pc := 102) (ls' := fun x63 => [(5, .int x63), (4, .int x60), (8, .int x59), (7, .int x54), (6, .int x41), (0, .ref a10), (1, .int x11), (3, .int x12)]) dX12_falls_102 (by decide) (fun _ => rfl) hf (fun x63 hf => ?_)
            refine E_goto (pc := 104) (tgt := 23) dX12_falls_104 (by decide) ?_
            refine Ev.sub [5, 6, 7, 1, 0] rfl ?_
            exact ih _ _ _ _ _ _ hf
      · refine E_iconst (pc := 50) (v := (-1 : Int32)) dX12_falls_50 (by decide) ?_
        refine E_istore (pc := 51) (ls' := fun x64 => [(6, .int x64), (0, .ref a10), (1, .int x11), (3, .int x12), (4, .int x13), (5, .int x14)]) dX12_falls_51 (by decide) (fun _ => rfl) hf (fun x64 hf => ?_)
        refine E_iload (pc := 53) dX12_falls_53 rfl ?_
        refine E_iconst (pc := 55) (v := (-1 : Int32)) dX12_falls_55 (by decide) ?_
        refine E_icmp_eq (pc := 56) (tgt := 64) dX12_falls_56 (by decide) hf (fun hf => ?_) (fun hf => ?_)
        · refine E_aload_n (pc := 64) dX12_falls_64 rfl ?_
          refine E_iload (pc := 65) dX12_falls_65 rfl ?_
          refine E_Vi (pc := 67) (d2 := D_X12_leadsTo) (ci := 12) [.int x13] dX12_falls_67 ml_X12_412 mf_X12_leadsTo im_X12_leadsTo rfl rfl rfl (by decide) (Nat.le_of_ble_eq_true rfl) (Nat.le_of_ble_eq_true rfl) rfl (fun _ _ h => f_X12_leadsTo_ok h) hf (fun v66 μ65 hf => ?_)
          refine E_istore (pc := 70) (ls' := fun x67 => [(7, .int x67), (6, .int x64), (0, .ref a10), (1, .int x11), (3, .int x12), (4, .int x13), (5, .int x14)]) dX12_falls_70 (by decide) (fun _ => rfl) hf (fun x67 hf => ?_)
          refine E_aload_n (pc := 72) dX12_falls_72 rfl ?_
          refine E_getR (pc := 73) dX12_falls_73 fl_X12_13 hf (fun v68 hf => ?_)
          refine E_iload (pc := 76) dX12_falls_76 rfl ?_
          refine E_iald (pc := 78) dX12_falls_78 hf (fun v69 hf => ?_)
          refine E_aload_n (pc := 79) dX12_falls_79 rfl ?_
          refine E_getR (pc := 80) dX12_falls_80 fl_X12_13 hf (fun v70 hf => ?_)
          refine E_iload (pc := 83) dX12_falls_83 rfl ?_
          refine E_iald (pc := 85) dX12_falls_85 hf (fun v71 hf => ?_)
          refine E_isub (pc := 86) dX12_falls_86 ?_
          refine E_istore (pc := 87) (ls' := fun x72 => [(8, .int x72), (7, .int x67), (6, .int x64), (0, .ref a10), (1, .int x11), (3, .int x12), (4, .int x13), (5, .int x14)]) dX12_falls_87 (by decide) (fun _ => rfl) hf (fun x72 hf => ?_)
          refine E_iload (pc := 89) dX12_falls_89 rfl ?_
          refine E_istore (pc := 91) (ls' := fun x73 => [(4, .int x73), (8, .int x72), (7, .int x67), (6, .int x64), (0, .ref a10), (1, .int x11), (3, .int x12), (5, .int x14)]) dX12_falls_91 (by decide) (fun _ => rfl) hf (fun x73 hf => ?_)
          refine E_aload_n (pc := 93) dX12_falls_93 rfl ?_
          refine E_iload_n (pc := 94) dX12_falls_94 rfl ?_
          refine E_iload (pc := 95) dX12_falls_95 rfl ?_
          refine E_iload (pc := 97) dX12_falls_97 rfl ?_
          refine E_Vi (pc := 99) (d2 := D_X12_comesTo) (ci := 12) [.int x11, .int x67, .int x72] dX12_falls_99 ml_X12_472 mf_X12_comesTo im_X12_comesTo rfl rfl rfl (by decide) (Nat.le_of_ble_eq_true rfl) (Nat.le_of_ble_eq_true rfl) rfl (fun _ _ h => f_X12_comesTo_ok h) hf (fun v75 μ74 hf => ?_)
          refine E_istore (pc := 102) (ls' := fun x76 => [(5, .int x76), (4, .int x73), (8, .int x72), (7, .int x67), (6, .int x64), (0, .ref a10), (1, .int x11), (3, .int x12)]) dX12_falls_102 (by decide) (fun _ => rfl) hf (fun x76 hf => ?_)
          refine E_goto (pc := 104) (tgt := 23) dX12_falls_104 (by decide) ?_
          refine Ev.sub [5, 6, 7, 1, 0] rfl ?_
          exact ih _ _ _ _ _ _ hf
        · refine E_iload (pc := 59) dX12_falls_59 rfl ?_
          refine E_goto (pc := 61) (tgt := 70) dX12_falls_61 (by decide) ?_
          refine E_istore (pc := 70) (ls' := fun x77 => [(7, .int x77), (6, .int x64), (0, .ref a10), (1, .int x11), (3, .int x12), (4, .int x13), (5, .int x14)]) dX12_falls_70 (by decide) (fun _ => rfl) hf (fun x77 hf => ?_)
          refine E_aload_n (pc := 72) dX12_falls_72 rfl ?_
          refine E_getR (pc := 73) dX12_falls_73 fl_X12_13 hf (fun v78 hf => ?_)
          refine E_iload (pc := 76) dX12_falls_76 rfl ?_
          refine E_iald (pc := 78) dX12_falls_78 hf (fun v79 hf => ?_)
          refine E_aload_n (pc := 79) dX12_falls_79 rfl ?_
          refine E_getR (pc := 80) dX12_falls_80 fl_X12_13 hf (fun v80 hf => ?_)
          refine E_iload (pc := 83) dX12_falls_83 rfl ?_
          refine E_iald (pc := 85) dX12_falls_85 hf (fun v81 hf => ?_)
          refine E_isub (pc := 86) dX12_falls_86 ?_
          refine E_istore (pc := 87) (ls' := fun x82 => [(8, .int x82), (7, .int x77), (6, .int x64), (0, .ref a10), (1, .int x11), (3, .int x12), (4, .int x13), (5, .int x14)]) dX12_falls_87 (by decide) (fun _ => rfl) hf (fun x82 hf => ?_)
          refine E_iload (pc := 89) dX12_falls_89 rfl ?_
          refine E_istore (pc := 91) (ls' := fun x83 => [(4, .int x83), (8, .int x82), (7, .int x77), (6, .int x64), (0, .ref a10), (1, .int x11), (3, .int x12), (5, .int x14)]) dX12_falls_91 (by decide) (fun _ => rfl) hf (fun x83 hf => ?_)
          refine E_aload_n (pc := 93) dX12_falls_93 rfl ?_
          refine E_iload_n (pc := 94) dX12_falls_94 rfl ?_
          refine E_iload (pc := 95) dX12_falls_95 rfl ?_
          refine E_iload (pc := 97) dX12_falls_97 rfl ?_
          refine E_Vi (pc := 99) (d2 := D_X12_comesTo) (ci := 12) [.int x11, .int x77, .int x82] dX12_falls_99 ml_X12_472 mf_X12_comesTo im_X12_comesTo rfl rfl rfl (by decide) (Nat.le_of_ble_eq_true rfl) (Nat.le_of_ble_eq_true rfl) rfl (fun _ _ h => f_X12_comesTo_ok h) hf (fun v85 μ84 hf => ?_)
          refine E_istore (pc := 102) (ls' := fun x86 => [(5, .int x86), (4, .int x83), (8, .int x82), (7, .int x77), (6, .int x64), (0, .ref a10), (1, .int x11), (3, .int x12)]) dX12_falls_102 (by decide) (fun _ => rfl) hf (fun x86 hf => ?_)
          refine E_goto (pc := 104) (tgt := 23) dX12_falls_104 (by decide) ?_
          refine Ev.sub [5, 6, 7, 1, 0] rfl ?_
          exact ih _ _ _ _ _ _ hf
set_option maxRecDepth 100000 in
def f_X12_falls (μ0 : Mm) (a1 : Nat) (x2 : Int32) (x3 : Int32) (x4 : Int32) : Option (Int32 × Mm) :=
 ((ob μ0 a1 12).bind fun _ =>
    ((f_X12_beginsFall μ0 a1).bind fun μ5 =>
    (nm x3 fun x6 =>
    ((ob μ5 a1 12).bind fun _ =>
    (bd (f_X12_leadsTo μ5 a1 x3) fun v8 μ7 =>
    (if v8 = (-1 : Int32) then
    (nm (0 : Int32) fun x9 =>
    f_X12_falls_L23 (fun μ87 x88 =>
    (some (x88, μ87))) FU μ7 a1 x2 x4 x6 x9)
    else
    (nm (1 : Int32) fun x89 =>
    f_X12_falls_L23 (fun μ90 x91 =>
    (some (x91, μ90))) FU μ7 a1 x2 x4 x6 x89)))))))
set_option maxHeartbeats 4000000 in
set_option maxRecDepth 100000 in
theorem f_X12_falls_ok {l : Launch} {G : GG} {μ0 : Mm} {a1 : Nat} {x2 : Int32} {x3 : Int32} {x4 : Int32} {r : Int32} {μ' : Mm} (hf : f_X12_falls μ0 a1 x2 x3 x4 = some (r, μ')) : EvM l G D_X12_falls yX12_falls cX12_falls 9 (some .int) [.ref a1, .int x2, .int x3, .int x4] μ0 (some (.int r)) μ' := by
  show Ev l G D_X12_falls yX12_falls cX12_falls 9 (some .int) 0 [(0, .ref a1), (1, .int x2), (2, .int x3), (3, .int x4)] [] μ0 (some (.int r)) μ'
  unfold f_X12_falls at hf
  refine E_aload_n (pc := 0) dX12_falls_0 rfl ?_
  refine E_Vv (pc := 1) (d2 := D_X12_beginsFall) (ci := 12) [] dX12_falls_1 ml_X12_469 mf_X12_beginsFall im_X12_beginsFall rfl rfl rfl (by decide) (Nat.le_of_ble_eq_true rfl) (Nat.le_of_ble_eq_true rfl) rfl (fun _ h => f_X12_beginsFall_ok h) hf (fun μ5 hf => ?_)
  refine E_iload_n (pc := 4) dX12_falls_4 rfl ?_
  refine E_istore (pc := 5) (ls' := fun x6 => [(4, .int x6), (0, .ref a1), (1, .int x2), (2, .int x3), (3, .int x4)]) dX12_falls_5 (by decide) (fun _ => rfl) hf (fun x6 hf => ?_)
  refine E_aload_n (pc := 7) dX12_falls_7 rfl ?_
  refine E_iload_n (pc := 8) dX12_falls_8 rfl ?_
  refine E_Vi (pc := 9) (d2 := D_X12_leadsTo) (ci := 12) [.int x3] dX12_falls_9 ml_X12_412 mf_X12_leadsTo im_X12_leadsTo rfl rfl rfl (by decide) (Nat.le_of_ble_eq_true rfl) (Nat.le_of_ble_eq_true rfl) rfl (fun _ _ h => f_X12_leadsTo_ok h) hf (fun v8 μ7 hf => ?_)
  refine E_iconst (pc := 12) (v := (-1 : Int32)) dX12_falls_12 (by decide) ?_
  refine E_icmp_eq (pc := 13) (tgt := 20) dX12_falls_13 (by decide) hf (fun hf => ?_) (fun hf => ?_)
  · refine E_iconst (pc := 20) (v := (0 : Int32)) dX12_falls_20 (by decide) ?_
    refine E_istore (pc := 21) (ls' := fun x9 => [(5, .int x9), (4, .int x6), (0, .ref a1), (1, .int x2), (2, .int x3), (3, .int x4)]) dX12_falls_21 (by decide) (fun _ => rfl) hf (fun x9 hf => ?_)
    refine Ev.sub [2, 3, 5, 1, 0] rfl ?_
    refine f_X12_falls_L23_ok  _ _ _ _ _ _ _ hf (fun μ87 x88 hf => ?_)
    · refine E_iload (pc := 107) dX12_falls_107 rfl ?_
      exact E_iret (pc := 109) dX12_falls_109 rfl hf
  · refine E_iconst (pc := 16) (v := (1 : Int32)) dX12_falls_16 (by decide) ?_
    refine E_goto (pc := 17) (tgt := 21) dX12_falls_17 (by decide) ?_
    refine E_istore (pc := 21) (ls' := fun x89 => [(5, .int x89), (4, .int x6), (0, .ref a1), (1, .int x2), (2, .int x3), (3, .int x4)]) dX12_falls_21 (by decide) (fun _ => rfl) hf (fun x89 hf => ?_)
    refine Ev.sub [2, 3, 5, 1, 0] rfl ?_
    refine f_X12_falls_L23_ok  _ _ _ _ _ _ _ hf (fun μ90 x91 hf => ?_)
    · refine E_iload (pc := 107) dX12_falls_107 rfl ?_
      exact E_iret (pc := 109) dX12_falls_109 rfl hf
