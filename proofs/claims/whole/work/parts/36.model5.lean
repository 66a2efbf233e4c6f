theorem dX12_countsTrays_0 : decode cX12_countsTrays 0 = .ok (.iconst 0, 1) := by decide +kernel
theorem dX12_countsTrays_1 : decode cX12_countsTrays 1 = .ok (.istore_n 2, 1) := by decide +kernel
theorem dX12_countsTrays_2 : decode cX12_countsTrays 2 = .ok (.iconst 0, 1) := by decide +kernel
theorem dX12_countsTrays_3 : decode cX12_countsTrays 3 = .ok (.istore_n 3, 1) := by decide +kernel
theorem dX12_countsTrays_4 : decode cX12_countsTrays 4 = .ok (.aload_n 0, 1) := by decide +kernel
theorem dX12_countsTrays_5 : decode cX12_countsTrays 5 = .ok (.getfield 152, 3) := by decide +kernel
theorem dX12_countsTrays_8 : decode cX12_countsTrays 8 = .ok (.iconst 0, 1) := by decide +kernel
theorem dX12_countsTrays_9 : decode cX12_countsTrays 9 = .ok (.iconst (-1), 1) := by decide +kernel
theorem dX12_countsTrays_10 : decode cX12_countsTrays 10 = .ok (.iastore, 1) := by decide +kernel
theorem dX12_countsTrays_11 : decode cX12_countsTrays 11 = .ok (.iload_n 3, 1) := by decide +kernel
theorem dX12_countsTrays_12 : decode cX12_countsTrays 12 = .ok (.ifCond .lt 140, 3) := by decide +kernel
theorem dX12_countsTrays_15 : decode cX12_countsTrays 15 = .ok (.aload_n 0, 1) := by decide +kernel
theorem dX12_countsTrays_16 : decode cX12_countsTrays 16 = .ok (.getfield 152, 3) := by decide +kernel
theorem dX12_countsTrays_19 : decode cX12_countsTrays 19 = .ok (.iload_n 3, 1) := by decide +kernel
theorem dX12_countsTrays_20 : decode cX12_countsTrays 20 = .ok (.dup2, 1) := by decide +kernel
theorem dX12_countsTrays_21 : decode cX12_countsTrays 21 = .ok (.iaload, 1) := by decide +kernel
theorem dX12_countsTrays_22 : decode cX12_countsTrays 22 = .ok (.iconst 1, 1) := by decide +kernel
theorem dX12_countsTrays_23 : decode cX12_countsTrays 23 = .ok (.iadd, 1) := by decide +kernel
theorem dX12_countsTrays_24 : decode cX12_countsTrays 24 = .ok (.iastore, 1) := by decide +kernel
theorem dX12_countsTrays_25 : decode cX12_countsTrays 25 = .ok (.aload_n 0, 1) := by decide +kernel
theorem dX12_countsTrays_26 : decode cX12_countsTrays 26 = .ok (.getfield 152, 3) := by decide +kernel
theorem dX12_countsTrays_29 : decode cX12_countsTrays 29 = .ok (.iload_n 3, 1) := by decide +kernel
theorem dX12_countsTrays_30 : decode cX12_countsTrays 30 = .ok (.iaload, 1) := by decide +kernel
theorem dX12_countsTrays_31 : decode cX12_countsTrays 31 = .ok (.aload_n 0, 1) := by decide +kernel
theorem dX12_countsTrays_32 : decode cX12_countsTrays 32 = .ok (.invokevirtual 179, 3) := by decide +kernel
theorem dX12_countsTrays_35 : decode cX12_countsTrays 35 = .ok (.if_icmp .lt 9, 3) := by decide +kernel
theorem dX12_countsTrays_38 : decode cX12_countsTrays 38 = .ok (.iinc 3 (-1), 3) := by decide +kernel
theorem dX12_countsTrays_41 : decode cX12_countsTrays 41 = .ok (.goto (-30), 3) := by decide +kernel
theorem dX12_countsTrays_44 : decode cX12_countsTrays 44 = .ok (.iconst 1, 1) := by decide +kernel
theorem dX12_countsTrays_45 : decode cX12_countsTrays 45 = .ok (.istore 4, 2) := by decide +kernel
theorem dX12_countsTrays_47 : decode cX12_countsTrays 47 = .ok (.iconst 0, 1) := by decide +kernel
theorem dX12_countsTrays_48 : decode cX12_countsTrays 48 = .ok (.istore 5, 2) := by decide +kernel
theorem dX12_countsTrays_50 : decode cX12_countsTrays 50 = .ok (.iload 5, 2) := by decide +kernel
theorem dX12_countsTrays_52 : decode cX12_countsTrays 52 = .ok (.iload_n 3, 1) := by decide +kernel
theorem dX12_countsTrays_53 : decode cX12_countsTrays 53 = .ok (.if_icmp .ge 41, 3) := by decide +kernel
theorem dX12_countsTrays_56 : decode cX12_countsTrays 56 = .ok (.iload 4, 2) := by decide +kernel
theorem dX12_countsTrays_58 : decode cX12_countsTrays 58 = .ok (.ifCond .eq 27, 3) := by decide +kernel
theorem dX12_countsTrays_61 : decode cX12_countsTrays 61 = .ok (.aload_n 0, 1) := by decide +kernel
theorem dX12_countsTrays_62 : decode cX12_countsTrays 62 = .ok (.aload_n 0, 1) := by decide +kernel
theorem dX12_countsTrays_63 : decode cX12_countsTrays 63 = .ok (.getfield 152, 3) := by decide +kernel
theorem dX12_countsTrays_66 : decode cX12_countsTrays 66 = .ok (.iload 5, 2) := by decide +kernel
theorem dX12_countsTrays_68 : decode cX12_countsTrays 68 = .ok (.iaload, 1) := by decide +kernel
theorem dX12_countsTrays_69 : decode cX12_countsTrays 69 = .ok (.aload_n 0, 1) := by decide +kernel
theorem dX12_countsTrays_70 : decode cX12_countsTrays 70 = .ok (.getfield 152, 3) := by decide +kernel
theorem dX12_countsTrays_73 : decode cX12_countsTrays 73 = .ok (.iload_n 3, 1) := by decide +kernel
theorem dX12_countsTrays_74 : decode cX12_countsTrays 74 = .ok (.iaload, 1) := by decide +kernel
theorem dX12_countsTrays_75 : decode cX12_countsTrays 75 = .ok (.invokevirtual 534, 3) := by decide +kernel
theorem dX12_countsTrays_78 : decode cX12_countsTrays 78 = .ok (.ifCond .eq 7, 3) := by decide +kernel
theorem dX12_countsTrays_81 : decode cX12_countsTrays 81 = .ok (.iconst 1, 1) := by decide +kernel
theorem dX12_countsTrays_82 : decode cX12_countsTrays 82 = .ok (.goto 4, 3) := by decide +kernel
theorem dX12_countsTrays_85 : decode cX12_countsTrays 85 = .ok (.iconst 0, 1) := by decide +kernel
theorem dX12_countsTrays_86 : decode cX12_countsTrays 86 = .ok (.istore 4, 2) := by decide +kernel
theorem dX12_countsTrays_88 : decode cX12_countsTrays 88 = .ok (.iinc 5 1, 3) := by decide +kernel
theorem dX12_countsTrays_91 : decode cX12_countsTrays 91 = .ok (.goto (-41), 3) := by decide +kernel
theorem dX12_countsTrays_94 : decode cX12_countsTrays 94 = .ok (.iload 4, 2) := by decide +kernel
theorem dX12_countsTrays_96 : decode cX12_countsTrays 96 = .ok (.ifCond .eq 31, 3) := by decide +kernel
theorem dX12_countsTrays_99 : decode cX12_countsTrays 99 = .ok (.iload_n 3, 1) := by decide +kernel
theorem dX12_countsTrays_100 : decode cX12_countsTrays 100 = .ok (.iload_n 1, 1) := by decide +kernel
theorem dX12_countsTrays_101 : decode cX12_countsTrays 101 = .ok (.iconst 1, 1) := by decide +kernel
theorem dX12_countsTrays_102 : decode cX12_countsTrays 102 = .ok (.isub, 1) := by decide +kernel
theorem dX12_countsTrays_103 : decode cX12_countsTrays 103 = .ok (.if_icmp .ne 24, 3) := by decide +kernel
theorem dX12_countsTrays_106 : decode cX12_countsTrays 106 = .ok (.iload_n 2, 1) := by decide +kernel
theorem dX12_countsTrays_107 : decode cX12_countsTrays 107 = .ok (.ifCond .ne 14, 3) := by decide +kernel
theorem dX12_countsTrays_110 : decode cX12_countsTrays 110 = .ok (.aload_n 0, 1) := by decide +kernel
theorem dX12_countsTrays_111 : decode cX12_countsTrays 111 = .ok (.getfield 152, 3) := by decide +kernel
theorem dX12_countsTrays_114 : decode cX12_countsTrays 114 = .ok (.aload_n 0, 1) := by decide +kernel
theorem dX12_countsTrays_115 : decode cX12_countsTrays 115 = .ok (.getfield 155, 3) := by decide +kernel
theorem dX12_countsTrays_118 : decode cX12_countsTrays 118 = .ok (.invokestatic 365, 3) := by decide +kernel
theorem dX12_countsTrays_121 : decode cX12_countsTrays 121 = .ok (.iinc 2 1, 3) := by decide +kernel
theorem dX12_countsTrays_124 : decode cX12_countsTrays 124 = .ok (.goto 25, 3) := by decide +kernel
theorem dX12_countsTrays_127 : decode cX12_countsTrays 127 = .ok (.iload 4, 2) := by decide +kernel
theorem dX12_countsTrays_129 : decode cX12_countsTrays 129 = .ok (.ifCond .eq 20, 3) := by decide +kernel
theorem dX12_countsTrays_132 : decode cX12_countsTrays 132 = .ok (.aload_n 0, 1) := by decide +kernel
theorem dX12_countsTrays_133 : decode cX12_countsTrays 133 = .ok (.getfield 152, 3) := by decide +kernel
theorem dX12_countsTrays_136 : decode cX12_countsTrays 136 = .ok (.iload_n 3, 1) := by decide +kernel
theorem dX12_countsTrays_137 : decode cX12_countsTrays 137 = .ok (.iconst 1, 1) := by decide +kernel
theorem dX12_countsTrays_138 : decode cX12_countsTrays 138 = .ok (.iadd, 1) := by decide +kernel
theorem dX12_countsTrays_139 : decode cX12_countsTrays 139 = .ok (.aload_n 0, 1) := by decide +kernel
theorem dX12_countsTrays_140 : decode cX12_countsTrays 140 = .ok (.getfield 152, 3) := by decide +kernel
theorem dX12_countsTrays_143 : decode cX12_countsTrays 143 = .ok (.iload_n 3, 1) := by decide +kernel
theorem dX12_countsTrays_144 : decode cX12_countsTrays 144 = .ok (.iaload, 1) := by decide +kernel
theorem dX12_countsTrays_145 : decode cX12_countsTrays 145 = .ok (.iastore, 1) := by decide +kernel
theorem dX12_countsTrays_146 : decode cX12_countsTrays 146 = .ok (.iinc 3 1, 3) := by decide +kernel
theorem dX12_countsTrays_149 : decode cX12_countsTrays 149 = .ok (.goto (-138), 3) := by decide +kernel
theorem dX12_countsTrays_152 : decode cX12_countsTrays 152 = .ok (.iload_n 2, 1) := by decide +kernel
theorem dX12_countsTrays_153 : decode cX12_countsTrays 153 = .ok (.ireturn, 1) := by decide +kernel
abbrev D_X12_countsTrays : Nat := 7
def f_X12_countsTrays_L50 (K94 : Mm → Nat → Int32 → Int32 → Int32 → Int32 → Option (Int32 × Mm)) : Nat → Mm → Nat → Int32 → Int32 → Int32 → Int32 → Int32 → Option (Int32 × Mm)
  | 0, _, _, _, _, _, _, _ => none
  | n + 1, μ0, a20, x21, x22, x23, x24, x25 =>
    (if x23 ≤ x25 then
    K94 μ0 a20 x21 x22 x23 x24
    else
    (if x24 = 0 then
    (nm (0 : Int32) fun x26 =>
    (nm (x25 + Int32.ofInt (1)) fun x27 =>
    f_X12_countsTrays_L50 K94 n μ0 a20 x21 x22 x23 x26 x27))
    else
    ((gR μ0 a20 12 66).bind fun v28 =>
    ((aI μ0 v28 0 x25).bind fun v29 =>
    ((gR μ0 a20 12 66).bind fun v30 =>
    ((aI μ0 v30 0 x23).bind fun v31 =>
    ((ob μ0 a20 12).bind fun _ =>
    (bd (f_X12_areApart μ0 a20 v29 v31) fun v33 μ32 =>
    (if v33 = 0 then
    (nm (0 : Int32) fun x34 =>
    (nm (x25 + Int32.ofInt (1)) fun x35 =>
    f_X12_countsTrays_L50 K94 n μ32 a20 x21 x22 x23 x34 x35))
    else
    (nm (1 : Int32) fun x36 =>
    (nm (x25 + Int32.ofInt (1)) fun x37 =>
    f_X12_countsTrays_L50 K94 n μ32 a20 x21 x22 x23 x36 x37)))))))))))
set_option maxHeartbeats 4000000 in
set_option maxRecDepth 100000 in
theorem f_X12_countsTrays_L50_ok {l : Launch} {G : GG} {K94 : Mm → Nat → Int32 → Int32 → Int32 → Int32 → Option (Int32 × Mm)} {r : Int32} {μ' : Mm} (n : Nat) (μ0 : Mm) (a20 : Nat) (x21 : Int32) (x22 : Int32) (x23 : Int32) (x24 : Int32) (x25 : Int32) (hf : f_X12_countsTrays_L50 K94 n μ0 a20 x21 x22 x23 x24 x25 = some (r, μ')) (hK94 : ∀ (μ1 : Mm) (y0 : Nat) (y1 : Int32) (y2 : Int32) (y3 : Int32) (y4 : Int32), K94 μ1 y0 y1 y2 y3 y4 = some (r, μ') → Ev l G D_X12_countsTrays yX12_countsTrays cX12_countsTrays 6 (some .int) 94 [(0, .ref y0), (1, .int y1), (2, .int y2), (3, .int y3), (4, .int y4)] [] μ1 (some (.int r)) μ') : Ev l G D_X12_countsTrays yX12_countsTrays cX12_countsTrays 6 (some .int) 50 [(0, .ref a20), (1, .int x21), (2, .int x22), (3, .int x23), (4, .int x24), (5, .int x25)] [] μ0 (some (.int r)) μ' := by
  induction n generalizing μ0 a20 x21 x22 x23 x24 x25 with
  | zero => cases hf
  | succ n ih0 =>
    have ih : ∀ (μ0 : Mm) (a20 : Nat) (x21 : Int32) (x22 : Int32) (x23 : Int32) (x24 : Int32) (x25 : Int32), f_X12_countsTrays_L50 K94 n μ0 a20 x21 x22 x23 x24 x25 = some (r, μ') → Ev l G D_X12_countsTrays yX12_countsTrays cX12_countsTrays 6 (some .int) 50 [(0, .ref a20), (1, .int x21), (2, .int x22), (3, .int x23), (4, .int x24), (5, .int x25)] [] μ0 (some (.int r)) μ' := fun μ0 a20 x21 x22 x23 x24 x25 hf => ih0 μ0 a20 x21 x22 x23 x24 x25 hf
    rw [f_X12_countsTrays_L50] at hf
    refine E_iload (pc := 50) dX12_countsTrays_50 rfl ?_
    refine E_iload_n (pc := 52) dX12_countsTrays_52 rfl ?_
    refine E_icmp_ge (pc := 53) (tgt := 94) dX12_countsTrays_53 (by decide) hf (fun hf => ?_) (fun hf => ?_)
    · refine Ev.sub [0, 1, 2, 3, 4] rfl ?_
      exact hK94 _ _ _ _ _ _ hf
    · refine E_iload (pc := 56) dX12_countsTrays_56 rfl ?_
      refine E_if_eq (pc := 58) (tgt := 85) dX12_countsTrays_58 (by decide) hf (fun hf => ?_) (fun hf => ?_)
      · refine E_iconst (pc := 85) (v := (0 : Int32)) dX12_countsTrays_85 (by decide) ?_
        refine E_istore (pc := 86) (ls' := fun x26 => [(4, .int x26), (0, .ref a20), (1, .int x21), (2, .int x22), (3, .int x23), (5, .int x25)]) dX12_countsTrays_86 (by decide) (fun _ => rfl) hf (fun x26 hf => ?_)
        refine E_iinc (pc := 88) (ls' := fun x27 => [(5, .int x27), (4, .int x26), (0, .ref a20), (1, .int x21), (2, .int x22), (3, .int x23)]) dX12_countsTrays_88 rfl (by decide) (fun _ => rfl) hf (fun x27 hf => ?_)
        refine E_goto (pc := 91) (tgt := 50) dX12_countsTrays_91 (by decide) ?_
        refine Ev.sub [2, 3, 4, 5, 1, 0] rfl ?_
        exact ih _ _ _ _ _ _ _ hf
      · refine E_aload_n (pc := 61) dX12_countsTrays_61 rfl ?_
        refine E_aload_n (pc := 62) dX12_countsTrays_62 rfl ?_
        refine E_getR (pc := 63) dX12_countsTrays_63 fl_X12_152 hf (fun v28 hf => ?_)
        refine E_iload (pc := 66) dX12_countsTrays_66 rfl ?_
        refine E_iald (pc := 68) dX12_countsTrays_68 hf (fun v29 hf => ?_)
        refine E_aload_n (pc := 69) dX12_countsTrays_69 rfl ?_
        refine E_getR (pc := 70) dX12_countsTrays_70 fl_X12_152 hf (fun v30 hf => ?_)
        refine E_iload_n (pc := 73) dX12_countsTrays_73 rfl ?_
        refine E_iald (pc := 74) dX12_countsTrays_74 hf (fun v31 hf => ?_)
        refine E_Vi (pc := 75) (d2 := D_X12_areApart) (ci := 12) [.int v29, .int v31] dX12_countsTrays_75 ml_X12_534 mf_X12_areApart im_X12_areApart rfl rfl rfl (by decide) (Nat.le_of_ble_eq_true rfl) (Nat.le_of_ble_eq_true rfl) rfl (fun _ _ h => f_X12_areApart_ok h) hf (fun v33 μ32 hf => ?_)
        refine E_if_eq (pc := 78) (tgt := 85) dX12_countsTrays_78 (by decide) hf (fun hf => ?_) (fun hf => ?_)
        · refine E_iconst (pc := 85) (v := (0 : Int32)) dX12_countsTrays_85 (by decide) ?_
          refine E_istore (pc := 86) (ls' := fun x34 => [(4, .int x34), (0, .ref a20), (1, .int x21), (2, .int x22), (3, .int x23), (5, .int x25)]) dX12_countsTrays_86 (by decide) (fun _ => rfl) hf (fun x34 hf => ?_)
          refine E_iinc (pc := 88) (ls' := fun x35 => [(5, .int x35), (4, .int x34), (0, .ref a20), (1, .int x21), (2, .int x22), (3, .int x23)]) dX12_countsTrays_88 rfl (by decide) (fun _ => rfl) hf (fun x35 hf => ?_)
          refine E_goto (pc := 91) (tgt := 50) dX12_countsTrays_91 (by decide) ?_
          refine Ev.sub [2, 3, 4, 5, 1, 0] rfl ?_
          exact ih _ _ _ _ _ _ _ hf
        · refine E_iconst (pc := 81) (v := (1 : Int32)) dX12_countsTrays_81 (by decide) ?_
          refine E_goto (pc := 82) (tgt := 86) dX12_countsTrays_82 (by decide) ?_
          refine E_istore (pc := 86) (ls' := fun x36 => [(4, .int x36), (0, .ref a20), (1, .int x21), (2, .int x22), (3, .int x23), (5, .int x25)]) dX12_countsTrays_86 (by decide) (fun _ => rfl) hf (fun x36 hf => ?_)
          refine E_iinc (pc := 88) (ls' := fun x37 => [(5, .int x37), (4, .int x36), (0, .ref a20), (1, .int x21), (2, .int x22), (3, .int x23)]) dX12_countsTrays_88 rfl (by decide) (fun _ => rfl) hf (fun x37 hf => ?_)
          refine E_goto (pc := 91) (tgt := 50) dX12_countsTrays_91 (by decide) ?_
          refine Ev.sub [2, 3, 4, 5, 1, 0] rfl ?_
          exact ih _ _ _ _ _ _ _ hf
def f_X12_countsTrays_L11 (K152 : Mm → Int32 → Option (Int32 × Mm)) : Nat → Mm → Nat → Int32 → Int32 → Int32 → Option (Int32 × Mm)
  | 0, _, _, _, _, _ => none
  | n + 1, μ0, a7, x8, x9, x10 =>
    (if x10 < 0 then
    K152 μ0 x9
    else
    ((gR μ0 a7 12 66).bind fun v11 =>
    ((aI μ0 v11 0 x10).bind fun v12 =>
    ((sI μ0 v11 0 x10 (v12 + (1 : Int32))).bind fun μ13 =>
    ((gR μ13 a7 12 66).bind fun v14 =>
    ((aI μ13 v14 0 x10).bind fun v15 =>
    ((ob μ13 a7 12).bind fun _ =>
    (bd (f_X12_cells μ13 a7) fun v17 μ16 =>
    (if v15 < v17 then
    (nm (1 : Int32) fun x18 =>
    (nm (0 : Int32) fun x19 =>
    f_X12_countsTrays_L50 (fun μ38 a39 x40 x41 x42 x43 =>
    (if x43 = 0 then
    (if x43 = 0 then
    f_X12_countsTrays_L11 K152 n μ38 a39 x40 x41 x42
    else
    ((gR μ38 a39 12 66).bind fun v44 =>
    ((gR μ38 a39 12 66).bind fun v45 =>
    ((aI μ38 v45 0 x42).bind fun v46 =>
    ((sI μ38 v44 0 (x42 + (1 : Int32)) v46).bind fun μ47 =>
    (nm (x42 + Int32.ofInt (1)) fun x48 =>
    f_X12_countsTrays_L11 K152 n μ47 a39 x40 x41 x48))))))
    else
    (if x42 = (x40 - (1 : Int32)) then
    (if x41 = 0 then
    ((gR μ38 a39 12 66).bind fun v49 =>
    ((gR μ38 a39 12 67).bind fun v50 =>
    ((f_X12_copies μ38 v49 v50).bind fun μ51 =>
    (nm (x41 + Int32.ofInt (1)) fun x52 =>
    f_X12_countsTrays_L11 K152 n μ51 a39 x40 x52 x42))))
    else
    (nm (x41 + Int32.ofInt (1)) fun x53 =>
    f_X12_countsTrays_L11 K152 n μ38 a39 x40 x53 x42))
    else
    (if x43 = 0 then
    f_X12_countsTrays_L11 K152 n μ38 a39 x40 x41 x42
    else
    ((gR μ38 a39 12 66).bind fun v54 =>
    ((gR μ38 a39 12 66).bind fun v55 =>
    ((aI μ38 v55 0 x42).bind fun v56 =>
    ((sI μ38 v54 0 (x42 + (1 : Int32)) v56).bind fun μ57 =>
    (nm (x42 + Int32.ofInt (1)) fun x58 =>
    f_X12_countsTrays_L11 K152 n μ57 a39 x40 x41 x58))))))))) FU μ16 a7 x8 x9 x10 x18 x19))
    else
    (nm (x10 + Int32.ofInt (-1)) fun x59 =>
    f_X12_countsTrays_L11 K152 n μ16 a7 x8 x9 x59))))))))))
set_option maxHeartbeats 4000000 in
set_option maxRecDepth 100000 in
theorem f_X12_countsTrays_L11_ok {l : Launch} {G : GG} {K152 : Mm → Int32 → Option (Int32 × Mm)} {r : Int32} {μ' : Mm} (n : Nat) (μ0 : Mm) (a7 : Nat) (x8 : Int32) (x9 : Int32) (x10 : Int32) (hf : f_X12_countsTrays_L11 K152 n μ0 a7 x8 x9 x10 = some (r, μ')) (hK152 : ∀ (μ1 : Mm) (y2 : Int32), K152 μ1 y2 = some (r, μ') → Ev l G D_X12_countsTrays yX12_countsTrays cX12_countsTrays 6 (some .int) 152 [(2, .int y2)] [] μ1 (some (.int r)) μ') : Ev l G D_X12_countsTrays yX12_countsTrays cX12_countsTrays 6 (some .int) 11 [(0, .ref a7), (1, .int x8), (2, .int x9), (3, .int x10)] [] μ0 (some (.int r)) μ' := by
  induction n generalizing μ0 a7 x8 x9 x10 with
  | zero => cases hf
  | succ n ih0 =>
    have ih : ∀ (μ0 : Mm) (a7 : Nat) (x8 : Int32) (x9 : Int32) (x10 : Int32), f_X12_countsTrays_L11 K152 n μ0 a7 x8 x9 x10 = some (r, μ') → Ev l G D_X12_countsTrays yX12_countsTrays cX12_countsTrays 6 (some .int) 11 [(0, .ref a7), (1, .int x8), (2, .int x9), (3, .int x10)] [] μ0 (some (.int r)) μ' := fun μ0 a7 x8 x9 x10 hf => ih0 μ0 a7 x8 x9 x10 hf
    rw [f_X12_countsTrays_L11] at hf
    refine E_iload_n (pc := 11) dX12_countsTrays_11 rfl ?_
    refine E_if_lt (pc := 12) (tgt := 152) dX12_countsTrays_12 (by decide) hf (fun hf => ?_) (fun hf => ?_)
    · refine Ev.sub [2] rfl ?_
      exact hK152 _ _ hf
    · refine E_aload_n (pc := 15) dX12_countsTrays_15 rfl ?_
      refine E_getR (pc := 16) dX12_countsTrays_16 fl_X12_152 hf (fun v11 hf => ?_)
      refine E_iload_n (pc := 19) dX12_countsTrays_19 rfl ?_
      refine E_dup2 (pc := 20) dX12_countsTrays_20 rfl rfl ?_
      refine E_iald (pc := 21) dX12_countsTrays_21 hf (fun v12 hf => ?_)
      refine E_iconst (pc := 22) (v := (1 : Int32)) dX12_countsTrays_22 (by decide) ?_
      refine E_iadd (pc := 23) dX12_countsTrays_23 ?_
      refine E_iast (pc := 24) dX12_countsTrays_24 hf (fun μ13 hf => ?_)
      refine E_aload_n (pc := 25) dX12_countsTrays_25 rfl ?_
      refine E_getR (pc := 26) dX12_countsTrays_26 fl_X12_152 hf (fun v14 hf => ?_)
      refine E_iload_n (pc := 29) dX12_countsTrays_29 rfl ?_
      refine E_iald (pc := 30) dX12_countsTrays_30 hf (fun v15 hf => ?_)
      refine E_aload_n (pc := 31) dX12_countsTrays_31 rfl ?_
      refine E_Vi (pc := 32) (d2 := D_X12_cells) (ci := 12) [] dX12_countsTrays_32 ml_X12_179 mf_X12_cells im_X12_cells rfl rfl rfl (by decide) (Nat.le_of_ble_eq_true rfl) (Nat.le_of_ble_eq_true rfl) rfl (fun _ _ h => f_X12_cells_ok h) hf (fun v17 μ16 hf => ?_)
      refine E_icmp_lt (pc := 35) (tgt := 44) dX12_countsTrays_35 (by decide) hf (fun hf => ?_) (fun hf => ?_)
      · refine E_iconst (pc := 44) (v := (1 : Int32)) dX12_countsTrays_44 (by decide) ?_
        refine E_istore (pc := 45) (ls' := fun x18 => [(4, .int x18), (0, .ref a7), (1, .int x8), (2, .int x9), (3, .int x10)]) dX12_countsTrays_45 (by decide) (fun _ => rfl) hf (fun x18 hf => ?_)
        refine E_iconst (pc := 47) (v := (0 : Int32)) dX12_countsTrays_47 (by decide) ?_
        refine E_istore (pc := 48) (ls' := fun x19 => [(5, .int x19), (4, .int x18), (0, .ref a7), (1, .int x8), (2, .int x9), (3, .int x10)]) dX12_countsTrays_48 (by decide) (fun _ => rfl) hf (fun x19 hf => ?_)
        refine Ev.sub [2, 3, 4, 5, 1, 0] rfl ?_
        refine f_X12_countsTrays_L50_ok  _ _ _ _ _ _ _ _ hf (fun μ38 a39 x40 x41 x42 x43 hf => ?_)
        · refine E_iload (pc := 94) dX12_countsTrays_94 rfl ?_
          refine E_if_eq (pc := 96) (tgt := 127) dX12_countsTrays_96 (by decide) hf (fun hf => ?_) (fun hf => ?_)
          · refine E_iload (pc := 127) dX12_countsTrays_127 rfl ?_
            refine E_if_eq (pc := 129) (tgt := 149) dX12_countsTrays_129 (by decide) hf (fun hf => ?_) (fun hf => ?_)
            · refine E_goto (pc := 149) (tgt := 11) dX12_countsTrays_149 (by decide) ?_
              refine Ev.sub [0, 1, 2, 3] rfl ?_
              exact ih _ _ _ _ _ hf
            · refine E_aload_n (pc := 132) dX12_countsTrays_132 rfl ?_
              refine E_getR (pc := 133) dX12_countsTrays_133 fl_X12_152 hf (fun v44 hf => ?_)
              refine E_iload_n (pc := 136) dX12_countsTrays_136 rfl ?_
              refine E_iconst (pc := 137) (v := (1 : Int32)) dX12_countsTrays_137 (by decide) ?_
              refine E_iadd (pc := 138) dX12_countsTrays_138 ?_
              refine E_aload_n (pc := 139) dX12_countsTrays_139 rfl ?_
              refine E_getR (pc := 140) dX12_countsTrays_140 fl_X12_152 hf (fun v45 hf => ?_)
              refine E_iload_n (pc := 143) dX12_countsTrays_143 rfl ?_
              refine E_iald (pc := 144) dX12_countsTrays_144 hf (fun v46 hf => ?_)
              refine E_iast (pc := 145) dX12_countsTrays_145 hf (fun μ47 hf => ?_)
              refine E_iinc (pc := 146) (ls' := fun x48 => [(3, .int x48), (0, .ref a39), (1, .int x40), (2, .int x41), (4, .int x43)]) dX12_countsTrays_146 rfl (by decide) (fun _ => rfl) hf (fun x48 hf => ?_)
              refine E_goto (pc := 149) (tgt := 11) dX12_countsTrays_149 (by decide) ?_
              refine Ev.sub [1, 2, 3, 0] rfl ?_
              exact ih _ _ _ _ _ hf
          · refine E_iload_n (pc := 99) dX12_countsTrays_99 rfl ?_
            refine E_iload_n (pc := 100) dX12_countsTrays_100 rfl ?_
            refine E_iconst (pc := 101) (v := (1 : Int32)) dX12_countsTrays_101 (by decide) ?_
            refine E_isub (pc := 102) dX12_countsTrays_102 ?_
            refine E_icmp_ne (pc := 103) (tgt := 127) dX12_countsTrays_103 (by decide) hf (fun hf => ?_) (fun hf => ?_)
            · refine E_iload_n (pc := 106) dX12_countsTrays_106 rfl ?_
              refine E_if_ne (pc := 107) (tgt := 121) dX12_countsTrays_107 (by decide) hf (fun hf => ?_) (fun hf => ?_)
              · refine E_aload_n (pc := 110) dX12_countsTrays_110 rfl ?_
                refine E_getR (pc := 111) dX12_countsTrays_111 fl_X12_152 hf (fun v49 hf => ?_)
                refine E_aload_n (pc := 114) dX12_countsTrays_114 rfl ?_
                refine E_getR (pc := 115) dX12_countsTrays_115 fl_X12_155 hf (fun v50 hf => ?_)
                refine E_Sv (pc := 118) (d2 := D_X12_copies) [.ref v49, .ref v50] dX12_countsTrays_118 ml_X12_365 mf_X12_copies st_X12_copies rfl (by decide) (Nat.le_of_ble_eq_true rfl) (Nat.le_of_ble_eq_true rfl) rfl (fun _ h => f_X12_copies_ok h) hf (fun μ51 hf => ?_)
                refine E_iinc (pc := 121) (ls' := fun x52 => [(2, .int x52), (0, .ref a39), (1, .int x40), (3, .int x42), (4, .int x43)]) dX12_countsTrays_121 rfl (by decide) (fun _ => rfl) hf (fun x52 hf => ?_)
                refine E_goto (pc := 124) (tgt := 149) dX12_countsTrays_124 (by decide) ?_
                refine E_goto (pc := 149) (tgt := 11) dX12_countsTrays_149 (by decide) ?_
                refine Ev.sub [1, 2, 0, 3] rfl ?_
                exact ih _ _ _ _ _ hf
              · refine E_iinc (pc := 121) (ls' := fun x53 => [(2, .int x53), (0, .ref a39), (1, .int x40), (3, .int x42), (4, .int x43)]) dX12_countsTrays_121 rfl (by decide) (fun _ => rfl) hf (fun x53 hf => ?_)
                refine E_goto (pc := 124) (tgt := 149) dX12_countsTrays_124 (by decide) ?_
                refine E_goto (pc := 149) (tgt := 11) dX12_countsTrays_149 (by decide) ?_
                refine Ev.sub [1, 2, 0, 3] rfl ?_
                exact ih _ _ _ _ _ hf
            · refine E_iload (pc := 127) dX12_countsTrays_127 rfl ?_
              refine E_if_eq (pc := 129) (tgt := 149) dX12_countsTrays_129 (by decide) hf (fun hf => ?_) (fun hf => ?_)
              · refine E_goto (pc := 149) (tgt := 11) dX12_countsTrays_149 (by decide) ?_
                refine Ev.sub [0, 1, 2, 3] rfl ?_
                exact ih _ _ _ _ _ hf
              · refine E_aload_n (pc := 132) dX12_countsTrays_132 rfl ?_
                refine E_getR (pc := 133) dX12_countsTrays_133 fl_X12_152 hf (fun v54 hf => ?_)
                refine E_iload_n (pc := 136) dX12_countsTrays_136 rfl ?_
                refine E_iconst (pc := 137) (v := (1 : Int32)) dX12_countsTrays_137 (by decide) ?_
                refine E_iadd (pc := 138) dX12_countsTrays_138 ?_
                refine E_aload_n (pc := 139) dX12_countsTrays_139 rfl ?_
                refine E_getR (pc := 140) dX12_countsTrays_140 fl_X12_152 hf (fun v55 hf => ?_)
                refine E_iload_n (pc := 143) dX12_countsTrays_143 rfl ?_
                refine E_iald (pc := 144) dX12_countsTrays_144 hf (fun v56 hf => ?_)
                refine E_iast (pc := 145) dX12_countsTrays_145 hf (fun μ57 hf => ?_)
                refine E_iinc (pc := 146) (ls' := fun x58 => [(3, .int x58), (0, .ref a39), (1, .int x40), (2, .int x41), (4, .int x43)]) dX12_countsTrays_146 rfl (by decide) (fun _ => rfl) hf (fun x58 hf => ?_)
                refine E_goto (pc := 149) (tgt := 11) dX12_countsTrays_149 (by decide) ?_
                refine Ev.sub [1, 2, 3, 0] rfl ?_
                exact ih _ _ _ _ _ hf
      · refine E_iinc (pc := 38) (ls' := fun x59 => [(3, .int x59), (0, .ref a7), (1, .int x8), (2, .int x9)]) dX12_countsTrays_38 rfl (by decide) (fun _ => rfl) hf (fun x59 hf => ?_)
        refine E_goto (pc := 41) (tgt := 11) dX12_countsTrays_41 (by decide) ?_
        refine Ev.sub [1, 2, 3, 0] rfl ?_
        exact ih _ _ _ _ _ hf
set_option maxRecDepth 100000 in
def f_X12_countsTrays (μ0 : Mm) (a1 : Nat) (x2 : Int32) : Option (Int32 × Mm) :=
 (nm (0 : Int32) fun x3 =>
    (nm (0 : Int32) fun x4 =>
    ((gR μ0 a1 12 66).bind fun v5 =>
    ((sI μ0 v5 0 (0 : Int32) (-1 : Int32)).bind fun μ6 =>
    f_X12_countsTrays_L11 (fun μ60 x61 =>
    (some (x61, μ60))) FU μ6 a1 x2 x3 x4))))
set_option maxHeartbeats 4000000 in
set_option maxRecDepth 100000 in
theorem f_X12_countsTrays_ok {l : Launch} {G : GG} {μ0 : Mm} {a1 : Nat} {x2 : Int32} {r : Int32} {μ' : Mm} (hf : f_X12_countsTrays μ0 a1 x2 = some (r, μ')) : EvM l G D_X12_countsTrays yX12_countsTrays cX12_countsTrays 6 (some .int) [.ref a1, .int x2] μ0 (some (.int r)) μ' := by
  show Ev l G D_X12_countsTrays yX12_countsTrays cX12_countsTrays 6 (some .int) 0 [(0, .ref a1), (1, .int x2)] [] μ0 (some (.int r)) μ'
  unfold f_X12_countsTrays at hf
  refine E_iconst (pc := 0) (v := (0 : Int32)) dX12_countsTrays_0 (by decide) ?_
  refine E_istore_n (pc := 1) (ls' := fun x3 => [(2, .int x3), (0, .ref a1), (1, .int x2)]) dX12_countsTrays_1 (by decide) (fun _ => rfl) hf (fun x3 hf => ?_)
  refine E_iconst (pc := 2) (v := (0 : Int32)) dX12_countsTrays_2 (by decide) ?_
  refine E_istore_n (pc := 3) (ls' := fun x4 => [(3, .int x4), (2, .int x3), (0, .ref a1), (1, .int x2)]) dX12_countsTrays_3 (by decide) (fun _ => rfl) hf (fun x4 hf => ?_)
  refine E_aload_n (pc := 4) dX12_countsTrays_4 rfl ?_
  refine E_getR (pc := 5) dX12_countsTrays_5 fl_X12_152 hf (fun v5 hf => ?_)
  refine E_iconst (pc := 8) (v := (0 : Int32)) dX12_countsTrays_8 (by decide) ?_
  refine E_iconst (pc := 9) (v := (-1 : Int32)) dX12_countsTrays_9 (by decide) ?_
  refine E_iast (pc := 10) dX12_countsTrays_10 hf (fun μ6 hf => ?_)
  refine Ev.sub [2, 3, 1, 0] rfl ?_
  refine f_X12_countsTrays_L11_ok  _ _ _ _ _ _ hf (fun μ60 x61 hf => ?_)
  · refine E_iload_n (pc := 152) dX12_countsTrays_152 rfl ?_
    exact E_iret (pc := 153) dX12_countsTrays_153 rfl hf
theorem dX12_trays_0 : decode cX12_trays 0 = .ok (.aload_n 0, 1) := by decide +kernel
theorem dX12_trays_1 : decode cX12_trays 1 = .ok (.invokevirtual 537, 3) := by decide +kernel
theorem dX12_trays_4 : decode cX12_trays 4 = .ok (.ifCond .eq 27, 3) := by decide +kernel
theorem dX12_trays_7 : decode cX12_trays 7 = .ok (.iload_n 1, 1) := by decide +kernel
theorem dX12_trays_8 : decode cX12_trays 8 = .ok (.i2l, 1) := by decide +kernel
theorem dX12_trays_9 : decode cX12_trays 9 = .ok (.lconst 1, 1) := by decide +kernel
theorem dX12_trays_10 : decode cX12_trays 10 = .ok (.ldc2_w 509, 3) := by decide +kernel
theorem dX12_trays_13 : decode cX12_trays 13 = .ok (.invokestatic 183, 3) := by decide +kernel
theorem dX12_trays_16 : decode cX12_trays 16 = .ok (.ifCond .eq 15, 3) := by decide +kernel
theorem dX12_trays_19 : decode cX12_trays 19 = .ok (.iload_n 2, 1) := by decide +kernel
theorem dX12_trays_20 : decode cX12_trays 20 = .ok (.i2l, 1) := by decide +kernel
theorem dX12_trays_21 : decode cX12_trays 21 = .ok (.lconst 0, 1) := by decide +kernel
theorem dX12_trays_22 : decode cX12_trays 22 = .ok (.ldc2_w 509, 3) := by decide +kernel
theorem dX12_trays_25 : decode cX12_trays 25 = .ok (.invokestatic 183, 3) := by decide +kernel
theorem dX12_trays_28 : decode cX12_trays 28 = .ok (.ifCond .ne 5, 3) := by decide +kernel
theorem dX12_trays_31 : decode cX12_trays 31 = .ok (.iconst (-1), 1) := by decide +kernel
theorem dX12_trays_32 : decode cX12_trays 32 = .ok (.ireturn, 1) := by decide +kernel
theorem dX12_trays_33 : decode cX12_trays 33 = .ok (.aload_n 0, 1) := by decide +kernel
theorem dX12_trays_34 : decode cX12_trays 34 = .ok (.iload_n 1, 1) := by decide +kernel
theorem dX12_trays_35 : decode cX12_trays 35 = .ok (.invokevirtual 540, 3) := by decide +kernel
theorem dX12_trays_38 : decode cX12_trays 38 = .ok (.istore_n 3, 1) := by decide +kernel
theorem dX12_trays_39 : decode cX12_trays 39 = .ok (.iload_n 2, 1) := by decide +kernel
theorem dX12_trays_40 : decode cX12_trays 40 = .ok (.ifCond .ne 5, 3) := by decide +kernel
theorem dX12_trays_43 : decode cX12_trays 43 = .ok (.iload_n 3, 1) := by decide +kernel
theorem dX12_trays_44 : decode cX12_trays 44 = .ok (.ireturn, 1) := by decide +kernel
theorem dX12_trays_45 : decode cX12_trays 45 = .ok (.iload_n 3, 1) := by decide +kernel
theorem dX12_trays_46 : decode cX12_trays 46 = .ok (.ifCond .eq 8, 3) := by decide +kernel
theorem dX12_trays_49 : decode cX12_trays 49 = .ok (.iload_n 2, 1) := by decide +kernel
theorem dX12_trays_50 : decode cX12_trays 50 = .ok (.iload_n 1, 1) := by decide +kernel
theorem dX12_trays_51 : decode cX12_trays 51 = .ok (.if_icmp .le 8, 3) := by decide +kernel
theorem dX12_trays_54 : decode cX12_trays 54 = .ok (.bipush (-2), 2) := by decide +kernel
theorem dX12_trays_56 : decode cX12_trays 56 = .ok (.goto 11, 3) := by decide +kernel
theorem dX12_trays_59 : decode cX12_trays 59 = .ok (.aload_n 0, 1) := by decide +kernel
theorem dX12_trays_60 : decode cX12_trays 60 = .ok (.getfield 155, 3) := by decide +kernel
theorem dX12_trays_63 : decode cX12_trays 63 = .ok (.iload_n 2, 1) := by decide +kernel
theorem dX12_trays_64 : decode cX12_trays 64 = .ok (.iconst 1, 1) := by decide +kernel
theorem dX12_trays_65 : decode cX12_trays 65 = .ok (.isub, 1) := by decide +kernel
theorem dX12_trays_66 : decode cX12_trays 66 = .ok (.iaload, 1) := by decide +kernel
theorem dX12_trays_67 : decode cX12_trays 67 = .ok (.ireturn, 1) := by decide +kernel
abbrev D_X12_trays : Nat := 8
set_option maxRecDepth 100000 in
def f_X12_trays (μ0 : Mm) (a1 : Nat) (x2 : Int32) (x3 : Int32) : Option (Int32 × Mm) :=
 ((ob μ0 a1 12).bind fun _ =>
    (bd (f_X12_isGround μ0 a1) fun v5 μ4 =>
    (if v5 = 0 then
    (some ((-1 : Int32), μ4))
    else
    (bd (f_X12_in μ4 (x2).toInt64 (1 : Int64) (3 : Int64)) fun v7 μ6 =>
    (if v7 = 0 then
    (some ((-1 : Int32), μ6))
    else
    (bd (f_X12_in μ6 (x3).toInt64 (0 : Int64) (3 : Int64)) fun v9 μ8 =>
    (if v9 = 0 then
    (some ((-1 : Int32), μ8))
    else
    ((ob μ8 a1 12).bind fun _ =>
    (bd (f_X12_countsTrays μ8 a1 x2) fun v11 μ10 =>
    (nm v11 fun x12 =>
    (if x3 = 0 then
    (some (x12, μ10))
    else
    (if x12 = 0 then
    (some ((-2 : Int32), μ10))
    else
    (if x3 ≤ x2 then
    ((gR μ10 a1 12 67).bind fun v13 =>
    ((aI μ10 v13 0 (x3 - (1 : Int32))).bind fun v14 =>
    (some (v14, μ10))))
    else
    (some ((-2 : Int32), μ10)))))))))))))))
set_option maxHeartbeats 4000000 in
set_option maxRecDepth 100000 in
theorem f_X12_trays_ok {l : Launch} {G : GG} {μ0 : Mm} {a1 : Nat} {x2 : Int32} {x3 : Int32} {r : Int32} {μ' : Mm} (hf : f_X12_trays μ0 a1 x2 x3 = some (r, μ')) : EvM l G D_X12_trays yX12_trays cX12_trays 4 (some .int) [.ref a1, .int x2, .int x3] μ0 (some (.int r)) μ' := by
  show Ev l G D_X12_trays yX12_trays cX12_trays 4 (some .int) 0 [(0, .ref a1), (1, .int x2), (2, .int x3)] [] μ0 (some (.int r)) μ'
  unfold f_X12_trays at hf
  refine E_aload_n (pc := 0) dX12_trays_0 rfl ?_
  refine E_Vi (pc := 1) (d2 := D_X12_isGround) (ci := 12) [] dX12_trays_1 ml_X12_537 mf_X12_isGround im_X12_isGround rfl rfl rfl (by decide) (Nat.le_of_ble_eq_true rfl) (Nat.le_of_ble_eq_true rfl) rfl (fun _ _ h => f_X12_isGround_ok h) hf (fun v5 μ4 hf => ?_)
  refine E_if_eq (pc := 4) (tgt := 31) dX12_trays_4 (by decide) hf (fun hf => ?_) (fun hf => ?_)
  · refine E_iconst (pc := 31) (v := (-1 : Int32)) dX12_trays_31 (by decide) ?_
    exact E_iret (pc := 32) dX12_trays_32 rfl hf
  · refine E_iload_n (pc := 7) dX12_trays_7 rfl ?_
    refine E_i2l (pc := 8) dX12_trays_8 ?_
    refine E_lconst (pc := 9) (v := (1 : Int64)) dX12_trays_9 (by decide) ?_
    refine E_ldc2 (pc := 10) (v := (3 : Int64)) dX12_trays_10 co_X12_509 ?_
    refine E_Si (pc := 13) (d2 := D_X12_in) [.long (x2).toInt64, .long (1 : Int64), .long (3 : Int64)] dX12_trays_13 ml_X12_183 mf_X12_in st_X12_in rfl (by decide) (Nat.le_of_ble_eq_true rfl) (Nat.le_of_ble_eq_true rfl) rfl (fun _ _ h => f_X12_in_ok h) hf (fun v7 μ6 hf => ?_)
    refine E_if_eq (pc := 16) (tgt := 31) dX12_trays_16 (by decide) hf (fun hf => ?_) (fun hf => ?_)
    · refine E_iconst (pc := 31) (v := (-1 : Int32)) dX12_trays_31 (by decide) ?_
      exact E_iret (pc := 32) dX12_trays_32 rfl hf
    · refine E_iload_n (pc := 19) dX12_trays_19 rfl ?_
      refine E_i2l (pc := 20) dX12_trays_20 ?_
      refine E_lconst (pc := 21) (v := (0 : Int64)) dX12_trays_21 (by decide) ?_
      refine E_ldc2 (pc := 22) (v := (3 : Int64)) dX12_trays_22 co_X12_509 ?_
      refine E_Si (pc := 25) (d2 := D_X12_in) [.long (x3).toInt64, .long (0 : Int64), .long (3 : Int64)] dX12_trays_25 ml_X12_183 mf_X12_in st_X12_in rfl (by decide) (Nat.le_of_ble_eq_true rfl) (Nat.le_of_ble_eq_true rfl) rfl (fun _ _ h => f_X12_in_ok h) hf (fun v9 μ8 hf => ?_)
      refine E_if_ne (pc := 28) (tgt := 33) dX12_trays_28 (by decide) hf (fun hf => ?_) (fun hf => ?_)
      · refine E_iconst (pc := 31) (v := (-1 : Int32)) dX12_trays_31 (by decide) ?_
        exact E_iret (pc := 32) dX12_trays_32 rfl hf
      · refine E_aload_n (pc := 33) dX12_trays_33 rfl ?_
        refine E_iload_n (pc := 34) dX12_trays_34 rfl ?_
        refine E_Vi (pc := 35) (d2 := D_X12_countsTrays) (ci := 12) [.int x2] dX12_trays_35 ml_X12_540 mf_X12_countsTrays im_X12_countsTrays rfl rfl rfl (by decide) (Nat.le_of_ble_eq_true rfl) (Nat.le_of_ble_eq_true rfl) rfl (fun _ _ h => f_X12_countsTrays_ok h) hf (fun v11 μ10 hf => ?_)
        refine E_istore_n (pc := 38) (ls' := fun x12 => [(3, .int x12), (0, .ref a1), (1, .int x2), (2, .int x3)]) dX12_trays_38 (by decide) (fun _ => rfl) hf (fun x12 hf => ?_)
        refine E_iload_n (pc := 39) dX12_trays_39 rfl ?_
        refine E_if_ne (pc := 40) (tgt := 45) dX12_trays_40 (by decide) hf (fun hf => ?_) (fun hf => ?_)
        · refine E_iload_n (pc := 43) dX12_trays_43 rfl ?_
          exact E_iret (pc := 44) dX12_trays_44 rfl hf
        · refine E_iload_n (pc := 45) dX12_trays_45 rfl ?_
          refine E_if_eq (pc := 46) (tgt := 54) dX12_trays_46 (by decide) hf (fun hf => ?_) (fun hf => ?_)
          · refine E_bipush (pc := 54) (v := (-2 : Int32)) dX12_trays_54 (by decide) ?_
            refine E_goto (pc := 56) (tgt := 67) dX12_trays_56 (by decide) ?_
            exact E_iret (pc := 67) dX12_trays_67 rfl hf
          · refine E_iload_n (pc := 49) dX12_trays_49 rfl ?_
            refine E_iload_n (pc := 50) dX12_trays_50 rfl ?_
            refine E_icmp_le (pc := 51) (tgt := 59) dX12_trays_51 (by decide) hf (fun hf => ?_) (fun hf => ?_)
            · refine E_aload_n (pc := 59) dX12_trays_59 rfl ?_
              refine E_getR (pc := 60) dX12_trays_60 fl_X12_155 hf (fun v13 hf => ?_)
              refine E_iload_n (pc := 63) dX12_trays_63 rfl ?_
              refine E_iconst (pc := 64) (v := (1 : Int32)) dX12_trays_64 (by decide) ?_
              refine E_isub (pc := 65) dX12_trays_65 ?_
              refine E_iald (pc := 66) dX12_trays_66 hf (fun v14 hf => ?_)
              exact E_iret (pc := 67) dX12_trays_67 rfl hf
            · refine E_bipush (pc := 54) (v := (-2 : Int32)) dX12_trays_54 (by decide) ?_
              refine E_goto (pc := 56) (tgt := 67) dX12_trays_56 (by decide) ?_
              exact E_iret (pc := 67) dX12_trays_67 rfl hf
theorem dX12_winningFrom_0 : decode cX12_winningFrom 0 = .ok (.iconst 0, 1) := by decide +kernel
theorem dX12_winningFrom_1 : decode cX12_winningFrom 1 = .ok (.istore_n 2, 1) := by decide +kernel
theorem dX12_winningFrom_2 : decode cX12_winningFrom 2 = .ok (.iload_n 2, 1) := by decide +kernel
theorem dX12_winningFrom_3 : decode cX12_winningFrom 3 = .ok (.iconst 4, 1) := by decide +kernel
theorem dX12_winningFrom_4 : decode cX12_winningFrom 4 = .ok (.if_icmp .ge 32, 3) := by decide +kernel
theorem dX12_winningFrom_7 : decode cX12_winningFrom 7 = .ok (.aload_n 0, 1) := by decide +kernel
theorem dX12_winningFrom_8 : decode cX12_winningFrom 8 = .ok (.iload_n 1, 1) := by decide +kernel
theorem dX12_winningFrom_9 : decode cX12_winningFrom 9 = .ok (.iload_n 2, 1) := by decide +kernel
theorem dX12_winningFrom_10 : decode cX12_winningFrom 10 = .ok (.invokevirtual 409, 3) := by decide +kernel
theorem dX12_winningFrom_13 : decode cX12_winningFrom 13 = .ok (.istore_n 3, 1) := by decide +kernel
theorem dX12_winningFrom_14 : decode cX12_winningFrom 14 = .ok (.iload_n 3, 1) := by decide +kernel
theorem dX12_winningFrom_15 : decode cX12_winningFrom 15 = .ok (.iconst (-1), 1) := by decide +kernel
theorem dX12_winningFrom_16 : decode cX12_winningFrom 16 = .ok (.if_icmp .eq 14, 3) := by decide +kernel
theorem dX12_winningFrom_19 : decode cX12_winningFrom 19 = .ok (.aload_n 0, 1) := by decide +kernel
theorem dX12_winningFrom_20 : decode cX12_winningFrom 20 = .ok (.getfield 158, 3) := by decide +kernel
theorem dX12_winningFrom_23 : decode cX12_winningFrom 23 = .ok (.iload_n 3, 1) := by decide +kernel
theorem dX12_winningFrom_24 : decode cX12_winningFrom 24 = .ok (.baload, 1) := by decide +kernel
theorem dX12_winningFrom_25 : decode cX12_winningFrom 25 = .ok (.ifCond .ne 5, 3) := by decide +kernel
theorem dX12_winningFrom_28 : decode cX12_winningFrom 28 = .ok (.iload_n 2, 1) := by decide +kernel
theorem dX12_winningFrom_29 : decode cX12_winningFrom 29 = .ok (.ireturn, 1) := by decide +kernel
theorem dX12_winningFrom_30 : decode cX12_winningFrom 30 = .ok (.iinc 2 1, 3) := by decide +kernel
theorem dX12_winningFrom_33 : decode cX12_winningFrom 33 = .ok (.goto (-31), 3) := by decide +kernel
theorem dX12_winningFrom_36 : decode cX12_winningFrom 36 = .ok (.iconst (-1), 1) := by decide +kernel
theorem dX12_winningFrom_37 : decode cX12_winningFrom 37 = .ok (.ireturn, 1) := by decide +kernel
abbrev D_X12_winningFrom : Nat := 4
def f_X12_winningFrom_L2 (K28 : Mm → Int32 → Option (Int32 × Mm)) (K36 : Mm → Option (Int32 × Mm)) : Nat → Mm → Nat → Int32 → Int32 → Option (Int32 × Mm)
  | 0, _, _, _, _ => none
  | n + 1, μ0, a4, x5, x6 =>
    (if (4 : Int32) ≤ x6 then
    K36 μ0
    else
    ((ob μ0 a4 12).bind fun _ =>
    (bd (f_X12_lower μ0 a4 x5 x6) fun v8 μ7 =>
    (nm v8 fun x9 =>
    (if x9 = (-1 : Int32) then
    (nm (x6 + Int32.ofInt (1)) fun x10 =>
    f_X12_winningFrom_L2 K28 K36 n μ7 a4 x5 x10)
    else
    ((gR μ7 a4 12 68).bind fun v11 =>
    ((aI μ7 v11 2 x9).bind fun v12 =>
    (if v12 = 0 then
    K28 μ7 x6
    else
    (nm (x6 + Int32.ofInt (1)) fun x13 =>
    f_X12_winningFrom_L2 K28 K36 n μ7 a4 x5 x13)))))))))
set_option maxHeartbeats 4000000 in
set_option maxRecDepth 100000 in
theorem f_X12_winningFrom_L2_ok {l : Launch} {G : GG} {K28 : Mm → Int32 → Option (Int32 × Mm)} {K36 : Mm → Option (Int32 × Mm)} {r : Int32} {μ' : Mm} (n : Nat) (μ0 : Mm) (a4 : Nat) (x5 : Int32) (x6 : Int32) (hf : f_X12_winningFrom_L2 K28 K36 n μ0 a4 x5 x6 = some (r, μ')) (hK28 : ∀ (μ1 : Mm) (y2 : Int32), K28 μ1 y2 = some (r, μ') → Ev l G D_X12_winningFrom yX12_winningFrom cX12_winningFrom 4 (some .int) 28 [(2, .int y2)] [] μ1 (some (.int r)) μ') (hK36 : ∀ (μ1 : Mm), K36 μ1  = some (r, μ') → Ev l G D_X12_winningFrom yX12_winningFrom cX12_winningFrom 4 (some .int) 36 [] [] μ1 (some (.int r)) μ') : Ev l G D_X12_winningFrom yX12_winningFrom cX12_winningFrom 4 (some .int) 2 [(0, .ref a4), (1, .int x5), (2, .int x6)] [] μ0 (some (.int r)) μ' := by
  induction n generalizing μ0 a4 x5 x6 with
  | zero => cases hf
  | succ n ih0 =>
    have ih : ∀ (μ0 : Mm) (a4 : Nat) (x5 : Int32) (x6 : Int32), f_X12_winningFrom_L2 K28 K36 n μ0 a4 x5 x6 = some (r, μ') → Ev l G D_X12_winningFrom yX12_winningFrom cX12_winningFrom 4 (some .int) 2 [(0, .ref a4), (1, .int x5), (2, .int x6)] [] μ0 (some (.int r)) μ' := fun μ0 a4 x5 x6 hf => ih0 μ0 a4 x5 x6 hf
    rw [f_X12_winningFrom_L2] at hf
    refine E_iload_n (pc := 2) dX12_winningFrom_2 rfl ?_
    refine E_iconst (pc := 3) (v := (4 : Int32)) dX12_winningFrom_3 (by decide) ?_
    refine E_icmp_ge (pc := 4) (tgt := 36) dX12_winningFrom_4 (by decide) hf (fun hf => ?_) (fun hf => ?_)
    · refine Ev.sub [] rfl ?_
      exact hK36 _ hf
    · refine E_aload_n (pc := 7) dX12_winningFrom_7 rfl ?_
      refine E_iload_n (pc := 8) dX12_winningFrom_8 rfl ?_
      refine E_iload_n (pc := 9) dX12_winningFrom_9 rfl ?_
      refine E_Vi (pc := 10) (d2 := D_X12_lower) (ci := 12) [.int x5, .int x6] dX12_winningFrom_10 ml_X12_409 mf_X12_lower im_X12_lower rfl rfl rfl (by decide) (Nat.le_of_ble_eq_true rfl) (Nat.le_of_ble_eq_true rfl) rfl (fun _ _ h => f_X12_lower_ok h) hf (fun v8 μ7 hf => ?_)
      refine E_istore_n (pc := 13) (ls' := fun x9 => [(3, .int x9), (0, .ref a4), (1, .int x5), (2, .int x6)]) dX12_winningFrom_13 (by decide) (fun _ => rfl) hf (fun x9 hf => ?_)
      refine E_iload_n (pc := 14) dX12_winningFrom_14 rfl ?_
      refine E_iconst (pc := 15) (v := (-1 : Int32)) dX12_winningFrom_15 (by decide) ?_
      refine E_icmp_eq (pc := 16) (tgt := 30) dX12_winningFrom_16 (by decide) hf (fun hf => ?_) (fun hf => ?_)
      · refine E_iinc (pc := 30) (ls' := fun x10 => [(2, .int x10), (3, .int x9), (0, .ref a4), (1, .int x5)]) dX12_winningFrom_30 rfl (by decide) (fun _ => rfl) hf (fun x10 hf => ?_)
        refine E_goto (pc := 33) (tgt := 2) dX12_winningFrom_33 (by decide) ?_
        refine Ev.sub [2, 3, 0] rfl ?_
        exact ih _ _ _ _ hf
      · refine E_aload_n (pc := 19) dX12_winningFrom_19 rfl ?_
        refine E_getR (pc := 20) dX12_winningFrom_20 fl_X12_158 hf (fun v11 hf => ?_)
        refine E_iload_n (pc := 23) dX12_winningFrom_23 rfl ?_
        refine E_zald (pc := 24) dX12_winningFrom_24 hf (fun v12 hf => ?_)
        refine E_if_ne (pc := 25) (tgt := 30) dX12_winningFrom_25 (by decide) hf (fun hf => ?_) (fun hf => ?_)
        · refine Ev.sub [3] rfl ?_
          exact hK28 _ _ hf
        · refine E_iinc (pc := 30) (ls' := fun x13 => [(2, .int x13), (3, .int x9), (0, .ref a4), (1, .int x5)]) dX12_winningFrom_30 rfl (by decide) (fun _ => rfl) hf (fun x13 hf => ?_)
          refine E_goto (pc := 33) (tgt := 2) dX12_winningFrom_33 (by decide) ?_
          refine Ev.sub [2, 3, 0] rfl ?_
          exact ih _ _ _ _ hf
set_option maxRecDepth 100000 in
def f_X12_winningFrom (μ0 : Mm) (a1 : Nat) (x2 : Int32) : Option (Int32 × Mm) :=
 (nm (0 : Int32) fun x3 =>
    f_X12_winningFrom_L2 (fun μ14 x15 =>
    (some (x15, μ14))) (fun μ16 =>
    (some ((-1 : Int32), μ16))) FU μ0 a1 x2 x3)
set_option maxHeartbeats 4000000 in
set_option maxRecDepth 100000 in
theorem f_X12_winningFrom_ok {l : Launch} {G : GG} {μ0 : Mm} {a1 : Nat} {x2 : Int32} {r : Int32} {μ' : Mm} (hf : f_X12_winningFrom μ0 a1 x2 = some (r, μ')) : EvM l G D_X12_winningFrom yX12_winningFrom cX12_winningFrom 4 (some .int) [.ref a1, .int x2] μ0 (some (.int r)) μ' := by
  show Ev l G D_X12_winningFrom yX12_winningFrom cX12_winningFrom 4 (some .int) 0 [(0, .ref a1), (1, .int x2)] [] μ0 (some (.int r)) μ'
  unfold f_X12_winningFrom at hf
  refine E_iconst (pc := 0) (v := (0 : Int32)) dX12_winningFrom_0 (by decide) ?_
  refine E_istore_n (pc := 1) (ls' := fun x3 => [(2, .int x3), (0, .ref a1), (1, .int x2)]) dX12_winningFrom_1 (by decide) (fun _ => rfl) hf (fun x3 hf => ?_)
  refine Ev.sub [1, 2, 0] rfl ?_
  refine f_X12_winningFrom_L2_ok  _ _ _ _ _ hf (fun μ14 x15 hf => ?_) (fun μ16 hf => ?_)
  · refine E_iload_n (pc := 28) dX12_winningFrom_28 rfl ?_
    exact E_iret (pc := 29) dX12_winningFrom_29 rfl hf
  · refine E_iconst (pc := 36) (v := (-1 : Int32)) dX12_winningFrom_36 (by decide) ?_
    exact E_iret (pc := 37) dX12_winningFrom_37 rfl hf
theorem dX12_game_0 : decode cX12_game 0 = .ok (.aload_n 0, 1) := by decide +kernel
theorem dX12_game_1 : decode cX12_game 1 = .ok (.iload_n 1, 1) := by decide +kernel
theorem dX12_game_2 : decode cX12_game 2 = .ok (.invokevirtual 415, 3) := by decide +kernel
theorem dX12_game_5 : decode cX12_game 5 = .ok (.ifCond .eq 13, 3) := by decide +kernel
theorem dX12_game_8 : decode cX12_game 8 = .ok (.iload_n 2, 1) := by decide +kernel
theorem dX12_game_9 : decode cX12_game 9 = .ok (.i2l, 1) := by decide +kernel
theorem dX12_game_10 : decode cX12_game 10 = .ok (.lconst 0, 1) := by decide +kernel
theorem dX12_game_11 : decode cX12_game 11 = .ok (.lconst 1, 1) := by decide +kernel
theorem dX12_game_12 : decode cX12_game 12 = .ok (.invokestatic 183, 3) := by decide +kernel
theorem dX12_game_15 : decode cX12_game 15 = .ok (.ifCond .ne 5, 3) := by decide +kernel
theorem dX12_game_18 : decode cX12_game 18 = .ok (.iconst (-1), 1) := by decide +kernel
theorem dX12_game_19 : decode cX12_game 19 = .ok (.ireturn, 1) := by decide +kernel
theorem dX12_game_20 : decode cX12_game 20 = .ok (.iconst 0, 1) := by decide +kernel
theorem dX12_game_21 : decode cX12_game 21 = .ok (.istore_n 3, 1) := by decide +kernel
theorem dX12_game_22 : decode cX12_game 22 = .ok (.iload_n 3, 1) := by decide +kernel
theorem dX12_game_23 : decode cX12_game 23 = .ok (.bipush 10, 2) := by decide +kernel
theorem dX12_game_25 : decode cX12_game 25 = .ok (.if_icmp .ge 60, 3) := by decide +kernel
theorem dX12_game_28 : decode cX12_game 28 = .ok (.iconst 0, 1) := by decide +kernel
theorem dX12_game_29 : decode cX12_game 29 = .ok (.istore 4, 2) := by decide +kernel
theorem dX12_game_31 : decode cX12_game 31 = .ok (.iload 4, 2) := by decide +kernel
theorem dX12_game_33 : decode cX12_game 33 = .ok (.aload_n 0, 1) := by decide +kernel
theorem dX12_game_34 : decode cX12_game 34 = .ok (.invokevirtual 179, 3) := by decide +kernel
theorem dX12_game_37 : decode cX12_game 37 = .ok (.if_icmp .ge 42, 3) := by decide +kernel
theorem dX12_game_40 : decode cX12_game 40 = .ok (.aload_n 0, 1) := by decide +kernel
theorem dX12_game_41 : decode cX12_game 41 = .ok (.getfield 13, 3) := by decide +kernel
theorem dX12_game_44 : decode cX12_game 44 = .ok (.iload 4, 2) := by decide +kernel
theorem dX12_game_46 : decode cX12_game 46 = .ok (.iaload, 1) := by decide +kernel
theorem dX12_game_47 : decode cX12_game 47 = .ok (.iload_n 3, 1) := by decide +kernel
theorem dX12_game_48 : decode cX12_game 48 = .ok (.if_icmp .ne 25, 3) := by decide +kernel
theorem dX12_game_51 : decode cX12_game 51 = .ok (.aload_n 0, 1) := by decide +kernel
theorem dX12_game_52 : decode cX12_game 52 = .ok (.getfield 158, 3) := by decide +kernel
theorem dX12_game_55 : decode cX12_game 55 = .ok (.iload 4, 2) := by decide +kernel
theorem dX12_game_57 : decode cX12_game 57 = .ok (.aload_n 0, 1) := by decide +kernel
theorem dX12_game_58 : decode cX12_game 58 = .ok (.iload 4, 2) := by decide +kernel
theorem dX12_game_60 : decode cX12_game 60 = .ok (.invokevirtual 543, 3) := by decide +kernel
theorem dX12_game_63 : decode cX12_game 63 = .ok (.iconst (-1), 1) := by decide +kernel
theorem dX12_game_64 : decode cX12_game 64 = .ok (.if_icmp .eq 7, 3) := by decide +kernel
theorem dX12_game_67 : decode cX12_game 67 = .ok (.iconst 1, 1) := by decide +kernel
theorem dX12_game_68 : decode cX12_game 68 = .ok (.goto 4, 3) := by decide +kernel
theorem dX12_game_71 : decode cX12_game 71 = .ok (.iconst 0, 1) := by decide +kernel
theorem dX12_game_72 : decode cX12_game 72 = .ok (.bastore, 1) := by decide +kernel
theorem dX12_game_73 : decode cX12_game 73 = .ok (.iinc 4 1, 3) := by decide +kernel
theorem dX12_game_76 : decode cX12_game 76 = .ok (.goto (-45), 3) := by decide +kernel
theorem dX12_game_79 : decode cX12_game 79 = .ok (.iinc 3 1, 3) := by decide +kernel
theorem dX12_game_82 : decode cX12_game 82 = .ok (.goto (-60), 3) := by decide +kernel
theorem dX12_game_85 : decode cX12_game 85 = .ok (.iload_n 2, 1) := by decide +kernel
theorem dX12_game_86 : decode cX12_game 86 = .ok (.ifCond .ne 18, 3) := by decide +kernel
theorem dX12_game_89 : decode cX12_game 89 = .ok (.aload_n 0, 1) := by decide +kernel
theorem dX12_game_90 : decode cX12_game 90 = .ok (.getfield 158, 3) := by decide +kernel
theorem dX12_game_93 : decode cX12_game 93 = .ok (.iload_n 1, 1) := by decide +kernel
theorem dX12_game_94 : decode cX12_game 94 = .ok (.baload, 1) := by decide +kernel
theorem dX12_game_95 : decode cX12_game 95 = .ok (.ifCond .eq 7, 3) := by decide +kernel
theorem dX12_game_98 : decode cX12_game 98 = .ok (.iconst 1, 1) := by decide +kernel
theorem dX12_game_99 : decode cX12_game 99 = .ok (.goto 4, 3) := by decide +kernel
theorem dX12_game_102 : decode cX12_game 102 = .ok (.iconst 0, 1) := by decide +kernel
theorem dX12_game_103 : decode cX12_game 103 = .ok (.ireturn, 1) := by decide +kernel
theorem dX12_game_104 : decode cX12_game 104 = .ok (.aload_n 0, 1) := by decide +kernel
theorem dX12_game_105 : decode cX12_game 105 = .ok (.getfield 158, 3) := by decide +kernel
theorem dX12_game_108 : decode cX12_game 108 = .ok (.iload_n 1, 1) := by decide +kernel
theorem dX12_game_109 : decode cX12_game 109 = .ok (.baload, 1) := by decide +kernel
theorem dX12_game_110 : decode cX12_game 110 = .ok (.ifCond .eq 11, 3) := by decide +kernel
theorem dX12_game_113 : decode cX12_game 113 = .ok (.aload_n 0, 1) := by decide +kernel
theorem dX12_game_114 : decode cX12_game 114 = .ok (.iload_n 1, 1) := by decide +kernel
theorem dX12_game_115 : decode cX12_game 115 = .ok (.invokevirtual 543, 3) := by decide +kernel
theorem dX12_game_118 : decode cX12_game 118 = .ok (.goto 5, 3) := by decide +kernel
theorem dX12_game_121 : decode cX12_game 121 = .ok (.bipush (-2), 2) := by decide +kernel
theorem dX12_game_123 : decode cX12_game 123 = .ok (.ireturn, 1) := by decide +kernel
abbrev D_X12_game : Nat := 5
def f_X12_game_L31 (K79 : Mm → Nat → Int32 → Int32 → Int32 → Option (Int32 × Mm)) : Nat → Mm → Nat → Int32 → Int32 → Int32 → Int32 → Option (Int32 × Mm)
  | 0, _, _, _, _, _, _ => none
  | n + 1, μ0, a14, x15, x16, x17, x18 =>
    ((ob μ0 a14 12).bind fun _ =>
    (bd (f_X12_cells μ0 a14) fun v20 μ19 =>
    (if v20 ≤ x18 then
    K79 μ19 a14 x15 x16 x17
    else
    ((gR μ19 a14 12 2).bind fun v21 =>
    ((aI μ19 v21 0 x18).bind fun v22 =>
    (if v22 = x17 then
    ((gR μ19 a14 12 68).bind fun v23 =>
    ((ob μ19 a14 12).bind fun _ =>
    (bd (f_X12_winningFrom μ19 a14 x18) fun v25 μ24 =>
    (if v25 = (-1 : Int32) then
    ((sI μ24 v23 2 x18 (0 : Int32)).bind fun μ26 =>
    (nm (x18 + Int32.ofInt (1)) fun x27 =>
    f_X12_game_L31 K79 n μ26 a14 x15 x16 x17 x27))
    else
    ((sI μ24 v23 2 x18 (1 : Int32)).bind fun μ28 =>
    (nm (x18 + Int32.ofInt (1)) fun x29 =>
    f_X12_game_L31 K79 n μ28 a14 x15 x16 x17 x29))))))
    else
    (nm (x18 + Int32.ofInt (1)) fun x30 =>
    f_X12_game_L31 K79 n μ19 a14 x15 x16 x17 x30)))))))
set_option maxHeartbeats 4000000 in
set_option maxRecDepth 100000 in
theorem f_X12_game_L31_ok {l : Launch} {G : GG} {K79 : Mm → Nat → Int32 → Int32 → Int32 → Option (Int32 × Mm)} {r : Int32} {μ' : Mm} (n : Nat) (μ0 : Mm) (a14 : Nat) (x15 : Int32) (x16 : Int32) (x17 : Int32) (x18 : Int32) (hf : f_X12_game_L31 K79 n μ0 a14 x15 x16 x17 x18 = some (r, μ')) (hK79 : ∀ (μ1 : Mm) (y0 : Nat) (y1 : Int32) (y2 : Int32) (y3 : Int32), K79 μ1 y0 y1 y2 y3 = some (r, μ') → Ev l G D_X12_game yX12_game cX12_game 5 (some .int) 79 [(0, .ref y0), (1, .int y1), (2, .int y2), (3, .int y3)] [] μ1 (some (.int r)) μ') : Ev l G D_X12_game yX12_game cX12_game 5 (some .int) 31 [(0, .ref a14), (1, .int x15), (2, .int x16), (3, .int x17), (4, .int x18)] [] μ0 (some (.int r)) μ' := by
  induction n generalizing μ0 a14 x15 x16 x17 x18 with
  | zero => cases hf
  | succ n ih0 =>
    have ih : ∀ (μ0 : Mm) (a14 : Nat) (x15 : Int32) (x16 : Int32) (x17 : Int32) (x18 : Int32), f_X12_game_L31 K79 n μ0 a14 x15 x16 x17 x18 = some (r, μ') → Ev l G D_X12_game yX12_game cX12_game 5 (some .int) 31 [(0, .ref a14), (1, .int x15), (2, .int x16), (3, .int x17), (4, .int x18)] [] μ0 (some (.int r)) μ' := fun μ0 a14 x15 x16 x17 x18 hf => ih0 μ0 a14 x15 x16 x17 x18 hf
    rw [f_X12_game_L31] at hf
    refine E_iload (pc := 31) dX12_game_31 rfl ?_
    refine E_aload_n (pc := 33) dX12_game_33 rfl ?_
    refine E_Vi (pc := 34) (d2 := D_X12_cells) (ci := 12) [] dX12_game_34 ml_X12_179 mf_X12_cells im_X12_cells rfl rfl rfl (by decide) (Nat.le_of_ble_eq_true rfl) (Nat.le_of_ble_eq_true rfl) rfl (fun _ _ h => f_X12_cells_ok h) hf (fun v20 μ19 hf => ?_)
    refine E_icmp_ge (pc := 37) (tgt := 79) dX12_game_37 (by decide) hf (fun hf => ?_) (fun hf => ?_)
    · refine Ev.sub [0, 1, 2, 3] rfl ?_
      exact hK79 _ _ _ _ _ hf
    · refine E_aload_n (pc := 40) dX12_game_40 rfl ?_
      refine E_getR (pc := 41) dX12_game_41 fl_X12_13 hf (fun v21 hf => ?_)
      refine E_iload (pc := 44) dX12_game_44 rfl ?_
      refine E_iald (pc := 46) dX12_game_46 hf (fun v22 hf => ?_)
      refine E_iload_n (pc := 47) dX12_game_47 rfl ?_
      refine E_icmp_ne (pc := 48) (tgt := 73) dX12_game_48 (by decide) hf (fun hf => ?_) (fun hf => ?_)
      · refine E_aload_n (pc := 51) dX12_game_51 rfl ?_
        refine E_getR (pc := 52) dX12_game_52 fl_X12_158 hf (fun v23 hf => ?_)
        refine E_iload (pc := 55) dX12_game_55 rfl ?_
        refine E_aload_n (pc := 57) dX12_game_57 rfl ?_
        refine E_iload (pc := 58) dX12_game_58 rfl ?_
        refine E_Vi (pc := 60) (d2 := D_X12_winningFrom) (ci := 12) [.int x18] dX12_game_60 ml_X12_543 mf_X12_winningFrom im_X12_winningFrom rfl rfl rfl (by decide) (Nat.le_of_ble_eq_true rfl) (Nat.le_of_ble_eq_true rfl) rfl (fun _ _ h => f_X12_winningFrom_ok h) hf (fun v25 μ24 hf => ?_)
        refine E_iconst (pc := 63) (v := (-1 : Int32)) dX12_game_63 (by decide) ?_
        refine E_icmp_eq (pc := 64) (tgt := 71) dX12_game_64 (by decide) hf (fun hf => ?_) (fun hf => ?_)
        · refine E_iconst (pc := 71) (v := (0 : Int32)) dX12_game_71 (by decide) ?_
          refine E_zast (pc := 72) dX12_game_72 hf (fun μ26 hf => ?_)
          refine E_iinc (pc := 73) (ls' := fun x27 => [(4, .int x27), (0, .ref a14), (1, .int x15), (2, .int x16), (3, .int x17)]) dX12_game_73 rfl (by decide) (fun _ => rfl) hf (fun x27 hf => ?_)
          refine E_goto (pc := 76) (tgt := 31) dX12_game_76 (by decide) ?_
          refine Ev.sub [1, 2, 3, 4, 0] rfl ?_
          exact ih _ _ _ _ _ _ hf
        · refine E_iconst (pc := 67) (v := (1 : Int32)) dX12_game_67 (by decide) ?_
          refine E_goto (pc := 68) (tgt := 72) dX12_game_68 (by decide) ?_
          refine E_zast (pc := 72) dX12_game_72 hf (fun μ28 hf => ?_)
          refine E_iinc (pc := 73) (ls' := fun x29 => [(4, .int x29), (0, .ref a14), (1, .int x15), (2, .int x16), (3, .int x17)]) dX12_game_73 rfl (by decide) (fun _ => rfl) hf (fun x29 hf => ?_)
          refine E_goto (pc := 76) (tgt := 31) dX12_game_76 (by decide) ?_
          refine Ev.sub [1, 2, 3, 4, 0] rfl ?_
          exact ih _ _ _ _ _ _ hf
      · refine E_iinc (pc := 73) (ls' := fun x30 => [(4, .int x30), (0, .ref a14), (1, .int x15), (2, .int x16), (3, .int x17)]) dX12_game_73 rfl (by decide) (fun _ => rfl) hf (fun x30 hf => ?_)
        refine E_goto (pc := 76) (tgt := 31) dX12_game_76 (by decide) ?_
        refine Ev.sub [1, 2, 3, 4, 0] rfl ?_
        exact ih _ _ _ _ _ _ hf
def f_X12_game_L22 (K85 : Mm → Nat → Int32 → Int32 → Option (Int32 × Mm)) : Nat → Mm → Nat → Int32 → Int32 → Int32 → Option (Int32 × Mm)
  | 0, _, _, _, _, _ => none
  | n + 1, μ0, a9, x10, x11, x12 =>
    (if (10 : Int32) ≤ x12 then
    K85 μ0 a9 x10 x11
    else
    (nm (0 : Int32) fun x13 =>
    f_X12_game_L31 (fun μ31 a32 x33 x34 x35 =>
    (nm (x35 + Int32.ofInt (1)) fun x36 =>
    f_X12_game_L22 K85 n μ31 a32 x33 x34 x36)) FU μ0 a9 x10 x11 x12 x13))
set_option maxHeartbeats 4000000 in
set_option maxRecDepth 100000 in
theorem f_X12_game_L22_ok {l : Launch} {G : GG} {K85 : Mm → Nat → Int32 → Int32 → Option (Int32 × Mm)} {r : Int32} {μ' : Mm} (n : Nat) (μ0 : Mm) (a9 : Nat) (x10 : Int32) (x11 : Int32) (x12 : Int32) (hf : f_X12_game_L22 K85 n μ0 a9 x10 x11 x12 = some (r, μ')) (hK85 : ∀ (μ1 : Mm) (y0 : Nat) (y1 : Int32) (y2 : Int32), K85 μ1 y0 y1 y2 = some (r, μ') → Ev l G D_X12_game yX12_game cX12_game 5 (some .int) 85 [(0, .ref y0), (1, .int y1), (2, .int y2)] [] μ1 (some (.int r)) μ') : Ev l G D_X12_game yX12_game cX12_game 5 (some .int) 22 [(0, .ref a9), (1, .int x10), (2, .int x11), (3, .int x12)] [] μ0 (some (.int r)) μ' := by
  induction n generalizing μ0 a9 x10 x11 x12 with
  | zero => cases hf
  | succ n ih0 =>
    have ih : ∀ (μ0 : Mm) (a9 : Nat) (x10 : Int32) (x11 : Int32) (x12 : Int32), f_X12_game_L22 K85 n μ0 a9 x10 x11 x12 = some (r, μ') → Ev l G D_X12_game yX12_game cX12_game 5 (some .int) 22 [(0, .ref a9), (1, .int x10), (2, .int x11), (3, .int x12)] [] μ0 (some (.int r)) μ' := fun μ0 a9 x10 x11 x12 hf => ih0 μ0 a9 x10 x11 x12 hf
    rw [f_X12_game_L22] at hf
    refine E_iload_n (pc := 22) dX12_game_22 rfl ?_
    refine E_bipush (pc := 23) (v := (10 : Int32)) dX12_game_23 (by decide) ?_
    refine E_icmp_ge (pc := 25) (tgt := 85) dX12_game_25 (by decide) hf (fun hf => ?_) (fun hf => ?_)
    · refine Ev.sub [0, 1, 2] rfl ?_
      exact hK85 _ _ _ _ hf
    · refine E_iconst (pc := 28) (v := (0 : Int32)) dX12_game_28 (by decide) ?_
      refine E_istore (pc := 29) (ls' := fun x13 => [(4, .int x13), (0, .ref a9), (1, .int x10), (2, .int x11), (3, .int x12)]) dX12_game_29 (by decide) (fun _ => rfl) hf (fun x13 hf => ?_)
      refine Ev.sub [1, 2, 3, 4, 0] rfl ?_
      refine f_X12_game_L31_ok  _ _ _ _ _ _ _ hf (fun μ31 a32 x33 x34 x35 hf => ?_)
      · refine E_iinc (pc := 79) (ls' := fun x36 => [(3, .int x36), (0, .ref a32), (1, .int x33), (2, .int x34)]) dX12_game_79 rfl (by decide) (fun _ => rfl) hf (fun x36 hf => ?_)
        refine E_goto (pc := 82) (tgt := 22) dX12_game_82 (by decide) ?_
        refine Ev.sub [1, 2, 3, 0] rfl ?_
        exact ih _ _ _ _ _ hf
set_option maxRecDepth 100000 in
def f_X12_game (μ0 : Mm) (a1 : Nat) (x2 : Int32) (x3 : Int32) : Option (Int32 × Mm) :=
 ((ob μ0 a1 12).bind fun _ =>
    (bd (f_X12_isCell μ0 a1 x2) fun v5 μ4 =>
    (if v5 = 0 then
    (some ((-1 : Int32), μ4))
    else
    (bd (f_X12_in μ4 (x3).toInt64 (0 : Int64) (1 : Int64)) fun v7 μ6 =>
    (if v7 = 0 then
    (some ((-1 : Int32), μ6))
    else
    (nm (0 : Int32) fun x8 =>
    f_X12_game_L22 (fun μ37 a38 x39 x40 =>
    (if x40 = 0 then
    ((gR μ37 a38 12 68).bind fun v41 =>
    ((aI μ37 v41 2 x39).bind fun v42 =>
    (if v42 = 0 then
    (some ((0 : Int32), μ37))
    else
    (some ((1 : Int32), μ37)))))
    else
    ((gR μ37 a38 12 68).bind fun v43 =>
    ((aI μ37 v43 2 x39).bind fun v44 =>
    (if v44 = 0 then
    (some ((-2 : Int32), μ37))
    else
    ((ob μ37 a38 12).bind fun _ =>
    (bd (f_X12_winningFrom μ37 a38 x39) fun v46 μ45 =>
    (some (v46, μ45))))))))) FU μ6 a1 x2 x3 x8))))))
set_option maxHeartbeats 4000000 in
set_option maxRecDepth 100000 in
theorem f_X12_game_ok {l : Launch} {G : GG} {μ0 : Mm} {a1 : Nat} {x2 : Int32} {x3 : Int32} {r : Int32} {μ' : Mm} (hf : f_X12_game μ0 a1 x2 x3 = some (r, μ')) : EvM l G D_X12_game yX12_game cX12_game 5 (some .int) [.ref a1, .int x2, .int x3] μ0 (some (.int r)) μ' := by
  show Ev l G D_X12_game yX12_game cX12_game 5 (some .int) 0 [(0, .ref a1), (1, .int x2), (2, .int x3)] [] μ0 (some (.int r)) μ'
  unfold f_X12_game at hf
  refine E_aload_n (pc := 0) dX12_game_0 rfl ?_
  refine E_iload_n (pc := 1) dX12_game_1 rfl ?_
  refine E_Vi (pc := 2) (d2 := D_X12_isCell) (ci := 12) [.int x2] dX12_game_2 ml_X12_415 mf_X12_isCell im_X12_isCell rfl rfl rfl (by decide) (Nat.le_of_ble_eq_true rfl) (Nat.le_of_ble_eq_true rfl) rfl (fun _ _ h => f_X12_isCell_ok h) hf (fun v5 μ4 hf => ?_)
  refine E_if_eq (pc := 5) (tgt := 18) dX12_game_5 (by decide) hf (fun hf => ?_) (fun hf => ?_)
  · refine E_iconst (pc := 18) (v := (-1 : Int32)) dX12_game_18 (by decide) ?_
    exact E_iret (pc := 19) dX12_game_19 rfl hf
  · refine E_iload_n (pc := 8) dX12_game_8 rfl ?_
    refine E_i2l (pc := 9) dX12_game_9 ?_
    refine E_lconst (pc := 10) (v := (0 : Int64)) dX12_game_10 (by decide) ?_
    refine E_lconst (pc := 11) (v := (1 : Int64)) dX12_game_11 (by decide) ?_
    refine E_Si (pc := 12) (d2 := D_X12_in) [.long (x3).toInt64, .long (0 : Int64), .long (1 : Int64)] dX12_game_12 ml_X12_183 mf_X12_in st_X12_in rfl (by decide) (Nat.le_of_ble_eq_true rfl) (Nat.le_of_ble_eq_true rfl) rfl (fun _ _ h => f_X12_in_ok h) hf (fun v7 μ6 hf => ?_)
    refine E_if_ne (pc := 15) (tgt := 20) dX12_game_15 (by decide) hf (fun hf => ?_) (fun hf => ?_)
    · refine E_iconst (pc := 18) (v := (-1 : Int32)) dX12_game_18 (by decide) ?_
      exact E_iret (pc := 19) dX12_game_19 rfl hf
    · refine E_iconst (pc := 20) (v := (0 : Int32)) dX12_game_20 (by decide) ?_
      refine E_istore_n (pc := 21) (ls' := fun x8 => [(3, .int x8), (0, .ref a1), (1, .int x2), (2, .int x3)]) dX12_game_21 (by decide) (fun _ => rfl) hf (fun x8 hf => ?_)
      refine Ev.sub [1, 2, 3, 0] rfl ?_
      refine f_X12_game_L22_ok  _ _ _ _ _ _ hf (fun μ37 a38 x39 x40 hf => ?_)
      · refine E_iload_n (pc := 85) dX12_game_85 rfl ?_
        refine E_if_ne (pc := 86) (tgt := 104) dX12_game_86 (by decide) hf (fun hf => ?_) (fun hf => ?_)
        · refine E_aload_n (pc := 89) dX12_game_89 rfl ?_
          refine E_getR (pc := 90) dX12_game_90 fl_X12_158 hf (fun v41 hf => ?_)
          refine E_iload_n (pc := 93) dX12_game_93 rfl ?_
          refine E_zald (pc := 94) dX12_game_94 hf (fun v42 hf => ?_)
          refine E_if_eq (pc := 95) (tgt := 102) dX12_game_95 (by decide) hf (fun hf => ?_) (fun hf => ?_)
          · refine E_iconst (pc := 102) (v := (0 : Int32)) dX12_game_102 (by decide) ?_
            exact E_iret (pc := 103) dX12_game_103 rfl hf
          · refine E_iconst (pc := 98) (v := (1 : Int32)) dX12_game_98 (by decide) ?_
            refine E_goto (pc := 99) (tgt := 103) dX12_game_99 (by decide) ?_
            exact E_iret (pc := 103) dX12_game_103 rfl hf
        · refine E_aload_n (pc := 104) dX12_game_104 rfl ?_
          refine E_getR (pc := 105) dX12_game_105 fl_X12_158 hf (fun v43 hf => ?_)
          refine E_iload_n (pc := 108) dX12_game_108 rfl ?_
          refine E_zald (pc := 109) dX12_game_109 hf (fun v44 hf => ?_)
          refine E_if_eq (pc := 110) (tgt := 121) dX12_game_110 (by decide) hf (fun hf => ?_) (fun hf => ?_)
          · refine E_bipush (pc := 121) (v := (-2 : Int32)) dX12_game_121 (by decide) ?_
            exact E_iret (pc := 123) dX12_game_123 rfl hf
          · refine E_aload_n (pc := 113) dX12_game_113 rfl ?_
            refine E_iload_n (pc := 114) dX12_game_114 rfl ?_
            refine E_Vi (pc := 115) (d2 := D_X12_winningFrom) (ci := 12) [.int x39] dX12_game_115 ml_X12_543 mf_X12_winningFrom im_X12_winningFrom rfl rfl rfl (by decide) (Nat.le_of_ble_eq_true rfl) (Nat.le_of_ble_eq_true rfl) rfl (fun _ _ h => f_X12_winningFrom_ok h) hf (fun v46 μ45 hf => ?_)
            refine E_goto (pc := 118) (tgt := 123) dX12_game_118 (by decide) ?_
            exact E_iret (pc := 123) dX12_game_123 rfl hf
theorem dX12_divisor_0 : decode cX12_divisor 0 = .ok (.lload_n 0, 1) := by decide +kernel
theorem dX12_divisor_1 : decode cX12_divisor 1 = .ok (.lstore 4, 2) := by decide +kernel
theorem dX12_divisor_3 : decode cX12_divisor 3 = .ok (.lload_n 2, 1) := by decide +kernel
theorem dX12_divisor_4 : decode cX12_divisor 4 = .ok (.lstore 6, 2) := by decide +kernel
theorem dX12_divisor_6 : decode cX12_divisor 6 = .ok (.lload 6, 2) := by decide +kernel
theorem dX12_divisor_8 : decode cX12_divisor 8 = .ok (.lconst 0, 1) := by decide +kernel
theorem dX12_divisor_9 : decode cX12_divisor 9 = .ok (.lcmp, 1) := by decide +kernel
theorem dX12_divisor_10 : decode cX12_divisor 10 = .ok (.ifCond .eq 21, 3) := by decide +kernel
theorem dX12_divisor_13 : decode cX12_divisor 13 = .ok (.lload 4, 2) := by decide +kernel
theorem dX12_divisor_15 : decode cX12_divisor 15 = .ok (.lload 6, 2) := by decide +kernel
theorem dX12_divisor_17 : decode cX12_divisor 17 = .ok (.lrem, 1) := by decide +kernel
theorem dX12_divisor_18 : decode cX12_divisor 18 = .ok (.lstore 8, 2) := by decide +kernel
theorem dX12_divisor_20 : decode cX12_divisor 20 = .ok (.lload 6, 2) := by decide +kernel
theorem dX12_divisor_22 : decode cX12_divisor 22 = .ok (.lstore 4, 2) := by decide +kernel
theorem dX12_divisor_24 : decode cX12_divisor 24 = .ok (.lload 8, 2) := by decide +kernel
theorem dX12_divisor_26 : decode cX12_divisor 26 = .ok (.lstore 6, 2) := by decide +kernel
theorem dX12_divisor_28 : decode cX12_divisor 28 = .ok (.goto (-22), 3) := by decide +kernel
theorem dX12_divisor_31 : decode cX12_divisor 31 = .ok (.lload 4, 2) := by decide +kernel
theorem dX12_divisor_33 : decode cX12_divisor 33 = .ok (.lreturn, 1) := by decide +kernel
abbrev D_X12_divisor : Nat := 1
def f_X12_divisor_L6 (K31 : Mm → Int64 → Option (Int64 × Mm)) : Nat → Mm → Int64 → Int64 → Option (Int64 × Mm)
  | 0, _, _, _ => none
  | n + 1, μ0, w5, w6 =>
    (if (lg_cmp w6 (0 : Int64)) = 0 then
    K31 μ0 w5
    else
    (rmL w5 w6 fun v7 =>
    (nm v7 fun w8 =>
    (nm w6 fun w9 =>
    (nm w8 fun w10 =>
    f_X12_divisor_L6 K31 n μ0 w9 w10)))))
set_option maxHeartbeats 4000000 in
set_option maxRecDepth 100000 in
theorem f_X12_divisor_L6_ok {l : Launch} {G : GG} {K31 : Mm → Int64 → Option (Int64 × Mm)} {r : Int64} {μ' : Mm} (n : Nat) (μ0 : Mm) (w5 : Int64) (w6 : Int64) (hf : f_X12_divisor_L6 K31 n μ0 w5 w6 = some (r, μ')) (hK31 : ∀ (μ1 : Mm) (y4 : Int64), K31 μ1 y4 = some (r, μ') → Ev l G D_X12_divisor yX12_divisor cX12_divisor 10 (some .long) 31 [(4, .long y4)] [] μ1 (some (.long r)) μ') : Ev l G D_X12_divisor yX12_divisor cX12_divisor 10 (some .long) 6 [(4, .long w5), (6, .long w6)] [] μ0 (some (.long r)) μ' := by
  induction n generalizing μ0 w5 w6 with
  | zero => cases hf
  | succ n ih0 =>
    have ih : ∀ (μ0 : Mm) (w5 : Int64) (w6 : Int64), f_X12_divisor_L6 K31 n μ0 w5 w6 = some (r, μ') → Ev l G D_X12_divisor yX12_divisor cX12_divisor 10 (some .long) 6 [(4, .long w5), (6, .long w6)] [] μ0 (some (.long r)) μ' := fun μ0 w5 w6 hf => ih0 μ0 w5 w6 hf
    rw [f_X12_divisor_L6] at hf
    refine E_lload (pc := 6) dX12_divisor_6 rfl ?_
    refine E_lconst (pc := 8) (v := (0 : Int64)) dX12_divisor_8 (by decide) ?_
    refine E_lcmp (pc := 9) dX12_divisor_9 ?_
    refine E_if_eq (pc := 10) (tgt := 31) dX12_divisor_10 (by decide) hf (fun hf => ?_) (fun hf => ?_)
    · refine Ev.sub [0] rfl ?_
      exact hK31 _ _ hf
    · refine E_lload (pc := 13) dX12_divisor_13 rfl ?_
      refine E_lload (pc := 15) dX12_divisor_15 rfl ?_
      refine E_lrem2 (pc := 17) dX12_divisor_17 hf (fun v7 hf => ?_)
      refine E_lstore (pc := 18) (ls' := fun w8 => [(8, .long w8), (4, .long w5), (6, .long w6)]) dX12_divisor_18 (by decide) (fun _ => rfl) hf (fun w8 hf => ?_)
      refine E_lload (pc := 20) dX12_divisor_20 rfl ?_
      refine E_lstore (pc := 22) (ls' := fun w9 => [(4, .long w9), (8, .long w8), (6, .long w6)]) dX12_divisor_22 (by decide) (fun _ => rfl) hf (fun w9 hf => ?_)
      refine E_lload (pc := 24) dX12_divisor_24 rfl ?_
      refine E_lstore (pc := 26) (ls' := fun w10 => [(6, .long w10), (4, .long w9), (8, .long w8)]) dX12_divisor_26 (by decide) (fun _ => rfl) hf (fun w10 hf => ?_)
      refine E_goto (pc := 28) (tgt := 6) dX12_divisor_28 (by decide) ?_
      refine Ev.sub [1, 0] rfl ?_
      exact ih _ _ _ hf
set_option maxRecDepth 100000 in
def f_X12_divisor (μ0 : Mm) (w1 : Int64) (w2 : Int64) : Option (Int64 × Mm) :=
 (nm w1 fun w3 =>
    (nm w2 fun w4 =>
    f_X12_divisor_L6 (fun μ11 w12 =>
    (some (w12, μ11))) FU μ0 w3 w4))
set_option maxHeartbeats 4000000 in
set_option maxRecDepth 100000 in
theorem f_X12_divisor_ok {l : Launch} {G : GG} {μ0 : Mm} {w1 : Int64} {w2 : Int64} {r : Int64} {μ' : Mm} (hf : f_X12_divisor μ0 w1 w2 = some (r, μ')) : EvM l G D_X12_divisor yX12_divisor cX12_divisor 10 (some .long) [.long w1, .long w2] μ0 (some (.long r)) μ' := by
  show Ev l G D_X12_divisor yX12_divisor cX12_divisor 10 (some .long) 0 [(0, .long w1), (2, .long w2)] [] μ0 (some (.long r)) μ'
  unfold f_X12_divisor at hf
  refine E_lload_n (pc := 0) dX12_divisor_0 rfl ?_
  refine E_lstore (pc := 1) (ls' := fun w3 => [(4, .long w3), (0, .long w1), (2, .long w2)]) dX12_divisor_1 (by decide) (fun _ => rfl) hf (fun w3 hf => ?_)
  refine E_lload_n (pc := 3) dX12_divisor_3 rfl ?_
  refine E_lstore (pc := 4) (ls' := fun w4 => [(6, .long w4), (4, .long w3), (0, .long w1), (2, .long w2)]) dX12_divisor_4 (by decide) (fun _ => rfl) hf (fun w4 hf => ?_)
  refine Ev.sub [1, 0] rfl ?_
  refine f_X12_divisor_L6_ok  _ _ _ _ hf (fun μ11 w12 hf => ?_)
  · refine E_lload (pc := 31) dX12_divisor_31 rfl ?_
    exact E_lret (pc := 33) dX12_divisor_33 rfl hf
theorem dX12_flowsFrom_0 : decode cX12_flowsFrom 0 = .ok (.iconst 0, 1) := by decide +kernel
theorem dX12_flowsFrom_1 : decode cX12_flowsFrom 1 = .ok (.istore_n 2, 1) := by decide +kernel
theorem dX12_flowsFrom_2 : decode cX12_flowsFrom 2 = .ok (.iload_n 2, 1) := by decide +kernel
theorem dX12_flowsFrom_3 : decode cX12_flowsFrom 3 = .ok (.bipush 48, 2) := by decide +kernel
theorem dX12_flowsFrom_5 : decode cX12_flowsFrom 5 = .ok (.if_icmp .ge 16, 3) := by decide +kernel
theorem dX12_flowsFrom_8 : decode cX12_flowsFrom 8 = .ok (.aload_n 0, 1) := by decide +kernel
theorem dX12_flowsFrom_9 : decode cX12_flowsFrom 9 = .ok (.getfield 161, 3) := by decide +kernel
theorem dX12_flowsFrom_12 : decode cX12_flowsFrom 12 = .ok (.iload_n 2, 1) := by decide +kernel
theorem dX12_flowsFrom_13 : decode cX12_flowsFrom 13 = .ok (.lconst 0, 1) := by decide +kernel
theorem dX12_flowsFrom_14 : decode cX12_flowsFrom 14 = .ok (.lastore, 1) := by decide +kernel
theorem dX12_flowsFrom_15 : decode cX12_flowsFrom 15 = .ok (.iinc 2 1, 3) := by decide +kernel
theorem dX12_flowsFrom_18 : decode cX12_flowsFrom 18 = .ok (.goto (-16), 3) := by decide +kernel
theorem dX12_flowsFrom_21 : decode cX12_flowsFrom 21 = .ok (.aload_n 0, 1) := by decide +kernel
theorem dX12_flowsFrom_22 : decode cX12_flowsFrom 22 = .ok (.getfield 161, 3) := by decide +kernel
theorem dX12_flowsFrom_25 : decode cX12_flowsFrom 25 = .ok (.iload_n 1, 1) := by decide +kernel
theorem dX12_flowsFrom_26 : decode cX12_flowsFrom 26 = .ok (.ldc2_w 546, 3) := by decide +kernel
theorem dX12_flowsFrom_29 : decode cX12_flowsFrom 29 = .ok (.lastore, 1) := by decide +kernel
theorem dX12_flowsFrom_30 : decode cX12_flowsFrom 30 = .ok (.bipush 9, 2) := by decide +kernel
theorem dX12_flowsFrom_32 : decode cX12_flowsFrom 32 = .ok (.istore_n 2, 1) := by decide +kernel
theorem dX12_flowsFrom_33 : decode cX12_flowsFrom 33 = .ok (.iload_n 2, 1) := by decide +kernel
theorem dX12_flowsFrom_34 : decode cX12_flowsFrom 34 = .ok (.ifCond .le 130, 3) := by decide +kernel
theorem dX12_flowsFrom_37 : decode cX12_flowsFrom 37 = .ok (.iconst 0, 1) := by decide +kernel
theorem dX12_flowsFrom_38 : decode cX12_flowsFrom 38 = .ok (.istore_n 3, 1) := by decide +kernel
theorem dX12_flowsFrom_39 : decode cX12_flowsFrom 39 = .ok (.iload_n 3, 1) := by decide +kernel
theorem dX12_flowsFrom_40 : decode cX12_flowsFrom 40 = .ok (.aload_n 0, 1) := by decide +kernel
theorem dX12_flowsFrom_41 : decode cX12_flowsFrom 41 = .ok (.invokevirtual 179, 3) := by decide +kernel
theorem dX12_flowsFrom_44 : decode cX12_flowsFrom 44 = .ok (.if_icmp .ge 114, 3) := by decide +kernel
theorem dX12_flowsFrom_47 : decode cX12_flowsFrom 47 = .ok (.iconst 0, 1) := by decide +kernel
theorem dX12_flowsFrom_48 : decode cX12_flowsFrom 48 = .ok (.istore 4, 2) := by decide +kernel
theorem dX12_flowsFrom_50 : decode cX12_flowsFrom 50 = .ok (.iconst 0, 1) := by decide +kernel
theorem dX12_flowsFrom_51 : decode cX12_flowsFrom 51 = .ok (.istore 5, 2) := by decide +kernel
theorem dX12_flowsFrom_53 : decode cX12_flowsFrom 53 = .ok (.iload 5, 2) := by decide +kernel
theorem dX12_flowsFrom_55 : decode cX12_flowsFrom 55 = .ok (.iconst 4, 1) := by decide +kernel
theorem dX12_flowsFrom_56 : decode cX12_flowsFrom 56 = .ok (.if_icmp .ge 40, 3) := by decide +kernel
theorem dX12_flowsFrom_59 : decode cX12_flowsFrom 59 = .ok (.aload_n 0, 1) := by decide +kernel
theorem dX12_flowsFrom_60 : decode cX12_flowsFrom 60 = .ok (.getfield 13, 3) := by decide +kernel
theorem dX12_flowsFrom_63 : decode cX12_flowsFrom 63 = .ok (.iload_n 3, 1) := by decide +kernel
theorem dX12_flowsFrom_64 : decode cX12_flowsFrom 64 = .ok (.iaload, 1) := by decide +kernel
theorem dX12_flowsFrom_65 : decode cX12_flowsFrom 65 = .ok (.iload_n 2, 1) := by decide +kernel
theorem dX12_flowsFrom_66 : decode cX12_flowsFrom 66 = .ok (.if_icmp .ne 30, 3) := by decide +kernel
theorem dX12_flowsFrom_69 : decode cX12_flowsFrom 69 = .ok (.iload 4, 2) := by decide +kernel
theorem dX12_flowsFrom_71 : decode cX12_flowsFrom 71 = .ok (.aload_n 0, 1) := by decide +kernel
theorem dX12_flowsFrom_72 : decode cX12_flowsFrom 72 = .ok (.iload_n 3, 1) := by decide +kernel
theorem dX12_flowsFrom_73 : decode cX12_flowsFrom 73 = .ok (.iload 5, 2) := by decide +kernel
theorem dX12_flowsFrom_75 : decode cX12_flowsFrom 75 = .ok (.invokevirtual 409, 3) := by decide +kernel
theorem dX12_flowsFrom_78 : decode cX12_flowsFrom 78 = .ok (.iconst (-1), 1) := by decide +kernel
theorem dX12_flowsFrom_79 : decode cX12_flowsFrom 79 = .ok (.if_icmp .eq 7, 3) := by decide +kernel
theorem dX12_flowsFrom_82 : decode cX12_flowsFrom 82 = .ok (.iconst 1, 1) := by decide +kernel
theorem dX12_flowsFrom_83 : decode cX12_flowsFrom 83 = .ok (.goto 4, 3) := by decide +kernel
theorem dX12_flowsFrom_86 : decode cX12_flowsFrom 86 = .ok (.iconst 0, 1) := by decide +kernel
theorem dX12_flowsFrom_87 : decode cX12_flowsFrom 87 = .ok (.iadd, 1) := by decide +kernel
theorem dX12_flowsFrom_88 : decode cX12_flowsFrom 88 = .ok (.istore 4, 2) := by decide +kernel
theorem dX12_flowsFrom_90 : decode cX12_flowsFrom 90 = .ok (.iinc 5 1, 3) := by decide +kernel
theorem dX12_flowsFrom_93 : decode cX12_flowsFrom 93 = .ok (.goto (-40), 3) := by decide +kernel
theorem dX12_flowsFrom_96 : decode cX12_flowsFrom 96 = .ok (.iconst 0, 1) := by decide +kernel
theorem dX12_flowsFrom_97 : decode cX12_flowsFrom 97 = .ok (.istore 5, 2) := by decide +kernel
theorem dX12_flowsFrom_99 : decode cX12_flowsFrom 99 = .ok (.iload 5, 2) := by decide +kernel
theorem dX12_flowsFrom_101 : decode cX12_flowsFrom 101 = .ok (.iconst 4, 1) := by decide +kernel
theorem dX12_flowsFrom_102 : decode cX12_flowsFrom 102 = .ok (.if_icmp .ge 50, 3) := by decide +kernel
theorem dX12_flowsFrom_105 : decode cX12_flowsFrom 105 = .ok (.iload 4, 2) := by decide +kernel
theorem dX12_flowsFrom_107 : decode cX12_flowsFrom 107 = .ok (.ifCond .le 45, 3) := by decide +kernel
theorem dX12_flowsFrom_110 : decode cX12_flowsFrom 110 = .ok (.aload_n 0, 1) := by decide +kernel
theorem dX12_flowsFrom_111 : decode cX12_flowsFrom 111 = .ok (.iload_n 3, 1) := by decide +kernel
theorem dX12_flowsFrom_112 : decode cX12_flowsFrom 112 = .ok (.iload 5, 2) := by decide +kernel
theorem dX12_flowsFrom_114 : decode cX12_flowsFrom 114 = .ok (.invokevirtual 409, 3) := by decide +kernel
theorem dX12_flowsFrom_117 : decode cX12_flowsFrom 117 = .ok (.iconst (-1), 1) := by decide +kernel
theorem dX12_flowsFrom_118 : decode cX12_flowsFrom 118 = .ok (.if_icmp .eq 28, 3) := by decide +kernel
theorem dX12_flowsFrom_121 : decode cX12_flowsFrom 121 = .ok (.aload_n 0, 1) := by decide +kernel
theorem dX12_flowsFrom_122 : decode cX12_flowsFrom 122 = .ok (.getfield 161, 3) := by decide +kernel
theorem dX12_flowsFrom_125 : decode cX12_flowsFrom 125 = .ok (.aload_n 0, 1) := by decide +kernel
theorem dX12_flowsFrom_126 : decode cX12_flowsFrom 126 = .ok (.iload_n 3, 1) := by decide +kernel
theorem dX12_flowsFrom_127 : decode cX12_flowsFrom 127 = .ok (.iload 5, 2) := by decide +kernel
theorem dX12_flowsFrom_129 : decode cX12_flowsFrom 129 = .ok (.invokevirtual 409, 3) := by decide +kernel
theorem dX12_flowsFrom_132 : decode cX12_flowsFrom 132 = .ok (.dup2, 1) := by decide +kernel
theorem dX12_flowsFrom_133 : decode cX12_flowsFrom 133 = .ok (.laload, 1) := by decide +kernel
theorem dX12_flowsFrom_134 : decode cX12_flowsFrom 134 = .ok (.aload_n 0, 1) := by decide +kernel
theorem dX12_flowsFrom_135 : decode cX12_flowsFrom 135 = .ok (.getfield 161, 3) := by decide +kernel
theorem dX12_flowsFrom_138 : decode cX12_flowsFrom 138 = .ok (.iload_n 3, 1) := by decide +kernel
theorem dX12_flowsFrom_139 : decode cX12_flowsFrom 139 = .ok (.laload, 1) := by decide +kernel
theorem dX12_flowsFrom_140 : decode cX12_flowsFrom 140 = .ok (.iload 4, 2) := by decide +kernel
theorem dX12_flowsFrom_142 : decode cX12_flowsFrom 142 = .ok (.i2l, 1) := by decide +kernel
theorem dX12_flowsFrom_143 : decode cX12_flowsFrom 143 = .ok (.ldiv, 1) := by decide +kernel
theorem dX12_flowsFrom_144 : decode cX12_flowsFrom 144 = .ok (.ladd, 1) := by decide +kernel
theorem dX12_flowsFrom_145 : decode cX12_flowsFrom 145 = .ok (.lastore, 1) := by decide +kernel
theorem dX12_flowsFrom_146 : decode cX12_flowsFrom 146 = .ok (.iinc 5 1, 3) := by decide +kernel
theorem dX12_flowsFrom_149 : decode cX12_flowsFrom 149 = .ok (.goto (-50), 3) := by decide +kernel
theorem dX12_flowsFrom_152 : decode cX12_flowsFrom 152 = .ok (.iinc 3 1, 3) := by decide +kernel
theorem dX12_flowsFrom_155 : decode cX12_flowsFrom 155 = .ok (.goto (-116), 3) := by decide +kernel
theorem dX12_flowsFrom_158 : decode cX12_flowsFrom 158 = .ok (.iinc 2 (-1), 3) := by decide +kernel
theorem dX12_flowsFrom_161 : decode cX12_flowsFrom 161 = .ok (.goto (-128), 3) := by decide +kernel
theorem dX12_flowsFrom_164 : decode cX12_flowsFrom 164 = .ok (.return_, 1) := by decide +kernel
abbrev D_X12_flowsFrom : Nat := 4
def f_X12_flowsFrom_L2 (K21 : Mm → Nat → Int32 → Option Mm) : Nat → Mm → Nat → Int32 → Int32 → Option Mm
  | 0, _, _, _, _ => none
  | n + 1, μ0, a4, x5, x6 =>
    (if (48 : Int32) ≤ x6 then
    K21 μ0 a4 x5
    else
    ((gR μ0 a4 12 69).bind fun v7 =>
    ((sL μ0 v7 3 x6 (0 : Int64)).bind fun μ8 =>
    (nm (x6 + Int32.ofInt (1)) fun x9 =>
    f_X12_flowsFrom_L2 K21 n μ8 a4 x5 x9))))
set_option maxHeartbeats 4000000 in
set_option maxRecDepth 100000 in
theorem f_X12_flowsFrom_L2_ok {l : Launch} {G : GG} {K21 : Mm → Nat → Int32 → Option Mm} {μ' : Mm} (n : Nat) (μ0 : Mm) (a4 : Nat) (x5 : Int32) (x6 : Int32) (hf : f_X12_flowsFrom_L2 K21 n μ0 a4 x5 x6 = some μ') (hK21 : ∀ (μ1 : Mm) (y0 : Nat) (y1 : Int32), K21 μ1 y0 y1 = some μ' → Ev l G D_X12_flowsFrom yX12_flowsFrom cX12_flowsFrom 6 none 21 [(0, .ref y0), (1, .int y1)] [] μ1 none μ') : Ev l G D_X12_flowsFrom yX12_flowsFrom cX12_flowsFrom 6 none 2 [(0, .ref a4), (1, .int x5), (2, .int x6)] [] μ0 none μ' := by
  induction n generalizing μ0 a4 x5 x6 with
  | zero => cases hf
  | succ n ih0 =>
    have ih : ∀ (μ0 : Mm) (a4 : Nat) (x5 : Int32) (x6 : Int32), f_X12_flowsFrom_L2 K21 n μ0 a4 x5 x6 = some μ' → Ev l G D_X12_flowsFrom yX12_flowsFrom cX12_flowsFrom 6 none 2 [(0, .ref a4), (1, .int x5), (2, .int x6)] [] μ0 none μ' := fun μ0 a4 x5 x6 hf => ih0 μ0 a4 x5 x6 hf
    rw [f_X12_flowsFrom_L2] at hf
    refine E_iload_n (pc := 2) dX12_flowsFrom_2 rfl ?_
    refine E_bipush (pc := 3) (v := (48 : Int32)) dX12_flowsFrom_3 (by decide) ?_
    refine E_icmp_ge (pc := 5) (tgt := 21) dX12_flowsFrom_5 (by decide) hf (fun hf => ?_) (fun hf => ?_)
    · refine Ev.sub [0, 1] rfl ?_
      exact hK21 _ _ _ hf
    · refine E_aload_n (pc := 8) dX12_flowsFrom_8 rfl ?_
      refine E_getR (pc := 9) dX12_flowsFrom_9 fl_X12_161 hf (fun v7 hf => ?_)
      refine E_iload_n (pc := 12) dX12_flowsFrom_12 rfl ?_
      refine E_lconst (pc := 13) (v := (0 : Int64)) dX12_flowsFrom_13 (by decide) ?_
      refine E_last (pc := 14) dX12_flowsFrom_14 hf (fun μ8 hf => ?_)
      refine E_iinc (pc := 15) (ls' := fun x9 => [(2, .int x9), (0, .ref a4), (1, .int x5)]) dX12_flowsFrom_15 rfl (by decide) (fun _ => rfl) hf (fun x9 hf => ?_)
      refine E_goto (pc := 18) (tgt := 2) dX12_flowsFrom_18 (by decide) ?_
      refine Ev.sub [1, 2, 0] rfl ?_
      exact ih _ _ _ _ hf
def f_X12_flowsFrom_L53 (K96 : Mm → Nat → Int32 → Int32 → Int32 → Option Mm) : Nat → Mm → Nat → Int32 → Int32 → Int32 → Int32 → Option Mm
  | 0, _, _, _, _, _, _ => none
  | n + 1, μ0, a26, x27, x28, x29, x30 =>
    (if (4 : Int32) ≤ x30 then
    K96 μ0 a26 x27 x28 x29
    else
    ((gR μ0 a26 12 2).bind fun v31 =>
    ((aI μ0 v31 0 x28).bind fun v32 =>
    (if v32 = x27 then
    ((ob μ0 a26 12).bind fun _ =>
    (bd (f_X12_lower μ0 a26 x28 x30) fun v34 μ33 =>
    (if v34 = (-1 : Int32) then
    (nm (x29 + (0 : Int32)) fun x35 =>
    (nm (x30 + Int32.ofInt (1)) fun x36 =>
    f_X12_flowsFrom_L53 K96 n μ33 a26 x27 x28 x35 x36))
    else
    (nm (x29 + (1 : Int32)) fun x37 =>
    (nm (x30 + Int32.ofInt (1)) fun x38 =>
    f_X12_flowsFrom_L53 K96 n μ33 a26 x27 x28 x37 x38)))))
    else
    K96 μ0 a26 x27 x28 x29))))
set_option maxHeartbeats 4000000 in
set_option maxRecDepth 100000 in
theorem f_X12_flowsFrom_L53_ok {l : Launch} {G : GG} {K96 : Mm → Nat → Int32 → Int32 → Int32 → Option Mm} {μ' : Mm} (n : Nat) (μ0 : Mm) (a26 : Nat) (x27 : Int32) (x28 : Int32) (x29 : Int32) (x30 : Int32) (hf : f_X12_flowsFrom_L53 K96 n μ0 a26 x27 x28 x29 x30 = some μ') (hK96 : ∀ (μ1 : Mm) (y0 : Nat) (y2 : Int32) (y3 : Int32) (y4 : Int32), K96 μ1 y0 y2 y3 y4 = some μ' → Ev l G D_X12_flowsFrom yX12_flowsFrom cX12_flowsFrom 6 none 96 [(0, .ref y0), (2, .int y2), (3, .int y3), (4, .int y4)] [] μ1 none μ') : Ev l G D_X12_flowsFrom yX12_flowsFrom cX12_flowsFrom 6 none 53 [(0, .ref a26), (2, .int x27), (3, .int x28), (4, .int x29), (5, .int x30)] [] μ0 none μ' := by
  induction n generalizing μ0 a26 x27 x28 x29 x30 with
  | zero => cases hf
  | succ n ih0 =>
    have ih : ∀ (μ0 : Mm) (a26 : Nat) (x27 : Int32) (x28 : Int32) (x29 : Int32) (x30 : Int32), f_X12_flowsFrom_L53 K96 n μ0 a26 x27 x28 x29 x30 = some μ' → Ev l G D_X12_flowsFrom yX12_flowsFrom cX12_flowsFrom 6 none 53 [(0, .ref a26), (2, .int x27), (3, .int x28), (4, .int x29), (5, .int x30)] [] μ0 none μ' := fun μ0 a26 x27 x28 x29 x30 hf => ih0 μ0 a26 x27 x28 x29 x30 hf
    rw [f_X12_flowsFrom_L53] at hf
    refine E_iload (pc := 53) dX12_flowsFrom_53 rfl ?_
    refine E_iconst (pc := 55) (v := (4 : Int32)) dX12_flowsFrom_55 (by decide) ?_
    refine E_icmp_ge (pc := 56) (tgt := 96) dX12_flowsFrom_56 (by decide) hf (fun hf => ?_) (fun hf => ?_)
    · refine Ev.sub [0, 1, 2, 3] rfl ?_
      exact hK96 _ _ _ _ _ hf
    · refine E_aload_n (pc := 59) dX12_flowsFrom_59 rfl ?_
      refine E_getR (pc := 60) dX12_flowsFrom_60 fl_X12_13 hf (fun v31 hf => ?_)
      refine E_iload_n (pc := 63) dX12_flowsFrom_63 rfl ?_
      refine E_iald (pc := 64) dX12_flowsFrom_64 hf (fun v32 hf => ?_)
      refine E_iload_n (pc := 65) dX12_flowsFrom_65 rfl ?_
      refine E_icmp_ne (pc := 66) (tgt := 96) dX12_flowsFrom_66 (by decide) hf (fun hf => ?_) (fun hf => ?_)
      · refine E_iload (pc := 69) dX12_flowsFrom_69 rfl ?_
        refine E_aload_n (pc := 71) dX12_flowsFrom_71 rfl ?_
        refine E_iload_n (pc := 72) dX12_flowsFrom_72 rfl ?_
        refine E_iload (pc := 73) dX12_flowsFrom_73 rfl ?_
        refine E_Vi (pc := 75) (d2 := D_X12_lower) (ci := 12) [.int x28, .int x30] dX12_flowsFrom_75 ml_X12_409 mf_X12_lower im_X12_lower rfl rfl rfl (by decide) (Nat.le_of_ble_eq_true rfl) (Nat.le_of_ble_eq_true rfl) rfl (fun _ _ h => f_X12_lower_ok h) hf (fun v34 μ33 hf => ?_)
        refine E_iconst (pc := 78) (v := (-1 : Int32)) dX12_flowsFrom_78 (by decide) ?_
        refine E_icmp_eq (pc := 79) (tgt := 86) dX12_flowsFrom_79 (by decide) hf (fun hf => ?_) (fun hf => ?_)
        · refine E_iconst (pc := 86) (v := (0 : Int32)) dX12_flowsFrom_86 (by decide) ?_
          refine E_iadd (pc := 87) dX12_flowsFrom_87 ?_
          refine E_istore (pc := 88) (ls' := fun x35 => [(4, .int x35), (0, .ref a26), (2, .int x27), (3, .int x28), (5, .int x30)]) dX12_flowsFrom_88 (by decide) (fun _ => rfl) hf (fun x35 hf => ?_)
          refine E_iinc (pc := 90) (ls' := fun x36 => [(5, .int x36), (4, .int x35), (0, .ref a26), (2, .int x27), (3, .int x28)]) dX12_flowsFrom_90 rfl (by decide) (fun _ => rfl) hf (fun x36 hf => ?_)
          refine E_goto (pc := 93) (tgt := 53) dX12_flowsFrom_93 (by decide) ?_
          refine Ev.sub [2, 3, 4, 1, 0] rfl ?_
          exact ih _ _ _ _ _ _ hf
        · refine E_iconst (pc := 82) (v := (1 : Int32)) dX12_flowsFrom_82 (by decide) ?_
          refine E_goto (pc := 83) (tgt := 87) dX12_flowsFrom_83 (by decide) ?_
          refine E_iadd (pc := 87) dX12_flowsFrom_87 ?_
          refine E_istore (pc := 88) (ls' := fun x37 => [(4, .int x37), (0, .ref a26), (2, .int x27), (3, .int x28), (5, .int x30)]) dX12_flowsFrom_88 (by decide) (fun _ => rfl) hf (fun x37 hf => ?_)
          refine E_iinc (pc := 90) (ls' := fun x38 => [(5, .int x38), (4, .int x37), (0, .ref a26), (2, .int x27), (3, .int x28)]) dX12_flowsFrom_90 rfl (by decide) (fun _ => rfl) hf (fun x38 hf => ?_)
          refine E_goto (pc := 93) (tgt := 53) dX12_flowsFrom_93 (by decide) ?_
          refine Ev.sub [2, 3, 4, 1, 0] rfl ?_
          exact ih _ _ _ _ _ _ hf
      · refine Ev.sub [0, 1, 2, 3] rfl ?_
        exact hK96 _ _ _ _ _ hf
def f_X12_flowsFrom_L99 (K152 : Mm → Nat → Int32 → Int32 → Option Mm) : Nat → Mm → Nat → Int32 → Int32 → Int32 → Int32 → Option Mm
  | 0, _, _, _, _, _, _ => none
  | n + 1, μ0, a45, x46, x47, x48, x49 =>
    (if (4 : Int32) ≤ x49 then
    K152 μ0 a45 x46 x47
    else
    (if x48 ≤ 0 then
    K152 μ0 a45 x46 x47
    else
    ((ob μ0 a45 12).bind fun _ =>
    (bd (f_X12_lower μ0 a45 x47 x49) fun v51 μ50 =>
    (if v51 = (-1 : Int32) then
    (nm (x49 + Int32.ofInt (1)) fun x52 =>
    f_X12_flowsFrom_L99 K152 n μ50 a45 x46 x47 x48 x52)
    else
    ((gR μ50 a45 12 69).bind fun v53 =>
    ((ob μ50 a45 12).bind fun _ =>
    (bd (f_X12_lower μ50 a45 x47 x49) fun v55 μ54 =>
    ((aL μ54 v53 3 v55).bind fun v56 =>
    ((gR μ54 a45 12 69).bind fun v57 =>
    ((aL μ54 v57 3 x47).bind fun v58 =>
    (dvL v58 (x48).toInt64 fun v59 =>
    ((sL μ54 v53 3 v55 (v56 + v59)).bind fun μ60 =>
    (nm (x49 + Int32.ofInt (1)) fun x61 =>
    f_X12_flowsFrom_L99 K152 n μ60 a45 x46 x47 x48 x61))))))))))))))
set_option maxHeartbeats 4000000 in
set_option maxRecDepth 100000 in
theorem f_X12_flowsFrom_L99_ok {l : Launch} {G : GG} {K152 : Mm → Nat → Int32 → Int32 → Option Mm} {μ' : Mm} (n : Nat) (μ0 : Mm) (a45 : Nat) (x46 : Int32) (x47 : Int32) (x48 : Int32) (x49 : Int32) (hf : f_X12_flowsFrom_L99 K152 n μ0 a45 x46 x47 x48 x49 = some μ') (hK152 : ∀ (μ1 : Mm) (y0 : Nat) (y2 : Int32) (y3 : Int32), K152 μ1 y0 y2 y3 = some μ' → Ev l G D_X12_flowsFrom yX12_flowsFrom cX12_flowsFrom 6 none 152 [(0, .ref y0), (2, .int y2), (3, .int y3)] [] μ1 none μ') : Ev l G D_X12_flowsFrom yX12_flowsFrom cX12_flowsFrom 6 none 99 [(0, .ref a45), (2, .int x46), (3, .int x47), (4, .int x48), (5, .int x49)] [] μ0 none μ' := by
  induction n generalizing μ0 a45 x46 x47 x48 x49 with
  | zero => cases hf
  | succ n ih0 =>
    have ih : ∀ (μ0 : Mm) (a45 : Nat) (x46 : Int32) (x47 : Int32) (x48 : Int32) (x49 : Int32), f_X12_flowsFrom_L99 K152 n μ0 a45 x46 x47 x48 x49 = some μ' → Ev l G D_X12_flowsFrom yX12_flowsFrom cX12_flowsFrom 6 none 99 [(0, .ref a45), (2, .int x46), (3, .int x47), (4, .int x48), (5, .int x49)] [] μ0 none μ' := fun μ0 a45 x46 x47 x48 x49 hf => ih0 μ0 a45 x46 x47 x48 x49 hf
    rw [f_X12_flowsFrom_L99] at hf
    refine E_iload (pc := 99) dX12_flowsFrom_99 rfl ?_
    refine E_iconst (pc := 101) (v := (4 : Int32)) dX12_flowsFrom_101 (by decide) ?_
    refine E_icmp_ge (pc := 102) (tgt := 152) dX12_flowsFrom_102 (by decide) hf (fun hf => ?_) (fun hf => ?_)
    · refine Ev.sub [0, 1, 2] rfl ?_
      exact hK152 _ _ _ _ hf
    · refine E_iload (pc := 105) dX12_flowsFrom_105 rfl ?_
      refine E_if_le (pc := 107) (tgt := 152) dX12_flowsFrom_107 (by decide) hf (fun hf => ?_) (fun hf => ?_)
      · refine Ev.sub [0, 1, 2] rfl ?_
        exact hK152 _ _ _ _ hf
      · refine E_aload_n (pc := 110) dX12_flowsFrom_110 rfl ?_
        refine E_iload_n (pc := 111) dX12_flowsFrom_111 rfl ?_
        refine E_iload (pc := 112) dX12_flowsFrom_112 rfl ?_
        refine E_Vi (pc := 114) (d2 := D_X12_lower) (ci := 12) [.int x47, .int x49] dX12_flowsFrom_114 ml_X12_409 mf_X12_lower im_X12_lower rfl rfl rfl (by decide) (Nat.le_of_ble_eq_true rfl) (Nat.le_of_ble_eq_true rfl) rfl (fun _ _ h => f_X12_lower_ok h) hf (fun v51 μ50 hf => ?_)
        refine E_iconst (pc := 117) (v := (-1 : Int32)) dX12_flowsFrom_117 (by decide) ?_
        refine E_icmp_eq (pc := 118) (tgt := 146) dX12_flowsFrom_118 (by decide) hf (fun hf => ?_) (fun hf => ?_)
        · refine E_iinc (pc := 146) (ls' := fun x52 => [(5, .int x52), (0, .ref a45), (2, .int x46), (3, .int x47), (4, .int x48)]) dX12_flowsFrom_146 rfl (by decide) (fun _ => rfl) hf (fun x52 hf => ?_)
          refine E_goto (pc := 149) (tgt := 99) dX12_flowsFrom_149 (by decide) ?_
          refine Ev.sub [1, 2, 3, 4, 0] rfl ?_
          exact ih _ _ _ _ _ _ hf
        · refine E_aload_n (pc := 121) dX12_flowsFrom_121 rfl ?_
          refine E_getR (pc := 122) dX12_flowsFrom_122 fl_X12_161 hf (fun v53 hf => ?_)
          refine E_aload_n (pc := 125) dX12_flowsFrom_125 rfl ?_
          refine E_iload_n (pc := 126) dX12_flowsFrom_126 rfl ?_
          refine E_iload (pc := 127) dX12_flowsFrom_127 rfl ?_
          refine E_Vi (pc := 129) (d2 := D_X12_lower) (ci := 12) [.int x47, .int x49] dX12_flowsFrom_129 ml_X12_409 mf_X12_lower im_X12_lower rfl rfl rfl (by decide) (Nat.le_of_ble_eq_true rfl) (Nat.le_of_ble_eq_true rfl) rfl (fun _ _ h => f_X12_lower_ok h) hf (fun v55 μ54 hf => ?_)
          refine E_dup2 (pc := 132) dX12_flowsFrom_132 rfl rfl ?_
          refine E_lald (pc := 133) dX12_flowsFrom_133 hf (fun v56 hf => ?_)
          refine E_aload_n (pc := 134) dX12_flowsFrom_134 rfl ?_
          refine E_getR (pc := 135) dX12_flowsFrom_135 fl_X12_161 hf (fun v57 hf => ?_)
          refine E_iload_n (pc := 138) dX12_flowsFrom_138 rfl ?_
          refine E_lald (pc := 139) dX12_flowsFrom_139 hf (fun v58 hf => ?_)
          refine E_iload (pc := 140) dX12_flowsFrom_140 rfl ?_
          refine E_i2l (pc := 142) dX12_flowsFrom_142 ?_
          refine E_ldiv2 (pc := 143) dX12_flowsFrom_143 hf (fun v59 hf => ?_)
          refine E_ladd (pc := 144) dX12_flowsFrom_144 ?_
          refine E_last (pc := 145) dX12_flowsFrom_145 hf (fun μ60 hf => ?_)
          refine E_iinc (pc := 146) (ls' := fun x61 => [(5, .int x61), (0, .ref a45), (2, .int x46), (3, .int x47), (4, .int x48)]) dX12_flowsFrom_146 rfl (by decide) (fun _ => rfl) hf (fun x61 hf => ?_)
          refine E_goto (pc := 149) (tgt := 99) dX12_flowsFrom_149 (by decide) ?_
          refine Ev.sub [1, 2, 3, 4, 0] rfl ?_
          exact ih _ _ _ _ _ _ hf
def f_X12_flowsFrom_L39 (K158 : Mm → Nat → Int32 → Option Mm) : Nat → Mm → Nat → Int32 → Int32 → Option Mm
  | 0, _, _, _, _ => none
  | n + 1, μ0, a19, x20, x21 =>
    ((ob μ0 a19 12).bind fun _ =>
    (bd (f_X12_cells μ0 a19) fun v23 μ22 =>
    (if v23 ≤ x21 then
    K158 μ22 a19 x20
    else
    (nm (0 : Int32) fun x24 =>
    (nm (0 : Int32) fun x25 =>
    f_X12_flowsFrom_L53 (fun μ39 a40 x41 x42 x43 =>
    (nm (0 : Int32) fun x44 =>
    f_X12_flowsFrom_L99 (fun μ62 a63 x64 x65 =>
    (nm (x65 + Int32.ofInt (1)) fun x66 =>
    f_X12_flowsFrom_L39 K158 n μ62 a63 x64 x66)) FU μ39 a40 x41 x42 x43 x44)) FU μ22 a19 x20 x21 x24 x25)))))
set_option maxHeartbeats 4000000 in
set_option maxRecDepth 100000 in
theorem f_X12_flowsFrom_L39_ok {l : Launch} {G : GG} {K158 : Mm → Nat → Int32 → Option Mm} {μ' : Mm} (n : Nat) (μ0 : Mm) (a19 : Nat) (x20 : Int32) (x21 : Int32) (hf : f_X12_flowsFrom_L39 K158 n μ0 a19 x20 x21 = some μ') (hK158 : ∀ (μ1 : Mm) (y0 : Nat) (y2 : Int32), K158 μ1 y0 y2 = some μ' → Ev l G D_X12_flowsFrom yX12_flowsFrom cX12_flowsFrom 6 none 158 [(0, .ref y0), (2, .int y2)] [] μ1 none μ') : Ev l G D_X12_flowsFrom yX12_flowsFrom cX12_flowsFrom 6 none 39 [(0, .ref a19), (2, .int x20), (3, .int x21)] [] μ0 none μ' := by
  induction n generalizing μ0 a19 x20 x21 with
  | zero => cases hf
  | succ n ih0 =>
    have ih : ∀ (μ0 : Mm) (a19 : Nat) (x20 : Int32) (x21 : Int32), f_X12_flowsFrom_L39 K158 n μ0 a19 x20 x21 = some μ' → Ev l G D_X12_flowsFrom yX12_flowsFrom cX12_flowsFrom 6 none 39 [(0, .ref a19), (2, .int x20), (3, .int x21)] [] μ0 none μ' := fun μ0 a19 x20 x21 hf => ih0 μ0 a19 x20 x21 hf
    rw [f_X12_flowsFrom_L39] at hf
    refine E_iload_n (pc := 39) dX12_flowsFrom_39 rfl ?_
    refine E_aload_n (pc := 40) dX12_flowsFrom_40 rfl ?_
    refine E_Vi (pc := 41) (d2 := D_X12_cells) (ci := 12) [] dX12_flowsFrom_41 ml_X12_179 mf_X12_cells im_X12_cells rfl rfl rfl (by decide) (Nat.le_of_ble_eq_true rfl) (Nat.le_of_ble_eq_true rfl) rfl (fun _ _ h => f_X12_cells_ok h) hf (fun v23 μ22 hf => ?_)
    refine E_icmp_ge (pc := 44) (tgt := 158) dX12_flowsFrom_44 (by decide) hf (fun hf => ?_) (fun hf => ?_)
    · refine Ev.sub [0, 1] rfl ?_
      exact hK158 _ _ _ hf
    · refine E_iconst (pc := 47) (v := (0 : Int32)) dX12_flowsFrom_47 (by decide) ?_
      refine E_istore (pc := 48) (ls' := fun x24 => [(4, .int x24), (0, .ref a19), (2, .int x20), (3, .int x21)]) dX12_flowsFrom_48 (by decide) (fun _ => rfl) hf (fun x24 hf => ?_)
      refine E_iconst (pc := 50) (v := (0 : Int32)) dX12_flowsFrom_50 (by decide) ?_
      refine E_istore (pc := 51) (ls' := fun x25 => [(5, .int x25), (4, .int x24), (0, .ref a19), (2, .int x20), (3, .int x21)]) dX12_flowsFrom_51 (by decide) (fun _ => rfl) hf (fun x25 hf => ?_)
      refine Ev.sub [2, 3, 4, 1, 0] rfl ?_
      refine f_X12_flowsFrom_L53_ok  _ _ _ _ _ _ _ hf (fun μ39 a40 x41 x42 x43 hf => ?_)
      · refine E_iconst (pc := 96) (v := (0 : Int32)) dX12_flowsFrom_96 (by decide) ?_
        refine E_istore (pc := 97) (ls' := fun x44 => [(5, .int x44), (0, .ref a40), (2, .int x41), (3, .int x42), (4, .int x43)]) dX12_flowsFrom_97 (by decide) (fun _ => rfl) hf (fun x44 hf => ?_)
        refine Ev.sub [1, 2, 3, 4, 0] rfl ?_
        refine f_X12_flowsFrom_L99_ok  _ _ _ _ _ _ _ hf (fun μ62 a63 x64 x65 hf => ?_)
        · refine E_iinc (pc := 152) (ls' := fun x66 => [(3, .int x66), (0, .ref a63), (2, .int x64)]) dX12_flowsFrom_152 rfl (by decide) (fun _ => rfl) hf (fun x66 hf => ?_)
          refine E_goto (pc := 155) (tgt := 39) dX12_flowsFrom_155 (by decide) ?_
          refine Ev.sub [1, 2, 0] rfl ?_
          exact ih _ _ _ _ hf
def f_X12_flowsFrom_L33 (K164 : Mm → Option Mm) : Nat → Mm → Nat → Int32 → Option Mm
  | 0, _, _, _ => none
  | n + 1, μ0, a16, x17 =>
    (if x17 ≤ 0 then
    K164 μ0
    else
    (nm (0 : Int32) fun x18 =>
    f_X12_flowsFrom_L39 (fun μ67 a68 x69 =>
    (nm (x69 + Int32.ofInt (-1)) fun x70 =>
    f_X12_flowsFrom_L33 K164 n μ67 a68 x70)) FU μ0 a16 x17 x18))
set_option maxHeartbeats 4000000 in
set_option maxRecDepth 100000 in
theorem f_X12_flowsFrom_L33_ok {l : Launch} {G : GG} {K164 : Mm → Option Mm} {μ' : Mm} (n : Nat) (μ0 : Mm) (a16 : Nat) (x17 : Int32) (hf : f_X12_flowsFrom_L33 K164 n μ0 a16 x17 = some μ') (hK164 : ∀ (μ1 : Mm), K164 μ1  = some μ' → Ev l G D_X12_flowsFrom yX12_flowsFrom cX12_flowsFrom 6 none 164 [] [] μ1 none μ') : Ev l G D_X12_flowsFrom yX12_flowsFrom cX12_flowsFrom 6 none 33 [(0, .ref a16), (2, .int x17)] [] μ0 none μ' := by
  induction n generalizing μ0 a16 x17 with
  | zero => cases hf
  | succ n ih0 =>
    have ih : ∀ (μ0 : Mm) (a16 : Nat) (x17 : Int32), f_X12_flowsFrom_L33 K164 n μ0 a16 x17 = some μ' → Ev l G D_X12_flowsFrom yX12_flowsFrom cX12_flowsFrom 6 none 33 [(0, .ref a16), (2, .int x17)] [] μ0 none μ' := fun μ0 a16 x17 hf => ih0 μ0 a16 x17 hf
    rw [f_X12_flowsFrom_L33] at hf
    refine E_iload_n (pc := 33) dX12_flowsFrom_33 rfl ?_
    refine E_if_le (pc := 34) (tgt := 164) dX12_flowsFrom_34 (by decide) hf (fun hf => ?_) (fun hf => ?_)
    · refine Ev.sub [] rfl ?_
      exact hK164 _ hf
    · refine E_iconst (pc := 37) (v := (0 : Int32)) dX12_flowsFrom_37 (by decide) ?_
      refine E_istore_n (pc := 38) (ls' := fun x18 => [(3, .int x18), (0, .ref a16), (2, .int x17)]) dX12_flowsFrom_38 (by decide) (fun _ => rfl) hf (fun x18 hf => ?_)
      refine Ev.sub [1, 2, 0] rfl ?_
      refine f_X12_flowsFrom_L39_ok  _ _ _ _ _ hf (fun μ67 a68 x69 hf => ?_)
      · refine E_iinc (pc := 158) (ls' := fun x70 => [(2, .int x70), (0, .ref a68)]) dX12_flowsFrom_158 rfl (by decide) (fun _ => rfl) hf (fun x70 hf => ?_)
        refine E_goto (pc := 161) (tgt := 33) dX12_flowsFrom_161 (by decide) ?_
        refine Ev.sub [1, 0] rfl ?_
        exact ih _ _ _ hf
set_option maxRecDepth 100000 in
def f_X12_flowsFrom (μ0 : Mm) (a1 : Nat) (x2 : Int32) : Option Mm :=
 (nm (0 : Int32) fun x3 =>
    f_X12_flowsFrom_L2 (fun μ10 a11 x12 =>
    ((gR μ10 a11 12 69).bind fun v13 =>
    ((sL μ10 v13 3 x12 (5159780352 : Int64)).bind fun μ14 =>
    (nm (9 : Int32) fun x15 =>
    f_X12_flowsFrom_L33 (fun μ71 =>
    (some μ71)) FU μ14 a11 x15)))) FU μ0 a1 x2 x3)
set_option maxHeartbeats 4000000 in
set_option maxRecDepth 100000 in
theorem f_X12_flowsFrom_ok {l : Launch} {G : GG} {μ0 : Mm} {a1 : Nat} {x2 : Int32} {μ' : Mm} (hf : f_X12_flowsFrom μ0 a1 x2 = some μ') : EvM l G D_X12_flowsFrom yX12_flowsFrom cX12_flowsFrom 6 none [.ref a1, .int x2] μ0 none μ' := by
  show Ev l G D_X12_flowsFrom yX12_flowsFrom cX12_flowsFrom 6 none 0 [(0, .ref a1), (1, .int x2)] [] μ0 none μ'
  unfold f_X12_flowsFrom at hf
  refine E_iconst (pc := 0) (v := (0 : Int32)) dX12_flowsFrom_0 (by decide) ?_
  refine E_istore_n (pc := 1) (ls' := fun x3 => [(2, .int x3), (0, .ref a1), (1, .int x2)]) dX12_flowsFrom_1 (by decide) (fun _ => rfl) hf (fun x3 hf => ?_)
  refine Ev.sub [1, 2, 0] rfl ?_
  refine f_X12_flowsFrom_L2_ok  _ _ _ _ _ hf (fun μ10 a11 x12 hf => ?_)
  · refine E_aload_n (pc := 21) dX12_flowsFrom_21 rfl ?_
    refine E_getR (pc := 22) dX12_flowsFrom_22 fl_X12_161 hf (fun v13 hf => ?_)
    refine E_iload_n (pc := 25) dX12_flowsFrom_25 rfl ?_
    refine E_ldc2 (pc := 26) (v := (5159780352 : Int64)) dX12_flowsFrom_26 co_X12_546 ?_
    refine E_last (pc := 29) dX12_flowsFrom_29 hf (fun μ14 hf => ?_)
    refine E_bipush (pc := 30) (v := (9 : Int32)) dX12_flowsFrom_30 (by decide) ?_
    refine E_istore_n (pc := 32) (ls' := fun x15 => [(2, .int x15), (0, .ref a11), (1, .int x12)]) dX12_flowsFrom_32 (by decide) (fun _ => rfl) hf (fun x15 hf => ?_)
    refine Ev.sub [1, 0] rfl ?_
    refine f_X12_flowsFrom_L33_ok  _ _ _ _ hf (fun μ71 hf => ?_)
    · exact E_vret (pc := 164) dX12_flowsFrom_164 rfl hf
theorem dX12_chance_0 : decode cX12_chance 0 = .ok (.aload_n 0, 1) := by decide +kernel
theorem dX12_chance_1 : decode cX12_chance 1 = .ok (.iload_n 1, 1) := by decide +kernel
theorem dX12_chance_2 : decode cX12_chance 2 = .ok (.invokevirtual 415, 3) := by decide +kernel
theorem dX12_chance_5 : decode cX12_chance 5 = .ok (.ifCond .eq 21, 3) := by decide +kernel
theorem dX12_chance_8 : decode cX12_chance 8 = .ok (.aload_n 0, 1) := by decide +kernel
theorem dX12_chance_9 : decode cX12_chance 9 = .ok (.iload_n 2, 1) := by decide +kernel
theorem dX12_chance_10 : decode cX12_chance 10 = .ok (.invokevirtual 415, 3) := by decide +kernel
theorem dX12_chance_13 : decode cX12_chance 13 = .ok (.ifCond .eq 13, 3) := by decide +kernel
theorem dX12_chance_16 : decode cX12_chance 16 = .ok (.iload_n 3, 1) := by decide +kernel
theorem dX12_chance_17 : decode cX12_chance 17 = .ok (.i2l, 1) := by decide +kernel
theorem dX12_chance_18 : decode cX12_chance 18 = .ok (.lconst 0, 1) := by decide +kernel
theorem dX12_chance_19 : decode cX12_chance 19 = .ok (.lconst 1, 1) := by decide +kernel
theorem dX12_chance_20 : decode cX12_chance 20 = .ok (.invokestatic 183, 3) := by decide +kernel
theorem dX12_chance_23 : decode cX12_chance 23 = .ok (.ifCond .ne 7, 3) := by decide +kernel
theorem dX12_chance_26 : decode cX12_chance 26 = .ok (.ldc2_w 390, 3) := by decide +kernel
theorem dX12_chance_29 : decode cX12_chance 29 = .ok (.lreturn, 1) := by decide +kernel
theorem dX12_chance_30 : decode cX12_chance 30 = .ok (.aload_n 0, 1) := by decide +kernel
theorem dX12_chance_31 : decode cX12_chance 31 = .ok (.iload_n 1, 1) := by decide +kernel
theorem dX12_chance_32 : decode cX12_chance 32 = .ok (.invokevirtual 548, 3) := by decide +kernel
theorem dX12_chance_35 : decode cX12_chance 35 = .ok (.ldc2_w 546, 3) := by decide +kernel
theorem dX12_chance_38 : decode cX12_chance 38 = .ok (.aload_n 0, 1) := by decide +kernel
theorem dX12_chance_39 : decode cX12_chance 39 = .ok (.getfield 161, 3) := by decide +kernel
theorem dX12_chance_42 : decode cX12_chance 42 = .ok (.iload_n 2, 1) := by decide +kernel
theorem dX12_chance_43 : decode cX12_chance 43 = .ok (.laload, 1) := by decide +kernel
theorem dX12_chance_44 : decode cX12_chance 44 = .ok (.invokestatic 551, 3) := by decide +kernel
theorem dX12_chance_47 : decode cX12_chance 47 = .ok (.lstore 4, 2) := by decide +kernel
theorem dX12_chance_49 : decode cX12_chance 49 = .ok (.iload_n 3, 1) := by decide +kernel
theorem dX12_chance_50 : decode cX12_chance 50 = .ok (.ifCond .ne 15, 3) := by decide +kernel
theorem dX12_chance_53 : decode cX12_chance 53 = .ok (.aload_n 0, 1) := by decide +kernel
theorem dX12_chance_54 : decode cX12_chance 54 = .ok (.getfield 161, 3) := by decide +kernel
theorem dX12_chance_57 : decode cX12_chance 57 = .ok (.iload_n 2, 1) := by decide +kernel
theorem dX12_chance_58 : decode cX12_chance 58 = .ok (.laload, 1) := by decide +kernel
theorem dX12_chance_59 : decode cX12_chance 59 = .ok (.lload 4, 2) := by decide +kernel
theorem dX12_chance_61 : decode cX12_chance 61 = .ok (.ldiv, 1) := by decide +kernel
theorem dX12_chance_62 : decode cX12_chance 62 = .ok (.goto 9, 3) := by decide +kernel
theorem dX12_chance_65 : decode cX12_chance 65 = .ok (.ldc2_w 546, 3) := by decide +kernel
theorem dX12_chance_68 : decode cX12_chance 68 = .ok (.lload 4, 2) := by decide +kernel
theorem dX12_chance_70 : decode cX12_chance 70 = .ok (.ldiv, 1) := by decide +kernel
theorem dX12_chance_71 : decode cX12_chance 71 = .ok (.lreturn, 1) := by decide +kernel
abbrev D_X12_chance : Nat := 5
set_option maxRecDepth 100000 in
def f_X12_chance (μ0 : Mm) (a1 : Nat) (x2 : Int32) (x3 : Int32) (x4 : Int32) : Option (Int64 × Mm) :=
 ((ob μ0 a1 12).bind fun _ =>
    (bd (f_X12_isCell μ0 a1 x2) fun v6 μ5 =>
    (if v6 = 0 then
    (some ((-1 : Int64), μ5))
    else
    ((ob μ5 a1 12).bind fun _ =>
    (bd (f_X12_isCell μ5 a1 x3) fun v8 μ7 =>
    (if v8 = 0 then
    (some ((-1 : Int64), μ7))
    else
    (bd (f_X12_in μ7 (x4).toInt64 (0 : Int64) (1 : Int64)) fun v10 μ9 =>
    (if v10 = 0 then
    (some ((-1 : Int64), μ9))
    else
    ((ob μ9 a1 12).bind fun _ =>
    ((f_X12_flowsFrom μ9 a1 x2).bind fun μ11 =>
    ((gR μ11 a1 12 69).bind fun v12 =>
    ((aL μ11 v12 3 x3).bind fun v13 =>
    (bd (f_X12_divisor μ11 (5159780352 : Int64) v13) fun v15 μ14 =>
    (nm v15 fun w16 =>
    (if x4 = 0 then
    ((gR μ14 a1 12 69).bind fun v17 =>
    ((aL μ14 v17 3 x3).bind fun v18 =>
    (dvL v18 w16 fun v19 =>
    (some (v19, μ14)))))
    else
    (dvL (5159780352 : Int64) w16 fun v20 =>
    (some (v20, μ14))))))))))))))))))
set_option maxHeartbeats 4000000 in
set_option maxRecDepth 100000 in
theorem f_X12_chance_ok {l : Launch} {G : GG} {μ0 : Mm} {a1 : Nat} {x2 : Int32} {x3 : Int32} {x4 : Int32} {r : Int64} {μ' : Mm} (hf : f_X12_chance μ0 a1 x2 x3 x4 = some (r, μ')) : EvM l G D_X12_chance yX12_chance cX12_chance 6 (some .long) [.ref a1, .int x2, .int x3, .int x4] μ0 (some (.long r)) μ' := by
  show Ev l G D_X12_chance yX12_chance cX12_chance 6 (some .long) 0 [(0, .ref a1), (1, .int x2), (2, .int x3), (3, .int x4)] [] μ0 (some (.long r)) μ'
  unfold f_X12_chance at hf
  refine E_aload_n (pc := 0) dX12_chance_0 rfl ?_
  refine E_iload_n (pc := 1) dX12_chance_1 rfl ?_
  refine E_Vi (pc := 2) (d2 := D_X12_isCell) (ci := 12) [.int x2] dX12_chance_2 ml_X12_415 mf_X12_isCell im_X12_isCell rfl rfl rfl (by decide) (Nat.le_of_ble_eq_true rfl) (Nat.le_of_ble_eq_true rfl) rfl (fun _ _ h => f_X12_isCell_ok h) hf (fun v6 μ5 hf => ?_)
  refine E_if_eq (pc := 5) (tgt := 26) dX12_chance_5 (by decide) hf (fun hf => ?_) (fun hf => ?_)
  · refine E_ldc2 (pc := 26) (v := (-1 : Int64)) dX12_chance_26 co_X12_390 ?_
    exact E_lret (pc := 29) dX12_chance_29 rfl hf
  · refine E_aload_n (pc := 8) dX12_chance_8 rfl ?_
    refine E_iload_n (pc := 9) dX12_chance_9 rfl ?_
    refine E_Vi (pc := 10) (d2 := D_X12_isCell) (ci := 12) [.int x3] dX12_chance_10 ml_X12_415 mf_X12_isCell im_X12_isCell rfl rfl rfl (by decide) (Nat.le_of_ble_eq_true rfl) (Nat.le_of_ble_eq_true rfl) rfl (fun _ _ h => f_X12_isCell_ok h) hf (fun v8 μ7 hf => ?_)
    refine E_if_eq (pc := 13) (tgt := 26) dX12_chance_13 (by decide) hf (fun hf => ?_) (fun hf => ?_)
    · refine E_ldc2 (pc := 26) (v := (-1 : Int64)) dX12_chance_26 co_X12_390 ?_
      exact E_lret (pc := 29) dX12_chance_29 rfl hf
    · refine E_iload_n (pc := 16) dX12_chance_16 rfl ?_
      refine E_i2l (pc := 17) dX12_chance_17 ?_
      refine E_lconst (pc := 18) (v := (0 : Int64)) dX12_chance_18 (by decide) ?_
      refine E_lconst (pc := 19) (v := (1 : Int64)) dX12_chance_19 (by decide) ?_
      refine E_Si (pc := 20) (d2 := D_X12_in) [.long (x4).toInt64, .long (0 : Int64), .long (1 : Int64)] dX12_chance_20 ml_X12_183 mf_X12_in st_X12_in rfl (by decide) (Nat.le_of_ble_eq_true rfl) (Nat.le_of_ble_eq_true rfl) rfl (fun _ _ h => f_X12_in_ok h) hf (fun v10 μ9 hf => ?_)
      refine E_if_ne (pc := 23) (tgt := 30) dX12_chance_23 (by decide) hf (fun hf => ?_) (fun hf => ?_)
      · refine E_ldc2 (pc := 26) (v := (-1 : Int64)) dX12_chance_26 co_X12_390 ?_
        exact E_lret (pc := 29) dX12_chance_29 rfl hf
      · refine E_aload_n (pc := 30) dX12_chance_30 rfl ?_
        refine E_iload_n (pc := 31) dX12_chance_31 rfl ?_
        refine E_Vv (pc := 32) (d2 := D_X12_flowsFrom) (ci := 12) [.int x2] dX12_chance_32 ml_X12_548 mf_X12_flowsFrom im_X12_flowsFrom rfl rfl rfl (by decide) (Nat.le_of_ble_eq_true rfl) (Nat.le_of_ble_eq_true rfl) rfl (fun _ h => f_X12_flowsFrom_ok h) hf (fun μ11 hf => ?_)
        refine E_ldc2 (pc := 35) (v := (5159780352 : Int64)) dX12_chance_35 co_X12_546 ?_
        refine E_aload_n (pc := 38) dX12_chance_38 rfl ?_
        refine E_getR (pc := 39) dX12_chance_39 fl_X12_161 hf (fun v12 hf => ?_)
        refine E_iload_n (pc := 42) dX12_chance_42 rfl ?_
        refine E_lald (pc := 43) dX12_chance_43 hf (fun v13 hf => ?_)
        refine E_Sl (pc := 44) (d2 := D_X12_divisor) [.long (5159780352 : Int64), .long v13] dX12_chance_44 ml_X12_551 mf_X12_divisor st_X12_divisor rfl (by decide) (Nat.le_of_ble_eq_true rfl) (Nat.le_of_ble_eq_true rfl) rfl (fun _ _ h => f_X12_divisor_ok h) hf (fun v15 μ14 hf => ?_)
        refine E_lstore (pc := 47) (ls' := fun w16 => [(4, .long w16), (0, .ref a1), (1, .int x2), (2, .int x3), (3, .int x4)]) dX12_chance_47 (by decide) (fun _ => rfl) hf (fun w16 hf => ?_)
        refine E_iload_n (pc := 49) dX12_chance_49 rfl ?_
        refine E_if_ne (pc := 50) (tgt := 65) dX12_chance_50 (by decide) hf (fun hf => ?_) (fun hf => ?_)
        · refine E_aload_n (pc := 53) dX12_chance_53 rfl ?_
          refine E_getR (pc := 54) dX12_chance_54 fl_X12_161 hf (fun v17 hf => ?_)
          refine E_iload_n (pc := 57) dX12_chance_57 rfl ?_
          refine E_lald (pc := 58) dX12_chance_58 hf (fun v18 hf => ?_)
          refine E_lload (pc := 59) dX12_chance_59 rfl ?_
          refine E_ldiv2 (pc := 61) dX12_chance_61 hf (fun v19 hf => ?_)
          refine E_goto (pc := 62) (tgt := 71) dX12_chance_62 (by decide) ?_
          exact E_lret (pc := 71) dX12_chance_71 rfl hf
        · refine E_ldc2 (pc := 65) (v := (5159780352 : Int64)) dX12_chance_65 co_X12_546 ?_
          refine E_lload (pc := 68) dX12_chance_68 rfl ?_
          refine E_ldiv2 (pc := 70) dX12_chance_70 hf (fun v20 hf => ?_)
          exact E_lret (pc := 71) dX12_chance_71 rfl hf
theorem dX12_insure_0 : decode cX12_insure 0 = .ok (.aload_n 0, 1) := by decide +kernel
theorem dX12_insure_1 : decode cX12_insure 1 = .ok (.iload_n 1, 1) := by decide +kernel
theorem dX12_insure_2 : decode cX12_insure 2 = .ok (.invokevirtual 428, 3) := by decide +kernel
theorem dX12_insure_5 : decode cX12_insure 5 = .ok (.ifCond .eq 15, 3) := by decide +kernel
theorem dX12_insure_8 : decode cX12_insure 8 = .ok (.iload_n 2, 1) := by decide +kernel
theorem dX12_insure_9 : decode cX12_insure 9 = .ok (.i2l, 1) := by decide +kernel
theorem dX12_insure_10 : decode cX12_insure 10 = .ok (.lconst 0, 1) := by decide +kernel
theorem dX12_insure_11 : decode cX12_insure 11 = .ok (.ldc2_w 555, 3) := by decide +kernel
theorem dX12_insure_14 : decode cX12_insure 14 = .ok (.invokestatic 183, 3) := by decide +kernel
theorem dX12_insure_17 : decode cX12_insure 17 = .ok (.ifCond .ne 5, 3) := by decide +kernel
theorem dX12_insure_20 : decode cX12_insure 20 = .ok (.iconst (-1), 1) := by decide +kernel
theorem dX12_insure_21 : decode cX12_insure 21 = .ok (.ireturn, 1) := by decide +kernel
theorem dX12_insure_22 : decode cX12_insure 22 = .ok (.iconst 0, 1) := by decide +kernel
theorem dX12_insure_23 : decode cX12_insure 23 = .ok (.istore_n 3, 1) := by decide +kernel
theorem dX12_insure_24 : decode cX12_insure 24 = .ok (.iload_n 3, 1) := by decide +kernel
theorem dX12_insure_25 : decode cX12_insure 25 = .ok (.bipush 8, 2) := by decide +kernel
theorem dX12_insure_27 : decode cX12_insure 27 = .ok (.if_icmp .ge 16, 3) := by decide +kernel
theorem dX12_insure_30 : decode cX12_insure 30 = .ok (.aload_n 0, 1) := by decide +kernel
theorem dX12_insure_31 : decode cX12_insure 31 = .ok (.getfield 149, 3) := by decide +kernel
theorem dX12_insure_34 : decode cX12_insure 34 = .ok (.iload_n 3, 1) := by decide +kernel
theorem dX12_insure_35 : decode cX12_insure 35 = .ok (.iconst 0, 1) := by decide +kernel
theorem dX12_insure_36 : decode cX12_insure 36 = .ok (.iastore, 1) := by decide +kernel
theorem dX12_insure_37 : decode cX12_insure 37 = .ok (.iinc 3 1, 3) := by decide +kernel
theorem dX12_insure_40 : decode cX12_insure 40 = .ok (.goto (-16), 3) := by decide +kernel
theorem dX12_insure_43 : decode cX12_insure 43 = .ok (.iconst 0, 1) := by decide +kernel
theorem dX12_insure_44 : decode cX12_insure 44 = .ok (.istore_n 3, 1) := by decide +kernel
theorem dX12_insure_45 : decode cX12_insure 45 = .ok (.iload_n 3, 1) := by decide +kernel
theorem dX12_insure_46 : decode cX12_insure 46 = .ok (.iconst 4, 1) := by decide +kernel
theorem dX12_insure_47 : decode cX12_insure 47 = .ok (.if_icmp .ge 61, 3) := by decide +kernel
theorem dX12_insure_50 : decode cX12_insure 50 = .ok (.aload_n 0, 1) := by decide +kernel
theorem dX12_insure_51 : decode cX12_insure 51 = .ok (.iload_n 1, 1) := by decide +kernel
theorem dX12_insure_52 : decode cX12_insure 52 = .ok (.aload_n 0, 1) := by decide +kernel
theorem dX12_insure_53 : decode cX12_insure 53 = .ok (.getfield 16, 3) := by decide +kernel
theorem dX12_insure_56 : decode cX12_insure 56 = .ok (.iload_n 1, 1) := by decide +kernel
theorem dX12_insure_57 : decode cX12_insure 57 = .ok (.iaload, 1) := by decide +kernel
theorem dX12_insure_58 : decode cX12_insure 58 = .ok (.iload_n 3, 1) := by decide +kernel
theorem dX12_insure_59 : decode cX12_insure 59 = .ok (.invokevirtual 476, 3) := by decide +kernel
theorem dX12_insure_62 : decode cX12_insure 62 = .ok (.pop, 1) := by decide +kernel
theorem dX12_insure_63 : decode cX12_insure 63 = .ok (.iconst 0, 1) := by decide +kernel
theorem dX12_insure_64 : decode cX12_insure 64 = .ok (.istore 4, 2) := by decide +kernel
theorem dX12_insure_66 : decode cX12_insure 66 = .ok (.iload 4, 2) := by decide +kernel
theorem dX12_insure_68 : decode cX12_insure 68 = .ok (.aload_n 0, 1) := by decide +kernel
theorem dX12_insure_69 : decode cX12_insure 69 = .ok (.getfield 9, 3) := by decide +kernel
theorem dX12_insure_72 : decode cX12_insure 72 = .ok (.iconst 3, 1) := by decide +kernel
theorem dX12_insure_73 : decode cX12_insure 73 = .ok (.iaload, 1) := by decide +kernel
theorem dX12_insure_74 : decode cX12_insure 74 = .ok (.if_icmp .ge 28, 3) := by decide +kernel
theorem dX12_insure_77 : decode cX12_insure 77 = .ok (.aload_n 0, 1) := by decide +kernel
theorem dX12_insure_78 : decode cX12_insure 78 = .ok (.getfield 149, 3) := by decide +kernel
theorem dX12_insure_81 : decode cX12_insure 81 = .ok (.iload 4, 2) := by decide +kernel
theorem dX12_insure_83 : decode cX12_insure 83 = .ok (.dup2, 1) := by decide +kernel
theorem dX12_insure_84 : decode cX12_insure 84 = .ok (.iaload, 1) := by decide +kernel
theorem dX12_insure_85 : decode cX12_insure 85 = .ok (.aload_n 0, 1) := by decide +kernel
theorem dX12_insure_86 : decode cX12_insure 86 = .ok (.getfield 443, 3) := by decide +kernel
theorem dX12_insure_89 : decode cX12_insure 89 = .ok (.iload 4, 2) := by decide +kernel
theorem dX12_insure_91 : decode cX12_insure 91 = .ok (.ishr, 1) := by decide +kernel
theorem dX12_insure_92 : decode cX12_insure 92 = .ok (.iconst 1, 1) := by decide +kernel
theorem dX12_insure_93 : decode cX12_insure 93 = .ok (.iand, 1) := by decide +kernel
theorem dX12_insure_94 : decode cX12_insure 94 = .ok (.iadd, 1) := by decide +kernel
theorem dX12_insure_95 : decode cX12_insure 95 = .ok (.iastore, 1) := by decide +kernel
theorem dX12_insure_96 : decode cX12_insure 96 = .ok (.iinc 4 1, 3) := by decide +kernel
theorem dX12_insure_99 : decode cX12_insure 99 = .ok (.goto (-33), 3) := by decide +kernel
theorem dX12_insure_102 : decode cX12_insure 102 = .ok (.iinc 3 1, 3) := by decide +kernel
theorem dX12_insure_105 : decode cX12_insure 105 = .ok (.goto (-60), 3) := by decide +kernel
theorem dX12_insure_108 : decode cX12_insure 108 = .ok (.iconst 0, 1) := by decide +kernel
theorem dX12_insure_109 : decode cX12_insure 109 = .ok (.istore_n 3, 1) := by decide +kernel
theorem dX12_insure_110 : decode cX12_insure 110 = .ok (.iconst 0, 1) := by decide +kernel
theorem dX12_insure_111 : decode cX12_insure 111 = .ok (.istore 4, 2) := by decide +kernel
theorem dX12_insure_113 : decode cX12_insure 113 = .ok (.iload 4, 2) := by decide +kernel
theorem dX12_insure_115 : decode cX12_insure 115 = .ok (.aload_n 0, 1) := by decide +kernel
theorem dX12_insure_116 : decode cX12_insure 116 = .ok (.getfield 9, 3) := by decide +kernel
theorem dX12_insure_119 : decode cX12_insure 119 = .ok (.iconst 3, 1) := by decide +kernel
theorem dX12_insure_120 : decode cX12_insure 120 = .ok (.iaload, 1) := by decide +kernel
theorem dX12_insure_121 : decode cX12_insure 121 = .ok (.if_icmp .ge 52, 3) := by decide +kernel
theorem dX12_insure_124 : decode cX12_insure 124 = .ok (.iload_n 3, 1) := by decide +kernel
theorem dX12_insure_125 : decode cX12_insure 125 = .ok (.aload_n 0, 1) := by decide +kernel
theorem dX12_insure_126 : decode cX12_insure 126 = .ok (.getfield 25, 3) := by decide +kernel
theorem dX12_insure_129 : decode cX12_insure 129 = .ok (.iload 4, 2) := by decide +kernel
theorem dX12_insure_131 : decode cX12_insure 131 = .ok (.iaload, 1) := by decide +kernel
theorem dX12_insure_132 : decode cX12_insure 132 = .ok (.iload_n 1, 1) := by decide +kernel
theorem dX12_insure_133 : decode cX12_insure 133 = .ok (.if_icmp .eq 31, 3) := by decide +kernel
theorem dX12_insure_136 : decode cX12_insure 136 = .ok (.aload_n 0, 1) := by decide +kernel
theorem dX12_insure_137 : decode cX12_insure 137 = .ok (.getfield 31, 3) := by decide +kernel
theorem dX12_insure_140 : decode cX12_insure 140 = .ok (.iload 4, 2) := by decide +kernel
theorem dX12_insure_142 : decode cX12_insure 142 = .ok (.iaload, 1) := by decide +kernel
theorem dX12_insure_143 : decode cX12_insure 143 = .ok (.aload_n 0, 1) := by decide +kernel
theorem dX12_insure_144 : decode cX12_insure 144 = .ok (.getfield 149, 3) := by decide +kernel
theorem dX12_insure_147 : decode cX12_insure 147 = .ok (.iload 4, 2) := by decide +kernel
theorem dX12_insure_149 : decode cX12_insure 149 = .ok (.iaload, 1) := by decide +kernel
theorem dX12_insure_150 : decode cX12_insure 150 = .ok (.imul, 1) := by decide +kernel
theorem dX12_insure_151 : decode cX12_insure 151 = .ok (.iconst 4, 1) := by decide +kernel
theorem dX12_insure_152 : decode cX12_insure 152 = .ok (.iload_n 2, 1) := by decide +kernel
theorem dX12_insure_153 : decode cX12_insure 153 = .ok (.imul, 1) := by decide +kernel
theorem dX12_insure_154 : decode cX12_insure 154 = .ok (.if_icmp .le 10, 3) := by decide +kernel
theorem dX12_insure_157 : decode cX12_insure 157 = .ok (.iconst 1, 1) := by decide +kernel
theorem dX12_insure_158 : decode cX12_insure 158 = .ok (.iload 4, 2) := by decide +kernel
theorem dX12_insure_160 : decode cX12_insure 160 = .ok (.ishl, 1) := by decide +kernel
theorem dX12_insure_161 : decode cX12_insure 161 = .ok (.goto 4, 3) := by decide +kernel
theorem dX12_insure_164 : decode cX12_insure 164 = .ok (.iconst 0, 1) := by decide +kernel
theorem dX12_insure_165 : decode cX12_insure 165 = .ok (.ior, 1) := by decide +kernel
theorem dX12_insure_166 : decode cX12_insure 166 = .ok (.istore_n 3, 1) := by decide +kernel
theorem dX12_insure_167 : decode cX12_insure 167 = .ok (.iinc 4 1, 3) := by decide +kernel
theorem dX12_insure_170 : decode cX12_insure 170 = .ok (.goto (-57), 3) := by decide +kernel
theorem dX12_insure_173 : decode cX12_insure 173 = .ok (.iload_n 3, 1) := by decide +kernel
theorem dX12_insure_174 : decode cX12_insure 174 = .ok (.ireturn, 1) := by decide +kernel
abbrev D_X12_insure : Nat := 8
def f_X12_insure_L24 (K43 : Mm → Nat → Int32 → Int32 → Option (Int32 × Mm)) : Nat → Mm → Nat → Int32 → Int32 → Int32 → Option (Int32 × Mm)
  | 0, _, _, _, _, _ => none
  | n + 1, μ0, a9, x10, x11, x12 =>
    (if (8 : Int32) ≤ x12 then
    K43 μ0 a9 x10 x11
    else
    ((gR μ0 a9 12 65).bind fun v13 =>
    ((sI μ0 v13 0 x12 (0 : Int32)).bind fun μ14 =>
    (nm (x12 + Int32.ofInt (1)) fun x15 =>
    f_X12_insure_L24 K43 n μ14 a9 x10 x11 x15))))
set_option maxHeartbeats 4000000 in
set_option maxRecDepth 100000 in
theorem f_X12_insure_L24_ok {l : Launch} {G : GG} {K43 : Mm → Nat → Int32 → Int32 → Option (Int32 × Mm)} {r : Int32} {μ' : Mm} (n : Nat) (μ0 : Mm) (a9 : Nat) (x10 : Int32) (x11 : Int32) (x12 : Int32) (hf : f_X12_insure_L24 K43 n μ0 a9 x10 x11 x12 = some (r, μ')) (hK43 : ∀ (μ1 : Mm) (y0 : Nat) (y1 : Int32) (y2 : Int32), K43 μ1 y0 y1 y2 = some (r, μ') → Ev l G D_X12_insure yX12_insure cX12_insure 5 (some .int) 43 [(0, .ref y0), (1, .int y1), (2, .int y2)] [] μ1 (some (.int r)) μ') : Ev l G D_X12_insure yX12_insure cX12_insure 5 (some .int) 24 [(0, .ref a9), (1, .int x10), (2, .int x11), (3, .int x12)] [] μ0 (some (.int r)) μ' := by
  induction n generalizing μ0 a9 x10 x11 x12 with
  | zero => cases hf
  | succ n ih0 =>
    have ih : ∀ (μ0 : Mm) (a9 : Nat) (x10 : Int32) (x11 : Int32) (x12 : Int32), f_X12_insure_L24 K43 n μ0 a9 x10 x11 x12 = some (r, μ') → Ev l G D_X12_insure yX12_insure cX12_insure 5 (some .int) 24 [(0, .ref a9), (1, .int x10), (2, .int x11), (3, .int x12)] [] μ0 (some (.int r)) μ' := fun μ0 a9 x10 x11 x12 hf => ih0 μ0 a9 x10 x11 x12 hf
    rw [f_X12_insure_L24] at hf
    refine E_iload_n (pc := 24) dX12_insure_24 rfl ?_
    refine E_bipush (pc := 25) (v := (8 : Int32)) dX12_insure_25 (by decide) ?_
    refine E_icmp_ge (pc := 27) (tgt := 43) dX12_insure_27 (by decide) hf (fun hf => ?_) (fun hf => ?_)
    · refine Ev.sub [0, 1, 2] rfl ?_
      exact hK43 _ _ _ _ hf
    · refine E_aload_n (pc := 30) dX12_insure_30 rfl ?_
      refine E_getR (pc := 31) dX12_insure_31 fl_X12_149 hf (fun v13 hf => ?_)
      refine E_iload_n (pc := 34) dX12_insure_34 rfl ?_
      refine E_iconst (pc := 35) (v := (0 : Int32)) dX12_insure_35 (by decide) ?_
      refine E_iast (pc := 36) dX12_insure_36 hf (fun μ14 hf => ?_)
      refine E_iinc (pc := 37) (ls' := fun x15 => [(3, .int x15), (0, .ref a9), (1, .int x10), (2, .int x11)]) dX12_insure_37 rfl (by decide) (fun _ => rfl) hf (fun x15 hf => ?_)
      refine E_goto (pc := 40) (tgt := 24) dX12_insure_40 (by decide) ?_
      refine Ev.sub [1, 2, 3, 0] rfl ?_
      exact ih _ _ _ _ _ hf
def f_X12_insure_L66 (K102 : Mm → Nat → Int32 → Int32 → Int32 → Option (Int32 × Mm)) : Nat → Mm → Nat → Int32 → Int32 → Int32 → Int32 → Option (Int32 × Mm)
  | 0, _, _, _, _, _, _ => none
  | n + 1, μ0, a30, x31, x32, x33, x34 =>
    ((gR μ0 a30 12 1).bind fun v35 =>
    ((aI μ0 v35 0 (3 : Int32)).bind fun v36 =>
    (if v36 ≤ x34 then
    K102 μ0 a30 x31 x32 x33
    else
    ((gR μ0 a30 12 65).bind fun v37 =>
    ((aI μ0 v37 0 x34).bind fun v38 =>
    ((gI μ0 a30 12 51).bind fun v39 =>
    ((sI μ0 v37 0 x34 (v38 + ((v39 >>> (x34 &&& 31)) &&& (1 : Int32)))).bind fun μ40 =>
    (nm (x34 + Int32.ofInt (1)) fun x41 =>
    f_X12_insure_L66 K102 n μ40 a30 x31 x32 x33 x41))))))))
set_option maxHeartbeats 4000000 in
set_option maxRecDepth 100000 in
theorem f_X12_insure_L66_ok {l : Launch} {G : GG} {K102 : Mm → Nat → Int32 → Int32 → Int32 → Option (Int32 × Mm)} {r : Int32} {μ' : Mm} (n : Nat) (μ0 : Mm) (a30 : Nat) (x31 : Int32) (x32 : Int32) (x33 : Int32) (x34 : Int32) (hf : f_X12_insure_L66 K102 n μ0 a30 x31 x32 x33 x34 = some (r, μ')) (hK102 : ∀ (μ1 : Mm) (y0 : Nat) (y1 : Int32) (y2 : Int32) (y3 : Int32), K102 μ1 y0 y1 y2 y3 = some (r, μ') → Ev l G D_X12_insure yX12_insure cX12_insure 5 (some .int) 102 [(0, .ref y0), (1, .int y1), (2, .int y2), (3, .int y3)] [] μ1 (some (.int r)) μ') : Ev l G D_X12_insure yX12_insure cX12_insure 5 (some .int) 66 [(0, .ref a30), (1, .int x31), (2, .int x32), (3, .int x33), (4, .int x34)] [] μ0 (some (.int r)) μ' := by
  induction n generalizing μ0 a30 x31 x32 x33 x34 with
  | zero => cases hf
  | succ n ih0 =>
    have ih : ∀ (μ0 : Mm) (a30 : Nat) (x31 : Int32) (x32 : Int32) (x33 : Int32) (x34 : Int32), f_X12_insure_L66 K102 n μ0 a30 x31 x32 x33 x34 = some (r, μ') → Ev l G D_X12_insure yX12_insure cX12_insure 5 (some .int) 66 [(0, .ref a30), (1, .int x31), (2, .int x32), (3, .int x33), (4, .int x34)] [] μ0 (some (.int r)) μ' := fun μ0 a30 x31 x32 x33 x34 hf => ih0 μ0 a30 x31 x32 x33 x34 hf
    rw [f_X12_insure_L66] at hf
    refine E_iload (pc := 66) dX12_insure_66 rfl ?_
    refine E_aload_n (pc := 68) dX12_insure_68 rfl ?_
    refine E_getR (pc := 69) dX12_insure_69 fl_X12_9 hf (fun v35 hf => ?_)
    refine E_iconst (pc := 72) (v := (3 : Int32)) dX12_insure_72 (by decide) ?_
    refine E_iald (pc := 73) dX12_insure_73 hf (fun v36 hf => ?_)
    refine E_icmp_ge (pc := 74) (tgt := 102) dX12_insure_74 (by decide) hf (fun hf => ?_) (fun hf => ?_)
    · refine Ev.sub [0, 1, 2, 3] rfl ?_
      exact hK102 _ _ _ _ _ hf
    · refine E_aload_n (pc := 77) dX12_insure_77 rfl ?_
      refine E_getR (pc := 78) dX12_insure_78 fl_X12_149 hf (fun v37 hf => ?_)
      refine E_iload (pc := 81) dX12_insure_81 rfl ?_
      refine E_dup2 (pc := 83) dX12_insure_83 rfl rfl ?_
      refine E_iald (pc := 84) dX12_insure_84 hf (fun v38 hf => ?_)
      refine E_aload_n (pc := 85) dX12_insure_85 rfl ?_
      refine E_getI (pc := 86) dX12_insure_86 fl_X12_443 hf (fun v39 hf => ?_)
      refine E_iload (pc := 89) dX12_insure_89 rfl ?_
      refine E_ishr (pc := 91) dX12_insure_91 ?_
      refine E_iconst (pc := 92) (v := (1 : Int32)) dX12_insure_92 (by decide) ?_
      refine E_iand (pc := 93) dX12_insure_93 ?_
      refine E_iadd (pc := 94) dX12_insure_94 ?_
      refine E_iast (pc := 95) dX12_insure_95 hf (fun μ40 hf => ?_)
      refine E_iinc (pc := 96) (ls' := fun x41 => [(4, .int x41), (0, .ref a30), (1, .int x31), (2, .int x32), (3, .int x33)]) dX12_insure_96 rfl (by decide) (fun _ => rfl) hf (fun x41 hf => ?_)
      refine E_goto (pc := 99) (tgt := 66) dX12_insure_99 (by decide) ?_
      refine Ev.sub [1, 2, 3, 4, 0] rfl ?_
      exact ih _ _ _ _ _ _ hf
def f_X12_insure_L45 (K108 : Mm → Nat → Int32 → Int32 → Option (Int32 × Mm)) : Nat → Mm → Nat → Int32 → Int32 → Int32 → Option (Int32 × Mm)
  | 0, _, _, _, _, _ => none
  | n + 1, μ0, a21, x22, x23, x24 =>
    (if (4 : Int32) ≤ x24 then
    K108 μ0 a21 x22 x23
    else
    ((gR μ0 a21 12 3).bind fun v25 =>
    ((aI μ0 v25 0 x22).bind fun v26 =>
    ((ob μ0 a21 12).bind fun _ =>
    (bd (f_X12_falls μ0 a21 x22 v26 x24) fun v28 μ27 =>
    (nm (0 : Int32) fun x29 =>
    f_X12_insure_L66 (fun μ42 a43 x44 x45 x46 =>
    (nm (x46 + Int32.ofInt (1)) fun x47 =>
    f_X12_insure_L45 K108 n μ42 a43 x44 x45 x47)) FU μ27 a21 x22 x23 x24 x29))))))
set_option maxHeartbeats 4000000 in
set_option maxRecDepth 100000 in
theorem f_X12_insure_L45_ok {l : Launch} {G : GG} {K108 : Mm → Nat → Int32 → Int32 → Option (Int32 × Mm)} {r : Int32} {μ' : Mm} (n : Nat) (μ0 : Mm) (a21 : Nat) (x22 : Int32) (x23 : Int32) (x24 : Int32) (hf : f_X12_insure_L45 K108 n μ0 a21 x22 x23 x24 = some (r, μ')) (hK108 : ∀ (μ1 : Mm) (y0 : Nat) (y1 : Int32) (y2 : Int32), K108 μ1 y0 y1 y2 = some (r, μ') → Ev l G D_X12_insure yX12_insure cX12_insure 5 (some .int) 108 [(0, .ref y0), (1, .int y1), (2, .int y2)] [] μ1 (some (.int r)) μ') : Ev l G D_X12_insure yX12_insure cX12_insure 5 (some .int) 45 [(0, .ref a21), (1, .int x22), (2, .int x23), (3, .int x24)] [] μ0 (some (.int r)) μ' := by
  induction n generalizing μ0 a21 x22 x23 x24 with
  | zero => cases hf
  | succ n ih0 =>
    have ih : ∀ (μ0 : Mm) (a21 : Nat) (x22 : Int32) (x23 : Int32) (x24 : Int32), f_X12_insure_L45 K108 n μ0 a21 x22 x23 x24 = some (r, μ') → Ev l G D_X12_insure yX12_insure cX12_insure 5 (some .int) 45 [(0, .ref a21), (1, .int x22), (2, .int x23), (3, .int x24)] [] μ0 (some (.int r)) μ' := fun μ0 a21 x22 x23 x24 hf => ih0 μ0 a21 x22 x23 x24 hf
    rw [f_X12_insure_L45] at hf
    refine E_iload_n (pc := 45) dX12_insure_45 rfl ?_
    refine E_iconst (pc := 46) (v := (4 : Int32)) dX12_insure_46 (by decide) ?_
    refine E_icmp_ge (pc := 47) (tgt := 108) dX12_insure_47 (by decide) hf (fun hf => ?_) (fun hf => ?_)
    · refine Ev.sub [0, 1, 2] rfl ?_
      exact hK108 _ _ _ _ hf
    · refine E_aload_n (pc := 50) dX12_insure_50 rfl ?_
      refine E_iload_n (pc := 51) dX12_insure_51 rfl ?_
      refine E_aload_n (pc := 52) dX12_insure_52 rfl ?_
      refine E_getR (pc := 53) dX12_insure_53 fl_X12_16 hf (fun v25 hf => ?_)
      refine E_iload_n (pc := 56) dX12_insure_56 rfl ?_
      refine E_iald (pc := 57) dX12_insure_57 hf (fun v26 hf => ?_)
      refine E_iload_n (pc := 58) dX12_insure_58 rfl ?_
      refine E_Vi (pc := 59) (d2 := D_X12_falls) (ci := 12) [.int x22, .int v26, .int x24] dX12_insure_59 ml_X12_476 mf_X12_falls im_X12_falls rfl rfl rfl (by decide) (Nat.le_of_ble_eq_true rfl) (Nat.le_of_ble_eq_true rfl) rfl (fun _ _ h => f_X12_falls_ok h) hf (fun v28 μ27 hf => ?_)
      refine E_pop (pc := 62) dX12_insure_62 rfl ?_
      refine E_iconst (pc := 63) (v := (0 : Int32)) dX12_insure_63 (by decide) ?_
      refine E_istore (pc := 64) (ls' := fun x29 => [(4, .int x29), (0, .ref a21), (1, .int x22), (2, .int x23), (3, .int x24)]) dX12_insure_64 (by decide) (fun _ => rfl) hf (fun x29 hf => ?_)
      refine Ev.sub [1, 2, 3, 4, 0] rfl ?_
      refine f_X12_insure_L66_ok  _ _ _ _ _ _ _ hf (fun μ42 a43 x44 x45 x46 hf => ?_)
      · refine E_iinc (pc := 102) (ls' := fun x47 => [(3, .int x47), (0, .ref a43), (1, .int x44), (2, .int x45)]) dX12_insure_102 rfl (by decide) (fun _ => rfl) hf (fun x47 hf => ?_)
        refine E_goto (pc := 105) (tgt := 45) dX12_insure_105 (by decide) ?_
        refine Ev.sub [1, 2, 3, 0] rfl ?_
        exact ih _ _ _ _ _ hf
def f_X12_insure_L113 (K173 : Mm → Int32 → Option (Int32 × Mm)) : Nat → Mm → Nat → Int32 → Int32 → Int32 → Int32 → Option (Int32 × Mm)
  | 0, _, _, _, _, _, _ => none
  | n + 1, μ0, a54, x55, x56, x57, x58 =>
    ((gR μ0 a54 12 1).bind fun v59 =>
    ((aI μ0 v59 0 (3 : Int32)).bind fun v60 =>
    (if v60 ≤ x58 then
    K173 μ0 x57
    else
    ((gR μ0 a54 12 6).bind fun v61 =>
    ((aI μ0 v61 0 x58).bind fun v62 =>
    (if v62 = x55 then
    (nm (x57 ||| (0 : Int32)) fun x63 =>
    (nm (x58 + Int32.ofInt (1)) fun x64 =>
    f_X12_insure_L113 K173 n μ0 a54 x55 x56 x63 x64))
    else
    ((gR μ0 a54 12 8).bind fun v65 =>
    ((aI μ0 v65 0 x58).bind fun v66 =>
    ((gR μ0 a54 12 65).bind fun v67 =>
    ((aI μ0 v67 0 x58).bind fun v68 =>
    (if (v66 * v68) ≤ ((4 : Int32) * x56) then
    (nm (x57 ||| (0 : Int32)) fun x69 =>
    (nm (x58 + Int32.ofInt (1)) fun x70 =>
    f_X12_insure_L113 K173 n μ0 a54 x55 x56 x69 x70))
    else
    (nm (x57 ||| ((1 : Int32) <<< (x58 &&& 31))) fun x71 =>
    (nm (x58 + Int32.ofInt (1)) fun x72 =>
    f_X12_insure_L113 K173 n μ0 a54 x55 x56 x71 x72)))))))))))))
set_option maxHeartbeats 4000000 in
set_option maxRecDepth 100000 in
theorem f_X12_insure_L113_ok {l : Launch} {G : GG} {K173 : Mm → Int32 → Option (Int32 × Mm)} {r : Int32} {μ' : Mm} (n : Nat) (μ0 : Mm) (a54 : Nat) (x55 : Int32) (x56 : Int32) (x57 : Int32) (x58 : Int32) (hf : f_X12_insure_L113 K173 n μ0 a54 x55 x56 x57 x58 = some (r, μ')) (hK173 : ∀ (μ1 : Mm) (y3 : Int32), K173 μ1 y3 = some (r, μ') → Ev l G D_X12_insure yX12_insure cX12_insure 5 (some .int) 173 [(3, .int y3)] [] μ1 (some (.int r)) μ') : Ev l G D_X12_insure yX12_insure cX12_insure 5 (some .int) 113 [(0, .ref a54), (1, .int x55), (2, .int x56), (3, .int x57), (4, .int x58)] [] μ0 (some (.int r)) μ' := by
  induction n generalizing μ0 a54 x55 x56 x57 x58 with
  | zero => cases hf
  | succ n ih0 =>
    have ih : ∀ (μ0 : Mm) (a54 : Nat) (x55 : Int32) (x56 : Int32) (x57 : Int32) (x58 : Int32), f_X12_insure_L113 K173 n μ0 a54 x55 x56 x57 x58 = some (r, μ') → Ev l G D_X12_insure yX12_insure cX12_insure 5 (some .int) 113 [(0, .ref a54), (1, .int x55), (2, .int x56), (3, .int x57), (4, .int x58)] [] μ0 (some (.int r)) μ' := fun μ0 a54 x55 x56 x57 x58 hf => ih0 μ0 a54 x55 x56 x57 x58 hf
    rw [f_X12_insure_L113] at hf
    refine E_iload (pc := 113) dX12_insure_113 rfl ?_
    refine E_aload_n (pc := 115) dX12_insure_115 rfl ?_
    refine E_getR (pc := 116) dX12_insure_116 fl_X12_9 hf (fun v59 hf => ?_)
    refine E_iconst (pc := 119) (v := (3 : Int32)) dX12_insure_119 (by decide) ?_
    refine E_iald (pc := 120) dX12_insure_120 hf (fun v60 hf => ?_)
    refine E_icmp_ge (pc := 121) (tgt := 173) dX12_insure_121 (by decide) hf (fun hf => ?_) (fun hf => ?_)
    · refine Ev.sub [3] rfl ?_
      exact hK173 _ _ hf
    · refine E_iload_n (pc := 124) dX12_insure_124 rfl ?_
      refine E_aload_n (pc := 125) dX12_insure_125 rfl ?_
      refine E_getR (pc := 126) dX12_insure_126 fl_X12_25 hf (fun v61 hf => ?_)
      refine E_iload (pc := 129) dX12_insure_129 rfl ?_
      refine E_iald (pc := 131) dX12_insure_131 hf (fun v62 hf => ?_)
      refine E_iload_n (pc := 132) dX12_insure_132 rfl ?_
      refine E_icmp_eq (pc := 133) (tgt := 164) dX12_insure_133 (by decide) hf (fun hf => ?_) (fun hf => ?_)
      · refine E_iconst (pc := 164) (v := (0 : Int32)) dX12_insure_164 (by decide) ?_
        refine E_ior (pc := 165) dX12_insure_165 ?_
        refine E_istore_n (pc := 166) (ls' := fun x63 => [(3, .int x63), (0, .ref a54), (1, .int x55), (2, .int x56), (4, .int x58)]) dX12_insure_166 (by decide) (fun _ => rfl) hf (fun x63 hf => ?_)
        refine E_iinc (pc := 167) (ls' := fun x64 => [(4, .int x64), (3, .int x63), (0, .ref a54), (1, .int x55), (2, .int x56)]) dX12_insure_167 rfl (by decide) (fun _ => rfl) hf (fun x64 hf => ?_)
        refine E_goto (pc := 170) (tgt := 113) dX12_insure_170 (by decide) ?_
        refine Ev.sub [2, 3, 4, 1, 0] rfl ?_
        exact ih _ _ _ _ _ _ hf
      · refine E_aload_n (pc := 136) dX12_insure_136 rfl ?_
        refine E_getR (pc := 137) dX12_insure_137 fl_X12_31 hf (fun v65 hf => ?_)
        refine E_iload (pc := 140) dX12_insure_140 rfl ?_
        refine E_iald (pc := 142) dX12_insure_142 hf (fun v66 hf => ?_)
        refine E_aload_n (pc := 143) dX12_insure_143 rfl ?_
        refine E_getR (pc := 144) dX12_insure_144 fl_X12_149 hf (fun v67 hf => ?_)
        refine E_iload (pc := 147) dX12_insure_147 rfl ?_
        refine E_iald (pc := 149) dX12_insure_149 hf (fun v68 hf => ?_)
        refine E_imul (pc := 150) dX12_insure_150 ?_
        refine E_iconst (pc := 151) (v := (4 : Int32)) dX12_insure_151 (by decide) ?_
        refine E_iload_n (pc := 152) dX12_insure_152 rfl ?_
        refine E_imul (pc := 153) dX12_insure_153 ?_
        refine E_icmp_le (pc := 154) (tgt := 164) dX12_insure_154 (by decide) hf (fun hf => ?_) (fun hf => ?_)
        · refine E_iconst (pc := 164) (v := (0 : Int32)) dX12_insure_164 (by decide) ?_
          refine E_ior (pc := 165) dX12_insure_165 ?_
          refine E_istore_n (pc := 166) (ls' := fun x69 => [(3, .int x69), (0, .ref a54), (1, .int x55), (2, .int x56), (4, .int x58)]) dX12_insure_166 (by decide) (fun _ => rfl) hf (fun x69 hf => ?_)
          refine E_iinc (pc := 167) (ls' := fun x70 => [(4, .int x70), (3, .int x69), (0, .ref a54), (1, .int x55), (2, .int x56)]) dX12_insure_167 rfl (by decide) (fun _ => rfl) hf (fun x70 hf => ?_)
          refine E_goto (pc := 170) (tgt := 113) dX12_insure_170 (by decide) ?_
          refine Ev.sub [2, 3, 4, 1, 0] rfl ?_
          exact ih _ _ _ _ _ _ hf
        · refine E_iconst (pc := 157) (v := (1 : Int32)) dX12_insure_157 (by decide) ?_
          refine E_iload (pc := 158) dX12_insure_158 rfl ?_
          refine E_ishl (pc := 160) dX12_insure_160 ?_
          refine E_goto (pc := 161) (tgt := 165) dX12_insure_161 (by decide) ?_
          refine E_ior (pc := 165) dX12_insure_165 ?_
          refine E_istore_n (pc := 166) (ls' := fun x71 => [(3, .int x71), (0, .ref a54), (1, .int x55), (2, .int x56), (4, .int x58)]) dX12_insure_166 (by decide) (fun _ => rfl) hf (fun x71 hf => ?_)
          refine E_iinc (pc := 167) (ls' := fun x72 => [(4, .int x72), (3, .int x71), (0, .ref a54), (1, .int x55), (2, .int x56)]) dX12_insure_167 rfl (by decide) (fun _ => rfl) hf (fun x72 hf => ?_)
          refine E_goto (pc := 170) (tgt := 113) dX12_insure_170 (by decide) ?_
          refine Ev.sub [2, 3, 4, 1, 0] rfl ?_
          exact ih _ _ _ _ _ _ hf
set_option maxRecDepth 100000 in
def f_X12_insure (μ0 : Mm) (a1 : Nat) (x2 : Int32) (x3 : Int32) : Option (Int32 × Mm) :=
 ((ob μ0 a1 12).bind fun _ =>
    (bd (f_X12_isPerson μ0 a1 x2) fun v5 μ4 =>
    (if v5 = 0 then
    (some ((-1 : Int32), μ4))
    else
    (bd (f_X12_in μ4 (x3).toInt64 (0 : Int64) (60 : Int64)) fun v7 μ6 =>
    (if v7 = 0 then
    (some ((-1 : Int32), μ6))
    else
    (nm (0 : Int32) fun x8 =>
    f_X12_insure_L24 (fun μ16 a17 x18 x19 =>
    (nm (0 : Int32) fun x20 =>
    f_X12_insure_L45 (fun μ48 a49 x50 x51 =>
    (nm (0 : Int32) fun x52 =>
    (nm (0 : Int32) fun x53 =>
    f_X12_insure_L113 (fun μ73 x74 =>
    (some (x74, μ73))) FU μ48 a49 x50 x51 x52 x53))) FU μ16 a17 x18 x19 x20)) FU μ6 a1 x2 x3 x8))))))
set_option maxHeartbeats 4000000 in
set_option maxRecDepth 100000 in
theorem f_X12_insure_ok {l : Launch} {G : GG} {μ0 : Mm} {a1 : Nat} {x2 : Int32} {x3 : Int32} {r : Int32} {μ' : Mm} (hf : f_X12_insure μ0 a1 x2 x3 = some (r, μ')) : EvM l G D_X12_insure yX12_insure cX12_insure 5 (some .int) [.ref a1, .int x2, .int x3] μ0 (some (.int r)) μ' := by
  show Ev l G D_X12_insure yX12_insure cX12_insure 5 (some .int) 0 [(0, .ref a1), (1, .int x2), (2, .int x3)] [] μ0 (some (.int r)) μ'
  unfold f_X12_insure at hf
  refine E_aload_n (pc := 0) dX12_insure_0 rfl ?_
  refine E_iload_n (pc := 1) dX12_insure_1 rfl ?_
  refine E_Vi (pc := 2) (d2 := D_X12_isPerson) (ci := 12) [.int x2] dX12_insure_2 ml_X12_428 mf_X12_isPerson im_X12_isPerson rfl rfl rfl (by decide) (Nat.le_of_ble_eq_true rfl) (Nat.le_of_ble_eq_true rfl) rfl (fun _ _ h => f_X12_isPerson_ok h) hf (fun v5 μ4 hf => ?_)
  refine E_if_eq (pc := 5) (tgt := 20) dX12_insure_5 (by decide) hf (fun hf => ?_) (fun hf => ?_)
  · refine E_iconst (pc := 20) (v := (-1 : Int32)) dX12_insure_20 (by decide) ?_
    exact E_iret (pc := 21) dX12_insure_21 rfl hf
  · refine E_iload_n (pc := 8) dX12_insure_8 rfl ?_
    refine E_i2l (pc := 9) dX12_insure_9 ?_
    refine E_lconst (pc := 10) (v := (0 : Int64)) dX12_insure_10 (by decide) ?_
    refine E_ldc2 (pc := 11) (v := (60 : Int64)) dX12_insure_11 co_X12_555 ?_
    refine E_Si (pc := 14) (d2 := D_X12_in) [.long (x3).toInt64, .long (0 : Int64), .long (60 : Int64)] dX12_insure_14 ml_X12_183 mf_X12_in st_X12_in rfl (by decide) (Nat.le_of_ble_eq_true rfl) (Nat.le_of_ble_eq_true rfl) rfl (fun _ _ h => f_X12_in_ok h) hf (fun v7 μ6 hf => ?_)
    refine E_if_ne (pc := 17) (tgt := 22) dX12_insure_17 (by decide) hf (fun hf => ?_) (fun hf => ?_)
    · refine E_iconst (pc := 20) (v := (-1 : Int32)) dX12_insure_20 (by decide) ?_
      exact E_iret (pc := 21) dX12_insure_21 rfl hf
    · refine E_iconst (pc := 22) (v := (0 : Int32)) dX12_insure_22 (by decide) ?_
      refine E_istore_n (pc := 23) (ls' := fun x8 => [(3, .int x8), (0, .ref a1), (1, .int x2), (2, .int x3)]) dX12_insure_23 (by decide) (fun _ => rfl) hf (fun x8 hf => ?_)
      refine Ev.sub [1, 2, 3, 0] rfl ?_
      refine f_X12_insure_L24_ok  _ _ _ _ _ _ hf (fun μ16 a17 x18 x19 hf => ?_)
      · refine E_iconst (pc := 43) (v := (0 : Int32)) dX12_insure_43 (by decide) ?_
        refine E_istore_n (pc := 44) (ls' := fun x20 => [(3, .int x20), (0, .ref a17), (1, .int x18), (2, .int x19)]) dX12_insure_44 (by decide) (fun _ => rfl) hf (fun x20 hf => ?_)
        refine Ev.sub [1, 2, 3, 0] rfl ?_
        refine f_X12_insure_L45_ok  _ _ _ _ _ _ hf (fun μ48 a49 x50 x51 hf => ?_)
        · refine E_iconst (pc := 108) (v := (0 : Int32)) dX12_insure_108 (by decide) ?_
          refine E_istore_n (pc := 109) (ls' := fun x52 => [(3, .int x52), (0, .ref a49), (1, .int x50), (2, .int x51)]) dX12_insure_109 (by decide) (fun _ => rfl) hf (fun x52 hf => ?_)
          refine E_iconst (pc := 110) (v := (0 : Int32)) dX12_insure_110 (by decide) ?_
          refine E_istore (pc := 111) (ls' := fun x53 => [(4, .int x53), (3, .int x52), (0, .ref a49), (1, .int x50), (2, .int x51)]) dX12_insure_111 (by decide) (fun _ => rfl) hf (fun x53 hf => ?_)
          refine Ev.sub [2, 3, 4, 1, 0] rfl ?_
          refine f_X12_insure_L113_ok  _ _ _ _ _ _ _ hf (fun μ73 x74 hf => ?_)
          · refine E_iload_n (pc := 173) dX12_insure_173 rfl ?_
            exact E_iret (pc := 174) dX12_insure_174 rfl hf
theorem dX12_isReady_0 : decode cX12_isReady 0 = .ok (.iconst 0, 1) := by decide +kernel
theorem dX12_isReady_1 : decode cX12_isReady 1 = .ok (.istore_n 2, 1) := by decide +kernel
theorem dX12_isReady_2 : decode cX12_isReady 2 = .ok (.iload_n 2, 1) := by decide +kernel
theorem dX12_isReady_3 : decode cX12_isReady 3 = .ok (.aload_n 0, 1) := by decide +kernel
theorem dX12_isReady_4 : decode cX12_isReady 4 = .ok (.getfield 9, 3) := by decide +kernel
theorem dX12_isReady_7 : decode cX12_isReady 7 = .ok (.bipush 6, 2) := by decide +kernel
theorem dX12_isReady_9 : decode cX12_isReady 9 = .ok (.iaload, 1) := by decide +kernel
theorem dX12_isReady_10 : decode cX12_isReady 10 = .ok (.if_icmp .ge 37, 3) := by decide +kernel
theorem dX12_isReady_13 : decode cX12_isReady 13 = .ok (.aload_n 0, 1) := by decide +kernel
theorem dX12_isReady_14 : decode cX12_isReady 14 = .ok (.getfield 40, 3) := by decide +kernel
theorem dX12_isReady_17 : decode cX12_isReady 17 = .ok (.iload_n 2, 1) := by decide +kernel
theorem dX12_isReady_18 : decode cX12_isReady 18 = .ok (.iaload, 1) := by decide +kernel
theorem dX12_isReady_19 : decode cX12_isReady 19 = .ok (.iload_n 1, 1) := by decide +kernel
theorem dX12_isReady_20 : decode cX12_isReady 20 = .ok (.if_icmp .ne 21, 3) := by decide +kernel
theorem dX12_isReady_23 : decode cX12_isReady 23 = .ok (.aload_n 0, 1) := by decide +kernel
theorem dX12_isReady_24 : decode cX12_isReady 24 = .ok (.getfield 164, 3) := by decide +kernel
theorem dX12_isReady_27 : decode cX12_isReady 27 = .ok (.aload_n 0, 1) := by decide +kernel
theorem dX12_isReady_28 : decode cX12_isReady 28 = .ok (.getfield 43, 3) := by decide +kernel
theorem dX12_isReady_31 : decode cX12_isReady 31 = .ok (.iload_n 2, 1) := by decide +kernel
theorem dX12_isReady_32 : decode cX12_isReady 32 = .ok (.iaload, 1) := by decide +kernel
theorem dX12_isReady_33 : decode cX12_isReady 33 = .ok (.iaload, 1) := by decide +kernel
theorem dX12_isReady_34 : decode cX12_isReady 34 = .ok (.bipush (-2), 2) := by decide +kernel
theorem dX12_isReady_36 : decode cX12_isReady 36 = .ok (.if_icmp .ne 5, 3) := by decide +kernel
theorem dX12_isReady_39 : decode cX12_isReady 39 = .ok (.iconst 0, 1) := by decide +kernel
theorem dX12_isReady_40 : decode cX12_isReady 40 = .ok (.ireturn, 1) := by decide +kernel
theorem dX12_isReady_41 : decode cX12_isReady 41 = .ok (.iinc 2 1, 3) := by decide +kernel
theorem dX12_isReady_44 : decode cX12_isReady 44 = .ok (.goto (-42), 3) := by decide +kernel
theorem dX12_isReady_47 : decode cX12_isReady 47 = .ok (.iconst 1, 1) := by decide +kernel
theorem dX12_isReady_48 : decode cX12_isReady 48 = .ok (.ireturn, 1) := by decide +kernel
abbrev D_X12_isReady : Nat := 1
def f_X12_isReady_L2 (K39 : Mm → Option (Int32 × Mm)) (K47 : Mm → Option (Int32 × Mm)) : Nat → Mm → Nat → Int32 → Int32 → Option (Int32 × Mm)
  | 0, _, _, _, _ => none
  | n + 1, μ0, a4, x5, x6 =>
    ((gR μ0 a4 12 1).bind fun v7 =>
    ((aI μ0 v7 0 (6 : Int32)).bind fun v8 =>
    (if v8 ≤ x6 then
    K47 μ0
    else
    ((gR μ0 a4 12 11).bind fun v9 =>
    ((aI μ0 v9 0 x6).bind fun v10 =>
    (if v10 = x5 then
    ((gR μ0 a4 12 70).bind fun v11 =>
    ((gR μ0 a4 12 12).bind fun v12 =>
    ((aI μ0 v12 0 x6).bind fun v13 =>
    ((aI μ0 v11 0 v13).bind fun v14 =>
    (if v14 = (-2 : Int32) then
    K39 μ0
    else
    (nm (x6 + Int32.ofInt (1)) fun x15 =>
    f_X12_isReady_L2 K39 K47 n μ0 a4 x5 x15))))))
    else
    (nm (x6 + Int32.ofInt (1)) fun x16 =>
    f_X12_isReady_L2 K39 K47 n μ0 a4 x5 x16)))))))
set_option maxHeartbeats 4000000 in
set_option maxRecDepth 100000 in
theorem f_X12_isReady_L2_ok {l : Launch} {G : GG} {K39 : Mm → Option (Int32 × Mm)} {K47 : Mm → Option (Int32 × Mm)} {r : Int32} {μ' : Mm} (n : Nat) (μ0 : Mm) (a4 : Nat) (x5 : Int32) (x6 : Int32) (hf : f_X12_isReady_L2 K39 K47 n μ0 a4 x5 x6 = some (r, μ')) (hK39 : ∀ (μ1 : Mm), K39 μ1  = some (r, μ') → Ev l G D_X12_isReady yX12_isReady cX12_isReady 3 (some .boolean) 39 [] [] μ1 (some (.int r)) μ') (hK47 : ∀ (μ1 : Mm), K47 μ1  = some (r, μ') → Ev l G D_X12_isReady yX12_isReady cX12_isReady 3 (some .boolean) 47 [] [] μ1 (some (.int r)) μ') : Ev l G D_X12_isReady yX12_isReady cX12_isReady 3 (some .boolean) 2 [(0, .ref a4), (1, .int x5), (2, .int x6)] [] μ0 (some (.int r)) μ' := by
  induction n generalizing μ0 a4 x5 x6 with
  | zero => cases hf
  | succ n ih0 =>
    have ih : ∀ (μ0 : Mm) (a4 : Nat) (x5 : Int32) (x6 : Int32), f_X12_isReady_L2 K39 K47 n μ0 a4 x5 x6 = some (r, μ') → Ev l G D_X12_isReady yX12_isReady cX12_isReady 3 (some .boolean) 2 [(0, .ref a4), (1, .int x5), (2, .int x6)] [] μ0 (some (.int r)) μ' := fun μ0 a4 x5 x6 hf => ih0 μ0 a4 x5 x6 hf
    rw [f_X12_isReady_L2] at hf
    refine E_iload_n (pc := 2) dX12_isReady_2 rfl ?_
    refine E_aload_n (pc := 3) dX12_isReady_3 rfl ?_
    refine E_getR (pc := 4) dX12_isReady_4 fl_X12_9 hf (fun v7 hf => ?_)
    refine E_bipush (pc := 7) (v := (6 : Int32)) dX12_isReady_7 (by decide) ?_
    refine E_iald (pc := 9) dX12_isReady_9 hf (fun v8 hf => ?_)
    refine E_icmp_ge (pc := 10) (tgt := 47) dX12_isReady_10 (by decide) hf (fun hf => ?_) (fun hf => ?_)
    · refine Ev.sub [] rfl ?_
      exact hK47 _ hf
    · refine E_aload_n (pc := 13) dX12_isReady_13 rfl ?_
      refine E_getR (pc := 14) dX12_isReady_14 fl_X12_40 hf (fun v9 hf => ?_)
      refine E_iload_n (pc := 17) dX12_isReady_17 rfl ?_
      refine E_iald (pc := 18) dX12_isReady_18 hf (fun v10 hf => ?_)
      refine E_iload_n (pc := 19) dX12_isReady_19 rfl ?_
      refine E_icmp_ne (pc := 20) (tgt := 41) dX12_isReady_20 (by decide) hf (fun hf => ?_) (fun hf => ?_)
      · refine E_aload_n (pc := 23) dX12_isReady_23 rfl ?_
        refine E_getR (pc := 24) dX12_isReady_24 fl_X12_164 hf (fun v11 hf => ?_)
        refine E_aload_n (pc := 27) dX12_isReady_27 rfl ?_
        refine E_getR (pc := 28) dX12_isReady_28 fl_X12_43 hf (fun v12 hf => ?_)
        refine E_iload_n (pc := 31) dX12_isReady_31 rfl ?_
        refine E_iald (pc := 32) dX12_isReady_32 hf (fun v13 hf => ?_)
        refine E_iald (pc := 33) dX12_isReady_33 hf (fun v14 hf => ?_)
        refine E_bipush (pc := 34) (v := (-2 : Int32)) dX12_isReady_34 (by decide) ?_
        refine E_icmp_ne (pc := 36) (tgt := 41) dX12_isReady_36 (by decide) hf (fun hf => ?_) (fun hf => ?_)
        · refine Ev.sub [] rfl ?_
          exact hK39 _ hf
        · refine E_iinc (pc := 41) (ls' := fun x15 => [(2, .int x15), (0, .ref a4), (1, .int x5)]) dX12_isReady_41 rfl (by decide) (fun _ => rfl) hf (fun x15 hf => ?_)
          refine E_goto (pc := 44) (tgt := 2) dX12_isReady_44 (by decide) ?_
          refine Ev.sub [1, 2, 0] rfl ?_
          exact ih _ _ _ _ hf
      · refine E_iinc (pc := 41) (ls' := fun x16 => [(2, .int x16), (0, .ref a4), (1, .int x5)]) dX12_isReady_41 rfl (by decide) (fun _ => rfl) hf (fun x16 hf => ?_)
        refine E_goto (pc := 44) (tgt := 2) dX12_isReady_44 (by decide) ?_
        refine Ev.sub [1, 2, 0] rfl ?_
        exact ih _ _ _ _ hf
set_option maxRecDepth 100000 in
def f_X12_isReady (μ0 : Mm) (a1 : Nat) (x2 : Int32) : Option (Int32 × Mm) :=
 (nm (0 : Int32) fun x3 =>
    f_X12_isReady_L2 (fun μ17 =>
    (if (0 : Int32) = 0 ∨ (0 : Int32) = 1 then some ((0 : Int32), μ17) else none)) (fun μ18 =>
    (if (1 : Int32) = 0 ∨ (1 : Int32) = 1 then some ((1 : Int32), μ18) else none)) FU μ0 a1 x2 x3)
set_option maxHeartbeats 4000000 in
set_option maxRecDepth 100000 in
theorem f_X12_isReady_ok {l : Launch} {G : GG} {μ0 : Mm} {a1 : Nat} {x2 : Int32} {r : Int32} {μ' : Mm} (hf : f_X12_isReady μ0 a1 x2 = some (r, μ')) : EvM l G D_X12_isReady yX12_isReady cX12_isReady 3 (some .boolean) [.ref a1, .int x2] μ0 (some (.int r)) μ' := by
  show Ev l G D_X12_isReady yX12_isReady cX12_isReady 3 (some .boolean) 0 [(0, .ref a1), (1, .int x2)] [] μ0 (some (.int r)) μ'
  unfold f_X12_isReady at hf
  refine E_iconst (pc := 0) (v := (0 : Int32)) dX12_isReady_0 (by decide) ?_
  refine E_istore_n (pc := 1) (ls' := fun x3 => [(2, .int x3), (0, .ref a1), (1, .int x2)]) dX12_isReady_1 (by decide) (fun _ => rfl) hf (fun x3 hf => ?_)
  refine Ev.sub [1, 2, 0] rfl ?_
  refine f_X12_isReady_L2_ok  _ _ _ _ _ hf (fun μ17 hf => ?_) (fun μ18 hf => ?_)
  · refine E_iconst (pc := 39) (v := (0 : Int32)) dX12_isReady_39 (by decide) ?_
    exact E_zret (pc := 40) dX12_isReady_40 rfl hf
  · refine E_iconst (pc := 47) (v := (1 : Int32)) dX12_isReady_47 (by decide) ?_
    exact E_zret (pc := 48) dX12_isReady_48 rfl hf
theorem dX12_beginOf_0 : decode cX12_beginOf 0 = .ok (.iconst 0, 1) := by decide +kernel
theorem dX12_beginOf_1 : decode cX12_beginOf 1 = .ok (.istore_n 2, 1) := by decide +kernel
theorem dX12_beginOf_2 : decode cX12_beginOf 2 = .ok (.iconst 0, 1) := by decide +kernel
theorem dX12_beginOf_3 : decode cX12_beginOf 3 = .ok (.istore_n 3, 1) := by decide +kernel
theorem dX12_beginOf_4 : decode cX12_beginOf 4 = .ok (.iload_n 3, 1) := by decide +kernel
theorem dX12_beginOf_5 : decode cX12_beginOf 5 = .ok (.aload_n 0, 1) := by decide +kernel
theorem dX12_beginOf_6 : decode cX12_beginOf 6 = .ok (.getfield 9, 3) := by decide +kernel
theorem dX12_beginOf_9 : decode cX12_beginOf 9 = .ok (.bipush 6, 2) := by decide +kernel
theorem dX12_beginOf_11 : decode cX12_beginOf 11 = .ok (.iaload, 1) := by decide +kernel
theorem dX12_beginOf_12 : decode cX12_beginOf 12 = .ok (.if_icmp .ge 50, 3) := by decide +kernel
theorem dX12_beginOf_15 : decode cX12_beginOf 15 = .ok (.aload_n 0, 1) := by decide +kernel
theorem dX12_beginOf_16 : decode cX12_beginOf 16 = .ok (.getfield 40, 3) := by decide +kernel
theorem dX12_beginOf_19 : decode cX12_beginOf 19 = .ok (.iload_n 3, 1) := by decide +kernel
theorem dX12_beginOf_20 : decode cX12_beginOf 20 = .ok (.iaload, 1) := by decide +kernel
theorem dX12_beginOf_21 : decode cX12_beginOf 21 = .ok (.iload_n 1, 1) := by decide +kernel
theorem dX12_beginOf_22 : decode cX12_beginOf 22 = .ok (.if_icmp .ne 32, 3) := by decide +kernel
theorem dX12_beginOf_25 : decode cX12_beginOf 25 = .ok (.aload_n 0, 1) := by decide +kernel
theorem dX12_beginOf_26 : decode cX12_beginOf 26 = .ok (.getfield 164, 3) := by decide +kernel
theorem dX12_beginOf_29 : decode cX12_beginOf 29 = .ok (.aload_n 0, 1) := by decide +kernel
theorem dX12_beginOf_30 : decode cX12_beginOf 30 = .ok (.getfield 43, 3) := by decide +kernel
theorem dX12_beginOf_33 : decode cX12_beginOf 33 = .ok (.iload_n 3, 1) := by decide +kernel
theorem dX12_beginOf_34 : decode cX12_beginOf 34 = .ok (.iaload, 1) := by decide +kernel
theorem dX12_beginOf_35 : decode cX12_beginOf 35 = .ok (.iaload, 1) := by decide +kernel
theorem dX12_beginOf_36 : decode cX12_beginOf 36 = .ok (.iload_n 2, 1) := by decide +kernel
theorem dX12_beginOf_37 : decode cX12_beginOf 37 = .ok (.if_icmp .le 17, 3) := by decide +kernel
theorem dX12_beginOf_40 : decode cX12_beginOf 40 = .ok (.aload_n 0, 1) := by decide +kernel
theorem dX12_beginOf_41 : decode cX12_beginOf 41 = .ok (.getfield 164, 3) := by decide +kernel
theorem dX12_beginOf_44 : decode cX12_beginOf 44 = .ok (.aload_n 0, 1) := by decide +kernel
theorem dX12_beginOf_45 : decode cX12_beginOf 45 = .ok (.getfield 43, 3) := by decide +kernel
theorem dX12_beginOf_48 : decode cX12_beginOf 48 = .ok (.iload_n 3, 1) := by decide +kernel
theorem dX12_beginOf_49 : decode cX12_beginOf 49 = .ok (.iaload, 1) := by decide +kernel
theorem dX12_beginOf_50 : decode cX12_beginOf 50 = .ok (.iaload, 1) := by decide +kernel
theorem dX12_beginOf_51 : decode cX12_beginOf 51 = .ok (.goto 4, 3) := by decide +kernel
theorem dX12_beginOf_54 : decode cX12_beginOf 54 = .ok (.iload_n 2, 1) := by decide +kernel
theorem dX12_beginOf_55 : decode cX12_beginOf 55 = .ok (.istore_n 2, 1) := by decide +kernel
theorem dX12_beginOf_56 : decode cX12_beginOf 56 = .ok (.iinc 3 1, 3) := by decide +kernel
theorem dX12_beginOf_59 : decode cX12_beginOf 59 = .ok (.goto (-55), 3) := by decide +kernel
theorem dX12_beginOf_62 : decode cX12_beginOf 62 = .ok (.iload_n 2, 1) := by decide +kernel
theorem dX12_beginOf_63 : decode cX12_beginOf 63 = .ok (.ireturn, 1) := by decide +kernel
abbrev D_X12_beginOf : Nat := 1
def f_X12_beginOf_L4 (K62 : Mm → Int32 → Option (Int32 × Mm)) : Nat → Mm → Nat → Int32 → Int32 → Int32 → Option (Int32 × Mm)
  | 0, _, _, _, _, _ => none
  | n + 1, μ0, a5, x6, x7, x8 =>
    ((gR μ0 a5 12 1).bind fun v9 =>
    ((aI μ0 v9 0 (6 : Int32)).bind fun v10 =>
    (if v10 ≤ x8 then
    K62 μ0 x7
    else
    ((gR μ0 a5 12 11).bind fun v11 =>
    ((aI μ0 v11 0 x8).bind fun v12 =>
    (if v12 = x6 then
    ((gR μ0 a5 12 70).bind fun v13 =>
    ((gR μ0 a5 12 12).bind fun v14 =>
    ((aI μ0 v14 0 x8).bind fun v15 =>
    ((aI μ0 v13 0 v15).bind fun v16 =>
    (if v16 ≤ x7 then
    (nm x7 fun x17 =>
    (nm (x8 + Int32.ofInt (1)) fun x18 =>
    f_X12_beginOf_L4 K62 n μ0 a5 x6 x17 x18))
    else
    ((gR μ0 a5 12 70).bind fun v19 =>
    ((gR μ0 a5 12 12).bind fun v20 =>
    ((aI μ0 v20 0 x8).bind fun v21 =>
    ((aI μ0 v19 0 v21).bind fun v22 =>
    (nm v22 fun x23 =>
    (nm (x8 + Int32.ofInt (1)) fun x24 =>
    f_X12_beginOf_L4 K62 n μ0 a5 x6 x23 x24)))))))))))
    else
    (nm x7 fun x25 =>
    (nm (x8 + Int32.ofInt (1)) fun x26 =>
    f_X12_beginOf_L4 K62 n μ0 a5 x6 x25 x26))))))))
set_option maxHeartbeats 4000000 in
set_option maxRecDepth 100000 in
theorem f_X12_beginOf_L4_ok {l : Launch} {G : GG} {K62 : Mm → Int32 → Option (Int32 × Mm)} {r : Int32} {μ' : Mm} (n : Nat) (μ0 : Mm) (a5 : Nat) (x6 : Int32) (x7 : Int32) (x8 : Int32) (hf : f_X12_beginOf_L4 K62 n μ0 a5 x6 x7 x8 = some (r, μ')) (hK62 : ∀ (μ1 : Mm) (y2 : Int32), K62 μ1 y2 = some (r, μ') → Ev l G D_X12_beginOf yX12_beginOf cX12_beginOf 4 (some .int) 62 [(2, .int y2)] [] μ1 (some (.int r)) μ') : Ev l G D_X12_beginOf yX12_beginOf cX12_beginOf 4 (some .int) 4 [(0, .ref a5), (1, .int x6), (2, .int x7), (3, .int x8)] [] μ0 (some (.int r)) μ' := by
  induction n generalizing μ0 a5 x6 x7 x8 with
  | zero => cases hf
  | succ n ih0 =>
    have ih : ∀ (μ0 : Mm) (a5 : Nat) (x6 : Int32) (x7 : Int32) (x8 : Int32), f_X12_beginOf_L4 K62 n μ0 a5 x6 x7 x8 = some (r, μ') → Ev l G D_X12_beginOf yX12_beginOf cX12_beginOf 4 (some .int) 4 [(0, .ref a5), (1, .int x6), (2, .int x7), (3, .int x8)] [] μ0 (some (.int r)) μ' := fun μ0 a5 x6 x7 x8 hf => ih0 μ0 a5 x6 x7 x8 hf
    rw [f_X12_beginOf_L4] at hf
    refine E_iload_n (pc := 4) dX12_beginOf_4 rfl ?_
    refine E_aload_n (pc := 5) dX12_beginOf_5 rfl ?_
    refine E_getR (pc := 6) dX12_beginOf_6 fl_X12_9 hf (fun v9 hf => ?_)
    refine E_bipush (pc := 9) (v := (6 : Int32)) dX12_beginOf_9 (by decide) ?_
    refine E_iald (pc := 11) dX12_beginOf_11 hf (fun v10 hf => ?_)
    refine E_icmp_ge (pc := 12) (tgt := 62) dX12_beginOf_12 (by decide) hf (fun hf => ?_) (fun hf => ?_)
    · refine Ev.sub [2] rfl ?_
      exact hK62 _ _ hf
    · refine E_aload_n (pc := 15) dX12_beginOf_15 rfl ?_
      refine E_getR (pc := 16) dX12_beginOf_16 fl_X12_40 hf (fun v11 hf => ?_)
      refine E_iload_n (pc := 19) dX12_beginOf_19 rfl ?_
      refine E_iald (pc := 20) dX12_beginOf_20 hf (fun v12 hf => ?_)
      refine E_iload_n (pc := 21) dX12_beginOf_21 rfl ?_
      refine E_icmp_ne (pc := 22) (tgt := 54) dX12_beginOf_22 (by decide) hf (fun hf => ?_) (fun hf => ?_)
      · refine E_aload_n (pc := 25) dX12_beginOf_25 rfl ?_
        refine E_getR (pc := 26) dX12_beginOf_26 fl_X12_164 hf (fun v13 hf => ?_)
        refine E_aload_n (pc := 29) dX12_beginOf_29 rfl ?_
        refine E_getR (pc := 30) dX12_beginOf_30 fl_X12_43 hf (fun v14 hf => ?_)
        refine E_iload_n (pc := 33) dX12_beginOf_33 rfl ?_
        refine E_iald (pc := 34) dX12_beginOf_34 hf (fun v15 hf => ?_)
        refine E_iald (pc := 35) dX12_beginOf_35 hf (fun v16 hf => ?_)
        refine E_iload_n (pc := 36) dX12_beginOf_36 rfl ?_
        refine E_icmp_le (pc := 37) (tgt := 54) dX12_beginOf_37 (by decide) hf (fun hf => ?_) (fun hf => ?_)
        · refine E_iload_n (pc := 54) dX12_beginOf_54 rfl ?_
          refine E_istore_n (pc := 55) (ls' := fun x17 => [(2, .int x17), (0, .ref a5), (1, .int x6), (3, .int x8)]) dX12_beginOf_55 (by decide) (fun _ => rfl) hf (fun x17 hf => ?_)
          refine E_iinc (pc := 56) (ls' := fun x18 => [(3, .int x18), (2, .int x17), (0, .ref a5), (1, .int x6)]) dX12_beginOf_56 rfl (by decide) (fun _ => rfl) hf (fun x18 hf => ?_)
          refine E_goto (pc := 59) (tgt := 4) dX12_beginOf_59 (by decide) ?_
          refine Ev.sub [2, 3, 1, 0] rfl ?_
          exact ih _ _ _ _ _ hf
        · refine E_aload_n (pc := 40) dX12_beginOf_40 rfl ?_
          refine E_getR (pc := 41) dX12_beginOf_41 fl_X12_164 hf (fun v19 hf => ?_)
          refine E_aload_n (pc := 44) dX12_beginOf_44 rfl ?_
          refine E_getR (pc := 45) dX12_beginOf_45 fl_X12_43 hf (fun v20 hf => ?_)
          refine E_iload_n (pc := 48) dX12_beginOf_48 rfl ?_
          refine E_iald (pc := 49) dX12_beginOf_49 hf (fun v21 hf => ?_)
          refine E_iald (pc := 50) dX12_beginOf_50 hf (fun v22 hf => ?_)
          refine E_goto (pc := 51) (tgt := 55) dX12_beginOf_51 (by decide) ?_
          refine E_istore_n (pc := 55) (ls' := fun x23 => [(2, .int x23), (0, .ref a5), (1, .int x6), (3, .int x8)]) dX12_beginOf_55 (by decide) (fun _ => rfl) hf (fun x23 hf => ?_)
          refine E_iinc (pc := 56) (ls' := fun x24 => [(3, .int x24), (2, .int x23), (0, .ref a5), (1, .int x6)]) dX12_beginOf_56 rfl (by decide) (fun _ => rfl) hf (fun x24 hf => ?_)
          refine E_goto (pc := 59) (tgt := 4) dX12_beginOf_59 (by decide) ?_
          refine Ev.sub [2, 3, 1, 0] rfl ?_
          exact ih _ _ _ _ _ hf
      · refine E_iload_n (pc := 54) dX12_beginOf_54 rfl ?_
        refine E_istore_n (pc := 55) (ls' := fun x25 => [(2, .int x25), (0, .ref a5), (1, .int x6), (3, .int x8)]) dX12_beginOf_55 (by decide) (fun _ => rfl) hf (fun x25 hf => ?_)
        refine E_iinc (pc := 56) (ls' := fun x26 => [(3, .int x26), (2, .int x25), (0, .ref a5), (1, .int x6)]) dX12_beginOf_56 rfl (by decide) (fun _ => rfl) hf (fun x26 hf => ?_)
        refine E_goto (pc := 59) (tgt := 4) dX12_beginOf_59 (by decide) ?_
        refine Ev.sub [2, 3, 1, 0] rfl ?_
        exact ih _ _ _ _ _ hf
set_option maxRecDepth 100000 in
def f_X12_beginOf (μ0 : Mm) (a1 : Nat) (x2 : Int32) : Option (Int32 × Mm) :=
 (nm (0 : Int32) fun x3 =>
    (nm (0 : Int32) fun x4 =>
    f_X12_beginOf_L4 (fun μ27 x28 =>
    (some (x28, μ27))) FU μ0 a1 x2 x3 x4))
set_option maxHeartbeats 4000000 in
set_option maxRecDepth 100000 in
theorem f_X12_beginOf_ok {l : Launch} {G : GG} {μ0 : Mm} {a1 : Nat} {x2 : Int32} {r : Int32} {μ' : Mm} (hf : f_X12_beginOf μ0 a1 x2 = some (r, μ')) : EvM l G D_X12_beginOf yX12_beginOf cX12_beginOf 4 (some .int) [.ref a1, .int x2] μ0 (some (.int r)) μ' := by
  show Ev l G D_X12_beginOf yX12_beginOf cX12_beginOf 4 (some .int) 0 [(0, .ref a1), (1, .int x2)] [] μ0 (some (.int r)) μ'
  unfold f_X12_beginOf at hf
  refine E_iconst (pc := 0) (v := (0 : Int32)) dX12_beginOf_0 (by decide) ?_
  refine E_istore_n (pc := 1) (ls' := fun x3 => [(2, .int x3), (0, .ref a1), (1, .int x2)]) dX12_beginOf_1 (by decide) (fun _ => rfl) hf (fun x3 hf => ?_)
  refine E_iconst (pc := 2) (v := (0 : Int32)) dX12_beginOf_2 (by decide) ?_
  refine E_istore_n (pc := 3) (ls' := fun x4 => [(3, .int x4), (2, .int x3), (0, .ref a1), (1, .int x2)]) dX12_beginOf_3 (by decide) (fun _ => rfl) hf (fun x4 hf => ?_)
  refine Ev.sub [2, 3, 1, 0] rfl ?_
  refine f_X12_beginOf_L4_ok  _ _ _ _ _ _ hf (fun μ27 x28 hf => ?_)
  · refine E_iload_n (pc := 62) dX12_beginOf_62 rfl ?_
    exact E_iret (pc := 63) dX12_beginOf_63 rfl hf
theorem dX12_laysLessons_0 : decode cX12_laysLessons 0 = .ok (.iconst 0, 1) := by decide +kernel
theorem dX12_laysLessons_1 : decode cX12_laysLessons 1 = .ok (.istore_n 1, 1) := by decide +kernel
theorem dX12_laysLessons_2 : decode cX12_laysLessons 2 = .ok (.iload_n 1, 1) := by decide +kernel
theorem dX12_laysLessons_3 : decode cX12_laysLessons 3 = .ok (.bipush 8, 2) := by decide +kernel
theorem dX12_laysLessons_5 : decode cX12_laysLessons 5 = .ok (.if_icmp .ge 17, 3) := by decide +kernel
theorem dX12_laysLessons_8 : decode cX12_laysLessons 8 = .ok (.aload_n 0, 1) := by decide +kernel
theorem dX12_laysLessons_9 : decode cX12_laysLessons 9 = .ok (.getfield 164, 3) := by decide +kernel
theorem dX12_laysLessons_12 : decode cX12_laysLessons 12 = .ok (.iload_n 1, 1) := by decide +kernel
theorem dX12_laysLessons_13 : decode cX12_laysLessons 13 = .ok (.bipush (-2), 2) := by decide +kernel
theorem dX12_laysLessons_15 : decode cX12_laysLessons 15 = .ok (.iastore, 1) := by decide +kernel
theorem dX12_laysLessons_16 : decode cX12_laysLessons 16 = .ok (.iinc 1 1, 3) := by decide +kernel
theorem dX12_laysLessons_19 : decode cX12_laysLessons 19 = .ok (.goto (-17), 3) := by decide +kernel
theorem dX12_laysLessons_22 : decode cX12_laysLessons 22 = .ok (.aload_n 0, 1) := by decide +kernel
theorem dX12_laysLessons_23 : decode cX12_laysLessons 23 = .ok (.iconst 0, 1) := by decide +kernel
theorem dX12_laysLessons_24 : decode cX12_laysLessons 24 = .ok (.putfield 557, 3) := by decide +kernel
theorem dX12_laysLessons_27 : decode cX12_laysLessons 27 = .ok (.iconst 1, 1) := by decide +kernel
theorem dX12_laysLessons_28 : decode cX12_laysLessons 28 = .ok (.istore_n 1, 1) := by decide +kernel
theorem dX12_laysLessons_29 : decode cX12_laysLessons 29 = .ok (.iload_n 1, 1) := by decide +kernel
theorem dX12_laysLessons_30 : decode cX12_laysLessons 30 = .ok (.ifCond .eq 105, 3) := by decide +kernel
theorem dX12_laysLessons_33 : decode cX12_laysLessons 33 = .ok (.iconst (-1), 1) := by decide +kernel
theorem dX12_laysLessons_34 : decode cX12_laysLessons 34 = .ok (.istore_n 2, 1) := by decide +kernel
theorem dX12_laysLessons_35 : decode cX12_laysLessons 35 = .ok (.aload_n 0, 1) := by decide +kernel
theorem dX12_laysLessons_36 : decode cX12_laysLessons 36 = .ok (.getfield 9, 3) := by decide +kernel
theorem dX12_laysLessons_39 : decode cX12_laysLessons 39 = .ok (.iconst 5, 1) := by decide +kernel
theorem dX12_laysLessons_40 : decode cX12_laysLessons 40 = .ok (.iaload, 1) := by decide +kernel
theorem dX12_laysLessons_41 : decode cX12_laysLessons 41 = .ok (.iconst 1, 1) := by decide +kernel
theorem dX12_laysLessons_42 : decode cX12_laysLessons 42 = .ok (.isub, 1) := by decide +kernel
theorem dX12_laysLessons_43 : decode cX12_laysLessons 43 = .ok (.istore_n 3, 1) := by decide +kernel
theorem dX12_laysLessons_44 : decode cX12_laysLessons 44 = .ok (.iload_n 3, 1) := by decide +kernel
theorem dX12_laysLessons_45 : decode cX12_laysLessons 45 = .ok (.ifCond .lt 34, 3) := by decide +kernel
theorem dX12_laysLessons_48 : decode cX12_laysLessons 48 = .ok (.aload_n 0, 1) := by decide +kernel
theorem dX12_laysLessons_49 : decode cX12_laysLessons 49 = .ok (.getfield 164, 3) := by decide +kernel
theorem dX12_laysLessons_52 : decode cX12_laysLessons 52 = .ok (.iload_n 3, 1) := by decide +kernel
theorem dX12_laysLessons_53 : decode cX12_laysLessons 53 = .ok (.iaload, 1) := by decide +kernel
theorem dX12_laysLessons_54 : decode cX12_laysLessons 54 = .ok (.bipush (-2), 2) := by decide +kernel
theorem dX12_laysLessons_56 : decode cX12_laysLessons 56 = .ok (.if_icmp .ne 15, 3) := by decide +kernel
theorem dX12_laysLessons_59 : decode cX12_laysLessons 59 = .ok (.aload_n 0, 1) := by decide +kernel
theorem dX12_laysLessons_60 : decode cX12_laysLessons 60 = .ok (.iload_n 3, 1) := by decide +kernel
theorem dX12_laysLessons_61 : decode cX12_laysLessons 61 = .ok (.invokevirtual 560, 3) := by decide +kernel
theorem dX12_laysLessons_64 : decode cX12_laysLessons 64 = .ok (.ifCond .eq 7, 3) := by decide +kernel
theorem dX12_laysLessons_67 : decode cX12_laysLessons 67 = .ok (.iload_n 3, 1) := by decide +kernel
theorem dX12_laysLessons_68 : decode cX12_laysLessons 68 = .ok (.goto 4, 3) := by decide +kernel
theorem dX12_laysLessons_71 : decode cX12_laysLessons 71 = .ok (.iload_n 2, 1) := by decide +kernel
theorem dX12_laysLessons_72 : decode cX12_laysLessons 72 = .ok (.istore_n 2, 1) := by decide +kernel
theorem dX12_laysLessons_73 : decode cX12_laysLessons 73 = .ok (.iinc 3 (-1), 3) := by decide +kernel
theorem dX12_laysLessons_76 : decode cX12_laysLessons 76 = .ok (.goto (-32), 3) := by decide +kernel
theorem dX12_laysLessons_79 : decode cX12_laysLessons 79 = .ok (.iload_n 2, 1) := by decide +kernel
theorem dX12_laysLessons_80 : decode cX12_laysLessons 80 = .ok (.iconst (-1), 1) := by decide +kernel
theorem dX12_laysLessons_81 : decode cX12_laysLessons 81 = .ok (.if_icmp .eq 7, 3) := by decide +kernel
theorem dX12_laysLessons_84 : decode cX12_laysLessons 84 = .ok (.iconst 1, 1) := by decide +kernel
theorem dX12_laysLessons_85 : decode cX12_laysLessons 85 = .ok (.goto 4, 3) := by decide +kernel
theorem dX12_laysLessons_88 : decode cX12_laysLessons 88 = .ok (.iconst 0, 1) := by decide +kernel
theorem dX12_laysLessons_89 : decode cX12_laysLessons 89 = .ok (.istore_n 1, 1) := by decide +kernel
theorem dX12_laysLessons_90 : decode cX12_laysLessons 90 = .ok (.iload_n 1, 1) := by decide +kernel
theorem dX12_laysLessons_91 : decode cX12_laysLessons 91 = .ok (.ifCond .eq 41, 3) := by decide +kernel
theorem dX12_laysLessons_94 : decode cX12_laysLessons 94 = .ok (.aload_n 0, 1) := by decide +kernel
theorem dX12_laysLessons_95 : decode cX12_laysLessons 95 = .ok (.getfield 164, 3) := by decide +kernel
theorem dX12_laysLessons_98 : decode cX12_laysLessons 98 = .ok (.iload_n 2, 1) := by decide +kernel
theorem dX12_laysLessons_99 : decode cX12_laysLessons 99 = .ok (.aload_n 0, 1) := by decide +kernel
theorem dX12_laysLessons_100 : decode cX12_laysLessons 100 = .ok (.iload_n 2, 1) := by decide +kernel
theorem dX12_laysLessons_101 : decode cX12_laysLessons 101 = .ok (.invokevirtual 563, 3) := by decide +kernel
theorem dX12_laysLessons_104 : decode cX12_laysLessons 104 = .ok (.aload_n 0, 1) := by decide +kernel
theorem dX12_laysLessons_105 : decode cX12_laysLessons 105 = .ok (.getfield 37, 3) := by decide +kernel
theorem dX12_laysLessons_108 : decode cX12_laysLessons 108 = .ok (.iload_n 2, 1) := by decide +kernel
theorem dX12_laysLessons_109 : decode cX12_laysLessons 109 = .ok (.iaload, 1) := by decide +kernel
theorem dX12_laysLessons_110 : decode cX12_laysLessons 110 = .ok (.iadd, 1) := by decide +kernel
theorem dX12_laysLessons_111 : decode cX12_laysLessons 111 = .ok (.iastore, 1) := by decide +kernel
theorem dX12_laysLessons_112 : decode cX12_laysLessons 112 = .ok (.aload_n 0, 1) := by decide +kernel
theorem dX12_laysLessons_113 : decode cX12_laysLessons 113 = .ok (.getfield 167, 3) := by decide +kernel
theorem dX12_laysLessons_116 : decode cX12_laysLessons 116 = .ok (.aload_n 0, 1) := by decide +kernel
theorem dX12_laysLessons_117 : decode cX12_laysLessons 117 = .ok (.getfield 557, 3) := by decide +kernel
theorem dX12_laysLessons_120 : decode cX12_laysLessons 120 = .ok (.iload_n 2, 1) := by decide +kernel
theorem dX12_laysLessons_121 : decode cX12_laysLessons 121 = .ok (.iastore, 1) := by decide +kernel
theorem dX12_laysLessons_122 : decode cX12_laysLessons 122 = .ok (.aload_n 0, 1) := by decide +kernel
theorem dX12_laysLessons_123 : decode cX12_laysLessons 123 = .ok (.dup, 1) := by decide +kernel
theorem dX12_laysLessons_124 : decode cX12_laysLessons 124 = .ok (.getfield 557, 3) := by decide +kernel
theorem dX12_laysLessons_127 : decode cX12_laysLessons 127 = .ok (.iconst 1, 1) := by decide +kernel
theorem dX12_laysLessons_128 : decode cX12_laysLessons 128 = .ok (.iadd, 1) := by decide +kernel
theorem dX12_laysLessons_129 : decode cX12_laysLessons 129 = .ok (.putfield 557, 3) := by decide +kernel
theorem dX12_laysLessons_132 : decode cX12_laysLessons 132 = .ok (.goto (-103), 3) := by decide +kernel
theorem dX12_laysLessons_135 : decode cX12_laysLessons 135 = .ok (.return_, 1) := by decide +kernel
abbrev D_X12_laysLessons : Nat := 2
def f_X12_laysLessons_L2 (K22 : Mm → Nat → Option Mm) : Nat → Mm → Nat → Int32 → Option Mm
  | 0, _, _, _ => none
  | n + 1, μ0, a3, x4 =>
    (if (8 : Int32) ≤ x4 then
    K22 μ0 a3
    else
    ((gR μ0 a3 12 70).bind fun v5 =>
    ((sI μ0 v5 0 x4 (-2 : Int32)).bind fun μ6 =>
    (nm (x4 + Int32.ofInt (1)) fun x7 =>
    f_X12_laysLessons_L2 K22 n μ6 a3 x7))))
set_option maxHeartbeats 4000000 in
set_option maxRecDepth 100000 in
theorem f_X12_laysLessons_L2_ok {l : Launch} {G : GG} {K22 : Mm → Nat → Option Mm} {μ' : Mm} (n : Nat) (μ0 : Mm) (a3 : Nat) (x4 : Int32) (hf : f_X12_laysLessons_L2 K22 n μ0 a3 x4 = some μ') (hK22 : ∀ (μ1 : Mm) (y0 : Nat), K22 μ1 y0 = some μ' → Ev l G D_X12_laysLessons yX12_laysLessons cX12_laysLessons 4 none 22 [(0, .ref y0)] [] μ1 none μ') : Ev l G D_X12_laysLessons yX12_laysLessons cX12_laysLessons 4 none 2 [(0, .ref a3), (1, .int x4)] [] μ0 none μ' := by
  induction n generalizing μ0 a3 x4 with
  | zero => cases hf
  | succ n ih0 =>
    have ih : ∀ (μ0 : Mm) (a3 : Nat) (x4 : Int32), f_X12_laysLessons_L2 K22 n μ0 a3 x4 = some μ' → Ev l G D_X12_laysLessons yX12_laysLessons cX12_laysLessons 4 none 2 [(0, .ref a3), (1, .int x4)] [] μ0 none μ' := fun μ0 a3 x4 hf => ih0 μ0 a3 x4 hf
    rw [f_X12_laysLessons_L2] at hf
    refine E_iload_n (pc := 2) dX12_laysLessons_2 rfl ?_
    refine E_bipush (pc := 3) (v := (8 : Int32)) dX12_laysLessons_3 (by decide) ?_
    refine E_icmp_ge (pc := 5) (tgt := 22) dX12_laysLessons_5 (by decide) hf (fun hf => ?_) (fun hf => ?_)
    · refine Ev.sub [0] rfl ?_
      exact hK22 _ _ hf
    · refine E_aload_n (pc := 8) dX12_laysLessons_8 rfl ?_
      refine E_getR (pc := 9) dX12_laysLessons_9 fl_X12_164 hf (fun v5 hf => ?_)
      refine E_iload_n (pc := 12) dX12_laysLessons_12 rfl ?_
      refine E_bipush (pc := 13) (v := (-2 : Int32)) dX12_laysLessons_13 (by decide) ?_
      refine E_iast (pc := 15) dX12_laysLessons_15 hf (fun μ6 hf => ?_)
      refine E_iinc (pc := 16) (ls' := fun x7 => [(1, .int x7), (0, .ref a3)]) dX12_laysLessons_16 rfl (by decide) (fun _ => rfl) hf (fun x7 hf => ?_)
      refine E_goto (pc := 19) (tgt := 2) dX12_laysLessons_19 (by decide) ?_
      refine Ev.sub [1, 0] rfl ?_
      exact ih _ _ _ hf
def f_X12_laysLessons_L44 (K79 : Mm → Nat → Int32 → Option Mm) : Nat → Mm → Nat → Int32 → Int32 → Option Mm
  | 0, _, _, _, _ => none
  | n + 1, μ0, a18, x19, x20 =>
    (if x20 < 0 then
    K79 μ0 a18 x19
    else
    ((gR μ0 a18 12 70).bind fun v21 =>
    ((aI μ0 v21 0 x20).bind fun v22 =>
    (if v22 = (-2 : Int32) then
    ((ob μ0 a18 12).bind fun _ =>
    (bd (f_X12_isReady μ0 a18 x20) fun v24 μ23 =>
    (if v24 = 0 then
    (nm x19 fun x25 =>
    (nm (x20 + Int32.ofInt (-1)) fun x26 =>
    f_X12_laysLessons_L44 K79 n μ23 a18 x25 x26))
    else
    (nm x20 fun x27 =>
    (nm (x20 + Int32.ofInt (-1)) fun x28 =>
    f_X12_laysLessons_L44 K79 n μ23 a18 x27 x28)))))
    else
    (nm x19 fun x29 =>
    (nm (x20 + Int32.ofInt (-1)) fun x30 =>
    f_X12_laysLessons_L44 K79 n μ0 a18 x29 x30))))))
set_option maxHeartbeats 4000000 in
set_option maxRecDepth 100000 in
theorem f_X12_laysLessons_L44_ok {l : Launch} {G : GG} {K79 : Mm → Nat → Int32 → Option Mm} {μ' : Mm} (n : Nat) (μ0 : Mm) (a18 : Nat) (x19 : Int32) (x20 : Int32) (hf : f_X12_laysLessons_L44 K79 n μ0 a18 x19 x20 = some μ') (hK79 : ∀ (μ1 : Mm) (y0 : Nat) (y2 : Int32), K79 μ1 y0 y2 = some μ' → Ev l G D_X12_laysLessons yX12_laysLessons cX12_laysLessons 4 none 79 [(0, .ref y0), (2, .int y2)] [] μ1 none μ') : Ev l G D_X12_laysLessons yX12_laysLessons cX12_laysLessons 4 none 44 [(0, .ref a18), (2, .int x19), (3, .int x20)] [] μ0 none μ' := by
  induction n generalizing μ0 a18 x19 x20 with
  | zero => cases hf
  | succ n ih0 =>
    have ih : ∀ (μ0 : Mm) (a18 : Nat) (x19 : Int32) (x20 : Int32), f_X12_laysLessons_L44 K79 n μ0 a18 x19 x20 = some μ' → Ev l G D_X12_laysLessons yX12_laysLessons cX12_laysLessons 4 none 44 [(0, .ref a18), (2, .int x19), (3, .int x20)] [] μ0 none μ' := fun μ0 a18 x19 x20 hf => ih0 μ0 a18 x19 x20 hf
    rw [f_X12_laysLessons_L44] at hf
    refine E_iload_n (pc := 44) dX12_laysLessons_44 rfl ?_
    refine E_if_lt (pc := 45) (tgt := 79) dX12_laysLessons_45 (by decide) hf (fun hf => ?_) (fun hf => ?_)
    · refine Ev.sub [0, 1] rfl ?_
      exact hK79 _ _ _ hf
    · refine E_aload_n (pc := 48) dX12_laysLessons_48 rfl ?_
      refine E_getR (pc := 49) dX12_laysLessons_49 fl_X12_164 hf (fun v21 hf => ?_)
      refine E_iload_n (pc := 52) dX12_laysLessons_52 rfl ?_
      refine E_iald (pc := 53) dX12_laysLessons_53 hf (fun v22 hf => ?_)
      refine E_bipush (pc := 54) (v := (-2 : Int32)) dX12_laysLessons_54 (by decide) ?_
      refine E_icmp_ne (pc := 56) (tgt := 71) dX12_laysLessons_56 (by decide) hf (fun hf => ?_) (fun hf => ?_)
      · refine E_aload_n (pc := 59) dX12_laysLessons_59 rfl ?_
        refine E_iload_n (pc := 60) dX12_laysLessons_60 rfl ?_
        refine E_Vi (pc := 61) (d2 := D_X12_isReady) (ci := 12) [.int x20] dX12_laysLessons_61 ml_X12_560 mf_X12_isReady im_X12_isReady rfl rfl rfl (by decide) (Nat.le_of_ble_eq_true rfl) (Nat.le_of_ble_eq_true rfl) rfl (fun _ _ h => f_X12_isReady_ok h) hf (fun v24 μ23 hf => ?_)
        refine E_if_eq (pc := 64) (tgt := 71) dX12_laysLessons_64 (by decide) hf (fun hf => ?_) (fun hf => ?_)
        · refine E_iload_n (pc := 71) dX12_laysLessons_71 rfl ?_
          refine E_istore_n (pc := 72) (ls' := fun x25 => [(2, .int x25), (0, .ref a18), (3, .int x20)]) dX12_laysLessons_72 (by decide) (fun _ => rfl) hf (fun x25 hf => ?_)
          refine E_iinc (pc := 73) (ls' := fun x26 => [(3, .int x26), (2, .int x25), (0, .ref a18)]) dX12_laysLessons_73 rfl (by decide) (fun _ => rfl) hf (fun x26 hf => ?_)
          refine E_goto (pc := 76) (tgt := 44) dX12_laysLessons_76 (by decide) ?_
          refine Ev.sub [2, 1, 0] rfl ?_
          exact ih _ _ _ _ hf
        · refine E_iload_n (pc := 67) dX12_laysLessons_67 rfl ?_
          refine E_goto (pc := 68) (tgt := 72) dX12_laysLessons_68 (by decide) ?_
          refine E_istore_n (pc := 72) (ls' := fun x27 => [(2, .int x27), (0, .ref a18), (3, .int x20)]) dX12_laysLessons_72 (by decide) (fun _ => rfl) hf (fun x27 hf => ?_)
          refine E_iinc (pc := 73) (ls' := fun x28 => [(3, .int x28), (2, .int x27), (0, .ref a18)]) dX12_laysLessons_73 rfl (by decide) (fun _ => rfl) hf (fun x28 hf => ?_)
          refine E_goto (pc := 76) (tgt := 44) dX12_laysLessons_76 (by decide) ?_
          refine Ev.sub [2, 1, 0] rfl ?_
          exact ih _ _ _ _ hf
      · refine E_iload_n (pc := 71) dX12_laysLessons_71 rfl ?_
        refine E_istore_n (pc := 72) (ls' := fun x29 => [(2, .int x29), (0, .ref a18), (3, .int x20)]) dX12_laysLessons_72 (by decide) (fun _ => rfl) hf (fun x29 hf => ?_)
        refine E_iinc (pc := 73) (ls' := fun x30 => [(3, .int x30), (2, .int x29), (0, .ref a18)]) dX12_laysLessons_73 rfl (by decide) (fun _ => rfl) hf (fun x30 hf => ?_)
        refine E_goto (pc := 76) (tgt := 44) dX12_laysLessons_76 (by decide) ?_
        refine Ev.sub [2, 1, 0] rfl ?_
        exact ih _ _ _ _ hf
def f_X12_laysLessons_L29 (K135 : Mm → Option Mm) : Nat → Mm → Nat → Int32 → Option Mm
  | 0, _, _, _ => none
  | n + 1, μ0, a12, x13 =>
    (if x13 = 0 then
    K135 μ0
    else
    (nm (-1 : Int32) fun x14 =>
    ((gR μ0 a12 12 1).bind fun v15 =>
    ((aI μ0 v15 0 (5 : Int32)).bind fun v16 =>
    (nm (v16 - (1 : Int32)) fun x17 =>
    f_X12_laysLessons_L44 (fun μ31 a32 x33 =>
    (if x33 = (-1 : Int32) then
    (nm (0 : Int32) fun x34 =>
    (if x34 = 0 then
    f_X12_laysLessons_L29 K135 n μ31 a32 x34
    else
    ((gR μ31 a32 12 70).bind fun v35 =>
    ((ob μ31 a32 12).bind fun _ =>
    (bd (f_X12_beginOf μ31 a32 x33) fun v37 μ36 =>
    ((gR μ36 a32 12 10).bind fun v38 =>
    ((aI μ36 v38 0 x33).bind fun v39 =>
    ((sI μ36 v35 0 x33 (v37 + v39)).bind fun μ40 =>
    ((gR μ40 a32 12 71).bind fun v41 =>
    ((gI μ40 a32 12 72).bind fun v42 =>
    ((sI μ40 v41 0 v42 x33).bind fun μ43 =>
    ((gI μ43 a32 12 72).bind fun v44 =>
    ((pV μ43 a32 12 72 (.int (v44 + (1 : Int32)))).bind fun μ45 =>
    f_X12_laysLessons_L29 K135 n μ45 a32 x34)))))))))))))
    else
    (nm (1 : Int32) fun x46 =>
    (if x46 = 0 then
    f_X12_laysLessons_L29 K135 n μ31 a32 x46
    else
    ((gR μ31 a32 12 70).bind fun v47 =>
    ((ob μ31 a32 12).bind fun _ =>
    (bd (f_X12_beginOf μ31 a32 x33) fun v49 μ48 =>
    ((gR μ48 a32 12 10).bind fun v50 =>
    ((aI μ48 v50 0 x33).bind fun v51 =>
    ((sI μ48 v47 0 x33 (v49 + v51)).bind fun μ52 =>
    ((gR μ52 a32 12 71).bind fun v53 =>
    ((gI μ52 a32 12 72).bind fun v54 =>
    ((sI μ52 v53 0 v54 x33).bind fun μ55 =>
    ((gI μ55 a32 12 72).bind fun v56 =>
    ((pV μ55 a32 12 72 (.int (v56 + (1 : Int32)))).bind fun μ57 =>
    f_X12_laysLessons_L29 K135 n μ57 a32 x46))))))))))))))) FU μ0 a12 x14 x17)))))
set_option maxHeartbeats 4000000 in
set_option maxRecDepth 100000 in
theorem f_X12_laysLessons_L29_ok {l : Launch} {G : GG} {K135 : Mm → Option Mm} {μ' : Mm} (n : Nat) (μ0 : Mm) (a12 : Nat) (x13 : Int32) (hf : f_X12_laysLessons_L29 K135 n μ0 a12 x13 = some μ') (hK135 : ∀ (μ1 : Mm), K135 μ1  = some μ' → Ev l G D_X12_laysLessons yX12_laysLessons cX12_laysLessons 4 none 135 [] [] μ1 none μ') : Ev l G D_X12_laysLessons yX12_laysLessons cX12_laysLessons 4 none 29 [(0, .ref a12), (1, .int x13)] [] μ0 none μ' := by
  induction n generalizing μ0 a12 x13 with
  | zero => cases hf
  | succ n ih0 =>
    have ih : ∀ (μ0 : Mm) (a12 : Nat) (x13 : Int32), f_X12_laysLessons_L29 K135 n μ0 a12 x13 = some μ' → Ev l G D_X12_laysLessons yX12_laysLessons cX12_laysLessons 4 none 29 [(0, .ref a12), (1, .int x13)] [] μ0 none μ' := fun μ0 a12 x13 hf => ih0 μ0 a12 x13 hf
    rw [f_X12_laysLessons_L29] at hf
    refine E_iload_n (pc := 29) dX12_laysLessons_29 rfl ?_
    refine E_if_eq (pc := 30) (tgt := 135) dX12_laysLessons_30 (by decide) hf (fun hf => ?_) (fun hf => ?_)
    · refine Ev.sub [] rfl ?_
      exact hK135 _ hf
    · refine E_iconst (pc := 33) (v := (-1 : Int32)) dX12_laysLessons_33 (by decide) ?_
      refine E_istore_n (pc := 34) (ls' := fun x14 => [(2, .int x14), (0, .ref a12), (1, .int x13)]) dX12_laysLessons_34 (by decide) (fun _ => rfl) hf (fun x14 hf => ?_)
      refine E_aload_n (pc := 35) dX12_laysLessons_35 rfl ?_
      refine E_getR (pc := 36) dX12_laysLessons_36 fl_X12_9 hf (fun v15 hf => ?_)
      refine E_iconst (pc := 39) (v := (5 : Int32)) dX12_laysLessons_39 (by decide) ?_
      refine E_iald (pc := 40) dX12_laysLessons_40 hf (fun v16 hf => ?_)
      refine E_iconst (pc := 41) (v := (1 : Int32)) dX12_laysLessons_41 (by decide) ?_
      refine E_isub (pc := 42) dX12_laysLessons_42 ?_
      refine E_istore_n (pc := 43) (ls' := fun x17 => [(3, .int x17), (2, .int x14), (0, .ref a12), (1, .int x13)]) dX12_laysLessons_43 (by decide) (fun _ => rfl) hf (fun x17 hf => ?_)
      refine Ev.sub [2, 1, 0] rfl ?_
      refine f_X12_laysLessons_L44_ok  _ _ _ _ _ hf (fun μ31 a32 x33 hf => ?_)
      · refine E_iload_n (pc := 79) dX12_laysLessons_79 rfl ?_
        refine E_iconst (pc := 80) (v := (-1 : Int32)) dX12_laysLessons_80 (by decide) ?_
        refine E_icmp_eq (pc := 81) (tgt := 88) dX12_laysLessons_81 (by decide) hf (fun hf => ?_) (fun hf => ?_)
        · refine E_iconst (pc := 88) (v := (0 : Int32)) dX12_laysLessons_88 (by decide) ?_
          refine E_istore_n (pc := 89) (ls' := fun x34 => [(1, .int x34), (0, .ref a32), (2, .int x33)]) dX12_laysLessons_89 (by decide) (fun _ => rfl) hf (fun x34 hf => ?_)
          refine E_iload_n (pc := 90) dX12_laysLessons_90 rfl ?_
          refine E_if_eq (pc := 91) (tgt := 132) dX12_laysLessons_91 (by decide) hf (fun hf => ?_) (fun hf => ?_)
          · refine E_goto (pc := 132) (tgt := 29) dX12_laysLessons_132 (by decide) ?_
            refine Ev.sub [1, 0] rfl ?_
            exact ih _ _ _ hf
          · refine E_aload_n (pc := 94) dX12_laysLessons_94 rfl ?_
            refine E_getR (pc := 95) dX12_laysLessons_95 fl_X12_164 hf (fun v35 hf => ?_)
            refine E_iload_n (pc := 98) dX12_laysLessons_98 rfl ?_
            refine E_aload_n (pc := 99) dX12_laysLessons_99 rfl ?_
            refine E_iload_n (pc := 100) dX12_laysLessons_100 rfl ?_
            refine E_Vi (pc := 101) (d2 := D_X12_beginOf) (ci := 12) [.int x33] dX12_laysLessons_101 ml_X12_563 mf_X12_beginOf im_X12_beginOf rfl rfl rfl (by decide) (Nat.le_of_ble_eq_true rfl) (Nat.le_of_ble_eq_true rfl) rfl (fun _ _ h => f_X12_beginOf_ok h) hf (fun v37 μ36 hf => ?_)
            refine E_aload_n (pc := 104) dX12_laysLessons_104 rfl ?_
            refine E_getR (pc := 105) dX12_laysLessons_105 fl_X12_37 hf (fun v38 hf => ?_)
            refine E_iload_n (pc := 108) dX12_laysLessons_108 rfl ?_
            refine E_iald (pc := 109) dX12_laysLessons_109 hf (fun v39 hf => ?_)
            refine E_iadd (pc := 110) dX12_laysLessons_110 ?_
            refine E_iast (pc := 111) dX12_laysLessons_111 hf (fun μ40 hf => ?_)
            refine E_aload_n (pc := 112) dX12_laysLessons_112 rfl ?_
            refine E_getR (pc := 113) dX12_laysLessons_113 fl_X12_167 hf (fun v41 hf => ?_)
            refine E_aload_n (pc := 116) dX12_laysLessons_116 rfl ?_
            refine E_getI (pc := 117) dX12_laysLessons_117 fl_X12_557 hf (fun v42 hf => ?_)
            refine E_iload_n (pc := 120) dX12_laysLessons_120 rfl ?_
            refine E_iast (pc := 121) dX12_laysLessons_121 hf (fun μ43 hf => ?_)
            refine E_aload_n (pc := 122) dX12_laysLessons_122 rfl ?_
            refine E_dup (pc := 123) dX12_laysLessons_123 rfl ?_
            refine E_getI (pc := 124) dX12_laysLessons_124 fl_X12_557 hf (fun v44 hf => ?_)
            refine E_iconst (pc := 127) (v := (1 : Int32)) dX12_laysLessons_127 (by decide) ?_
            refine E_iadd (pc := 128) dX12_laysLessons_128 ?_
            refine E_putI (pc := 129) dX12_laysLessons_129 (pl_X12_557 _) hf (fun μ45 hf => ?_)
            refine E_goto (pc := 132) (tgt := 29) dX12_laysLessons_132 (by decide) ?_
            refine Ev.sub [1, 0] rfl ?_
            exact ih _ _ _ hf
        · refine E_iconst (pc := 84) (v := (1 : Int32)) dX12_laysLessons_84 (by decide) ?_
          refine E_goto (pc := 85) (tgt := 89) dX12_laysLessons_85 (by decide) ?_
          refine E_istore_n (pc := 89) (ls' := fun x46 => [(1, .int x46), (0, .ref a32), (2, .int x33)]) dX12_laysLessons_89 (by decide) (fun _ => rfl) hf (fun x46 hf => ?_)
          refine E_iload_n (pc := 90) dX12_laysLessons_90 rfl ?_
          refine E_if_eq (pc := 91) (tgt := 132) dX12_laysLessons_91 (by decide) hf (fun hf => ?_) (fun hf => ?_)
          · refine E_goto (pc := 132) (tgt := 29) dX12_laysLessons_132 (by decide) ?_
            refine Ev.sub [1, 0] rfl ?_
            exact ih _ _ _ hf
          · refine E_aload_n (pc := 94) dX12_laysLessons_94 rfl ?_
            refine E_getR (pc := 95) dX12_laysLessons_95 fl_X12_164 hf (fun v47 hf => ?_)
            refine E_iload_n (pc := 98) dX12_laysLessons_98 rfl ?_
            refine E_aload_n (pc := 99) dX12_laysLessons_99 rfl ?_
            refine E_iload_n (pc := 100) dX12_laysLessons_100 rfl ?_
            refine E_Vi (pc := 101) (d2 := D_X12_beginOf) (ci := 12) [.int x33] dX12_laysLessons_101 ml_X12_563 mf_X12_beginOf im_X12_beginOf rfl rfl rfl (by decide) (Nat.le_of_ble_eq_true rfl) (Nat.le_of_ble_eq_true rfl) rfl (fun _ _ h => f_X12_beginOf_ok h) hf (fun v49 μ48 hf => ?_)
            refine E_aload_n (pc := 104) dX12_laysLessons_104 rfl ?_
            refine E_getR (pc := 105) dX12_laysLessons_105 fl_X12_37 hf (fun v50 hf => ?_)
            refine E_iload_n (pc := 108) dX12_laysLessons_108 rfl ?_
            refine E_iald (pc := 109) dX12_laysLessons_109 hf (fun v51 hf => ?_)
            refine E_iadd (pc := 110) dX12_laysLessons_110 ?_
            refine E_iast (pc := 111) dX12_laysLessons_111 hf (fun μ52 hf => ?_)
            refine E_aload_n (pc := 112) dX12_laysLessons_112 rfl ?_
            refine E_getR (pc := 113) dX12_laysLessons_113 fl_X12_167 hf (fun v53 hf => ?_)
            refine E_aload_n (pc := 116) dX12_laysLessons_116 rfl ?_
            refine E_getI (pc := 117) dX12_laysLessons_117 fl_X12_557 hf (fun v54 hf => ?_)
            refine E_iload_n (pc := 120) dX12_laysLessons_120 rfl ?_
            refine E_iast (pc := 121) dX12_laysLessons_121 hf (fun μ55 hf => ?_)
            refine E_aload_n (pc := 122) dX12_laysLessons_122 rfl ?_
            refine E_dup (pc := 123) dX12_laysLessons_123 rfl ?_
            refine E_getI (pc := 124) dX12_laysLessons_124 fl_X12_557 hf (fun v56 hf => ?_)
            refine E_iconst (pc := 127) (v := (1 : Int32)) dX12_laysLessons_127 (by decide) ?_
            refine E_iadd (pc := 128) dX12_laysLessons_128 ?_
            refine E_putI (pc := 129) dX12_laysLessons_129 (pl_X12_557 _) hf (fun μ57 hf => ?_)
            refine E_goto (pc := 132) (tgt := 29) dX12_laysLessons_132 (by decide) ?_
            refine Ev.sub [1, 0] rfl ?_
            exact ih _ _ _ hf
set_option maxRecDepth 100000 in
def f_X12_laysLessons (μ0 : Mm) (a1 : Nat) : Option Mm :=
 (nm (0 : Int32) fun x2 =>
    f_X12_laysLessons_L2 (fun μ8 a9 =>
    ((pV μ8 a9 12 72 (.int (0 : Int32))).bind fun μ10 =>
    (nm (1 : Int32) fun x11 =>
    f_X12_laysLessons_L29 (fun μ58 =>
    (some μ58)) FU μ10 a9 x11))) FU μ0 a1 x2)
set_option maxHeartbeats 4000000 in
set_option maxRecDepth 100000 in
theorem f_X12_laysLessons_ok {l : Launch} {G : GG} {μ0 : Mm} {a1 : Nat} {μ' : Mm} (hf : f_X12_laysLessons μ0 a1 = some μ') : EvM l G D_X12_laysLessons yX12_laysLessons cX12_laysLessons 4 none [.ref a1] μ0 none μ' := by
  show Ev l G D_X12_laysLessons yX12_laysLessons cX12_laysLessons 4 none 0 [(0, .ref a1)] [] μ0 none μ'
  unfold f_X12_laysLessons at hf
  refine E_iconst (pc := 0) (v := (0 : Int32)) dX12_laysLessons_0 (by decide) ?_
  refine E_istore_n (pc := 1) (ls' := fun x2 => [(1, .int x2), (0, .ref a1)]) dX12_laysLessons_1 (by decide) (fun _ => rfl) hf (fun x2 hf => ?_)
  refine Ev.sub [1, 0] rfl ?_
  refine f_X12_laysLessons_L2_ok  _ _ _ _ hf (fun μ8 a9 hf => ?_)
  · refine E_aload_n (pc := 22) dX12_laysLessons_22 rfl ?_
    refine E_iconst (pc := 23) (v := (0 : Int32)) dX12_laysLessons_23 (by decide) ?_
    refine E_putI (pc := 24) dX12_laysLessons_24 (pl_X12_557 _) hf (fun μ10 hf => ?_)
    refine E_iconst (pc := 27) (v := (1 : Int32)) dX12_laysLessons_27 (by decide) ?_
    refine E_istore_n (pc := 28) (ls' := fun x11 => [(1, .int x11), (0, .ref a9)]) dX12_laysLessons_28 (by decide) (fun _ => rfl) hf (fun x11 hf => ?_)
    refine Ev.sub [1, 0] rfl ?_
    refine f_X12_laysLessons_L29_ok  _ _ _ _ hf (fun μ58 hf => ?_)
    · exact E_vret (pc := 135) dX12_laysLessons_135 rfl hf
theorem dX12_lesson_0 : decode cX12_lesson 0 = .ok (.iload_n 1, 1) := by decide +kernel
theorem dX12_lesson_1 : decode cX12_lesson 1 = .ok (.i2l, 1) := by decide +kernel
theorem dX12_lesson_2 : decode cX12_lesson 2 = .ok (.lconst 0, 1) := by decide +kernel
theorem dX12_lesson_3 : decode cX12_lesson 3 = .ok (.aload_n 0, 1) := by decide +kernel
theorem dX12_lesson_4 : decode cX12_lesson 4 = .ok (.getfield 9, 3) := by decide +kernel
theorem dX12_lesson_7 : decode cX12_lesson 7 = .ok (.iconst 5, 1) := by decide +kernel
theorem dX12_lesson_8 : decode cX12_lesson 8 = .ok (.iaload, 1) := by decide +kernel
theorem dX12_lesson_9 : decode cX12_lesson 9 = .ok (.iconst 1, 1) := by decide +kernel
theorem dX12_lesson_10 : decode cX12_lesson 10 = .ok (.isub, 1) := by decide +kernel
theorem dX12_lesson_11 : decode cX12_lesson 11 = .ok (.i2l, 1) := by decide +kernel
theorem dX12_lesson_12 : decode cX12_lesson 12 = .ok (.invokestatic 183, 3) := by decide +kernel
theorem dX12_lesson_15 : decode cX12_lesson 15 = .ok (.ifCond .ne 5, 3) := by decide +kernel
theorem dX12_lesson_18 : decode cX12_lesson 18 = .ok (.iconst (-1), 1) := by decide +kernel
theorem dX12_lesson_19 : decode cX12_lesson 19 = .ok (.ireturn, 1) := by decide +kernel
theorem dX12_lesson_20 : decode cX12_lesson 20 = .ok (.aload_n 0, 1) := by decide +kernel
theorem dX12_lesson_21 : decode cX12_lesson 21 = .ok (.invokevirtual 566, 3) := by decide +kernel
theorem dX12_lesson_24 : decode cX12_lesson 24 = .ok (.aload_n 0, 1) := by decide +kernel
theorem dX12_lesson_25 : decode cX12_lesson 25 = .ok (.getfield 164, 3) := by decide +kernel
theorem dX12_lesson_28 : decode cX12_lesson 28 = .ok (.iload_n 1, 1) := by decide +kernel
theorem dX12_lesson_29 : decode cX12_lesson 29 = .ok (.iaload, 1) := by decide +kernel
theorem dX12_lesson_30 : decode cX12_lesson 30 = .ok (.ireturn, 1) := by decide +kernel
abbrev D_X12_lesson : Nat := 3
set_option maxRecDepth 100000 in
def f_X12_lesson (μ0 : Mm) (a1 : Nat) (x2 : Int32) : Option (Int32 × Mm) :=
 ((gR μ0 a1 12 1).bind fun v3 =>
    ((aI μ0 v3 0 (5 : Int32)).bind fun v4 =>
    (bd (f_X12_in μ0 (x2).toInt64 (0 : Int64) ((v4 - (1 : Int32))).toInt64) fun v6 μ5 =>
    (if v6 = 0 then
    (some ((-1 : Int32), μ5))
    else
    ((ob μ5 a1 12).bind fun _ =>
    ((f_X12_laysLessons μ5 a1).bind fun μ7 =>
    ((gR μ7 a1 12 70).bind fun v8 =>
    ((aI μ7 v8 0 x2).bind fun v9 =>
    (some (v9, μ7))))))))))
set_option maxHeartbeats 4000000 in
set_option maxRecDepth 100000 in
theorem f_X12_lesson_ok {l : Launch} {G : GG} {μ0 : Mm} {a1 : Nat} {x2 : Int32} {r : Int32} {μ' : Mm} (hf : f_X12_lesson μ0 a1 x2 = some (r, μ')) : EvM l G D_X12_lesson yX12_lesson cX12_lesson 2 (some .int) [.ref a1, .int x2] μ0 (some (.int r)) μ' := by
  show Ev l G D_X12_lesson yX12_lesson cX12_lesson 2 (some .int) 0 [(0, .ref a1), (1, .int x2)] [] μ0 (some (.int r)) μ'
  unfold f_X12_lesson at hf
  refine E_iload_n (pc := 0) dX12_lesson_0 rfl ?_
  refine E_i2l (pc := 1) dX12_lesson_1 ?_
  refine E_lconst (pc := 2) (v := (0 : Int64)) dX12_lesson_2 (by decide) ?_
  refine E_aload_n (pc := 3) dX12_lesson_3 rfl ?_
  refine E_getR (pc := 4) dX12_lesson_4 fl_X12_9 hf (fun v3 hf => ?_)
  refine E_iconst (pc := 7) (v := (5 : Int32)) dX12_lesson_7 (by decide) ?_
  refine E_iald (pc := 8) dX12_lesson_8 hf (fun v4 hf => ?_)
  refine E_iconst (pc := 9) (v := (1 : Int32)) dX12_lesson_9 (by decide) ?_
  refine E_isub (pc := 10) dX12_lesson_10 ?_
  refine E_i2l (pc := 11) dX12_lesson_11 ?_
  refine E_Si (pc := 12) (d2 := D_X12_in) [.long (x2).toInt64, .long (0 : Int64), .long ((v4 - (1 : Int32))).toInt64] dX12_lesson_12 ml_X12_183 mf_X12_in st_X12_in rfl (by decide) (Nat.le_of_ble_eq_true rfl) (Nat.le_of_ble_eq_true rfl) rfl (fun _ _ h => f_X12_in_ok h) hf (fun v6 μ5 hf => ?_)
  refine E_if_ne (pc := 15) (tgt := 20) dX12_lesson_15 (by decide) hf (fun hf => ?_) (fun hf => ?_)
  · refine E_iconst (pc := 18) (v := (-1 : Int32)) dX12_lesson_18 (by decide) ?_
    exact E_iret (pc := 19) dX12_lesson_19 rfl hf
  · refine E_aload_n (pc := 20) dX12_lesson_20 rfl ?_
    refine E_Vv (pc := 21) (d2 := D_X12_laysLessons) (ci := 12) [] dX12_lesson_21 ml_X12_566 mf_X12_laysLessons im_X12_laysLessons rfl rfl rfl (by decide) (Nat.le_of_ble_eq_true rfl) (Nat.le_of_ble_eq_true rfl) rfl (fun _ h => f_X12_laysLessons_ok h) hf (fun μ7 hf => ?_)
    refine E_aload_n (pc := 24) dX12_lesson_24 rfl ?_
    refine E_getR (pc := 25) dX12_lesson_25 fl_X12_164 hf (fun v8 hf => ?_)
    refine E_iload_n (pc := 28) dX12_lesson_28 rfl ?_
    refine E_iald (pc := 29) dX12_lesson_29 hf (fun v9 hf => ?_)
    exact E_iret (pc := 30) dX12_lesson_30 rfl hf
theorem dX12_order_0 : decode cX12_order 0 = .ok (.aload_n 0, 1) := by decide +kernel
theorem dX12_order_1 : decode cX12_order 1 = .ok (.invokevirtual 537, 3) := by decide +kernel
theorem dX12_order_4 : decode cX12_order 4 = .ok (.ifCond .eq 7, 3) := by decide +kernel
theorem dX12_order_7 : decode cX12_order 7 = .ok (.iload_n 1, 1) := by decide +kernel
theorem dX12_order_8 : decode cX12_order 8 = .ok (.ifCond .ge 5, 3) := by decide +kernel
theorem dX12_order_11 : decode cX12_order 11 = .ok (.iconst (-1), 1) := by decide +kernel
theorem dX12_order_12 : decode cX12_order 12 = .ok (.ireturn, 1) := by decide +kernel
theorem dX12_order_13 : decode cX12_order 13 = .ok (.aload_n 0, 1) := by decide +kernel
theorem dX12_order_14 : decode cX12_order 14 = .ok (.invokevirtual 566, 3) := by decide +kernel
theorem dX12_order_17 : decode cX12_order 17 = .ok (.iload_n 1, 1) := by decide +kernel
theorem dX12_order_18 : decode cX12_order 18 = .ok (.aload_n 0, 1) := by decide +kernel
theorem dX12_order_19 : decode cX12_order 19 = .ok (.getfield 557, 3) := by decide +kernel
theorem dX12_order_22 : decode cX12_order 22 = .ok (.if_icmp .ge 12, 3) := by decide +kernel
theorem dX12_order_25 : decode cX12_order 25 = .ok (.aload_n 0, 1) := by decide +kernel
theorem dX12_order_26 : decode cX12_order 26 = .ok (.getfield 167, 3) := by decide +kernel
theorem dX12_order_29 : decode cX12_order 29 = .ok (.iload_n 1, 1) := by decide +kernel
theorem dX12_order_30 : decode cX12_order 30 = .ok (.iaload, 1) := by decide +kernel
theorem dX12_order_31 : decode cX12_order 31 = .ok (.goto 5, 3) := by decide +kernel
theorem dX12_order_34 : decode cX12_order 34 = .ok (.bipush (-2), 2) := by decide +kernel
theorem dX12_order_36 : decode cX12_order 36 = .ok (.ireturn, 1) := by decide +kernel
abbrev D_X12_order : Nat := 3
set_option maxRecDepth 100000 in
def f_X12_order (μ0 : Mm) (a1 : Nat) (x2 : Int32) : Option (Int32 × Mm) :=
 ((ob μ0 a1 12).bind fun _ =>
    (bd (f_X12_isGround μ0 a1) fun v4 μ3 =>
    (if v4 = 0 then
    (some ((-1 : Int32), μ3))
    else
    (if 0 ≤ x2 then
    ((ob μ3 a1 12).bind fun _ =>
    ((f_X12_laysLessons μ3 a1).bind fun μ5 =>
    ((gI μ5 a1 12 72).bind fun v6 =>
    (if v6 ≤ x2 then
    (some ((-2 : Int32), μ5))
    else
    ((gR μ5 a1 12 71).bind fun v7 =>
    ((aI μ5 v7 0 x2).bind fun v8 =>
    (some (v8, μ5))))))))
    else
    (some ((-1 : Int32), μ3))))))
set_option maxHeartbeats 4000000 in
set_option maxRecDepth 100000 in
theorem f_X12_order_ok {l : Launch} {G : GG} {μ0 : Mm} {a1 : Nat} {x2 : Int32} {r : Int32} {μ' : Mm} (hf : f_X12_order μ0 a1 x2 = some (r, μ')) : EvM l G D_X12_order yX12_order cX12_order 2 (some .int) [.ref a1, .int x2] μ0 (some (.int r)) μ' := by
  show Ev l G D_X12_order yX12_order cX12_order 2 (some .int) 0 [(0, .ref a1), (1, .int x2)] [] μ0 (some (.int r)) μ'
  unfold f_X12_order at hf
  refine E_aload_n (pc := 0) dX12_order_0 rfl ?_
  refine E_Vi (pc := 1) (d2 := D_X12_isGround) (ci := 12) [] dX12_order_1 ml_X12_537 mf_X12_isGround im_X12_isGround rfl rfl rfl (by decide) (Nat.le_of_ble_eq_true rfl) (Nat.le_of_ble_eq_true rfl) rfl (fun _ _ h => f_X12_isGround_ok h) hf (fun v4 μ3 hf => ?_)
  refine E_if_eq (pc := 4) (tgt := 11) dX12_order_4 (by decide) hf (fun hf => ?_) (fun hf => ?_)
  · refine E_iconst (pc := 11) (v := (-1 : Int32)) dX12_order_11 (by decide) ?_
    exact E_iret (pc := 12) dX12_order_12 rfl hf
  · refine E_iload_n (pc := 7) dX12_order_7 rfl ?_
    refine E_if_ge (pc := 8) (tgt := 13) dX12_order_8 (by decide) hf (fun hf => ?_) (fun hf => ?_)
    · refine E_aload_n (pc := 13) dX12_order_13 rfl ?_
      refine E_Vv (pc := 14) (d2 := D_X12_laysLessons) (ci := 12) [] dX12_order_14 ml_X12_566 mf_X12_laysLessons im_X12_laysLessons rfl rfl rfl (by decide) (Nat.le_of_ble_eq_true rfl) (Nat.le_of_ble_eq_true rfl) rfl (fun _ h => f_X12_laysLessons_ok h) hf (fun μ5 hf => ?_)
      refine E_iload_n (pc := 17) dX12_order_17 rfl ?_
      refine E_aload_n (pc := 18) dX12_order_18 rfl ?_
      refine E_getI (pc := 19) dX12_order_19 fl_X12_557 hf (fun v6 hf => ?_)
      refine E_icmp_ge (pc := 22) (tgt := 34) dX12_order_22 (by decide) hf (fun hf => ?_) (fun hf => ?_)
      · refine E_bipush (pc := 34) (v := (-2 : Int32)) dX12_order_34 (by decide) ?_
        exact E_iret (pc := 36) dX12_order_36 rfl hf
      · refine E_aload_n (pc := 25) dX12_order_25 rfl ?_
        refine E_getR (pc := 26) dX12_order_26 fl_X12_167 hf (fun v7 hf => ?_)
        refine E_iload_n (pc := 29) dX12_order_29 rfl ?_
        refine E_iald (pc := 30) dX12_order_30 hf (fun v8 hf => ?_)
        refine E_goto (pc := 31) (tgt := 36) dX12_order_31 (by decide) ?_
        exact E_iret (pc := 36) dX12_order_36 rfl hf
    · refine E_iconst (pc := 11) (v := (-1 : Int32)) dX12_order_11 (by decide) ?_
      exact E_iret (pc := 12) dX12_order_12 rfl hf
theorem dX12_seed_0 : decode cX12_seed 0 = .ok (.iload_n 1, 1) := by decide +kernel
theorem dX12_seed_1 : decode cX12_seed 1 = .ok (.ifCond .ge 5, 3) := by decide +kernel
theorem dX12_seed_4 : decode cX12_seed 4 = .ok (.iconst (-1), 1) := by decide +kernel
theorem dX12_seed_5 : decode cX12_seed 5 = .ok (.ireturn, 1) := by decide +kernel
theorem dX12_seed_6 : decode cX12_seed 6 = .ok (.aload_n 0, 1) := by decide +kernel
theorem dX12_seed_7 : decode cX12_seed 7 = .ok (.getfield 9, 3) := by decide +kernel
theorem dX12_seed_10 : decode cX12_seed 10 = .ok (.bipush 9, 2) := by decide +kernel
theorem dX12_seed_12 : decode cX12_seed 12 = .ok (.iaload, 1) := by decide +kernel
theorem dX12_seed_13 : decode cX12_seed 13 = .ok (.istore_n 2, 1) := by decide +kernel
theorem dX12_seed_14 : decode cX12_seed 14 = .ok (.aload_n 0, 1) := by decide +kernel
theorem dX12_seed_15 : decode cX12_seed 15 = .ok (.getfield 9, 3) := by decide +kernel
theorem dX12_seed_18 : decode cX12_seed 18 = .ok (.bipush 9, 2) := by decide +kernel
theorem dX12_seed_20 : decode cX12_seed 20 = .ok (.iload_n 1, 1) := by decide +kernel
theorem dX12_seed_21 : decode cX12_seed 21 = .ok (.iastore, 1) := by decide +kernel
theorem dX12_seed_22 : decode cX12_seed 22 = .ok (.iload_n 2, 1) := by decide +kernel
theorem dX12_seed_23 : decode cX12_seed 23 = .ok (.ireturn, 1) := by decide +kernel
abbrev D_X12_seed : Nat := 1
set_option maxRecDepth 100000 in
def f_X12_seed (μ0 : Mm) (a1 : Nat) (x2 : Int32) : Option (Int32 × Mm) :=
 (if 0 ≤ x2 then
    ((gR μ0 a1 12 1).bind fun v3 =>
    ((aI μ0 v3 0 (9 : Int32)).bind fun v4 =>
    (nm v4 fun x5 =>
    ((gR μ0 a1 12 1).bind fun v6 =>
    ((sI μ0 v6 0 (9 : Int32) x2).bind fun μ7 =>
    (some (x5, μ7)))))))
    else
    (some ((-1 : Int32), μ0)))
set_option maxHeartbeats 4000000 in
set_option maxRecDepth 100000 in
theorem f_X12_seed_ok {l : Launch} {G : GG} {μ0 : Mm} {a1 : Nat} {x2 : Int32} {r : Int32} {μ' : Mm} (hf : f_X12_seed μ0 a1 x2 = some (r, μ')) : EvM l G D_X12_seed yX12_seed cX12_seed 3 (some .int) [.ref a1, .int x2] μ0 (some (.int r)) μ' := by
  show Ev l G D_X12_seed yX12_seed cX12_seed 3 (some .int) 0 [(0, .ref a1), (1, .int x2)] [] μ0 (some (.int r)) μ'
  unfold f_X12_seed at hf
  refine E_iload_n (pc := 0) dX12_seed_0 rfl ?_
  refine E_if_ge (pc := 1) (tgt := 6) dX12_seed_1 (by decide) hf (fun hf => ?_) (fun hf => ?_)
  · refine E_aload_n (pc := 6) dX12_seed_6 rfl ?_
    refine E_getR (pc := 7) dX12_seed_7 fl_X12_9 hf (fun v3 hf => ?_)
    refine E_bipush (pc := 10) (v := (9 : Int32)) dX12_seed_10 (by decide) ?_
    refine E_iald (pc := 12) dX12_seed_12 hf (fun v4 hf => ?_)
    refine E_istore_n (pc := 13) (ls' := fun x5 => [(2, .int x5), (0, .ref a1), (1, .int x2)]) dX12_seed_13 (by decide) (fun _ => rfl) hf (fun x5 hf => ?_)
    refine E_aload_n (pc := 14) dX12_seed_14 rfl ?_
    refine E_getR (pc := 15) dX12_seed_15 fl_X12_9 hf (fun v6 hf => ?_)
    refine E_bipush (pc := 18) (v := (9 : Int32)) dX12_seed_18 (by decide) ?_
    refine E_iload_n (pc := 20) dX12_seed_20 rfl ?_
    refine E_iast (pc := 21) dX12_seed_21 hf (fun μ7 hf => ?_)
    refine E_iload_n (pc := 22) dX12_seed_22 rfl ?_
    exact E_iret (pc := 23) dX12_seed_23 rfl hf
  · refine E_iconst (pc := 4) (v := (-1 : Int32)) dX12_seed_4 (by decide) ?_
    exact E_iret (pc := 5) dX12_seed_5 rfl hf
theorem dX12_draws_0 : decode cX12_draws 0 = .ok (.aload_n 0, 1) := by decide +kernel
theorem dX12_draws_1 : decode cX12_draws 1 = .ok (.getfield 9, 3) := by decide +kernel
theorem dX12_draws_4 : decode cX12_draws 4 = .ok (.bipush 9, 2) := by decide +kernel
theorem dX12_draws_6 : decode cX12_draws 6 = .ok (.aload_n 0, 1) := by decide +kernel
theorem dX12_draws_7 : decode cX12_draws 7 = .ok (.getfield 9, 3) := by decide +kernel
theorem dX12_draws_10 : decode cX12_draws 10 = .ok (.bipush 9, 2) := by decide +kernel
theorem dX12_draws_12 : decode cX12_draws 12 = .ok (.iaload, 1) := by decide +kernel
theorem dX12_draws_13 : decode cX12_draws 13 = .ok (.i2l, 1) := by decide +kernel
theorem dX12_draws_14 : decode cX12_draws 14 = .ok (.ldc2_w 569, 3) := by decide +kernel
theorem dX12_draws_17 : decode cX12_draws 17 = .ok (.lmul, 1) := by decide +kernel
theorem dX12_draws_18 : decode cX12_draws 18 = .ok (.ldc2_w 571, 3) := by decide +kernel
theorem dX12_draws_21 : decode cX12_draws 21 = .ok (.ladd, 1) := by decide +kernel
theorem dX12_draws_22 : decode cX12_draws 22 = .ok (.ldc2_w 573, 3) := by decide +kernel
theorem dX12_draws_25 : decode cX12_draws 25 = .ok (.lrem, 1) := by decide +kernel
theorem dX12_draws_26 : decode cX12_draws 26 = .ok (.l2i, 1) := by decide +kernel
theorem dX12_draws_27 : decode cX12_draws 27 = .ok (.iastore, 1) := by decide +kernel
theorem dX12_draws_28 : decode cX12_draws 28 = .ok (.aload_n 0, 1) := by decide +kernel
theorem dX12_draws_29 : decode cX12_draws 29 = .ok (.getfield 9, 3) := by decide +kernel
theorem dX12_draws_32 : decode cX12_draws 32 = .ok (.bipush 9, 2) := by decide +kernel
theorem dX12_draws_34 : decode cX12_draws 34 = .ok (.iaload, 1) := by decide +kernel
theorem dX12_draws_35 : decode cX12_draws 35 = .ok (.ldc_w 575, 3) := by decide +kernel
theorem dX12_draws_38 : decode cX12_draws 38 = .ok (.idiv, 1) := by decide +kernel
theorem dX12_draws_39 : decode cX12_draws 39 = .ok (.iload_n 1, 1) := by decide +kernel
theorem dX12_draws_40 : decode cX12_draws 40 = .ok (.irem, 1) := by decide +kernel
theorem dX12_draws_41 : decode cX12_draws 41 = .ok (.ireturn, 1) := by decide +kernel
abbrev D_X12_draws : Nat := 1
set_option maxRecDepth 100000 in
def f_X12_draws (μ0 : Mm) (a1 : Nat) (x2 : Int32) : Option (Int32 × Mm) :=
 ((gR μ0 a1 12 1).bind fun v3 =>
    ((gR μ0 a1 12 1).bind fun v4 =>
    ((aI μ0 v4 0 (9 : Int32)).bind fun v5 =>
    (rmL (((v5).toInt64 * (1103515245 : Int64)) + (12345 : Int64)) (2147483648 : Int64) fun v6 =>
    ((sI μ0 v3 0 (9 : Int32) (v6).toInt32).bind fun μ7 =>
    ((gR μ7 a1 12 1).bind fun v8 =>
    ((aI μ7 v8 0 (9 : Int32)).bind fun v9 =>
    (dvI v9 (65536 : Int32) fun v10 =>
    (rmI v10 x2 fun v11 =>
    (some (v11, μ7)))))))))))
set_option maxHeartbeats 4000000 in
set_option maxRecDepth 100000 in
theorem f_X12_draws_ok {l : Launch} {G : GG} {μ0 : Mm} {a1 : Nat} {x2 : Int32} {r : Int32} {μ' : Mm} (hf : f_X12_draws μ0 a1 x2 = some (r, μ')) : EvM l G D_X12_draws yX12_draws cX12_draws 2 (some .int) [.ref a1, .int x2] μ0 (some (.int r)) μ' := by
  show Ev l G D_X12_draws yX12_draws cX12_draws 2 (some .int) 0 [(0, .ref a1), (1, .int x2)] [] μ0 (some (.int r)) μ'
  unfold f_X12_draws at hf
  refine E_aload_n (pc := 0) dX12_draws_0 rfl ?_
  refine E_getR (pc := 1) dX12_draws_1 fl_X12_9 hf (fun v3 hf => ?_)
  refine E_bipush (pc := 4) (v := (9 : Int32)) dX12_draws_4 (by decide) ?_
  refine E_aload_n (pc := 6) dX12_draws_6 rfl ?_
  refine E_getR (pc := 7) dX12_draws_7 fl_X12_9 hf (fun v4 hf => ?_)
  refine E_bipush (pc := 10) (v := (9 : Int32)) dX12_draws_10 (by decide) ?_
  refine E_iald (pc := 12) dX12_draws_12 hf (fun v5 hf => ?_)
  refine E_i2l (pc := 13) dX12_draws_13 ?_
  refine E_ldc2 (pc := 14) (v := (1103515245 : Int64)) dX12_draws_14 co_X12_569 ?_
  refine E_lmul (pc := 17) dX12_draws_17 ?_
  refine E_ldc2 (pc := 18) (v := (12345 : Int64)) dX12_draws_18 co_X12_571 ?_
  refine E_ladd (pc := 21) dX12_draws_21 ?_
  refine E_ldc2 (pc := 22) (v := (2147483648 : Int64)) dX12_draws_22 co_X12_573 ?_
  refine E_lrem2 (pc := 25) dX12_draws_25 hf (fun v6 hf => ?_)
  refine E_l2i (pc := 26) dX12_draws_26 ?_
  refine E_iast (pc := 27) dX12_draws_27 hf (fun μ7 hf => ?_)
  refine E_aload_n (pc := 28) dX12_draws_28 rfl ?_
  refine E_getR (pc := 29) dX12_draws_29 fl_X12_9 hf (fun v8 hf => ?_)
  refine E_bipush (pc := 32) (v := (9 : Int32)) dX12_draws_32 (by decide) ?_
  refine E_iald (pc := 34) dX12_draws_34 hf (fun v9 hf => ?_)
  refine E_ldcw (pc := 35) (v := (65536 : Int32)) dX12_draws_35 co_X12_575 ?_
  refine E_idiv2 (pc := 38) dX12_draws_38 hf (fun v10 hf => ?_)
  refine E_iload_n (pc := 39) dX12_draws_39 rfl ?_
  refine E_irem2 (pc := 40) dX12_draws_40 hf (fun v11 hf => ?_)
  exact E_iret (pc := 41) dX12_draws_41 rfl hf
theorem dX12_carryRow_0 : decode cX12_carryRow 0 = .ok (.iconst 0, 1) := by decide +kernel
theorem dX12_carryRow_1 : decode cX12_carryRow 1 = .ok (.istore_n 2, 1) := by decide +kernel
theorem dX12_carryRow_2 : decode cX12_carryRow 2 = .ok (.iload_n 2, 1) := by decide +kernel
theorem dX12_carryRow_3 : decode cX12_carryRow 3 = .ok (.aload_n 1, 1) := by decide +kernel
theorem dX12_carryRow_4 : decode cX12_carryRow 4 = .ok (.arraylength, 1) := by decide +kernel
theorem dX12_carryRow_5 : decode cX12_carryRow 5 = .ok (.if_icmp .ge 53, 3) := by decide +kernel
theorem dX12_carryRow_8 : decode cX12_carryRow 8 = .ok (.aload_n 0, 1) := by decide +kernel
theorem dX12_carryRow_9 : decode cX12_carryRow 9 = .ok (.getfield 592, 3) := by decide +kernel
theorem dX12_carryRow_12 : decode cX12_carryRow 12 = .ok (.ifCond .eq 18, 3) := by decide +kernel
theorem dX12_carryRow_15 : decode cX12_carryRow 15 = .ok (.aload_n 1, 1) := by decide +kernel
theorem dX12_carryRow_16 : decode cX12_carryRow 16 = .ok (.iload_n 2, 1) := by decide +kernel
theorem dX12_carryRow_17 : decode cX12_carryRow 17 = .ok (.aload_n 0, 1) := by decide +kernel
theorem dX12_carryRow_18 : decode cX12_carryRow 18 = .ok (.getfield 170, 3) := by decide +kernel
theorem dX12_carryRow_21 : decode cX12_carryRow 21 = .ok (.aload_n 0, 1) := by decide +kernel
theorem dX12_carryRow_22 : decode cX12_carryRow 22 = .ok (.getfield 595, 3) := by decide +kernel
theorem dX12_carryRow_25 : decode cX12_carryRow 25 = .ok (.iaload, 1) := by decide +kernel
theorem dX12_carryRow_26 : decode cX12_carryRow 26 = .ok (.iastore, 1) := by decide +kernel
theorem dX12_carryRow_27 : decode cX12_carryRow 27 = .ok (.goto 15, 3) := by decide +kernel
theorem dX12_carryRow_30 : decode cX12_carryRow 30 = .ok (.aload_n 0, 1) := by decide +kernel
theorem dX12_carryRow_31 : decode cX12_carryRow 31 = .ok (.getfield 170, 3) := by decide +kernel
theorem dX12_carryRow_34 : decode cX12_carryRow 34 = .ok (.aload_n 0, 1) := by decide +kernel
theorem dX12_carryRow_35 : decode cX12_carryRow 35 = .ok (.getfield 595, 3) := by decide +kernel
theorem dX12_carryRow_38 : decode cX12_carryRow 38 = .ok (.aload_n 1, 1) := by decide +kernel
theorem dX12_carryRow_39 : decode cX12_carryRow 39 = .ok (.iload_n 2, 1) := by decide +kernel
theorem dX12_carryRow_40 : decode cX12_carryRow 40 = .ok (.iaload, 1) := by decide +kernel
theorem dX12_carryRow_41 : decode cX12_carryRow 41 = .ok (.iastore, 1) := by decide +kernel
theorem dX12_carryRow_42 : decode cX12_carryRow 42 = .ok (.aload_n 0, 1) := by decide +kernel
theorem dX12_carryRow_43 : decode cX12_carryRow 43 = .ok (.dup, 1) := by decide +kernel
theorem dX12_carryRow_44 : decode cX12_carryRow 44 = .ok (.getfield 595, 3) := by decide +kernel
theorem dX12_carryRow_47 : decode cX12_carryRow 47 = .ok (.iconst 1, 1) := by decide +kernel
theorem dX12_carryRow_48 : decode cX12_carryRow 48 = .ok (.iadd, 1) := by decide +kernel
theorem dX12_carryRow_49 : decode cX12_carryRow 49 = .ok (.putfield 595, 3) := by decide +kernel
theorem dX12_carryRow_52 : decode cX12_carryRow 52 = .ok (.iinc 2 1, 3) := by decide +kernel
theorem dX12_carryRow_55 : decode cX12_carryRow 55 = .ok (.goto (-53), 3) := by decide +kernel
theorem dX12_carryRow_58 : decode cX12_carryRow 58 = .ok (.return_, 1) := by decide +kernel
abbrev D_X12_carryRow : Nat := 1
def f_X12_carryRow_L2 (K58 : Mm → Option Mm) : Nat → Mm → Nat → Nat → Int32 → Option Mm
  | 0, _, _, _, _ => none
  | n + 1, μ0, a4, a5, x6 =>
    ((aN μ0 a5 0).bind fun v7 =>
    (if v7 ≤ x6 then
    K58 μ0
    else
    ((gI μ0 a4 12 76).bind fun v8 =>
    (if v8 = 0 then
    ((gR μ0 a4 12 73).bind fun v9 =>
    ((gI μ0 a4 12 75).bind fun v10 =>
    ((aI μ0 a5 0 x6).bind fun v11 =>
    ((sI μ0 v9 0 v10 v11).bind fun μ12 =>
    ((gI μ12 a4 12 75).bind fun v13 =>
    ((pV μ12 a4 12 75 (.int (v13 + (1 : Int32)))).bind fun μ14 =>
    (nm (x6 + Int32.ofInt (1)) fun x15 =>
    f_X12_carryRow_L2 K58 n μ14 a4 a5 x15)))))))
    else
    ((gR μ0 a4 12 73).bind fun v16 =>
    ((gI μ0 a4 12 75).bind fun v17 =>
    ((aI μ0 v16 0 v17).bind fun v18 =>
    ((sI μ0 a5 0 x6 v18).bind fun μ19 =>
    ((gI μ19 a4 12 75).bind fun v20 =>
    ((pV μ19 a4 12 75 (.int (v20 + (1 : Int32)))).bind fun μ21 =>
    (nm (x6 + Int32.ofInt (1)) fun x22 =>
    f_X12_carryRow_L2 K58 n μ21 a4 a5 x22)))))))))))
set_option maxHeartbeats 4000000 in
set_option maxRecDepth 100000 in
theorem f_X12_carryRow_L2_ok {l : Launch} {G : GG} {K58 : Mm → Option Mm} {μ' : Mm} (n : Nat) (μ0 : Mm) (a4 : Nat) (a5 : Nat) (x6 : Int32) (hf : f_X12_carryRow_L2 K58 n μ0 a4 a5 x6 = some μ') (hK58 : ∀ (μ1 : Mm), K58 μ1  = some μ' → Ev l G D_X12_carryRow yX12_carryRow cX12_carryRow 3 none 58 [] [] μ1 none μ') : Ev l G D_X12_carryRow yX12_carryRow cX12_carryRow 3 none 2 [(0, .ref a4), (1, .ref a5), (2, .int x6)] [] μ0 none μ' := by
  induction n generalizing μ0 a4 a5 x6 with
  | zero => cases hf
  | succ n ih0 =>
    have ih : ∀ (μ0 : Mm) (a4 : Nat) (a5 : Nat) (x6 : Int32), f_X12_carryRow_L2 K58 n μ0 a4 a5 x6 = some μ' → Ev l G D_X12_carryRow yX12_carryRow cX12_carryRow 3 none 2 [(0, .ref a4), (1, .ref a5), (2, .int x6)] [] μ0 none μ' := fun μ0 a4 a5 x6 hf => ih0 μ0 a4 a5 x6 hf
    rw [f_X12_carryRow_L2] at hf
    refine E_iload_n (pc := 2) dX12_carryRow_2 rfl ?_
    refine E_aload_n (pc := 3) dX12_carryRow_3 rfl ?_
    refine E_alen (pc := 4) 0 dX12_carryRow_4 (by decide) hf (fun v7 hf => ?_)
    refine E_icmp_ge (pc := 5) (tgt := 58) dX12_carryRow_5 (by decide) hf (fun hf => ?_) (fun hf => ?_)
    · refine Ev.sub [] rfl ?_
      exact hK58 _ hf
    · refine E_aload_n (pc := 8) dX12_carryRow_8 rfl ?_
      refine E_getI (pc := 9) dX12_carryRow_9 fl_X12_592 hf (fun v8 hf => ?_)
      refine E_if_eq (pc := 12) (tgt := 30) dX12_carryRow_12 (by decide) hf (fun hf => ?_) (fun hf => ?_)
      · refine E_aload_n (pc := 30) dX12_carryRow_30 rfl ?_
        refine E_getR (pc := 31) dX12_carryRow_31 fl_X12_170 hf (fun v9 hf => ?_)
        refine E_aload_n (pc := 34) dX12_carryRow_34 rfl ?_
        refine E_getI (pc := 35) dX12_carryRow_35 fl_X12_595 hf (fun v10 hf => ?_)
        refine E_aload_n (pc := 38) dX12_carryRow_38 rfl ?_
        refine E_iload_n (pc := 39) dX12_carryRow_39 rfl ?_
        refine E_iald (pc := 40) dX12_carryRow_40 hf (fun v11 hf => ?_)
        refine E_iast (pc := 41) dX12_carryRow_41 hf (fun μ12 hf => ?_)
        refine E_aload_n (pc := 42) dX12_carryRow_42 rfl ?_
        refine E_dup (pc := 43) dX12_carryRow_43 rfl ?_
        refine E_getI (pc := 44) dX12_carryRow_44 fl_X12_595 hf (fun v13 hf => ?_)
        refine E_iconst (pc := 47) (v := (1 : Int32)) dX12_carryRow_47 (by decide) ?_
        refine E_iadd (pc := 48) dX12_carryRow_48 ?_
        refine E_putI (pc := 49) dX12_carryRow_49 (pl_X12_595 _) hf (fun μ14 hf => ?_)
        refine E_iinc (pc := 52) (ls' := fun x15 => [(2, .int x15), (0, .ref a4), (1, .ref a5)]) dX12_carryRow_52 rfl (by decide) (fun _ => rfl) hf (fun x15 hf => ?_)
        refine E_goto (pc := 55) (tgt := 2) dX12_carryRow_55 (by decide) ?_
        refine Ev.sub [1, 2, 0] rfl ?_
        exact ih _ _ _ _ hf
      · refine E_aload_n (pc := 15) dX12_carryRow_15 rfl ?_
        refine E_iload_n (pc := 16) dX12_carryRow_16 rfl ?_
        refine E_aload_n (pc := 17) dX12_carryRow_17 rfl ?_
        refine E_getR (pc := 18) dX12_carryRow_18 fl_X12_170 hf (fun v16 hf => ?_)
        refine E_aload_n (pc := 21) dX12_carryRow_21 rfl ?_
        refine E_getI (pc := 22) dX12_carryRow_22 fl_X12_595 hf (fun v17 hf => ?_)
        refine E_iald (pc := 25) dX12_carryRow_25 hf (fun v18 hf => ?_)
        refine E_iast (pc := 26) dX12_carryRow_26 hf (fun μ19 hf => ?_)
        refine E_goto (pc := 27) (tgt := 42) dX12_carryRow_27 (by decide) ?_
        refine E_aload_n (pc := 42) dX12_carryRow_42 rfl ?_
        refine E_dup (pc := 43) dX12_carryRow_43 rfl ?_
        refine E_getI (pc := 44) dX12_carryRow_44 fl_X12_595 hf (fun v20 hf => ?_)
        refine E_iconst (pc := 47) (v := (1 : Int32)) dX12_carryRow_47 (by decide) ?_
        refine E_iadd (pc := 48) dX12_carryRow_48 ?_
        refine E_putI (pc := 49) dX12_carryRow_49 (pl_X12_595 _) hf (fun μ21 hf => ?_)
        refine E_iinc (pc := 52) (ls' := fun x22 => [(2, .int x22), (0, .ref a4), (1, .ref a5)]) dX12_carryRow_52 rfl (by decide) (fun _ => rfl) hf (fun x22 hf => ?_)
        refine E_goto (pc := 55) (tgt := 2) dX12_carryRow_55 (by decide) ?_
        refine Ev.sub [1, 2, 0] rfl ?_
        exact ih _ _ _ _ hf
set_option maxRecDepth 100000 in
def f_X12_carryRow (μ0 : Mm) (a1 : Nat) (a2 : Nat) : Option Mm :=
 (nm (0 : Int32) fun x3 =>
    f_X12_carryRow_L2 (fun μ23 =>
    (some μ23)) FU μ0 a1 a2 x3)
set_option maxHeartbeats 4000000 in
set_option maxRecDepth 100000 in
theorem f_X12_carryRow_ok {l : Launch} {G : GG} {μ0 : Mm} {a1 : Nat} {a2 : Nat} {μ' : Mm} (hf : f_X12_carryRow μ0 a1 a2 = some μ') : EvM l G D_X12_carryRow yX12_carryRow cX12_carryRow 3 none [.ref a1, .ref a2] μ0 none μ' := by
  show Ev l G D_X12_carryRow yX12_carryRow cX12_carryRow 3 none 0 [(0, .ref a1), (1, .ref a2)] [] μ0 none μ'
  unfold f_X12_carryRow at hf
  refine E_iconst (pc := 0) (v := (0 : Int32)) dX12_carryRow_0 (by decide) ?_
  refine E_istore_n (pc := 1) (ls' := fun x3 => [(2, .int x3), (0, .ref a1), (1, .ref a2)]) dX12_carryRow_1 (by decide) (fun _ => rfl) hf (fun x3 hf => ?_)
  refine Ev.sub [1, 2, 0] rfl ?_
  refine f_X12_carryRow_L2_ok  _ _ _ _ _ hf (fun μ23 hf => ?_)
  · exact E_vret (pc := 58) dX12_carryRow_58 rfl hf
theorem dX12_carriesAll_0 : decode cX12_carriesAll 0 = .ok (.aload_n 0, 1) := by decide +kernel
theorem dX12_carriesAll_1 : decode cX12_carriesAll 1 = .ok (.sipush 460, 3) := by decide +kernel
theorem dX12_carriesAll_4 : decode cX12_carriesAll 4 = .ok (.iload_n 1, 1) := by decide +kernel
theorem dX12_carriesAll_5 : decode cX12_carriesAll 5 = .ok (.imul, 1) := by decide +kernel
theorem dX12_carriesAll_6 : decode cX12_carriesAll 6 = .ok (.putfield 595, 3) := by decide +kernel
theorem dX12_carriesAll_9 : decode cX12_carriesAll 9 = .ok (.aload_n 0, 1) := by decide +kernel
theorem dX12_carriesAll_10 : decode cX12_carriesAll 10 = .ok (.iload_n 2, 1) := by decide +kernel
theorem dX12_carriesAll_11 : decode cX12_carriesAll 11 = .ok (.putfield 592, 3) := by decide +kernel
theorem dX12_carriesAll_14 : decode cX12_carriesAll 14 = .ok (.aload_n 0, 1) := by decide +kernel
theorem dX12_carriesAll_15 : decode cX12_carriesAll 15 = .ok (.getfield 131, 3) := by decide +kernel
theorem dX12_carriesAll_18 : decode cX12_carriesAll 18 = .ok (.iconst 0, 1) := by decide +kernel
theorem dX12_carriesAll_19 : decode cX12_carriesAll 19 = .ok (.aload_n 0, 1) := by decide +kernel
theorem dX12_carriesAll_20 : decode cX12_carriesAll 20 = .ok (.getfield 369, 3) := by decide +kernel
theorem dX12_carriesAll_23 : decode cX12_carriesAll 23 = .ok (.iastore, 1) := by decide +kernel
theorem dX12_carriesAll_24 : decode cX12_carriesAll 24 = .ok (.aload_n 0, 1) := by decide +kernel
theorem dX12_carriesAll_25 : decode cX12_carriesAll 25 = .ok (.aload_n 0, 1) := by decide +kernel
theorem dX12_carriesAll_26 : decode cX12_carriesAll 26 = .ok (.getfield 131, 3) := by decide +kernel
theorem dX12_carriesAll_29 : decode cX12_carriesAll 29 = .ok (.invokevirtual 598, 3) := by decide +kernel
theorem dX12_carriesAll_32 : decode cX12_carriesAll 32 = .ok (.aload_n 0, 1) := by decide +kernel
theorem dX12_carriesAll_33 : decode cX12_carriesAll 33 = .ok (.aload_n 0, 1) := by decide +kernel
theorem dX12_carriesAll_34 : decode cX12_carriesAll 34 = .ok (.getfield 131, 3) := by decide +kernel
theorem dX12_carriesAll_37 : decode cX12_carriesAll 37 = .ok (.iconst 0, 1) := by decide +kernel
theorem dX12_carriesAll_38 : decode cX12_carriesAll 38 = .ok (.iaload, 1) := by decide +kernel
theorem dX12_carriesAll_39 : decode cX12_carriesAll 39 = .ok (.putfield 369, 3) := by decide +kernel
theorem dX12_carriesAll_42 : decode cX12_carriesAll 42 = .ok (.aload_n 0, 1) := by decide +kernel
theorem dX12_carriesAll_43 : decode cX12_carriesAll 43 = .ok (.aload_n 0, 1) := by decide +kernel
theorem dX12_carriesAll_44 : decode cX12_carriesAll 44 = .ok (.getfield 9, 3) := by decide +kernel
theorem dX12_carriesAll_47 : decode cX12_carriesAll 47 = .ok (.invokevirtual 598, 3) := by decide +kernel
theorem dX12_carriesAll_50 : decode cX12_carriesAll 50 = .ok (.aload_n 0, 1) := by decide +kernel
theorem dX12_carriesAll_51 : decode cX12_carriesAll 51 = .ok (.aload_n 0, 1) := by decide +kernel
theorem dX12_carriesAll_52 : decode cX12_carriesAll 52 = .ok (.getfield 13, 3) := by decide +kernel
theorem dX12_carriesAll_55 : decode cX12_carriesAll 55 = .ok (.invokevirtual 598, 3) := by decide +kernel
theorem dX12_carriesAll_58 : decode cX12_carriesAll 58 = .ok (.aload_n 0, 1) := by decide +kernel
theorem dX12_carriesAll_59 : decode cX12_carriesAll 59 = .ok (.aload_n 0, 1) := by decide +kernel
theorem dX12_carriesAll_60 : decode cX12_carriesAll 60 = .ok (.getfield 16, 3) := by decide +kernel
theorem dX12_carriesAll_63 : decode cX12_carriesAll 63 = .ok (.invokevirtual 598, 3) := by decide +kernel
theorem dX12_carriesAll_66 : decode cX12_carriesAll 66 = .ok (.aload_n 0, 1) := by decide +kernel
theorem dX12_carriesAll_67 : decode cX12_carriesAll 67 = .ok (.aload_n 0, 1) := by decide +kernel
theorem dX12_carriesAll_68 : decode cX12_carriesAll 68 = .ok (.getfield 19, 3) := by decide +kernel
theorem dX12_carriesAll_71 : decode cX12_carriesAll 71 = .ok (.invokevirtual 598, 3) := by decide +kernel
theorem dX12_carriesAll_74 : decode cX12_carriesAll 74 = .ok (.aload_n 0, 1) := by decide +kernel
theorem dX12_carriesAll_75 : decode cX12_carriesAll 75 = .ok (.aload_n 0, 1) := by decide +kernel
theorem dX12_carriesAll_76 : decode cX12_carriesAll 76 = .ok (.getfield 22, 3) := by decide +kernel
theorem dX12_carriesAll_79 : decode cX12_carriesAll 79 = .ok (.invokevirtual 598, 3) := by decide +kernel
theorem dX12_carriesAll_82 : decode cX12_carriesAll 82 = .ok (.aload_n 0, 1) := by decide +kernel
theorem dX12_carriesAll_83 : decode cX12_carriesAll 83 = .ok (.aload_n 0, 1) := by decide +kernel
theorem dX12_carriesAll_84 : decode cX12_carriesAll 84 = .ok (.getfield 25, 3) := by decide +kernel
theorem dX12_carriesAll_87 : decode cX12_carriesAll 87 = .ok (.invokevirtual 598, 3) := by decide +kernel
theorem dX12_carriesAll_90 : decode cX12_carriesAll 90 = .ok (.aload_n 0, 1) := by decide +kernel
theorem dX12_carriesAll_91 : decode cX12_carriesAll 91 = .ok (.aload_n 0, 1) := by decide +kernel
theorem dX12_carriesAll_92 : decode cX12_carriesAll 92 = .ok (.getfield 28, 3) := by decide +kernel
theorem dX12_carriesAll_95 : decode cX12_carriesAll 95 = .ok (.invokevirtual 598, 3) := by decide +kernel
theorem dX12_carriesAll_98 : decode cX12_carriesAll 98 = .ok (.aload_n 0, 1) := by decide +kernel
theorem dX12_carriesAll_99 : decode cX12_carriesAll 99 = .ok (.aload_n 0, 1) := by decide +kernel
theorem dX12_carriesAll_100 : decode cX12_carriesAll 100 = .ok (.getfield 31, 3) := by decide +kernel
theorem dX12_carriesAll_103 : decode cX12_carriesAll 103 = .ok (.invokevirtual 598, 3) := by decide +kernel
theorem dX12_carriesAll_106 : decode cX12_carriesAll 106 = .ok (.aload_n 0, 1) := by decide +kernel
theorem dX12_carriesAll_107 : decode cX12_carriesAll 107 = .ok (.aload_n 0, 1) := by decide +kernel
theorem dX12_carriesAll_108 : decode cX12_carriesAll 108 = .ok (.getfield 34, 3) := by decide +kernel
theorem dX12_carriesAll_111 : decode cX12_carriesAll 111 = .ok (.invokevirtual 598, 3) := by decide +kernel
theorem dX12_carriesAll_114 : decode cX12_carriesAll 114 = .ok (.aload_n 0, 1) := by decide +kernel
theorem dX12_carriesAll_115 : decode cX12_carriesAll 115 = .ok (.aload_n 0, 1) := by decide +kernel
theorem dX12_carriesAll_116 : decode cX12_carriesAll 116 = .ok (.getfield 37, 3) := by decide +kernel
theorem dX12_carriesAll_119 : decode cX12_carriesAll 119 = .ok (.invokevirtual 598, 3) := by decide +kernel
theorem dX12_carriesAll_122 : decode cX12_carriesAll 122 = .ok (.aload_n 0, 1) := by decide +kernel
theorem dX12_carriesAll_123 : decode cX12_carriesAll 123 = .ok (.aload_n 0, 1) := by decide +kernel
theorem dX12_carriesAll_124 : decode cX12_carriesAll 124 = .ok (.getfield 40, 3) := by decide +kernel
theorem dX12_carriesAll_127 : decode cX12_carriesAll 127 = .ok (.invokevirtual 598, 3) := by decide +kernel
theorem dX12_carriesAll_130 : decode cX12_carriesAll 130 = .ok (.aload_n 0, 1) := by decide +kernel
theorem dX12_carriesAll_131 : decode cX12_carriesAll 131 = .ok (.aload_n 0, 1) := by decide +kernel
theorem dX12_carriesAll_132 : decode cX12_carriesAll 132 = .ok (.getfield 43, 3) := by decide +kernel
theorem dX12_carriesAll_135 : decode cX12_carriesAll 135 = .ok (.invokevirtual 598, 3) := by decide +kernel
theorem dX12_carriesAll_138 : decode cX12_carriesAll 138 = .ok (.aload_n 0, 1) := by decide +kernel
theorem dX12_carriesAll_139 : decode cX12_carriesAll 139 = .ok (.aload_n 0, 1) := by decide +kernel
theorem dX12_carriesAll_140 : decode cX12_carriesAll 140 = .ok (.getfield 46, 3) := by decide +kernel
theorem dX12_carriesAll_143 : decode cX12_carriesAll 143 = .ok (.invokevirtual 598, 3) := by decide +kernel
theorem dX12_carriesAll_146 : decode cX12_carriesAll 146 = .ok (.aload_n 0, 1) := by decide +kernel
theorem dX12_carriesAll_147 : decode cX12_carriesAll 147 = .ok (.aload_n 0, 1) := by decide +kernel
theorem dX12_carriesAll_148 : decode cX12_carriesAll 148 = .ok (.getfield 49, 3) := by decide +kernel
theorem dX12_carriesAll_151 : decode cX12_carriesAll 151 = .ok (.invokevirtual 598, 3) := by decide +kernel
theorem dX12_carriesAll_154 : decode cX12_carriesAll 154 = .ok (.aload_n 0, 1) := by decide +kernel
theorem dX12_carriesAll_155 : decode cX12_carriesAll 155 = .ok (.aload_n 0, 1) := by decide +kernel
theorem dX12_carriesAll_156 : decode cX12_carriesAll 156 = .ok (.getfield 128, 3) := by decide +kernel
theorem dX12_carriesAll_159 : decode cX12_carriesAll 159 = .ok (.invokevirtual 598, 3) := by decide +kernel
theorem dX12_carriesAll_162 : decode cX12_carriesAll 162 = .ok (.return_, 1) := by decide +kernel
abbrev D_X12_carriesAll : Nat := 2
set_option maxRecDepth 100000 in
def f_X12_carriesAll (μ0 : Mm) (a1 : Nat) (x2 : Int32) (x3 : Int32) : Option Mm :=
 ((pV μ0 a1 12 75 (.int ((460 : Int32) * x2))).bind fun μ4 =>
    ((pZ μ4 a1 12 76 x3).bind fun μ5 =>
    ((gR μ5 a1 12 54).bind fun v6 =>
    ((gI μ5 a1 12 55).bind fun v7 =>
    ((sI μ5 v6 0 (0 : Int32) v7).bind fun μ8 =>
    ((gR μ8 a1 12 54).bind fun v9 =>
    ((ob μ8 a1 12).bind fun _ =>
    ((f_X12_carryRow μ8 a1 v9).bind fun μ10 =>
    ((gR μ10 a1 12 54).bind fun v11 =>
    ((aI μ10 v11 0 (0 : Int32)).bind fun v12 =>
    ((pV μ10 a1 12 55 (.int v12)).bind fun μ13 =>
    ((gR μ13 a1 12 1).bind fun v14 =>
    ((ob μ13 a1 12).bind fun _ =>
    ((f_X12_carryRow μ13 a1 v14).bind fun μ15 =>
    ((gR μ15 a1 12 2).bind fun v16 =>
    ((ob μ15 a1 12).bind fun _ =>
    ((f_X12_carryRow μ15 a1 v16).bind fun μ17 =>
    ((gR μ17 a1 12 3).bind fun v18 =>
    ((ob μ17 a1 12).bind fun _ =>
    ((f_X12_carryRow μ17 a1 v18).bind fun μ19 =>
    ((gR μ19 a1 12 4).bind fun v20 =>
    ((ob μ19 a1 12).bind fun _ =>
    ((f_X12_carryRow μ19 a1 v20).bind fun μ21 =>
    ((gR μ21 a1 12 5).bind fun v22 =>
    ((ob μ21 a1 12).bind fun _ =>
    ((f_X12_carryRow μ21 a1 v22).bind fun μ23 =>
    ((gR μ23 a1 12 6).bind fun v24 =>
    ((ob μ23 a1 12).bind fun _ =>
    ((f_X12_carryRow μ23 a1 v24).bind fun μ25 =>
    ((gR μ25 a1 12 7).bind fun v26 =>
    ((ob μ25 a1 12).bind fun _ =>
    ((f_X12_carryRow μ25 a1 v26).bind fun μ27 =>
    ((gR μ27 a1 12 8).bind fun v28 =>
    ((ob μ27 a1 12).bind fun _ =>
    ((f_X12_carryRow μ27 a1 v28).bind fun μ29 =>
    ((gR μ29 a1 12 9).bind fun v30 =>
    ((ob μ29 a1 12).bind fun _ =>
    ((f_X12_carryRow μ29 a1 v30).bind fun μ31 =>
    ((gR μ31 a1 12 10).bind fun v32 =>
    ((ob μ31 a1 12).bind fun _ =>
    ((f_X12_carryRow μ31 a1 v32).bind fun μ33 =>
    ((gR μ33 a1 12 11).bind fun v34 =>
    ((ob μ33 a1 12).bind fun _ =>
    ((f_X12_carryRow μ33 a1 v34).bind fun μ35 =>
    ((gR μ35 a1 12 12).bind fun v36 =>
    ((ob μ35 a1 12).bind fun _ =>
    ((f_X12_carryRow μ35 a1 v36).bind fun μ37 =>
    ((gR μ37 a1 12 13).bind fun v38 =>
    ((ob μ37 a1 12).bind fun _ =>
    ((f_X12_carryRow μ37 a1 v38).bind fun μ39 =>
    ((gR μ39 a1 12 14).bind fun v40 =>
    ((ob μ39 a1 12).bind fun _ =>
    ((f_X12_carryRow μ39 a1 v40).bind fun μ41 =>
    ((gR μ41 a1 12 53).bind fun v42 =>
    ((ob μ41 a1 12).bind fun _ =>
    ((f_X12_carryRow μ41 a1 v42).bind fun μ43 =>
    (some μ43)))))))))))))))))))))))))))))))))))))))))))))))))))))))))
set_option maxHeartbeats 4000000 in
set_option maxRecDepth 100000 in
theorem f_X12_carriesAll_ok {l : Launch} {G : GG} {μ0 : Mm} {a1 : Nat} {x2 : Int32} {x3 : Int32} {μ' : Mm} (hf : f_X12_carriesAll μ0 a1 x2 x3 = some μ') : EvM l G D_X12_carriesAll yX12_carriesAll cX12_carriesAll 3 none [.ref a1, .int x2, .int x3] μ0 none μ' := by
  show Ev l G D_X12_carriesAll yX12_carriesAll cX12_carriesAll 3 none 0 [(0, .ref a1), (1, .int x2), (2, .int x3)] [] μ0 none μ'
  unfold f_X12_carriesAll at hf
  refine E_aload_n (pc := 0) dX12_carriesAll_0 rfl ?_
  refine E_sipush (pc := 1) (v := (460 : Int32)) dX12_carriesAll_1 (by decide) ?_
  refine E_iload_n (pc := 4) dX12_carriesAll_4 rfl ?_
  refine E_imul (pc := 5) dX12_carriesAll_5 ?_
  refine E_putI (pc := 6) dX12_carriesAll_6 (pl_X12_595 _) hf (fun μ4 hf => ?_)
  refine E_aload_n (pc := 9) dX12_carriesAll_9 rfl ?_
  refine E_iload_n (pc := 10) dX12_carriesAll_10 rfl ?_
  refine E_putZ (pc := 11) dX12_carriesAll_11 (pl_X12_592 _) hf (fun μ5 hf => ?_)
  refine E_aload_n (pc := 14) dX12_carriesAll_14 rfl ?_
  refine E_getR (pc := 15) dX12_carriesAll_15 fl_X12_131 hf (fun v6 hf => ?_)
  refine E_iconst (pc := 18) (v := (0 : Int32)) dX12_carriesAll_18 (by decide) ?_
  refine E_aload_n (pc := 19) dX12_carriesAll_19 rfl ?_
  refine E_getI (pc := 20) dX12_carriesAll_20 fl_X12_369 hf (fun v7 hf => ?_)
  refine E_iast (pc := 23) dX12_carriesAll_23 hf (fun μ8 hf => ?_)
  refine E_aload_n (pc := 24) dX12_carriesAll_24 rfl ?_
  refine E_aload_n (pc := 25) dX12_carriesAll_25 rfl ?_
  refine E_getR (pc := 26) dX12_carriesAll_26 fl_X12_131 hf (fun v9 hf => ?_)
  refine E_Vv (pc := 29) (d2 := D_X12_carryRow) (ci := 12) [.ref v9] dX12_carriesAll_29 ml_X12_598 mf_X12_carryRow im_X12_carryRow rfl rfl rfl (by decide) (Nat.le_of_ble_eq_true rfl) (Nat.le_of_ble_eq_true rfl) rfl (fun _ h => f_X12_carryRow_ok h) hf (fun μ10 hf => ?_)
  refine E_aload_n (pc := 32) dX12_carriesAll_32 rfl ?_
  refine E_aload_n (pc := 33) dX12_carriesAll_33 rfl ?_
  refine E_getR (pc := 34) dX12_carriesAll_34 fl_X12_131 hf (fun v11 hf => ?_)
  refine E_iconst (pc := 37) (v := (0 : Int32)) dX12_carriesAll_37 (by decide) ?_
  refine E_iald (pc := 38) dX12_carriesAll_38 hf (fun v12 hf => ?_)
  refine E_putI (pc := 39) dX12_carriesAll_39 (pl_X12_369 _) hf (fun μ13 hf => ?_)
  refine E_aload_n (pc := 42) dX12_carriesAll_42 rfl ?_
  refine E_aload_n (pc := 43) dX12_carriesAll_43 rfl ?_
  refine E_getR (pc := 44) dX12_carriesAll_44 fl_X12_9 hf (fun v14 hf => ?_)
  refine E_Vv (pc := 47) (d2 := D_X12_carryRow) (ci := 12) [.ref v14] dX12_carriesAll_47 ml_X12_598 mf_X12_carryRow im_X12_carryRow rfl rfl rfl (by decide) (Nat.le_of_ble_eq_true rfl) (Nat.le_of_ble_eq_true rfl) rfl (fun _ h => f_X12_carryRow_ok h) hf (fun μ15 hf => ?_)
  refine E_aload_n (pc := 50) dX12_carriesAll_50 rfl ?_
  refine E_aload_n (pc := 51) dX12_carriesAll_51 rfl ?_
  refine E_getR (pc := 52) dX12_carriesAll_52 fl_X12_13 hf (fun v16 hf => ?_)
  refine E_Vv (pc := 55) (d2 := D_X12_carryRow) (ci := 12) [.ref v16] dX12_carriesAll_55 ml_X12_598 mf_X12_carryRow im_X12_carryRow rfl rfl rfl (by decide) (Nat.le_of_ble_eq_true rfl) (Nat.le_of_ble_eq_true rfl) rfl (fun _ h => f_X12_carryRow_ok h) hf (fun μ17 hf => ?_)
  refine E_aload_n (pc := 58) dX12_carriesAll_58 rfl ?_
  refine E_aload_n (pc := 59) dX12_carriesAll_59 rfl ?_
  refine E_getR (pc := 60) dX12_carriesAll_60 fl_X12_16 hf (fun v18 hf => ?_)
  refine E_Vv (pc := 63) (d2 := D_X12_carryRow) (ci := 12) [.ref v18] dX12_carriesAll_63 ml_X12_598 mf_X12_carryRow im_X12_carryRow rfl rfl rfl (by decide) (Nat.le_of_ble_eq_true rfl) (Nat.le_of_ble_eq_true rfl) rfl (fun _ h => f_X12_carryRow_ok h) hf (fun μ19 hf => ?_)
  refine E_aload_n (pc := 66) dX12_carriesAll_66 rfl ?_
  refine E_aload_n (pc := 67) dX12_carriesAll_67 rfl ?_
  refine E_getR (pc := 68) dX12_carriesAll_68 fl_X12_19 hf (fun v20 hf => ?_)
  refine E_Vv (pc := 71) (d2 := D_X12_carryRow) (ci := 12) [.ref v20] dX12_carriesAll_71 ml_X12_598 mf_X12_carryRow im_X12_carryRow rfl rfl rfl (by decide) (Nat.le_of_ble_eq_true rfl) (Nat.le_of_ble_eq_true rfl) rfl (fun _ h => f_X12_carryRow_ok h) hf (fun μ21 hf => ?_)
  refine E_aload_n (pc := 74) dX12_carriesAll_74 rfl ?_
  refine E_aload_n (pc := 75) dX12_carriesAll_75 rfl ?_
  refine E_getR (pc := 76) dX12_carriesAll_76 fl_X12_22 hf (fun v22 hf => ?_)
  refine E_Vv (pc := 79) (d2 := D_X12_carryRow) (ci := 12) [.ref v22] dX12_carriesAll_79 ml_X12_598 mf_X12_carryRow im_X12_carryRow rfl rfl rfl (by decide) (Nat.le_of_ble_eq_true rfl) (Nat.le_of_ble_eq_true rfl) rfl (fun _ h => f_X12_carryRow_ok h) hf (fun μ23 hf => ?_)
  refine E_aload_n (pc := 82) dX12_carriesAll_82 rfl ?_
  refine E_aload_n (pc := 83) dX12_carriesAll_83 rfl ?_
  refine E_getR (pc := 84) dX12_carriesAll_84 fl_X12_25 hf (fun v24 hf => ?_)
  refine E_Vv (pc := 87) (d2 := D_X12_carryRow) (ci := 12) [.ref v24] dX12_carriesAll_87 ml_X12_598 mf_X12_carryRow im_X12_carryRow rfl rfl rfl (by decide) (Nat.le_of_ble_eq_true rfl) (Nat.le_of_ble_eq_true rfl) rfl (fun _ h => f_X12_carryRow_ok h) hf (fun μ25 hf => ?_)
  refine E_aload_n (pc := 90) dX12_carriesAll_90 rfl ?_
  refine E_aload_n (pc := 91) dX12_carriesAll_91 rfl ?_
  refine E_getR (pc := 92) dX12_carriesAll_92 fl_X12_28 hf (fun v26 hf => ?_)
  refine E_Vv (pc := 95) (d2 := D_X12_carryRow) (ci := 12) [.ref v26] dX12_carriesAll_95 ml_X12_598 mf_X12_carryRow im_X12_carryRow rfl rfl rfl (by decide) (Nat.le_of_ble_eq_true rfl) (Nat.le_of_ble_eq_true rfl) rfl (fun _ h => f_X12_carryRow_ok h) hf (fun μ27 hf => ?_)
  refine E_aload_n (pc := 98) dX12_carriesAll_98 rfl ?_
  refine E_aload_n (pc := 99) dX12_carriesAll_99 rfl ?_
  refine E_getR (pc := 100) dX12_carriesAll_100 fl_X12_31 hf (fun v28 hf => ?_)
  refine E_Vv (pc := 103) (d2 := D_X12_carryRow) (ci := 12) [.ref v28] dX12_carriesAll_103 ml_X12_598 mf_X12_carryRow im_X12_carryRow rfl rfl rfl (by decide) (Nat.le_of_ble_eq_true rfl) (Nat.le_of_ble_eq_true rfl) rfl (fun _ h => f_X12_carryRow_ok h) hf (fun μ29 hf => ?_)
  refine E_aload_n (pc := 106) dX12_carriesAll_106 rfl ?_
  refine E_aload_n (pc := 107) dX12_carriesAll_107 rfl ?_
  refine E_getR (pc := 108) dX12_carriesAll_108 fl_X12_34 hf (fun v30 hf => ?_)
  refine E_Vv (pc := 111) (d2 := D_X12_carryRow) (ci := 12) [.ref v30] dX12_carriesAll_111 ml_X12_598 mf_X12_carryRow im_X12_carryRow rfl rfl rfl (by decide) (Nat.le_of_ble_eq_true rfl) (Nat.le_of_ble_eq_true rfl) rfl (fun _ h => f_X12_carryRow_ok h) hf (fun μ31 hf => ?_)
  refine E_aload_n (pc := 114) dX12_carriesAll_114 rfl ?_
  refine E_aload_n (pc := 115) dX12_carriesAll_115 rfl ?_
  refine E_getR (pc := 116) dX12_carriesAll_116 fl_X12_37 hf (fun v32 hf => ?_)
  refine E_Vv (pc := 119) (d2 := D_X12_carryRow) (ci := 12) [.ref v32] dX12_carriesAll_119 ml_X12_598 mf_X12_carryRow im_X12_carryRow rfl rfl rfl (by decide) (Nat.le_of_ble_eq_true rfl) (Nat.le_of_ble_eq_true rfl) rfl (fun _ h => f_X12_carryRow_ok h) hf (fun μ33 hf => ?_)
  refine E_aload_n (pc := 122) dX12_carriesAll_122 rfl ?_
  refine E_aload_n (pc := 123) dX12_carriesAll_123 rfl ?_
  refine E_getR (pc := 124) dX12_carriesAll_124 fl_X12_40 hf (fun v34 hf => ?_)
  refine E_Vv (pc := 127) (d2 := D_X12_carryRow) (ci := 12) [.ref v34] dX12_carriesAll_127 ml_X12_598 mf_X12_carryRow im_X12_carryRow rfl rfl rfl (by decide) (Nat.le_of_ble_eq_true rfl) (Nat.le_of_ble_eq_true rfl) rfl (fun _ h => f_X12_carryRow_ok h) hf (fun μ35 hf => ?_)
  refine E_aload_n (pc := 130) dX12_carriesAll_130 rfl ?_
  refine E_aload_n (pc := 131) dX12_carriesAll_131 rfl ?_
  refine E_getR (pc := 132) dX12_carriesAll_132 fl_X12_43 hf (fun v36 hf => ?_)
  refine E_Vv (pc := 135) (d2 := D_X12_carryRow) (ci := 12) [.ref v36] dX12_carriesAll_135 ml_X12_598 mf_X12_carryRow im_X12_carryRow rfl rfl rfl (by decide) (Nat.le_of_ble_eq_true rfl) (Nat.le_of_ble_eq_true rfl) rfl (fun _ h => f_X12_carryRow_ok h) hf (fun μ37 hf => ?_)
  refine E_aload_n (pc := 138) dX12_carriesAll_138 rfl ?_
  refine E_aload_n (pc := 139) dX12_carriesAll_139 rfl ?_
  refine E_getR (pc := 140) dX12_carriesAll_140 fl_X12_46 hf (fun v38 hf => ?_)
  refine E_Vv (pc := 143) (d2 := D_X12_carryRow) (ci := 12) [.ref v38] dX12_carriesAll_143 ml_X12_598 mf_X12_carryRow im_X12_carryRow rfl rfl rfl (by decide) (Nat.le_of_ble_eq_true rfl) (Nat.le_of_ble_eq_true rfl) rfl (fun _ h => f_X12_carryRow_ok h) hf (fun μ39 hf => ?_)
  refine E_aload_n (pc := 146) dX12_carriesAll_146 rfl ?_
  refine E_aload_n (pc := 147) dX12_carriesAll_147 rfl ?_
  refine E_getR (pc := 148) dX12_carriesAll_148 fl_X12_49 hf (fun v40 hf => ?_)
  refine E_Vv (pc := 151) (d2 := D_X12_carryRow) (ci := 12) [.ref v40] dX12_carriesAll_151 ml_X12_598 mf_X12_carryRow im_X12_carryRow rfl rfl rfl (by decide) (Nat.le_of_ble_eq_true rfl) (Nat.le_of_ble_eq_true rfl) rfl (fun _ h => f_X12_carryRow_ok h) hf (fun μ41 hf => ?_)
  refine E_aload_n (pc := 154) dX12_carriesAll_154 rfl ?_
  refine E_aload_n (pc := 155) dX12_carriesAll_155 rfl ?_
  refine E_getR (pc := 156) dX12_carriesAll_156 fl_X12_128 hf (fun v42 hf => ?_)
  refine E_Vv (pc := 159) (d2 := D_X12_carryRow) (ci := 12) [.ref v42] dX12_carriesAll_159 ml_X12_598 mf_X12_carryRow im_X12_carryRow rfl rfl rfl (by decide) (Nat.le_of_ble_eq_true rfl) (Nat.le_of_ble_eq_true rfl) rfl (fun _ h => f_X12_carryRow_ok h) hf (fun μ43 hf => ?_)
  exact E_vret (pc := 162) dX12_carriesAll_162 rfl hf
theorem dX12_keepsAll_0 : decode cX12_keepsAll 0 = .ok (.aload_n 0, 1) := by decide +kernel
theorem dX12_keepsAll_1 : decode cX12_keepsAll 1 = .ok (.iconst 4, 1) := by decide +kernel
theorem dX12_keepsAll_2 : decode cX12_keepsAll 2 = .ok (.iconst 0, 1) := by decide +kernel
theorem dX12_keepsAll_3 : decode cX12_keepsAll 3 = .ok (.invokevirtual 576, 3) := by decide +kernel
theorem dX12_keepsAll_6 : decode cX12_keepsAll 6 = .ok (.return_, 1) := by decide +kernel
abbrev D_X12_keepsAll : Nat := 3
set_option maxRecDepth 100000 in
def f_X12_keepsAll (μ0 : Mm) (a1 : Nat) : Option Mm :=
 ((ob μ0 a1 12).bind fun _ =>
    ((f_X12_carriesAll μ0 a1 (4 : Int32) (0 : Int32)).bind fun μ2 =>
    (some μ2)))
set_option maxHeartbeats 4000000 in
set_option maxRecDepth 100000 in
theorem f_X12_keepsAll_ok {l : Launch} {G : GG} {μ0 : Mm} {a1 : Nat} {μ' : Mm} (hf : f_X12_keepsAll μ0 a1 = some μ') : EvM l G D_X12_keepsAll yX12_keepsAll cX12_keepsAll 1 none [.ref a1] μ0 none μ' := by
  show Ev l G D_X12_keepsAll yX12_keepsAll cX12_keepsAll 1 none 0 [(0, .ref a1)] [] μ0 none μ'
  unfold f_X12_keepsAll at hf
  refine E_aload_n (pc := 0) dX12_keepsAll_0 rfl ?_
  refine E_iconst (pc := 1) (v := (4 : Int32)) dX12_keepsAll_1 (by decide) ?_
  refine E_iconst (pc := 2) (v := (0 : Int32)) dX12_keepsAll_2 (by decide) ?_
  refine E_Vv (pc := 3) (d2 := D_X12_carriesAll) (ci := 12) [.int (4 : Int32), .int (0 : Int32)] dX12_keepsAll_3 ml_X12_576 mf_X12_carriesAll im_X12_carriesAll rfl rfl rfl (by decide) (Nat.le_of_ble_eq_true rfl) (Nat.le_of_ble_eq_true rfl) rfl (fun _ h => f_X12_carriesAll_ok h) hf (fun μ2 hf => ?_)
  exact E_vret (pc := 6) dX12_keepsAll_6 rfl hf
theorem dX12_laysBack_0 : decode cX12_laysBack 0 = .ok (.aload_n 0, 1) := by decide +kernel
theorem dX12_laysBack_1 : decode cX12_laysBack 1 = .ok (.iconst 4, 1) := by decide +kernel
theorem dX12_laysBack_2 : decode cX12_laysBack 2 = .ok (.iconst 1, 1) := by decide +kernel
theorem dX12_laysBack_3 : decode cX12_laysBack 3 = .ok (.invokevirtual 576, 3) := by decide +kernel
theorem dX12_laysBack_6 : decode cX12_laysBack 6 = .ok (.return_, 1) := by decide +kernel
abbrev D_X12_laysBack : Nat := 3
set_option maxRecDepth 100000 in
def f_X12_laysBack (μ0 : Mm) (a1 : Nat) : Option Mm :=
 ((ob μ0 a1 12).bind fun _ =>
    ((f_X12_carriesAll μ0 a1 (4 : Int32) (1 : Int32)).bind fun μ2 =>
    (some μ2)))
set_option maxHeartbeats 4000000 in
set_option maxRecDepth 100000 in
theorem f_X12_laysBack_ok {l : Launch} {G : GG} {μ0 : Mm} {a1 : Nat} {μ' : Mm} (hf : f_X12_laysBack μ0 a1 = some μ') : EvM l G D_X12_laysBack yX12_laysBack cX12_laysBack 1 none [.ref a1] μ0 none μ' := by
  show Ev l G D_X12_laysBack yX12_laysBack cX12_laysBack 1 none 0 [(0, .ref a1)] [] μ0 none μ'
  unfold f_X12_laysBack at hf
  refine E_aload_n (pc := 0) dX12_laysBack_0 rfl ?_
  refine E_iconst (pc := 1) (v := (4 : Int32)) dX12_laysBack_1 (by decide) ?_
  refine E_iconst (pc := 2) (v := (1 : Int32)) dX12_laysBack_2 (by decide) ?_
  refine E_Vv (pc := 3) (d2 := D_X12_carriesAll) (ci := 12) [.int (4 : Int32), .int (1 : Int32)] dX12_laysBack_3 ml_X12_576 mf_X12_carriesAll im_X12_carriesAll rfl rfl rfl (by decide) (Nat.le_of_ble_eq_true rfl) (Nat.le_of_ble_eq_true rfl) rfl (fun _ h => f_X12_carriesAll_ok h) hf (fun μ2 hf => ?_)
  exact E_vret (pc := 6) dX12_laysBack_6 rfl hf
theorem dX12_terms_0 : decode cX12_terms 0 = .ok (.aload_n 0, 1) := by decide +kernel
theorem dX12_terms_1 : decode cX12_terms 1 = .ok (.invokevirtual 537, 3) := by decide +kernel
theorem dX12_terms_4 : decode cX12_terms 4 = .ok (.ifCond .eq 39, 3) := by decide +kernel
theorem dX12_terms_7 : decode cX12_terms 7 = .ok (.iload_n 1, 1) := by decide +kernel
theorem dX12_terms_8 : decode cX12_terms 8 = .ok (.i2l, 1) := by decide +kernel
theorem dX12_terms_9 : decode cX12_terms 9 = .ok (.lconst 1, 1) := by decide +kernel
theorem dX12_terms_10 : decode cX12_terms 10 = .ok (.ldc2_w 579, 3) := by decide +kernel
theorem dX12_terms_13 : decode cX12_terms 13 = .ok (.invokestatic 183, 3) := by decide +kernel
theorem dX12_terms_16 : decode cX12_terms 16 = .ok (.ifCond .eq 27, 3) := by decide +kernel
theorem dX12_terms_19 : decode cX12_terms 19 = .ok (.iload_n 2, 1) := by decide +kernel
theorem dX12_terms_20 : decode cX12_terms 20 = .ok (.i2l, 1) := by decide +kernel
theorem dX12_terms_21 : decode cX12_terms 21 = .ok (.lconst 1, 1) := by decide +kernel
theorem dX12_terms_22 : decode cX12_terms 22 = .ok (.ldc2_w 581, 3) := by decide +kernel
theorem dX12_terms_25 : decode cX12_terms 25 = .ok (.invokestatic 183, 3) := by decide +kernel
theorem dX12_terms_28 : decode cX12_terms 28 = .ok (.ifCond .eq 15, 3) := by decide +kernel
theorem dX12_terms_31 : decode cX12_terms 31 = .ok (.iload_n 3, 1) := by decide +kernel
theorem dX12_terms_32 : decode cX12_terms 32 = .ok (.i2l, 1) := by decide +kernel
theorem dX12_terms_33 : decode cX12_terms 33 = .ok (.lconst 0, 1) := by decide +kernel
theorem dX12_terms_34 : decode cX12_terms 34 = .ok (.ldc2_w 526, 3) := by decide +kernel
theorem dX12_terms_37 : decode cX12_terms 37 = .ok (.invokestatic 183, 3) := by decide +kernel
theorem dX12_terms_40 : decode cX12_terms 40 = .ok (.ifCond .ne 5, 3) := by decide +kernel
theorem dX12_terms_43 : decode cX12_terms 43 = .ok (.iconst (-1), 1) := by decide +kernel
theorem dX12_terms_44 : decode cX12_terms 44 = .ok (.ireturn, 1) := by decide +kernel
theorem dX12_terms_45 : decode cX12_terms 45 = .ok (.aload_n 0, 1) := by decide +kernel
theorem dX12_terms_46 : decode cX12_terms 46 = .ok (.getfield 9, 3) := by decide +kernel
theorem dX12_terms_49 : decode cX12_terms 49 = .ok (.bipush 9, 2) := by decide +kernel
theorem dX12_terms_51 : decode cX12_terms 51 = .ok (.iaload, 1) := by decide +kernel
theorem dX12_terms_52 : decode cX12_terms 52 = .ok (.istore 4, 2) := by decide +kernel
theorem dX12_terms_54 : decode cX12_terms 54 = .ok (.iload 4, 2) := by decide +kernel
theorem dX12_terms_56 : decode cX12_terms 56 = .ok (.istore 5, 2) := by decide +kernel
theorem dX12_terms_58 : decode cX12_terms 58 = .ok (.iconst 0, 1) := by decide +kernel
theorem dX12_terms_59 : decode cX12_terms 59 = .ok (.istore 6, 2) := by decide +kernel
theorem dX12_terms_61 : decode cX12_terms 61 = .ok (.aload_n 0, 1) := by decide +kernel
theorem dX12_terms_62 : decode cX12_terms 62 = .ok (.invokevirtual 583, 3) := by decide +kernel
theorem dX12_terms_65 : decode cX12_terms 65 = .ok (.iconst 0, 1) := by decide +kernel
theorem dX12_terms_66 : decode cX12_terms 66 = .ok (.istore 7, 2) := by decide +kernel
theorem dX12_terms_68 : decode cX12_terms 68 = .ok (.iload 7, 2) := by decide +kernel
theorem dX12_terms_70 : decode cX12_terms 70 = .ok (.iload_n 1, 1) := by decide +kernel
theorem dX12_terms_71 : decode cX12_terms 71 = .ok (.if_icmp .ge 128, 3) := by decide +kernel
theorem dX12_terms_74 : decode cX12_terms 74 = .ok (.aload_n 0, 1) := by decide +kernel
theorem dX12_terms_75 : decode cX12_terms 75 = .ok (.getfield 9, 3) := by decide +kernel
theorem dX12_terms_78 : decode cX12_terms 78 = .ok (.bipush 9, 2) := by decide +kernel
theorem dX12_terms_80 : decode cX12_terms 80 = .ok (.iload 5, 2) := by decide +kernel
theorem dX12_terms_82 : decode cX12_terms 82 = .ok (.iastore, 1) := by decide +kernel
theorem dX12_terms_83 : decode cX12_terms 83 = .ok (.iconst 0, 1) := by decide +kernel
theorem dX12_terms_84 : decode cX12_terms 84 = .ok (.istore 8, 2) := by decide +kernel
theorem dX12_terms_86 : decode cX12_terms 86 = .ok (.iload 8, 2) := by decide +kernel
theorem dX12_terms_88 : decode cX12_terms 88 = .ok (.iload_n 2, 1) := by decide +kernel
theorem dX12_terms_89 : decode cX12_terms 89 = .ok (.if_icmp .ge 91, 3) := by decide +kernel
theorem dX12_terms_92 : decode cX12_terms 92 = .ok (.aload_n 0, 1) := by decide +kernel
theorem dX12_terms_93 : decode cX12_terms 93 = .ok (.getfield 9, 3) := by decide +kernel
theorem dX12_terms_96 : decode cX12_terms 96 = .ok (.iconst 2, 1) := by decide +kernel
theorem dX12_terms_97 : decode cX12_terms 97 = .ok (.iaload, 1) := by decide +kernel
theorem dX12_terms_98 : decode cX12_terms 98 = .ok (.ifCond .le 82, 3) := by decide +kernel
theorem dX12_terms_101 : decode cX12_terms 101 = .ok (.aload_n 0, 1) := by decide +kernel
theorem dX12_terms_102 : decode cX12_terms 102 = .ok (.aload_n 0, 1) := by decide +kernel
theorem dX12_terms_103 : decode cX12_terms 103 = .ok (.getfield 9, 3) := by decide +kernel
theorem dX12_terms_106 : decode cX12_terms 106 = .ok (.iconst 2, 1) := by decide +kernel
theorem dX12_terms_107 : decode cX12_terms 107 = .ok (.iaload, 1) := by decide +kernel
theorem dX12_terms_108 : decode cX12_terms 108 = .ok (.invokevirtual 586, 3) := by decide +kernel
theorem dX12_terms_111 : decode cX12_terms 111 = .ok (.istore 9, 2) := by decide +kernel
theorem dX12_terms_113 : decode cX12_terms 113 = .ok (.aload_n 0, 1) := by decide +kernel
theorem dX12_terms_114 : decode cX12_terms 114 = .ok (.getfield 16, 3) := by decide +kernel
theorem dX12_terms_117 : decode cX12_terms 117 = .ok (.iload 9, 2) := by decide +kernel
theorem dX12_terms_119 : decode cX12_terms 119 = .ok (.aload_n 0, 1) := by decide +kernel
theorem dX12_terms_120 : decode cX12_terms 120 = .ok (.aload_n 0, 1) := by decide +kernel
theorem dX12_terms_121 : decode cX12_terms 121 = .ok (.invokevirtual 179, 3) := by decide +kernel
theorem dX12_terms_124 : decode cX12_terms 124 = .ok (.invokevirtual 586, 3) := by decide +kernel
theorem dX12_terms_127 : decode cX12_terms 127 = .ok (.iastore, 1) := by decide +kernel
theorem dX12_terms_128 : decode cX12_terms 128 = .ok (.aload_n 0, 1) := by decide +kernel
theorem dX12_terms_129 : decode cX12_terms 129 = .ok (.iload 9, 2) := by decide +kernel
theorem dX12_terms_131 : decode cX12_terms 131 = .ok (.aload_n 0, 1) := by decide +kernel
theorem dX12_terms_132 : decode cX12_terms 132 = .ok (.iconst 5, 1) := by decide +kernel
theorem dX12_terms_133 : decode cX12_terms 133 = .ok (.invokevirtual 586, 3) := by decide +kernel
theorem dX12_terms_136 : decode cX12_terms 136 = .ok (.invokevirtual 506, 3) := by decide +kernel
theorem dX12_terms_139 : decode cX12_terms 139 = .ok (.istore 10, 2) := by decide +kernel
theorem dX12_terms_141 : decode cX12_terms 141 = .ok (.iload 6, 2) := by decide +kernel
theorem dX12_terms_143 : decode cX12_terms 143 = .ok (.iload_n 3, 1) := by decide +kernel
theorem dX12_terms_144 : decode cX12_terms 144 = .ok (.ifCond .ne 8, 3) := by decide +kernel
theorem dX12_terms_147 : decode cX12_terms 147 = .ok (.iload 10, 2) := by decide +kernel
theorem dX12_terms_149 : decode cX12_terms 149 = .ok (.goto 22, 3) := by decide +kernel
theorem dX12_terms_152 : decode cX12_terms 152 = .ok (.iload_n 3, 1) := by decide +kernel
theorem dX12_terms_153 : decode cX12_terms 153 = .ok (.iconst 1, 1) := by decide +kernel
theorem dX12_terms_154 : decode cX12_terms 154 = .ok (.if_icmp .ne 13, 3) := by decide +kernel
theorem dX12_terms_157 : decode cX12_terms 157 = .ok (.aload_n 0, 1) := by decide +kernel
theorem dX12_terms_158 : decode cX12_terms 158 = .ok (.getfield 443, 3) := by decide +kernel
theorem dX12_terms_161 : decode cX12_terms 161 = .ok (.invokestatic 453, 3) := by decide +kernel
theorem dX12_terms_164 : decode cX12_terms 164 = .ok (.goto 7, 3) := by decide +kernel
theorem dX12_terms_167 : decode cX12_terms 167 = .ok (.aload_n 0, 1) := by decide +kernel
theorem dX12_terms_168 : decode cX12_terms 168 = .ok (.getfield 437, 3) := by decide +kernel
theorem dX12_terms_171 : decode cX12_terms 171 = .ok (.iadd, 1) := by decide +kernel
theorem dX12_terms_172 : decode cX12_terms 172 = .ok (.istore 6, 2) := by decide +kernel
theorem dX12_terms_174 : decode cX12_terms 174 = .ok (.iinc 8 1, 3) := by decide +kernel
theorem dX12_terms_177 : decode cX12_terms 177 = .ok (.goto (-91), 3) := by decide +kernel
theorem dX12_terms_180 : decode cX12_terms 180 = .ok (.aload_n 0, 1) := by decide +kernel
theorem dX12_terms_181 : decode cX12_terms 181 = .ok (.getfield 9, 3) := by decide +kernel
theorem dX12_terms_184 : decode cX12_terms 184 = .ok (.bipush 9, 2) := by decide +kernel
theorem dX12_terms_186 : decode cX12_terms 186 = .ok (.iaload, 1) := by decide +kernel
theorem dX12_terms_187 : decode cX12_terms 187 = .ok (.istore 5, 2) := by decide +kernel
theorem dX12_terms_189 : decode cX12_terms 189 = .ok (.aload_n 0, 1) := by decide +kernel
theorem dX12_terms_190 : decode cX12_terms 190 = .ok (.invokevirtual 589, 3) := by decide +kernel
theorem dX12_terms_193 : decode cX12_terms 193 = .ok (.iinc 7 1, 3) := by decide +kernel
theorem dX12_terms_196 : decode cX12_terms 196 = .ok (.goto (-128), 3) := by decide +kernel
theorem dX12_terms_199 : decode cX12_terms 199 = .ok (.aload_n 0, 1) := by decide +kernel
theorem dX12_terms_200 : decode cX12_terms 200 = .ok (.getfield 9, 3) := by decide +kernel
theorem dX12_terms_203 : decode cX12_terms 203 = .ok (.bipush 9, 2) := by decide +kernel
theorem dX12_terms_205 : decode cX12_terms 205 = .ok (.iload 4, 2) := by decide +kernel
theorem dX12_terms_207 : decode cX12_terms 207 = .ok (.iastore, 1) := by decide +kernel
theorem dX12_terms_208 : decode cX12_terms 208 = .ok (.iload 6, 2) := by decide +kernel
theorem dX12_terms_210 : decode cX12_terms 210 = .ok (.ireturn, 1) := by decide +kernel
abbrev D_X12_terms : Nat := 9
def f_X12_terms_L86 (K180 : Mm → Nat → Int32 → Int32 → Int32 → Int32 → Int32 → Int32 → Option (Int32 × Mm)) : Nat → Mm → Nat → Int32 → Int32 → Int32 → Int32 → Int32 → Int32 → Int32 → Option (Int32 × Mm)
  | 0, _, _, _, _, _, _, _, _, _ => none
  | n + 1, μ0, a31, x32, x33, x34, x35, x36, x37, x38 =>
    (if x33 ≤ x38 then
    K180 μ0 a31 x32 x33 x34 x35 x36 x37
    else
    ((gR μ0 a31 12 1).bind fun v39 =>
    ((aI μ0 v39 0 (2 : Int32)).bind fun v40 =>
    (if v40 ≤ 0 then
    K180 μ0 a31 x32 x33 x34 x35 x36 x37
    else
    ((gR μ0 a31 12 1).bind fun v41 =>
    ((aI μ0 v41 0 (2 : Int32)).bind fun v42 =>
    ((ob μ0 a31 12).bind fun _ =>
    (bd (f_X12_draws μ0 a31 v42) fun v44 μ43 =>
    (nm v44 fun x45 =>
    ((gR μ43 a31 12 3).bind fun v46 =>
    ((ob μ43 a31 12).bind fun _ =>
    (bd (f_X12_cells μ43 a31) fun v48 μ47 =>
    ((ob μ47 a31 12).bind fun _ =>
    (bd (f_X12_draws μ47 a31 v48) fun v50 μ49 =>
    ((sI μ49 v46 0 x45 v50).bind fun μ51 =>
    ((ob μ51 a31 12).bind fun _ =>
    (bd (f_X12_draws μ51 a31 (5 : Int32)) fun v53 μ52 =>
    ((ob μ52 a31 12).bind fun _ =>
    (bd (f_X12_fallsNow μ52 a31 x45 v53) fun v55 μ54 =>
    (nm v55 fun x56 =>
    (if x34 = 0 then
    (nm (x36 + x56) fun x57 =>
    (nm (x38 + Int32.ofInt (1)) fun x58 =>
    f_X12_terms_L86 K180 n μ54 a31 x32 x33 x34 x35 x57 x37 x58))
    else
    (if x34 = (1 : Int32) then
    ((gI μ54 a31 12 51).bind fun v59 =>
    (bd (f_X12_bits μ54 v59) fun v61 μ60 =>
    (nm (x36 + v61) fun x62 =>
    (nm (x38 + Int32.ofInt (1)) fun x63 =>
    f_X12_terms_L86 K180 n μ60 a31 x32 x33 x34 x35 x62 x37 x63))))
    else
    ((gI μ54 a31 12 49).bind fun v64 =>
    (nm (x36 + v64) fun x65 =>
    (nm (x38 + Int32.ofInt (1)) fun x66 =>
    f_X12_terms_L86 K180 n μ54 a31 x32 x33 x34 x35 x65 x37 x66)))))))))))))))))))))))))
set_option maxHeartbeats 4000000 in
set_option maxRecDepth 100000 in
theorem f_X12_terms_L86_ok {l : Launch} {G : GG} {K180 : Mm → Nat → Int32 → Int32 → Int32 → Int32 → Int32 → Int32 → Option (Int32 × Mm)} {r : Int32} {μ' : Mm} (n : Nat) (μ0 : Mm) (a31 : Nat) (x32 : Int32) (x33 : Int32) (x34 : Int32) (x35 : Int32) (x36 : Int32) (x37 : Int32) (x38 : Int32) (hf : f_X12_terms_L86 K180 n μ0 a31 x32 x33 x34 x35 x36 x37 x38 = some (r, μ')) (hK180 : ∀ (μ1 : Mm) (y0 : Nat) (y1 : Int32) (y2 : Int32) (y3 : Int32) (y4 : Int32) (y6 : Int32) (y7 : Int32), K180 μ1 y0 y1 y2 y3 y4 y6 y7 = some (r, μ') → Ev l G D_X12_terms yX12_terms cX12_terms 11 (some .int) 180 [(0, .ref y0), (1, .int y1), (2, .int y2), (3, .int y3), (4, .int y4), (6, .int y6), (7, .int y7)] [] μ1 (some (.int r)) μ') : Ev l G D_X12_terms yX12_terms cX12_terms 11 (some .int) 86 [(0, .ref a31), (1, .int x32), (2, .int x33), (3, .int x34), (4, .int x35), (6, .int x36), (7, .int x37), (8, .int x38)] [] μ0 (some (.int r)) μ' := by
  induction n generalizing μ0 a31 x32 x33 x34 x35 x36 x37 x38 with
  | zero => cases hf
  | succ n ih0 =>
    have ih : ∀ (μ0 : Mm) (a31 : Nat) (x32 : Int32) (x33 : Int32) (x34 : Int32) (x35 : Int32) (x36 : Int32) (x37 : Int32) (x38 : Int32), f_X12_terms_L86 K180 n μ0 a31 x32 x33 x34 x35 x36 x37 x38 = some (r, μ') → Ev l G D_X12_terms yX12_terms cX12_terms 11 (some .int) 86 [(0, .ref a31), (1, .int x32), (2, .int x33), (3, .int x34), (4, .int x35), (6, .int x36), (7, .int x37), (8, .int x38)] [] μ0 (some (.int r)) μ' := fun μ0 a31 x32 x33 x34 x35 x36 x37 x38 hf => ih0 μ0 a31 x32 x33 x34 x35 x36 x37 x38 hf
    rw [f_X12_terms_L86] at hf
    refine E_iload (pc := 86) dX12_terms_86 rfl ?_
    refine E_iload_n (pc := 88) dX12_terms_88 rfl ?_
    refine E_icmp_ge (pc := 89) (tgt := 180) dX12_terms_89 (by decide) hf (fun hf => ?_) (fun hf => ?_)
    · refine Ev.sub [0, 1, 2, 3, 4, 5, 6] rfl ?_
      exact hK180 _ _ _ _ _ _ _ _ hf
    · refine E_aload_n (pc := 92) dX12_terms_92 rfl ?_
      refine E_getR (pc := 93) dX12_terms_93 fl_X12_9 hf (fun v39 hf => ?_)
      refine E_iconst (pc := 96) (v := (2 : Int32)) dX12_terms_96 (by decide) ?_
      refine E_iald (pc := 97) dX12_terms_97 hf (fun v40 hf => ?_)
      refine E_if_le (pc := 98) (tgt := 180) dX12_terms_98 (by decide) hf (fun hf => ?_) (fun hf => ?_)
      · refine Ev.sub [0, 1, 2, 3, 4, 5, 6] rfl ?_
        exact hK180 _ _ _ _ _ _ _ _ hf
      · refine E_aload_n (pc := 101) dX12_terms_101 rfl ?_
        refine E_aload_n (pc := 102) dX12_terms_102 rfl ?_
        refine E_getR (pc := 103) dX12_terms_103 fl_X12_9 hf (fun v41 hf => ?_)
        refine E_iconst (pc := 106) (v := (2 : Int32)) dX12_terms_106 (by decide) ?_
        refine E_iald (pc := 107) dX12_terms_107 hf (fun v42 hf => ?_)
        refine E_Vi (pc := 108) (d2 := D_X12_draws) (ci := 12) [.int v42] dX12_terms_108 ml_X12_586 mf_X12_draws im_X12_draws rfl rfl rfl (by decide) (Nat.le_of_ble_eq_true rfl) (Nat.le_of_ble_eq_true rfl) rfl (fun _ _ h => f_X12_draws_ok h) hf (fun v44 μ43 hf => ?_)
        refine E_istore (pc := 111) (ls' := fun x45 => [(9, .int x45), (0, .ref a31), (1, .int x32), (2, .int x33), (3, .int x34), (4, .int x35), (6, .int x36), (7, .int x37), (8, .int x38)]) dX12_terms_111 (by decide) (fun _ => rfl) hf (fun x45 hf => ?_)
        refine E_aload_n (pc := 113) dX12_terms_113 rfl ?_
        refine E_getR (pc := 114) dX12_terms_114 fl_X12_16 hf (fun v46 hf => ?_)
        refine E_iload (pc := 117) dX12_terms_117 rfl ?_
        refine E_aload_n (pc := 119) dX12_terms_119 rfl ?_
        refine E_aload_n (pc := 120) dX12_terms_120 rfl ?_
        refine E_Vi (pc := 121) (d2 := D_X12_cells) (ci := 12) [] dX12_terms_121 ml_X12_179 mf_X12_cells im_X12_cells rfl rfl rfl (by decide) (Nat.le_of_ble_eq_true rfl) (Nat.le_of_ble_eq_true rfl) rfl (fun _ _ h => f_X12_cells_ok h) hf (fun v48 μ47 hf => ?_)
        refine E_Vi (pc := 124) (d2 := D_X12_draws) (ci := 12) [.int v48] dX12_terms_124 ml_X12_586 mf_X12_draws im_X12_draws rfl rfl rfl (by decide) (Nat.le_of_ble_eq_true rfl) (Nat.le_of_ble_eq_true rfl) rfl (fun _ _ h => f_X12_draws_ok h) hf (fun v50 μ49 hf => ?_)
        refine E_iast (pc := 127) dX12_terms_127 hf (fun μ51 hf => ?_)
        refine E_aload_n (pc := 128) dX12_terms_128 rfl ?_
        refine E_iload (pc := 129) dX12_terms_129 rfl ?_
        refine E_aload_n (pc := 131) dX12_terms_131 rfl ?_
        refine E_iconst (pc := 132) (v := (5 : Int32)) dX12_terms_132 (by decide) ?_
        refine E_Vi (pc := 133) (d2 := D_X12_draws) (ci := 12) [.int (5 : Int32)] dX12_terms_133 ml_X12_586 mf_X12_draws im_X12_draws rfl rfl rfl (by decide) (Nat.le_of_ble_eq_true rfl) (Nat.le_of_ble_eq_true rfl) rfl (fun _ _ h => f_X12_draws_ok h) hf (fun v53 μ52 hf => ?_)
        refine E_Vi (pc := 136) (d2 := D_X12_fallsNow) (ci := 12) [.int x45, .int v53] dX12_terms_136 ml_X12_506 mf_X12_fallsNow im_X12_fallsNow rfl rfl rfl (by decide) (Nat.le_of_ble_eq_true rfl) (Nat.le_of_ble_eq_true rfl) rfl (fun _ _ h => f_X12_fallsNow_ok h) hf (fun v55 μ54 hf => ?_)
        refine E_istore (pc := 139) (ls' := fun x56 => [(10, .int x56), (9, .int x45), (0, .ref a31), (1, .int x32), (2, .int x33), (3, .int x34), (4, .int x35), (6, .int x36), (7, .int x37), (8, .int x38)]) dX12_terms_139 (by decide) (fun _ => rfl) hf (fun x56 hf => ?_)
        refine E_iload (pc := 141) dX12_terms_141 rfl ?_
        refine E_iload_n (pc := 143) dX12_terms_143 rfl ?_
        refine E_if_ne (pc := 144) (tgt := 152) dX12_terms_144 (by decide) hf (fun hf => ?_) (fun hf => ?_)
        · refine E_iload (pc := 147) dX12_terms_147 rfl ?_
          refine E_goto (pc := 149) (tgt := 171) dX12_terms_149 (by decide) ?_
          refine E_iadd (pc := 171) dX12_terms_171 ?_
          refine E_istore (pc := 172) (ls' := fun x57 => [(6, .int x57), (10, .int x56), (9, .int x45), (0, .ref a31), (1, .int x32), (2, .int x33), (3, .int x34), (4, .int x35), (7, .int x37), (8, .int x38)]) dX12_terms_172 (by decide) (fun _ => rfl) hf (fun x57 hf => ?_)
          refine E_iinc (pc := 174) (ls' := fun x58 => [(8, .int x58), (6, .int x57), (10, .int x56), (9, .int x45), (0, .ref a31), (1, .int x32), (2, .int x33), (3, .int x34), (4, .int x35), (7, .int x37)]) dX12_terms_174 rfl (by decide) (fun _ => rfl) hf (fun x58 hf => ?_)
          refine E_goto (pc := 177) (tgt := 86) dX12_terms_177 (by decide) ?_
          refine Ev.sub [4, 5, 6, 7, 8, 1, 9, 0] rfl ?_
          exact ih _ _ _ _ _ _ _ _ _ hf
        · refine E_iload_n (pc := 152) dX12_terms_152 rfl ?_
          refine E_iconst (pc := 153) (v := (1 : Int32)) dX12_terms_153 (by decide) ?_
          refine E_icmp_ne (pc := 154) (tgt := 167) dX12_terms_154 (by decide) hf (fun hf => ?_) (fun hf => ?_)
          · refine E_aload_n (pc := 157) dX12_terms_157 rfl ?_
            refine E_getI (pc := 158) dX12_terms_158 fl_X12_443 hf (fun v59 hf => ?_)
            refine E_Si (pc := 161) (d2 := D_X12_bits) [.int v59] dX12_terms_161 ml_X12_453 mf_X12_bits st_X12_bits rfl (by decide) (Nat.le_of_ble_eq_true rfl) (Nat.le_of_ble_eq_true rfl) rfl (fun _ _ h => f_X12_bits_ok h) hf (fun v61 μ60 hf => ?_)
            refine E_goto (pc := 164) (tgt := 171) dX12_terms_164 (by decide) ?_
            refine E_iadd (pc := 171) dX12_terms_171 ?_
            refine E_istore (pc := 172) (ls' := fun x62 => [(6, .int x62), (10, .int x56), (9, .int x45), (0, .ref a31), (1, .int x32), (2, .int x33), (3, .int x34), (4, .int x35), (7, .int x37), (8, .int x38)]) dX12_terms_172 (by decide) (fun _ => rfl) hf (fun x62 hf => ?_)
            refine E_iinc (pc := 174) (ls' := fun x63 => [(8, .int x63), (6, .int x62), (10, .int x56), (9, .int x45), (0, .ref a31), (1, .int x32), (2, .int x33), (3, .int x34), (4, .int x35), (7, .int x37)]) dX12_terms_174 rfl (by decide) (fun _ => rfl) hf (fun x63 hf => ?_)
            refine E_goto (pc := 177) (tgt := 86) dX12_terms_177 (by decide) ?_
            refine Ev.sub [4, 5, 6, 7, 8, 1, 9, 0] rfl ?_
            exact ih _ _ _ _ _ _ _ _ _ hf
          · refine E_aload_n (pc := 167) dX12_terms_167 rfl ?_
            refine E_getI (pc := 168) dX12_terms_168 fl_X12_437 hf (fun v64 hf => ?_)
            refine E_iadd (pc := 171) dX12_terms_171 ?_
            refine E_istore (pc := 172) (ls' := fun x65 => [(6, .int x65), (10, .int x56), (9, .int x45), (0, .ref a31), (1, .int x32), (2, .int x33), (3, .int x34), (4, .int x35), (7, .int x37), (8, .int x38)]) dX12_terms_172 (by decide) (fun _ => rfl) hf (fun x65 hf => ?_)
            refine E_iinc (pc := 174) (ls' := fun x66 => [(8, .int x66), (6, .int x65), (10, .int x56), (9, .int x45), (0, .ref a31), (1, .int x32), (2, .int x33), (3, .int x34), (4, .int x35), (7, .int x37)]) dX12_terms_174 rfl (by decide) (fun _ => rfl) hf (fun x66 hf => ?_)
            refine E_goto (pc := 177) (tgt := 86) dX12_terms_177 (by decide) ?_
            refine Ev.sub [4, 5, 6, 7, 8, 1, 9, 0] rfl ?_
            exact ih _ _ _ _ _ _ _ _ _ hf
def f_X12_terms_L68 (K199 : Mm → Nat → Int32 → Int32 → Option (Int32 × Mm)) : Nat → Mm → Nat → Int32 → Int32 → Int32 → Int32 → Int32 → Int32 → Int32 → Option (Int32 × Mm)
  | 0, _, _, _, _, _, _, _, _, _ => none
  | n + 1, μ0, a20, x21, x22, x23, x24, x25, x26, x27 =>
    (if x21 ≤ x27 then
    K199 μ0 a20 x24 x26
    else
    ((gR μ0 a20 12 1).bind fun v28 =>
    ((sI μ0 v28 0 (9 : Int32) x25).bind fun μ29 =>
    (nm (0 : Int32) fun x30 =>
    f_X12_terms_L86 (fun μ67 a68 x69 x70 x71 x72 x73 x74 =>
    ((gR μ67 a68 12 1).bind fun v75 =>
    ((aI μ67 v75 0 (9 : Int32)).bind fun v76 =>
    (nm v76 fun x77 =>
    ((ob μ67 a68 12).bind fun _ =>
    ((f_X12_laysBack μ67 a68).bind fun μ78 =>
    (nm (x74 + Int32.ofInt (1)) fun x79 =>
    f_X12_terms_L68 K199 n μ78 a68 x69 x70 x71 x72 x77 x73 x79))))))) FU μ29 a20 x21 x22 x23 x24 x26 x27 x30))))
set_option maxHeartbeats 4000000 in
set_option maxRecDepth 100000 in
theorem f_X12_terms_L68_ok {l : Launch} {G : GG} {K199 : Mm → Nat → Int32 → Int32 → Option (Int32 × Mm)} {r : Int32} {μ' : Mm} (n : Nat) (μ0 : Mm) (a20 : Nat) (x21 : Int32) (x22 : Int32) (x23 : Int32) (x24 : Int32) (x25 : Int32) (x26 : Int32) (x27 : Int32) (hf : f_X12_terms_L68 K199 n μ0 a20 x21 x22 x23 x24 x25 x26 x27 = some (r, μ')) (hK199 : ∀ (μ1 : Mm) (y0 : Nat) (y4 : Int32) (y6 : Int32), K199 μ1 y0 y4 y6 = some (r, μ') → Ev l G D_X12_terms yX12_terms cX12_terms 11 (some .int) 199 [(0, .ref y0), (4, .int y4), (6, .int y6)] [] μ1 (some (.int r)) μ') : Ev l G D_X12_terms yX12_terms cX12_terms 11 (some .int) 68 [(0, .ref a20), (1, .int x21), (2, .int x22), (3, .int x23), (4, .int x24), (5, .int x25), (6, .int x26), (7, .int x27)] [] μ0 (some (.int r)) μ' := by
  induction n generalizing μ0 a20 x21 x22 x23 x24 x25 x26 x27 with
  | zero => cases hf
  | succ n ih0 =>
    have ih : ∀ (μ0 : Mm) (a20 : Nat) (x21 : Int32) (x22 : Int32) (x23 : Int32) (x24 : Int32) (x25 : Int32) (x26 : Int32) (x27 : Int32), f_X12_terms_L68 K199 n μ0 a20 x21 x22 x23 x24 x25 x26 x27 = some (r, μ') → Ev l G D_X12_terms yX12_terms cX12_terms 11 (some .int) 68 [(0, .ref a20), (1, .int x21), (2, .int x22), (3, .int x23), (4, .int x24), (5, .int x25), (6, .int x26), (7, .int x27)] [] μ0 (some (.int r)) μ' := fun μ0 a20 x21 x22 x23 x24 x25 x26 x27 hf => ih0 μ0 a20 x21 x22 x23 x24 x25 x26 x27 hf
    rw [f_X12_terms_L68] at hf
    refine E_iload (pc := 68) dX12_terms_68 rfl ?_
    refine E_iload_n (pc := 70) dX12_terms_70 rfl ?_
    refine E_icmp_ge (pc := 71) (tgt := 199) dX12_terms_71 (by decide) hf (fun hf => ?_) (fun hf => ?_)
    · refine Ev.sub [0, 4, 6] rfl ?_
      exact hK199 _ _ _ _ hf
    · refine E_aload_n (pc := 74) dX12_terms_74 rfl ?_
      refine E_getR (pc := 75) dX12_terms_75 fl_X12_9 hf (fun v28 hf => ?_)
      refine E_bipush (pc := 78) (v := (9 : Int32)) dX12_terms_78 (by decide) ?_
      refine E_iload (pc := 80) dX12_terms_80 rfl ?_
      refine E_iast (pc := 82) dX12_terms_82 hf (fun μ29 hf => ?_)
      refine E_iconst (pc := 83) (v := (0 : Int32)) dX12_terms_83 (by decide) ?_
      refine E_istore (pc := 84) (ls' := fun x30 => [(8, .int x30), (0, .ref a20), (1, .int x21), (2, .int x22), (3, .int x23), (4, .int x24), (5, .int x25), (6, .int x26), (7, .int x27)]) dX12_terms_84 (by decide) (fun _ => rfl) hf (fun x30 hf => ?_)
      refine Ev.sub [1, 2, 3, 4, 5, 7, 8, 0] rfl ?_
      refine f_X12_terms_L86_ok  _ _ _ _ _ _ _ _ _ _ hf (fun μ67 a68 x69 x70 x71 x72 x73 x74 hf => ?_)
      · refine E_aload_n (pc := 180) dX12_terms_180 rfl ?_
        refine E_getR (pc := 181) dX12_terms_181 fl_X12_9 hf (fun v75 hf => ?_)
        refine E_bipush (pc := 184) (v := (9 : Int32)) dX12_terms_184 (by decide) ?_
        refine E_iald (pc := 186) dX12_terms_186 hf (fun v76 hf => ?_)
        refine E_istore (pc := 187) (ls' := fun x77 => [(5, .int x77), (0, .ref a68), (1, .int x69), (2, .int x70), (3, .int x71), (4, .int x72), (6, .int x73), (7, .int x74)]) dX12_terms_187 (by decide) (fun _ => rfl) hf (fun x77 hf => ?_)
        refine E_aload_n (pc := 189) dX12_terms_189 rfl ?_
        refine E_Vv (pc := 190) (d2 := D_X12_laysBack) (ci := 12) [] dX12_terms_190 ml_X12_589 mf_X12_laysBack im_X12_laysBack rfl rfl rfl (by decide) (Nat.le_of_ble_eq_true rfl) (Nat.le_of_ble_eq_true rfl) rfl (fun _ h => f_X12_laysBack_ok h) hf (fun μ78 hf => ?_)
        refine E_iinc (pc := 193) (ls' := fun x79 => [(7, .int x79), (5, .int x77), (0, .ref a68), (1, .int x69), (2, .int x70), (3, .int x71), (4, .int x72), (6, .int x73)]) dX12_terms_193 rfl (by decide) (fun _ => rfl) hf (fun x79 hf => ?_)
        refine E_goto (pc := 196) (tgt := 68) dX12_terms_196 (by decide) ?_
        refine Ev.sub [2, 3, 4, 5, 6, 1, 7, 0] rfl ?_
        exact ih _ _ _ _ _ _ _ _ _ hf
set_option maxRecDepth 100000 in
def f_X12_terms (μ0 : Mm) (a1 : Nat) (x2 : Int32) (x3 : Int32) (x4 : Int32) : Option (Int32 × Mm) :=
 ((ob μ0 a1 12).bind fun _ =>
    (bd (f_X12_isGround μ0 a1) fun v6 μ5 =>
    (if v6 = 0 then
    (some ((-1 : Int32), μ5))
    else
    (bd (f_X12_in μ5 (x2).toInt64 (1 : Int64) (20 : Int64)) fun v8 μ7 =>
    (if v8 = 0 then
    (some ((-1 : Int32), μ7))
    else
    (bd (f_X12_in μ7 (x3).toInt64 (1 : Int64) (40 : Int64)) fun v10 μ9 =>
    (if v10 = 0 then
    (some ((-1 : Int32), μ9))
    else
    (bd (f_X12_in μ9 (x4).toInt64 (0 : Int64) (2 : Int64)) fun v12 μ11 =>
    (if v12 = 0 then
    (some ((-1 : Int32), μ11))
    else
    ((gR μ11 a1 12 1).bind fun v13 =>
    ((aI μ11 v13 0 (9 : Int32)).bind fun v14 =>
    (nm v14 fun x15 =>
    (nm x15 fun x16 =>
    (nm (0 : Int32) fun x17 =>
    ((ob μ11 a1 12).bind fun _ =>
    ((f_X12_keepsAll μ11 a1).bind fun μ18 =>
    (nm (0 : Int32) fun x19 =>
    f_X12_terms_L68 (fun μ80 a81 x82 x83 =>
    ((gR μ80 a81 12 1).bind fun v84 =>
    ((sI μ80 v84 0 (9 : Int32) x82).bind fun μ85 =>
    (some (x83, μ85))))) FU μ18 a1 x2 x3 x4 x15 x16 x17 x19)))))))))))))))))
set_option maxHeartbeats 4000000 in
set_option maxRecDepth 100000 in
theorem f_X12_terms_ok {l : Launch} {G : GG} {μ0 : Mm} {a1 : Nat} {x2 : Int32} {x3 : Int32} {x4 : Int32} {r : Int32} {μ' : Mm} (hf : f_X12_terms μ0 a1 x2 x3 x4 = some (r, μ')) : EvM l G D_X12_terms yX12_terms cX12_terms 11 (some .int) [.ref a1, .int x2, .int x3, .int x4] μ0 (some (.int r)) μ' := by
  show Ev l G D_X12_terms yX12_terms cX12_terms 11 (some .int) 0 [(0, .ref a1), (1, .int x2), (2, .int x3), (3, .int x4)] [] μ0 (some (.int r)) μ'
  unfold f_X12_terms at hf
  refine E_aload_n (pc := 0) dX12_terms_0 rfl ?_
  refine E_Vi (pc := 1) (d2 := D_X12_isGround) (ci := 12) [] dX12_terms_1 ml_X12_537 mf_X12_isGround im_X12_isGround rfl rfl rfl (by decide) (Nat.le_of_ble_eq_true rfl) (Nat.le_of_ble_eq_true rfl) rfl (fun _ _ h => f_X12_isGround_ok h) hf (fun v6 μ5 hf => ?_)
  refine E_if_eq (pc := 4) (tgt := 43) dX12_terms_4 (by decide) hf (fun hf => ?_) (fun hf => ?_)
  · refine E_iconst (pc := 43) (v := (-1 : Int32)) dX12_terms_43 (by decide) ?_
    exact E_iret (pc := 44) dX12_terms_44 rfl hf
  · refine E_iload_n (pc := 7) dX12_terms_7 rfl ?_
    refine E_i2l (pc := 8) dX12_terms_8 ?_
    refine E_lconst (pc := 9) (v := (1 : Int64)) dX12_terms_9 (by decide) ?_
    refine E_ldc2 (pc := 10) (v := (20 : Int64)) dX12_terms_10 co_X12_579 ?_
    refine E_Si (pc := 13) (d2 := D_X12_in) [.long (x2).toInt64, .long (1 : Int64), .long (20 : Int64)] dX12_terms_13 ml_X12_183 mf_X12_in st_X12_in rfl (by decide) (Nat.le_of_ble_eq_true rfl) (Nat.le_of_ble_eq_true rfl) rfl (fun _ _ h => f_X12_in_ok h) hf (fun v8 μ7 hf => ?_)
    refine E_if_eq (pc := 16) (tgt := 43) dX12_terms_16 (by decide) hf (fun hf => ?_) (fun hf => ?_)
    · refine E_iconst (pc := 43) (v := (-1 : Int32)) dX12_terms_43 (by decide) ?_
      exact E_iret (pc := 44) dX12_terms_44 rfl hf
    · refine E_iload_n (pc := 19) dX12_terms_19 rfl ?_
      refine E_i2l (pc := 20) dX12_terms_20 ?_
      refine E_lconst (pc := 21) (v := (1 : Int64)) dX12_terms_21 (by decide) ?_
      refine E_ldc2 (pc := 22) (v := (40 : Int64)) dX12_terms_22 co_X12_581 ?_
      refine E_Si (pc := 25) (d2 := D_X12_in) [.long (x3).toInt64, .long (1 : Int64), .long (40 : Int64)] dX12_terms_25 ml_X12_183 mf_X12_in st_X12_in rfl (by decide) (Nat.le_of_ble_eq_true rfl) (Nat.le_of_ble_eq_true rfl) rfl (fun _ _ h => f_X12_in_ok h) hf (fun v10 μ9 hf => ?_)
      refine E_if_eq (pc := 28) (tgt := 43) dX12_terms_28 (by decide) hf (fun hf => ?_) (fun hf => ?_)
      · refine E_iconst (pc := 43) (v := (-1 : Int32)) dX12_terms_43 (by decide) ?_
        exact E_iret (pc := 44) dX12_terms_44 rfl hf
      · refine E_iload_n (pc := 31) dX12_terms_31 rfl ?_
        refine E_i2l (pc := 32) dX12_terms_32 ?_
        refine E_lconst (pc := 33) (v := (0 : Int64)) dX12_terms_33 (by decide) ?_
        refine E_ldc2 (pc := 34) (v := (2 : Int64)) dX12_terms_34 co_X12_526 ?_
        refine E_Si (pc := 37) (d2 := D_X12_in) [.long (x4).toInt64, .long (0 : Int64), .long (2 : Int64)] dX12_terms_37 ml_X12_183 mf_X12_in st_X12_in rfl (by decide) (Nat.le_of_ble_eq_true rfl) (Nat.le_of_ble_eq_true rfl) rfl (fun _ _ h => f_X12_in_ok h) hf (fun v12 μ11 hf => ?_)
        refine E_if_ne (pc := 40) (tgt := 45) dX12_terms_40 (by decide) hf (fun hf => ?_) (fun hf => ?_)
        · refine E_iconst (pc := 43) (v := (-1 : Int32)) dX12_terms_43 (by decide) ?_
          exact E_iret (pc := 44) dX12_terms_44 rfl hf
        · refine E_aload_n (pc := 45) dX12_terms_45 rfl ?_
          refine E_getR (pc := 46) dX12_terms_46 fl_X12_9 hf (fun v13 hf => ?_)
          refine E_bipush (pc := 49) (v := (9 : Int32)) dX12_terms_49 (by decide) ?_
          refine E_iald (pc := 51) dX12_terms_51 hf (fun v14 hf => ?_)
          refine E_istore (pc := 52) (ls' := fun x15 => [(4, .int x15), (0, .ref a1), (1, .int x2), (2, .int x3), (3, .int x4)]) dX12_terms_52 (by decide) (fun _ => rfl) hf (fun x15 hf => ?_)
          refine E_iload (pc := 54) dX12_terms_54 rfl ?_
          refine E_istore (pc := 56) (ls' := fun x16 => [(5, .int x16), (4, .int x15), (0, .ref a1), (1, .int x2), (2, .int x3), (3, .int x4)]) dX12_terms_56 (by decide) (fun _ => rfl) hf (fun x16 hf => ?_)
          refine E_iconst (pc := 58) (v := (0 : Int32)) dX12_terms_58 (by decide) ?_
          refine E_istore (pc := 59) (ls' := fun x17 => [(6, .int x17), (5, .int x16), (4, .int x15), (0, .ref a1), (1, .int x2), (2, .int x3), (3, .int x4)]) dX12_terms_59 (by decide) (fun _ => rfl) hf (fun x17 hf => ?_)
          refine E_aload_n (pc := 61) dX12_terms_61 rfl ?_
          refine E_Vv (pc := 62) (d2 := D_X12_keepsAll) (ci := 12) [] dX12_terms_62 ml_X12_583 mf_X12_keepsAll im_X12_keepsAll rfl rfl rfl (by decide) (Nat.le_of_ble_eq_true rfl) (Nat.le_of_ble_eq_true rfl) rfl (fun _ h => f_X12_keepsAll_ok h) hf (fun μ18 hf => ?_)
          refine E_iconst (pc := 65) (v := (0 : Int32)) dX12_terms_65 (by decide) ?_
          refine E_istore (pc := 66) (ls' := fun x19 => [(7, .int x19), (6, .int x17), (5, .int x16), (4, .int x15), (0, .ref a1), (1, .int x2), (2, .int x3), (3, .int x4)]) dX12_terms_66 (by decide) (fun _ => rfl) hf (fun x19 hf => ?_)
          refine Ev.sub [4, 5, 6, 7, 3, 2, 1, 0] rfl ?_
          refine f_X12_terms_L68_ok  _ _ _ _ _ _ _ _ _ _ hf (fun μ80 a81 x82 x83 hf => ?_)
          · refine E_aload_n (pc := 199) dX12_terms_199 rfl ?_
            refine E_getR (pc := 200) dX12_terms_200 fl_X12_9 hf (fun v84 hf => ?_)
            refine E_bipush (pc := 203) (v := (9 : Int32)) dX12_terms_203 (by decide) ?_
            refine E_iload (pc := 205) dX12_terms_205 rfl ?_
            refine E_iast (pc := 207) dX12_terms_207 hf (fun μ85 hf => ?_)
            refine E_iload (pc := 208) dX12_terms_208 rfl ?_
            exact E_iret (pc := 210) dX12_terms_210 rfl hf
theorem dX12_count_0 : decode cX12_count 0 = .ok (.iload_n 1, 1) := by decide +kernel
theorem dX12_count_1 : decode cX12_count 1 = .ok (.tableswitch 168 0 13 #[71, 78, 85, 92, 99, 106, 113, 121, 126, 134, 142, 150, 155, 163], 71) := by decide +kernel
theorem dX12_count_72 : decode cX12_count 72 = .ok (.aload_n 0, 1) := by decide +kernel
theorem dX12_count_73 : decode cX12_count 73 = .ok (.getfield 9, 3) := by decide +kernel
theorem dX12_count_76 : decode cX12_count 76 = .ok (.iconst 0, 1) := by decide +kernel
theorem dX12_count_77 : decode cX12_count 77 = .ok (.iaload, 1) := by decide +kernel
theorem dX12_count_78 : decode cX12_count 78 = .ok (.ireturn, 1) := by decide +kernel
theorem dX12_count_79 : decode cX12_count 79 = .ok (.aload_n 0, 1) := by decide +kernel
theorem dX12_count_80 : decode cX12_count 80 = .ok (.getfield 9, 3) := by decide +kernel
theorem dX12_count_83 : decode cX12_count 83 = .ok (.iconst 1, 1) := by decide +kernel
theorem dX12_count_84 : decode cX12_count 84 = .ok (.iaload, 1) := by decide +kernel
theorem dX12_count_85 : decode cX12_count 85 = .ok (.ireturn, 1) := by decide +kernel
theorem dX12_count_86 : decode cX12_count 86 = .ok (.aload_n 0, 1) := by decide +kernel
theorem dX12_count_87 : decode cX12_count 87 = .ok (.getfield 9, 3) := by decide +kernel
theorem dX12_count_90 : decode cX12_count 90 = .ok (.iconst 2, 1) := by decide +kernel
theorem dX12_count_91 : decode cX12_count 91 = .ok (.iaload, 1) := by decide +kernel
theorem dX12_count_92 : decode cX12_count 92 = .ok (.ireturn, 1) := by decide +kernel
theorem dX12_count_93 : decode cX12_count 93 = .ok (.aload_n 0, 1) := by decide +kernel
theorem dX12_count_94 : decode cX12_count 94 = .ok (.getfield 9, 3) := by decide +kernel
theorem dX12_count_97 : decode cX12_count 97 = .ok (.iconst 3, 1) := by decide +kernel
theorem dX12_count_98 : decode cX12_count 98 = .ok (.iaload, 1) := by decide +kernel
theorem dX12_count_99 : decode cX12_count 99 = .ok (.ireturn, 1) := by decide +kernel
theorem dX12_count_100 : decode cX12_count 100 = .ok (.aload_n 0, 1) := by decide +kernel
theorem dX12_count_101 : decode cX12_count 101 = .ok (.getfield 9, 3) := by decide +kernel
theorem dX12_count_104 : decode cX12_count 104 = .ok (.iconst 4, 1) := by decide +kernel
theorem dX12_count_105 : decode cX12_count 105 = .ok (.iaload, 1) := by decide +kernel
theorem dX12_count_106 : decode cX12_count 106 = .ok (.ireturn, 1) := by decide +kernel
theorem dX12_count_107 : decode cX12_count 107 = .ok (.aload_n 0, 1) := by decide +kernel
theorem dX12_count_108 : decode cX12_count 108 = .ok (.getfield 9, 3) := by decide +kernel
theorem dX12_count_111 : decode cX12_count 111 = .ok (.iconst 5, 1) := by decide +kernel
theorem dX12_count_112 : decode cX12_count 112 = .ok (.iaload, 1) := by decide +kernel
theorem dX12_count_113 : decode cX12_count 113 = .ok (.ireturn, 1) := by decide +kernel
theorem dX12_count_114 : decode cX12_count 114 = .ok (.aload_n 0, 1) := by decide +kernel
theorem dX12_count_115 : decode cX12_count 115 = .ok (.getfield 9, 3) := by decide +kernel
theorem dX12_count_118 : decode cX12_count 118 = .ok (.bipush 6, 2) := by decide +kernel
theorem dX12_count_120 : decode cX12_count 120 = .ok (.iaload, 1) := by decide +kernel
theorem dX12_count_121 : decode cX12_count 121 = .ok (.ireturn, 1) := by decide +kernel
theorem dX12_count_122 : decode cX12_count 122 = .ok (.aload_n 0, 1) := by decide +kernel
theorem dX12_count_123 : decode cX12_count 123 = .ok (.getfield 384, 3) := by decide +kernel
theorem dX12_count_126 : decode cX12_count 126 = .ok (.ireturn, 1) := by decide +kernel
theorem dX12_count_127 : decode cX12_count 127 = .ok (.aload_n 0, 1) := by decide +kernel
theorem dX12_count_128 : decode cX12_count 128 = .ok (.getfield 9, 3) := by decide +kernel
theorem dX12_count_131 : decode cX12_count 131 = .ok (.bipush 10, 2) := by decide +kernel
theorem dX12_count_133 : decode cX12_count 133 = .ok (.iaload, 1) := by decide +kernel
theorem dX12_count_134 : decode cX12_count 134 = .ok (.ireturn, 1) := by decide +kernel
theorem dX12_count_135 : decode cX12_count 135 = .ok (.aload_n 0, 1) := by decide +kernel
theorem dX12_count_136 : decode cX12_count 136 = .ok (.getfield 9, 3) := by decide +kernel
theorem dX12_count_139 : decode cX12_count 139 = .ok (.bipush 7, 2) := by decide +kernel
theorem dX12_count_141 : decode cX12_count 141 = .ok (.iaload, 1) := by decide +kernel
theorem dX12_count_142 : decode cX12_count 142 = .ok (.ireturn, 1) := by decide +kernel
theorem dX12_count_143 : decode cX12_count 143 = .ok (.aload_n 0, 1) := by decide +kernel
theorem dX12_count_144 : decode cX12_count 144 = .ok (.getfield 9, 3) := by decide +kernel
theorem dX12_count_147 : decode cX12_count 147 = .ok (.bipush 8, 2) := by decide +kernel
theorem dX12_count_149 : decode cX12_count 149 = .ok (.iaload, 1) := by decide +kernel
theorem dX12_count_150 : decode cX12_count 150 = .ok (.ireturn, 1) := by decide +kernel
theorem dX12_count_151 : decode cX12_count 151 = .ok (.aload_n 0, 1) := by decide +kernel
theorem dX12_count_152 : decode cX12_count 152 = .ok (.getfield 369, 3) := by decide +kernel
theorem dX12_count_155 : decode cX12_count 155 = .ok (.ireturn, 1) := by decide +kernel
theorem dX12_count_156 : decode cX12_count 156 = .ok (.aload_n 0, 1) := by decide +kernel
theorem dX12_count_157 : decode cX12_count 157 = .ok (.getfield 9, 3) := by decide +kernel
theorem dX12_count_160 : decode cX12_count 160 = .ok (.bipush 9, 2) := by decide +kernel
theorem dX12_count_162 : decode cX12_count 162 = .ok (.iaload, 1) := by decide +kernel
theorem dX12_count_163 : decode cX12_count 163 = .ok (.ireturn, 1) := by decide +kernel
theorem dX12_count_164 : decode cX12_count 164 = .ok (.aload_n 0, 1) := by decide +kernel
theorem dX12_count_165 : decode cX12_count 165 = .ok (.getfield 187, 3) := by decide +kernel
theorem dX12_count_168 : decode cX12_count 168 = .ok (.ireturn, 1) := by decide +kernel
theorem dX12_count_169 : decode cX12_count 169 = .ok (.iconst (-1), 1) := by decide +kernel
theorem dX12_count_170 : decode cX12_count 170 = .ok (.ireturn, 1) := by decide +kernel
abbrev D_X12_count : Nat := 1
set_option maxRecDepth 100000 in
def f_X12_count (μ0 : Mm) (a1 : Nat) (x2 : Int32) : Option (Int32 × Mm) :=
 (if x2 = (0 : Int32) then
    ((gR μ0 a1 12 1).bind fun v26 =>
    ((aI μ0 v26 0 (0 : Int32)).bind fun v27 =>
    (some (v27, μ0))))
    else
    (if x2 = (1 : Int32) then
    ((gR μ0 a1 12 1).bind fun v24 =>
    ((aI μ0 v24 0 (1 : Int32)).bind fun v25 =>
    (some (v25, μ0))))
    else
    (if x2 = (2 : Int32) then
    ((gR μ0 a1 12 1).bind fun v22 =>
    ((aI μ0 v22 0 (2 : Int32)).bind fun v23 =>
    (some (v23, μ0))))
    else
    (if x2 = (3 : Int32) then
    ((gR μ0 a1 12 1).bind fun v20 =>
    ((aI μ0 v20 0 (3 : Int32)).bind fun v21 =>
    (some (v21, μ0))))
    else
    (if x2 = (4 : Int32) then
    ((gR μ0 a1 12 1).bind fun v18 =>
    ((aI μ0 v18 0 (4 : Int32)).bind fun v19 =>
    (some (v19, μ0))))
    else
    (if x2 = (5 : Int32) then
    ((gR μ0 a1 12 1).bind fun v16 =>
    ((aI μ0 v16 0 (5 : Int32)).bind fun v17 =>
    (some (v17, μ0))))
    else
    (if x2 = (6 : Int32) then
    ((gR μ0 a1 12 1).bind fun v14 =>
    ((aI μ0 v14 0 (6 : Int32)).bind fun v15 =>
    (some (v15, μ0))))
    else
    (if x2 = (7 : Int32) then
    ((gI μ0 a1 12 32).bind fun v13 =>
    (some (v13, μ0)))
    else
    (if x2 = (8 : Int32) then
    ((gR μ0 a1 12 1).bind fun v11 =>
    ((aI μ0 v11 0 (10 : Int32)).bind fun v12 =>
    (some (v12, μ0))))
    else
    (if x2 = (9 : Int32) then
    ((gR μ0 a1 12 1).bind fun v9 =>
    ((aI μ0 v9 0 (7 : Int32)).bind fun v10 =>
    (some (v10, μ0))))
    else
    (if x2 = (10 : Int32) then
    ((gR μ0 a1 12 1).bind fun v7 =>
    ((aI μ0 v7 0 (8 : Int32)).bind fun v8 =>
    (some (v8, μ0))))
    else
    (if x2 = (11 : Int32) then
    ((gI μ0 a1 12 55).bind fun v6 =>
    (some (v6, μ0)))
    else
    (if x2 = (12 : Int32) then
    ((gR μ0 a1 12 1).bind fun v4 =>
    ((aI μ0 v4 0 (9 : Int32)).bind fun v5 =>
    (some (v5, μ0))))
    else
    (if x2 = (13 : Int32) then
    ((gI μ0 a1 12 28).bind fun v3 =>
    (some (v3, μ0)))
    else
    (some ((-1 : Int32), μ0))))))))))))))))
set_option maxHeartbeats 4000000 in
set_option maxRecDepth 100000 in
theorem f_X12_count_ok {l : Launch} {G : GG} {μ0 : Mm} {a1 : Nat} {x2 : Int32} {r : Int32} {μ' : Mm} (hf : f_X12_count μ0 a1 x2 = some (r, μ')) : EvM l G D_X12_count yX12_count cX12_count 2 (some .int) [.ref a1, .int x2] μ0 (some (.int r)) μ' := by
  show Ev l G D_X12_count yX12_count cX12_count 2 (some .int) 0 [(0, .ref a1), (1, .int x2)] [] μ0 (some (.int r)) μ'
  unfold f_X12_count at hf
  refine E_iload_n (pc := 0) dX12_count_0 rfl ?_
  refine ifS hf (fun n1_0 hf => ?_) (fun n1_0 hf => ?_)
  · refine E_tswI (pc := 1) (tgt := 72) (0) dX12_count_1 (by rw [n1_0]; decide) (by decide) (by decide) rfl (by decide) ?_
    refine E_aload_n (pc := 72) dX12_count_72 rfl ?_
    refine E_getR (pc := 73) dX12_count_73 fl_X12_9 hf (fun v26 hf => ?_)
    refine E_iconst (pc := 76) (v := (0 : Int32)) dX12_count_76 (by decide) ?_
    refine E_iald (pc := 77) dX12_count_77 hf (fun v27 hf => ?_)
    exact E_iret (pc := 78) dX12_count_78 rfl hf
  · refine ifS hf (fun n1_1 hf => ?_) (fun n1_1 hf => ?_)
    · refine E_tswI (pc := 1) (tgt := 79) (1) dX12_count_1 (by rw [n1_1]; decide) (by decide) (by decide) rfl (by decide) ?_
      refine E_aload_n (pc := 79) dX12_count_79 rfl ?_
      refine E_getR (pc := 80) dX12_count_80 fl_X12_9 hf (fun v24 hf => ?_)
      refine E_iconst (pc := 83) (v := (1 : Int32)) dX12_count_83 (by decide) ?_
      refine E_iald (pc := 84) dX12_count_84 hf (fun v25 hf => ?_)
      exact E_iret (pc := 85) dX12_count_85 rfl hf
    · refine ifS hf (fun n1_2 hf => ?_) (fun n1_2 hf => ?_)
      · refine E_tswI (pc := 1) (tgt := 86) (2) dX12_count_1 (by rw [n1_2]; decide) (by decide) (by decide) rfl (by decide) ?_
        refine E_aload_n (pc := 86) dX12_count_86 rfl ?_
        refine E_getR (pc := 87) dX12_count_87 fl_X12_9 hf (fun v22 hf => ?_)
        refine E_iconst (pc := 90) (v := (2 : Int32)) dX12_count_90 (by decide) ?_
        refine E_iald (pc := 91) dX12_count_91 hf (fun v23 hf => ?_)
        exact E_iret (pc := 92) dX12_count_92 rfl hf
      · refine ifS hf (fun n1_3 hf => ?_) (fun n1_3 hf => ?_)
        · refine E_tswI (pc := 1) (tgt := 93) (3) dX12_count_1 (by rw [n1_3]; decide) (by decide) (by decide) rfl (by decide) ?_
          refine E_aload_n (pc := 93) dX12_count_93 rfl ?_
          refine E_getR (pc := 94) dX12_count_94 fl_X12_9 hf (fun v20 hf => ?_)
          refine E_iconst (pc := 97) (v := (3 : Int32)) dX12_count_97 (by decide) ?_
          refine E_iald (pc := 98) dX12_count_98 hf (fun v21 hf => ?_)
          exact E_iret (pc := 99) dX12_count_99 rfl hf
        · refine ifS hf (fun n1_4 hf => ?_) (fun n1_4 hf => ?_)
          · refine E_tswI (pc := 1) (tgt := 100) (4) dX12_count_1 (by rw [n1_4]; decide) (by decide) (by decide) rfl (by decide) ?_
            refine E_aload_n (pc := 100) dX12_count_100 rfl ?_
            refine E_getR (pc := 101) dX12_count_101 fl_X12_9 hf (fun v18 hf => ?_)
            refine E_iconst (pc := 104) (v := (4 : Int32)) dX12_count_104 (by decide) ?_
            refine E_iald (pc := 105) dX12_count_105 hf (fun v19 hf => ?_)
            exact E_iret (pc := 106) dX12_count_106 rfl hf
          · refine ifS hf (fun n1_5 hf => ?_) (fun n1_5 hf => ?_)
            · refine E_tswI (pc := 1) (tgt := 107) (5) dX12_count_1 (by rw [n1_5]; decide) (by decide) (by decide) rfl (by decide) ?_
              refine E_aload_n (pc := 107) dX12_count_107 rfl ?_
              refine E_getR (pc := 108) dX12_count_108 fl_X12_9 hf (fun v16 hf => ?_)
              refine E_iconst (pc := 111) (v := (5 : Int32)) dX12_count_111 (by decide) ?_
              refine E_iald (pc := 112) dX12_count_112 hf (fun v17 hf => ?_)
              exact E_iret (pc := 113) dX12_count_113 rfl hf
            · refine ifS hf (fun n1_6 hf => ?_) (fun n1_6 hf => ?_)
              · refine E_tswI (pc := 1) (tgt := 114) (6) dX12_count_1 (by rw [n1_6]; decide) (by decide) (by decide) rfl (by decide) ?_
                refine E_aload_n (pc := 114) dX12_count_114 rfl ?_
                refine E_getR (pc := 115) dX12_count_115 fl_X12_9 hf (fun v14 hf => ?_)
                refine E_bipush (pc := 118) (v := (6 : Int32)) dX12_count_118 (by decide) ?_
                refine E_iald (pc := 120) dX12_count_120 hf (fun v15 hf => ?_)
                exact E_iret (pc := 121) dX12_count_121 rfl hf
              · refine ifS hf (fun n1_7 hf => ?_) (fun n1_7 hf => ?_)
                · refine E_tswI (pc := 1) (tgt := 122) (7) dX12_count_1 (by rw [n1_7]; decide) (by decide) (by decide) rfl (by decide) ?_
                  refine E_aload_n (pc := 122) dX12_count_122 rfl ?_
                  refine E_getI (pc := 123) dX12_count_123 fl_X12_384 hf (fun v13 hf => ?_)
                  exact E_iret (pc := 126) dX12_count_126 rfl hf
                · refine ifS hf (fun n1_8 hf => ?_) (fun n1_8 hf => ?_)
                  · refine E_tswI (pc := 1) (tgt := 127) (8) dX12_count_1 (by rw [n1_8]; decide) (by decide) (by decide) rfl (by decide) ?_
                    refine E_aload_n (pc := 127) dX12_count_127 rfl ?_
                    refine E_getR (pc := 128) dX12_count_128 fl_X12_9 hf (fun v11 hf => ?_)
                    refine E_bipush (pc := 131) (v := (10 : Int32)) dX12_count_131 (by decide) ?_
                    refine E_iald (pc := 133) dX12_count_133 hf (fun v12 hf => ?_)
                    exact E_iret (pc := 134) dX12_count_134 rfl hf
                  · refine ifS hf (fun n1_9 hf => ?_) (fun n1_9 hf => ?_)
                    · refine E_tswI (pc := 1) (tgt := 135) (9) dX12_count_1 (by rw [n1_9]; decide) (by decide) (by decide) rfl (by decide) ?_
                      refine E_aload_n (pc := 135) dX12_count_135 rfl ?_
                      refine E_getR (pc := 136) dX12_count_136 fl_X12_9 hf (fun v9 hf => ?_)
                      refine E_bipush (pc := 139) (v := (7 : Int32)) dX12_count_139 (by decide) ?_
                      refine E_iald (pc := 141) dX12_count_141 hf (fun v10 hf => ?_)
                      exact E_iret (pc := 142) dX12_count_142 rfl hf
                    · refine ifS hf (fun n1_10 hf => ?_) (fun n1_10 hf => ?_)
                      · refine E_tswI (pc := 1) (tgt := 143) (10) dX12_count_1 (by rw [n1_10]; decide) (by decide) (by decide) rfl (by decide) ?_
                        refine E_aload_n (pc := 143) dX12_count_143 rfl ?_
                        refine E_getR (pc := 144) dX12_count_144 fl_X12_9 hf (fun v7 hf => ?_)
                        refine E_bipush (pc := 147) (v := (8 : Int32)) dX12_count_147 (by decide) ?_
                        refine E_iald (pc := 149) dX12_count_149 hf (fun v8 hf => ?_)
                        exact E_iret (pc := 150) dX12_count_150 rfl hf
                      · refine ifS hf (fun n1_11 hf => ?_) (fun n1_11 hf => ?_)
                        · refine E_tswI (pc := 1) (tgt := 151) (11) dX12_count_1 (by rw [n1_11]; decide) (by decide) (by decide) rfl (by decide) ?_
                          refine E_aload_n (pc := 151) dX12_count_151 rfl ?_
                          refine E_getI (pc := 152) dX12_count_152 fl_X12_369 hf (fun v6 hf => ?_)
                          exact E_iret (pc := 155) dX12_count_155 rfl hf
                        · refine ifS hf (fun n1_12 hf => ?_) (fun n1_12 hf => ?_)
                          · refine E_tswI (pc := 1) (tgt := 156) (12) dX12_count_1 (by rw [n1_12]; decide) (by decide) (by decide) rfl (by decide) ?_
                            refine E_aload_n (pc := 156) dX12_count_156 rfl ?_
                            refine E_getR (pc := 157) dX12_count_157 fl_X12_9 hf (fun v4 hf => ?_)
                            refine E_bipush (pc := 160) (v := (9 : Int32)) dX12_count_160 (by decide) ?_
                            refine E_iald (pc := 162) dX12_count_162 hf (fun v5 hf => ?_)
                            exact E_iret (pc := 163) dX12_count_163 rfl hf
                          · refine ifS hf (fun n1_13 hf => ?_) (fun n1_13 hf => ?_)
                            · refine E_tswI (pc := 1) (tgt := 164) (13) dX12_count_1 (by rw [n1_13]; decide) (by decide) (by decide) rfl (by decide) ?_
                              refine E_aload_n (pc := 164) dX12_count_164 rfl ?_
                              refine E_getI (pc := 165) dX12_count_165 fl_X12_187 hf (fun v3 hf => ?_)
                              exact E_iret (pc := 168) dX12_count_168 rfl hf
                            · refine E_tswD (pc := 1) (tgt := 169) dX12_count_1 (by have q0 : ¬ (x2).toInt = 0 := i32ne n1_0; have q1 : ¬ (x2).toInt = 1 := i32ne n1_1; have q2 : ¬ (x2).toInt = 2 := i32ne n1_2; have q3 : ¬ (x2).toInt = 3 := i32ne n1_3; have q4 : ¬ (x2).toInt = 4 := i32ne n1_4; have q5 : ¬ (x2).toInt = 5 := i32ne n1_5; have q6 : ¬ (x2).toInt = 6 := i32ne n1_6; have q7 : ¬ (x2).toInt = 7 := i32ne n1_7; have q8 : ¬ (x2).toInt = 8 := i32ne n1_8; have q9 : ¬ (x2).toInt = 9 := i32ne n1_9; have q10 : ¬ (x2).toInt = 10 := i32ne n1_10; have q11 : ¬ (x2).toInt = 11 := i32ne n1_11; have q12 : ¬ (x2).toInt = 12 := i32ne n1_12; have q13 : ¬ (x2).toInt = 13 := i32ne n1_13;  omega) (by decide) ?_
                              refine E_iconst (pc := 169) (v := (-1 : Int32)) dX12_count_169 (by decide) ?_
                              exact E_iret (pc := 170) dX12_count_170 rfl hf
theorem dX12_image_0 : decode cX12_image 0 = .ok (.iload_n 1, 1) := by decide +kernel
theorem dX12_image_1 : decode cX12_image 1 = .ok (.i2l, 1) := by decide +kernel
theorem dX12_image_2 : decode cX12_image 2 = .ok (.lconst 0, 1) := by decide +kernel
theorem dX12_image_3 : decode cX12_image 3 = .ok (.ldc2_w 509, 3) := by decide +kernel
theorem dX12_image_6 : decode cX12_image 6 = .ok (.invokestatic 183, 3) := by decide +kernel
theorem dX12_image_9 : decode cX12_image 9 = .ok (.ifCond .ne 5, 3) := by decide +kernel
theorem dX12_image_12 : decode cX12_image 12 = .ok (.iconst (-1), 1) := by decide +kernel
theorem dX12_image_13 : decode cX12_image 13 = .ok (.ireturn, 1) := by decide +kernel
theorem dX12_image_14 : decode cX12_image 14 = .ok (.aload_n 0, 1) := by decide +kernel
theorem dX12_image_15 : decode cX12_image 15 = .ok (.getfield 173, 3) := by decide +kernel
theorem dX12_image_18 : decode cX12_image 18 = .ok (.iload_n 1, 1) := by decide +kernel
theorem dX12_image_19 : decode cX12_image 19 = .ok (.iconst 1, 1) := by decide +kernel
theorem dX12_image_20 : decode cX12_image 20 = .ok (.bastore, 1) := by decide +kernel
theorem dX12_image_21 : decode cX12_image 21 = .ok (.aload_n 0, 1) := by decide +kernel
theorem dX12_image_22 : decode cX12_image 22 = .ok (.iload_n 1, 1) := by decide +kernel
theorem dX12_image_23 : decode cX12_image 23 = .ok (.iconst 0, 1) := by decide +kernel
theorem dX12_image_24 : decode cX12_image 24 = .ok (.invokevirtual 576, 3) := by decide +kernel
theorem dX12_image_27 : decode cX12_image 27 = .ok (.aload_n 0, 1) := by decide +kernel
theorem dX12_image_28 : decode cX12_image 28 = .ok (.getfield 9, 3) := by decide +kernel
theorem dX12_image_31 : decode cX12_image 31 = .ok (.bipush 7, 2) := by decide +kernel
theorem dX12_image_33 : decode cX12_image 33 = .ok (.iaload, 1) := by decide +kernel
theorem dX12_image_34 : decode cX12_image 34 = .ok (.invokestatic 453, 3) := by decide +kernel
theorem dX12_image_37 : decode cX12_image 37 = .ok (.ireturn, 1) := by decide +kernel
abbrev D_X12_image : Nat := 3
set_option maxRecDepth 100000 in
def f_X12_image (μ0 : Mm) (a1 : Nat) (x2 : Int32) : Option (Int32 × Mm) :=
 (bd (f_X12_in μ0 (x2).toInt64 (0 : Int64) (3 : Int64)) fun v4 μ3 =>
    (if v4 = 0 then
    (some ((-1 : Int32), μ3))
    else
    ((gR μ3 a1 12 74).bind fun v5 =>
    ((sI μ3 v5 2 x2 (1 : Int32)).bind fun μ6 =>
    ((ob μ6 a1 12).bind fun _ =>
    ((f_X12_carriesAll μ6 a1 x2 (0 : Int32)).bind fun μ7 =>
    ((gR μ7 a1 12 1).bind fun v8 =>
    ((aI μ7 v8 0 (7 : Int32)).bind fun v9 =>
    (bd (f_X12_bits μ7 v9) fun v11 μ10 =>
    (some (v11, μ10)))))))))))
set_option maxHeartbeats 4000000 in
set_option maxRecDepth 100000 in
theorem f_X12_image_ok {l : Launch} {G : GG} {μ0 : Mm} {a1 : Nat} {x2 : Int32} {r : Int32} {μ' : Mm} (hf : f_X12_image μ0 a1 x2 = some (r, μ')) : EvM l G D_X12_image yX12_image cX12_image 2 (some .int) [.ref a1, .int x2] μ0 (some (.int r)) μ' := by
  show Ev l G D_X12_image yX12_image cX12_image 2 (some .int) 0 [(0, .ref a1), (1, .int x2)] [] μ0 (some (.int r)) μ'
  unfold f_X12_image at hf
  refine E_iload_n (pc := 0) dX12_image_0 rfl ?_
  refine E_i2l (pc := 1) dX12_image_1 ?_
  refine E_lconst (pc := 2) (v := (0 : Int64)) dX12_image_2 (by decide) ?_
  refine E_ldc2 (pc := 3) (v := (3 : Int64)) dX12_image_3 co_X12_509 ?_
  refine E_Si (pc := 6) (d2 := D_X12_in) [.long (x2).toInt64, .long (0 : Int64), .long (3 : Int64)] dX12_image_6 ml_X12_183 mf_X12_in st_X12_in rfl (by decide) (Nat.le_of_ble_eq_true rfl) (Nat.le_of_ble_eq_true rfl) rfl (fun _ _ h => f_X12_in_ok h) hf (fun v4 μ3 hf => ?_)
  refine E_if_ne (pc := 9) (tgt := 14) dX12_image_9 (by decide) hf (fun hf => ?_) (fun hf => ?_)
  · refine E_iconst (pc := 12) (v := (-1 : Int32)) dX12_image_12 (by decide) ?_
    exact E_iret (pc := 13) dX12_image_13 rfl hf
  · refine E_aload_n (pc := 14) dX12_image_14 rfl ?_
    refine E_getR (pc := 15) dX12_image_15 fl_X12_173 hf (fun v5 hf => ?_)
    refine E_iload_n (pc := 18) dX12_image_18 rfl ?_
    refine E_iconst (pc := 19) (v := (1 : Int32)) dX12_image_19 (by decide) ?_
    refine E_zast (pc := 20) dX12_image_20 hf (fun μ6 hf => ?_)
    refine E_aload_n (pc := 21) dX12_image_21 rfl ?_
    refine E_iload_n (pc := 22) dX12_image_22 rfl ?_
    refine E_iconst (pc := 23) (v := (0 : Int32)) dX12_image_23 (by decide) ?_
    refine E_Vv (pc := 24) (d2 := D_X12_carriesAll) (ci := 12) [.int x2, .int (0 : Int32)] dX12_image_24 ml_X12_576 mf_X12_carriesAll im_X12_carriesAll rfl rfl rfl (by decide) (Nat.le_of_ble_eq_true rfl) (Nat.le_of_ble_eq_true rfl) rfl (fun _ h => f_X12_carriesAll_ok h) hf (fun μ7 hf => ?_)
    refine E_aload_n (pc := 27) dX12_image_27 rfl ?_
    refine E_getR (pc := 28) dX12_image_28 fl_X12_9 hf (fun v8 hf => ?_)
    refine E_bipush (pc := 31) (v := (7 : Int32)) dX12_image_31 (by decide) ?_
    refine E_iald (pc := 33) dX12_image_33 hf (fun v9 hf => ?_)
    refine E_Si (pc := 34) (d2 := D_X12_bits) [.int v9] dX12_image_34 ml_X12_453 mf_X12_bits st_X12_bits rfl (by decide) (Nat.le_of_ble_eq_true rfl) (Nat.le_of_ble_eq_true rfl) rfl (fun _ _ h => f_X12_bits_ok h) hf (fun v11 μ10 hf => ?_)
    exact E_iret (pc := 37) dX12_image_37 rfl hf
theorem dX12_back_0 : decode cX12_back 0 = .ok (.iload_n 1, 1) := by decide +kernel
theorem dX12_back_1 : decode cX12_back 1 = .ok (.i2l, 1) := by decide +kernel
theorem dX12_back_2 : decode cX12_back 2 = .ok (.lconst 0, 1) := by decide +kernel
theorem dX12_back_3 : decode cX12_back 3 = .ok (.ldc2_w 509, 3) := by decide +kernel
theorem dX12_back_6 : decode cX12_back 6 = .ok (.invokestatic 183, 3) := by decide +kernel
theorem dX12_back_9 : decode cX12_back 9 = .ok (.ifCond .eq 12, 3) := by decide +kernel
theorem dX12_back_12 : decode cX12_back 12 = .ok (.aload_n 0, 1) := by decide +kernel
theorem dX12_back_13 : decode cX12_back 13 = .ok (.getfield 173, 3) := by decide +kernel
theorem dX12_back_16 : decode cX12_back 16 = .ok (.iload_n 1, 1) := by decide +kernel
theorem dX12_back_17 : decode cX12_back 17 = .ok (.baload, 1) := by decide +kernel
theorem dX12_back_18 : decode cX12_back 18 = .ok (.ifCond .ne 5, 3) := by decide +kernel
theorem dX12_back_21 : decode cX12_back 21 = .ok (.iconst (-1), 1) := by decide +kernel
theorem dX12_back_22 : decode cX12_back 22 = .ok (.ireturn, 1) := by decide +kernel
theorem dX12_back_23 : decode cX12_back 23 = .ok (.aload_n 0, 1) := by decide +kernel
theorem dX12_back_24 : decode cX12_back 24 = .ok (.iload_n 1, 1) := by decide +kernel
theorem dX12_back_25 : decode cX12_back 25 = .ok (.iconst 1, 1) := by decide +kernel
theorem dX12_back_26 : decode cX12_back 26 = .ok (.invokevirtual 576, 3) := by decide +kernel
theorem dX12_back_29 : decode cX12_back 29 = .ok (.aload_n 0, 1) := by decide +kernel
theorem dX12_back_30 : decode cX12_back 30 = .ok (.getfield 9, 3) := by decide +kernel
theorem dX12_back_33 : decode cX12_back 33 = .ok (.bipush 7, 2) := by decide +kernel
theorem dX12_back_35 : decode cX12_back 35 = .ok (.iaload, 1) := by decide +kernel
theorem dX12_back_36 : decode cX12_back 36 = .ok (.invokestatic 453, 3) := by decide +kernel
theorem dX12_back_39 : decode cX12_back 39 = .ok (.ireturn, 1) := by decide +kernel
abbrev D_X12_back : Nat := 3
set_option maxRecDepth 100000 in
def f_X12_back (μ0 : Mm) (a1 : Nat) (x2 : Int32) : Option (Int32 × Mm) :=
 (bd (f_X12_in μ0 (x2).toInt64 (0 : Int64) (3 : Int64)) fun v4 μ3 =>
    (if v4 = 0 then
    (some ((-1 : Int32), μ3))
    else
    ((gR μ3 a1 12 74).bind fun v5 =>
    ((aI μ3 v5 2 x2).bind fun v6 =>
    (if v6 = 0 then
    (some ((-1 : Int32), μ3))
    else
    ((ob μ3 a1 12).bind fun _ =>
    ((f_X12_carriesAll μ3 a1 x2 (1 : Int32)).bind fun μ7 =>
    ((gR μ7 a1 12 1).bind fun v8 =>
    ((aI μ7 v8 0 (7 : Int32)).bind fun v9 =>
    (bd (f_X12_bits μ7 v9) fun v11 μ10 =>
    (some (v11, μ10))))))))))))
set_option maxHeartbeats 4000000 in
set_option maxRecDepth 100000 in
theorem f_X12_back_ok {l : Launch} {G : GG} {μ0 : Mm} {a1 : Nat} {x2 : Int32} {r : Int32} {μ' : Mm} (hf : f_X12_back μ0 a1 x2 = some (r, μ')) : EvM l G D_X12_back yX12_back cX12_back 2 (some .int) [.ref a1, .int x2] μ0 (some (.int r)) μ' := by
  show Ev l G D_X12_back yX12_back cX12_back 2 (some .int) 0 [(0, .ref a1), (1, .int x2)] [] μ0 (some (.int r)) μ'
  unfold f_X12_back at hf
  refine E_iload_n (pc := 0) dX12_back_0 rfl ?_
  refine E_i2l (pc := 1) dX12_back_1 ?_
  refine E_lconst (pc := 2) (v := (0 : Int64)) dX12_back_2 (by decide) ?_
  refine E_ldc2 (pc := 3) (v := (3 : Int64)) dX12_back_3 co_X12_509 ?_
  refine E_Si (pc := 6) (d2 := D_X12_in) [.long (x2).toInt64, .long (0 : Int64), .long (3 : Int64)] dX12_back_6 ml_X12_183 mf_X12_in st_X12_in rfl (by decide) (Nat.le_of_ble_eq_true rfl) (Nat.le_of_ble_eq_true rfl) rfl (fun _ _ h => f_X12_in_ok h) hf (fun v4 μ3 hf => ?_)
  refine E_if_eq (pc := 9) (tgt := 21) dX12_back_9 (by decide) hf (fun hf => ?_) (fun hf => ?_)
  · refine E_iconst (pc := 21) (v := (-1 : Int32)) dX12_back_21 (by decide) ?_
    exact E_iret (pc := 22) dX12_back_22 rfl hf
  · refine E_aload_n (pc := 12) dX12_back_12 rfl ?_
    refine E_getR (pc := 13) dX12_back_13 fl_X12_173 hf (fun v5 hf => ?_)
    refine E_iload_n (pc := 16) dX12_back_16 rfl ?_
    refine E_zald (pc := 17) dX12_back_17 hf (fun v6 hf => ?_)
    refine E_if_ne (pc := 18) (tgt := 23) dX12_back_18 (by decide) hf (fun hf => ?_) (fun hf => ?_)
    · refine E_iconst (pc := 21) (v := (-1 : Int32)) dX12_back_21 (by decide) ?_
      exact E_iret (pc := 22) dX12_back_22 rfl hf
    · refine E_aload_n (pc := 23) dX12_back_23 rfl ?_
      refine E_iload_n (pc := 24) dX12_back_24 rfl ?_
      refine E_iconst (pc := 25) (v := (1 : Int32)) dX12_back_25 (by decide) ?_
      refine E_Vv (pc := 26) (d2 := D_X12_carriesAll) (ci := 12) [.int x2, .int (1 : Int32)] dX12_back_26 ml_X12_576 mf_X12_carriesAll im_X12_carriesAll rfl rfl rfl (by decide) (Nat.le_of_ble_eq_true rfl) (Nat.le_of_ble_eq_true rfl) rfl (fun _ h => f_X12_carriesAll_ok h) hf (fun μ7 hf => ?_)
      refine E_aload_n (pc := 29) dX12_back_29 rfl ?_
      refine E_getR (pc := 30) dX12_back_30 fl_X12_9 hf (fun v8 hf => ?_)
      refine E_bipush (pc := 33) (v := (7 : Int32)) dX12_back_33 (by decide) ?_
      refine E_iald (pc := 35) dX12_back_35 hf (fun v9 hf => ?_)
      refine E_Si (pc := 36) (d2 := D_X12_bits) [.int v9] dX12_back_36 ml_X12_453 mf_X12_bits st_X12_bits rfl (by decide) (Nat.le_of_ble_eq_true rfl) (Nat.le_of_ble_eq_true rfl) rfl (fun _ _ h => f_X12_bits_ok h) hf (fun v11 μ10 hf => ?_)
      exact E_iret (pc := 39) dX12_back_39 rfl hf
