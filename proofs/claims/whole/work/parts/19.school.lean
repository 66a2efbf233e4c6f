theorem dX7_peopleIn_0 : decode cX7_peopleIn 0 = .ok (.iconst 0, 1) := by decide +kernel
theorem dX7_peopleIn_1 : decode cX7_peopleIn 1 = .ok (.istore_n 2, 1) := by decide +kernel
theorem dX7_peopleIn_2 : decode cX7_peopleIn 2 = .ok (.iconst 0, 1) := by decide +kernel
theorem dX7_peopleIn_3 : decode cX7_peopleIn 3 = .ok (.istore_n 3, 1) := by decide +kernel
theorem dX7_peopleIn_4 : decode cX7_peopleIn 4 = .ok (.iload_n 3, 1) := by decide +kernel
theorem dX7_peopleIn_5 : decode cX7_peopleIn 5 = .ok (.aload_n 0, 1) := by decide +kernel
theorem dX7_peopleIn_6 : decode cX7_peopleIn 6 = .ok (.getfield 49, 3) := by decide +kernel
theorem dX7_peopleIn_9 : decode cX7_peopleIn 9 = .ok (.getfield 70, 3) := by decide +kernel
theorem dX7_peopleIn_12 : decode cX7_peopleIn 12 = .ok (.if_icmp .ge 25, 3) := by decide +kernel
theorem dX7_peopleIn_15 : decode cX7_peopleIn 15 = .ok (.aload_n 0, 1) := by decide +kernel
theorem dX7_peopleIn_16 : decode cX7_peopleIn 16 = .ok (.getfield 21, 3) := by decide +kernel
theorem dX7_peopleIn_19 : decode cX7_peopleIn 19 = .ok (.iload_n 3, 1) := by decide +kernel
theorem dX7_peopleIn_20 : decode cX7_peopleIn 20 = .ok (.iaload, 1) := by decide +kernel
theorem dX7_peopleIn_21 : decode cX7_peopleIn 21 = .ok (.iload_n 1, 1) := by decide +kernel
theorem dX7_peopleIn_22 : decode cX7_peopleIn 22 = .ok (.if_icmp .ne 9, 3) := by decide +kernel
theorem dX7_peopleIn_25 : decode cX7_peopleIn 25 = .ok (.iload_n 2, 1) := by decide +kernel
theorem dX7_peopleIn_26 : decode cX7_peopleIn 26 = .ok (.iconst 1, 1) := by decide +kernel
theorem dX7_peopleIn_27 : decode cX7_peopleIn 27 = .ok (.iload_n 3, 1) := by decide +kernel
theorem dX7_peopleIn_28 : decode cX7_peopleIn 28 = .ok (.ishl, 1) := by decide +kernel
theorem dX7_peopleIn_29 : decode cX7_peopleIn 29 = .ok (.ior, 1) := by decide +kernel
theorem dX7_peopleIn_30 : decode cX7_peopleIn 30 = .ok (.istore_n 2, 1) := by decide +kernel
theorem dX7_peopleIn_31 : decode cX7_peopleIn 31 = .ok (.iinc 3 1, 3) := by decide +kernel
theorem dX7_peopleIn_34 : decode cX7_peopleIn 34 = .ok (.goto (-30), 3) := by decide +kernel
theorem dX7_peopleIn_37 : decode cX7_peopleIn 37 = .ok (.iload_n 2, 1) := by decide +kernel
theorem dX7_peopleIn_38 : decode cX7_peopleIn 38 = .ok (.ireturn, 1) := by decide +kernel
abbrev D_X7_peopleIn : Nat := 1
def f_X7_peopleIn_L4 (K37 : Mm → Int32 → Option (Int32 × Mm)) : Nat → Mm → Nat → Int32 → Int32 → Int32 → Option (Int32 × Mm)
  | 0, _, _, _, _, _ => none
  | n + 1, μ0, a5, x6, x7, x8 =>
    ((gR μ0 a5 7 0).bind fun v9 =>
    ((gI μ0 v9 1 6).bind fun v10 =>
    (if v10 ≤ x8 then
    K37 μ0 x7
    else
    ((gR μ0 a5 7 4).bind fun v11 =>
    ((aI μ0 v11 0 x8).bind fun v12 =>
    (if v12 = x6 then
    (nm (x7 ||| ((1 : Int32) <<< (x8 &&& 31))) fun x13 =>
    (nm (x8 + Int32.ofInt (1)) fun x14 =>
    f_X7_peopleIn_L4 K37 n μ0 a5 x6 x13 x14))
    else
    (nm (x8 + Int32.ofInt (1)) fun x15 =>
    f_X7_peopleIn_L4 K37 n μ0 a5 x6 x7 x15)))))))
set_option maxHeartbeats 4000000 in
set_option maxRecDepth 100000 in
theorem f_X7_peopleIn_L4_ok {l : Launch} {G : GG} {K37 : Mm → Int32 → Option (Int32 × Mm)} {r : Int32} {μ' : Mm} (n : Nat) (μ0 : Mm) (a5 : Nat) (x6 : Int32) (x7 : Int32) (x8 : Int32) (hf : f_X7_peopleIn_L4 K37 n μ0 a5 x6 x7 x8 = some (r, μ')) (hK37 : ∀ (μ1 : Mm) (y2 : Int32), K37 μ1 y2 = some (r, μ') → Ev l G D_X7_peopleIn yX7_peopleIn cX7_peopleIn 4 (some .int) 37 [(2, .int y2)] [] μ1 (some (.int r)) μ') : Ev l G D_X7_peopleIn yX7_peopleIn cX7_peopleIn 4 (some .int) 4 [(0, .ref a5), (1, .int x6), (2, .int x7), (3, .int x8)] [] μ0 (some (.int r)) μ' := by
  induction n generalizing μ0 a5 x6 x7 x8 with
  | zero => cases hf
  | succ n ih0 =>
    have ih : ∀ (μ0 : Mm) (a5 : Nat) (x6 : Int32) (x7 : Int32) (x8 : Int32), f_X7_peopleIn_L4 K37 n μ0 a5 x6 x7 x8 = some (r, μ') → Ev l G D_X7_peopleIn yX7_peopleIn cX7_peopleIn 4 (some .int) 4 [(0, .ref a5), (1, .int x6), (2, .int x7), (3, .int x8)] [] μ0 (some (.int r)) μ' := fun μ0 a5 x6 x7 x8 hf => ih0 μ0 a5 x6 x7 x8 hf
    rw [f_X7_peopleIn_L4] at hf
    refine E_iload_n (pc := 4) dX7_peopleIn_4 rfl ?_
    refine E_aload_n (pc := 5) dX7_peopleIn_5 rfl ?_
    refine E_getR (pc := 6) dX7_peopleIn_6 fl_X7_49 hf (fun v9 hf => ?_)
    refine E_getI (pc := 9) dX7_peopleIn_9 fl_X7_70 hf (fun v10 hf => ?_)
    refine E_icmp_ge (pc := 12) (tgt := 37) dX7_peopleIn_12 (by decide) hf (fun hf => ?_) (fun hf => ?_)
    · refine Ev.sub [2] rfl ?_
      exact hK37 _ _ hf
    · refine E_aload_n (pc := 15) dX7_peopleIn_15 rfl ?_
      refine E_getR (pc := 16) dX7_peopleIn_16 fl_X7_21 hf (fun v11 hf => ?_)
      refine E_iload_n (pc := 19) dX7_peopleIn_19 rfl ?_
      refine E_iald (pc := 20) dX7_peopleIn_20 hf (fun v12 hf => ?_)
      refine E_iload_n (pc := 21) dX7_peopleIn_21 rfl ?_
      refine E_icmp_ne (pc := 22) (tgt := 31) dX7_peopleIn_22 (by decide) hf (fun hf => ?_) (fun hf => ?_)
      · refine E_iload_n (pc := 25) dX7_peopleIn_25 rfl ?_
        refine E_iconst (pc := 26) (v := (1 : Int32)) dX7_peopleIn_26 (by decide) ?_
        refine E_iload_n (pc := 27) dX7_peopleIn_27 rfl ?_
        refine E_ishl (pc := 28) dX7_peopleIn_28 ?_
        refine E_ior (pc := 29) dX7_peopleIn_29 ?_
        refine E_istore_n (pc := 30) (ls' := fun x13 => [(2, .int x13), (0, .ref a5), (1, .int x6), (3, .int x8)]) dX7_peopleIn_30 (by decide) (fun _ => rfl) hf (fun x13 hf => ?_)
        refine E_iinc (pc := 31) (ls' := fun x14 => [(3, .int x14), (2, .int x13), (0, .ref a5), (1, .int x6)]) dX7_peopleIn_31 rfl (by decide) (fun _ => rfl) hf (fun x14 hf => ?_)
        refine E_goto (pc := 34) (tgt := 4) dX7_peopleIn_34 (by decide) ?_
        refine Ev.sub [2, 3, 1, 0] rfl ?_
        exact ih _ _ _ _ _ hf
      · refine E_iinc (pc := 31) (ls' := fun x15 => [(3, .int x15), (0, .ref a5), (1, .int x6), (2, .int x7)]) dX7_peopleIn_31 rfl (by decide) (fun _ => rfl) hf (fun x15 hf => ?_)
        refine E_goto (pc := 34) (tgt := 4) dX7_peopleIn_34 (by decide) ?_
        refine Ev.sub [1, 2, 3, 0] rfl ?_
        exact ih _ _ _ _ _ hf
set_option maxRecDepth 100000 in
def f_X7_peopleIn (μ0 : Mm) (a1 : Nat) (x2 : Int32) : Option (Int32 × Mm) :=
 (nm (0 : Int32) fun x3 =>
    (nm (0 : Int32) fun x4 =>
    f_X7_peopleIn_L4 (fun μ16 x17 =>
    (some (x17, μ16))) FU μ0 a1 x2 x3 x4))
set_option maxHeartbeats 4000000 in
set_option maxRecDepth 100000 in
theorem f_X7_peopleIn_ok {l : Launch} {G : GG} {μ0 : Mm} {a1 : Nat} {x2 : Int32} {r : Int32} {μ' : Mm} (hf : f_X7_peopleIn μ0 a1 x2 = some (r, μ')) : EvM l G D_X7_peopleIn yX7_peopleIn cX7_peopleIn 4 (some .int) [.ref a1, .int x2] μ0 (some (.int r)) μ' := by
  show Ev l G D_X7_peopleIn yX7_peopleIn cX7_peopleIn 4 (some .int) 0 [(0, .ref a1), (1, .int x2)] [] μ0 (some (.int r)) μ'
  unfold f_X7_peopleIn at hf
  refine E_iconst (pc := 0) (v := (0 : Int32)) dX7_peopleIn_0 (by decide) ?_
  refine E_istore_n (pc := 1) (ls' := fun x3 => [(2, .int x3), (0, .ref a1), (1, .int x2)]) dX7_peopleIn_1 (by decide) (fun _ => rfl) hf (fun x3 hf => ?_)
  refine E_iconst (pc := 2) (v := (0 : Int32)) dX7_peopleIn_2 (by decide) ?_
  refine E_istore_n (pc := 3) (ls' := fun x4 => [(3, .int x4), (2, .int x3), (0, .ref a1), (1, .int x2)]) dX7_peopleIn_3 (by decide) (fun _ => rfl) hf (fun x4 hf => ?_)
  refine Ev.sub [2, 3, 1, 0] rfl ?_
  refine f_X7_peopleIn_L4_ok  _ _ _ _ _ _ hf (fun μ16 x17 hf => ?_)
  · refine E_iload_n (pc := 37) dX7_peopleIn_37 rfl ?_
    exact E_iret (pc := 38) dX7_peopleIn_38 rfl hf
theorem dX7_thingsIn_0 : decode cX7_thingsIn 0 = .ok (.iconst 0, 1) := by decide +kernel
theorem dX7_thingsIn_1 : decode cX7_thingsIn 1 = .ok (.istore_n 2, 1) := by decide +kernel
theorem dX7_thingsIn_2 : decode cX7_thingsIn 2 = .ok (.iconst 0, 1) := by decide +kernel
theorem dX7_thingsIn_3 : decode cX7_thingsIn 3 = .ok (.istore_n 3, 1) := by decide +kernel
theorem dX7_thingsIn_4 : decode cX7_thingsIn 4 = .ok (.iload_n 3, 1) := by decide +kernel
theorem dX7_thingsIn_5 : decode cX7_thingsIn 5 = .ok (.aload_n 0, 1) := by decide +kernel
theorem dX7_thingsIn_6 : decode cX7_thingsIn 6 = .ok (.getfield 49, 3) := by decide +kernel
theorem dX7_thingsIn_9 : decode cX7_thingsIn 9 = .ok (.getfield 73, 3) := by decide +kernel
theorem dX7_thingsIn_12 : decode cX7_thingsIn 12 = .ok (.if_icmp .ge 25, 3) := by decide +kernel
theorem dX7_thingsIn_15 : decode cX7_thingsIn 15 = .ok (.aload_n 0, 1) := by decide +kernel
theorem dX7_thingsIn_16 : decode cX7_thingsIn 16 = .ok (.getfield 25, 3) := by decide +kernel
theorem dX7_thingsIn_19 : decode cX7_thingsIn 19 = .ok (.iload_n 3, 1) := by decide +kernel
theorem dX7_thingsIn_20 : decode cX7_thingsIn 20 = .ok (.iaload, 1) := by decide +kernel
theorem dX7_thingsIn_21 : decode cX7_thingsIn 21 = .ok (.iload_n 1, 1) := by decide +kernel
theorem dX7_thingsIn_22 : decode cX7_thingsIn 22 = .ok (.if_icmp .ne 9, 3) := by decide +kernel
theorem dX7_thingsIn_25 : decode cX7_thingsIn 25 = .ok (.iload_n 2, 1) := by decide +kernel
theorem dX7_thingsIn_26 : decode cX7_thingsIn 26 = .ok (.iconst 1, 1) := by decide +kernel
theorem dX7_thingsIn_27 : decode cX7_thingsIn 27 = .ok (.iload_n 3, 1) := by decide +kernel
theorem dX7_thingsIn_28 : decode cX7_thingsIn 28 = .ok (.ishl, 1) := by decide +kernel
theorem dX7_thingsIn_29 : decode cX7_thingsIn 29 = .ok (.ior, 1) := by decide +kernel
theorem dX7_thingsIn_30 : decode cX7_thingsIn 30 = .ok (.istore_n 2, 1) := by decide +kernel
theorem dX7_thingsIn_31 : decode cX7_thingsIn 31 = .ok (.iinc 3 1, 3) := by decide +kernel
theorem dX7_thingsIn_34 : decode cX7_thingsIn 34 = .ok (.goto (-30), 3) := by decide +kernel
theorem dX7_thingsIn_37 : decode cX7_thingsIn 37 = .ok (.iload_n 2, 1) := by decide +kernel
theorem dX7_thingsIn_38 : decode cX7_thingsIn 38 = .ok (.ireturn, 1) := by decide +kernel
abbrev D_X7_thingsIn : Nat := 1
def f_X7_thingsIn_L4 (K37 : Mm → Int32 → Option (Int32 × Mm)) : Nat → Mm → Nat → Int32 → Int32 → Int32 → Option (Int32 × Mm)
  | 0, _, _, _, _, _ => none
  | n + 1, μ0, a5, x6, x7, x8 =>
    ((gR μ0 a5 7 0).bind fun v9 =>
    ((gI μ0 v9 1 9).bind fun v10 =>
    (if v10 ≤ x8 then
    K37 μ0 x7
    else
    ((gR μ0 a5 7 5).bind fun v11 =>
    ((aI μ0 v11 0 x8).bind fun v12 =>
    (if v12 = x6 then
    (nm (x7 ||| ((1 : Int32) <<< (x8 &&& 31))) fun x13 =>
    (nm (x8 + Int32.ofInt (1)) fun x14 =>
    f_X7_thingsIn_L4 K37 n μ0 a5 x6 x13 x14))
    else
    (nm (x8 + Int32.ofInt (1)) fun x15 =>
    f_X7_thingsIn_L4 K37 n μ0 a5 x6 x7 x15)))))))
set_option maxHeartbeats 4000000 in
set_option maxRecDepth 100000 in
theorem f_X7_thingsIn_L4_ok {l : Launch} {G : GG} {K37 : Mm → Int32 → Option (Int32 × Mm)} {r : Int32} {μ' : Mm} (n : Nat) (μ0 : Mm) (a5 : Nat) (x6 : Int32) (x7 : Int32) (x8 : Int32) (hf : f_X7_thingsIn_L4 K37 n μ0 a5 x6 x7 x8 = some (r, μ')) (hK37 : ∀ (μ1 : Mm) (y2 : Int32), K37 μ1 y2 = some (r, μ') → Ev l G D_X7_thingsIn yX7_thingsIn cX7_thingsIn 4 (some .int) 37 [(2, .int y2)] [] μ1 (some (.int r)) μ') : Ev l G D_X7_thingsIn yX7_thingsIn cX7_thingsIn 4 (some .int) 4 [(0, .ref a5), (1, .int x6), (2, .int x7), (3, .int x8)] [] μ0 (some (.int r)) μ' := by
  induction n generalizing μ0 a5 x6 x7 x8 with
  | zero => cases hf
  | succ n ih0 =>
    have ih : ∀ (μ0 : Mm) (a5 : Nat) (x6 : Int32) (x7 : Int32) (x8 : Int32), f_X7_thingsIn_L4 K37 n μ0 a5 x6 x7 x8 = some (r, μ') → Ev l G D_X7_thingsIn yX7_thingsIn cX7_thingsIn 4 (some .int) 4 [(0, .ref a5), (1, .int x6), (2, .int x7), (3, .int x8)] [] μ0 (some (.int r)) μ' := fun μ0 a5 x6 x7 x8 hf => ih0 μ0 a5 x6 x7 x8 hf
    rw [f_X7_thingsIn_L4] at hf
    refine E_iload_n (pc := 4) dX7_thingsIn_4 rfl ?_
    refine E_aload_n (pc := 5) dX7_thingsIn_5 rfl ?_
    refine E_getR (pc := 6) dX7_thingsIn_6 fl_X7_49 hf (fun v9 hf => ?_)
    refine E_getI (pc := 9) dX7_thingsIn_9 fl_X7_73 hf (fun v10 hf => ?_)
    refine E_icmp_ge (pc := 12) (tgt := 37) dX7_thingsIn_12 (by decide) hf (fun hf => ?_) (fun hf => ?_)
    · refine Ev.sub [2] rfl ?_
      exact hK37 _ _ hf
    · refine E_aload_n (pc := 15) dX7_thingsIn_15 rfl ?_
      refine E_getR (pc := 16) dX7_thingsIn_16 fl_X7_25 hf (fun v11 hf => ?_)
      refine E_iload_n (pc := 19) dX7_thingsIn_19 rfl ?_
      refine E_iald (pc := 20) dX7_thingsIn_20 hf (fun v12 hf => ?_)
      refine E_iload_n (pc := 21) dX7_thingsIn_21 rfl ?_
      refine E_icmp_ne (pc := 22) (tgt := 31) dX7_thingsIn_22 (by decide) hf (fun hf => ?_) (fun hf => ?_)
      · refine E_iload_n (pc := 25) dX7_thingsIn_25 rfl ?_
        refine E_iconst (pc := 26) (v := (1 : Int32)) dX7_thingsIn_26 (by decide) ?_
        refine E_iload_n (pc := 27) dX7_thingsIn_27 rfl ?_
        refine E_ishl (pc := 28) dX7_thingsIn_28 ?_
        refine E_ior (pc := 29) dX7_thingsIn_29 ?_
        refine E_istore_n (pc := 30) (ls' := fun x13 => [(2, .int x13), (0, .ref a5), (1, .int x6), (3, .int x8)]) dX7_thingsIn_30 (by decide) (fun _ => rfl) hf (fun x13 hf => ?_)
        refine E_iinc (pc := 31) (ls' := fun x14 => [(3, .int x14), (2, .int x13), (0, .ref a5), (1, .int x6)]) dX7_thingsIn_31 rfl (by decide) (fun _ => rfl) hf (fun x14 hf => ?_)
        refine E_goto (pc := 34) (tgt := 4) dX7_thingsIn_34 (by decide) ?_
        refine Ev.sub [2, 3, 1, 0] rfl ?_
        exact ih _ _ _ _ _ hf
      · refine E_iinc (pc := 31) (ls' := fun x15 => [(3, .int x15), (0, .ref a5), (1, .int x6), (2, .int x7)]) dX7_thingsIn_31 rfl (by decide) (fun _ => rfl) hf (fun x15 hf => ?_)
        refine E_goto (pc := 34) (tgt := 4) dX7_thingsIn_34 (by decide) ?_
        refine Ev.sub [1, 2, 3, 0] rfl ?_
        exact ih _ _ _ _ _ hf
set_option maxRecDepth 100000 in
def f_X7_thingsIn (μ0 : Mm) (a1 : Nat) (x2 : Int32) : Option (Int32 × Mm) :=
 (nm (0 : Int32) fun x3 =>
    (nm (0 : Int32) fun x4 =>
    f_X7_thingsIn_L4 (fun μ16 x17 =>
    (some (x17, μ16))) FU μ0 a1 x2 x3 x4))
set_option maxHeartbeats 4000000 in
set_option maxRecDepth 100000 in
theorem f_X7_thingsIn_ok {l : Launch} {G : GG} {μ0 : Mm} {a1 : Nat} {x2 : Int32} {r : Int32} {μ' : Mm} (hf : f_X7_thingsIn μ0 a1 x2 = some (r, μ')) : EvM l G D_X7_thingsIn yX7_thingsIn cX7_thingsIn 4 (some .int) [.ref a1, .int x2] μ0 (some (.int r)) μ' := by
  show Ev l G D_X7_thingsIn yX7_thingsIn cX7_thingsIn 4 (some .int) 0 [(0, .ref a1), (1, .int x2)] [] μ0 (some (.int r)) μ'
  unfold f_X7_thingsIn at hf
  refine E_iconst (pc := 0) (v := (0 : Int32)) dX7_thingsIn_0 (by decide) ?_
  refine E_istore_n (pc := 1) (ls' := fun x3 => [(2, .int x3), (0, .ref a1), (1, .int x2)]) dX7_thingsIn_1 (by decide) (fun _ => rfl) hf (fun x3 hf => ?_)
  refine E_iconst (pc := 2) (v := (0 : Int32)) dX7_thingsIn_2 (by decide) ?_
  refine E_istore_n (pc := 3) (ls' := fun x4 => [(3, .int x4), (2, .int x3), (0, .ref a1), (1, .int x2)]) dX7_thingsIn_3 (by decide) (fun _ => rfl) hf (fun x4 hf => ?_)
  refine Ev.sub [2, 3, 1, 0] rfl ?_
  refine f_X7_thingsIn_L4_ok  _ _ _ _ _ _ hf (fun μ16 x17 hf => ?_)
  · refine E_iload_n (pc := 37) dX7_thingsIn_37 rfl ?_
    exact E_iret (pc := 38) dX7_thingsIn_38 rfl hf
theorem dX7_fitsClues_0 : decode cX7_fitsClues 0 = .ok (.iload_n 1, 1) := by decide +kernel
theorem dX7_fitsClues_1 : decode cX7_fitsClues 1 = .ok (.aload_n 0, 1) := by decide +kernel
theorem dX7_fitsClues_2 : decode cX7_fitsClues 2 = .ok (.getfield 31, 3) := by decide +kernel
theorem dX7_fitsClues_5 : decode cX7_fitsClues 5 = .ok (.iand, 1) := by decide +kernel
theorem dX7_fitsClues_6 : decode cX7_fitsClues 6 = .ok (.aload_n 0, 1) := by decide +kernel
theorem dX7_fitsClues_7 : decode cX7_fitsClues 7 = .ok (.getfield 31, 3) := by decide +kernel
theorem dX7_fitsClues_10 : decode cX7_fitsClues 10 = .ok (.if_icmp .ne 16, 3) := by decide +kernel
theorem dX7_fitsClues_13 : decode cX7_fitsClues 13 = .ok (.iload_n 1, 1) := by decide +kernel
theorem dX7_fitsClues_14 : decode cX7_fitsClues 14 = .ok (.aload_n 0, 1) := by decide +kernel
theorem dX7_fitsClues_15 : decode cX7_fitsClues 15 = .ok (.getfield 34, 3) := by decide +kernel
theorem dX7_fitsClues_18 : decode cX7_fitsClues 18 = .ok (.iand, 1) := by decide +kernel
theorem dX7_fitsClues_19 : decode cX7_fitsClues 19 = .ok (.ifCond .ne 7, 3) := by decide +kernel
theorem dX7_fitsClues_22 : decode cX7_fitsClues 22 = .ok (.iconst 1, 1) := by decide +kernel
theorem dX7_fitsClues_23 : decode cX7_fitsClues 23 = .ok (.goto 4, 3) := by decide +kernel
theorem dX7_fitsClues_26 : decode cX7_fitsClues 26 = .ok (.iconst 0, 1) := by decide +kernel
theorem dX7_fitsClues_27 : decode cX7_fitsClues 27 = .ok (.ireturn, 1) := by decide +kernel
abbrev D_X7_fitsClues : Nat := 1
set_option maxRecDepth 100000 in
def f_X7_fitsClues (μ0 : Mm) (a1 : Nat) (x2 : Int32) : Option (Int32 × Mm) :=
 ((gI μ0 a1 7 7).bind fun v3 =>
    ((gI μ0 a1 7 7).bind fun v4 =>
    (if (x2 &&& v3) = v4 then
    ((gI μ0 a1 7 8).bind fun v5 =>
    (if (x2 &&& v5) = 0 then
    (if (1 : Int32) = 0 ∨ (1 : Int32) = 1 then some ((1 : Int32), μ0) else none)
    else
    (if (0 : Int32) = 0 ∨ (0 : Int32) = 1 then some ((0 : Int32), μ0) else none)))
    else
    (if (0 : Int32) = 0 ∨ (0 : Int32) = 1 then some ((0 : Int32), μ0) else none))))
set_option maxHeartbeats 4000000 in
set_option maxRecDepth 100000 in
theorem f_X7_fitsClues_ok {l : Launch} {G : GG} {μ0 : Mm} {a1 : Nat} {x2 : Int32} {r : Int32} {μ' : Mm} (hf : f_X7_fitsClues μ0 a1 x2 = some (r, μ')) : EvM l G D_X7_fitsClues yX7_fitsClues cX7_fitsClues 2 (some .boolean) [.ref a1, .int x2] μ0 (some (.int r)) μ' := by
  show Ev l G D_X7_fitsClues yX7_fitsClues cX7_fitsClues 2 (some .boolean) 0 [(0, .ref a1), (1, .int x2)] [] μ0 (some (.int r)) μ'
  unfold f_X7_fitsClues at hf
  refine E_iload_n (pc := 0) dX7_fitsClues_0 rfl ?_
  refine E_aload_n (pc := 1) dX7_fitsClues_1 rfl ?_
  refine E_getI (pc := 2) dX7_fitsClues_2 fl_X7_31 hf (fun v3 hf => ?_)
  refine E_iand (pc := 5) dX7_fitsClues_5 ?_
  refine E_aload_n (pc := 6) dX7_fitsClues_6 rfl ?_
  refine E_getI (pc := 7) dX7_fitsClues_7 fl_X7_31 hf (fun v4 hf => ?_)
  refine E_icmp_ne (pc := 10) (tgt := 26) dX7_fitsClues_10 (by decide) hf (fun hf => ?_) (fun hf => ?_)
  · refine E_iload_n (pc := 13) dX7_fitsClues_13 rfl ?_
    refine E_aload_n (pc := 14) dX7_fitsClues_14 rfl ?_
    refine E_getI (pc := 15) dX7_fitsClues_15 fl_X7_34 hf (fun v5 hf => ?_)
    refine E_iand (pc := 18) dX7_fitsClues_18 ?_
    refine E_if_ne (pc := 19) (tgt := 26) dX7_fitsClues_19 (by decide) hf (fun hf => ?_) (fun hf => ?_)
    · refine E_iconst (pc := 22) (v := (1 : Int32)) dX7_fitsClues_22 (by decide) ?_
      refine E_goto (pc := 23) (tgt := 27) dX7_fitsClues_23 (by decide) ?_
      exact E_zret (pc := 27) dX7_fitsClues_27 rfl hf
    · refine E_iconst (pc := 26) (v := (0 : Int32)) dX7_fitsClues_26 (by decide) ?_
      exact E_zret (pc := 27) dX7_fitsClues_27 rfl hf
  · refine E_iconst (pc := 26) (v := (0 : Int32)) dX7_fitsClues_26 (by decide) ?_
    exact E_zret (pc := 27) dX7_fitsClues_27 rfl hf
theorem dX7_init_0 : decode cX7_init 0 = .ok (.aload_n 0, 1) := by decide +kernel
theorem dX7_init_1 : decode cX7_init 1 = .ok (.invokespecial 3, 3) := by decide +kernel
theorem dX7_init_4 : decode cX7_init 4 = .ok (.aload_n 0, 1) := by decide +kernel
theorem dX7_init_5 : decode cX7_init 5 = .ok (.iconst (-1), 1) := by decide +kernel
theorem dX7_init_6 : decode cX7_init 6 = .ok (.putfield 9, 3) := by decide +kernel
theorem dX7_init_9 : decode cX7_init 9 = .ok (.aload_n 0, 1) := by decide +kernel
theorem dX7_init_10 : decode cX7_init 10 = .ok (.iconst 0, 1) := by decide +kernel
theorem dX7_init_11 : decode cX7_init 11 = .ok (.putfield 15, 3) := by decide +kernel
theorem dX7_init_14 : decode cX7_init 14 = .ok (.aload_n 0, 1) := by decide +kernel
theorem dX7_init_15 : decode cX7_init 15 = .ok (.iconst 0, 1) := by decide +kernel
theorem dX7_init_16 : decode cX7_init 16 = .ok (.putfield 18, 3) := by decide +kernel
theorem dX7_init_19 : decode cX7_init 19 = .ok (.aload_n 0, 1) := by decide +kernel
theorem dX7_init_20 : decode cX7_init 20 = .ok (.iconst 5, 1) := by decide +kernel
theorem dX7_init_21 : decode cX7_init 21 = .ok (.newarray .int, 2) := by decide +kernel
theorem dX7_init_23 : decode cX7_init 23 = .ok (.putfield 21, 3) := by decide +kernel
theorem dX7_init_26 : decode cX7_init 26 = .ok (.aload_n 0, 1) := by decide +kernel
theorem dX7_init_27 : decode cX7_init 27 = .ok (.bipush 8, 2) := by decide +kernel
theorem dX7_init_29 : decode cX7_init 29 = .ok (.newarray .int, 2) := by decide +kernel
theorem dX7_init_31 : decode cX7_init 31 = .ok (.putfield 25, 3) := by decide +kernel
theorem dX7_init_34 : decode cX7_init 34 = .ok (.aload_n 0, 1) := by decide +kernel
theorem dX7_init_35 : decode cX7_init 35 = .ok (.iconst 0, 1) := by decide +kernel
theorem dX7_init_36 : decode cX7_init 36 = .ok (.putfield 28, 3) := by decide +kernel
theorem dX7_init_39 : decode cX7_init 39 = .ok (.aload_n 0, 1) := by decide +kernel
theorem dX7_init_40 : decode cX7_init 40 = .ok (.iconst 0, 1) := by decide +kernel
theorem dX7_init_41 : decode cX7_init 41 = .ok (.putfield 31, 3) := by decide +kernel
theorem dX7_init_44 : decode cX7_init 44 = .ok (.aload_n 0, 1) := by decide +kernel
theorem dX7_init_45 : decode cX7_init 45 = .ok (.iconst 0, 1) := by decide +kernel
theorem dX7_init_46 : decode cX7_init 46 = .ok (.putfield 34, 3) := by decide +kernel
theorem dX7_init_49 : decode cX7_init 49 = .ok (.aload_n 0, 1) := by decide +kernel
theorem dX7_init_50 : decode cX7_init 50 = .ok (.iconst 0, 1) := by decide +kernel
theorem dX7_init_51 : decode cX7_init 51 = .ok (.putfield 37, 3) := by decide +kernel
theorem dX7_init_54 : decode cX7_init 54 = .ok (.aload_n 0, 1) := by decide +kernel
theorem dX7_init_55 : decode cX7_init 55 = .ok (.bipush 20, 2) := by decide +kernel
theorem dX7_init_57 : decode cX7_init 57 = .ok (.newarray .int, 2) := by decide +kernel
theorem dX7_init_59 : decode cX7_init 59 = .ok (.putfield 40, 3) := by decide +kernel
theorem dX7_init_62 : decode cX7_init 62 = .ok (.aload_n 0, 1) := by decide +kernel
theorem dX7_init_63 : decode cX7_init 63 = .ok (.bipush 20, 2) := by decide +kernel
theorem dX7_init_65 : decode cX7_init 65 = .ok (.newarray .int, 2) := by decide +kernel
theorem dX7_init_67 : decode cX7_init 67 = .ok (.putfield 43, 3) := by decide +kernel
theorem dX7_init_70 : decode cX7_init 70 = .ok (.aload_n 0, 1) := by decide +kernel
theorem dX7_init_71 : decode cX7_init 71 = .ok (.bipush 20, 2) := by decide +kernel
theorem dX7_init_73 : decode cX7_init 73 = .ok (.newarray .int, 2) := by decide +kernel
theorem dX7_init_75 : decode cX7_init 75 = .ok (.putfield 46, 3) := by decide +kernel
theorem dX7_init_78 : decode cX7_init 78 = .ok (.aload_n 0, 1) := by decide +kernel
theorem dX7_init_79 : decode cX7_init 79 = .ok (.aload_n 1, 1) := by decide +kernel
theorem dX7_init_80 : decode cX7_init 80 = .ok (.putfield 49, 3) := by decide +kernel
theorem dX7_init_83 : decode cX7_init 83 = .ok (.return_, 1) := by decide +kernel
abbrev D_X7_init : Nat := 1
set_option maxRecDepth 100000 in
def f_X7_init (μ0 : Mm) (a1 : Nat) (a2 : Nat) : Option Mm :=
 ((pV μ0 a1 7 1 (.int (-1 : Int32))).bind fun μ3 =>
    ((pV μ3 a1 7 2 (.int (0 : Int32))).bind fun μ4 =>
    ((pV μ4 a1 7 3 (.int (0 : Int32))).bind fun μ5 =>
    (bd (nA μ5 0 (5 : Int32)) fun a6 μ7 =>
    ((pV μ7 a1 7 4 (.ref a6)).bind fun μ8 =>
    (bd (nA μ8 0 (8 : Int32)) fun a9 μ10 =>
    ((pV μ10 a1 7 5 (.ref a9)).bind fun μ11 =>
    ((pV μ11 a1 7 6 (.int (0 : Int32))).bind fun μ12 =>
    ((pV μ12 a1 7 7 (.int (0 : Int32))).bind fun μ13 =>
    ((pV μ13 a1 7 8 (.int (0 : Int32))).bind fun μ14 =>
    ((pV μ14 a1 7 9 (.int (0 : Int32))).bind fun μ15 =>
    (bd (nA μ15 0 (20 : Int32)) fun a16 μ17 =>
    ((pV μ17 a1 7 10 (.ref a16)).bind fun μ18 =>
    (bd (nA μ18 0 (20 : Int32)) fun a19 μ20 =>
    ((pV μ20 a1 7 11 (.ref a19)).bind fun μ21 =>
    (bd (nA μ21 0 (20 : Int32)) fun a22 μ23 =>
    ((pV μ23 a1 7 12 (.ref a22)).bind fun μ24 =>
    ((pV μ24 a1 7 0 (.ref a2)).bind fun μ25 =>
    (some μ25)))))))))))))))))))
set_option maxHeartbeats 4000000 in
set_option maxRecDepth 100000 in
theorem f_X7_init_ok {l : Launch} {G : GG} {μ0 : Mm} {a1 : Nat} {a2 : Nat} {μ' : Mm} (hf : f_X7_init μ0 a1 a2 = some μ') : EvM l G D_X7_init yX7_init cX7_init 2 none [.ref a1, .ref a2] μ0 none μ' := by
  show Ev l G D_X7_init yX7_init cX7_init 2 none 0 [(0, .ref a1), (1, .ref a2)] [] μ0 none μ'
  unfold f_X7_init at hf
  refine E_aload_n (pc := 0) dX7_init_0 rfl ?_
  refine E_objI (pc := 1) dX7_init_1 (by decide) (Nat.le_of_ble_eq_true rfl) ml_X7_3 ?_
  refine E_aload_n (pc := 4) dX7_init_4 rfl ?_
  refine E_iconst (pc := 5) (v := (-1 : Int32)) dX7_init_5 (by decide) ?_
  refine E_putI (pc := 6) dX7_init_6 (pl_X7_9 _) hf (fun μ3 hf => ?_)
  refine E_aload_n (pc := 9) dX7_init_9 rfl ?_
  refine E_iconst (pc := 10) (v := (0 : Int32)) dX7_init_10 (by decide) ?_
  refine E_putI (pc := 11) dX7_init_11 (pl_X7_15 _) hf (fun μ4 hf => ?_)
  refine E_aload_n (pc := 14) dX7_init_14 rfl ?_
  refine E_iconst (pc := 15) (v := (0 : Int32)) dX7_init_15 (by decide) ?_
  refine E_putI (pc := 16) dX7_init_16 (pl_X7_18 _) hf (fun μ5 hf => ?_)
  refine E_aload_n (pc := 19) dX7_init_19 rfl ?_
  refine E_iconst (pc := 20) (v := (5 : Int32)) dX7_init_20 (by decide) ?_
  refine E_newa2 (pc := 21) dX7_init_21 (by decide) ac_int hf (fun a6 μ7 hf => ?_)
  refine E_putA (pc := 23) dX7_init_23 pl_X7_21 hf (fun μ8 hf => ?_)
  refine E_aload_n (pc := 26) dX7_init_26 rfl ?_
  refine E_bipush (pc := 27) (v := (8 : Int32)) dX7_init_27 (by decide) ?_
  refine E_newa2 (pc := 29) dX7_init_29 (by decide) ac_int hf (fun a9 μ10 hf => ?_)
  refine E_putA (pc := 31) dX7_init_31 pl_X7_25 hf (fun μ11 hf => ?_)
  refine E_aload_n (pc := 34) dX7_init_34 rfl ?_
  refine E_iconst (pc := 35) (v := (0 : Int32)) dX7_init_35 (by decide) ?_
  refine E_putI (pc := 36) dX7_init_36 (pl_X7_28 _) hf (fun μ12 hf => ?_)
  refine E_aload_n (pc := 39) dX7_init_39 rfl ?_
  refine E_iconst (pc := 40) (v := (0 : Int32)) dX7_init_40 (by decide) ?_
  refine E_putI (pc := 41) dX7_init_41 (pl_X7_31 _) hf (fun μ13 hf => ?_)
  refine E_aload_n (pc := 44) dX7_init_44 rfl ?_
  refine E_iconst (pc := 45) (v := (0 : Int32)) dX7_init_45 (by decide) ?_
  refine E_putI (pc := 46) dX7_init_46 (pl_X7_34 _) hf (fun μ14 hf => ?_)
  refine E_aload_n (pc := 49) dX7_init_49 rfl ?_
  refine E_iconst (pc := 50) (v := (0 : Int32)) dX7_init_50 (by decide) ?_
  refine E_putI (pc := 51) dX7_init_51 (pl_X7_37 _) hf (fun μ15 hf => ?_)
  refine E_aload_n (pc := 54) dX7_init_54 rfl ?_
  refine E_bipush (pc := 55) (v := (20 : Int32)) dX7_init_55 (by decide) ?_
  refine E_newa2 (pc := 57) dX7_init_57 (by decide) ac_int hf (fun a16 μ17 hf => ?_)
  refine E_putA (pc := 59) dX7_init_59 pl_X7_40 hf (fun μ18 hf => ?_)
  refine E_aload_n (pc := 62) dX7_init_62 rfl ?_
  refine E_bipush (pc := 63) (v := (20 : Int32)) dX7_init_63 (by decide) ?_
  refine E_newa2 (pc := 65) dX7_init_65 (by decide) ac_int hf (fun a19 μ20 hf => ?_)
  refine E_putA (pc := 67) dX7_init_67 pl_X7_43 hf (fun μ21 hf => ?_)
  refine E_aload_n (pc := 70) dX7_init_70 rfl ?_
  refine E_bipush (pc := 71) (v := (20 : Int32)) dX7_init_71 (by decide) ?_
  refine E_newa2 (pc := 73) dX7_init_73 (by decide) ac_int hf (fun a22 μ23 hf => ?_)
  refine E_putA (pc := 75) dX7_init_75 pl_X7_46 hf (fun μ24 hf => ?_)
  refine E_aload_n (pc := 78) dX7_init_78 rfl ?_
  refine E_aload_n (pc := 79) dX7_init_79 rfl ?_
  refine E_putR (pc := 80) dX7_init_80 (pl_X7_49 _) hf (fun μ25 hf => ?_)
  exact E_vret (pc := 83) dX7_init_83 rfl hf
theorem dX7_forgetClues_0 : decode cX7_forgetClues 0 = .ok (.aload_n 0, 1) := by decide +kernel
theorem dX7_forgetClues_1 : decode cX7_forgetClues 1 = .ok (.iconst 0, 1) := by decide +kernel
theorem dX7_forgetClues_2 : decode cX7_forgetClues 2 = .ok (.putfield 28, 3) := by decide +kernel
theorem dX7_forgetClues_5 : decode cX7_forgetClues 5 = .ok (.aload_n 0, 1) := by decide +kernel
theorem dX7_forgetClues_6 : decode cX7_forgetClues 6 = .ok (.iconst 0, 1) := by decide +kernel
theorem dX7_forgetClues_7 : decode cX7_forgetClues 7 = .ok (.putfield 31, 3) := by decide +kernel
theorem dX7_forgetClues_10 : decode cX7_forgetClues 10 = .ok (.aload_n 0, 1) := by decide +kernel
theorem dX7_forgetClues_11 : decode cX7_forgetClues 11 = .ok (.iconst 0, 1) := by decide +kernel
theorem dX7_forgetClues_12 : decode cX7_forgetClues 12 = .ok (.putfield 34, 3) := by decide +kernel
theorem dX7_forgetClues_15 : decode cX7_forgetClues 15 = .ok (.return_, 1) := by decide +kernel
abbrev D_X7_forgetClues : Nat := 1
set_option maxRecDepth 100000 in
def f_X7_forgetClues (μ0 : Mm) (a1 : Nat) : Option Mm :=
 ((pV μ0 a1 7 6 (.int (0 : Int32))).bind fun μ2 =>
    ((pV μ2 a1 7 7 (.int (0 : Int32))).bind fun μ3 =>
    ((pV μ3 a1 7 8 (.int (0 : Int32))).bind fun μ4 =>
    (some μ4))))
set_option maxHeartbeats 4000000 in
set_option maxRecDepth 100000 in
theorem f_X7_forgetClues_ok {l : Launch} {G : GG} {μ0 : Mm} {a1 : Nat} {μ' : Mm} (hf : f_X7_forgetClues μ0 a1 = some μ') : EvM l G D_X7_forgetClues yX7_forgetClues cX7_forgetClues 1 none [.ref a1] μ0 none μ' := by
  show Ev l G D_X7_forgetClues yX7_forgetClues cX7_forgetClues 1 none 0 [(0, .ref a1)] [] μ0 none μ'
  unfold f_X7_forgetClues at hf
  refine E_aload_n (pc := 0) dX7_forgetClues_0 rfl ?_
  refine E_iconst (pc := 1) (v := (0 : Int32)) dX7_forgetClues_1 (by decide) ?_
  refine E_putI (pc := 2) dX7_forgetClues_2 (pl_X7_28 _) hf (fun μ2 hf => ?_)
  refine E_aload_n (pc := 5) dX7_forgetClues_5 rfl ?_
  refine E_iconst (pc := 6) (v := (0 : Int32)) dX7_forgetClues_6 (by decide) ?_
  refine E_putI (pc := 7) dX7_forgetClues_7 (pl_X7_31 _) hf (fun μ3 hf => ?_)
  refine E_aload_n (pc := 10) dX7_forgetClues_10 rfl ?_
  refine E_iconst (pc := 11) (v := (0 : Int32)) dX7_forgetClues_11 (by decide) ?_
  refine E_putI (pc := 12) dX7_forgetClues_12 (pl_X7_34 _) hf (fun μ4 hf => ?_)
  exact E_vret (pc := 15) dX7_forgetClues_15 rfl hf
theorem dX7_settleOn_0 : decode cX7_settleOn 0 = .ok (.aload_n 0, 1) := by decide +kernel
theorem dX7_settleOn_1 : decode cX7_settleOn 1 = .ok (.aload_n 1, 1) := by decide +kernel
theorem dX7_settleOn_2 : decode cX7_settleOn 2 = .ok (.putfield 49, 3) := by decide +kernel
theorem dX7_settleOn_5 : decode cX7_settleOn 5 = .ok (.aload_n 1, 1) := by decide +kernel
theorem dX7_settleOn_6 : decode cX7_settleOn 6 = .ok (.getfield 53, 3) := by decide +kernel
theorem dX7_settleOn_9 : decode cX7_settleOn 9 = .ok (.iconst 0, 1) := by decide +kernel
theorem dX7_settleOn_10 : decode cX7_settleOn 10 = .ok (.aload_n 0, 1) := by decide +kernel
theorem dX7_settleOn_11 : decode cX7_settleOn 11 = .ok (.getfield 21, 3) := by decide +kernel
theorem dX7_settleOn_14 : decode cX7_settleOn 14 = .ok (.iconst 0, 1) := by decide +kernel
theorem dX7_settleOn_15 : decode cX7_settleOn 15 = .ok (.iconst 5, 1) := by decide +kernel
theorem dX7_settleOn_16 : decode cX7_settleOn 16 = .ok (.invokestatic 58, 3) := by decide +kernel
theorem dX7_settleOn_19 : decode cX7_settleOn 19 = .ok (.aload_n 1, 1) := by decide +kernel
theorem dX7_settleOn_20 : decode cX7_settleOn 20 = .ok (.getfield 64, 3) := by decide +kernel
theorem dX7_settleOn_23 : decode cX7_settleOn 23 = .ok (.iconst 0, 1) := by decide +kernel
theorem dX7_settleOn_24 : decode cX7_settleOn 24 = .ok (.aload_n 0, 1) := by decide +kernel
theorem dX7_settleOn_25 : decode cX7_settleOn 25 = .ok (.getfield 25, 3) := by decide +kernel
theorem dX7_settleOn_28 : decode cX7_settleOn 28 = .ok (.iconst 0, 1) := by decide +kernel
theorem dX7_settleOn_29 : decode cX7_settleOn 29 = .ok (.bipush 8, 2) := by decide +kernel
theorem dX7_settleOn_31 : decode cX7_settleOn 31 = .ok (.invokestatic 58, 3) := by decide +kernel
theorem dX7_settleOn_34 : decode cX7_settleOn 34 = .ok (.aload_n 0, 1) := by decide +kernel
theorem dX7_settleOn_35 : decode cX7_settleOn 35 = .ok (.iconst 0, 1) := by decide +kernel
theorem dX7_settleOn_36 : decode cX7_settleOn 36 = .ok (.putfield 18, 3) := by decide +kernel
theorem dX7_settleOn_39 : decode cX7_settleOn 39 = .ok (.aload_n 0, 1) := by decide +kernel
theorem dX7_settleOn_40 : decode cX7_settleOn 40 = .ok (.iconst 0, 1) := by decide +kernel
theorem dX7_settleOn_41 : decode cX7_settleOn 41 = .ok (.putfield 37, 3) := by decide +kernel
theorem dX7_settleOn_44 : decode cX7_settleOn 44 = .ok (.aload_n 0, 1) := by decide +kernel
theorem dX7_settleOn_45 : decode cX7_settleOn 45 = .ok (.invokevirtual 67, 3) := by decide +kernel
theorem dX7_settleOn_48 : decode cX7_settleOn 48 = .ok (.return_, 1) := by decide +kernel
abbrev D_X7_settleOn : Nat := 2
set_option maxRecDepth 100000 in
def f_X7_settleOn (μ0 : Mm) (a1 : Nat) (a2 : Nat) : Option Mm :=
 ((pV μ0 a1 7 0 (.ref a2)).bind fun μ3 =>
    ((gR μ3 a2 1 7).bind fun v4 =>
    ((gR μ3 a1 7 4).bind fun v5 =>
    ((cpI μ3 v4 (0 : Int32) v5 (0 : Int32) (5 : Int32)).bind fun μ6 =>
    ((gR μ6 a2 1 10).bind fun v7 =>
    ((gR μ6 a1 7 5).bind fun v8 =>
    ((cpI μ6 v7 (0 : Int32) v8 (0 : Int32) (8 : Int32)).bind fun μ9 =>
    ((pV μ9 a1 7 3 (.int (0 : Int32))).bind fun μ10 =>
    ((pV μ10 a1 7 9 (.int (0 : Int32))).bind fun μ11 =>
    ((ob μ11 a1 7).bind fun _ =>
    ((f_X7_forgetClues μ11 a1).bind fun μ12 =>
    (some μ12))))))))))))
set_option maxHeartbeats 4000000 in
set_option maxRecDepth 100000 in
theorem f_X7_settleOn_ok {l : Launch} {G : GG} {μ0 : Mm} {a1 : Nat} {a2 : Nat} {μ' : Mm} (hf : f_X7_settleOn μ0 a1 a2 = some μ') : EvM l G D_X7_settleOn yX7_settleOn cX7_settleOn 2 none [.ref a1, .ref a2] μ0 none μ' := by
  show Ev l G D_X7_settleOn yX7_settleOn cX7_settleOn 2 none 0 [(0, .ref a1), (1, .ref a2)] [] μ0 none μ'
  unfold f_X7_settleOn at hf
  refine E_aload_n (pc := 0) dX7_settleOn_0 rfl ?_
  refine E_aload_n (pc := 1) dX7_settleOn_1 rfl ?_
  refine E_putR (pc := 2) dX7_settleOn_2 (pl_X7_49 _) hf (fun μ3 hf => ?_)
  refine E_aload_n (pc := 5) dX7_settleOn_5 rfl ?_
  refine E_getR (pc := 6) dX7_settleOn_6 fl_X7_53 hf (fun v4 hf => ?_)
  refine E_iconst (pc := 9) (v := (0 : Int32)) dX7_settleOn_9 (by decide) ?_
  refine E_aload_n (pc := 10) dX7_settleOn_10 rfl ?_
  refine E_getR (pc := 11) dX7_settleOn_11 fl_X7_21 hf (fun v5 hf => ?_)
  refine E_iconst (pc := 14) (v := (0 : Int32)) dX7_settleOn_14 (by decide) ?_
  refine E_iconst (pc := 15) (v := (5 : Int32)) dX7_settleOn_15 (by decide) ?_
  refine E_copy (pc := 16) dX7_settleOn_16 (by decide) (Nat.le_of_ble_eq_true rfl) ml_X7_58 hf (fun μ6 hf => ?_)
  refine E_aload_n (pc := 19) dX7_settleOn_19 rfl ?_
  refine E_getR (pc := 20) dX7_settleOn_20 fl_X7_64 hf (fun v7 hf => ?_)
  refine E_iconst (pc := 23) (v := (0 : Int32)) dX7_settleOn_23 (by decide) ?_
  refine E_aload_n (pc := 24) dX7_settleOn_24 rfl ?_
  refine E_getR (pc := 25) dX7_settleOn_25 fl_X7_25 hf (fun v8 hf => ?_)
  refine E_iconst (pc := 28) (v := (0 : Int32)) dX7_settleOn_28 (by decide) ?_
  refine E_bipush (pc := 29) (v := (8 : Int32)) dX7_settleOn_29 (by decide) ?_
  refine E_copy (pc := 31) dX7_settleOn_31 (by decide) (Nat.le_of_ble_eq_true rfl) ml_X7_58 hf (fun μ9 hf => ?_)
  refine E_aload_n (pc := 34) dX7_settleOn_34 rfl ?_
  refine E_iconst (pc := 35) (v := (0 : Int32)) dX7_settleOn_35 (by decide) ?_
  refine E_putI (pc := 36) dX7_settleOn_36 (pl_X7_18 _) hf (fun μ10 hf => ?_)
  refine E_aload_n (pc := 39) dX7_settleOn_39 rfl ?_
  refine E_iconst (pc := 40) (v := (0 : Int32)) dX7_settleOn_40 (by decide) ?_
  refine E_putI (pc := 41) dX7_settleOn_41 (pl_X7_37 _) hf (fun μ11 hf => ?_)
  refine E_aload_n (pc := 44) dX7_settleOn_44 rfl ?_
  refine E_Vv (pc := 45) (d2 := D_X7_forgetClues) (ci := 7) [] dX7_settleOn_45 ml_X7_67 mf_X7_forgetClues im_X7_forgetClues rfl rfl rfl (by decide) (Nat.le_of_ble_eq_true rfl) (Nat.le_of_ble_eq_true rfl) rfl (fun _ h => f_X7_forgetClues_ok h) hf (fun μ12 hf => ?_)
  exact E_vret (pc := 48) dX7_settleOn_48 rfl hf
theorem dX7_copyFrom_0 : decode cX7_copyFrom 0 = .ok (.aload_n 0, 1) := by decide +kernel
theorem dX7_copyFrom_1 : decode cX7_copyFrom 1 = .ok (.aload_n 1, 1) := by decide +kernel
theorem dX7_copyFrom_2 : decode cX7_copyFrom 2 = .ok (.getfield 49, 3) := by decide +kernel
theorem dX7_copyFrom_5 : decode cX7_copyFrom 5 = .ok (.putfield 49, 3) := by decide +kernel
theorem dX7_copyFrom_8 : decode cX7_copyFrom 8 = .ok (.aload_n 0, 1) := by decide +kernel
theorem dX7_copyFrom_9 : decode cX7_copyFrom 9 = .ok (.aload_n 1, 1) := by decide +kernel
theorem dX7_copyFrom_10 : decode cX7_copyFrom 10 = .ok (.getfield 9, 3) := by decide +kernel
theorem dX7_copyFrom_13 : decode cX7_copyFrom 13 = .ok (.putfield 9, 3) := by decide +kernel
theorem dX7_copyFrom_16 : decode cX7_copyFrom 16 = .ok (.aload_n 0, 1) := by decide +kernel
theorem dX7_copyFrom_17 : decode cX7_copyFrom 17 = .ok (.aload_n 1, 1) := by decide +kernel
theorem dX7_copyFrom_18 : decode cX7_copyFrom 18 = .ok (.getfield 15, 3) := by decide +kernel
theorem dX7_copyFrom_21 : decode cX7_copyFrom 21 = .ok (.putfield 15, 3) := by decide +kernel
theorem dX7_copyFrom_24 : decode cX7_copyFrom 24 = .ok (.aload_n 0, 1) := by decide +kernel
theorem dX7_copyFrom_25 : decode cX7_copyFrom 25 = .ok (.aload_n 1, 1) := by decide +kernel
theorem dX7_copyFrom_26 : decode cX7_copyFrom 26 = .ok (.getfield 18, 3) := by decide +kernel
theorem dX7_copyFrom_29 : decode cX7_copyFrom 29 = .ok (.putfield 18, 3) := by decide +kernel
theorem dX7_copyFrom_32 : decode cX7_copyFrom 32 = .ok (.aload_n 1, 1) := by decide +kernel
theorem dX7_copyFrom_33 : decode cX7_copyFrom 33 = .ok (.getfield 21, 3) := by decide +kernel
theorem dX7_copyFrom_36 : decode cX7_copyFrom 36 = .ok (.iconst 0, 1) := by decide +kernel
theorem dX7_copyFrom_37 : decode cX7_copyFrom 37 = .ok (.aload_n 0, 1) := by decide +kernel
theorem dX7_copyFrom_38 : decode cX7_copyFrom 38 = .ok (.getfield 21, 3) := by decide +kernel
theorem dX7_copyFrom_41 : decode cX7_copyFrom 41 = .ok (.iconst 0, 1) := by decide +kernel
theorem dX7_copyFrom_42 : decode cX7_copyFrom 42 = .ok (.iconst 5, 1) := by decide +kernel
theorem dX7_copyFrom_43 : decode cX7_copyFrom 43 = .ok (.invokestatic 58, 3) := by decide +kernel
theorem dX7_copyFrom_46 : decode cX7_copyFrom 46 = .ok (.aload_n 1, 1) := by decide +kernel
theorem dX7_copyFrom_47 : decode cX7_copyFrom 47 = .ok (.getfield 25, 3) := by decide +kernel
theorem dX7_copyFrom_50 : decode cX7_copyFrom 50 = .ok (.iconst 0, 1) := by decide +kernel
theorem dX7_copyFrom_51 : decode cX7_copyFrom 51 = .ok (.aload_n 0, 1) := by decide +kernel
theorem dX7_copyFrom_52 : decode cX7_copyFrom 52 = .ok (.getfield 25, 3) := by decide +kernel
theorem dX7_copyFrom_55 : decode cX7_copyFrom 55 = .ok (.iconst 0, 1) := by decide +kernel
theorem dX7_copyFrom_56 : decode cX7_copyFrom 56 = .ok (.bipush 8, 2) := by decide +kernel
theorem dX7_copyFrom_58 : decode cX7_copyFrom 58 = .ok (.invokestatic 58, 3) := by decide +kernel
theorem dX7_copyFrom_61 : decode cX7_copyFrom 61 = .ok (.aload_n 0, 1) := by decide +kernel
theorem dX7_copyFrom_62 : decode cX7_copyFrom 62 = .ok (.aload_n 1, 1) := by decide +kernel
theorem dX7_copyFrom_63 : decode cX7_copyFrom 63 = .ok (.getfield 28, 3) := by decide +kernel
theorem dX7_copyFrom_66 : decode cX7_copyFrom 66 = .ok (.putfield 28, 3) := by decide +kernel
theorem dX7_copyFrom_69 : decode cX7_copyFrom 69 = .ok (.aload_n 0, 1) := by decide +kernel
theorem dX7_copyFrom_70 : decode cX7_copyFrom 70 = .ok (.aload_n 1, 1) := by decide +kernel
theorem dX7_copyFrom_71 : decode cX7_copyFrom 71 = .ok (.getfield 31, 3) := by decide +kernel
theorem dX7_copyFrom_74 : decode cX7_copyFrom 74 = .ok (.putfield 31, 3) := by decide +kernel
theorem dX7_copyFrom_77 : decode cX7_copyFrom 77 = .ok (.aload_n 0, 1) := by decide +kernel
theorem dX7_copyFrom_78 : decode cX7_copyFrom 78 = .ok (.aload_n 1, 1) := by decide +kernel
theorem dX7_copyFrom_79 : decode cX7_copyFrom 79 = .ok (.getfield 34, 3) := by decide +kernel
theorem dX7_copyFrom_82 : decode cX7_copyFrom 82 = .ok (.putfield 34, 3) := by decide +kernel
theorem dX7_copyFrom_85 : decode cX7_copyFrom 85 = .ok (.aload_n 0, 1) := by decide +kernel
theorem dX7_copyFrom_86 : decode cX7_copyFrom 86 = .ok (.aload_n 1, 1) := by decide +kernel
theorem dX7_copyFrom_87 : decode cX7_copyFrom 87 = .ok (.getfield 37, 3) := by decide +kernel
theorem dX7_copyFrom_90 : decode cX7_copyFrom 90 = .ok (.putfield 37, 3) := by decide +kernel
theorem dX7_copyFrom_93 : decode cX7_copyFrom 93 = .ok (.aload_n 1, 1) := by decide +kernel
theorem dX7_copyFrom_94 : decode cX7_copyFrom 94 = .ok (.getfield 40, 3) := by decide +kernel
theorem dX7_copyFrom_97 : decode cX7_copyFrom 97 = .ok (.iconst 0, 1) := by decide +kernel
theorem dX7_copyFrom_98 : decode cX7_copyFrom 98 = .ok (.aload_n 0, 1) := by decide +kernel
theorem dX7_copyFrom_99 : decode cX7_copyFrom 99 = .ok (.getfield 40, 3) := by decide +kernel
theorem dX7_copyFrom_102 : decode cX7_copyFrom 102 = .ok (.iconst 0, 1) := by decide +kernel
theorem dX7_copyFrom_103 : decode cX7_copyFrom 103 = .ok (.bipush 20, 2) := by decide +kernel
theorem dX7_copyFrom_105 : decode cX7_copyFrom 105 = .ok (.invokestatic 58, 3) := by decide +kernel
theorem dX7_copyFrom_108 : decode cX7_copyFrom 108 = .ok (.aload_n 1, 1) := by decide +kernel
theorem dX7_copyFrom_109 : decode cX7_copyFrom 109 = .ok (.getfield 43, 3) := by decide +kernel
theorem dX7_copyFrom_112 : decode cX7_copyFrom 112 = .ok (.iconst 0, 1) := by decide +kernel
theorem dX7_copyFrom_113 : decode cX7_copyFrom 113 = .ok (.aload_n 0, 1) := by decide +kernel
theorem dX7_copyFrom_114 : decode cX7_copyFrom 114 = .ok (.getfield 43, 3) := by decide +kernel
theorem dX7_copyFrom_117 : decode cX7_copyFrom 117 = .ok (.iconst 0, 1) := by decide +kernel
theorem dX7_copyFrom_118 : decode cX7_copyFrom 118 = .ok (.bipush 20, 2) := by decide +kernel
theorem dX7_copyFrom_120 : decode cX7_copyFrom 120 = .ok (.invokestatic 58, 3) := by decide +kernel
theorem dX7_copyFrom_123 : decode cX7_copyFrom 123 = .ok (.aload_n 1, 1) := by decide +kernel
theorem dX7_copyFrom_124 : decode cX7_copyFrom 124 = .ok (.getfield 46, 3) := by decide +kernel
theorem dX7_copyFrom_127 : decode cX7_copyFrom 127 = .ok (.iconst 0, 1) := by decide +kernel
theorem dX7_copyFrom_128 : decode cX7_copyFrom 128 = .ok (.aload_n 0, 1) := by decide +kernel
theorem dX7_copyFrom_129 : decode cX7_copyFrom 129 = .ok (.getfield 46, 3) := by decide +kernel
theorem dX7_copyFrom_132 : decode cX7_copyFrom 132 = .ok (.iconst 0, 1) := by decide +kernel
theorem dX7_copyFrom_133 : decode cX7_copyFrom 133 = .ok (.bipush 20, 2) := by decide +kernel
theorem dX7_copyFrom_135 : decode cX7_copyFrom 135 = .ok (.invokestatic 58, 3) := by decide +kernel
theorem dX7_copyFrom_138 : decode cX7_copyFrom 138 = .ok (.return_, 1) := by decide +kernel
abbrev D_X7_copyFrom : Nat := 1
set_option maxRecDepth 100000 in
def f_X7_copyFrom (μ0 : Mm) (a1 : Nat) (a2 : Nat) : Option Mm :=
 ((gR μ0 a2 7 0).bind fun v3 =>
    ((pV μ0 a1 7 0 (.ref v3)).bind fun μ4 =>
    ((gI μ4 a2 7 1).bind fun v5 =>
    ((pV μ4 a1 7 1 (.int v5)).bind fun μ6 =>
    ((gI μ6 a2 7 2).bind fun v7 =>
    ((pV μ6 a1 7 2 (.int v7)).bind fun μ8 =>
    ((gI μ8 a2 7 3).bind fun v9 =>
    ((pV μ8 a1 7 3 (.int v9)).bind fun μ10 =>
    ((gR μ10 a2 7 4).bind fun v11 =>
    ((gR μ10 a1 7 4).bind fun v12 =>
    ((cpI μ10 v11 (0 : Int32) v12 (0 : Int32) (5 : Int32)).bind fun μ13 =>
    ((gR μ13 a2 7 5).bind fun v14 =>
    ((gR μ13 a1 7 5).bind fun v15 =>
    ((cpI μ13 v14 (0 : Int32) v15 (0 : Int32) (8 : Int32)).bind fun μ16 =>
    ((gI μ16 a2 7 6).bind fun v17 =>
    ((pV μ16 a1 7 6 (.int v17)).bind fun μ18 =>
    ((gI μ18 a2 7 7).bind fun v19 =>
    ((pV μ18 a1 7 7 (.int v19)).bind fun μ20 =>
    ((gI μ20 a2 7 8).bind fun v21 =>
    ((pV μ20 a1 7 8 (.int v21)).bind fun μ22 =>
    ((gI μ22 a2 7 9).bind fun v23 =>
    ((pV μ22 a1 7 9 (.int v23)).bind fun μ24 =>
    ((gR μ24 a2 7 10).bind fun v25 =>
    ((gR μ24 a1 7 10).bind fun v26 =>
    ((cpI μ24 v25 (0 : Int32) v26 (0 : Int32) (20 : Int32)).bind fun μ27 =>
    ((gR μ27 a2 7 11).bind fun v28 =>
    ((gR μ27 a1 7 11).bind fun v29 =>
    ((cpI μ27 v28 (0 : Int32) v29 (0 : Int32) (20 : Int32)).bind fun μ30 =>
    ((gR μ30 a2 7 12).bind fun v31 =>
    ((gR μ30 a1 7 12).bind fun v32 =>
    ((cpI μ30 v31 (0 : Int32) v32 (0 : Int32) (20 : Int32)).bind fun μ33 =>
    (some μ33))))))))))))))))))))))))))))))))
set_option maxHeartbeats 4000000 in
set_option maxRecDepth 100000 in
theorem f_X7_copyFrom_ok {l : Launch} {G : GG} {μ0 : Mm} {a1 : Nat} {a2 : Nat} {μ' : Mm} (hf : f_X7_copyFrom μ0 a1 a2 = some μ') : EvM l G D_X7_copyFrom yX7_copyFrom cX7_copyFrom 2 none [.ref a1, .ref a2] μ0 none μ' := by
  show Ev l G D_X7_copyFrom yX7_copyFrom cX7_copyFrom 2 none 0 [(0, .ref a1), (1, .ref a2)] [] μ0 none μ'
  unfold f_X7_copyFrom at hf
  refine E_aload_n (pc := 0) dX7_copyFrom_0 rfl ?_
  refine E_aload_n (pc := 1) dX7_copyFrom_1 rfl ?_
  refine E_getR (pc := 2) dX7_copyFrom_2 fl_X7_49 hf (fun v3 hf => ?_)
  refine E_putR (pc := 5) dX7_copyFrom_5 (pl_X7_49 _) hf (fun μ4 hf => ?_)
  refine E_aload_n (pc := 8) dX7_copyFrom_8 rfl ?_
  refine E_aload_n (pc := 9) dX7_copyFrom_9 rfl ?_
  refine E_getI (pc := 10) dX7_copyFrom_10 fl_X7_9 hf (fun v5 hf => ?_)
  refine E_putI (pc := 13) dX7_copyFrom_13 (pl_X7_9 _) hf (fun μ6 hf => ?_)
  refine E_aload_n (pc := 16) dX7_copyFrom_16 rfl ?_
  refine E_aload_n (pc := 17) dX7_copyFrom_17 rfl ?_
  refine E_getI (pc := 18) dX7_copyFrom_18 fl_X7_15 hf (fun v7 hf => ?_)
  refine E_putI (pc := 21) dX7_copyFrom_21 (pl_X7_15 _) hf (fun μ8 hf => ?_)
  refine E_aload_n (pc := 24) dX7_copyFrom_24 rfl ?_
  refine E_aload_n (pc := 25) dX7_copyFrom_25 rfl ?_
  refine E_getI (pc := 26) dX7_copyFrom_26 fl_X7_18 hf (fun v9 hf => ?_)
  refine E_putI (pc := 29) dX7_copyFrom_29 (pl_X7_18 _) hf (fun μ10 hf => ?_)
  refine E_aload_n (pc := 32) dX7_copyFrom_32 rfl ?_
  refine E_getR (pc := 33) dX7_copyFrom_33 fl_X7_21 hf (fun v11 hf => ?_)
  refine E_iconst (pc := 36) (v := (0 : Int32)) dX7_copyFrom_36 (by decide) ?_
  refine E_aload_n (pc := 37) dX7_copyFrom_37 rfl ?_
  refine E_getR (pc := 38) dX7_copyFrom_38 fl_X7_21 hf (fun v12 hf => ?_)
  refine E_iconst (pc := 41) (v := (0 : Int32)) dX7_copyFrom_41 (by decide) ?_
  refine E_iconst (pc := 42) (v := (5 : Int32)) dX7_copyFrom_42 (by decide) ?_
  refine E_copy (pc := 43) dX7_copyFrom_43 (by decide) (Nat.le_of_ble_eq_true rfl) ml_X7_58 hf (fun μ13 hf => ?_)
  refine E_aload_n (pc := 46) dX7_copyFrom_46 rfl ?_
  refine E_getR (pc := 47) dX7_copyFrom_47 fl_X7_25 hf (fun v14 hf => ?_)
  refine E_iconst (pc := 50) (v := (0 : Int32)) dX7_copyFrom_50 (by decide) ?_
  refine E_aload_n (pc := 51) dX7_copyFrom_51 rfl ?_
  refine E_getR (pc := 52) dX7_copyFrom_52 fl_X7_25 hf (fun v15 hf => ?_)
  refine E_iconst (pc := 55) (v := (0 : Int32)) dX7_copyFrom_55 (by decide) ?_
  refine E_bipush (pc := 56) (v := (8 : Int32)) dX7_copyFrom_56 (by decide) ?_
  refine E_copy (pc := 58) dX7_copyFrom_58 (by decide) (Nat.le_of_ble_eq_true rfl) ml_X7_58 hf (fun μ16 hf => ?_)
  refine E_aload_n (pc := 61) dX7_copyFrom_61 rfl ?_
  refine E_aload_n (pc := 62) dX7_copyFrom_62 rfl ?_
  refine E_getI (pc := 63) dX7_copyFrom_63 fl_X7_28 hf (fun v17 hf => ?_)
  refine E_putI (pc := 66) dX7_copyFrom_66 (pl_X7_28 _) hf (fun μ18 hf => ?_)
  refine E_aload_n (pc := 69) dX7_copyFrom_69 rfl ?_
  refine E_aload_n (pc := 70) dX7_copyFrom_70 rfl ?_
  refine E_getI (pc := 71) dX7_copyFrom_71 fl_X7_31 hf (fun v19 hf => ?_)
  refine E_putI (pc := 74) dX7_copyFrom_74 (pl_X7_31 _) hf (fun μ20 hf => ?_)
  refine E_aload_n (pc := 77) dX7_copyFrom_77 rfl ?_
  refine E_aload_n (pc := 78) dX7_copyFrom_78 rfl ?_
  refine E_getI (pc := 79) dX7_copyFrom_79 fl_X7_34 hf (fun v21 hf => ?_)
  refine E_putI (pc := 82) dX7_copyFrom_82 (pl_X7_34 _) hf (fun μ22 hf => ?_)
  refine E_aload_n (pc := 85) dX7_copyFrom_85 rfl ?_
  refine E_aload_n (pc := 86) dX7_copyFrom_86 rfl ?_
  refine E_getI (pc := 87) dX7_copyFrom_87 fl_X7_37 hf (fun v23 hf => ?_)
  refine E_putI (pc := 90) dX7_copyFrom_90 (pl_X7_37 _) hf (fun μ24 hf => ?_)
  refine E_aload_n (pc := 93) dX7_copyFrom_93 rfl ?_
  refine E_getR (pc := 94) dX7_copyFrom_94 fl_X7_40 hf (fun v25 hf => ?_)
  refine E_iconst (pc := 97) (v := (0 : Int32)) dX7_copyFrom_97 (by decide) ?_
  refine E_aload_n (pc := 98) dX7_copyFrom_98 rfl ?_
  refine E_getR (pc := 99) dX7_copyFrom_99 fl_X7_40 hf (fun v26 hf => ?_)
  refine E_iconst (pc := 102) (v := (0 : Int32)) dX7_copyFrom_102 (by decide) ?_
  refine E_bipush (pc := 103) (v := (20 : Int32)) dX7_copyFrom_103 (by decide) ?_
  refine E_copy (pc := 105) dX7_copyFrom_105 (by decide) (Nat.le_of_ble_eq_true rfl) ml_X7_58 hf (fun μ27 hf => ?_)
  refine E_aload_n (pc := 108) dX7_copyFrom_108 rfl ?_
  refine E_getR (pc := 109) dX7_copyFrom_109 fl_X7_43 hf (fun v28 hf => ?_)
  refine E_iconst (pc := 112) (v := (0 : Int32)) dX7_copyFrom_112 (by decide) ?_
  refine E_aload_n (pc := 113) dX7_copyFrom_113 rfl ?_
  refine E_getR (pc := 114) dX7_copyFrom_114 fl_X7_43 hf (fun v29 hf => ?_)
  refine E_iconst (pc := 117) (v := (0 : Int32)) dX7_copyFrom_117 (by decide) ?_
  refine E_bipush (pc := 118) (v := (20 : Int32)) dX7_copyFrom_118 (by decide) ?_
  refine E_copy (pc := 120) dX7_copyFrom_120 (by decide) (Nat.le_of_ble_eq_true rfl) ml_X7_58 hf (fun μ30 hf => ?_)
  refine E_aload_n (pc := 123) dX7_copyFrom_123 rfl ?_
  refine E_getR (pc := 124) dX7_copyFrom_124 fl_X7_46 hf (fun v31 hf => ?_)
  refine E_iconst (pc := 127) (v := (0 : Int32)) dX7_copyFrom_127 (by decide) ?_
  refine E_aload_n (pc := 128) dX7_copyFrom_128 rfl ?_
  refine E_getR (pc := 129) dX7_copyFrom_129 fl_X7_46 hf (fun v32 hf => ?_)
  refine E_iconst (pc := 132) (v := (0 : Int32)) dX7_copyFrom_132 (by decide) ?_
  refine E_bipush (pc := 133) (v := (20 : Int32)) dX7_copyFrom_133 (by decide) ?_
  refine E_copy (pc := 135) dX7_copyFrom_135 (by decide) (Nat.le_of_ble_eq_true rfl) ml_X7_58 hf (fun μ33 hf => ?_)
  exact E_vret (pc := 138) dX7_copyFrom_138 rfl hf
theorem dX7_isBroken_0 : decode cX7_isBroken 0 = .ok (.aload_n 0, 1) := by decide +kernel
theorem dX7_isBroken_1 : decode cX7_isBroken 1 = .ok (.getfield 18, 3) := by decide +kernel
theorem dX7_isBroken_4 : decode cX7_isBroken 4 = .ok (.iload_n 1, 1) := by decide +kernel
theorem dX7_isBroken_5 : decode cX7_isBroken 5 = .ok (.ishr, 1) := by decide +kernel
theorem dX7_isBroken_6 : decode cX7_isBroken 6 = .ok (.iconst 1, 1) := by decide +kernel
theorem dX7_isBroken_7 : decode cX7_isBroken 7 = .ok (.iand, 1) := by decide +kernel
theorem dX7_isBroken_8 : decode cX7_isBroken 8 = .ok (.ifCond .eq 7, 3) := by decide +kernel
theorem dX7_isBroken_11 : decode cX7_isBroken 11 = .ok (.iconst 1, 1) := by decide +kernel
theorem dX7_isBroken_12 : decode cX7_isBroken 12 = .ok (.goto 4, 3) := by decide +kernel
theorem dX7_isBroken_15 : decode cX7_isBroken 15 = .ok (.iconst 0, 1) := by decide +kernel
theorem dX7_isBroken_16 : decode cX7_isBroken 16 = .ok (.ireturn, 1) := by decide +kernel
abbrev D_X7_isBroken : Nat := 1
set_option maxRecDepth 100000 in
def f_X7_isBroken (μ0 : Mm) (a1 : Nat) (x2 : Int32) : Option (Int32 × Mm) :=
 ((gI μ0 a1 7 3).bind fun v3 =>
    (if ((v3 >>> (x2 &&& 31)) &&& (1 : Int32)) = 0 then
    (if (0 : Int32) = 0 ∨ (0 : Int32) = 1 then some ((0 : Int32), μ0) else none)
    else
    (if (1 : Int32) = 0 ∨ (1 : Int32) = 1 then some ((1 : Int32), μ0) else none)))
set_option maxHeartbeats 4000000 in
set_option maxRecDepth 100000 in
theorem f_X7_isBroken_ok {l : Launch} {G : GG} {μ0 : Mm} {a1 : Nat} {x2 : Int32} {r : Int32} {μ' : Mm} (hf : f_X7_isBroken μ0 a1 x2 = some (r, μ')) : EvM l G D_X7_isBroken yX7_isBroken cX7_isBroken 2 (some .boolean) [.ref a1, .int x2] μ0 (some (.int r)) μ' := by
  show Ev l G D_X7_isBroken yX7_isBroken cX7_isBroken 2 (some .boolean) 0 [(0, .ref a1), (1, .int x2)] [] μ0 (some (.int r)) μ'
  unfold f_X7_isBroken at hf
  refine E_aload_n (pc := 0) dX7_isBroken_0 rfl ?_
  refine E_getI (pc := 1) dX7_isBroken_1 fl_X7_18 hf (fun v3 hf => ?_)
  refine E_iload_n (pc := 4) dX7_isBroken_4 rfl ?_
  refine E_ishr (pc := 5) dX7_isBroken_5 ?_
  refine E_iconst (pc := 6) (v := (1 : Int32)) dX7_isBroken_6 (by decide) ?_
  refine E_iand (pc := 7) dX7_isBroken_7 ?_
  refine E_if_eq (pc := 8) (tgt := 15) dX7_isBroken_8 (by decide) hf (fun hf => ?_) (fun hf => ?_)
  · refine E_iconst (pc := 15) (v := (0 : Int32)) dX7_isBroken_15 (by decide) ?_
    exact E_zret (pc := 16) dX7_isBroken_16 rfl hf
  · refine E_iconst (pc := 11) (v := (1 : Int32)) dX7_isBroken_11 (by decide) ?_
    refine E_goto (pc := 12) (tgt := 16) dX7_isBroken_12 (by decide) ?_
    exact E_zret (pc := 16) dX7_isBroken_16 rfl hf
theorem dX7_addClue_0 : decode cX7_addClue 0 = .ok (.iload_n 2, 1) := by decide +kernel
theorem dX7_addClue_1 : decode cX7_addClue 1 = .ok (.ifCond .eq 18, 3) := by decide +kernel
theorem dX7_addClue_4 : decode cX7_addClue 4 = .ok (.aload_n 0, 1) := by decide +kernel
theorem dX7_addClue_5 : decode cX7_addClue 5 = .ok (.dup, 1) := by decide +kernel
theorem dX7_addClue_6 : decode cX7_addClue 6 = .ok (.getfield 31, 3) := by decide +kernel
theorem dX7_addClue_9 : decode cX7_addClue 9 = .ok (.iconst 1, 1) := by decide +kernel
theorem dX7_addClue_10 : decode cX7_addClue 10 = .ok (.iload_n 1, 1) := by decide +kernel
theorem dX7_addClue_11 : decode cX7_addClue 11 = .ok (.ishl, 1) := by decide +kernel
theorem dX7_addClue_12 : decode cX7_addClue 12 = .ok (.ior, 1) := by decide +kernel
theorem dX7_addClue_13 : decode cX7_addClue 13 = .ok (.putfield 31, 3) := by decide +kernel
theorem dX7_addClue_16 : decode cX7_addClue 16 = .ok (.goto 15, 3) := by decide +kernel
theorem dX7_addClue_19 : decode cX7_addClue 19 = .ok (.aload_n 0, 1) := by decide +kernel
theorem dX7_addClue_20 : decode cX7_addClue 20 = .ok (.dup, 1) := by decide +kernel
theorem dX7_addClue_21 : decode cX7_addClue 21 = .ok (.getfield 34, 3) := by decide +kernel
theorem dX7_addClue_24 : decode cX7_addClue 24 = .ok (.iconst 1, 1) := by decide +kernel
theorem dX7_addClue_25 : decode cX7_addClue 25 = .ok (.iload_n 1, 1) := by decide +kernel
theorem dX7_addClue_26 : decode cX7_addClue 26 = .ok (.ishl, 1) := by decide +kernel
theorem dX7_addClue_27 : decode cX7_addClue 27 = .ok (.ior, 1) := by decide +kernel
theorem dX7_addClue_28 : decode cX7_addClue 28 = .ok (.putfield 34, 3) := by decide +kernel
theorem dX7_addClue_31 : decode cX7_addClue 31 = .ok (.aload_n 0, 1) := by decide +kernel
theorem dX7_addClue_32 : decode cX7_addClue 32 = .ok (.dup, 1) := by decide +kernel
theorem dX7_addClue_33 : decode cX7_addClue 33 = .ok (.getfield 28, 3) := by decide +kernel
theorem dX7_addClue_36 : decode cX7_addClue 36 = .ok (.iconst 1, 1) := by decide +kernel
theorem dX7_addClue_37 : decode cX7_addClue 37 = .ok (.iadd, 1) := by decide +kernel
theorem dX7_addClue_38 : decode cX7_addClue 38 = .ok (.putfield 28, 3) := by decide +kernel
theorem dX7_addClue_41 : decode cX7_addClue 41 = .ok (.return_, 1) := by decide +kernel
abbrev D_X7_addClue : Nat := 1
set_option maxRecDepth 100000 in
def f_X7_addClue (μ0 : Mm) (a1 : Nat) (x2 : Int32) (x3 : Int32) : Option Mm :=
 (if x3 = 0 then
    ((gI μ0 a1 7 8).bind fun v4 =>
    ((pV μ0 a1 7 8 (.int (v4 ||| ((1 : Int32) <<< (x2 &&& 31))))).bind fun μ5 =>
    ((gI μ5 a1 7 6).bind fun v6 =>
    ((pV μ5 a1 7 6 (.int (v6 + (1 : Int32)))).bind fun μ7 =>
    (some μ7)))))
    else
    ((gI μ0 a1 7 7).bind fun v8 =>
    ((pV μ0 a1 7 7 (.int (v8 ||| ((1 : Int32) <<< (x2 &&& 31))))).bind fun μ9 =>
    ((gI μ9 a1 7 6).bind fun v10 =>
    ((pV μ9 a1 7 6 (.int (v10 + (1 : Int32)))).bind fun μ11 =>
    (some μ11))))))
set_option maxHeartbeats 4000000 in
set_option maxRecDepth 100000 in
theorem f_X7_addClue_ok {l : Launch} {G : GG} {μ0 : Mm} {a1 : Nat} {x2 : Int32} {x3 : Int32} {μ' : Mm} (hf : f_X7_addClue μ0 a1 x2 x3 = some μ') : EvM l G D_X7_addClue yX7_addClue cX7_addClue 3 none [.ref a1, .int x2, .int x3] μ0 none μ' := by
  show Ev l G D_X7_addClue yX7_addClue cX7_addClue 3 none 0 [(0, .ref a1), (1, .int x2), (2, .int x3)] [] μ0 none μ'
  unfold f_X7_addClue at hf
  refine E_iload_n (pc := 0) dX7_addClue_0 rfl ?_
  refine E_if_eq (pc := 1) (tgt := 19) dX7_addClue_1 (by decide) hf (fun hf => ?_) (fun hf => ?_)
  · refine E_aload_n (pc := 19) dX7_addClue_19 rfl ?_
    refine E_dup (pc := 20) dX7_addClue_20 rfl ?_
    refine E_getI (pc := 21) dX7_addClue_21 fl_X7_34 hf (fun v4 hf => ?_)
    refine E_iconst (pc := 24) (v := (1 : Int32)) dX7_addClue_24 (by decide) ?_
    refine E_iload_n (pc := 25) dX7_addClue_25 rfl ?_
    refine E_ishl (pc := 26) dX7_addClue_26 ?_
    refine E_ior (pc := 27) dX7_addClue_27 ?_
    refine E_putI (pc := 28) dX7_addClue_28 (pl_X7_34 _) hf (fun μ5 hf => ?_)
    refine E_aload_n (pc := 31) dX7_addClue_31 rfl ?_
    refine E_dup (pc := 32) dX7_addClue_32 rfl ?_
    refine E_getI (pc := 33) dX7_addClue_33 fl_X7_28 hf (fun v6 hf => ?_)
    refine E_iconst (pc := 36) (v := (1 : Int32)) dX7_addClue_36 (by decide) ?_
    refine E_iadd (pc := 37) dX7_addClue_37 ?_
    refine E_putI (pc := 38) dX7_addClue_38 (pl_X7_28 _) hf (fun μ7 hf => ?_)
    exact E_vret (pc := 41) dX7_addClue_41 rfl hf
  · refine E_aload_n (pc := 4) dX7_addClue_4 rfl ?_
    refine E_dup (pc := 5) dX7_addClue_5 rfl ?_
    refine E_getI (pc := 6) dX7_addClue_6 fl_X7_31 hf (fun v8 hf => ?_)
    refine E_iconst (pc := 9) (v := (1 : Int32)) dX7_addClue_9 (by decide) ?_
    refine E_iload_n (pc := 10) dX7_addClue_10 rfl ?_
    refine E_ishl (pc := 11) dX7_addClue_11 ?_
    refine E_ior (pc := 12) dX7_addClue_12 ?_
    refine E_putI (pc := 13) dX7_addClue_13 (pl_X7_31 _) hf (fun μ9 hf => ?_)
    refine E_goto (pc := 16) (tgt := 31) dX7_addClue_16 (by decide) ?_
    refine E_aload_n (pc := 31) dX7_addClue_31 rfl ?_
    refine E_dup (pc := 32) dX7_addClue_32 rfl ?_
    refine E_getI (pc := 33) dX7_addClue_33 fl_X7_28 hf (fun v10 hf => ?_)
    refine E_iconst (pc := 36) (v := (1 : Int32)) dX7_addClue_36 (by decide) ?_
    refine E_iadd (pc := 37) dX7_addClue_37 ?_
    refine E_putI (pc := 38) dX7_addClue_38 (pl_X7_28 _) hf (fun μ11 hf => ?_)
    exact E_vret (pc := 41) dX7_addClue_41 rfl hf
theorem dX7_remember_0 : decode cX7_remember 0 = .ok (.aload_n 0, 1) := by decide +kernel
theorem dX7_remember_1 : decode cX7_remember 1 = .ok (.getfield 37, 3) := by decide +kernel
theorem dX7_remember_4 : decode cX7_remember 4 = .ok (.bipush 20, 2) := by decide +kernel
theorem dX7_remember_6 : decode cX7_remember 6 = .ok (.if_icmp .lt 54, 3) := by decide +kernel
theorem dX7_remember_9 : decode cX7_remember 9 = .ok (.aload_n 0, 1) := by decide +kernel
theorem dX7_remember_10 : decode cX7_remember 10 = .ok (.getfield 40, 3) := by decide +kernel
theorem dX7_remember_13 : decode cX7_remember 13 = .ok (.iconst 1, 1) := by decide +kernel
theorem dX7_remember_14 : decode cX7_remember 14 = .ok (.aload_n 0, 1) := by decide +kernel
theorem dX7_remember_15 : decode cX7_remember 15 = .ok (.getfield 40, 3) := by decide +kernel
theorem dX7_remember_18 : decode cX7_remember 18 = .ok (.iconst 0, 1) := by decide +kernel
theorem dX7_remember_19 : decode cX7_remember 19 = .ok (.bipush 19, 2) := by decide +kernel
theorem dX7_remember_21 : decode cX7_remember 21 = .ok (.invokestatic 58, 3) := by decide +kernel
theorem dX7_remember_24 : decode cX7_remember 24 = .ok (.aload_n 0, 1) := by decide +kernel
theorem dX7_remember_25 : decode cX7_remember 25 = .ok (.getfield 43, 3) := by decide +kernel
theorem dX7_remember_28 : decode cX7_remember 28 = .ok (.iconst 1, 1) := by decide +kernel
theorem dX7_remember_29 : decode cX7_remember 29 = .ok (.aload_n 0, 1) := by decide +kernel
theorem dX7_remember_30 : decode cX7_remember 30 = .ok (.getfield 43, 3) := by decide +kernel
theorem dX7_remember_33 : decode cX7_remember 33 = .ok (.iconst 0, 1) := by decide +kernel
theorem dX7_remember_34 : decode cX7_remember 34 = .ok (.bipush 19, 2) := by decide +kernel
theorem dX7_remember_36 : decode cX7_remember 36 = .ok (.invokestatic 58, 3) := by decide +kernel
theorem dX7_remember_39 : decode cX7_remember 39 = .ok (.aload_n 0, 1) := by decide +kernel
theorem dX7_remember_40 : decode cX7_remember 40 = .ok (.getfield 46, 3) := by decide +kernel
theorem dX7_remember_43 : decode cX7_remember 43 = .ok (.iconst 1, 1) := by decide +kernel
theorem dX7_remember_44 : decode cX7_remember 44 = .ok (.aload_n 0, 1) := by decide +kernel
theorem dX7_remember_45 : decode cX7_remember 45 = .ok (.getfield 46, 3) := by decide +kernel
theorem dX7_remember_48 : decode cX7_remember 48 = .ok (.iconst 0, 1) := by decide +kernel
theorem dX7_remember_49 : decode cX7_remember 49 = .ok (.bipush 19, 2) := by decide +kernel
theorem dX7_remember_51 : decode cX7_remember 51 = .ok (.invokestatic 58, 3) := by decide +kernel
theorem dX7_remember_54 : decode cX7_remember 54 = .ok (.aload_n 0, 1) := by decide +kernel
theorem dX7_remember_55 : decode cX7_remember 55 = .ok (.bipush 19, 2) := by decide +kernel
theorem dX7_remember_57 : decode cX7_remember 57 = .ok (.putfield 37, 3) := by decide +kernel
theorem dX7_remember_60 : decode cX7_remember 60 = .ok (.aload_n 0, 1) := by decide +kernel
theorem dX7_remember_61 : decode cX7_remember 61 = .ok (.getfield 40, 3) := by decide +kernel
theorem dX7_remember_64 : decode cX7_remember 64 = .ok (.aload_n 0, 1) := by decide +kernel
theorem dX7_remember_65 : decode cX7_remember 65 = .ok (.getfield 37, 3) := by decide +kernel
theorem dX7_remember_68 : decode cX7_remember 68 = .ok (.iload_n 1, 1) := by decide +kernel
theorem dX7_remember_69 : decode cX7_remember 69 = .ok (.iastore, 1) := by decide +kernel
theorem dX7_remember_70 : decode cX7_remember 70 = .ok (.aload_n 0, 1) := by decide +kernel
theorem dX7_remember_71 : decode cX7_remember 71 = .ok (.getfield 43, 3) := by decide +kernel
theorem dX7_remember_74 : decode cX7_remember 74 = .ok (.aload_n 0, 1) := by decide +kernel
theorem dX7_remember_75 : decode cX7_remember 75 = .ok (.getfield 37, 3) := by decide +kernel
theorem dX7_remember_78 : decode cX7_remember 78 = .ok (.iload_n 2, 1) := by decide +kernel
theorem dX7_remember_79 : decode cX7_remember 79 = .ok (.iastore, 1) := by decide +kernel
theorem dX7_remember_80 : decode cX7_remember 80 = .ok (.aload_n 0, 1) := by decide +kernel
theorem dX7_remember_81 : decode cX7_remember 81 = .ok (.getfield 46, 3) := by decide +kernel
theorem dX7_remember_84 : decode cX7_remember 84 = .ok (.aload_n 0, 1) := by decide +kernel
theorem dX7_remember_85 : decode cX7_remember 85 = .ok (.getfield 37, 3) := by decide +kernel
theorem dX7_remember_88 : decode cX7_remember 88 = .ok (.aload_n 0, 1) := by decide +kernel
theorem dX7_remember_89 : decode cX7_remember 89 = .ok (.getfield 18, 3) := by decide +kernel
theorem dX7_remember_92 : decode cX7_remember 92 = .ok (.iastore, 1) := by decide +kernel
theorem dX7_remember_93 : decode cX7_remember 93 = .ok (.aload_n 0, 1) := by decide +kernel
theorem dX7_remember_94 : decode cX7_remember 94 = .ok (.dup, 1) := by decide +kernel
theorem dX7_remember_95 : decode cX7_remember 95 = .ok (.getfield 37, 3) := by decide +kernel
theorem dX7_remember_98 : decode cX7_remember 98 = .ok (.iconst 1, 1) := by decide +kernel
theorem dX7_remember_99 : decode cX7_remember 99 = .ok (.iadd, 1) := by decide +kernel
theorem dX7_remember_100 : decode cX7_remember 100 = .ok (.putfield 37, 3) := by decide +kernel
theorem dX7_remember_103 : decode cX7_remember 103 = .ok (.return_, 1) := by decide +kernel
abbrev D_X7_remember : Nat := 1
set_option maxRecDepth 100000 in
def f_X7_remember (μ0 : Mm) (a1 : Nat) (x2 : Int32) (x3 : Int32) : Option Mm :=
 ((gI μ0 a1 7 9).bind fun v4 =>
    (if v4 < (20 : Int32) then
    ((gR μ0 a1 7 10).bind fun v5 =>
    ((gI μ0 a1 7 9).bind fun v6 =>
    ((sI μ0 v5 0 v6 x2).bind fun μ7 =>
    ((gR μ7 a1 7 11).bind fun v8 =>
    ((gI μ7 a1 7 9).bind fun v9 =>
    ((sI μ7 v8 0 v9 x3).bind fun μ10 =>
    ((gR μ10 a1 7 12).bind fun v11 =>
    ((gI μ10 a1 7 9).bind fun v12 =>
    ((gI μ10 a1 7 3).bind fun v13 =>
    ((sI μ10 v11 0 v12 v13).bind fun μ14 =>
    ((gI μ14 a1 7 9).bind fun v15 =>
    ((pV μ14 a1 7 9 (.int (v15 + (1 : Int32)))).bind fun μ16 =>
    (some μ16)))))))))))))
    else
    ((gR μ0 a1 7 10).bind fun v17 =>
    ((gR μ0 a1 7 10).bind fun v18 =>
    ((cpI μ0 v17 (1 : Int32) v18 (0 : Int32) (19 : Int32)).bind fun μ19 =>
    ((gR μ19 a1 7 11).bind fun v20 =>
    ((gR μ19 a1 7 11).bind fun v21 =>
    ((cpI μ19 v20 (1 : Int32) v21 (0 : Int32) (19 : Int32)).bind fun μ22 =>
    ((gR μ22 a1 7 12).bind fun v23 =>
    ((gR μ22 a1 7 12).bind fun v24 =>
    ((cpI μ22 v23 (1 : Int32) v24 (0 : Int32) (19 : Int32)).bind fun μ25 =>
    ((pV μ25 a1 7 9 (.int (19 : Int32))).bind fun μ26 =>
    ((gR μ26 a1 7 10).bind fun v27 =>
    ((gI μ26 a1 7 9).bind fun v28 =>
    ((sI μ26 v27 0 v28 x2).bind fun μ29 =>
    ((gR μ29 a1 7 11).bind fun v30 =>
    ((gI μ29 a1 7 9).bind fun v31 =>
    ((sI μ29 v30 0 v31 x3).bind fun μ32 =>
    ((gR μ32 a1 7 12).bind fun v33 =>
    ((gI μ32 a1 7 9).bind fun v34 =>
    ((gI μ32 a1 7 3).bind fun v35 =>
    ((sI μ32 v33 0 v34 v35).bind fun μ36 =>
    ((gI μ36 a1 7 9).bind fun v37 =>
    ((pV μ36 a1 7 9 (.int (v37 + (1 : Int32)))).bind fun μ38 =>
    (some μ38)))))))))))))))))))))))))
set_option maxHeartbeats 4000000 in
set_option maxRecDepth 100000 in
theorem f_X7_remember_ok {l : Launch} {G : GG} {μ0 : Mm} {a1 : Nat} {x2 : Int32} {x3 : Int32} {μ' : Mm} (hf : f_X7_remember μ0 a1 x2 x3 = some μ') : EvM l G D_X7_remember yX7_remember cX7_remember 3 none [.ref a1, .int x2, .int x3] μ0 none μ' := by
  show Ev l G D_X7_remember yX7_remember cX7_remember 3 none 0 [(0, .ref a1), (1, .int x2), (2, .int x3)] [] μ0 none μ'
  unfold f_X7_remember at hf
  refine E_aload_n (pc := 0) dX7_remember_0 rfl ?_
  refine E_getI (pc := 1) dX7_remember_1 fl_X7_37 hf (fun v4 hf => ?_)
  refine E_bipush (pc := 4) (v := (20 : Int32)) dX7_remember_4 (by decide) ?_
  refine E_icmp_lt (pc := 6) (tgt := 60) dX7_remember_6 (by decide) hf (fun hf => ?_) (fun hf => ?_)
  · refine E_aload_n (pc := 60) dX7_remember_60 rfl ?_
    refine E_getR (pc := 61) dX7_remember_61 fl_X7_40 hf (fun v5 hf => ?_)
    refine E_aload_n (pc := 64) dX7_remember_64 rfl ?_
    refine E_getI (pc := 65) dX7_remember_65 fl_X7_37 hf (fun v6 hf => ?_)
    refine E_iload_n (pc := 68) dX7_remember_68 rfl ?_
    refine E_iast (pc := 69) dX7_remember_69 hf (fun μ7 hf => ?_)
    refine E_aload_n (pc := 70) dX7_remember_70 rfl ?_
    refine E_getR (pc := 71) dX7_remember_71 fl_X7_43 hf (fun v8 hf => ?_)
    refine E_aload_n (pc := 74) dX7_remember_74 rfl ?_
    refine E_getI (pc := 75) dX7_remember_75 fl_X7_37 hf (fun v9 hf => ?_)
    refine E_iload_n (pc := 78) dX7_remember_78 rfl ?_
    refine E_iast (pc := 79) dX7_remember_79 hf (fun μ10 hf => ?_)
    refine E_aload_n (pc := 80) dX7_remember_80 rfl ?_
    refine E_getR (pc := 81) dX7_remember_81 fl_X7_46 hf (fun v11 hf => ?_)
    refine E_aload_n (pc := 84) dX7_remember_84 rfl ?_
    refine E_getI (pc := 85) dX7_remember_85 fl_X7_37 hf (fun v12 hf => ?_)
    refine E_aload_n (pc := 88) dX7_remember_88 rfl ?_
    refine E_getI (pc := 89) dX7_remember_89 fl_X7_18 hf (fun v13 hf => ?_)
    refine E_iast (pc := 92) dX7_remember_92 hf (fun μ14 hf => ?_)
    refine E_aload_n (pc := 93) dX7_remember_93 rfl ?_
    refine E_dup (pc := 94) dX7_remember_94 rfl ?_
    refine E_getI (pc := 95) dX7_remember_95 fl_X7_37 hf (fun v15 hf => ?_)
    refine E_iconst (pc := 98) (v := (1 : Int32)) dX7_remember_98 (by decide) ?_
    refine E_iadd (pc := 99) dX7_remember_99 ?_
    refine E_putI (pc := 100) dX7_remember_100 (pl_X7_37 _) hf (fun μ16 hf => ?_)
    exact E_vret (pc := 103) dX7_remember_103 rfl hf
  · refine E_aload_n (pc := 9) dX7_remember_9 rfl ?_
    refine E_getR (pc := 10) dX7_remember_10 fl_X7_40 hf (fun v17 hf => ?_)
    refine E_iconst (pc := 13) (v := (1 : Int32)) dX7_remember_13 (by decide) ?_
    refine E_aload_n (pc := 14) dX7_remember_14 rfl ?_
    refine E_getR (pc := 15) dX7_remember_15 fl_X7_40 hf (fun v18 hf => ?_)
    refine E_iconst (pc := 18) (v := (0 : Int32)) dX7_remember_18 (by decide) ?_
    refine E_bipush (pc := 19) (v := (19 : Int32)) dX7_remember_19 (by decide) ?_
    refine E_copy (pc := 21) dX7_remember_21 (by decide) (Nat.le_of_ble_eq_true rfl) ml_X7_58 hf (fun μ19 hf => ?_)
    refine E_aload_n (pc := 24) dX7_remember_24 rfl ?_
    refine E_getR (pc := 25) dX7_remember_25 fl_X7_43 hf (fun v20 hf => ?_)
    refine E_iconst (pc := 28) (v := (1 : Int32)) dX7_remember_28 (by decide) ?_
    refine E_aload_n (pc := 29) dX7_remember_29 rfl ?_
    refine E_getR (pc := 30) dX7_remember_30 fl_X7_43 hf (fun v21 hf => ?_)
    refine E_iconst (pc := 33) (v := (0 : Int32)) dX7_remember_33 (by decide) ?_
    refine E_bipush (pc := 34) (v := (19 : Int32)) dX7_remember_34 (by decide) ?_
    refine E_copy (pc := 36) dX7_remember_36 (by decide) (Nat.le_of_ble_eq_true rfl) ml_X7_58 hf (fun μ22 hf => ?_)
    refine E_aload_n (pc := 39) dX7_remember_39 rfl ?_
    refine E_getR (pc := 40) dX7_remember_40 fl_X7_46 hf (fun v23 hf => ?_)
    refine E_iconst (pc := 43) (v := (1 : Int32)) dX7_remember_43 (by decide) ?_
    refine E_aload_n (pc := 44) dX7_remember_44 rfl ?_
    refine E_getR (pc := 45) dX7_remember_45 fl_X7_46 hf (fun v24 hf => ?_)
    refine E_iconst (pc := 48) (v := (0 : Int32)) dX7_remember_48 (by decide) ?_
    refine E_bipush (pc := 49) (v := (19 : Int32)) dX7_remember_49 (by decide) ?_
    refine E_copy (pc := 51) dX7_remember_51 (by decide) (Nat.le_of_ble_eq_true rfl) ml_X7_58 hf (fun μ25 hf => ?_)
    refine E_aload_n (pc := 54) dX7_remember_54 rfl ?_
    refine E_bipush (pc := 55) (v := (19 : Int32)) dX7_remember_55 (by decide) ?_
    refine E_putI (pc := 57) dX7_remember_57 (pl_X7_37 _) hf (fun μ26 hf => ?_)
    refine E_aload_n (pc := 60) dX7_remember_60 rfl ?_
    refine E_getR (pc := 61) dX7_remember_61 fl_X7_40 hf (fun v27 hf => ?_)
    refine E_aload_n (pc := 64) dX7_remember_64 rfl ?_
    refine E_getI (pc := 65) dX7_remember_65 fl_X7_37 hf (fun v28 hf => ?_)
    refine E_iload_n (pc := 68) dX7_remember_68 rfl ?_
    refine E_iast (pc := 69) dX7_remember_69 hf (fun μ29 hf => ?_)
    refine E_aload_n (pc := 70) dX7_remember_70 rfl ?_
    refine E_getR (pc := 71) dX7_remember_71 fl_X7_43 hf (fun v30 hf => ?_)
    refine E_aload_n (pc := 74) dX7_remember_74 rfl ?_
    refine E_getI (pc := 75) dX7_remember_75 fl_X7_37 hf (fun v31 hf => ?_)
    refine E_iload_n (pc := 78) dX7_remember_78 rfl ?_
    refine E_iast (pc := 79) dX7_remember_79 hf (fun μ32 hf => ?_)
    refine E_aload_n (pc := 80) dX7_remember_80 rfl ?_
    refine E_getR (pc := 81) dX7_remember_81 fl_X7_46 hf (fun v33 hf => ?_)
    refine E_aload_n (pc := 84) dX7_remember_84 rfl ?_
    refine E_getI (pc := 85) dX7_remember_85 fl_X7_37 hf (fun v34 hf => ?_)
    refine E_aload_n (pc := 88) dX7_remember_88 rfl ?_
    refine E_getI (pc := 89) dX7_remember_89 fl_X7_18 hf (fun v35 hf => ?_)
    refine E_iast (pc := 92) dX7_remember_92 hf (fun μ36 hf => ?_)
    refine E_aload_n (pc := 93) dX7_remember_93 rfl ?_
    refine E_dup (pc := 94) dX7_remember_94 rfl ?_
    refine E_getI (pc := 95) dX7_remember_95 fl_X7_37 hf (fun v37 hf => ?_)
    refine E_iconst (pc := 98) (v := (1 : Int32)) dX7_remember_98 (by decide) ?_
    refine E_iadd (pc := 99) dX7_remember_99 ?_
    refine E_putI (pc := 100) dX7_remember_100 (pl_X7_37 _) hf (fun μ38 hf => ?_)
    exact E_vret (pc := 103) dX7_remember_103 rfl hf
theorem dX7_takeBack_0 : decode cX7_takeBack 0 = .ok (.aload_n 0, 1) := by decide +kernel
theorem dX7_takeBack_1 : decode cX7_takeBack 1 = .ok (.getfield 37, 3) := by decide +kernel
theorem dX7_takeBack_4 : decode cX7_takeBack 4 = .ok (.iconst 1, 1) := by decide +kernel
theorem dX7_takeBack_5 : decode cX7_takeBack 5 = .ok (.if_icmp .ge 4, 3) := by decide +kernel
theorem dX7_takeBack_8 : decode cX7_takeBack 8 = .ok (.return_, 1) := by decide +kernel
theorem dX7_takeBack_9 : decode cX7_takeBack 9 = .ok (.aload_n 0, 1) := by decide +kernel
theorem dX7_takeBack_10 : decode cX7_takeBack 10 = .ok (.dup, 1) := by decide +kernel
theorem dX7_takeBack_11 : decode cX7_takeBack 11 = .ok (.getfield 37, 3) := by decide +kernel
theorem dX7_takeBack_14 : decode cX7_takeBack 14 = .ok (.iconst 1, 1) := by decide +kernel
theorem dX7_takeBack_15 : decode cX7_takeBack 15 = .ok (.isub, 1) := by decide +kernel
theorem dX7_takeBack_16 : decode cX7_takeBack 16 = .ok (.putfield 37, 3) := by decide +kernel
theorem dX7_takeBack_19 : decode cX7_takeBack 19 = .ok (.aload_n 0, 1) := by decide +kernel
theorem dX7_takeBack_20 : decode cX7_takeBack 20 = .ok (.getfield 40, 3) := by decide +kernel
theorem dX7_takeBack_23 : decode cX7_takeBack 23 = .ok (.aload_n 0, 1) := by decide +kernel
theorem dX7_takeBack_24 : decode cX7_takeBack 24 = .ok (.getfield 37, 3) := by decide +kernel
theorem dX7_takeBack_27 : decode cX7_takeBack 27 = .ok (.iaload, 1) := by decide +kernel
theorem dX7_takeBack_28 : decode cX7_takeBack 28 = .ok (.istore_n 1, 1) := by decide +kernel
theorem dX7_takeBack_29 : decode cX7_takeBack 29 = .ok (.iload_n 1, 1) := by decide +kernel
theorem dX7_takeBack_30 : decode cX7_takeBack 30 = .ok (.iconst 5, 1) := by decide +kernel
theorem dX7_takeBack_31 : decode cX7_takeBack 31 = .ok (.if_icmp .ge 21, 3) := by decide +kernel
theorem dX7_takeBack_34 : decode cX7_takeBack 34 = .ok (.aload_n 0, 1) := by decide +kernel
theorem dX7_takeBack_35 : decode cX7_takeBack 35 = .ok (.getfield 21, 3) := by decide +kernel
theorem dX7_takeBack_38 : decode cX7_takeBack 38 = .ok (.iload_n 1, 1) := by decide +kernel
theorem dX7_takeBack_39 : decode cX7_takeBack 39 = .ok (.aload_n 0, 1) := by decide +kernel
theorem dX7_takeBack_40 : decode cX7_takeBack 40 = .ok (.getfield 43, 3) := by decide +kernel
theorem dX7_takeBack_43 : decode cX7_takeBack 43 = .ok (.aload_n 0, 1) := by decide +kernel
theorem dX7_takeBack_44 : decode cX7_takeBack 44 = .ok (.getfield 37, 3) := by decide +kernel
theorem dX7_takeBack_47 : decode cX7_takeBack 47 = .ok (.iaload, 1) := by decide +kernel
theorem dX7_takeBack_48 : decode cX7_takeBack 48 = .ok (.iastore, 1) := by decide +kernel
theorem dX7_takeBack_49 : decode cX7_takeBack 49 = .ok (.goto 20, 3) := by decide +kernel
theorem dX7_takeBack_52 : decode cX7_takeBack 52 = .ok (.aload_n 0, 1) := by decide +kernel
theorem dX7_takeBack_53 : decode cX7_takeBack 53 = .ok (.getfield 25, 3) := by decide +kernel
theorem dX7_takeBack_56 : decode cX7_takeBack 56 = .ok (.iload_n 1, 1) := by decide +kernel
theorem dX7_takeBack_57 : decode cX7_takeBack 57 = .ok (.iconst 5, 1) := by decide +kernel
theorem dX7_takeBack_58 : decode cX7_takeBack 58 = .ok (.isub, 1) := by decide +kernel
theorem dX7_takeBack_59 : decode cX7_takeBack 59 = .ok (.aload_n 0, 1) := by decide +kernel
theorem dX7_takeBack_60 : decode cX7_takeBack 60 = .ok (.getfield 43, 3) := by decide +kernel
theorem dX7_takeBack_63 : decode cX7_takeBack 63 = .ok (.aload_n 0, 1) := by decide +kernel
theorem dX7_takeBack_64 : decode cX7_takeBack 64 = .ok (.getfield 37, 3) := by decide +kernel
theorem dX7_takeBack_67 : decode cX7_takeBack 67 = .ok (.iaload, 1) := by decide +kernel
theorem dX7_takeBack_68 : decode cX7_takeBack 68 = .ok (.iastore, 1) := by decide +kernel
theorem dX7_takeBack_69 : decode cX7_takeBack 69 = .ok (.aload_n 0, 1) := by decide +kernel
theorem dX7_takeBack_70 : decode cX7_takeBack 70 = .ok (.aload_n 0, 1) := by decide +kernel
theorem dX7_takeBack_71 : decode cX7_takeBack 71 = .ok (.getfield 46, 3) := by decide +kernel
theorem dX7_takeBack_74 : decode cX7_takeBack 74 = .ok (.aload_n 0, 1) := by decide +kernel
theorem dX7_takeBack_75 : decode cX7_takeBack 75 = .ok (.getfield 37, 3) := by decide +kernel
theorem dX7_takeBack_78 : decode cX7_takeBack 78 = .ok (.iaload, 1) := by decide +kernel
theorem dX7_takeBack_79 : decode cX7_takeBack 79 = .ok (.putfield 18, 3) := by decide +kernel
theorem dX7_takeBack_82 : decode cX7_takeBack 82 = .ok (.return_, 1) := by decide +kernel
abbrev D_X7_takeBack : Nat := 1
set_option maxRecDepth 100000 in
def f_X7_takeBack (μ0 : Mm) (a1 : Nat) : Option Mm :=
 ((gI μ0 a1 7 9).bind fun v2 =>
    (if (1 : Int32) ≤ v2 then
    ((gI μ0 a1 7 9).bind fun v3 =>
    ((pV μ0 a1 7 9 (.int (v3 - (1 : Int32)))).bind fun μ4 =>
    ((gR μ4 a1 7 10).bind fun v5 =>
    ((gI μ4 a1 7 9).bind fun v6 =>
    ((aI μ4 v5 0 v6).bind fun v7 =>
    (nm v7 fun x8 =>
    (if (5 : Int32) ≤ x8 then
    ((gR μ4 a1 7 5).bind fun v9 =>
    ((gR μ4 a1 7 11).bind fun v10 =>
    ((gI μ4 a1 7 9).bind fun v11 =>
    ((aI μ4 v10 0 v11).bind fun v12 =>
    ((sI μ4 v9 0 (x8 - (5 : Int32)) v12).bind fun μ13 =>
    ((gR μ13 a1 7 12).bind fun v14 =>
    ((gI μ13 a1 7 9).bind fun v15 =>
    ((aI μ13 v14 0 v15).bind fun v16 =>
    ((pV μ13 a1 7 3 (.int v16)).bind fun μ17 =>
    (some μ17))))))))))
    else
    ((gR μ4 a1 7 4).bind fun v18 =>
    ((gR μ4 a1 7 11).bind fun v19 =>
    ((gI μ4 a1 7 9).bind fun v20 =>
    ((aI μ4 v19 0 v20).bind fun v21 =>
    ((sI μ4 v18 0 x8 v21).bind fun μ22 =>
    ((gR μ22 a1 7 12).bind fun v23 =>
    ((gI μ22 a1 7 9).bind fun v24 =>
    ((aI μ22 v23 0 v24).bind fun v25 =>
    ((pV μ22 a1 7 3 (.int v25)).bind fun μ26 =>
    (some μ26)))))))))))))))))
    else
    (some μ0)))
set_option maxHeartbeats 4000000 in
set_option maxRecDepth 100000 in
theorem f_X7_takeBack_ok {l : Launch} {G : GG} {μ0 : Mm} {a1 : Nat} {μ' : Mm} (hf : f_X7_takeBack μ0 a1 = some μ') : EvM l G D_X7_takeBack yX7_takeBack cX7_takeBack 2 none [.ref a1] μ0 none μ' := by
  show Ev l G D_X7_takeBack yX7_takeBack cX7_takeBack 2 none 0 [(0, .ref a1)] [] μ0 none μ'
  unfold f_X7_takeBack at hf
  refine E_aload_n (pc := 0) dX7_takeBack_0 rfl ?_
  refine E_getI (pc := 1) dX7_takeBack_1 fl_X7_37 hf (fun v2 hf => ?_)
  refine E_iconst (pc := 4) (v := (1 : Int32)) dX7_takeBack_4 (by decide) ?_
  refine E_icmp_ge (pc := 5) (tgt := 9) dX7_takeBack_5 (by decide) hf (fun hf => ?_) (fun hf => ?_)
  · refine E_aload_n (pc := 9) dX7_takeBack_9 rfl ?_
    refine E_dup (pc := 10) dX7_takeBack_10 rfl ?_
    refine E_getI (pc := 11) dX7_takeBack_11 fl_X7_37 hf (fun v3 hf => ?_)
    refine E_iconst (pc := 14) (v := (1 : Int32)) dX7_takeBack_14 (by decide) ?_
    refine E_isub (pc := 15) dX7_takeBack_15 ?_
    refine E_putI (pc := 16) dX7_takeBack_16 (pl_X7_37 _) hf (fun μ4 hf => ?_)
    refine E_aload_n (pc := 19) dX7_takeBack_19 rfl ?_
    refine E_getR (pc := 20) dX7_takeBack_20 fl_X7_40 hf (fun v5 hf => ?_)
    refine E_aload_n (pc := 23) dX7_takeBack_23 rfl ?_
    refine E_getI (pc := 24) dX7_takeBack_24 fl_X7_37 hf (fun v6 hf => ?_)
    refine E_iald (pc := 27) dX7_takeBack_27 hf (fun v7 hf => ?_)
    refine E_istore_n (pc := 28) (ls' := fun x8 => [(1, .int x8), (0, .ref a1)]) dX7_takeBack_28 (by decide) (fun _ => rfl) hf (fun x8 hf => ?_)
    refine E_iload_n (pc := 29) dX7_takeBack_29 rfl ?_
    refine E_iconst (pc := 30) (v := (5 : Int32)) dX7_takeBack_30 (by decide) ?_
    refine E_icmp_ge (pc := 31) (tgt := 52) dX7_takeBack_31 (by decide) hf (fun hf => ?_) (fun hf => ?_)
    · refine E_aload_n (pc := 52) dX7_takeBack_52 rfl ?_
      refine E_getR (pc := 53) dX7_takeBack_53 fl_X7_25 hf (fun v9 hf => ?_)
      refine E_iload_n (pc := 56) dX7_takeBack_56 rfl ?_
      refine E_iconst (pc := 57) (v := (5 : Int32)) dX7_takeBack_57 (by decide) ?_
      refine E_isub (pc := 58) dX7_takeBack_58 ?_
      refine E_aload_n (pc := 59) dX7_takeBack_59 rfl ?_
      refine E_getR (pc := 60) dX7_takeBack_60 fl_X7_43 hf (fun v10 hf => ?_)
      refine E_aload_n (pc := 63) dX7_takeBack_63 rfl ?_
      refine E_getI (pc := 64) dX7_takeBack_64 fl_X7_37 hf (fun v11 hf => ?_)
      refine E_iald (pc := 67) dX7_takeBack_67 hf (fun v12 hf => ?_)
      refine E_iast (pc := 68) dX7_takeBack_68 hf (fun μ13 hf => ?_)
      refine E_aload_n (pc := 69) dX7_takeBack_69 rfl ?_
      refine E_aload_n (pc := 70) dX7_takeBack_70 rfl ?_
      refine E_getR (pc := 71) dX7_takeBack_71 fl_X7_46 hf (fun v14 hf => ?_)
      refine E_aload_n (pc := 74) dX7_takeBack_74 rfl ?_
      refine E_getI (pc := 75) dX7_takeBack_75 fl_X7_37 hf (fun v15 hf => ?_)
      refine E_iald (pc := 78) dX7_takeBack_78 hf (fun v16 hf => ?_)
      refine E_putI (pc := 79) dX7_takeBack_79 (pl_X7_18 _) hf (fun μ17 hf => ?_)
      exact E_vret (pc := 82) dX7_takeBack_82 rfl hf
    · refine E_aload_n (pc := 34) dX7_takeBack_34 rfl ?_
      refine E_getR (pc := 35) dX7_takeBack_35 fl_X7_21 hf (fun v18 hf => ?_)
      refine E_iload_n (pc := 38) dX7_takeBack_38 rfl ?_
      refine E_aload_n (pc := 39) dX7_takeBack_39 rfl ?_
      refine E_getR (pc := 40) dX7_takeBack_40 fl_X7_43 hf (fun v19 hf => ?_)
      refine E_aload_n (pc := 43) dX7_takeBack_43 rfl ?_
      refine E_getI (pc := 44) dX7_takeBack_44 fl_X7_37 hf (fun v20 hf => ?_)
      refine E_iald (pc := 47) dX7_takeBack_47 hf (fun v21 hf => ?_)
      refine E_iast (pc := 48) dX7_takeBack_48 hf (fun μ22 hf => ?_)
      refine E_goto (pc := 49) (tgt := 69) dX7_takeBack_49 (by decide) ?_
      refine E_aload_n (pc := 69) dX7_takeBack_69 rfl ?_
      refine E_aload_n (pc := 70) dX7_takeBack_70 rfl ?_
      refine E_getR (pc := 71) dX7_takeBack_71 fl_X7_46 hf (fun v23 hf => ?_)
      refine E_aload_n (pc := 74) dX7_takeBack_74 rfl ?_
      refine E_getI (pc := 75) dX7_takeBack_75 fl_X7_37 hf (fun v24 hf => ?_)
      refine E_iald (pc := 78) dX7_takeBack_78 hf (fun v25 hf => ?_)
      refine E_putI (pc := 79) dX7_takeBack_79 (pl_X7_18 _) hf (fun μ26 hf => ?_)
      exact E_vret (pc := 82) dX7_takeBack_82 rfl hf
  · exact E_vret (pc := 8) dX7_takeBack_8 rfl hf
theorem dX7_nextDraw_0 : decode cX7_nextDraw 0 = .ok (.aload_n 0, 1) := by decide +kernel
theorem dX7_nextDraw_1 : decode cX7_nextDraw 1 = .ok (.aload_n 0, 1) := by decide +kernel
theorem dX7_nextDraw_2 : decode cX7_nextDraw 2 = .ok (.getfield 15, 3) := by decide +kernel
theorem dX7_nextDraw_5 : decode cX7_nextDraw 5 = .ok (.i2l, 1) := by decide +kernel
theorem dX7_nextDraw_6 : decode cX7_nextDraw 6 = .ok (.ldc2_w 76, 3) := by decide +kernel
theorem dX7_nextDraw_9 : decode cX7_nextDraw 9 = .ok (.lmul, 1) := by decide +kernel
theorem dX7_nextDraw_10 : decode cX7_nextDraw 10 = .ok (.ldc2_w 78, 3) := by decide +kernel
theorem dX7_nextDraw_13 : decode cX7_nextDraw 13 = .ok (.ladd, 1) := by decide +kernel
theorem dX7_nextDraw_14 : decode cX7_nextDraw 14 = .ok (.ldc2_w 80, 3) := by decide +kernel
theorem dX7_nextDraw_17 : decode cX7_nextDraw 17 = .ok (.lrem, 1) := by decide +kernel
theorem dX7_nextDraw_18 : decode cX7_nextDraw 18 = .ok (.l2i, 1) := by decide +kernel
theorem dX7_nextDraw_19 : decode cX7_nextDraw 19 = .ok (.putfield 15, 3) := by decide +kernel
theorem dX7_nextDraw_22 : decode cX7_nextDraw 22 = .ok (.aload_n 0, 1) := by decide +kernel
theorem dX7_nextDraw_23 : decode cX7_nextDraw 23 = .ok (.getfield 15, 3) := by decide +kernel
theorem dX7_nextDraw_26 : decode cX7_nextDraw 26 = .ok (.ldc 82, 2) := by decide +kernel
theorem dX7_nextDraw_28 : decode cX7_nextDraw 28 = .ok (.idiv, 1) := by decide +kernel
theorem dX7_nextDraw_29 : decode cX7_nextDraw 29 = .ok (.ireturn, 1) := by decide +kernel
abbrev D_X7_nextDraw : Nat := 1
set_option maxRecDepth 100000 in
def f_X7_nextDraw (μ0 : Mm) (a1 : Nat) : Option (Int32 × Mm) :=
 ((gI μ0 a1 7 2).bind fun v2 =>
    (rmL (((v2).toInt64 * (1103515245 : Int64)) + (12345 : Int64)) (2147483648 : Int64) fun v3 =>
    ((pV μ0 a1 7 2 (.int (v3).toInt32)).bind fun μ4 =>
    ((gI μ4 a1 7 2).bind fun v5 =>
    (dvI v5 (65536 : Int32) fun v6 =>
    (some (v6, μ4)))))))
set_option maxHeartbeats 4000000 in
set_option maxRecDepth 100000 in
theorem f_X7_nextDraw_ok {l : Launch} {G : GG} {μ0 : Mm} {a1 : Nat} {r : Int32} {μ' : Mm} (hf : f_X7_nextDraw μ0 a1 = some (r, μ')) : EvM l G D_X7_nextDraw yX7_nextDraw cX7_nextDraw 1 (some .int) [.ref a1] μ0 (some (.int r)) μ' := by
  show Ev l G D_X7_nextDraw yX7_nextDraw cX7_nextDraw 1 (some .int) 0 [(0, .ref a1)] [] μ0 (some (.int r)) μ'
  unfold f_X7_nextDraw at hf
  refine E_aload_n (pc := 0) dX7_nextDraw_0 rfl ?_
  refine E_aload_n (pc := 1) dX7_nextDraw_1 rfl ?_
  refine E_getI (pc := 2) dX7_nextDraw_2 fl_X7_15 hf (fun v2 hf => ?_)
  refine E_i2l (pc := 5) dX7_nextDraw_5 ?_
  refine E_ldc2 (pc := 6) (v := (1103515245 : Int64)) dX7_nextDraw_6 co_X7_76 ?_
  refine E_lmul (pc := 9) dX7_nextDraw_9 ?_
  refine E_ldc2 (pc := 10) (v := (12345 : Int64)) dX7_nextDraw_10 co_X7_78 ?_
  refine E_ladd (pc := 13) dX7_nextDraw_13 ?_
  refine E_ldc2 (pc := 14) (v := (2147483648 : Int64)) dX7_nextDraw_14 co_X7_80 ?_
  refine E_lrem2 (pc := 17) dX7_nextDraw_17 hf (fun v3 hf => ?_)
  refine E_l2i (pc := 18) dX7_nextDraw_18 ?_
  refine E_putI (pc := 19) dX7_nextDraw_19 (pl_X7_15 _) hf (fun μ4 hf => ?_)
  refine E_aload_n (pc := 22) dX7_nextDraw_22 rfl ?_
  refine E_getI (pc := 23) dX7_nextDraw_23 fl_X7_15 hf (fun v5 hf => ?_)
  refine E_ldc (pc := 26) (v := (65536 : Int32)) dX7_nextDraw_26 co_X7_82 ?_
  refine E_idiv2 (pc := 28) dX7_nextDraw_28 hf (fun v6 hf => ?_)
  exact E_iret (pc := 29) dX7_nextDraw_29 rfl hf
