theorem dX5_joined_0 : decode cX5_joined 0 = .ok (.iload_n 0, 1) := by decide +kernel
theorem dX5_joined_1 : decode cX5_joined 1 = .ok (.tableswitch 155 100013 100023 #[59, 63, 67, 71, 75, 79, 93, 107, 119, 131, 143], 59) := by decide +kernel
theorem dX5_joined_60 : decode cX5_joined 60 = .ok (.lload_n 1, 1) := by decide +kernel
theorem dX5_joined_61 : decode cX5_joined 61 = .ok (.lload_n 3, 1) := by decide +kernel
theorem dX5_joined_62 : decode cX5_joined 62 = .ok (.land, 1) := by decide +kernel
theorem dX5_joined_63 : decode cX5_joined 63 = .ok (.lreturn, 1) := by decide +kernel
theorem dX5_joined_64 : decode cX5_joined 64 = .ok (.lload_n 1, 1) := by decide +kernel
theorem dX5_joined_65 : decode cX5_joined 65 = .ok (.lload_n 3, 1) := by decide +kernel
theorem dX5_joined_66 : decode cX5_joined 66 = .ok (.lor, 1) := by decide +kernel
theorem dX5_joined_67 : decode cX5_joined 67 = .ok (.lreturn, 1) := by decide +kernel
theorem dX5_joined_68 : decode cX5_joined 68 = .ok (.lload_n 1, 1) := by decide +kernel
theorem dX5_joined_69 : decode cX5_joined 69 = .ok (.lload_n 3, 1) := by decide +kernel
theorem dX5_joined_70 : decode cX5_joined 70 = .ok (.ladd, 1) := by decide +kernel
theorem dX5_joined_71 : decode cX5_joined 71 = .ok (.lreturn, 1) := by decide +kernel
theorem dX5_joined_72 : decode cX5_joined 72 = .ok (.lload_n 1, 1) := by decide +kernel
theorem dX5_joined_73 : decode cX5_joined 73 = .ok (.lload_n 3, 1) := by decide +kernel
theorem dX5_joined_74 : decode cX5_joined 74 = .ok (.lsub, 1) := by decide +kernel
theorem dX5_joined_75 : decode cX5_joined 75 = .ok (.lreturn, 1) := by decide +kernel
theorem dX5_joined_76 : decode cX5_joined 76 = .ok (.lload_n 1, 1) := by decide +kernel
theorem dX5_joined_77 : decode cX5_joined 77 = .ok (.lload_n 3, 1) := by decide +kernel
theorem dX5_joined_78 : decode cX5_joined 78 = .ok (.lmul, 1) := by decide +kernel
theorem dX5_joined_79 : decode cX5_joined 79 = .ok (.lreturn, 1) := by decide +kernel
theorem dX5_joined_80 : decode cX5_joined 80 = .ok (.lload_n 3, 1) := by decide +kernel
theorem dX5_joined_81 : decode cX5_joined 81 = .ok (.lconst 0, 1) := by decide +kernel
theorem dX5_joined_82 : decode cX5_joined 82 = .ok (.lcmp, 1) := by decide +kernel
theorem dX5_joined_83 : decode cX5_joined 83 = .ok (.ifCond .ne 7, 3) := by decide +kernel
theorem dX5_joined_86 : decode cX5_joined 86 = .ok (.lconst 0, 1) := by decide +kernel
theorem dX5_joined_87 : decode cX5_joined 87 = .ok (.goto 6, 3) := by decide +kernel
theorem dX5_joined_90 : decode cX5_joined 90 = .ok (.lload_n 1, 1) := by decide +kernel
theorem dX5_joined_91 : decode cX5_joined 91 = .ok (.lload_n 3, 1) := by decide +kernel
theorem dX5_joined_92 : decode cX5_joined 92 = .ok (.ldiv, 1) := by decide +kernel
theorem dX5_joined_93 : decode cX5_joined 93 = .ok (.lreturn, 1) := by decide +kernel
theorem dX5_joined_94 : decode cX5_joined 94 = .ok (.lload_n 3, 1) := by decide +kernel
theorem dX5_joined_95 : decode cX5_joined 95 = .ok (.lconst 0, 1) := by decide +kernel
theorem dX5_joined_96 : decode cX5_joined 96 = .ok (.lcmp, 1) := by decide +kernel
theorem dX5_joined_97 : decode cX5_joined 97 = .ok (.ifCond .ne 7, 3) := by decide +kernel
theorem dX5_joined_100 : decode cX5_joined 100 = .ok (.lconst 0, 1) := by decide +kernel
theorem dX5_joined_101 : decode cX5_joined 101 = .ok (.goto 6, 3) := by decide +kernel
theorem dX5_joined_104 : decode cX5_joined 104 = .ok (.lload_n 1, 1) := by decide +kernel
theorem dX5_joined_105 : decode cX5_joined 105 = .ok (.lload_n 3, 1) := by decide +kernel
theorem dX5_joined_106 : decode cX5_joined 106 = .ok (.lrem, 1) := by decide +kernel
theorem dX5_joined_107 : decode cX5_joined 107 = .ok (.lreturn, 1) := by decide +kernel
theorem dX5_joined_108 : decode cX5_joined 108 = .ok (.lload_n 1, 1) := by decide +kernel
theorem dX5_joined_109 : decode cX5_joined 109 = .ok (.lload_n 3, 1) := by decide +kernel
theorem dX5_joined_110 : decode cX5_joined 110 = .ok (.lcmp, 1) := by decide +kernel
theorem dX5_joined_111 : decode cX5_joined 111 = .ok (.ifCond .ge 7, 3) := by decide +kernel
theorem dX5_joined_114 : decode cX5_joined 114 = .ok (.lconst 1, 1) := by decide +kernel
theorem dX5_joined_115 : decode cX5_joined 115 = .ok (.goto 4, 3) := by decide +kernel
theorem dX5_joined_118 : decode cX5_joined 118 = .ok (.lconst 0, 1) := by decide +kernel
theorem dX5_joined_119 : decode cX5_joined 119 = .ok (.lreturn, 1) := by decide +kernel
theorem dX5_joined_120 : decode cX5_joined 120 = .ok (.lload_n 1, 1) := by decide +kernel
theorem dX5_joined_121 : decode cX5_joined 121 = .ok (.lload_n 3, 1) := by decide +kernel
theorem dX5_joined_122 : decode cX5_joined 122 = .ok (.lcmp, 1) := by decide +kernel
theorem dX5_joined_123 : decode cX5_joined 123 = .ok (.ifCond .gt 7, 3) := by decide +kernel
theorem dX5_joined_126 : decode cX5_joined 126 = .ok (.lconst 1, 1) := by decide +kernel
theorem dX5_joined_127 : decode cX5_joined 127 = .ok (.goto 4, 3) := by decide +kernel
theorem dX5_joined_130 : decode cX5_joined 130 = .ok (.lconst 0, 1) := by decide +kernel
theorem dX5_joined_131 : decode cX5_joined 131 = .ok (.lreturn, 1) := by decide +kernel
theorem dX5_joined_132 : decode cX5_joined 132 = .ok (.lload_n 1, 1) := by decide +kernel
theorem dX5_joined_133 : decode cX5_joined 133 = .ok (.lload_n 3, 1) := by decide +kernel
theorem dX5_joined_134 : decode cX5_joined 134 = .ok (.lcmp, 1) := by decide +kernel
theorem dX5_joined_135 : decode cX5_joined 135 = .ok (.ifCond .ne 7, 3) := by decide +kernel
theorem dX5_joined_138 : decode cX5_joined 138 = .ok (.lconst 1, 1) := by decide +kernel
theorem dX5_joined_139 : decode cX5_joined 139 = .ok (.goto 4, 3) := by decide +kernel
theorem dX5_joined_142 : decode cX5_joined 142 = .ok (.lconst 0, 1) := by decide +kernel
theorem dX5_joined_143 : decode cX5_joined 143 = .ok (.lreturn, 1) := by decide +kernel
theorem dX5_joined_144 : decode cX5_joined 144 = .ok (.lload_n 1, 1) := by decide +kernel
theorem dX5_joined_145 : decode cX5_joined 145 = .ok (.lload_n 3, 1) := by decide +kernel
theorem dX5_joined_146 : decode cX5_joined 146 = .ok (.lcmp, 1) := by decide +kernel
theorem dX5_joined_147 : decode cX5_joined 147 = .ok (.ifCond .lt 7, 3) := by decide +kernel
theorem dX5_joined_150 : decode cX5_joined 150 = .ok (.lconst 1, 1) := by decide +kernel
theorem dX5_joined_151 : decode cX5_joined 151 = .ok (.goto 4, 3) := by decide +kernel
theorem dX5_joined_154 : decode cX5_joined 154 = .ok (.lconst 0, 1) := by decide +kernel
theorem dX5_joined_155 : decode cX5_joined 155 = .ok (.lreturn, 1) := by decide +kernel
theorem dX5_joined_156 : decode cX5_joined 156 = .ok (.lload_n 1, 1) := by decide +kernel
theorem dX5_joined_157 : decode cX5_joined 157 = .ok (.lload_n 3, 1) := by decide +kernel
theorem dX5_joined_158 : decode cX5_joined 158 = .ok (.lcmp, 1) := by decide +kernel
theorem dX5_joined_159 : decode cX5_joined 159 = .ok (.ifCond .le 7, 3) := by decide +kernel
theorem dX5_joined_162 : decode cX5_joined 162 = .ok (.lconst 1, 1) := by decide +kernel
theorem dX5_joined_163 : decode cX5_joined 163 = .ok (.goto 4, 3) := by decide +kernel
theorem dX5_joined_166 : decode cX5_joined 166 = .ok (.lconst 0, 1) := by decide +kernel
theorem dX5_joined_167 : decode cX5_joined 167 = .ok (.lreturn, 1) := by decide +kernel
abbrev D_X5_joined : Nat := 1
set_option maxRecDepth 100000 in
def f_X5_joined (μ0 : Mm) (x1 : Int32) (w2 : Int64) (w3 : Int64) : Option (Int64 × Mm) :=
 (if x1 = (100013 : Int32) then
    (some ((w2 &&& w3), μ0))
    else
    (if x1 = (100014 : Int32) then
    (some ((w2 ||| w3), μ0))
    else
    (if x1 = (100015 : Int32) then
    (some ((w2 + w3), μ0))
    else
    (if x1 = (100016 : Int32) then
    (some ((w2 - w3), μ0))
    else
    (if x1 = (100017 : Int32) then
    (some ((w2 * w3), μ0))
    else
    (if x1 = (100018 : Int32) then
    (if (lg_cmp w3 (0 : Int64)) = 0 then
    (some ((0 : Int64), μ0))
    else
    (dvL w2 w3 fun v5 =>
    (some (v5, μ0))))
    else
    (if x1 = (100019 : Int32) then
    (if (lg_cmp w3 (0 : Int64)) = 0 then
    (some ((0 : Int64), μ0))
    else
    (rmL w2 w3 fun v4 =>
    (some (v4, μ0))))
    else
    (if x1 = (100020 : Int32) then
    (if 0 ≤ (lg_cmp w2 w3) then
    (some ((0 : Int64), μ0))
    else
    (some ((1 : Int64), μ0)))
    else
    (if x1 = (100021 : Int32) then
    (if 0 < (lg_cmp w2 w3) then
    (some ((0 : Int64), μ0))
    else
    (some ((1 : Int64), μ0)))
    else
    (if x1 = (100022 : Int32) then
    (if (lg_cmp w2 w3) = 0 then
    (some ((1 : Int64), μ0))
    else
    (some ((0 : Int64), μ0)))
    else
    (if x1 = (100023 : Int32) then
    (if (lg_cmp w2 w3) < 0 then
    (some ((0 : Int64), μ0))
    else
    (some ((1 : Int64), μ0)))
    else
    (if (lg_cmp w2 w3) ≤ 0 then
    (some ((0 : Int64), μ0))
    else
    (some ((1 : Int64), μ0))))))))))))))
set_option maxHeartbeats 4000000 in
set_option maxRecDepth 100000 in
theorem f_X5_joined_ok {l : Launch} {G : GG} {μ0 : Mm} {x1 : Int32} {w2 : Int64} {w3 : Int64} {r : Int64} {μ' : Mm} (hf : f_X5_joined μ0 x1 w2 w3 = some (r, μ')) : EvM l G D_X5_joined yX5_joined cX5_joined 5 (some .long) [.int x1, .long w2, .long w3] μ0 (some (.long r)) μ' := by
  show Ev l G D_X5_joined yX5_joined cX5_joined 5 (some .long) 0 [(0, .int x1), (1, .long w2), (3, .long w3)] [] μ0 (some (.long r)) μ'
  unfold f_X5_joined at hf
  refine E_iload_n (pc := 0) dX5_joined_0 rfl ?_
  refine ifS hf (fun n1_0 hf => ?_) (fun n1_0 hf => ?_)
  · refine E_tswI (pc := 1) (tgt := 60) (100013) dX5_joined_1 (by rw [n1_0]; decide) (by decide) (by decide) rfl (by decide) ?_
    refine E_lload_n (pc := 60) dX5_joined_60 rfl ?_
    refine E_lload_n (pc := 61) dX5_joined_61 rfl ?_
    refine E_land (pc := 62) dX5_joined_62 ?_
    exact E_lret (pc := 63) dX5_joined_63 rfl hf
  · refine ifS hf (fun n1_1 hf => ?_) (fun n1_1 hf => ?_)
    · refine E_tswI (pc := 1) (tgt := 64) (100014) dX5_joined_1 (by rw [n1_1]; decide) (by decide) (by decide) rfl (by decide) ?_
      refine E_lload_n (pc := 64) dX5_joined_64 rfl ?_
      refine E_lload_n (pc := 65) dX5_joined_65 rfl ?_
      refine E_lor (pc := 66) dX5_joined_66 ?_
      exact E_lret (pc := 67) dX5_joined_67 rfl hf
    · refine ifS hf (fun n1_2 hf => ?_) (fun n1_2 hf => ?_)
      · refine E_tswI (pc := 1) (tgt := 68) (100015) dX5_joined_1 (by rw [n1_2]; decide) (by decide) (by decide) rfl (by decide) ?_
        refine E_lload_n (pc := 68) dX5_joined_68 rfl ?_
        refine E_lload_n (pc := 69) dX5_joined_69 rfl ?_
        refine E_ladd (pc := 70) dX5_joined_70 ?_
        exact E_lret (pc := 71) dX5_joined_71 rfl hf
      · refine ifS hf (fun n1_3 hf => ?_) (fun n1_3 hf => ?_)
        · refine E_tswI (pc := 1) (tgt := 72) (100016) dX5_joined_1 (by rw [n1_3]; decide) (by decide) (by decide) rfl (by decide) ?_
          refine E_lload_n (pc := 72) dX5_joined_72 rfl ?_
          refine E_lload_n (pc := 73) dX5_joined_73 rfl ?_
          refine E_lsub (pc := 74) dX5_joined_74 ?_
          exact E_lret (pc := 75) dX5_joined_75 rfl hf
        · refine ifS hf (fun n1_4 hf => ?_) (fun n1_4 hf => ?_)
          · refine E_tswI (pc := 1) (tgt := 76) (100017) dX5_joined_1 (by rw [n1_4]; decide) (by decide) (by decide) rfl (by decide) ?_
            refine E_lload_n (pc := 76) dX5_joined_76 rfl ?_
            refine E_lload_n (pc := 77) dX5_joined_77 rfl ?_
            refine E_lmul (pc := 78) dX5_joined_78 ?_
            exact E_lret (pc := 79) dX5_joined_79 rfl hf
          · refine ifS hf (fun n1_5 hf => ?_) (fun n1_5 hf => ?_)
            · refine E_tswI (pc := 1) (tgt := 80) (100018) dX5_joined_1 (by rw [n1_5]; decide) (by decide) (by decide) rfl (by decide) ?_
              refine E_lload_n (pc := 80) dX5_joined_80 rfl ?_
              refine E_lconst (pc := 81) (v := (0 : Int64)) dX5_joined_81 (by decide) ?_
              refine E_lcmp (pc := 82) dX5_joined_82 ?_
              refine E_if_ne (pc := 83) (tgt := 90) dX5_joined_83 (by decide) hf (fun hf => ?_) (fun hf => ?_)
              · refine E_lconst (pc := 86) (v := (0 : Int64)) dX5_joined_86 (by decide) ?_
                refine E_goto (pc := 87) (tgt := 93) dX5_joined_87 (by decide) ?_
                exact E_lret (pc := 93) dX5_joined_93 rfl hf
              · refine E_lload_n (pc := 90) dX5_joined_90 rfl ?_
                refine E_lload_n (pc := 91) dX5_joined_91 rfl ?_
                refine E_ldiv2 (pc := 92) dX5_joined_92 hf (fun v5 hf => ?_)
                exact E_lret (pc := 93) dX5_joined_93 rfl hf
            · refine ifS hf (fun n1_6 hf => ?_) (fun n1_6 hf => ?_)
              · refine E_tswI (pc := 1) (tgt := 94) (100019) dX5_joined_1 (by rw [n1_6]; decide) (by decide) (by decide) rfl (by decide) ?_
                refine E_lload_n (pc := 94) dX5_joined_94 rfl ?_
                refine E_lconst (pc := 95) (v := (0 : Int64)) dX5_joined_95 (by decide) ?_
                refine E_lcmp (pc := 96) dX5_joined_96 ?_
                refine E_if_ne (pc := 97) (tgt := 104) dX5_joined_97 (by decide) hf (fun hf => ?_) (fun hf => ?_)
                · refine E_lconst (pc := 100) (v := (0 : Int64)) dX5_joined_100 (by decide) ?_
                  refine E_goto (pc := 101) (tgt := 107) dX5_joined_101 (by decide) ?_
                  exact E_lret (pc := 107) dX5_joined_107 rfl hf
                · refine E_lload_n (pc := 104) dX5_joined_104 rfl ?_
                  refine E_lload_n (pc := 105) dX5_joined_105 rfl ?_
                  refine E_lrem2 (pc := 106) dX5_joined_106 hf (fun v4 hf => ?_)
                  exact E_lret (pc := 107) dX5_joined_107 rfl hf
              · refine ifS hf (fun n1_7 hf => ?_) (fun n1_7 hf => ?_)
                · refine E_tswI (pc := 1) (tgt := 108) (100020) dX5_joined_1 (by rw [n1_7]; decide) (by decide) (by decide) rfl (by decide) ?_
                  refine E_lload_n (pc := 108) dX5_joined_108 rfl ?_
                  refine E_lload_n (pc := 109) dX5_joined_109 rfl ?_
                  refine E_lcmp (pc := 110) dX5_joined_110 ?_
                  refine E_if_ge (pc := 111) (tgt := 118) dX5_joined_111 (by decide) hf (fun hf => ?_) (fun hf => ?_)
                  · refine E_lconst (pc := 118) (v := (0 : Int64)) dX5_joined_118 (by decide) ?_
                    exact E_lret (pc := 119) dX5_joined_119 rfl hf
                  · refine E_lconst (pc := 114) (v := (1 : Int64)) dX5_joined_114 (by decide) ?_
                    refine E_goto (pc := 115) (tgt := 119) dX5_joined_115 (by decide) ?_
                    exact E_lret (pc := 119) dX5_joined_119 rfl hf
                · refine ifS hf (fun n1_8 hf => ?_) (fun n1_8 hf => ?_)
                  · refine E_tswI (pc := 1) (tgt := 120) (100021) dX5_joined_1 (by rw [n1_8]; decide) (by decide) (by decide) rfl (by decide) ?_
                    refine E_lload_n (pc := 120) dX5_joined_120 rfl ?_
                    refine E_lload_n (pc := 121) dX5_joined_121 rfl ?_
                    refine E_lcmp (pc := 122) dX5_joined_122 ?_
                    refine E_if_gt (pc := 123) (tgt := 130) dX5_joined_123 (by decide) hf (fun hf => ?_) (fun hf => ?_)
                    · refine E_lconst (pc := 130) (v := (0 : Int64)) dX5_joined_130 (by decide) ?_
                      exact E_lret (pc := 131) dX5_joined_131 rfl hf
                    · refine E_lconst (pc := 126) (v := (1 : Int64)) dX5_joined_126 (by decide) ?_
                      refine E_goto (pc := 127) (tgt := 131) dX5_joined_127 (by decide) ?_
                      exact E_lret (pc := 131) dX5_joined_131 rfl hf
                  · refine ifS hf (fun n1_9 hf => ?_) (fun n1_9 hf => ?_)
                    · refine E_tswI (pc := 1) (tgt := 132) (100022) dX5_joined_1 (by rw [n1_9]; decide) (by decide) (by decide) rfl (by decide) ?_
                      refine E_lload_n (pc := 132) dX5_joined_132 rfl ?_
                      refine E_lload_n (pc := 133) dX5_joined_133 rfl ?_
                      refine E_lcmp (pc := 134) dX5_joined_134 ?_
                      refine E_if_ne (pc := 135) (tgt := 142) dX5_joined_135 (by decide) hf (fun hf => ?_) (fun hf => ?_)
                      · refine E_lconst (pc := 138) (v := (1 : Int64)) dX5_joined_138 (by decide) ?_
                        refine E_goto (pc := 139) (tgt := 143) dX5_joined_139 (by decide) ?_
                        exact E_lret (pc := 143) dX5_joined_143 rfl hf
                      · refine E_lconst (pc := 142) (v := (0 : Int64)) dX5_joined_142 (by decide) ?_
                        exact E_lret (pc := 143) dX5_joined_143 rfl hf
                    · refine ifS hf (fun n1_10 hf => ?_) (fun n1_10 hf => ?_)
                      · refine E_tswI (pc := 1) (tgt := 144) (100023) dX5_joined_1 (by rw [n1_10]; decide) (by decide) (by decide) rfl (by decide) ?_
                        refine E_lload_n (pc := 144) dX5_joined_144 rfl ?_
                        refine E_lload_n (pc := 145) dX5_joined_145 rfl ?_
                        refine E_lcmp (pc := 146) dX5_joined_146 ?_
                        refine E_if_lt (pc := 147) (tgt := 154) dX5_joined_147 (by decide) hf (fun hf => ?_) (fun hf => ?_)
                        · refine E_lconst (pc := 154) (v := (0 : Int64)) dX5_joined_154 (by decide) ?_
                          exact E_lret (pc := 155) dX5_joined_155 rfl hf
                        · refine E_lconst (pc := 150) (v := (1 : Int64)) dX5_joined_150 (by decide) ?_
                          refine E_goto (pc := 151) (tgt := 155) dX5_joined_151 (by decide) ?_
                          exact E_lret (pc := 155) dX5_joined_155 rfl hf
                      · refine E_tswD (pc := 1) (tgt := 156) dX5_joined_1 (by have q0 : ¬ (x1).toInt = 100013 := i32ne n1_0; have q1 : ¬ (x1).toInt = 100014 := i32ne n1_1; have q2 : ¬ (x1).toInt = 100015 := i32ne n1_2; have q3 : ¬ (x1).toInt = 100016 := i32ne n1_3; have q4 : ¬ (x1).toInt = 100017 := i32ne n1_4; have q5 : ¬ (x1).toInt = 100018 := i32ne n1_5; have q6 : ¬ (x1).toInt = 100019 := i32ne n1_6; have q7 : ¬ (x1).toInt = 100020 := i32ne n1_7; have q8 : ¬ (x1).toInt = 100021 := i32ne n1_8; have q9 : ¬ (x1).toInt = 100022 := i32ne n1_9; have q10 : ¬ (x1).toInt = 100023 := i32ne n1_10;  omega) (by decide) ?_
                        refine E_lload_n (pc := 156) dX5_joined_156 rfl ?_
                        refine E_lload_n (pc := 157) dX5_joined_157 rfl ?_
                        refine E_lcmp (pc := 158) dX5_joined_158 ?_
                        refine E_if_le (pc := 159) (tgt := 166) dX5_joined_159 (by decide) hf (fun hf => ?_) (fun hf => ?_)
                        · refine E_lconst (pc := 166) (v := (0 : Int64)) dX5_joined_166 (by decide) ?_
                          exact E_lret (pc := 167) dX5_joined_167 rfl hf
                        · refine E_lconst (pc := 162) (v := (1 : Int64)) dX5_joined_162 (by decide) ?_
                          refine E_goto (pc := 163) (tgt := 167) dX5_joined_163 (by decide) ?_
                          exact E_lret (pc := 167) dX5_joined_167 rfl hf
theorem dX5_worked_0 : decode cX5_worked 0 = .ok (.iconst 0, 1) := by decide +kernel
theorem dX5_worked_1 : decode cX5_worked 1 = .ok (.istore 4, 2) := by decide +kernel
theorem dX5_worked_3 : decode cX5_worked 3 = .ok (.iload_n 1, 1) := by decide +kernel
theorem dX5_worked_4 : decode cX5_worked 4 = .ok (.istore 5, 2) := by decide +kernel
theorem dX5_worked_6 : decode cX5_worked 6 = .ok (.iload 5, 2) := by decide +kernel
theorem dX5_worked_8 : decode cX5_worked 8 = .ok (.iload_n 2, 1) := by decide +kernel
theorem dX5_worked_9 : decode cX5_worked 9 = .ok (.if_icmp .ge 150, 3) := by decide +kernel
theorem dX5_worked_12 : decode cX5_worked 12 = .ok (.iload 5, 2) := by decide +kernel
theorem dX5_worked_14 : decode cX5_worked 14 = .ok (.aload_n 0, 1) := by decide +kernel
theorem dX5_worked_15 : decode cX5_worked 15 = .ok (.getfield 31, 3) := by decide +kernel
theorem dX5_worked_18 : decode cX5_worked 18 = .ok (.arraylength, 1) := by decide +kernel
theorem dX5_worked_19 : decode cX5_worked 19 = .ok (.if_icmp .ge 140, 3) := by decide +kernel
theorem dX5_worked_22 : decode cX5_worked 22 = .ok (.aload_n 0, 1) := by decide +kernel
theorem dX5_worked_23 : decode cX5_worked 23 = .ok (.getfield 31, 3) := by decide +kernel
theorem dX5_worked_26 : decode cX5_worked 26 = .ok (.iload 5, 2) := by decide +kernel
theorem dX5_worked_28 : decode cX5_worked 28 = .ok (.iaload, 1) := by decide +kernel
theorem dX5_worked_29 : decode cX5_worked 29 = .ok (.istore 6, 2) := by decide +kernel
theorem dX5_worked_31 : decode cX5_worked 31 = .ok (.iload 6, 2) := by decide +kernel
theorem dX5_worked_33 : decode cX5_worked 33 = .ok (.ldc 74, 2) := by decide +kernel
theorem dX5_worked_35 : decode cX5_worked 35 = .ok (.if_icmp .ge 44, 3) := by decide +kernel
theorem dX5_worked_38 : decode cX5_worked 38 = .ok (.iload 4, 2) := by decide +kernel
theorem dX5_worked_40 : decode cX5_worked 40 = .ok (.bipush 32, 2) := by decide +kernel
theorem dX5_worked_42 : decode cX5_worked 42 = .ok (.if_icmp .ge 111, 3) := by decide +kernel
theorem dX5_worked_45 : decode cX5_worked 45 = .ok (.aload_n 0, 1) := by decide +kernel
theorem dX5_worked_46 : decode cX5_worked 46 = .ok (.getfield 11, 3) := by decide +kernel
theorem dX5_worked_49 : decode cX5_worked 49 = .ok (.iload 4, 2) := by decide +kernel
theorem dX5_worked_51 : decode cX5_worked 51 = .ok (.iload 6, 2) := by decide +kernel
theorem dX5_worked_53 : decode cX5_worked 53 = .ok (.ldc 75, 2) := by decide +kernel
theorem dX5_worked_55 : decode cX5_worked 55 = .ok (.if_icmp .ge 9, 3) := by decide +kernel
theorem dX5_worked_58 : decode cX5_worked 58 = .ok (.iload 6, 2) := by decide +kernel
theorem dX5_worked_60 : decode cX5_worked 60 = .ok (.i2l, 1) := by decide +kernel
theorem dX5_worked_61 : decode cX5_worked 61 = .ok (.goto 11, 3) := by decide +kernel
theorem dX5_worked_64 : decode cX5_worked 64 = .ok (.aload_n 3, 1) := by decide +kernel
theorem dX5_worked_65 : decode cX5_worked 65 = .ok (.iload 6, 2) := by decide +kernel
theorem dX5_worked_67 : decode cX5_worked 67 = .ok (.ldc 75, 2) := by decide +kernel
theorem dX5_worked_69 : decode cX5_worked 69 = .ok (.isub, 1) := by decide +kernel
theorem dX5_worked_70 : decode cX5_worked 70 = .ok (.iaload, 1) := by decide +kernel
theorem dX5_worked_71 : decode cX5_worked 71 = .ok (.i2l, 1) := by decide +kernel
theorem dX5_worked_72 : decode cX5_worked 72 = .ok (.lastore, 1) := by decide +kernel
theorem dX5_worked_73 : decode cX5_worked 73 = .ok (.iinc 4 1, 3) := by decide +kernel
theorem dX5_worked_76 : decode cX5_worked 76 = .ok (.goto 77, 3) := by decide +kernel
theorem dX5_worked_79 : decode cX5_worked 79 = .ok (.iload 6, 2) := by decide +kernel
theorem dX5_worked_81 : decode cX5_worked 81 = .ok (.ldc 74, 2) := by decide +kernel
theorem dX5_worked_83 : decode cX5_worked 83 = .ok (.if_icmp .ne 31, 3) := by decide +kernel
theorem dX5_worked_86 : decode cX5_worked 86 = .ok (.iload 4, 2) := by decide +kernel
theorem dX5_worked_88 : decode cX5_worked 88 = .ok (.ifCond .le 65, 3) := by decide +kernel
theorem dX5_worked_91 : decode cX5_worked 91 = .ok (.aload_n 0, 1) := by decide +kernel
theorem dX5_worked_92 : decode cX5_worked 92 = .ok (.getfield 11, 3) := by decide +kernel
theorem dX5_worked_95 : decode cX5_worked 95 = .ok (.iload 4, 2) := by decide +kernel
theorem dX5_worked_97 : decode cX5_worked 97 = .ok (.iconst 1, 1) := by decide +kernel
theorem dX5_worked_98 : decode cX5_worked 98 = .ok (.isub, 1) := by decide +kernel
theorem dX5_worked_99 : decode cX5_worked 99 = .ok (.lconst 1, 1) := by decide +kernel
theorem dX5_worked_100 : decode cX5_worked 100 = .ok (.aload_n 0, 1) := by decide +kernel
theorem dX5_worked_101 : decode cX5_worked 101 = .ok (.getfield 11, 3) := by decide +kernel
theorem dX5_worked_104 : decode cX5_worked 104 = .ok (.iload 4, 2) := by decide +kernel
theorem dX5_worked_106 : decode cX5_worked 106 = .ok (.iconst 1, 1) := by decide +kernel
theorem dX5_worked_107 : decode cX5_worked 107 = .ok (.isub, 1) := by decide +kernel
theorem dX5_worked_108 : decode cX5_worked 108 = .ok (.laload, 1) := by decide +kernel
theorem dX5_worked_109 : decode cX5_worked 109 = .ok (.lsub, 1) := by decide +kernel
theorem dX5_worked_110 : decode cX5_worked 110 = .ok (.lastore, 1) := by decide +kernel
theorem dX5_worked_111 : decode cX5_worked 111 = .ok (.goto 42, 3) := by decide +kernel
theorem dX5_worked_114 : decode cX5_worked 114 = .ok (.iload 4, 2) := by decide +kernel
theorem dX5_worked_116 : decode cX5_worked 116 = .ok (.iconst 1, 1) := by decide +kernel
theorem dX5_worked_117 : decode cX5_worked 117 = .ok (.if_icmp .le 36, 3) := by decide +kernel
theorem dX5_worked_120 : decode cX5_worked 120 = .ok (.iinc 4 (-1), 3) := by decide +kernel
theorem dX5_worked_123 : decode cX5_worked 123 = .ok (.aload_n 0, 1) := by decide +kernel
theorem dX5_worked_124 : decode cX5_worked 124 = .ok (.getfield 11, 3) := by decide +kernel
theorem dX5_worked_127 : decode cX5_worked 127 = .ok (.iload 4, 2) := by decide +kernel
theorem dX5_worked_129 : decode cX5_worked 129 = .ok (.iconst 1, 1) := by decide +kernel
theorem dX5_worked_130 : decode cX5_worked 130 = .ok (.isub, 1) := by decide +kernel
theorem dX5_worked_131 : decode cX5_worked 131 = .ok (.iload 6, 2) := by decide +kernel
theorem dX5_worked_133 : decode cX5_worked 133 = .ok (.aload_n 0, 1) := by decide +kernel
theorem dX5_worked_134 : decode cX5_worked 134 = .ok (.getfield 11, 3) := by decide +kernel
theorem dX5_worked_137 : decode cX5_worked 137 = .ok (.iload 4, 2) := by decide +kernel
theorem dX5_worked_139 : decode cX5_worked 139 = .ok (.iconst 1, 1) := by decide +kernel
theorem dX5_worked_140 : decode cX5_worked 140 = .ok (.isub, 1) := by decide +kernel
theorem dX5_worked_141 : decode cX5_worked 141 = .ok (.laload, 1) := by decide +kernel
theorem dX5_worked_142 : decode cX5_worked 142 = .ok (.aload_n 0, 1) := by decide +kernel
theorem dX5_worked_143 : decode cX5_worked 143 = .ok (.getfield 11, 3) := by decide +kernel
theorem dX5_worked_146 : decode cX5_worked 146 = .ok (.iload 4, 2) := by decide +kernel
theorem dX5_worked_148 : decode cX5_worked 148 = .ok (.laload, 1) := by decide +kernel
theorem dX5_worked_149 : decode cX5_worked 149 = .ok (.invokestatic 76, 3) := by decide +kernel
theorem dX5_worked_152 : decode cX5_worked 152 = .ok (.lastore, 1) := by decide +kernel
theorem dX5_worked_153 : decode cX5_worked 153 = .ok (.iinc 5 1, 3) := by decide +kernel
theorem dX5_worked_156 : decode cX5_worked 156 = .ok (.goto (-150), 3) := by decide +kernel
theorem dX5_worked_159 : decode cX5_worked 159 = .ok (.iload 4, 2) := by decide +kernel
theorem dX5_worked_161 : decode cX5_worked 161 = .ok (.ifCond .le 12, 3) := by decide +kernel
theorem dX5_worked_164 : decode cX5_worked 164 = .ok (.aload_n 0, 1) := by decide +kernel
theorem dX5_worked_165 : decode cX5_worked 165 = .ok (.getfield 11, 3) := by decide +kernel
theorem dX5_worked_168 : decode cX5_worked 168 = .ok (.iconst 0, 1) := by decide +kernel
theorem dX5_worked_169 : decode cX5_worked 169 = .ok (.laload, 1) := by decide +kernel
theorem dX5_worked_170 : decode cX5_worked 170 = .ok (.goto 4, 3) := by decide +kernel
theorem dX5_worked_173 : decode cX5_worked 173 = .ok (.lconst 0, 1) := by decide +kernel
theorem dX5_worked_174 : decode cX5_worked 174 = .ok (.lreturn, 1) := by decide +kernel
abbrev D_X5_worked : Nat := 2
def f_X5_worked_L6 (K159 : Mm → Nat → Int32 → Option (Int64 × Mm)) : Nat → Mm → Nat → Int32 → Nat → Int32 → Int32 → Option (Int64 × Mm)
  | 0, _, _, _, _, _, _ => none
  | n + 1, μ0, a7, x8, a9, x10, x11 =>
    (if x8 ≤ x11 then
    K159 μ0 a7 x10
    else
    ((gR μ0 a7 5 0).bind fun v12 =>
    ((aN μ0 v12 0).bind fun v13 =>
    (if v13 ≤ x11 then
    K159 μ0 a7 x10
    else
    ((gR μ0 a7 5 0).bind fun v14 =>
    ((aI μ0 v14 0 x11).bind fun v15 =>
    (nm v15 fun x16 =>
    (if (100012 : Int32) ≤ x16 then
    (if x16 = (100012 : Int32) then
    (if x10 ≤ 0 then
    (nm (x11 + Int32.ofInt (1)) fun x17 =>
    f_X5_worked_L6 K159 n μ0 a7 x8 a9 x10 x17)
    else
    ((gR μ0 a7 5 8).bind fun v18 =>
    ((gR μ0 a7 5 8).bind fun v19 =>
    ((aL μ0 v19 3 (x10 - (1 : Int32))).bind fun v20 =>
    ((sL μ0 v18 3 (x10 - (1 : Int32)) ((1 : Int64) - v20)).bind fun μ21 =>
    (nm (x11 + Int32.ofInt (1)) fun x22 =>
    f_X5_worked_L6 K159 n μ21 a7 x8 a9 x10 x22))))))
    else
    (if x10 ≤ (1 : Int32) then
    (nm (x11 + Int32.ofInt (1)) fun x23 =>
    f_X5_worked_L6 K159 n μ0 a7 x8 a9 x10 x23)
    else
    (nm (x10 + Int32.ofInt (-1)) fun x24 =>
    ((gR μ0 a7 5 8).bind fun v25 =>
    ((gR μ0 a7 5 8).bind fun v26 =>
    ((aL μ0 v26 3 (x24 - (1 : Int32))).bind fun v27 =>
    ((gR μ0 a7 5 8).bind fun v28 =>
    ((aL μ0 v28 3 x24).bind fun v29 =>
    (bd (f_X5_joined μ0 x16 v27 v29) fun v31 μ30 =>
    ((sL μ30 v25 3 (x24 - (1 : Int32)) v31).bind fun μ32 =>
    (nm (x11 + Int32.ofInt (1)) fun x33 =>
    f_X5_worked_L6 K159 n μ32 a7 x8 a9 x24 x33)))))))))))
    else
    (if (32 : Int32) ≤ x10 then
    (nm (x11 + Int32.ofInt (1)) fun x34 =>
    f_X5_worked_L6 K159 n μ0 a7 x8 a9 x10 x34)
    else
    ((gR μ0 a7 5 8).bind fun v35 =>
    (if (100000 : Int32) ≤ x16 then
    ((aI μ0 a9 0 (x16 - (100000 : Int32))).bind fun v36 =>
    ((sL μ0 v35 3 x10 (v36).toInt64).bind fun μ37 =>
    (nm (x10 + Int32.ofInt (1)) fun x38 =>
    (nm (x11 + Int32.ofInt (1)) fun x39 =>
    f_X5_worked_L6 K159 n μ37 a7 x8 a9 x38 x39))))
    else
    ((sL μ0 v35 3 x10 (x16).toInt64).bind fun μ40 =>
    (nm (x10 + Int32.ofInt (1)) fun x41 =>
    (nm (x11 + Int32.ofInt (1)) fun x42 =>
    f_X5_worked_L6 K159 n μ40 a7 x8 a9 x41 x42))))))))))))))
set_option maxHeartbeats 4000000 in
set_option maxRecDepth 100000 in
theorem f_X5_worked_L6_ok {l : Launch} {G : GG} {K159 : Mm → Nat → Int32 → Option (Int64 × Mm)} {r : Int64} {μ' : Mm} (n : Nat) (μ0 : Mm) (a7 : Nat) (x8 : Int32) (a9 : Nat) (x10 : Int32) (x11 : Int32) (hf : f_X5_worked_L6 K159 n μ0 a7 x8 a9 x10 x11 = some (r, μ')) (hK159 : ∀ (μ1 : Mm) (y0 : Nat) (y4 : Int32), K159 μ1 y0 y4 = some (r, μ') → Ev l G D_X5_worked yX5_worked cX5_worked 7 (some .long) 159 [(0, .ref y0), (4, .int y4)] [] μ1 (some (.long r)) μ') : Ev l G D_X5_worked yX5_worked cX5_worked 7 (some .long) 6 [(0, .ref a7), (2, .int x8), (3, .ref a9), (4, .int x10), (5, .int x11)] [] μ0 (some (.long r)) μ' := by
  induction n generalizing μ0 a7 x8 a9 x10 x11 with
  | zero => cases hf
  | succ n ih0 =>
    have ih : ∀ (μ0 : Mm) (a7 : Nat) (x8 : Int32) (a9 : Nat) (x10 : Int32) (x11 : Int32), f_X5_worked_L6 K159 n μ0 a7 x8 a9 x10 x11 = some (r, μ') → Ev l G D_X5_worked yX5_worked cX5_worked 7 (some .long) 6 [(0, .ref a7), (2, .int x8), (3, .ref a9), (4, .int x10), (5, .int x11)] [] μ0 (some (.long r)) μ' := fun μ0 a7 x8 a9 x10 x11 hf => ih0 μ0 a7 x8 a9 x10 x11 hf
    rw [f_X5_worked_L6] at hf
    refine E_iload (pc := 6) dX5_worked_6 rfl ?_
    refine E_iload_n (pc := 8) dX5_worked_8 rfl ?_
    refine E_icmp_ge (pc := 9) (tgt := 159) dX5_worked_9 (by decide) hf (fun hf => ?_) (fun hf => ?_)
    · refine Ev.sub [0, 3] rfl ?_
      exact hK159 _ _ _ hf
    · refine E_iload (pc := 12) dX5_worked_12 rfl ?_
      refine E_aload_n (pc := 14) dX5_worked_14 rfl ?_
      refine E_getR (pc := 15) dX5_worked_15 fl_X5_31 hf (fun v12 hf => ?_)
      refine E_alen (pc := 18) 0 dX5_worked_18 (by decide) hf (fun v13 hf => ?_)
      refine E_icmp_ge (pc := 19) (tgt := 159) dX5_worked_19 (by decide) hf (fun hf => ?_) (fun hf => ?_)
      · refine Ev.sub [0, 3] rfl ?_
        exact hK159 _ _ _ hf
      · refine E_aload_n (pc := 22) dX5_worked_22 rfl ?_
        refine E_getR (pc := 23) dX5_worked_23 fl_X5_31 hf (fun v14 hf => ?_)
        refine E_iload (pc := 26) dX5_worked_26 rfl ?_
        refine E_iald (pc := 28) dX5_worked_28 hf (fun v15 hf => ?_)
        refine E_istore (pc := 29) (ls' := fun x16 => [(6, .int x16), (0, .ref a7), (2, .int x8), (3, .ref a9), (4, .int x10), (5, .int x11)]) dX5_worked_29 (by decide) (fun _ => rfl) hf (fun x16 hf => ?_)
        refine E_iload (pc := 31) dX5_worked_31 rfl ?_
        refine E_ldc (pc := 33) (v := (100012 : Int32)) dX5_worked_33 co_X5_74 ?_
        refine E_icmp_ge (pc := 35) (tgt := 79) dX5_worked_35 (by decide) hf (fun hf => ?_) (fun hf => ?_)
        · refine E_iload (pc := 79) dX5_worked_79 rfl ?_
          refine E_ldc (pc := 81) (v := (100012 : Int32)) dX5_worked_81 co_X5_74 ?_
          refine E_icmp_ne (pc := 83) (tgt := 114) dX5_worked_83 (by decide) hf (fun hf => ?_) (fun hf => ?_)
          · refine E_iload (pc := 86) dX5_worked_86 rfl ?_
            refine E_if_le (pc := 88) (tgt := 153) dX5_worked_88 (by decide) hf (fun hf => ?_) (fun hf => ?_)
            · refine E_iinc (pc := 153) (ls' := fun x17 => [(5, .int x17), (6, .int x16), (0, .ref a7), (2, .int x8), (3, .ref a9), (4, .int x10)]) dX5_worked_153 rfl (by decide) (fun _ => rfl) hf (fun x17 hf => ?_)
              refine E_goto (pc := 156) (tgt := 6) dX5_worked_156 (by decide) ?_
              refine Ev.sub [2, 3, 4, 5, 0] rfl ?_
              exact ih _ _ _ _ _ _ hf
            · refine E_aload_n (pc := 91) dX5_worked_91 rfl ?_
              refine E_getR (pc := 92) dX5_worked_92 fl_X5_11 hf (fun v18 hf => ?_)
              refine E_iload (pc := 95) dX5_worked_95 rfl ?_
              refine E_iconst (pc := 97) (v := (1 : Int32)) dX5_worked_97 (by decide) ?_
              refine E_isub (pc := 98) dX5_worked_98 ?_
              refine E_lconst (pc := 99) (v := (1 : Int64)) dX5_worked_99 (by decide) ?_
              refine E_aload_n (pc := 100) dX5_worked_100 rfl ?_
              refine E_getR (pc := 101) dX5_worked_101 fl_X5_11 hf (fun v19 hf => ?_)
              refine E_iload (pc := 104) dX5_worked_104 rfl ?_
              refine E_iconst (pc := 106) (v := (1 : Int32)) dX5_worked_106 (by decide) ?_
              refine E_isub (pc := 107) dX5_worked_107 ?_
              refine E_lald (pc := 108) dX5_worked_108 hf (fun v20 hf => ?_)
              refine E_lsub (pc := 109) dX5_worked_109 ?_
              refine E_last (pc := 110) dX5_worked_110 hf (fun μ21 hf => ?_)
              refine E_goto (pc := 111) (tgt := 153) dX5_worked_111 (by decide) ?_
              refine E_iinc (pc := 153) (ls' := fun x22 => [(5, .int x22), (6, .int x16), (0, .ref a7), (2, .int x8), (3, .ref a9), (4, .int x10)]) dX5_worked_153 rfl (by decide) (fun _ => rfl) hf (fun x22 hf => ?_)
              refine E_goto (pc := 156) (tgt := 6) dX5_worked_156 (by decide) ?_
              refine Ev.sub [2, 3, 4, 5, 0] rfl ?_
              exact ih _ _ _ _ _ _ hf
          · refine E_iload (pc := 114) dX5_worked_114 rfl ?_
            refine E_iconst (pc := 116) (v := (1 : Int32)) dX5_worked_116 (by decide) ?_
            refine E_icmp_le (pc := 117) (tgt := 153) dX5_worked_117 (by decide) hf (fun hf => ?_) (fun hf => ?_)
            · refine E_iinc (pc := 153) (ls' := fun x23 => [(5, .int x23), (6, .int x16), (0, .ref a7), (2, .int x8), (3, .ref a9), (4, .int x10)]) dX5_worked_153 rfl (by decide) (fun _ => rfl) hf (fun x23 hf => ?_)
              refine E_goto (pc := 156) (tgt := 6) dX5_worked_156 (by decide) ?_
              refine Ev.sub [2, 3, 4, 5, 0] rfl ?_
              exact ih _ _ _ _ _ _ hf
            · refine E_iinc (pc := 120) (ls' := fun x24 => [(4, .int x24), (6, .int x16), (0, .ref a7), (2, .int x8), (3, .ref a9), (5, .int x11)]) dX5_worked_120 rfl (by decide) (fun _ => rfl) hf (fun x24 hf => ?_)
              refine E_aload_n (pc := 123) dX5_worked_123 rfl ?_
              refine E_getR (pc := 124) dX5_worked_124 fl_X5_11 hf (fun v25 hf => ?_)
              refine E_iload (pc := 127) dX5_worked_127 rfl ?_
              refine E_iconst (pc := 129) (v := (1 : Int32)) dX5_worked_129 (by decide) ?_
              refine E_isub (pc := 130) dX5_worked_130 ?_
              refine E_iload (pc := 131) dX5_worked_131 rfl ?_
              refine E_aload_n (pc := 133) dX5_worked_133 rfl ?_
              refine E_getR (pc := 134) dX5_worked_134 fl_X5_11 hf (fun v26 hf => ?_)
              refine E_iload (pc := 137) dX5_worked_137 rfl ?_
              refine E_iconst (pc := 139) (v := (1 : Int32)) dX5_worked_139 (by decide) ?_
              refine E_isub (pc := 140) dX5_worked_140 ?_
              refine E_lald (pc := 141) dX5_worked_141 hf (fun v27 hf => ?_)
              refine E_aload_n (pc := 142) dX5_worked_142 rfl ?_
              refine E_getR (pc := 143) dX5_worked_143 fl_X5_11 hf (fun v28 hf => ?_)
              refine E_iload (pc := 146) dX5_worked_146 rfl ?_
              refine E_lald (pc := 148) dX5_worked_148 hf (fun v29 hf => ?_)
              refine E_Sl (pc := 149) (d2 := D_X5_joined) [.int x16, .long v27, .long v29] dX5_worked_149 ml_X5_76 mf_X5_joined st_X5_joined rfl (by decide) (Nat.le_of_ble_eq_true rfl) (Nat.le_of_ble_eq_true rfl) rfl (fun _ _ h => f_X5_joined_ok h) hf (fun v31 μ30 hf => ?_)
              refine E_last (pc := 152) dX5_worked_152 hf (fun μ32 hf => ?_)
              refine E_iinc (pc := 153) (ls' := fun x33 => [(5, .int x33), (4, .int x24), (6, .int x16), (0, .ref a7), (2, .int x8), (3, .ref a9)]) dX5_worked_153 rfl (by decide) (fun _ => rfl) hf (fun x33 hf => ?_)
              refine E_goto (pc := 156) (tgt := 6) dX5_worked_156 (by decide) ?_
              refine Ev.sub [3, 4, 5, 1, 0] rfl ?_
              exact ih _ _ _ _ _ _ hf
        · refine E_iload (pc := 38) dX5_worked_38 rfl ?_
          refine E_bipush (pc := 40) (v := (32 : Int32)) dX5_worked_40 (by decide) ?_
          refine E_icmp_ge (pc := 42) (tgt := 153) dX5_worked_42 (by decide) hf (fun hf => ?_) (fun hf => ?_)
          · refine E_iinc (pc := 153) (ls' := fun x34 => [(5, .int x34), (6, .int x16), (0, .ref a7), (2, .int x8), (3, .ref a9), (4, .int x10)]) dX5_worked_153 rfl (by decide) (fun _ => rfl) hf (fun x34 hf => ?_)
            refine E_goto (pc := 156) (tgt := 6) dX5_worked_156 (by decide) ?_
            refine Ev.sub [2, 3, 4, 5, 0] rfl ?_
            exact ih _ _ _ _ _ _ hf
          · refine E_aload_n (pc := 45) dX5_worked_45 rfl ?_
            refine E_getR (pc := 46) dX5_worked_46 fl_X5_11 hf (fun v35 hf => ?_)
            refine E_iload (pc := 49) dX5_worked_49 rfl ?_
            refine E_iload (pc := 51) dX5_worked_51 rfl ?_
            refine E_ldc (pc := 53) (v := (100000 : Int32)) dX5_worked_53 co_X5_75 ?_
            refine E_icmp_ge (pc := 55) (tgt := 64) dX5_worked_55 (by decide) hf (fun hf => ?_) (fun hf => ?_)
            · refine E_aload_n (pc := 64) dX5_worked_64 rfl ?_
              refine E_iload (pc := 65) dX5_worked_65 rfl ?_
              refine E_ldc (pc := 67) (v := (100000 : Int32)) dX5_worked_67 co_X5_75 ?_
              refine E_isub (pc := 69) dX5_worked_69 ?_
              refine E_iald (pc := 70) dX5_worked_70 hf (fun v36 hf => ?_)
              refine E_i2l (pc := 71) dX5_worked_71 ?_
              refine E_last (pc := 72) dX5_worked_72 hf (fun μ37 hf => ?_)
              refine E_iinc (pc := 73) (ls' := fun x38 => [(4, .int x38), (6, .int x16), (0, .ref a7), (2, .int x8), (3, .ref a9), (5, .int x11)]) dX5_worked_73 rfl (by decide) (fun _ => rfl) hf (fun x38 hf => ?_)
              refine E_goto (pc := 76) (tgt := 153) dX5_worked_76 (by decide) ?_
              refine E_iinc (pc := 153) (ls' := fun x39 => [(5, .int x39), (4, .int x38), (6, .int x16), (0, .ref a7), (2, .int x8), (3, .ref a9)]) dX5_worked_153 rfl (by decide) (fun _ => rfl) hf (fun x39 hf => ?_)
              refine E_goto (pc := 156) (tgt := 6) dX5_worked_156 (by decide) ?_
              refine Ev.sub [3, 4, 5, 1, 0] rfl ?_
              exact ih _ _ _ _ _ _ hf
            · refine E_iload (pc := 58) dX5_worked_58 rfl ?_
              refine E_i2l (pc := 60) dX5_worked_60 ?_
              refine E_goto (pc := 61) (tgt := 72) dX5_worked_61 (by decide) ?_
              refine E_last (pc := 72) dX5_worked_72 hf (fun μ40 hf => ?_)
              refine E_iinc (pc := 73) (ls' := fun x41 => [(4, .int x41), (6, .int x16), (0, .ref a7), (2, .int x8), (3, .ref a9), (5, .int x11)]) dX5_worked_73 rfl (by decide) (fun _ => rfl) hf (fun x41 hf => ?_)
              refine E_goto (pc := 76) (tgt := 153) dX5_worked_76 (by decide) ?_
              refine E_iinc (pc := 153) (ls' := fun x42 => [(5, .int x42), (4, .int x41), (6, .int x16), (0, .ref a7), (2, .int x8), (3, .ref a9)]) dX5_worked_153 rfl (by decide) (fun _ => rfl) hf (fun x42 hf => ?_)
              refine E_goto (pc := 156) (tgt := 6) dX5_worked_156 (by decide) ?_
              refine Ev.sub [3, 4, 5, 1, 0] rfl ?_
              exact ih _ _ _ _ _ _ hf
set_option maxRecDepth 100000 in
def f_X5_worked (μ0 : Mm) (a1 : Nat) (x2 : Int32) (x3 : Int32) (a4 : Nat) : Option (Int64 × Mm) :=
 (nm (0 : Int32) fun x5 =>
    (nm x2 fun x6 =>
    f_X5_worked_L6 (fun μ43 a44 x45 =>
    (if x45 ≤ 0 then
    (some ((0 : Int64), μ43))
    else
    ((gR μ43 a44 5 8).bind fun v46 =>
    ((aL μ43 v46 3 (0 : Int32)).bind fun v47 =>
    (some (v47, μ43)))))) FU μ0 a1 x3 a4 x5 x6))
set_option maxHeartbeats 4000000 in
set_option maxRecDepth 100000 in
theorem f_X5_worked_ok {l : Launch} {G : GG} {μ0 : Mm} {a1 : Nat} {x2 : Int32} {x3 : Int32} {a4 : Nat} {r : Int64} {μ' : Mm} (hf : f_X5_worked μ0 a1 x2 x3 a4 = some (r, μ')) : EvM l G D_X5_worked yX5_worked cX5_worked 7 (some .long) [.ref a1, .int x2, .int x3, .ref a4] μ0 (some (.long r)) μ' := by
  show Ev l G D_X5_worked yX5_worked cX5_worked 7 (some .long) 0 [(0, .ref a1), (1, .int x2), (2, .int x3), (3, .ref a4)] [] μ0 (some (.long r)) μ'
  unfold f_X5_worked at hf
  refine E_iconst (pc := 0) (v := (0 : Int32)) dX5_worked_0 (by decide) ?_
  refine E_istore (pc := 1) (ls' := fun x5 => [(4, .int x5), (0, .ref a1), (1, .int x2), (2, .int x3), (3, .ref a4)]) dX5_worked_1 (by decide) (fun _ => rfl) hf (fun x5 hf => ?_)
  refine E_iload_n (pc := 3) dX5_worked_3 rfl ?_
  refine E_istore (pc := 4) (ls' := fun x6 => [(5, .int x6), (4, .int x5), (0, .ref a1), (1, .int x2), (2, .int x3), (3, .ref a4)]) dX5_worked_4 (by decide) (fun _ => rfl) hf (fun x6 hf => ?_)
  refine Ev.sub [2, 4, 5, 1, 0] rfl ?_
  refine f_X5_worked_L6_ok  _ _ _ _ _ _ _ hf (fun μ43 a44 x45 hf => ?_)
  · refine E_iload (pc := 159) dX5_worked_159 rfl ?_
    refine E_if_le (pc := 161) (tgt := 173) dX5_worked_161 (by decide) hf (fun hf => ?_) (fun hf => ?_)
    · refine E_lconst (pc := 173) (v := (0 : Int64)) dX5_worked_173 (by decide) ?_
      exact E_lret (pc := 174) dX5_worked_174 rfl hf
    · refine E_aload_n (pc := 164) dX5_worked_164 rfl ?_
      refine E_getR (pc := 165) dX5_worked_165 fl_X5_11 hf (fun v46 hf => ?_)
      refine E_iconst (pc := 168) (v := (0 : Int32)) dX5_worked_168 (by decide) ?_
      refine E_lald (pc := 169) dX5_worked_169 hf (fun v47 hf => ?_)
      refine E_goto (pc := 170) (tgt := 174) dX5_worked_170 (by decide) ?_
      exact E_lret (pc := 174) dX5_worked_174 rfl hf
theorem dX5_breaksBy_0 : decode cX5_breaksBy 0 = .ok (.aload_n 0, 1) := by decide +kernel
theorem dX5_breaksBy_1 : decode cX5_breaksBy 1 = .ok (.getfield 52, 3) := by decide +kernel
theorem dX5_breaksBy_4 : decode cX5_breaksBy 4 = .ok (.ifCond .ne 19, 3) := by decide +kernel
theorem dX5_breaksBy_7 : decode cX5_breaksBy 7 = .ok (.aload_n 1, 1) := by decide +kernel
theorem dX5_breaksBy_8 : decode cX5_breaksBy 8 = .ok (.iconst 2, 1) := by decide +kernel
theorem dX5_breaksBy_9 : decode cX5_breaksBy 9 = .ok (.iaload, 1) := by decide +kernel
theorem dX5_breaksBy_10 : decode cX5_breaksBy 10 = .ok (.aload_n 1, 1) := by decide +kernel
theorem dX5_breaksBy_11 : decode cX5_breaksBy 11 = .ok (.bipush 6, 2) := by decide +kernel
theorem dX5_breaksBy_13 : decode cX5_breaksBy 13 = .ok (.iaload, 1) := by decide +kernel
theorem dX5_breaksBy_14 : decode cX5_breaksBy 14 = .ok (.if_icmp .lt 7, 3) := by decide +kernel
theorem dX5_breaksBy_17 : decode cX5_breaksBy 17 = .ok (.iconst 1, 1) := by decide +kernel
theorem dX5_breaksBy_18 : decode cX5_breaksBy 18 = .ok (.goto 4, 3) := by decide +kernel
theorem dX5_breaksBy_21 : decode cX5_breaksBy 21 = .ok (.iconst 0, 1) := by decide +kernel
theorem dX5_breaksBy_22 : decode cX5_breaksBy 22 = .ok (.ireturn, 1) := by decide +kernel
theorem dX5_breaksBy_23 : decode cX5_breaksBy 23 = .ok (.iconst 0, 1) := by decide +kernel
theorem dX5_breaksBy_24 : decode cX5_breaksBy 24 = .ok (.istore_n 2, 1) := by decide +kernel
theorem dX5_breaksBy_25 : decode cX5_breaksBy 25 = .ok (.iload_n 2, 1) := by decide +kernel
theorem dX5_breaksBy_26 : decode cX5_breaksBy 26 = .ok (.aload_n 0, 1) := by decide +kernel
theorem dX5_breaksBy_27 : decode cX5_breaksBy 27 = .ok (.getfield 35, 3) := by decide +kernel
theorem dX5_breaksBy_30 : decode cX5_breaksBy 30 = .ok (.if_icmp .ge 42, 3) := by decide +kernel
theorem dX5_breaksBy_33 : decode cX5_breaksBy 33 = .ok (.aload_n 0, 1) := by decide +kernel
theorem dX5_breaksBy_34 : decode cX5_breaksBy 34 = .ok (.getfield 39, 3) := by decide +kernel
theorem dX5_breaksBy_37 : decode cX5_breaksBy 37 = .ok (.iload_n 2, 1) := by decide +kernel
theorem dX5_breaksBy_38 : decode cX5_breaksBy 38 = .ok (.iaload, 1) := by decide +kernel
theorem dX5_breaksBy_39 : decode cX5_breaksBy 39 = .ok (.ifCond .ne 27, 3) := by decide +kernel
theorem dX5_breaksBy_42 : decode cX5_breaksBy 42 = .ok (.aload_n 0, 1) := by decide +kernel
theorem dX5_breaksBy_43 : decode cX5_breaksBy 43 = .ok (.aload_n 0, 1) := by decide +kernel
theorem dX5_breaksBy_44 : decode cX5_breaksBy 44 = .ok (.getfield 47, 3) := by decide +kernel
theorem dX5_breaksBy_47 : decode cX5_breaksBy 47 = .ok (.iload_n 2, 1) := by decide +kernel
theorem dX5_breaksBy_48 : decode cX5_breaksBy 48 = .ok (.iaload, 1) := by decide +kernel
theorem dX5_breaksBy_49 : decode cX5_breaksBy 49 = .ok (.aload_n 0, 1) := by decide +kernel
theorem dX5_breaksBy_50 : decode cX5_breaksBy 50 = .ok (.getfield 51, 3) := by decide +kernel
theorem dX5_breaksBy_53 : decode cX5_breaksBy 53 = .ok (.iload_n 2, 1) := by decide +kernel
theorem dX5_breaksBy_54 : decode cX5_breaksBy 54 = .ok (.iaload, 1) := by decide +kernel
theorem dX5_breaksBy_55 : decode cX5_breaksBy 55 = .ok (.aload_n 1, 1) := by decide +kernel
theorem dX5_breaksBy_56 : decode cX5_breaksBy 56 = .ok (.invokevirtual 59, 3) := by decide +kernel
theorem dX5_breaksBy_59 : decode cX5_breaksBy 59 = .ok (.lconst 0, 1) := by decide +kernel
theorem dX5_breaksBy_60 : decode cX5_breaksBy 60 = .ok (.lcmp, 1) := by decide +kernel
theorem dX5_breaksBy_61 : decode cX5_breaksBy 61 = .ok (.ifCond .eq 5, 3) := by decide +kernel
theorem dX5_breaksBy_64 : decode cX5_breaksBy 64 = .ok (.iconst 1, 1) := by decide +kernel
theorem dX5_breaksBy_65 : decode cX5_breaksBy 65 = .ok (.ireturn, 1) := by decide +kernel
theorem dX5_breaksBy_66 : decode cX5_breaksBy 66 = .ok (.iinc 2 1, 3) := by decide +kernel
theorem dX5_breaksBy_69 : decode cX5_breaksBy 69 = .ok (.goto (-44), 3) := by decide +kernel
theorem dX5_breaksBy_72 : decode cX5_breaksBy 72 = .ok (.iconst 0, 1) := by decide +kernel
theorem dX5_breaksBy_73 : decode cX5_breaksBy 73 = .ok (.ireturn, 1) := by decide +kernel
abbrev D_X5_breaksBy : Nat := 3
def f_X5_breaksBy_L25 (K64 : Mm → Option (Int32 × Mm)) (K72 : Mm → Option (Int32 × Mm)) : Nat → Mm → Nat → Nat → Int32 → Option (Int32 × Mm)
  | 0, _, _, _, _ => none
  | n + 1, μ0, a7, a8, x9 =>
    ((gI μ0 a7 5 1).bind fun v10 =>
    (if v10 ≤ x9 then
    K72 μ0
    else
    ((gR μ0 a7 5 2).bind fun v11 =>
    ((aI μ0 v11 0 x9).bind fun v12 =>
    (if v12 = 0 then
    ((gR μ0 a7 5 4).bind fun v13 =>
    ((aI μ0 v13 0 x9).bind fun v14 =>
    ((gR μ0 a7 5 5).bind fun v15 =>
    ((aI μ0 v15 0 x9).bind fun v16 =>
    ((ob μ0 a7 5).bind fun _ =>
    (bd (f_X5_worked μ0 a7 v14 v16 a8) fun v18 μ17 =>
    (if (lg_cmp v18 (0 : Int64)) = 0 then
    (nm (x9 + Int32.ofInt (1)) fun x19 =>
    f_X5_breaksBy_L25 K64 K72 n μ17 a7 a8 x19)
    else
    K64 μ17)))))))
    else
    (nm (x9 + Int32.ofInt (1)) fun x20 =>
    f_X5_breaksBy_L25 K64 K72 n μ0 a7 a8 x20))))))
set_option maxHeartbeats 4000000 in
set_option maxRecDepth 100000 in
theorem f_X5_breaksBy_L25_ok {l : Launch} {G : GG} {K64 : Mm → Option (Int32 × Mm)} {K72 : Mm → Option (Int32 × Mm)} {r : Int32} {μ' : Mm} (n : Nat) (μ0 : Mm) (a7 : Nat) (a8 : Nat) (x9 : Int32) (hf : f_X5_breaksBy_L25 K64 K72 n μ0 a7 a8 x9 = some (r, μ')) (hK64 : ∀ (μ1 : Mm), K64 μ1  = some (r, μ') → Ev l G D_X5_breaksBy yX5_breaksBy cX5_breaksBy 3 (some .boolean) 64 [] [] μ1 (some (.int r)) μ') (hK72 : ∀ (μ1 : Mm), K72 μ1  = some (r, μ') → Ev l G D_X5_breaksBy yX5_breaksBy cX5_breaksBy 3 (some .boolean) 72 [] [] μ1 (some (.int r)) μ') : Ev l G D_X5_breaksBy yX5_breaksBy cX5_breaksBy 3 (some .boolean) 25 [(0, .ref a7), (1, .ref a8), (2, .int x9)] [] μ0 (some (.int r)) μ' := by
  induction n generalizing μ0 a7 a8 x9 with
  | zero => cases hf
  | succ n ih0 =>
    have ih : ∀ (μ0 : Mm) (a7 : Nat) (a8 : Nat) (x9 : Int32), f_X5_breaksBy_L25 K64 K72 n μ0 a7 a8 x9 = some (r, μ') → Ev l G D_X5_breaksBy yX5_breaksBy cX5_breaksBy 3 (some .boolean) 25 [(0, .ref a7), (1, .ref a8), (2, .int x9)] [] μ0 (some (.int r)) μ' := fun μ0 a7 a8 x9 hf => ih0 μ0 a7 a8 x9 hf
    rw [f_X5_breaksBy_L25] at hf
    refine E_iload_n (pc := 25) dX5_breaksBy_25 rfl ?_
    refine E_aload_n (pc := 26) dX5_breaksBy_26 rfl ?_
    refine E_getI (pc := 27) dX5_breaksBy_27 fl_X5_35 hf (fun v10 hf => ?_)
    refine E_icmp_ge (pc := 30) (tgt := 72) dX5_breaksBy_30 (by decide) hf (fun hf => ?_) (fun hf => ?_)
    · refine Ev.sub [] rfl ?_
      exact hK72 _ hf
    · refine E_aload_n (pc := 33) dX5_breaksBy_33 rfl ?_
      refine E_getR (pc := 34) dX5_breaksBy_34 fl_X5_39 hf (fun v11 hf => ?_)
      refine E_iload_n (pc := 37) dX5_breaksBy_37 rfl ?_
      refine E_iald (pc := 38) dX5_breaksBy_38 hf (fun v12 hf => ?_)
      refine E_if_ne (pc := 39) (tgt := 66) dX5_breaksBy_39 (by decide) hf (fun hf => ?_) (fun hf => ?_)
      · refine E_aload_n (pc := 42) dX5_breaksBy_42 rfl ?_
        refine E_aload_n (pc := 43) dX5_breaksBy_43 rfl ?_
        refine E_getR (pc := 44) dX5_breaksBy_44 fl_X5_47 hf (fun v13 hf => ?_)
        refine E_iload_n (pc := 47) dX5_breaksBy_47 rfl ?_
        refine E_iald (pc := 48) dX5_breaksBy_48 hf (fun v14 hf => ?_)
        refine E_aload_n (pc := 49) dX5_breaksBy_49 rfl ?_
        refine E_getR (pc := 50) dX5_breaksBy_50 fl_X5_51 hf (fun v15 hf => ?_)
        refine E_iload_n (pc := 53) dX5_breaksBy_53 rfl ?_
        refine E_iald (pc := 54) dX5_breaksBy_54 hf (fun v16 hf => ?_)
        refine E_aload_n (pc := 55) dX5_breaksBy_55 rfl ?_
        refine E_Vl (pc := 56) (d2 := D_X5_worked) (ci := 5) [.int v14, .int v16, .ref a8] dX5_breaksBy_56 ml_X5_59 mf_X5_worked im_X5_worked rfl rfl rfl (by decide) (Nat.le_of_ble_eq_true rfl) (Nat.le_of_ble_eq_true rfl) rfl (fun _ _ h => f_X5_worked_ok h) hf (fun v18 μ17 hf => ?_)
        refine E_lconst (pc := 59) (v := (0 : Int64)) dX5_breaksBy_59 (by decide) ?_
        refine E_lcmp (pc := 60) dX5_breaksBy_60 ?_
        refine E_if_eq (pc := 61) (tgt := 66) dX5_breaksBy_61 (by decide) hf (fun hf => ?_) (fun hf => ?_)
        · refine E_iinc (pc := 66) (ls' := fun x19 => [(2, .int x19), (0, .ref a7), (1, .ref a8)]) dX5_breaksBy_66 rfl (by decide) (fun _ => rfl) hf (fun x19 hf => ?_)
          refine E_goto (pc := 69) (tgt := 25) dX5_breaksBy_69 (by decide) ?_
          refine Ev.sub [1, 2, 0] rfl ?_
          exact ih _ _ _ _ hf
        · refine Ev.sub [] rfl ?_
          exact hK64 _ hf
      · refine E_iinc (pc := 66) (ls' := fun x20 => [(2, .int x20), (0, .ref a7), (1, .ref a8)]) dX5_breaksBy_66 rfl (by decide) (fun _ => rfl) hf (fun x20 hf => ?_)
        refine E_goto (pc := 69) (tgt := 25) dX5_breaksBy_69 (by decide) ?_
        refine Ev.sub [1, 2, 0] rfl ?_
        exact ih _ _ _ _ hf
set_option maxRecDepth 100000 in
def f_X5_breaksBy (μ0 : Mm) (a1 : Nat) (a2 : Nat) : Option (Int32 × Mm) :=
 ((gI μ0 a1 5 6).bind fun v3 =>
    (if v3 = 0 then
    ((aI μ0 a2 0 (2 : Int32)).bind fun v4 =>
    ((aI μ0 a2 0 (6 : Int32)).bind fun v5 =>
    (if v4 < v5 then
    (if (0 : Int32) = 0 ∨ (0 : Int32) = 1 then some ((0 : Int32), μ0) else none)
    else
    (if (1 : Int32) = 0 ∨ (1 : Int32) = 1 then some ((1 : Int32), μ0) else none))))
    else
    (nm (0 : Int32) fun x6 =>
    f_X5_breaksBy_L25 (fun μ21 =>
    (if (1 : Int32) = 0 ∨ (1 : Int32) = 1 then some ((1 : Int32), μ21) else none)) (fun μ22 =>
    (if (0 : Int32) = 0 ∨ (0 : Int32) = 1 then some ((0 : Int32), μ22) else none)) FU μ0 a1 a2 x6)))
set_option maxHeartbeats 4000000 in
set_option maxRecDepth 100000 in
theorem f_X5_breaksBy_ok {l : Launch} {G : GG} {μ0 : Mm} {a1 : Nat} {a2 : Nat} {r : Int32} {μ' : Mm} (hf : f_X5_breaksBy μ0 a1 a2 = some (r, μ')) : EvM l G D_X5_breaksBy yX5_breaksBy cX5_breaksBy 3 (some .boolean) [.ref a1, .ref a2] μ0 (some (.int r)) μ' := by
  show Ev l G D_X5_breaksBy yX5_breaksBy cX5_breaksBy 3 (some .boolean) 0 [(0, .ref a1), (1, .ref a2)] [] μ0 (some (.int r)) μ'
  unfold f_X5_breaksBy at hf
  refine E_aload_n (pc := 0) dX5_breaksBy_0 rfl ?_
  refine E_getI (pc := 1) dX5_breaksBy_1 fl_X5_52 hf (fun v3 hf => ?_)
  refine E_if_ne (pc := 4) (tgt := 23) dX5_breaksBy_4 (by decide) hf (fun hf => ?_) (fun hf => ?_)
  · refine E_aload_n (pc := 7) dX5_breaksBy_7 rfl ?_
    refine E_iconst (pc := 8) (v := (2 : Int32)) dX5_breaksBy_8 (by decide) ?_
    refine E_iald (pc := 9) dX5_breaksBy_9 hf (fun v4 hf => ?_)
    refine E_aload_n (pc := 10) dX5_breaksBy_10 rfl ?_
    refine E_bipush (pc := 11) (v := (6 : Int32)) dX5_breaksBy_11 (by decide) ?_
    refine E_iald (pc := 13) dX5_breaksBy_13 hf (fun v5 hf => ?_)
    refine E_icmp_lt (pc := 14) (tgt := 21) dX5_breaksBy_14 (by decide) hf (fun hf => ?_) (fun hf => ?_)
    · refine E_iconst (pc := 21) (v := (0 : Int32)) dX5_breaksBy_21 (by decide) ?_
      exact E_zret (pc := 22) dX5_breaksBy_22 rfl hf
    · refine E_iconst (pc := 17) (v := (1 : Int32)) dX5_breaksBy_17 (by decide) ?_
      refine E_goto (pc := 18) (tgt := 22) dX5_breaksBy_18 (by decide) ?_
      exact E_zret (pc := 22) dX5_breaksBy_22 rfl hf
  · refine E_iconst (pc := 23) (v := (0 : Int32)) dX5_breaksBy_23 (by decide) ?_
    refine E_istore_n (pc := 24) (ls' := fun x6 => [(2, .int x6), (0, .ref a1), (1, .ref a2)]) dX5_breaksBy_24 (by decide) (fun _ => rfl) hf (fun x6 hf => ?_)
    refine Ev.sub [1, 2, 0] rfl ?_
    refine f_X5_breaksBy_L25_ok  _ _ _ _ _ hf (fun μ21 hf => ?_) (fun μ22 hf => ?_)
    · refine E_iconst (pc := 64) (v := (1 : Int32)) dX5_breaksBy_64 (by decide) ?_
      exact E_zret (pc := 65) dX5_breaksBy_65 rfl hf
    · refine E_iconst (pc := 72) (v := (0 : Int32)) dX5_breaksBy_72 (by decide) ?_
      exact E_zret (pc := 73) dX5_breaksBy_73 rfl hf
theorem dX5_lossBy_0 : decode cX5_lossBy 0 = .ok (.aload_n 0, 1) := by decide +kernel
theorem dX5_lossBy_1 : decode cX5_lossBy 1 = .ok (.getfield 56, 3) := by decide +kernel
theorem dX5_lossBy_4 : decode cX5_lossBy 4 = .ok (.ifCond .ne 20, 3) := by decide +kernel
theorem dX5_lossBy_7 : decode cX5_lossBy 7 = .ok (.aload_n 1, 1) := by decide +kernel
theorem dX5_lossBy_8 : decode cX5_lossBy 8 = .ok (.bipush 8, 2) := by decide +kernel
theorem dX5_lossBy_10 : decode cX5_lossBy 10 = .ok (.iaload, 1) := by decide +kernel
theorem dX5_lossBy_11 : decode cX5_lossBy 11 = .ok (.iconst 1, 1) := by decide +kernel
theorem dX5_lossBy_12 : decode cX5_lossBy 12 = .ok (.if_icmp .ne 7, 3) := by decide +kernel
theorem dX5_lossBy_15 : decode cX5_lossBy 15 = .ok (.iconst 0, 1) := by decide +kernel
theorem dX5_lossBy_16 : decode cX5_lossBy 16 = .ok (.goto 7, 3) := by decide +kernel
theorem dX5_lossBy_19 : decode cX5_lossBy 19 = .ok (.aload_n 1, 1) := by decide +kernel
theorem dX5_lossBy_20 : decode cX5_lossBy 20 = .ok (.bipush 7, 2) := by decide +kernel
theorem dX5_lossBy_22 : decode cX5_lossBy 22 = .ok (.iaload, 1) := by decide +kernel
theorem dX5_lossBy_23 : decode cX5_lossBy 23 = .ok (.ireturn, 1) := by decide +kernel
theorem dX5_lossBy_24 : decode cX5_lossBy 24 = .ok (.iconst 0, 1) := by decide +kernel
theorem dX5_lossBy_25 : decode cX5_lossBy 25 = .ok (.istore_n 2, 1) := by decide +kernel
theorem dX5_lossBy_26 : decode cX5_lossBy 26 = .ok (.iload_n 2, 1) := by decide +kernel
theorem dX5_lossBy_27 : decode cX5_lossBy 27 = .ok (.aload_n 0, 1) := by decide +kernel
theorem dX5_lossBy_28 : decode cX5_lossBy 28 = .ok (.getfield 35, 3) := by decide +kernel
theorem dX5_lossBy_31 : decode cX5_lossBy 31 = .ok (.if_icmp .ge 99, 3) := by decide +kernel
theorem dX5_lossBy_34 : decode cX5_lossBy 34 = .ok (.aload_n 0, 1) := by decide +kernel
theorem dX5_lossBy_35 : decode cX5_lossBy 35 = .ok (.getfield 47, 3) := by decide +kernel
theorem dX5_lossBy_38 : decode cX5_lossBy 38 = .ok (.iload_n 2, 1) := by decide +kernel
theorem dX5_lossBy_39 : decode cX5_lossBy 39 = .ok (.iaload, 1) := by decide +kernel
theorem dX5_lossBy_40 : decode cX5_lossBy 40 = .ok (.aload_n 0, 1) := by decide +kernel
theorem dX5_lossBy_41 : decode cX5_lossBy 41 = .ok (.getfield 51, 3) := by decide +kernel
theorem dX5_lossBy_44 : decode cX5_lossBy 44 = .ok (.iload_n 2, 1) := by decide +kernel
theorem dX5_lossBy_45 : decode cX5_lossBy 45 = .ok (.iaload, 1) := by decide +kernel
theorem dX5_lossBy_46 : decode cX5_lossBy 46 = .ok (.if_icmp .ne 7, 3) := by decide +kernel
theorem dX5_lossBy_49 : decode cX5_lossBy 49 = .ok (.iconst 1, 1) := by decide +kernel
theorem dX5_lossBy_50 : decode cX5_lossBy 50 = .ok (.goto 4, 3) := by decide +kernel
theorem dX5_lossBy_53 : decode cX5_lossBy 53 = .ok (.iconst 0, 1) := by decide +kernel
theorem dX5_lossBy_54 : decode cX5_lossBy 54 = .ok (.istore_n 3, 1) := by decide +kernel
theorem dX5_lossBy_55 : decode cX5_lossBy 55 = .ok (.aload_n 0, 1) := by decide +kernel
theorem dX5_lossBy_56 : decode cX5_lossBy 56 = .ok (.getfield 39, 3) := by decide +kernel
theorem dX5_lossBy_59 : decode cX5_lossBy 59 = .ok (.iload_n 2, 1) := by decide +kernel
theorem dX5_lossBy_60 : decode cX5_lossBy 60 = .ok (.iaload, 1) := by decide +kernel
theorem dX5_lossBy_61 : decode cX5_lossBy 61 = .ok (.iconst 1, 1) := by decide +kernel
theorem dX5_lossBy_62 : decode cX5_lossBy 62 = .ok (.if_icmp .ne 62, 3) := by decide +kernel
theorem dX5_lossBy_65 : decode cX5_lossBy 65 = .ok (.iload_n 3, 1) := by decide +kernel
theorem dX5_lossBy_66 : decode cX5_lossBy 66 = .ok (.ifCond .ne 25, 3) := by decide +kernel
theorem dX5_lossBy_69 : decode cX5_lossBy 69 = .ok (.aload_n 0, 1) := by decide +kernel
theorem dX5_lossBy_70 : decode cX5_lossBy 70 = .ok (.aload_n 0, 1) := by decide +kernel
theorem dX5_lossBy_71 : decode cX5_lossBy 71 = .ok (.getfield 47, 3) := by decide +kernel
theorem dX5_lossBy_74 : decode cX5_lossBy 74 = .ok (.iload_n 2, 1) := by decide +kernel
theorem dX5_lossBy_75 : decode cX5_lossBy 75 = .ok (.iaload, 1) := by decide +kernel
theorem dX5_lossBy_76 : decode cX5_lossBy 76 = .ok (.aload_n 0, 1) := by decide +kernel
theorem dX5_lossBy_77 : decode cX5_lossBy 77 = .ok (.getfield 51, 3) := by decide +kernel
theorem dX5_lossBy_80 : decode cX5_lossBy 80 = .ok (.iload_n 2, 1) := by decide +kernel
theorem dX5_lossBy_81 : decode cX5_lossBy 81 = .ok (.iaload, 1) := by decide +kernel
theorem dX5_lossBy_82 : decode cX5_lossBy 82 = .ok (.aload_n 1, 1) := by decide +kernel
theorem dX5_lossBy_83 : decode cX5_lossBy 83 = .ok (.invokevirtual 59, 3) := by decide +kernel
theorem dX5_lossBy_86 : decode cX5_lossBy 86 = .ok (.lconst 0, 1) := by decide +kernel
theorem dX5_lossBy_87 : decode cX5_lossBy 87 = .ok (.lcmp, 1) := by decide +kernel
theorem dX5_lossBy_88 : decode cX5_lossBy 88 = .ok (.ifCond .eq 36, 3) := by decide +kernel
theorem dX5_lossBy_91 : decode cX5_lossBy 91 = .ok (.aload_n 0, 1) := by decide +kernel
theorem dX5_lossBy_92 : decode cX5_lossBy 92 = .ok (.aload_n 0, 1) := by decide +kernel
theorem dX5_lossBy_93 : decode cX5_lossBy 93 = .ok (.getfield 43, 3) := by decide +kernel
theorem dX5_lossBy_96 : decode cX5_lossBy 96 = .ok (.iload_n 2, 1) := by decide +kernel
theorem dX5_lossBy_97 : decode cX5_lossBy 97 = .ok (.iaload, 1) := by decide +kernel
theorem dX5_lossBy_98 : decode cX5_lossBy 98 = .ok (.aload_n 0, 1) := by decide +kernel
theorem dX5_lossBy_99 : decode cX5_lossBy 99 = .ok (.getfield 47, 3) := by decide +kernel
theorem dX5_lossBy_102 : decode cX5_lossBy 102 = .ok (.iload_n 2, 1) := by decide +kernel
theorem dX5_lossBy_103 : decode cX5_lossBy 103 = .ok (.iaload, 1) := by decide +kernel
theorem dX5_lossBy_104 : decode cX5_lossBy 104 = .ok (.aload_n 1, 1) := by decide +kernel
theorem dX5_lossBy_105 : decode cX5_lossBy 105 = .ok (.invokevirtual 59, 3) := by decide +kernel
theorem dX5_lossBy_108 : decode cX5_lossBy 108 = .ok (.lstore 4, 2) := by decide +kernel
theorem dX5_lossBy_110 : decode cX5_lossBy 110 = .ok (.lconst 0, 1) := by decide +kernel
theorem dX5_lossBy_111 : decode cX5_lossBy 111 = .ok (.lload 4, 2) := by decide +kernel
theorem dX5_lossBy_113 : decode cX5_lossBy 113 = .ok (.ldc2_w 63, 3) := by decide +kernel
theorem dX5_lossBy_116 : decode cX5_lossBy 116 = .ok (.invokestatic 65, 3) := by decide +kernel
theorem dX5_lossBy_119 : decode cX5_lossBy 119 = .ok (.invokestatic 71, 3) := by decide +kernel
theorem dX5_lossBy_122 : decode cX5_lossBy 122 = .ok (.l2i, 1) := by decide +kernel
theorem dX5_lossBy_123 : decode cX5_lossBy 123 = .ok (.ireturn, 1) := by decide +kernel
theorem dX5_lossBy_124 : decode cX5_lossBy 124 = .ok (.iinc 2 1, 3) := by decide +kernel
theorem dX5_lossBy_127 : decode cX5_lossBy 127 = .ok (.goto (-101), 3) := by decide +kernel
theorem dX5_lossBy_130 : decode cX5_lossBy 130 = .ok (.iconst 0, 1) := by decide +kernel
theorem dX5_lossBy_131 : decode cX5_lossBy 131 = .ok (.ireturn, 1) := by decide +kernel
abbrev D_X5_lossBy : Nat := 3
def f_X5_lossBy_L26 (K91 : Mm → Nat → Nat → Int32 → Option (Int32 × Mm)) (K130 : Mm → Option (Int32 × Mm)) : Nat → Mm → Nat → Nat → Int32 → Option (Int32 × Mm)
  | 0, _, _, _, _ => none
  | n + 1, μ0, a7, a8, x9 =>
    ((gI μ0 a7 5 1).bind fun v10 =>
    (if v10 ≤ x9 then
    K130 μ0
    else
    ((gR μ0 a7 5 4).bind fun v11 =>
    ((aI μ0 v11 0 x9).bind fun v12 =>
    ((gR μ0 a7 5 5).bind fun v13 =>
    ((aI μ0 v13 0 x9).bind fun v14 =>
    (if v12 = v14 then
    (nm (1 : Int32) fun x15 =>
    ((gR μ0 a7 5 2).bind fun v16 =>
    ((aI μ0 v16 0 x9).bind fun v17 =>
    (if v17 = (1 : Int32) then
    (if x15 = 0 then
    ((gR μ0 a7 5 4).bind fun v18 =>
    ((aI μ0 v18 0 x9).bind fun v19 =>
    ((gR μ0 a7 5 5).bind fun v20 =>
    ((aI μ0 v20 0 x9).bind fun v21 =>
    ((ob μ0 a7 5).bind fun _ =>
    (bd (f_X5_worked μ0 a7 v19 v21 a8) fun v23 μ22 =>
    (if (lg_cmp v23 (0 : Int64)) = 0 then
    (nm (x9 + Int32.ofInt (1)) fun x24 =>
    f_X5_lossBy_L26 K91 K130 n μ22 a7 a8 x24)
    else
    K91 μ22 a7 a8 x9)))))))
    else
    K91 μ0 a7 a8 x9)
    else
    (nm (x9 + Int32.ofInt (1)) fun x25 =>
    f_X5_lossBy_L26 K91 K130 n μ0 a7 a8 x25)))))
    else
    (nm (0 : Int32) fun x26 =>
    ((gR μ0 a7 5 2).bind fun v27 =>
    ((aI μ0 v27 0 x9).bind fun v28 =>
    (if v28 = (1 : Int32) then
    (if x26 = 0 then
    ((gR μ0 a7 5 4).bind fun v29 =>
    ((aI μ0 v29 0 x9).bind fun v30 =>
    ((gR μ0 a7 5 5).bind fun v31 =>
    ((aI μ0 v31 0 x9).bind fun v32 =>
    ((ob μ0 a7 5).bind fun _ =>
    (bd (f_X5_worked μ0 a7 v30 v32 a8) fun v34 μ33 =>
    (if (lg_cmp v34 (0 : Int64)) = 0 then
    (nm (x9 + Int32.ofInt (1)) fun x35 =>
    f_X5_lossBy_L26 K91 K130 n μ33 a7 a8 x35)
    else
    K91 μ33 a7 a8 x9)))))))
    else
    K91 μ0 a7 a8 x9)
    else
    (nm (x9 + Int32.ofInt (1)) fun x36 =>
    f_X5_lossBy_L26 K91 K130 n μ0 a7 a8 x36))))))))))))
set_option maxHeartbeats 4000000 in
set_option maxRecDepth 100000 in
theorem f_X5_lossBy_L26_ok {l : Launch} {G : GG} {K91 : Mm → Nat → Nat → Int32 → Option (Int32 × Mm)} {K130 : Mm → Option (Int32 × Mm)} {r : Int32} {μ' : Mm} (n : Nat) (μ0 : Mm) (a7 : Nat) (a8 : Nat) (x9 : Int32) (hf : f_X5_lossBy_L26 K91 K130 n μ0 a7 a8 x9 = some (r, μ')) (hK91 : ∀ (μ1 : Mm) (y0 : Nat) (y1 : Nat) (y2 : Int32), K91 μ1 y0 y1 y2 = some (r, μ') → Ev l G D_X5_lossBy yX5_lossBy cX5_lossBy 6 (some .int) 91 [(0, .ref y0), (1, .ref y1), (2, .int y2)] [] μ1 (some (.int r)) μ') (hK130 : ∀ (μ1 : Mm), K130 μ1  = some (r, μ') → Ev l G D_X5_lossBy yX5_lossBy cX5_lossBy 6 (some .int) 130 [] [] μ1 (some (.int r)) μ') : Ev l G D_X5_lossBy yX5_lossBy cX5_lossBy 6 (some .int) 26 [(0, .ref a7), (1, .ref a8), (2, .int x9)] [] μ0 (some (.int r)) μ' := by
  induction n generalizing μ0 a7 a8 x9 with
  | zero => cases hf
  | succ n ih0 =>
    have ih : ∀ (μ0 : Mm) (a7 : Nat) (a8 : Nat) (x9 : Int32), f_X5_lossBy_L26 K91 K130 n μ0 a7 a8 x9 = some (r, μ') → Ev l G D_X5_lossBy yX5_lossBy cX5_lossBy 6 (some .int) 26 [(0, .ref a7), (1, .ref a8), (2, .int x9)] [] μ0 (some (.int r)) μ' := fun μ0 a7 a8 x9 hf => ih0 μ0 a7 a8 x9 hf
    rw [f_X5_lossBy_L26] at hf
    refine E_iload_n (pc := 26) dX5_lossBy_26 rfl ?_
    refine E_aload_n (pc := 27) dX5_lossBy_27 rfl ?_
    refine E_getI (pc := 28) dX5_lossBy_28 fl_X5_35 hf (fun v10 hf => ?_)
    refine E_icmp_ge (pc := 31) (tgt := 130) dX5_lossBy_31 (by decide) hf (fun hf => ?_) (fun hf => ?_)
    · refine Ev.sub [] rfl ?_
      exact hK130 _ hf
    · refine E_aload_n (pc := 34) dX5_lossBy_34 rfl ?_
      refine E_getR (pc := 35) dX5_lossBy_35 fl_X5_47 hf (fun v11 hf => ?_)
      refine E_iload_n (pc := 38) dX5_lossBy_38 rfl ?_
      refine E_iald (pc := 39) dX5_lossBy_39 hf (fun v12 hf => ?_)
      refine E_aload_n (pc := 40) dX5_lossBy_40 rfl ?_
      refine E_getR (pc := 41) dX5_lossBy_41 fl_X5_51 hf (fun v13 hf => ?_)
      refine E_iload_n (pc := 44) dX5_lossBy_44 rfl ?_
      refine E_iald (pc := 45) dX5_lossBy_45 hf (fun v14 hf => ?_)
      refine E_icmp_ne (pc := 46) (tgt := 53) dX5_lossBy_46 (by decide) hf (fun hf => ?_) (fun hf => ?_)
      · refine E_iconst (pc := 49) (v := (1 : Int32)) dX5_lossBy_49 (by decide) ?_
        refine E_goto (pc := 50) (tgt := 54) dX5_lossBy_50 (by decide) ?_
        refine E_istore_n (pc := 54) (ls' := fun x15 => [(3, .int x15), (0, .ref a7), (1, .ref a8), (2, .int x9)]) dX5_lossBy_54 (by decide) (fun _ => rfl) hf (fun x15 hf => ?_)
        refine E_aload_n (pc := 55) dX5_lossBy_55 rfl ?_
        refine E_getR (pc := 56) dX5_lossBy_56 fl_X5_39 hf (fun v16 hf => ?_)
        refine E_iload_n (pc := 59) dX5_lossBy_59 rfl ?_
        refine E_iald (pc := 60) dX5_lossBy_60 hf (fun v17 hf => ?_)
        refine E_iconst (pc := 61) (v := (1 : Int32)) dX5_lossBy_61 (by decide) ?_
        refine E_icmp_ne (pc := 62) (tgt := 124) dX5_lossBy_62 (by decide) hf (fun hf => ?_) (fun hf => ?_)
        · refine E_iload_n (pc := 65) dX5_lossBy_65 rfl ?_
          refine E_if_ne (pc := 66) (tgt := 91) dX5_lossBy_66 (by decide) hf (fun hf => ?_) (fun hf => ?_)
          · refine E_aload_n (pc := 69) dX5_lossBy_69 rfl ?_
            refine E_aload_n (pc := 70) dX5_lossBy_70 rfl ?_
            refine E_getR (pc := 71) dX5_lossBy_71 fl_X5_47 hf (fun v18 hf => ?_)
            refine E_iload_n (pc := 74) dX5_lossBy_74 rfl ?_
            refine E_iald (pc := 75) dX5_lossBy_75 hf (fun v19 hf => ?_)
            refine E_aload_n (pc := 76) dX5_lossBy_76 rfl ?_
            refine E_getR (pc := 77) dX5_lossBy_77 fl_X5_51 hf (fun v20 hf => ?_)
            refine E_iload_n (pc := 80) dX5_lossBy_80 rfl ?_
            refine E_iald (pc := 81) dX5_lossBy_81 hf (fun v21 hf => ?_)
            refine E_aload_n (pc := 82) dX5_lossBy_82 rfl ?_
            refine E_Vl (pc := 83) (d2 := D_X5_worked) (ci := 5) [.int v19, .int v21, .ref a8] dX5_lossBy_83 ml_X5_59 mf_X5_worked im_X5_worked rfl rfl rfl (by decide) (Nat.le_of_ble_eq_true rfl) (Nat.le_of_ble_eq_true rfl) rfl (fun _ _ h => f_X5_worked_ok h) hf (fun v23 μ22 hf => ?_)
            refine E_lconst (pc := 86) (v := (0 : Int64)) dX5_lossBy_86 (by decide) ?_
            refine E_lcmp (pc := 87) dX5_lossBy_87 ?_
            refine E_if_eq (pc := 88) (tgt := 124) dX5_lossBy_88 (by decide) hf (fun hf => ?_) (fun hf => ?_)
            · refine E_iinc (pc := 124) (ls' := fun x24 => [(2, .int x24), (3, .int x15), (0, .ref a7), (1, .ref a8)]) dX5_lossBy_124 rfl (by decide) (fun _ => rfl) hf (fun x24 hf => ?_)
              refine E_goto (pc := 127) (tgt := 26) dX5_lossBy_127 (by decide) ?_
              refine Ev.sub [2, 3, 0] rfl ?_
              exact ih _ _ _ _ hf
            · refine Ev.sub [1, 2, 3] rfl ?_
              exact hK91 _ _ _ _ hf
          · refine Ev.sub [1, 2, 3] rfl ?_
            exact hK91 _ _ _ _ hf
        · refine E_iinc (pc := 124) (ls' := fun x25 => [(2, .int x25), (3, .int x15), (0, .ref a7), (1, .ref a8)]) dX5_lossBy_124 rfl (by decide) (fun _ => rfl) hf (fun x25 hf => ?_)
          refine E_goto (pc := 127) (tgt := 26) dX5_lossBy_127 (by decide) ?_
          refine Ev.sub [2, 3, 0] rfl ?_
          exact ih _ _ _ _ hf
      · refine E_iconst (pc := 53) (v := (0 : Int32)) dX5_lossBy_53 (by decide) ?_
        refine E_istore_n (pc := 54) (ls' := fun x26 => [(3, .int x26), (0, .ref a7), (1, .ref a8), (2, .int x9)]) dX5_lossBy_54 (by decide) (fun _ => rfl) hf (fun x26 hf => ?_)
        refine E_aload_n (pc := 55) dX5_lossBy_55 rfl ?_
        refine E_getR (pc := 56) dX5_lossBy_56 fl_X5_39 hf (fun v27 hf => ?_)
        refine E_iload_n (pc := 59) dX5_lossBy_59 rfl ?_
        refine E_iald (pc := 60) dX5_lossBy_60 hf (fun v28 hf => ?_)
        refine E_iconst (pc := 61) (v := (1 : Int32)) dX5_lossBy_61 (by decide) ?_
        refine E_icmp_ne (pc := 62) (tgt := 124) dX5_lossBy_62 (by decide) hf (fun hf => ?_) (fun hf => ?_)
        · refine E_iload_n (pc := 65) dX5_lossBy_65 rfl ?_
          refine E_if_ne (pc := 66) (tgt := 91) dX5_lossBy_66 (by decide) hf (fun hf => ?_) (fun hf => ?_)
          · refine E_aload_n (pc := 69) dX5_lossBy_69 rfl ?_
            refine E_aload_n (pc := 70) dX5_lossBy_70 rfl ?_
            refine E_getR (pc := 71) dX5_lossBy_71 fl_X5_47 hf (fun v29 hf => ?_)
            refine E_iload_n (pc := 74) dX5_lossBy_74 rfl ?_
            refine E_iald (pc := 75) dX5_lossBy_75 hf (fun v30 hf => ?_)
            refine E_aload_n (pc := 76) dX5_lossBy_76 rfl ?_
            refine E_getR (pc := 77) dX5_lossBy_77 fl_X5_51 hf (fun v31 hf => ?_)
            refine E_iload_n (pc := 80) dX5_lossBy_80 rfl ?_
            refine E_iald (pc := 81) dX5_lossBy_81 hf (fun v32 hf => ?_)
            refine E_aload_n (pc := 82) dX5_lossBy_82 rfl ?_
            refine E_Vl (pc := 83) (d2 := D_X5_worked) (ci := 5) [.int v30, .int v32, .ref a8] dX5_lossBy_83 ml_X5_59 mf_X5_worked im_X5_worked rfl rfl rfl (by decide) (Nat.le_of_ble_eq_true rfl) (Nat.le_of_ble_eq_true rfl) rfl (fun _ _ h => f_X5_worked_ok h) hf (fun v34 μ33 hf => ?_)
            refine E_lconst (pc := 86) (v := (0 : Int64)) dX5_lossBy_86 (by decide) ?_
            refine E_lcmp (pc := 87) dX5_lossBy_87 ?_
            refine E_if_eq (pc := 88) (tgt := 124) dX5_lossBy_88 (by decide) hf (fun hf => ?_) (fun hf => ?_)
            · refine E_iinc (pc := 124) (ls' := fun x35 => [(2, .int x35), (3, .int x26), (0, .ref a7), (1, .ref a8)]) dX5_lossBy_124 rfl (by decide) (fun _ => rfl) hf (fun x35 hf => ?_)
              refine E_goto (pc := 127) (tgt := 26) dX5_lossBy_127 (by decide) ?_
              refine Ev.sub [2, 3, 0] rfl ?_
              exact ih _ _ _ _ hf
            · refine Ev.sub [1, 2, 3] rfl ?_
              exact hK91 _ _ _ _ hf
          · refine Ev.sub [1, 2, 3] rfl ?_
            exact hK91 _ _ _ _ hf
        · refine E_iinc (pc := 124) (ls' := fun x36 => [(2, .int x36), (3, .int x26), (0, .ref a7), (1, .ref a8)]) dX5_lossBy_124 rfl (by decide) (fun _ => rfl) hf (fun x36 hf => ?_)
          refine E_goto (pc := 127) (tgt := 26) dX5_lossBy_127 (by decide) ?_
          refine Ev.sub [2, 3, 0] rfl ?_
          exact ih _ _ _ _ hf
set_option maxRecDepth 100000 in
def f_X5_lossBy (μ0 : Mm) (a1 : Nat) (a2 : Nat) : Option (Int32 × Mm) :=
 ((gI μ0 a1 5 7).bind fun v3 =>
    (if v3 = 0 then
    ((aI μ0 a2 0 (8 : Int32)).bind fun v4 =>
    (if v4 = (1 : Int32) then
    (some ((0 : Int32), μ0))
    else
    ((aI μ0 a2 0 (7 : Int32)).bind fun v5 =>
    (some (v5, μ0)))))
    else
    (nm (0 : Int32) fun x6 =>
    f_X5_lossBy_L26 (fun μ37 a38 a39 x40 =>
    ((gR μ37 a38 5 3).bind fun v41 =>
    ((aI μ37 v41 0 x40).bind fun v42 =>
    ((gR μ37 a38 5 4).bind fun v43 =>
    ((aI μ37 v43 0 x40).bind fun v44 =>
    ((ob μ37 a38 5).bind fun _ =>
    (bd (f_X5_worked μ37 a38 v42 v44 a39) fun v46 μ45 =>
    (nm v46 fun w47 =>
    (some (((if (if (100 : Int64) < w47 then (100 : Int64) else w47) < (0 : Int64) then (0 : Int64) else (if (100 : Int64) < w47 then (100 : Int64) else w47))).toInt32, μ45)))))))))) (fun μ48 =>
    (some ((0 : Int32), μ48))) FU μ0 a1 a2 x6)))
set_option maxHeartbeats 4000000 in
set_option maxRecDepth 100000 in
theorem f_X5_lossBy_ok {l : Launch} {G : GG} {μ0 : Mm} {a1 : Nat} {a2 : Nat} {r : Int32} {μ' : Mm} (hf : f_X5_lossBy μ0 a1 a2 = some (r, μ')) : EvM l G D_X5_lossBy yX5_lossBy cX5_lossBy 6 (some .int) [.ref a1, .ref a2] μ0 (some (.int r)) μ' := by
  show Ev l G D_X5_lossBy yX5_lossBy cX5_lossBy 6 (some .int) 0 [(0, .ref a1), (1, .ref a2)] [] μ0 (some (.int r)) μ'
  unfold f_X5_lossBy at hf
  refine E_aload_n (pc := 0) dX5_lossBy_0 rfl ?_
  refine E_getI (pc := 1) dX5_lossBy_1 fl_X5_56 hf (fun v3 hf => ?_)
  refine E_if_ne (pc := 4) (tgt := 24) dX5_lossBy_4 (by decide) hf (fun hf => ?_) (fun hf => ?_)
  · refine E_aload_n (pc := 7) dX5_lossBy_7 rfl ?_
    refine E_bipush (pc := 8) (v := (8 : Int32)) dX5_lossBy_8 (by decide) ?_
    refine E_iald (pc := 10) dX5_lossBy_10 hf (fun v4 hf => ?_)
    refine E_iconst (pc := 11) (v := (1 : Int32)) dX5_lossBy_11 (by decide) ?_
    refine E_icmp_ne (pc := 12) (tgt := 19) dX5_lossBy_12 (by decide) hf (fun hf => ?_) (fun hf => ?_)
    · refine E_iconst (pc := 15) (v := (0 : Int32)) dX5_lossBy_15 (by decide) ?_
      refine E_goto (pc := 16) (tgt := 23) dX5_lossBy_16 (by decide) ?_
      exact E_iret (pc := 23) dX5_lossBy_23 rfl hf
    · refine E_aload_n (pc := 19) dX5_lossBy_19 rfl ?_
      refine E_bipush (pc := 20) (v := (7 : Int32)) dX5_lossBy_20 (by decide) ?_
      refine E_iald (pc := 22) dX5_lossBy_22 hf (fun v5 hf => ?_)
      exact E_iret (pc := 23) dX5_lossBy_23 rfl hf
  · refine E_iconst (pc := 24) (v := (0 : Int32)) dX5_lossBy_24 (by decide) ?_
    refine E_istore_n (pc := 25) (ls' := fun x6 => [(2, .int x6), (0, .ref a1), (1, .ref a2)]) dX5_lossBy_25 (by decide) (fun _ => rfl) hf (fun x6 hf => ?_)
    refine Ev.sub [1, 2, 0] rfl ?_
    refine f_X5_lossBy_L26_ok  _ _ _ _ _ hf (fun μ37 a38 a39 x40 hf => ?_) (fun μ48 hf => ?_)
    · refine E_aload_n (pc := 91) dX5_lossBy_91 rfl ?_
      refine E_aload_n (pc := 92) dX5_lossBy_92 rfl ?_
      refine E_getR (pc := 93) dX5_lossBy_93 fl_X5_43 hf (fun v41 hf => ?_)
      refine E_iload_n (pc := 96) dX5_lossBy_96 rfl ?_
      refine E_iald (pc := 97) dX5_lossBy_97 hf (fun v42 hf => ?_)
      refine E_aload_n (pc := 98) dX5_lossBy_98 rfl ?_
      refine E_getR (pc := 99) dX5_lossBy_99 fl_X5_47 hf (fun v43 hf => ?_)
      refine E_iload_n (pc := 102) dX5_lossBy_102 rfl ?_
      refine E_iald (pc := 103) dX5_lossBy_103 hf (fun v44 hf => ?_)
      refine E_aload_n (pc := 104) dX5_lossBy_104 rfl ?_
      refine E_Vl (pc := 105) (d2 := D_X5_worked) (ci := 5) [.int v42, .int v44, .ref a39] dX5_lossBy_105 ml_X5_59 mf_X5_worked im_X5_worked rfl rfl rfl (by decide) (Nat.le_of_ble_eq_true rfl) (Nat.le_of_ble_eq_true rfl) rfl (fun _ _ h => f_X5_worked_ok h) hf (fun v46 μ45 hf => ?_)
      refine E_lstore (pc := 108) (ls' := fun w47 => [(4, .long w47), (0, .ref a38), (1, .ref a39), (2, .int x40)]) dX5_lossBy_108 (by decide) (fun _ => rfl) hf (fun w47 hf => ?_)
      refine E_lconst (pc := 110) (v := (0 : Int64)) dX5_lossBy_110 (by decide) ?_
      refine E_lload (pc := 111) dX5_lossBy_111 rfl ?_
      refine E_ldc2 (pc := 113) (v := (100 : Int64)) dX5_lossBy_113 co_X5_63 ?_
      refine E_minl (pc := 116) dX5_lossBy_116 ml_X5_65 (by decide) (Nat.le_of_ble_eq_true rfl) ?_
      refine E_maxl (pc := 119) dX5_lossBy_119 ml_X5_71 (by decide) (Nat.le_of_ble_eq_true rfl) ?_
      refine E_l2i (pc := 122) dX5_lossBy_122 ?_
      exact E_iret (pc := 123) dX5_lossBy_123 rfl hf
    · refine E_iconst (pc := 130) (v := (0 : Int32)) dX5_lossBy_130 (by decide) ?_
      exact E_iret (pc := 131) dX5_lossBy_131 rfl hf
theorem dX5_init_0 : decode cX5_init 0 = .ok (.aload_n 0, 1) := by decide +kernel
theorem dX5_init_1 : decode cX5_init 1 = .ok (.invokespecial 5, 3) := by decide +kernel
theorem dX5_init_4 : decode cX5_init 4 = .ok (.aload_n 0, 1) := by decide +kernel
theorem dX5_init_5 : decode cX5_init 5 = .ok (.bipush 32, 2) := by decide +kernel
theorem dX5_init_7 : decode cX5_init 7 = .ok (.newarray .long, 2) := by decide +kernel
theorem dX5_init_9 : decode cX5_init 9 = .ok (.putfield 11, 3) := by decide +kernel
theorem dX5_init_12 : decode cX5_init 12 = .ok (.aload_n 0, 1) := by decide +kernel
theorem dX5_init_13 : decode cX5_init 13 = .ok (.aload_n 1, 1) := by decide +kernel
theorem dX5_init_14 : decode cX5_init 14 = .ok (.getfield 15, 3) := by decide +kernel
theorem dX5_init_17 : decode cX5_init 17 = .ok (.aload_n 1, 1) := by decide +kernel
theorem dX5_init_18 : decode cX5_init 18 = .ok (.getfield 21, 3) := by decide +kernel
theorem dX5_init_21 : decode cX5_init 21 = .ok (.invokestatic 25, 3) := by decide +kernel
theorem dX5_init_24 : decode cX5_init 24 = .ok (.putfield 31, 3) := by decide +kernel
theorem dX5_init_27 : decode cX5_init 27 = .ok (.aload_n 0, 1) := by decide +kernel
theorem dX5_init_28 : decode cX5_init 28 = .ok (.aload_n 1, 1) := by decide +kernel
theorem dX5_init_29 : decode cX5_init 29 = .ok (.getfield 32, 3) := by decide +kernel
theorem dX5_init_32 : decode cX5_init 32 = .ok (.putfield 35, 3) := by decide +kernel
theorem dX5_init_35 : decode cX5_init 35 = .ok (.aload_n 0, 1) := by decide +kernel
theorem dX5_init_36 : decode cX5_init 36 = .ok (.aload_n 1, 1) := by decide +kernel
theorem dX5_init_37 : decode cX5_init 37 = .ok (.getfield 36, 3) := by decide +kernel
theorem dX5_init_40 : decode cX5_init 40 = .ok (.aload_n 0, 1) := by decide +kernel
theorem dX5_init_41 : decode cX5_init 41 = .ok (.getfield 35, 3) := by decide +kernel
theorem dX5_init_44 : decode cX5_init 44 = .ok (.invokestatic 25, 3) := by decide +kernel
theorem dX5_init_47 : decode cX5_init 47 = .ok (.putfield 39, 3) := by decide +kernel
theorem dX5_init_50 : decode cX5_init 50 = .ok (.aload_n 0, 1) := by decide +kernel
theorem dX5_init_51 : decode cX5_init 51 = .ok (.aload_n 1, 1) := by decide +kernel
theorem dX5_init_52 : decode cX5_init 52 = .ok (.getfield 40, 3) := by decide +kernel
theorem dX5_init_55 : decode cX5_init 55 = .ok (.aload_n 0, 1) := by decide +kernel
theorem dX5_init_56 : decode cX5_init 56 = .ok (.getfield 35, 3) := by decide +kernel
theorem dX5_init_59 : decode cX5_init 59 = .ok (.invokestatic 25, 3) := by decide +kernel
theorem dX5_init_62 : decode cX5_init 62 = .ok (.putfield 43, 3) := by decide +kernel
theorem dX5_init_65 : decode cX5_init 65 = .ok (.aload_n 0, 1) := by decide +kernel
theorem dX5_init_66 : decode cX5_init 66 = .ok (.aload_n 1, 1) := by decide +kernel
theorem dX5_init_67 : decode cX5_init 67 = .ok (.getfield 44, 3) := by decide +kernel
theorem dX5_init_70 : decode cX5_init 70 = .ok (.aload_n 0, 1) := by decide +kernel
theorem dX5_init_71 : decode cX5_init 71 = .ok (.getfield 35, 3) := by decide +kernel
theorem dX5_init_74 : decode cX5_init 74 = .ok (.invokestatic 25, 3) := by decide +kernel
theorem dX5_init_77 : decode cX5_init 77 = .ok (.putfield 47, 3) := by decide +kernel
theorem dX5_init_80 : decode cX5_init 80 = .ok (.aload_n 0, 1) := by decide +kernel
theorem dX5_init_81 : decode cX5_init 81 = .ok (.aload_n 1, 1) := by decide +kernel
theorem dX5_init_82 : decode cX5_init 82 = .ok (.getfield 48, 3) := by decide +kernel
theorem dX5_init_85 : decode cX5_init 85 = .ok (.aload_n 0, 1) := by decide +kernel
theorem dX5_init_86 : decode cX5_init 86 = .ok (.getfield 35, 3) := by decide +kernel
theorem dX5_init_89 : decode cX5_init 89 = .ok (.invokestatic 25, 3) := by decide +kernel
theorem dX5_init_92 : decode cX5_init 92 = .ok (.putfield 51, 3) := by decide +kernel
theorem dX5_init_95 : decode cX5_init 95 = .ok (.iconst 0, 1) := by decide +kernel
theorem dX5_init_96 : decode cX5_init 96 = .ok (.istore_n 2, 1) := by decide +kernel
theorem dX5_init_97 : decode cX5_init 97 = .ok (.iconst 0, 1) := by decide +kernel
theorem dX5_init_98 : decode cX5_init 98 = .ok (.istore_n 3, 1) := by decide +kernel
theorem dX5_init_99 : decode cX5_init 99 = .ok (.iconst 0, 1) := by decide +kernel
theorem dX5_init_100 : decode cX5_init 100 = .ok (.istore 4, 2) := by decide +kernel
theorem dX5_init_102 : decode cX5_init 102 = .ok (.iload 4, 2) := by decide +kernel
theorem dX5_init_104 : decode cX5_init 104 = .ok (.aload_n 0, 1) := by decide +kernel
theorem dX5_init_105 : decode cX5_init 105 = .ok (.getfield 35, 3) := by decide +kernel
theorem dX5_init_108 : decode cX5_init 108 = .ok (.if_icmp .ge 46, 3) := by decide +kernel
theorem dX5_init_111 : decode cX5_init 111 = .ok (.iload_n 2, 1) := by decide +kernel
theorem dX5_init_112 : decode cX5_init 112 = .ok (.aload_n 0, 1) := by decide +kernel
theorem dX5_init_113 : decode cX5_init 113 = .ok (.getfield 39, 3) := by decide +kernel
theorem dX5_init_116 : decode cX5_init 116 = .ok (.iload 4, 2) := by decide +kernel
theorem dX5_init_118 : decode cX5_init 118 = .ok (.iaload, 1) := by decide +kernel
theorem dX5_init_119 : decode cX5_init 119 = .ok (.ifCond .ne 7, 3) := by decide +kernel
theorem dX5_init_122 : decode cX5_init 122 = .ok (.iconst 1, 1) := by decide +kernel
theorem dX5_init_123 : decode cX5_init 123 = .ok (.goto 4, 3) := by decide +kernel
theorem dX5_init_126 : decode cX5_init 126 = .ok (.iconst 0, 1) := by decide +kernel
theorem dX5_init_127 : decode cX5_init 127 = .ok (.ior, 1) := by decide +kernel
theorem dX5_init_128 : decode cX5_init 128 = .ok (.istore_n 2, 1) := by decide +kernel
theorem dX5_init_129 : decode cX5_init 129 = .ok (.iload_n 3, 1) := by decide +kernel
theorem dX5_init_130 : decode cX5_init 130 = .ok (.aload_n 0, 1) := by decide +kernel
theorem dX5_init_131 : decode cX5_init 131 = .ok (.getfield 39, 3) := by decide +kernel
theorem dX5_init_134 : decode cX5_init 134 = .ok (.iload 4, 2) := by decide +kernel
theorem dX5_init_136 : decode cX5_init 136 = .ok (.iaload, 1) := by decide +kernel
theorem dX5_init_137 : decode cX5_init 137 = .ok (.iconst 1, 1) := by decide +kernel
theorem dX5_init_138 : decode cX5_init 138 = .ok (.if_icmp .ne 7, 3) := by decide +kernel
theorem dX5_init_141 : decode cX5_init 141 = .ok (.iconst 1, 1) := by decide +kernel
theorem dX5_init_142 : decode cX5_init 142 = .ok (.goto 4, 3) := by decide +kernel
theorem dX5_init_145 : decode cX5_init 145 = .ok (.iconst 0, 1) := by decide +kernel
theorem dX5_init_146 : decode cX5_init 146 = .ok (.ior, 1) := by decide +kernel
theorem dX5_init_147 : decode cX5_init 147 = .ok (.istore_n 3, 1) := by decide +kernel
theorem dX5_init_148 : decode cX5_init 148 = .ok (.iinc 4 1, 3) := by decide +kernel
theorem dX5_init_151 : decode cX5_init 151 = .ok (.goto (-49), 3) := by decide +kernel
theorem dX5_init_154 : decode cX5_init 154 = .ok (.aload_n 0, 1) := by decide +kernel
theorem dX5_init_155 : decode cX5_init 155 = .ok (.iload_n 2, 1) := by decide +kernel
theorem dX5_init_156 : decode cX5_init 156 = .ok (.putfield 52, 3) := by decide +kernel
theorem dX5_init_159 : decode cX5_init 159 = .ok (.aload_n 0, 1) := by decide +kernel
theorem dX5_init_160 : decode cX5_init 160 = .ok (.iload_n 3, 1) := by decide +kernel
theorem dX5_init_161 : decode cX5_init 161 = .ok (.putfield 56, 3) := by decide +kernel
theorem dX5_init_164 : decode cX5_init 164 = .ok (.return_, 1) := by decide +kernel
abbrev D_X5_init : Nat := 2
def f_X5_init_L102 (K154 : Mm → Nat → Int32 → Int32 → Option Mm) : Nat → Mm → Nat → Int32 → Int32 → Int32 → Option Mm
  | 0, _, _, _, _, _ => none
  | n + 1, μ0, a36, x37, x38, x39 =>
    ((gI μ0 a36 5 1).bind fun v40 =>
    (if v40 ≤ x39 then
    K154 μ0 a36 x37 x38
    else
    ((gR μ0 a36 5 2).bind fun v41 =>
    ((aI μ0 v41 0 x39).bind fun v42 =>
    (if v42 = 0 then
    (nm (x37 ||| (1 : Int32)) fun x43 =>
    ((gR μ0 a36 5 2).bind fun v44 =>
    ((aI μ0 v44 0 x39).bind fun v45 =>
    (if v45 = (1 : Int32) then
    (nm (x38 ||| (1 : Int32)) fun x46 =>
    (nm (x39 + Int32.ofInt (1)) fun x47 =>
    f_X5_init_L102 K154 n μ0 a36 x43 x46 x47))
    else
    (nm (x38 ||| (0 : Int32)) fun x48 =>
    (nm (x39 + Int32.ofInt (1)) fun x49 =>
    f_X5_init_L102 K154 n μ0 a36 x43 x48 x49))))))
    else
    (nm (x37 ||| (0 : Int32)) fun x50 =>
    ((gR μ0 a36 5 2).bind fun v51 =>
    ((aI μ0 v51 0 x39).bind fun v52 =>
    (if v52 = (1 : Int32) then
    (nm (x38 ||| (1 : Int32)) fun x53 =>
    (nm (x39 + Int32.ofInt (1)) fun x54 =>
    f_X5_init_L102 K154 n μ0 a36 x50 x53 x54))
    else
    (nm (x38 ||| (0 : Int32)) fun x55 =>
    (nm (x39 + Int32.ofInt (1)) fun x56 =>
    f_X5_init_L102 K154 n μ0 a36 x50 x55 x56)))))))))))
set_option maxHeartbeats 4000000 in
set_option maxRecDepth 100000 in
theorem f_X5_init_L102_ok {l : Launch} {G : GG} {K154 : Mm → Nat → Int32 → Int32 → Option Mm} {μ' : Mm} (n : Nat) (μ0 : Mm) (a36 : Nat) (x37 : Int32) (x38 : Int32) (x39 : Int32) (hf : f_X5_init_L102 K154 n μ0 a36 x37 x38 x39 = some μ') (hK154 : ∀ (μ1 : Mm) (y0 : Nat) (y2 : Int32) (y3 : Int32), K154 μ1 y0 y2 y3 = some μ' → Ev l G D_X5_init yX5_init cX5_init 5 none 154 [(0, .ref y0), (2, .int y2), (3, .int y3)] [] μ1 none μ') : Ev l G D_X5_init yX5_init cX5_init 5 none 102 [(0, .ref a36), (2, .int x37), (3, .int x38), (4, .int x39)] [] μ0 none μ' := by
  induction n generalizing μ0 a36 x37 x38 x39 with
  | zero => cases hf
  | succ n ih0 =>
    have ih : ∀ (μ0 : Mm) (a36 : Nat) (x37 : Int32) (x38 : Int32) (x39 : Int32), f_X5_init_L102 K154 n μ0 a36 x37 x38 x39 = some μ' → Ev l G D_X5_init yX5_init cX5_init 5 none 102 [(0, .ref a36), (2, .int x37), (3, .int x38), (4, .int x39)] [] μ0 none μ' := fun μ0 a36 x37 x38 x39 hf => ih0 μ0 a36 x37 x38 x39 hf
    rw [f_X5_init_L102] at hf
    refine E_iload (pc := 102) dX5_init_102 rfl ?_
    refine E_aload_n (pc := 104) dX5_init_104 rfl ?_
    refine E_getI (pc := 105) dX5_init_105 fl_X5_35 hf (fun v40 hf => ?_)
    refine E_icmp_ge (pc := 108) (tgt := 154) dX5_init_108 (by decide) hf (fun hf => ?_) (fun hf => ?_)
    · refine Ev.sub [0, 1, 2] rfl ?_
      exact hK154 _ _ _ _ hf
    · refine E_iload_n (pc := 111) dX5_init_111 rfl ?_
      refine E_aload_n (pc := 112) dX5_init_112 rfl ?_
      refine E_getR (pc := 113) dX5_init_113 fl_X5_39 hf (fun v41 hf => ?_)
      refine E_iload (pc := 116) dX5_init_116 rfl ?_
      refine E_iald (pc := 118) dX5_init_118 hf (fun v42 hf => ?_)
      refine E_if_ne (pc := 119) (tgt := 126) dX5_init_119 (by decide) hf (fun hf => ?_) (fun hf => ?_)
      · refine E_iconst (pc := 122) (v := (1 : Int32)) dX5_init_122 (by decide) ?_
        refine E_goto (pc := 123) (tgt := 127) dX5_init_123 (by decide) ?_
        refine E_ior (pc := 127) dX5_init_127 ?_
        refine E_istore_n (pc := 128) (ls' := fun x43 => [(2, .int x43), (0, .ref a36), (3, .int x38), (4, .int x39)]) dX5_init_128 (by decide) (fun _ => rfl) hf (fun x43 hf => ?_)
        refine E_iload_n (pc := 129) dX5_init_129 rfl ?_
        refine E_aload_n (pc := 130) dX5_init_130 rfl ?_
        refine E_getR (pc := 131) dX5_init_131 fl_X5_39 hf (fun v44 hf => ?_)
        refine E_iload (pc := 134) dX5_init_134 rfl ?_
        refine E_iald (pc := 136) dX5_init_136 hf (fun v45 hf => ?_)
        refine E_iconst (pc := 137) (v := (1 : Int32)) dX5_init_137 (by decide) ?_
        refine E_icmp_ne (pc := 138) (tgt := 145) dX5_init_138 (by decide) hf (fun hf => ?_) (fun hf => ?_)
        · refine E_iconst (pc := 141) (v := (1 : Int32)) dX5_init_141 (by decide) ?_
          refine E_goto (pc := 142) (tgt := 146) dX5_init_142 (by decide) ?_
          refine E_ior (pc := 146) dX5_init_146 ?_
          refine E_istore_n (pc := 147) (ls' := fun x46 => [(3, .int x46), (2, .int x43), (0, .ref a36), (4, .int x39)]) dX5_init_147 (by decide) (fun _ => rfl) hf (fun x46 hf => ?_)
          refine E_iinc (pc := 148) (ls' := fun x47 => [(4, .int x47), (3, .int x46), (2, .int x43), (0, .ref a36)]) dX5_init_148 rfl (by decide) (fun _ => rfl) hf (fun x47 hf => ?_)
          refine E_goto (pc := 151) (tgt := 102) dX5_init_151 (by decide) ?_
          refine Ev.sub [3, 2, 1, 0] rfl ?_
          exact ih _ _ _ _ _ hf
        · refine E_iconst (pc := 145) (v := (0 : Int32)) dX5_init_145 (by decide) ?_
          refine E_ior (pc := 146) dX5_init_146 ?_
          refine E_istore_n (pc := 147) (ls' := fun x48 => [(3, .int x48), (2, .int x43), (0, .ref a36), (4, .int x39)]) dX5_init_147 (by decide) (fun _ => rfl) hf (fun x48 hf => ?_)
          refine E_iinc (pc := 148) (ls' := fun x49 => [(4, .int x49), (3, .int x48), (2, .int x43), (0, .ref a36)]) dX5_init_148 rfl (by decide) (fun _ => rfl) hf (fun x49 hf => ?_)
          refine E_goto (pc := 151) (tgt := 102) dX5_init_151 (by decide) ?_
          refine Ev.sub [3, 2, 1, 0] rfl ?_
          exact ih _ _ _ _ _ hf
      · refine E_iconst (pc := 126) (v := (0 : Int32)) dX5_init_126 (by decide) ?_
        refine E_ior (pc := 127) dX5_init_127 ?_
        refine E_istore_n (pc := 128) (ls' := fun x50 => [(2, .int x50), (0, .ref a36), (3, .int x38), (4, .int x39)]) dX5_init_128 (by decide) (fun _ => rfl) hf (fun x50 hf => ?_)
        refine E_iload_n (pc := 129) dX5_init_129 rfl ?_
        refine E_aload_n (pc := 130) dX5_init_130 rfl ?_
        refine E_getR (pc := 131) dX5_init_131 fl_X5_39 hf (fun v51 hf => ?_)
        refine E_iload (pc := 134) dX5_init_134 rfl ?_
        refine E_iald (pc := 136) dX5_init_136 hf (fun v52 hf => ?_)
        refine E_iconst (pc := 137) (v := (1 : Int32)) dX5_init_137 (by decide) ?_
        refine E_icmp_ne (pc := 138) (tgt := 145) dX5_init_138 (by decide) hf (fun hf => ?_) (fun hf => ?_)
        · refine E_iconst (pc := 141) (v := (1 : Int32)) dX5_init_141 (by decide) ?_
          refine E_goto (pc := 142) (tgt := 146) dX5_init_142 (by decide) ?_
          refine E_ior (pc := 146) dX5_init_146 ?_
          refine E_istore_n (pc := 147) (ls' := fun x53 => [(3, .int x53), (2, .int x50), (0, .ref a36), (4, .int x39)]) dX5_init_147 (by decide) (fun _ => rfl) hf (fun x53 hf => ?_)
          refine E_iinc (pc := 148) (ls' := fun x54 => [(4, .int x54), (3, .int x53), (2, .int x50), (0, .ref a36)]) dX5_init_148 rfl (by decide) (fun _ => rfl) hf (fun x54 hf => ?_)
          refine E_goto (pc := 151) (tgt := 102) dX5_init_151 (by decide) ?_
          refine Ev.sub [3, 2, 1, 0] rfl ?_
          exact ih _ _ _ _ _ hf
        · refine E_iconst (pc := 145) (v := (0 : Int32)) dX5_init_145 (by decide) ?_
          refine E_ior (pc := 146) dX5_init_146 ?_
          refine E_istore_n (pc := 147) (ls' := fun x55 => [(3, .int x55), (2, .int x50), (0, .ref a36), (4, .int x39)]) dX5_init_147 (by decide) (fun _ => rfl) hf (fun x55 hf => ?_)
          refine E_iinc (pc := 148) (ls' := fun x56 => [(4, .int x56), (3, .int x55), (2, .int x50), (0, .ref a36)]) dX5_init_148 rfl (by decide) (fun _ => rfl) hf (fun x56 hf => ?_)
          refine E_goto (pc := 151) (tgt := 102) dX5_init_151 (by decide) ?_
          refine Ev.sub [3, 2, 1, 0] rfl ?_
          exact ih _ _ _ _ _ hf
set_option maxRecDepth 100000 in
def f_X5_init (μ0 : Mm) (a1 : Nat) (a2 : Nat) : Option Mm :=
 (bd (nA μ0 3 (32 : Int32)) fun a3 μ4 =>
    ((pV μ4 a1 5 8 (.ref a3)).bind fun μ5 =>
    ((gR μ5 a2 6 1).bind fun v6 =>
    ((gI μ5 a2 6 2).bind fun v7 =>
    (bd (f_J7_copyOf_59c91 μ5 v6 v7) fun v9 μ8 =>
    ((pV μ8 a1 5 0 (.ref v9)).bind fun μ10 =>
    ((gI μ10 a2 6 4).bind fun v11 =>
    ((pV μ10 a1 5 1 (.int v11)).bind fun μ12 =>
    ((gR μ12 a2 6 5).bind fun v13 =>
    ((gI μ12 a1 5 1).bind fun v14 =>
    (bd (f_J7_copyOf_59c91 μ12 v13 v14) fun v16 μ15 =>
    ((pV μ15 a1 5 2 (.ref v16)).bind fun μ17 =>
    ((gR μ17 a2 6 6).bind fun v18 =>
    ((gI μ17 a1 5 1).bind fun v19 =>
    (bd (f_J7_copyOf_59c91 μ17 v18 v19) fun v21 μ20 =>
    ((pV μ20 a1 5 3 (.ref v21)).bind fun μ22 =>
    ((gR μ22 a2 6 7).bind fun v23 =>
    ((gI μ22 a1 5 1).bind fun v24 =>
    (bd (f_J7_copyOf_59c91 μ22 v23 v24) fun v26 μ25 =>
    ((pV μ25 a1 5 4 (.ref v26)).bind fun μ27 =>
    ((gR μ27 a2 6 8).bind fun v28 =>
    ((gI μ27 a1 5 1).bind fun v29 =>
    (bd (f_J7_copyOf_59c91 μ27 v28 v29) fun v31 μ30 =>
    ((pV μ30 a1 5 5 (.ref v31)).bind fun μ32 =>
    (nm (0 : Int32) fun x33 =>
    (nm (0 : Int32) fun x34 =>
    (nm (0 : Int32) fun x35 =>
    f_X5_init_L102 (fun μ57 a58 x59 x60 =>
    ((pZ μ57 a58 5 6 x59).bind fun μ61 =>
    ((pZ μ61 a58 5 7 x60).bind fun μ62 =>
    (some μ62)))) FU μ32 a1 x33 x34 x35)))))))))))))))))))))))))))
set_option maxHeartbeats 4000000 in
set_option maxRecDepth 100000 in
theorem f_X5_init_ok {l : Launch} {G : GG} {μ0 : Mm} {a1 : Nat} {a2 : Nat} {μ' : Mm} (hf : f_X5_init μ0 a1 a2 = some μ') : EvM l G D_X5_init yX5_init cX5_init 5 none [.ref a1, .ref a2] μ0 none μ' := by
  show Ev l G D_X5_init yX5_init cX5_init 5 none 0 [(0, .ref a1), (1, .ref a2)] [] μ0 none μ'
  unfold f_X5_init at hf
  refine E_aload_n (pc := 0) dX5_init_0 rfl ?_
  refine E_objI (pc := 1) dX5_init_1 (by decide) (Nat.le_of_ble_eq_true rfl) ml_X5_5 ?_
  refine E_aload_n (pc := 4) dX5_init_4 rfl ?_
  refine E_bipush (pc := 5) (v := (32 : Int32)) dX5_init_5 (by decide) ?_
  refine E_newa2 (pc := 7) dX5_init_7 (by decide) ac_long hf (fun a3 μ4 hf => ?_)
  refine E_putA (pc := 9) dX5_init_9 pl_X5_11 hf (fun μ5 hf => ?_)
  refine E_aload_n (pc := 12) dX5_init_12 rfl ?_
  refine E_aload_n (pc := 13) dX5_init_13 rfl ?_
  refine E_getR (pc := 14) dX5_init_14 fl_X5_15 hf (fun v6 hf => ?_)
  refine E_aload_n (pc := 17) dX5_init_17 rfl ?_
  refine E_getI (pc := 18) dX5_init_18 fl_X5_21 hf (fun v7 hf => ?_)
  refine E_Sr (pc := 21) (d2 := D_J7_copyOf_59c91) [.ref v6, .int v7] dX5_init_21 ml_X5_25 mf_J7_copyOf_59c91 st_J7_copyOf_59c91 rfl (by decide) (Nat.le_of_ble_eq_true rfl) (Nat.le_of_ble_eq_true rfl) rfl (fun _ _ h => f_J7_copyOf_59c91_ok h) hf (fun v9 μ8 hf => ?_)
  refine E_putA (pc := 24) dX5_init_24 pl_X5_31 hf (fun μ10 hf => ?_)
  refine E_aload_n (pc := 27) dX5_init_27 rfl ?_
  refine E_aload_n (pc := 28) dX5_init_28 rfl ?_
  refine E_getI (pc := 29) dX5_init_29 fl_X5_32 hf (fun v11 hf => ?_)
  refine E_putI (pc := 32) dX5_init_32 pl_X5_35 hf (fun μ12 hf => ?_)
  refine E_aload_n (pc := 35) dX5_init_35 rfl ?_
  refine E_aload_n (pc := 36) dX5_init_36 rfl ?_
  refine E_getR (pc := 37) dX5_init_37 fl_X5_36 hf (fun v13 hf => ?_)
  refine E_aload_n (pc := 40) dX5_init_40 rfl ?_
  refine E_getI (pc := 41) dX5_init_41 fl_X5_35 hf (fun v14 hf => ?_)
  refine E_Sr (pc := 44) (d2 := D_J7_copyOf_59c91) [.ref v13, .int v14] dX5_init_44 ml_X5_25 mf_J7_copyOf_59c91 st_J7_copyOf_59c91 rfl (by decide) (Nat.le_of_ble_eq_true rfl) (Nat.le_of_ble_eq_true rfl) rfl (fun _ _ h => f_J7_copyOf_59c91_ok h) hf (fun v16 μ15 hf => ?_)
  refine E_putA (pc := 47) dX5_init_47 pl_X5_39 hf (fun μ17 hf => ?_)
  refine E_aload_n (pc := 50) dX5_init_50 rfl ?_
  refine E_aload_n (pc := 51) dX5_init_51 rfl ?_
  refine E_getR (pc := 52) dX5_init_52 fl_X5_40 hf (fun v18 hf => ?_)
  refine E_aload_n (pc := 55) dX5_init_55 rfl ?_
  refine E_getI (pc := 56) dX5_init_56 fl_X5_35 hf (fun v19 hf => ?_)
  refine E_Sr (pc := 59) (d2 := D_J7_copyOf_59c91) [.ref v18, .int v19] dX5_init_59 ml_X5_25 mf_J7_copyOf_59c91 st_J7_copyOf_59c91 rfl (by decide) (Nat.le_of_ble_eq_true rfl) (Nat.le_of_ble_eq_true rfl) rfl (fun _ _ h => f_J7_copyOf_59c91_ok h) hf (fun v21 μ20 hf => ?_)
  refine E_putA (pc := 62) dX5_init_62 pl_X5_43 hf (fun μ22 hf => ?_)
  refine E_aload_n (pc := 65) dX5_init_65 rfl ?_
  refine E_aload_n (pc := 66) dX5_init_66 rfl ?_
  refine E_getR (pc := 67) dX5_init_67 fl_X5_44 hf (fun v23 hf => ?_)
  refine E_aload_n (pc := 70) dX5_init_70 rfl ?_
  refine E_getI (pc := 71) dX5_init_71 fl_X5_35 hf (fun v24 hf => ?_)
  refine E_Sr (pc := 74) (d2 := D_J7_copyOf_59c91) [.ref v23, .int v24] dX5_init_74 ml_X5_25 mf_J7_copyOf_59c91 st_J7_copyOf_59c91 rfl (by decide) (Nat.le_of_ble_eq_true rfl) (Nat.le_of_ble_eq_true rfl) rfl (fun _ _ h => f_J7_copyOf_59c91_ok h) hf (fun v26 μ25 hf => ?_)
  refine E_putA (pc := 77) dX5_init_77 pl_X5_47 hf (fun μ27 hf => ?_)
  refine E_aload_n (pc := 80) dX5_init_80 rfl ?_
  refine E_aload_n (pc := 81) dX5_init_81 rfl ?_
  refine E_getR (pc := 82) dX5_init_82 fl_X5_48 hf (fun v28 hf => ?_)
  refine E_aload_n (pc := 85) dX5_init_85 rfl ?_
  refine E_getI (pc := 86) dX5_init_86 fl_X5_35 hf (fun v29 hf => ?_)
  refine E_Sr (pc := 89) (d2 := D_J7_copyOf_59c91) [.ref v28, .int v29] dX5_init_89 ml_X5_25 mf_J7_copyOf_59c91 st_J7_copyOf_59c91 rfl (by decide) (Nat.le_of_ble_eq_true rfl) (Nat.le_of_ble_eq_true rfl) rfl (fun _ _ h => f_J7_copyOf_59c91_ok h) hf (fun v31 μ30 hf => ?_)
  refine E_putA (pc := 92) dX5_init_92 pl_X5_51 hf (fun μ32 hf => ?_)
  refine E_iconst (pc := 95) (v := (0 : Int32)) dX5_init_95 (by decide) ?_
  refine E_istore_n (pc := 96) (ls' := fun x33 => [(2, .int x33), (0, .ref a1), (1, .ref a2)]) dX5_init_96 (by decide) (fun _ => rfl) hf (fun x33 hf => ?_)
  refine E_iconst (pc := 97) (v := (0 : Int32)) dX5_init_97 (by decide) ?_
  refine E_istore_n (pc := 98) (ls' := fun x34 => [(3, .int x34), (2, .int x33), (0, .ref a1), (1, .ref a2)]) dX5_init_98 (by decide) (fun _ => rfl) hf (fun x34 hf => ?_)
  refine E_iconst (pc := 99) (v := (0 : Int32)) dX5_init_99 (by decide) ?_
  refine E_istore (pc := 100) (ls' := fun x35 => [(4, .int x35), (3, .int x34), (2, .int x33), (0, .ref a1), (1, .ref a2)]) dX5_init_100 (by decide) (fun _ => rfl) hf (fun x35 hf => ?_)
  refine Ev.sub [3, 2, 1, 0] rfl ?_
  refine f_X5_init_L102_ok  _ _ _ _ _ _ hf (fun μ57 a58 x59 x60 hf => ?_)
  · refine E_aload_n (pc := 154) dX5_init_154 rfl ?_
    refine E_iload_n (pc := 155) dX5_init_155 rfl ?_
    refine E_putZ (pc := 156) dX5_init_156 pl_X5_52 hf (fun μ61 hf => ?_)
    refine E_aload_n (pc := 159) dX5_init_159 rfl ?_
    refine E_iload_n (pc := 160) dX5_init_160 rfl ?_
    refine E_putZ (pc := 161) dX5_init_161 pl_X5_56 hf (fun μ62 hf => ?_)
    exact E_vret (pc := 164) dX5_init_164 rfl hf
