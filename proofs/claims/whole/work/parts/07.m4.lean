theorem dX10_look_0 : decode cX10_look 0 = .ok (.aload_n 0, 1) := by decide +kernel
theorem dX10_look_1 : decode cX10_look 1 = .ok (.iconst 0, 1) := by decide +kernel
theorem dX10_look_2 : decode cX10_look 2 = .ok (.putfield 83, 3) := by decide +kernel
theorem dX10_look_5 : decode cX10_look 5 = .ok (.iload_n 1, 1) := by decide +kernel
theorem dX10_look_6 : decode cX10_look 6 = .ok (.ifCond .ne 8, 3) := by decide +kernel
theorem dX10_look_9 : decode cX10_look 9 = .ok (.aload_n 0, 1) := by decide +kernel
theorem dX10_look_10 : decode cX10_look 10 = .ok (.invokevirtual 104, 3) := by decide +kernel
theorem dX10_look_13 : decode cX10_look 13 = .ok (.ireturn, 1) := by decide +kernel
theorem dX10_look_14 : decode cX10_look 14 = .ok (.iload_n 1, 1) := by decide +kernel
theorem dX10_look_15 : decode cX10_look 15 = .ok (.iconst 1, 1) := by decide +kernel
theorem dX10_look_16 : decode cX10_look 16 = .ok (.if_icmp .ne 8, 3) := by decide +kernel
theorem dX10_look_19 : decode cX10_look 19 = .ok (.aload_n 0, 1) := by decide +kernel
theorem dX10_look_20 : decode cX10_look 20 = .ok (.invokevirtual 108, 3) := by decide +kernel
theorem dX10_look_23 : decode cX10_look 23 = .ok (.ireturn, 1) := by decide +kernel
theorem dX10_look_24 : decode cX10_look 24 = .ok (.iload_n 1, 1) := by decide +kernel
theorem dX10_look_25 : decode cX10_look 25 = .ok (.iconst 2, 1) := by decide +kernel
theorem dX10_look_26 : decode cX10_look 26 = .ok (.if_icmp .ne 10, 3) := by decide +kernel
theorem dX10_look_29 : decode cX10_look 29 = .ok (.aload_n 0, 1) := by decide +kernel
theorem dX10_look_30 : decode cX10_look 30 = .ok (.getfield 7, 3) := by decide +kernel
theorem dX10_look_33 : decode cX10_look 33 = .ok (.iconst 0, 1) := by decide +kernel
theorem dX10_look_34 : decode cX10_look 34 = .ok (.iaload, 1) := by decide +kernel
theorem dX10_look_35 : decode cX10_look 35 = .ok (.ireturn, 1) := by decide +kernel
theorem dX10_look_36 : decode cX10_look 36 = .ok (.iload_n 1, 1) := by decide +kernel
theorem dX10_look_37 : decode cX10_look 37 = .ok (.iconst 3, 1) := by decide +kernel
theorem dX10_look_38 : decode cX10_look 38 = .ok (.if_icmp .ne 8, 3) := by decide +kernel
theorem dX10_look_41 : decode cX10_look 41 = .ok (.aload_n 0, 1) := by decide +kernel
theorem dX10_look_42 : decode cX10_look 42 = .ok (.invokevirtual 348, 3) := by decide +kernel
theorem dX10_look_45 : decode cX10_look 45 = .ok (.ireturn, 1) := by decide +kernel
theorem dX10_look_46 : decode cX10_look 46 = .ok (.iload_n 1, 1) := by decide +kernel
theorem dX10_look_47 : decode cX10_look 47 = .ok (.iconst 4, 1) := by decide +kernel
theorem dX10_look_48 : decode cX10_look 48 = .ok (.if_icmp .ne 8, 3) := by decide +kernel
theorem dX10_look_51 : decode cX10_look 51 = .ok (.aload_n 0, 1) := by decide +kernel
theorem dX10_look_52 : decode cX10_look 52 = .ok (.getfield 115, 3) := by decide +kernel
theorem dX10_look_55 : decode cX10_look 55 = .ok (.ireturn, 1) := by decide +kernel
theorem dX10_look_56 : decode cX10_look 56 = .ok (.iload_n 1, 1) := by decide +kernel
theorem dX10_look_57 : decode cX10_look 57 = .ok (.iconst 5, 1) := by decide +kernel
theorem dX10_look_58 : decode cX10_look 58 = .ok (.if_icmp .ne 10, 3) := by decide +kernel
theorem dX10_look_61 : decode cX10_look 61 = .ok (.aload_n 0, 1) := by decide +kernel
theorem dX10_look_62 : decode cX10_look 62 = .ok (.getfield 7, 3) := by decide +kernel
theorem dX10_look_65 : decode cX10_look 65 = .ok (.iconst 4, 1) := by decide +kernel
theorem dX10_look_66 : decode cX10_look 66 = .ok (.iaload, 1) := by decide +kernel
theorem dX10_look_67 : decode cX10_look 67 = .ok (.ireturn, 1) := by decide +kernel
theorem dX10_look_68 : decode cX10_look 68 = .ok (.iload_n 1, 1) := by decide +kernel
theorem dX10_look_69 : decode cX10_look 69 = .ok (.bipush 6, 2) := by decide +kernel
theorem dX10_look_71 : decode cX10_look 71 = .ok (.if_icmp .ne 8, 3) := by decide +kernel
theorem dX10_look_74 : decode cX10_look 74 = .ok (.aload_n 0, 1) := by decide +kernel
theorem dX10_look_75 : decode cX10_look 75 = .ok (.getfield 118, 3) := by decide +kernel
theorem dX10_look_78 : decode cX10_look 78 = .ok (.ireturn, 1) := by decide +kernel
theorem dX10_look_79 : decode cX10_look 79 = .ok (.iload_n 1, 1) := by decide +kernel
theorem dX10_look_80 : decode cX10_look 80 = .ok (.bipush 7, 2) := by decide +kernel
theorem dX10_look_82 : decode cX10_look 82 = .ok (.if_icmp .ne 8, 3) := by decide +kernel
theorem dX10_look_85 : decode cX10_look 85 = .ok (.aload_n 0, 1) := by decide +kernel
theorem dX10_look_86 : decode cX10_look 86 = .ok (.getfield 121, 3) := by decide +kernel
theorem dX10_look_89 : decode cX10_look 89 = .ok (.ireturn, 1) := by decide +kernel
theorem dX10_look_90 : decode cX10_look 90 = .ok (.iload_n 1, 1) := by decide +kernel
theorem dX10_look_91 : decode cX10_look 91 = .ok (.bipush 8, 2) := by decide +kernel
theorem dX10_look_93 : decode cX10_look 93 = .ok (.if_icmp .ne 11, 3) := by decide +kernel
theorem dX10_look_96 : decode cX10_look 96 = .ok (.aload_n 0, 1) := by decide +kernel
theorem dX10_look_97 : decode cX10_look 97 = .ok (.bipush 69, 2) := by decide +kernel
theorem dX10_look_99 : decode cX10_look 99 = .ok (.iconst (-1), 1) := by decide +kernel
theorem dX10_look_100 : decode cX10_look 100 = .ok (.invokevirtual 403, 3) := by decide +kernel
theorem dX10_look_103 : decode cX10_look 103 = .ok (.ireturn, 1) := by decide +kernel
theorem dX10_look_104 : decode cX10_look 104 = .ok (.iload_n 1, 1) := by decide +kernel
theorem dX10_look_105 : decode cX10_look 105 = .ok (.bipush 9, 2) := by decide +kernel
theorem dX10_look_107 : decode cX10_look 107 = .ok (.if_icmp .ne 12, 3) := by decide +kernel
theorem dX10_look_110 : decode cX10_look 110 = .ok (.aload_n 0, 1) := by decide +kernel
theorem dX10_look_111 : decode cX10_look 111 = .ok (.sipush 197, 3) := by decide +kernel
theorem dX10_look_114 : decode cX10_look 114 = .ok (.iconst (-1), 1) := by decide +kernel
theorem dX10_look_115 : decode cX10_look 115 = .ok (.invokevirtual 403, 3) := by decide +kernel
theorem dX10_look_118 : decode cX10_look 118 = .ok (.ireturn, 1) := by decide +kernel
theorem dX10_look_119 : decode cX10_look 119 = .ok (.iload_n 1, 1) := by decide +kernel
theorem dX10_look_120 : decode cX10_look 120 = .ok (.bipush 10, 2) := by decide +kernel
theorem dX10_look_122 : decode cX10_look 122 = .ok (.if_icmp .ne 10, 3) := by decide +kernel
theorem dX10_look_125 : decode cX10_look 125 = .ok (.aload_n 0, 1) := by decide +kernel
theorem dX10_look_126 : decode cX10_look 126 = .ok (.getfield 7, 3) := by decide +kernel
theorem dX10_look_129 : decode cX10_look 129 = .ok (.iconst 2, 1) := by decide +kernel
theorem dX10_look_130 : decode cX10_look 130 = .ok (.iaload, 1) := by decide +kernel
theorem dX10_look_131 : decode cX10_look 131 = .ok (.ireturn, 1) := by decide +kernel
theorem dX10_look_132 : decode cX10_look 132 = .ok (.iload_n 1, 1) := by decide +kernel
theorem dX10_look_133 : decode cX10_look 133 = .ok (.bipush 11, 2) := by decide +kernel
theorem dX10_look_135 : decode cX10_look 135 = .ok (.if_icmp .ne 10, 3) := by decide +kernel
theorem dX10_look_138 : decode cX10_look 138 = .ok (.aload_n 0, 1) := by decide +kernel
theorem dX10_look_139 : decode cX10_look 139 = .ok (.getfield 7, 3) := by decide +kernel
theorem dX10_look_142 : decode cX10_look 142 = .ok (.iconst 1, 1) := by decide +kernel
theorem dX10_look_143 : decode cX10_look 143 = .ok (.iaload, 1) := by decide +kernel
theorem dX10_look_144 : decode cX10_look 144 = .ok (.ireturn, 1) := by decide +kernel
theorem dX10_look_145 : decode cX10_look 145 = .ok (.iload_n 1, 1) := by decide +kernel
theorem dX10_look_146 : decode cX10_look 146 = .ok (.bipush 12, 2) := by decide +kernel
theorem dX10_look_148 : decode cX10_look 148 = .ok (.if_icmp .ne 10, 3) := by decide +kernel
theorem dX10_look_151 : decode cX10_look 151 = .ok (.aload_n 0, 1) := by decide +kernel
theorem dX10_look_152 : decode cX10_look 152 = .ok (.getfield 31, 3) := by decide +kernel
theorem dX10_look_155 : decode cX10_look 155 = .ok (.iconst 1, 1) := by decide +kernel
theorem dX10_look_156 : decode cX10_look 156 = .ok (.iaload, 1) := by decide +kernel
theorem dX10_look_157 : decode cX10_look 157 = .ok (.ireturn, 1) := by decide +kernel
theorem dX10_look_158 : decode cX10_look 158 = .ok (.iload_n 1, 1) := by decide +kernel
theorem dX10_look_159 : decode cX10_look 159 = .ok (.bipush 13, 2) := by decide +kernel
theorem dX10_look_161 : decode cX10_look 161 = .ok (.if_icmp .ne 8, 3) := by decide +kernel
theorem dX10_look_164 : decode cX10_look 164 = .ok (.aload_n 0, 1) := by decide +kernel
theorem dX10_look_165 : decode cX10_look 165 = .ok (.getfield 124, 3) := by decide +kernel
theorem dX10_look_168 : decode cX10_look 168 = .ok (.ireturn, 1) := by decide +kernel
theorem dX10_look_169 : decode cX10_look 169 = .ok (.iload_n 1, 1) := by decide +kernel
theorem dX10_look_170 : decode cX10_look 170 = .ok (.bipush 14, 2) := by decide +kernel
theorem dX10_look_172 : decode cX10_look 172 = .ok (.if_icmp .ne 10, 3) := by decide +kernel
theorem dX10_look_175 : decode cX10_look 175 = .ok (.aload_n 0, 1) := by decide +kernel
theorem dX10_look_176 : decode cX10_look 176 = .ok (.getfield 127, 3) := by decide +kernel
theorem dX10_look_179 : decode cX10_look 179 = .ok (.goto 19, 3) := by decide +kernel
theorem dX10_look_182 : decode cX10_look 182 = .ok (.iload_n 1, 1) := by decide +kernel
theorem dX10_look_183 : decode cX10_look 183 = .ok (.bipush 15, 2) := by decide +kernel
theorem dX10_look_185 : decode cX10_look 185 = .ok (.if_icmp .ne 10, 3) := by decide +kernel
theorem dX10_look_188 : decode cX10_look 188 = .ok (.aload_n 0, 1) := by decide +kernel
theorem dX10_look_189 : decode cX10_look 189 = .ok (.getfield 86, 3) := by decide +kernel
theorem dX10_look_192 : decode cX10_look 192 = .ok (.goto 6, 3) := by decide +kernel
theorem dX10_look_195 : decode cX10_look 195 = .ok (.ldc_w 496, 3) := by decide +kernel
theorem dX10_look_198 : decode cX10_look 198 = .ok (.ireturn, 1) := by decide +kernel
def M_look (s : ST) (x1 : Int32) : Option (Int32 × ST) := Lt (ups s 0 0 (0 : Int32)) fun s1 => if x1 = 0 then (Lt (M_wide s1) fun y10 => some (y10, s1)) else (if x1 = (1 : Int32) then (Lt (M_high s1) fun y9 => some (y9, s1)) else (if x1 = (2 : Int32) then (Lt (s1.1 1 0) fun y8 => some (y8, s1)) else (if x1 = (3 : Int32) then (Lt (M_wind s1) fun y7 => some (y7, s1)) else (if x1 = (4 : Int32) then (some ((s1.1 0 8), s1)) else (if x1 = (5 : Int32) then (Lt (s1.1 1 4) fun y6 => some (y6, s1)) else (if x1 = (6 : Int32) then (some ((s1.1 0 34), s1)) else (if x1 = (7 : Int32) then (some ((s1.1 0 36), s1)) else (if x1 = (8 : Int32) then (Bd (M_manyOf s1 (69 : Int32) (-1 : Int32)) fun y5 => some (y5, s1)) else (if x1 = (9 : Int32) then (Bd (M_manyOf s1 (197 : Int32) (-1 : Int32)) fun y4 => some (y4, s1)) else (if x1 = (10 : Int32) then (Lt (s1.1 1 2) fun y3 => some (y3, s1)) else (if x1 = (11 : Int32) then (Lt (s1.1 1 1) fun y2 => some (y2, s1)) else (if x1 = (12 : Int32) then (Lt (s1.1 8 1) fun y1 => some (y1, s1)) else (if x1 = (13 : Int32) then (some ((s1.1 0 40), s1)) else (if x1 = (14 : Int32) then (some ((s1.1 0 42), s1)) else (if x1 = (15 : Int32) then (some ((s1.1 0 3), s1)) else (some ((-1000000 : Int32), s1)))))))))))))))))
set_option maxRecDepth 100000 in
set_option maxHeartbeats 4000000 in
theorem k_look (l : Launch) (D : va_G) (cA : ClassId) (h : Nat → Nat) (s : ST) (x1 : Int32) {o : Int32 × ST} (hs : M_look s x1 = some o) : MI l (KM D cA h) 2 yX10_look cX10_look 2 (some .int) s [.ref (h 0), .int x1] o.1 o.2 := by
  refine met_i (by decide) (Nat.le_of_ble_eq_true rfl) ?_
  intro p e st m args below meth c Q X RI
  unfold M_look at hs
  refine g_aload_n X dX10_look_0 (q := 1) rfl 0 rfl ?_
  refine g_iconst X dX10_look_1 (q := 2) rfl li_i0 ?_
  refine mp_0 X dX10_look_2 (q := 5) rfl hs (fun s1 hs => ?_)
  refine g_iload_n X dX10_look_5 (q := 6) rfl 1 rfl ?_
  refine g_if_ne X dX10_look_6 (q := 9) rfl (tgt := 14) (by decide) hs ?_ ?_
  · intro hs
    refine g_iload_n X dX10_look_14 (q := 15) rfl 1 rfl ?_
    refine g_iconst X dX10_look_15 (q := 16) rfl li_i1 ?_
    refine g_icmp_ne X dX10_look_16 (q := 19) rfl (tgt := 24) (by decide) hs ?_ ?_
    · intro hs
      refine g_iload_n X dX10_look_24 (q := 25) rfl 1 rfl ?_
      refine g_iconst X dX10_look_25 (q := 26) rfl li_i2 ?_
      refine g_icmp_ne X dX10_look_26 (q := 29) rfl (tgt := 36) (by decide) hs ?_ ?_
      · intro hs
        refine g_iload_n X dX10_look_36 (q := 37) rfl 1 rfl ?_
        refine g_iconst X dX10_look_37 (q := 38) rfl li_i3 ?_
        refine g_icmp_ne X dX10_look_38 (q := 41) rfl (tgt := 46) (by decide) hs ?_ ?_
        · intro hs
          refine g_iload_n X dX10_look_46 (q := 47) rfl 1 rfl ?_
          refine g_iconst X dX10_look_47 (q := 48) rfl li_i4 ?_
          refine g_icmp_ne X dX10_look_48 (q := 51) rfl (tgt := 56) (by decide) hs ?_ ?_
          · intro hs
            refine g_iload_n X dX10_look_56 (q := 57) rfl 1 rfl ?_
            refine g_iconst X dX10_look_57 (q := 58) rfl li_i5 ?_
            refine g_icmp_ne X dX10_look_58 (q := 61) rfl (tgt := 68) (by decide) hs ?_ ?_
            · intro hs
              refine g_iload_n X dX10_look_68 (q := 69) rfl 1 rfl ?_
              refine g_bipush X dX10_look_69 (q := 71) rfl li_b6 ?_
              refine g_icmp_ne X dX10_look_71 (q := 74) rfl (tgt := 79) (by decide) hs ?_ ?_
              · intro hs
                refine g_iload_n X dX10_look_79 (q := 80) rfl 1 rfl ?_
                refine g_bipush X dX10_look_80 (q := 82) rfl li_b7 ?_
                refine g_icmp_ne X dX10_look_82 (q := 85) rfl (tgt := 90) (by decide) hs ?_ ?_
                · intro hs
                  refine g_iload_n X dX10_look_90 (q := 91) rfl 1 rfl ?_
                  refine g_bipush X dX10_look_91 (q := 93) rfl li_b8 ?_
                  refine g_icmp_ne X dX10_look_93 (q := 96) rfl (tgt := 104) (by decide) hs ?_ ?_
                  · intro hs
                    refine g_iload_n X dX10_look_104 (q := 105) rfl 1 rfl ?_
                    refine g_bipush X dX10_look_105 (q := 107) rfl li_b9 ?_
                    refine g_icmp_ne X dX10_look_107 (q := 110) rfl (tgt := 119) (by decide) hs ?_ ?_
                    · intro hs
                      refine g_iload_n X dX10_look_119 (q := 120) rfl 1 rfl ?_
                      refine g_bipush X dX10_look_120 (q := 122) rfl li_b10 ?_
                      refine g_icmp_ne X dX10_look_122 (q := 125) rfl (tgt := 132) (by decide) hs ?_ ?_
                      · intro hs
                        refine g_iload_n X dX10_look_132 (q := 133) rfl 1 rfl ?_
                        refine g_bipush X dX10_look_133 (q := 135) rfl li_b11 ?_
                        refine g_icmp_ne X dX10_look_135 (q := 138) rfl (tgt := 145) (by decide) hs ?_ ?_
                        · intro hs
                          refine g_iload_n X dX10_look_145 (q := 146) rfl 1 rfl ?_
                          refine g_bipush X dX10_look_146 (q := 148) rfl li_b12 ?_
                          refine g_icmp_ne X dX10_look_148 (q := 151) rfl (tgt := 158) (by decide) hs ?_ ?_
                          · intro hs
                            refine g_iload_n X dX10_look_158 (q := 159) rfl 1 rfl ?_
                            refine g_bipush X dX10_look_159 (q := 161) rfl li_b13 ?_
                            refine g_icmp_ne X dX10_look_161 (q := 164) rfl (tgt := 169) (by decide) hs ?_ ?_
                            · intro hs
                              refine g_iload_n X dX10_look_169 (q := 170) rfl 1 rfl ?_
                              refine g_bipush X dX10_look_170 (q := 172) rfl li_b14 ?_
                              refine g_icmp_ne X dX10_look_172 (q := 175) rfl (tgt := 182) (by decide) hs ?_ ?_
                              · intro hs
                                refine g_iload_n X dX10_look_182 (q := 183) rfl 1 rfl ?_
                                refine g_bipush X dX10_look_183 (q := 185) rfl li_b15 ?_
                                refine g_icmp_ne X dX10_look_185 (q := 188) rfl (tgt := 195) (by decide) hs ?_ ?_
                                · intro hs
                                  refine g_ldc_w X dX10_look_195 (q := 198) rfl kc_X10_496 ?_
                                  exact RI _ 198 _ _ _ (rU1 hs) rfl (rV1 hs) dX10_look_198
                                · intro hs
                                  refine g_aload_n X dX10_look_188 (q := 189) rfl 0 rfl ?_
                                  refine mg_3 X dX10_look_189 (q := 192) rfl ?_
                                  refine g_goto X dX10_look_192 (tgt := 198) (by decide) ?_
                                  exact RI _ 198 _ _ _ (rU1 hs) rfl (rV1 hs) dX10_look_198
                              · intro hs
                                refine g_aload_n X dX10_look_175 (q := 176) rfl 0 rfl ?_
                                refine mg_42 X dX10_look_176 (q := 179) rfl ?_
                                refine g_goto X dX10_look_179 (tgt := 198) (by decide) ?_
                                exact RI _ 198 _ _ _ (rU1 hs) rfl (rV1 hs) dX10_look_198
                            · intro hs
                              refine g_aload_n X dX10_look_164 (q := 165) rfl 0 rfl ?_
                              refine mg_40 X dX10_look_165 (q := 168) rfl ?_
                              exact RI _ 168 _ _ _ (rU1 hs) rfl (rV1 hs) dX10_look_168
                          · intro hs
                            refine g_aload_n X dX10_look_151 (q := 152) rfl 0 rfl ?_
                            refine mg_18 X dX10_look_152 (q := 155) rfl ?_
                            refine g_iconst X dX10_look_155 (q := 156) rfl li_i1 ?_
                            refine mk_8 X dX10_look_156 (q := 157) rfl (j := 1) (by decide) (by decide) hs (fun y1 hs => ?_)
                            exact RI _ 157 _ _ _ (rU1 hs) rfl (rV1 hs) dX10_look_157
                        · intro hs
                          refine g_aload_n X dX10_look_138 (q := 139) rfl 0 rfl ?_
                          refine mg_1 X dX10_look_139 (q := 142) rfl ?_
                          refine g_iconst X dX10_look_142 (q := 143) rfl li_i1 ?_
                          refine mk_1 X dX10_look_143 (q := 144) rfl (j := 1) (by decide) (by decide) hs (fun y2 hs => ?_)
                          exact RI _ 144 _ _ _ (rU1 hs) rfl (rV1 hs) dX10_look_144
                      · intro hs
                        refine g_aload_n X dX10_look_125 (q := 126) rfl 0 rfl ?_
                        refine mg_1 X dX10_look_126 (q := 129) rfl ?_
                        refine g_iconst X dX10_look_129 (q := 130) rfl li_i2 ?_
                        refine mk_1 X dX10_look_130 (q := 131) rfl (j := 2) (by decide) (by decide) hs (fun y3 hs => ?_)
                        exact RI _ 131 _ _ _ (rU1 hs) rfl (rV1 hs) dX10_look_131
                    · intro hs
                      refine g_aload_n X dX10_look_110 (q := 111) rfl 0 rfl ?_
                      refine g_sipush X dX10_look_111 (q := 114) rfl li_s197 ?_
                      refine g_iconst X dX10_look_114 (q := 115) rfl li_im1 ?_
                      refine v_manyOf X dX10_look_115 (q := 118) rfl (Nat.le_of_ble_eq_true rfl) (Nat.le_of_ble_eq_true rfl) (Nat.le_of_ble_eq_true rfl) hs (fun y4 hs => ?_)
                      exact RI _ 118 _ _ _ (rU1 hs) rfl (rV1 hs) dX10_look_118
                  · intro hs
                    refine g_aload_n X dX10_look_96 (q := 97) rfl 0 rfl ?_
                    refine g_bipush X dX10_look_97 (q := 99) rfl li_b69 ?_
                    refine g_iconst X dX10_look_99 (q := 100) rfl li_im1 ?_
                    refine v_manyOf X dX10_look_100 (q := 103) rfl (Nat.le_of_ble_eq_true rfl) (Nat.le_of_ble_eq_true rfl) (Nat.le_of_ble_eq_true rfl) hs (fun y5 hs => ?_)
                    exact RI _ 103 _ _ _ (rU1 hs) rfl (rV1 hs) dX10_look_103
                · intro hs
                  refine g_aload_n X dX10_look_85 (q := 86) rfl 0 rfl ?_
                  refine mg_36 X dX10_look_86 (q := 89) rfl ?_
                  exact RI _ 89 _ _ _ (rU1 hs) rfl (rV1 hs) dX10_look_89
              · intro hs
                refine g_aload_n X dX10_look_74 (q := 75) rfl 0 rfl ?_
                refine mg_34 X dX10_look_75 (q := 78) rfl ?_
                exact RI _ 78 _ _ _ (rU1 hs) rfl (rV1 hs) dX10_look_78
            · intro hs
              refine g_aload_n X dX10_look_61 (q := 62) rfl 0 rfl ?_
              refine mg_1 X dX10_look_62 (q := 65) rfl ?_
              refine g_iconst X dX10_look_65 (q := 66) rfl li_i4 ?_
              refine mk_1 X dX10_look_66 (q := 67) rfl (j := 4) (by decide) (by decide) hs (fun y6 hs => ?_)
              exact RI _ 67 _ _ _ (rU1 hs) rfl (rV1 hs) dX10_look_67
          · intro hs
            refine g_aload_n X dX10_look_51 (q := 52) rfl 0 rfl ?_
            refine mg_8 X dX10_look_52 (q := 55) rfl ?_
            exact RI _ 55 _ _ _ (rU1 hs) rfl (rV1 hs) dX10_look_55
        · intro hs
          refine g_aload_n X dX10_look_41 (q := 42) rfl 0 rfl ?_
          refine v_wind X dX10_look_42 (q := 45) rfl (Nat.le_of_ble_eq_true rfl) (Nat.le_of_ble_eq_true rfl) (Nat.le_of_ble_eq_true rfl) hs (fun y7 hs => ?_)
          exact RI _ 45 _ _ _ (rU1 hs) rfl (rV1 hs) dX10_look_45
      · intro hs
        refine g_aload_n X dX10_look_29 (q := 30) rfl 0 rfl ?_
        refine mg_1 X dX10_look_30 (q := 33) rfl ?_
        refine g_iconst X dX10_look_33 (q := 34) rfl li_i0 ?_
        refine mk_1 X dX10_look_34 (q := 35) rfl (j := 0) (by decide) (by decide) hs (fun y8 hs => ?_)
        exact RI _ 35 _ _ _ (rU1 hs) rfl (rV1 hs) dX10_look_35
    · intro hs
      refine g_aload_n X dX10_look_19 (q := 20) rfl 0 rfl ?_
      refine v_high X dX10_look_20 (q := 23) rfl (Nat.le_of_ble_eq_true rfl) (Nat.le_of_ble_eq_true rfl) (Nat.le_of_ble_eq_true rfl) hs (fun y9 hs => ?_)
      exact RI _ 23 _ _ _ (rU1 hs) rfl (rV1 hs) dX10_look_23
  · intro hs
    refine g_aload_n X dX10_look_9 (q := 10) rfl 0 rfl ?_
    refine v_wide X dX10_look_10 (q := 13) rfl (Nat.le_of_ble_eq_true rfl) (Nat.le_of_ble_eq_true rfl) (Nat.le_of_ble_eq_true rfl) hs (fun y10 hs => ?_)
    exact RI _ 13 _ _ _ (rU1 hs) rfl (rV1 hs) dX10_look_13
