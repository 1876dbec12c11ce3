theorem dX10_takesLaw_0 : decode cX10_takesLaw 0 = .ok (.iconst 0, 1) := by decide +kernel
theorem dX10_takesLaw_1 : decode cX10_takesLaw 1 = .ok (.istore_n 2, 1) := by decide +kernel
theorem dX10_takesLaw_2 : decode cX10_takesLaw 2 = .ok (.iload_n 2, 1) := by decide +kernel
theorem dX10_takesLaw_3 : decode cX10_takesLaw 3 = .ok (.iload_n 1, 1) := by decide +kernel
theorem dX10_takesLaw_4 : decode cX10_takesLaw 4 = .ok (.if_icmp .ge 101, 3) := by decide +kernel
theorem dX10_takesLaw_7 : decode cX10_takesLaw 7 = .ok (.aload_n 0, 1) := by decide +kernel
theorem dX10_takesLaw_8 : decode cX10_takesLaw 8 = .ok (.getfield 34, 3) := by decide +kernel
theorem dX10_takesLaw_11 : decode cX10_takesLaw 11 = .ok (.bipush 16, 2) := by decide +kernel
theorem dX10_takesLaw_13 : decode cX10_takesLaw 13 = .ok (.aload_n 0, 1) := by decide +kernel
theorem dX10_takesLaw_14 : decode cX10_takesLaw 14 = .ok (.getfield 235, 3) := by decide +kernel
theorem dX10_takesLaw_17 : decode cX10_takesLaw 17 = .ok (.imul, 1) := by decide +kernel
theorem dX10_takesLaw_18 : decode cX10_takesLaw 18 = .ok (.iload_n 2, 1) := by decide +kernel
theorem dX10_takesLaw_19 : decode cX10_takesLaw 19 = .ok (.iadd, 1) := by decide +kernel
theorem dX10_takesLaw_20 : decode cX10_takesLaw 20 = .ok (.aload_n 0, 1) := by decide +kernel
theorem dX10_takesLaw_21 : decode cX10_takesLaw 21 = .ok (.getfield 34, 3) := by decide +kernel
theorem dX10_takesLaw_24 : decode cX10_takesLaw 24 = .ok (.bipush 32, 2) := by decide +kernel
theorem dX10_takesLaw_26 : decode cX10_takesLaw 26 = .ok (.iload_n 2, 1) := by decide +kernel
theorem dX10_takesLaw_27 : decode cX10_takesLaw 27 = .ok (.iadd, 1) := by decide +kernel
theorem dX10_takesLaw_28 : decode cX10_takesLaw 28 = .ok (.iaload, 1) := by decide +kernel
theorem dX10_takesLaw_29 : decode cX10_takesLaw 29 = .ok (.iastore, 1) := by decide +kernel
theorem dX10_takesLaw_30 : decode cX10_takesLaw 30 = .ok (.aload_n 0, 1) := by decide +kernel
theorem dX10_takesLaw_31 : decode cX10_takesLaw 31 = .ok (.getfield 37, 3) := by decide +kernel
theorem dX10_takesLaw_34 : decode cX10_takesLaw 34 = .ok (.bipush 16, 2) := by decide +kernel
theorem dX10_takesLaw_36 : decode cX10_takesLaw 36 = .ok (.aload_n 0, 1) := by decide +kernel
theorem dX10_takesLaw_37 : decode cX10_takesLaw 37 = .ok (.getfield 235, 3) := by decide +kernel
theorem dX10_takesLaw_40 : decode cX10_takesLaw 40 = .ok (.imul, 1) := by decide +kernel
theorem dX10_takesLaw_41 : decode cX10_takesLaw 41 = .ok (.iload_n 2, 1) := by decide +kernel
theorem dX10_takesLaw_42 : decode cX10_takesLaw 42 = .ok (.iadd, 1) := by decide +kernel
theorem dX10_takesLaw_43 : decode cX10_takesLaw 43 = .ok (.aload_n 0, 1) := by decide +kernel
theorem dX10_takesLaw_44 : decode cX10_takesLaw 44 = .ok (.getfield 37, 3) := by decide +kernel
theorem dX10_takesLaw_47 : decode cX10_takesLaw 47 = .ok (.bipush 32, 2) := by decide +kernel
theorem dX10_takesLaw_49 : decode cX10_takesLaw 49 = .ok (.iload_n 2, 1) := by decide +kernel
theorem dX10_takesLaw_50 : decode cX10_takesLaw 50 = .ok (.iadd, 1) := by decide +kernel
theorem dX10_takesLaw_51 : decode cX10_takesLaw 51 = .ok (.iaload, 1) := by decide +kernel
theorem dX10_takesLaw_52 : decode cX10_takesLaw 52 = .ok (.iastore, 1) := by decide +kernel
theorem dX10_takesLaw_53 : decode cX10_takesLaw 53 = .ok (.aload_n 0, 1) := by decide +kernel
theorem dX10_takesLaw_54 : decode cX10_takesLaw 54 = .ok (.getfield 40, 3) := by decide +kernel
theorem dX10_takesLaw_57 : decode cX10_takesLaw 57 = .ok (.bipush 16, 2) := by decide +kernel
theorem dX10_takesLaw_59 : decode cX10_takesLaw 59 = .ok (.aload_n 0, 1) := by decide +kernel
theorem dX10_takesLaw_60 : decode cX10_takesLaw 60 = .ok (.getfield 235, 3) := by decide +kernel
theorem dX10_takesLaw_63 : decode cX10_takesLaw 63 = .ok (.imul, 1) := by decide +kernel
theorem dX10_takesLaw_64 : decode cX10_takesLaw 64 = .ok (.iload_n 2, 1) := by decide +kernel
theorem dX10_takesLaw_65 : decode cX10_takesLaw 65 = .ok (.iadd, 1) := by decide +kernel
theorem dX10_takesLaw_66 : decode cX10_takesLaw 66 = .ok (.aload_n 0, 1) := by decide +kernel
theorem dX10_takesLaw_67 : decode cX10_takesLaw 67 = .ok (.getfield 40, 3) := by decide +kernel
theorem dX10_takesLaw_70 : decode cX10_takesLaw 70 = .ok (.bipush 32, 2) := by decide +kernel
theorem dX10_takesLaw_72 : decode cX10_takesLaw 72 = .ok (.iload_n 2, 1) := by decide +kernel
theorem dX10_takesLaw_73 : decode cX10_takesLaw 73 = .ok (.iadd, 1) := by decide +kernel
theorem dX10_takesLaw_74 : decode cX10_takesLaw 74 = .ok (.iaload, 1) := by decide +kernel
theorem dX10_takesLaw_75 : decode cX10_takesLaw 75 = .ok (.iastore, 1) := by decide +kernel
theorem dX10_takesLaw_76 : decode cX10_takesLaw 76 = .ok (.aload_n 0, 1) := by decide +kernel
theorem dX10_takesLaw_77 : decode cX10_takesLaw 77 = .ok (.getfield 43, 3) := by decide +kernel
theorem dX10_takesLaw_80 : decode cX10_takesLaw 80 = .ok (.bipush 16, 2) := by decide +kernel
theorem dX10_takesLaw_82 : decode cX10_takesLaw 82 = .ok (.aload_n 0, 1) := by decide +kernel
theorem dX10_takesLaw_83 : decode cX10_takesLaw 83 = .ok (.getfield 235, 3) := by decide +kernel
theorem dX10_takesLaw_86 : decode cX10_takesLaw 86 = .ok (.imul, 1) := by decide +kernel
theorem dX10_takesLaw_87 : decode cX10_takesLaw 87 = .ok (.iload_n 2, 1) := by decide +kernel
theorem dX10_takesLaw_88 : decode cX10_takesLaw 88 = .ok (.iadd, 1) := by decide +kernel
theorem dX10_takesLaw_89 : decode cX10_takesLaw 89 = .ok (.aload_n 0, 1) := by decide +kernel
theorem dX10_takesLaw_90 : decode cX10_takesLaw 90 = .ok (.getfield 43, 3) := by decide +kernel
theorem dX10_takesLaw_93 : decode cX10_takesLaw 93 = .ok (.bipush 32, 2) := by decide +kernel
theorem dX10_takesLaw_95 : decode cX10_takesLaw 95 = .ok (.iload_n 2, 1) := by decide +kernel
theorem dX10_takesLaw_96 : decode cX10_takesLaw 96 = .ok (.iadd, 1) := by decide +kernel
theorem dX10_takesLaw_97 : decode cX10_takesLaw 97 = .ok (.iaload, 1) := by decide +kernel
theorem dX10_takesLaw_98 : decode cX10_takesLaw 98 = .ok (.iastore, 1) := by decide +kernel
theorem dX10_takesLaw_99 : decode cX10_takesLaw 99 = .ok (.iinc 2 1, 3) := by decide +kernel
theorem dX10_takesLaw_102 : decode cX10_takesLaw 102 = .ok (.goto (-100), 3) := by decide +kernel
theorem dX10_takesLaw_105 : decode cX10_takesLaw 105 = .ok (.iconst 0, 1) := by decide +kernel
theorem dX10_takesLaw_106 : decode cX10_takesLaw 106 = .ok (.istore_n 2, 1) := by decide +kernel
theorem dX10_takesLaw_107 : decode cX10_takesLaw 107 = .ok (.iload_n 2, 1) := by decide +kernel
theorem dX10_takesLaw_108 : decode cX10_takesLaw 108 = .ok (.aload_n 0, 1) := by decide +kernel
theorem dX10_takesLaw_109 : decode cX10_takesLaw 109 = .ok (.getfield 182, 3) := by decide +kernel
theorem dX10_takesLaw_112 : decode cX10_takesLaw 112 = .ok (.if_icmp .ge 59, 3) := by decide +kernel
theorem dX10_takesLaw_115 : decode cX10_takesLaw 115 = .ok (.aload_n 0, 1) := by decide +kernel
theorem dX10_takesLaw_116 : decode cX10_takesLaw 116 = .ok (.getfield 46, 3) := by decide +kernel
theorem dX10_takesLaw_119 : decode cX10_takesLaw 119 = .ok (.sipush 400, 3) := by decide +kernel
theorem dX10_takesLaw_122 : decode cX10_takesLaw 122 = .ok (.aload_n 0, 1) := by decide +kernel
theorem dX10_takesLaw_123 : decode cX10_takesLaw 123 = .ok (.getfield 235, 3) := by decide +kernel
theorem dX10_takesLaw_126 : decode cX10_takesLaw 126 = .ok (.imul, 1) := by decide +kernel
theorem dX10_takesLaw_127 : decode cX10_takesLaw 127 = .ok (.iload_n 2, 1) := by decide +kernel
theorem dX10_takesLaw_128 : decode cX10_takesLaw 128 = .ok (.iadd, 1) := by decide +kernel
theorem dX10_takesLaw_129 : decode cX10_takesLaw 129 = .ok (.aload_n 0, 1) := by decide +kernel
theorem dX10_takesLaw_130 : decode cX10_takesLaw 130 = .ok (.getfield 46, 3) := by decide +kernel
theorem dX10_takesLaw_133 : decode cX10_takesLaw 133 = .ok (.sipush 800, 3) := by decide +kernel
theorem dX10_takesLaw_136 : decode cX10_takesLaw 136 = .ok (.iload_n 2, 1) := by decide +kernel
theorem dX10_takesLaw_137 : decode cX10_takesLaw 137 = .ok (.iadd, 1) := by decide +kernel
theorem dX10_takesLaw_138 : decode cX10_takesLaw 138 = .ok (.iaload, 1) := by decide +kernel
theorem dX10_takesLaw_139 : decode cX10_takesLaw 139 = .ok (.iastore, 1) := by decide +kernel
theorem dX10_takesLaw_140 : decode cX10_takesLaw 140 = .ok (.aload_n 0, 1) := by decide +kernel
theorem dX10_takesLaw_141 : decode cX10_takesLaw 141 = .ok (.getfield 49, 3) := by decide +kernel
theorem dX10_takesLaw_144 : decode cX10_takesLaw 144 = .ok (.sipush 400, 3) := by decide +kernel
theorem dX10_takesLaw_147 : decode cX10_takesLaw 147 = .ok (.aload_n 0, 1) := by decide +kernel
theorem dX10_takesLaw_148 : decode cX10_takesLaw 148 = .ok (.getfield 235, 3) := by decide +kernel
theorem dX10_takesLaw_151 : decode cX10_takesLaw 151 = .ok (.imul, 1) := by decide +kernel
theorem dX10_takesLaw_152 : decode cX10_takesLaw 152 = .ok (.iload_n 2, 1) := by decide +kernel
theorem dX10_takesLaw_153 : decode cX10_takesLaw 153 = .ok (.iadd, 1) := by decide +kernel
theorem dX10_takesLaw_154 : decode cX10_takesLaw 154 = .ok (.aload_n 0, 1) := by decide +kernel
theorem dX10_takesLaw_155 : decode cX10_takesLaw 155 = .ok (.getfield 49, 3) := by decide +kernel
theorem dX10_takesLaw_158 : decode cX10_takesLaw 158 = .ok (.sipush 800, 3) := by decide +kernel
theorem dX10_takesLaw_161 : decode cX10_takesLaw 161 = .ok (.iload_n 2, 1) := by decide +kernel
theorem dX10_takesLaw_162 : decode cX10_takesLaw 162 = .ok (.iadd, 1) := by decide +kernel
theorem dX10_takesLaw_163 : decode cX10_takesLaw 163 = .ok (.iaload, 1) := by decide +kernel
theorem dX10_takesLaw_164 : decode cX10_takesLaw 164 = .ok (.iastore, 1) := by decide +kernel
theorem dX10_takesLaw_165 : decode cX10_takesLaw 165 = .ok (.iinc 2 1, 3) := by decide +kernel
theorem dX10_takesLaw_168 : decode cX10_takesLaw 168 = .ok (.goto (-61), 3) := by decide +kernel
theorem dX10_takesLaw_171 : decode cX10_takesLaw 171 = .ok (.aload_n 0, 1) := by decide +kernel
theorem dX10_takesLaw_172 : decode cX10_takesLaw 172 = .ok (.getfield 31, 3) := by decide +kernel
theorem dX10_takesLaw_175 : decode cX10_takesLaw 175 = .ok (.aload_n 0, 1) := by decide +kernel
theorem dX10_takesLaw_176 : decode cX10_takesLaw 176 = .ok (.getfield 235, 3) := by decide +kernel
theorem dX10_takesLaw_179 : decode cX10_takesLaw 179 = .ok (.iload_n 1, 1) := by decide +kernel
theorem dX10_takesLaw_180 : decode cX10_takesLaw 180 = .ok (.iastore, 1) := by decide +kernel
theorem dX10_takesLaw_181 : decode cX10_takesLaw 181 = .ok (.return_, 1) := by decide +kernel
def M_takesLaw (s : ST) (x1 : Int32) : Option (ST) := lpK2 (C := ST) (fun (rec1 : Int32 → ST → Option (ST)) (a1 : Int32) (s1 : ST) => if x1 ≤ a1 then (lpK2 (C := ST) (fun (rec2 : Int32 → ST → Option (ST)) (a2 : Int32) (s2 : ST) => if (s2.1 0 26) ≤ a2 then (Gs s2 8 2 (s2.1 0 25) x1 fun s3 => some s3) else (Gl s2 13 1200 ((800 : Int32) + a2) fun y1 => Gs s2 13 1200 (((400 : Int32) * (s2.1 0 25)) + a2) y1 fun s4 => Gl s4 14 1200 ((800 : Int32) + a2) fun y2 => Gs s4 14 1200 (((400 : Int32) * (s4.1 0 25)) + a2) y2 fun s5 => rec2 (a2 + (1 : Int32)) s5)) FU (0 : Int32) s1) else (Gl s1 9 48 ((32 : Int32) + a1) fun y3 => Gs s1 9 48 (((16 : Int32) * (s1.1 0 25)) + a1) y3 fun s6 => Gl s6 10 48 ((32 : Int32) + a1) fun y4 => Gs s6 10 48 (((16 : Int32) * (s6.1 0 25)) + a1) y4 fun s7 => Gl s7 11 48 ((32 : Int32) + a1) fun y5 => Gs s7 11 48 (((16 : Int32) * (s7.1 0 25)) + a1) y5 fun s8 => Gl s8 12 48 ((32 : Int32) + a1) fun y6 => Gs s8 12 48 (((16 : Int32) * (s8.1 0 25)) + a1) y6 fun s9 => rec1 (a1 + (1 : Int32)) s9)) FU (0 : Int32) s
set_option maxRecDepth 100000 in
set_option maxHeartbeats 4000000 in
theorem k_takesLaw (l : Launch) (D : va_G) (cA : ClassId) (h : Nat → Nat) (s : ST) (x1 : Int32) {o : ST} (hs : M_takesLaw s x1 = some o) : MV l (KM D cA h) 1 yX10_takesLaw cX10_takesLaw 3 none s [.ref (h 0), .int x1] o := by
  refine met_v (by decide) (Nat.le_of_ble_eq_true rfl) ?_
  intro p e st m args below meth c Q X RI
  unfold M_takesLaw at hs
  refine g_iconst X dX10_takesLaw_0 (q := 1) rfl li_i0 ?_
  refine g_istore_n X dX10_takesLaw_1 (q := 2) rfl (Nat.le_of_ble_eq_true rfl) (lv' := [(2, .int (0 : Int32)), (0, .ref (h 0)), (1, .int x1)]) rfl ?_
  refine wg_sub [1, 2, 0] rfl (lpW2 (fun (a1 : Int32) (s1 : ST) => WG (KM D cA h) p l e (rmD 1) st m args below meth c Q 3 s1 2 [(0, .ref (h 0)), (1, .int x1), (2, .int a1)] []) (fun rec1 ih1 a1 s1 hs => ?_) _ _ _ hs)
  refine g_iload_n X dX10_takesLaw_2 (q := 3) rfl 2 rfl ?_
  refine g_iload_n X dX10_takesLaw_3 (q := 4) rfl 1 rfl ?_
  refine g_icmp_ge X dX10_takesLaw_4 (q := 7) rfl (tgt := 105) (by decide) hs ?_ ?_
  · intro hs
    refine g_iconst X dX10_takesLaw_105 (q := 106) rfl li_i0 ?_
    refine g_istore_n X dX10_takesLaw_106 (q := 107) rfl (Nat.le_of_ble_eq_true rfl) (lv' := [(2, .int (0 : Int32)), (0, .ref (h 0)), (1, .int x1)]) rfl ?_
    refine wg_sub [1, 2, 0] rfl (lpW2 (fun (a2 : Int32) (s2 : ST) => WG (KM D cA h) p l e (rmD 1) st m args below meth c Q 3 s2 107 [(0, .ref (h 0)), (1, .int x1), (2, .int a2)] []) (fun rec2 ih2 a2 s2 hs => ?_) _ _ _ hs)
    refine g_iload_n X dX10_takesLaw_107 (q := 108) rfl 2 rfl ?_
    refine g_aload_n X dX10_takesLaw_108 (q := 109) rfl 0 rfl ?_
    refine mg_26 X dX10_takesLaw_109 (q := 112) rfl ?_
    refine g_icmp_ge X dX10_takesLaw_112 (q := 115) rfl (tgt := 171) (by decide) hs ?_ ?_
    · intro hs
      refine g_aload_n X dX10_takesLaw_171 (q := 172) rfl 0 rfl ?_
      refine mg_18 X dX10_takesLaw_172 (q := 175) rfl ?_
      refine g_aload_n X dX10_takesLaw_175 (q := 176) rfl 0 rfl ?_
      refine mg_25 X dX10_takesLaw_176 (q := 179) rfl ?_
      refine g_iload_n X dX10_takesLaw_179 (q := 180) rfl 1 rfl ?_
      refine ms_8 X dX10_takesLaw_180 (q := 181) rfl hs (fun s3 hs => ?_)
      exact RI _ 181 _ (Option.some.inj hs) dX10_takesLaw_181
    · intro hs
      refine g_aload_n X dX10_takesLaw_115 (q := 116) rfl 0 rfl ?_
      refine mg_23 X dX10_takesLaw_116 (q := 119) rfl ?_
      refine g_sipush X dX10_takesLaw_119 (q := 122) rfl li_s400 ?_
      refine g_aload_n X dX10_takesLaw_122 (q := 123) rfl 0 rfl ?_
      refine mg_25 X dX10_takesLaw_123 (q := 126) rfl ?_
      refine g_imul X dX10_takesLaw_126 (q := 127) rfl ?_
      refine g_iload_n X dX10_takesLaw_127 (q := 128) rfl 2 rfl ?_
      refine g_iadd X dX10_takesLaw_128 (q := 129) rfl ?_
      refine g_aload_n X dX10_takesLaw_129 (q := 130) rfl 0 rfl ?_
      refine mg_23 X dX10_takesLaw_130 (q := 133) rfl ?_
      refine g_sipush X dX10_takesLaw_133 (q := 136) rfl li_s800 ?_
      refine g_iload_n X dX10_takesLaw_136 (q := 137) rfl 2 rfl ?_
      refine g_iadd X dX10_takesLaw_137 (q := 138) rfl ?_
      refine ma_13 X dX10_takesLaw_138 (q := 139) rfl hs (fun y1 hs => ?_)
      refine ms_13 X dX10_takesLaw_139 (q := 140) rfl hs (fun s4 hs => ?_)
      refine g_aload_n X dX10_takesLaw_140 (q := 141) rfl 0 rfl ?_
      refine mg_24 X dX10_takesLaw_141 (q := 144) rfl ?_
      refine g_sipush X dX10_takesLaw_144 (q := 147) rfl li_s400 ?_
      refine g_aload_n X dX10_takesLaw_147 (q := 148) rfl 0 rfl ?_
      refine mg_25 X dX10_takesLaw_148 (q := 151) rfl ?_
      refine g_imul X dX10_takesLaw_151 (q := 152) rfl ?_
      refine g_iload_n X dX10_takesLaw_152 (q := 153) rfl 2 rfl ?_
      refine g_iadd X dX10_takesLaw_153 (q := 154) rfl ?_
      refine g_aload_n X dX10_takesLaw_154 (q := 155) rfl 0 rfl ?_
      refine mg_24 X dX10_takesLaw_155 (q := 158) rfl ?_
      refine g_sipush X dX10_takesLaw_158 (q := 161) rfl li_s800 ?_
      refine g_iload_n X dX10_takesLaw_161 (q := 162) rfl 2 rfl ?_
      refine g_iadd X dX10_takesLaw_162 (q := 163) rfl ?_
      refine ma_14 X dX10_takesLaw_163 (q := 164) rfl hs (fun y2 hs => ?_)
      refine ms_14 X dX10_takesLaw_164 (q := 165) rfl hs (fun s5 hs => ?_)
      refine g_iinc X dX10_takesLaw_165 (q := 168) rfl 2 rfl (v := (a2 + (1 : Int32))) (congrArg (HAdd.hAdd a2) li_i1) (Nat.le_of_ble_eq_true rfl) (lv' := [(2, .int (a2 + (1 : Int32))), (0, .ref (h 0)), (1, .int x1)]) rfl ?_
      refine g_goto X dX10_takesLaw_168 (tgt := 107) (by decide) ?_
      exact wg_sub [1, 2, 0] rfl (ih2 _ _ hs)
  · intro hs
    refine g_aload_n X dX10_takesLaw_7 (q := 8) rfl 0 rfl ?_
    refine mg_19 X dX10_takesLaw_8 (q := 11) rfl ?_
    refine g_bipush X dX10_takesLaw_11 (q := 13) rfl li_b16 ?_
    refine g_aload_n X dX10_takesLaw_13 (q := 14) rfl 0 rfl ?_
    refine mg_25 X dX10_takesLaw_14 (q := 17) rfl ?_
    refine g_imul X dX10_takesLaw_17 (q := 18) rfl ?_
    refine g_iload_n X dX10_takesLaw_18 (q := 19) rfl 2 rfl ?_
    refine g_iadd X dX10_takesLaw_19 (q := 20) rfl ?_
    refine g_aload_n X dX10_takesLaw_20 (q := 21) rfl 0 rfl ?_
    refine mg_19 X dX10_takesLaw_21 (q := 24) rfl ?_
    refine g_bipush X dX10_takesLaw_24 (q := 26) rfl li_b32 ?_
    refine g_iload_n X dX10_takesLaw_26 (q := 27) rfl 2 rfl ?_
    refine g_iadd X dX10_takesLaw_27 (q := 28) rfl ?_
    refine ma_9 X dX10_takesLaw_28 (q := 29) rfl hs (fun y3 hs => ?_)
    refine ms_9 X dX10_takesLaw_29 (q := 30) rfl hs (fun s6 hs => ?_)
    refine g_aload_n X dX10_takesLaw_30 (q := 31) rfl 0 rfl ?_
    refine mg_20 X dX10_takesLaw_31 (q := 34) rfl ?_
    refine g_bipush X dX10_takesLaw_34 (q := 36) rfl li_b16 ?_
    refine g_aload_n X dX10_takesLaw_36 (q := 37) rfl 0 rfl ?_
    refine mg_25 X dX10_takesLaw_37 (q := 40) rfl ?_
    refine g_imul X dX10_takesLaw_40 (q := 41) rfl ?_
    refine g_iload_n X dX10_takesLaw_41 (q := 42) rfl 2 rfl ?_
    refine g_iadd X dX10_takesLaw_42 (q := 43) rfl ?_
    refine g_aload_n X dX10_takesLaw_43 (q := 44) rfl 0 rfl ?_
    refine mg_20 X dX10_takesLaw_44 (q := 47) rfl ?_
    refine g_bipush X dX10_takesLaw_47 (q := 49) rfl li_b32 ?_
    refine g_iload_n X dX10_takesLaw_49 (q := 50) rfl 2 rfl ?_
    refine g_iadd X dX10_takesLaw_50 (q := 51) rfl ?_
    refine ma_10 X dX10_takesLaw_51 (q := 52) rfl hs (fun y4 hs => ?_)
    refine ms_10 X dX10_takesLaw_52 (q := 53) rfl hs (fun s7 hs => ?_)
    refine g_aload_n X dX10_takesLaw_53 (q := 54) rfl 0 rfl ?_
    refine mg_21 X dX10_takesLaw_54 (q := 57) rfl ?_
    refine g_bipush X dX10_takesLaw_57 (q := 59) rfl li_b16 ?_
    refine g_aload_n X dX10_takesLaw_59 (q := 60) rfl 0 rfl ?_
    refine mg_25 X dX10_takesLaw_60 (q := 63) rfl ?_
    refine g_imul X dX10_takesLaw_63 (q := 64) rfl ?_
    refine g_iload_n X dX10_takesLaw_64 (q := 65) rfl 2 rfl ?_
    refine g_iadd X dX10_takesLaw_65 (q := 66) rfl ?_
    refine g_aload_n X dX10_takesLaw_66 (q := 67) rfl 0 rfl ?_
    refine mg_21 X dX10_takesLaw_67 (q := 70) rfl ?_
    refine g_bipush X dX10_takesLaw_70 (q := 72) rfl li_b32 ?_
    refine g_iload_n X dX10_takesLaw_72 (q := 73) rfl 2 rfl ?_
    refine g_iadd X dX10_takesLaw_73 (q := 74) rfl ?_
    refine ma_11 X dX10_takesLaw_74 (q := 75) rfl hs (fun y5 hs => ?_)
    refine ms_11 X dX10_takesLaw_75 (q := 76) rfl hs (fun s8 hs => ?_)
    refine g_aload_n X dX10_takesLaw_76 (q := 77) rfl 0 rfl ?_
    refine mg_22 X dX10_takesLaw_77 (q := 80) rfl ?_
    refine g_bipush X dX10_takesLaw_80 (q := 82) rfl li_b16 ?_
    refine g_aload_n X dX10_takesLaw_82 (q := 83) rfl 0 rfl ?_
    refine mg_25 X dX10_takesLaw_83 (q := 86) rfl ?_
    refine g_imul X dX10_takesLaw_86 (q := 87) rfl ?_
    refine g_iload_n X dX10_takesLaw_87 (q := 88) rfl 2 rfl ?_
    refine g_iadd X dX10_takesLaw_88 (q := 89) rfl ?_
    refine g_aload_n X dX10_takesLaw_89 (q := 90) rfl 0 rfl ?_
    refine mg_22 X dX10_takesLaw_90 (q := 93) rfl ?_
    refine g_bipush X dX10_takesLaw_93 (q := 95) rfl li_b32 ?_
    refine g_iload_n X dX10_takesLaw_95 (q := 96) rfl 2 rfl ?_
    refine g_iadd X dX10_takesLaw_96 (q := 97) rfl ?_
    refine ma_12 X dX10_takesLaw_97 (q := 98) rfl hs (fun y6 hs => ?_)
    refine ms_12 X dX10_takesLaw_98 (q := 99) rfl hs (fun s9 hs => ?_)
    refine g_iinc X dX10_takesLaw_99 (q := 102) rfl 2 rfl (v := (a1 + (1 : Int32))) (congrArg (HAdd.hAdd a1) li_i1) (Nat.le_of_ble_eq_true rfl) (lv' := [(2, .int (a1 + (1 : Int32))), (0, .ref (h 0)), (1, .int x1)]) rfl ?_
    refine g_goto X dX10_takesLaw_102 (tgt := 2) (by decide) ?_
    exact wg_sub [1, 2, 0] rfl (ih1 _ _ hs)
theorem v_takesLaw {p : Program} {l : Launch} {e : Env} {st : State} {m : MethodId} {args : Array Value} {below : List Frame} {meth : Method} {c : Code} {Q : State → Prop} {nL : Nat} {cc : ByteArray} {s : ST} {pc q : Nat} {lv : List (Nat × Value)} {rest : List Value} {D : va_G} {cA : ClassId} {h : Nat → Nat} {d0 : Nat} (X : Cx (KM D cA h) p st m args meth c cc nL RX10) {x1 : Int32} (d : decode cc pc = .ok (.invokevirtual 293, 3)) (hq : pc + 3 = q) (hd1 : 1 + 1 ≤ d0) (hd2 : 8 + (3 + 11) + 100 * 1 ≤ 100 * d0) (hr : (rest.map fun v => v.category).sum ≤ 8) {B : Type} {f : ST → Option B} {r : B} (hs : Bd (M_takesLaw s x1) f = some r) (k : ∀ y, f y = some r → WG (KM D cA h) p l e (rmD d0) st m args below meth c Q nL y q lv (rest)) : WG (KM D cA h) p l e (rmD d0) st m args below meth c Q nL s pc lv (.int x1 :: .ref (h 0) :: rest) := by
  obtain ⟨v, hv, hs⟩ := Bd_e hs
  exact cV_V X 0 (n := 1) (k_takesLaw l D cA h s x1 hv) gv_X10_takesLaw ⟨hd1, hd2⟩ ⟨by decide, by decide, by decide +kernel⟩ (As := [.int x1]) rfl hr (Nat.le_of_ble_eq_true rfl) (fs := mF h (s.1 0)) rfl rfl rfl d hq (k _ hs)
theorem dX10_readNumber_0 : decode cX10_readNumber 0 = .ok (.aload_n 0, 1) := by decide +kernel
theorem dX10_readNumber_1 : decode cX10_readNumber 1 = .ok (.getfield 157, 3) := by decide +kernel
theorem dX10_readNumber_4 : decode cX10_readNumber 4 = .ok (.iconst 3, 1) := by decide +kernel
theorem dX10_readNumber_5 : decode cX10_readNumber 5 = .ok (.if_icmp .eq 9, 3) := by decide +kernel
theorem dX10_readNumber_8 : decode cX10_readNumber 8 = .ok (.aload_n 0, 1) := by decide +kernel
theorem dX10_readNumber_9 : decode cX10_readNumber 9 = .ok (.iconst 1, 1) := by decide +kernel
theorem dX10_readNumber_10 : decode cX10_readNumber 10 = .ok (.invokevirtual 188, 3) := by decide +kernel
theorem dX10_readNumber_13 : decode cX10_readNumber 13 = .ok (.ireturn, 1) := by decide +kernel
theorem dX10_readNumber_14 : decode cX10_readNumber 14 = .ok (.aload_n 0, 1) := by decide +kernel
theorem dX10_readNumber_15 : decode cX10_readNumber 15 = .ok (.aload_n 0, 1) := by decide +kernel
theorem dX10_readNumber_16 : decode cX10_readNumber 16 = .ok (.getfield 160, 3) := by decide +kernel
theorem dX10_readNumber_19 : decode cX10_readNumber 19 = .ok (.iload_n 1, 1) := by decide +kernel
theorem dX10_readNumber_20 : decode cX10_readNumber 20 = .ok (.iload_n 2, 1) := by decide +kernel
theorem dX10_readNumber_21 : decode cX10_readNumber 21 = .ok (.invokevirtual 111, 3) := by decide +kernel
theorem dX10_readNumber_24 : decode cX10_readNumber 24 = .ok (.ifCond .ne 9, 3) := by decide +kernel
theorem dX10_readNumber_27 : decode cX10_readNumber 27 = .ok (.aload_n 0, 1) := by decide +kernel
theorem dX10_readNumber_28 : decode cX10_readNumber 28 = .ok (.iconst 2, 1) := by decide +kernel
theorem dX10_readNumber_29 : decode cX10_readNumber 29 = .ok (.invokevirtual 188, 3) := by decide +kernel
theorem dX10_readNumber_32 : decode cX10_readNumber 32 = .ok (.ireturn, 1) := by decide +kernel
theorem dX10_readNumber_33 : decode cX10_readNumber 33 = .ok (.aload_n 0, 1) := by decide +kernel
theorem dX10_readNumber_34 : decode cX10_readNumber 34 = .ok (.getfield 160, 3) := by decide +kernel
theorem dX10_readNumber_37 : decode cX10_readNumber 37 = .ok (.istore_n 3, 1) := by decide +kernel
theorem dX10_readNumber_38 : decode cX10_readNumber 38 = .ok (.aload_n 0, 1) := by decide +kernel
theorem dX10_readNumber_39 : decode cX10_readNumber 39 = .ok (.invokevirtual 195, 3) := by decide +kernel
theorem dX10_readNumber_42 : decode cX10_readNumber 42 = .ok (.iload_n 3, 1) := by decide +kernel
theorem dX10_readNumber_43 : decode cX10_readNumber 43 = .ok (.ireturn, 1) := by decide +kernel
def M_readNumber (s : ST) (x1 : Int32) (x2 : Int32) : Option (Int32 × ST) := if (s.1 0 15) = (3 : Int32) then (Lt (M_isIn s (s.1 0 16) x1 x2) fun y1 => if y1 = 0 then (Lt (M_errs s (2 : Int32)) fun y3 => some (y3.1, y3.2)) else (Lt ((s.1 0 16)) fun y2 => Bd (M_reads s) fun s1 => some (y2, s1))) else (Lt (M_errs s (1 : Int32)) fun y4 => some (y4.1, y4.2))
set_option maxRecDepth 100000 in
set_option maxHeartbeats 4000000 in
theorem k_readNumber (l : Launch) (D : va_G) (cA : ClassId) (h : Nat → Nat) (s : ST) (x1 : Int32) (x2 : Int32) {o : Int32 × ST} (hs : M_readNumber s x1 x2 = some o) : MI l (KM D cA h) 4 yX10_readNumber cX10_readNumber 4 (some .int) s [.ref (h 0), .int x1, .int x2] o.1 o.2 := by
  refine met_i (by decide) (Nat.le_of_ble_eq_true rfl) ?_
  intro p e st m args below meth c Q X RI
  unfold M_readNumber at hs
  refine g_aload_n X dX10_readNumber_0 (q := 1) rfl 0 rfl ?_
  refine mg_15 X dX10_readNumber_1 (q := 4) rfl ?_
  refine g_iconst X dX10_readNumber_4 (q := 5) rfl li_i3 ?_
  refine g_icmp_eq X dX10_readNumber_5 (q := 8) rfl (tgt := 14) (by decide) hs ?_ ?_
  · intro hs
    refine g_aload_n X dX10_readNumber_14 (q := 15) rfl 0 rfl ?_
    refine g_aload_n X dX10_readNumber_15 (q := 16) rfl 0 rfl ?_
    refine mg_16 X dX10_readNumber_16 (q := 19) rfl ?_
    refine g_iload_n X dX10_readNumber_19 (q := 20) rfl 1 rfl ?_
    refine g_iload_n X dX10_readNumber_20 (q := 21) rfl 2 rfl ?_
    refine v_isIn X dX10_readNumber_21 (q := 24) rfl (Nat.le_of_ble_eq_true rfl) (Nat.le_of_ble_eq_true rfl) (Nat.le_of_ble_eq_true rfl) hs (fun y1 hs => ?_)
    refine g_if_ne X dX10_readNumber_24 (q := 27) rfl (tgt := 33) (by decide) hs ?_ ?_
    · intro hs
      refine g_aload_n X dX10_readNumber_33 (q := 34) rfl 0 rfl ?_
      refine mg_16 X dX10_readNumber_34 (q := 37) rfl ?_
      refine nmI hs (fun y2 hs => ?_)
      refine g_istore_n X dX10_readNumber_37 (q := 38) rfl (Nat.le_of_ble_eq_true rfl) (lv' := [(3, .int y2), (0, .ref (h 0)), (1, .int x1), (2, .int x2)]) rfl ?_
      refine g_aload_n X dX10_readNumber_38 (q := 39) rfl 1 rfl ?_
      refine v_reads X dX10_readNumber_39 (q := 42) rfl (Nat.le_of_ble_eq_true rfl) (Nat.le_of_ble_eq_true rfl) (Nat.le_of_ble_eq_true rfl) hs (fun s1 hs => ?_)
      refine g_iload_n X dX10_readNumber_42 (q := 43) rfl 0 rfl ?_
      exact RI _ 43 _ _ _ (rU1 hs) rfl (rV1 hs) dX10_readNumber_43
    · intro hs
      refine g_aload_n X dX10_readNumber_27 (q := 28) rfl 0 rfl ?_
      refine g_iconst X dX10_readNumber_28 (q := 29) rfl li_i2 ?_
      refine v_errs X dX10_readNumber_29 (q := 32) rfl (Nat.le_of_ble_eq_true rfl) (Nat.le_of_ble_eq_true rfl) (Nat.le_of_ble_eq_true rfl) hs (fun y3 hs => ?_)
      exact RI _ 32 _ _ _ (rU1 hs) rfl (rV1 hs) dX10_readNumber_32
  · intro hs
    refine g_aload_n X dX10_readNumber_8 (q := 9) rfl 0 rfl ?_
    refine g_iconst X dX10_readNumber_9 (q := 10) rfl li_i1 ?_
    refine v_errs X dX10_readNumber_10 (q := 13) rfl (Nat.le_of_ble_eq_true rfl) (Nat.le_of_ble_eq_true rfl) (Nat.le_of_ble_eq_true rfl) hs (fun y4 hs => ?_)
    exact RI _ 13 _ _ _ (rU1 hs) rfl (rV1 hs) dX10_readNumber_13
theorem v_readNumber {p : Program} {l : Launch} {e : Env} {st : State} {m : MethodId} {args : Array Value} {below : List Frame} {meth : Method} {c : Code} {Q : State → Prop} {nL : Nat} {cc : ByteArray} {s : ST} {pc q : Nat} {lv : List (Nat × Value)} {rest : List Value} {D : va_G} {cA : ClassId} {h : Nat → Nat} {d0 : Nat} (X : Cx (KM D cA h) p st m args meth c cc nL RX10) {x1 : Int32} {x2 : Int32} (d : decode cc pc = .ok (.invokevirtual 241, 3)) (hq : pc + 3 = q) (hd1 : 4 + 1 ≤ d0) (hd2 : 8 + (4 + 11) + 100 * 4 ≤ 100 * d0) (hr : (rest.map fun v => v.category).sum ≤ 8) {B : Type} {f : Int32 × ST → Option B} {r : B} (hs : Bd (M_readNumber s x1 x2) f = some r) (k : ∀ y, f y = some r → WG (KM D cA h) p l e (rmD d0) st m args below meth c Q nL y.2 q lv (.int y.1 :: rest)) : WG (KM D cA h) p l e (rmD d0) st m args below meth c Q nL s pc lv (.int x2 :: .int x1 :: .ref (h 0) :: rest) := by
  obtain ⟨v, hv, hs⟩ := Bd_e hs
  exact cV_I X 0 (n := 2) (k_readNumber l D cA h s x1 x2 hv) gv_X10_readNumber ⟨hd1, hd2⟩ ⟨by decide, by decide, by decide +kernel⟩ (As := [.int x1, .int x2]) rfl hr (Nat.le_of_ble_eq_true rfl) (fs := mF h (s.1 0)) rfl rfl rfl d hq (k _ hs)
theorem dX10_readWord_0 : decode cX10_readWord 0 = .ok (.aload_n 0, 1) := by decide +kernel
theorem dX10_readWord_1 : decode cX10_readWord 1 = .ok (.iload_n 1, 1) := by decide +kernel
theorem dX10_readWord_2 : decode cX10_readWord 2 = .ok (.invokevirtual 216, 3) := by decide +kernel
theorem dX10_readWord_5 : decode cX10_readWord 5 = .ok (.ifCond .ne 9, 3) := by decide +kernel
theorem dX10_readWord_8 : decode cX10_readWord 8 = .ok (.aload_n 0, 1) := by decide +kernel
theorem dX10_readWord_9 : decode cX10_readWord 9 = .ok (.iconst 1, 1) := by decide +kernel
theorem dX10_readWord_10 : decode cX10_readWord 10 = .ok (.invokevirtual 188, 3) := by decide +kernel
theorem dX10_readWord_13 : decode cX10_readWord 13 = .ok (.ireturn, 1) := by decide +kernel
theorem dX10_readWord_14 : decode cX10_readWord 14 = .ok (.aload_n 0, 1) := by decide +kernel
theorem dX10_readWord_15 : decode cX10_readWord 15 = .ok (.invokevirtual 195, 3) := by decide +kernel
theorem dX10_readWord_18 : decode cX10_readWord 18 = .ok (.iconst 0, 1) := by decide +kernel
theorem dX10_readWord_19 : decode cX10_readWord 19 = .ok (.ireturn, 1) := by decide +kernel
def M_readWord (s : ST) (x1 : Int32) : Option (Int32 × ST) := Lt (M_isWord s x1) fun y1 => if y1 = 0 then (Lt (M_errs s (1 : Int32)) fun y2 => some (y2.1, y2.2)) else (Bd (M_reads s) fun s1 => some ((0 : Int32), s1))
set_option maxRecDepth 100000 in
set_option maxHeartbeats 4000000 in
theorem k_readWord (l : Launch) (D : va_G) (cA : ClassId) (h : Nat → Nat) (s : ST) (x1 : Int32) {o : Int32 × ST} (hs : M_readWord s x1 = some o) : MI l (KM D cA h) 4 yX10_readWord cX10_readWord 2 (some .int) s [.ref (h 0), .int x1] o.1 o.2 := by
  refine met_i (by decide) (Nat.le_of_ble_eq_true rfl) ?_
  intro p e st m args below meth c Q X RI
  unfold M_readWord at hs
  refine g_aload_n X dX10_readWord_0 (q := 1) rfl 0 rfl ?_
  refine g_iload_n X dX10_readWord_1 (q := 2) rfl 1 rfl ?_
  refine v_isWord X dX10_readWord_2 (q := 5) rfl (Nat.le_of_ble_eq_true rfl) (Nat.le_of_ble_eq_true rfl) (Nat.le_of_ble_eq_true rfl) hs (fun y1 hs => ?_)
  refine g_if_ne X dX10_readWord_5 (q := 8) rfl (tgt := 14) (by decide) hs ?_ ?_
  · intro hs
    refine g_aload_n X dX10_readWord_14 (q := 15) rfl 0 rfl ?_
    refine v_reads X dX10_readWord_15 (q := 18) rfl (Nat.le_of_ble_eq_true rfl) (Nat.le_of_ble_eq_true rfl) (Nat.le_of_ble_eq_true rfl) hs (fun s1 hs => ?_)
    refine g_iconst X dX10_readWord_18 (q := 19) rfl li_i0 ?_
    exact RI _ 19 _ _ _ (rU1 hs) rfl (rV1 hs) dX10_readWord_19
  · intro hs
    refine g_aload_n X dX10_readWord_8 (q := 9) rfl 0 rfl ?_
    refine g_iconst X dX10_readWord_9 (q := 10) rfl li_i1 ?_
    refine v_errs X dX10_readWord_10 (q := 13) rfl (Nat.le_of_ble_eq_true rfl) (Nat.le_of_ble_eq_true rfl) (Nat.le_of_ble_eq_true rfl) hs (fun y2 hs => ?_)
    exact RI _ 13 _ _ _ (rU1 hs) rfl (rV1 hs) dX10_readWord_13
theorem v_readWord {p : Program} {l : Launch} {e : Env} {st : State} {m : MethodId} {args : Array Value} {below : List Frame} {meth : Method} {c : Code} {Q : State → Prop} {nL : Nat} {cc : ByteArray} {s : ST} {pc q : Nat} {lv : List (Nat × Value)} {rest : List Value} {D : va_G} {cA : ClassId} {h : Nat → Nat} {d0 : Nat} (X : Cx (KM D cA h) p st m args meth c cc nL RX10) {x1 : Int32} (d : decode cc pc = .ok (.invokevirtual 238, 3)) (hq : pc + 3 = q) (hd1 : 4 + 1 ≤ d0) (hd2 : 8 + (2 + 11) + 100 * 4 ≤ 100 * d0) (hr : (rest.map fun v => v.category).sum ≤ 8) {B : Type} {f : Int32 × ST → Option B} {r : B} (hs : Bd (M_readWord s x1) f = some r) (k : ∀ y, f y = some r → WG (KM D cA h) p l e (rmD d0) st m args below meth c Q nL y.2 q lv (.int y.1 :: rest)) : WG (KM D cA h) p l e (rmD d0) st m args below meth c Q nL s pc lv (.int x1 :: .ref (h 0) :: rest) := by
  obtain ⟨v, hv, hs⟩ := Bd_e hs
  exact cV_I X 0 (n := 1) (k_readWord l D cA h s x1 hv) gv_X10_readWord ⟨hd1, hd2⟩ ⟨by decide, by decide, by decide +kernel⟩ (As := [.int x1]) rfl hr (Nat.le_of_ble_eq_true rfl) (fs := mF h (s.1 0)) rfl rfl rfl d hq (k _ hs)
theorem dX10_readMark_0 : decode cX10_readMark 0 = .ok (.aload_n 0, 1) := by decide +kernel
theorem dX10_readMark_1 : decode cX10_readMark 1 = .ok (.iload_n 1, 1) := by decide +kernel
theorem dX10_readMark_2 : decode cX10_readMark 2 = .ok (.invokevirtual 201, 3) := by decide +kernel
theorem dX10_readMark_5 : decode cX10_readMark 5 = .ok (.ifCond .ne 9, 3) := by decide +kernel
theorem dX10_readMark_8 : decode cX10_readMark 8 = .ok (.aload_n 0, 1) := by decide +kernel
theorem dX10_readMark_9 : decode cX10_readMark 9 = .ok (.iconst 1, 1) := by decide +kernel
theorem dX10_readMark_10 : decode cX10_readMark 10 = .ok (.invokevirtual 188, 3) := by decide +kernel
theorem dX10_readMark_13 : decode cX10_readMark 13 = .ok (.ireturn, 1) := by decide +kernel
theorem dX10_readMark_14 : decode cX10_readMark 14 = .ok (.aload_n 0, 1) := by decide +kernel
theorem dX10_readMark_15 : decode cX10_readMark 15 = .ok (.invokevirtual 195, 3) := by decide +kernel
theorem dX10_readMark_18 : decode cX10_readMark 18 = .ok (.iconst 0, 1) := by decide +kernel
theorem dX10_readMark_19 : decode cX10_readMark 19 = .ok (.ireturn, 1) := by decide +kernel
def M_readMark (s : ST) (x1 : Int32) : Option (Int32 × ST) := Lt (M_isSign s x1) fun y1 => if y1 = 0 then (Lt (M_errs s (1 : Int32)) fun y2 => some (y2.1, y2.2)) else (Bd (M_reads s) fun s1 => some ((0 : Int32), s1))
set_option maxRecDepth 100000 in
set_option maxHeartbeats 4000000 in
theorem k_readMark (l : Launch) (D : va_G) (cA : ClassId) (h : Nat → Nat) (s : ST) (x1 : Int32) {o : Int32 × ST} (hs : M_readMark s x1 = some o) : MI l (KM D cA h) 4 yX10_readMark cX10_readMark 2 (some .int) s [.ref (h 0), .int x1] o.1 o.2 := by
  refine met_i (by decide) (Nat.le_of_ble_eq_true rfl) ?_
  intro p e st m args below meth c Q X RI
  unfold M_readMark at hs
  refine g_aload_n X dX10_readMark_0 (q := 1) rfl 0 rfl ?_
  refine g_iload_n X dX10_readMark_1 (q := 2) rfl 1 rfl ?_
  refine v_isSign X dX10_readMark_2 (q := 5) rfl (Nat.le_of_ble_eq_true rfl) (Nat.le_of_ble_eq_true rfl) (Nat.le_of_ble_eq_true rfl) hs (fun y1 hs => ?_)
  refine g_if_ne X dX10_readMark_5 (q := 8) rfl (tgt := 14) (by decide) hs ?_ ?_
  · intro hs
    refine g_aload_n X dX10_readMark_14 (q := 15) rfl 0 rfl ?_
    refine v_reads X dX10_readMark_15 (q := 18) rfl (Nat.le_of_ble_eq_true rfl) (Nat.le_of_ble_eq_true rfl) (Nat.le_of_ble_eq_true rfl) hs (fun s1 hs => ?_)
    refine g_iconst X dX10_readMark_18 (q := 19) rfl li_i0 ?_
    exact RI _ 19 _ _ _ (rU1 hs) rfl (rV1 hs) dX10_readMark_19
  · intro hs
    refine g_aload_n X dX10_readMark_8 (q := 9) rfl 0 rfl ?_
    refine g_iconst X dX10_readMark_9 (q := 10) rfl li_i1 ?_
    refine v_errs X dX10_readMark_10 (q := 13) rfl (Nat.le_of_ble_eq_true rfl) (Nat.le_of_ble_eq_true rfl) (Nat.le_of_ble_eq_true rfl) hs (fun y2 hs => ?_)
    exact RI _ 13 _ _ _ (rU1 hs) rfl (rV1 hs) dX10_readMark_13
theorem v_readMark {p : Program} {l : Launch} {e : Env} {st : State} {m : MethodId} {args : Array Value} {below : List Frame} {meth : Method} {c : Code} {Q : State → Prop} {nL : Nat} {cc : ByteArray} {s : ST} {pc q : Nat} {lv : List (Nat × Value)} {rest : List Value} {D : va_G} {cA : ClassId} {h : Nat → Nat} {d0 : Nat} (X : Cx (KM D cA h) p st m args meth c cc nL RX10) {x1 : Int32} (d : decode cc pc = .ok (.invokevirtual 251, 3)) (hq : pc + 3 = q) (hd1 : 4 + 1 ≤ d0) (hd2 : 8 + (2 + 11) + 100 * 4 ≤ 100 * d0) (hr : (rest.map fun v => v.category).sum ≤ 8) {B : Type} {f : Int32 × ST → Option B} {r : B} (hs : Bd (M_readMark s x1) f = some r) (k : ∀ y, f y = some r → WG (KM D cA h) p l e (rmD d0) st m args below meth c Q nL y.2 q lv (.int y.1 :: rest)) : WG (KM D cA h) p l e (rmD d0) st m args below meth c Q nL s pc lv (.int x1 :: .ref (h 0) :: rest) := by
  obtain ⟨v, hv, hs⟩ := Bd_e hs
  exact cV_I X 0 (n := 1) (k_readMark l D cA h s x1 hv) gv_X10_readMark ⟨hd1, hd2⟩ ⟨by decide, by decide, by decide +kernel⟩ (As := [.int x1]) rfl hr (Nat.le_of_ble_eq_true rfl) (fs := mF h (s.1 0)) rfl rfl rfl d hq (k _ hs)
theorem dX10_readTold_0 : decode cX10_readTold 0 = .ok (.aload_n 0, 1) := by decide +kernel
theorem dX10_readTold_1 : decode cX10_readTold 1 = .ok (.iload_n 1, 1) := by decide +kernel
theorem dX10_readTold_2 : decode cX10_readTold 2 = .ok (.invokevirtual 238, 3) := by decide +kernel
theorem dX10_readTold_5 : decode cX10_readTold 5 = .ok (.iconst (-1), 1) := by decide +kernel
theorem dX10_readTold_6 : decode cX10_readTold 6 = .ok (.if_icmp .ne 7, 3) := by decide +kernel
theorem dX10_readTold_9 : decode cX10_readTold 9 = .ok (.iconst (-1), 1) := by decide +kernel
theorem dX10_readTold_10 : decode cX10_readTold 10 = .ok (.goto 9, 3) := by decide +kernel
theorem dX10_readTold_13 : decode cX10_readTold 13 = .ok (.aload_n 0, 1) := by decide +kernel
theorem dX10_readTold_14 : decode cX10_readTold 14 = .ok (.iload_n 2, 1) := by decide +kernel
theorem dX10_readTold_15 : decode cX10_readTold 15 = .ok (.iload_n 3, 1) := by decide +kernel
theorem dX10_readTold_16 : decode cX10_readTold 16 = .ok (.invokevirtual 241, 3) := by decide +kernel
theorem dX10_readTold_19 : decode cX10_readTold 19 = .ok (.ireturn, 1) := by decide +kernel
def M_readTold (s : ST) (x1 : Int32) (x2 : Int32) (x3 : Int32) : Option (Int32 × ST) := Bd (M_readWord s x1) fun y1 => if y1.1 = (-1 : Int32) then (some ((-1 : Int32), y1.2)) else (Bd (M_readNumber y1.2 x2 x3) fun y2 => some (y2.1, y2.2))
set_option maxRecDepth 100000 in
set_option maxHeartbeats 4000000 in
theorem k_readTold (l : Launch) (D : va_G) (cA : ClassId) (h : Nat → Nat) (s : ST) (x1 : Int32) (x2 : Int32) (x3 : Int32) {o : Int32 × ST} (hs : M_readTold s x1 x2 x3 = some o) : MI l (KM D cA h) 5 yX10_readTold cX10_readTold 4 (some .int) s [.ref (h 0), .int x1, .int x2, .int x3] o.1 o.2 := by
  refine met_i (by decide) (Nat.le_of_ble_eq_true rfl) ?_
  intro p e st m args below meth c Q X RI
  unfold M_readTold at hs
  refine g_aload_n X dX10_readTold_0 (q := 1) rfl 0 rfl ?_
  refine g_iload_n X dX10_readTold_1 (q := 2) rfl 1 rfl ?_
  refine v_readWord X dX10_readTold_2 (q := 5) rfl (Nat.le_of_ble_eq_true rfl) (Nat.le_of_ble_eq_true rfl) (Nat.le_of_ble_eq_true rfl) hs (fun y1 hs => ?_)
  refine g_iconst X dX10_readTold_5 (q := 6) rfl li_im1 ?_
  refine g_icmp_ne X dX10_readTold_6 (q := 9) rfl (tgt := 13) (by decide) hs ?_ ?_
  · intro hs
    refine g_aload_n X dX10_readTold_13 (q := 14) rfl 0 rfl ?_
    refine g_iload_n X dX10_readTold_14 (q := 15) rfl 2 rfl ?_
    refine g_iload_n X dX10_readTold_15 (q := 16) rfl 3 rfl ?_
    refine v_readNumber X dX10_readTold_16 (q := 19) rfl (Nat.le_of_ble_eq_true rfl) (Nat.le_of_ble_eq_true rfl) (Nat.le_of_ble_eq_true rfl) hs (fun y2 hs => ?_)
    exact RI _ 19 _ _ _ (rU1 hs) rfl (rV1 hs) dX10_readTold_19
  · intro hs
    refine g_iconst X dX10_readTold_9 (q := 10) rfl li_im1 ?_
    refine g_goto X dX10_readTold_10 (tgt := 19) (by decide) ?_
    exact RI _ 19 _ _ _ (rU1 hs) rfl (rV1 hs) dX10_readTold_19
theorem v_readTold {p : Program} {l : Launch} {e : Env} {st : State} {m : MethodId} {args : Array Value} {below : List Frame} {meth : Method} {c : Code} {Q : State → Prop} {nL : Nat} {cc : ByteArray} {s : ST} {pc q : Nat} {lv : List (Nat × Value)} {rest : List Value} {D : va_G} {cA : ClassId} {h : Nat → Nat} {d0 : Nat} (X : Cx (KM D cA h) p st m args meth c cc nL RX10) {x1 : Int32} {x2 : Int32} {x3 : Int32} (d : decode cc pc = .ok (.invokevirtual 247, 3)) (hq : pc + 3 = q) (hd1 : 5 + 1 ≤ d0) (hd2 : 8 + (4 + 11) + 100 * 5 ≤ 100 * d0) (hr : (rest.map fun v => v.category).sum ≤ 8) {B : Type} {f : Int32 × ST → Option B} {r : B} (hs : Bd (M_readTold s x1 x2 x3) f = some r) (k : ∀ y, f y = some r → WG (KM D cA h) p l e (rmD d0) st m args below meth c Q nL y.2 q lv (.int y.1 :: rest)) : WG (KM D cA h) p l e (rmD d0) st m args below meth c Q nL s pc lv (.int x3 :: .int x2 :: .int x1 :: .ref (h 0) :: rest) := by
  obtain ⟨v, hv, hs⟩ := Bd_e hs
  exact cV_I X 0 (n := 3) (k_readTold l D cA h s x1 x2 x3 hv) gv_X10_readTold ⟨hd1, hd2⟩ ⟨by decide, by decide, by decide +kernel⟩ (As := [.int x1, .int x2, .int x3]) rfl hr (Nat.le_of_ble_eq_true rfl) (fs := mF h (s.1 0)) rfl rfl rfl d hq (k _ hs)
theorem dX10_readCell_0 : decode cX10_readCell 0 = .ok (.aload_n 0, 1) := by decide +kernel
theorem dX10_readCell_1 : decode cX10_readCell 1 = .ok (.iload_n 1, 1) := by decide +kernel
theorem dX10_readCell_2 : decode cX10_readCell 2 = .ok (.invokevirtual 238, 3) := by decide +kernel
theorem dX10_readCell_5 : decode cX10_readCell 5 = .ok (.iconst (-1), 1) := by decide +kernel
theorem dX10_readCell_6 : decode cX10_readCell 6 = .ok (.if_icmp .ne 5, 3) := by decide +kernel
theorem dX10_readCell_9 : decode cX10_readCell 9 = .ok (.iconst (-1), 1) := by decide +kernel
theorem dX10_readCell_10 : decode cX10_readCell 10 = .ok (.ireturn, 1) := by decide +kernel
theorem dX10_readCell_11 : decode cX10_readCell 11 = .ok (.aload_n 0, 1) := by decide +kernel
theorem dX10_readCell_12 : decode cX10_readCell 12 = .ok (.getfield 157, 3) := by decide +kernel
theorem dX10_readCell_15 : decode cX10_readCell 15 = .ok (.iconst 3, 1) := by decide +kernel
theorem dX10_readCell_16 : decode cX10_readCell 16 = .ok (.if_icmp .eq 9, 3) := by decide +kernel
theorem dX10_readCell_19 : decode cX10_readCell 19 = .ok (.aload_n 0, 1) := by decide +kernel
theorem dX10_readCell_20 : decode cX10_readCell 20 = .ok (.iconst 1, 1) := by decide +kernel
theorem dX10_readCell_21 : decode cX10_readCell 21 = .ok (.invokevirtual 188, 3) := by decide +kernel
theorem dX10_readCell_24 : decode cX10_readCell 24 = .ok (.ireturn, 1) := by decide +kernel
theorem dX10_readCell_25 : decode cX10_readCell 25 = .ok (.aload_n 0, 1) := by decide +kernel
theorem dX10_readCell_26 : decode cX10_readCell 26 = .ok (.aload_n 0, 1) := by decide +kernel
theorem dX10_readCell_27 : decode cX10_readCell 27 = .ok (.getfield 160, 3) := by decide +kernel
theorem dX10_readCell_30 : decode cX10_readCell 30 = .ok (.invokevirtual 130, 3) := by decide +kernel
theorem dX10_readCell_33 : decode cX10_readCell 33 = .ok (.ifCond .ne 9, 3) := by decide +kernel
theorem dX10_readCell_36 : decode cX10_readCell 36 = .ok (.aload_n 0, 1) := by decide +kernel
theorem dX10_readCell_37 : decode cX10_readCell 37 = .ok (.iconst 2, 1) := by decide +kernel
theorem dX10_readCell_38 : decode cX10_readCell 38 = .ok (.invokevirtual 188, 3) := by decide +kernel
theorem dX10_readCell_41 : decode cX10_readCell 41 = .ok (.ireturn, 1) := by decide +kernel
theorem dX10_readCell_42 : decode cX10_readCell 42 = .ok (.aload_n 0, 1) := by decide +kernel
theorem dX10_readCell_43 : decode cX10_readCell 43 = .ok (.getfield 160, 3) := by decide +kernel
theorem dX10_readCell_46 : decode cX10_readCell 46 = .ok (.istore_n 2, 1) := by decide +kernel
theorem dX10_readCell_47 : decode cX10_readCell 47 = .ok (.aload_n 0, 1) := by decide +kernel
theorem dX10_readCell_48 : decode cX10_readCell 48 = .ok (.invokevirtual 195, 3) := by decide +kernel
theorem dX10_readCell_51 : decode cX10_readCell 51 = .ok (.iload_n 2, 1) := by decide +kernel
theorem dX10_readCell_52 : decode cX10_readCell 52 = .ok (.ireturn, 1) := by decide +kernel
def M_readCell (s : ST) (x1 : Int32) : Option (Int32 × ST) := Bd (M_readWord s x1) fun y1 => if y1.1 = (-1 : Int32) then (some ((-1 : Int32), y1.2)) else (if (y1.2.1 0 15) = (3 : Int32) then (Lt (M_isCell y1.2 (y1.2.1 0 16)) fun y2 => if y2 = 0 then (Lt (M_errs y1.2 (2 : Int32)) fun y4 => some (y4.1, y4.2)) else (Lt ((y1.2.1 0 16)) fun y3 => Bd (M_reads y1.2) fun s1 => some (y3, s1))) else (Lt (M_errs y1.2 (1 : Int32)) fun y5 => some (y5.1, y5.2)))
set_option maxRecDepth 100000 in
set_option maxHeartbeats 4000000 in
theorem k_readCell (l : Launch) (D : va_G) (cA : ClassId) (h : Nat → Nat) (s : ST) (x1 : Int32) {o : Int32 × ST} (hs : M_readCell s x1 = some o) : MI l (KM D cA h) 5 yX10_readCell cX10_readCell 3 (some .int) s [.ref (h 0), .int x1] o.1 o.2 := by
  refine met_i (by decide) (Nat.le_of_ble_eq_true rfl) ?_
  intro p e st m args below meth c Q X RI
  unfold M_readCell at hs
  refine g_aload_n X dX10_readCell_0 (q := 1) rfl 0 rfl ?_
  refine g_iload_n X dX10_readCell_1 (q := 2) rfl 1 rfl ?_
  refine v_readWord X dX10_readCell_2 (q := 5) rfl (Nat.le_of_ble_eq_true rfl) (Nat.le_of_ble_eq_true rfl) (Nat.le_of_ble_eq_true rfl) hs (fun y1 hs => ?_)
  refine g_iconst X dX10_readCell_5 (q := 6) rfl li_im1 ?_
  refine g_icmp_ne X dX10_readCell_6 (q := 9) rfl (tgt := 11) (by decide) hs ?_ ?_
  · intro hs
    refine g_aload_n X dX10_readCell_11 (q := 12) rfl 0 rfl ?_
    refine mg_15 X dX10_readCell_12 (q := 15) rfl ?_
    refine g_iconst X dX10_readCell_15 (q := 16) rfl li_i3 ?_
    refine g_icmp_eq X dX10_readCell_16 (q := 19) rfl (tgt := 25) (by decide) hs ?_ ?_
    · intro hs
      refine g_aload_n X dX10_readCell_25 (q := 26) rfl 0 rfl ?_
      refine g_aload_n X dX10_readCell_26 (q := 27) rfl 0 rfl ?_
      refine mg_16 X dX10_readCell_27 (q := 30) rfl ?_
      refine v_isCell X dX10_readCell_30 (q := 33) rfl (Nat.le_of_ble_eq_true rfl) (Nat.le_of_ble_eq_true rfl) (Nat.le_of_ble_eq_true rfl) hs (fun y2 hs => ?_)
      refine g_if_ne X dX10_readCell_33 (q := 36) rfl (tgt := 42) (by decide) hs ?_ ?_
      · intro hs
        refine g_aload_n X dX10_readCell_42 (q := 43) rfl 0 rfl ?_
        refine mg_16 X dX10_readCell_43 (q := 46) rfl ?_
        refine nmI hs (fun y3 hs => ?_)
        refine g_istore_n X dX10_readCell_46 (q := 47) rfl (Nat.le_of_ble_eq_true rfl) (lv' := [(2, .int y3), (0, .ref (h 0)), (1, .int x1)]) rfl ?_
        refine g_aload_n X dX10_readCell_47 (q := 48) rfl 1 rfl ?_
        refine v_reads X dX10_readCell_48 (q := 51) rfl (Nat.le_of_ble_eq_true rfl) (Nat.le_of_ble_eq_true rfl) (Nat.le_of_ble_eq_true rfl) hs (fun s1 hs => ?_)
        refine g_iload_n X dX10_readCell_51 (q := 52) rfl 0 rfl ?_
        exact RI _ 52 _ _ _ (rU1 hs) rfl (rV1 hs) dX10_readCell_52
      · intro hs
        refine g_aload_n X dX10_readCell_36 (q := 37) rfl 0 rfl ?_
        refine g_iconst X dX10_readCell_37 (q := 38) rfl li_i2 ?_
        refine v_errs X dX10_readCell_38 (q := 41) rfl (Nat.le_of_ble_eq_true rfl) (Nat.le_of_ble_eq_true rfl) (Nat.le_of_ble_eq_true rfl) hs (fun y4 hs => ?_)
        exact RI _ 41 _ _ _ (rU1 hs) rfl (rV1 hs) dX10_readCell_41
    · intro hs
      refine g_aload_n X dX10_readCell_19 (q := 20) rfl 0 rfl ?_
      refine g_iconst X dX10_readCell_20 (q := 21) rfl li_i1 ?_
      refine v_errs X dX10_readCell_21 (q := 24) rfl (Nat.le_of_ble_eq_true rfl) (Nat.le_of_ble_eq_true rfl) (Nat.le_of_ble_eq_true rfl) hs (fun y5 hs => ?_)
      exact RI _ 24 _ _ _ (rU1 hs) rfl (rV1 hs) dX10_readCell_24
  · intro hs
    refine g_iconst X dX10_readCell_9 (q := 10) rfl li_im1 ?_
    exact RI _ 10 _ _ _ (rU1 hs) rfl (rV1 hs) dX10_readCell_10
theorem v_readCell {p : Program} {l : Launch} {e : Env} {st : State} {m : MethodId} {args : Array Value} {below : List Frame} {meth : Method} {c : Code} {Q : State → Prop} {nL : Nat} {cc : ByteArray} {s : ST} {pc q : Nat} {lv : List (Nat × Value)} {rest : List Value} {D : va_G} {cA : ClassId} {h : Nat → Nat} {d0 : Nat} (X : Cx (KM D cA h) p st m args meth c cc nL RX10) {x1 : Int32} (d : decode cc pc = .ok (.invokevirtual 263, 3)) (hq : pc + 3 = q) (hd1 : 5 + 1 ≤ d0) (hd2 : 8 + (3 + 11) + 100 * 5 ≤ 100 * d0) (hr : (rest.map fun v => v.category).sum ≤ 8) {B : Type} {f : Int32 × ST → Option B} {r : B} (hs : Bd (M_readCell s x1) f = some r) (k : ∀ y, f y = some r → WG (KM D cA h) p l e (rmD d0) st m args below meth c Q nL y.2 q lv (.int y.1 :: rest)) : WG (KM D cA h) p l e (rmD d0) st m args below meth c Q nL s pc lv (.int x1 :: .ref (h 0) :: rest) := by
  obtain ⟨v, hv, hs⟩ := Bd_e hs
  exact cV_I X 0 (n := 1) (k_readCell l D cA h s x1 hv) gv_X10_readCell ⟨hd1, hd2⟩ ⟨by decide, by decide, by decide +kernel⟩ (As := [.int x1]) rfl hr (Nat.le_of_ble_eq_true rfl) (fs := mF h (s.1 0)) rfl rfl rfl d hq (k _ hs)
theorem dX10_readKind_0 : decode cX10_readKind 0 = .ok (.aload_n 0, 1) := by decide +kernel
theorem dX10_readKind_1 : decode cX10_readKind 1 = .ok (.getfield 244, 3) := by decide +kernel
theorem dX10_readKind_4 : decode cX10_readKind 4 = .ok (.bipush 8, 2) := by decide +kernel
theorem dX10_readKind_6 : decode cX10_readKind 6 = .ok (.if_icmp .ne 9, 3) := by decide +kernel
theorem dX10_readKind_9 : decode cX10_readKind 9 = .ok (.aload_n 0, 1) := by decide +kernel
theorem dX10_readKind_10 : decode cX10_readKind 10 = .ok (.iconst 3, 1) := by decide +kernel
theorem dX10_readKind_11 : decode cX10_readKind 11 = .ok (.invokevirtual 188, 3) := by decide +kernel
theorem dX10_readKind_14 : decode cX10_readKind 14 = .ok (.ireturn, 1) := by decide +kernel
theorem dX10_readKind_15 : decode cX10_readKind 15 = .ok (.bipush 24, 2) := by decide +kernel
theorem dX10_readKind_17 : decode cX10_readKind 17 = .ok (.iconst 3, 1) := by decide +kernel
theorem dX10_readKind_18 : decode cX10_readKind 18 = .ok (.aload_n 0, 1) := by decide +kernel
theorem dX10_readKind_19 : decode cX10_readKind 19 = .ok (.getfield 244, 3) := by decide +kernel
theorem dX10_readKind_22 : decode cX10_readKind 22 = .ok (.imul, 1) := by decide +kernel
theorem dX10_readKind_23 : decode cX10_readKind 23 = .ok (.iadd, 1) := by decide +kernel
theorem dX10_readKind_24 : decode cX10_readKind 24 = .ok (.istore_n 1, 1) := by decide +kernel
theorem dX10_readKind_25 : decode cX10_readKind 25 = .ok (.aload_n 0, 1) := by decide +kernel
theorem dX10_readKind_26 : decode cX10_readKind 26 = .ok (.getfield 59, 3) := by decide +kernel
theorem dX10_readKind_29 : decode cX10_readKind 29 = .ok (.iload_n 1, 1) := by decide +kernel
theorem dX10_readKind_30 : decode cX10_readKind 30 = .ok (.iconst 0, 1) := by decide +kernel
theorem dX10_readKind_31 : decode cX10_readKind 31 = .ok (.iadd, 1) := by decide +kernel
theorem dX10_readKind_32 : decode cX10_readKind 32 = .ok (.aload_n 0, 1) := by decide +kernel
theorem dX10_readKind_33 : decode cX10_readKind 33 = .ok (.bipush 6, 2) := by decide +kernel
theorem dX10_readKind_35 : decode cX10_readKind 35 = .ok (.iconst 1, 1) := by decide +kernel
theorem dX10_readKind_36 : decode cX10_readKind 36 = .ok (.bipush 20, 2) := by decide +kernel
theorem dX10_readKind_38 : decode cX10_readKind 38 = .ok (.invokevirtual 247, 3) := by decide +kernel
theorem dX10_readKind_41 : decode cX10_readKind 41 = .ok (.iastore, 1) := by decide +kernel
theorem dX10_readKind_42 : decode cX10_readKind 42 = .ok (.aload_n 0, 1) := by decide +kernel
theorem dX10_readKind_43 : decode cX10_readKind 43 = .ok (.getfield 59, 3) := by decide +kernel
theorem dX10_readKind_46 : decode cX10_readKind 46 = .ok (.iload_n 1, 1) := by decide +kernel
theorem dX10_readKind_47 : decode cX10_readKind 47 = .ok (.iconst 0, 1) := by decide +kernel
theorem dX10_readKind_48 : decode cX10_readKind 48 = .ok (.iadd, 1) := by decide +kernel
theorem dX10_readKind_49 : decode cX10_readKind 49 = .ok (.iaload, 1) := by decide +kernel
theorem dX10_readKind_50 : decode cX10_readKind 50 = .ok (.iconst (-1), 1) := by decide +kernel
theorem dX10_readKind_51 : decode cX10_readKind 51 = .ok (.if_icmp .ne 5, 3) := by decide +kernel
theorem dX10_readKind_54 : decode cX10_readKind 54 = .ok (.iconst (-1), 1) := by decide +kernel
theorem dX10_readKind_55 : decode cX10_readKind 55 = .ok (.ireturn, 1) := by decide +kernel
theorem dX10_readKind_56 : decode cX10_readKind 56 = .ok (.aload_n 0, 1) := by decide +kernel
theorem dX10_readKind_57 : decode cX10_readKind 57 = .ok (.getfield 59, 3) := by decide +kernel
theorem dX10_readKind_60 : decode cX10_readKind 60 = .ok (.iload_n 1, 1) := by decide +kernel
theorem dX10_readKind_61 : decode cX10_readKind 61 = .ok (.iconst 1, 1) := by decide +kernel
theorem dX10_readKind_62 : decode cX10_readKind 62 = .ok (.iadd, 1) := by decide +kernel
theorem dX10_readKind_63 : decode cX10_readKind 63 = .ok (.aload_n 0, 1) := by decide +kernel
theorem dX10_readKind_64 : decode cX10_readKind 64 = .ok (.bipush 14, 2) := by decide +kernel
theorem dX10_readKind_66 : decode cX10_readKind 66 = .ok (.iconst 1, 1) := by decide +kernel
theorem dX10_readKind_67 : decode cX10_readKind 67 = .ok (.bipush 9, 2) := by decide +kernel
theorem dX10_readKind_69 : decode cX10_readKind 69 = .ok (.invokevirtual 247, 3) := by decide +kernel
theorem dX10_readKind_72 : decode cX10_readKind 72 = .ok (.iastore, 1) := by decide +kernel
theorem dX10_readKind_73 : decode cX10_readKind 73 = .ok (.aload_n 0, 1) := by decide +kernel
theorem dX10_readKind_74 : decode cX10_readKind 74 = .ok (.getfield 59, 3) := by decide +kernel
theorem dX10_readKind_77 : decode cX10_readKind 77 = .ok (.iload_n 1, 1) := by decide +kernel
theorem dX10_readKind_78 : decode cX10_readKind 78 = .ok (.iconst 1, 1) := by decide +kernel
theorem dX10_readKind_79 : decode cX10_readKind 79 = .ok (.iadd, 1) := by decide +kernel
theorem dX10_readKind_80 : decode cX10_readKind 80 = .ok (.iaload, 1) := by decide +kernel
theorem dX10_readKind_81 : decode cX10_readKind 81 = .ok (.iconst (-1), 1) := by decide +kernel
theorem dX10_readKind_82 : decode cX10_readKind 82 = .ok (.if_icmp .ne 5, 3) := by decide +kernel
theorem dX10_readKind_85 : decode cX10_readKind 85 = .ok (.iconst (-1), 1) := by decide +kernel
theorem dX10_readKind_86 : decode cX10_readKind 86 = .ok (.ireturn, 1) := by decide +kernel
theorem dX10_readKind_87 : decode cX10_readKind 87 = .ok (.aload_n 0, 1) := by decide +kernel
theorem dX10_readKind_88 : decode cX10_readKind 88 = .ok (.getfield 59, 3) := by decide +kernel
theorem dX10_readKind_91 : decode cX10_readKind 91 = .ok (.iload_n 1, 1) := by decide +kernel
theorem dX10_readKind_92 : decode cX10_readKind 92 = .ok (.iconst 2, 1) := by decide +kernel
theorem dX10_readKind_93 : decode cX10_readKind 93 = .ok (.iadd, 1) := by decide +kernel
theorem dX10_readKind_94 : decode cX10_readKind 94 = .ok (.aload_n 0, 1) := by decide +kernel
theorem dX10_readKind_95 : decode cX10_readKind 95 = .ok (.bipush 15, 2) := by decide +kernel
theorem dX10_readKind_97 : decode cX10_readKind 97 = .ok (.iconst 0, 1) := by decide +kernel
theorem dX10_readKind_98 : decode cX10_readKind 98 = .ok (.bipush 6, 2) := by decide +kernel
theorem dX10_readKind_100 : decode cX10_readKind 100 = .ok (.invokevirtual 247, 3) := by decide +kernel
theorem dX10_readKind_103 : decode cX10_readKind 103 = .ok (.iastore, 1) := by decide +kernel
theorem dX10_readKind_104 : decode cX10_readKind 104 = .ok (.aload_n 0, 1) := by decide +kernel
theorem dX10_readKind_105 : decode cX10_readKind 105 = .ok (.getfield 59, 3) := by decide +kernel
theorem dX10_readKind_108 : decode cX10_readKind 108 = .ok (.iload_n 1, 1) := by decide +kernel
theorem dX10_readKind_109 : decode cX10_readKind 109 = .ok (.iconst 2, 1) := by decide +kernel
theorem dX10_readKind_110 : decode cX10_readKind 110 = .ok (.iadd, 1) := by decide +kernel
theorem dX10_readKind_111 : decode cX10_readKind 111 = .ok (.iaload, 1) := by decide +kernel
theorem dX10_readKind_112 : decode cX10_readKind 112 = .ok (.iconst (-1), 1) := by decide +kernel
theorem dX10_readKind_113 : decode cX10_readKind 113 = .ok (.if_icmp .eq 13, 3) := by decide +kernel
theorem dX10_readKind_116 : decode cX10_readKind 116 = .ok (.aload_n 0, 1) := by decide +kernel
theorem dX10_readKind_117 : decode cX10_readKind 117 = .ok (.bipush 59, 2) := by decide +kernel
theorem dX10_readKind_119 : decode cX10_readKind 119 = .ok (.invokevirtual 251, 3) := by decide +kernel
theorem dX10_readKind_122 : decode cX10_readKind 122 = .ok (.iconst (-1), 1) := by decide +kernel
theorem dX10_readKind_123 : decode cX10_readKind 123 = .ok (.if_icmp .ne 5, 3) := by decide +kernel
theorem dX10_readKind_126 : decode cX10_readKind 126 = .ok (.iconst (-1), 1) := by decide +kernel
theorem dX10_readKind_127 : decode cX10_readKind 127 = .ok (.ireturn, 1) := by decide +kernel
theorem dX10_readKind_128 : decode cX10_readKind 128 = .ok (.aload_n 0, 1) := by decide +kernel
theorem dX10_readKind_129 : decode cX10_readKind 129 = .ok (.aload_n 0, 1) := by decide +kernel
theorem dX10_readKind_130 : decode cX10_readKind 130 = .ok (.getfield 244, 3) := by decide +kernel
theorem dX10_readKind_133 : decode cX10_readKind 133 = .ok (.iconst 1, 1) := by decide +kernel
theorem dX10_readKind_134 : decode cX10_readKind 134 = .ok (.iadd, 1) := by decide +kernel
theorem dX10_readKind_135 : decode cX10_readKind 135 = .ok (.putfield 244, 3) := by decide +kernel
theorem dX10_readKind_138 : decode cX10_readKind 138 = .ok (.iconst 0, 1) := by decide +kernel
theorem dX10_readKind_139 : decode cX10_readKind 139 = .ok (.ireturn, 1) := by decide +kernel
def M_readKind (s : ST) : Option (Int32 × ST) := if (s.1 0 38) = (8 : Int32) then (Lt (M_errs s (3 : Int32)) fun y9 => some (y9.1, y9.2)) else (Lt (((24 : Int32) + ((3 : Int32) * (s.1 0 38)))) fun y1 => Bd (M_readTold s (6 : Int32) (1 : Int32) (20 : Int32)) fun y2 => Gs y2.2 16 48 (y1 + (0 : Int32)) y2.1 fun s1 => Gl s1 16 48 (y1 + (0 : Int32)) fun y3 => if y3 = (-1 : Int32) then (some ((-1 : Int32), s1)) else (Bd (M_readTold s1 (14 : Int32) (1 : Int32) (9 : Int32)) fun y4 => Gs y4.2 16 48 (y1 + (1 : Int32)) y4.1 fun s2 => Gl s2 16 48 (y1 + (1 : Int32)) fun y5 => if y5 = (-1 : Int32) then (some ((-1 : Int32), s2)) else (Bd (M_readTold s2 (15 : Int32) (0 : Int32) (6 : Int32)) fun y6 => Gs y6.2 16 48 (y1 + (2 : Int32)) y6.1 fun s3 => Gl s3 16 48 (y1 + (2 : Int32)) fun y7 => if y7 = (-1 : Int32) then (some ((-1 : Int32), s3)) else (Bd (M_readMark s3 (59 : Int32)) fun y8 => if y8.1 = (-1 : Int32) then (some ((-1 : Int32), y8.2)) else (Lt (ups y8.2 0 38 ((y8.2.1 0 38) + (1 : Int32))) fun s4 => some ((0 : Int32), s4))))))
set_option maxRecDepth 100000 in
set_option maxHeartbeats 4000000 in
theorem k_readKind (l : Launch) (D : va_G) (cA : ClassId) (h : Nat → Nat) (s : ST) {o : Int32 × ST} (hs : M_readKind s = some o) : MI l (KM D cA h) 6 yX10_readKind cX10_readKind 2 (some .int) s [.ref (h 0)] o.1 o.2 := by
  refine met_i (by decide) (Nat.le_of_ble_eq_true rfl) ?_
  intro p e st m args below meth c Q X RI
  unfold M_readKind at hs
  refine g_aload_n X dX10_readKind_0 (q := 1) rfl 0 rfl ?_
  refine mg_38 X dX10_readKind_1 (q := 4) rfl ?_
  refine g_bipush X dX10_readKind_4 (q := 6) rfl li_b8 ?_
  refine g_icmp_ne X dX10_readKind_6 (q := 9) rfl (tgt := 15) (by decide) hs ?_ ?_
  · intro hs
    refine g_bipush X dX10_readKind_15 (q := 17) rfl li_b24 ?_
    refine g_iconst X dX10_readKind_17 (q := 18) rfl li_i3 ?_
    refine g_aload_n X dX10_readKind_18 (q := 19) rfl 0 rfl ?_
    refine mg_38 X dX10_readKind_19 (q := 22) rfl ?_
    refine g_imul X dX10_readKind_22 (q := 23) rfl ?_
    refine g_iadd X dX10_readKind_23 (q := 24) rfl ?_
    refine nmI hs (fun y1 hs => ?_)
    refine g_istore_n X dX10_readKind_24 (q := 25) rfl (Nat.le_of_ble_eq_true rfl) (lv' := [(1, .int y1), (0, .ref (h 0))]) rfl ?_
    refine g_aload_n X dX10_readKind_25 (q := 26) rfl 1 rfl ?_
    refine mg_35 X dX10_readKind_26 (q := 29) rfl ?_
    refine g_iload_n X dX10_readKind_29 (q := 30) rfl 0 rfl ?_
    refine g_iconst X dX10_readKind_30 (q := 31) rfl li_i0 ?_
    refine g_iadd X dX10_readKind_31 (q := 32) rfl ?_
    refine g_aload_n X dX10_readKind_32 (q := 33) rfl 1 rfl ?_
    refine g_bipush X dX10_readKind_33 (q := 35) rfl li_b6 ?_
    refine g_iconst X dX10_readKind_35 (q := 36) rfl li_i1 ?_
    refine g_bipush X dX10_readKind_36 (q := 38) rfl li_b20 ?_
    refine v_readTold X dX10_readKind_38 (q := 41) rfl (Nat.le_of_ble_eq_true rfl) (Nat.le_of_ble_eq_true rfl) (Nat.le_of_ble_eq_true rfl) hs (fun y2 hs => ?_)
    refine ms_16 X dX10_readKind_41 (q := 42) rfl hs (fun s1 hs => ?_)
    refine g_aload_n X dX10_readKind_42 (q := 43) rfl 1 rfl ?_
    refine mg_35 X dX10_readKind_43 (q := 46) rfl ?_
    refine g_iload_n X dX10_readKind_46 (q := 47) rfl 0 rfl ?_
    refine g_iconst X dX10_readKind_47 (q := 48) rfl li_i0 ?_
    refine g_iadd X dX10_readKind_48 (q := 49) rfl ?_
    refine ma_16 X dX10_readKind_49 (q := 50) rfl hs (fun y3 hs => ?_)
    refine g_iconst X dX10_readKind_50 (q := 51) rfl li_im1 ?_
    refine g_icmp_ne X dX10_readKind_51 (q := 54) rfl (tgt := 56) (by decide) hs ?_ ?_
    · intro hs
      refine g_aload_n X dX10_readKind_56 (q := 57) rfl 1 rfl ?_
      refine mg_35 X dX10_readKind_57 (q := 60) rfl ?_
      refine g_iload_n X dX10_readKind_60 (q := 61) rfl 0 rfl ?_
      refine g_iconst X dX10_readKind_61 (q := 62) rfl li_i1 ?_
      refine g_iadd X dX10_readKind_62 (q := 63) rfl ?_
      refine g_aload_n X dX10_readKind_63 (q := 64) rfl 1 rfl ?_
      refine g_bipush X dX10_readKind_64 (q := 66) rfl li_b14 ?_
      refine g_iconst X dX10_readKind_66 (q := 67) rfl li_i1 ?_
      refine g_bipush X dX10_readKind_67 (q := 69) rfl li_b9 ?_
      refine v_readTold X dX10_readKind_69 (q := 72) rfl (Nat.le_of_ble_eq_true rfl) (Nat.le_of_ble_eq_true rfl) (Nat.le_of_ble_eq_true rfl) hs (fun y4 hs => ?_)
      refine ms_16 X dX10_readKind_72 (q := 73) rfl hs (fun s2 hs => ?_)
      refine g_aload_n X dX10_readKind_73 (q := 74) rfl 1 rfl ?_
      refine mg_35 X dX10_readKind_74 (q := 77) rfl ?_
      refine g_iload_n X dX10_readKind_77 (q := 78) rfl 0 rfl ?_
      refine g_iconst X dX10_readKind_78 (q := 79) rfl li_i1 ?_
      refine g_iadd X dX10_readKind_79 (q := 80) rfl ?_
      refine ma_16 X dX10_readKind_80 (q := 81) rfl hs (fun y5 hs => ?_)
      refine g_iconst X dX10_readKind_81 (q := 82) rfl li_im1 ?_
      refine g_icmp_ne X dX10_readKind_82 (q := 85) rfl (tgt := 87) (by decide) hs ?_ ?_
      · intro hs
        refine g_aload_n X dX10_readKind_87 (q := 88) rfl 1 rfl ?_
        refine mg_35 X dX10_readKind_88 (q := 91) rfl ?_
        refine g_iload_n X dX10_readKind_91 (q := 92) rfl 0 rfl ?_
        refine g_iconst X dX10_readKind_92 (q := 93) rfl li_i2 ?_
        refine g_iadd X dX10_readKind_93 (q := 94) rfl ?_
        refine g_aload_n X dX10_readKind_94 (q := 95) rfl 1 rfl ?_
        refine g_bipush X dX10_readKind_95 (q := 97) rfl li_b15 ?_
        refine g_iconst X dX10_readKind_97 (q := 98) rfl li_i0 ?_
        refine g_bipush X dX10_readKind_98 (q := 100) rfl li_b6 ?_
        refine v_readTold X dX10_readKind_100 (q := 103) rfl (Nat.le_of_ble_eq_true rfl) (Nat.le_of_ble_eq_true rfl) (Nat.le_of_ble_eq_true rfl) hs (fun y6 hs => ?_)
        refine ms_16 X dX10_readKind_103 (q := 104) rfl hs (fun s3 hs => ?_)
        refine g_aload_n X dX10_readKind_104 (q := 105) rfl 1 rfl ?_
        refine mg_35 X dX10_readKind_105 (q := 108) rfl ?_
        refine g_iload_n X dX10_readKind_108 (q := 109) rfl 0 rfl ?_
        refine g_iconst X dX10_readKind_109 (q := 110) rfl li_i2 ?_
        refine g_iadd X dX10_readKind_110 (q := 111) rfl ?_
        refine ma_16 X dX10_readKind_111 (q := 112) rfl hs (fun y7 hs => ?_)
        refine g_iconst X dX10_readKind_112 (q := 113) rfl li_im1 ?_
        refine g_icmp_eq X dX10_readKind_113 (q := 116) rfl (tgt := 126) (by decide) hs ?_ ?_
        · intro hs
          refine g_iconst X dX10_readKind_126 (q := 127) rfl li_im1 ?_
          exact RI _ 127 _ _ _ (rU1 hs) rfl (rV1 hs) dX10_readKind_127
        · intro hs
          refine g_aload_n X dX10_readKind_116 (q := 117) rfl 1 rfl ?_
          refine g_bipush X dX10_readKind_117 (q := 119) rfl li_b59 ?_
          refine v_readMark X dX10_readKind_119 (q := 122) rfl (Nat.le_of_ble_eq_true rfl) (Nat.le_of_ble_eq_true rfl) (Nat.le_of_ble_eq_true rfl) hs (fun y8 hs => ?_)
          refine g_iconst X dX10_readKind_122 (q := 123) rfl li_im1 ?_
          refine g_icmp_ne X dX10_readKind_123 (q := 126) rfl (tgt := 128) (by decide) hs ?_ ?_
          · intro hs
            refine g_aload_n X dX10_readKind_128 (q := 129) rfl 1 rfl ?_
            refine g_aload_n X dX10_readKind_129 (q := 130) rfl 1 rfl ?_
            refine mg_38 X dX10_readKind_130 (q := 133) rfl ?_
            refine g_iconst X dX10_readKind_133 (q := 134) rfl li_i1 ?_
            refine g_iadd X dX10_readKind_134 (q := 135) rfl ?_
            refine mp_38 X dX10_readKind_135 (q := 138) rfl hs (fun s4 hs => ?_)
            refine g_iconst X dX10_readKind_138 (q := 139) rfl li_i0 ?_
            exact RI _ 139 _ _ _ (rU1 hs) rfl (rV1 hs) dX10_readKind_139
          · intro hs
            refine g_iconst X dX10_readKind_126 (q := 127) rfl li_im1 ?_
            exact RI _ 127 _ _ _ (rU1 hs) rfl (rV1 hs) dX10_readKind_127
      · intro hs
        refine g_iconst X dX10_readKind_85 (q := 86) rfl li_im1 ?_
        exact RI _ 86 _ _ _ (rU1 hs) rfl (rV1 hs) dX10_readKind_86
    · intro hs
      refine g_iconst X dX10_readKind_54 (q := 55) rfl li_im1 ?_
      exact RI _ 55 _ _ _ (rU1 hs) rfl (rV1 hs) dX10_readKind_55
  · intro hs
    refine g_aload_n X dX10_readKind_9 (q := 10) rfl 0 rfl ?_
    refine g_iconst X dX10_readKind_10 (q := 11) rfl li_i3 ?_
    refine v_errs X dX10_readKind_11 (q := 14) rfl (Nat.le_of_ble_eq_true rfl) (Nat.le_of_ble_eq_true rfl) (Nat.le_of_ble_eq_true rfl) hs (fun y9 hs => ?_)
    exact RI _ 14 _ _ _ (rU1 hs) rfl (rV1 hs) dX10_readKind_14
theorem v_readKind {p : Program} {l : Launch} {e : Env} {st : State} {m : MethodId} {args : Array Value} {below : List Frame} {meth : Method} {c : Code} {Q : State → Prop} {nL : Nat} {cc : ByteArray} {s : ST} {pc q : Nat} {lv : List (Nat × Value)} {rest : List Value} {D : va_G} {cA : ClassId} {h : Nat → Nat} {d0 : Nat} (X : Cx (KM D cA h) p st m args meth c cc nL RX10) (d : decode cc pc = .ok (.invokevirtual 257, 3)) (hq : pc + 3 = q) (hd1 : 6 + 1 ≤ d0) (hd2 : 8 + (2 + 11) + 100 * 6 ≤ 100 * d0) (hr : (rest.map fun v => v.category).sum ≤ 8) {B : Type} {f : Int32 × ST → Option B} {r : B} (hs : Bd (M_readKind s) f = some r) (k : ∀ y, f y = some r → WG (KM D cA h) p l e (rmD d0) st m args below meth c Q nL y.2 q lv (.int y.1 :: rest)) : WG (KM D cA h) p l e (rmD d0) st m args below meth c Q nL s pc lv (.ref (h 0) :: rest) := by
  obtain ⟨v, hv, hs⟩ := Bd_e hs
  exact cV_I X 0 (n := 0) (k_readKind l D cA h s hv) gv_X10_readKind ⟨hd1, hd2⟩ ⟨by decide, by decide, by decide +kernel⟩ (As := []) rfl hr (Nat.le_of_ble_eq_true rfl) (fs := mF h (s.1 0)) rfl rfl rfl d hq (k _ hs)
theorem dX10_readCrossing_0 : decode cX10_readCrossing 0 = .ok (.aload_n 0, 1) := by decide +kernel
theorem dX10_readCrossing_1 : decode cX10_readCrossing 1 = .ok (.getfield 254, 3) := by decide +kernel
theorem dX10_readCrossing_4 : decode cX10_readCrossing 4 = .ok (.bipush 10, 2) := by decide +kernel
theorem dX10_readCrossing_6 : decode cX10_readCrossing 6 = .ok (.if_icmp .ne 9, 3) := by decide +kernel
theorem dX10_readCrossing_9 : decode cX10_readCrossing 9 = .ok (.aload_n 0, 1) := by decide +kernel
theorem dX10_readCrossing_10 : decode cX10_readCrossing 10 = .ok (.iconst 3, 1) := by decide +kernel
theorem dX10_readCrossing_11 : decode cX10_readCrossing 11 = .ok (.invokevirtual 188, 3) := by decide +kernel
theorem dX10_readCrossing_14 : decode cX10_readCrossing 14 = .ok (.ireturn, 1) := by decide +kernel
theorem dX10_readCrossing_15 : decode cX10_readCrossing 15 = .ok (.bipush 30, 2) := by decide +kernel
theorem dX10_readCrossing_17 : decode cX10_readCrossing 17 = .ok (.iconst 3, 1) := by decide +kernel
theorem dX10_readCrossing_18 : decode cX10_readCrossing 18 = .ok (.aload_n 0, 1) := by decide +kernel
theorem dX10_readCrossing_19 : decode cX10_readCrossing 19 = .ok (.getfield 254, 3) := by decide +kernel
theorem dX10_readCrossing_22 : decode cX10_readCrossing 22 = .ok (.imul, 1) := by decide +kernel
theorem dX10_readCrossing_23 : decode cX10_readCrossing 23 = .ok (.iadd, 1) := by decide +kernel
theorem dX10_readCrossing_24 : decode cX10_readCrossing 24 = .ok (.istore_n 1, 1) := by decide +kernel
theorem dX10_readCrossing_25 : decode cX10_readCrossing 25 = .ok (.iconst 0, 1) := by decide +kernel
theorem dX10_readCrossing_26 : decode cX10_readCrossing 26 = .ok (.istore_n 2, 1) := by decide +kernel
theorem dX10_readCrossing_27 : decode cX10_readCrossing 27 = .ok (.iload_n 2, 1) := by decide +kernel
theorem dX10_readCrossing_28 : decode cX10_readCrossing 28 = .ok (.iconst 3, 1) := by decide +kernel
theorem dX10_readCrossing_29 : decode cX10_readCrossing 29 = .ok (.if_icmp .ge 63, 3) := by decide +kernel
theorem dX10_readCrossing_32 : decode cX10_readCrossing 32 = .ok (.aload_n 0, 1) := by decide +kernel
theorem dX10_readCrossing_33 : decode cX10_readCrossing 33 = .ok (.getfield 62, 3) := by decide +kernel
theorem dX10_readCrossing_36 : decode cX10_readCrossing 36 = .ok (.iload_n 1, 1) := by decide +kernel
theorem dX10_readCrossing_37 : decode cX10_readCrossing 37 = .ok (.iload_n 2, 1) := by decide +kernel
theorem dX10_readCrossing_38 : decode cX10_readCrossing 38 = .ok (.iadd, 1) := by decide +kernel
theorem dX10_readCrossing_39 : decode cX10_readCrossing 39 = .ok (.aload_n 0, 1) := by decide +kernel
theorem dX10_readCrossing_40 : decode cX10_readCrossing 40 = .ok (.iload_n 2, 1) := by decide +kernel
theorem dX10_readCrossing_41 : decode cX10_readCrossing 41 = .ok (.ifCond .ne 8, 3) := by decide +kernel
theorem dX10_readCrossing_44 : decode cX10_readCrossing 44 = .ok (.bipush 16, 2) := by decide +kernel
theorem dX10_readCrossing_46 : decode cX10_readCrossing 46 = .ok (.goto 15, 3) := by decide +kernel
theorem dX10_readCrossing_49 : decode cX10_readCrossing 49 = .ok (.iload_n 2, 1) := by decide +kernel
theorem dX10_readCrossing_50 : decode cX10_readCrossing 50 = .ok (.iconst 1, 1) := by decide +kernel
theorem dX10_readCrossing_51 : decode cX10_readCrossing 51 = .ok (.if_icmp .ne 8, 3) := by decide +kernel
theorem dX10_readCrossing_54 : decode cX10_readCrossing 54 = .ok (.bipush 17, 2) := by decide +kernel
theorem dX10_readCrossing_56 : decode cX10_readCrossing 56 = .ok (.goto 5, 3) := by decide +kernel
theorem dX10_readCrossing_59 : decode cX10_readCrossing 59 = .ok (.bipush 18, 2) := by decide +kernel
theorem dX10_readCrossing_61 : decode cX10_readCrossing 61 = .ok (.iconst 0, 1) := by decide +kernel
theorem dX10_readCrossing_62 : decode cX10_readCrossing 62 = .ok (.aload_n 0, 1) := by decide +kernel
theorem dX10_readCrossing_63 : decode cX10_readCrossing 63 = .ok (.getfield 244, 3) := by decide +kernel
theorem dX10_readCrossing_66 : decode cX10_readCrossing 66 = .ok (.iconst 1, 1) := by decide +kernel
theorem dX10_readCrossing_67 : decode cX10_readCrossing 67 = .ok (.isub, 1) := by decide +kernel
theorem dX10_readCrossing_68 : decode cX10_readCrossing 68 = .ok (.invokevirtual 247, 3) := by decide +kernel
theorem dX10_readCrossing_71 : decode cX10_readCrossing 71 = .ok (.iastore, 1) := by decide +kernel
theorem dX10_readCrossing_72 : decode cX10_readCrossing 72 = .ok (.aload_n 0, 1) := by decide +kernel
theorem dX10_readCrossing_73 : decode cX10_readCrossing 73 = .ok (.getfield 62, 3) := by decide +kernel
theorem dX10_readCrossing_76 : decode cX10_readCrossing 76 = .ok (.iload_n 1, 1) := by decide +kernel
theorem dX10_readCrossing_77 : decode cX10_readCrossing 77 = .ok (.iload_n 2, 1) := by decide +kernel
theorem dX10_readCrossing_78 : decode cX10_readCrossing 78 = .ok (.iadd, 1) := by decide +kernel
theorem dX10_readCrossing_79 : decode cX10_readCrossing 79 = .ok (.iaload, 1) := by decide +kernel
theorem dX10_readCrossing_80 : decode cX10_readCrossing 80 = .ok (.iconst (-1), 1) := by decide +kernel
theorem dX10_readCrossing_81 : decode cX10_readCrossing 81 = .ok (.if_icmp .ne 5, 3) := by decide +kernel
theorem dX10_readCrossing_84 : decode cX10_readCrossing 84 = .ok (.iconst (-1), 1) := by decide +kernel
theorem dX10_readCrossing_85 : decode cX10_readCrossing 85 = .ok (.ireturn, 1) := by decide +kernel
theorem dX10_readCrossing_86 : decode cX10_readCrossing 86 = .ok (.iinc 2 1, 3) := by decide +kernel
theorem dX10_readCrossing_89 : decode cX10_readCrossing 89 = .ok (.goto (-62), 3) := by decide +kernel
theorem dX10_readCrossing_92 : decode cX10_readCrossing 92 = .ok (.aload_n 0, 1) := by decide +kernel
theorem dX10_readCrossing_93 : decode cX10_readCrossing 93 = .ok (.bipush 59, 2) := by decide +kernel
theorem dX10_readCrossing_95 : decode cX10_readCrossing 95 = .ok (.invokevirtual 251, 3) := by decide +kernel
theorem dX10_readCrossing_98 : decode cX10_readCrossing 98 = .ok (.iconst (-1), 1) := by decide +kernel
theorem dX10_readCrossing_99 : decode cX10_readCrossing 99 = .ok (.if_icmp .ne 5, 3) := by decide +kernel
theorem dX10_readCrossing_102 : decode cX10_readCrossing 102 = .ok (.iconst (-1), 1) := by decide +kernel
theorem dX10_readCrossing_103 : decode cX10_readCrossing 103 = .ok (.ireturn, 1) := by decide +kernel
theorem dX10_readCrossing_104 : decode cX10_readCrossing 104 = .ok (.aload_n 0, 1) := by decide +kernel
theorem dX10_readCrossing_105 : decode cX10_readCrossing 105 = .ok (.aload_n 0, 1) := by decide +kernel
theorem dX10_readCrossing_106 : decode cX10_readCrossing 106 = .ok (.getfield 254, 3) := by decide +kernel
theorem dX10_readCrossing_109 : decode cX10_readCrossing 109 = .ok (.iconst 1, 1) := by decide +kernel
theorem dX10_readCrossing_110 : decode cX10_readCrossing 110 = .ok (.iadd, 1) := by decide +kernel
theorem dX10_readCrossing_111 : decode cX10_readCrossing 111 = .ok (.putfield 254, 3) := by decide +kernel
theorem dX10_readCrossing_114 : decode cX10_readCrossing 114 = .ok (.iconst 0, 1) := by decide +kernel
theorem dX10_readCrossing_115 : decode cX10_readCrossing 115 = .ok (.ireturn, 1) := by decide +kernel
def M_readCrossing (s : ST) : Option (Int32 × ST) := if (s.1 0 39) = (10 : Int32) then (Lt (M_errs s (3 : Int32)) fun y5 => some (y5.1, y5.2)) else (Lt (((30 : Int32) + ((3 : Int32) * (s.1 0 39)))) fun y1 => lpK2 (C := Int32 × ST) (fun (rec1 : Int32 → ST → Option (Int32 × ST)) (a1 : Int32) (s1 : ST) => if (3 : Int32) ≤ a1 then (Bd (M_readMark s1 (59 : Int32)) fun y2 => if y2.1 = (-1 : Int32) then (some ((-1 : Int32), y2.2)) else (Lt (ups y2.2 0 39 ((y2.2.1 0 39) + (1 : Int32))) fun s2 => some ((0 : Int32), s2))) else (Lt (fun (a2 : Int32) => (Bd (M_readTold s1 a2 (0 : Int32) ((s1.1 0 38) - (1 : Int32))) fun y3 => Gs y3.2 17 60 (y1 + a1) y3.1 fun s3 => Gl s3 17 60 (y1 + a1) fun y4 => if y4 = (-1 : Int32) then (some ((-1 : Int32), s3)) else (rec1 (a1 + (1 : Int32)) s3) : Option (Int32 × ST))) fun j1 => if a1 = 0 then (j1 (16 : Int32)) else (if a1 = (1 : Int32) then (j1 (17 : Int32)) else (j1 (18 : Int32))))) FU (0 : Int32) s)
set_option maxRecDepth 100000 in
set_option maxHeartbeats 4000000 in
theorem k_readCrossing (l : Launch) (D : va_G) (cA : ClassId) (h : Nat → Nat) (s : ST) {o : Int32 × ST} (hs : M_readCrossing s = some o) : MI l (KM D cA h) 6 yX10_readCrossing cX10_readCrossing 3 (some .int) s [.ref (h 0)] o.1 o.2 := by
  refine met_i (by decide) (Nat.le_of_ble_eq_true rfl) ?_
  intro p e st m args below meth c Q X RI
  unfold M_readCrossing at hs
  refine g_aload_n X dX10_readCrossing_0 (q := 1) rfl 0 rfl ?_
  refine mg_39 X dX10_readCrossing_1 (q := 4) rfl ?_
  refine g_bipush X dX10_readCrossing_4 (q := 6) rfl li_b10 ?_
  refine g_icmp_ne X dX10_readCrossing_6 (q := 9) rfl (tgt := 15) (by decide) hs ?_ ?_
  · intro hs
    refine g_bipush X dX10_readCrossing_15 (q := 17) rfl li_b30 ?_
    refine g_iconst X dX10_readCrossing_17 (q := 18) rfl li_i3 ?_
    refine g_aload_n X dX10_readCrossing_18 (q := 19) rfl 0 rfl ?_
    refine mg_39 X dX10_readCrossing_19 (q := 22) rfl ?_
    refine g_imul X dX10_readCrossing_22 (q := 23) rfl ?_
    refine g_iadd X dX10_readCrossing_23 (q := 24) rfl ?_
    refine nmI hs (fun y1 hs => ?_)
    refine g_istore_n X dX10_readCrossing_24 (q := 25) rfl (Nat.le_of_ble_eq_true rfl) (lv' := [(1, .int y1), (0, .ref (h 0))]) rfl ?_
    refine g_iconst X dX10_readCrossing_25 (q := 26) rfl li_i0 ?_
    refine g_istore_n X dX10_readCrossing_26 (q := 27) rfl (Nat.le_of_ble_eq_true rfl) (lv' := [(2, .int (0 : Int32)), (1, .int y1), (0, .ref (h 0))]) rfl ?_
    refine wg_sub [2, 1, 0] rfl (lpW2 (fun (a1 : Int32) (s1 : ST) => WG (KM D cA h) p l e (rmD 6) st m args below meth c Q 3 s1 27 [(0, .ref (h 0)), (1, .int y1), (2, .int a1)] []) (fun rec1 ih1 a1 s1 hs => ?_) _ _ _ hs)
    refine g_iload_n X dX10_readCrossing_27 (q := 28) rfl 2 rfl ?_
    refine g_iconst X dX10_readCrossing_28 (q := 29) rfl li_i3 ?_
    refine g_icmp_ge X dX10_readCrossing_29 (q := 32) rfl (tgt := 92) (by decide) hs ?_ ?_
    · intro hs
      refine g_aload_n X dX10_readCrossing_92 (q := 93) rfl 0 rfl ?_
      refine g_bipush X dX10_readCrossing_93 (q := 95) rfl li_b59 ?_
      refine v_readMark X dX10_readCrossing_95 (q := 98) rfl (Nat.le_of_ble_eq_true rfl) (Nat.le_of_ble_eq_true rfl) (Nat.le_of_ble_eq_true rfl) hs (fun y2 hs => ?_)
      refine g_iconst X dX10_readCrossing_98 (q := 99) rfl li_im1 ?_
      refine g_icmp_ne X dX10_readCrossing_99 (q := 102) rfl (tgt := 104) (by decide) hs ?_ ?_
      · intro hs
        refine g_aload_n X dX10_readCrossing_104 (q := 105) rfl 0 rfl ?_
        refine g_aload_n X dX10_readCrossing_105 (q := 106) rfl 0 rfl ?_
        refine mg_39 X dX10_readCrossing_106 (q := 109) rfl ?_
        refine g_iconst X dX10_readCrossing_109 (q := 110) rfl li_i1 ?_
        refine g_iadd X dX10_readCrossing_110 (q := 111) rfl ?_
        refine mp_39 X dX10_readCrossing_111 (q := 114) rfl hs (fun s2 hs => ?_)
        refine g_iconst X dX10_readCrossing_114 (q := 115) rfl li_i0 ?_
        exact RI _ 115 _ _ _ (rU1 hs) rfl (rV1 hs) dX10_readCrossing_115
      · intro hs
        refine g_iconst X dX10_readCrossing_102 (q := 103) rfl li_im1 ?_
        exact RI _ 103 _ _ _ (rU1 hs) rfl (rV1 hs) dX10_readCrossing_103
    · intro hs
      refine g_aload_n X dX10_readCrossing_32 (q := 33) rfl 0 rfl ?_
      refine mg_37 X dX10_readCrossing_33 (q := 36) rfl ?_
      refine g_iload_n X dX10_readCrossing_36 (q := 37) rfl 1 rfl ?_
      refine g_iload_n X dX10_readCrossing_37 (q := 38) rfl 2 rfl ?_
      refine g_iadd X dX10_readCrossing_38 (q := 39) rfl ?_
      refine g_aload_n X dX10_readCrossing_39 (q := 40) rfl 0 rfl ?_
      refine g_iload_n X dX10_readCrossing_40 (q := 41) rfl 2 rfl ?_
      refine jnW1 (fun (a2 : Int32) => WG (KM D cA h) p l e (rmD 6) st m args below meth c Q 3 s1 61 [(0, .ref (h 0)), (1, .int y1), (2, .int a1)] [.int a2, .ref (h 0), .int (y1 + a1), .ref (h 17)]) hs (fun a2 hs => ?_) (fun j1 ih2 hs => ?_)
      · refine g_iconst X dX10_readCrossing_61 (q := 62) rfl li_i0 ?_
        refine g_aload_n X dX10_readCrossing_62 (q := 63) rfl 0 rfl ?_
        refine mg_38 X dX10_readCrossing_63 (q := 66) rfl ?_
        refine g_iconst X dX10_readCrossing_66 (q := 67) rfl li_i1 ?_
        refine g_isub X dX10_readCrossing_67 (q := 68) rfl ?_
        refine v_readTold X dX10_readCrossing_68 (q := 71) rfl (Nat.le_of_ble_eq_true rfl) (Nat.le_of_ble_eq_true rfl) (Nat.le_of_ble_eq_true rfl) hs (fun y3 hs => ?_)
        refine ms_17 X dX10_readCrossing_71 (q := 72) rfl hs (fun s3 hs => ?_)
        refine g_aload_n X dX10_readCrossing_72 (q := 73) rfl 0 rfl ?_
        refine mg_37 X dX10_readCrossing_73 (q := 76) rfl ?_
        refine g_iload_n X dX10_readCrossing_76 (q := 77) rfl 1 rfl ?_
        refine g_iload_n X dX10_readCrossing_77 (q := 78) rfl 2 rfl ?_
        refine g_iadd X dX10_readCrossing_78 (q := 79) rfl ?_
        refine ma_17 X dX10_readCrossing_79 (q := 80) rfl hs (fun y4 hs => ?_)
        refine g_iconst X dX10_readCrossing_80 (q := 81) rfl li_im1 ?_
        refine g_icmp_ne X dX10_readCrossing_81 (q := 84) rfl (tgt := 86) (by decide) hs ?_ ?_
        · intro hs
          refine g_iinc X dX10_readCrossing_86 (q := 89) rfl 2 rfl (v := (a1 + (1 : Int32))) (congrArg (HAdd.hAdd a1) li_i1) (Nat.le_of_ble_eq_true rfl) (lv' := [(2, .int (a1 + (1 : Int32))), (0, .ref (h 0)), (1, .int y1)]) rfl ?_
          refine g_goto X dX10_readCrossing_89 (tgt := 27) (by decide) ?_
          exact wg_sub [1, 2, 0] rfl (ih1 _ _ hs)
        · intro hs
          refine g_iconst X dX10_readCrossing_84 (q := 85) rfl li_im1 ?_
          exact RI _ 85 _ _ _ (rU1 hs) rfl (rV1 hs) dX10_readCrossing_85
      refine g_if_ne X dX10_readCrossing_41 (q := 44) rfl (tgt := 49) (by decide) hs ?_ ?_
      · intro hs
        refine g_iload_n X dX10_readCrossing_49 (q := 50) rfl 2 rfl ?_
        refine g_iconst X dX10_readCrossing_50 (q := 51) rfl li_i1 ?_
        refine g_icmp_ne X dX10_readCrossing_51 (q := 54) rfl (tgt := 59) (by decide) hs ?_ ?_
        · intro hs
          refine g_bipush X dX10_readCrossing_59 (q := 61) rfl li_b18 ?_
          exact wg_sub [0, 1, 2] rfl (ih2 _ hs)
        · intro hs
          refine g_bipush X dX10_readCrossing_54 (q := 56) rfl li_b17 ?_
          refine g_goto X dX10_readCrossing_56 (tgt := 61) (by decide) ?_
          exact wg_sub [0, 1, 2] rfl (ih2 _ hs)
      · intro hs
        refine g_bipush X dX10_readCrossing_44 (q := 46) rfl li_b16 ?_
        refine g_goto X dX10_readCrossing_46 (tgt := 61) (by decide) ?_
        exact wg_sub [0, 1, 2] rfl (ih2 _ hs)
  · intro hs
    refine g_aload_n X dX10_readCrossing_9 (q := 10) rfl 0 rfl ?_
    refine g_iconst X dX10_readCrossing_10 (q := 11) rfl li_i3 ?_
    refine v_errs X dX10_readCrossing_11 (q := 14) rfl (Nat.le_of_ble_eq_true rfl) (Nat.le_of_ble_eq_true rfl) (Nat.le_of_ble_eq_true rfl) hs (fun y5 hs => ?_)
    exact RI _ 14 _ _ _ (rU1 hs) rfl (rV1 hs) dX10_readCrossing_14
theorem v_readCrossing {p : Program} {l : Launch} {e : Env} {st : State} {m : MethodId} {args : Array Value} {below : List Frame} {meth : Method} {c : Code} {Q : State → Prop} {nL : Nat} {cc : ByteArray} {s : ST} {pc q : Nat} {lv : List (Nat × Value)} {rest : List Value} {D : va_G} {cA : ClassId} {h : Nat → Nat} {d0 : Nat} (X : Cx (KM D cA h) p st m args meth c cc nL RX10) (d : decode cc pc = .ok (.invokevirtual 260, 3)) (hq : pc + 3 = q) (hd1 : 6 + 1 ≤ d0) (hd2 : 8 + (3 + 11) + 100 * 6 ≤ 100 * d0) (hr : (rest.map fun v => v.category).sum ≤ 8) {B : Type} {f : Int32 × ST → Option B} {r : B} (hs : Bd (M_readCrossing s) f = some r) (k : ∀ y, f y = some r → WG (KM D cA h) p l e (rmD d0) st m args below meth c Q nL y.2 q lv (.int y.1 :: rest)) : WG (KM D cA h) p l e (rmD d0) st m args below meth c Q nL s pc lv (.ref (h 0) :: rest) := by
  obtain ⟨v, hv, hs⟩ := Bd_e hs
  exact cV_I X 0 (n := 0) (k_readCrossing l D cA h s hv) gv_X10_readCrossing ⟨hd1, hd2⟩ ⟨by decide, by decide, by decide +kernel⟩ (As := []) rfl hr (Nat.le_of_ble_eq_true rfl) (fs := mF h (s.1 0)) rfl rfl rfl d hq (k _ hs)
theorem dX10_readAllKinds_0 : decode cX10_readAllKinds 0 = .ok (.aload_n 0, 1) := by decide +kernel
theorem dX10_readAllKinds_1 : decode cX10_readAllKinds 1 = .ok (.iconst 0, 1) := by decide +kernel
theorem dX10_readAllKinds_2 : decode cX10_readAllKinds 2 = .ok (.putfield 244, 3) := by decide +kernel
theorem dX10_readAllKinds_5 : decode cX10_readAllKinds 5 = .ok (.aload_n 0, 1) := by decide +kernel
theorem dX10_readAllKinds_6 : decode cX10_readAllKinds 6 = .ok (.iconst 0, 1) := by decide +kernel
theorem dX10_readAllKinds_7 : decode cX10_readAllKinds 7 = .ok (.putfield 254, 3) := by decide +kernel
theorem dX10_readAllKinds_10 : decode cX10_readAllKinds 10 = .ok (.aload_n 0, 1) := by decide +kernel
theorem dX10_readAllKinds_11 : decode cX10_readAllKinds 11 = .ok (.bipush 6, 2) := by decide +kernel
theorem dX10_readAllKinds_13 : decode cX10_readAllKinds 13 = .ok (.invokevirtual 216, 3) := by decide +kernel
theorem dX10_readAllKinds_16 : decode cX10_readAllKinds 16 = .ok (.ifCond .ne 12, 3) := by decide +kernel
theorem dX10_readAllKinds_19 : decode cX10_readAllKinds 19 = .ok (.aload_n 0, 1) := by decide +kernel
theorem dX10_readAllKinds_20 : decode cX10_readAllKinds 20 = .ok (.bipush 16, 2) := by decide +kernel
theorem dX10_readAllKinds_22 : decode cX10_readAllKinds 22 = .ok (.invokevirtual 216, 3) := by decide +kernel
theorem dX10_readAllKinds_25 : decode cX10_readAllKinds 25 = .ok (.ifCond .eq 34, 3) := by decide +kernel
theorem dX10_readAllKinds_28 : decode cX10_readAllKinds 28 = .ok (.aload_n 0, 1) := by decide +kernel
theorem dX10_readAllKinds_29 : decode cX10_readAllKinds 29 = .ok (.bipush 6, 2) := by decide +kernel
theorem dX10_readAllKinds_31 : decode cX10_readAllKinds 31 = .ok (.invokevirtual 216, 3) := by decide +kernel
theorem dX10_readAllKinds_34 : decode cX10_readAllKinds 34 = .ok (.ifCond .eq 10, 3) := by decide +kernel
theorem dX10_readAllKinds_37 : decode cX10_readAllKinds 37 = .ok (.aload_n 0, 1) := by decide +kernel
theorem dX10_readAllKinds_38 : decode cX10_readAllKinds 38 = .ok (.invokevirtual 257, 3) := by decide +kernel
theorem dX10_readAllKinds_41 : decode cX10_readAllKinds 41 = .ok (.goto 7, 3) := by decide +kernel
theorem dX10_readAllKinds_44 : decode cX10_readAllKinds 44 = .ok (.aload_n 0, 1) := by decide +kernel
theorem dX10_readAllKinds_45 : decode cX10_readAllKinds 45 = .ok (.invokevirtual 260, 3) := by decide +kernel
theorem dX10_readAllKinds_48 : decode cX10_readAllKinds 48 = .ok (.istore_n 1, 1) := by decide +kernel
theorem dX10_readAllKinds_49 : decode cX10_readAllKinds 49 = .ok (.iload_n 1, 1) := by decide +kernel
theorem dX10_readAllKinds_50 : decode cX10_readAllKinds 50 = .ok (.iconst (-1), 1) := by decide +kernel
theorem dX10_readAllKinds_51 : decode cX10_readAllKinds 51 = .ok (.if_icmp .ne 5, 3) := by decide +kernel
theorem dX10_readAllKinds_54 : decode cX10_readAllKinds 54 = .ok (.iconst (-1), 1) := by decide +kernel
theorem dX10_readAllKinds_55 : decode cX10_readAllKinds 55 = .ok (.ireturn, 1) := by decide +kernel
theorem dX10_readAllKinds_56 : decode cX10_readAllKinds 56 = .ok (.goto (-46), 3) := by decide +kernel
theorem dX10_readAllKinds_59 : decode cX10_readAllKinds 59 = .ok (.aload_n 0, 1) := by decide +kernel
theorem dX10_readAllKinds_60 : decode cX10_readAllKinds 60 = .ok (.getfield 157, 3) := by decide +kernel
theorem dX10_readAllKinds_63 : decode cX10_readAllKinds 63 = .ok (.ifCond .ne 15, 3) := by decide +kernel
theorem dX10_readAllKinds_66 : decode cX10_readAllKinds 66 = .ok (.aload_n 0, 1) := by decide +kernel
theorem dX10_readAllKinds_67 : decode cX10_readAllKinds 67 = .ok (.getfield 244, 3) := by decide +kernel
theorem dX10_readAllKinds_70 : decode cX10_readAllKinds 70 = .ok (.aload_n 0, 1) := by decide +kernel
theorem dX10_readAllKinds_71 : decode cX10_readAllKinds 71 = .ok (.getfield 254, 3) := by decide +kernel
theorem dX10_readAllKinds_74 : decode cX10_readAllKinds 74 = .ok (.iadd, 1) := by decide +kernel
theorem dX10_readAllKinds_75 : decode cX10_readAllKinds 75 = .ok (.goto 8, 3) := by decide +kernel
theorem dX10_readAllKinds_78 : decode cX10_readAllKinds 78 = .ok (.aload_n 0, 1) := by decide +kernel
theorem dX10_readAllKinds_79 : decode cX10_readAllKinds 79 = .ok (.iconst 1, 1) := by decide +kernel
theorem dX10_readAllKinds_80 : decode cX10_readAllKinds 80 = .ok (.invokevirtual 188, 3) := by decide +kernel
theorem dX10_readAllKinds_83 : decode cX10_readAllKinds 83 = .ok (.ireturn, 1) := by decide +kernel
def M_readAllKinds (s : ST) : Option (Int32 × ST) := Lt (ups s 0 38 (0 : Int32)) fun s1 => Lt (ups s1 0 39 (0 : Int32)) fun s2 => lpK1 (C := Int32 × ST) (fun (rec1 : ST → Option (Int32 × ST)) (s3 : ST) => Lt (M_isWord s3 (6 : Int32)) fun y1 => Lt (Lt (M_isWord s3 (6 : Int32)) fun y2 => Lt (fun (a1 : Int32) (s4 : ST) => (if a1 = (-1 : Int32) then (some ((-1 : Int32), s4)) else (rec1 s4) : Option (Int32 × ST))) fun j2 => if y2 = 0 then (Bd (M_readCrossing s3) fun y3 => j2 y3.1 y3.2) else (Bd (M_readKind s3) fun y4 => j2 y4.1 y4.2) : Option (Int32 × ST)) fun j1 => if y1 = 0 then (Lt (M_isWord s3 (16 : Int32)) fun y5 => if y5 = 0 then (if (s3.1 0 15) = 0 then (some (((s3.1 0 38) + (s3.1 0 39)), s3)) else (Lt (M_errs s3 (1 : Int32)) fun y6 => some (y6.1, y6.2))) else (j1)) else (j1)) FU s2
set_option maxRecDepth 100000 in
set_option maxHeartbeats 4000000 in
theorem k_readAllKinds (l : Launch) (D : va_G) (cA : ClassId) (h : Nat → Nat) (s : ST) {o : Int32 × ST} (hs : M_readAllKinds s = some o) : MI l (KM D cA h) 7 yX10_readAllKinds cX10_readAllKinds 2 (some .int) s [.ref (h 0)] o.1 o.2 := by
  refine met_i (by decide) (Nat.le_of_ble_eq_true rfl) ?_
  intro p e st m args below meth c Q X RI
  unfold M_readAllKinds at hs
  refine g_aload_n X dX10_readAllKinds_0 (q := 1) rfl 0 rfl ?_
  refine g_iconst X dX10_readAllKinds_1 (q := 2) rfl li_i0 ?_
  refine mp_38 X dX10_readAllKinds_2 (q := 5) rfl hs (fun s1 hs => ?_)
  refine g_aload_n X dX10_readAllKinds_5 (q := 6) rfl 0 rfl ?_
  refine g_iconst X dX10_readAllKinds_6 (q := 7) rfl li_i0 ?_
  refine mp_39 X dX10_readAllKinds_7 (q := 10) rfl hs (fun s2 hs => ?_)
  refine wg_sub [0] rfl (lpW1 (fun (s3 : ST) => WG (KM D cA h) p l e (rmD 7) st m args below meth c Q 2 s3 10 [(0, .ref (h 0))] []) (fun rec1 ih1 s3 hs => ?_) _ _ hs)
  refine g_aload_n X dX10_readAllKinds_10 (q := 11) rfl 0 rfl ?_
  refine g_bipush X dX10_readAllKinds_11 (q := 13) rfl li_b6 ?_
  refine v_isWord X dX10_readAllKinds_13 (q := 16) rfl (Nat.le_of_ble_eq_true rfl) (Nat.le_of_ble_eq_true rfl) (Nat.le_of_ble_eq_true rfl) hs (fun y1 hs => ?_)
  refine jnW0 (WG (KM D cA h) p l e (rmD 7) st m args below meth c Q 2 s3 28 [(0, .ref (h 0))] []) hs (fun  hs => ?_) (fun j1 ih2 hs => ?_)
  · refine g_aload_n X dX10_readAllKinds_28 (q := 29) rfl 0 rfl ?_
    refine g_bipush X dX10_readAllKinds_29 (q := 31) rfl li_b6 ?_
    refine v_isWord X dX10_readAllKinds_31 (q := 34) rfl (Nat.le_of_ble_eq_true rfl) (Nat.le_of_ble_eq_true rfl) (Nat.le_of_ble_eq_true rfl) hs (fun y2 hs => ?_)
    refine jnW2 (fun (a1 : Int32) (s4 : ST) => WG (KM D cA h) p l e (rmD 7) st m args below meth c Q 2 s4 48 [(0, .ref (h 0))] [.int a1]) hs (fun a1 s4 hs => ?_) (fun j2 ih3 hs => ?_)
    · refine g_istore_n X dX10_readAllKinds_48 (q := 49) rfl (Nat.le_of_ble_eq_true rfl) (lv' := [(1, .int a1), (0, .ref (h 0))]) rfl ?_
      refine g_iload_n X dX10_readAllKinds_49 (q := 50) rfl 0 rfl ?_
      refine g_iconst X dX10_readAllKinds_50 (q := 51) rfl li_im1 ?_
      refine g_icmp_ne X dX10_readAllKinds_51 (q := 54) rfl (tgt := 56) (by decide) hs ?_ ?_
      · intro hs
        refine g_goto X dX10_readAllKinds_56 (tgt := 10) (by decide) ?_
        exact wg_sub [1] rfl (ih1 _ hs)
      · intro hs
        refine g_iconst X dX10_readAllKinds_54 (q := 55) rfl li_im1 ?_
        exact RI _ 55 _ _ _ (rU1 hs) rfl (rV1 hs) dX10_readAllKinds_55
    refine g_if_eq X dX10_readAllKinds_34 (q := 37) rfl (tgt := 44) (by decide) hs ?_ ?_
    · intro hs
      refine g_aload_n X dX10_readAllKinds_44 (q := 45) rfl 0 rfl ?_
      refine v_readCrossing X dX10_readAllKinds_45 (q := 48) rfl (Nat.le_of_ble_eq_true rfl) (Nat.le_of_ble_eq_true rfl) (Nat.le_of_ble_eq_true rfl) hs (fun y3 hs => ?_)
      exact wg_sub [0] rfl (ih3 _ _ hs)
    · intro hs
      refine g_aload_n X dX10_readAllKinds_37 (q := 38) rfl 0 rfl ?_
      refine v_readKind X dX10_readAllKinds_38 (q := 41) rfl (Nat.le_of_ble_eq_true rfl) (Nat.le_of_ble_eq_true rfl) (Nat.le_of_ble_eq_true rfl) hs (fun y4 hs => ?_)
      refine g_goto X dX10_readAllKinds_41 (tgt := 48) (by decide) ?_
      exact wg_sub [0] rfl (ih3 _ _ hs)
  refine g_if_ne X dX10_readAllKinds_16 (q := 19) rfl (tgt := 28) (by decide) hs ?_ ?_
  · intro hs
    exact wg_sub [0] rfl (ih2 hs)
  · intro hs
    refine g_aload_n X dX10_readAllKinds_19 (q := 20) rfl 0 rfl ?_
    refine g_bipush X dX10_readAllKinds_20 (q := 22) rfl li_b16 ?_
    refine v_isWord X dX10_readAllKinds_22 (q := 25) rfl (Nat.le_of_ble_eq_true rfl) (Nat.le_of_ble_eq_true rfl) (Nat.le_of_ble_eq_true rfl) hs (fun y5 hs => ?_)
    refine g_if_eq X dX10_readAllKinds_25 (q := 28) rfl (tgt := 59) (by decide) hs ?_ ?_
    · intro hs
      refine g_aload_n X dX10_readAllKinds_59 (q := 60) rfl 0 rfl ?_
      refine mg_15 X dX10_readAllKinds_60 (q := 63) rfl ?_
      refine g_if_ne X dX10_readAllKinds_63 (q := 66) rfl (tgt := 78) (by decide) hs ?_ ?_
      · intro hs
        refine g_aload_n X dX10_readAllKinds_78 (q := 79) rfl 0 rfl ?_
        refine g_iconst X dX10_readAllKinds_79 (q := 80) rfl li_i1 ?_
        refine v_errs X dX10_readAllKinds_80 (q := 83) rfl (Nat.le_of_ble_eq_true rfl) (Nat.le_of_ble_eq_true rfl) (Nat.le_of_ble_eq_true rfl) hs (fun y6 hs => ?_)
        exact RI _ 83 _ _ _ (rU1 hs) rfl (rV1 hs) dX10_readAllKinds_83
      · intro hs
        refine g_aload_n X dX10_readAllKinds_66 (q := 67) rfl 0 rfl ?_
        refine mg_38 X dX10_readAllKinds_67 (q := 70) rfl ?_
        refine g_aload_n X dX10_readAllKinds_70 (q := 71) rfl 0 rfl ?_
        refine mg_39 X dX10_readAllKinds_71 (q := 74) rfl ?_
        refine g_iadd X dX10_readAllKinds_74 (q := 75) rfl ?_
        refine g_goto X dX10_readAllKinds_75 (tgt := 83) (by decide) ?_
        exact RI _ 83 _ _ _ (rU1 hs) rfl (rV1 hs) dX10_readAllKinds_83
    · intro hs
      exact wg_sub [0] rfl (ih2 hs)
theorem v_readAllKinds {p : Program} {l : Launch} {e : Env} {st : State} {m : MethodId} {args : Array Value} {below : List Frame} {meth : Method} {c : Code} {Q : State → Prop} {nL : Nat} {cc : ByteArray} {s : ST} {pc q : Nat} {lv : List (Nat × Value)} {rest : List Value} {D : va_G} {cA : ClassId} {h : Nat → Nat} {d0 : Nat} (X : Cx (KM D cA h) p st m args meth c cc nL RX10) (d : decode cc pc = .ok (.invokevirtual 272, 3)) (hq : pc + 3 = q) (hd1 : 7 + 1 ≤ d0) (hd2 : 8 + (2 + 11) + 100 * 7 ≤ 100 * d0) (hr : (rest.map fun v => v.category).sum ≤ 8) {B : Type} {f : Int32 × ST → Option B} {r : B} (hs : Bd (M_readAllKinds s) f = some r) (k : ∀ y, f y = some r → WG (KM D cA h) p l e (rmD d0) st m args below meth c Q nL y.2 q lv (.int y.1 :: rest)) : WG (KM D cA h) p l e (rmD d0) st m args below meth c Q nL s pc lv (.ref (h 0) :: rest) := by
  obtain ⟨v, hv, hs⟩ := Bd_e hs
  exact cV_I X 0 (n := 0) (k_readAllKinds l D cA h s hv) gv_X10_readAllKinds ⟨hd1, hd2⟩ ⟨by decide, by decide, by decide +kernel⟩ (As := []) rfl hr (Nat.le_of_ble_eq_true rfl) (fs := mF h (s.1 0)) rfl rfl rfl d hq (k _ hs)
theorem dX10_readWant_0 : decode cX10_readWant 0 = .ok (.aload_n 0, 1) := by decide +kernel
theorem dX10_readWant_1 : decode cX10_readWant 1 = .ok (.bipush 19, 2) := by decide +kernel
theorem dX10_readWant_3 : decode cX10_readWant 3 = .ok (.invokevirtual 238, 3) := by decide +kernel
theorem dX10_readWant_6 : decode cX10_readWant 6 = .ok (.iconst (-1), 1) := by decide +kernel
theorem dX10_readWant_7 : decode cX10_readWant 7 = .ok (.if_icmp .ne 5, 3) := by decide +kernel
theorem dX10_readWant_10 : decode cX10_readWant 10 = .ok (.iconst (-1), 1) := by decide +kernel
theorem dX10_readWant_11 : decode cX10_readWant 11 = .ok (.ireturn, 1) := by decide +kernel
theorem dX10_readWant_12 : decode cX10_readWant 12 = .ok (.aload_n 0, 1) := by decide +kernel
theorem dX10_readWant_13 : decode cX10_readWant 13 = .ok (.getfield 65, 3) := by decide +kernel
theorem dX10_readWant_16 : decode cX10_readWant 16 = .ok (.iload_n 1, 1) := by decide +kernel
theorem dX10_readWant_17 : decode cX10_readWant 17 = .ok (.bipush 8, 2) := by decide +kernel
theorem dX10_readWant_19 : decode cX10_readWant 19 = .ok (.iastore, 1) := by decide +kernel
theorem dX10_readWant_20 : decode cX10_readWant 20 = .ok (.aload_n 0, 1) := by decide +kernel
theorem dX10_readWant_21 : decode cX10_readWant 21 = .ok (.bipush 20, 2) := by decide +kernel
theorem dX10_readWant_23 : decode cX10_readWant 23 = .ok (.invokevirtual 216, 3) := by decide +kernel
theorem dX10_readWant_26 : decode cX10_readWant 26 = .ok (.ifCond .eq 10, 3) := by decide +kernel
theorem dX10_readWant_29 : decode cX10_readWant 29 = .ok (.aload_n 0, 1) := by decide +kernel
theorem dX10_readWant_30 : decode cX10_readWant 30 = .ok (.invokevirtual 195, 3) := by decide +kernel
theorem dX10_readWant_33 : decode cX10_readWant 33 = .ok (.goto 20, 3) := by decide +kernel
theorem dX10_readWant_36 : decode cX10_readWant 36 = .ok (.aload_n 0, 1) := by decide +kernel
theorem dX10_readWant_37 : decode cX10_readWant 37 = .ok (.getfield 65, 3) := by decide +kernel
theorem dX10_readWant_40 : decode cX10_readWant 40 = .ok (.iload_n 1, 1) := by decide +kernel
theorem dX10_readWant_41 : decode cX10_readWant 41 = .ok (.aload_n 0, 1) := by decide +kernel
theorem dX10_readWant_42 : decode cX10_readWant 42 = .ok (.iconst 0, 1) := by decide +kernel
theorem dX10_readWant_43 : decode cX10_readWant 43 = .ok (.aload_n 0, 1) := by decide +kernel
theorem dX10_readWant_44 : decode cX10_readWant 44 = .ok (.getfield 118, 3) := by decide +kernel
theorem dX10_readWant_47 : decode cX10_readWant 47 = .ok (.iconst 1, 1) := by decide +kernel
theorem dX10_readWant_48 : decode cX10_readWant 48 = .ok (.isub, 1) := by decide +kernel
theorem dX10_readWant_49 : decode cX10_readWant 49 = .ok (.invokevirtual 241, 3) := by decide +kernel
theorem dX10_readWant_52 : decode cX10_readWant 52 = .ok (.iastore, 1) := by decide +kernel
theorem dX10_readWant_53 : decode cX10_readWant 53 = .ok (.aload_n 0, 1) := by decide +kernel
theorem dX10_readWant_54 : decode cX10_readWant 54 = .ok (.getfield 65, 3) := by decide +kernel
theorem dX10_readWant_57 : decode cX10_readWant 57 = .ok (.iload_n 1, 1) := by decide +kernel
theorem dX10_readWant_58 : decode cX10_readWant 58 = .ok (.iaload, 1) := by decide +kernel
theorem dX10_readWant_59 : decode cX10_readWant 59 = .ok (.iconst (-1), 1) := by decide +kernel
theorem dX10_readWant_60 : decode cX10_readWant 60 = .ok (.if_icmp .ne 5, 3) := by decide +kernel
theorem dX10_readWant_63 : decode cX10_readWant 63 = .ok (.iconst (-1), 1) := by decide +kernel
theorem dX10_readWant_64 : decode cX10_readWant 64 = .ok (.ireturn, 1) := by decide +kernel
theorem dX10_readWant_65 : decode cX10_readWant 65 = .ok (.aload_n 0, 1) := by decide +kernel
theorem dX10_readWant_66 : decode cX10_readWant 66 = .ok (.getfield 65, 3) := by decide +kernel
theorem dX10_readWant_69 : decode cX10_readWant 69 = .ok (.iload_n 1, 1) := by decide +kernel
theorem dX10_readWant_70 : decode cX10_readWant 70 = .ok (.iconst 1, 1) := by decide +kernel
theorem dX10_readWant_71 : decode cX10_readWant 71 = .ok (.iadd, 1) := by decide +kernel
theorem dX10_readWant_72 : decode cX10_readWant 72 = .ok (.aload_n 0, 1) := by decide +kernel
theorem dX10_readWant_73 : decode cX10_readWant 73 = .ok (.bipush 21, 2) := by decide +kernel
theorem dX10_readWant_75 : decode cX10_readWant 75 = .ok (.invokevirtual 263, 3) := by decide +kernel
theorem dX10_readWant_78 : decode cX10_readWant 78 = .ok (.iastore, 1) := by decide +kernel
theorem dX10_readWant_79 : decode cX10_readWant 79 = .ok (.aload_n 0, 1) := by decide +kernel
theorem dX10_readWant_80 : decode cX10_readWant 80 = .ok (.getfield 65, 3) := by decide +kernel
theorem dX10_readWant_83 : decode cX10_readWant 83 = .ok (.iload_n 1, 1) := by decide +kernel
theorem dX10_readWant_84 : decode cX10_readWant 84 = .ok (.iconst 1, 1) := by decide +kernel
theorem dX10_readWant_85 : decode cX10_readWant 85 = .ok (.iadd, 1) := by decide +kernel
theorem dX10_readWant_86 : decode cX10_readWant 86 = .ok (.iaload, 1) := by decide +kernel
theorem dX10_readWant_87 : decode cX10_readWant 87 = .ok (.iconst (-1), 1) := by decide +kernel
theorem dX10_readWant_88 : decode cX10_readWant 88 = .ok (.if_icmp .ne 5, 3) := by decide +kernel
theorem dX10_readWant_91 : decode cX10_readWant 91 = .ok (.iconst (-1), 1) := by decide +kernel
theorem dX10_readWant_92 : decode cX10_readWant 92 = .ok (.ireturn, 1) := by decide +kernel
theorem dX10_readWant_93 : decode cX10_readWant 93 = .ok (.aload_n 0, 1) := by decide +kernel
theorem dX10_readWant_94 : decode cX10_readWant 94 = .ok (.getfield 65, 3) := by decide +kernel
theorem dX10_readWant_97 : decode cX10_readWant 97 = .ok (.iload_n 1, 1) := by decide +kernel
theorem dX10_readWant_98 : decode cX10_readWant 98 = .ok (.iconst 2, 1) := by decide +kernel
theorem dX10_readWant_99 : decode cX10_readWant 99 = .ok (.iadd, 1) := by decide +kernel
theorem dX10_readWant_100 : decode cX10_readWant 100 = .ok (.aload_n 0, 1) := by decide +kernel
theorem dX10_readWant_101 : decode cX10_readWant 101 = .ok (.bipush 22, 2) := by decide +kernel
theorem dX10_readWant_103 : decode cX10_readWant 103 = .ok (.iconst 0, 1) := by decide +kernel
theorem dX10_readWant_104 : decode cX10_readWant 104 = .ok (.sipush 999, 3) := by decide +kernel
theorem dX10_readWant_107 : decode cX10_readWant 107 = .ok (.invokevirtual 247, 3) := by decide +kernel
theorem dX10_readWant_110 : decode cX10_readWant 110 = .ok (.iastore, 1) := by decide +kernel
theorem dX10_readWant_111 : decode cX10_readWant 111 = .ok (.aload_n 0, 1) := by decide +kernel
theorem dX10_readWant_112 : decode cX10_readWant 112 = .ok (.getfield 65, 3) := by decide +kernel
theorem dX10_readWant_115 : decode cX10_readWant 115 = .ok (.iload_n 1, 1) := by decide +kernel
theorem dX10_readWant_116 : decode cX10_readWant 116 = .ok (.iconst 2, 1) := by decide +kernel
theorem dX10_readWant_117 : decode cX10_readWant 117 = .ok (.iadd, 1) := by decide +kernel
theorem dX10_readWant_118 : decode cX10_readWant 118 = .ok (.iaload, 1) := by decide +kernel
theorem dX10_readWant_119 : decode cX10_readWant 119 = .ok (.iconst (-1), 1) := by decide +kernel
theorem dX10_readWant_120 : decode cX10_readWant 120 = .ok (.if_icmp .ne 5, 3) := by decide +kernel
theorem dX10_readWant_123 : decode cX10_readWant 123 = .ok (.iconst (-1), 1) := by decide +kernel
theorem dX10_readWant_124 : decode cX10_readWant 124 = .ok (.ireturn, 1) := by decide +kernel
theorem dX10_readWant_125 : decode cX10_readWant 125 = .ok (.aload_n 0, 1) := by decide +kernel
theorem dX10_readWant_126 : decode cX10_readWant 126 = .ok (.getfield 65, 3) := by decide +kernel
theorem dX10_readWant_129 : decode cX10_readWant 129 = .ok (.iload_n 1, 1) := by decide +kernel
theorem dX10_readWant_130 : decode cX10_readWant 130 = .ok (.iconst 3, 1) := by decide +kernel
theorem dX10_readWant_131 : decode cX10_readWant 131 = .ok (.iadd, 1) := by decide +kernel
theorem dX10_readWant_132 : decode cX10_readWant 132 = .ok (.aload_n 0, 1) := by decide +kernel
theorem dX10_readWant_133 : decode cX10_readWant 133 = .ok (.bipush 23, 2) := by decide +kernel
theorem dX10_readWant_135 : decode cX10_readWant 135 = .ok (.iconst 1, 1) := by decide +kernel
theorem dX10_readWant_136 : decode cX10_readWant 136 = .ok (.bipush 99, 2) := by decide +kernel
theorem dX10_readWant_138 : decode cX10_readWant 138 = .ok (.invokevirtual 247, 3) := by decide +kernel
theorem dX10_readWant_141 : decode cX10_readWant 141 = .ok (.iastore, 1) := by decide +kernel
theorem dX10_readWant_142 : decode cX10_readWant 142 = .ok (.aload_n 0, 1) := by decide +kernel
theorem dX10_readWant_143 : decode cX10_readWant 143 = .ok (.getfield 65, 3) := by decide +kernel
theorem dX10_readWant_146 : decode cX10_readWant 146 = .ok (.iload_n 1, 1) := by decide +kernel
theorem dX10_readWant_147 : decode cX10_readWant 147 = .ok (.iconst 3, 1) := by decide +kernel
theorem dX10_readWant_148 : decode cX10_readWant 148 = .ok (.iadd, 1) := by decide +kernel
theorem dX10_readWant_149 : decode cX10_readWant 149 = .ok (.iaload, 1) := by decide +kernel
theorem dX10_readWant_150 : decode cX10_readWant 150 = .ok (.iconst (-1), 1) := by decide +kernel
theorem dX10_readWant_151 : decode cX10_readWant 151 = .ok (.if_icmp .ne 7, 3) := by decide +kernel
theorem dX10_readWant_154 : decode cX10_readWant 154 = .ok (.iconst (-1), 1) := by decide +kernel
theorem dX10_readWant_155 : decode cX10_readWant 155 = .ok (.goto 9, 3) := by decide +kernel
theorem dX10_readWant_158 : decode cX10_readWant 158 = .ok (.aload_n 0, 1) := by decide +kernel
theorem dX10_readWant_159 : decode cX10_readWant 159 = .ok (.bipush 59, 2) := by decide +kernel
theorem dX10_readWant_161 : decode cX10_readWant 161 = .ok (.invokevirtual 251, 3) := by decide +kernel
theorem dX10_readWant_164 : decode cX10_readWant 164 = .ok (.ireturn, 1) := by decide +kernel
def M_readWant (s : ST) (x1 : Int32) : Option (Int32 × ST) := Bd (M_readWord s (19 : Int32)) fun y1 => if y1.1 = (-1 : Int32) then (some ((-1 : Int32), y1.2)) else (Gs y1.2 18 80 x1 (8 : Int32) fun s1 => Lt (M_isWord s1 (20 : Int32)) fun y2 => Lt (fun (s2 : ST) => (Gl s2 18 80 x1 fun y3 => if y3 = (-1 : Int32) then (some ((-1 : Int32), s2)) else (Bd (M_readCell s2 (21 : Int32)) fun y4 => Gs y4.2 18 80 (x1 + (1 : Int32)) y4.1 fun s3 => Gl s3 18 80 (x1 + (1 : Int32)) fun y5 => if y5 = (-1 : Int32) then (some ((-1 : Int32), s3)) else (Bd (M_readTold s3 (22 : Int32) (0 : Int32) (999 : Int32)) fun y6 => Gs y6.2 18 80 (x1 + (2 : Int32)) y6.1 fun s4 => Gl s4 18 80 (x1 + (2 : Int32)) fun y7 => if y7 = (-1 : Int32) then (some ((-1 : Int32), s4)) else (Bd (M_readTold s4 (23 : Int32) (1 : Int32) (99 : Int32)) fun y8 => Gs y8.2 18 80 (x1 + (3 : Int32)) y8.1 fun s5 => Gl s5 18 80 (x1 + (3 : Int32)) fun y9 => if y9 = (-1 : Int32) then (some ((-1 : Int32), s5)) else (Bd (M_readMark s5 (59 : Int32)) fun y10 => some (y10.1, y10.2))))) : Option (Int32 × ST))) fun j1 => if y2 = 0 then (Bd (M_readNumber s1 (0 : Int32) ((s1.1 0 34) - (1 : Int32))) fun y11 => Gs y11.2 18 80 x1 y11.1 fun s6 => j1 s6) else (Bd (M_reads s1) fun s7 => j1 s7))
set_option maxRecDepth 100000 in
set_option maxHeartbeats 4000000 in
theorem k_readWant (l : Launch) (D : va_G) (cA : ClassId) (h : Nat → Nat) (s : ST) (x1 : Int32) {o : Int32 × ST} (hs : M_readWant s x1 = some o) : MI l (KM D cA h) 6 yX10_readWant cX10_readWant 2 (some .int) s [.ref (h 0), .int x1] o.1 o.2 := by
  refine met_i (by decide) (Nat.le_of_ble_eq_true rfl) ?_
  intro p e st m args below meth c Q X RI
  unfold M_readWant at hs
  refine g_aload_n X dX10_readWant_0 (q := 1) rfl 0 rfl ?_
  refine g_bipush X dX10_readWant_1 (q := 3) rfl li_b19 ?_
  refine v_readWord X dX10_readWant_3 (q := 6) rfl (Nat.le_of_ble_eq_true rfl) (Nat.le_of_ble_eq_true rfl) (Nat.le_of_ble_eq_true rfl) hs (fun y1 hs => ?_)
  refine g_iconst X dX10_readWant_6 (q := 7) rfl li_im1 ?_
  refine g_icmp_ne X dX10_readWant_7 (q := 10) rfl (tgt := 12) (by decide) hs ?_ ?_
  · intro hs
    refine g_aload_n X dX10_readWant_12 (q := 13) rfl 0 rfl ?_
    refine mg_41 X dX10_readWant_13 (q := 16) rfl ?_
    refine g_iload_n X dX10_readWant_16 (q := 17) rfl 1 rfl ?_
    refine g_bipush X dX10_readWant_17 (q := 19) rfl li_b8 ?_
    refine ms_18 X dX10_readWant_19 (q := 20) rfl hs (fun s1 hs => ?_)
    refine g_aload_n X dX10_readWant_20 (q := 21) rfl 0 rfl ?_
    refine g_bipush X dX10_readWant_21 (q := 23) rfl li_b20 ?_
    refine v_isWord X dX10_readWant_23 (q := 26) rfl (Nat.le_of_ble_eq_true rfl) (Nat.le_of_ble_eq_true rfl) (Nat.le_of_ble_eq_true rfl) hs (fun y2 hs => ?_)
    refine jnW1 (fun (s2 : ST) => WG (KM D cA h) p l e (rmD 6) st m args below meth c Q 2 s2 53 [(0, .ref (h 0)), (1, .int x1)] []) hs (fun s2 hs => ?_) (fun j1 ih1 hs => ?_)
    · refine g_aload_n X dX10_readWant_53 (q := 54) rfl 0 rfl ?_
      refine mg_41 X dX10_readWant_54 (q := 57) rfl ?_
      refine g_iload_n X dX10_readWant_57 (q := 58) rfl 1 rfl ?_
      refine ma_18 X dX10_readWant_58 (q := 59) rfl hs (fun y3 hs => ?_)
      refine g_iconst X dX10_readWant_59 (q := 60) rfl li_im1 ?_
      refine g_icmp_ne X dX10_readWant_60 (q := 63) rfl (tgt := 65) (by decide) hs ?_ ?_
      · intro hs
        refine g_aload_n X dX10_readWant_65 (q := 66) rfl 0 rfl ?_
        refine mg_41 X dX10_readWant_66 (q := 69) rfl ?_
        refine g_iload_n X dX10_readWant_69 (q := 70) rfl 1 rfl ?_
        refine g_iconst X dX10_readWant_70 (q := 71) rfl li_i1 ?_
        refine g_iadd X dX10_readWant_71 (q := 72) rfl ?_
        refine g_aload_n X dX10_readWant_72 (q := 73) rfl 0 rfl ?_
        refine g_bipush X dX10_readWant_73 (q := 75) rfl li_b21 ?_
        refine v_readCell X dX10_readWant_75 (q := 78) rfl (Nat.le_of_ble_eq_true rfl) (Nat.le_of_ble_eq_true rfl) (Nat.le_of_ble_eq_true rfl) hs (fun y4 hs => ?_)
        refine ms_18 X dX10_readWant_78 (q := 79) rfl hs (fun s3 hs => ?_)
        refine g_aload_n X dX10_readWant_79 (q := 80) rfl 0 rfl ?_
        refine mg_41 X dX10_readWant_80 (q := 83) rfl ?_
        refine g_iload_n X dX10_readWant_83 (q := 84) rfl 1 rfl ?_
        refine g_iconst X dX10_readWant_84 (q := 85) rfl li_i1 ?_
        refine g_iadd X dX10_readWant_85 (q := 86) rfl ?_
        refine ma_18 X dX10_readWant_86 (q := 87) rfl hs (fun y5 hs => ?_)
        refine g_iconst X dX10_readWant_87 (q := 88) rfl li_im1 ?_
        refine g_icmp_ne X dX10_readWant_88 (q := 91) rfl (tgt := 93) (by decide) hs ?_ ?_
        · intro hs
          refine g_aload_n X dX10_readWant_93 (q := 94) rfl 0 rfl ?_
          refine mg_41 X dX10_readWant_94 (q := 97) rfl ?_
          refine g_iload_n X dX10_readWant_97 (q := 98) rfl 1 rfl ?_
          refine g_iconst X dX10_readWant_98 (q := 99) rfl li_i2 ?_
          refine g_iadd X dX10_readWant_99 (q := 100) rfl ?_
          refine g_aload_n X dX10_readWant_100 (q := 101) rfl 0 rfl ?_
          refine g_bipush X dX10_readWant_101 (q := 103) rfl li_b22 ?_
          refine g_iconst X dX10_readWant_103 (q := 104) rfl li_i0 ?_
          refine g_sipush X dX10_readWant_104 (q := 107) rfl li_s999 ?_
          refine v_readTold X dX10_readWant_107 (q := 110) rfl (Nat.le_of_ble_eq_true rfl) (Nat.le_of_ble_eq_true rfl) (Nat.le_of_ble_eq_true rfl) hs (fun y6 hs => ?_)
          refine ms_18 X dX10_readWant_110 (q := 111) rfl hs (fun s4 hs => ?_)
          refine g_aload_n X dX10_readWant_111 (q := 112) rfl 0 rfl ?_
          refine mg_41 X dX10_readWant_112 (q := 115) rfl ?_
          refine g_iload_n X dX10_readWant_115 (q := 116) rfl 1 rfl ?_
          refine g_iconst X dX10_readWant_116 (q := 117) rfl li_i2 ?_
          refine g_iadd X dX10_readWant_117 (q := 118) rfl ?_
          refine ma_18 X dX10_readWant_118 (q := 119) rfl hs (fun y7 hs => ?_)
          refine g_iconst X dX10_readWant_119 (q := 120) rfl li_im1 ?_
          refine g_icmp_ne X dX10_readWant_120 (q := 123) rfl (tgt := 125) (by decide) hs ?_ ?_
          · intro hs
            refine g_aload_n X dX10_readWant_125 (q := 126) rfl 0 rfl ?_
            refine mg_41 X dX10_readWant_126 (q := 129) rfl ?_
            refine g_iload_n X dX10_readWant_129 (q := 130) rfl 1 rfl ?_
            refine g_iconst X dX10_readWant_130 (q := 131) rfl li_i3 ?_
            refine g_iadd X dX10_readWant_131 (q := 132) rfl ?_
            refine g_aload_n X dX10_readWant_132 (q := 133) rfl 0 rfl ?_
            refine g_bipush X dX10_readWant_133 (q := 135) rfl li_b23 ?_
            refine g_iconst X dX10_readWant_135 (q := 136) rfl li_i1 ?_
            refine g_bipush X dX10_readWant_136 (q := 138) rfl li_b99 ?_
            refine v_readTold X dX10_readWant_138 (q := 141) rfl (Nat.le_of_ble_eq_true rfl) (Nat.le_of_ble_eq_true rfl) (Nat.le_of_ble_eq_true rfl) hs (fun y8 hs => ?_)
            refine ms_18 X dX10_readWant_141 (q := 142) rfl hs (fun s5 hs => ?_)
            refine g_aload_n X dX10_readWant_142 (q := 143) rfl 0 rfl ?_
            refine mg_41 X dX10_readWant_143 (q := 146) rfl ?_
            refine g_iload_n X dX10_readWant_146 (q := 147) rfl 1 rfl ?_
            refine g_iconst X dX10_readWant_147 (q := 148) rfl li_i3 ?_
            refine g_iadd X dX10_readWant_148 (q := 149) rfl ?_
            refine ma_18 X dX10_readWant_149 (q := 150) rfl hs (fun y9 hs => ?_)
            refine g_iconst X dX10_readWant_150 (q := 151) rfl li_im1 ?_
            refine g_icmp_ne X dX10_readWant_151 (q := 154) rfl (tgt := 158) (by decide) hs ?_ ?_
            · intro hs
              refine g_aload_n X dX10_readWant_158 (q := 159) rfl 0 rfl ?_
              refine g_bipush X dX10_readWant_159 (q := 161) rfl li_b59 ?_
              refine v_readMark X dX10_readWant_161 (q := 164) rfl (Nat.le_of_ble_eq_true rfl) (Nat.le_of_ble_eq_true rfl) (Nat.le_of_ble_eq_true rfl) hs (fun y10 hs => ?_)
              exact RI _ 164 _ _ _ (rU1 hs) rfl (rV1 hs) dX10_readWant_164
            · intro hs
              refine g_iconst X dX10_readWant_154 (q := 155) rfl li_im1 ?_
              refine g_goto X dX10_readWant_155 (tgt := 164) (by decide) ?_
              exact RI _ 164 _ _ _ (rU1 hs) rfl (rV1 hs) dX10_readWant_164
          · intro hs
            refine g_iconst X dX10_readWant_123 (q := 124) rfl li_im1 ?_
            exact RI _ 124 _ _ _ (rU1 hs) rfl (rV1 hs) dX10_readWant_124
        · intro hs
          refine g_iconst X dX10_readWant_91 (q := 92) rfl li_im1 ?_
          exact RI _ 92 _ _ _ (rU1 hs) rfl (rV1 hs) dX10_readWant_92
      · intro hs
        refine g_iconst X dX10_readWant_63 (q := 64) rfl li_im1 ?_
        exact RI _ 64 _ _ _ (rU1 hs) rfl (rV1 hs) dX10_readWant_64
    refine g_if_eq X dX10_readWant_26 (q := 29) rfl (tgt := 36) (by decide) hs ?_ ?_
    · intro hs
      refine g_aload_n X dX10_readWant_36 (q := 37) rfl 0 rfl ?_
      refine mg_41 X dX10_readWant_37 (q := 40) rfl ?_
      refine g_iload_n X dX10_readWant_40 (q := 41) rfl 1 rfl ?_
      refine g_aload_n X dX10_readWant_41 (q := 42) rfl 0 rfl ?_
      refine g_iconst X dX10_readWant_42 (q := 43) rfl li_i0 ?_
      refine g_aload_n X dX10_readWant_43 (q := 44) rfl 0 rfl ?_
      refine mg_34 X dX10_readWant_44 (q := 47) rfl ?_
      refine g_iconst X dX10_readWant_47 (q := 48) rfl li_i1 ?_
      refine g_isub X dX10_readWant_48 (q := 49) rfl ?_
      refine v_readNumber X dX10_readWant_49 (q := 52) rfl (Nat.le_of_ble_eq_true rfl) (Nat.le_of_ble_eq_true rfl) (Nat.le_of_ble_eq_true rfl) hs (fun y11 hs => ?_)
      refine ms_18 X dX10_readWant_52 (q := 53) rfl hs (fun s6 hs => ?_)
      exact wg_sub [0, 1] rfl (ih1 _ hs)
    · intro hs
      refine g_aload_n X dX10_readWant_29 (q := 30) rfl 0 rfl ?_
      refine v_reads X dX10_readWant_30 (q := 33) rfl (Nat.le_of_ble_eq_true rfl) (Nat.le_of_ble_eq_true rfl) (Nat.le_of_ble_eq_true rfl) hs (fun s7 hs => ?_)
      refine g_goto X dX10_readWant_33 (tgt := 53) (by decide) ?_
      exact wg_sub [0, 1] rfl (ih1 _ hs)
  · intro hs
    refine g_iconst X dX10_readWant_10 (q := 11) rfl li_im1 ?_
    exact RI _ 11 _ _ _ (rU1 hs) rfl (rV1 hs) dX10_readWant_11
theorem v_readWant {p : Program} {l : Launch} {e : Env} {st : State} {m : MethodId} {args : Array Value} {below : List Frame} {meth : Method} {c : Code} {Q : State → Prop} {nL : Nat} {cc : ByteArray} {s : ST} {pc q : Nat} {lv : List (Nat × Value)} {rest : List Value} {D : va_G} {cA : ClassId} {h : Nat → Nat} {d0 : Nat} (X : Cx (KM D cA h) p st m args meth c cc nL RX10) {x1 : Int32} (d : decode cc pc = .ok (.invokevirtual 266, 3)) (hq : pc + 3 = q) (hd1 : 6 + 1 ≤ d0) (hd2 : 8 + (2 + 11) + 100 * 6 ≤ 100 * d0) (hr : (rest.map fun v => v.category).sum ≤ 8) {B : Type} {f : Int32 × ST → Option B} {r : B} (hs : Bd (M_readWant s x1) f = some r) (k : ∀ y, f y = some r → WG (KM D cA h) p l e (rmD d0) st m args below meth c Q nL y.2 q lv (.int y.1 :: rest)) : WG (KM D cA h) p l e (rmD d0) st m args below meth c Q nL s pc lv (.int x1 :: .ref (h 0) :: rest) := by
  obtain ⟨v, hv, hs⟩ := Bd_e hs
  exact cV_I X 0 (n := 1) (k_readWant l D cA h s x1 hv) gv_X10_readWant ⟨hd1, hd2⟩ ⟨by decide, by decide, by decide +kernel⟩ (As := [.int x1]) rfl hr (Nat.le_of_ble_eq_true rfl) (fs := mF h (s.1 0)) rfl rfl rfl d hq (k _ hs)
theorem dX10_readWants_0 : decode cX10_readWants 0 = .ok (.iconst 0, 1) := by decide +kernel
theorem dX10_readWants_1 : decode cX10_readWants 1 = .ok (.istore_n 1, 1) := by decide +kernel
theorem dX10_readWants_2 : decode cX10_readWants 2 = .ok (.aload_n 0, 1) := by decide +kernel
theorem dX10_readWants_3 : decode cX10_readWants 3 = .ok (.bipush 19, 2) := by decide +kernel
theorem dX10_readWants_5 : decode cX10_readWants 5 = .ok (.invokevirtual 216, 3) := by decide +kernel
theorem dX10_readWants_8 : decode cX10_readWants 8 = .ok (.ifCond .eq 38, 3) := by decide +kernel
theorem dX10_readWants_11 : decode cX10_readWants 11 = .ok (.iload_n 1, 1) := by decide +kernel
theorem dX10_readWants_12 : decode cX10_readWants 12 = .ok (.bipush 10, 2) := by decide +kernel
theorem dX10_readWants_14 : decode cX10_readWants 14 = .ok (.if_icmp .ne 9, 3) := by decide +kernel
theorem dX10_readWants_17 : decode cX10_readWants 17 = .ok (.aload_n 0, 1) := by decide +kernel
theorem dX10_readWants_18 : decode cX10_readWants 18 = .ok (.iconst 3, 1) := by decide +kernel
theorem dX10_readWants_19 : decode cX10_readWants 19 = .ok (.invokevirtual 188, 3) := by decide +kernel
theorem dX10_readWants_22 : decode cX10_readWants 22 = .ok (.ireturn, 1) := by decide +kernel
theorem dX10_readWants_23 : decode cX10_readWants 23 = .ok (.aload_n 0, 1) := by decide +kernel
theorem dX10_readWants_24 : decode cX10_readWants 24 = .ok (.bipush 40, 2) := by decide +kernel
theorem dX10_readWants_26 : decode cX10_readWants 26 = .ok (.iconst 4, 1) := by decide +kernel
theorem dX10_readWants_27 : decode cX10_readWants 27 = .ok (.iload_n 1, 1) := by decide +kernel
theorem dX10_readWants_28 : decode cX10_readWants 28 = .ok (.imul, 1) := by decide +kernel
theorem dX10_readWants_29 : decode cX10_readWants 29 = .ok (.iadd, 1) := by decide +kernel
theorem dX10_readWants_30 : decode cX10_readWants 30 = .ok (.invokevirtual 266, 3) := by decide +kernel
theorem dX10_readWants_33 : decode cX10_readWants 33 = .ok (.iconst (-1), 1) := by decide +kernel
theorem dX10_readWants_34 : decode cX10_readWants 34 = .ok (.if_icmp .ne 5, 3) := by decide +kernel
theorem dX10_readWants_37 : decode cX10_readWants 37 = .ok (.iconst (-1), 1) := by decide +kernel
theorem dX10_readWants_38 : decode cX10_readWants 38 = .ok (.ireturn, 1) := by decide +kernel
theorem dX10_readWants_39 : decode cX10_readWants 39 = .ok (.iload_n 1, 1) := by decide +kernel
theorem dX10_readWants_40 : decode cX10_readWants 40 = .ok (.iconst 1, 1) := by decide +kernel
theorem dX10_readWants_41 : decode cX10_readWants 41 = .ok (.iadd, 1) := by decide +kernel
theorem dX10_readWants_42 : decode cX10_readWants 42 = .ok (.istore_n 1, 1) := by decide +kernel
theorem dX10_readWants_43 : decode cX10_readWants 43 = .ok (.goto (-41), 3) := by decide +kernel
theorem dX10_readWants_46 : decode cX10_readWants 46 = .ok (.aload_n 0, 1) := by decide +kernel
theorem dX10_readWants_47 : decode cX10_readWants 47 = .ok (.getfield 157, 3) := by decide +kernel
theorem dX10_readWants_50 : decode cX10_readWants 50 = .ok (.ifCond .ne 7, 3) := by decide +kernel
theorem dX10_readWants_53 : decode cX10_readWants 53 = .ok (.iload_n 1, 1) := by decide +kernel
theorem dX10_readWants_54 : decode cX10_readWants 54 = .ok (.goto 8, 3) := by decide +kernel
theorem dX10_readWants_57 : decode cX10_readWants 57 = .ok (.aload_n 0, 1) := by decide +kernel
theorem dX10_readWants_58 : decode cX10_readWants 58 = .ok (.iconst 1, 1) := by decide +kernel
theorem dX10_readWants_59 : decode cX10_readWants 59 = .ok (.invokevirtual 188, 3) := by decide +kernel
theorem dX10_readWants_62 : decode cX10_readWants 62 = .ok (.ireturn, 1) := by decide +kernel
def M_readWants (s : ST) : Option (Int32 × ST) := lpK2 (C := Int32 × ST) (fun (rec1 : Int32 → ST → Option (Int32 × ST)) (a1 : Int32) (s1 : ST) => Lt (M_isWord s1 (19 : Int32)) fun y1 => if y1 = 0 then (if (s1.1 0 15) = 0 then (some (a1, s1)) else (Lt (M_errs s1 (1 : Int32)) fun y2 => some (y2.1, y2.2))) else (if a1 = (10 : Int32) then (Lt (M_errs s1 (3 : Int32)) fun y5 => some (y5.1, y5.2)) else (Bd (M_readWant s1 ((40 : Int32) + ((4 : Int32) * a1))) fun y3 => if y3.1 = (-1 : Int32) then (some ((-1 : Int32), y3.2)) else (Lt ((a1 + (1 : Int32))) fun y4 => rec1 y4 y3.2)))) FU (0 : Int32) s
set_option maxRecDepth 100000 in
set_option maxHeartbeats 4000000 in
theorem k_readWants (l : Launch) (D : va_G) (cA : ClassId) (h : Nat → Nat) (s : ST) {o : Int32 × ST} (hs : M_readWants s = some o) : MI l (KM D cA h) 7 yX10_readWants cX10_readWants 2 (some .int) s [.ref (h 0)] o.1 o.2 := by
  refine met_i (by decide) (Nat.le_of_ble_eq_true rfl) ?_
  intro p e st m args below meth c Q X RI
  unfold M_readWants at hs
  refine g_iconst X dX10_readWants_0 (q := 1) rfl li_i0 ?_
  refine g_istore_n X dX10_readWants_1 (q := 2) rfl (Nat.le_of_ble_eq_true rfl) (lv' := [(1, .int (0 : Int32)), (0, .ref (h 0))]) rfl ?_
  refine wg_sub [1, 0] rfl (lpW2 (fun (a1 : Int32) (s1 : ST) => WG (KM D cA h) p l e (rmD 7) st m args below meth c Q 2 s1 2 [(0, .ref (h 0)), (1, .int a1)] []) (fun rec1 ih1 a1 s1 hs => ?_) _ _ _ hs)
  refine g_aload_n X dX10_readWants_2 (q := 3) rfl 0 rfl ?_
  refine g_bipush X dX10_readWants_3 (q := 5) rfl li_b19 ?_
  refine v_isWord X dX10_readWants_5 (q := 8) rfl (Nat.le_of_ble_eq_true rfl) (Nat.le_of_ble_eq_true rfl) (Nat.le_of_ble_eq_true rfl) hs (fun y1 hs => ?_)
  refine g_if_eq X dX10_readWants_8 (q := 11) rfl (tgt := 46) (by decide) hs ?_ ?_
  · intro hs
    refine g_aload_n X dX10_readWants_46 (q := 47) rfl 0 rfl ?_
    refine mg_15 X dX10_readWants_47 (q := 50) rfl ?_
    refine g_if_ne X dX10_readWants_50 (q := 53) rfl (tgt := 57) (by decide) hs ?_ ?_
    · intro hs
      refine g_aload_n X dX10_readWants_57 (q := 58) rfl 0 rfl ?_
      refine g_iconst X dX10_readWants_58 (q := 59) rfl li_i1 ?_
      refine v_errs X dX10_readWants_59 (q := 62) rfl (Nat.le_of_ble_eq_true rfl) (Nat.le_of_ble_eq_true rfl) (Nat.le_of_ble_eq_true rfl) hs (fun y2 hs => ?_)
      exact RI _ 62 _ _ _ (rU1 hs) rfl (rV1 hs) dX10_readWants_62
    · intro hs
      refine g_iload_n X dX10_readWants_53 (q := 54) rfl 1 rfl ?_
      refine g_goto X dX10_readWants_54 (tgt := 62) (by decide) ?_
      exact RI _ 62 _ _ _ (rU1 hs) rfl (rV1 hs) dX10_readWants_62
  · intro hs
    refine g_iload_n X dX10_readWants_11 (q := 12) rfl 1 rfl ?_
    refine g_bipush X dX10_readWants_12 (q := 14) rfl li_b10 ?_
    refine g_icmp_ne X dX10_readWants_14 (q := 17) rfl (tgt := 23) (by decide) hs ?_ ?_
    · intro hs
      refine g_aload_n X dX10_readWants_23 (q := 24) rfl 0 rfl ?_
      refine g_bipush X dX10_readWants_24 (q := 26) rfl li_b40 ?_
      refine g_iconst X dX10_readWants_26 (q := 27) rfl li_i4 ?_
      refine g_iload_n X dX10_readWants_27 (q := 28) rfl 1 rfl ?_
      refine g_imul X dX10_readWants_28 (q := 29) rfl ?_
      refine g_iadd X dX10_readWants_29 (q := 30) rfl ?_
      refine v_readWant X dX10_readWants_30 (q := 33) rfl (Nat.le_of_ble_eq_true rfl) (Nat.le_of_ble_eq_true rfl) (Nat.le_of_ble_eq_true rfl) hs (fun y3 hs => ?_)
      refine g_iconst X dX10_readWants_33 (q := 34) rfl li_im1 ?_
      refine g_icmp_ne X dX10_readWants_34 (q := 37) rfl (tgt := 39) (by decide) hs ?_ ?_
      · intro hs
        refine g_iload_n X dX10_readWants_39 (q := 40) rfl 1 rfl ?_
        refine g_iconst X dX10_readWants_40 (q := 41) rfl li_i1 ?_
        refine g_iadd X dX10_readWants_41 (q := 42) rfl ?_
        refine nmI hs (fun y4 hs => ?_)
        refine g_istore_n X dX10_readWants_42 (q := 43) rfl (Nat.le_of_ble_eq_true rfl) (lv' := [(1, .int y4), (0, .ref (h 0))]) rfl ?_
        refine g_goto X dX10_readWants_43 (tgt := 2) (by decide) ?_
        exact wg_sub [1, 0] rfl (ih1 _ _ hs)
      · intro hs
        refine g_iconst X dX10_readWants_37 (q := 38) rfl li_im1 ?_
        exact RI _ 38 _ _ _ (rU1 hs) rfl (rV1 hs) dX10_readWants_38
    · intro hs
      refine g_aload_n X dX10_readWants_17 (q := 18) rfl 0 rfl ?_
      refine g_iconst X dX10_readWants_18 (q := 19) rfl li_i3 ?_
      refine v_errs X dX10_readWants_19 (q := 22) rfl (Nat.le_of_ble_eq_true rfl) (Nat.le_of_ble_eq_true rfl) (Nat.le_of_ble_eq_true rfl) hs (fun y5 hs => ?_)
      exact RI _ 22 _ _ _ (rU1 hs) rfl (rV1 hs) dX10_readWants_22
theorem v_readWants {p : Program} {l : Launch} {e : Env} {st : State} {m : MethodId} {args : Array Value} {below : List Frame} {meth : Method} {c : Code} {Q : State → Prop} {nL : Nat} {cc : ByteArray} {s : ST} {pc q : Nat} {lv : List (Nat × Value)} {rest : List Value} {D : va_G} {cA : ClassId} {h : Nat → Nat} {d0 : Nat} (X : Cx (KM D cA h) p st m args meth c cc nL RX10) (d : decode cc pc = .ok (.invokevirtual 275, 3)) (hq : pc + 3 = q) (hd1 : 7 + 1 ≤ d0) (hd2 : 8 + (2 + 11) + 100 * 7 ≤ 100 * d0) (hr : (rest.map fun v => v.category).sum ≤ 8) {B : Type} {f : Int32 × ST → Option B} {r : B} (hs : Bd (M_readWants s) f = some r) (k : ∀ y, f y = some r → WG (KM D cA h) p l e (rmD d0) st m args below meth c Q nL y.2 q lv (.int y.1 :: rest)) : WG (KM D cA h) p l e (rmD d0) st m args below meth c Q nL s pc lv (.ref (h 0) :: rest) := by
  obtain ⟨v, hv, hs⟩ := Bd_e hs
  exact cV_I X 0 (n := 0) (k_readWants l D cA h s hv) gv_X10_readWants ⟨hd1, hd2⟩ ⟨by decide, by decide, by decide +kernel⟩ (As := []) rfl hr (Nat.le_of_ble_eq_true rfl) (fs := mF h (s.1 0)) rfl rfl rfl d hq (k _ hs)
theorem dX10_readPlanLine_0 : decode cX10_readPlanLine 0 = .ok (.aload_n 0, 1) := by decide +kernel
theorem dX10_readPlanLine_1 : decode cX10_readPlanLine 1 = .ok (.getfield 68, 3) := by decide +kernel
theorem dX10_readPlanLine_4 : decode cX10_readPlanLine 4 = .ok (.iload_n 1, 1) := by decide +kernel
theorem dX10_readPlanLine_5 : decode cX10_readPlanLine 5 = .ok (.aload_n 0, 1) := by decide +kernel
theorem dX10_readPlanLine_6 : decode cX10_readPlanLine 6 = .ok (.bipush 22, 2) := by decide +kernel
theorem dX10_readPlanLine_8 : decode cX10_readPlanLine 8 = .ok (.iconst 0, 1) := by decide +kernel
theorem dX10_readPlanLine_9 : decode cX10_readPlanLine 9 = .ok (.sipush 999, 3) := by decide +kernel
theorem dX10_readPlanLine_12 : decode cX10_readPlanLine 12 = .ok (.invokevirtual 247, 3) := by decide +kernel
theorem dX10_readPlanLine_15 : decode cX10_readPlanLine 15 = .ok (.iastore, 1) := by decide +kernel
theorem dX10_readPlanLine_16 : decode cX10_readPlanLine 16 = .ok (.aload_n 0, 1) := by decide +kernel
theorem dX10_readPlanLine_17 : decode cX10_readPlanLine 17 = .ok (.getfield 68, 3) := by decide +kernel
theorem dX10_readPlanLine_20 : decode cX10_readPlanLine 20 = .ok (.iload_n 1, 1) := by decide +kernel
theorem dX10_readPlanLine_21 : decode cX10_readPlanLine 21 = .ok (.iaload, 1) := by decide +kernel
theorem dX10_readPlanLine_22 : decode cX10_readPlanLine 22 = .ok (.iconst (-1), 1) := by decide +kernel
theorem dX10_readPlanLine_23 : decode cX10_readPlanLine 23 = .ok (.if_icmp .ne 5, 3) := by decide +kernel
theorem dX10_readPlanLine_26 : decode cX10_readPlanLine 26 = .ok (.iconst (-1), 1) := by decide +kernel
theorem dX10_readPlanLine_27 : decode cX10_readPlanLine 27 = .ok (.ireturn, 1) := by decide +kernel
theorem dX10_readPlanLine_28 : decode cX10_readPlanLine 28 = .ok (.aload_n 0, 1) := by decide +kernel
theorem dX10_readPlanLine_29 : decode cX10_readPlanLine 29 = .ok (.getfield 68, 3) := by decide +kernel
theorem dX10_readPlanLine_32 : decode cX10_readPlanLine 32 = .ok (.iload_n 1, 1) := by decide +kernel
theorem dX10_readPlanLine_33 : decode cX10_readPlanLine 33 = .ok (.iconst 2, 1) := by decide +kernel
theorem dX10_readPlanLine_34 : decode cX10_readPlanLine 34 = .ok (.iadd, 1) := by decide +kernel
theorem dX10_readPlanLine_35 : decode cX10_readPlanLine 35 = .ok (.iconst 0, 1) := by decide +kernel
theorem dX10_readPlanLine_36 : decode cX10_readPlanLine 36 = .ok (.iastore, 1) := by decide +kernel
theorem dX10_readPlanLine_37 : decode cX10_readPlanLine 37 = .ok (.aload_n 0, 1) := by decide +kernel
theorem dX10_readPlanLine_38 : decode cX10_readPlanLine 38 = .ok (.getfield 157, 3) := by decide +kernel
theorem dX10_readPlanLine_41 : decode cX10_readPlanLine 41 = .ok (.iconst 2, 1) := by decide +kernel
theorem dX10_readPlanLine_42 : decode cX10_readPlanLine 42 = .ok (.if_icmp .ne 53, 3) := by decide +kernel
theorem dX10_readPlanLine_45 : decode cX10_readPlanLine 45 = .ok (.aload_n 0, 1) := by decide +kernel
theorem dX10_readPlanLine_46 : decode cX10_readPlanLine 46 = .ok (.aload_n 0, 1) := by decide +kernel
theorem dX10_readPlanLine_47 : decode cX10_readPlanLine 47 = .ok (.getfield 160, 3) := by decide +kernel
theorem dX10_readPlanLine_50 : decode cX10_readPlanLine 50 = .ok (.bipush 26, 2) := by decide +kernel
theorem dX10_readPlanLine_52 : decode cX10_readPlanLine 52 = .ok (.bipush 29, 2) := by decide +kernel
theorem dX10_readPlanLine_54 : decode cX10_readPlanLine 54 = .ok (.invokevirtual 111, 3) := by decide +kernel
theorem dX10_readPlanLine_57 : decode cX10_readPlanLine 57 = .ok (.ifCond .eq 38, 3) := by decide +kernel
theorem dX10_readPlanLine_60 : decode cX10_readPlanLine 60 = .ok (.aload_n 0, 1) := by decide +kernel
theorem dX10_readPlanLine_61 : decode cX10_readPlanLine 61 = .ok (.getfield 68, 3) := by decide +kernel
theorem dX10_readPlanLine_64 : decode cX10_readPlanLine 64 = .ok (.iload_n 1, 1) := by decide +kernel
theorem dX10_readPlanLine_65 : decode cX10_readPlanLine 65 = .ok (.iconst 1, 1) := by decide +kernel
theorem dX10_readPlanLine_66 : decode cX10_readPlanLine 66 = .ok (.iadd, 1) := by decide +kernel
theorem dX10_readPlanLine_67 : decode cX10_readPlanLine 67 = .ok (.iconst 2, 1) := by decide +kernel
theorem dX10_readPlanLine_68 : decode cX10_readPlanLine 68 = .ok (.iastore, 1) := by decide +kernel
theorem dX10_readPlanLine_69 : decode cX10_readPlanLine 69 = .ok (.aload_n 0, 1) := by decide +kernel
theorem dX10_readPlanLine_70 : decode cX10_readPlanLine 70 = .ok (.getfield 68, 3) := by decide +kernel
theorem dX10_readPlanLine_73 : decode cX10_readPlanLine 73 = .ok (.iload_n 1, 1) := by decide +kernel
theorem dX10_readPlanLine_74 : decode cX10_readPlanLine 74 = .ok (.iconst 3, 1) := by decide +kernel
theorem dX10_readPlanLine_75 : decode cX10_readPlanLine 75 = .ok (.iadd, 1) := by decide +kernel
theorem dX10_readPlanLine_76 : decode cX10_readPlanLine 76 = .ok (.aload_n 0, 1) := by decide +kernel
theorem dX10_readPlanLine_77 : decode cX10_readPlanLine 77 = .ok (.getfield 160, 3) := by decide +kernel
theorem dX10_readPlanLine_80 : decode cX10_readPlanLine 80 = .ok (.bipush 26, 2) := by decide +kernel
theorem dX10_readPlanLine_82 : decode cX10_readPlanLine 82 = .ok (.isub, 1) := by decide +kernel
theorem dX10_readPlanLine_83 : decode cX10_readPlanLine 83 = .ok (.iastore, 1) := by decide +kernel
theorem dX10_readPlanLine_84 : decode cX10_readPlanLine 84 = .ok (.aload_n 0, 1) := by decide +kernel
theorem dX10_readPlanLine_85 : decode cX10_readPlanLine 85 = .ok (.invokevirtual 195, 3) := by decide +kernel
theorem dX10_readPlanLine_88 : decode cX10_readPlanLine 88 = .ok (.aload_n 0, 1) := by decide +kernel
theorem dX10_readPlanLine_89 : decode cX10_readPlanLine 89 = .ok (.bipush 59, 2) := by decide +kernel
theorem dX10_readPlanLine_91 : decode cX10_readPlanLine 91 = .ok (.invokevirtual 251, 3) := by decide +kernel
theorem dX10_readPlanLine_94 : decode cX10_readPlanLine 94 = .ok (.ireturn, 1) := by decide +kernel
theorem dX10_readPlanLine_95 : decode cX10_readPlanLine 95 = .ok (.aload_n 0, 1) := by decide +kernel
theorem dX10_readPlanLine_96 : decode cX10_readPlanLine 96 = .ok (.bipush 24, 2) := by decide +kernel
theorem dX10_readPlanLine_98 : decode cX10_readPlanLine 98 = .ok (.invokevirtual 216, 3) := by decide +kernel
theorem dX10_readPlanLine_101 : decode cX10_readPlanLine 101 = .ok (.ifCond .eq 64, 3) := by decide +kernel
theorem dX10_readPlanLine_104 : decode cX10_readPlanLine 104 = .ok (.aload_n 0, 1) := by decide +kernel
theorem dX10_readPlanLine_105 : decode cX10_readPlanLine 105 = .ok (.getfield 68, 3) := by decide +kernel
theorem dX10_readPlanLine_108 : decode cX10_readPlanLine 108 = .ok (.iload_n 1, 1) := by decide +kernel
theorem dX10_readPlanLine_109 : decode cX10_readPlanLine 109 = .ok (.iconst 1, 1) := by decide +kernel
theorem dX10_readPlanLine_110 : decode cX10_readPlanLine 110 = .ok (.iadd, 1) := by decide +kernel
theorem dX10_readPlanLine_111 : decode cX10_readPlanLine 111 = .ok (.iconst 0, 1) := by decide +kernel
theorem dX10_readPlanLine_112 : decode cX10_readPlanLine 112 = .ok (.iastore, 1) := by decide +kernel
theorem dX10_readPlanLine_113 : decode cX10_readPlanLine 113 = .ok (.aload_n 0, 1) := by decide +kernel
theorem dX10_readPlanLine_114 : decode cX10_readPlanLine 114 = .ok (.getfield 68, 3) := by decide +kernel
theorem dX10_readPlanLine_117 : decode cX10_readPlanLine 117 = .ok (.iload_n 1, 1) := by decide +kernel
theorem dX10_readPlanLine_118 : decode cX10_readPlanLine 118 = .ok (.iconst 2, 1) := by decide +kernel
theorem dX10_readPlanLine_119 : decode cX10_readPlanLine 119 = .ok (.iadd, 1) := by decide +kernel
theorem dX10_readPlanLine_120 : decode cX10_readPlanLine 120 = .ok (.aload_n 0, 1) := by decide +kernel
theorem dX10_readPlanLine_121 : decode cX10_readPlanLine 121 = .ok (.bipush 24, 2) := by decide +kernel
theorem dX10_readPlanLine_123 : decode cX10_readPlanLine 123 = .ok (.iconst 0, 1) := by decide +kernel
theorem dX10_readPlanLine_124 : decode cX10_readPlanLine 124 = .ok (.aload_n 0, 1) := by decide +kernel
theorem dX10_readPlanLine_125 : decode cX10_readPlanLine 125 = .ok (.getfield 118, 3) := by decide +kernel
theorem dX10_readPlanLine_128 : decode cX10_readPlanLine 128 = .ok (.iconst 1, 1) := by decide +kernel
theorem dX10_readPlanLine_129 : decode cX10_readPlanLine 129 = .ok (.isub, 1) := by decide +kernel
theorem dX10_readPlanLine_130 : decode cX10_readPlanLine 130 = .ok (.invokevirtual 247, 3) := by decide +kernel
theorem dX10_readPlanLine_133 : decode cX10_readPlanLine 133 = .ok (.iastore, 1) := by decide +kernel
theorem dX10_readPlanLine_134 : decode cX10_readPlanLine 134 = .ok (.aload_n 0, 1) := by decide +kernel
theorem dX10_readPlanLine_135 : decode cX10_readPlanLine 135 = .ok (.getfield 68, 3) := by decide +kernel
theorem dX10_readPlanLine_138 : decode cX10_readPlanLine 138 = .ok (.iload_n 1, 1) := by decide +kernel
theorem dX10_readPlanLine_139 : decode cX10_readPlanLine 139 = .ok (.iconst 2, 1) := by decide +kernel
theorem dX10_readPlanLine_140 : decode cX10_readPlanLine 140 = .ok (.iadd, 1) := by decide +kernel
theorem dX10_readPlanLine_141 : decode cX10_readPlanLine 141 = .ok (.iaload, 1) := by decide +kernel
theorem dX10_readPlanLine_142 : decode cX10_readPlanLine 142 = .ok (.iconst (-1), 1) := by decide +kernel
theorem dX10_readPlanLine_143 : decode cX10_readPlanLine 143 = .ok (.if_icmp .ne 5, 3) := by decide +kernel
theorem dX10_readPlanLine_146 : decode cX10_readPlanLine 146 = .ok (.iconst (-1), 1) := by decide +kernel
theorem dX10_readPlanLine_147 : decode cX10_readPlanLine 147 = .ok (.ireturn, 1) := by decide +kernel
theorem dX10_readPlanLine_148 : decode cX10_readPlanLine 148 = .ok (.aload_n 0, 1) := by decide +kernel
theorem dX10_readPlanLine_149 : decode cX10_readPlanLine 149 = .ok (.getfield 68, 3) := by decide +kernel
theorem dX10_readPlanLine_152 : decode cX10_readPlanLine 152 = .ok (.iload_n 1, 1) := by decide +kernel
theorem dX10_readPlanLine_153 : decode cX10_readPlanLine 153 = .ok (.iconst 3, 1) := by decide +kernel
theorem dX10_readPlanLine_154 : decode cX10_readPlanLine 154 = .ok (.iadd, 1) := by decide +kernel
theorem dX10_readPlanLine_155 : decode cX10_readPlanLine 155 = .ok (.aload_n 0, 1) := by decide +kernel
theorem dX10_readPlanLine_156 : decode cX10_readPlanLine 156 = .ok (.bipush 21, 2) := by decide +kernel
theorem dX10_readPlanLine_158 : decode cX10_readPlanLine 158 = .ok (.invokevirtual 263, 3) := by decide +kernel
theorem dX10_readPlanLine_161 : decode cX10_readPlanLine 161 = .ok (.iastore, 1) := by decide +kernel
theorem dX10_readPlanLine_162 : decode cX10_readPlanLine 162 = .ok (.goto 26, 3) := by decide +kernel
theorem dX10_readPlanLine_165 : decode cX10_readPlanLine 165 = .ok (.aload_n 0, 1) := by decide +kernel
theorem dX10_readPlanLine_166 : decode cX10_readPlanLine 166 = .ok (.getfield 68, 3) := by decide +kernel
theorem dX10_readPlanLine_169 : decode cX10_readPlanLine 169 = .ok (.iload_n 1, 1) := by decide +kernel
theorem dX10_readPlanLine_170 : decode cX10_readPlanLine 170 = .ok (.iconst 1, 1) := by decide +kernel
theorem dX10_readPlanLine_171 : decode cX10_readPlanLine 171 = .ok (.iadd, 1) := by decide +kernel
theorem dX10_readPlanLine_172 : decode cX10_readPlanLine 172 = .ok (.iconst 1, 1) := by decide +kernel
theorem dX10_readPlanLine_173 : decode cX10_readPlanLine 173 = .ok (.iastore, 1) := by decide +kernel
theorem dX10_readPlanLine_174 : decode cX10_readPlanLine 174 = .ok (.aload_n 0, 1) := by decide +kernel
theorem dX10_readPlanLine_175 : decode cX10_readPlanLine 175 = .ok (.getfield 68, 3) := by decide +kernel
theorem dX10_readPlanLine_178 : decode cX10_readPlanLine 178 = .ok (.iload_n 1, 1) := by decide +kernel
theorem dX10_readPlanLine_179 : decode cX10_readPlanLine 179 = .ok (.iconst 3, 1) := by decide +kernel
theorem dX10_readPlanLine_180 : decode cX10_readPlanLine 180 = .ok (.iadd, 1) := by decide +kernel
theorem dX10_readPlanLine_181 : decode cX10_readPlanLine 181 = .ok (.aload_n 0, 1) := by decide +kernel
theorem dX10_readPlanLine_182 : decode cX10_readPlanLine 182 = .ok (.bipush 25, 2) := by decide +kernel
theorem dX10_readPlanLine_184 : decode cX10_readPlanLine 184 = .ok (.invokevirtual 263, 3) := by decide +kernel
theorem dX10_readPlanLine_187 : decode cX10_readPlanLine 187 = .ok (.iastore, 1) := by decide +kernel
theorem dX10_readPlanLine_188 : decode cX10_readPlanLine 188 = .ok (.aload_n 0, 1) := by decide +kernel
theorem dX10_readPlanLine_189 : decode cX10_readPlanLine 189 = .ok (.getfield 68, 3) := by decide +kernel
theorem dX10_readPlanLine_192 : decode cX10_readPlanLine 192 = .ok (.iload_n 1, 1) := by decide +kernel
theorem dX10_readPlanLine_193 : decode cX10_readPlanLine 193 = .ok (.iconst 3, 1) := by decide +kernel
theorem dX10_readPlanLine_194 : decode cX10_readPlanLine 194 = .ok (.iadd, 1) := by decide +kernel
theorem dX10_readPlanLine_195 : decode cX10_readPlanLine 195 = .ok (.iaload, 1) := by decide +kernel
theorem dX10_readPlanLine_196 : decode cX10_readPlanLine 196 = .ok (.iconst (-1), 1) := by decide +kernel
theorem dX10_readPlanLine_197 : decode cX10_readPlanLine 197 = .ok (.if_icmp .ne 7, 3) := by decide +kernel
theorem dX10_readPlanLine_200 : decode cX10_readPlanLine 200 = .ok (.iconst (-1), 1) := by decide +kernel
theorem dX10_readPlanLine_201 : decode cX10_readPlanLine 201 = .ok (.goto 9, 3) := by decide +kernel
theorem dX10_readPlanLine_204 : decode cX10_readPlanLine 204 = .ok (.aload_n 0, 1) := by decide +kernel
theorem dX10_readPlanLine_205 : decode cX10_readPlanLine 205 = .ok (.bipush 59, 2) := by decide +kernel
theorem dX10_readPlanLine_207 : decode cX10_readPlanLine 207 = .ok (.invokevirtual 251, 3) := by decide +kernel
theorem dX10_readPlanLine_210 : decode cX10_readPlanLine 210 = .ok (.ireturn, 1) := by decide +kernel
def M_readPlanLine (s : ST) (x1 : Int32) : Option (Int32 × ST) := Bd (M_readTold s (22 : Int32) (0 : Int32) (999 : Int32)) fun y1 => Gs y1.2 19 128 x1 y1.1 fun s1 => Gl s1 19 128 x1 fun y2 => if y2 = (-1 : Int32) then (some ((-1 : Int32), s1)) else (Gs s1 19 128 (x1 + (2 : Int32)) (0 : Int32) fun s2 => Lt (Lt (M_isWord s2 (24 : Int32)) fun y3 => Lt (fun (s3 : ST) => (Gl s3 19 128 (x1 + (3 : Int32)) fun y4 => if y4 = (-1 : Int32) then (some ((-1 : Int32), s3)) else (Bd (M_readMark s3 (59 : Int32)) fun y5 => some (y5.1, y5.2)) : Option (Int32 × ST))) fun j2 => if y3 = 0 then (Gs s2 19 128 (x1 + (1 : Int32)) (1 : Int32) fun s4 => Bd (M_readCell s4 (25 : Int32)) fun y6 => Gs y6.2 19 128 (x1 + (3 : Int32)) y6.1 fun s5 => j2 s5) else (Gs s2 19 128 (x1 + (1 : Int32)) (0 : Int32) fun s6 => Bd (M_readTold s6 (24 : Int32) (0 : Int32) ((s6.1 0 34) - (1 : Int32))) fun y7 => Gs y7.2 19 128 (x1 + (2 : Int32)) y7.1 fun s7 => Gl s7 19 128 (x1 + (2 : Int32)) fun y8 => if y8 = (-1 : Int32) then (some ((-1 : Int32), s7)) else (Bd (M_readCell s7 (21 : Int32)) fun y9 => Gs y9.2 19 128 (x1 + (3 : Int32)) y9.1 fun s8 => j2 s8)) : Option (Int32 × ST)) fun j1 => if (s2.1 0 15) = (2 : Int32) then (Lt (M_isIn s2 (s2.1 0 16) (26 : Int32) (29 : Int32)) fun y10 => if y10 = 0 then (j1) else (Gs s2 19 128 (x1 + (1 : Int32)) (2 : Int32) fun s9 => Gs s9 19 128 (x1 + (3 : Int32)) ((s9.1 0 16) - (26 : Int32)) fun s10 => Bd (M_reads s10) fun s11 => Bd (M_readMark s11 (59 : Int32)) fun y11 => some (y11.1, y11.2))) else (j1))
set_option maxRecDepth 100000 in
set_option maxHeartbeats 4000000 in
theorem k_readPlanLine (l : Launch) (D : va_G) (cA : ClassId) (h : Nat → Nat) (s : ST) (x1 : Int32) {o : Int32 × ST} (hs : M_readPlanLine s x1 = some o) : MI l (KM D cA h) 6 yX10_readPlanLine cX10_readPlanLine 2 (some .int) s [.ref (h 0), .int x1] o.1 o.2 := by
  refine met_i (by decide) (Nat.le_of_ble_eq_true rfl) ?_
  intro p e st m args below meth c Q X RI
  unfold M_readPlanLine at hs
  refine g_aload_n X dX10_readPlanLine_0 (q := 1) rfl 0 rfl ?_
  refine mg_43 X dX10_readPlanLine_1 (q := 4) rfl ?_
  refine g_iload_n X dX10_readPlanLine_4 (q := 5) rfl 1 rfl ?_
  refine g_aload_n X dX10_readPlanLine_5 (q := 6) rfl 0 rfl ?_
  refine g_bipush X dX10_readPlanLine_6 (q := 8) rfl li_b22 ?_
  refine g_iconst X dX10_readPlanLine_8 (q := 9) rfl li_i0 ?_
  refine g_sipush X dX10_readPlanLine_9 (q := 12) rfl li_s999 ?_
  refine v_readTold X dX10_readPlanLine_12 (q := 15) rfl (Nat.le_of_ble_eq_true rfl) (Nat.le_of_ble_eq_true rfl) (Nat.le_of_ble_eq_true rfl) hs (fun y1 hs => ?_)
  refine ms_19 X dX10_readPlanLine_15 (q := 16) rfl hs (fun s1 hs => ?_)
  refine g_aload_n X dX10_readPlanLine_16 (q := 17) rfl 0 rfl ?_
  refine mg_43 X dX10_readPlanLine_17 (q := 20) rfl ?_
  refine g_iload_n X dX10_readPlanLine_20 (q := 21) rfl 1 rfl ?_
  refine ma_19 X dX10_readPlanLine_21 (q := 22) rfl hs (fun y2 hs => ?_)
  refine g_iconst X dX10_readPlanLine_22 (q := 23) rfl li_im1 ?_
  refine g_icmp_ne X dX10_readPlanLine_23 (q := 26) rfl (tgt := 28) (by decide) hs ?_ ?_
  · intro hs
    refine g_aload_n X dX10_readPlanLine_28 (q := 29) rfl 0 rfl ?_
    refine mg_43 X dX10_readPlanLine_29 (q := 32) rfl ?_
    refine g_iload_n X dX10_readPlanLine_32 (q := 33) rfl 1 rfl ?_
    refine g_iconst X dX10_readPlanLine_33 (q := 34) rfl li_i2 ?_
    refine g_iadd X dX10_readPlanLine_34 (q := 35) rfl ?_
    refine g_iconst X dX10_readPlanLine_35 (q := 36) rfl li_i0 ?_
    refine ms_19 X dX10_readPlanLine_36 (q := 37) rfl hs (fun s2 hs => ?_)
    refine g_aload_n X dX10_readPlanLine_37 (q := 38) rfl 0 rfl ?_
    refine mg_15 X dX10_readPlanLine_38 (q := 41) rfl ?_
    refine g_iconst X dX10_readPlanLine_41 (q := 42) rfl li_i2 ?_
    refine jnW0 (WG (KM D cA h) p l e (rmD 6) st m args below meth c Q 2 s2 95 [(0, .ref (h 0)), (1, .int x1)] []) hs (fun  hs => ?_) (fun j1 ih1 hs => ?_)
    · refine g_aload_n X dX10_readPlanLine_95 (q := 96) rfl 0 rfl ?_
      refine g_bipush X dX10_readPlanLine_96 (q := 98) rfl li_b24 ?_
      refine v_isWord X dX10_readPlanLine_98 (q := 101) rfl (Nat.le_of_ble_eq_true rfl) (Nat.le_of_ble_eq_true rfl) (Nat.le_of_ble_eq_true rfl) hs (fun y3 hs => ?_)
      refine jnW1 (fun (s3 : ST) => WG (KM D cA h) p l e (rmD 6) st m args below meth c Q 2 s3 188 [(0, .ref (h 0)), (1, .int x1)] []) hs (fun s3 hs => ?_) (fun j2 ih2 hs => ?_)
      · refine g_aload_n X dX10_readPlanLine_188 (q := 189) rfl 0 rfl ?_
        refine mg_43 X dX10_readPlanLine_189 (q := 192) rfl ?_
        refine g_iload_n X dX10_readPlanLine_192 (q := 193) rfl 1 rfl ?_
        refine g_iconst X dX10_readPlanLine_193 (q := 194) rfl li_i3 ?_
        refine g_iadd X dX10_readPlanLine_194 (q := 195) rfl ?_
        refine ma_19 X dX10_readPlanLine_195 (q := 196) rfl hs (fun y4 hs => ?_)
        refine g_iconst X dX10_readPlanLine_196 (q := 197) rfl li_im1 ?_
        refine g_icmp_ne X dX10_readPlanLine_197 (q := 200) rfl (tgt := 204) (by decide) hs ?_ ?_
        · intro hs
          refine g_aload_n X dX10_readPlanLine_204 (q := 205) rfl 0 rfl ?_
          refine g_bipush X dX10_readPlanLine_205 (q := 207) rfl li_b59 ?_
          refine v_readMark X dX10_readPlanLine_207 (q := 210) rfl (Nat.le_of_ble_eq_true rfl) (Nat.le_of_ble_eq_true rfl) (Nat.le_of_ble_eq_true rfl) hs (fun y5 hs => ?_)
          exact RI _ 210 _ _ _ (rU1 hs) rfl (rV1 hs) dX10_readPlanLine_210
        · intro hs
          refine g_iconst X dX10_readPlanLine_200 (q := 201) rfl li_im1 ?_
          refine g_goto X dX10_readPlanLine_201 (tgt := 210) (by decide) ?_
          exact RI _ 210 _ _ _ (rU1 hs) rfl (rV1 hs) dX10_readPlanLine_210
      refine g_if_eq X dX10_readPlanLine_101 (q := 104) rfl (tgt := 165) (by decide) hs ?_ ?_
      · intro hs
        refine g_aload_n X dX10_readPlanLine_165 (q := 166) rfl 0 rfl ?_
        refine mg_43 X dX10_readPlanLine_166 (q := 169) rfl ?_
        refine g_iload_n X dX10_readPlanLine_169 (q := 170) rfl 1 rfl ?_
        refine g_iconst X dX10_readPlanLine_170 (q := 171) rfl li_i1 ?_
        refine g_iadd X dX10_readPlanLine_171 (q := 172) rfl ?_
        refine g_iconst X dX10_readPlanLine_172 (q := 173) rfl li_i1 ?_
        refine ms_19 X dX10_readPlanLine_173 (q := 174) rfl hs (fun s4 hs => ?_)
        refine g_aload_n X dX10_readPlanLine_174 (q := 175) rfl 0 rfl ?_
        refine mg_43 X dX10_readPlanLine_175 (q := 178) rfl ?_
        refine g_iload_n X dX10_readPlanLine_178 (q := 179) rfl 1 rfl ?_
        refine g_iconst X dX10_readPlanLine_179 (q := 180) rfl li_i3 ?_
        refine g_iadd X dX10_readPlanLine_180 (q := 181) rfl ?_
        refine g_aload_n X dX10_readPlanLine_181 (q := 182) rfl 0 rfl ?_
        refine g_bipush X dX10_readPlanLine_182 (q := 184) rfl li_b25 ?_
        refine v_readCell X dX10_readPlanLine_184 (q := 187) rfl (Nat.le_of_ble_eq_true rfl) (Nat.le_of_ble_eq_true rfl) (Nat.le_of_ble_eq_true rfl) hs (fun y6 hs => ?_)
        refine ms_19 X dX10_readPlanLine_187 (q := 188) rfl hs (fun s5 hs => ?_)
        exact wg_sub [0, 1] rfl (ih2 _ hs)
      · intro hs
        refine g_aload_n X dX10_readPlanLine_104 (q := 105) rfl 0 rfl ?_
        refine mg_43 X dX10_readPlanLine_105 (q := 108) rfl ?_
        refine g_iload_n X dX10_readPlanLine_108 (q := 109) rfl 1 rfl ?_
        refine g_iconst X dX10_readPlanLine_109 (q := 110) rfl li_i1 ?_
        refine g_iadd X dX10_readPlanLine_110 (q := 111) rfl ?_
        refine g_iconst X dX10_readPlanLine_111 (q := 112) rfl li_i0 ?_
        refine ms_19 X dX10_readPlanLine_112 (q := 113) rfl hs (fun s6 hs => ?_)
        refine g_aload_n X dX10_readPlanLine_113 (q := 114) rfl 0 rfl ?_
        refine mg_43 X dX10_readPlanLine_114 (q := 117) rfl ?_
        refine g_iload_n X dX10_readPlanLine_117 (q := 118) rfl 1 rfl ?_
        refine g_iconst X dX10_readPlanLine_118 (q := 119) rfl li_i2 ?_
        refine g_iadd X dX10_readPlanLine_119 (q := 120) rfl ?_
        refine g_aload_n X dX10_readPlanLine_120 (q := 121) rfl 0 rfl ?_
        refine g_bipush X dX10_readPlanLine_121 (q := 123) rfl li_b24 ?_
        refine g_iconst X dX10_readPlanLine_123 (q := 124) rfl li_i0 ?_
        refine g_aload_n X dX10_readPlanLine_124 (q := 125) rfl 0 rfl ?_
        refine mg_34 X dX10_readPlanLine_125 (q := 128) rfl ?_
        refine g_iconst X dX10_readPlanLine_128 (q := 129) rfl li_i1 ?_
        refine g_isub X dX10_readPlanLine_129 (q := 130) rfl ?_
        refine v_readTold X dX10_readPlanLine_130 (q := 133) rfl (Nat.le_of_ble_eq_true rfl) (Nat.le_of_ble_eq_true rfl) (Nat.le_of_ble_eq_true rfl) hs (fun y7 hs => ?_)
        refine ms_19 X dX10_readPlanLine_133 (q := 134) rfl hs (fun s7 hs => ?_)
        refine g_aload_n X dX10_readPlanLine_134 (q := 135) rfl 0 rfl ?_
        refine mg_43 X dX10_readPlanLine_135 (q := 138) rfl ?_
        refine g_iload_n X dX10_readPlanLine_138 (q := 139) rfl 1 rfl ?_
        refine g_iconst X dX10_readPlanLine_139 (q := 140) rfl li_i2 ?_
        refine g_iadd X dX10_readPlanLine_140 (q := 141) rfl ?_
        refine ma_19 X dX10_readPlanLine_141 (q := 142) rfl hs (fun y8 hs => ?_)
        refine g_iconst X dX10_readPlanLine_142 (q := 143) rfl li_im1 ?_
        refine g_icmp_ne X dX10_readPlanLine_143 (q := 146) rfl (tgt := 148) (by decide) hs ?_ ?_
        · intro hs
          refine g_aload_n X dX10_readPlanLine_148 (q := 149) rfl 0 rfl ?_
          refine mg_43 X dX10_readPlanLine_149 (q := 152) rfl ?_
          refine g_iload_n X dX10_readPlanLine_152 (q := 153) rfl 1 rfl ?_
          refine g_iconst X dX10_readPlanLine_153 (q := 154) rfl li_i3 ?_
          refine g_iadd X dX10_readPlanLine_154 (q := 155) rfl ?_
          refine g_aload_n X dX10_readPlanLine_155 (q := 156) rfl 0 rfl ?_
          refine g_bipush X dX10_readPlanLine_156 (q := 158) rfl li_b21 ?_
          refine v_readCell X dX10_readPlanLine_158 (q := 161) rfl (Nat.le_of_ble_eq_true rfl) (Nat.le_of_ble_eq_true rfl) (Nat.le_of_ble_eq_true rfl) hs (fun y9 hs => ?_)
          refine ms_19 X dX10_readPlanLine_161 (q := 162) rfl hs (fun s8 hs => ?_)
          refine g_goto X dX10_readPlanLine_162 (tgt := 188) (by decide) ?_
          exact wg_sub [0, 1] rfl (ih2 _ hs)
        · intro hs
          refine g_iconst X dX10_readPlanLine_146 (q := 147) rfl li_im1 ?_
          exact RI _ 147 _ _ _ (rU1 hs) rfl (rV1 hs) dX10_readPlanLine_147
    refine g_icmp_ne X dX10_readPlanLine_42 (q := 45) rfl (tgt := 95) (by decide) hs ?_ ?_
    · intro hs
      exact wg_sub [0, 1] rfl (ih1 hs)
    · intro hs
      refine g_aload_n X dX10_readPlanLine_45 (q := 46) rfl 0 rfl ?_
      refine g_aload_n X dX10_readPlanLine_46 (q := 47) rfl 0 rfl ?_
      refine mg_16 X dX10_readPlanLine_47 (q := 50) rfl ?_
      refine g_bipush X dX10_readPlanLine_50 (q := 52) rfl li_b26 ?_
      refine g_bipush X dX10_readPlanLine_52 (q := 54) rfl li_b29 ?_
      refine v_isIn X dX10_readPlanLine_54 (q := 57) rfl (Nat.le_of_ble_eq_true rfl) (Nat.le_of_ble_eq_true rfl) (Nat.le_of_ble_eq_true rfl) hs (fun y10 hs => ?_)
      refine g_if_eq X dX10_readPlanLine_57 (q := 60) rfl (tgt := 95) (by decide) hs ?_ ?_
      · intro hs
        exact wg_sub [0, 1] rfl (ih1 hs)
      · intro hs
        refine g_aload_n X dX10_readPlanLine_60 (q := 61) rfl 0 rfl ?_
        refine mg_43 X dX10_readPlanLine_61 (q := 64) rfl ?_
        refine g_iload_n X dX10_readPlanLine_64 (q := 65) rfl 1 rfl ?_
        refine g_iconst X dX10_readPlanLine_65 (q := 66) rfl li_i1 ?_
        refine g_iadd X dX10_readPlanLine_66 (q := 67) rfl ?_
        refine g_iconst X dX10_readPlanLine_67 (q := 68) rfl li_i2 ?_
        refine ms_19 X dX10_readPlanLine_68 (q := 69) rfl hs (fun s9 hs => ?_)
        refine g_aload_n X dX10_readPlanLine_69 (q := 70) rfl 0 rfl ?_
        refine mg_43 X dX10_readPlanLine_70 (q := 73) rfl ?_
        refine g_iload_n X dX10_readPlanLine_73 (q := 74) rfl 1 rfl ?_
        refine g_iconst X dX10_readPlanLine_74 (q := 75) rfl li_i3 ?_
        refine g_iadd X dX10_readPlanLine_75 (q := 76) rfl ?_
        refine g_aload_n X dX10_readPlanLine_76 (q := 77) rfl 0 rfl ?_
        refine mg_16 X dX10_readPlanLine_77 (q := 80) rfl ?_
        refine g_bipush X dX10_readPlanLine_80 (q := 82) rfl li_b26 ?_
        refine g_isub X dX10_readPlanLine_82 (q := 83) rfl ?_
        refine ms_19 X dX10_readPlanLine_83 (q := 84) rfl hs (fun s10 hs => ?_)
        refine g_aload_n X dX10_readPlanLine_84 (q := 85) rfl 0 rfl ?_
        refine v_reads X dX10_readPlanLine_85 (q := 88) rfl (Nat.le_of_ble_eq_true rfl) (Nat.le_of_ble_eq_true rfl) (Nat.le_of_ble_eq_true rfl) hs (fun s11 hs => ?_)
        refine g_aload_n X dX10_readPlanLine_88 (q := 89) rfl 0 rfl ?_
        refine g_bipush X dX10_readPlanLine_89 (q := 91) rfl li_b59 ?_
        refine v_readMark X dX10_readPlanLine_91 (q := 94) rfl (Nat.le_of_ble_eq_true rfl) (Nat.le_of_ble_eq_true rfl) (Nat.le_of_ble_eq_true rfl) hs (fun y11 hs => ?_)
        exact RI _ 94 _ _ _ (rU1 hs) rfl (rV1 hs) dX10_readPlanLine_94
  · intro hs
    refine g_iconst X dX10_readPlanLine_26 (q := 27) rfl li_im1 ?_
    exact RI _ 27 _ _ _ (rU1 hs) rfl (rV1 hs) dX10_readPlanLine_27
theorem v_readPlanLine {p : Program} {l : Launch} {e : Env} {st : State} {m : MethodId} {args : Array Value} {below : List Frame} {meth : Method} {c : Code} {Q : State → Prop} {nL : Nat} {cc : ByteArray} {s : ST} {pc q : Nat} {lv : List (Nat × Value)} {rest : List Value} {D : va_G} {cA : ClassId} {h : Nat → Nat} {d0 : Nat} (X : Cx (KM D cA h) p st m args meth c cc nL RX10) {x1 : Int32} (d : decode cc pc = .ok (.invokevirtual 269, 3)) (hq : pc + 3 = q) (hd1 : 6 + 1 ≤ d0) (hd2 : 8 + (2 + 11) + 100 * 6 ≤ 100 * d0) (hr : (rest.map fun v => v.category).sum ≤ 8) {B : Type} {f : Int32 × ST → Option B} {r : B} (hs : Bd (M_readPlanLine s x1) f = some r) (k : ∀ y, f y = some r → WG (KM D cA h) p l e (rmD d0) st m args below meth c Q nL y.2 q lv (.int y.1 :: rest)) : WG (KM D cA h) p l e (rmD d0) st m args below meth c Q nL s pc lv (.int x1 :: .ref (h 0) :: rest) := by
  obtain ⟨v, hv, hs⟩ := Bd_e hs
  exact cV_I X 0 (n := 1) (k_readPlanLine l D cA h s x1 hv) gv_X10_readPlanLine ⟨hd1, hd2⟩ ⟨by decide, by decide, by decide +kernel⟩ (As := [.int x1]) rfl hr (Nat.le_of_ble_eq_true rfl) (fs := mF h (s.1 0)) rfl rfl rfl d hq (k _ hs)
theorem dX10_readPlan_0 : decode cX10_readPlan 0 = .ok (.iconst 0, 1) := by decide +kernel
theorem dX10_readPlan_1 : decode cX10_readPlan 1 = .ok (.istore_n 1, 1) := by decide +kernel
theorem dX10_readPlan_2 : decode cX10_readPlan 2 = .ok (.aload_n 0, 1) := by decide +kernel
theorem dX10_readPlan_3 : decode cX10_readPlan 3 = .ok (.bipush 22, 2) := by decide +kernel
theorem dX10_readPlan_5 : decode cX10_readPlan 5 = .ok (.invokevirtual 216, 3) := by decide +kernel
theorem dX10_readPlan_8 : decode cX10_readPlan 8 = .ok (.ifCond .eq 38, 3) := by decide +kernel
theorem dX10_readPlan_11 : decode cX10_readPlan 11 = .ok (.iload_n 1, 1) := by decide +kernel
theorem dX10_readPlan_12 : decode cX10_readPlan 12 = .ok (.bipush 16, 2) := by decide +kernel
theorem dX10_readPlan_14 : decode cX10_readPlan 14 = .ok (.if_icmp .ne 9, 3) := by decide +kernel
theorem dX10_readPlan_17 : decode cX10_readPlan 17 = .ok (.aload_n 0, 1) := by decide +kernel
theorem dX10_readPlan_18 : decode cX10_readPlan 18 = .ok (.iconst 3, 1) := by decide +kernel
theorem dX10_readPlan_19 : decode cX10_readPlan 19 = .ok (.invokevirtual 188, 3) := by decide +kernel
theorem dX10_readPlan_22 : decode cX10_readPlan 22 = .ok (.ireturn, 1) := by decide +kernel
theorem dX10_readPlan_23 : decode cX10_readPlan 23 = .ok (.aload_n 0, 1) := by decide +kernel
theorem dX10_readPlan_24 : decode cX10_readPlan 24 = .ok (.bipush 64, 2) := by decide +kernel
theorem dX10_readPlan_26 : decode cX10_readPlan 26 = .ok (.iconst 4, 1) := by decide +kernel
theorem dX10_readPlan_27 : decode cX10_readPlan 27 = .ok (.iload_n 1, 1) := by decide +kernel
theorem dX10_readPlan_28 : decode cX10_readPlan 28 = .ok (.imul, 1) := by decide +kernel
theorem dX10_readPlan_29 : decode cX10_readPlan 29 = .ok (.iadd, 1) := by decide +kernel
theorem dX10_readPlan_30 : decode cX10_readPlan 30 = .ok (.invokevirtual 269, 3) := by decide +kernel
theorem dX10_readPlan_33 : decode cX10_readPlan 33 = .ok (.iconst (-1), 1) := by decide +kernel
theorem dX10_readPlan_34 : decode cX10_readPlan 34 = .ok (.if_icmp .ne 5, 3) := by decide +kernel
theorem dX10_readPlan_37 : decode cX10_readPlan 37 = .ok (.iconst (-1), 1) := by decide +kernel
theorem dX10_readPlan_38 : decode cX10_readPlan 38 = .ok (.ireturn, 1) := by decide +kernel
theorem dX10_readPlan_39 : decode cX10_readPlan 39 = .ok (.iload_n 1, 1) := by decide +kernel
theorem dX10_readPlan_40 : decode cX10_readPlan 40 = .ok (.iconst 1, 1) := by decide +kernel
theorem dX10_readPlan_41 : decode cX10_readPlan 41 = .ok (.iadd, 1) := by decide +kernel
theorem dX10_readPlan_42 : decode cX10_readPlan 42 = .ok (.istore_n 1, 1) := by decide +kernel
theorem dX10_readPlan_43 : decode cX10_readPlan 43 = .ok (.goto (-41), 3) := by decide +kernel
theorem dX10_readPlan_46 : decode cX10_readPlan 46 = .ok (.aload_n 0, 1) := by decide +kernel
theorem dX10_readPlan_47 : decode cX10_readPlan 47 = .ok (.getfield 157, 3) := by decide +kernel
theorem dX10_readPlan_50 : decode cX10_readPlan 50 = .ok (.ifCond .ne 7, 3) := by decide +kernel
theorem dX10_readPlan_53 : decode cX10_readPlan 53 = .ok (.iload_n 1, 1) := by decide +kernel
theorem dX10_readPlan_54 : decode cX10_readPlan 54 = .ok (.goto 8, 3) := by decide +kernel
theorem dX10_readPlan_57 : decode cX10_readPlan 57 = .ok (.aload_n 0, 1) := by decide +kernel
theorem dX10_readPlan_58 : decode cX10_readPlan 58 = .ok (.iconst 1, 1) := by decide +kernel
theorem dX10_readPlan_59 : decode cX10_readPlan 59 = .ok (.invokevirtual 188, 3) := by decide +kernel
theorem dX10_readPlan_62 : decode cX10_readPlan 62 = .ok (.ireturn, 1) := by decide +kernel
def M_readPlan (s : ST) : Option (Int32 × ST) := lpK2 (C := Int32 × ST) (fun (rec1 : Int32 → ST → Option (Int32 × ST)) (a1 : Int32) (s1 : ST) => Lt (M_isWord s1 (22 : Int32)) fun y1 => if y1 = 0 then (if (s1.1 0 15) = 0 then (some (a1, s1)) else (Lt (M_errs s1 (1 : Int32)) fun y2 => some (y2.1, y2.2))) else (if a1 = (16 : Int32) then (Lt (M_errs s1 (3 : Int32)) fun y5 => some (y5.1, y5.2)) else (Bd (M_readPlanLine s1 ((64 : Int32) + ((4 : Int32) * a1))) fun y3 => if y3.1 = (-1 : Int32) then (some ((-1 : Int32), y3.2)) else (Lt ((a1 + (1 : Int32))) fun y4 => rec1 y4 y3.2)))) FU (0 : Int32) s
set_option maxRecDepth 100000 in
set_option maxHeartbeats 4000000 in
theorem k_readPlan (l : Launch) (D : va_G) (cA : ClassId) (h : Nat → Nat) (s : ST) {o : Int32 × ST} (hs : M_readPlan s = some o) : MI l (KM D cA h) 7 yX10_readPlan cX10_readPlan 2 (some .int) s [.ref (h 0)] o.1 o.2 := by
  refine met_i (by decide) (Nat.le_of_ble_eq_true rfl) ?_
  intro p e st m args below meth c Q X RI
  unfold M_readPlan at hs
  refine g_iconst X dX10_readPlan_0 (q := 1) rfl li_i0 ?_
  refine g_istore_n X dX10_readPlan_1 (q := 2) rfl (Nat.le_of_ble_eq_true rfl) (lv' := [(1, .int (0 : Int32)), (0, .ref (h 0))]) rfl ?_
  refine wg_sub [1, 0] rfl (lpW2 (fun (a1 : Int32) (s1 : ST) => WG (KM D cA h) p l e (rmD 7) st m args below meth c Q 2 s1 2 [(0, .ref (h 0)), (1, .int a1)] []) (fun rec1 ih1 a1 s1 hs => ?_) _ _ _ hs)
  refine g_aload_n X dX10_readPlan_2 (q := 3) rfl 0 rfl ?_
  refine g_bipush X dX10_readPlan_3 (q := 5) rfl li_b22 ?_
  refine v_isWord X dX10_readPlan_5 (q := 8) rfl (Nat.le_of_ble_eq_true rfl) (Nat.le_of_ble_eq_true rfl) (Nat.le_of_ble_eq_true rfl) hs (fun y1 hs => ?_)
  refine g_if_eq X dX10_readPlan_8 (q := 11) rfl (tgt := 46) (by decide) hs ?_ ?_
  · intro hs
    refine g_aload_n X dX10_readPlan_46 (q := 47) rfl 0 rfl ?_
    refine mg_15 X dX10_readPlan_47 (q := 50) rfl ?_
    refine g_if_ne X dX10_readPlan_50 (q := 53) rfl (tgt := 57) (by decide) hs ?_ ?_
    · intro hs
      refine g_aload_n X dX10_readPlan_57 (q := 58) rfl 0 rfl ?_
      refine g_iconst X dX10_readPlan_58 (q := 59) rfl li_i1 ?_
      refine v_errs X dX10_readPlan_59 (q := 62) rfl (Nat.le_of_ble_eq_true rfl) (Nat.le_of_ble_eq_true rfl) (Nat.le_of_ble_eq_true rfl) hs (fun y2 hs => ?_)
      exact RI _ 62 _ _ _ (rU1 hs) rfl (rV1 hs) dX10_readPlan_62
    · intro hs
      refine g_iload_n X dX10_readPlan_53 (q := 54) rfl 1 rfl ?_
      refine g_goto X dX10_readPlan_54 (tgt := 62) (by decide) ?_
      exact RI _ 62 _ _ _ (rU1 hs) rfl (rV1 hs) dX10_readPlan_62
  · intro hs
    refine g_iload_n X dX10_readPlan_11 (q := 12) rfl 1 rfl ?_
    refine g_bipush X dX10_readPlan_12 (q := 14) rfl li_b16 ?_
    refine g_icmp_ne X dX10_readPlan_14 (q := 17) rfl (tgt := 23) (by decide) hs ?_ ?_
    · intro hs
      refine g_aload_n X dX10_readPlan_23 (q := 24) rfl 0 rfl ?_
      refine g_bipush X dX10_readPlan_24 (q := 26) rfl li_b64 ?_
      refine g_iconst X dX10_readPlan_26 (q := 27) rfl li_i4 ?_
      refine g_iload_n X dX10_readPlan_27 (q := 28) rfl 1 rfl ?_
      refine g_imul X dX10_readPlan_28 (q := 29) rfl ?_
      refine g_iadd X dX10_readPlan_29 (q := 30) rfl ?_
      refine v_readPlanLine X dX10_readPlan_30 (q := 33) rfl (Nat.le_of_ble_eq_true rfl) (Nat.le_of_ble_eq_true rfl) (Nat.le_of_ble_eq_true rfl) hs (fun y3 hs => ?_)
      refine g_iconst X dX10_readPlan_33 (q := 34) rfl li_im1 ?_
      refine g_icmp_ne X dX10_readPlan_34 (q := 37) rfl (tgt := 39) (by decide) hs ?_ ?_
      · intro hs
        refine g_iload_n X dX10_readPlan_39 (q := 40) rfl 1 rfl ?_
        refine g_iconst X dX10_readPlan_40 (q := 41) rfl li_i1 ?_
        refine g_iadd X dX10_readPlan_41 (q := 42) rfl ?_
        refine nmI hs (fun y4 hs => ?_)
        refine g_istore_n X dX10_readPlan_42 (q := 43) rfl (Nat.le_of_ble_eq_true rfl) (lv' := [(1, .int y4), (0, .ref (h 0))]) rfl ?_
        refine g_goto X dX10_readPlan_43 (tgt := 2) (by decide) ?_
        exact wg_sub [1, 0] rfl (ih1 _ _ hs)
      · intro hs
        refine g_iconst X dX10_readPlan_37 (q := 38) rfl li_im1 ?_
        exact RI _ 38 _ _ _ (rU1 hs) rfl (rV1 hs) dX10_readPlan_38
    · intro hs
      refine g_aload_n X dX10_readPlan_17 (q := 18) rfl 0 rfl ?_
      refine g_iconst X dX10_readPlan_18 (q := 19) rfl li_i3 ?_
      refine v_errs X dX10_readPlan_19 (q := 22) rfl (Nat.le_of_ble_eq_true rfl) (Nat.le_of_ble_eq_true rfl) (Nat.le_of_ble_eq_true rfl) hs (fun y5 hs => ?_)
      exact RI _ 22 _ _ _ (rU1 hs) rfl (rV1 hs) dX10_readPlan_22
theorem v_readPlan {p : Program} {l : Launch} {e : Env} {st : State} {m : MethodId} {args : Array Value} {below : List Frame} {meth : Method} {c : Code} {Q : State → Prop} {nL : Nat} {cc : ByteArray} {s : ST} {pc q : Nat} {lv : List (Nat × Value)} {rest : List Value} {D : va_G} {cA : ClassId} {h : Nat → Nat} {d0 : Nat} (X : Cx (KM D cA h) p st m args meth c cc nL RX10) (d : decode cc pc = .ok (.invokevirtual 278, 3)) (hq : pc + 3 = q) (hd1 : 7 + 1 ≤ d0) (hd2 : 8 + (2 + 11) + 100 * 7 ≤ 100 * d0) (hr : (rest.map fun v => v.category).sum ≤ 8) {B : Type} {f : Int32 × ST → Option B} {r : B} (hs : Bd (M_readPlan s) f = some r) (k : ∀ y, f y = some r → WG (KM D cA h) p l e (rmD d0) st m args below meth c Q nL y.2 q lv (.int y.1 :: rest)) : WG (KM D cA h) p l e (rmD d0) st m args below meth c Q nL s pc lv (.ref (h 0) :: rest) := by
  obtain ⟨v, hv, hs⟩ := Bd_e hs
  exact cV_I X 0 (n := 0) (k_readPlan l D cA h s hv) gv_X10_readPlan ⟨hd1, hd2⟩ ⟨by decide, by decide, by decide +kernel⟩ (As := []) rfl hr (Nat.le_of_ble_eq_true rfl) (fs := mF h (s.1 0)) rfl rfl rfl d hq (k _ hs)
theorem dX10_readsText_0 : decode cX10_readsText 0 = .ok (.aload_n 0, 1) := by decide +kernel
theorem dX10_readsText_1 : decode cX10_readsText 1 = .ok (.iload_n 1, 1) := by decide +kernel
theorem dX10_readsText_2 : decode cX10_readsText 2 = .ok (.putfield 235, 3) := by decide +kernel
theorem dX10_readsText_5 : decode cX10_readsText 5 = .ok (.aload_n 0, 1) := by decide +kernel
theorem dX10_readsText_6 : decode cX10_readsText 6 = .ok (.invokevirtual 195, 3) := by decide +kernel
theorem dX10_readsText_9 : decode cX10_readsText 9 = .ok (.iload_n 1, 1) := by decide +kernel
theorem dX10_readsText_10 : decode cX10_readsText 10 = .ok (.ifCond .ne 8, 3) := by decide +kernel
theorem dX10_readsText_13 : decode cX10_readsText 13 = .ok (.aload_n 0, 1) := by decide +kernel
theorem dX10_readsText_14 : decode cX10_readsText 14 = .ok (.invokevirtual 272, 3) := by decide +kernel
theorem dX10_readsText_17 : decode cX10_readsText 17 = .ok (.ireturn, 1) := by decide +kernel
theorem dX10_readsText_18 : decode cX10_readsText 18 = .ok (.iload_n 1, 1) := by decide +kernel
theorem dX10_readsText_19 : decode cX10_readsText 19 = .ok (.iconst 2, 1) := by decide +kernel
theorem dX10_readsText_20 : decode cX10_readsText 20 = .ok (.if_icmp .ne 8, 3) := by decide +kernel
theorem dX10_readsText_23 : decode cX10_readsText 23 = .ok (.aload_n 0, 1) := by decide +kernel
theorem dX10_readsText_24 : decode cX10_readsText 24 = .ok (.invokevirtual 275, 3) := by decide +kernel
theorem dX10_readsText_27 : decode cX10_readsText 27 = .ok (.ireturn, 1) := by decide +kernel
theorem dX10_readsText_28 : decode cX10_readsText 28 = .ok (.iload_n 1, 1) := by decide +kernel
theorem dX10_readsText_29 : decode cX10_readsText 29 = .ok (.iconst 3, 1) := by decide +kernel
theorem dX10_readsText_30 : decode cX10_readsText 30 = .ok (.if_icmp .ne 10, 3) := by decide +kernel
theorem dX10_readsText_33 : decode cX10_readsText 33 = .ok (.aload_n 0, 1) := by decide +kernel
theorem dX10_readsText_34 : decode cX10_readsText 34 = .ok (.invokevirtual 278, 3) := by decide +kernel
theorem dX10_readsText_37 : decode cX10_readsText 37 = .ok (.goto 7, 3) := by decide +kernel
theorem dX10_readsText_40 : decode cX10_readsText 40 = .ok (.aload_n 0, 1) := by decide +kernel
theorem dX10_readsText_41 : decode cX10_readsText 41 = .ok (.invokevirtual 281, 3) := by decide +kernel
theorem dX10_readsText_44 : decode cX10_readsText 44 = .ok (.ireturn, 1) := by decide +kernel
def M_readsText (s : ST) (x1 : Int32) : Option (Int32 × ST) := Lt (ups s 0 25 x1) fun s1 => Bd (M_reads s1) fun s2 => if x1 = 0 then (Bd (M_readAllKinds s2) fun y4 => some (y4.1, y4.2)) else (if x1 = (2 : Int32) then (Bd (M_readWants s2) fun y3 => some (y3.1, y3.2)) else (if x1 = (3 : Int32) then (Bd (M_readPlan s2) fun y2 => some (y2.1, y2.2)) else (Bd (M_readLaw s2) fun y1 => some (y1.1, y1.2))))
set_option maxRecDepth 100000 in
set_option maxHeartbeats 4000000 in
theorem k_readsText (l : Launch) (D : va_G) (cA : ClassId) (h : Nat → Nat) (s : ST) (x1 : Int32) {o : Int32 × ST} (hs : M_readsText s x1 = some o) : MI l (KM D cA h) 10 yX10_readsText cX10_readsText 2 (some .int) s [.ref (h 0), .int x1] o.1 o.2 := by
  refine met_i (by decide) (Nat.le_of_ble_eq_true rfl) ?_
  intro p e st m args below meth c Q X RI
  unfold M_readsText at hs
  refine g_aload_n X dX10_readsText_0 (q := 1) rfl 0 rfl ?_
  refine g_iload_n X dX10_readsText_1 (q := 2) rfl 1 rfl ?_
  refine mp_25 X dX10_readsText_2 (q := 5) rfl hs (fun s1 hs => ?_)
  refine g_aload_n X dX10_readsText_5 (q := 6) rfl 0 rfl ?_
  refine v_reads X dX10_readsText_6 (q := 9) rfl (Nat.le_of_ble_eq_true rfl) (Nat.le_of_ble_eq_true rfl) (Nat.le_of_ble_eq_true rfl) hs (fun s2 hs => ?_)
  refine g_iload_n X dX10_readsText_9 (q := 10) rfl 1 rfl ?_
  refine g_if_ne X dX10_readsText_10 (q := 13) rfl (tgt := 18) (by decide) hs ?_ ?_
  · intro hs
    refine g_iload_n X dX10_readsText_18 (q := 19) rfl 1 rfl ?_
    refine g_iconst X dX10_readsText_19 (q := 20) rfl li_i2 ?_
    refine g_icmp_ne X dX10_readsText_20 (q := 23) rfl (tgt := 28) (by decide) hs ?_ ?_
    · intro hs
      refine g_iload_n X dX10_readsText_28 (q := 29) rfl 1 rfl ?_
      refine g_iconst X dX10_readsText_29 (q := 30) rfl li_i3 ?_
      refine g_icmp_ne X dX10_readsText_30 (q := 33) rfl (tgt := 40) (by decide) hs ?_ ?_
      · intro hs
        refine g_aload_n X dX10_readsText_40 (q := 41) rfl 0 rfl ?_
        refine v_readLaw X dX10_readsText_41 (q := 44) rfl (Nat.le_of_ble_eq_true rfl) (Nat.le_of_ble_eq_true rfl) (Nat.le_of_ble_eq_true rfl) hs (fun y1 hs => ?_)
        exact RI _ 44 _ _ _ (rU1 hs) rfl (rV1 hs) dX10_readsText_44
      · intro hs
        refine g_aload_n X dX10_readsText_33 (q := 34) rfl 0 rfl ?_
        refine v_readPlan X dX10_readsText_34 (q := 37) rfl (Nat.le_of_ble_eq_true rfl) (Nat.le_of_ble_eq_true rfl) (Nat.le_of_ble_eq_true rfl) hs (fun y2 hs => ?_)
        refine g_goto X dX10_readsText_37 (tgt := 44) (by decide) ?_
        exact RI _ 44 _ _ _ (rU1 hs) rfl (rV1 hs) dX10_readsText_44
    · intro hs
      refine g_aload_n X dX10_readsText_23 (q := 24) rfl 0 rfl ?_
      refine v_readWants X dX10_readsText_24 (q := 27) rfl (Nat.le_of_ble_eq_true rfl) (Nat.le_of_ble_eq_true rfl) (Nat.le_of_ble_eq_true rfl) hs (fun y3 hs => ?_)
      exact RI _ 27 _ _ _ (rU1 hs) rfl (rV1 hs) dX10_readsText_27
  · intro hs
    refine g_aload_n X dX10_readsText_13 (q := 14) rfl 0 rfl ?_
    refine v_readAllKinds X dX10_readsText_14 (q := 17) rfl (Nat.le_of_ble_eq_true rfl) (Nat.le_of_ble_eq_true rfl) (Nat.le_of_ble_eq_true rfl) hs (fun y4 hs => ?_)
    exact RI _ 17 _ _ _ (rU1 hs) rfl (rV1 hs) dX10_readsText_17
theorem v_readsText {p : Program} {l : Launch} {e : Env} {st : State} {m : MethodId} {args : Array Value} {below : List Frame} {meth : Method} {c : Code} {Q : State → Prop} {nL : Nat} {cc : ByteArray} {s : ST} {pc q : Nat} {lv : List (Nat × Value)} {rest : List Value} {D : va_G} {cA : ClassId} {h : Nat → Nat} {d0 : Nat} (X : Cx (KM D cA h) p st m args meth c cc nL RX10) {x1 : Int32} (d : decode cc pc = .ok (.invokevirtual 290, 3)) (hq : pc + 3 = q) (hd1 : 10 + 1 ≤ d0) (hd2 : 8 + (2 + 11) + 100 * 10 ≤ 100 * d0) (hr : (rest.map fun v => v.category).sum ≤ 8) {B : Type} {f : Int32 × ST → Option B} {r : B} (hs : Bd (M_readsText s x1) f = some r) (k : ∀ y, f y = some r → WG (KM D cA h) p l e (rmD d0) st m args below meth c Q nL y.2 q lv (.int y.1 :: rest)) : WG (KM D cA h) p l e (rmD d0) st m args below meth c Q nL s pc lv (.int x1 :: .ref (h 0) :: rest) := by
  obtain ⟨v, hv, hs⟩ := Bd_e hs
  exact cV_I X 0 (n := 1) (k_readsText l D cA h s x1 hv) gv_X10_readsText ⟨hd1, hd2⟩ ⟨by decide, by decide, by decide +kernel⟩ (As := [.int x1]) rfl hr (Nat.le_of_ble_eq_true rfl) (fs := mF h (s.1 0)) rfl rfl rfl d hq (k _ hs)
theorem dX10_takesKinds_0 : decode cX10_takesKinds 0 = .ok (.iconst 0, 1) := by decide +kernel
theorem dX10_takesKinds_1 : decode cX10_takesKinds 1 = .ok (.istore_n 1, 1) := by decide +kernel
theorem dX10_takesKinds_2 : decode cX10_takesKinds 2 = .ok (.iload_n 1, 1) := by decide +kernel
theorem dX10_takesKinds_3 : decode cX10_takesKinds 3 = .ok (.iconst 3, 1) := by decide +kernel
theorem dX10_takesKinds_4 : decode cX10_takesKinds 4 = .ok (.aload_n 0, 1) := by decide +kernel
theorem dX10_takesKinds_5 : decode cX10_takesKinds 5 = .ok (.getfield 244, 3) := by decide +kernel
theorem dX10_takesKinds_8 : decode cX10_takesKinds 8 = .ok (.imul, 1) := by decide +kernel
theorem dX10_takesKinds_9 : decode cX10_takesKinds 9 = .ok (.if_icmp .ge 24, 3) := by decide +kernel
theorem dX10_takesKinds_12 : decode cX10_takesKinds 12 = .ok (.aload_n 0, 1) := by decide +kernel
theorem dX10_takesKinds_13 : decode cX10_takesKinds 13 = .ok (.getfield 59, 3) := by decide +kernel
theorem dX10_takesKinds_16 : decode cX10_takesKinds 16 = .ok (.iload_n 1, 1) := by decide +kernel
theorem dX10_takesKinds_17 : decode cX10_takesKinds 17 = .ok (.aload_n 0, 1) := by decide +kernel
theorem dX10_takesKinds_18 : decode cX10_takesKinds 18 = .ok (.getfield 59, 3) := by decide +kernel
theorem dX10_takesKinds_21 : decode cX10_takesKinds 21 = .ok (.bipush 24, 2) := by decide +kernel
theorem dX10_takesKinds_23 : decode cX10_takesKinds 23 = .ok (.iload_n 1, 1) := by decide +kernel
theorem dX10_takesKinds_24 : decode cX10_takesKinds 24 = .ok (.iadd, 1) := by decide +kernel
theorem dX10_takesKinds_25 : decode cX10_takesKinds 25 = .ok (.iaload, 1) := by decide +kernel
theorem dX10_takesKinds_26 : decode cX10_takesKinds 26 = .ok (.iastore, 1) := by decide +kernel
theorem dX10_takesKinds_27 : decode cX10_takesKinds 27 = .ok (.iinc 1 1, 3) := by decide +kernel
theorem dX10_takesKinds_30 : decode cX10_takesKinds 30 = .ok (.goto (-28), 3) := by decide +kernel
theorem dX10_takesKinds_33 : decode cX10_takesKinds 33 = .ok (.iconst 0, 1) := by decide +kernel
theorem dX10_takesKinds_34 : decode cX10_takesKinds 34 = .ok (.istore_n 1, 1) := by decide +kernel
theorem dX10_takesKinds_35 : decode cX10_takesKinds 35 = .ok (.iload_n 1, 1) := by decide +kernel
theorem dX10_takesKinds_36 : decode cX10_takesKinds 36 = .ok (.iconst 3, 1) := by decide +kernel
theorem dX10_takesKinds_37 : decode cX10_takesKinds 37 = .ok (.aload_n 0, 1) := by decide +kernel
theorem dX10_takesKinds_38 : decode cX10_takesKinds 38 = .ok (.getfield 254, 3) := by decide +kernel
theorem dX10_takesKinds_41 : decode cX10_takesKinds 41 = .ok (.imul, 1) := by decide +kernel
theorem dX10_takesKinds_42 : decode cX10_takesKinds 42 = .ok (.if_icmp .ge 24, 3) := by decide +kernel
theorem dX10_takesKinds_45 : decode cX10_takesKinds 45 = .ok (.aload_n 0, 1) := by decide +kernel
theorem dX10_takesKinds_46 : decode cX10_takesKinds 46 = .ok (.getfield 62, 3) := by decide +kernel
theorem dX10_takesKinds_49 : decode cX10_takesKinds 49 = .ok (.iload_n 1, 1) := by decide +kernel
theorem dX10_takesKinds_50 : decode cX10_takesKinds 50 = .ok (.aload_n 0, 1) := by decide +kernel
theorem dX10_takesKinds_51 : decode cX10_takesKinds 51 = .ok (.getfield 62, 3) := by decide +kernel
theorem dX10_takesKinds_54 : decode cX10_takesKinds 54 = .ok (.bipush 30, 2) := by decide +kernel
theorem dX10_takesKinds_56 : decode cX10_takesKinds 56 = .ok (.iload_n 1, 1) := by decide +kernel
theorem dX10_takesKinds_57 : decode cX10_takesKinds 57 = .ok (.iadd, 1) := by decide +kernel
theorem dX10_takesKinds_58 : decode cX10_takesKinds 58 = .ok (.iaload, 1) := by decide +kernel
theorem dX10_takesKinds_59 : decode cX10_takesKinds 59 = .ok (.iastore, 1) := by decide +kernel
theorem dX10_takesKinds_60 : decode cX10_takesKinds 60 = .ok (.iinc 1 1, 3) := by decide +kernel
theorem dX10_takesKinds_63 : decode cX10_takesKinds 63 = .ok (.goto (-28), 3) := by decide +kernel
theorem dX10_takesKinds_66 : decode cX10_takesKinds 66 = .ok (.aload_n 0, 1) := by decide +kernel
theorem dX10_takesKinds_67 : decode cX10_takesKinds 67 = .ok (.aload_n 0, 1) := by decide +kernel
theorem dX10_takesKinds_68 : decode cX10_takesKinds 68 = .ok (.getfield 244, 3) := by decide +kernel
theorem dX10_takesKinds_71 : decode cX10_takesKinds 71 = .ok (.putfield 118, 3) := by decide +kernel
theorem dX10_takesKinds_74 : decode cX10_takesKinds 74 = .ok (.aload_n 0, 1) := by decide +kernel
theorem dX10_takesKinds_75 : decode cX10_takesKinds 75 = .ok (.aload_n 0, 1) := by decide +kernel
theorem dX10_takesKinds_76 : decode cX10_takesKinds 76 = .ok (.getfield 254, 3) := by decide +kernel
theorem dX10_takesKinds_79 : decode cX10_takesKinds 79 = .ok (.putfield 121, 3) := by decide +kernel
theorem dX10_takesKinds_82 : decode cX10_takesKinds 82 = .ok (.iconst 0, 1) := by decide +kernel
theorem dX10_takesKinds_83 : decode cX10_takesKinds 83 = .ok (.istore_n 1, 1) := by decide +kernel
theorem dX10_takesKinds_84 : decode cX10_takesKinds 84 = .ok (.iload_n 1, 1) := by decide +kernel
theorem dX10_takesKinds_85 : decode cX10_takesKinds 85 = .ok (.bipush 64, 2) := by decide +kernel
theorem dX10_takesKinds_87 : decode cX10_takesKinds 87 = .ok (.if_icmp .ge 30, 3) := by decide +kernel
theorem dX10_takesKinds_90 : decode cX10_takesKinds 90 = .ok (.aload_n 0, 1) := by decide +kernel
theorem dX10_takesKinds_91 : decode cX10_takesKinds 91 = .ok (.getfield 7, 3) := by decide +kernel
theorem dX10_takesKinds_94 : decode cX10_takesKinds 94 = .ok (.bipush 69, 2) := by decide +kernel
theorem dX10_takesKinds_96 : decode cX10_takesKinds 96 = .ok (.iload_n 1, 1) := by decide +kernel
theorem dX10_takesKinds_97 : decode cX10_takesKinds 97 = .ok (.iadd, 1) := by decide +kernel
theorem dX10_takesKinds_98 : decode cX10_takesKinds 98 = .ok (.iconst 0, 1) := by decide +kernel
theorem dX10_takesKinds_99 : decode cX10_takesKinds 99 = .ok (.iastore, 1) := by decide +kernel
theorem dX10_takesKinds_100 : decode cX10_takesKinds 100 = .ok (.aload_n 0, 1) := by decide +kernel
theorem dX10_takesKinds_101 : decode cX10_takesKinds 101 = .ok (.getfield 7, 3) := by decide +kernel
theorem dX10_takesKinds_104 : decode cX10_takesKinds 104 = .ok (.sipush 197, 3) := by decide +kernel
theorem dX10_takesKinds_107 : decode cX10_takesKinds 107 = .ok (.iload_n 1, 1) := by decide +kernel
theorem dX10_takesKinds_108 : decode cX10_takesKinds 108 = .ok (.iadd, 1) := by decide +kernel
theorem dX10_takesKinds_109 : decode cX10_takesKinds 109 = .ok (.iconst 0, 1) := by decide +kernel
theorem dX10_takesKinds_110 : decode cX10_takesKinds 110 = .ok (.iastore, 1) := by decide +kernel
theorem dX10_takesKinds_111 : decode cX10_takesKinds 111 = .ok (.iinc 1 1, 3) := by decide +kernel
theorem dX10_takesKinds_114 : decode cX10_takesKinds 114 = .ok (.goto (-30), 3) := by decide +kernel
theorem dX10_takesKinds_117 : decode cX10_takesKinds 117 = .ok (.aload_n 0, 1) := by decide +kernel
theorem dX10_takesKinds_118 : decode cX10_takesKinds 118 = .ok (.iconst 0, 1) := by decide +kernel
theorem dX10_takesKinds_119 : decode cX10_takesKinds 119 = .ok (.putfield 124, 3) := by decide +kernel
theorem dX10_takesKinds_122 : decode cX10_takesKinds 122 = .ok (.aload_n 0, 1) := by decide +kernel
theorem dX10_takesKinds_123 : decode cX10_takesKinds 123 = .ok (.iconst 0, 1) := by decide +kernel
theorem dX10_takesKinds_124 : decode cX10_takesKinds 124 = .ok (.putfield 127, 3) := by decide +kernel
theorem dX10_takesKinds_127 : decode cX10_takesKinds 127 = .ok (.aload_n 0, 1) := by decide +kernel
theorem dX10_takesKinds_128 : decode cX10_takesKinds 128 = .ok (.iconst 0, 1) := by decide +kernel
theorem dX10_takesKinds_129 : decode cX10_takesKinds 129 = .ok (.putfield 86, 3) := by decide +kernel
theorem dX10_takesKinds_132 : decode cX10_takesKinds 132 = .ok (.return_, 1) := by decide +kernel
def M_takesKinds (s : ST) : Option (ST) := lpK2 (C := ST) (fun (rec1 : Int32 → ST → Option (ST)) (a1 : Int32) (s1 : ST) => if ((3 : Int32) * (s1.1 0 38)) ≤ a1 then (lpK2 (C := ST) (fun (rec2 : Int32 → ST → Option (ST)) (a2 : Int32) (s2 : ST) => if ((3 : Int32) * (s2.1 0 39)) ≤ a2 then (Lt (ups s2 0 34 (s2.1 0 38)) fun s3 => Lt (ups s3 0 36 (s3.1 0 39)) fun s4 => lpK2 (C := ST) (fun (rec3 : Int32 → ST → Option (ST)) (a3 : Int32) (s5 : ST) => if (64 : Int32) ≤ a3 then (Lt (ups s5 0 40 (0 : Int32)) fun s6 => Lt (ups s6 0 42 (0 : Int32)) fun s7 => Lt (ups s7 0 3 (0 : Int32)) fun s8 => some s8) else (Gs s5 1 389 ((69 : Int32) + a3) (0 : Int32) fun s9 => Gs s9 1 389 ((197 : Int32) + a3) (0 : Int32) fun s10 => rec3 (a3 + (1 : Int32)) s10)) FU (0 : Int32) s4) else (Gl s2 17 60 ((30 : Int32) + a2) fun y1 => Gs s2 17 60 a2 y1 fun s11 => rec2 (a2 + (1 : Int32)) s11)) FU (0 : Int32) s1) else (Gl s1 16 48 ((24 : Int32) + a1) fun y2 => Gs s1 16 48 a1 y2 fun s12 => rec1 (a1 + (1 : Int32)) s12)) FU (0 : Int32) s
set_option maxRecDepth 100000 in
set_option maxHeartbeats 4000000 in
theorem k_takesKinds (l : Launch) (D : va_G) (cA : ClassId) (h : Nat → Nat) (s : ST) {o : ST} (hs : M_takesKinds s = some o) : MV l (KM D cA h) 1 yX10_takesKinds cX10_takesKinds 2 none s [.ref (h 0)] o := by
  refine met_v (by decide) (Nat.le_of_ble_eq_true rfl) ?_
  intro p e st m args below meth c Q X RI
  unfold M_takesKinds at hs
  refine g_iconst X dX10_takesKinds_0 (q := 1) rfl li_i0 ?_
  refine g_istore_n X dX10_takesKinds_1 (q := 2) rfl (Nat.le_of_ble_eq_true rfl) (lv' := [(1, .int (0 : Int32)), (0, .ref (h 0))]) rfl ?_
  refine wg_sub [1, 0] rfl (lpW2 (fun (a1 : Int32) (s1 : ST) => WG (KM D cA h) p l e (rmD 1) st m args below meth c Q 2 s1 2 [(0, .ref (h 0)), (1, .int a1)] []) (fun rec1 ih1 a1 s1 hs => ?_) _ _ _ hs)
  refine g_iload_n X dX10_takesKinds_2 (q := 3) rfl 1 rfl ?_
  refine g_iconst X dX10_takesKinds_3 (q := 4) rfl li_i3 ?_
  refine g_aload_n X dX10_takesKinds_4 (q := 5) rfl 0 rfl ?_
  refine mg_38 X dX10_takesKinds_5 (q := 8) rfl ?_
  refine g_imul X dX10_takesKinds_8 (q := 9) rfl ?_
  refine g_icmp_ge X dX10_takesKinds_9 (q := 12) rfl (tgt := 33) (by decide) hs ?_ ?_
  · intro hs
    refine g_iconst X dX10_takesKinds_33 (q := 34) rfl li_i0 ?_
    refine g_istore_n X dX10_takesKinds_34 (q := 35) rfl (Nat.le_of_ble_eq_true rfl) (lv' := [(1, .int (0 : Int32)), (0, .ref (h 0))]) rfl ?_
    refine wg_sub [1, 0] rfl (lpW2 (fun (a2 : Int32) (s2 : ST) => WG (KM D cA h) p l e (rmD 1) st m args below meth c Q 2 s2 35 [(0, .ref (h 0)), (1, .int a2)] []) (fun rec2 ih2 a2 s2 hs => ?_) _ _ _ hs)
    refine g_iload_n X dX10_takesKinds_35 (q := 36) rfl 1 rfl ?_
    refine g_iconst X dX10_takesKinds_36 (q := 37) rfl li_i3 ?_
    refine g_aload_n X dX10_takesKinds_37 (q := 38) rfl 0 rfl ?_
    refine mg_39 X dX10_takesKinds_38 (q := 41) rfl ?_
    refine g_imul X dX10_takesKinds_41 (q := 42) rfl ?_
    refine g_icmp_ge X dX10_takesKinds_42 (q := 45) rfl (tgt := 66) (by decide) hs ?_ ?_
    · intro hs
      refine g_aload_n X dX10_takesKinds_66 (q := 67) rfl 0 rfl ?_
      refine g_aload_n X dX10_takesKinds_67 (q := 68) rfl 0 rfl ?_
      refine mg_38 X dX10_takesKinds_68 (q := 71) rfl ?_
      refine mp_34 X dX10_takesKinds_71 (q := 74) rfl hs (fun s3 hs => ?_)
      refine g_aload_n X dX10_takesKinds_74 (q := 75) rfl 0 rfl ?_
      refine g_aload_n X dX10_takesKinds_75 (q := 76) rfl 0 rfl ?_
      refine mg_39 X dX10_takesKinds_76 (q := 79) rfl ?_
      refine mp_36 X dX10_takesKinds_79 (q := 82) rfl hs (fun s4 hs => ?_)
      refine g_iconst X dX10_takesKinds_82 (q := 83) rfl li_i0 ?_
      refine g_istore_n X dX10_takesKinds_83 (q := 84) rfl (Nat.le_of_ble_eq_true rfl) (lv' := [(1, .int (0 : Int32)), (0, .ref (h 0))]) rfl ?_
      refine wg_sub [1, 0] rfl (lpW2 (fun (a3 : Int32) (s5 : ST) => WG (KM D cA h) p l e (rmD 1) st m args below meth c Q 2 s5 84 [(0, .ref (h 0)), (1, .int a3)] []) (fun rec3 ih3 a3 s5 hs => ?_) _ _ _ hs)
      refine g_iload_n X dX10_takesKinds_84 (q := 85) rfl 1 rfl ?_
      refine g_bipush X dX10_takesKinds_85 (q := 87) rfl li_b64 ?_
      refine g_icmp_ge X dX10_takesKinds_87 (q := 90) rfl (tgt := 117) (by decide) hs ?_ ?_
      · intro hs
        refine g_aload_n X dX10_takesKinds_117 (q := 118) rfl 0 rfl ?_
        refine g_iconst X dX10_takesKinds_118 (q := 119) rfl li_i0 ?_
        refine mp_40 X dX10_takesKinds_119 (q := 122) rfl hs (fun s6 hs => ?_)
        refine g_aload_n X dX10_takesKinds_122 (q := 123) rfl 0 rfl ?_
        refine g_iconst X dX10_takesKinds_123 (q := 124) rfl li_i0 ?_
        refine mp_42 X dX10_takesKinds_124 (q := 127) rfl hs (fun s7 hs => ?_)
        refine g_aload_n X dX10_takesKinds_127 (q := 128) rfl 0 rfl ?_
        refine g_iconst X dX10_takesKinds_128 (q := 129) rfl li_i0 ?_
        refine mp_3 X dX10_takesKinds_129 (q := 132) rfl hs (fun s8 hs => ?_)
        exact RI _ 132 _ (Option.some.inj hs) dX10_takesKinds_132
      · intro hs
        refine g_aload_n X dX10_takesKinds_90 (q := 91) rfl 0 rfl ?_
        refine mg_1 X dX10_takesKinds_91 (q := 94) rfl ?_
        refine g_bipush X dX10_takesKinds_94 (q := 96) rfl li_b69 ?_
        refine g_iload_n X dX10_takesKinds_96 (q := 97) rfl 1 rfl ?_
        refine g_iadd X dX10_takesKinds_97 (q := 98) rfl ?_
        refine g_iconst X dX10_takesKinds_98 (q := 99) rfl li_i0 ?_
        refine ms_1 X dX10_takesKinds_99 (q := 100) rfl hs (fun s9 hs => ?_)
        refine g_aload_n X dX10_takesKinds_100 (q := 101) rfl 0 rfl ?_
        refine mg_1 X dX10_takesKinds_101 (q := 104) rfl ?_
        refine g_sipush X dX10_takesKinds_104 (q := 107) rfl li_s197 ?_
        refine g_iload_n X dX10_takesKinds_107 (q := 108) rfl 1 rfl ?_
        refine g_iadd X dX10_takesKinds_108 (q := 109) rfl ?_
        refine g_iconst X dX10_takesKinds_109 (q := 110) rfl li_i0 ?_
        refine ms_1 X dX10_takesKinds_110 (q := 111) rfl hs (fun s10 hs => ?_)
        refine g_iinc X dX10_takesKinds_111 (q := 114) rfl 1 rfl (v := (a3 + (1 : Int32))) (congrArg (HAdd.hAdd a3) li_i1) (Nat.le_of_ble_eq_true rfl) (lv' := [(1, .int (a3 + (1 : Int32))), (0, .ref (h 0))]) rfl ?_
        refine g_goto X dX10_takesKinds_114 (tgt := 84) (by decide) ?_
        exact wg_sub [1, 0] rfl (ih3 _ _ hs)
    · intro hs
      refine g_aload_n X dX10_takesKinds_45 (q := 46) rfl 0 rfl ?_
      refine mg_37 X dX10_takesKinds_46 (q := 49) rfl ?_
      refine g_iload_n X dX10_takesKinds_49 (q := 50) rfl 1 rfl ?_
      refine g_aload_n X dX10_takesKinds_50 (q := 51) rfl 0 rfl ?_
      refine mg_37 X dX10_takesKinds_51 (q := 54) rfl ?_
      refine g_bipush X dX10_takesKinds_54 (q := 56) rfl li_b30 ?_
      refine g_iload_n X dX10_takesKinds_56 (q := 57) rfl 1 rfl ?_
      refine g_iadd X dX10_takesKinds_57 (q := 58) rfl ?_
      refine ma_17 X dX10_takesKinds_58 (q := 59) rfl hs (fun y1 hs => ?_)
      refine ms_17 X dX10_takesKinds_59 (q := 60) rfl hs (fun s11 hs => ?_)
      refine g_iinc X dX10_takesKinds_60 (q := 63) rfl 1 rfl (v := (a2 + (1 : Int32))) (congrArg (HAdd.hAdd a2) li_i1) (Nat.le_of_ble_eq_true rfl) (lv' := [(1, .int (a2 + (1 : Int32))), (0, .ref (h 0))]) rfl ?_
      refine g_goto X dX10_takesKinds_63 (tgt := 35) (by decide) ?_
      exact wg_sub [1, 0] rfl (ih2 _ _ hs)
  · intro hs
    refine g_aload_n X dX10_takesKinds_12 (q := 13) rfl 0 rfl ?_
    refine mg_35 X dX10_takesKinds_13 (q := 16) rfl ?_
    refine g_iload_n X dX10_takesKinds_16 (q := 17) rfl 1 rfl ?_
    refine g_aload_n X dX10_takesKinds_17 (q := 18) rfl 0 rfl ?_
    refine mg_35 X dX10_takesKinds_18 (q := 21) rfl ?_
    refine g_bipush X dX10_takesKinds_21 (q := 23) rfl li_b24 ?_
    refine g_iload_n X dX10_takesKinds_23 (q := 24) rfl 1 rfl ?_
    refine g_iadd X dX10_takesKinds_24 (q := 25) rfl ?_
    refine ma_16 X dX10_takesKinds_25 (q := 26) rfl hs (fun y2 hs => ?_)
    refine ms_16 X dX10_takesKinds_26 (q := 27) rfl hs (fun s12 hs => ?_)
    refine g_iinc X dX10_takesKinds_27 (q := 30) rfl 1 rfl (v := (a1 + (1 : Int32))) (congrArg (HAdd.hAdd a1) li_i1) (Nat.le_of_ble_eq_true rfl) (lv' := [(1, .int (a1 + (1 : Int32))), (0, .ref (h 0))]) rfl ?_
    refine g_goto X dX10_takesKinds_30 (tgt := 2) (by decide) ?_
    exact wg_sub [1, 0] rfl (ih1 _ _ hs)
theorem v_takesKinds {p : Program} {l : Launch} {e : Env} {st : State} {m : MethodId} {args : Array Value} {below : List Frame} {meth : Method} {c : Code} {Q : State → Prop} {nL : Nat} {cc : ByteArray} {s : ST} {pc q : Nat} {lv : List (Nat × Value)} {rest : List Value} {D : va_G} {cA : ClassId} {h : Nat → Nat} {d0 : Nat} (X : Cx (KM D cA h) p st m args meth c cc nL RX10) (d : decode cc pc = .ok (.invokevirtual 284, 3)) (hq : pc + 3 = q) (hd1 : 1 + 1 ≤ d0) (hd2 : 8 + (2 + 11) + 100 * 1 ≤ 100 * d0) (hr : (rest.map fun v => v.category).sum ≤ 8) {B : Type} {f : ST → Option B} {r : B} (hs : Bd (M_takesKinds s) f = some r) (k : ∀ y, f y = some r → WG (KM D cA h) p l e (rmD d0) st m args below meth c Q nL y q lv (rest)) : WG (KM D cA h) p l e (rmD d0) st m args below meth c Q nL s pc lv (.ref (h 0) :: rest) := by
  obtain ⟨v, hv, hs⟩ := Bd_e hs
  exact cV_V X 0 (n := 0) (k_takesKinds l D cA h s hv) gv_X10_takesKinds ⟨hd1, hd2⟩ ⟨by decide, by decide, by decide +kernel⟩ (As := []) rfl hr (Nat.le_of_ble_eq_true rfl) (fs := mF h (s.1 0)) rfl rfl rfl d hq (k _ hs)
theorem dX10_takesOther_0 : decode cX10_takesOther 0 = .ok (.iload_n 1, 1) := by decide +kernel
theorem dX10_takesOther_1 : decode cX10_takesOther 1 = .ok (.ifCond .ne 7, 3) := by decide +kernel
theorem dX10_takesOther_4 : decode cX10_takesOther 4 = .ok (.aload_n 0, 1) := by decide +kernel
theorem dX10_takesOther_5 : decode cX10_takesOther 5 = .ok (.invokevirtual 284, 3) := by decide +kernel
theorem dX10_takesOther_8 : decode cX10_takesOther 8 = .ok (.iload_n 1, 1) := by decide +kernel
theorem dX10_takesOther_9 : decode cX10_takesOther 9 = .ok (.iconst 2, 1) := by decide +kernel
theorem dX10_takesOther_10 : decode cX10_takesOther 10 = .ok (.if_icmp .ne 38, 3) := by decide +kernel
theorem dX10_takesOther_13 : decode cX10_takesOther 13 = .ok (.iconst 0, 1) := by decide +kernel
theorem dX10_takesOther_14 : decode cX10_takesOther 14 = .ok (.istore_n 3, 1) := by decide +kernel
theorem dX10_takesOther_15 : decode cX10_takesOther 15 = .ok (.iload_n 3, 1) := by decide +kernel
theorem dX10_takesOther_16 : decode cX10_takesOther 16 = .ok (.iconst 4, 1) := by decide +kernel
theorem dX10_takesOther_17 : decode cX10_takesOther 17 = .ok (.iload_n 2, 1) := by decide +kernel
theorem dX10_takesOther_18 : decode cX10_takesOther 18 = .ok (.imul, 1) := by decide +kernel
theorem dX10_takesOther_19 : decode cX10_takesOther 19 = .ok (.if_icmp .ge 24, 3) := by decide +kernel
theorem dX10_takesOther_22 : decode cX10_takesOther 22 = .ok (.aload_n 0, 1) := by decide +kernel
theorem dX10_takesOther_23 : decode cX10_takesOther 23 = .ok (.getfield 65, 3) := by decide +kernel
theorem dX10_takesOther_26 : decode cX10_takesOther 26 = .ok (.iload_n 3, 1) := by decide +kernel
theorem dX10_takesOther_27 : decode cX10_takesOther 27 = .ok (.aload_n 0, 1) := by decide +kernel
theorem dX10_takesOther_28 : decode cX10_takesOther 28 = .ok (.getfield 65, 3) := by decide +kernel
theorem dX10_takesOther_31 : decode cX10_takesOther 31 = .ok (.bipush 40, 2) := by decide +kernel
theorem dX10_takesOther_33 : decode cX10_takesOther 33 = .ok (.iload_n 3, 1) := by decide +kernel
theorem dX10_takesOther_34 : decode cX10_takesOther 34 = .ok (.iadd, 1) := by decide +kernel
theorem dX10_takesOther_35 : decode cX10_takesOther 35 = .ok (.iaload, 1) := by decide +kernel
theorem dX10_takesOther_36 : decode cX10_takesOther 36 = .ok (.iastore, 1) := by decide +kernel
theorem dX10_takesOther_37 : decode cX10_takesOther 37 = .ok (.iinc 3 1, 3) := by decide +kernel
theorem dX10_takesOther_40 : decode cX10_takesOther 40 = .ok (.goto (-25), 3) := by decide +kernel
theorem dX10_takesOther_43 : decode cX10_takesOther 43 = .ok (.aload_n 0, 1) := by decide +kernel
theorem dX10_takesOther_44 : decode cX10_takesOther 44 = .ok (.iload_n 2, 1) := by decide +kernel
theorem dX10_takesOther_45 : decode cX10_takesOther 45 = .ok (.putfield 124, 3) := by decide +kernel
theorem dX10_takesOther_48 : decode cX10_takesOther 48 = .ok (.iload_n 1, 1) := by decide +kernel
theorem dX10_takesOther_49 : decode cX10_takesOther 49 = .ok (.iconst 3, 1) := by decide +kernel
theorem dX10_takesOther_50 : decode cX10_takesOther 50 = .ok (.if_icmp .ne 43, 3) := by decide +kernel
theorem dX10_takesOther_53 : decode cX10_takesOther 53 = .ok (.iconst 0, 1) := by decide +kernel
theorem dX10_takesOther_54 : decode cX10_takesOther 54 = .ok (.istore_n 3, 1) := by decide +kernel
theorem dX10_takesOther_55 : decode cX10_takesOther 55 = .ok (.iload_n 3, 1) := by decide +kernel
theorem dX10_takesOther_56 : decode cX10_takesOther 56 = .ok (.iconst 4, 1) := by decide +kernel
theorem dX10_takesOther_57 : decode cX10_takesOther 57 = .ok (.iload_n 2, 1) := by decide +kernel
theorem dX10_takesOther_58 : decode cX10_takesOther 58 = .ok (.imul, 1) := by decide +kernel
theorem dX10_takesOther_59 : decode cX10_takesOther 59 = .ok (.if_icmp .ge 24, 3) := by decide +kernel
theorem dX10_takesOther_62 : decode cX10_takesOther 62 = .ok (.aload_n 0, 1) := by decide +kernel
theorem dX10_takesOther_63 : decode cX10_takesOther 63 = .ok (.getfield 68, 3) := by decide +kernel
theorem dX10_takesOther_66 : decode cX10_takesOther 66 = .ok (.iload_n 3, 1) := by decide +kernel
theorem dX10_takesOther_67 : decode cX10_takesOther 67 = .ok (.aload_n 0, 1) := by decide +kernel
theorem dX10_takesOther_68 : decode cX10_takesOther 68 = .ok (.getfield 68, 3) := by decide +kernel
theorem dX10_takesOther_71 : decode cX10_takesOther 71 = .ok (.bipush 64, 2) := by decide +kernel
theorem dX10_takesOther_73 : decode cX10_takesOther 73 = .ok (.iload_n 3, 1) := by decide +kernel
theorem dX10_takesOther_74 : decode cX10_takesOther 74 = .ok (.iadd, 1) := by decide +kernel
theorem dX10_takesOther_75 : decode cX10_takesOther 75 = .ok (.iaload, 1) := by decide +kernel
theorem dX10_takesOther_76 : decode cX10_takesOther 76 = .ok (.iastore, 1) := by decide +kernel
theorem dX10_takesOther_77 : decode cX10_takesOther 77 = .ok (.iinc 3 1, 3) := by decide +kernel
theorem dX10_takesOther_80 : decode cX10_takesOther 80 = .ok (.goto (-25), 3) := by decide +kernel
theorem dX10_takesOther_83 : decode cX10_takesOther 83 = .ok (.aload_n 0, 1) := by decide +kernel
theorem dX10_takesOther_84 : decode cX10_takesOther 84 = .ok (.iload_n 2, 1) := by decide +kernel
theorem dX10_takesOther_85 : decode cX10_takesOther 85 = .ok (.putfield 127, 3) := by decide +kernel
theorem dX10_takesOther_88 : decode cX10_takesOther 88 = .ok (.aload_n 0, 1) := by decide +kernel
theorem dX10_takesOther_89 : decode cX10_takesOther 89 = .ok (.iconst 0, 1) := by decide +kernel
theorem dX10_takesOther_90 : decode cX10_takesOther 90 = .ok (.putfield 86, 3) := by decide +kernel
theorem dX10_takesOther_93 : decode cX10_takesOther 93 = .ok (.return_, 1) := by decide +kernel
def M_takesOther (s : ST) (x1 : Int32) (x2 : Int32) : Option (ST) := Lt (fun (s1 : ST) => (Lt (fun (s2 : ST) => (if x1 = (3 : Int32) then (lpK2 (C := ST) (fun (rec1 : Int32 → ST → Option (ST)) (a1 : Int32) (s3 : ST) => if ((4 : Int32) * x2) ≤ a1 then (Lt (ups s3 0 42 x2) fun s4 => Lt (ups s4 0 3 (0 : Int32)) fun s5 => some s5) else (Gl s3 19 128 ((64 : Int32) + a1) fun y1 => Gs s3 19 128 a1 y1 fun s6 => rec1 (a1 + (1 : Int32)) s6)) FU (0 : Int32) s2) else (some s2) : Option (ST))) fun j2 => if x1 = (2 : Int32) then (lpK2 (C := ST) (fun (rec2 : Int32 → ST → Option (ST)) (a2 : Int32) (s7 : ST) => if ((4 : Int32) * x2) ≤ a2 then (Lt (ups s7 0 40 x2) fun s8 => j2 s8) else (Gl s7 18 80 ((40 : Int32) + a2) fun y2 => Gs s7 18 80 a2 y2 fun s9 => rec2 (a2 + (1 : Int32)) s9)) FU (0 : Int32) s1) else (j2 s1) : Option (ST))) fun j1 => if x1 = 0 then (Bd (M_takesKinds s) fun s10 => j1 s10) else (j1 s)
set_option maxRecDepth 100000 in
set_option maxHeartbeats 4000000 in
theorem k_takesOther (l : Launch) (D : va_G) (cA : ClassId) (h : Nat → Nat) (s : ST) (x1 : Int32) (x2 : Int32) {o : ST} (hs : M_takesOther s x1 x2 = some o) : MV l (KM D cA h) 2 yX10_takesOther cX10_takesOther 4 none s [.ref (h 0), .int x1, .int x2] o := by
  refine met_v (by decide) (Nat.le_of_ble_eq_true rfl) ?_
  intro p e st m args below meth c Q X RI
  unfold M_takesOther at hs
  refine g_iload_n X dX10_takesOther_0 (q := 1) rfl 1 rfl ?_
  refine jnW1 (fun (s1 : ST) => WG (KM D cA h) p l e (rmD 2) st m args below meth c Q 4 s1 8 [(0, .ref (h 0)), (1, .int x1), (2, .int x2)] []) hs (fun s1 hs => ?_) (fun j1 ih1 hs => ?_)
  · refine g_iload_n X dX10_takesOther_8 (q := 9) rfl 1 rfl ?_
    refine g_iconst X dX10_takesOther_9 (q := 10) rfl li_i2 ?_
    refine jnW1 (fun (s2 : ST) => WG (KM D cA h) p l e (rmD 2) st m args below meth c Q 4 s2 48 [(0, .ref (h 0)), (1, .int x1), (2, .int x2)] []) hs (fun s2 hs => ?_) (fun j2 ih2 hs => ?_)
    · refine g_iload_n X dX10_takesOther_48 (q := 49) rfl 1 rfl ?_
      refine g_iconst X dX10_takesOther_49 (q := 50) rfl li_i3 ?_
      refine g_icmp_ne X dX10_takesOther_50 (q := 53) rfl (tgt := 93) (by decide) hs ?_ ?_
      · intro hs
        exact RI _ 93 _ (Option.some.inj hs) dX10_takesOther_93
      · intro hs
        refine g_iconst X dX10_takesOther_53 (q := 54) rfl li_i0 ?_
        refine g_istore_n X dX10_takesOther_54 (q := 55) rfl (Nat.le_of_ble_eq_true rfl) (lv' := [(3, .int (0 : Int32)), (0, .ref (h 0)), (1, .int x1), (2, .int x2)]) rfl ?_
        refine wg_sub [1, 3, 0] rfl (lpW2 (fun (a1 : Int32) (s3 : ST) => WG (KM D cA h) p l e (rmD 2) st m args below meth c Q 4 s3 55 [(0, .ref (h 0)), (2, .int x2), (3, .int a1)] []) (fun rec1 ih3 a1 s3 hs => ?_) _ _ _ hs)
        refine g_iload_n X dX10_takesOther_55 (q := 56) rfl 2 rfl ?_
        refine g_iconst X dX10_takesOther_56 (q := 57) rfl li_i4 ?_
        refine g_iload_n X dX10_takesOther_57 (q := 58) rfl 1 rfl ?_
        refine g_imul X dX10_takesOther_58 (q := 59) rfl ?_
        refine g_icmp_ge X dX10_takesOther_59 (q := 62) rfl (tgt := 83) (by decide) hs ?_ ?_
        · intro hs
          refine g_aload_n X dX10_takesOther_83 (q := 84) rfl 0 rfl ?_
          refine g_iload_n X dX10_takesOther_84 (q := 85) rfl 1 rfl ?_
          refine mp_42 X dX10_takesOther_85 (q := 88) rfl hs (fun s4 hs => ?_)
          refine g_aload_n X dX10_takesOther_88 (q := 89) rfl 0 rfl ?_
          refine g_iconst X dX10_takesOther_89 (q := 90) rfl li_i0 ?_
          refine mp_3 X dX10_takesOther_90 (q := 93) rfl hs (fun s5 hs => ?_)
          exact RI _ 93 _ (Option.some.inj hs) dX10_takesOther_93
        · intro hs
          refine g_aload_n X dX10_takesOther_62 (q := 63) rfl 0 rfl ?_
          refine mg_43 X dX10_takesOther_63 (q := 66) rfl ?_
          refine g_iload_n X dX10_takesOther_66 (q := 67) rfl 2 rfl ?_
          refine g_aload_n X dX10_takesOther_67 (q := 68) rfl 0 rfl ?_
          refine mg_43 X dX10_takesOther_68 (q := 71) rfl ?_
          refine g_bipush X dX10_takesOther_71 (q := 73) rfl li_b64 ?_
          refine g_iload_n X dX10_takesOther_73 (q := 74) rfl 2 rfl ?_
          refine g_iadd X dX10_takesOther_74 (q := 75) rfl ?_
          refine ma_19 X dX10_takesOther_75 (q := 76) rfl hs (fun y1 hs => ?_)
          refine ms_19 X dX10_takesOther_76 (q := 77) rfl hs (fun s6 hs => ?_)
          refine g_iinc X dX10_takesOther_77 (q := 80) rfl 2 rfl (v := (a1 + (1 : Int32))) (congrArg (HAdd.hAdd a1) li_i1) (Nat.le_of_ble_eq_true rfl) (lv' := [(3, .int (a1 + (1 : Int32))), (0, .ref (h 0)), (2, .int x2)]) rfl ?_
          refine g_goto X dX10_takesOther_80 (tgt := 55) (by decide) ?_
          exact wg_sub [1, 2, 0] rfl (ih3 _ _ hs)
    refine g_icmp_ne X dX10_takesOther_10 (q := 13) rfl (tgt := 48) (by decide) hs ?_ ?_
    · intro hs
      exact wg_sub [0, 1, 2] rfl (ih2 _ hs)
    · intro hs
      refine g_iconst X dX10_takesOther_13 (q := 14) rfl li_i0 ?_
      refine g_istore_n X dX10_takesOther_14 (q := 15) rfl (Nat.le_of_ble_eq_true rfl) (lv' := [(3, .int (0 : Int32)), (0, .ref (h 0)), (1, .int x1), (2, .int x2)]) rfl ?_
      refine wg_sub [1, 2, 3, 0] rfl (lpW2 (fun (a2 : Int32) (s7 : ST) => WG (KM D cA h) p l e (rmD 2) st m args below meth c Q 4 s7 15 [(0, .ref (h 0)), (1, .int x1), (2, .int x2), (3, .int a2)] []) (fun rec2 ih4 a2 s7 hs => ?_) _ _ _ hs)
      refine g_iload_n X dX10_takesOther_15 (q := 16) rfl 3 rfl ?_
      refine g_iconst X dX10_takesOther_16 (q := 17) rfl li_i4 ?_
      refine g_iload_n X dX10_takesOther_17 (q := 18) rfl 2 rfl ?_
      refine g_imul X dX10_takesOther_18 (q := 19) rfl ?_
      refine g_icmp_ge X dX10_takesOther_19 (q := 22) rfl (tgt := 43) (by decide) hs ?_ ?_
      · intro hs
        refine g_aload_n X dX10_takesOther_43 (q := 44) rfl 0 rfl ?_
        refine g_iload_n X dX10_takesOther_44 (q := 45) rfl 2 rfl ?_
        refine mp_40 X dX10_takesOther_45 (q := 48) rfl hs (fun s8 hs => ?_)
        exact wg_sub [0, 1, 2] rfl (ih2 _ hs)
      · intro hs
        refine g_aload_n X dX10_takesOther_22 (q := 23) rfl 0 rfl ?_
        refine mg_41 X dX10_takesOther_23 (q := 26) rfl ?_
        refine g_iload_n X dX10_takesOther_26 (q := 27) rfl 3 rfl ?_
        refine g_aload_n X dX10_takesOther_27 (q := 28) rfl 0 rfl ?_
        refine mg_41 X dX10_takesOther_28 (q := 31) rfl ?_
        refine g_bipush X dX10_takesOther_31 (q := 33) rfl li_b40 ?_
        refine g_iload_n X dX10_takesOther_33 (q := 34) rfl 3 rfl ?_
        refine g_iadd X dX10_takesOther_34 (q := 35) rfl ?_
        refine ma_18 X dX10_takesOther_35 (q := 36) rfl hs (fun y2 hs => ?_)
        refine ms_18 X dX10_takesOther_36 (q := 37) rfl hs (fun s9 hs => ?_)
        refine g_iinc X dX10_takesOther_37 (q := 40) rfl 3 rfl (v := (a2 + (1 : Int32))) (congrArg (HAdd.hAdd a2) li_i1) (Nat.le_of_ble_eq_true rfl) (lv' := [(3, .int (a2 + (1 : Int32))), (0, .ref (h 0)), (1, .int x1), (2, .int x2)]) rfl ?_
        refine g_goto X dX10_takesOther_40 (tgt := 15) (by decide) ?_
        exact wg_sub [1, 2, 3, 0] rfl (ih4 _ _ hs)
  refine g_if_ne X dX10_takesOther_1 (q := 4) rfl (tgt := 8) (by decide) hs ?_ ?_
  · intro hs
    exact wg_sub [0, 1, 2] rfl (ih1 _ hs)
  · intro hs
    refine g_aload_n X dX10_takesOther_4 (q := 5) rfl 0 rfl ?_
    refine v_takesKinds X dX10_takesOther_5 (q := 8) rfl (Nat.le_of_ble_eq_true rfl) (Nat.le_of_ble_eq_true rfl) (Nat.le_of_ble_eq_true rfl) hs (fun s10 hs => ?_)
    exact wg_sub [0, 1, 2] rfl (ih1 _ hs)
theorem v_takesOther {p : Program} {l : Launch} {e : Env} {st : State} {m : MethodId} {args : Array Value} {below : List Frame} {meth : Method} {c : Code} {Q : State → Prop} {nL : Nat} {cc : ByteArray} {s : ST} {pc q : Nat} {lv : List (Nat × Value)} {rest : List Value} {D : va_G} {cA : ClassId} {h : Nat → Nat} {d0 : Nat} (X : Cx (KM D cA h) p st m args meth c cc nL RX10) {x1 : Int32} {x2 : Int32} (d : decode cc pc = .ok (.invokevirtual 296, 3)) (hq : pc + 3 = q) (hd1 : 2 + 1 ≤ d0) (hd2 : 8 + (4 + 11) + 100 * 2 ≤ 100 * d0) (hr : (rest.map fun v => v.category).sum ≤ 8) {B : Type} {f : ST → Option B} {r : B} (hs : Bd (M_takesOther s x1 x2) f = some r) (k : ∀ y, f y = some r → WG (KM D cA h) p l e (rmD d0) st m args below meth c Q nL y q lv (rest)) : WG (KM D cA h) p l e (rmD d0) st m args below meth c Q nL s pc lv (.int x2 :: .int x1 :: .ref (h 0) :: rest) := by
  obtain ⟨v, hv, hs⟩ := Bd_e hs
  exact cV_V X 0 (n := 2) (k_takesOther l D cA h s x1 x2 hv) gv_X10_takesOther ⟨hd1, hd2⟩ ⟨by decide, by decide, by decide +kernel⟩ (As := [.int x1, .int x2]) rfl hr (Nat.le_of_ble_eq_true rfl) (fs := mF h (s.1 0)) rfl rfl rfl d hq (k _ hs)
theorem dX10_text_0 : decode cX10_text 0 = .ok (.aload_n 0, 1) := by decide +kernel
theorem dX10_text_1 : decode cX10_text 1 = .ok (.iconst 0, 1) := by decide +kernel
theorem dX10_text_2 : decode cX10_text 2 = .ok (.putfield 83, 3) := by decide +kernel
theorem dX10_text_5 : decode cX10_text 5 = .ok (.aload_n 0, 1) := by decide +kernel
theorem dX10_text_6 : decode cX10_text 6 = .ok (.iconst 0, 1) := by decide +kernel
theorem dX10_text_7 : decode cX10_text 7 = .ok (.putfield 287, 3) := by decide +kernel
theorem dX10_text_10 : decode cX10_text 10 = .ok (.aload_n 0, 1) := by decide +kernel
theorem dX10_text_11 : decode cX10_text 11 = .ok (.iconst (-1), 1) := by decide +kernel
theorem dX10_text_12 : decode cX10_text 12 = .ok (.putfield 55, 3) := by decide +kernel
theorem dX10_text_15 : decode cX10_text 15 = .ok (.aload_n 0, 1) := by decide +kernel
theorem dX10_text_16 : decode cX10_text 16 = .ok (.iconst 0, 1) := by decide +kernel
theorem dX10_text_17 : decode cX10_text 17 = .ok (.putfield 148, 3) := by decide +kernel
theorem dX10_text_20 : decode cX10_text 20 = .ok (.aload_n 0, 1) := by decide +kernel
theorem dX10_text_21 : decode cX10_text 21 = .ok (.iconst 0, 1) := by decide +kernel
theorem dX10_text_22 : decode cX10_text 22 = .ok (.putfield 182, 3) := by decide +kernel
theorem dX10_text_25 : decode cX10_text 25 = .ok (.aload_n 0, 1) := by decide +kernel
theorem dX10_text_26 : decode cX10_text 26 = .ok (.iconst 0, 1) := by decide +kernel
theorem dX10_text_27 : decode cX10_text 27 = .ok (.putfield 213, 3) := by decide +kernel
theorem dX10_text_30 : decode cX10_text 30 = .ok (.iconst (-1), 1) := by decide +kernel
theorem dX10_text_31 : decode cX10_text 31 = .ok (.istore_n 2, 1) := by decide +kernel
theorem dX10_text_32 : decode cX10_text 32 = .ok (.aload_n 0, 1) := by decide +kernel
theorem dX10_text_33 : decode cX10_text 33 = .ok (.iload_n 1, 1) := by decide +kernel
theorem dX10_text_34 : decode cX10_text 34 = .ok (.iconst 0, 1) := by decide +kernel
theorem dX10_text_35 : decode cX10_text 35 = .ok (.iconst 3, 1) := by decide +kernel
theorem dX10_text_36 : decode cX10_text 36 = .ok (.invokevirtual 111, 3) := by decide +kernel
theorem dX10_text_39 : decode cX10_text 39 = .ok (.ifCond .eq 30, 3) := by decide +kernel
theorem dX10_text_42 : decode cX10_text 42 = .ok (.aload_n 0, 1) := by decide +kernel
theorem dX10_text_43 : decode cX10_text 43 = .ok (.iload_n 1, 1) := by decide +kernel
theorem dX10_text_44 : decode cX10_text 44 = .ok (.invokevirtual 290, 3) := by decide +kernel
theorem dX10_text_47 : decode cX10_text 47 = .ok (.istore_n 2, 1) := by decide +kernel
theorem dX10_text_48 : decode cX10_text 48 = .ok (.iload_n 2, 1) := by decide +kernel
theorem dX10_text_49 : decode cX10_text 49 = .ok (.iconst (-1), 1) := by decide +kernel
theorem dX10_text_50 : decode cX10_text 50 = .ok (.if_icmp .ne 19, 3) := by decide +kernel
theorem dX10_text_53 : decode cX10_text 53 = .ok (.aload_n 0, 1) := by decide +kernel
theorem dX10_text_54 : decode cX10_text 54 = .ok (.aload_n 0, 1) := by decide +kernel
theorem dX10_text_55 : decode cX10_text 55 = .ok (.getfield 176, 3) := by decide +kernel
theorem dX10_text_58 : decode cX10_text 58 = .ok (.putfield 287, 3) := by decide +kernel
theorem dX10_text_61 : decode cX10_text 61 = .ok (.aload_n 0, 1) := by decide +kernel
theorem dX10_text_62 : decode cX10_text 62 = .ok (.aload_n 0, 1) := by decide +kernel
theorem dX10_text_63 : decode cX10_text 63 = .ok (.getfield 179, 3) := by decide +kernel
theorem dX10_text_66 : decode cX10_text 66 = .ok (.putfield 55, 3) := by decide +kernel
theorem dX10_text_69 : decode cX10_text 69 = .ok (.aload_n 0, 1) := by decide +kernel
theorem dX10_text_70 : decode cX10_text 70 = .ok (.iconst 0, 1) := by decide +kernel
theorem dX10_text_71 : decode cX10_text 71 = .ok (.putfield 141, 3) := by decide +kernel
theorem dX10_text_74 : decode cX10_text 74 = .ok (.iload_n 2, 1) := by decide +kernel
theorem dX10_text_75 : decode cX10_text 75 = .ok (.iconst (-1), 1) := by decide +kernel
theorem dX10_text_76 : decode cX10_text 76 = .ok (.if_icmp .ne 5, 3) := by decide +kernel
theorem dX10_text_79 : decode cX10_text 79 = .ok (.iconst (-1), 1) := by decide +kernel
theorem dX10_text_80 : decode cX10_text 80 = .ok (.ireturn, 1) := by decide +kernel
theorem dX10_text_81 : decode cX10_text 81 = .ok (.iload_n 1, 1) := by decide +kernel
theorem dX10_text_82 : decode cX10_text 82 = .ok (.iconst 1, 1) := by decide +kernel
theorem dX10_text_83 : decode cX10_text 83 = .ok (.if_icmp .ne 11, 3) := by decide +kernel
theorem dX10_text_86 : decode cX10_text 86 = .ok (.aload_n 0, 1) := by decide +kernel
theorem dX10_text_87 : decode cX10_text 87 = .ok (.iload_n 2, 1) := by decide +kernel
theorem dX10_text_88 : decode cX10_text 88 = .ok (.invokevirtual 293, 3) := by decide +kernel
theorem dX10_text_91 : decode cX10_text 91 = .ok (.goto 9, 3) := by decide +kernel
theorem dX10_text_94 : decode cX10_text 94 = .ok (.aload_n 0, 1) := by decide +kernel
theorem dX10_text_95 : decode cX10_text 95 = .ok (.iload_n 1, 1) := by decide +kernel
theorem dX10_text_96 : decode cX10_text 96 = .ok (.iload_n 2, 1) := by decide +kernel
theorem dX10_text_97 : decode cX10_text 97 = .ok (.invokevirtual 296, 3) := by decide +kernel
theorem dX10_text_100 : decode cX10_text 100 = .ok (.iload_n 2, 1) := by decide +kernel
theorem dX10_text_101 : decode cX10_text 101 = .ok (.ireturn, 1) := by decide +kernel
def M_text (s : ST) (x1 : Int32) : Option (Int32 × ST) := Lt (ups s 0 0 (0 : Int32)) fun s1 => Lt (ups s1 0 32 (0 : Int32)) fun s2 => Lt (ups s2 0 33 (-1 : Int32)) fun s3 => Lt (ups s3 0 13 (0 : Int32)) fun s4 => Lt (ups s4 0 26 (0 : Int32)) fun s5 => Lt (ups s5 0 27 (0 : Int32)) fun s6 => Lt (M_isIn s6 x1 (0 : Int32) (3 : Int32)) fun y1 => Lt (fun (a1 : Int32) (s7 : ST) => (Lt (ups s7 0 12 (0 : Int32)) fun s8 => if a1 = (-1 : Int32) then (some ((-1 : Int32), s8)) else (if x1 = (1 : Int32) then (Bd (M_takesLaw s8 a1) fun s10 => some (a1, s10)) else (Bd (M_takesOther s8 x1 a1) fun s9 => some (a1, s9))) : Option (Int32 × ST))) fun j1 => if y1 = 0 then (j1 (-1 : Int32) s6) else (Bd (M_readsText s6 x1) fun y2 => if y2.1 = (-1 : Int32) then (Lt (ups y2.2 0 32 (y2.2.1 0 30)) fun s11 => Lt (ups s11 0 33 (s11.1 0 31)) fun s12 => j1 y2.1 s12) else (j1 y2.1 y2.2))
set_option maxRecDepth 100000 in
set_option maxHeartbeats 4000000 in
theorem k_text (l : Launch) (D : va_G) (cA : ClassId) (h : Nat → Nat) (s : ST) (x1 : Int32) {o : Int32 × ST} (hs : M_text s x1 = some o) : MI l (KM D cA h) 11 yX10_text cX10_text 3 (some .int) s [.ref (h 0), .int x1] o.1 o.2 := by
  refine met_i (by decide) (Nat.le_of_ble_eq_true rfl) ?_
  intro p e st m args below meth c Q X RI
  unfold M_text at hs
  refine g_aload_n X dX10_text_0 (q := 1) rfl 0 rfl ?_
  refine g_iconst X dX10_text_1 (q := 2) rfl li_i0 ?_
  refine mp_0 X dX10_text_2 (q := 5) rfl hs (fun s1 hs => ?_)
  refine g_aload_n X dX10_text_5 (q := 6) rfl 0 rfl ?_
  refine g_iconst X dX10_text_6 (q := 7) rfl li_i0 ?_
  refine mp_32 X dX10_text_7 (q := 10) rfl hs (fun s2 hs => ?_)
  refine g_aload_n X dX10_text_10 (q := 11) rfl 0 rfl ?_
  refine g_iconst X dX10_text_11 (q := 12) rfl li_im1 ?_
  refine mp_33 X dX10_text_12 (q := 15) rfl hs (fun s3 hs => ?_)
  refine g_aload_n X dX10_text_15 (q := 16) rfl 0 rfl ?_
  refine g_iconst X dX10_text_16 (q := 17) rfl li_i0 ?_
  refine mp_13 X dX10_text_17 (q := 20) rfl hs (fun s4 hs => ?_)
  refine g_aload_n X dX10_text_20 (q := 21) rfl 0 rfl ?_
  refine g_iconst X dX10_text_21 (q := 22) rfl li_i0 ?_
  refine mp_26 X dX10_text_22 (q := 25) rfl hs (fun s5 hs => ?_)
  refine g_aload_n X dX10_text_25 (q := 26) rfl 0 rfl ?_
  refine g_iconst X dX10_text_26 (q := 27) rfl li_i0 ?_
  refine mp_27 X dX10_text_27 (q := 30) rfl hs (fun s6 hs => ?_)
  refine g_iconst X dX10_text_30 (q := 31) rfl li_im1 ?_
  refine g_istore_n X dX10_text_31 (q := 32) rfl (Nat.le_of_ble_eq_true rfl) (lv' := [(2, .int (-1 : Int32)), (0, .ref (h 0)), (1, .int x1)]) rfl ?_
  refine g_aload_n X dX10_text_32 (q := 33) rfl 1 rfl ?_
  refine g_iload_n X dX10_text_33 (q := 34) rfl 2 rfl ?_
  refine g_iconst X dX10_text_34 (q := 35) rfl li_i0 ?_
  refine g_iconst X dX10_text_35 (q := 36) rfl li_i3 ?_
  refine v_isIn X dX10_text_36 (q := 39) rfl (Nat.le_of_ble_eq_true rfl) (Nat.le_of_ble_eq_true rfl) (Nat.le_of_ble_eq_true rfl) hs (fun y1 hs => ?_)
  refine jnW2 (fun (a1 : Int32) (s7 : ST) => WG (KM D cA h) p l e (rmD 11) st m args below meth c Q 3 s7 69 [(0, .ref (h 0)), (1, .int x1), (2, .int a1)] []) hs (fun a1 s7 hs => ?_) (fun j1 ih1 hs => ?_)
  · refine g_aload_n X dX10_text_69 (q := 70) rfl 0 rfl ?_
    refine g_iconst X dX10_text_70 (q := 71) rfl li_i0 ?_
    refine mp_12 X dX10_text_71 (q := 74) rfl hs (fun s8 hs => ?_)
    refine g_iload_n X dX10_text_74 (q := 75) rfl 2 rfl ?_
    refine g_iconst X dX10_text_75 (q := 76) rfl li_im1 ?_
    refine g_icmp_ne X dX10_text_76 (q := 79) rfl (tgt := 81) (by decide) hs ?_ ?_
    · intro hs
      refine g_iload_n X dX10_text_81 (q := 82) rfl 1 rfl ?_
      refine g_iconst X dX10_text_82 (q := 83) rfl li_i1 ?_
      refine g_icmp_ne X dX10_text_83 (q := 86) rfl (tgt := 94) (by decide) hs ?_ ?_
      · intro hs
        refine g_aload_n X dX10_text_94 (q := 95) rfl 0 rfl ?_
        refine g_iload_n X dX10_text_95 (q := 96) rfl 1 rfl ?_
        refine g_iload_n X dX10_text_96 (q := 97) rfl 2 rfl ?_
        refine v_takesOther X dX10_text_97 (q := 100) rfl (Nat.le_of_ble_eq_true rfl) (Nat.le_of_ble_eq_true rfl) (Nat.le_of_ble_eq_true rfl) hs (fun s9 hs => ?_)
        refine g_iload_n X dX10_text_100 (q := 101) rfl 2 rfl ?_
        exact RI _ 101 _ _ _ (rU1 hs) rfl (rV1 hs) dX10_text_101
      · intro hs
        refine g_aload_n X dX10_text_86 (q := 87) rfl 0 rfl ?_
        refine g_iload_n X dX10_text_87 (q := 88) rfl 2 rfl ?_
        refine v_takesLaw X dX10_text_88 (q := 91) rfl (Nat.le_of_ble_eq_true rfl) (Nat.le_of_ble_eq_true rfl) (Nat.le_of_ble_eq_true rfl) hs (fun s10 hs => ?_)
        refine g_goto X dX10_text_91 (tgt := 100) (by decide) ?_
        refine g_iload_n X dX10_text_100 (q := 101) rfl 2 rfl ?_
        exact RI _ 101 _ _ _ (rU1 hs) rfl (rV1 hs) dX10_text_101
    · intro hs
      refine g_iconst X dX10_text_79 (q := 80) rfl li_im1 ?_
      exact RI _ 80 _ _ _ (rU1 hs) rfl (rV1 hs) dX10_text_80
  refine g_if_eq X dX10_text_39 (q := 42) rfl (tgt := 69) (by decide) hs ?_ ?_
  · intro hs
    exact wg_sub [1, 2, 0] rfl (ih1 _ _ hs)
  · intro hs
    refine g_aload_n X dX10_text_42 (q := 43) rfl 1 rfl ?_
    refine g_iload_n X dX10_text_43 (q := 44) rfl 2 rfl ?_
    refine v_readsText X dX10_text_44 (q := 47) rfl (Nat.le_of_ble_eq_true rfl) (Nat.le_of_ble_eq_true rfl) (Nat.le_of_ble_eq_true rfl) hs (fun y2 hs => ?_)
    refine g_istore_n X dX10_text_47 (q := 48) rfl (Nat.le_of_ble_eq_true rfl) (lv' := [(2, .int y2.1), (0, .ref (h 0)), (1, .int x1)]) rfl ?_
    refine g_iload_n X dX10_text_48 (q := 49) rfl 0 rfl ?_
    refine g_iconst X dX10_text_49 (q := 50) rfl li_im1 ?_
    refine g_icmp_ne X dX10_text_50 (q := 53) rfl (tgt := 69) (by decide) hs ?_ ?_
    · intro hs
      exact wg_sub [1, 2, 0] rfl (ih1 _ _ hs)
    · intro hs
      refine g_aload_n X dX10_text_53 (q := 54) rfl 1 rfl ?_
      refine g_aload_n X dX10_text_54 (q := 55) rfl 1 rfl ?_
      refine mg_30 X dX10_text_55 (q := 58) rfl ?_
      refine mp_32 X dX10_text_58 (q := 61) rfl hs (fun s11 hs => ?_)
      refine g_aload_n X dX10_text_61 (q := 62) rfl 1 rfl ?_
      refine g_aload_n X dX10_text_62 (q := 63) rfl 1 rfl ?_
      refine mg_31 X dX10_text_63 (q := 66) rfl ?_
      refine mp_33 X dX10_text_66 (q := 69) rfl hs (fun s12 hs => ?_)
      exact wg_sub [1, 2, 0] rfl (ih1 _ _ hs)
theorem dX10_fault_0 : decode cX10_fault 0 = .ok (.aload_n 0, 1) := by decide +kernel
theorem dX10_fault_1 : decode cX10_fault 1 = .ok (.iconst 0, 1) := by decide +kernel
theorem dX10_fault_2 : decode cX10_fault 2 = .ok (.putfield 83, 3) := by decide +kernel
theorem dX10_fault_5 : decode cX10_fault 5 = .ok (.iload_n 1, 1) := by decide +kernel
theorem dX10_fault_6 : decode cX10_fault 6 = .ok (.ifCond .ne 10, 3) := by decide +kernel
theorem dX10_fault_9 : decode cX10_fault 9 = .ok (.aload_n 0, 1) := by decide +kernel
theorem dX10_fault_10 : decode cX10_fault 10 = .ok (.getfield 287, 3) := by decide +kernel
theorem dX10_fault_13 : decode cX10_fault 13 = .ok (.goto 16, 3) := by decide +kernel
theorem dX10_fault_16 : decode cX10_fault 16 = .ok (.iload_n 1, 1) := by decide +kernel
theorem dX10_fault_17 : decode cX10_fault 17 = .ok (.iconst 1, 1) := by decide +kernel
theorem dX10_fault_18 : decode cX10_fault 18 = .ok (.if_icmp .ne 10, 3) := by decide +kernel
theorem dX10_fault_21 : decode cX10_fault 21 = .ok (.aload_n 0, 1) := by decide +kernel
theorem dX10_fault_22 : decode cX10_fault 22 = .ok (.getfield 55, 3) := by decide +kernel
theorem dX10_fault_25 : decode cX10_fault 25 = .ok (.goto 4, 3) := by decide +kernel
theorem dX10_fault_28 : decode cX10_fault 28 = .ok (.iconst (-1), 1) := by decide +kernel
theorem dX10_fault_29 : decode cX10_fault 29 = .ok (.ireturn, 1) := by decide +kernel
def M_fault (s : ST) (x1 : Int32) : Int32 × ST := Lt (ups s 0 0 (0 : Int32)) fun s1 => if x1 = 0 then (((s1.1 0 32), s1)) else (if x1 = (1 : Int32) then (((s1.1 0 33), s1)) else (((-1 : Int32), s1)))
set_option maxRecDepth 100000 in
set_option maxHeartbeats 4000000 in
theorem k_fault (l : Launch) (D : va_G) (cA : ClassId) (h : Nat → Nat) (s : ST) (x1 : Int32) : MI l (KM D cA h) 1 yX10_fault cX10_fault 2 (some .int) s [.ref (h 0), .int x1] (M_fault s x1).1 (M_fault s x1).2 := by
  refine met_i (by decide) (Nat.le_of_ble_eq_true rfl) ?_
  intro p e st m args below meth c Q X RI
  generalize hs : M_fault s x1 = o at RI
  unfold M_fault at hs
  refine g_aload_n X dX10_fault_0 (q := 1) rfl 0 rfl ?_
  refine g_iconst X dX10_fault_1 (q := 2) rfl li_i0 ?_
  refine mp_0 X dX10_fault_2 (q := 5) rfl hs (fun s1 hs => ?_)
  refine g_iload_n X dX10_fault_5 (q := 6) rfl 1 rfl ?_
  refine g_if_ne X dX10_fault_6 (q := 9) rfl (tgt := 16) (by decide) hs ?_ ?_
  · intro hs
    refine g_iload_n X dX10_fault_16 (q := 17) rfl 1 rfl ?_
    refine g_iconst X dX10_fault_17 (q := 18) rfl li_i1 ?_
    refine g_icmp_ne X dX10_fault_18 (q := 21) rfl (tgt := 28) (by decide) hs ?_ ?_
    · intro hs
      refine g_iconst X dX10_fault_28 (q := 29) rfl li_im1 ?_
      exact RI _ 29 _ _ _ (rU0 hs) rfl (rV0 hs) dX10_fault_29
    · intro hs
      refine g_aload_n X dX10_fault_21 (q := 22) rfl 0 rfl ?_
      refine mg_33 X dX10_fault_22 (q := 25) rfl ?_
      refine g_goto X dX10_fault_25 (tgt := 29) (by decide) ?_
      exact RI _ 29 _ _ _ (rU0 hs) rfl (rV0 hs) dX10_fault_29
  · intro hs
    refine g_aload_n X dX10_fault_9 (q := 10) rfl 0 rfl ?_
    refine mg_32 X dX10_fault_10 (q := 13) rfl ?_
    refine g_goto X dX10_fault_13 (tgt := 29) (by decide) ?_
    exact RI _ 29 _ _ _ (rU0 hs) rfl (rV0 hs) dX10_fault_29
theorem dX10_twoOf_0 : decode cX10_twoOf 0 = .ok (.iload_n 1, 1) := by decide +kernel
theorem dX10_twoOf_1 : decode cX10_twoOf 1 = .ok (.iconst 2, 1) := by decide +kernel
theorem dX10_twoOf_2 : decode cX10_twoOf 2 = .ok (.if_icmp .ne 7, 3) := by decide +kernel
theorem dX10_twoOf_5 : decode cX10_twoOf 5 = .ok (.iload_n 2, 1) := by decide +kernel
theorem dX10_twoOf_6 : decode cX10_twoOf 6 = .ok (.iload_n 3, 1) := by decide +kernel
theorem dX10_twoOf_7 : decode cX10_twoOf 7 = .ok (.iadd, 1) := by decide +kernel
theorem dX10_twoOf_8 : decode cX10_twoOf 8 = .ok (.ireturn, 1) := by decide +kernel
theorem dX10_twoOf_9 : decode cX10_twoOf 9 = .ok (.iload_n 1, 1) := by decide +kernel
theorem dX10_twoOf_10 : decode cX10_twoOf 10 = .ok (.iconst 3, 1) := by decide +kernel
theorem dX10_twoOf_11 : decode cX10_twoOf 11 = .ok (.if_icmp .ne 7, 3) := by decide +kernel
theorem dX10_twoOf_14 : decode cX10_twoOf 14 = .ok (.iload_n 2, 1) := by decide +kernel
theorem dX10_twoOf_15 : decode cX10_twoOf 15 = .ok (.iload_n 3, 1) := by decide +kernel
theorem dX10_twoOf_16 : decode cX10_twoOf 16 = .ok (.isub, 1) := by decide +kernel
theorem dX10_twoOf_17 : decode cX10_twoOf 17 = .ok (.ireturn, 1) := by decide +kernel
theorem dX10_twoOf_18 : decode cX10_twoOf 18 = .ok (.iload_n 1, 1) := by decide +kernel
theorem dX10_twoOf_19 : decode cX10_twoOf 19 = .ok (.iconst 4, 1) := by decide +kernel
theorem dX10_twoOf_20 : decode cX10_twoOf 20 = .ok (.if_icmp .ne 7, 3) := by decide +kernel
theorem dX10_twoOf_23 : decode cX10_twoOf 23 = .ok (.iload_n 2, 1) := by decide +kernel
theorem dX10_twoOf_24 : decode cX10_twoOf 24 = .ok (.iload_n 3, 1) := by decide +kernel
theorem dX10_twoOf_25 : decode cX10_twoOf 25 = .ok (.imul, 1) := by decide +kernel
theorem dX10_twoOf_26 : decode cX10_twoOf 26 = .ok (.ireturn, 1) := by decide +kernel
theorem dX10_twoOf_27 : decode cX10_twoOf 27 = .ok (.iload_n 1, 1) := by decide +kernel
theorem dX10_twoOf_28 : decode cX10_twoOf 28 = .ok (.iconst 5, 1) := by decide +kernel
theorem dX10_twoOf_29 : decode cX10_twoOf 29 = .ok (.if_icmp .ne 7, 3) := by decide +kernel
theorem dX10_twoOf_32 : decode cX10_twoOf 32 = .ok (.iload_n 2, 1) := by decide +kernel
theorem dX10_twoOf_33 : decode cX10_twoOf 33 = .ok (.iload_n 3, 1) := by decide +kernel
theorem dX10_twoOf_34 : decode cX10_twoOf 34 = .ok (.idiv, 1) := by decide +kernel
theorem dX10_twoOf_35 : decode cX10_twoOf 35 = .ok (.ireturn, 1) := by decide +kernel
theorem dX10_twoOf_36 : decode cX10_twoOf 36 = .ok (.iload_n 1, 1) := by decide +kernel
theorem dX10_twoOf_37 : decode cX10_twoOf 37 = .ok (.bipush 6, 2) := by decide +kernel
theorem dX10_twoOf_39 : decode cX10_twoOf 39 = .ok (.if_icmp .ne 14, 3) := by decide +kernel
theorem dX10_twoOf_42 : decode cX10_twoOf 42 = .ok (.iload_n 2, 1) := by decide +kernel
theorem dX10_twoOf_43 : decode cX10_twoOf 43 = .ok (.iload_n 3, 1) := by decide +kernel
theorem dX10_twoOf_44 : decode cX10_twoOf 44 = .ok (.if_icmp .ge 7, 3) := by decide +kernel
theorem dX10_twoOf_47 : decode cX10_twoOf 47 = .ok (.iconst 1, 1) := by decide +kernel
theorem dX10_twoOf_48 : decode cX10_twoOf 48 = .ok (.goto 4, 3) := by decide +kernel
theorem dX10_twoOf_51 : decode cX10_twoOf 51 = .ok (.iconst 0, 1) := by decide +kernel
theorem dX10_twoOf_52 : decode cX10_twoOf 52 = .ok (.ireturn, 1) := by decide +kernel
theorem dX10_twoOf_53 : decode cX10_twoOf 53 = .ok (.iload_n 1, 1) := by decide +kernel
theorem dX10_twoOf_54 : decode cX10_twoOf 54 = .ok (.bipush 7, 2) := by decide +kernel
theorem dX10_twoOf_56 : decode cX10_twoOf 56 = .ok (.if_icmp .ne 14, 3) := by decide +kernel
theorem dX10_twoOf_59 : decode cX10_twoOf 59 = .ok (.iload_n 2, 1) := by decide +kernel
theorem dX10_twoOf_60 : decode cX10_twoOf 60 = .ok (.iload_n 3, 1) := by decide +kernel
theorem dX10_twoOf_61 : decode cX10_twoOf 61 = .ok (.if_icmp .ne 7, 3) := by decide +kernel
theorem dX10_twoOf_64 : decode cX10_twoOf 64 = .ok (.iconst 1, 1) := by decide +kernel
theorem dX10_twoOf_65 : decode cX10_twoOf 65 = .ok (.goto 4, 3) := by decide +kernel
theorem dX10_twoOf_68 : decode cX10_twoOf 68 = .ok (.iconst 0, 1) := by decide +kernel
theorem dX10_twoOf_69 : decode cX10_twoOf 69 = .ok (.ireturn, 1) := by decide +kernel
theorem dX10_twoOf_70 : decode cX10_twoOf 70 = .ok (.iload_n 1, 1) := by decide +kernel
theorem dX10_twoOf_71 : decode cX10_twoOf 71 = .ok (.bipush 8, 2) := by decide +kernel
theorem dX10_twoOf_73 : decode cX10_twoOf 73 = .ok (.if_icmp .ne 14, 3) := by decide +kernel
theorem dX10_twoOf_76 : decode cX10_twoOf 76 = .ok (.iload_n 2, 1) := by decide +kernel
theorem dX10_twoOf_77 : decode cX10_twoOf 77 = .ok (.iload_n 3, 1) := by decide +kernel
theorem dX10_twoOf_78 : decode cX10_twoOf 78 = .ok (.if_icmp .le 7, 3) := by decide +kernel
theorem dX10_twoOf_81 : decode cX10_twoOf 81 = .ok (.iconst 1, 1) := by decide +kernel
theorem dX10_twoOf_82 : decode cX10_twoOf 82 = .ok (.goto 4, 3) := by decide +kernel
theorem dX10_twoOf_85 : decode cX10_twoOf 85 = .ok (.iconst 0, 1) := by decide +kernel
theorem dX10_twoOf_86 : decode cX10_twoOf 86 = .ok (.ireturn, 1) := by decide +kernel
theorem dX10_twoOf_87 : decode cX10_twoOf 87 = .ok (.iload_n 1, 1) := by decide +kernel
theorem dX10_twoOf_88 : decode cX10_twoOf 88 = .ok (.bipush 10, 2) := by decide +kernel
theorem dX10_twoOf_90 : decode cX10_twoOf 90 = .ok (.if_icmp .ne 9, 3) := by decide +kernel
theorem dX10_twoOf_93 : decode cX10_twoOf 93 = .ok (.iload_n 2, 1) := by decide +kernel
theorem dX10_twoOf_94 : decode cX10_twoOf 94 = .ok (.iload_n 3, 1) := by decide +kernel
theorem dX10_twoOf_95 : decode cX10_twoOf 95 = .ok (.imul, 1) := by decide +kernel
theorem dX10_twoOf_96 : decode cX10_twoOf 96 = .ok (.goto 14, 3) := by decide +kernel
theorem dX10_twoOf_99 : decode cX10_twoOf 99 = .ok (.iload_n 2, 1) := by decide +kernel
theorem dX10_twoOf_100 : decode cX10_twoOf 100 = .ok (.iload_n 3, 1) := by decide +kernel
theorem dX10_twoOf_101 : decode cX10_twoOf 101 = .ok (.iadd, 1) := by decide +kernel
theorem dX10_twoOf_102 : decode cX10_twoOf 102 = .ok (.ifCond .le 7, 3) := by decide +kernel
theorem dX10_twoOf_105 : decode cX10_twoOf 105 = .ok (.iconst 1, 1) := by decide +kernel
theorem dX10_twoOf_106 : decode cX10_twoOf 106 = .ok (.goto 4, 3) := by decide +kernel
theorem dX10_twoOf_109 : decode cX10_twoOf 109 = .ok (.iconst 0, 1) := by decide +kernel
theorem dX10_twoOf_110 : decode cX10_twoOf 110 = .ok (.ireturn, 1) := by decide +kernel
def M_twoOf (s : ST) (x1 : Int32) (x2 : Int32) (x3 : Int32) : Option (Int32) := if x1 = (2 : Int32) then (some (x2 + x3)) else (if x1 = (3 : Int32) then (some (x2 - x3)) else (if x1 = (4 : Int32) then (some (x2 * x3)) else (if x1 = (5 : Int32) then (Gz x3 <| some (x2 / x3)) else (if x1 = (6 : Int32) then (if x3 ≤ x2 then (some (0 : Int32)) else (some (1 : Int32))) else (if x1 = (7 : Int32) then (if x2 = x3 then (some (1 : Int32)) else (some (0 : Int32))) else (if x1 = (8 : Int32) then (if x2 ≤ x3 then (some (0 : Int32)) else (some (1 : Int32))) else (if x1 = (10 : Int32) then (some (x2 * x3)) else (if (x2 + x3) ≤ 0 then (some (0 : Int32)) else (some (1 : Int32))))))))))
set_option maxRecDepth 100000 in
set_option maxHeartbeats 4000000 in
theorem k_twoOf (l : Launch) (D : va_G) (cA : ClassId) (h : Nat → Nat) (s : ST) (x1 : Int32) (x2 : Int32) (x3 : Int32) {o : Int32} (hs : M_twoOf s x1 x2 x3 = some o) : MI l (KM D cA h) 1 yX10_twoOf cX10_twoOf 4 (some .int) s [.ref (h 0), .int x1, .int x2, .int x3] o s := by
  refine met_i (by decide) (Nat.le_of_ble_eq_true rfl) ?_
  intro p e st m args below meth c Q X RI
  unfold M_twoOf at hs
  refine g_iload_n X dX10_twoOf_0 (q := 1) rfl 1 rfl ?_
  refine g_iconst X dX10_twoOf_1 (q := 2) rfl li_i2 ?_
  refine g_icmp_ne X dX10_twoOf_2 (q := 5) rfl (tgt := 9) (by decide) hs ?_ ?_
  · intro hs
    refine g_iload_n X dX10_twoOf_9 (q := 10) rfl 1 rfl ?_
    refine g_iconst X dX10_twoOf_10 (q := 11) rfl li_i3 ?_
    refine g_icmp_ne X dX10_twoOf_11 (q := 14) rfl (tgt := 18) (by decide) hs ?_ ?_
    · intro hs
      refine g_iload_n X dX10_twoOf_18 (q := 19) rfl 1 rfl ?_
      refine g_iconst X dX10_twoOf_19 (q := 20) rfl li_i4 ?_
      refine g_icmp_ne X dX10_twoOf_20 (q := 23) rfl (tgt := 27) (by decide) hs ?_ ?_
      · intro hs
        refine g_iload_n X dX10_twoOf_27 (q := 28) rfl 1 rfl ?_
        refine g_iconst X dX10_twoOf_28 (q := 29) rfl li_i5 ?_
        refine g_icmp_ne X dX10_twoOf_29 (q := 32) rfl (tgt := 36) (by decide) hs ?_ ?_
        · intro hs
          refine g_iload_n X dX10_twoOf_36 (q := 37) rfl 1 rfl ?_
          refine g_bipush X dX10_twoOf_37 (q := 39) rfl li_b6 ?_
          refine g_icmp_ne X dX10_twoOf_39 (q := 42) rfl (tgt := 53) (by decide) hs ?_ ?_
          · intro hs
            refine g_iload_n X dX10_twoOf_53 (q := 54) rfl 1 rfl ?_
            refine g_bipush X dX10_twoOf_54 (q := 56) rfl li_b7 ?_
            refine g_icmp_ne X dX10_twoOf_56 (q := 59) rfl (tgt := 70) (by decide) hs ?_ ?_
            · intro hs
              refine g_iload_n X dX10_twoOf_70 (q := 71) rfl 1 rfl ?_
              refine g_bipush X dX10_twoOf_71 (q := 73) rfl li_b8 ?_
              refine g_icmp_ne X dX10_twoOf_73 (q := 76) rfl (tgt := 87) (by decide) hs ?_ ?_
              · intro hs
                refine g_iload_n X dX10_twoOf_87 (q := 88) rfl 1 rfl ?_
                refine g_bipush X dX10_twoOf_88 (q := 90) rfl li_b10 ?_
                refine g_icmp_ne X dX10_twoOf_90 (q := 93) rfl (tgt := 99) (by decide) hs ?_ ?_
                · intro hs
                  refine g_iload_n X dX10_twoOf_99 (q := 100) rfl 2 rfl ?_
                  refine g_iload_n X dX10_twoOf_100 (q := 101) rfl 3 rfl ?_
                  refine g_iadd X dX10_twoOf_101 (q := 102) rfl ?_
                  refine g_if_le X dX10_twoOf_102 (q := 105) rfl (tgt := 109) (by decide) hs ?_ ?_
                  · intro hs
                    refine g_iconst X dX10_twoOf_109 (q := 110) rfl li_i0 ?_
                    exact RI _ 110 _ _ _ rfl rfl (Option.some.inj hs) dX10_twoOf_110
                  · intro hs
                    refine g_iconst X dX10_twoOf_105 (q := 106) rfl li_i1 ?_
                    refine g_goto X dX10_twoOf_106 (tgt := 110) (by decide) ?_
                    exact RI _ 110 _ _ _ rfl rfl (Option.some.inj hs) dX10_twoOf_110
                · intro hs
                  refine g_iload_n X dX10_twoOf_93 (q := 94) rfl 2 rfl ?_
                  refine g_iload_n X dX10_twoOf_94 (q := 95) rfl 3 rfl ?_
                  refine g_imul X dX10_twoOf_95 (q := 96) rfl ?_
                  refine g_goto X dX10_twoOf_96 (tgt := 110) (by decide) ?_
                  exact RI _ 110 _ _ _ rfl rfl (Option.some.inj hs) dX10_twoOf_110
              · intro hs
                refine g_iload_n X dX10_twoOf_76 (q := 77) rfl 2 rfl ?_
                refine g_iload_n X dX10_twoOf_77 (q := 78) rfl 3 rfl ?_
                refine g_icmp_le X dX10_twoOf_78 (q := 81) rfl (tgt := 85) (by decide) hs ?_ ?_
                · intro hs
                  refine g_iconst X dX10_twoOf_85 (q := 86) rfl li_i0 ?_
                  exact RI _ 86 _ _ _ rfl rfl (Option.some.inj hs) dX10_twoOf_86
                · intro hs
                  refine g_iconst X dX10_twoOf_81 (q := 82) rfl li_i1 ?_
                  refine g_goto X dX10_twoOf_82 (tgt := 86) (by decide) ?_
                  exact RI _ 86 _ _ _ rfl rfl (Option.some.inj hs) dX10_twoOf_86
            · intro hs
              refine g_iload_n X dX10_twoOf_59 (q := 60) rfl 2 rfl ?_
              refine g_iload_n X dX10_twoOf_60 (q := 61) rfl 3 rfl ?_
              refine g_icmp_ne X dX10_twoOf_61 (q := 64) rfl (tgt := 68) (by decide) hs ?_ ?_
              · intro hs
                refine g_iconst X dX10_twoOf_68 (q := 69) rfl li_i0 ?_
                exact RI _ 69 _ _ _ rfl rfl (Option.some.inj hs) dX10_twoOf_69
              · intro hs
                refine g_iconst X dX10_twoOf_64 (q := 65) rfl li_i1 ?_
                refine g_goto X dX10_twoOf_65 (tgt := 69) (by decide) ?_
                exact RI _ 69 _ _ _ rfl rfl (Option.some.inj hs) dX10_twoOf_69
          · intro hs
            refine g_iload_n X dX10_twoOf_42 (q := 43) rfl 2 rfl ?_
            refine g_iload_n X dX10_twoOf_43 (q := 44) rfl 3 rfl ?_
            refine g_icmp_ge X dX10_twoOf_44 (q := 47) rfl (tgt := 51) (by decide) hs ?_ ?_
            · intro hs
              refine g_iconst X dX10_twoOf_51 (q := 52) rfl li_i0 ?_
              exact RI _ 52 _ _ _ rfl rfl (Option.some.inj hs) dX10_twoOf_52
            · intro hs
              refine g_iconst X dX10_twoOf_47 (q := 48) rfl li_i1 ?_
              refine g_goto X dX10_twoOf_48 (tgt := 52) (by decide) ?_
              exact RI _ 52 _ _ _ rfl rfl (Option.some.inj hs) dX10_twoOf_52
        · intro hs
          refine g_iload_n X dX10_twoOf_32 (q := 33) rfl 2 rfl ?_
          refine g_iload_n X dX10_twoOf_33 (q := 34) rfl 3 rfl ?_
          have hz := (Gz_e hs).1
          replace hs := (Gz_e hs).2
          refine g_idiv X dX10_twoOf_34 (q := 35) rfl hz ?_
          exact RI _ 35 _ _ _ rfl rfl (Option.some.inj hs) dX10_twoOf_35
      · intro hs
        refine g_iload_n X dX10_twoOf_23 (q := 24) rfl 2 rfl ?_
        refine g_iload_n X dX10_twoOf_24 (q := 25) rfl 3 rfl ?_
        refine g_imul X dX10_twoOf_25 (q := 26) rfl ?_
        exact RI _ 26 _ _ _ rfl rfl (Option.some.inj hs) dX10_twoOf_26
    · intro hs
      refine g_iload_n X dX10_twoOf_14 (q := 15) rfl 2 rfl ?_
      refine g_iload_n X dX10_twoOf_15 (q := 16) rfl 3 rfl ?_
      refine g_isub X dX10_twoOf_16 (q := 17) rfl ?_
      exact RI _ 17 _ _ _ rfl rfl (Option.some.inj hs) dX10_twoOf_17
  · intro hs
    refine g_iload_n X dX10_twoOf_5 (q := 6) rfl 2 rfl ?_
    refine g_iload_n X dX10_twoOf_6 (q := 7) rfl 3 rfl ?_
    refine g_iadd X dX10_twoOf_7 (q := 8) rfl ?_
    exact RI _ 8 _ _ _ rfl rfl (Option.some.inj hs) dX10_twoOf_8
theorem v_twoOf {p : Program} {l : Launch} {e : Env} {st : State} {m : MethodId} {args : Array Value} {below : List Frame} {meth : Method} {c : Code} {Q : State → Prop} {nL : Nat} {cc : ByteArray} {s : ST} {pc q : Nat} {lv : List (Nat × Value)} {rest : List Value} {D : va_G} {cA : ClassId} {h : Nat → Nat} {d0 : Nat} (X : Cx (KM D cA h) p st m args meth c cc nL RX10) {x1 : Int32} {x2 : Int32} {x3 : Int32} (d : decode cc pc = .ok (.invokevirtual 299, 3)) (hq : pc + 3 = q) (hd1 : 1 + 1 ≤ d0) (hd2 : 8 + (4 + 11) + 100 * 1 ≤ 100 * d0) (hr : (rest.map fun v => v.category).sum ≤ 8) {B : Type} {f : Int32 → Option B} {r : B} (hs : Bd (M_twoOf s x1 x2 x3) f = some r) (k : ∀ y, f y = some r → WG (KM D cA h) p l e (rmD d0) st m args below meth c Q nL s q lv (.int y :: rest)) : WG (KM D cA h) p l e (rmD d0) st m args below meth c Q nL s pc lv (.int x3 :: .int x2 :: .int x1 :: .ref (h 0) :: rest) := by
  obtain ⟨v, hv, hs⟩ := Bd_e hs
  exact cV_I X 0 (n := 3) (k_twoOf l D cA h s x1 x2 x3 hv) gv_X10_twoOf ⟨hd1, hd2⟩ ⟨by decide, by decide, by decide +kernel⟩ (As := [.int x1, .int x2, .int x3]) rfl hr (Nat.le_of_ble_eq_true rfl) (fs := mF h (s.1 0)) rfl rfl rfl d hq (k _ hs)
theorem dX10_runs_0 : decode cX10_runs 0 = .ok (.iconst 0, 1) := by decide +kernel
theorem dX10_runs_1 : decode cX10_runs 1 = .ok (.istore 4, 2) := by decide +kernel
theorem dX10_runs_3 : decode cX10_runs 3 = .ok (.sipush 400, 3) := by decide +kernel
theorem dX10_runs_6 : decode cX10_runs 6 = .ok (.iload_n 1, 1) := by decide +kernel
theorem dX10_runs_7 : decode cX10_runs 7 = .ok (.imul, 1) := by decide +kernel
theorem dX10_runs_8 : decode cX10_runs 8 = .ok (.iload_n 2, 1) := by decide +kernel
theorem dX10_runs_9 : decode cX10_runs 9 = .ok (.iadd, 1) := by decide +kernel
theorem dX10_runs_10 : decode cX10_runs 10 = .ok (.istore 5, 2) := by decide +kernel
theorem dX10_runs_12 : decode cX10_runs 12 = .ok (.iload 5, 2) := by decide +kernel
theorem dX10_runs_14 : decode cX10_runs 14 = .ok (.sipush 400, 3) := by decide +kernel
theorem dX10_runs_17 : decode cX10_runs 17 = .ok (.iload_n 1, 1) := by decide +kernel
theorem dX10_runs_18 : decode cX10_runs 18 = .ok (.imul, 1) := by decide +kernel
theorem dX10_runs_19 : decode cX10_runs 19 = .ok (.iload_n 3, 1) := by decide +kernel
theorem dX10_runs_20 : decode cX10_runs 20 = .ok (.iadd, 1) := by decide +kernel
theorem dX10_runs_21 : decode cX10_runs 21 = .ok (.if_icmp .ge 155, 3) := by decide +kernel
theorem dX10_runs_24 : decode cX10_runs 24 = .ok (.aload_n 0, 1) := by decide +kernel
theorem dX10_runs_25 : decode cX10_runs 25 = .ok (.getfield 46, 3) := by decide +kernel
theorem dX10_runs_28 : decode cX10_runs 28 = .ok (.iload 5, 2) := by decide +kernel
theorem dX10_runs_30 : decode cX10_runs 30 = .ok (.iaload, 1) := by decide +kernel
theorem dX10_runs_31 : decode cX10_runs 31 = .ok (.ifCond .eq 14, 3) := by decide +kernel
theorem dX10_runs_34 : decode cX10_runs 34 = .ok (.aload_n 0, 1) := by decide +kernel
theorem dX10_runs_35 : decode cX10_runs 35 = .ok (.getfield 46, 3) := by decide +kernel
theorem dX10_runs_38 : decode cX10_runs 38 = .ok (.iload 5, 2) := by decide +kernel
theorem dX10_runs_40 : decode cX10_runs 40 = .ok (.iaload, 1) := by decide +kernel
theorem dX10_runs_41 : decode cX10_runs 41 = .ok (.iconst 1, 1) := by decide +kernel
theorem dX10_runs_42 : decode cX10_runs 42 = .ok (.if_icmp .ne 51, 3) := by decide +kernel
theorem dX10_runs_45 : decode cX10_runs 45 = .ok (.aload_n 0, 1) := by decide +kernel
theorem dX10_runs_46 : decode cX10_runs 46 = .ok (.getfield 74, 3) := by decide +kernel
theorem dX10_runs_49 : decode cX10_runs 49 = .ok (.iload 4, 2) := by decide +kernel
theorem dX10_runs_51 : decode cX10_runs 51 = .ok (.aload_n 0, 1) := by decide +kernel
theorem dX10_runs_52 : decode cX10_runs 52 = .ok (.getfield 46, 3) := by decide +kernel
theorem dX10_runs_55 : decode cX10_runs 55 = .ok (.iload 5, 2) := by decide +kernel
theorem dX10_runs_57 : decode cX10_runs 57 = .ok (.iaload, 1) := by decide +kernel
theorem dX10_runs_58 : decode cX10_runs 58 = .ok (.ifCond .ne 13, 3) := by decide +kernel
theorem dX10_runs_61 : decode cX10_runs 61 = .ok (.aload_n 0, 1) := by decide +kernel
theorem dX10_runs_62 : decode cX10_runs 62 = .ok (.getfield 49, 3) := by decide +kernel
theorem dX10_runs_65 : decode cX10_runs 65 = .ok (.iload 5, 2) := by decide +kernel
theorem dX10_runs_67 : decode cX10_runs 67 = .ok (.iaload, 1) := by decide +kernel
theorem dX10_runs_68 : decode cX10_runs 68 = .ok (.goto 15, 3) := by decide +kernel
theorem dX10_runs_71 : decode cX10_runs 71 = .ok (.aload_n 0, 1) := by decide +kernel
theorem dX10_runs_72 : decode cX10_runs 72 = .ok (.getfield 71, 3) := by decide +kernel
theorem dX10_runs_75 : decode cX10_runs 75 = .ok (.aload_n 0, 1) := by decide +kernel
theorem dX10_runs_76 : decode cX10_runs 76 = .ok (.getfield 49, 3) := by decide +kernel
theorem dX10_runs_79 : decode cX10_runs 79 = .ok (.iload 5, 2) := by decide +kernel
theorem dX10_runs_81 : decode cX10_runs 81 = .ok (.iaload, 1) := by decide +kernel
theorem dX10_runs_82 : decode cX10_runs 82 = .ok (.iaload, 1) := by decide +kernel
theorem dX10_runs_83 : decode cX10_runs 83 = .ok (.iastore, 1) := by decide +kernel
theorem dX10_runs_84 : decode cX10_runs 84 = .ok (.iload 4, 2) := by decide +kernel
theorem dX10_runs_86 : decode cX10_runs 86 = .ok (.iconst 1, 1) := by decide +kernel
theorem dX10_runs_87 : decode cX10_runs 87 = .ok (.iadd, 1) := by decide +kernel
theorem dX10_runs_88 : decode cX10_runs 88 = .ok (.istore 4, 2) := by decide +kernel
theorem dX10_runs_90 : decode cX10_runs 90 = .ok (.goto 80, 3) := by decide +kernel
theorem dX10_runs_93 : decode cX10_runs 93 = .ok (.aload_n 0, 1) := by decide +kernel
theorem dX10_runs_94 : decode cX10_runs 94 = .ok (.getfield 46, 3) := by decide +kernel
theorem dX10_runs_97 : decode cX10_runs 97 = .ok (.iload 5, 2) := by decide +kernel
theorem dX10_runs_99 : decode cX10_runs 99 = .ok (.iaload, 1) := by decide +kernel
theorem dX10_runs_100 : decode cX10_runs 100 = .ok (.bipush 9, 2) := by decide +kernel
theorem dX10_runs_102 : decode cX10_runs 102 = .ok (.if_icmp .ne 26, 3) := by decide +kernel
theorem dX10_runs_105 : decode cX10_runs 105 = .ok (.aload_n 0, 1) := by decide +kernel
theorem dX10_runs_106 : decode cX10_runs 106 = .ok (.getfield 74, 3) := by decide +kernel
theorem dX10_runs_109 : decode cX10_runs 109 = .ok (.iload 4, 2) := by decide +kernel
theorem dX10_runs_111 : decode cX10_runs 111 = .ok (.iconst 1, 1) := by decide +kernel
theorem dX10_runs_112 : decode cX10_runs 112 = .ok (.isub, 1) := by decide +kernel
theorem dX10_runs_113 : decode cX10_runs 113 = .ok (.iconst 1, 1) := by decide +kernel
theorem dX10_runs_114 : decode cX10_runs 114 = .ok (.aload_n 0, 1) := by decide +kernel
theorem dX10_runs_115 : decode cX10_runs 115 = .ok (.getfield 74, 3) := by decide +kernel
theorem dX10_runs_118 : decode cX10_runs 118 = .ok (.iload 4, 2) := by decide +kernel
theorem dX10_runs_120 : decode cX10_runs 120 = .ok (.iconst 1, 1) := by decide +kernel
theorem dX10_runs_121 : decode cX10_runs 121 = .ok (.isub, 1) := by decide +kernel
theorem dX10_runs_122 : decode cX10_runs 122 = .ok (.iaload, 1) := by decide +kernel
theorem dX10_runs_123 : decode cX10_runs 123 = .ok (.isub, 1) := by decide +kernel
theorem dX10_runs_124 : decode cX10_runs 124 = .ok (.iastore, 1) := by decide +kernel
theorem dX10_runs_125 : decode cX10_runs 125 = .ok (.goto 45, 3) := by decide +kernel
theorem dX10_runs_128 : decode cX10_runs 128 = .ok (.iload 4, 2) := by decide +kernel
theorem dX10_runs_130 : decode cX10_runs 130 = .ok (.iconst 1, 1) := by decide +kernel
theorem dX10_runs_131 : decode cX10_runs 131 = .ok (.isub, 1) := by decide +kernel
theorem dX10_runs_132 : decode cX10_runs 132 = .ok (.istore 4, 2) := by decide +kernel
theorem dX10_runs_134 : decode cX10_runs 134 = .ok (.aload_n 0, 1) := by decide +kernel
theorem dX10_runs_135 : decode cX10_runs 135 = .ok (.getfield 74, 3) := by decide +kernel
theorem dX10_runs_138 : decode cX10_runs 138 = .ok (.iload 4, 2) := by decide +kernel
theorem dX10_runs_140 : decode cX10_runs 140 = .ok (.iconst 1, 1) := by decide +kernel
theorem dX10_runs_141 : decode cX10_runs 141 = .ok (.isub, 1) := by decide +kernel
theorem dX10_runs_142 : decode cX10_runs 142 = .ok (.aload_n 0, 1) := by decide +kernel
theorem dX10_runs_143 : decode cX10_runs 143 = .ok (.aload_n 0, 1) := by decide +kernel
theorem dX10_runs_144 : decode cX10_runs 144 = .ok (.getfield 46, 3) := by decide +kernel
theorem dX10_runs_147 : decode cX10_runs 147 = .ok (.iload 5, 2) := by decide +kernel
theorem dX10_runs_149 : decode cX10_runs 149 = .ok (.iaload, 1) := by decide +kernel
theorem dX10_runs_150 : decode cX10_runs 150 = .ok (.aload_n 0, 1) := by decide +kernel
theorem dX10_runs_151 : decode cX10_runs 151 = .ok (.getfield 74, 3) := by decide +kernel
theorem dX10_runs_154 : decode cX10_runs 154 = .ok (.iload 4, 2) := by decide +kernel
theorem dX10_runs_156 : decode cX10_runs 156 = .ok (.iconst 1, 1) := by decide +kernel
theorem dX10_runs_157 : decode cX10_runs 157 = .ok (.isub, 1) := by decide +kernel
theorem dX10_runs_158 : decode cX10_runs 158 = .ok (.iaload, 1) := by decide +kernel
theorem dX10_runs_159 : decode cX10_runs 159 = .ok (.aload_n 0, 1) := by decide +kernel
theorem dX10_runs_160 : decode cX10_runs 160 = .ok (.getfield 74, 3) := by decide +kernel
theorem dX10_runs_163 : decode cX10_runs 163 = .ok (.iload 4, 2) := by decide +kernel
theorem dX10_runs_165 : decode cX10_runs 165 = .ok (.iaload, 1) := by decide +kernel
theorem dX10_runs_166 : decode cX10_runs 166 = .ok (.invokevirtual 299, 3) := by decide +kernel
theorem dX10_runs_169 : decode cX10_runs 169 = .ok (.iastore, 1) := by decide +kernel
theorem dX10_runs_170 : decode cX10_runs 170 = .ok (.iinc 5 1, 3) := by decide +kernel
theorem dX10_runs_173 : decode cX10_runs 173 = .ok (.goto (-161), 3) := by decide +kernel
theorem dX10_runs_176 : decode cX10_runs 176 = .ok (.aload_n 0, 1) := by decide +kernel
theorem dX10_runs_177 : decode cX10_runs 177 = .ok (.getfield 74, 3) := by decide +kernel
theorem dX10_runs_180 : decode cX10_runs 180 = .ok (.iconst 0, 1) := by decide +kernel
theorem dX10_runs_181 : decode cX10_runs 181 = .ok (.iaload, 1) := by decide +kernel
theorem dX10_runs_182 : decode cX10_runs 182 = .ok (.ireturn, 1) := by decide +kernel
def M_runs (s : ST) (x1 : Int32) (x2 : Int32) (x3 : Int32) : Option (Int32 × ST) := Lt ((((400 : Int32) * x1) + x2)) fun y1 => lpK3 (C := Int32 × ST) (fun (rec1 : Int32 → Int32 → ST → Option (Int32 × ST)) (a1 : Int32) (a2 : Int32) (s1 : ST) => if (((400 : Int32) * x1) + x3) ≤ a2 then (Lt (s1.1 21 0) fun y2 => some (y2, s1)) else (Gl s1 13 1200 a2 fun y3 => Lt (fun (a3 : Int32) (s2 : ST) => (rec1 a3 (a2 + (1 : Int32)) s2 : Option (Int32 × ST))) fun j1 => Lt (Gl s1 13 1200 a2 fun y4 => Lt (fun (a4 : Int32) => (Gs s1 21 420 a1 a4 fun s3 => Lt ((a1 + (1 : Int32))) fun y5 => j1 y5 s3 : Option (Int32 × ST))) fun j3 => if y4 = 0 then (Gl s1 14 1200 a2 fun y8 => j3 y8) else (Gl s1 14 1200 a2 fun y6 => Gl s1 20 8 y6 fun y7 => j3 y7) : Option (Int32 × ST)) fun j2 => if y3 = 0 then (j2) else (Gl s1 13 1200 a2 fun y9 => if y9 = (1 : Int32) then (j2) else (Gl s1 13 1200 a2 fun y10 => if y10 = (9 : Int32) then (Gl s1 21 420 (a1 - (1 : Int32)) fun y16 => Gs s1 21 420 (a1 - (1 : Int32)) ((1 : Int32) - y16) fun s5 => j1 a1 s5) else (Lt ((a1 - (1 : Int32))) fun y11 => Gl s1 13 1200 a2 fun y12 => Gl s1 21 420 (y11 - (1 : Int32)) fun y13 => Gl s1 21 420 y11 fun y14 => Bd (M_twoOf s1 y12 y13 y14) fun y15 => Gs s1 21 420 (y11 - (1 : Int32)) y15 fun s4 => j1 y11 s4))))) FU (0 : Int32) y1 s
set_option maxRecDepth 100000 in
set_option maxHeartbeats 4000000 in
theorem k_runs (l : Launch) (D : va_G) (cA : ClassId) (h : Nat → Nat) (s : ST) (x1 : Int32) (x2 : Int32) (x3 : Int32) {o : Int32 × ST} (hs : M_runs s x1 x2 x3 = some o) : MI l (KM D cA h) 2 yX10_runs cX10_runs 6 (some .int) s [.ref (h 0), .int x1, .int x2, .int x3] o.1 o.2 := by
  refine met_i (by decide) (Nat.le_of_ble_eq_true rfl) ?_
  intro p e st m args below meth c Q X RI
  unfold M_runs at hs
  refine g_iconst X dX10_runs_0 (q := 1) rfl li_i0 ?_
  refine g_istore X dX10_runs_1 (q := 3) rfl (Nat.le_of_ble_eq_true rfl) (lv' := [(4, .int (0 : Int32)), (0, .ref (h 0)), (1, .int x1), (2, .int x2), (3, .int x3)]) rfl ?_
  refine g_sipush X dX10_runs_3 (q := 6) rfl li_s400 ?_
  refine g_iload_n X dX10_runs_6 (q := 7) rfl 2 rfl ?_
  refine g_imul X dX10_runs_7 (q := 8) rfl ?_
  refine g_iload_n X dX10_runs_8 (q := 9) rfl 3 rfl ?_
  refine g_iadd X dX10_runs_9 (q := 10) rfl ?_
  refine nmI hs (fun y1 hs => ?_)
  refine g_istore X dX10_runs_10 (q := 12) rfl (Nat.le_of_ble_eq_true rfl) (lv' := [(5, .int y1), (4, .int (0 : Int32)), (0, .ref (h 0)), (1, .int x1), (2, .int x2), (3, .int x3)]) rfl ?_
  refine wg_sub [2, 3, 5, 1, 0] rfl (lpW3 (fun (a1 : Int32) (a2 : Int32) (s1 : ST) => WG (KM D cA h) p l e (rmD 2) st m args below meth c Q 6 s1 12 [(0, .ref (h 0)), (1, .int x1), (3, .int x3), (4, .int a1), (5, .int a2)] []) (fun rec1 ih1 a1 a2 s1 hs => ?_) _ _ _ _ hs)
  refine g_iload X dX10_runs_12 (q := 14) rfl 4 rfl ?_
  refine g_sipush X dX10_runs_14 (q := 17) rfl li_s400 ?_
  refine g_iload_n X dX10_runs_17 (q := 18) rfl 1 rfl ?_
  refine g_imul X dX10_runs_18 (q := 19) rfl ?_
  refine g_iload_n X dX10_runs_19 (q := 20) rfl 2 rfl ?_
  refine g_iadd X dX10_runs_20 (q := 21) rfl ?_
  refine g_icmp_ge X dX10_runs_21 (q := 24) rfl (tgt := 176) (by decide) hs ?_ ?_
  · intro hs
    refine g_aload_n X dX10_runs_176 (q := 177) rfl 0 rfl ?_
    refine mg_45 X dX10_runs_177 (q := 180) rfl ?_
    refine g_iconst X dX10_runs_180 (q := 181) rfl li_i0 ?_
    refine mk_21 X dX10_runs_181 (q := 182) rfl (j := 0) (by decide) (by decide) hs (fun y2 hs => ?_)
    exact RI _ 182 _ _ _ (rU1 hs) rfl (rV1 hs) dX10_runs_182
  · intro hs
    refine g_aload_n X dX10_runs_24 (q := 25) rfl 0 rfl ?_
    refine mg_23 X dX10_runs_25 (q := 28) rfl ?_
    refine g_iload X dX10_runs_28 (q := 30) rfl 4 rfl ?_
    refine ma_13 X dX10_runs_30 (q := 31) rfl hs (fun y3 hs => ?_)
    refine jnW2 (fun (a3 : Int32) (s2 : ST) => WG (KM D cA h) p l e (rmD 2) st m args below meth c Q 6 s2 170 [(0, .ref (h 0)), (1, .int x1), (3, .int x3), (4, .int a3), (5, .int a2)] []) hs (fun a3 s2 hs => ?_) (fun j1 ih2 hs => ?_)
    · refine g_iinc X dX10_runs_170 (q := 173) rfl 4 rfl (v := (a2 + (1 : Int32))) (congrArg (HAdd.hAdd a2) li_i1) (Nat.le_of_ble_eq_true rfl) (lv' := [(5, .int (a2 + (1 : Int32))), (0, .ref (h 0)), (1, .int x1), (3, .int x3), (4, .int a3)]) rfl ?_
      refine g_goto X dX10_runs_173 (tgt := 12) (by decide) ?_
      exact wg_sub [1, 2, 3, 4, 0] rfl (ih1 _ _ _ hs)
    refine jnW0 (WG (KM D cA h) p l e (rmD 2) st m args below meth c Q 6 s1 45 [(0, .ref (h 0)), (1, .int x1), (3, .int x3), (4, .int a1), (5, .int a2)] []) hs (fun  hs => ?_) (fun j2 ih3 hs => ?_)
    · refine g_aload_n X dX10_runs_45 (q := 46) rfl 0 rfl ?_
      refine mg_45 X dX10_runs_46 (q := 49) rfl ?_
      refine g_iload X dX10_runs_49 (q := 51) rfl 3 rfl ?_
      refine g_aload_n X dX10_runs_51 (q := 52) rfl 0 rfl ?_
      refine mg_23 X dX10_runs_52 (q := 55) rfl ?_
      refine g_iload X dX10_runs_55 (q := 57) rfl 4 rfl ?_
      refine ma_13 X dX10_runs_57 (q := 58) rfl hs (fun y4 hs => ?_)
      refine jnW1 (fun (a4 : Int32) => WG (KM D cA h) p l e (rmD 2) st m args below meth c Q 6 s1 83 [(0, .ref (h 0)), (1, .int x1), (3, .int x3), (4, .int a1), (5, .int a2)] [.int a4, .int a1, .ref (h 21)]) hs (fun a4 hs => ?_) (fun j3 ih4 hs => ?_)
      · refine ms_21 X dX10_runs_83 (q := 84) rfl hs (fun s3 hs => ?_)
        refine g_iload X dX10_runs_84 (q := 86) rfl 3 rfl ?_
        refine g_iconst X dX10_runs_86 (q := 87) rfl li_i1 ?_
        refine g_iadd X dX10_runs_87 (q := 88) rfl ?_
        refine nmI hs (fun y5 hs => ?_)
        refine g_istore X dX10_runs_88 (q := 90) rfl (Nat.le_of_ble_eq_true rfl) (lv' := [(4, .int y5), (0, .ref (h 0)), (1, .int x1), (3, .int x3), (5, .int a2)]) rfl ?_
        refine g_goto X dX10_runs_90 (tgt := 170) (by decide) ?_
        exact wg_sub [1, 2, 3, 0, 4] rfl (ih2 _ _ hs)
      refine g_if_ne X dX10_runs_58 (q := 61) rfl (tgt := 71) (by decide) hs ?_ ?_
      · intro hs
        refine g_aload_n X dX10_runs_71 (q := 72) rfl 0 rfl ?_
        refine mg_44 X dX10_runs_72 (q := 75) rfl ?_
        refine g_aload_n X dX10_runs_75 (q := 76) rfl 0 rfl ?_
        refine mg_24 X dX10_runs_76 (q := 79) rfl ?_
        refine g_iload X dX10_runs_79 (q := 81) rfl 4 rfl ?_
        refine ma_14 X dX10_runs_81 (q := 82) rfl hs (fun y6 hs => ?_)
        refine ma_20 X dX10_runs_82 (q := 83) rfl hs (fun y7 hs => ?_)
        exact wg_sub [0, 1, 2, 3, 4] rfl (ih4 _ hs)
      · intro hs
        refine g_aload_n X dX10_runs_61 (q := 62) rfl 0 rfl ?_
        refine mg_24 X dX10_runs_62 (q := 65) rfl ?_
        refine g_iload X dX10_runs_65 (q := 67) rfl 4 rfl ?_
        refine ma_14 X dX10_runs_67 (q := 68) rfl hs (fun y8 hs => ?_)
        refine g_goto X dX10_runs_68 (tgt := 83) (by decide) ?_
        exact wg_sub [0, 1, 2, 3, 4] rfl (ih4 _ hs)
    refine g_if_eq X dX10_runs_31 (q := 34) rfl (tgt := 45) (by decide) hs ?_ ?_
    · intro hs
      exact wg_sub [0, 1, 2, 3, 4] rfl (ih3 hs)
    · intro hs
      refine g_aload_n X dX10_runs_34 (q := 35) rfl 0 rfl ?_
      refine mg_23 X dX10_runs_35 (q := 38) rfl ?_
      refine g_iload X dX10_runs_38 (q := 40) rfl 4 rfl ?_
      refine ma_13 X dX10_runs_40 (q := 41) rfl hs (fun y9 hs => ?_)
      refine g_iconst X dX10_runs_41 (q := 42) rfl li_i1 ?_
      refine g_icmp_ne X dX10_runs_42 (q := 45) rfl (tgt := 93) (by decide) hs ?_ ?_
      · intro hs
        refine g_aload_n X dX10_runs_93 (q := 94) rfl 0 rfl ?_
        refine mg_23 X dX10_runs_94 (q := 97) rfl ?_
        refine g_iload X dX10_runs_97 (q := 99) rfl 4 rfl ?_
        refine ma_13 X dX10_runs_99 (q := 100) rfl hs (fun y10 hs => ?_)
        refine g_bipush X dX10_runs_100 (q := 102) rfl li_b9 ?_
        refine g_icmp_ne X dX10_runs_102 (q := 105) rfl (tgt := 128) (by decide) hs ?_ ?_
        · intro hs
          refine g_iload X dX10_runs_128 (q := 130) rfl 3 rfl ?_
          refine g_iconst X dX10_runs_130 (q := 131) rfl li_i1 ?_
          refine g_isub X dX10_runs_131 (q := 132) rfl ?_
          refine nmI hs (fun y11 hs => ?_)
          refine g_istore X dX10_runs_132 (q := 134) rfl (Nat.le_of_ble_eq_true rfl) (lv' := [(4, .int y11), (0, .ref (h 0)), (1, .int x1), (3, .int x3), (5, .int a2)]) rfl ?_
          refine g_aload_n X dX10_runs_134 (q := 135) rfl 1 rfl ?_
          refine mg_45 X dX10_runs_135 (q := 138) rfl ?_
          refine g_iload X dX10_runs_138 (q := 140) rfl 0 rfl ?_
          refine g_iconst X dX10_runs_140 (q := 141) rfl li_i1 ?_
          refine g_isub X dX10_runs_141 (q := 142) rfl ?_
          refine g_aload_n X dX10_runs_142 (q := 143) rfl 1 rfl ?_
          refine g_aload_n X dX10_runs_143 (q := 144) rfl 1 rfl ?_
          refine mg_23 X dX10_runs_144 (q := 147) rfl ?_
          refine g_iload X dX10_runs_147 (q := 149) rfl 4 rfl ?_
          refine ma_13 X dX10_runs_149 (q := 150) rfl hs (fun y12 hs => ?_)
          refine g_aload_n X dX10_runs_150 (q := 151) rfl 1 rfl ?_
          refine mg_45 X dX10_runs_151 (q := 154) rfl ?_
          refine g_iload X dX10_runs_154 (q := 156) rfl 0 rfl ?_
          refine g_iconst X dX10_runs_156 (q := 157) rfl li_i1 ?_
          refine g_isub X dX10_runs_157 (q := 158) rfl ?_
          refine ma_21 X dX10_runs_158 (q := 159) rfl hs (fun y13 hs => ?_)
          refine g_aload_n X dX10_runs_159 (q := 160) rfl 1 rfl ?_
          refine mg_45 X dX10_runs_160 (q := 163) rfl ?_
          refine g_iload X dX10_runs_163 (q := 165) rfl 0 rfl ?_
          refine ma_21 X dX10_runs_165 (q := 166) rfl hs (fun y14 hs => ?_)
          refine v_twoOf X dX10_runs_166 (q := 169) rfl (Nat.le_of_ble_eq_true rfl) (Nat.le_of_ble_eq_true rfl) (Nat.le_of_ble_eq_true rfl) hs (fun y15 hs => ?_)
          refine ms_21 X dX10_runs_169 (q := 170) rfl hs (fun s4 hs => ?_)
          exact wg_sub [1, 2, 3, 0, 4] rfl (ih2 _ _ hs)
        · intro hs
          refine g_aload_n X dX10_runs_105 (q := 106) rfl 0 rfl ?_
          refine mg_45 X dX10_runs_106 (q := 109) rfl ?_
          refine g_iload X dX10_runs_109 (q := 111) rfl 3 rfl ?_
          refine g_iconst X dX10_runs_111 (q := 112) rfl li_i1 ?_
          refine g_isub X dX10_runs_112 (q := 113) rfl ?_
          refine g_iconst X dX10_runs_113 (q := 114) rfl li_i1 ?_
          refine g_aload_n X dX10_runs_114 (q := 115) rfl 0 rfl ?_
          refine mg_45 X dX10_runs_115 (q := 118) rfl ?_
          refine g_iload X dX10_runs_118 (q := 120) rfl 3 rfl ?_
          refine g_iconst X dX10_runs_120 (q := 121) rfl li_i1 ?_
          refine g_isub X dX10_runs_121 (q := 122) rfl ?_
          refine ma_21 X dX10_runs_122 (q := 123) rfl hs (fun y16 hs => ?_)
          refine g_isub X dX10_runs_123 (q := 124) rfl ?_
          refine ms_21 X dX10_runs_124 (q := 125) rfl hs (fun s5 hs => ?_)
          refine g_goto X dX10_runs_125 (tgt := 170) (by decide) ?_
          exact wg_sub [0, 1, 2, 3, 4] rfl (ih2 _ _ hs)
      · intro hs
        exact wg_sub [0, 1, 2, 3, 4] rfl (ih3 hs)
theorem v_runs {p : Program} {l : Launch} {e : Env} {st : State} {m : MethodId} {args : Array Value} {below : List Frame} {meth : Method} {c : Code} {Q : State → Prop} {nL : Nat} {cc : ByteArray} {s : ST} {pc q : Nat} {lv : List (Nat × Value)} {rest : List Value} {D : va_G} {cA : ClassId} {h : Nat → Nat} {d0 : Nat} (X : Cx (KM D cA h) p st m args meth c cc nL RX10) {x1 : Int32} {x2 : Int32} {x3 : Int32} (d : decode cc pc = .ok (.invokevirtual 302, 3)) (hq : pc + 3 = q) (hd1 : 2 + 1 ≤ d0) (hd2 : 8 + (6 + 11) + 100 * 2 ≤ 100 * d0) (hr : (rest.map fun v => v.category).sum ≤ 8) {B : Type} {f : Int32 × ST → Option B} {r : B} (hs : Bd (M_runs s x1 x2 x3) f = some r) (k : ∀ y, f y = some r → WG (KM D cA h) p l e (rmD d0) st m args below meth c Q nL y.2 q lv (.int y.1 :: rest)) : WG (KM D cA h) p l e (rmD d0) st m args below meth c Q nL s pc lv (.int x3 :: .int x2 :: .int x1 :: .ref (h 0) :: rest) := by
  obtain ⟨v, hv, hs⟩ := Bd_e hs
  exact cV_I X 0 (n := 3) (k_runs l D cA h s x1 x2 x3 hv) gv_X10_runs ⟨hd1, hd2⟩ ⟨by decide, by decide, by decide +kernel⟩ (As := [.int x1, .int x2, .int x3]) rfl hr (Nat.le_of_ble_eq_true rfl) (fs := mF h (s.1 0)) rfl rfl rfl d hq (k _ hs)
theorem dX10_lineOf_0 : decode cX10_lineOf 0 = .ok (.iconst 0, 1) := by decide +kernel
theorem dX10_lineOf_1 : decode cX10_lineOf 1 = .ok (.istore_n 2, 1) := by decide +kernel
theorem dX10_lineOf_2 : decode cX10_lineOf 2 = .ok (.iload_n 2, 1) := by decide +kernel
theorem dX10_lineOf_3 : decode cX10_lineOf 3 = .ok (.aload_n 0, 1) := by decide +kernel
theorem dX10_lineOf_4 : decode cX10_lineOf 4 = .ok (.getfield 31, 3) := by decide +kernel
theorem dX10_lineOf_7 : decode cX10_lineOf 7 = .ok (.iconst 1, 1) := by decide +kernel
theorem dX10_lineOf_8 : decode cX10_lineOf 8 = .ok (.iaload, 1) := by decide +kernel
theorem dX10_lineOf_9 : decode cX10_lineOf 9 = .ok (.if_icmp .ge 61, 3) := by decide +kernel
theorem dX10_lineOf_12 : decode cX10_lineOf 12 = .ok (.bipush 16, 2) := by decide +kernel
theorem dX10_lineOf_14 : decode cX10_lineOf 14 = .ok (.iload_n 2, 1) := by decide +kernel
theorem dX10_lineOf_15 : decode cX10_lineOf 15 = .ok (.iadd, 1) := by decide +kernel
theorem dX10_lineOf_16 : decode cX10_lineOf 16 = .ok (.istore_n 3, 1) := by decide +kernel
theorem dX10_lineOf_17 : decode cX10_lineOf 17 = .ok (.aload_n 0, 1) := by decide +kernel
theorem dX10_lineOf_18 : decode cX10_lineOf 18 = .ok (.getfield 34, 3) := by decide +kernel
theorem dX10_lineOf_21 : decode cX10_lineOf 21 = .ok (.iload_n 3, 1) := by decide +kernel
theorem dX10_lineOf_22 : decode cX10_lineOf 22 = .ok (.iaload, 1) := by decide +kernel
theorem dX10_lineOf_23 : decode cX10_lineOf 23 = .ok (.iload_n 1, 1) := by decide +kernel
theorem dX10_lineOf_24 : decode cX10_lineOf 24 = .ok (.if_icmp .ne 40, 3) := by decide +kernel
theorem dX10_lineOf_27 : decode cX10_lineOf 27 = .ok (.aload_n 0, 1) := by decide +kernel
theorem dX10_lineOf_28 : decode cX10_lineOf 28 = .ok (.getfield 40, 3) := by decide +kernel
theorem dX10_lineOf_31 : decode cX10_lineOf 31 = .ok (.iload_n 3, 1) := by decide +kernel
theorem dX10_lineOf_32 : decode cX10_lineOf 32 = .ok (.iaload, 1) := by decide +kernel
theorem dX10_lineOf_33 : decode cX10_lineOf 33 = .ok (.aload_n 0, 1) := by decide +kernel
theorem dX10_lineOf_34 : decode cX10_lineOf 34 = .ok (.getfield 43, 3) := by decide +kernel
theorem dX10_lineOf_37 : decode cX10_lineOf 37 = .ok (.iload_n 3, 1) := by decide +kernel
theorem dX10_lineOf_38 : decode cX10_lineOf 38 = .ok (.iaload, 1) := by decide +kernel
theorem dX10_lineOf_39 : decode cX10_lineOf 39 = .ok (.if_icmp .eq 23, 3) := by decide +kernel
theorem dX10_lineOf_42 : decode cX10_lineOf 42 = .ok (.aload_n 0, 1) := by decide +kernel
theorem dX10_lineOf_43 : decode cX10_lineOf 43 = .ok (.iconst 1, 1) := by decide +kernel
theorem dX10_lineOf_44 : decode cX10_lineOf 44 = .ok (.aload_n 0, 1) := by decide +kernel
theorem dX10_lineOf_45 : decode cX10_lineOf 45 = .ok (.getfield 40, 3) := by decide +kernel
theorem dX10_lineOf_48 : decode cX10_lineOf 48 = .ok (.iload_n 3, 1) := by decide +kernel
theorem dX10_lineOf_49 : decode cX10_lineOf 49 = .ok (.iaload, 1) := by decide +kernel
theorem dX10_lineOf_50 : decode cX10_lineOf 50 = .ok (.aload_n 0, 1) := by decide +kernel
theorem dX10_lineOf_51 : decode cX10_lineOf 51 = .ok (.getfield 43, 3) := by decide +kernel
theorem dX10_lineOf_54 : decode cX10_lineOf 54 = .ok (.iload_n 3, 1) := by decide +kernel
theorem dX10_lineOf_55 : decode cX10_lineOf 55 = .ok (.iaload, 1) := by decide +kernel
theorem dX10_lineOf_56 : decode cX10_lineOf 56 = .ok (.invokevirtual 302, 3) := by decide +kernel
theorem dX10_lineOf_59 : decode cX10_lineOf 59 = .ok (.ifCond .eq 5, 3) := by decide +kernel
theorem dX10_lineOf_62 : decode cX10_lineOf 62 = .ok (.iload_n 3, 1) := by decide +kernel
theorem dX10_lineOf_63 : decode cX10_lineOf 63 = .ok (.ireturn, 1) := by decide +kernel
theorem dX10_lineOf_64 : decode cX10_lineOf 64 = .ok (.iinc 2 1, 3) := by decide +kernel
theorem dX10_lineOf_67 : decode cX10_lineOf 67 = .ok (.goto (-65), 3) := by decide +kernel
theorem dX10_lineOf_70 : decode cX10_lineOf 70 = .ok (.iconst (-1), 1) := by decide +kernel
theorem dX10_lineOf_71 : decode cX10_lineOf 71 = .ok (.ireturn, 1) := by decide +kernel
def M_lineOf (s : ST) (x1 : Int32) : Option (Int32 × ST) := lpK2 (C := Int32 × ST) (fun (rec1 : Int32 → ST → Option (Int32 × ST)) (a1 : Int32) (s1 : ST) => Lt (s1.1 8 1) fun y1 => if y1 ≤ a1 then (some ((-1 : Int32), s1)) else (Lt (((16 : Int32) + a1)) fun y2 => Gl s1 9 48 y2 fun y3 => Lt (fun (s2 : ST) => (rec1 (a1 + (1 : Int32)) s2 : Option (Int32 × ST))) fun j1 => if y3 = x1 then (Gl s1 11 48 y2 fun y4 => Gl s1 12 48 y2 fun y5 => if y4 = y5 then (some (y2, s1)) else (Gl s1 11 48 y2 fun y6 => Gl s1 12 48 y2 fun y7 => Bd (M_runs s1 (1 : Int32) y6 y7) fun y8 => if y8.1 = 0 then (j1 y8.2) else (some (y2, y8.2)))) else (j1 s1))) FU (0 : Int32) s
set_option maxRecDepth 100000 in
set_option maxHeartbeats 4000000 in
theorem k_lineOf (l : Launch) (D : va_G) (cA : ClassId) (h : Nat → Nat) (s : ST) (x1 : Int32) {o : Int32 × ST} (hs : M_lineOf s x1 = some o) : MI l (KM D cA h) 3 yX10_lineOf cX10_lineOf 4 (some .int) s [.ref (h 0), .int x1] o.1 o.2 := by
  refine met_i (by decide) (Nat.le_of_ble_eq_true rfl) ?_
  intro p e st m args below meth c Q X RI
  unfold M_lineOf at hs
  refine g_iconst X dX10_lineOf_0 (q := 1) rfl li_i0 ?_
  refine g_istore_n X dX10_lineOf_1 (q := 2) rfl (Nat.le_of_ble_eq_true rfl) (lv' := [(2, .int (0 : Int32)), (0, .ref (h 0)), (1, .int x1)]) rfl ?_
  refine wg_sub [1, 2, 0] rfl (lpW2 (fun (a1 : Int32) (s1 : ST) => WG (KM D cA h) p l e (rmD 3) st m args below meth c Q 4 s1 2 [(0, .ref (h 0)), (1, .int x1), (2, .int a1)] []) (fun rec1 ih1 a1 s1 hs => ?_) _ _ _ hs)
  refine g_iload_n X dX10_lineOf_2 (q := 3) rfl 2 rfl ?_
  refine g_aload_n X dX10_lineOf_3 (q := 4) rfl 0 rfl ?_
  refine mg_18 X dX10_lineOf_4 (q := 7) rfl ?_
  refine g_iconst X dX10_lineOf_7 (q := 8) rfl li_i1 ?_
  refine mk_8 X dX10_lineOf_8 (q := 9) rfl (j := 1) (by decide) (by decide) hs (fun y1 hs => ?_)
  refine g_icmp_ge X dX10_lineOf_9 (q := 12) rfl (tgt := 70) (by decide) hs ?_ ?_
  · intro hs
    refine g_iconst X dX10_lineOf_70 (q := 71) rfl li_im1 ?_
    exact RI _ 71 _ _ _ (rU1 hs) rfl (rV1 hs) dX10_lineOf_71
  · intro hs
    refine g_bipush X dX10_lineOf_12 (q := 14) rfl li_b16 ?_
    refine g_iload_n X dX10_lineOf_14 (q := 15) rfl 2 rfl ?_
    refine g_iadd X dX10_lineOf_15 (q := 16) rfl ?_
    refine nmI hs (fun y2 hs => ?_)
    refine g_istore_n X dX10_lineOf_16 (q := 17) rfl (Nat.le_of_ble_eq_true rfl) (lv' := [(3, .int y2), (0, .ref (h 0)), (1, .int x1), (2, .int a1)]) rfl ?_
    refine g_aload_n X dX10_lineOf_17 (q := 18) rfl 1 rfl ?_
    refine mg_19 X dX10_lineOf_18 (q := 21) rfl ?_
    refine g_iload_n X dX10_lineOf_21 (q := 22) rfl 0 rfl ?_
    refine ma_9 X dX10_lineOf_22 (q := 23) rfl hs (fun y3 hs => ?_)
    refine g_iload_n X dX10_lineOf_23 (q := 24) rfl 2 rfl ?_
    refine jnW1 (fun (s2 : ST) => WG (KM D cA h) p l e (rmD 3) st m args below meth c Q 4 s2 64 [(0, .ref (h 0)), (1, .int x1), (2, .int a1)] []) hs (fun s2 hs => ?_) (fun j1 ih2 hs => ?_)
    · refine g_iinc X dX10_lineOf_64 (q := 67) rfl 2 rfl (v := (a1 + (1 : Int32))) (congrArg (HAdd.hAdd a1) li_i1) (Nat.le_of_ble_eq_true rfl) (lv' := [(2, .int (a1 + (1 : Int32))), (0, .ref (h 0)), (1, .int x1)]) rfl ?_
      refine g_goto X dX10_lineOf_67 (tgt := 2) (by decide) ?_
      exact wg_sub [1, 2, 0] rfl (ih1 _ _ hs)
    refine g_icmp_ne X dX10_lineOf_24 (q := 27) rfl (tgt := 64) (by decide) hs ?_ ?_
    · intro hs
      exact wg_sub [1, 2, 3] rfl (ih2 _ hs)
    · intro hs
      refine g_aload_n X dX10_lineOf_27 (q := 28) rfl 1 rfl ?_
      refine mg_21 X dX10_lineOf_28 (q := 31) rfl ?_
      refine g_iload_n X dX10_lineOf_31 (q := 32) rfl 0 rfl ?_
      refine ma_11 X dX10_lineOf_32 (q := 33) rfl hs (fun y4 hs => ?_)
      refine g_aload_n X dX10_lineOf_33 (q := 34) rfl 1 rfl ?_
      refine mg_22 X dX10_lineOf_34 (q := 37) rfl ?_
      refine g_iload_n X dX10_lineOf_37 (q := 38) rfl 0 rfl ?_
      refine ma_12 X dX10_lineOf_38 (q := 39) rfl hs (fun y5 hs => ?_)
      refine g_icmp_eq X dX10_lineOf_39 (q := 42) rfl (tgt := 62) (by decide) hs ?_ ?_
      · intro hs
        refine g_iload_n X dX10_lineOf_62 (q := 63) rfl 0 rfl ?_
        exact RI _ 63 _ _ _ (rU1 hs) rfl (rV1 hs) dX10_lineOf_63
      · intro hs
        refine g_aload_n X dX10_lineOf_42 (q := 43) rfl 1 rfl ?_
        refine g_iconst X dX10_lineOf_43 (q := 44) rfl li_i1 ?_
        refine g_aload_n X dX10_lineOf_44 (q := 45) rfl 1 rfl ?_
        refine mg_21 X dX10_lineOf_45 (q := 48) rfl ?_
        refine g_iload_n X dX10_lineOf_48 (q := 49) rfl 0 rfl ?_
        refine ma_11 X dX10_lineOf_49 (q := 50) rfl hs (fun y6 hs => ?_)
        refine g_aload_n X dX10_lineOf_50 (q := 51) rfl 1 rfl ?_
        refine mg_22 X dX10_lineOf_51 (q := 54) rfl ?_
        refine g_iload_n X dX10_lineOf_54 (q := 55) rfl 0 rfl ?_
        refine ma_12 X dX10_lineOf_55 (q := 56) rfl hs (fun y7 hs => ?_)
        refine v_runs X dX10_lineOf_56 (q := 59) rfl (Nat.le_of_ble_eq_true rfl) (Nat.le_of_ble_eq_true rfl) (Nat.le_of_ble_eq_true rfl) hs (fun y8 hs => ?_)
        refine g_if_eq X dX10_lineOf_59 (q := 62) rfl (tgt := 64) (by decide) hs ?_ ?_
        · intro hs
          exact wg_sub [1, 2, 3] rfl (ih2 _ hs)
        · intro hs
          refine g_iload_n X dX10_lineOf_62 (q := 63) rfl 0 rfl ?_
          exact RI _ 63 _ _ _ (rU1 hs) rfl (rV1 hs) dX10_lineOf_63
theorem v_lineOf {p : Program} {l : Launch} {e : Env} {st : State} {m : MethodId} {args : Array Value} {below : List Frame} {meth : Method} {c : Code} {Q : State → Prop} {nL : Nat} {cc : ByteArray} {s : ST} {pc q : Nat} {lv : List (Nat × Value)} {rest : List Value} {D : va_G} {cA : ClassId} {h : Nat → Nat} {d0 : Nat} (X : Cx (KM D cA h) p st m args meth c cc nL RX10) {x1 : Int32} (d : decode cc pc = .ok (.invokevirtual 324, 3)) (hq : pc + 3 = q) (hd1 : 3 + 1 ≤ d0) (hd2 : 8 + (4 + 11) + 100 * 3 ≤ 100 * d0) (hr : (rest.map fun v => v.category).sum ≤ 8) {B : Type} {f : Int32 × ST → Option B} {r : B} (hs : Bd (M_lineOf s x1) f = some r) (k : ∀ y, f y = some r → WG (KM D cA h) p l e (rmD d0) st m args below meth c Q nL y.2 q lv (.int y.1 :: rest)) : WG (KM D cA h) p l e (rmD d0) st m args below meth c Q nL s pc lv (.int x1 :: .ref (h 0) :: rest) := by
  obtain ⟨v, hv, hs⟩ := Bd_e hs
  exact cV_I X 0 (n := 1) (k_lineOf l D cA h s x1 hv) gv_X10_lineOf ⟨hd1, hd2⟩ ⟨by decide, by decide, by decide +kernel⟩ (As := [.int x1]) rfl hr (Nat.le_of_ble_eq_true rfl) (fs := mF h (s.1 0)) rfl rfl rfl d hq (k _ hs)
theorem dX10_cellBy_0 : decode cX10_cellBy 0 = .ok (.iload_n 1, 1) := by decide +kernel
theorem dX10_cellBy_1 : decode cX10_cellBy 1 = .ok (.bipush 8, 2) := by decide +kernel
theorem dX10_cellBy_3 : decode cX10_cellBy 3 = .ok (.irem, 1) := by decide +kernel
theorem dX10_cellBy_4 : decode cX10_cellBy 4 = .ok (.iload_n 2, 1) := by decide +kernel
theorem dX10_cellBy_5 : decode cX10_cellBy 5 = .ok (.iconst 1, 1) := by decide +kernel
theorem dX10_cellBy_6 : decode cX10_cellBy 6 = .ok (.if_icmp .ne 7, 3) := by decide +kernel
theorem dX10_cellBy_9 : decode cX10_cellBy 9 = .ok (.iconst 1, 1) := by decide +kernel
theorem dX10_cellBy_10 : decode cX10_cellBy 10 = .ok (.goto 13, 3) := by decide +kernel
theorem dX10_cellBy_13 : decode cX10_cellBy 13 = .ok (.iload_n 2, 1) := by decide +kernel
theorem dX10_cellBy_14 : decode cX10_cellBy 14 = .ok (.iconst 3, 1) := by decide +kernel
theorem dX10_cellBy_15 : decode cX10_cellBy 15 = .ok (.if_icmp .ne 7, 3) := by decide +kernel
theorem dX10_cellBy_18 : decode cX10_cellBy 18 = .ok (.iconst (-1), 1) := by decide +kernel
theorem dX10_cellBy_19 : decode cX10_cellBy 19 = .ok (.goto 4, 3) := by decide +kernel
theorem dX10_cellBy_22 : decode cX10_cellBy 22 = .ok (.iconst 0, 1) := by decide +kernel
theorem dX10_cellBy_23 : decode cX10_cellBy 23 = .ok (.iadd, 1) := by decide +kernel
theorem dX10_cellBy_24 : decode cX10_cellBy 24 = .ok (.istore_n 3, 1) := by decide +kernel
theorem dX10_cellBy_25 : decode cX10_cellBy 25 = .ok (.iload_n 1, 1) := by decide +kernel
theorem dX10_cellBy_26 : decode cX10_cellBy 26 = .ok (.bipush 8, 2) := by decide +kernel
theorem dX10_cellBy_28 : decode cX10_cellBy 28 = .ok (.idiv, 1) := by decide +kernel
theorem dX10_cellBy_29 : decode cX10_cellBy 29 = .ok (.iload_n 2, 1) := by decide +kernel
theorem dX10_cellBy_30 : decode cX10_cellBy 30 = .ok (.iconst 2, 1) := by decide +kernel
theorem dX10_cellBy_31 : decode cX10_cellBy 31 = .ok (.if_icmp .ne 7, 3) := by decide +kernel
theorem dX10_cellBy_34 : decode cX10_cellBy 34 = .ok (.iconst 1, 1) := by decide +kernel
theorem dX10_cellBy_35 : decode cX10_cellBy 35 = .ok (.goto 12, 3) := by decide +kernel
theorem dX10_cellBy_38 : decode cX10_cellBy 38 = .ok (.iload_n 2, 1) := by decide +kernel
theorem dX10_cellBy_39 : decode cX10_cellBy 39 = .ok (.ifCond .ne 7, 3) := by decide +kernel
theorem dX10_cellBy_42 : decode cX10_cellBy 42 = .ok (.iconst (-1), 1) := by decide +kernel
theorem dX10_cellBy_43 : decode cX10_cellBy 43 = .ok (.goto 4, 3) := by decide +kernel
theorem dX10_cellBy_46 : decode cX10_cellBy 46 = .ok (.iconst 0, 1) := by decide +kernel
theorem dX10_cellBy_47 : decode cX10_cellBy 47 = .ok (.iadd, 1) := by decide +kernel
theorem dX10_cellBy_48 : decode cX10_cellBy 48 = .ok (.istore 4, 2) := by decide +kernel
theorem dX10_cellBy_50 : decode cX10_cellBy 50 = .ok (.aload_n 0, 1) := by decide +kernel
theorem dX10_cellBy_51 : decode cX10_cellBy 51 = .ok (.iload_n 3, 1) := by decide +kernel
theorem dX10_cellBy_52 : decode cX10_cellBy 52 = .ok (.iconst 0, 1) := by decide +kernel
theorem dX10_cellBy_53 : decode cX10_cellBy 53 = .ok (.aload_n 0, 1) := by decide +kernel
theorem dX10_cellBy_54 : decode cX10_cellBy 54 = .ok (.invokevirtual 104, 3) := by decide +kernel
theorem dX10_cellBy_57 : decode cX10_cellBy 57 = .ok (.iconst 1, 1) := by decide +kernel
theorem dX10_cellBy_58 : decode cX10_cellBy 58 = .ok (.isub, 1) := by decide +kernel
theorem dX10_cellBy_59 : decode cX10_cellBy 59 = .ok (.invokevirtual 111, 3) := by decide +kernel
theorem dX10_cellBy_62 : decode cX10_cellBy 62 = .ok (.ifCond .eq 29, 3) := by decide +kernel
theorem dX10_cellBy_65 : decode cX10_cellBy 65 = .ok (.aload_n 0, 1) := by decide +kernel
theorem dX10_cellBy_66 : decode cX10_cellBy 66 = .ok (.iload 4, 2) := by decide +kernel
theorem dX10_cellBy_68 : decode cX10_cellBy 68 = .ok (.iconst 0, 1) := by decide +kernel
theorem dX10_cellBy_69 : decode cX10_cellBy 69 = .ok (.aload_n 0, 1) := by decide +kernel
theorem dX10_cellBy_70 : decode cX10_cellBy 70 = .ok (.invokevirtual 108, 3) := by decide +kernel
theorem dX10_cellBy_73 : decode cX10_cellBy 73 = .ok (.iconst 1, 1) := by decide +kernel
theorem dX10_cellBy_74 : decode cX10_cellBy 74 = .ok (.isub, 1) := by decide +kernel
theorem dX10_cellBy_75 : decode cX10_cellBy 75 = .ok (.invokevirtual 111, 3) := by decide +kernel
theorem dX10_cellBy_78 : decode cX10_cellBy 78 = .ok (.ifCond .eq 13, 3) := by decide +kernel
theorem dX10_cellBy_81 : decode cX10_cellBy 81 = .ok (.bipush 8, 2) := by decide +kernel
theorem dX10_cellBy_83 : decode cX10_cellBy 83 = .ok (.iload 4, 2) := by decide +kernel
theorem dX10_cellBy_85 : decode cX10_cellBy 85 = .ok (.imul, 1) := by decide +kernel
theorem dX10_cellBy_86 : decode cX10_cellBy 86 = .ok (.iload_n 3, 1) := by decide +kernel
theorem dX10_cellBy_87 : decode cX10_cellBy 87 = .ok (.iadd, 1) := by decide +kernel
theorem dX10_cellBy_88 : decode cX10_cellBy 88 = .ok (.goto 4, 3) := by decide +kernel
theorem dX10_cellBy_91 : decode cX10_cellBy 91 = .ok (.iconst (-1), 1) := by decide +kernel
theorem dX10_cellBy_92 : decode cX10_cellBy 92 = .ok (.ireturn, 1) := by decide +kernel
def M_cellBy (s : ST) (x1 : Int32) (x2 : Int32) : Int32 := Lt (fun (a1 : Int32) => (Lt (((irm x1 (8 : Int32)) + a1)) fun y1 => Lt (fun (a2 : Int32) => (Lt (((x1 / (8 : Int32)) + a2)) fun y2 => Lt (M_wide s) fun y3 => Lt (M_isIn s y1 (0 : Int32) (y3 - (1 : Int32))) fun y4 => if y4 = 0 then ((-1 : Int32)) else (Lt (M_high s) fun y5 => Lt (M_isIn s y2 (0 : Int32) (y5 - (1 : Int32))) fun y6 => if y6 = 0 then ((-1 : Int32)) else ((((8 : Int32) * y2) + y1))) : Int32)) fun j2 => if x2 = (2 : Int32) then (j2 (1 : Int32)) else (if x2 = 0 then (j2 (-1 : Int32)) else (j2 (0 : Int32))) : Int32)) fun j1 => if x2 = (1 : Int32) then (j1 (1 : Int32)) else (if x2 = (3 : Int32) then (j1 (-1 : Int32)) else (j1 (0 : Int32)))
set_option maxRecDepth 100000 in
set_option maxHeartbeats 4000000 in
theorem k_cellBy (l : Launch) (D : va_G) (cA : ClassId) (h : Nat → Nat) (s : ST) (x1 : Int32) (x2 : Int32) : MI l (KM D cA h) 2 yX10_cellBy cX10_cellBy 5 (some .int) s [.ref (h 0), .int x1, .int x2] (M_cellBy s x1 x2) s := by
  refine met_i (by decide) (Nat.le_of_ble_eq_true rfl) ?_
  intro p e st m args below meth c Q X RI
  generalize hs : M_cellBy s x1 x2 = o at RI
  unfold M_cellBy at hs
  refine g_iload_n X dX10_cellBy_0 (q := 1) rfl 1 rfl ?_
  refine g_bipush X dX10_cellBy_1 (q := 3) rfl li_b8 ?_
  refine g_irem X dX10_cellBy_3 (q := 4) rfl (by decide) ?_
  refine g_iload_n X dX10_cellBy_4 (q := 5) rfl 2 rfl ?_
  refine g_iconst X dX10_cellBy_5 (q := 6) rfl li_i1 ?_
  refine jnW1 (fun (a1 : Int32) => WG (KM D cA h) p l e (rmD 2) st m args below meth c Q 5 s 23 [(0, .ref (h 0)), (1, .int x1), (2, .int x2)] [.int a1, .int (irm x1 (8 : Int32))]) hs (fun a1 hs => ?_) (fun j1 ih1 hs => ?_)
  · refine g_iadd X dX10_cellBy_23 (q := 24) rfl ?_
    refine nmI hs (fun y1 hs => ?_)
    refine g_istore_n X dX10_cellBy_24 (q := 25) rfl (Nat.le_of_ble_eq_true rfl) (lv' := [(3, .int y1), (0, .ref (h 0)), (1, .int x1), (2, .int x2)]) rfl ?_
    refine g_iload_n X dX10_cellBy_25 (q := 26) rfl 2 rfl ?_
    refine g_bipush X dX10_cellBy_26 (q := 28) rfl li_b8 ?_
    refine g_idiv X dX10_cellBy_28 (q := 29) rfl (by decide) ?_
    refine g_iload_n X dX10_cellBy_29 (q := 30) rfl 3 rfl ?_
    refine g_iconst X dX10_cellBy_30 (q := 31) rfl li_i2 ?_
    refine jnW1 (fun (a2 : Int32) => WG (KM D cA h) p l e (rmD 2) st m args below meth c Q 5 s 47 [(0, .ref (h 0)), (3, .int y1)] [.int a2, .int (x1 / (8 : Int32))]) hs (fun a2 hs => ?_) (fun j2 ih2 hs => ?_)
    · refine g_iadd X dX10_cellBy_47 (q := 48) rfl ?_
      refine nmI hs (fun y2 hs => ?_)
      refine g_istore X dX10_cellBy_48 (q := 50) rfl (Nat.le_of_ble_eq_true rfl) (lv' := [(4, .int y2), (0, .ref (h 0)), (3, .int y1)]) rfl ?_
      refine g_aload_n X dX10_cellBy_50 (q := 51) rfl 1 rfl ?_
      refine g_iload_n X dX10_cellBy_51 (q := 52) rfl 2 rfl ?_
      refine g_iconst X dX10_cellBy_52 (q := 53) rfl li_i0 ?_
      refine g_aload_n X dX10_cellBy_53 (q := 54) rfl 1 rfl ?_
      refine v_wide X dX10_cellBy_54 (q := 57) rfl (Nat.le_of_ble_eq_true rfl) (Nat.le_of_ble_eq_true rfl) (Nat.le_of_ble_eq_true rfl) hs (fun y3 hs => ?_)
      refine g_iconst X dX10_cellBy_57 (q := 58) rfl li_i1 ?_
      refine g_isub X dX10_cellBy_58 (q := 59) rfl ?_
      refine v_isIn X dX10_cellBy_59 (q := 62) rfl (Nat.le_of_ble_eq_true rfl) (Nat.le_of_ble_eq_true rfl) (Nat.le_of_ble_eq_true rfl) hs (fun y4 hs => ?_)
      refine g_if_eq X dX10_cellBy_62 (q := 65) rfl (tgt := 91) (by decide) hs ?_ ?_
      · intro hs
        refine g_iconst X dX10_cellBy_91 (q := 92) rfl li_im1 ?_
        exact RI _ 92 _ _ _ rfl rfl hs dX10_cellBy_92
      · intro hs
        refine g_aload_n X dX10_cellBy_65 (q := 66) rfl 1 rfl ?_
        refine g_iload X dX10_cellBy_66 (q := 68) rfl 0 rfl ?_
        refine g_iconst X dX10_cellBy_68 (q := 69) rfl li_i0 ?_
        refine g_aload_n X dX10_cellBy_69 (q := 70) rfl 1 rfl ?_
        refine v_high X dX10_cellBy_70 (q := 73) rfl (Nat.le_of_ble_eq_true rfl) (Nat.le_of_ble_eq_true rfl) (Nat.le_of_ble_eq_true rfl) hs (fun y5 hs => ?_)
        refine g_iconst X dX10_cellBy_73 (q := 74) rfl li_i1 ?_
        refine g_isub X dX10_cellBy_74 (q := 75) rfl ?_
        refine v_isIn X dX10_cellBy_75 (q := 78) rfl (Nat.le_of_ble_eq_true rfl) (Nat.le_of_ble_eq_true rfl) (Nat.le_of_ble_eq_true rfl) hs (fun y6 hs => ?_)
        refine g_if_eq X dX10_cellBy_78 (q := 81) rfl (tgt := 91) (by decide) hs ?_ ?_
        · intro hs
          refine g_iconst X dX10_cellBy_91 (q := 92) rfl li_im1 ?_
          exact RI _ 92 _ _ _ rfl rfl hs dX10_cellBy_92
        · intro hs
          refine g_bipush X dX10_cellBy_81 (q := 83) rfl li_b8 ?_
          refine g_iload X dX10_cellBy_83 (q := 85) rfl 0 rfl ?_
          refine g_imul X dX10_cellBy_85 (q := 86) rfl ?_
          refine g_iload_n X dX10_cellBy_86 (q := 87) rfl 2 rfl ?_
          refine g_iadd X dX10_cellBy_87 (q := 88) rfl ?_
          refine g_goto X dX10_cellBy_88 (tgt := 92) (by decide) ?_
          exact RI _ 92 _ _ _ rfl rfl hs dX10_cellBy_92
    refine g_icmp_ne X dX10_cellBy_31 (q := 34) rfl (tgt := 38) (by decide) hs ?_ ?_
    · intro hs
      refine g_iload_n X dX10_cellBy_38 (q := 39) rfl 3 rfl ?_
      refine g_if_ne X dX10_cellBy_39 (q := 42) rfl (tgt := 46) (by decide) hs ?_ ?_
      · intro hs
        refine g_iconst X dX10_cellBy_46 (q := 47) rfl li_i0 ?_
        exact wg_sub [1, 0] rfl (ih2 _ hs)
      · intro hs
        refine g_iconst X dX10_cellBy_42 (q := 43) rfl li_im1 ?_
        refine g_goto X dX10_cellBy_43 (tgt := 47) (by decide) ?_
        exact wg_sub [1, 0] rfl (ih2 _ hs)
    · intro hs
      refine g_iconst X dX10_cellBy_34 (q := 35) rfl li_i1 ?_
      refine g_goto X dX10_cellBy_35 (tgt := 47) (by decide) ?_
      exact wg_sub [1, 0] rfl (ih2 _ hs)
  refine g_icmp_ne X dX10_cellBy_6 (q := 9) rfl (tgt := 13) (by decide) hs ?_ ?_
  · intro hs
    refine g_iload_n X dX10_cellBy_13 (q := 14) rfl 2 rfl ?_
    refine g_iconst X dX10_cellBy_14 (q := 15) rfl li_i3 ?_
    refine g_icmp_ne X dX10_cellBy_15 (q := 18) rfl (tgt := 22) (by decide) hs ?_ ?_
    · intro hs
      refine g_iconst X dX10_cellBy_22 (q := 23) rfl li_i0 ?_
      exact wg_sub [0, 1, 2] rfl (ih1 _ hs)
    · intro hs
      refine g_iconst X dX10_cellBy_18 (q := 19) rfl li_im1 ?_
      refine g_goto X dX10_cellBy_19 (tgt := 23) (by decide) ?_
      exact wg_sub [0, 1, 2] rfl (ih1 _ hs)
  · intro hs
    refine g_iconst X dX10_cellBy_9 (q := 10) rfl li_i1 ?_
    refine g_goto X dX10_cellBy_10 (tgt := 23) (by decide) ?_
    exact wg_sub [0, 1, 2] rfl (ih1 _ hs)
theorem v_cellBy {p : Program} {l : Launch} {e : Env} {st : State} {m : MethodId} {args : Array Value} {below : List Frame} {meth : Method} {c : Code} {Q : State → Prop} {nL : Nat} {cc : ByteArray} {s : ST} {pc q : Nat} {lv : List (Nat × Value)} {rest : List Value} {D : va_G} {cA : ClassId} {h : Nat → Nat} {d0 : Nat} (X : Cx (KM D cA h) p st m args meth c cc nL RX10) {x1 : Int32} {x2 : Int32} (d : decode cc pc = .ok (.invokevirtual 305, 3)) (hq : pc + 3 = q) (hd1 : 2 + 1 ≤ d0) (hd2 : 8 + (5 + 11) + 100 * 2 ≤ 100 * d0) (hr : (rest.map fun v => v.category).sum ≤ 8) {B : Type} {f : Int32 → B} {r : B} (hs : Lt (M_cellBy s x1 x2) f = r) (k : ∀ y, f y = r → WG (KM D cA h) p l e (rmD d0) st m args below meth c Q nL s q lv (.int y :: rest)) : WG (KM D cA h) p l e (rmD d0) st m args below meth c Q nL s pc lv (.int x2 :: .int x1 :: .ref (h 0) :: rest) := by
  exact cV_I X 0 (n := 2) (k_cellBy l D cA h s x1 x2) gv_X10_cellBy ⟨hd1, hd2⟩ ⟨by decide, by decide, by decide +kernel⟩ (As := [.int x1, .int x2]) rfl hr (Nat.le_of_ble_eq_true rfl) (fs := mF h (s.1 0)) rfl rfl rfl d hq (k _ hs)
theorem dX10_besideOf_0 : decode cX10_besideOf 0 = .ok (.iconst 0, 1) := by decide +kernel
theorem dX10_besideOf_1 : decode cX10_besideOf 1 = .ok (.istore_n 2, 1) := by decide +kernel
theorem dX10_besideOf_2 : decode cX10_besideOf 2 = .ok (.iconst 0, 1) := by decide +kernel
theorem dX10_besideOf_3 : decode cX10_besideOf 3 = .ok (.istore_n 3, 1) := by decide +kernel
theorem dX10_besideOf_4 : decode cX10_besideOf 4 = .ok (.iload_n 3, 1) := by decide +kernel
theorem dX10_besideOf_5 : decode cX10_besideOf 5 = .ok (.iconst 4, 1) := by decide +kernel
theorem dX10_besideOf_6 : decode cX10_besideOf 6 = .ok (.if_icmp .ge 37, 3) := by decide +kernel
theorem dX10_besideOf_9 : decode cX10_besideOf 9 = .ok (.aload_n 0, 1) := by decide +kernel
theorem dX10_besideOf_10 : decode cX10_besideOf 10 = .ok (.iload_n 1, 1) := by decide +kernel
theorem dX10_besideOf_11 : decode cX10_besideOf 11 = .ok (.iload_n 3, 1) := by decide +kernel
theorem dX10_besideOf_12 : decode cX10_besideOf 12 = .ok (.invokevirtual 305, 3) := by decide +kernel
theorem dX10_besideOf_15 : decode cX10_besideOf 15 = .ok (.iconst (-1), 1) := by decide +kernel
theorem dX10_besideOf_16 : decode cX10_besideOf 16 = .ok (.if_icmp .eq 21, 3) := by decide +kernel
theorem dX10_besideOf_19 : decode cX10_besideOf 19 = .ok (.aload_n 0, 1) := by decide +kernel
theorem dX10_besideOf_20 : decode cX10_besideOf 20 = .ok (.aload_n 0, 1) := by decide +kernel
theorem dX10_besideOf_21 : decode cX10_besideOf 21 = .ok (.iload_n 1, 1) := by decide +kernel
theorem dX10_besideOf_22 : decode cX10_besideOf 22 = .ok (.iload_n 3, 1) := by decide +kernel
theorem dX10_besideOf_23 : decode cX10_besideOf 23 = .ok (.invokevirtual 305, 3) := by decide +kernel
theorem dX10_besideOf_26 : decode cX10_besideOf 26 = .ok (.invokevirtual 308, 3) := by decide +kernel
theorem dX10_besideOf_29 : decode cX10_besideOf 29 = .ok (.iconst (-1), 1) := by decide +kernel
theorem dX10_besideOf_30 : decode cX10_besideOf 30 = .ok (.if_icmp .eq 7, 3) := by decide +kernel
theorem dX10_besideOf_33 : decode cX10_besideOf 33 = .ok (.iload_n 2, 1) := by decide +kernel
theorem dX10_besideOf_34 : decode cX10_besideOf 34 = .ok (.iconst 1, 1) := by decide +kernel
theorem dX10_besideOf_35 : decode cX10_besideOf 35 = .ok (.iadd, 1) := by decide +kernel
theorem dX10_besideOf_36 : decode cX10_besideOf 36 = .ok (.istore_n 2, 1) := by decide +kernel
theorem dX10_besideOf_37 : decode cX10_besideOf 37 = .ok (.iinc 3 1, 3) := by decide +kernel
theorem dX10_besideOf_40 : decode cX10_besideOf 40 = .ok (.goto (-36), 3) := by decide +kernel
theorem dX10_besideOf_43 : decode cX10_besideOf 43 = .ok (.iload_n 2, 1) := by decide +kernel
theorem dX10_besideOf_44 : decode cX10_besideOf 44 = .ok (.ireturn, 1) := by decide +kernel
def M_besideOf (s : ST) (x1 : Int32) : Option (Int32) := lpK2 (C := Int32) (fun (rec1 : Int32 → Int32 → Option (Int32)) (a1 : Int32) (a2 : Int32) => if (4 : Int32) ≤ a2 then (some a1) else (Lt (M_cellBy s x1 a2) fun y1 => Lt (fun (a3 : Int32) => (rec1 a3 (a2 + (1 : Int32)) : Option (Int32))) fun j1 => if y1 = (-1 : Int32) then (j1 a1) else (Lt (M_cellBy s x1 a2) fun y2 => Bd (M_stormOf s y2) fun y3 => if y3 = (-1 : Int32) then (j1 a1) else (Lt ((a1 + (1 : Int32))) fun y4 => j1 y4)))) FU (0 : Int32) (0 : Int32)
set_option maxRecDepth 100000 in
set_option maxHeartbeats 4000000 in
theorem k_besideOf (l : Launch) (D : va_G) (cA : ClassId) (h : Nat → Nat) (s : ST) (x1 : Int32) {o : Int32} (hs : M_besideOf s x1 = some o) : MI l (KM D cA h) 3 yX10_besideOf cX10_besideOf 4 (some .int) s [.ref (h 0), .int x1] o s := by
  refine met_i (by decide) (Nat.le_of_ble_eq_true rfl) ?_
  intro p e st m args below meth c Q X RI
  unfold M_besideOf at hs
  refine g_iconst X dX10_besideOf_0 (q := 1) rfl li_i0 ?_
  refine g_istore_n X dX10_besideOf_1 (q := 2) rfl (Nat.le_of_ble_eq_true rfl) (lv' := [(2, .int (0 : Int32)), (0, .ref (h 0)), (1, .int x1)]) rfl ?_
  refine g_iconst X dX10_besideOf_2 (q := 3) rfl li_i0 ?_
  refine g_istore_n X dX10_besideOf_3 (q := 4) rfl (Nat.le_of_ble_eq_true rfl) (lv' := [(3, .int (0 : Int32)), (2, .int (0 : Int32)), (0, .ref (h 0)), (1, .int x1)]) rfl ?_
  refine wg_sub [2, 3, 1, 0] rfl (lpW2 (fun (a1 : Int32) (a2 : Int32) => WG (KM D cA h) p l e (rmD 3) st m args below meth c Q 4 s 4 [(0, .ref (h 0)), (1, .int x1), (2, .int a1), (3, .int a2)] []) (fun rec1 ih1 a1 a2 hs => ?_) _ _ _ hs)
  refine g_iload_n X dX10_besideOf_4 (q := 5) rfl 3 rfl ?_
  refine g_iconst X dX10_besideOf_5 (q := 6) rfl li_i4 ?_
  refine g_icmp_ge X dX10_besideOf_6 (q := 9) rfl (tgt := 43) (by decide) hs ?_ ?_
  · intro hs
    refine g_iload_n X dX10_besideOf_43 (q := 44) rfl 2 rfl ?_
    exact RI _ 44 _ _ _ rfl rfl (Option.some.inj hs) dX10_besideOf_44
  · intro hs
    refine g_aload_n X dX10_besideOf_9 (q := 10) rfl 0 rfl ?_
    refine g_iload_n X dX10_besideOf_10 (q := 11) rfl 1 rfl ?_
    refine g_iload_n X dX10_besideOf_11 (q := 12) rfl 3 rfl ?_
    refine v_cellBy X dX10_besideOf_12 (q := 15) rfl (Nat.le_of_ble_eq_true rfl) (Nat.le_of_ble_eq_true rfl) (Nat.le_of_ble_eq_true rfl) hs (fun y1 hs => ?_)
    refine g_iconst X dX10_besideOf_15 (q := 16) rfl li_im1 ?_
    refine jnW1 (fun (a3 : Int32) => WG (KM D cA h) p l e (rmD 3) st m args below meth c Q 4 s 37 [(0, .ref (h 0)), (1, .int x1), (2, .int a3), (3, .int a2)] []) hs (fun a3 hs => ?_) (fun j1 ih2 hs => ?_)
    · refine g_iinc X dX10_besideOf_37 (q := 40) rfl 3 rfl (v := (a2 + (1 : Int32))) (congrArg (HAdd.hAdd a2) li_i1) (Nat.le_of_ble_eq_true rfl) (lv' := [(3, .int (a2 + (1 : Int32))), (0, .ref (h 0)), (1, .int x1), (2, .int a3)]) rfl ?_
      refine g_goto X dX10_besideOf_40 (tgt := 4) (by decide) ?_
      exact wg_sub [1, 2, 3, 0] rfl (ih1 _ _ hs)
    refine g_icmp_eq X dX10_besideOf_16 (q := 19) rfl (tgt := 37) (by decide) hs ?_ ?_
    · intro hs
      exact wg_sub [0, 1, 2, 3] rfl (ih2 _ hs)
    · intro hs
      refine g_aload_n X dX10_besideOf_19 (q := 20) rfl 0 rfl ?_
      refine g_aload_n X dX10_besideOf_20 (q := 21) rfl 0 rfl ?_
      refine g_iload_n X dX10_besideOf_21 (q := 22) rfl 1 rfl ?_
      refine g_iload_n X dX10_besideOf_22 (q := 23) rfl 3 rfl ?_
      refine v_cellBy X dX10_besideOf_23 (q := 26) rfl (Nat.le_of_ble_eq_true rfl) (Nat.le_of_ble_eq_true rfl) (Nat.le_of_ble_eq_true rfl) hs (fun y2 hs => ?_)
      refine v_stormOf X dX10_besideOf_26 (q := 29) rfl (Nat.le_of_ble_eq_true rfl) (Nat.le_of_ble_eq_true rfl) (Nat.le_of_ble_eq_true rfl) hs (fun y3 hs => ?_)
      refine g_iconst X dX10_besideOf_29 (q := 30) rfl li_im1 ?_
      refine g_icmp_eq X dX10_besideOf_30 (q := 33) rfl (tgt := 37) (by decide) hs ?_ ?_
      · intro hs
        exact wg_sub [0, 1, 2, 3] rfl (ih2 _ hs)
      · intro hs
        refine g_iload_n X dX10_besideOf_33 (q := 34) rfl 2 rfl ?_
        refine g_iconst X dX10_besideOf_34 (q := 35) rfl li_i1 ?_
        refine g_iadd X dX10_besideOf_35 (q := 36) rfl ?_
        refine nmI hs (fun y4 hs => ?_)
        refine g_istore_n X dX10_besideOf_36 (q := 37) rfl (Nat.le_of_ble_eq_true rfl) (lv' := [(2, .int y4), (0, .ref (h 0)), (1, .int x1), (3, .int a2)]) rfl ?_
        exact wg_sub [1, 2, 0, 3] rfl (ih2 _ hs)
theorem v_besideOf {p : Program} {l : Launch} {e : Env} {st : State} {m : MethodId} {args : Array Value} {below : List Frame} {meth : Method} {c : Code} {Q : State → Prop} {nL : Nat} {cc : ByteArray} {s : ST} {pc q : Nat} {lv : List (Nat × Value)} {rest : List Value} {D : va_G} {cA : ClassId} {h : Nat → Nat} {d0 : Nat} (X : Cx (KM D cA h) p st m args meth c cc nL RX10) {x1 : Int32} (d : decode cc pc = .ok (.invokevirtual 314, 3)) (hq : pc + 3 = q) (hd1 : 3 + 1 ≤ d0) (hd2 : 8 + (4 + 11) + 100 * 3 ≤ 100 * d0) (hr : (rest.map fun v => v.category).sum ≤ 8) {B : Type} {f : Int32 → Option B} {r : B} (hs : Bd (M_besideOf s x1) f = some r) (k : ∀ y, f y = some r → WG (KM D cA h) p l e (rmD d0) st m args below meth c Q nL s q lv (.int y :: rest)) : WG (KM D cA h) p l e (rmD d0) st m args below meth c Q nL s pc lv (.int x1 :: .ref (h 0) :: rest) := by
  obtain ⟨v, hv, hs⟩ := Bd_e hs
  exact cV_I X 0 (n := 1) (k_besideOf l D cA h s x1 hv) gv_X10_besideOf ⟨hd1, hd2⟩ ⟨by decide, by decide, by decide +kernel⟩ (As := [.int x1]) rfl hr (Nat.le_of_ble_eq_true rfl) (fs := mF h (s.1 0)) rfl rfl rfl d hq (k _ hs)
theorem dX10_hedgesOf_0 : decode cX10_hedgesOf 0 = .ok (.iconst 0, 1) := by decide +kernel
theorem dX10_hedgesOf_1 : decode cX10_hedgesOf 1 = .ok (.istore_n 2, 1) := by decide +kernel
theorem dX10_hedgesOf_2 : decode cX10_hedgesOf 2 = .ok (.iconst 0, 1) := by decide +kernel
theorem dX10_hedgesOf_3 : decode cX10_hedgesOf 3 = .ok (.istore_n 3, 1) := by decide +kernel
theorem dX10_hedgesOf_4 : decode cX10_hedgesOf 4 = .ok (.iload_n 3, 1) := by decide +kernel
theorem dX10_hedgesOf_5 : decode cX10_hedgesOf 5 = .ok (.iconst 4, 1) := by decide +kernel
theorem dX10_hedgesOf_6 : decode cX10_hedgesOf 6 = .ok (.if_icmp .ge 33, 3) := by decide +kernel
theorem dX10_hedgesOf_9 : decode cX10_hedgesOf 9 = .ok (.aload_n 0, 1) := by decide +kernel
theorem dX10_hedgesOf_10 : decode cX10_hedgesOf 10 = .ok (.iload_n 1, 1) := by decide +kernel
theorem dX10_hedgesOf_11 : decode cX10_hedgesOf 11 = .ok (.iload_n 3, 1) := by decide +kernel
theorem dX10_hedgesOf_12 : decode cX10_hedgesOf 12 = .ok (.invokevirtual 305, 3) := by decide +kernel
theorem dX10_hedgesOf_15 : decode cX10_hedgesOf 15 = .ok (.iconst (-1), 1) := by decide +kernel
theorem dX10_hedgesOf_16 : decode cX10_hedgesOf 16 = .ok (.if_icmp .eq 17, 3) := by decide +kernel
theorem dX10_hedgesOf_19 : decode cX10_hedgesOf 19 = .ok (.iload_n 2, 1) := by decide +kernel
theorem dX10_hedgesOf_20 : decode cX10_hedgesOf 20 = .ok (.aload_n 0, 1) := by decide +kernel
theorem dX10_hedgesOf_21 : decode cX10_hedgesOf 21 = .ok (.getfield 19, 3) := by decide +kernel
theorem dX10_hedgesOf_24 : decode cX10_hedgesOf 24 = .ok (.aload_n 0, 1) := by decide +kernel
theorem dX10_hedgesOf_25 : decode cX10_hedgesOf 25 = .ok (.iload_n 1, 1) := by decide +kernel
theorem dX10_hedgesOf_26 : decode cX10_hedgesOf 26 = .ok (.iload_n 3, 1) := by decide +kernel
theorem dX10_hedgesOf_27 : decode cX10_hedgesOf 27 = .ok (.invokevirtual 305, 3) := by decide +kernel
theorem dX10_hedgesOf_30 : decode cX10_hedgesOf 30 = .ok (.iaload, 1) := by decide +kernel
theorem dX10_hedgesOf_31 : decode cX10_hedgesOf 31 = .ok (.iadd, 1) := by decide +kernel
theorem dX10_hedgesOf_32 : decode cX10_hedgesOf 32 = .ok (.istore_n 2, 1) := by decide +kernel
theorem dX10_hedgesOf_33 : decode cX10_hedgesOf 33 = .ok (.iinc 3 1, 3) := by decide +kernel
theorem dX10_hedgesOf_36 : decode cX10_hedgesOf 36 = .ok (.goto (-32), 3) := by decide +kernel
theorem dX10_hedgesOf_39 : decode cX10_hedgesOf 39 = .ok (.iload_n 2, 1) := by decide +kernel
theorem dX10_hedgesOf_40 : decode cX10_hedgesOf 40 = .ok (.ireturn, 1) := by decide +kernel
def M_hedgesOf (s : ST) (x1 : Int32) : Option (Int32) := lpK2 (C := Int32) (fun (rec1 : Int32 → Int32 → Option (Int32)) (a1 : Int32) (a2 : Int32) => if (4 : Int32) ≤ a2 then (some a1) else (Lt (M_cellBy s x1 a2) fun y1 => Lt (fun (a3 : Int32) => (rec1 a3 (a2 + (1 : Int32)) : Option (Int32))) fun j1 => if y1 = (-1 : Int32) then (j1 a1) else (Lt (M_cellBy s x1 a2) fun y2 => Gl s 4 64 y2 fun y3 => Lt ((a1 + y3)) fun y4 => j1 y4))) FU (0 : Int32) (0 : Int32)
set_option maxRecDepth 100000 in
set_option maxHeartbeats 4000000 in
theorem k_hedgesOf (l : Launch) (D : va_G) (cA : ClassId) (h : Nat → Nat) (s : ST) (x1 : Int32) {o : Int32} (hs : M_hedgesOf s x1 = some o) : MI l (KM D cA h) 3 yX10_hedgesOf cX10_hedgesOf 4 (some .int) s [.ref (h 0), .int x1] o s := by
  refine met_i (by decide) (Nat.le_of_ble_eq_true rfl) ?_
  intro p e st m args below meth c Q X RI
  unfold M_hedgesOf at hs
  refine g_iconst X dX10_hedgesOf_0 (q := 1) rfl li_i0 ?_
  refine g_istore_n X dX10_hedgesOf_1 (q := 2) rfl (Nat.le_of_ble_eq_true rfl) (lv' := [(2, .int (0 : Int32)), (0, .ref (h 0)), (1, .int x1)]) rfl ?_
  refine g_iconst X dX10_hedgesOf_2 (q := 3) rfl li_i0 ?_
  refine g_istore_n X dX10_hedgesOf_3 (q := 4) rfl (Nat.le_of_ble_eq_true rfl) (lv' := [(3, .int (0 : Int32)), (2, .int (0 : Int32)), (0, .ref (h 0)), (1, .int x1)]) rfl ?_
  refine wg_sub [2, 3, 1, 0] rfl (lpW2 (fun (a1 : Int32) (a2 : Int32) => WG (KM D cA h) p l e (rmD 3) st m args below meth c Q 4 s 4 [(0, .ref (h 0)), (1, .int x1), (2, .int a1), (3, .int a2)] []) (fun rec1 ih1 a1 a2 hs => ?_) _ _ _ hs)
  refine g_iload_n X dX10_hedgesOf_4 (q := 5) rfl 3 rfl ?_
  refine g_iconst X dX10_hedgesOf_5 (q := 6) rfl li_i4 ?_
  refine g_icmp_ge X dX10_hedgesOf_6 (q := 9) rfl (tgt := 39) (by decide) hs ?_ ?_
  · intro hs
    refine g_iload_n X dX10_hedgesOf_39 (q := 40) rfl 2 rfl ?_
    exact RI _ 40 _ _ _ rfl rfl (Option.some.inj hs) dX10_hedgesOf_40
  · intro hs
    refine g_aload_n X dX10_hedgesOf_9 (q := 10) rfl 0 rfl ?_
    refine g_iload_n X dX10_hedgesOf_10 (q := 11) rfl 1 rfl ?_
    refine g_iload_n X dX10_hedgesOf_11 (q := 12) rfl 3 rfl ?_
    refine v_cellBy X dX10_hedgesOf_12 (q := 15) rfl (Nat.le_of_ble_eq_true rfl) (Nat.le_of_ble_eq_true rfl) (Nat.le_of_ble_eq_true rfl) hs (fun y1 hs => ?_)
    refine g_iconst X dX10_hedgesOf_15 (q := 16) rfl li_im1 ?_
    refine jnW1 (fun (a3 : Int32) => WG (KM D cA h) p l e (rmD 3) st m args below meth c Q 4 s 33 [(0, .ref (h 0)), (1, .int x1), (2, .int a3), (3, .int a2)] []) hs (fun a3 hs => ?_) (fun j1 ih2 hs => ?_)
    · refine g_iinc X dX10_hedgesOf_33 (q := 36) rfl 3 rfl (v := (a2 + (1 : Int32))) (congrArg (HAdd.hAdd a2) li_i1) (Nat.le_of_ble_eq_true rfl) (lv' := [(3, .int (a2 + (1 : Int32))), (0, .ref (h 0)), (1, .int x1), (2, .int a3)]) rfl ?_
      refine g_goto X dX10_hedgesOf_36 (tgt := 4) (by decide) ?_
      exact wg_sub [1, 2, 3, 0] rfl (ih1 _ _ hs)
    refine g_icmp_eq X dX10_hedgesOf_16 (q := 19) rfl (tgt := 33) (by decide) hs ?_ ?_
    · intro hs
      exact wg_sub [0, 1, 2, 3] rfl (ih2 _ hs)
    · intro hs
      refine g_iload_n X dX10_hedgesOf_19 (q := 20) rfl 2 rfl ?_
      refine g_aload_n X dX10_hedgesOf_20 (q := 21) rfl 0 rfl ?_
      refine mg_9 X dX10_hedgesOf_21 (q := 24) rfl ?_
      refine g_aload_n X dX10_hedgesOf_24 (q := 25) rfl 0 rfl ?_
      refine g_iload_n X dX10_hedgesOf_25 (q := 26) rfl 1 rfl ?_
      refine g_iload_n X dX10_hedgesOf_26 (q := 27) rfl 3 rfl ?_
      refine v_cellBy X dX10_hedgesOf_27 (q := 30) rfl (Nat.le_of_ble_eq_true rfl) (Nat.le_of_ble_eq_true rfl) (Nat.le_of_ble_eq_true rfl) hs (fun y2 hs => ?_)
      refine ma_4 X dX10_hedgesOf_30 (q := 31) rfl hs (fun y3 hs => ?_)
      refine g_iadd X dX10_hedgesOf_31 (q := 32) rfl ?_
      refine nmI hs (fun y4 hs => ?_)
      refine g_istore_n X dX10_hedgesOf_32 (q := 33) rfl (Nat.le_of_ble_eq_true rfl) (lv' := [(2, .int y4), (0, .ref (h 0)), (1, .int x1), (3, .int a2)]) rfl ?_
      exact wg_sub [1, 2, 0, 3] rfl (ih2 _ hs)
theorem v_hedgesOf {p : Program} {l : Launch} {e : Env} {st : State} {m : MethodId} {args : Array Value} {below : List Frame} {meth : Method} {c : Code} {Q : State → Prop} {nL : Nat} {cc : ByteArray} {s : ST} {pc q : Nat} {lv : List (Nat × Value)} {rest : List Value} {D : va_G} {cA : ClassId} {h : Nat → Nat} {d0 : Nat} (X : Cx (KM D cA h) p st m args meth c cc nL RX10) {x1 : Int32} (d : decode cc pc = .ok (.invokevirtual 317, 3)) (hq : pc + 3 = q) (hd1 : 3 + 1 ≤ d0) (hd2 : 8 + (4 + 11) + 100 * 3 ≤ 100 * d0) (hr : (rest.map fun v => v.category).sum ≤ 8) {B : Type} {f : Int32 → Option B} {r : B} (hs : Bd (M_hedgesOf s x1) f = some r) (k : ∀ y, f y = some r → WG (KM D cA h) p l e (rmD d0) st m args below meth c Q nL s q lv (.int y :: rest)) : WG (KM D cA h) p l e (rmD d0) st m args below meth c Q nL s pc lv (.int x1 :: .ref (h 0) :: rest) := by
  obtain ⟨v, hv, hs⟩ := Bd_e hs
  exact cV_I X 0 (n := 1) (k_hedgesOf l D cA h s x1 hv) gv_X10_hedgesOf ⟨hd1, hd2⟩ ⟨by decide, by decide, by decide +kernel⟩ (As := [.int x1]) rfl hr (Nat.le_of_ble_eq_true rfl) (fs := mF h (s.1 0)) rfl rfl rfl d hq (k _ hs)
theorem dX10_asks_0 : decode cX10_asks 0 = .ok (.iload_n 2, 1) := by decide +kernel
theorem dX10_asks_1 : decode cX10_asks 1 = .ok (.bipush 8, 2) := by decide +kernel
theorem dX10_asks_3 : decode cX10_asks 3 = .ok (.irem, 1) := by decide +kernel
theorem dX10_asks_4 : decode cX10_asks 4 = .ok (.istore 4, 2) := by decide +kernel
theorem dX10_asks_6 : decode cX10_asks 6 = .ok (.iload_n 2, 1) := by decide +kernel
theorem dX10_asks_7 : decode cX10_asks 7 = .ok (.bipush 8, 2) := by decide +kernel
theorem dX10_asks_9 : decode cX10_asks 9 = .ok (.idiv, 1) := by decide +kernel
theorem dX10_asks_10 : decode cX10_asks 10 = .ok (.istore 5, 2) := by decide +kernel
theorem dX10_asks_12 : decode cX10_asks 12 = .ok (.aload_n 0, 1) := by decide +kernel
theorem dX10_asks_13 : decode cX10_asks 13 = .ok (.getfield 71, 3) := by decide +kernel
theorem dX10_asks_16 : decode cX10_asks 16 = .ok (.iconst 0, 1) := by decide +kernel
theorem dX10_asks_17 : decode cX10_asks 17 = .ok (.iload_n 1, 1) := by decide +kernel
theorem dX10_asks_18 : decode cX10_asks 18 = .ok (.iastore, 1) := by decide +kernel
theorem dX10_asks_19 : decode cX10_asks 19 = .ok (.aload_n 0, 1) := by decide +kernel
theorem dX10_asks_20 : decode cX10_asks 20 = .ok (.getfield 71, 3) := by decide +kernel
theorem dX10_asks_23 : decode cX10_asks 23 = .ok (.iconst 1, 1) := by decide +kernel
theorem dX10_asks_24 : decode cX10_asks 24 = .ok (.aload_n 0, 1) := by decide +kernel
theorem dX10_asks_25 : decode cX10_asks 25 = .ok (.iload_n 2, 1) := by decide +kernel
theorem dX10_asks_26 : decode cX10_asks 26 = .ok (.invokevirtual 311, 3) := by decide +kernel
theorem dX10_asks_29 : decode cX10_asks 29 = .ok (.iastore, 1) := by decide +kernel
theorem dX10_asks_30 : decode cX10_asks 30 = .ok (.aload_n 0, 1) := by decide +kernel
theorem dX10_asks_31 : decode cX10_asks 31 = .ok (.getfield 71, 3) := by decide +kernel
theorem dX10_asks_34 : decode cX10_asks 34 = .ok (.iconst 2, 1) := by decide +kernel
theorem dX10_asks_35 : decode cX10_asks 35 = .ok (.iload_n 3, 1) := by decide +kernel
theorem dX10_asks_36 : decode cX10_asks 36 = .ok (.iastore, 1) := by decide +kernel
theorem dX10_asks_37 : decode cX10_asks 37 = .ok (.aload_n 0, 1) := by decide +kernel
theorem dX10_asks_38 : decode cX10_asks 38 = .ok (.getfield 71, 3) := by decide +kernel
theorem dX10_asks_41 : decode cX10_asks 41 = .ok (.iconst 3, 1) := by decide +kernel
theorem dX10_asks_42 : decode cX10_asks 42 = .ok (.aload_n 0, 1) := by decide +kernel
theorem dX10_asks_43 : decode cX10_asks 43 = .ok (.iload_n 2, 1) := by decide +kernel
theorem dX10_asks_44 : decode cX10_asks 44 = .ok (.invokevirtual 314, 3) := by decide +kernel
theorem dX10_asks_47 : decode cX10_asks 47 = .ok (.iastore, 1) := by decide +kernel
theorem dX10_asks_48 : decode cX10_asks 48 = .ok (.aload_n 0, 1) := by decide +kernel
theorem dX10_asks_49 : decode cX10_asks 49 = .ok (.getfield 71, 3) := by decide +kernel
theorem dX10_asks_52 : decode cX10_asks 52 = .ok (.iconst 4, 1) := by decide +kernel
theorem dX10_asks_53 : decode cX10_asks 53 = .ok (.aload_n 0, 1) := by decide +kernel
theorem dX10_asks_54 : decode cX10_asks 54 = .ok (.getfield 7, 3) := by decide +kernel
theorem dX10_asks_57 : decode cX10_asks 57 = .ok (.iconst 0, 1) := by decide +kernel
theorem dX10_asks_58 : decode cX10_asks 58 = .ok (.iaload, 1) := by decide +kernel
theorem dX10_asks_59 : decode cX10_asks 59 = .ok (.iastore, 1) := by decide +kernel
theorem dX10_asks_60 : decode cX10_asks 60 = .ok (.aload_n 0, 1) := by decide +kernel
theorem dX10_asks_61 : decode cX10_asks 61 = .ok (.getfield 71, 3) := by decide +kernel
theorem dX10_asks_64 : decode cX10_asks 64 = .ok (.iconst 5, 1) := by decide +kernel
theorem dX10_asks_65 : decode cX10_asks 65 = .ok (.iload 4, 2) := by decide +kernel
theorem dX10_asks_67 : decode cX10_asks 67 = .ok (.ifCond .eq 30, 3) := by decide +kernel
theorem dX10_asks_70 : decode cX10_asks 70 = .ok (.iload 5, 2) := by decide +kernel
theorem dX10_asks_72 : decode cX10_asks 72 = .ok (.ifCond .eq 25, 3) := by decide +kernel
theorem dX10_asks_75 : decode cX10_asks 75 = .ok (.iload 4, 2) := by decide +kernel
theorem dX10_asks_77 : decode cX10_asks 77 = .ok (.aload_n 0, 1) := by decide +kernel
theorem dX10_asks_78 : decode cX10_asks 78 = .ok (.invokevirtual 104, 3) := by decide +kernel
theorem dX10_asks_81 : decode cX10_asks 81 = .ok (.iconst 1, 1) := by decide +kernel
theorem dX10_asks_82 : decode cX10_asks 82 = .ok (.isub, 1) := by decide +kernel
theorem dX10_asks_83 : decode cX10_asks 83 = .ok (.if_icmp .eq 14, 3) := by decide +kernel
theorem dX10_asks_86 : decode cX10_asks 86 = .ok (.iload 5, 2) := by decide +kernel
theorem dX10_asks_88 : decode cX10_asks 88 = .ok (.aload_n 0, 1) := by decide +kernel
theorem dX10_asks_89 : decode cX10_asks 89 = .ok (.invokevirtual 108, 3) := by decide +kernel
theorem dX10_asks_92 : decode cX10_asks 92 = .ok (.iconst 1, 1) := by decide +kernel
theorem dX10_asks_93 : decode cX10_asks 93 = .ok (.isub, 1) := by decide +kernel
theorem dX10_asks_94 : decode cX10_asks 94 = .ok (.if_icmp .ne 7, 3) := by decide +kernel
theorem dX10_asks_97 : decode cX10_asks 97 = .ok (.iconst 1, 1) := by decide +kernel
theorem dX10_asks_98 : decode cX10_asks 98 = .ok (.goto 4, 3) := by decide +kernel
theorem dX10_asks_101 : decode cX10_asks 101 = .ok (.iconst 0, 1) := by decide +kernel
theorem dX10_asks_102 : decode cX10_asks 102 = .ok (.iastore, 1) := by decide +kernel
theorem dX10_asks_103 : decode cX10_asks 103 = .ok (.aload_n 0, 1) := by decide +kernel
theorem dX10_asks_104 : decode cX10_asks 104 = .ok (.getfield 71, 3) := by decide +kernel
theorem dX10_asks_107 : decode cX10_asks 107 = .ok (.bipush 6, 2) := by decide +kernel
theorem dX10_asks_109 : decode cX10_asks 109 = .ok (.aload_n 0, 1) := by decide +kernel
theorem dX10_asks_110 : decode cX10_asks 110 = .ok (.iload_n 2, 1) := by decide +kernel
theorem dX10_asks_111 : decode cX10_asks 111 = .ok (.invokevirtual 317, 3) := by decide +kernel
theorem dX10_asks_114 : decode cX10_asks 114 = .ok (.iastore, 1) := by decide +kernel
theorem dX10_asks_115 : decode cX10_asks 115 = .ok (.aload_n 0, 1) := by decide +kernel
theorem dX10_asks_116 : decode cX10_asks 116 = .ok (.getfield 71, 3) := by decide +kernel
theorem dX10_asks_119 : decode cX10_asks 119 = .ok (.bipush 7, 2) := by decide +kernel
theorem dX10_asks_121 : decode cX10_asks 121 = .ok (.aload_n 0, 1) := by decide +kernel
theorem dX10_asks_122 : decode cX10_asks 122 = .ok (.iload_n 2, 1) := by decide +kernel
theorem dX10_asks_123 : decode cX10_asks 123 = .ok (.invokevirtual 308, 3) := by decide +kernel
theorem dX10_asks_126 : decode cX10_asks 126 = .ok (.iconst (-1), 1) := by decide +kernel
theorem dX10_asks_127 : decode cX10_asks 127 = .ok (.if_icmp .ne 7, 3) := by decide +kernel
theorem dX10_asks_130 : decode cX10_asks 130 = .ok (.iconst 0, 1) := by decide +kernel
theorem dX10_asks_131 : decode cX10_asks 131 = .ok (.goto 13, 3) := by decide +kernel
theorem dX10_asks_134 : decode cX10_asks 134 = .ok (.aload_n 0, 1) := by decide +kernel
theorem dX10_asks_135 : decode cX10_asks 135 = .ok (.getfield 7, 3) := by decide +kernel
theorem dX10_asks_138 : decode cX10_asks 138 = .ok (.sipush 261, 3) := by decide +kernel
theorem dX10_asks_141 : decode cX10_asks 141 = .ok (.iload_n 2, 1) := by decide +kernel
theorem dX10_asks_142 : decode cX10_asks 142 = .ok (.iadd, 1) := by decide +kernel
theorem dX10_asks_143 : decode cX10_asks 143 = .ok (.iaload, 1) := by decide +kernel
theorem dX10_asks_144 : decode cX10_asks 144 = .ok (.iastore, 1) := by decide +kernel
theorem dX10_asks_145 : decode cX10_asks 145 = .ok (.return_, 1) := by decide +kernel
def M_asks (s : ST) (x1 : Int32) (x2 : Int32) (x3 : Int32) : Option (ST) := Lt ((irm x2 (8 : Int32))) fun y1 => Lt ((x2 / (8 : Int32))) fun y2 => Lt (ups s 20 0 x1) fun s1 => Bd (M_wetOf s1 x2) fun y3 => Lt (ups s1 20 1 y3) fun s2 => Lt (ups s2 20 2 x3) fun s3 => Bd (M_besideOf s3 x2) fun y4 => Lt (ups s3 20 3 y4) fun s4 => Lt (s4.1 1 0) fun y5 => Lt (ups s4 20 4 y5) fun s5 => Lt (fun (a1 : Int32) => (Lt (ups s5 20 5 a1) fun s6 => Bd (M_hedgesOf s6 x2) fun y6 => Lt (ups s6 20 6 y6) fun s7 => Bd (M_stormOf s7 x2) fun y7 => Lt (fun (a2 : Int32) => (Lt (ups s7 20 7 a2) fun s8 => some s8 : Option (ST))) fun j2 => if y7 = (-1 : Int32) then (j2 (0 : Int32)) else (Gl s7 1 389 ((261 : Int32) + x2) fun y8 => j2 y8) : Option (ST))) fun j1 => Lt (j1 (1 : Int32) : Option (ST)) fun j3 => if y1 = 0 then (j3) else (if y2 = 0 then (j3) else (Lt (M_wide s5) fun y9 => if y1 = (y9 - (1 : Int32)) then (j3) else (Lt (M_high s5) fun y10 => if y2 = (y10 - (1 : Int32)) then (j3) else (j1 (0 : Int32)))))
set_option maxRecDepth 100000 in
set_option maxHeartbeats 4000000 in
theorem k_asks (l : Launch) (D : va_G) (cA : ClassId) (h : Nat → Nat) (s : ST) (x1 : Int32) (x2 : Int32) (x3 : Int32) {o : ST} (hs : M_asks s x1 x2 x3 = some o) : MV l (KM D cA h) 4 yX10_asks cX10_asks 6 none s [.ref (h 0), .int x1, .int x2, .int x3] o := by
  refine met_v (by decide) (Nat.le_of_ble_eq_true rfl) ?_
  intro p e st m args below meth c Q X RI
  unfold M_asks at hs
  refine g_iload_n X dX10_asks_0 (q := 1) rfl 2 rfl ?_
  refine g_bipush X dX10_asks_1 (q := 3) rfl li_b8 ?_
  refine g_irem X dX10_asks_3 (q := 4) rfl (by decide) ?_
  refine nmI hs (fun y1 hs => ?_)
  refine g_istore X dX10_asks_4 (q := 6) rfl (Nat.le_of_ble_eq_true rfl) (lv' := [(4, .int y1), (0, .ref (h 0)), (1, .int x1), (2, .int x2), (3, .int x3)]) rfl ?_
  refine g_iload_n X dX10_asks_6 (q := 7) rfl 3 rfl ?_
  refine g_bipush X dX10_asks_7 (q := 9) rfl li_b8 ?_
  refine g_idiv X dX10_asks_9 (q := 10) rfl (by decide) ?_
  refine nmI hs (fun y2 hs => ?_)
  refine g_istore X dX10_asks_10 (q := 12) rfl (Nat.le_of_ble_eq_true rfl) (lv' := [(5, .int y2), (4, .int y1), (0, .ref (h 0)), (1, .int x1), (2, .int x2), (3, .int x3)]) rfl ?_
  refine g_aload_n X dX10_asks_12 (q := 13) rfl 2 rfl ?_
  refine mg_44 X dX10_asks_13 (q := 16) rfl ?_
  refine g_iconst X dX10_asks_16 (q := 17) rfl li_i0 ?_
  refine g_iload_n X dX10_asks_17 (q := 18) rfl 3 rfl ?_
  refine msk_20 X dX10_asks_18 (q := 19) rfl (j := 0) (by decide) (by decide) hs (fun s1 hs => ?_)
  refine g_aload_n X dX10_asks_19 (q := 20) rfl 2 rfl ?_
  refine mg_44 X dX10_asks_20 (q := 23) rfl ?_
  refine g_iconst X dX10_asks_23 (q := 24) rfl li_i1 ?_
  refine g_aload_n X dX10_asks_24 (q := 25) rfl 2 rfl ?_
  refine g_iload_n X dX10_asks_25 (q := 26) rfl 4 rfl ?_
  refine v_wetOf X dX10_asks_26 (q := 29) rfl (Nat.le_of_ble_eq_true rfl) (Nat.le_of_ble_eq_true rfl) (Nat.le_of_ble_eq_true rfl) hs (fun y3 hs => ?_)
  refine msk_20 X dX10_asks_29 (q := 30) rfl (j := 1) (by decide) (by decide) hs (fun s2 hs => ?_)
  refine g_aload_n X dX10_asks_30 (q := 31) rfl 2 rfl ?_
  refine mg_44 X dX10_asks_31 (q := 34) rfl ?_
  refine g_iconst X dX10_asks_34 (q := 35) rfl li_i2 ?_
  refine g_iload_n X dX10_asks_35 (q := 36) rfl 5 rfl ?_
  refine msk_20 X dX10_asks_36 (q := 37) rfl (j := 2) (by decide) (by decide) hs (fun s3 hs => ?_)
  refine g_aload_n X dX10_asks_37 (q := 38) rfl 2 rfl ?_
  refine mg_44 X dX10_asks_38 (q := 41) rfl ?_
  refine g_iconst X dX10_asks_41 (q := 42) rfl li_i3 ?_
  refine g_aload_n X dX10_asks_42 (q := 43) rfl 2 rfl ?_
  refine g_iload_n X dX10_asks_43 (q := 44) rfl 4 rfl ?_
  refine v_besideOf X dX10_asks_44 (q := 47) rfl (Nat.le_of_ble_eq_true rfl) (Nat.le_of_ble_eq_true rfl) (Nat.le_of_ble_eq_true rfl) hs (fun y4 hs => ?_)
  refine msk_20 X dX10_asks_47 (q := 48) rfl (j := 3) (by decide) (by decide) hs (fun s4 hs => ?_)
  refine g_aload_n X dX10_asks_48 (q := 49) rfl 2 rfl ?_
  refine mg_44 X dX10_asks_49 (q := 52) rfl ?_
  refine g_iconst X dX10_asks_52 (q := 53) rfl li_i4 ?_
  refine g_aload_n X dX10_asks_53 (q := 54) rfl 2 rfl ?_
  refine mg_1 X dX10_asks_54 (q := 57) rfl ?_
  refine g_iconst X dX10_asks_57 (q := 58) rfl li_i0 ?_
  refine mk_1 X dX10_asks_58 (q := 59) rfl (j := 0) (by decide) (by decide) hs (fun y5 hs => ?_)
  refine msk_20 X dX10_asks_59 (q := 60) rfl (j := 4) (by decide) (by decide) hs (fun s5 hs => ?_)
  refine g_aload_n X dX10_asks_60 (q := 61) rfl 2 rfl ?_
  refine mg_44 X dX10_asks_61 (q := 64) rfl ?_
  refine g_iconst X dX10_asks_64 (q := 65) rfl li_i5 ?_
  refine g_iload X dX10_asks_65 (q := 67) rfl 1 rfl ?_
  refine jnW1 (fun (a1 : Int32) => WG (KM D cA h) p l e (rmD 4) st m args below meth c Q 6 s5 102 [(0, .ref (h 0)), (2, .int x2)] [.int a1, .int (5 : Int32), .ref (h 20)]) hs (fun a1 hs => ?_) (fun j1 ih1 hs => ?_)
  · refine msk_20 X dX10_asks_102 (q := 103) rfl (j := 5) (by decide) (by decide) hs (fun s6 hs => ?_)
    refine g_aload_n X dX10_asks_103 (q := 104) rfl 0 rfl ?_
    refine mg_44 X dX10_asks_104 (q := 107) rfl ?_
    refine g_bipush X dX10_asks_107 (q := 109) rfl li_b6 ?_
    refine g_aload_n X dX10_asks_109 (q := 110) rfl 0 rfl ?_
    refine g_iload_n X dX10_asks_110 (q := 111) rfl 1 rfl ?_
    refine v_hedgesOf X dX10_asks_111 (q := 114) rfl (Nat.le_of_ble_eq_true rfl) (Nat.le_of_ble_eq_true rfl) (Nat.le_of_ble_eq_true rfl) hs (fun y6 hs => ?_)
    refine msk_20 X dX10_asks_114 (q := 115) rfl (j := 6) (by decide) (by decide) hs (fun s7 hs => ?_)
    refine g_aload_n X dX10_asks_115 (q := 116) rfl 0 rfl ?_
    refine mg_44 X dX10_asks_116 (q := 119) rfl ?_
    refine g_bipush X dX10_asks_119 (q := 121) rfl li_b7 ?_
    refine g_aload_n X dX10_asks_121 (q := 122) rfl 0 rfl ?_
    refine g_iload_n X dX10_asks_122 (q := 123) rfl 1 rfl ?_
    refine v_stormOf X dX10_asks_123 (q := 126) rfl (Nat.le_of_ble_eq_true rfl) (Nat.le_of_ble_eq_true rfl) (Nat.le_of_ble_eq_true rfl) hs (fun y7 hs => ?_)
    refine g_iconst X dX10_asks_126 (q := 127) rfl li_im1 ?_
    refine jnW1 (fun (a2 : Int32) => WG (KM D cA h) p l e (rmD 4) st m args below meth c Q 6 s7 144 [] [.int a2, .int (7 : Int32), .ref (h 20)]) hs (fun a2 hs => ?_) (fun j2 ih2 hs => ?_)
    · refine msk_20 X dX10_asks_144 (q := 145) rfl (j := 7) (by decide) (by decide) hs (fun s8 hs => ?_)
      exact RI _ 145 _ (Option.some.inj hs) dX10_asks_145
    refine g_icmp_ne X dX10_asks_127 (q := 130) rfl (tgt := 134) (by decide) hs ?_ ?_
    · intro hs
      refine g_aload_n X dX10_asks_134 (q := 135) rfl 0 rfl ?_
      refine mg_1 X dX10_asks_135 (q := 138) rfl ?_
      refine g_sipush X dX10_asks_138 (q := 141) rfl li_s261 ?_
      refine g_iload_n X dX10_asks_141 (q := 142) rfl 1 rfl ?_
      refine g_iadd X dX10_asks_142 (q := 143) rfl ?_
      refine ma_1 X dX10_asks_143 (q := 144) rfl hs (fun y8 hs => ?_)
      exact wg_sub [] rfl (ih2 _ hs)
    · intro hs
      refine g_iconst X dX10_asks_130 (q := 131) rfl li_i0 ?_
      refine g_goto X dX10_asks_131 (tgt := 144) (by decide) ?_
      exact wg_sub [] rfl (ih2 _ hs)
  refine jnW0 (WG (KM D cA h) p l e (rmD 4) st m args below meth c Q 6 s5 97 [(0, .ref (h 0)), (2, .int x2)] [.int (5 : Int32), .ref (h 20)]) hs (fun  hs => ?_) (fun j3 ih3 hs => ?_)
  · refine g_iconst X dX10_asks_97 (q := 98) rfl li_i1 ?_
    refine g_goto X dX10_asks_98 (tgt := 102) (by decide) ?_
    exact wg_sub [0, 1] rfl (ih1 _ hs)
  refine g_if_eq X dX10_asks_67 (q := 70) rfl (tgt := 97) (by decide) hs ?_ ?_
  · intro hs
    exact wg_sub [2, 4] rfl (ih3 hs)
  · intro hs
    refine g_iload X dX10_asks_70 (q := 72) rfl 0 rfl ?_
    refine g_if_eq X dX10_asks_72 (q := 75) rfl (tgt := 97) (by decide) hs ?_ ?_
    · intro hs
      exact wg_sub [2, 4] rfl (ih3 hs)
    · intro hs
      refine g_iload X dX10_asks_75 (q := 77) rfl 1 rfl ?_
      refine g_aload_n X dX10_asks_77 (q := 78) rfl 2 rfl ?_
      refine v_wide X dX10_asks_78 (q := 81) rfl (Nat.le_of_ble_eq_true rfl) (Nat.le_of_ble_eq_true rfl) (Nat.le_of_ble_eq_true rfl) hs (fun y9 hs => ?_)
      refine g_iconst X dX10_asks_81 (q := 82) rfl li_i1 ?_
      refine g_isub X dX10_asks_82 (q := 83) rfl ?_
      refine g_icmp_eq X dX10_asks_83 (q := 86) rfl (tgt := 97) (by decide) hs ?_ ?_
      · intro hs
        exact wg_sub [2, 4] rfl (ih3 hs)
      · intro hs
        refine g_iload X dX10_asks_86 (q := 88) rfl 0 rfl ?_
        refine g_aload_n X dX10_asks_88 (q := 89) rfl 2 rfl ?_
        refine v_high X dX10_asks_89 (q := 92) rfl (Nat.le_of_ble_eq_true rfl) (Nat.le_of_ble_eq_true rfl) (Nat.le_of_ble_eq_true rfl) hs (fun y10 hs => ?_)
        refine g_iconst X dX10_asks_92 (q := 93) rfl li_i1 ?_
        refine g_isub X dX10_asks_93 (q := 94) rfl ?_
        refine g_icmp_ne X dX10_asks_94 (q := 97) rfl (tgt := 101) (by decide) hs ?_ ?_
        · intro hs
          refine g_iconst X dX10_asks_101 (q := 102) rfl li_i0 ?_
          exact wg_sub [2, 4] rfl (ih1 _ hs)
        · intro hs
          exact wg_sub [2, 4] rfl (ih3 hs)
theorem v_asks {p : Program} {l : Launch} {e : Env} {st : State} {m : MethodId} {args : Array Value} {below : List Frame} {meth : Method} {c : Code} {Q : State → Prop} {nL : Nat} {cc : ByteArray} {s : ST} {pc q : Nat} {lv : List (Nat × Value)} {rest : List Value} {D : va_G} {cA : ClassId} {h : Nat → Nat} {d0 : Nat} (X : Cx (KM D cA h) p st m args meth c cc nL RX10) {x1 : Int32} {x2 : Int32} {x3 : Int32} (d : decode cc pc = .ok (.invokevirtual 320, 3)) (hq : pc + 3 = q) (hd1 : 4 + 1 ≤ d0) (hd2 : 8 + (6 + 11) + 100 * 4 ≤ 100 * d0) (hr : (rest.map fun v => v.category).sum ≤ 8) {B : Type} {f : ST → Option B} {r : B} (hs : Bd (M_asks s x1 x2 x3) f = some r) (k : ∀ y, f y = some r → WG (KM D cA h) p l e (rmD d0) st m args below meth c Q nL y q lv (rest)) : WG (KM D cA h) p l e (rmD d0) st m args below meth c Q nL s pc lv (.int x3 :: .int x2 :: .int x1 :: .ref (h 0) :: rest) := by
  obtain ⟨v, hv, hs⟩ := Bd_e hs
  exact cV_V X 0 (n := 3) (k_asks l D cA h s x1 x2 x3 hv) gv_X10_asks ⟨hd1, hd2⟩ ⟨by decide, by decide, by decide +kernel⟩ (As := [.int x1, .int x2, .int x3]) rfl hr (Nat.le_of_ble_eq_true rfl) (fs := mF h (s.1 0)) rfl rfl rfl d hq (k _ hs)
