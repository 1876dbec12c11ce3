theorem dX0_forget_0 : decode cX0_forget 0 = .ok (.aload_n 0, 1) := by decide +kernel
theorem dX0_forget_1 : decode cX0_forget 1 = .ok (.iconst 0, 1) := by decide +kernel
theorem dX0_forget_2 : decode cX0_forget 2 = .ok (.putfield 22, 3) := by decide +kernel
theorem dX0_forget_5 : decode cX0_forget 5 = .ok (.return_, 1) := by decide +kernel
def C_X0_forget (s : ST) : ST := Lt (ups s 80 3 (0 : Int32)) fun s1 => s1
set_option maxRecDepth 100000 in
set_option maxHeartbeats 4000000 in
theorem k_X0_forget {h : Nat → Nat} {Z : State → Heap → Prop} {sa : Nat → Nat} (hZ : ZK h Z sa) (l : Launch) (D : va_G) (cA cL : ClassId) (s : ST) : MV l (KC D cA cL h Z) 1 yX0_forget cX0_forget 1 none s [.ref (h 80)] (C_X0_forget s) := by
  refine met_v (by decide) (Nat.le_of_ble_eq_true rfl) ?_
  intro p e st m args below meth c Q X RI
  generalize hs : C_X0_forget s = o at RI
  unfold C_X0_forget at hs
  refine g_aload_n X dX0_forget_0 (q := 1) rfl 0 rfl ?_
  refine g_iconst X dX0_forget_1 (q := 2) rfl li_i0 ?_
  refine cp_0_3 X dX0_forget_2 (q := 5) rfl sh_80 lf_X0_22 hs (fun s1 hs => ?_)
  exact RI _ 5 _ hs dX0_forget_5
theorem dX1_copy_0 : decode cX1_copy 0 = .ok (.aload_n 0, 1) := by decide +kernel
theorem dX1_copy_1 : decode cX1_copy 1 = .ok (.aload_n 1, 1) := by decide +kernel
theorem dX1_copy_2 : decode cX1_copy 2 = .ok (.getfield 30, 3) := by decide +kernel
theorem dX1_copy_5 : decode cX1_copy 5 = .ok (.putfield 30, 3) := by decide +kernel
theorem dX1_copy_8 : decode cX1_copy 8 = .ok (.aload_n 0, 1) := by decide +kernel
theorem dX1_copy_9 : decode cX1_copy 9 = .ok (.aload_n 1, 1) := by decide +kernel
theorem dX1_copy_10 : decode cX1_copy 10 = .ok (.getfield 34, 3) := by decide +kernel
theorem dX1_copy_13 : decode cX1_copy 13 = .ok (.putfield 34, 3) := by decide +kernel
theorem dX1_copy_16 : decode cX1_copy 16 = .ok (.aload_n 0, 1) := by decide +kernel
theorem dX1_copy_17 : decode cX1_copy 17 = .ok (.aload_n 1, 1) := by decide +kernel
theorem dX1_copy_18 : decode cX1_copy 18 = .ok (.getfield 37, 3) := by decide +kernel
theorem dX1_copy_21 : decode cX1_copy 21 = .ok (.putfield 37, 3) := by decide +kernel
theorem dX1_copy_24 : decode cX1_copy 24 = .ok (.aload_n 0, 1) := by decide +kernel
theorem dX1_copy_25 : decode cX1_copy 25 = .ok (.aload_n 1, 1) := by decide +kernel
theorem dX1_copy_26 : decode cX1_copy 26 = .ok (.getfield 40, 3) := by decide +kernel
theorem dX1_copy_29 : decode cX1_copy 29 = .ok (.putfield 40, 3) := by decide +kernel
theorem dX1_copy_32 : decode cX1_copy 32 = .ok (.aload_n 0, 1) := by decide +kernel
theorem dX1_copy_33 : decode cX1_copy 33 = .ok (.aload_n 1, 1) := by decide +kernel
theorem dX1_copy_34 : decode cX1_copy 34 = .ok (.getfield 43, 3) := by decide +kernel
theorem dX1_copy_37 : decode cX1_copy 37 = .ok (.putfield 43, 3) := by decide +kernel
theorem dX1_copy_40 : decode cX1_copy 40 = .ok (.aload_n 0, 1) := by decide +kernel
theorem dX1_copy_41 : decode cX1_copy 41 = .ok (.aload_n 1, 1) := by decide +kernel
theorem dX1_copy_42 : decode cX1_copy 42 = .ok (.getfield 46, 3) := by decide +kernel
theorem dX1_copy_45 : decode cX1_copy 45 = .ok (.putfield 46, 3) := by decide +kernel
theorem dX1_copy_48 : decode cX1_copy 48 = .ok (.aload_n 0, 1) := by decide +kernel
theorem dX1_copy_49 : decode cX1_copy 49 = .ok (.aload_n 1, 1) := by decide +kernel
theorem dX1_copy_50 : decode cX1_copy 50 = .ok (.getfield 68, 3) := by decide +kernel
theorem dX1_copy_53 : decode cX1_copy 53 = .ok (.putfield 68, 3) := by decide +kernel
theorem dX1_copy_56 : decode cX1_copy 56 = .ok (.aload_n 0, 1) := by decide +kernel
theorem dX1_copy_57 : decode cX1_copy 57 = .ok (.aload_n 1, 1) := by decide +kernel
theorem dX1_copy_58 : decode cX1_copy 58 = .ok (.getfield 49, 3) := by decide +kernel
theorem dX1_copy_61 : decode cX1_copy 61 = .ok (.putfield 49, 3) := by decide +kernel
theorem dX1_copy_64 : decode cX1_copy 64 = .ok (.aload_n 0, 1) := by decide +kernel
theorem dX1_copy_65 : decode cX1_copy 65 = .ok (.aload_n 1, 1) := by decide +kernel
theorem dX1_copy_66 : decode cX1_copy 66 = .ok (.getfield 62, 3) := by decide +kernel
theorem dX1_copy_69 : decode cX1_copy 69 = .ok (.putfield 62, 3) := by decide +kernel
theorem dX1_copy_72 : decode cX1_copy 72 = .ok (.aload_n 0, 1) := by decide +kernel
theorem dX1_copy_73 : decode cX1_copy 73 = .ok (.aload_n 1, 1) := by decide +kernel
theorem dX1_copy_74 : decode cX1_copy 74 = .ok (.getfield 65, 3) := by decide +kernel
theorem dX1_copy_77 : decode cX1_copy 77 = .ok (.putfield 65, 3) := by decide +kernel
theorem dX1_copy_80 : decode cX1_copy 80 = .ok (.aload_n 1, 1) := by decide +kernel
theorem dX1_copy_81 : decode cX1_copy 81 = .ok (.getfield 9, 3) := by decide +kernel
theorem dX1_copy_84 : decode cX1_copy 84 = .ok (.iconst 0, 1) := by decide +kernel
theorem dX1_copy_85 : decode cX1_copy 85 = .ok (.aload_n 0, 1) := by decide +kernel
theorem dX1_copy_86 : decode cX1_copy 86 = .ok (.getfield 9, 3) := by decide +kernel
theorem dX1_copy_89 : decode cX1_copy 89 = .ok (.iconst 0, 1) := by decide +kernel
theorem dX1_copy_90 : decode cX1_copy 90 = .ok (.bipush 64, 2) := by decide +kernel
theorem dX1_copy_92 : decode cX1_copy 92 = .ok (.invokestatic 71, 3) := by decide +kernel
theorem dX1_copy_95 : decode cX1_copy 95 = .ok (.aload_n 1, 1) := by decide +kernel
theorem dX1_copy_96 : decode cX1_copy 96 = .ok (.getfield 15, 3) := by decide +kernel
theorem dX1_copy_99 : decode cX1_copy 99 = .ok (.iconst 0, 1) := by decide +kernel
theorem dX1_copy_100 : decode cX1_copy 100 = .ok (.aload_n 0, 1) := by decide +kernel
theorem dX1_copy_101 : decode cX1_copy 101 = .ok (.getfield 15, 3) := by decide +kernel
theorem dX1_copy_104 : decode cX1_copy 104 = .ok (.iconst 0, 1) := by decide +kernel
theorem dX1_copy_105 : decode cX1_copy 105 = .ok (.bipush 64, 2) := by decide +kernel
theorem dX1_copy_107 : decode cX1_copy 107 = .ok (.invokestatic 71, 3) := by decide +kernel
theorem dX1_copy_110 : decode cX1_copy 110 = .ok (.aload_n 1, 1) := by decide +kernel
theorem dX1_copy_111 : decode cX1_copy 111 = .ok (.getfield 18, 3) := by decide +kernel
theorem dX1_copy_114 : decode cX1_copy 114 = .ok (.iconst 0, 1) := by decide +kernel
theorem dX1_copy_115 : decode cX1_copy 115 = .ok (.aload_n 0, 1) := by decide +kernel
theorem dX1_copy_116 : decode cX1_copy 116 = .ok (.getfield 18, 3) := by decide +kernel
theorem dX1_copy_119 : decode cX1_copy 119 = .ok (.iconst 0, 1) := by decide +kernel
theorem dX1_copy_120 : decode cX1_copy 120 = .ok (.bipush 64, 2) := by decide +kernel
theorem dX1_copy_122 : decode cX1_copy 122 = .ok (.invokestatic 71, 3) := by decide +kernel
theorem dX1_copy_125 : decode cX1_copy 125 = .ok (.aload_n 1, 1) := by decide +kernel
theorem dX1_copy_126 : decode cX1_copy 126 = .ok (.getfield 21, 3) := by decide +kernel
theorem dX1_copy_129 : decode cX1_copy 129 = .ok (.iconst 0, 1) := by decide +kernel
theorem dX1_copy_130 : decode cX1_copy 130 = .ok (.aload_n 0, 1) := by decide +kernel
theorem dX1_copy_131 : decode cX1_copy 131 = .ok (.getfield 21, 3) := by decide +kernel
theorem dX1_copy_134 : decode cX1_copy 134 = .ok (.iconst 0, 1) := by decide +kernel
theorem dX1_copy_135 : decode cX1_copy 135 = .ok (.bipush 64, 2) := by decide +kernel
theorem dX1_copy_137 : decode cX1_copy 137 = .ok (.invokestatic 71, 3) := by decide +kernel
theorem dX1_copy_140 : decode cX1_copy 140 = .ok (.aload_n 1, 1) := by decide +kernel
theorem dX1_copy_141 : decode cX1_copy 141 = .ok (.getfield 24, 3) := by decide +kernel
theorem dX1_copy_144 : decode cX1_copy 144 = .ok (.iconst 0, 1) := by decide +kernel
theorem dX1_copy_145 : decode cX1_copy 145 = .ok (.aload_n 0, 1) := by decide +kernel
theorem dX1_copy_146 : decode cX1_copy 146 = .ok (.getfield 24, 3) := by decide +kernel
theorem dX1_copy_149 : decode cX1_copy 149 = .ok (.iconst 0, 1) := by decide +kernel
theorem dX1_copy_150 : decode cX1_copy 150 = .ok (.bipush 64, 2) := by decide +kernel
theorem dX1_copy_152 : decode cX1_copy 152 = .ok (.invokestatic 71, 3) := by decide +kernel
theorem dX1_copy_155 : decode cX1_copy 155 = .ok (.aload_n 1, 1) := by decide +kernel
theorem dX1_copy_156 : decode cX1_copy 156 = .ok (.getfield 27, 3) := by decide +kernel
theorem dX1_copy_159 : decode cX1_copy 159 = .ok (.iconst 0, 1) := by decide +kernel
theorem dX1_copy_160 : decode cX1_copy 160 = .ok (.aload_n 0, 1) := by decide +kernel
theorem dX1_copy_161 : decode cX1_copy 161 = .ok (.getfield 27, 3) := by decide +kernel
theorem dX1_copy_164 : decode cX1_copy 164 = .ok (.iconst 0, 1) := by decide +kernel
theorem dX1_copy_165 : decode cX1_copy 165 = .ok (.bipush 64, 2) := by decide +kernel
theorem dX1_copy_167 : decode cX1_copy 167 = .ok (.invokestatic 71, 3) := by decide +kernel
theorem dX1_copy_170 : decode cX1_copy 170 = .ok (.return_, 1) := by decide +kernel
def C_X1_copy (s : ST) (b0 : Nat) (x1 : Nat) : Option (ST) := Lt (ups s b0 0 (s.1 x1 0)) fun s1 => Lt (ups s1 b0 1 (s1.1 x1 1)) fun s2 => Lt (ups s2 b0 2 (s2.1 x1 2)) fun s3 => Lt (ups s3 b0 3 (s3.1 x1 3)) fun s4 => Lt (ups s4 b0 4 (s4.1 x1 4)) fun s5 => Lt (ups s5 b0 5 (s5.1 x1 5)) fun s6 => Lt (ups s6 b0 6 (s6.1 x1 6)) fun s7 => Lt (upl s7 b0 7 (s7.2 x1 7)) fun s8 => Lt (upl s8 b0 8 (s8.2 x1 8)) fun s9 => Lt (upl s9 b0 9 (s9.2 x1 9)) fun s10 => Gcp s10 (x1 + 1) 64 (b0 + 1) 64 (0 : Int32) (0 : Int32) (64 : Int32) fun s11 => Gcp s11 (x1 + 2) 64 (b0 + 2) 64 (0 : Int32) (0 : Int32) (64 : Int32) fun s12 => Gcp s12 (x1 + 3) 64 (b0 + 3) 64 (0 : Int32) (0 : Int32) (64 : Int32) fun s13 => Gcp s13 (x1 + 4) 64 (b0 + 4) 64 (0 : Int32) (0 : Int32) (64 : Int32) fun s14 => Gcp s14 (x1 + 5) 64 (b0 + 5) 64 (0 : Int32) (0 : Int32) (64 : Int32) fun s15 => Gcp s15 (x1 + 6) 64 (b0 + 6) 64 (0 : Int32) (0 : Int32) (64 : Int32) fun s16 => some s16
set_option maxRecDepth 100000 in
set_option maxHeartbeats 4000000 in
theorem k_X1_copy {h : Nat → Nat} {Z : State → Heap → Prop} {sa : Nat → Nat} (hZ : ZK h Z sa) (l : Launch) (D : va_G) (cA cL : ClassId) (s : ST) (b0 : Nat) (x1 : Nat) (hb0 : isK 1 b0) (hx1 : isK 1 x1) {o : ST} (hs : C_X1_copy s b0 x1 = some o) : MV l (KC D cA cL h Z) 2 yX1_copy cX1_copy 2 none s [.ref (h b0), .ref (h x1)] o := by
  refine met_v (by decide) (Nat.le_of_ble_eq_true rfl) ?_
  intro p e st m args below meth c Q X RI
  unfold C_X1_copy at hs
  refine g_aload_n X dX1_copy_0 (q := 1) rfl 0 rfl ?_
  refine g_aload_n X dX1_copy_1 (q := 2) rfl 1 rfl ?_
  refine cg_1_0 X dX1_copy_2 (q := 5) rfl hx1 lf_X1_30 ?_
  refine cp_1_0 X dX1_copy_5 (q := 8) rfl hb0 lf_X1_30 hs (fun s1 hs => ?_)
  refine g_aload_n X dX1_copy_8 (q := 9) rfl 0 rfl ?_
  refine g_aload_n X dX1_copy_9 (q := 10) rfl 1 rfl ?_
  refine cg_1_1 X dX1_copy_10 (q := 13) rfl hx1 lf_X1_34 ?_
  refine cp_1_1 X dX1_copy_13 (q := 16) rfl hb0 lf_X1_34 hs (fun s2 hs => ?_)
  refine g_aload_n X dX1_copy_16 (q := 17) rfl 0 rfl ?_
  refine g_aload_n X dX1_copy_17 (q := 18) rfl 1 rfl ?_
  refine cg_1_2 X dX1_copy_18 (q := 21) rfl hx1 lf_X1_37 ?_
  refine cp_1_2 X dX1_copy_21 (q := 24) rfl hb0 lf_X1_37 hs (fun s3 hs => ?_)
  refine g_aload_n X dX1_copy_24 (q := 25) rfl 0 rfl ?_
  refine g_aload_n X dX1_copy_25 (q := 26) rfl 1 rfl ?_
  refine cg_1_3 X dX1_copy_26 (q := 29) rfl hx1 lf_X1_40 ?_
  refine cp_1_3 X dX1_copy_29 (q := 32) rfl hb0 lf_X1_40 hs (fun s4 hs => ?_)
  refine g_aload_n X dX1_copy_32 (q := 33) rfl 0 rfl ?_
  refine g_aload_n X dX1_copy_33 (q := 34) rfl 1 rfl ?_
  refine cg_1_4 X dX1_copy_34 (q := 37) rfl hx1 lf_X1_43 ?_
  refine cp_1_4 X dX1_copy_37 (q := 40) rfl hb0 lf_X1_43 hs (fun s5 hs => ?_)
  refine g_aload_n X dX1_copy_40 (q := 41) rfl 0 rfl ?_
  refine g_aload_n X dX1_copy_41 (q := 42) rfl 1 rfl ?_
  refine cg_1_5 X dX1_copy_42 (q := 45) rfl hx1 lf_X1_46 ?_
  refine cp_1_5 X dX1_copy_45 (q := 48) rfl hb0 lf_X1_46 hs (fun s6 hs => ?_)
  refine g_aload_n X dX1_copy_48 (q := 49) rfl 0 rfl ?_
  refine g_aload_n X dX1_copy_49 (q := 50) rfl 1 rfl ?_
  refine cg_1_6 X dX1_copy_50 (q := 53) rfl hx1 lf_X1_68 ?_
  refine cp_1_6 X dX1_copy_53 (q := 56) rfl hb0 lf_X1_68 hs (fun s7 hs => ?_)
  refine g_aload_n X dX1_copy_56 (q := 57) rfl 0 rfl ?_
  refine g_aload_n X dX1_copy_57 (q := 58) rfl 1 rfl ?_
  refine cg_1_7 X dX1_copy_58 (q := 61) rfl hx1 lf_X1_49 ?_
  refine cp_1_7 X dX1_copy_61 (q := 64) rfl hb0 lf_X1_49 hs (fun s8 hs => ?_)
  refine g_aload_n X dX1_copy_64 (q := 65) rfl 0 rfl ?_
  refine g_aload_n X dX1_copy_65 (q := 66) rfl 1 rfl ?_
  refine cg_1_8 X dX1_copy_66 (q := 69) rfl hx1 lf_X1_62 ?_
  refine cp_1_8 X dX1_copy_69 (q := 72) rfl hb0 lf_X1_62 hs (fun s9 hs => ?_)
  refine g_aload_n X dX1_copy_72 (q := 73) rfl 0 rfl ?_
  refine g_aload_n X dX1_copy_73 (q := 74) rfl 1 rfl ?_
  refine cg_1_9 X dX1_copy_74 (q := 77) rfl hx1 lf_X1_65 ?_
  refine cp_1_9 X dX1_copy_77 (q := 80) rfl hb0 lf_X1_65 hs (fun s10 hs => ?_)
  refine g_aload_n X dX1_copy_80 (q := 81) rfl 1 rfl ?_
  refine cg_1_10 X dX1_copy_81 (q := 84) rfl hx1 lf_X1_9 ?_
  refine g_iconst X dX1_copy_84 (q := 85) rfl li_i0 ?_
  refine g_aload_n X dX1_copy_85 (q := 86) rfl 0 rfl ?_
  refine cg_1_10 X dX1_copy_86 (q := 89) rfl hb0 lf_X1_9 ?_
  refine g_iconst X dX1_copy_89 (q := 90) rfl li_i0 ?_
  refine g_bipush X dX1_copy_90 (q := 92) rfl li_b64 ?_
  refine ca_copy X dX1_copy_92 (q := 95) rfl ml_X1_71 (x1 + 1) (b0 + 1) (sub_X1_wet hx1) (sub_X1_wet hb0) (len_X1_wet hx1) (len_X1_wet hb0) (Nat.le_of_ble_eq_true rfl) (Nat.le_of_ble_eq_true rfl) hs (fun s11 hs => ?_)
  refine g_aload_n X dX1_copy_95 (q := 96) rfl 1 rfl ?_
  refine cg_1_11 X dX1_copy_96 (q := 99) rfl hx1 lf_X1_15 ?_
  refine g_iconst X dX1_copy_99 (q := 100) rfl li_i0 ?_
  refine g_aload_n X dX1_copy_100 (q := 101) rfl 0 rfl ?_
  refine cg_1_11 X dX1_copy_101 (q := 104) rfl hb0 lf_X1_15 ?_
  refine g_iconst X dX1_copy_104 (q := 105) rfl li_i0 ?_
  refine g_bipush X dX1_copy_105 (q := 107) rfl li_b64 ?_
  refine ca_copy X dX1_copy_107 (q := 110) rfl ml_X1_71 (x1 + 2) (b0 + 2) (sub_X1_seedKind hx1) (sub_X1_seedKind hb0) (len_X1_seedKind hx1) (len_X1_seedKind hb0) (Nat.le_of_ble_eq_true rfl) (Nat.le_of_ble_eq_true rfl) hs (fun s12 hs => ?_)
  refine g_aload_n X dX1_copy_110 (q := 111) rfl 1 rfl ?_
  refine cg_1_12 X dX1_copy_111 (q := 114) rfl hx1 lf_X1_18 ?_
  refine g_iconst X dX1_copy_114 (q := 115) rfl li_i0 ?_
  refine g_aload_n X dX1_copy_115 (q := 116) rfl 0 rfl ?_
  refine cg_1_12 X dX1_copy_116 (q := 119) rfl hb0 lf_X1_18 ?_
  refine g_iconst X dX1_copy_119 (q := 120) rfl li_i0 ?_
  refine g_bipush X dX1_copy_120 (q := 122) rfl li_b64 ?_
  refine ca_copy X dX1_copy_122 (q := 125) rfl ml_X1_71 (x1 + 3) (b0 + 3) (sub_X1_sown hx1) (sub_X1_sown hb0) (len_X1_sown hx1) (len_X1_sown hb0) (Nat.le_of_ble_eq_true rfl) (Nat.le_of_ble_eq_true rfl) hs (fun s13 hs => ?_)
  refine g_aload_n X dX1_copy_125 (q := 126) rfl 1 rfl ?_
  refine cg_1_13 X dX1_copy_126 (q := 129) rfl hx1 lf_X1_21 ?_
  refine g_iconst X dX1_copy_129 (q := 130) rfl li_i0 ?_
  refine g_aload_n X dX1_copy_130 (q := 131) rfl 0 rfl ?_
  refine cg_1_13 X dX1_copy_131 (q := 134) rfl hb0 lf_X1_21 ?_
  refine g_iconst X dX1_copy_134 (q := 135) rfl li_i0 ?_
  refine g_bipush X dX1_copy_135 (q := 137) rfl li_b64 ?_
  refine ca_copy X dX1_copy_137 (q := 140) rfl ml_X1_71 (x1 + 4) (b0 + 4) (sub_X1_stormKind hx1) (sub_X1_stormKind hb0) (len_X1_stormKind hx1) (len_X1_stormKind hb0) (Nat.le_of_ble_eq_true rfl) (Nat.le_of_ble_eq_true rfl) hs (fun s14 hs => ?_)
  refine g_aload_n X dX1_copy_140 (q := 141) rfl 1 rfl ?_
  refine cg_1_14 X dX1_copy_141 (q := 144) rfl hx1 lf_X1_24 ?_
  refine g_iconst X dX1_copy_144 (q := 145) rfl li_i0 ?_
  refine g_aload_n X dX1_copy_145 (q := 146) rfl 0 rfl ?_
  refine cg_1_14 X dX1_copy_146 (q := 149) rfl hb0 lf_X1_24 ?_
  refine g_iconst X dX1_copy_149 (q := 150) rfl li_i0 ?_
  refine g_bipush X dX1_copy_150 (q := 152) rfl li_b64 ?_
  refine ca_copy X dX1_copy_152 (q := 155) rfl ml_X1_71 (x1 + 5) (b0 + 5) (sub_X1_gusts hx1) (sub_X1_gusts hb0) (len_X1_gusts hx1) (len_X1_gusts hb0) (Nat.le_of_ble_eq_true rfl) (Nat.le_of_ble_eq_true rfl) hs (fun s15 hs => ?_)
  refine g_aload_n X dX1_copy_155 (q := 156) rfl 1 rfl ?_
  refine cg_1_15 X dX1_copy_156 (q := 159) rfl hx1 lf_X1_27 ?_
  refine g_iconst X dX1_copy_159 (q := 160) rfl li_i0 ?_
  refine g_aload_n X dX1_copy_160 (q := 161) rfl 0 rfl ?_
  refine cg_1_15 X dX1_copy_161 (q := 164) rfl hb0 lf_X1_27 ?_
  refine g_iconst X dX1_copy_164 (q := 165) rfl li_i0 ?_
  refine g_bipush X dX1_copy_165 (q := 167) rfl li_b64 ?_
  refine ca_copy X dX1_copy_167 (q := 170) rfl ml_X1_71 (x1 + 6) (b0 + 6) (sub_X1_ends hx1) (sub_X1_ends hb0) (len_X1_ends hx1) (len_X1_ends hb0) (Nat.le_of_ble_eq_true rfl) (Nat.le_of_ble_eq_true rfl) hs (fun s16 hs => ?_)
  exact RI _ 170 _ (Option.some.inj hs) dX1_copy_170
theorem dX0_keep_0 : decode cX0_keep 0 = .ok (.aload_n 0, 1) := by decide +kernel
theorem dX0_keep_1 : decode cX0_keep 1 = .ok (.getfield 22, 3) := by decide +kernel
theorem dX0_keep_4 : decode cX0_keep 4 = .ok (.bipush 6, 2) := by decide +kernel
theorem dX0_keep_6 : decode cX0_keep 6 = .ok (.if_icmp .ne 26, 3) := by decide +kernel
theorem dX0_keep_9 : decode cX0_keep 9 = .ok (.aload_n 0, 1) := by decide +kernel
theorem dX0_keep_10 : decode cX0_keep 10 = .ok (.aload_n 0, 1) := by decide +kernel
theorem dX0_keep_11 : decode cX0_keep 11 = .ok (.getfield 26, 3) := by decide +kernel
theorem dX0_keep_14 : decode cX0_keep 14 = .ok (.iconst 1, 1) := by decide +kernel
theorem dX0_keep_15 : decode cX0_keep 15 = .ok (.iadd, 1) := by decide +kernel
theorem dX0_keep_16 : decode cX0_keep 16 = .ok (.bipush 6, 2) := by decide +kernel
theorem dX0_keep_18 : decode cX0_keep 18 = .ok (.irem, 1) := by decide +kernel
theorem dX0_keep_19 : decode cX0_keep 19 = .ok (.putfield 26, 3) := by decide +kernel
theorem dX0_keep_22 : decode cX0_keep 22 = .ok (.aload_n 0, 1) := by decide +kernel
theorem dX0_keep_23 : decode cX0_keep 23 = .ok (.dup, 1) := by decide +kernel
theorem dX0_keep_24 : decode cX0_keep 24 = .ok (.getfield 22, 3) := by decide +kernel
theorem dX0_keep_27 : decode cX0_keep 27 = .ok (.iconst 1, 1) := by decide +kernel
theorem dX0_keep_28 : decode cX0_keep 28 = .ok (.isub, 1) := by decide +kernel
theorem dX0_keep_29 : decode cX0_keep 29 = .ok (.putfield 22, 3) := by decide +kernel
theorem dX0_keep_32 : decode cX0_keep 32 = .ok (.aload_n 0, 1) := by decide +kernel
theorem dX0_keep_33 : decode cX0_keep 33 = .ok (.getfield 26, 3) := by decide +kernel
theorem dX0_keep_36 : decode cX0_keep 36 = .ok (.aload_n 0, 1) := by decide +kernel
theorem dX0_keep_37 : decode cX0_keep 37 = .ok (.getfield 22, 3) := by decide +kernel
theorem dX0_keep_40 : decode cX0_keep 40 = .ok (.iadd, 1) := by decide +kernel
theorem dX0_keep_41 : decode cX0_keep 41 = .ok (.bipush 6, 2) := by decide +kernel
theorem dX0_keep_43 : decode cX0_keep 43 = .ok (.irem, 1) := by decide +kernel
theorem dX0_keep_44 : decode cX0_keep 44 = .ok (.istore_n 3, 1) := by decide +kernel
theorem dX0_keep_45 : decode cX0_keep 45 = .ok (.aload_n 0, 1) := by decide +kernel
theorem dX0_keep_46 : decode cX0_keep 46 = .ok (.getfield 11, 3) := by decide +kernel
theorem dX0_keep_49 : decode cX0_keep 49 = .ok (.iload_n 3, 1) := by decide +kernel
theorem dX0_keep_50 : decode cX0_keep 50 = .ok (.aaload, 1) := by decide +kernel
theorem dX0_keep_51 : decode cX0_keep 51 = .ok (.astore 4, 2) := by decide +kernel
theorem dX0_keep_53 : decode cX0_keep 53 = .ok (.aload 4, 2) := by decide +kernel
theorem dX0_keep_55 : decode cX0_keep 55 = .ok (.ifnull 9, 3) := by decide +kernel
theorem dX0_keep_58 : decode cX0_keep 58 = .ok (.aload 4, 2) := by decide +kernel
theorem dX0_keep_60 : decode cX0_keep 60 = .ok (.aload_n 1, 1) := by decide +kernel
theorem dX0_keep_61 : decode cX0_keep 61 = .ok (.invokevirtual 29, 3) := by decide +kernel
theorem dX0_keep_64 : decode cX0_keep 64 = .ok (.aload_n 0, 1) := by decide +kernel
theorem dX0_keep_65 : decode cX0_keep 65 = .ok (.getfield 17, 3) := by decide +kernel
theorem dX0_keep_68 : decode cX0_keep 68 = .ok (.iload_n 3, 1) := by decide +kernel
theorem dX0_keep_69 : decode cX0_keep 69 = .ok (.aload_n 2, 1) := by decide +kernel
theorem dX0_keep_70 : decode cX0_keep 70 = .ok (.getfield 33, 3) := by decide +kernel
theorem dX0_keep_73 : decode cX0_keep 73 = .ok (.iastore, 1) := by decide +kernel
theorem dX0_keep_74 : decode cX0_keep 74 = .ok (.aload_n 0, 1) := by decide +kernel
theorem dX0_keep_75 : decode cX0_keep 75 = .ok (.dup, 1) := by decide +kernel
theorem dX0_keep_76 : decode cX0_keep 76 = .ok (.getfield 22, 3) := by decide +kernel
theorem dX0_keep_79 : decode cX0_keep 79 = .ok (.iconst 1, 1) := by decide +kernel
theorem dX0_keep_80 : decode cX0_keep 80 = .ok (.iadd, 1) := by decide +kernel
theorem dX0_keep_81 : decode cX0_keep 81 = .ok (.putfield 22, 3) := by decide +kernel
theorem dX0_keep_84 : decode cX0_keep 84 = .ok (.return_, 1) := by decide +kernel
theorem wX1_copy_X0 : Cond.methodLinkNest RX0 29 yX1_copy "StormSeeds" ∈ NW := nw_of 924 (by decide +kernel) rfl
theorem vc_X1_copy_X0 {p : Program} {l : Launch} {e : Env} {st : State} {m : MethodId} {args : Array Value} {below : List Frame} {meth : Method} {c : Code} {Q : State → Prop} {nL : Nat} {cc : ByteArray} {s : ST} {pc q : Nat} {lv : List (Nat × Value)} {rest : List Value} {D : va_G} {cA cL : ClassId} {h : Nat → Nat} {Z : State → Heap → Prop} {sa : Nat → Nat} (hZ : ZK h Z sa) {d0 : Nat} (X : Cx (KC D cA cL h Z) p st m args meth c cc nL RX0) {b0 : Nat} {x1 : Nat} (d : decode cc pc = .ok (.invokevirtual 29, 3)) (hq : pc + 3 = q) (hb0 : isK 1 b0) (hx1 : isK 1 x1) (hd1 : 2 + 1 ≤ d0) (hd2 : 8 + (2 + 11) + 100 * 2 ≤ 100 * d0) (hr : (rest.map fun v => v.category).sum ≤ 8) {B : Type} {f : ST → Option B} {r : B} (hs : Bd (C_X1_copy s b0 x1) f = some r) (k : ∀ y, f y = some r → WG (KC D cA cL h Z) p l e (rmD d0) st m args below meth c Q nL y q lv (rest)) : WG (KC D cA cL h Z) p l e (rmD d0) st m args below meth c Q nL s pc lv (.ref (h x1) :: .ref (h b0) :: rest) := by
  obtain ⟨v, hv, hs⟩ := Bd_e hs
  exact cVN_V (K := KC D cA cL h Z) X b0 (n := 1) (k_X1_copy hZ l D cA cL s b0 x1 hb0 hx1 hv) (gt_c (gt_of 927 (by decide +kernel) rfl) gt_t) (hZ.1 st st.heap X.2.2.2 _ wX1_copy_X0) (gt_of 197 (by decide +kernel) rfl) (gt_of 926 (by decide +kernel) rfl) (gt_of 52 (by decide +kernel) rfl) ⟨hd1, hd2⟩ ⟨by decide, by decide, by decide +kernel⟩ (As := [.ref (h x1)]) rfl hr (hb0).1 (fs := cF1 h b0 (s.1 b0) (s.2 b0)) (GC_1 (cA := cA) (cL := cL) hb0 _ _) rfl rfl d hq (k _ hs)
def C_X0_keep (s : ST) : Option (ST) := Lt (fun (s1 : ST) => (Lt ((irm ((s1.1 80 2) + (s1.1 80 3)) (6 : Int32))) fun y1 => Ga y1 fun b1 => Lt (fun (s2 : ST) => (Gs s2 82 6 y1 (s2.1 23 2) fun s3 => Lt (ups s3 80 3 ((s3.1 80 3) + (1 : Int32))) fun s4 => some s4 : Option (ST))) fun j2 => Bd (C_X1_copy s1 b1 1) fun s5 => j2 s5 : Option (ST))) fun j1 => if (s.1 80 3) = (6 : Int32) then (Lt (ups s 80 2 (irm ((s.1 80 2) + (1 : Int32)) (6 : Int32))) fun s6 => Lt (ups s6 80 3 ((s6.1 80 3) - (1 : Int32))) fun s7 => j1 s7) else (j1 s)
set_option maxRecDepth 100000 in
set_option maxHeartbeats 4000000 in
theorem k_X0_keep {h : Nat → Nat} {Z : State → Heap → Prop} {sa : Nat → Nat} (hZ : ZK h Z sa) (l : Launch) (D : va_G) (cA cL : ClassId) (s : ST) {o : ST} (hs : C_X0_keep s = some o) : MV l (KC D cA cL h Z) 3 yX0_keep cX0_keep 5 none s [.ref (h 80), .ref (h 1), .ref (h 23)] o := by
  refine met_v (by decide) (Nat.le_of_ble_eq_true rfl) ?_
  intro p e st m args below meth c Q X RI
  unfold C_X0_keep at hs
  refine g_aload_n X dX0_keep_0 (q := 1) rfl 0 rfl ?_
  refine cg_0_3 X dX0_keep_1 (q := 4) rfl sh_80 lf_X0_22 ?_
  refine g_bipush X dX0_keep_4 (q := 6) rfl li_b6 ?_
  refine jnW1 (fun (s1 : ST) => WG (KC D cA cL h Z) p l e (rmD 3) st m args below meth c Q 5 s1 32 [(0, .ref (h 80)), (1, .ref (h 1)), (2, .ref (h 23))] []) hs (fun s1 hs => ?_) (fun j1 ih1 hs => ?_)
  · refine g_aload_n X dX0_keep_32 (q := 33) rfl 0 rfl ?_
    refine cg_0_2 X dX0_keep_33 (q := 36) rfl sh_80 lf_X0_26 ?_
    refine g_aload_n X dX0_keep_36 (q := 37) rfl 0 rfl ?_
    refine cg_0_3 X dX0_keep_37 (q := 40) rfl sh_80 lf_X0_22 ?_
    refine g_iadd X dX0_keep_40 (q := 41) rfl ?_
    refine g_bipush X dX0_keep_41 (q := 43) rfl li_b6 ?_
    refine g_irem X dX0_keep_43 (q := 44) rfl (by decide) ?_
    refine nmI hs (fun y1 hs => ?_)
    refine g_istore_n X dX0_keep_44 (q := 45) rfl (Nat.le_of_ble_eq_true rfl) (lv' := [(3, .int y1), (0, .ref (h 80)), (1, .ref (h 1)), (2, .ref (h 23))]) rfl ?_
    refine g_aload_n X dX0_keep_45 (q := 46) rfl 1 rfl ?_
    refine cg_0_0 X dX0_keep_46 (q := 49) rfl sh_80 lf_X0_11 ?_
    refine g_iload_n X dX0_keep_49 (q := 50) rfl 0 rfl ?_
    refine ca_lands X dX0_keep_50 (q := 51) rfl hs (fun b1 hb1 hs => ?_)
    refine g_astore X dX0_keep_51 (q := 53) rfl (Nat.le_of_ble_eq_true rfl) (lv' := [(4, .ref (h b1)), (3, .int y1), (0, .ref (h 80)), (1, .ref (h 1)), (2, .ref (h 23))]) rfl ?_
    refine g_aload X dX0_keep_53 (q := 55) rfl 0 rfl ?_
    refine jnW1 (fun (s2 : ST) => WG (KC D cA cL h Z) p l e (rmD 3) st m args below meth c Q 5 s2 64 [(0, .ref (h 80)), (2, .ref (h 23)), (3, .int y1)] []) hs (fun s2 hs => ?_) (fun j2 ih2 hs => ?_)
    · refine g_aload_n X dX0_keep_64 (q := 65) rfl 0 rfl ?_
      refine cg_0_1 X dX0_keep_65 (q := 68) rfl sh_80 lf_X0_17 ?_
      refine g_iload_n X dX0_keep_68 (q := 69) rfl 2 rfl ?_
      refine g_aload_n X dX0_keep_69 (q := 70) rfl 1 rfl ?_
      refine cgN_4_2 hZ X dX0_keep_70 (q := 73) rfl sh_23 lf_X0_33 ?_
      refine ca_st X dX0_keep_73 (q := 74) rfl 82 sh_82 rfl hs (fun s3 hs => ?_)
      refine g_aload_n X dX0_keep_74 (q := 75) rfl 0 rfl ?_
      refine g_dup X dX0_keep_75 (q := 76) rfl rfl ?_
      refine cg_0_3 X dX0_keep_76 (q := 79) rfl sh_80 lf_X0_22 ?_
      refine g_iconst X dX0_keep_79 (q := 80) rfl li_i1 ?_
      refine g_iadd X dX0_keep_80 (q := 81) rfl ?_
      refine cp_0_3 X dX0_keep_81 (q := 84) rfl sh_80 lf_X0_22 hs (fun s4 hs => ?_)
      exact RI _ 84 _ (Option.some.inj hs) dX0_keep_84
    refine g_ifnull X dX0_keep_55 (q := 58) rfl ?_
    refine g_aload X dX0_keep_58 (q := 60) rfl 0 rfl ?_
    refine g_aload_n X dX0_keep_60 (q := 61) rfl 3 rfl ?_
    refine vc_X1_copy_X0 hZ X dX0_keep_61 (q := 64) rfl hb1 sh_1 (Nat.le_of_ble_eq_true rfl) (Nat.le_of_ble_eq_true rfl) (Nat.le_of_ble_eq_true rfl) hs (fun s5 hs => ?_)
    exact wg_sub [2, 4, 1] rfl (ih2 _ hs)
  refine g_icmp_ne X dX0_keep_6 (q := 9) rfl (tgt := 32) (by decide) hs ?_ ?_
  · intro hs
    exact wg_sub [0, 1, 2] rfl (ih1 _ hs)
  · intro hs
    refine g_aload_n X dX0_keep_9 (q := 10) rfl 0 rfl ?_
    refine g_aload_n X dX0_keep_10 (q := 11) rfl 0 rfl ?_
    refine cg_0_2 X dX0_keep_11 (q := 14) rfl sh_80 lf_X0_26 ?_
    refine g_iconst X dX0_keep_14 (q := 15) rfl li_i1 ?_
    refine g_iadd X dX0_keep_15 (q := 16) rfl ?_
    refine g_bipush X dX0_keep_16 (q := 18) rfl li_b6 ?_
    refine g_irem X dX0_keep_18 (q := 19) rfl (by decide) ?_
    refine cp_0_2 X dX0_keep_19 (q := 22) rfl sh_80 lf_X0_26 hs (fun s6 hs => ?_)
    refine g_aload_n X dX0_keep_22 (q := 23) rfl 0 rfl ?_
    refine g_dup X dX0_keep_23 (q := 24) rfl rfl ?_
    refine cg_0_3 X dX0_keep_24 (q := 27) rfl sh_80 lf_X0_22 ?_
    refine g_iconst X dX0_keep_27 (q := 28) rfl li_i1 ?_
    refine g_isub X dX0_keep_28 (q := 29) rfl ?_
    refine cp_0_3 X dX0_keep_29 (q := 32) rfl sh_80 lf_X0_22 hs (fun s7 hs => ?_)
    exact wg_sub [0, 1, 2] rfl (ih1 _ hs)
theorem dX4_cut_0 : decode cX4_cut 0 = .ok (.aload_n 0, 1) := by decide +kernel
theorem dX4_cut_1 : decode cX4_cut 1 = .ok (.iconst 0, 1) := by decide +kernel
theorem dX4_cut_2 : decode cX4_cut 2 = .ok (.iload_n 1, 1) := by decide +kernel
theorem dX4_cut_3 : decode cX4_cut 3 = .ok (.aload_n 0, 1) := by decide +kernel
theorem dX4_cut_4 : decode cX4_cut 4 = .ok (.getfield 25, 3) := by decide +kernel
theorem dX4_cut_7 : decode cX4_cut 7 = .ok (.invokestatic 32, 3) := by decide +kernel
theorem dX4_cut_10 : decode cX4_cut 10 = .ok (.invokestatic 9, 3) := by decide +kernel
theorem dX4_cut_13 : decode cX4_cut 13 = .ok (.putfield 25, 3) := by decide +kernel
theorem dX4_cut_16 : decode cX4_cut 16 = .ok (.return_, 1) := by decide +kernel
def C_X4_cut (s : ST) (b0 : Nat) (x1 : Int32) : ST := Lt (ups s b0 2 (imx (0 : Int32) (imn x1 (s.1 b0 2)))) fun s1 => s1
set_option maxRecDepth 100000 in
set_option maxHeartbeats 4000000 in
theorem k_X4_cut {h : Nat → Nat} {Z : State → Heap → Prop} {sa : Nat → Nat} (hZ : ZK h Z sa) (l : Launch) (D : va_G) (cA cL : ClassId) (s : ST) (b0 : Nat) (x1 : Int32) (hb0 : isK 4 b0) : MV l (KC D cA cL h Z) 2 yX4_cut cX4_cut 2 none s [.ref (h b0), .int x1] (C_X4_cut s b0 x1) := by
  refine met_v (by decide) (Nat.le_of_ble_eq_true rfl) ?_
  intro p e st m args below meth c Q X RI
  generalize hs : C_X4_cut s b0 x1 = o at RI
  unfold C_X4_cut at hs
  refine g_aload_n X dX4_cut_0 (q := 1) rfl 0 rfl ?_
  refine g_iconst X dX4_cut_1 (q := 2) rfl li_i0 ?_
  refine g_iload_n X dX4_cut_2 (q := 3) rfl 1 rfl ?_
  refine g_aload_n X dX4_cut_3 (q := 4) rfl 0 rfl ?_
  refine cg_4_2 X dX4_cut_4 (q := 7) rfl hb0 lf_X4_25 ?_
  refine cm_min X dX4_cut_7 (q := 10) rfl ml_X4_32 (Nat.le_of_ble_eq_true rfl) (Nat.le_of_ble_eq_true rfl) (Nat.le_of_ble_eq_true rfl) ?_
  refine cm_max X dX4_cut_10 (q := 13) rfl ml_X4_9 (Nat.le_of_ble_eq_true rfl) (Nat.le_of_ble_eq_true rfl) (Nat.le_of_ble_eq_true rfl) ?_
  refine cp_4_2 X dX4_cut_13 (q := 16) rfl hb0 lf_X4_25 hs (fun s1 hs => ?_)
  exact RI _ 16 _ hs dX4_cut_16
theorem dX0_goBack_0 : decode cX0_goBack 0 = .ok (.aload_n 0, 1) := by decide +kernel
theorem dX0_goBack_1 : decode cX0_goBack 1 = .ok (.getfield 22, 3) := by decide +kernel
theorem dX0_goBack_4 : decode cX0_goBack 4 = .ok (.ifCond .ne 5, 3) := by decide +kernel
theorem dX0_goBack_7 : decode cX0_goBack 7 = .ok (.iconst 0, 1) := by decide +kernel
theorem dX0_goBack_8 : decode cX0_goBack 8 = .ok (.ireturn, 1) := by decide +kernel
theorem dX0_goBack_9 : decode cX0_goBack 9 = .ok (.aload_n 0, 1) := by decide +kernel
theorem dX0_goBack_10 : decode cX0_goBack 10 = .ok (.dup, 1) := by decide +kernel
theorem dX0_goBack_11 : decode cX0_goBack 11 = .ok (.getfield 22, 3) := by decide +kernel
theorem dX0_goBack_14 : decode cX0_goBack 14 = .ok (.iconst 1, 1) := by decide +kernel
theorem dX0_goBack_15 : decode cX0_goBack 15 = .ok (.isub, 1) := by decide +kernel
theorem dX0_goBack_16 : decode cX0_goBack 16 = .ok (.putfield 22, 3) := by decide +kernel
theorem dX0_goBack_19 : decode cX0_goBack 19 = .ok (.aload_n 0, 1) := by decide +kernel
theorem dX0_goBack_20 : decode cX0_goBack 20 = .ok (.getfield 26, 3) := by decide +kernel
theorem dX0_goBack_23 : decode cX0_goBack 23 = .ok (.aload_n 0, 1) := by decide +kernel
theorem dX0_goBack_24 : decode cX0_goBack 24 = .ok (.getfield 22, 3) := by decide +kernel
theorem dX0_goBack_27 : decode cX0_goBack 27 = .ok (.iadd, 1) := by decide +kernel
theorem dX0_goBack_28 : decode cX0_goBack 28 = .ok (.bipush 6, 2) := by decide +kernel
theorem dX0_goBack_30 : decode cX0_goBack 30 = .ok (.irem, 1) := by decide +kernel
theorem dX0_goBack_31 : decode cX0_goBack 31 = .ok (.istore_n 3, 1) := by decide +kernel
theorem dX0_goBack_32 : decode cX0_goBack 32 = .ok (.aload_n 0, 1) := by decide +kernel
theorem dX0_goBack_33 : decode cX0_goBack 33 = .ok (.getfield 11, 3) := by decide +kernel
theorem dX0_goBack_36 : decode cX0_goBack 36 = .ok (.iload_n 3, 1) := by decide +kernel
theorem dX0_goBack_37 : decode cX0_goBack 37 = .ok (.aaload, 1) := by decide +kernel
theorem dX0_goBack_38 : decode cX0_goBack 38 = .ok (.astore 4, 2) := by decide +kernel
theorem dX0_goBack_40 : decode cX0_goBack 40 = .ok (.aload 4, 2) := by decide +kernel
theorem dX0_goBack_42 : decode cX0_goBack 42 = .ok (.ifnull 9, 3) := by decide +kernel
theorem dX0_goBack_45 : decode cX0_goBack 45 = .ok (.aload_n 1, 1) := by decide +kernel
theorem dX0_goBack_46 : decode cX0_goBack 46 = .ok (.aload 4, 2) := by decide +kernel
theorem dX0_goBack_48 : decode cX0_goBack 48 = .ok (.invokevirtual 29, 3) := by decide +kernel
theorem dX0_goBack_51 : decode cX0_goBack 51 = .ok (.aload_n 2, 1) := by decide +kernel
theorem dX0_goBack_52 : decode cX0_goBack 52 = .ok (.aload_n 0, 1) := by decide +kernel
theorem dX0_goBack_53 : decode cX0_goBack 53 = .ok (.getfield 17, 3) := by decide +kernel
theorem dX0_goBack_56 : decode cX0_goBack 56 = .ok (.iload_n 3, 1) := by decide +kernel
theorem dX0_goBack_57 : decode cX0_goBack 57 = .ok (.iaload, 1) := by decide +kernel
theorem dX0_goBack_58 : decode cX0_goBack 58 = .ok (.invokevirtual 38, 3) := by decide +kernel
theorem dX0_goBack_61 : decode cX0_goBack 61 = .ok (.iconst 1, 1) := by decide +kernel
theorem dX0_goBack_62 : decode cX0_goBack 62 = .ok (.ireturn, 1) := by decide +kernel
theorem wX4_cut_X0 : Cond.methodLinkNest RX0 38 yX4_cut "StormSeeds" ∈ NW := nw_of 1257 (by decide +kernel) rfl
theorem vc_X4_cut_X0 {p : Program} {l : Launch} {e : Env} {st : State} {m : MethodId} {args : Array Value} {below : List Frame} {meth : Method} {c : Code} {Q : State → Prop} {nL : Nat} {cc : ByteArray} {s : ST} {pc q : Nat} {lv : List (Nat × Value)} {rest : List Value} {D : va_G} {cA cL : ClassId} {h : Nat → Nat} {Z : State → Heap → Prop} {sa : Nat → Nat} (hZ : ZK h Z sa) {d0 : Nat} (X : Cx (KC D cA cL h Z) p st m args meth c cc nL RX0) {b0 : Nat} {x1 : Int32} (d : decode cc pc = .ok (.invokevirtual 38, 3)) (hq : pc + 3 = q) (hb0 : isK 4 b0) (hd1 : 2 + 1 ≤ d0) (hd2 : 8 + (2 + 11) + 100 * 2 ≤ 100 * d0) (hr : (rest.map fun v => v.category).sum ≤ 8) {B : Type} {f : ST → B} {r : B} (hs : Lt (C_X4_cut s b0 x1) f = r) (k : ∀ y, f y = r → WG (KC D cA cL h Z) p l e (rmD d0) st m args below meth c Q nL y q lv (rest)) : WG (KC D cA cL h Z) p l e (rmD d0) st m args below meth c Q nL s pc lv (.int x1 :: .ref (h b0) :: rest) := by
  exact cVN_V (K := KC D cA cL h Z) X b0 (n := 1) (k_X4_cut hZ l D cA cL s b0 x1 hb0) (gt_c (gt_of 1260 (by decide +kernel) rfl) gt_t) (hZ.1 st st.heap X.2.2.2 _ wX4_cut_X0) (gt_of 199 (by decide +kernel) rfl) (gt_of 1259 (by decide +kernel) rfl) (gt_of 94 (by decide +kernel) rfl) ⟨hd1, hd2⟩ ⟨by decide, by decide, by decide +kernel⟩ (As := [.int x1]) rfl hr (hb0).1 (fs := cF4 h b0 (s.1 b0) (s.2 b0)) (GC_4 (cA := cA) (cL := cL) hb0 _ _) rfl rfl d hq (k _ hs)
def C_X0_goBack (s : ST) : Option (Int32 × ST) := if (s.1 80 3) = 0 then (some ((0 : Int32), s)) else (Lt (ups s 80 3 ((s.1 80 3) - (1 : Int32))) fun s1 => Lt ((irm ((s1.1 80 2) + (s1.1 80 3)) (6 : Int32))) fun y1 => Ga y1 fun b1 => Lt (fun (s2 : ST) => (Gl s2 82 6 y1 fun y2 => Lt (C_X4_cut s2 23 y2) fun s3 => some ((1 : Int32), s3) : Option (Int32 × ST))) fun j1 => Bd (C_X1_copy s1 1 b1) fun s4 => j1 s4)
set_option maxRecDepth 100000 in
set_option maxHeartbeats 4000000 in
theorem k_X0_goBack {h : Nat → Nat} {Z : State → Heap → Prop} {sa : Nat → Nat} (hZ : ZK h Z sa) (l : Launch) (D : va_G) (cA cL : ClassId) (s : ST) {o : Int32 × ST} (hs : C_X0_goBack s = some o) : MI l (KC D cA cL h Z) 3 yX0_goBack cX0_goBack 5 (some .boolean) s [.ref (h 80), .ref (h 1), .ref (h 23)] o.1 o.2 := by
  refine met_i (by decide) (Nat.le_of_ble_eq_true rfl) ?_
  intro p e st m args below meth c Q X RI
  unfold C_X0_goBack at hs
  refine g_aload_n X dX0_goBack_0 (q := 1) rfl 0 rfl ?_
  refine cg_0_3 X dX0_goBack_1 (q := 4) rfl sh_80 lf_X0_22 ?_
  refine g_if_ne X dX0_goBack_4 (q := 7) rfl (tgt := 9) (by decide) hs ?_ ?_
  · intro hs
    refine g_aload_n X dX0_goBack_9 (q := 10) rfl 0 rfl ?_
    refine g_dup X dX0_goBack_10 (q := 11) rfl rfl ?_
    refine cg_0_3 X dX0_goBack_11 (q := 14) rfl sh_80 lf_X0_22 ?_
    refine g_iconst X dX0_goBack_14 (q := 15) rfl li_i1 ?_
    refine g_isub X dX0_goBack_15 (q := 16) rfl ?_
    refine cp_0_3 X dX0_goBack_16 (q := 19) rfl sh_80 lf_X0_22 hs (fun s1 hs => ?_)
    refine g_aload_n X dX0_goBack_19 (q := 20) rfl 0 rfl ?_
    refine cg_0_2 X dX0_goBack_20 (q := 23) rfl sh_80 lf_X0_26 ?_
    refine g_aload_n X dX0_goBack_23 (q := 24) rfl 0 rfl ?_
    refine cg_0_3 X dX0_goBack_24 (q := 27) rfl sh_80 lf_X0_22 ?_
    refine g_iadd X dX0_goBack_27 (q := 28) rfl ?_
    refine g_bipush X dX0_goBack_28 (q := 30) rfl li_b6 ?_
    refine g_irem X dX0_goBack_30 (q := 31) rfl (by decide) ?_
    refine nmI hs (fun y1 hs => ?_)
    refine g_istore_n X dX0_goBack_31 (q := 32) rfl (Nat.le_of_ble_eq_true rfl) (lv' := [(3, .int y1), (0, .ref (h 80)), (1, .ref (h 1)), (2, .ref (h 23))]) rfl ?_
    refine g_aload_n X dX0_goBack_32 (q := 33) rfl 1 rfl ?_
    refine cg_0_0 X dX0_goBack_33 (q := 36) rfl sh_80 lf_X0_11 ?_
    refine g_iload_n X dX0_goBack_36 (q := 37) rfl 0 rfl ?_
    refine ca_lands X dX0_goBack_37 (q := 38) rfl hs (fun b1 hb1 hs => ?_)
    refine g_astore X dX0_goBack_38 (q := 40) rfl (Nat.le_of_ble_eq_true rfl) (lv' := [(4, .ref (h b1)), (3, .int y1), (0, .ref (h 80)), (1, .ref (h 1)), (2, .ref (h 23))]) rfl ?_
    refine g_aload X dX0_goBack_40 (q := 42) rfl 0 rfl ?_
    refine jnW1 (fun (s2 : ST) => WG (KC D cA cL h Z) p l e (rmD 3) st m args below meth c Q 5 s2 51 [(0, .ref (h 80)), (2, .ref (h 23)), (3, .int y1)] []) hs (fun s2 hs => ?_) (fun j1 ih1 hs => ?_)
    · refine g_aload_n X dX0_goBack_51 (q := 52) rfl 1 rfl ?_
      refine g_aload_n X dX0_goBack_52 (q := 53) rfl 0 rfl ?_
      refine cg_0_1 X dX0_goBack_53 (q := 56) rfl sh_80 lf_X0_17 ?_
      refine g_iload_n X dX0_goBack_56 (q := 57) rfl 2 rfl ?_
      refine ca_ld X dX0_goBack_57 (q := 58) rfl 82 sh_82 rfl hs (fun y2 hs => ?_)
      refine vc_X4_cut_X0 hZ X dX0_goBack_58 (q := 61) rfl sh_23 (Nat.le_of_ble_eq_true rfl) (Nat.le_of_ble_eq_true rfl) (Nat.le_of_ble_eq_true rfl) hs (fun s3 hs => ?_)
      refine g_iconst X dX0_goBack_61 (q := 62) rfl li_i1 ?_
      exact RI _ 62 _ _ _ (rU1 hs) rfl (rV1 hs) dX0_goBack_62
    refine g_ifnull X dX0_goBack_42 (q := 45) rfl ?_
    refine g_aload_n X dX0_goBack_45 (q := 46) rfl 3 rfl ?_
    refine g_aload X dX0_goBack_46 (q := 48) rfl 0 rfl ?_
    refine vc_X1_copy_X0 hZ X dX0_goBack_48 (q := 51) rfl sh_1 hb1 (Nat.le_of_ble_eq_true rfl) (Nat.le_of_ble_eq_true rfl) (Nat.le_of_ble_eq_true rfl) hs (fun s4 hs => ?_)
    exact wg_sub [2, 4, 1] rfl (ih1 _ hs)
  · intro hs
    refine g_iconst X dX0_goBack_7 (q := 8) rfl li_i0 ?_
    exact RI _ 8 _ _ _ (rU1 hs) rfl (rV1 hs) dX0_goBack_8
theorem dX1_clearSeedsAndStorms_0 : decode cX1_clearSeedsAndStorms 0 = .ok (.aload_n 0, 1) := by decide +kernel
theorem dX1_clearSeedsAndStorms_1 : decode cX1_clearSeedsAndStorms 1 = .ok (.lconst 0, 1) := by decide +kernel
theorem dX1_clearSeedsAndStorms_2 : decode cX1_clearSeedsAndStorms 2 = .ok (.putfield 62, 3) := by decide +kernel
theorem dX1_clearSeedsAndStorms_5 : decode cX1_clearSeedsAndStorms 5 = .ok (.aload_n 0, 1) := by decide +kernel
theorem dX1_clearSeedsAndStorms_6 : decode cX1_clearSeedsAndStorms 6 = .ok (.lconst 0, 1) := by decide +kernel
theorem dX1_clearSeedsAndStorms_7 : decode cX1_clearSeedsAndStorms 7 = .ok (.putfield 65, 3) := by decide +kernel
theorem dX1_clearSeedsAndStorms_10 : decode cX1_clearSeedsAndStorms 10 = .ok (.return_, 1) := by decide +kernel
def C_X1_clearSeedsAndStorms (s : ST) (b0 : Nat) : ST := Lt (upl s b0 8 (0 : Int64)) fun s1 => Lt (upl s1 b0 9 (0 : Int64)) fun s2 => s2
set_option maxRecDepth 100000 in
set_option maxHeartbeats 4000000 in
theorem k_X1_clearSeedsAndStorms {h : Nat → Nat} {Z : State → Heap → Prop} {sa : Nat → Nat} (hZ : ZK h Z sa) (l : Launch) (D : va_G) (cA cL : ClassId) (s : ST) (b0 : Nat) (hb0 : isK 1 b0) : MV l (KC D cA cL h Z) 1 yX1_clearSeedsAndStorms cX1_clearSeedsAndStorms 1 none s [.ref (h b0)] (C_X1_clearSeedsAndStorms s b0) := by
  refine met_v (by decide) (Nat.le_of_ble_eq_true rfl) ?_
  intro p e st m args below meth c Q X RI
  generalize hs : C_X1_clearSeedsAndStorms s b0 = o at RI
  unfold C_X1_clearSeedsAndStorms at hs
  refine g_aload_n X dX1_clearSeedsAndStorms_0 (q := 1) rfl 0 rfl ?_
  refine g_lconst X dX1_clearSeedsAndStorms_1 (q := 2) rfl li_l0 ?_
  refine cp_1_8 X dX1_clearSeedsAndStorms_2 (q := 5) rfl hb0 lf_X1_62 hs (fun s1 hs => ?_)
  refine g_aload_n X dX1_clearSeedsAndStorms_5 (q := 6) rfl 0 rfl ?_
  refine g_lconst X dX1_clearSeedsAndStorms_6 (q := 7) rfl li_l0 ?_
  refine cp_1_9 X dX1_clearSeedsAndStorms_7 (q := 10) rfl hb0 lf_X1_65 hs (fun s2 hs => ?_)
  exact RI _ 10 _ hs dX1_clearSeedsAndStorms_10
theorem dJ7_fill_53178_0 : decode cJ7_fill_53178 0 = .ok (.iconst 0, 1) := by decide +kernel
theorem dJ7_fill_53178_1 : decode cJ7_fill_53178 1 = .ok (.istore_n 2, 1) := by decide +kernel
theorem dJ7_fill_53178_2 : decode cJ7_fill_53178 2 = .ok (.aload_n 0, 1) := by decide +kernel
theorem dJ7_fill_53178_3 : decode cJ7_fill_53178 3 = .ok (.arraylength, 1) := by decide +kernel
theorem dJ7_fill_53178_4 : decode cJ7_fill_53178 4 = .ok (.istore_n 3, 1) := by decide +kernel
theorem dJ7_fill_53178_5 : decode cJ7_fill_53178 5 = .ok (.iload_n 2, 1) := by decide +kernel
theorem dJ7_fill_53178_6 : decode cJ7_fill_53178 6 = .ok (.iload_n 3, 1) := by decide +kernel
theorem dJ7_fill_53178_7 : decode cJ7_fill_53178 7 = .ok (.if_icmp .ge 13, 3) := by decide +kernel
theorem dJ7_fill_53178_10 : decode cJ7_fill_53178 10 = .ok (.aload_n 0, 1) := by decide +kernel
theorem dJ7_fill_53178_11 : decode cJ7_fill_53178 11 = .ok (.iload_n 2, 1) := by decide +kernel
theorem dJ7_fill_53178_12 : decode cJ7_fill_53178 12 = .ok (.iload_n 1, 1) := by decide +kernel
theorem dJ7_fill_53178_13 : decode cJ7_fill_53178 13 = .ok (.iastore, 1) := by decide +kernel
theorem dJ7_fill_53178_14 : decode cJ7_fill_53178 14 = .ok (.iinc 2 1, 3) := by decide +kernel
theorem dJ7_fill_53178_17 : decode cJ7_fill_53178 17 = .ok (.goto (-12), 3) := by decide +kernel
theorem dJ7_fill_53178_20 : decode cJ7_fill_53178 20 = .ok (.return_, 1) := by decide +kernel
def C_J7_fill_53178 (s : ST) (x1 : Nat) (x2 : Int32) : Option (ST) := Lt ((Int32.ofNat (lc x1))) fun y1 => lpK2 (C := ST) (fun (rec1 : Int32 → ST → Option (ST)) (a1 : Int32) (s1 : ST) => if y1 ≤ a1 then (some s1) else (Gs s1 x1 (lc x1) a1 x2 fun s2 => rec1 (a1 + (1 : Int32)) s2)) FU (0 : Int32) s
set_option maxRecDepth 100000 in
set_option maxHeartbeats 4000000 in
theorem k_J7_fill_53178 {h : Nat → Nat} {Z : State → Heap → Prop} {sa : Nat → Nat} (hZ : ZK h Z sa) (l : Launch) (D : va_G) (cA cL : ClassId) (s : ST) (x1 : Nat) (x2 : Int32) (hx1 : isK 11 x1) {o : ST} (hs : C_J7_fill_53178 s x1 x2 = some o) : MV l (KC D cA cL h Z) 1 yJ7_fill_53178 cJ7_fill_53178 4 none s [.ref (h x1), .int x2] o := by
  refine met_v (by decide) (Nat.le_of_ble_eq_true rfl) ?_
  intro p e st m args below meth c Q X RI
  unfold C_J7_fill_53178 at hs
  refine g_iconst X dJ7_fill_53178_0 (q := 1) rfl li_i0 ?_
  refine g_istore_n X dJ7_fill_53178_1 (q := 2) rfl (Nat.le_of_ble_eq_true rfl) (lv' := [(2, .int (0 : Int32)), (0, .ref (h x1)), (1, .int x2)]) rfl ?_
  refine g_aload_n X dJ7_fill_53178_2 (q := 3) rfl 1 rfl ?_
  refine ca_len X dJ7_fill_53178_3 (q := 4) rfl x1 hx1 rfl rfl ?_
  refine nmI hs (fun y1 hs => ?_)
  refine g_istore_n X dJ7_fill_53178_4 (q := 5) rfl (Nat.le_of_ble_eq_true rfl) (lv' := [(3, .int y1), (2, .int (0 : Int32)), (0, .ref (h x1)), (1, .int x2)]) rfl ?_
  refine wg_sub [2, 3, 1, 0] rfl (lpW2 (fun (a1 : Int32) (s1 : ST) => WG (KC D cA cL h Z) p l e (rmD 1) st m args below meth c Q 4 s1 5 [(0, .ref (h x1)), (1, .int x2), (2, .int a1), (3, .int y1)] []) (fun rec1 ih1 a1 s1 hs => ?_) _ _ _ hs)
  refine g_iload_n X dJ7_fill_53178_5 (q := 6) rfl 2 rfl ?_
  refine g_iload_n X dJ7_fill_53178_6 (q := 7) rfl 3 rfl ?_
  refine g_icmp_ge X dJ7_fill_53178_7 (q := 10) rfl (tgt := 20) (by decide) hs ?_ ?_
  · intro hs
    exact RI _ 20 _ (Option.some.inj hs) dJ7_fill_53178_20
  · intro hs
    refine g_aload_n X dJ7_fill_53178_10 (q := 11) rfl 0 rfl ?_
    refine g_iload_n X dJ7_fill_53178_11 (q := 12) rfl 2 rfl ?_
    refine g_iload_n X dJ7_fill_53178_12 (q := 13) rfl 1 rfl ?_
    refine ca_st X dJ7_fill_53178_13 (q := 14) rfl x1 hx1 rfl hs (fun s2 hs => ?_)
    refine g_iinc X dJ7_fill_53178_14 (q := 17) rfl 2 rfl (v := (a1 + (1 : Int32))) (congrArg (HAdd.hAdd a1) li_i1) (Nat.le_of_ble_eq_true rfl) (lv' := [(2, .int (a1 + (1 : Int32))), (0, .ref (h x1)), (1, .int x2), (3, .int y1)]) rfl ?_
    refine g_goto X dJ7_fill_53178_17 (tgt := 5) (by decide) ?_
    exact wg_sub [1, 2, 0, 3] rfl (ih1 _ _ hs)
theorem dX1_begin_0 : decode cX1_begin 0 = .ok (.aload_n 0, 1) := by decide +kernel
theorem dX1_begin_1 : decode cX1_begin 1 = .ok (.iload_n 1, 1) := by decide +kernel
theorem dX1_begin_2 : decode cX1_begin 2 = .ok (.putfield 30, 3) := by decide +kernel
theorem dX1_begin_5 : decode cX1_begin 5 = .ok (.aload_n 0, 1) := by decide +kernel
theorem dX1_begin_6 : decode cX1_begin 6 = .ok (.iload_n 2, 1) := by decide +kernel
theorem dX1_begin_7 : decode cX1_begin 7 = .ok (.putfield 34, 3) := by decide +kernel
theorem dX1_begin_10 : decode cX1_begin 10 = .ok (.aload_n 0, 1) := by decide +kernel
theorem dX1_begin_11 : decode cX1_begin 11 = .ok (.iconst 0, 1) := by decide +kernel
theorem dX1_begin_12 : decode cX1_begin 12 = .ok (.putfield 37, 3) := by decide +kernel
theorem dX1_begin_15 : decode cX1_begin 15 = .ok (.aload_n 0, 1) := by decide +kernel
theorem dX1_begin_16 : decode cX1_begin 16 = .ok (.iconst 1, 1) := by decide +kernel
theorem dX1_begin_17 : decode cX1_begin 17 = .ok (.putfield 40, 3) := by decide +kernel
theorem dX1_begin_20 : decode cX1_begin 20 = .ok (.aload_n 0, 1) := by decide +kernel
theorem dX1_begin_21 : decode cX1_begin 21 = .ok (.iconst 0, 1) := by decide +kernel
theorem dX1_begin_22 : decode cX1_begin 22 = .ok (.putfield 43, 3) := by decide +kernel
theorem dX1_begin_25 : decode cX1_begin 25 = .ok (.aload_n 0, 1) := by decide +kernel
theorem dX1_begin_26 : decode cX1_begin 26 = .ok (.iconst 0, 1) := by decide +kernel
theorem dX1_begin_27 : decode cX1_begin 27 = .ok (.putfield 46, 3) := by decide +kernel
theorem dX1_begin_30 : decode cX1_begin 30 = .ok (.aload_n 0, 1) := by decide +kernel
theorem dX1_begin_31 : decode cX1_begin 31 = .ok (.lconst 0, 1) := by decide +kernel
theorem dX1_begin_32 : decode cX1_begin 32 = .ok (.putfield 49, 3) := by decide +kernel
theorem dX1_begin_35 : decode cX1_begin 35 = .ok (.aload_n 0, 1) := by decide +kernel
theorem dX1_begin_36 : decode cX1_begin 36 = .ok (.invokevirtual 53, 3) := by decide +kernel
theorem dX1_begin_39 : decode cX1_begin 39 = .ok (.aload_n 0, 1) := by decide +kernel
theorem dX1_begin_40 : decode cX1_begin 40 = .ok (.getfield 9, 3) := by decide +kernel
theorem dX1_begin_43 : decode cX1_begin 43 = .ok (.iconst 3, 1) := by decide +kernel
theorem dX1_begin_44 : decode cX1_begin 44 = .ok (.invokestatic 56, 3) := by decide +kernel
theorem dX1_begin_47 : decode cX1_begin 47 = .ok (.return_, 1) := by decide +kernel
theorem wJ7_fill_53178_X1 : GoodIn GT (va_wsS RX1 56 yJ7_fill_53178 (.code yJ7_fill_53178 cJ7_fill_53178 4 none :: GT)) := gt_c (gt_of 538 (by decide +kernel) rfl) (gt_c (gt_of 539 (by decide +kernel) rfl) (gt_c (gt_of 207 (by decide +kernel) rfl) (gt_c (gt_of 540 (by decide +kernel) rfl) gt_t)))
theorem vc_J7_fill_53178_X1 {p : Program} {l : Launch} {e : Env} {st : State} {m : MethodId} {args : Array Value} {below : List Frame} {meth : Method} {c : Code} {Q : State → Prop} {nL : Nat} {cc : ByteArray} {s : ST} {pc q : Nat} {lv : List (Nat × Value)} {rest : List Value} {D : va_G} {cA cL : ClassId} {h : Nat → Nat} {Z : State → Heap → Prop} {sa : Nat → Nat} (hZ : ZK h Z sa) {d0 : Nat} (X : Cx (KC D cA cL h Z) p st m args meth c cc nL RX1) {x1 : Nat} {x2 : Int32} (d : decode cc pc = .ok (.invokestatic 56, 3)) (hq : pc + 3 = q) (hx1 : isK 11 x1) (hd1 : 1 + 1 ≤ d0) (hd2 : 8 + (4 + 11) + 100 * 1 ≤ 100 * d0) (hr : (rest.map fun v => v.category).sum ≤ 8) {B : Type} {f : ST → Option B} {r : B} (hs : Bd (C_J7_fill_53178 s x1 x2) f = some r) (k : ∀ y, f y = some r → WG (KC D cA cL h Z) p l e (rmD d0) st m args below meth c Q nL y q lv (rest)) : WG (KC D cA cL h Z) p l e (rmD d0) st m args below meth c Q nL s pc lv (.int x2 :: .ref (h x1) :: rest) := by
  obtain ⟨v, hv, hs⟩ := Bd_e hs
  exact cS_V (K := KC D cA cL h Z) X (n := 2) (k_J7_fill_53178 hZ l D cA cL s x1 x2 hx1 hv) wJ7_fill_53178_X1 ⟨hd1, hd2⟩ ⟨by decide, by decide, by decide +kernel⟩ (As := [.ref (h x1), .int x2]) rfl hr rfl d hq (k _ hs)
theorem wX1_clearSeedsAndStorms_X1 : GoodIn GT (wsV RX1 53 RX1 yX1_clearSeedsAndStorms (.code yX1_clearSeedsAndStorms cX1_clearSeedsAndStorms 1 none :: GT)) := gt_V (gt_of 534 (by decide +kernel) rfl) (gt_of 536 (by decide +kernel) rfl) (gt_of 1 (by decide +kernel) rfl) (gt_of 197 (by decide +kernel) rfl) (gt_of 537 (by decide +kernel) rfl)
theorem vc_X1_clearSeedsAndStorms_X1 {p : Program} {l : Launch} {e : Env} {st : State} {m : MethodId} {args : Array Value} {below : List Frame} {meth : Method} {c : Code} {Q : State → Prop} {nL : Nat} {cc : ByteArray} {s : ST} {pc q : Nat} {lv : List (Nat × Value)} {rest : List Value} {D : va_G} {cA cL : ClassId} {h : Nat → Nat} {Z : State → Heap → Prop} {sa : Nat → Nat} (hZ : ZK h Z sa) {d0 : Nat} (X : Cx (KC D cA cL h Z) p st m args meth c cc nL RX1) {b0 : Nat} (d : decode cc pc = .ok (.invokevirtual 53, 3)) (hq : pc + 3 = q) (hb0 : isK 1 b0) (hd1 : 1 + 1 ≤ d0) (hd2 : 8 + (1 + 11) + 100 * 1 ≤ 100 * d0) (hr : (rest.map fun v => v.category).sum ≤ 8) {B : Type} {f : ST → B} {r : B} (hs : Lt (C_X1_clearSeedsAndStorms s b0) f = r) (k : ∀ y, f y = r → WG (KC D cA cL h Z) p l e (rmD d0) st m args below meth c Q nL y q lv (rest)) : WG (KC D cA cL h Z) p l e (rmD d0) st m args below meth c Q nL s pc lv (.ref (h b0) :: rest) := by
  exact cV_V (K := KC D cA cL h Z) X b0 (n := 0) (k_X1_clearSeedsAndStorms hZ l D cA cL s b0 hb0) wX1_clearSeedsAndStorms_X1 ⟨hd1, hd2⟩ ⟨by decide, by decide, by decide +kernel⟩ (As := []) rfl hr (hb0).1 (fs := cF1 h b0 (s.1 b0) (s.2 b0)) (GC_1 (cA := cA) (cL := cL) hb0 _ _) rfl rfl d hq (k _ hs)
def C_X1_begin (s : ST) (b0 : Nat) (x1 : Int32) (x2 : Int32) : Option (ST) := Lt (ups s b0 0 x1) fun s1 => Lt (ups s1 b0 1 x2) fun s2 => Lt (ups s2 b0 2 (0 : Int32)) fun s3 => Lt (ups s3 b0 3 (1 : Int32)) fun s4 => Lt (ups s4 b0 4 (0 : Int32)) fun s5 => Lt (ups s5 b0 5 (0 : Int32)) fun s6 => Lt (upl s6 b0 7 (0 : Int64)) fun s7 => Lt (C_X1_clearSeedsAndStorms s7 b0) fun s8 => Bd (C_J7_fill_53178 s8 (b0 + 1) (3 : Int32)) fun s9 => some s9
set_option maxRecDepth 100000 in
set_option maxHeartbeats 4000000 in
theorem k_X1_begin {h : Nat → Nat} {Z : State → Heap → Prop} {sa : Nat → Nat} (hZ : ZK h Z sa) (l : Launch) (D : va_G) (cA cL : ClassId) (s : ST) (b0 : Nat) (x1 : Int32) (x2 : Int32) (hb0 : isK 1 b0) {o : ST} (hs : C_X1_begin s b0 x1 x2 = some o) : MV l (KC D cA cL h Z) 2 yX1_begin cX1_begin 3 none s [.ref (h b0), .int x1, .int x2] o := by
  refine met_v (by decide) (Nat.le_of_ble_eq_true rfl) ?_
  intro p e st m args below meth c Q X RI
  unfold C_X1_begin at hs
  refine g_aload_n X dX1_begin_0 (q := 1) rfl 0 rfl ?_
  refine g_iload_n X dX1_begin_1 (q := 2) rfl 1 rfl ?_
  refine cp_1_0 X dX1_begin_2 (q := 5) rfl hb0 lf_X1_30 hs (fun s1 hs => ?_)
  refine g_aload_n X dX1_begin_5 (q := 6) rfl 0 rfl ?_
  refine g_iload_n X dX1_begin_6 (q := 7) rfl 2 rfl ?_
  refine cp_1_1 X dX1_begin_7 (q := 10) rfl hb0 lf_X1_34 hs (fun s2 hs => ?_)
  refine g_aload_n X dX1_begin_10 (q := 11) rfl 0 rfl ?_
  refine g_iconst X dX1_begin_11 (q := 12) rfl li_i0 ?_
  refine cp_1_2 X dX1_begin_12 (q := 15) rfl hb0 lf_X1_37 hs (fun s3 hs => ?_)
  refine g_aload_n X dX1_begin_15 (q := 16) rfl 0 rfl ?_
  refine g_iconst X dX1_begin_16 (q := 17) rfl li_i1 ?_
  refine cp_1_3 X dX1_begin_17 (q := 20) rfl hb0 lf_X1_40 hs (fun s4 hs => ?_)
  refine g_aload_n X dX1_begin_20 (q := 21) rfl 0 rfl ?_
  refine g_iconst X dX1_begin_21 (q := 22) rfl li_i0 ?_
  refine cp_1_4 X dX1_begin_22 (q := 25) rfl hb0 lf_X1_43 hs (fun s5 hs => ?_)
  refine g_aload_n X dX1_begin_25 (q := 26) rfl 0 rfl ?_
  refine g_iconst X dX1_begin_26 (q := 27) rfl li_i0 ?_
  refine cp_1_5 X dX1_begin_27 (q := 30) rfl hb0 lf_X1_46 hs (fun s6 hs => ?_)
  refine g_aload_n X dX1_begin_30 (q := 31) rfl 0 rfl ?_
  refine g_lconst X dX1_begin_31 (q := 32) rfl li_l0 ?_
  refine cp_1_7 X dX1_begin_32 (q := 35) rfl hb0 lf_X1_49 hs (fun s7 hs => ?_)
  refine g_aload_n X dX1_begin_35 (q := 36) rfl 0 rfl ?_
  refine vc_X1_clearSeedsAndStorms_X1 hZ X dX1_begin_36 (q := 39) rfl hb0 (Nat.le_of_ble_eq_true rfl) (Nat.le_of_ble_eq_true rfl) (Nat.le_of_ble_eq_true rfl) hs (fun s8 hs => ?_)
  refine g_aload_n X dX1_begin_39 (q := 40) rfl 0 rfl ?_
  refine cg_1_10 X dX1_begin_40 (q := 43) rfl hb0 lf_X1_9 ?_
  refine g_iconst X dX1_begin_43 (q := 44) rfl li_i3 ?_
  refine vc_J7_fill_53178_X1 hZ X dX1_begin_44 (q := 47) rfl (sub_X1_wet hb0) (Nat.le_of_ble_eq_true rfl) (Nat.le_of_ble_eq_true rfl) (Nat.le_of_ble_eq_true rfl) hs (fun s9 hs => ?_)
  exact RI _ 47 _ (Option.some.inj hs) dX1_begin_47
theorem dX1_isCell_0 : decode cX1_isCell 0 = .ok (.iload_n 1, 1) := by decide +kernel
theorem dX1_isCell_1 : decode cX1_isCell 1 = .ok (.ifCond .lt 34, 3) := by decide +kernel
theorem dX1_isCell_4 : decode cX1_isCell 4 = .ok (.iload_n 1, 1) := by decide +kernel
theorem dX1_isCell_5 : decode cX1_isCell 5 = .ok (.bipush 64, 2) := by decide +kernel
theorem dX1_isCell_7 : decode cX1_isCell 7 = .ok (.if_icmp .ge 28, 3) := by decide +kernel
theorem dX1_isCell_10 : decode cX1_isCell 10 = .ok (.iload_n 1, 1) := by decide +kernel
theorem dX1_isCell_11 : decode cX1_isCell 11 = .ok (.bipush 7, 2) := by decide +kernel
theorem dX1_isCell_13 : decode cX1_isCell 13 = .ok (.iand, 1) := by decide +kernel
theorem dX1_isCell_14 : decode cX1_isCell 14 = .ok (.aload_n 0, 1) := by decide +kernel
theorem dX1_isCell_15 : decode cX1_isCell 15 = .ok (.getfield 30, 3) := by decide +kernel
theorem dX1_isCell_18 : decode cX1_isCell 18 = .ok (.if_icmp .ge 17, 3) := by decide +kernel
theorem dX1_isCell_21 : decode cX1_isCell 21 = .ok (.iload_n 1, 1) := by decide +kernel
theorem dX1_isCell_22 : decode cX1_isCell 22 = .ok (.iconst 3, 1) := by decide +kernel
theorem dX1_isCell_23 : decode cX1_isCell 23 = .ok (.ishr, 1) := by decide +kernel
theorem dX1_isCell_24 : decode cX1_isCell 24 = .ok (.aload_n 0, 1) := by decide +kernel
theorem dX1_isCell_25 : decode cX1_isCell 25 = .ok (.getfield 34, 3) := by decide +kernel
theorem dX1_isCell_28 : decode cX1_isCell 28 = .ok (.if_icmp .ge 7, 3) := by decide +kernel
theorem dX1_isCell_31 : decode cX1_isCell 31 = .ok (.iconst 1, 1) := by decide +kernel
theorem dX1_isCell_32 : decode cX1_isCell 32 = .ok (.goto 4, 3) := by decide +kernel
theorem dX1_isCell_35 : decode cX1_isCell 35 = .ok (.iconst 0, 1) := by decide +kernel
theorem dX1_isCell_36 : decode cX1_isCell 36 = .ok (.ireturn, 1) := by decide +kernel
def C_X1_isCell (s : ST) (b0 : Nat) (x1 : Int32) : Int32 := if x1 < 0 then ((0 : Int32)) else (if (64 : Int32) ≤ x1 then ((0 : Int32)) else (if (s.1 b0 0) ≤ (x1 &&& (7 : Int32)) then ((0 : Int32)) else (if (s.1 b0 1) ≤ (x1 >>> ((3 : Int32) &&& 31)) then ((0 : Int32)) else ((1 : Int32)))))
set_option maxRecDepth 100000 in
set_option maxHeartbeats 4000000 in
theorem k_X1_isCell {h : Nat → Nat} {Z : State → Heap → Prop} {sa : Nat → Nat} (hZ : ZK h Z sa) (l : Launch) (D : va_G) (cA cL : ClassId) (s : ST) (b0 : Nat) (x1 : Int32) (hb0 : isK 1 b0) : MI l (KC D cA cL h Z) 1 yX1_isCell cX1_isCell 2 (some .boolean) s [.ref (h b0), .int x1] (C_X1_isCell s b0 x1) s := by
  refine met_i (by decide) (Nat.le_of_ble_eq_true rfl) ?_
  intro p e st m args below meth c Q X RI
  generalize hs : C_X1_isCell s b0 x1 = o at RI
  unfold C_X1_isCell at hs
  refine g_iload_n X dX1_isCell_0 (q := 1) rfl 1 rfl ?_
  refine g_if_lt X dX1_isCell_1 (q := 4) rfl (tgt := 35) (by decide) hs ?_ ?_
  · intro hs
    refine g_iconst X dX1_isCell_35 (q := 36) rfl li_i0 ?_
    exact RI _ 36 _ _ _ rfl rfl hs dX1_isCell_36
  · intro hs
    refine g_iload_n X dX1_isCell_4 (q := 5) rfl 1 rfl ?_
    refine g_bipush X dX1_isCell_5 (q := 7) rfl li_b64 ?_
    refine g_icmp_ge X dX1_isCell_7 (q := 10) rfl (tgt := 35) (by decide) hs ?_ ?_
    · intro hs
      refine g_iconst X dX1_isCell_35 (q := 36) rfl li_i0 ?_
      exact RI _ 36 _ _ _ rfl rfl hs dX1_isCell_36
    · intro hs
      refine g_iload_n X dX1_isCell_10 (q := 11) rfl 1 rfl ?_
      refine g_bipush X dX1_isCell_11 (q := 13) rfl li_b7 ?_
      refine g_iand X dX1_isCell_13 (q := 14) rfl ?_
      refine g_aload_n X dX1_isCell_14 (q := 15) rfl 0 rfl ?_
      refine cg_1_0 X dX1_isCell_15 (q := 18) rfl hb0 lf_X1_30 ?_
      refine g_icmp_ge X dX1_isCell_18 (q := 21) rfl (tgt := 35) (by decide) hs ?_ ?_
      · intro hs
        refine g_iconst X dX1_isCell_35 (q := 36) rfl li_i0 ?_
        exact RI _ 36 _ _ _ rfl rfl hs dX1_isCell_36
      · intro hs
        refine g_iload_n X dX1_isCell_21 (q := 22) rfl 1 rfl ?_
        refine g_iconst X dX1_isCell_22 (q := 23) rfl li_i3 ?_
        refine g_ishr X dX1_isCell_23 (q := 24) rfl ?_
        refine g_aload_n X dX1_isCell_24 (q := 25) rfl 0 rfl ?_
        refine cg_1_1 X dX1_isCell_25 (q := 28) rfl hb0 lf_X1_34 ?_
        refine g_icmp_ge X dX1_isCell_28 (q := 31) rfl (tgt := 35) (by decide) hs ?_ ?_
        · intro hs
          refine g_iconst X dX1_isCell_35 (q := 36) rfl li_i0 ?_
          exact RI _ 36 _ _ _ rfl rfl hs dX1_isCell_36
        · intro hs
          refine g_iconst X dX1_isCell_31 (q := 32) rfl li_i1 ?_
          refine g_goto X dX1_isCell_32 (tgt := 36) (by decide) ?_
          exact RI _ 36 _ _ _ rfl rfl hs dX1_isCell_36
theorem dX1_allCells_0 : decode cX1_allCells 0 = .ok (.lconst 0, 1) := by decide +kernel
theorem dX1_allCells_1 : decode cX1_allCells 1 = .ok (.lstore_n 1, 1) := by decide +kernel
theorem dX1_allCells_2 : decode cX1_allCells 2 = .ok (.iconst 0, 1) := by decide +kernel
theorem dX1_allCells_3 : decode cX1_allCells 3 = .ok (.istore_n 3, 1) := by decide +kernel
theorem dX1_allCells_4 : decode cX1_allCells 4 = .ok (.iload_n 3, 1) := by decide +kernel
theorem dX1_allCells_5 : decode cX1_allCells 5 = .ok (.bipush 64, 2) := by decide +kernel
theorem dX1_allCells_7 : decode cX1_allCells 7 = .ok (.if_icmp .ge 23, 3) := by decide +kernel
theorem dX1_allCells_10 : decode cX1_allCells 10 = .ok (.aload_n 0, 1) := by decide +kernel
theorem dX1_allCells_11 : decode cX1_allCells 11 = .ok (.iload_n 3, 1) := by decide +kernel
theorem dX1_allCells_12 : decode cX1_allCells 12 = .ok (.invokevirtual 77, 3) := by decide +kernel
theorem dX1_allCells_15 : decode cX1_allCells 15 = .ok (.ifCond .eq 9, 3) := by decide +kernel
theorem dX1_allCells_18 : decode cX1_allCells 18 = .ok (.lload_n 1, 1) := by decide +kernel
theorem dX1_allCells_19 : decode cX1_allCells 19 = .ok (.lconst 1, 1) := by decide +kernel
theorem dX1_allCells_20 : decode cX1_allCells 20 = .ok (.iload_n 3, 1) := by decide +kernel
theorem dX1_allCells_21 : decode cX1_allCells 21 = .ok (.lshl, 1) := by decide +kernel
theorem dX1_allCells_22 : decode cX1_allCells 22 = .ok (.lor, 1) := by decide +kernel
theorem dX1_allCells_23 : decode cX1_allCells 23 = .ok (.lstore_n 1, 1) := by decide +kernel
theorem dX1_allCells_24 : decode cX1_allCells 24 = .ok (.iinc 3 1, 3) := by decide +kernel
theorem dX1_allCells_27 : decode cX1_allCells 27 = .ok (.goto (-23), 3) := by decide +kernel
theorem dX1_allCells_30 : decode cX1_allCells 30 = .ok (.lload_n 1, 1) := by decide +kernel
theorem dX1_allCells_31 : decode cX1_allCells 31 = .ok (.lreturn, 1) := by decide +kernel
theorem wX1_isCell_X1 : GoodIn GT (wsV RX1 77 RX1 yX1_isCell (.code yX1_isCell cX1_isCell 2 (some .boolean) :: GT)) := gt_V (gt_of 620 (by decide +kernel) rfl) (gt_of 622 (by decide +kernel) rfl) (gt_of 8 (by decide +kernel) rfl) (gt_of 197 (by decide +kernel) rfl) (gt_of 623 (by decide +kernel) rfl)
theorem vc_X1_isCell_X1 {p : Program} {l : Launch} {e : Env} {st : State} {m : MethodId} {args : Array Value} {below : List Frame} {meth : Method} {c : Code} {Q : State → Prop} {nL : Nat} {cc : ByteArray} {s : ST} {pc q : Nat} {lv : List (Nat × Value)} {rest : List Value} {D : va_G} {cA cL : ClassId} {h : Nat → Nat} {Z : State → Heap → Prop} {sa : Nat → Nat} (hZ : ZK h Z sa) {d0 : Nat} (X : Cx (KC D cA cL h Z) p st m args meth c cc nL RX1) {b0 : Nat} {x1 : Int32} (d : decode cc pc = .ok (.invokevirtual 77, 3)) (hq : pc + 3 = q) (hb0 : isK 1 b0) (hd1 : 1 + 1 ≤ d0) (hd2 : 8 + (2 + 11) + 100 * 1 ≤ 100 * d0) (hr : (rest.map fun v => v.category).sum ≤ 8) {B : Type} {f : Int32 → B} {r : B} (hs : Lt (C_X1_isCell s b0 x1) f = r) (k : ∀ y, f y = r → WG (KC D cA cL h Z) p l e (rmD d0) st m args below meth c Q nL s q lv (.int y :: rest)) : WG (KC D cA cL h Z) p l e (rmD d0) st m args below meth c Q nL s pc lv (.int x1 :: .ref (h b0) :: rest) := by
  exact cV_I (K := KC D cA cL h Z) X b0 (n := 1) (k_X1_isCell hZ l D cA cL s b0 x1 hb0) wX1_isCell_X1 ⟨hd1, hd2⟩ ⟨by decide, by decide, by decide +kernel⟩ (As := [.int x1]) rfl hr (hb0).1 (fs := cF1 h b0 (s.1 b0) (s.2 b0)) (GC_1 (cA := cA) (cL := cL) hb0 _ _) rfl rfl d hq (k _ hs)
def C_X1_allCells (s : ST) (b0 : Nat) : Option (Int64) := lpK2 (C := Int64) (fun (rec1 : Int64 → Int32 → Option (Int64)) (a1 : Int64) (a2 : Int32) => if (64 : Int32) ≤ a2 then (some a1) else (Lt (C_X1_isCell s b0 a2) fun y1 => Lt (fun (a3 : Int64) => (rec1 a3 (a2 + (1 : Int32)) : Option (Int64))) fun j1 => if y1 = 0 then (j1 a1) else (Lt ((a1 ||| ((1 : Int64) <<< (a2.toInt64 &&& 63)))) fun y2 => j1 y2))) FU (0 : Int64) (0 : Int32)
set_option maxRecDepth 100000 in
set_option maxHeartbeats 4000000 in
theorem k_X1_allCells {h : Nat → Nat} {Z : State → Heap → Prop} {sa : Nat → Nat} (hZ : ZK h Z sa) (l : Launch) (D : va_G) (cA cL : ClassId) (s : ST) (b0 : Nat) (hb0 : isK 1 b0) {o : Int64} (hs : C_X1_allCells s b0 = some o) : ML l (KC D cA cL h Z) 2 yX1_allCells cX1_allCells 4 (some .long) s [.ref (h b0)] o s := by
  refine met_l (by decide) (Nat.le_of_ble_eq_true rfl) ?_
  intro p e st m args below meth c Q X RI
  unfold C_X1_allCells at hs
  refine g_lconst X dX1_allCells_0 (q := 1) rfl li_l0 ?_
  refine g_lstore_n X dX1_allCells_1 (q := 2) rfl (Nat.le_of_ble_eq_true rfl) (lv' := [(1, .long (0 : Int64)), (0, .ref (h b0))]) rfl ?_
  refine g_iconst X dX1_allCells_2 (q := 3) rfl li_i0 ?_
  refine g_istore_n X dX1_allCells_3 (q := 4) rfl (Nat.le_of_ble_eq_true rfl) (lv' := [(3, .int (0 : Int32)), (1, .long (0 : Int64)), (0, .ref (h b0))]) rfl ?_
  refine wg_sub [2, 1, 0] rfl (lpW2 (fun (a1 : Int64) (a2 : Int32) => WG (KC D cA cL h Z) p l e (rmD 2) st m args below meth c Q 4 s 4 [(0, .ref (h b0)), (1, .long a1), (3, .int a2)] []) (fun rec1 ih1 a1 a2 hs => ?_) _ _ _ hs)
  refine g_iload_n X dX1_allCells_4 (q := 5) rfl 2 rfl ?_
  refine g_bipush X dX1_allCells_5 (q := 7) rfl li_b64 ?_
  refine g_icmp_ge X dX1_allCells_7 (q := 10) rfl (tgt := 30) (by decide) hs ?_ ?_
  · intro hs
    refine g_lload_n X dX1_allCells_30 (q := 31) rfl 1 rfl ?_
    exact RI _ 31 _ _ rfl (Option.some.inj hs) dX1_allCells_31
  · intro hs
    refine g_aload_n X dX1_allCells_10 (q := 11) rfl 0 rfl ?_
    refine g_iload_n X dX1_allCells_11 (q := 12) rfl 2 rfl ?_
    refine vc_X1_isCell_X1 hZ X dX1_allCells_12 (q := 15) rfl hb0 (Nat.le_of_ble_eq_true rfl) (Nat.le_of_ble_eq_true rfl) (Nat.le_of_ble_eq_true rfl) hs (fun y1 hs => ?_)
    refine jnW1 (fun (a3 : Int64) => WG (KC D cA cL h Z) p l e (rmD 2) st m args below meth c Q 4 s 24 [(0, .ref (h b0)), (1, .long a3), (3, .int a2)] []) hs (fun a3 hs => ?_) (fun j1 ih2 hs => ?_)
    · refine g_iinc X dX1_allCells_24 (q := 27) rfl 2 rfl (v := (a2 + (1 : Int32))) (congrArg (HAdd.hAdd a2) li_i1) (Nat.le_of_ble_eq_true rfl) (lv' := [(3, .int (a2 + (1 : Int32))), (0, .ref (h b0)), (1, .long a3)]) rfl ?_
      refine g_goto X dX1_allCells_27 (tgt := 4) (by decide) ?_
      exact wg_sub [1, 2, 0] rfl (ih1 _ _ hs)
    refine g_if_eq X dX1_allCells_15 (q := 18) rfl (tgt := 24) (by decide) hs ?_ ?_
    · intro hs
      exact wg_sub [0, 1, 2] rfl (ih2 _ hs)
    · intro hs
      refine g_lload_n X dX1_allCells_18 (q := 19) rfl 1 rfl ?_
      refine g_lconst X dX1_allCells_19 (q := 20) rfl li_l1 ?_
      refine g_iload_n X dX1_allCells_20 (q := 21) rfl 2 rfl ?_
      refine g_lshl X dX1_allCells_21 (q := 22) rfl ?_
      refine g_lor X dX1_allCells_22 (q := 23) rfl ?_
      refine nmL hs (fun y2 hs => ?_)
      refine g_lstore_n X dX1_allCells_23 (q := 24) rfl (Nat.le_of_ble_eq_true rfl) (lv' := [(1, .long y2), (0, .ref (h b0)), (3, .int a2)]) rfl ?_
      exact wg_sub [1, 0, 2] rfl (ih2 _ hs)
theorem dX9_isIn_0 : decode cX9_isIn 0 = .ok (.iload_n 2, 1) := by decide +kernel
theorem dX9_isIn_1 : decode cX9_isIn 1 = .ok (.ifCond .lt 23, 3) := by decide +kernel
theorem dX9_isIn_4 : decode cX9_isIn 4 = .ok (.iload_n 2, 1) := by decide +kernel
theorem dX9_isIn_5 : decode cX9_isIn 5 = .ok (.bipush 64, 2) := by decide +kernel
theorem dX9_isIn_7 : decode cX9_isIn 7 = .ok (.if_icmp .ge 17, 3) := by decide +kernel
theorem dX9_isIn_10 : decode cX9_isIn 10 = .ok (.lload_n 0, 1) := by decide +kernel
theorem dX9_isIn_11 : decode cX9_isIn 11 = .ok (.iload_n 2, 1) := by decide +kernel
theorem dX9_isIn_12 : decode cX9_isIn 12 = .ok (.lushr, 1) := by decide +kernel
theorem dX9_isIn_13 : decode cX9_isIn 13 = .ok (.lconst 1, 1) := by decide +kernel
theorem dX9_isIn_14 : decode cX9_isIn 14 = .ok (.land, 1) := by decide +kernel
theorem dX9_isIn_15 : decode cX9_isIn 15 = .ok (.lconst 0, 1) := by decide +kernel
theorem dX9_isIn_16 : decode cX9_isIn 16 = .ok (.lcmp, 1) := by decide +kernel
theorem dX9_isIn_17 : decode cX9_isIn 17 = .ok (.ifCond .eq 7, 3) := by decide +kernel
theorem dX9_isIn_20 : decode cX9_isIn 20 = .ok (.iconst 1, 1) := by decide +kernel
theorem dX9_isIn_21 : decode cX9_isIn 21 = .ok (.goto 4, 3) := by decide +kernel
theorem dX9_isIn_24 : decode cX9_isIn 24 = .ok (.iconst 0, 1) := by decide +kernel
theorem dX9_isIn_25 : decode cX9_isIn 25 = .ok (.ireturn, 1) := by decide +kernel
def C_X9_isIn (s : ST) (x1 : Int64) (x2 : Int32) : Int32 := if x2 < 0 then ((0 : Int32)) else (if (64 : Int32) ≤ x2 then ((0 : Int32)) else (if (lg_cmp ((lush x1 x2) &&& (1 : Int64)) (0 : Int64)) = 0 then ((0 : Int32)) else ((1 : Int32))))
set_option maxRecDepth 100000 in
set_option maxHeartbeats 4000000 in
theorem k_X9_isIn {h : Nat → Nat} {Z : State → Heap → Prop} {sa : Nat → Nat} (hZ : ZK h Z sa) (l : Launch) (D : va_G) (cA cL : ClassId) (s : ST) (x1 : Int64) (x2 : Int32) : MI l (KC D cA cL h Z) 1 yX9_isIn cX9_isIn 3 (some .boolean) s [.long x1, .int x2] (C_X9_isIn s x1 x2) s := by
  refine met_i (by decide) (Nat.le_of_ble_eq_true rfl) ?_
  intro p e st m args below meth c Q X RI
  generalize hs : C_X9_isIn s x1 x2 = o at RI
  unfold C_X9_isIn at hs
  refine g_iload_n X dX9_isIn_0 (q := 1) rfl 1 rfl ?_
  refine g_if_lt X dX9_isIn_1 (q := 4) rfl (tgt := 24) (by decide) hs ?_ ?_
  · intro hs
    refine g_iconst X dX9_isIn_24 (q := 25) rfl li_i0 ?_
    exact RI _ 25 _ _ _ rfl rfl hs dX9_isIn_25
  · intro hs
    refine g_iload_n X dX9_isIn_4 (q := 5) rfl 1 rfl ?_
    refine g_bipush X dX9_isIn_5 (q := 7) rfl li_b64 ?_
    refine g_icmp_ge X dX9_isIn_7 (q := 10) rfl (tgt := 24) (by decide) hs ?_ ?_
    · intro hs
      refine g_iconst X dX9_isIn_24 (q := 25) rfl li_i0 ?_
      exact RI _ 25 _ _ _ rfl rfl hs dX9_isIn_25
    · intro hs
      refine g_lload_n X dX9_isIn_10 (q := 11) rfl 0 rfl ?_
      refine g_iload_n X dX9_isIn_11 (q := 12) rfl 1 rfl ?_
      refine g_lushr X dX9_isIn_12 (q := 13) rfl ?_
      refine g_lconst X dX9_isIn_13 (q := 14) rfl li_l1 ?_
      refine g_land X dX9_isIn_14 (q := 15) rfl ?_
      refine g_lconst X dX9_isIn_15 (q := 16) rfl li_l0 ?_
      refine g_lcmp X dX9_isIn_16 (q := 17) rfl ?_
      refine g_if_eq X dX9_isIn_17 (q := 20) rfl (tgt := 24) (by decide) hs ?_ ?_
      · intro hs
        refine g_iconst X dX9_isIn_24 (q := 25) rfl li_i0 ?_
        exact RI _ 25 _ _ _ rfl rfl hs dX9_isIn_25
      · intro hs
        refine g_iconst X dX9_isIn_20 (q := 21) rfl li_i1 ?_
        refine g_goto X dX9_isIn_21 (tgt := 25) (by decide) ?_
        exact RI _ 25 _ _ _ rfl rfl hs dX9_isIn_25
theorem dX1_hasSeed_0 : decode cX1_hasSeed 0 = .ok (.aload_n 0, 1) := by decide +kernel
theorem dX1_hasSeed_1 : decode cX1_hasSeed 1 = .ok (.getfield 62, 3) := by decide +kernel
theorem dX1_hasSeed_4 : decode cX1_hasSeed 4 = .ok (.iload_n 1, 1) := by decide +kernel
theorem dX1_hasSeed_5 : decode cX1_hasSeed 5 = .ok (.invokestatic 81, 3) := by decide +kernel
theorem dX1_hasSeed_8 : decode cX1_hasSeed 8 = .ok (.ireturn, 1) := by decide +kernel
theorem wX9_isIn_X1 : Cond.methodLinkNest RX1 81 yX9_isIn "StormSeeds" ∈ NW := nw_of 632 (by decide +kernel) rfl
theorem vc_X9_isIn_X1 {p : Program} {l : Launch} {e : Env} {st : State} {m : MethodId} {args : Array Value} {below : List Frame} {meth : Method} {c : Code} {Q : State → Prop} {nL : Nat} {cc : ByteArray} {s : ST} {pc q : Nat} {lv : List (Nat × Value)} {rest : List Value} {D : va_G} {cA cL : ClassId} {h : Nat → Nat} {Z : State → Heap → Prop} {sa : Nat → Nat} (hZ : ZK h Z sa) {d0 : Nat} (X : Cx (KC D cA cL h Z) p st m args meth c cc nL RX1) {x1 : Int64} {x2 : Int32} (d : decode cc pc = .ok (.invokestatic 81, 3)) (hq : pc + 3 = q) (hd1 : 1 + 1 ≤ d0) (hd2 : 8 + (3 + 11) + 100 * 1 ≤ 100 * d0) (hr : (rest.map fun v => v.category).sum ≤ 8) {B : Type} {f : Int32 → B} {r : B} (hs : Lt (C_X9_isIn s x1 x2) f = r) (k : ∀ y, f y = r → WG (KC D cA cL h Z) p l e (rmD d0) st m args below meth c Q nL s q lv (.int y :: rest)) : WG (KC D cA cL h Z) p l e (rmD d0) st m args below meth c Q nL s pc lv (.int x2 :: .long x1 :: rest) := by
  exact cSN_I (K := KC D cA cL h Z) X (n := 2) (k_X9_isIn hZ l D cA cL s x1 x2) (gt_c (gt_of 634 (by decide +kernel) rfl) gt_t) (hZ.1 st st.heap X.2.2.2 _ wX9_isIn_X1) (gt_of 196 (by decide +kernel) rfl) (gt_of 633 (by decide +kernel) rfl) ⟨hd1, hd2⟩ ⟨by decide, by decide, by decide +kernel⟩ (As := [.long x1, .int x2]) rfl hr rfl d hq (k _ hs)
def C_X1_hasSeed (s : ST) (b0 : Nat) (x1 : Int32) : Int32 := Lt (C_X9_isIn s (s.2 b0 8) x1) fun y1 => (y1 &&& 1)
set_option maxRecDepth 100000 in
set_option maxHeartbeats 4000000 in
theorem k_X1_hasSeed {h : Nat → Nat} {Z : State → Heap → Prop} {sa : Nat → Nat} (hZ : ZK h Z sa) (l : Launch) (D : va_G) (cA cL : ClassId) (s : ST) (b0 : Nat) (x1 : Int32) (hb0 : isK 1 b0) : MI l (KC D cA cL h Z) 2 yX1_hasSeed cX1_hasSeed 2 (some .boolean) s [.ref (h b0), .int x1] (C_X1_hasSeed s b0 x1) s := by
  refine met_i (by decide) (Nat.le_of_ble_eq_true rfl) ?_
  intro p e st m args below meth c Q X RI
  generalize hs : C_X1_hasSeed s b0 x1 = o at RI
  unfold C_X1_hasSeed at hs
  refine g_aload_n X dX1_hasSeed_0 (q := 1) rfl 0 rfl ?_
  refine cg_1_8 X dX1_hasSeed_1 (q := 4) rfl hb0 lf_X1_62 ?_
  refine g_iload_n X dX1_hasSeed_4 (q := 5) rfl 1 rfl ?_
  refine vc_X9_isIn_X1 hZ X dX1_hasSeed_5 (q := 8) rfl (Nat.le_of_ble_eq_true rfl) (Nat.le_of_ble_eq_true rfl) (Nat.le_of_ble_eq_true rfl) hs (fun y1 hs => ?_)
  exact RI _ 8 _ _ _ rfl rfl hs dX1_hasSeed_8
theorem dX1_hasStorm_0 : decode cX1_hasStorm 0 = .ok (.aload_n 0, 1) := by decide +kernel
theorem dX1_hasStorm_1 : decode cX1_hasStorm 1 = .ok (.getfield 65, 3) := by decide +kernel
theorem dX1_hasStorm_4 : decode cX1_hasStorm 4 = .ok (.iload_n 1, 1) := by decide +kernel
theorem dX1_hasStorm_5 : decode cX1_hasStorm 5 = .ok (.invokestatic 81, 3) := by decide +kernel
theorem dX1_hasStorm_8 : decode cX1_hasStorm 8 = .ok (.ireturn, 1) := by decide +kernel
def C_X1_hasStorm (s : ST) (b0 : Nat) (x1 : Int32) : Int32 := Lt (C_X9_isIn s (s.2 b0 9) x1) fun y1 => (y1 &&& 1)
set_option maxRecDepth 100000 in
set_option maxHeartbeats 4000000 in
theorem k_X1_hasStorm {h : Nat → Nat} {Z : State → Heap → Prop} {sa : Nat → Nat} (hZ : ZK h Z sa) (l : Launch) (D : va_G) (cA cL : ClassId) (s : ST) (b0 : Nat) (x1 : Int32) (hb0 : isK 1 b0) : MI l (KC D cA cL h Z) 2 yX1_hasStorm cX1_hasStorm 2 (some .boolean) s [.ref (h b0), .int x1] (C_X1_hasStorm s b0 x1) s := by
  refine met_i (by decide) (Nat.le_of_ble_eq_true rfl) ?_
  intro p e st m args below meth c Q X RI
  generalize hs : C_X1_hasStorm s b0 x1 = o at RI
  unfold C_X1_hasStorm at hs
  refine g_aload_n X dX1_hasStorm_0 (q := 1) rfl 0 rfl ?_
  refine cg_1_9 X dX1_hasStorm_1 (q := 4) rfl hb0 lf_X1_65 ?_
  refine g_iload_n X dX1_hasStorm_4 (q := 5) rfl 1 rfl ?_
  refine vc_X9_isIn_X1 hZ X dX1_hasStorm_5 (q := 8) rfl (Nat.le_of_ble_eq_true rfl) (Nat.le_of_ble_eq_true rfl) (Nat.le_of_ble_eq_true rfl) hs (fun y1 hs => ?_)
  exact RI _ 8 _ _ _ rfl rfl hs dX1_hasStorm_8
theorem dX1_hasHedge_0 : decode cX1_hasHedge 0 = .ok (.aload_n 0, 1) := by decide +kernel
theorem dX1_hasHedge_1 : decode cX1_hasHedge 1 = .ok (.getfield 49, 3) := by decide +kernel
theorem dX1_hasHedge_4 : decode cX1_hasHedge 4 = .ok (.iload_n 1, 1) := by decide +kernel
theorem dX1_hasHedge_5 : decode cX1_hasHedge 5 = .ok (.invokestatic 81, 3) := by decide +kernel
theorem dX1_hasHedge_8 : decode cX1_hasHedge 8 = .ok (.ireturn, 1) := by decide +kernel
def C_X1_hasHedge (s : ST) (b0 : Nat) (x1 : Int32) : Int32 := Lt (C_X9_isIn s (s.2 b0 7) x1) fun y1 => (y1 &&& 1)
set_option maxRecDepth 100000 in
set_option maxHeartbeats 4000000 in
theorem k_X1_hasHedge {h : Nat → Nat} {Z : State → Heap → Prop} {sa : Nat → Nat} (hZ : ZK h Z sa) (l : Launch) (D : va_G) (cA cL : ClassId) (s : ST) (b0 : Nat) (x1 : Int32) (hb0 : isK 1 b0) : MI l (KC D cA cL h Z) 2 yX1_hasHedge cX1_hasHedge 2 (some .boolean) s [.ref (h b0), .int x1] (C_X1_hasHedge s b0 x1) s := by
  refine met_i (by decide) (Nat.le_of_ble_eq_true rfl) ?_
  intro p e st m args below meth c Q X RI
  generalize hs : C_X1_hasHedge s b0 x1 = o at RI
  unfold C_X1_hasHedge at hs
  refine g_aload_n X dX1_hasHedge_0 (q := 1) rfl 0 rfl ?_
  refine cg_1_7 X dX1_hasHedge_1 (q := 4) rfl hb0 lf_X1_49 ?_
  refine g_iload_n X dX1_hasHedge_4 (q := 5) rfl 1 rfl ?_
  refine vc_X9_isIn_X1 hZ X dX1_hasHedge_5 (q := 8) rfl (Nat.le_of_ble_eq_true rfl) (Nat.le_of_ble_eq_true rfl) (Nat.le_of_ble_eq_true rfl) hs (fun y1 hs => ?_)
  exact RI _ 8 _ _ _ rfl rfl hs dX1_hasHedge_8
theorem dX1_isSowable_0 : decode cX1_isSowable 0 = .ok (.aload_n 0, 1) := by decide +kernel
theorem dX1_isSowable_1 : decode cX1_isSowable 1 = .ok (.iload_n 1, 1) := by decide +kernel
theorem dX1_isSowable_2 : decode cX1_isSowable 2 = .ok (.invokevirtual 77, 3) := by decide +kernel
theorem dX1_isSowable_5 : decode cX1_isSowable 5 = .ok (.ifCond .eq 23, 3) := by decide +kernel
theorem dX1_isSowable_8 : decode cX1_isSowable 8 = .ok (.aload_n 0, 1) := by decide +kernel
theorem dX1_isSowable_9 : decode cX1_isSowable 9 = .ok (.getfield 62, 3) := by decide +kernel
theorem dX1_isSowable_12 : decode cX1_isSowable 12 = .ok (.aload_n 0, 1) := by decide +kernel
theorem dX1_isSowable_13 : decode cX1_isSowable 13 = .ok (.getfield 49, 3) := by decide +kernel
theorem dX1_isSowable_16 : decode cX1_isSowable 16 = .ok (.lor, 1) := by decide +kernel
theorem dX1_isSowable_17 : decode cX1_isSowable 17 = .ok (.iload_n 1, 1) := by decide +kernel
theorem dX1_isSowable_18 : decode cX1_isSowable 18 = .ok (.invokestatic 81, 3) := by decide +kernel
theorem dX1_isSowable_21 : decode cX1_isSowable 21 = .ok (.ifCond .ne 7, 3) := by decide +kernel
theorem dX1_isSowable_24 : decode cX1_isSowable 24 = .ok (.iconst 1, 1) := by decide +kernel
theorem dX1_isSowable_25 : decode cX1_isSowable 25 = .ok (.goto 4, 3) := by decide +kernel
theorem dX1_isSowable_28 : decode cX1_isSowable 28 = .ok (.iconst 0, 1) := by decide +kernel
theorem dX1_isSowable_29 : decode cX1_isSowable 29 = .ok (.ireturn, 1) := by decide +kernel
def C_X1_isSowable (s : ST) (b0 : Nat) (x1 : Int32) : Int32 := Lt (C_X1_isCell s b0 x1) fun y1 => if y1 = 0 then ((0 : Int32)) else (Lt (C_X9_isIn s ((s.2 b0 8) ||| (s.2 b0 7)) x1) fun y2 => if y2 = 0 then ((1 : Int32)) else ((0 : Int32)))
set_option maxRecDepth 100000 in
set_option maxHeartbeats 4000000 in
theorem k_X1_isSowable {h : Nat → Nat} {Z : State → Heap → Prop} {sa : Nat → Nat} (hZ : ZK h Z sa) (l : Launch) (D : va_G) (cA cL : ClassId) (s : ST) (b0 : Nat) (x1 : Int32) (hb0 : isK 1 b0) : MI l (KC D cA cL h Z) 2 yX1_isSowable cX1_isSowable 2 (some .boolean) s [.ref (h b0), .int x1] (C_X1_isSowable s b0 x1) s := by
  refine met_i (by decide) (Nat.le_of_ble_eq_true rfl) ?_
  intro p e st m args below meth c Q X RI
  generalize hs : C_X1_isSowable s b0 x1 = o at RI
  unfold C_X1_isSowable at hs
  refine g_aload_n X dX1_isSowable_0 (q := 1) rfl 0 rfl ?_
  refine g_iload_n X dX1_isSowable_1 (q := 2) rfl 1 rfl ?_
  refine vc_X1_isCell_X1 hZ X dX1_isSowable_2 (q := 5) rfl hb0 (Nat.le_of_ble_eq_true rfl) (Nat.le_of_ble_eq_true rfl) (Nat.le_of_ble_eq_true rfl) hs (fun y1 hs => ?_)
  refine g_if_eq X dX1_isSowable_5 (q := 8) rfl (tgt := 28) (by decide) hs ?_ ?_
  · intro hs
    refine g_iconst X dX1_isSowable_28 (q := 29) rfl li_i0 ?_
    exact RI _ 29 _ _ _ rfl rfl hs dX1_isSowable_29
  · intro hs
    refine g_aload_n X dX1_isSowable_8 (q := 9) rfl 0 rfl ?_
    refine cg_1_8 X dX1_isSowable_9 (q := 12) rfl hb0 lf_X1_62 ?_
    refine g_aload_n X dX1_isSowable_12 (q := 13) rfl 0 rfl ?_
    refine cg_1_7 X dX1_isSowable_13 (q := 16) rfl hb0 lf_X1_49 ?_
    refine g_lor X dX1_isSowable_16 (q := 17) rfl ?_
    refine g_iload_n X dX1_isSowable_17 (q := 18) rfl 1 rfl ?_
    refine vc_X9_isIn_X1 hZ X dX1_isSowable_18 (q := 21) rfl (Nat.le_of_ble_eq_true rfl) (Nat.le_of_ble_eq_true rfl) (Nat.le_of_ble_eq_true rfl) hs (fun y2 hs => ?_)
    refine g_if_ne X dX1_isSowable_21 (q := 24) rfl (tgt := 28) (by decide) hs ?_ ?_
    · intro hs
      refine g_iconst X dX1_isSowable_28 (q := 29) rfl li_i0 ?_
      exact RI _ 29 _ _ _ rfl rfl hs dX1_isSowable_29
    · intro hs
      refine g_iconst X dX1_isSowable_24 (q := 25) rfl li_i1 ?_
      refine g_goto X dX1_isSowable_25 (tgt := 29) (by decide) ?_
      exact RI _ 29 _ _ _ rfl rfl hs dX1_isSowable_29
theorem dX9_isWithin_0 : decode cX9_isWithin 0 = .ok (.iload_n 0, 1) := by decide +kernel
theorem dX9_isWithin_1 : decode cX9_isWithin 1 = .ok (.iload_n 1, 1) := by decide +kernel
theorem dX9_isWithin_2 : decode cX9_isWithin 2 = .ok (.if_icmp .lt 12, 3) := by decide +kernel
theorem dX9_isWithin_5 : decode cX9_isWithin 5 = .ok (.iload_n 0, 1) := by decide +kernel
theorem dX9_isWithin_6 : decode cX9_isWithin 6 = .ok (.iload_n 2, 1) := by decide +kernel
theorem dX9_isWithin_7 : decode cX9_isWithin 7 = .ok (.if_icmp .gt 7, 3) := by decide +kernel
theorem dX9_isWithin_10 : decode cX9_isWithin 10 = .ok (.iconst 1, 1) := by decide +kernel
theorem dX9_isWithin_11 : decode cX9_isWithin 11 = .ok (.goto 4, 3) := by decide +kernel
theorem dX9_isWithin_14 : decode cX9_isWithin 14 = .ok (.iconst 0, 1) := by decide +kernel
theorem dX9_isWithin_15 : decode cX9_isWithin 15 = .ok (.ireturn, 1) := by decide +kernel
def C_X9_isWithin (s : ST) (x1 : Int32) (x2 : Int32) (x3 : Int32) : Int32 := if x1 < x2 then ((0 : Int32)) else (if x3 < x1 then ((0 : Int32)) else ((1 : Int32)))
set_option maxRecDepth 100000 in
set_option maxHeartbeats 4000000 in
theorem k_X9_isWithin {h : Nat → Nat} {Z : State → Heap → Prop} {sa : Nat → Nat} (hZ : ZK h Z sa) (l : Launch) (D : va_G) (cA cL : ClassId) (s : ST) (x1 : Int32) (x2 : Int32) (x3 : Int32) : MI l (KC D cA cL h Z) 1 yX9_isWithin cX9_isWithin 3 (some .boolean) s [.int x1, .int x2, .int x3] (C_X9_isWithin s x1 x2 x3) s := by
  refine met_i (by decide) (Nat.le_of_ble_eq_true rfl) ?_
  intro p e st m args below meth c Q X RI
  generalize hs : C_X9_isWithin s x1 x2 x3 = o at RI
  unfold C_X9_isWithin at hs
  refine g_iload_n X dX9_isWithin_0 (q := 1) rfl 0 rfl ?_
  refine g_iload_n X dX9_isWithin_1 (q := 2) rfl 1 rfl ?_
  refine g_icmp_lt X dX9_isWithin_2 (q := 5) rfl (tgt := 14) (by decide) hs ?_ ?_
  · intro hs
    refine g_iconst X dX9_isWithin_14 (q := 15) rfl li_i0 ?_
    exact RI _ 15 _ _ _ rfl rfl hs dX9_isWithin_15
  · intro hs
    refine g_iload_n X dX9_isWithin_5 (q := 6) rfl 0 rfl ?_
    refine g_iload_n X dX9_isWithin_6 (q := 7) rfl 2 rfl ?_
    refine g_icmp_gt X dX9_isWithin_7 (q := 10) rfl (tgt := 14) (by decide) hs ?_ ?_
    · intro hs
      refine g_iconst X dX9_isWithin_14 (q := 15) rfl li_i0 ?_
      exact RI _ 15 _ _ _ rfl rfl hs dX9_isWithin_15
    · intro hs
      refine g_iconst X dX9_isWithin_10 (q := 11) rfl li_i1 ?_
      refine g_goto X dX9_isWithin_11 (tgt := 15) (by decide) ?_
      exact RI _ 15 _ _ _ rfl rfl hs dX9_isWithin_15
theorem dX1_isTurnable_0 : decode cX1_isTurnable 0 = .ok (.iload_n 1, 1) := by decide +kernel
theorem dX1_isTurnable_1 : decode cX1_isTurnable 1 = .ok (.iconst 0, 1) := by decide +kernel
theorem dX1_isTurnable_2 : decode cX1_isTurnable 2 = .ok (.iconst 3, 1) := by decide +kernel
theorem dX1_isTurnable_3 : decode cX1_isTurnable 3 = .ok (.invokestatic 85, 3) := by decide +kernel
theorem dX1_isTurnable_6 : decode cX1_isTurnable 6 = .ok (.ifCond .eq 15, 3) := by decide +kernel
theorem dX1_isTurnable_9 : decode cX1_isTurnable 9 = .ok (.iload_n 1, 1) := by decide +kernel
theorem dX1_isTurnable_10 : decode cX1_isTurnable 10 = .ok (.aload_n 0, 1) := by decide +kernel
theorem dX1_isTurnable_11 : decode cX1_isTurnable 11 = .ok (.getfield 40, 3) := by decide +kernel
theorem dX1_isTurnable_14 : decode cX1_isTurnable 14 = .ok (.if_icmp .eq 7, 3) := by decide +kernel
theorem dX1_isTurnable_17 : decode cX1_isTurnable 17 = .ok (.iconst 1, 1) := by decide +kernel
theorem dX1_isTurnable_18 : decode cX1_isTurnable 18 = .ok (.goto 4, 3) := by decide +kernel
theorem dX1_isTurnable_21 : decode cX1_isTurnable 21 = .ok (.iconst 0, 1) := by decide +kernel
theorem dX1_isTurnable_22 : decode cX1_isTurnable 22 = .ok (.ireturn, 1) := by decide +kernel
theorem wX9_isWithin_X1 : Cond.methodLinkNest RX1 85 yX9_isWithin "StormSeeds" ∈ NW := nw_of 615 (by decide +kernel) rfl
theorem vc_X9_isWithin_X1 {p : Program} {l : Launch} {e : Env} {st : State} {m : MethodId} {args : Array Value} {below : List Frame} {meth : Method} {c : Code} {Q : State → Prop} {nL : Nat} {cc : ByteArray} {s : ST} {pc q : Nat} {lv : List (Nat × Value)} {rest : List Value} {D : va_G} {cA cL : ClassId} {h : Nat → Nat} {Z : State → Heap → Prop} {sa : Nat → Nat} (hZ : ZK h Z sa) {d0 : Nat} (X : Cx (KC D cA cL h Z) p st m args meth c cc nL RX1) {x1 : Int32} {x2 : Int32} {x3 : Int32} (d : decode cc pc = .ok (.invokestatic 85, 3)) (hq : pc + 3 = q) (hd1 : 1 + 1 ≤ d0) (hd2 : 8 + (3 + 11) + 100 * 1 ≤ 100 * d0) (hr : (rest.map fun v => v.category).sum ≤ 8) {B : Type} {f : Int32 → B} {r : B} (hs : Lt (C_X9_isWithin s x1 x2 x3) f = r) (k : ∀ y, f y = r → WG (KC D cA cL h Z) p l e (rmD d0) st m args below meth c Q nL s q lv (.int y :: rest)) : WG (KC D cA cL h Z) p l e (rmD d0) st m args below meth c Q nL s pc lv (.int x3 :: .int x2 :: .int x1 :: rest) := by
  exact cSN_I (K := KC D cA cL h Z) X (n := 3) (k_X9_isWithin hZ l D cA cL s x1 x2 x3) (gt_c (gt_of 592 (by decide +kernel) rfl) gt_t) (hZ.1 st st.heap X.2.2.2 _ wX9_isWithin_X1) (gt_of 196 (by decide +kernel) rfl) (gt_of 591 (by decide +kernel) rfl) ⟨hd1, hd2⟩ ⟨by decide, by decide, by decide +kernel⟩ (As := [.int x1, .int x2, .int x3]) rfl hr rfl d hq (k _ hs)
def C_X1_isTurnable (s : ST) (b0 : Nat) (x1 : Int32) : Int32 := Lt (C_X9_isWithin s x1 (0 : Int32) (3 : Int32)) fun y1 => if y1 = 0 then ((0 : Int32)) else (if x1 = (s.1 b0 3) then ((0 : Int32)) else ((1 : Int32)))
set_option maxRecDepth 100000 in
set_option maxHeartbeats 4000000 in
theorem k_X1_isTurnable {h : Nat → Nat} {Z : State → Heap → Prop} {sa : Nat → Nat} (hZ : ZK h Z sa) (l : Launch) (D : va_G) (cA cL : ClassId) (s : ST) (b0 : Nat) (x1 : Int32) (hb0 : isK 1 b0) : MI l (KC D cA cL h Z) 2 yX1_isTurnable cX1_isTurnable 2 (some .boolean) s [.ref (h b0), .int x1] (C_X1_isTurnable s b0 x1) s := by
  refine met_i (by decide) (Nat.le_of_ble_eq_true rfl) ?_
  intro p e st m args below meth c Q X RI
  generalize hs : C_X1_isTurnable s b0 x1 = o at RI
  unfold C_X1_isTurnable at hs
  refine g_iload_n X dX1_isTurnable_0 (q := 1) rfl 1 rfl ?_
  refine g_iconst X dX1_isTurnable_1 (q := 2) rfl li_i0 ?_
  refine g_iconst X dX1_isTurnable_2 (q := 3) rfl li_i3 ?_
  refine vc_X9_isWithin_X1 hZ X dX1_isTurnable_3 (q := 6) rfl (Nat.le_of_ble_eq_true rfl) (Nat.le_of_ble_eq_true rfl) (Nat.le_of_ble_eq_true rfl) hs (fun y1 hs => ?_)
  refine g_if_eq X dX1_isTurnable_6 (q := 9) rfl (tgt := 21) (by decide) hs ?_ ?_
  · intro hs
    refine g_iconst X dX1_isTurnable_21 (q := 22) rfl li_i0 ?_
    exact RI _ 22 _ _ _ rfl rfl hs dX1_isTurnable_22
  · intro hs
    refine g_iload_n X dX1_isTurnable_9 (q := 10) rfl 1 rfl ?_
    refine g_aload_n X dX1_isTurnable_10 (q := 11) rfl 0 rfl ?_
    refine cg_1_3 X dX1_isTurnable_11 (q := 14) rfl hb0 lf_X1_40 ?_
    refine g_icmp_eq X dX1_isTurnable_14 (q := 17) rfl (tgt := 21) (by decide) hs ?_ ?_
    · intro hs
      refine g_iconst X dX1_isTurnable_21 (q := 22) rfl li_i0 ?_
      exact RI _ 22 _ _ _ rfl rfl hs dX1_isTurnable_22
    · intro hs
      refine g_iconst X dX1_isTurnable_17 (q := 18) rfl li_i1 ?_
      refine g_goto X dX1_isTurnable_18 (tgt := 22) (by decide) ?_
      exact RI _ 22 _ _ _ rfl rfl hs dX1_isTurnable_22
theorem dX1_veer_0 : decode cX1_veer 0 = .ok (.aload_n 0, 1) := by decide +kernel
theorem dX1_veer_1 : decode cX1_veer 1 = .ok (.iload_n 1, 1) := by decide +kernel
theorem dX1_veer_2 : decode cX1_veer 2 = .ok (.invokevirtual 89, 3) := by decide +kernel
theorem dX1_veer_5 : decode cX1_veer 5 = .ok (.ifCond .ne 5, 3) := by decide +kernel
theorem dX1_veer_8 : decode cX1_veer 8 = .ok (.iconst 0, 1) := by decide +kernel
theorem dX1_veer_9 : decode cX1_veer 9 = .ok (.ireturn, 1) := by decide +kernel
theorem dX1_veer_10 : decode cX1_veer 10 = .ok (.aload_n 0, 1) := by decide +kernel
theorem dX1_veer_11 : decode cX1_veer 11 = .ok (.iload_n 1, 1) := by decide +kernel
theorem dX1_veer_12 : decode cX1_veer 12 = .ok (.putfield 40, 3) := by decide +kernel
theorem dX1_veer_15 : decode cX1_veer 15 = .ok (.iconst 1, 1) := by decide +kernel
theorem dX1_veer_16 : decode cX1_veer 16 = .ok (.ireturn, 1) := by decide +kernel
theorem wX1_isTurnable_X1 : GoodIn GT (wsV RX1 89 RX1 yX1_isTurnable (.code yX1_isTurnable cX1_isTurnable 2 (some .boolean) :: GT)) := gt_V (gt_of 971 (by decide +kernel) rfl) (gt_of 965 (by decide +kernel) rfl) (gt_of 58 (by decide +kernel) rfl) (gt_of 197 (by decide +kernel) rfl) (gt_of 966 (by decide +kernel) rfl)
theorem vc_X1_isTurnable_X1 {p : Program} {l : Launch} {e : Env} {st : State} {m : MethodId} {args : Array Value} {below : List Frame} {meth : Method} {c : Code} {Q : State → Prop} {nL : Nat} {cc : ByteArray} {s : ST} {pc q : Nat} {lv : List (Nat × Value)} {rest : List Value} {D : va_G} {cA cL : ClassId} {h : Nat → Nat} {Z : State → Heap → Prop} {sa : Nat → Nat} (hZ : ZK h Z sa) {d0 : Nat} (X : Cx (KC D cA cL h Z) p st m args meth c cc nL RX1) {b0 : Nat} {x1 : Int32} (d : decode cc pc = .ok (.invokevirtual 89, 3)) (hq : pc + 3 = q) (hb0 : isK 1 b0) (hd1 : 2 + 1 ≤ d0) (hd2 : 8 + (2 + 11) + 100 * 2 ≤ 100 * d0) (hr : (rest.map fun v => v.category).sum ≤ 8) {B : Type} {f : Int32 → B} {r : B} (hs : Lt (C_X1_isTurnable s b0 x1) f = r) (k : ∀ y, f y = r → WG (KC D cA cL h Z) p l e (rmD d0) st m args below meth c Q nL s q lv (.int y :: rest)) : WG (KC D cA cL h Z) p l e (rmD d0) st m args below meth c Q nL s pc lv (.int x1 :: .ref (h b0) :: rest) := by
  exact cV_I (K := KC D cA cL h Z) X b0 (n := 1) (k_X1_isTurnable hZ l D cA cL s b0 x1 hb0) wX1_isTurnable_X1 ⟨hd1, hd2⟩ ⟨by decide, by decide, by decide +kernel⟩ (As := [.int x1]) rfl hr (hb0).1 (fs := cF1 h b0 (s.1 b0) (s.2 b0)) (GC_1 (cA := cA) (cL := cL) hb0 _ _) rfl rfl d hq (k _ hs)
def C_X1_veer (s : ST) (b0 : Nat) (x1 : Int32) : Int32 × ST := Lt (C_X1_isTurnable s b0 x1) fun y1 => if y1 = 0 then (((0 : Int32), s)) else (Lt (ups s b0 3 x1) fun s1 => ((1 : Int32), s1))
set_option maxRecDepth 100000 in
set_option maxHeartbeats 4000000 in
theorem k_X1_veer {h : Nat → Nat} {Z : State → Heap → Prop} {sa : Nat → Nat} (hZ : ZK h Z sa) (l : Launch) (D : va_G) (cA cL : ClassId) (s : ST) (b0 : Nat) (x1 : Int32) (hb0 : isK 1 b0) : MI l (KC D cA cL h Z) 3 yX1_veer cX1_veer 2 (some .boolean) s [.ref (h b0), .int x1] (C_X1_veer s b0 x1).1 (C_X1_veer s b0 x1).2 := by
  refine met_i (by decide) (Nat.le_of_ble_eq_true rfl) ?_
  intro p e st m args below meth c Q X RI
  generalize hs : C_X1_veer s b0 x1 = o at RI
  unfold C_X1_veer at hs
  refine g_aload_n X dX1_veer_0 (q := 1) rfl 0 rfl ?_
  refine g_iload_n X dX1_veer_1 (q := 2) rfl 1 rfl ?_
  refine vc_X1_isTurnable_X1 hZ X dX1_veer_2 (q := 5) rfl hb0 (Nat.le_of_ble_eq_true rfl) (Nat.le_of_ble_eq_true rfl) (Nat.le_of_ble_eq_true rfl) hs (fun y1 hs => ?_)
  refine g_if_ne X dX1_veer_5 (q := 8) rfl (tgt := 10) (by decide) hs ?_ ?_
  · intro hs
    refine g_aload_n X dX1_veer_10 (q := 11) rfl 0 rfl ?_
    refine g_iload_n X dX1_veer_11 (q := 12) rfl 1 rfl ?_
    refine cp_1_3 X dX1_veer_12 (q := 15) rfl hb0 lf_X1_40 hs (fun s1 hs => ?_)
    refine g_iconst X dX1_veer_15 (q := 16) rfl li_i1 ?_
    exact RI _ 16 _ _ _ (rU0 hs) rfl (rV0 hs) dX1_veer_16
  · intro hs
    refine g_iconst X dX1_veer_8 (q := 9) rfl li_i0 ?_
    exact RI _ 9 _ _ _ (rU0 hs) rfl (rV0 hs) dX1_veer_9
theorem dX1_putBirds_0 : decode cX1_putBirds 0 = .ok (.iload_n 1, 1) := by decide +kernel
theorem dX1_putBirds_1 : decode cX1_putBirds 1 = .ok (.iconst 0, 1) := by decide +kernel
theorem dX1_putBirds_2 : decode cX1_putBirds 2 = .ok (.sipush 1000, 3) := by decide +kernel
theorem dX1_putBirds_5 : decode cX1_putBirds 5 = .ok (.invokestatic 85, 3) := by decide +kernel
theorem dX1_putBirds_8 : decode cX1_putBirds 8 = .ok (.ifCond .ne 5, 3) := by decide +kernel
theorem dX1_putBirds_11 : decode cX1_putBirds 11 = .ok (.iconst 0, 1) := by decide +kernel
theorem dX1_putBirds_12 : decode cX1_putBirds 12 = .ok (.ireturn, 1) := by decide +kernel
theorem dX1_putBirds_13 : decode cX1_putBirds 13 = .ok (.aload_n 0, 1) := by decide +kernel
theorem dX1_putBirds_14 : decode cX1_putBirds 14 = .ok (.iload_n 1, 1) := by decide +kernel
theorem dX1_putBirds_15 : decode cX1_putBirds 15 = .ok (.putfield 43, 3) := by decide +kernel
theorem dX1_putBirds_18 : decode cX1_putBirds 18 = .ok (.iconst 1, 1) := by decide +kernel
theorem dX1_putBirds_19 : decode cX1_putBirds 19 = .ok (.ireturn, 1) := by decide +kernel
def C_X1_putBirds (s : ST) (b0 : Nat) (x1 : Int32) : Int32 × ST := Lt (C_X9_isWithin s x1 (0 : Int32) (1000 : Int32)) fun y1 => if y1 = 0 then (((0 : Int32), s)) else (Lt (ups s b0 4 x1) fun s1 => ((1 : Int32), s1))
set_option maxRecDepth 100000 in
set_option maxHeartbeats 4000000 in
theorem k_X1_putBirds {h : Nat → Nat} {Z : State → Heap → Prop} {sa : Nat → Nat} (hZ : ZK h Z sa) (l : Launch) (D : va_G) (cA cL : ClassId) (s : ST) (b0 : Nat) (x1 : Int32) (hb0 : isK 1 b0) : MI l (KC D cA cL h Z) 2 yX1_putBirds cX1_putBirds 2 (some .boolean) s [.ref (h b0), .int x1] (C_X1_putBirds s b0 x1).1 (C_X1_putBirds s b0 x1).2 := by
  refine met_i (by decide) (Nat.le_of_ble_eq_true rfl) ?_
  intro p e st m args below meth c Q X RI
  generalize hs : C_X1_putBirds s b0 x1 = o at RI
  unfold C_X1_putBirds at hs
  refine g_iload_n X dX1_putBirds_0 (q := 1) rfl 1 rfl ?_
  refine g_iconst X dX1_putBirds_1 (q := 2) rfl li_i0 ?_
  refine g_sipush X dX1_putBirds_2 (q := 5) rfl li_s1000 ?_
  refine vc_X9_isWithin_X1 hZ X dX1_putBirds_5 (q := 8) rfl (Nat.le_of_ble_eq_true rfl) (Nat.le_of_ble_eq_true rfl) (Nat.le_of_ble_eq_true rfl) hs (fun y1 hs => ?_)
  refine g_if_ne X dX1_putBirds_8 (q := 11) rfl (tgt := 13) (by decide) hs ?_ ?_
  · intro hs
    refine g_aload_n X dX1_putBirds_13 (q := 14) rfl 0 rfl ?_
    refine g_iload_n X dX1_putBirds_14 (q := 15) rfl 1 rfl ?_
    refine cp_1_4 X dX1_putBirds_15 (q := 18) rfl hb0 lf_X1_43 hs (fun s1 hs => ?_)
    refine g_iconst X dX1_putBirds_18 (q := 19) rfl li_i1 ?_
    exact RI _ 19 _ _ _ (rU0 hs) rfl (rV0 hs) dX1_putBirds_19
  · intro hs
    refine g_iconst X dX1_putBirds_11 (q := 12) rfl li_i0 ?_
    exact RI _ 12 _ _ _ (rU0 hs) rfl (rV0 hs) dX1_putBirds_12
theorem dX1_putWet_0 : decode cX1_putWet 0 = .ok (.aload_n 0, 1) := by decide +kernel
theorem dX1_putWet_1 : decode cX1_putWet 1 = .ok (.iload_n 1, 1) := by decide +kernel
theorem dX1_putWet_2 : decode cX1_putWet 2 = .ok (.invokevirtual 77, 3) := by decide +kernel
theorem dX1_putWet_5 : decode cX1_putWet 5 = .ok (.ifCond .eq 13, 3) := by decide +kernel
theorem dX1_putWet_8 : decode cX1_putWet 8 = .ok (.iload_n 2, 1) := by decide +kernel
theorem dX1_putWet_9 : decode cX1_putWet 9 = .ok (.iconst 0, 1) := by decide +kernel
theorem dX1_putWet_10 : decode cX1_putWet 10 = .ok (.bipush 9, 2) := by decide +kernel
theorem dX1_putWet_12 : decode cX1_putWet 12 = .ok (.invokestatic 85, 3) := by decide +kernel
theorem dX1_putWet_15 : decode cX1_putWet 15 = .ok (.ifCond .ne 5, 3) := by decide +kernel
theorem dX1_putWet_18 : decode cX1_putWet 18 = .ok (.iconst 0, 1) := by decide +kernel
theorem dX1_putWet_19 : decode cX1_putWet 19 = .ok (.ireturn, 1) := by decide +kernel
theorem dX1_putWet_20 : decode cX1_putWet 20 = .ok (.aload_n 0, 1) := by decide +kernel
theorem dX1_putWet_21 : decode cX1_putWet 21 = .ok (.getfield 9, 3) := by decide +kernel
theorem dX1_putWet_24 : decode cX1_putWet 24 = .ok (.iload_n 1, 1) := by decide +kernel
theorem dX1_putWet_25 : decode cX1_putWet 25 = .ok (.iload_n 2, 1) := by decide +kernel
theorem dX1_putWet_26 : decode cX1_putWet 26 = .ok (.iastore, 1) := by decide +kernel
theorem dX1_putWet_27 : decode cX1_putWet 27 = .ok (.iconst 1, 1) := by decide +kernel
theorem dX1_putWet_28 : decode cX1_putWet 28 = .ok (.ireturn, 1) := by decide +kernel
def C_X1_putWet (s : ST) (b0 : Nat) (x1 : Int32) (x2 : Int32) : Option (Int32 × ST) := Lt (C_X1_isCell s b0 x1) fun y1 => if y1 = 0 then (some ((0 : Int32), s)) else (Lt (C_X9_isWithin s x2 (0 : Int32) (9 : Int32)) fun y2 => if y2 = 0 then (some ((0 : Int32), s)) else (Gs s (b0 + 1) 64 x1 x2 fun s1 => some ((1 : Int32), s1)))
set_option maxRecDepth 100000 in
set_option maxHeartbeats 4000000 in
theorem k_X1_putWet {h : Nat → Nat} {Z : State → Heap → Prop} {sa : Nat → Nat} (hZ : ZK h Z sa) (l : Launch) (D : va_G) (cA cL : ClassId) (s : ST) (b0 : Nat) (x1 : Int32) (x2 : Int32) (hb0 : isK 1 b0) {o : Int32 × ST} (hs : C_X1_putWet s b0 x1 x2 = some o) : MI l (KC D cA cL h Z) 2 yX1_putWet cX1_putWet 3 (some .boolean) s [.ref (h b0), .int x1, .int x2] o.1 o.2 := by
  refine met_i (by decide) (Nat.le_of_ble_eq_true rfl) ?_
  intro p e st m args below meth c Q X RI
  unfold C_X1_putWet at hs
  refine g_aload_n X dX1_putWet_0 (q := 1) rfl 0 rfl ?_
  refine g_iload_n X dX1_putWet_1 (q := 2) rfl 1 rfl ?_
  refine vc_X1_isCell_X1 hZ X dX1_putWet_2 (q := 5) rfl hb0 (Nat.le_of_ble_eq_true rfl) (Nat.le_of_ble_eq_true rfl) (Nat.le_of_ble_eq_true rfl) hs (fun y1 hs => ?_)
  refine g_if_eq X dX1_putWet_5 (q := 8) rfl (tgt := 18) (by decide) hs ?_ ?_
  · intro hs
    refine g_iconst X dX1_putWet_18 (q := 19) rfl li_i0 ?_
    exact RI _ 19 _ _ _ (rU1 hs) rfl (rV1 hs) dX1_putWet_19
  · intro hs
    refine g_iload_n X dX1_putWet_8 (q := 9) rfl 2 rfl ?_
    refine g_iconst X dX1_putWet_9 (q := 10) rfl li_i0 ?_
    refine g_bipush X dX1_putWet_10 (q := 12) rfl li_b9 ?_
    refine vc_X9_isWithin_X1 hZ X dX1_putWet_12 (q := 15) rfl (Nat.le_of_ble_eq_true rfl) (Nat.le_of_ble_eq_true rfl) (Nat.le_of_ble_eq_true rfl) hs (fun y2 hs => ?_)
    refine g_if_ne X dX1_putWet_15 (q := 18) rfl (tgt := 20) (by decide) hs ?_ ?_
    · intro hs
      refine g_aload_n X dX1_putWet_20 (q := 21) rfl 0 rfl ?_
      refine cg_1_10 X dX1_putWet_21 (q := 24) rfl hb0 lf_X1_9 ?_
      refine g_iload_n X dX1_putWet_24 (q := 25) rfl 1 rfl ?_
      refine g_iload_n X dX1_putWet_25 (q := 26) rfl 2 rfl ?_
      refine ca_st X dX1_putWet_26 (q := 27) rfl (b0 + 1) (sub_X1_wet hb0) (len_X1_wet hb0) hs (fun s1 hs => ?_)
      refine g_iconst X dX1_putWet_27 (q := 28) rfl li_i1 ?_
      exact RI _ 28 _ _ _ (rU1 hs) rfl (rV1 hs) dX1_putWet_28
    · intro hs
      refine g_iconst X dX1_putWet_18 (q := 19) rfl li_i0 ?_
      exact RI _ 19 _ _ _ (rU1 hs) rfl (rV1 hs) dX1_putWet_19
theorem dX1_putHedge_0 : decode cX1_putHedge 0 = .ok (.aload_n 0, 1) := by decide +kernel
theorem dX1_putHedge_1 : decode cX1_putHedge 1 = .ok (.iload_n 1, 1) := by decide +kernel
theorem dX1_putHedge_2 : decode cX1_putHedge 2 = .ok (.invokevirtual 77, 3) := by decide +kernel
theorem dX1_putHedge_5 : decode cX1_putHedge 5 = .ok (.ifCond .eq 20, 3) := by decide +kernel
theorem dX1_putHedge_8 : decode cX1_putHedge 8 = .ok (.aload_n 0, 1) := by decide +kernel
theorem dX1_putHedge_9 : decode cX1_putHedge 9 = .ok (.iload_n 1, 1) := by decide +kernel
theorem dX1_putHedge_10 : decode cX1_putHedge 10 = .ok (.invokevirtual 92, 3) := by decide +kernel
theorem dX1_putHedge_13 : decode cX1_putHedge 13 = .ok (.ifCond .ne 12, 3) := by decide +kernel
theorem dX1_putHedge_16 : decode cX1_putHedge 16 = .ok (.iload_n 2, 1) := by decide +kernel
theorem dX1_putHedge_17 : decode cX1_putHedge 17 = .ok (.iconst 0, 1) := by decide +kernel
theorem dX1_putHedge_18 : decode cX1_putHedge 18 = .ok (.iconst 1, 1) := by decide +kernel
theorem dX1_putHedge_19 : decode cX1_putHedge 19 = .ok (.invokestatic 85, 3) := by decide +kernel
theorem dX1_putHedge_22 : decode cX1_putHedge 22 = .ok (.ifCond .ne 5, 3) := by decide +kernel
theorem dX1_putHedge_25 : decode cX1_putHedge 25 = .ok (.iconst 0, 1) := by decide +kernel
theorem dX1_putHedge_26 : decode cX1_putHedge 26 = .ok (.ireturn, 1) := by decide +kernel
theorem dX1_putHedge_27 : decode cX1_putHedge 27 = .ok (.lconst 1, 1) := by decide +kernel
theorem dX1_putHedge_28 : decode cX1_putHedge 28 = .ok (.iload_n 1, 1) := by decide +kernel
theorem dX1_putHedge_29 : decode cX1_putHedge 29 = .ok (.lshl, 1) := by decide +kernel
theorem dX1_putHedge_30 : decode cX1_putHedge 30 = .ok (.lstore_n 3, 1) := by decide +kernel
theorem dX1_putHedge_31 : decode cX1_putHedge 31 = .ok (.aload_n 0, 1) := by decide +kernel
theorem dX1_putHedge_32 : decode cX1_putHedge 32 = .ok (.iload_n 2, 1) := by decide +kernel
theorem dX1_putHedge_33 : decode cX1_putHedge 33 = .ok (.iconst 1, 1) := by decide +kernel
theorem dX1_putHedge_34 : decode cX1_putHedge 34 = .ok (.if_icmp .ne 12, 3) := by decide +kernel
theorem dX1_putHedge_37 : decode cX1_putHedge 37 = .ok (.aload_n 0, 1) := by decide +kernel
theorem dX1_putHedge_38 : decode cX1_putHedge 38 = .ok (.getfield 49, 3) := by decide +kernel
theorem dX1_putHedge_41 : decode cX1_putHedge 41 = .ok (.lload_n 3, 1) := by decide +kernel
theorem dX1_putHedge_42 : decode cX1_putHedge 42 = .ok (.lor, 1) := by decide +kernel
theorem dX1_putHedge_43 : decode cX1_putHedge 43 = .ok (.goto 13, 3) := by decide +kernel
theorem dX1_putHedge_46 : decode cX1_putHedge 46 = .ok (.aload_n 0, 1) := by decide +kernel
theorem dX1_putHedge_47 : decode cX1_putHedge 47 = .ok (.getfield 49, 3) := by decide +kernel
theorem dX1_putHedge_50 : decode cX1_putHedge 50 = .ok (.lload_n 3, 1) := by decide +kernel
theorem dX1_putHedge_51 : decode cX1_putHedge 51 = .ok (.ldc2_w 95, 3) := by decide +kernel
theorem dX1_putHedge_54 : decode cX1_putHedge 54 = .ok (.lxor, 1) := by decide +kernel
theorem dX1_putHedge_55 : decode cX1_putHedge 55 = .ok (.land, 1) := by decide +kernel
theorem dX1_putHedge_56 : decode cX1_putHedge 56 = .ok (.putfield 49, 3) := by decide +kernel
theorem dX1_putHedge_59 : decode cX1_putHedge 59 = .ok (.iconst 1, 1) := by decide +kernel
theorem dX1_putHedge_60 : decode cX1_putHedge 60 = .ok (.ireturn, 1) := by decide +kernel
theorem wX1_hasSeed_X1 : GoodIn GT (wsV RX1 92 RX1 yX1_hasSeed (.code yX1_hasSeed cX1_hasSeed 2 (some .boolean) :: GT)) := gt_V (gt_of 628 (by decide +kernel) rfl) (gt_of 630 (by decide +kernel) rfl) (gt_of 10 (by decide +kernel) rfl) (gt_of 197 (by decide +kernel) rfl) (gt_of 631 (by decide +kernel) rfl)
theorem vc_X1_hasSeed_X1 {p : Program} {l : Launch} {e : Env} {st : State} {m : MethodId} {args : Array Value} {below : List Frame} {meth : Method} {c : Code} {Q : State → Prop} {nL : Nat} {cc : ByteArray} {s : ST} {pc q : Nat} {lv : List (Nat × Value)} {rest : List Value} {D : va_G} {cA cL : ClassId} {h : Nat → Nat} {Z : State → Heap → Prop} {sa : Nat → Nat} (hZ : ZK h Z sa) {d0 : Nat} (X : Cx (KC D cA cL h Z) p st m args meth c cc nL RX1) {b0 : Nat} {x1 : Int32} (d : decode cc pc = .ok (.invokevirtual 92, 3)) (hq : pc + 3 = q) (hb0 : isK 1 b0) (hd1 : 2 + 1 ≤ d0) (hd2 : 8 + (2 + 11) + 100 * 2 ≤ 100 * d0) (hr : (rest.map fun v => v.category).sum ≤ 8) {B : Type} {f : Int32 → B} {r : B} (hs : Lt (C_X1_hasSeed s b0 x1) f = r) (k : ∀ y, f y = r → WG (KC D cA cL h Z) p l e (rmD d0) st m args below meth c Q nL s q lv (.int y :: rest)) : WG (KC D cA cL h Z) p l e (rmD d0) st m args below meth c Q nL s pc lv (.int x1 :: .ref (h b0) :: rest) := by
  exact cV_I (K := KC D cA cL h Z) X b0 (n := 1) (k_X1_hasSeed hZ l D cA cL s b0 x1 hb0) wX1_hasSeed_X1 ⟨hd1, hd2⟩ ⟨by decide, by decide, by decide +kernel⟩ (As := [.int x1]) rfl hr (hb0).1 (fs := cF1 h b0 (s.1 b0) (s.2 b0)) (GC_1 (cA := cA) (cL := cL) hb0 _ _) rfl rfl d hq (k _ hs)
def C_X1_putHedge (s : ST) (b0 : Nat) (x1 : Int32) (x2 : Int32) : Int32 × ST := Lt (C_X1_isCell s b0 x1) fun y1 => if y1 = 0 then (((0 : Int32), s)) else (Lt (C_X1_hasSeed s b0 x1) fun y2 => if y2 = 0 then (Lt (C_X9_isWithin s x2 (0 : Int32) (1 : Int32)) fun y3 => if y3 = 0 then (((0 : Int32), s)) else (Lt (((1 : Int64) <<< (x1.toInt64 &&& 63))) fun y4 => Lt (fun (a1 : Int64) => (Lt (upl s b0 7 a1) fun s1 => ((1 : Int32), s1) : Int32 × ST)) fun j1 => if x2 = (1 : Int32) then (j1 ((s.2 b0 7) ||| y4)) else (j1 ((s.2 b0 7) &&& (y4 ^^^ (-1 : Int64)))))) else (((0 : Int32), s)))
set_option maxRecDepth 100000 in
set_option maxHeartbeats 4000000 in
theorem k_X1_putHedge {h : Nat → Nat} {Z : State → Heap → Prop} {sa : Nat → Nat} (hZ : ZK h Z sa) (l : Launch) (D : va_G) (cA cL : ClassId) (s : ST) (b0 : Nat) (x1 : Int32) (x2 : Int32) (hb0 : isK 1 b0) : MI l (KC D cA cL h Z) 3 yX1_putHedge cX1_putHedge 5 (some .boolean) s [.ref (h b0), .int x1, .int x2] (C_X1_putHedge s b0 x1 x2).1 (C_X1_putHedge s b0 x1 x2).2 := by
  refine met_i (by decide) (Nat.le_of_ble_eq_true rfl) ?_
  intro p e st m args below meth c Q X RI
  generalize hs : C_X1_putHedge s b0 x1 x2 = o at RI
  unfold C_X1_putHedge at hs
  refine g_aload_n X dX1_putHedge_0 (q := 1) rfl 0 rfl ?_
  refine g_iload_n X dX1_putHedge_1 (q := 2) rfl 1 rfl ?_
  refine vc_X1_isCell_X1 hZ X dX1_putHedge_2 (q := 5) rfl hb0 (Nat.le_of_ble_eq_true rfl) (Nat.le_of_ble_eq_true rfl) (Nat.le_of_ble_eq_true rfl) hs (fun y1 hs => ?_)
  refine g_if_eq X dX1_putHedge_5 (q := 8) rfl (tgt := 25) (by decide) hs ?_ ?_
  · intro hs
    refine g_iconst X dX1_putHedge_25 (q := 26) rfl li_i0 ?_
    exact RI _ 26 _ _ _ (rU0 hs) rfl (rV0 hs) dX1_putHedge_26
  · intro hs
    refine g_aload_n X dX1_putHedge_8 (q := 9) rfl 0 rfl ?_
    refine g_iload_n X dX1_putHedge_9 (q := 10) rfl 1 rfl ?_
    refine vc_X1_hasSeed_X1 hZ X dX1_putHedge_10 (q := 13) rfl hb0 (Nat.le_of_ble_eq_true rfl) (Nat.le_of_ble_eq_true rfl) (Nat.le_of_ble_eq_true rfl) hs (fun y2 hs => ?_)
    refine g_if_ne X dX1_putHedge_13 (q := 16) rfl (tgt := 25) (by decide) hs ?_ ?_
    · intro hs
      refine g_iconst X dX1_putHedge_25 (q := 26) rfl li_i0 ?_
      exact RI _ 26 _ _ _ (rU0 hs) rfl (rV0 hs) dX1_putHedge_26
    · intro hs
      refine g_iload_n X dX1_putHedge_16 (q := 17) rfl 2 rfl ?_
      refine g_iconst X dX1_putHedge_17 (q := 18) rfl li_i0 ?_
      refine g_iconst X dX1_putHedge_18 (q := 19) rfl li_i1 ?_
      refine vc_X9_isWithin_X1 hZ X dX1_putHedge_19 (q := 22) rfl (Nat.le_of_ble_eq_true rfl) (Nat.le_of_ble_eq_true rfl) (Nat.le_of_ble_eq_true rfl) hs (fun y3 hs => ?_)
      refine g_if_ne X dX1_putHedge_22 (q := 25) rfl (tgt := 27) (by decide) hs ?_ ?_
      · intro hs
        refine g_lconst X dX1_putHedge_27 (q := 28) rfl li_l1 ?_
        refine g_iload_n X dX1_putHedge_28 (q := 29) rfl 1 rfl ?_
        refine g_lshl X dX1_putHedge_29 (q := 30) rfl ?_
        refine nmL hs (fun y4 hs => ?_)
        refine g_lstore_n X dX1_putHedge_30 (q := 31) rfl (Nat.le_of_ble_eq_true rfl) (lv' := [(3, .long y4), (0, .ref (h b0)), (1, .int x1), (2, .int x2)]) rfl ?_
        refine g_aload_n X dX1_putHedge_31 (q := 32) rfl 1 rfl ?_
        refine g_iload_n X dX1_putHedge_32 (q := 33) rfl 3 rfl ?_
        refine g_iconst X dX1_putHedge_33 (q := 34) rfl li_i1 ?_
        refine jnW1 (fun (a1 : Int64) => WG (KC D cA cL h Z) p l e (rmD 3) st m args below meth c Q 5 s 56 [] [.long a1, .ref (h b0)]) hs (fun a1 hs => ?_) (fun j1 ih1 hs => ?_)
        · refine cp_1_7 X dX1_putHedge_56 (q := 59) rfl hb0 lf_X1_49 hs (fun s1 hs => ?_)
          refine g_iconst X dX1_putHedge_59 (q := 60) rfl li_i1 ?_
          exact RI _ 60 _ _ _ (rU0 hs) rfl (rV0 hs) dX1_putHedge_60
        refine g_icmp_ne X dX1_putHedge_34 (q := 37) rfl (tgt := 46) (by decide) hs ?_ ?_
        · intro hs
          refine g_aload_n X dX1_putHedge_46 (q := 47) rfl 1 rfl ?_
          refine cg_1_7 X dX1_putHedge_47 (q := 50) rfl hb0 lf_X1_49 ?_
          refine g_lload_n X dX1_putHedge_50 (q := 51) rfl 0 rfl ?_
          refine g_ldc2_w X dX1_putHedge_51 (q := 54) rfl kc_X1_95 ?_
          refine g_lxor X dX1_putHedge_54 (q := 55) rfl ?_
          refine g_land X dX1_putHedge_55 (q := 56) rfl ?_
          exact wg_sub [] rfl (ih1 _ hs)
        · intro hs
          refine g_aload_n X dX1_putHedge_37 (q := 38) rfl 1 rfl ?_
          refine cg_1_7 X dX1_putHedge_38 (q := 41) rfl hb0 lf_X1_49 ?_
          refine g_lload_n X dX1_putHedge_41 (q := 42) rfl 0 rfl ?_
          refine g_lor X dX1_putHedge_42 (q := 43) rfl ?_
          refine g_goto X dX1_putHedge_43 (tgt := 56) (by decide) ?_
          exact wg_sub [] rfl (ih1 _ hs)
      · intro hs
        refine g_iconst X dX1_putHedge_25 (q := 26) rfl li_i0 ?_
        exact RI _ 26 _ _ _ (rU0 hs) rfl (rV0 hs) dX1_putHedge_26
theorem dX1_laySeed_0 : decode cX1_laySeed 0 = .ok (.aload_n 0, 1) := by decide +kernel
theorem dX1_laySeed_1 : decode cX1_laySeed 1 = .ok (.iload_n 2, 1) := by decide +kernel
theorem dX1_laySeed_2 : decode cX1_laySeed 2 = .ok (.invokevirtual 77, 3) := by decide +kernel
theorem dX1_laySeed_5 : decode cX1_laySeed 5 = .ok (.ifCond .ne 4, 3) := by decide +kernel
theorem dX1_laySeed_8 : decode cX1_laySeed 8 = .ok (.return_, 1) := by decide +kernel
theorem dX1_laySeed_9 : decode cX1_laySeed 9 = .ok (.aload_n 0, 1) := by decide +kernel
theorem dX1_laySeed_10 : decode cX1_laySeed 10 = .ok (.dup, 1) := by decide +kernel
theorem dX1_laySeed_11 : decode cX1_laySeed 11 = .ok (.getfield 62, 3) := by decide +kernel
theorem dX1_laySeed_14 : decode cX1_laySeed 14 = .ok (.lconst 1, 1) := by decide +kernel
theorem dX1_laySeed_15 : decode cX1_laySeed 15 = .ok (.iload_n 2, 1) := by decide +kernel
theorem dX1_laySeed_16 : decode cX1_laySeed 16 = .ok (.lshl, 1) := by decide +kernel
theorem dX1_laySeed_17 : decode cX1_laySeed 17 = .ok (.lor, 1) := by decide +kernel
theorem dX1_laySeed_18 : decode cX1_laySeed 18 = .ok (.putfield 62, 3) := by decide +kernel
theorem dX1_laySeed_21 : decode cX1_laySeed 21 = .ok (.aload_n 0, 1) := by decide +kernel
theorem dX1_laySeed_22 : decode cX1_laySeed 22 = .ok (.getfield 15, 3) := by decide +kernel
theorem dX1_laySeed_25 : decode cX1_laySeed 25 = .ok (.iload_n 2, 1) := by decide +kernel
theorem dX1_laySeed_26 : decode cX1_laySeed 26 = .ok (.iload_n 1, 1) := by decide +kernel
theorem dX1_laySeed_27 : decode cX1_laySeed 27 = .ok (.iastore, 1) := by decide +kernel
theorem dX1_laySeed_28 : decode cX1_laySeed 28 = .ok (.aload_n 0, 1) := by decide +kernel
theorem dX1_laySeed_29 : decode cX1_laySeed 29 = .ok (.getfield 18, 3) := by decide +kernel
theorem dX1_laySeed_32 : decode cX1_laySeed 32 = .ok (.iload_n 2, 1) := by decide +kernel
theorem dX1_laySeed_33 : decode cX1_laySeed 33 = .ok (.aload_n 0, 1) := by decide +kernel
theorem dX1_laySeed_34 : decode cX1_laySeed 34 = .ok (.getfield 37, 3) := by decide +kernel
theorem dX1_laySeed_37 : decode cX1_laySeed 37 = .ok (.iastore, 1) := by decide +kernel
theorem dX1_laySeed_38 : decode cX1_laySeed 38 = .ok (.return_, 1) := by decide +kernel
def C_X1_laySeed (s : ST) (b0 : Nat) (x1 : Int32) (x2 : Int32) : Option (ST) := Lt (C_X1_isCell s b0 x2) fun y1 => if y1 = 0 then (some s) else (Lt (upl s b0 8 ((s.2 b0 8) ||| ((1 : Int64) <<< (x2.toInt64 &&& 63)))) fun s1 => Gs s1 (b0 + 2) 64 x2 x1 fun s2 => Gs s2 (b0 + 3) 64 x2 (s2.1 b0 2) fun s3 => some s3)
set_option maxRecDepth 100000 in
set_option maxHeartbeats 4000000 in
theorem k_X1_laySeed {h : Nat → Nat} {Z : State → Heap → Prop} {sa : Nat → Nat} (hZ : ZK h Z sa) (l : Launch) (D : va_G) (cA cL : ClassId) (s : ST) (b0 : Nat) (x1 : Int32) (x2 : Int32) (hb0 : isK 1 b0) {o : ST} (hs : C_X1_laySeed s b0 x1 x2 = some o) : MV l (KC D cA cL h Z) 2 yX1_laySeed cX1_laySeed 3 none s [.ref (h b0), .int x1, .int x2] o := by
  refine met_v (by decide) (Nat.le_of_ble_eq_true rfl) ?_
  intro p e st m args below meth c Q X RI
  unfold C_X1_laySeed at hs
  refine g_aload_n X dX1_laySeed_0 (q := 1) rfl 0 rfl ?_
  refine g_iload_n X dX1_laySeed_1 (q := 2) rfl 2 rfl ?_
  refine vc_X1_isCell_X1 hZ X dX1_laySeed_2 (q := 5) rfl hb0 (Nat.le_of_ble_eq_true rfl) (Nat.le_of_ble_eq_true rfl) (Nat.le_of_ble_eq_true rfl) hs (fun y1 hs => ?_)
  refine g_if_ne X dX1_laySeed_5 (q := 8) rfl (tgt := 9) (by decide) hs ?_ ?_
  · intro hs
    refine g_aload_n X dX1_laySeed_9 (q := 10) rfl 0 rfl ?_
    refine g_dup X dX1_laySeed_10 (q := 11) rfl rfl ?_
    refine cg_1_8 X dX1_laySeed_11 (q := 14) rfl hb0 lf_X1_62 ?_
    refine g_lconst X dX1_laySeed_14 (q := 15) rfl li_l1 ?_
    refine g_iload_n X dX1_laySeed_15 (q := 16) rfl 2 rfl ?_
    refine g_lshl X dX1_laySeed_16 (q := 17) rfl ?_
    refine g_lor X dX1_laySeed_17 (q := 18) rfl ?_
    refine cp_1_8 X dX1_laySeed_18 (q := 21) rfl hb0 lf_X1_62 hs (fun s1 hs => ?_)
    refine g_aload_n X dX1_laySeed_21 (q := 22) rfl 0 rfl ?_
    refine cg_1_11 X dX1_laySeed_22 (q := 25) rfl hb0 lf_X1_15 ?_
    refine g_iload_n X dX1_laySeed_25 (q := 26) rfl 2 rfl ?_
    refine g_iload_n X dX1_laySeed_26 (q := 27) rfl 1 rfl ?_
    refine ca_st X dX1_laySeed_27 (q := 28) rfl (b0 + 2) (sub_X1_seedKind hb0) (len_X1_seedKind hb0) hs (fun s2 hs => ?_)
    refine g_aload_n X dX1_laySeed_28 (q := 29) rfl 0 rfl ?_
    refine cg_1_12 X dX1_laySeed_29 (q := 32) rfl hb0 lf_X1_18 ?_
    refine g_iload_n X dX1_laySeed_32 (q := 33) rfl 2 rfl ?_
    refine g_aload_n X dX1_laySeed_33 (q := 34) rfl 0 rfl ?_
    refine cg_1_2 X dX1_laySeed_34 (q := 37) rfl hb0 lf_X1_37 ?_
    refine ca_st X dX1_laySeed_37 (q := 38) rfl (b0 + 3) (sub_X1_sown hb0) (len_X1_sown hb0) hs (fun s3 hs => ?_)
    exact RI _ 38 _ (Option.some.inj hs) dX1_laySeed_38
  · intro hs
    exact RI _ 8 _ (Option.some.inj hs) dX1_laySeed_8
theorem dX1_liftSeed_0 : decode cX1_liftSeed 0 = .ok (.aload_n 0, 1) := by decide +kernel
theorem dX1_liftSeed_1 : decode cX1_liftSeed 1 = .ok (.dup, 1) := by decide +kernel
theorem dX1_liftSeed_2 : decode cX1_liftSeed 2 = .ok (.getfield 62, 3) := by decide +kernel
theorem dX1_liftSeed_5 : decode cX1_liftSeed 5 = .ok (.lconst 1, 1) := by decide +kernel
theorem dX1_liftSeed_6 : decode cX1_liftSeed 6 = .ok (.iload_n 1, 1) := by decide +kernel
theorem dX1_liftSeed_7 : decode cX1_liftSeed 7 = .ok (.lshl, 1) := by decide +kernel
theorem dX1_liftSeed_8 : decode cX1_liftSeed 8 = .ok (.ldc2_w 95, 3) := by decide +kernel
theorem dX1_liftSeed_11 : decode cX1_liftSeed 11 = .ok (.lxor, 1) := by decide +kernel
theorem dX1_liftSeed_12 : decode cX1_liftSeed 12 = .ok (.land, 1) := by decide +kernel
theorem dX1_liftSeed_13 : decode cX1_liftSeed 13 = .ok (.putfield 62, 3) := by decide +kernel
theorem dX1_liftSeed_16 : decode cX1_liftSeed 16 = .ok (.return_, 1) := by decide +kernel
def C_X1_liftSeed (s : ST) (b0 : Nat) (x1 : Int32) : ST := Lt (upl s b0 8 ((s.2 b0 8) &&& (((1 : Int64) <<< (x1.toInt64 &&& 63)) ^^^ (-1 : Int64)))) fun s1 => s1
set_option maxRecDepth 100000 in
set_option maxHeartbeats 4000000 in
theorem k_X1_liftSeed {h : Nat → Nat} {Z : State → Heap → Prop} {sa : Nat → Nat} (hZ : ZK h Z sa) (l : Launch) (D : va_G) (cA cL : ClassId) (s : ST) (b0 : Nat) (x1 : Int32) (hb0 : isK 1 b0) : MV l (KC D cA cL h Z) 1 yX1_liftSeed cX1_liftSeed 2 none s [.ref (h b0), .int x1] (C_X1_liftSeed s b0 x1) := by
  refine met_v (by decide) (Nat.le_of_ble_eq_true rfl) ?_
  intro p e st m args below meth c Q X RI
  generalize hs : C_X1_liftSeed s b0 x1 = o at RI
  unfold C_X1_liftSeed at hs
  refine g_aload_n X dX1_liftSeed_0 (q := 1) rfl 0 rfl ?_
  refine g_dup X dX1_liftSeed_1 (q := 2) rfl rfl ?_
  refine cg_1_8 X dX1_liftSeed_2 (q := 5) rfl hb0 lf_X1_62 ?_
  refine g_lconst X dX1_liftSeed_5 (q := 6) rfl li_l1 ?_
  refine g_iload_n X dX1_liftSeed_6 (q := 7) rfl 1 rfl ?_
  refine g_lshl X dX1_liftSeed_7 (q := 8) rfl ?_
  refine g_ldc2_w X dX1_liftSeed_8 (q := 11) rfl kc_X1_95 ?_
  refine g_lxor X dX1_liftSeed_11 (q := 12) rfl ?_
  refine g_land X dX1_liftSeed_12 (q := 13) rfl ?_
  refine cp_1_8 X dX1_liftSeed_13 (q := 16) rfl hb0 lf_X1_62 hs (fun s1 hs => ?_)
  exact RI _ 16 _ hs dX1_liftSeed_16
theorem dX1_raiseStorm_0 : decode cX1_raiseStorm 0 = .ok (.aload_n 0, 1) := by decide +kernel
theorem dX1_raiseStorm_1 : decode cX1_raiseStorm 1 = .ok (.iload_n 2, 1) := by decide +kernel
theorem dX1_raiseStorm_2 : decode cX1_raiseStorm 2 = .ok (.invokevirtual 77, 3) := by decide +kernel
theorem dX1_raiseStorm_5 : decode cX1_raiseStorm 5 = .ok (.ifCond .ne 4, 3) := by decide +kernel
theorem dX1_raiseStorm_8 : decode cX1_raiseStorm 8 = .ok (.return_, 1) := by decide +kernel
theorem dX1_raiseStorm_9 : decode cX1_raiseStorm 9 = .ok (.aload_n 0, 1) := by decide +kernel
theorem dX1_raiseStorm_10 : decode cX1_raiseStorm 10 = .ok (.dup, 1) := by decide +kernel
theorem dX1_raiseStorm_11 : decode cX1_raiseStorm 11 = .ok (.getfield 65, 3) := by decide +kernel
theorem dX1_raiseStorm_14 : decode cX1_raiseStorm 14 = .ok (.lconst 1, 1) := by decide +kernel
theorem dX1_raiseStorm_15 : decode cX1_raiseStorm 15 = .ok (.iload_n 2, 1) := by decide +kernel
theorem dX1_raiseStorm_16 : decode cX1_raiseStorm 16 = .ok (.lshl, 1) := by decide +kernel
theorem dX1_raiseStorm_17 : decode cX1_raiseStorm 17 = .ok (.lor, 1) := by decide +kernel
theorem dX1_raiseStorm_18 : decode cX1_raiseStorm 18 = .ok (.putfield 65, 3) := by decide +kernel
theorem dX1_raiseStorm_21 : decode cX1_raiseStorm 21 = .ok (.aload_n 0, 1) := by decide +kernel
theorem dX1_raiseStorm_22 : decode cX1_raiseStorm 22 = .ok (.getfield 21, 3) := by decide +kernel
theorem dX1_raiseStorm_25 : decode cX1_raiseStorm 25 = .ok (.iload_n 2, 1) := by decide +kernel
theorem dX1_raiseStorm_26 : decode cX1_raiseStorm 26 = .ok (.iload_n 1, 1) := by decide +kernel
theorem dX1_raiseStorm_27 : decode cX1_raiseStorm 27 = .ok (.iastore, 1) := by decide +kernel
theorem dX1_raiseStorm_28 : decode cX1_raiseStorm 28 = .ok (.aload_n 0, 1) := by decide +kernel
theorem dX1_raiseStorm_29 : decode cX1_raiseStorm 29 = .ok (.getfield 24, 3) := by decide +kernel
theorem dX1_raiseStorm_32 : decode cX1_raiseStorm 32 = .ok (.iload_n 2, 1) := by decide +kernel
theorem dX1_raiseStorm_33 : decode cX1_raiseStorm 33 = .ok (.iload_n 3, 1) := by decide +kernel
theorem dX1_raiseStorm_34 : decode cX1_raiseStorm 34 = .ok (.iastore, 1) := by decide +kernel
theorem dX1_raiseStorm_35 : decode cX1_raiseStorm 35 = .ok (.aload_n 0, 1) := by decide +kernel
theorem dX1_raiseStorm_36 : decode cX1_raiseStorm 36 = .ok (.getfield 27, 3) := by decide +kernel
theorem dX1_raiseStorm_39 : decode cX1_raiseStorm 39 = .ok (.iload_n 2, 1) := by decide +kernel
theorem dX1_raiseStorm_40 : decode cX1_raiseStorm 40 = .ok (.iload 4, 2) := by decide +kernel
theorem dX1_raiseStorm_42 : decode cX1_raiseStorm 42 = .ok (.iastore, 1) := by decide +kernel
theorem dX1_raiseStorm_43 : decode cX1_raiseStorm 43 = .ok (.return_, 1) := by decide +kernel
def C_X1_raiseStorm (s : ST) (b0 : Nat) (x1 : Int32) (x2 : Int32) (x3 : Int32) (x4 : Int32) : Option (ST) := Lt (C_X1_isCell s b0 x2) fun y1 => if y1 = 0 then (some s) else (Lt (upl s b0 9 ((s.2 b0 9) ||| ((1 : Int64) <<< (x2.toInt64 &&& 63)))) fun s1 => Gs s1 (b0 + 4) 64 x2 x1 fun s2 => Gs s2 (b0 + 5) 64 x2 x3 fun s3 => Gs s3 (b0 + 6) 64 x2 x4 fun s4 => some s4)
set_option maxRecDepth 100000 in
set_option maxHeartbeats 4000000 in
theorem k_X1_raiseStorm {h : Nat → Nat} {Z : State → Heap → Prop} {sa : Nat → Nat} (hZ : ZK h Z sa) (l : Launch) (D : va_G) (cA cL : ClassId) (s : ST) (b0 : Nat) (x1 : Int32) (x2 : Int32) (x3 : Int32) (x4 : Int32) (hb0 : isK 1 b0) {o : ST} (hs : C_X1_raiseStorm s b0 x1 x2 x3 x4 = some o) : MV l (KC D cA cL h Z) 2 yX1_raiseStorm cX1_raiseStorm 5 none s [.ref (h b0), .int x1, .int x2, .int x3, .int x4] o := by
  refine met_v (by decide) (Nat.le_of_ble_eq_true rfl) ?_
  intro p e st m args below meth c Q X RI
  unfold C_X1_raiseStorm at hs
  refine g_aload_n X dX1_raiseStorm_0 (q := 1) rfl 0 rfl ?_
  refine g_iload_n X dX1_raiseStorm_1 (q := 2) rfl 2 rfl ?_
  refine vc_X1_isCell_X1 hZ X dX1_raiseStorm_2 (q := 5) rfl hb0 (Nat.le_of_ble_eq_true rfl) (Nat.le_of_ble_eq_true rfl) (Nat.le_of_ble_eq_true rfl) hs (fun y1 hs => ?_)
  refine g_if_ne X dX1_raiseStorm_5 (q := 8) rfl (tgt := 9) (by decide) hs ?_ ?_
  · intro hs
    refine g_aload_n X dX1_raiseStorm_9 (q := 10) rfl 0 rfl ?_
    refine g_dup X dX1_raiseStorm_10 (q := 11) rfl rfl ?_
    refine cg_1_9 X dX1_raiseStorm_11 (q := 14) rfl hb0 lf_X1_65 ?_
    refine g_lconst X dX1_raiseStorm_14 (q := 15) rfl li_l1 ?_
    refine g_iload_n X dX1_raiseStorm_15 (q := 16) rfl 2 rfl ?_
    refine g_lshl X dX1_raiseStorm_16 (q := 17) rfl ?_
    refine g_lor X dX1_raiseStorm_17 (q := 18) rfl ?_
    refine cp_1_9 X dX1_raiseStorm_18 (q := 21) rfl hb0 lf_X1_65 hs (fun s1 hs => ?_)
    refine g_aload_n X dX1_raiseStorm_21 (q := 22) rfl 0 rfl ?_
    refine cg_1_13 X dX1_raiseStorm_22 (q := 25) rfl hb0 lf_X1_21 ?_
    refine g_iload_n X dX1_raiseStorm_25 (q := 26) rfl 2 rfl ?_
    refine g_iload_n X dX1_raiseStorm_26 (q := 27) rfl 1 rfl ?_
    refine ca_st X dX1_raiseStorm_27 (q := 28) rfl (b0 + 4) (sub_X1_stormKind hb0) (len_X1_stormKind hb0) hs (fun s2 hs => ?_)
    refine g_aload_n X dX1_raiseStorm_28 (q := 29) rfl 0 rfl ?_
    refine cg_1_14 X dX1_raiseStorm_29 (q := 32) rfl hb0 lf_X1_24 ?_
    refine g_iload_n X dX1_raiseStorm_32 (q := 33) rfl 2 rfl ?_
    refine g_iload_n X dX1_raiseStorm_33 (q := 34) rfl 3 rfl ?_
    refine ca_st X dX1_raiseStorm_34 (q := 35) rfl (b0 + 5) (sub_X1_gusts hb0) (len_X1_gusts hb0) hs (fun s3 hs => ?_)
    refine g_aload_n X dX1_raiseStorm_35 (q := 36) rfl 0 rfl ?_
    refine cg_1_15 X dX1_raiseStorm_36 (q := 39) rfl hb0 lf_X1_27 ?_
    refine g_iload_n X dX1_raiseStorm_39 (q := 40) rfl 2 rfl ?_
    refine g_iload X dX1_raiseStorm_40 (q := 42) rfl 4 rfl ?_
    refine ca_st X dX1_raiseStorm_42 (q := 43) rfl (b0 + 6) (sub_X1_ends hb0) (len_X1_ends hb0) hs (fun s4 hs => ?_)
    exact RI _ 43 _ (Option.some.inj hs) dX1_raiseStorm_43
  · intro hs
    exact RI _ 8 _ (Option.some.inj hs) dX1_raiseStorm_8
theorem dX1_endStorm_0 : decode cX1_endStorm 0 = .ok (.aload_n 0, 1) := by decide +kernel
theorem dX1_endStorm_1 : decode cX1_endStorm 1 = .ok (.dup, 1) := by decide +kernel
theorem dX1_endStorm_2 : decode cX1_endStorm 2 = .ok (.getfield 65, 3) := by decide +kernel
theorem dX1_endStorm_5 : decode cX1_endStorm 5 = .ok (.lconst 1, 1) := by decide +kernel
theorem dX1_endStorm_6 : decode cX1_endStorm 6 = .ok (.iload_n 1, 1) := by decide +kernel
theorem dX1_endStorm_7 : decode cX1_endStorm 7 = .ok (.lshl, 1) := by decide +kernel
theorem dX1_endStorm_8 : decode cX1_endStorm 8 = .ok (.ldc2_w 95, 3) := by decide +kernel
theorem dX1_endStorm_11 : decode cX1_endStorm 11 = .ok (.lxor, 1) := by decide +kernel
theorem dX1_endStorm_12 : decode cX1_endStorm 12 = .ok (.land, 1) := by decide +kernel
theorem dX1_endStorm_13 : decode cX1_endStorm 13 = .ok (.putfield 65, 3) := by decide +kernel
theorem dX1_endStorm_16 : decode cX1_endStorm 16 = .ok (.return_, 1) := by decide +kernel
def C_X1_endStorm (s : ST) (b0 : Nat) (x1 : Int32) : ST := Lt (upl s b0 9 ((s.2 b0 9) &&& (((1 : Int64) <<< (x1.toInt64 &&& 63)) ^^^ (-1 : Int64)))) fun s1 => s1
set_option maxRecDepth 100000 in
set_option maxHeartbeats 4000000 in
theorem k_X1_endStorm {h : Nat → Nat} {Z : State → Heap → Prop} {sa : Nat → Nat} (hZ : ZK h Z sa) (l : Launch) (D : va_G) (cA cL : ClassId) (s : ST) (b0 : Nat) (x1 : Int32) (hb0 : isK 1 b0) : MV l (KC D cA cL h Z) 1 yX1_endStorm cX1_endStorm 2 none s [.ref (h b0), .int x1] (C_X1_endStorm s b0 x1) := by
  refine met_v (by decide) (Nat.le_of_ble_eq_true rfl) ?_
  intro p e st m args below meth c Q X RI
  generalize hs : C_X1_endStorm s b0 x1 = o at RI
  unfold C_X1_endStorm at hs
  refine g_aload_n X dX1_endStorm_0 (q := 1) rfl 0 rfl ?_
  refine g_dup X dX1_endStorm_1 (q := 2) rfl rfl ?_
  refine cg_1_9 X dX1_endStorm_2 (q := 5) rfl hb0 lf_X1_65 ?_
  refine g_lconst X dX1_endStorm_5 (q := 6) rfl li_l1 ?_
  refine g_iload_n X dX1_endStorm_6 (q := 7) rfl 1 rfl ?_
  refine g_lshl X dX1_endStorm_7 (q := 8) rfl ?_
  refine g_ldc2_w X dX1_endStorm_8 (q := 11) rfl kc_X1_95 ?_
  refine g_lxor X dX1_endStorm_11 (q := 12) rfl ?_
  refine g_land X dX1_endStorm_12 (q := 13) rfl ?_
  refine cp_1_9 X dX1_endStorm_13 (q := 16) rfl hb0 lf_X1_65 hs (fun s1 hs => ?_)
  exact RI _ 16 _ hs dX1_endStorm_16
theorem dX1_isEdge_0 : decode cX1_isEdge 0 = .ok (.iload_n 1, 1) := by decide +kernel
theorem dX1_isEdge_1 : decode cX1_isEdge 1 = .ok (.bipush 7, 2) := by decide +kernel
theorem dX1_isEdge_3 : decode cX1_isEdge 3 = .ok (.iand, 1) := by decide +kernel
theorem dX1_isEdge_4 : decode cX1_isEdge 4 = .ok (.istore_n 2, 1) := by decide +kernel
theorem dX1_isEdge_5 : decode cX1_isEdge 5 = .ok (.iload_n 1, 1) := by decide +kernel
theorem dX1_isEdge_6 : decode cX1_isEdge 6 = .ok (.iconst 3, 1) := by decide +kernel
theorem dX1_isEdge_7 : decode cX1_isEdge 7 = .ok (.ishr, 1) := by decide +kernel
theorem dX1_isEdge_8 : decode cX1_isEdge 8 = .ok (.istore_n 3, 1) := by decide +kernel
theorem dX1_isEdge_9 : decode cX1_isEdge 9 = .ok (.iload_n 2, 1) := by decide +kernel
theorem dX1_isEdge_10 : decode cX1_isEdge 10 = .ok (.ifCond .eq 27, 3) := by decide +kernel
theorem dX1_isEdge_13 : decode cX1_isEdge 13 = .ok (.iload_n 3, 1) := by decide +kernel
theorem dX1_isEdge_14 : decode cX1_isEdge 14 = .ok (.ifCond .eq 23, 3) := by decide +kernel
theorem dX1_isEdge_17 : decode cX1_isEdge 17 = .ok (.iload_n 2, 1) := by decide +kernel
theorem dX1_isEdge_18 : decode cX1_isEdge 18 = .ok (.aload_n 0, 1) := by decide +kernel
theorem dX1_isEdge_19 : decode cX1_isEdge 19 = .ok (.getfield 30, 3) := by decide +kernel
theorem dX1_isEdge_22 : decode cX1_isEdge 22 = .ok (.iconst 1, 1) := by decide +kernel
theorem dX1_isEdge_23 : decode cX1_isEdge 23 = .ok (.isub, 1) := by decide +kernel
theorem dX1_isEdge_24 : decode cX1_isEdge 24 = .ok (.if_icmp .eq 13, 3) := by decide +kernel
theorem dX1_isEdge_27 : decode cX1_isEdge 27 = .ok (.iload_n 3, 1) := by decide +kernel
theorem dX1_isEdge_28 : decode cX1_isEdge 28 = .ok (.aload_n 0, 1) := by decide +kernel
theorem dX1_isEdge_29 : decode cX1_isEdge 29 = .ok (.getfield 34, 3) := by decide +kernel
theorem dX1_isEdge_32 : decode cX1_isEdge 32 = .ok (.iconst 1, 1) := by decide +kernel
theorem dX1_isEdge_33 : decode cX1_isEdge 33 = .ok (.isub, 1) := by decide +kernel
theorem dX1_isEdge_34 : decode cX1_isEdge 34 = .ok (.if_icmp .ne 7, 3) := by decide +kernel
theorem dX1_isEdge_37 : decode cX1_isEdge 37 = .ok (.iconst 1, 1) := by decide +kernel
theorem dX1_isEdge_38 : decode cX1_isEdge 38 = .ok (.goto 4, 3) := by decide +kernel
theorem dX1_isEdge_41 : decode cX1_isEdge 41 = .ok (.iconst 0, 1) := by decide +kernel
theorem dX1_isEdge_42 : decode cX1_isEdge 42 = .ok (.ireturn, 1) := by decide +kernel
def C_X1_isEdge (s : ST) (b0 : Nat) (x1 : Int32) : Int32 := Lt ((x1 &&& (7 : Int32))) fun y1 => Lt ((x1 >>> ((3 : Int32) &&& 31))) fun y2 => Lt ((1 : Int32) : Int32) fun j1 => if y1 = 0 then (j1) else (if y2 = 0 then (j1) else (if y1 = ((s.1 b0 0) - (1 : Int32)) then (j1) else (if y2 = ((s.1 b0 1) - (1 : Int32)) then (j1) else ((0 : Int32)))))
set_option maxRecDepth 100000 in
set_option maxHeartbeats 4000000 in
theorem k_X1_isEdge {h : Nat → Nat} {Z : State → Heap → Prop} {sa : Nat → Nat} (hZ : ZK h Z sa) (l : Launch) (D : va_G) (cA cL : ClassId) (s : ST) (b0 : Nat) (x1 : Int32) (hb0 : isK 1 b0) : MI l (KC D cA cL h Z) 1 yX1_isEdge cX1_isEdge 4 (some .boolean) s [.ref (h b0), .int x1] (C_X1_isEdge s b0 x1) s := by
  refine met_i (by decide) (Nat.le_of_ble_eq_true rfl) ?_
  intro p e st m args below meth c Q X RI
  generalize hs : C_X1_isEdge s b0 x1 = o at RI
  unfold C_X1_isEdge at hs
  refine g_iload_n X dX1_isEdge_0 (q := 1) rfl 1 rfl ?_
  refine g_bipush X dX1_isEdge_1 (q := 3) rfl li_b7 ?_
  refine g_iand X dX1_isEdge_3 (q := 4) rfl ?_
  refine nmI hs (fun y1 hs => ?_)
  refine g_istore_n X dX1_isEdge_4 (q := 5) rfl (Nat.le_of_ble_eq_true rfl) (lv' := [(2, .int y1), (0, .ref (h b0)), (1, .int x1)]) rfl ?_
  refine g_iload_n X dX1_isEdge_5 (q := 6) rfl 2 rfl ?_
  refine g_iconst X dX1_isEdge_6 (q := 7) rfl li_i3 ?_
  refine g_ishr X dX1_isEdge_7 (q := 8) rfl ?_
  refine nmI hs (fun y2 hs => ?_)
  refine g_istore_n X dX1_isEdge_8 (q := 9) rfl (Nat.le_of_ble_eq_true rfl) (lv' := [(3, .int y2), (2, .int y1), (0, .ref (h b0)), (1, .int x1)]) rfl ?_
  refine g_iload_n X dX1_isEdge_9 (q := 10) rfl 1 rfl ?_
  refine jnW0 (WG (KC D cA cL h Z) p l e (rmD 1) st m args below meth c Q 4 s 37 [] []) hs (fun  hs => ?_) (fun j1 ih1 hs => ?_)
  · refine g_iconst X dX1_isEdge_37 (q := 38) rfl li_i1 ?_
    refine g_goto X dX1_isEdge_38 (tgt := 42) (by decide) ?_
    exact RI _ 42 _ _ _ rfl rfl hs dX1_isEdge_42
  refine g_if_eq X dX1_isEdge_10 (q := 13) rfl (tgt := 37) (by decide) hs ?_ ?_
  · intro hs
    exact wg_sub [] rfl (ih1 hs)
  · intro hs
    refine g_iload_n X dX1_isEdge_13 (q := 14) rfl 0 rfl ?_
    refine g_if_eq X dX1_isEdge_14 (q := 17) rfl (tgt := 37) (by decide) hs ?_ ?_
    · intro hs
      exact wg_sub [] rfl (ih1 hs)
    · intro hs
      refine g_iload_n X dX1_isEdge_17 (q := 18) rfl 1 rfl ?_
      refine g_aload_n X dX1_isEdge_18 (q := 19) rfl 2 rfl ?_
      refine cg_1_0 X dX1_isEdge_19 (q := 22) rfl hb0 lf_X1_30 ?_
      refine g_iconst X dX1_isEdge_22 (q := 23) rfl li_i1 ?_
      refine g_isub X dX1_isEdge_23 (q := 24) rfl ?_
      refine g_icmp_eq X dX1_isEdge_24 (q := 27) rfl (tgt := 37) (by decide) hs ?_ ?_
      · intro hs
        exact wg_sub [] rfl (ih1 hs)
      · intro hs
        refine g_iload_n X dX1_isEdge_27 (q := 28) rfl 0 rfl ?_
        refine g_aload_n X dX1_isEdge_28 (q := 29) rfl 2 rfl ?_
        refine cg_1_1 X dX1_isEdge_29 (q := 32) rfl hb0 lf_X1_34 ?_
        refine g_iconst X dX1_isEdge_32 (q := 33) rfl li_i1 ?_
        refine g_isub X dX1_isEdge_33 (q := 34) rfl ?_
        refine g_icmp_ne X dX1_isEdge_34 (q := 37) rfl (tgt := 41) (by decide) hs ?_ ?_
        · intro hs
          refine g_iconst X dX1_isEdge_41 (q := 42) rfl li_i0 ?_
          exact RI _ 42 _ _ _ rfl rfl hs dX1_isEdge_42
        · intro hs
          exact wg_sub [] rfl (ih1 hs)
theorem dX1_downWind_0 : decode cX1_downWind 0 = .ok (.iload_n 1, 1) := by decide +kernel
theorem dX1_downWind_1 : decode cX1_downWind 1 = .ok (.bipush 7, 2) := by decide +kernel
theorem dX1_downWind_3 : decode cX1_downWind 3 = .ok (.iand, 1) := by decide +kernel
theorem dX1_downWind_4 : decode cX1_downWind 4 = .ok (.aload_n 0, 1) := by decide +kernel
theorem dX1_downWind_5 : decode cX1_downWind 5 = .ok (.getfield 40, 3) := by decide +kernel
theorem dX1_downWind_8 : decode cX1_downWind 8 = .ok (.iconst 1, 1) := by decide +kernel
theorem dX1_downWind_9 : decode cX1_downWind 9 = .ok (.if_icmp .ne 7, 3) := by decide +kernel
theorem dX1_downWind_12 : decode cX1_downWind 12 = .ok (.iconst 1, 1) := by decide +kernel
theorem dX1_downWind_13 : decode cX1_downWind 13 = .ok (.goto 16, 3) := by decide +kernel
theorem dX1_downWind_16 : decode cX1_downWind 16 = .ok (.aload_n 0, 1) := by decide +kernel
theorem dX1_downWind_17 : decode cX1_downWind 17 = .ok (.getfield 40, 3) := by decide +kernel
theorem dX1_downWind_20 : decode cX1_downWind 20 = .ok (.iconst 3, 1) := by decide +kernel
theorem dX1_downWind_21 : decode cX1_downWind 21 = .ok (.if_icmp .ne 7, 3) := by decide +kernel
theorem dX1_downWind_24 : decode cX1_downWind 24 = .ok (.iconst (-1), 1) := by decide +kernel
theorem dX1_downWind_25 : decode cX1_downWind 25 = .ok (.goto 4, 3) := by decide +kernel
theorem dX1_downWind_28 : decode cX1_downWind 28 = .ok (.iconst 0, 1) := by decide +kernel
theorem dX1_downWind_29 : decode cX1_downWind 29 = .ok (.iadd, 1) := by decide +kernel
theorem dX1_downWind_30 : decode cX1_downWind 30 = .ok (.istore_n 2, 1) := by decide +kernel
theorem dX1_downWind_31 : decode cX1_downWind 31 = .ok (.iload_n 1, 1) := by decide +kernel
theorem dX1_downWind_32 : decode cX1_downWind 32 = .ok (.iconst 3, 1) := by decide +kernel
theorem dX1_downWind_33 : decode cX1_downWind 33 = .ok (.ishr, 1) := by decide +kernel
theorem dX1_downWind_34 : decode cX1_downWind 34 = .ok (.aload_n 0, 1) := by decide +kernel
theorem dX1_downWind_35 : decode cX1_downWind 35 = .ok (.getfield 40, 3) := by decide +kernel
theorem dX1_downWind_38 : decode cX1_downWind 38 = .ok (.iconst 2, 1) := by decide +kernel
theorem dX1_downWind_39 : decode cX1_downWind 39 = .ok (.if_icmp .ne 7, 3) := by decide +kernel
theorem dX1_downWind_42 : decode cX1_downWind 42 = .ok (.iconst 1, 1) := by decide +kernel
theorem dX1_downWind_43 : decode cX1_downWind 43 = .ok (.goto 15, 3) := by decide +kernel
theorem dX1_downWind_46 : decode cX1_downWind 46 = .ok (.aload_n 0, 1) := by decide +kernel
theorem dX1_downWind_47 : decode cX1_downWind 47 = .ok (.getfield 40, 3) := by decide +kernel
theorem dX1_downWind_50 : decode cX1_downWind 50 = .ok (.ifCond .ne 7, 3) := by decide +kernel
theorem dX1_downWind_53 : decode cX1_downWind 53 = .ok (.iconst (-1), 1) := by decide +kernel
theorem dX1_downWind_54 : decode cX1_downWind 54 = .ok (.goto 4, 3) := by decide +kernel
theorem dX1_downWind_57 : decode cX1_downWind 57 = .ok (.iconst 0, 1) := by decide +kernel
theorem dX1_downWind_58 : decode cX1_downWind 58 = .ok (.iadd, 1) := by decide +kernel
theorem dX1_downWind_59 : decode cX1_downWind 59 = .ok (.istore_n 3, 1) := by decide +kernel
theorem dX1_downWind_60 : decode cX1_downWind 60 = .ok (.iload_n 2, 1) := by decide +kernel
theorem dX1_downWind_61 : decode cX1_downWind 61 = .ok (.iconst 0, 1) := by decide +kernel
theorem dX1_downWind_62 : decode cX1_downWind 62 = .ok (.aload_n 0, 1) := by decide +kernel
theorem dX1_downWind_63 : decode cX1_downWind 63 = .ok (.getfield 30, 3) := by decide +kernel
theorem dX1_downWind_66 : decode cX1_downWind 66 = .ok (.iconst 1, 1) := by decide +kernel
theorem dX1_downWind_67 : decode cX1_downWind 67 = .ok (.isub, 1) := by decide +kernel
theorem dX1_downWind_68 : decode cX1_downWind 68 = .ok (.invokestatic 85, 3) := by decide +kernel
theorem dX1_downWind_71 : decode cX1_downWind 71 = .ok (.ifCond .eq 26, 3) := by decide +kernel
theorem dX1_downWind_74 : decode cX1_downWind 74 = .ok (.iload_n 3, 1) := by decide +kernel
theorem dX1_downWind_75 : decode cX1_downWind 75 = .ok (.iconst 0, 1) := by decide +kernel
theorem dX1_downWind_76 : decode cX1_downWind 76 = .ok (.aload_n 0, 1) := by decide +kernel
theorem dX1_downWind_77 : decode cX1_downWind 77 = .ok (.getfield 34, 3) := by decide +kernel
theorem dX1_downWind_80 : decode cX1_downWind 80 = .ok (.iconst 1, 1) := by decide +kernel
theorem dX1_downWind_81 : decode cX1_downWind 81 = .ok (.isub, 1) := by decide +kernel
theorem dX1_downWind_82 : decode cX1_downWind 82 = .ok (.invokestatic 85, 3) := by decide +kernel
theorem dX1_downWind_85 : decode cX1_downWind 85 = .ok (.ifCond .eq 12, 3) := by decide +kernel
theorem dX1_downWind_88 : decode cX1_downWind 88 = .ok (.bipush 8, 2) := by decide +kernel
theorem dX1_downWind_90 : decode cX1_downWind 90 = .ok (.iload_n 3, 1) := by decide +kernel
theorem dX1_downWind_91 : decode cX1_downWind 91 = .ok (.imul, 1) := by decide +kernel
theorem dX1_downWind_92 : decode cX1_downWind 92 = .ok (.iload_n 2, 1) := by decide +kernel
theorem dX1_downWind_93 : decode cX1_downWind 93 = .ok (.iadd, 1) := by decide +kernel
theorem dX1_downWind_94 : decode cX1_downWind 94 = .ok (.goto 4, 3) := by decide +kernel
theorem dX1_downWind_97 : decode cX1_downWind 97 = .ok (.iconst (-1), 1) := by decide +kernel
theorem dX1_downWind_98 : decode cX1_downWind 98 = .ok (.ireturn, 1) := by decide +kernel
def C_X1_downWind (s : ST) (b0 : Nat) (x1 : Int32) : Int32 := Lt (fun (a1 : Int32) => (Lt (((x1 &&& (7 : Int32)) + a1)) fun y1 => Lt (fun (a2 : Int32) => (Lt (((x1 >>> ((3 : Int32) &&& 31)) + a2)) fun y2 => Lt (C_X9_isWithin s y1 (0 : Int32) ((s.1 b0 0) - (1 : Int32))) fun y3 => if y3 = 0 then ((-1 : Int32)) else (Lt (C_X9_isWithin s y2 (0 : Int32) ((s.1 b0 1) - (1 : Int32))) fun y4 => if y4 = 0 then ((-1 : Int32)) else ((((8 : Int32) * y2) + y1))) : Int32)) fun j2 => if (s.1 b0 3) = (2 : Int32) then (j2 (1 : Int32)) else (if (s.1 b0 3) = 0 then (j2 (-1 : Int32)) else (j2 (0 : Int32))) : Int32)) fun j1 => if (s.1 b0 3) = (1 : Int32) then (j1 (1 : Int32)) else (if (s.1 b0 3) = (3 : Int32) then (j1 (-1 : Int32)) else (j1 (0 : Int32)))
set_option maxRecDepth 100000 in
set_option maxHeartbeats 4000000 in
theorem k_X1_downWind {h : Nat → Nat} {Z : State → Heap → Prop} {sa : Nat → Nat} (hZ : ZK h Z sa) (l : Launch) (D : va_G) (cA cL : ClassId) (s : ST) (b0 : Nat) (x1 : Int32) (hb0 : isK 1 b0) : MI l (KC D cA cL h Z) 2 yX1_downWind cX1_downWind 4 (some .int) s [.ref (h b0), .int x1] (C_X1_downWind s b0 x1) s := by
  refine met_i (by decide) (Nat.le_of_ble_eq_true rfl) ?_
  intro p e st m args below meth c Q X RI
  generalize hs : C_X1_downWind s b0 x1 = o at RI
  unfold C_X1_downWind at hs
  refine g_iload_n X dX1_downWind_0 (q := 1) rfl 1 rfl ?_
  refine g_bipush X dX1_downWind_1 (q := 3) rfl li_b7 ?_
  refine g_iand X dX1_downWind_3 (q := 4) rfl ?_
  refine g_aload_n X dX1_downWind_4 (q := 5) rfl 0 rfl ?_
  refine cg_1_3 X dX1_downWind_5 (q := 8) rfl hb0 lf_X1_40 ?_
  refine g_iconst X dX1_downWind_8 (q := 9) rfl li_i1 ?_
  refine jnW1 (fun (a1 : Int32) => WG (KC D cA cL h Z) p l e (rmD 2) st m args below meth c Q 4 s 29 [(0, .ref (h b0)), (1, .int x1)] [.int a1, .int (x1 &&& (7 : Int32))]) hs (fun a1 hs => ?_) (fun j1 ih1 hs => ?_)
  · refine g_iadd X dX1_downWind_29 (q := 30) rfl ?_
    refine nmI hs (fun y1 hs => ?_)
    refine g_istore_n X dX1_downWind_30 (q := 31) rfl (Nat.le_of_ble_eq_true rfl) (lv' := [(2, .int y1), (0, .ref (h b0)), (1, .int x1)]) rfl ?_
    refine g_iload_n X dX1_downWind_31 (q := 32) rfl 2 rfl ?_
    refine g_iconst X dX1_downWind_32 (q := 33) rfl li_i3 ?_
    refine g_ishr X dX1_downWind_33 (q := 34) rfl ?_
    refine g_aload_n X dX1_downWind_34 (q := 35) rfl 1 rfl ?_
    refine cg_1_3 X dX1_downWind_35 (q := 38) rfl hb0 lf_X1_40 ?_
    refine g_iconst X dX1_downWind_38 (q := 39) rfl li_i2 ?_
    refine jnW1 (fun (a2 : Int32) => WG (KC D cA cL h Z) p l e (rmD 2) st m args below meth c Q 4 s 58 [(0, .ref (h b0)), (2, .int y1)] [.int a2, .int (x1 >>> ((3 : Int32) &&& 31))]) hs (fun a2 hs => ?_) (fun j2 ih2 hs => ?_)
    · refine g_iadd X dX1_downWind_58 (q := 59) rfl ?_
      refine nmI hs (fun y2 hs => ?_)
      refine g_istore_n X dX1_downWind_59 (q := 60) rfl (Nat.le_of_ble_eq_true rfl) (lv' := [(3, .int y2), (0, .ref (h b0)), (2, .int y1)]) rfl ?_
      refine g_iload_n X dX1_downWind_60 (q := 61) rfl 2 rfl ?_
      refine g_iconst X dX1_downWind_61 (q := 62) rfl li_i0 ?_
      refine g_aload_n X dX1_downWind_62 (q := 63) rfl 1 rfl ?_
      refine cg_1_0 X dX1_downWind_63 (q := 66) rfl hb0 lf_X1_30 ?_
      refine g_iconst X dX1_downWind_66 (q := 67) rfl li_i1 ?_
      refine g_isub X dX1_downWind_67 (q := 68) rfl ?_
      refine vc_X9_isWithin_X1 hZ X dX1_downWind_68 (q := 71) rfl (Nat.le_of_ble_eq_true rfl) (Nat.le_of_ble_eq_true rfl) (Nat.le_of_ble_eq_true rfl) hs (fun y3 hs => ?_)
      refine g_if_eq X dX1_downWind_71 (q := 74) rfl (tgt := 97) (by decide) hs ?_ ?_
      · intro hs
        refine g_iconst X dX1_downWind_97 (q := 98) rfl li_im1 ?_
        exact RI _ 98 _ _ _ rfl rfl hs dX1_downWind_98
      · intro hs
        refine g_iload_n X dX1_downWind_74 (q := 75) rfl 0 rfl ?_
        refine g_iconst X dX1_downWind_75 (q := 76) rfl li_i0 ?_
        refine g_aload_n X dX1_downWind_76 (q := 77) rfl 1 rfl ?_
        refine cg_1_1 X dX1_downWind_77 (q := 80) rfl hb0 lf_X1_34 ?_
        refine g_iconst X dX1_downWind_80 (q := 81) rfl li_i1 ?_
        refine g_isub X dX1_downWind_81 (q := 82) rfl ?_
        refine vc_X9_isWithin_X1 hZ X dX1_downWind_82 (q := 85) rfl (Nat.le_of_ble_eq_true rfl) (Nat.le_of_ble_eq_true rfl) (Nat.le_of_ble_eq_true rfl) hs (fun y4 hs => ?_)
        refine g_if_eq X dX1_downWind_85 (q := 88) rfl (tgt := 97) (by decide) hs ?_ ?_
        · intro hs
          refine g_iconst X dX1_downWind_97 (q := 98) rfl li_im1 ?_
          exact RI _ 98 _ _ _ rfl rfl hs dX1_downWind_98
        · intro hs
          refine g_bipush X dX1_downWind_88 (q := 90) rfl li_b8 ?_
          refine g_iload_n X dX1_downWind_90 (q := 91) rfl 0 rfl ?_
          refine g_imul X dX1_downWind_91 (q := 92) rfl ?_
          refine g_iload_n X dX1_downWind_92 (q := 93) rfl 2 rfl ?_
          refine g_iadd X dX1_downWind_93 (q := 94) rfl ?_
          refine g_goto X dX1_downWind_94 (tgt := 98) (by decide) ?_
          exact RI _ 98 _ _ _ rfl rfl hs dX1_downWind_98
    refine g_icmp_ne X dX1_downWind_39 (q := 42) rfl (tgt := 46) (by decide) hs ?_ ?_
    · intro hs
      refine g_aload_n X dX1_downWind_46 (q := 47) rfl 1 rfl ?_
      refine cg_1_3 X dX1_downWind_47 (q := 50) rfl hb0 lf_X1_40 ?_
      refine g_if_ne X dX1_downWind_50 (q := 53) rfl (tgt := 57) (by decide) hs ?_ ?_
      · intro hs
        refine g_iconst X dX1_downWind_57 (q := 58) rfl li_i0 ?_
        exact wg_sub [1, 0] rfl (ih2 _ hs)
      · intro hs
        refine g_iconst X dX1_downWind_53 (q := 54) rfl li_im1 ?_
        refine g_goto X dX1_downWind_54 (tgt := 58) (by decide) ?_
        exact wg_sub [1, 0] rfl (ih2 _ hs)
    · intro hs
      refine g_iconst X dX1_downWind_42 (q := 43) rfl li_i1 ?_
      refine g_goto X dX1_downWind_43 (tgt := 58) (by decide) ?_
      exact wg_sub [1, 0] rfl (ih2 _ hs)
  refine g_icmp_ne X dX1_downWind_9 (q := 12) rfl (tgt := 16) (by decide) hs ?_ ?_
  · intro hs
    refine g_aload_n X dX1_downWind_16 (q := 17) rfl 0 rfl ?_
    refine cg_1_3 X dX1_downWind_17 (q := 20) rfl hb0 lf_X1_40 ?_
    refine g_iconst X dX1_downWind_20 (q := 21) rfl li_i3 ?_
    refine g_icmp_ne X dX1_downWind_21 (q := 24) rfl (tgt := 28) (by decide) hs ?_ ?_
    · intro hs
      refine g_iconst X dX1_downWind_28 (q := 29) rfl li_i0 ?_
      exact wg_sub [0, 1] rfl (ih1 _ hs)
    · intro hs
      refine g_iconst X dX1_downWind_24 (q := 25) rfl li_im1 ?_
      refine g_goto X dX1_downWind_25 (tgt := 29) (by decide) ?_
      exact wg_sub [0, 1] rfl (ih1 _ hs)
  · intro hs
    refine g_iconst X dX1_downWind_12 (q := 13) rfl li_i1 ?_
    refine g_goto X dX1_downWind_13 (tgt := 29) (by decide) ?_
    exact wg_sub [0, 1] rfl (ih1 _ hs)
theorem dJ13_bitCount_95d88_0 : decode cJ13_bitCount_95d88 0 = .ok (.lload_n 0, 1) := by decide +kernel
theorem dJ13_bitCount_95d88_1 : decode cJ13_bitCount_95d88 1 = .ok (.lload_n 0, 1) := by decide +kernel
theorem dJ13_bitCount_95d88_2 : decode cJ13_bitCount_95d88 2 = .ok (.iconst 1, 1) := by decide +kernel
theorem dJ13_bitCount_95d88_3 : decode cJ13_bitCount_95d88 3 = .ok (.lushr, 1) := by decide +kernel
theorem dJ13_bitCount_95d88_4 : decode cJ13_bitCount_95d88 4 = .ok (.ldc2_w 314, 3) := by decide +kernel
theorem dJ13_bitCount_95d88_7 : decode cJ13_bitCount_95d88 7 = .ok (.land, 1) := by decide +kernel
theorem dJ13_bitCount_95d88_8 : decode cJ13_bitCount_95d88 8 = .ok (.lsub, 1) := by decide +kernel
theorem dJ13_bitCount_95d88_9 : decode cJ13_bitCount_95d88 9 = .ok (.lstore_n 0, 1) := by decide +kernel
theorem dJ13_bitCount_95d88_10 : decode cJ13_bitCount_95d88 10 = .ok (.lload_n 0, 1) := by decide +kernel
theorem dJ13_bitCount_95d88_11 : decode cJ13_bitCount_95d88 11 = .ok (.ldc2_w 316, 3) := by decide +kernel
theorem dJ13_bitCount_95d88_14 : decode cJ13_bitCount_95d88 14 = .ok (.land, 1) := by decide +kernel
theorem dJ13_bitCount_95d88_15 : decode cJ13_bitCount_95d88 15 = .ok (.lload_n 0, 1) := by decide +kernel
theorem dJ13_bitCount_95d88_16 : decode cJ13_bitCount_95d88 16 = .ok (.iconst 2, 1) := by decide +kernel
theorem dJ13_bitCount_95d88_17 : decode cJ13_bitCount_95d88 17 = .ok (.lushr, 1) := by decide +kernel
theorem dJ13_bitCount_95d88_18 : decode cJ13_bitCount_95d88 18 = .ok (.ldc2_w 316, 3) := by decide +kernel
theorem dJ13_bitCount_95d88_21 : decode cJ13_bitCount_95d88 21 = .ok (.land, 1) := by decide +kernel
theorem dJ13_bitCount_95d88_22 : decode cJ13_bitCount_95d88 22 = .ok (.ladd, 1) := by decide +kernel
theorem dJ13_bitCount_95d88_23 : decode cJ13_bitCount_95d88 23 = .ok (.lstore_n 0, 1) := by decide +kernel
theorem dJ13_bitCount_95d88_24 : decode cJ13_bitCount_95d88 24 = .ok (.lload_n 0, 1) := by decide +kernel
theorem dJ13_bitCount_95d88_25 : decode cJ13_bitCount_95d88 25 = .ok (.lload_n 0, 1) := by decide +kernel
theorem dJ13_bitCount_95d88_26 : decode cJ13_bitCount_95d88 26 = .ok (.iconst 4, 1) := by decide +kernel
theorem dJ13_bitCount_95d88_27 : decode cJ13_bitCount_95d88 27 = .ok (.lushr, 1) := by decide +kernel
theorem dJ13_bitCount_95d88_28 : decode cJ13_bitCount_95d88 28 = .ok (.ladd, 1) := by decide +kernel
theorem dJ13_bitCount_95d88_29 : decode cJ13_bitCount_95d88 29 = .ok (.ldc2_w 318, 3) := by decide +kernel
theorem dJ13_bitCount_95d88_32 : decode cJ13_bitCount_95d88 32 = .ok (.land, 1) := by decide +kernel
theorem dJ13_bitCount_95d88_33 : decode cJ13_bitCount_95d88 33 = .ok (.lstore_n 0, 1) := by decide +kernel
theorem dJ13_bitCount_95d88_34 : decode cJ13_bitCount_95d88 34 = .ok (.lload_n 0, 1) := by decide +kernel
theorem dJ13_bitCount_95d88_35 : decode cJ13_bitCount_95d88 35 = .ok (.lload_n 0, 1) := by decide +kernel
theorem dJ13_bitCount_95d88_36 : decode cJ13_bitCount_95d88 36 = .ok (.bipush 8, 2) := by decide +kernel
theorem dJ13_bitCount_95d88_38 : decode cJ13_bitCount_95d88 38 = .ok (.lushr, 1) := by decide +kernel
theorem dJ13_bitCount_95d88_39 : decode cJ13_bitCount_95d88 39 = .ok (.ladd, 1) := by decide +kernel
theorem dJ13_bitCount_95d88_40 : decode cJ13_bitCount_95d88 40 = .ok (.lstore_n 0, 1) := by decide +kernel
theorem dJ13_bitCount_95d88_41 : decode cJ13_bitCount_95d88 41 = .ok (.lload_n 0, 1) := by decide +kernel
theorem dJ13_bitCount_95d88_42 : decode cJ13_bitCount_95d88 42 = .ok (.lload_n 0, 1) := by decide +kernel
theorem dJ13_bitCount_95d88_43 : decode cJ13_bitCount_95d88 43 = .ok (.bipush 16, 2) := by decide +kernel
theorem dJ13_bitCount_95d88_45 : decode cJ13_bitCount_95d88 45 = .ok (.lushr, 1) := by decide +kernel
theorem dJ13_bitCount_95d88_46 : decode cJ13_bitCount_95d88 46 = .ok (.ladd, 1) := by decide +kernel
theorem dJ13_bitCount_95d88_47 : decode cJ13_bitCount_95d88 47 = .ok (.lstore_n 0, 1) := by decide +kernel
theorem dJ13_bitCount_95d88_48 : decode cJ13_bitCount_95d88 48 = .ok (.lload_n 0, 1) := by decide +kernel
theorem dJ13_bitCount_95d88_49 : decode cJ13_bitCount_95d88 49 = .ok (.lload_n 0, 1) := by decide +kernel
theorem dJ13_bitCount_95d88_50 : decode cJ13_bitCount_95d88 50 = .ok (.bipush 32, 2) := by decide +kernel
theorem dJ13_bitCount_95d88_52 : decode cJ13_bitCount_95d88 52 = .ok (.lushr, 1) := by decide +kernel
theorem dJ13_bitCount_95d88_53 : decode cJ13_bitCount_95d88 53 = .ok (.ladd, 1) := by decide +kernel
theorem dJ13_bitCount_95d88_54 : decode cJ13_bitCount_95d88 54 = .ok (.lstore_n 0, 1) := by decide +kernel
theorem dJ13_bitCount_95d88_55 : decode cJ13_bitCount_95d88 55 = .ok (.lload_n 0, 1) := by decide +kernel
theorem dJ13_bitCount_95d88_56 : decode cJ13_bitCount_95d88 56 = .ok (.l2i, 1) := by decide +kernel
theorem dJ13_bitCount_95d88_57 : decode cJ13_bitCount_95d88 57 = .ok (.bipush 127, 2) := by decide +kernel
theorem dJ13_bitCount_95d88_59 : decode cJ13_bitCount_95d88 59 = .ok (.iand, 1) := by decide +kernel
theorem dJ13_bitCount_95d88_60 : decode cJ13_bitCount_95d88 60 = .ok (.ireturn, 1) := by decide +kernel
def C_J13_bitCount_95d88 (s : ST) (x1 : Int64) : Int32 := Lt ((x1 - ((lush x1 (1 : Int32)) &&& (6148914691236517205 : Int64)))) fun y1 => Lt (((y1 &&& (3689348814741910323 : Int64)) + ((lush y1 (2 : Int32)) &&& (3689348814741910323 : Int64)))) fun y2 => Lt (((y2 + (lush y2 (4 : Int32))) &&& (1085102592571150095 : Int64))) fun y3 => Lt ((y3 + (lush y3 (8 : Int32)))) fun y4 => Lt ((y4 + (lush y4 (16 : Int32)))) fun y5 => Lt ((y5 + (lush y5 (32 : Int32)))) fun y6 => (y6.toInt32 &&& (127 : Int32))
set_option maxRecDepth 100000 in
set_option maxHeartbeats 4000000 in
theorem k_J13_bitCount_95d88 {h : Nat → Nat} {Z : State → Heap → Prop} {sa : Nat → Nat} (hZ : ZK h Z sa) (l : Launch) (D : va_G) (cA cL : ClassId) (s : ST) (x1 : Int64) : MI l (KC D cA cL h Z) 1 yJ13_bitCount_95d88 cJ13_bitCount_95d88 2 (some .int) s [.long x1] (C_J13_bitCount_95d88 s x1) s := by
  refine met_i (by decide) (Nat.le_of_ble_eq_true rfl) ?_
  intro p e st m args below meth c Q X RI
  generalize hs : C_J13_bitCount_95d88 s x1 = o at RI
  unfold C_J13_bitCount_95d88 at hs
  refine g_lload_n X dJ13_bitCount_95d88_0 (q := 1) rfl 0 rfl ?_
  refine g_lload_n X dJ13_bitCount_95d88_1 (q := 2) rfl 0 rfl ?_
  refine g_iconst X dJ13_bitCount_95d88_2 (q := 3) rfl li_i1 ?_
  refine g_lushr X dJ13_bitCount_95d88_3 (q := 4) rfl ?_
  refine g_ldc2_w X dJ13_bitCount_95d88_4 (q := 7) rfl kc_J13_314 ?_
  refine g_land X dJ13_bitCount_95d88_7 (q := 8) rfl ?_
  refine g_lsub X dJ13_bitCount_95d88_8 (q := 9) rfl ?_
  refine nmL hs (fun y1 hs => ?_)
  refine g_lstore_n X dJ13_bitCount_95d88_9 (q := 10) rfl (Nat.le_of_ble_eq_true rfl) (lv' := [(0, .long y1)]) rfl ?_
  refine g_lload_n X dJ13_bitCount_95d88_10 (q := 11) rfl 0 rfl ?_
  refine g_ldc2_w X dJ13_bitCount_95d88_11 (q := 14) rfl kc_J13_316 ?_
  refine g_land X dJ13_bitCount_95d88_14 (q := 15) rfl ?_
  refine g_lload_n X dJ13_bitCount_95d88_15 (q := 16) rfl 0 rfl ?_
  refine g_iconst X dJ13_bitCount_95d88_16 (q := 17) rfl li_i2 ?_
  refine g_lushr X dJ13_bitCount_95d88_17 (q := 18) rfl ?_
  refine g_ldc2_w X dJ13_bitCount_95d88_18 (q := 21) rfl kc_J13_316 ?_
  refine g_land X dJ13_bitCount_95d88_21 (q := 22) rfl ?_
  refine g_ladd X dJ13_bitCount_95d88_22 (q := 23) rfl ?_
  refine nmL hs (fun y2 hs => ?_)
  refine g_lstore_n X dJ13_bitCount_95d88_23 (q := 24) rfl (Nat.le_of_ble_eq_true rfl) (lv' := [(0, .long y2)]) rfl ?_
  refine g_lload_n X dJ13_bitCount_95d88_24 (q := 25) rfl 0 rfl ?_
  refine g_lload_n X dJ13_bitCount_95d88_25 (q := 26) rfl 0 rfl ?_
  refine g_iconst X dJ13_bitCount_95d88_26 (q := 27) rfl li_i4 ?_
  refine g_lushr X dJ13_bitCount_95d88_27 (q := 28) rfl ?_
  refine g_ladd X dJ13_bitCount_95d88_28 (q := 29) rfl ?_
  refine g_ldc2_w X dJ13_bitCount_95d88_29 (q := 32) rfl kc_J13_318 ?_
  refine g_land X dJ13_bitCount_95d88_32 (q := 33) rfl ?_
  refine nmL hs (fun y3 hs => ?_)
  refine g_lstore_n X dJ13_bitCount_95d88_33 (q := 34) rfl (Nat.le_of_ble_eq_true rfl) (lv' := [(0, .long y3)]) rfl ?_
  refine g_lload_n X dJ13_bitCount_95d88_34 (q := 35) rfl 0 rfl ?_
  refine g_lload_n X dJ13_bitCount_95d88_35 (q := 36) rfl 0 rfl ?_
  refine g_bipush X dJ13_bitCount_95d88_36 (q := 38) rfl li_b8 ?_
  refine g_lushr X dJ13_bitCount_95d88_38 (q := 39) rfl ?_
  refine g_ladd X dJ13_bitCount_95d88_39 (q := 40) rfl ?_
  refine nmL hs (fun y4 hs => ?_)
  refine g_lstore_n X dJ13_bitCount_95d88_40 (q := 41) rfl (Nat.le_of_ble_eq_true rfl) (lv' := [(0, .long y4)]) rfl ?_
  refine g_lload_n X dJ13_bitCount_95d88_41 (q := 42) rfl 0 rfl ?_
  refine g_lload_n X dJ13_bitCount_95d88_42 (q := 43) rfl 0 rfl ?_
  refine g_bipush X dJ13_bitCount_95d88_43 (q := 45) rfl li_b16 ?_
  refine g_lushr X dJ13_bitCount_95d88_45 (q := 46) rfl ?_
  refine g_ladd X dJ13_bitCount_95d88_46 (q := 47) rfl ?_
  refine nmL hs (fun y5 hs => ?_)
  refine g_lstore_n X dJ13_bitCount_95d88_47 (q := 48) rfl (Nat.le_of_ble_eq_true rfl) (lv' := [(0, .long y5)]) rfl ?_
  refine g_lload_n X dJ13_bitCount_95d88_48 (q := 49) rfl 0 rfl ?_
  refine g_lload_n X dJ13_bitCount_95d88_49 (q := 50) rfl 0 rfl ?_
  refine g_bipush X dJ13_bitCount_95d88_50 (q := 52) rfl li_b32 ?_
  refine g_lushr X dJ13_bitCount_95d88_52 (q := 53) rfl ?_
  refine g_ladd X dJ13_bitCount_95d88_53 (q := 54) rfl ?_
  refine nmL hs (fun y6 hs => ?_)
  refine g_lstore_n X dJ13_bitCount_95d88_54 (q := 55) rfl (Nat.le_of_ble_eq_true rfl) (lv' := [(0, .long y6)]) rfl ?_
  refine g_lload_n X dJ13_bitCount_95d88_55 (q := 56) rfl 0 rfl ?_
  refine g_l2i X dJ13_bitCount_95d88_56 (q := 57) rfl ?_
  refine g_bipush X dJ13_bitCount_95d88_57 (q := 59) rfl li_b127 ?_
  refine g_iand X dJ13_bitCount_95d88_59 (q := 60) rfl ?_
  exact RI _ 60 _ _ _ rfl rfl hs dJ13_bitCount_95d88_60
theorem dX1_seedsInRow_0 : decode cX1_seedsInRow 0 = .ok (.iload_n 1, 1) := by decide +kernel
theorem dX1_seedsInRow_1 : decode cX1_seedsInRow 1 = .ok (.iconst 0, 1) := by decide +kernel
theorem dX1_seedsInRow_2 : decode cX1_seedsInRow 2 = .ok (.bipush 7, 2) := by decide +kernel
theorem dX1_seedsInRow_4 : decode cX1_seedsInRow 4 = .ok (.invokestatic 85, 3) := by decide +kernel
theorem dX1_seedsInRow_7 : decode cX1_seedsInRow 7 = .ok (.ifCond .eq 22, 3) := by decide +kernel
theorem dX1_seedsInRow_10 : decode cX1_seedsInRow 10 = .ok (.aload_n 0, 1) := by decide +kernel
theorem dX1_seedsInRow_11 : decode cX1_seedsInRow 11 = .ok (.getfield 62, 3) := by decide +kernel
theorem dX1_seedsInRow_14 : decode cX1_seedsInRow 14 = .ok (.ldc2_w 97, 3) := by decide +kernel
theorem dX1_seedsInRow_17 : decode cX1_seedsInRow 17 = .ok (.bipush 8, 2) := by decide +kernel
theorem dX1_seedsInRow_19 : decode cX1_seedsInRow 19 = .ok (.iload_n 1, 1) := by decide +kernel
theorem dX1_seedsInRow_20 : decode cX1_seedsInRow 20 = .ok (.imul, 1) := by decide +kernel
theorem dX1_seedsInRow_21 : decode cX1_seedsInRow 21 = .ok (.lshl, 1) := by decide +kernel
theorem dX1_seedsInRow_22 : decode cX1_seedsInRow 22 = .ok (.land, 1) := by decide +kernel
theorem dX1_seedsInRow_23 : decode cX1_seedsInRow 23 = .ok (.invokestatic 99, 3) := by decide +kernel
theorem dX1_seedsInRow_26 : decode cX1_seedsInRow 26 = .ok (.goto 4, 3) := by decide +kernel
theorem dX1_seedsInRow_29 : decode cX1_seedsInRow 29 = .ok (.iconst 0, 1) := by decide +kernel
theorem dX1_seedsInRow_30 : decode cX1_seedsInRow 30 = .ok (.ireturn, 1) := by decide +kernel
theorem wJ13_bitCount_95d88_X1 : GoodIn GT (va_wsS RX1 99 yJ13_bitCount_95d88 (.code yJ13_bitCount_95d88 cJ13_bitCount_95d88 2 (some .int) :: GT)) := gt_c (gt_of 1248 (by decide +kernel) rfl) (gt_c (gt_of 1009 (by decide +kernel) rfl) (gt_c (gt_of 214 (by decide +kernel) rfl) (gt_c (gt_of 1010 (by decide +kernel) rfl) gt_t)))
theorem vc_J13_bitCount_95d88_X1 {p : Program} {l : Launch} {e : Env} {st : State} {m : MethodId} {args : Array Value} {below : List Frame} {meth : Method} {c : Code} {Q : State → Prop} {nL : Nat} {cc : ByteArray} {s : ST} {pc q : Nat} {lv : List (Nat × Value)} {rest : List Value} {D : va_G} {cA cL : ClassId} {h : Nat → Nat} {Z : State → Heap → Prop} {sa : Nat → Nat} (hZ : ZK h Z sa) {d0 : Nat} (X : Cx (KC D cA cL h Z) p st m args meth c cc nL RX1) {x1 : Int64} (d : decode cc pc = .ok (.invokestatic 99, 3)) (hq : pc + 3 = q) (hd1 : 1 + 1 ≤ d0) (hd2 : 8 + (2 + 11) + 100 * 1 ≤ 100 * d0) (hr : (rest.map fun v => v.category).sum ≤ 8) {B : Type} {f : Int32 → B} {r : B} (hs : Lt (C_J13_bitCount_95d88 s x1) f = r) (k : ∀ y, f y = r → WG (KC D cA cL h Z) p l e (rmD d0) st m args below meth c Q nL s q lv (.int y :: rest)) : WG (KC D cA cL h Z) p l e (rmD d0) st m args below meth c Q nL s pc lv (.long x1 :: rest) := by
  exact cS_I (K := KC D cA cL h Z) X (n := 1) (k_J13_bitCount_95d88 hZ l D cA cL s x1) wJ13_bitCount_95d88_X1 ⟨hd1, hd2⟩ ⟨by decide, by decide, by decide +kernel⟩ (As := [.long x1]) rfl hr rfl d hq (k _ hs)
def C_X1_seedsInRow (s : ST) (b0 : Nat) (x1 : Int32) : Int32 := Lt (C_X9_isWithin s x1 (0 : Int32) (7 : Int32)) fun y1 => if y1 = 0 then ((0 : Int32)) else (Lt (C_J13_bitCount_95d88 s ((s.2 b0 8) &&& ((255 : Int64) <<< (((8 : Int32) * x1).toInt64 &&& 63)))) fun y2 => y2)
set_option maxRecDepth 100000 in
set_option maxHeartbeats 4000000 in
theorem k_X1_seedsInRow {h : Nat → Nat} {Z : State → Heap → Prop} {sa : Nat → Nat} (hZ : ZK h Z sa) (l : Launch) (D : va_G) (cA cL : ClassId) (s : ST) (b0 : Nat) (x1 : Int32) (hb0 : isK 1 b0) : MI l (KC D cA cL h Z) 2 yX1_seedsInRow cX1_seedsInRow 2 (some .int) s [.ref (h b0), .int x1] (C_X1_seedsInRow s b0 x1) s := by
  refine met_i (by decide) (Nat.le_of_ble_eq_true rfl) ?_
  intro p e st m args below meth c Q X RI
  generalize hs : C_X1_seedsInRow s b0 x1 = o at RI
  unfold C_X1_seedsInRow at hs
  refine g_iload_n X dX1_seedsInRow_0 (q := 1) rfl 1 rfl ?_
  refine g_iconst X dX1_seedsInRow_1 (q := 2) rfl li_i0 ?_
  refine g_bipush X dX1_seedsInRow_2 (q := 4) rfl li_b7 ?_
  refine vc_X9_isWithin_X1 hZ X dX1_seedsInRow_4 (q := 7) rfl (Nat.le_of_ble_eq_true rfl) (Nat.le_of_ble_eq_true rfl) (Nat.le_of_ble_eq_true rfl) hs (fun y1 hs => ?_)
  refine g_if_eq X dX1_seedsInRow_7 (q := 10) rfl (tgt := 29) (by decide) hs ?_ ?_
  · intro hs
    refine g_iconst X dX1_seedsInRow_29 (q := 30) rfl li_i0 ?_
    exact RI _ 30 _ _ _ rfl rfl hs dX1_seedsInRow_30
  · intro hs
    refine g_aload_n X dX1_seedsInRow_10 (q := 11) rfl 0 rfl ?_
    refine cg_1_8 X dX1_seedsInRow_11 (q := 14) rfl hb0 lf_X1_62 ?_
    refine g_ldc2_w X dX1_seedsInRow_14 (q := 17) rfl kc_X1_97 ?_
    refine g_bipush X dX1_seedsInRow_17 (q := 19) rfl li_b8 ?_
    refine g_iload_n X dX1_seedsInRow_19 (q := 20) rfl 1 rfl ?_
    refine g_imul X dX1_seedsInRow_20 (q := 21) rfl ?_
    refine g_lshl X dX1_seedsInRow_21 (q := 22) rfl ?_
    refine g_land X dX1_seedsInRow_22 (q := 23) rfl ?_
    refine vc_J13_bitCount_95d88_X1 hZ X dX1_seedsInRow_23 (q := 26) rfl (Nat.le_of_ble_eq_true rfl) (Nat.le_of_ble_eq_true rfl) (Nat.le_of_ble_eq_true rfl) hs (fun y2 hs => ?_)
    refine g_goto X dX1_seedsInRow_26 (tgt := 30) (by decide) ?_
    exact RI _ 30 _ _ _ rfl rfl hs dX1_seedsInRow_30
theorem dX1_draw_0 : decode cX1_draw 0 = .ok (.aload_n 0, 1) := by decide +kernel
theorem dX1_draw_1 : decode cX1_draw 1 = .ok (.aload_n 0, 1) := by decide +kernel
theorem dX1_draw_2 : decode cX1_draw 2 = .ok (.getfield 68, 3) := by decide +kernel
theorem dX1_draw_5 : decode cX1_draw 5 = .ok (.ldc 105, 2) := by decide +kernel
theorem dX1_draw_7 : decode cX1_draw 7 = .ok (.imul, 1) := by decide +kernel
theorem dX1_draw_8 : decode cX1_draw 8 = .ok (.ldc 106, 2) := by decide +kernel
theorem dX1_draw_10 : decode cX1_draw 10 = .ok (.iadd, 1) := by decide +kernel
theorem dX1_draw_11 : decode cX1_draw 11 = .ok (.putfield 68, 3) := by decide +kernel
theorem dX1_draw_14 : decode cX1_draw 14 = .ok (.iload_n 1, 1) := by decide +kernel
theorem dX1_draw_15 : decode cX1_draw 15 = .ok (.ifCond .le 15, 3) := by decide +kernel
theorem dX1_draw_18 : decode cX1_draw 18 = .ok (.aload_n 0, 1) := by decide +kernel
theorem dX1_draw_19 : decode cX1_draw 19 = .ok (.getfield 68, 3) := by decide +kernel
theorem dX1_draw_22 : decode cX1_draw 22 = .ok (.bipush 8, 2) := by decide +kernel
theorem dX1_draw_24 : decode cX1_draw 24 = .ok (.iushr, 1) := by decide +kernel
theorem dX1_draw_25 : decode cX1_draw 25 = .ok (.iload_n 1, 1) := by decide +kernel
theorem dX1_draw_26 : decode cX1_draw 26 = .ok (.irem, 1) := by decide +kernel
theorem dX1_draw_27 : decode cX1_draw 27 = .ok (.goto 4, 3) := by decide +kernel
theorem dX1_draw_30 : decode cX1_draw 30 = .ok (.iconst 0, 1) := by decide +kernel
theorem dX1_draw_31 : decode cX1_draw 31 = .ok (.ireturn, 1) := by decide +kernel
def C_X1_draw (s : ST) (b0 : Nat) (x1 : Int32) : Option (Int32 × ST) := Lt (ups s b0 6 (((s.1 b0 6) * (1664525 : Int32)) + (1013904223 : Int32))) fun s1 => if x1 ≤ 0 then (some ((0 : Int32), s1)) else (Gz x1 <| some ((irm (iush (s1.1 b0 6) (8 : Int32)) x1), s1))
set_option maxRecDepth 100000 in
set_option maxHeartbeats 4000000 in
theorem k_X1_draw {h : Nat → Nat} {Z : State → Heap → Prop} {sa : Nat → Nat} (hZ : ZK h Z sa) (l : Launch) (D : va_G) (cA cL : ClassId) (s : ST) (b0 : Nat) (x1 : Int32) (hb0 : isK 1 b0) {o : Int32 × ST} (hs : C_X1_draw s b0 x1 = some o) : MI l (KC D cA cL h Z) 1 yX1_draw cX1_draw 2 (some .int) s [.ref (h b0), .int x1] o.1 o.2 := by
  refine met_i (by decide) (Nat.le_of_ble_eq_true rfl) ?_
  intro p e st m args below meth c Q X RI
  unfold C_X1_draw at hs
  refine g_aload_n X dX1_draw_0 (q := 1) rfl 0 rfl ?_
  refine g_aload_n X dX1_draw_1 (q := 2) rfl 0 rfl ?_
  refine cg_1_6 X dX1_draw_2 (q := 5) rfl hb0 lf_X1_68 ?_
  refine g_ldc X dX1_draw_5 (q := 7) rfl kc_X1_105 ?_
  refine g_imul X dX1_draw_7 (q := 8) rfl ?_
  refine g_ldc X dX1_draw_8 (q := 10) rfl kc_X1_106 ?_
  refine g_iadd X dX1_draw_10 (q := 11) rfl ?_
  refine cp_1_6 X dX1_draw_11 (q := 14) rfl hb0 lf_X1_68 hs (fun s1 hs => ?_)
  refine g_iload_n X dX1_draw_14 (q := 15) rfl 1 rfl ?_
  refine g_if_le X dX1_draw_15 (q := 18) rfl (tgt := 30) (by decide) hs ?_ ?_
  · intro hs
    refine g_iconst X dX1_draw_30 (q := 31) rfl li_i0 ?_
    exact RI _ 31 _ _ _ (rU1 hs) rfl (rV1 hs) dX1_draw_31
  · intro hs
    refine g_aload_n X dX1_draw_18 (q := 19) rfl 0 rfl ?_
    refine cg_1_6 X dX1_draw_19 (q := 22) rfl hb0 lf_X1_68 ?_
    refine g_bipush X dX1_draw_22 (q := 24) rfl li_b8 ?_
    refine g_iushr X dX1_draw_24 (q := 25) rfl ?_
    refine g_iload_n X dX1_draw_25 (q := 26) rfl 1 rfl ?_
    have hz := (Gz_e hs).1
    replace hs := (Gz_e hs).2
    refine g_irem X dX1_draw_26 (q := 27) rfl hz ?_
    refine g_goto X dX1_draw_27 (tgt := 31) (by decide) ?_
    exact RI _ 31 _ _ _ (rU1 hs) rfl (rV1 hs) dX1_draw_31
theorem dX4_clear_0 : decode cX4_clear 0 = .ok (.aload_n 0, 1) := by decide +kernel
theorem dX4_clear_1 : decode cX4_clear 1 = .ok (.iconst 0, 1) := by decide +kernel
theorem dX4_clear_2 : decode cX4_clear 2 = .ok (.putfield 25, 3) := by decide +kernel
theorem dX4_clear_5 : decode cX4_clear 5 = .ok (.return_, 1) := by decide +kernel
def C_X4_clear (s : ST) (b0 : Nat) : ST := Lt (ups s b0 2 (0 : Int32)) fun s1 => s1
set_option maxRecDepth 100000 in
set_option maxHeartbeats 4000000 in
theorem k_X4_clear {h : Nat → Nat} {Z : State → Heap → Prop} {sa : Nat → Nat} (hZ : ZK h Z sa) (l : Launch) (D : va_G) (cA cL : ClassId) (s : ST) (b0 : Nat) (hb0 : isK 4 b0) : MV l (KC D cA cL h Z) 1 yX4_clear cX4_clear 1 none s [.ref (h b0)] (C_X4_clear s b0) := by
  refine met_v (by decide) (Nat.le_of_ble_eq_true rfl) ?_
  intro p e st m args below meth c Q X RI
  generalize hs : C_X4_clear s b0 = o at RI
  unfold C_X4_clear at hs
  refine g_aload_n X dX4_clear_0 (q := 1) rfl 0 rfl ?_
  refine g_iconst X dX4_clear_1 (q := 2) rfl li_i0 ?_
  refine cp_4_2 X dX4_clear_2 (q := 5) rfl hb0 lf_X4_25 hs (fun s1 hs => ?_)
  exact RI _ 5 _ hs dX4_clear_5
theorem dX2_clear_0 : decode cX2_clear 0 = .ok (.aload_n 0, 1) := by decide +kernel
theorem dX2_clear_1 : decode cX2_clear 1 = .ok (.getfield 14, 3) := by decide +kernel
theorem dX2_clear_4 : decode cX2_clear 4 = .ok (.invokevirtual 30, 3) := by decide +kernel
theorem dX2_clear_7 : decode cX2_clear 7 = .ok (.aload_n 0, 1) := by decide +kernel
theorem dX2_clear_8 : decode cX2_clear 8 = .ok (.iconst 0, 1) := by decide +kernel
theorem dX2_clear_9 : decode cX2_clear 9 = .ok (.putfield 33, 3) := by decide +kernel
theorem dX2_clear_12 : decode cX2_clear 12 = .ok (.return_, 1) := by decide +kernel
theorem wX4_clear_X2 : Cond.methodLinkNest RX2 30 yX4_clear "StormSeeds" ∈ NW := nw_of 605 (by decide +kernel) rfl
theorem vc_X4_clear_X2 {p : Program} {l : Launch} {e : Env} {st : State} {m : MethodId} {args : Array Value} {below : List Frame} {meth : Method} {c : Code} {Q : State → Prop} {nL : Nat} {cc : ByteArray} {s : ST} {pc q : Nat} {lv : List (Nat × Value)} {rest : List Value} {D : va_G} {cA cL : ClassId} {h : Nat → Nat} {Z : State → Heap → Prop} {sa : Nat → Nat} (hZ : ZK h Z sa) {d0 : Nat} (X : Cx (KC D cA cL h Z) p st m args meth c cc nL RX2) {b0 : Nat} (d : decode cc pc = .ok (.invokevirtual 30, 3)) (hq : pc + 3 = q) (hb0 : isK 4 b0) (hd1 : 1 + 1 ≤ d0) (hd2 : 8 + (1 + 11) + 100 * 1 ≤ 100 * d0) (hr : (rest.map fun v => v.category).sum ≤ 8) {B : Type} {f : ST → B} {r : B} (hs : Lt (C_X4_clear s b0) f = r) (k : ∀ y, f y = r → WG (KC D cA cL h Z) p l e (rmD d0) st m args below meth c Q nL y q lv (rest)) : WG (KC D cA cL h Z) p l e (rmD d0) st m args below meth c Q nL s pc lv (.ref (h b0) :: rest) := by
  exact cVN_V (K := KC D cA cL h Z) X b0 (n := 0) (k_X4_clear hZ l D cA cL s b0 hb0) (gt_c (gt_of 600 (by decide +kernel) rfl) gt_t) (hZ.1 st st.heap X.2.2.2 _ wX4_clear_X2) (gt_of 199 (by decide +kernel) rfl) (gt_of 599 (by decide +kernel) rfl) (gt_of 4 (by decide +kernel) rfl) ⟨hd1, hd2⟩ ⟨by decide, by decide, by decide +kernel⟩ (As := []) rfl hr (hb0).1 (fs := cF4 h b0 (s.1 b0) (s.2 b0)) (GC_4 (cA := cA) (cL := cL) hb0 _ _) rfl rfl d hq (k _ hs)
def C_X2_clear (s : ST) (b0 : Nat) : ST := Lt (C_X4_clear s (b0 + 1)) fun s1 => Lt (ups s1 b0 2 (0 : Int32)) fun s2 => s2
set_option maxRecDepth 100000 in
set_option maxHeartbeats 4000000 in
theorem k_X2_clear {h : Nat → Nat} {Z : State → Heap → Prop} {sa : Nat → Nat} (hZ : ZK h Z sa) (l : Launch) (D : va_G) (cA cL : ClassId) (s : ST) (b0 : Nat) (hb0 : isK 2 b0) : MV l (KC D cA cL h Z) 2 yX2_clear cX2_clear 1 none s [.ref (h b0)] (C_X2_clear s b0) := by
  refine met_v (by decide) (Nat.le_of_ble_eq_true rfl) ?_
  intro p e st m args below meth c Q X RI
  generalize hs : C_X2_clear s b0 = o at RI
  unfold C_X2_clear at hs
  refine g_aload_n X dX2_clear_0 (q := 1) rfl 0 rfl ?_
  refine cg_2_0 X dX2_clear_1 (q := 4) rfl hb0 lf_X2_14 ?_
  refine vc_X4_clear_X2 hZ X dX2_clear_4 (q := 7) rfl (sub_X2_lines hb0) (Nat.le_of_ble_eq_true rfl) (Nat.le_of_ble_eq_true rfl) (Nat.le_of_ble_eq_true rfl) hs (fun s1 hs => ?_)
  refine g_aload_n X dX2_clear_7 (q := 8) rfl 0 rfl ?_
  refine g_iconst X dX2_clear_8 (q := 9) rfl li_i0 ?_
  refine cp_2_2 X dX2_clear_9 (q := 12) rfl hb0 lf_X2_33 hs (fun s2 hs => ?_)
  exact RI _ 12 _ hs dX2_clear_12
theorem dX4_copy_0 : decode cX4_copy 0 = .ok (.aload_n 1, 1) := by decide +kernel
theorem dX4_copy_1 : decode cX4_copy 1 = .ok (.getfield 25, 3) := by decide +kernel
theorem dX4_copy_4 : decode cX4_copy 4 = .ok (.aload_n 0, 1) := by decide +kernel
theorem dX4_copy_5 : decode cX4_copy 5 = .ok (.getfield 15, 3) := by decide +kernel
theorem dX4_copy_8 : decode cX4_copy 8 = .ok (.invokestatic 32, 3) := by decide +kernel
theorem dX4_copy_11 : decode cX4_copy 11 = .ok (.istore_n 2, 1) := by decide +kernel
theorem dX4_copy_12 : decode cX4_copy 12 = .ok (.aload_n 1, 1) := by decide +kernel
theorem dX4_copy_13 : decode cX4_copy 13 = .ok (.getfield 21, 3) := by decide +kernel
theorem dX4_copy_16 : decode cX4_copy 16 = .ok (.iconst 0, 1) := by decide +kernel
theorem dX4_copy_17 : decode cX4_copy 17 = .ok (.aload_n 0, 1) := by decide +kernel
theorem dX4_copy_18 : decode cX4_copy 18 = .ok (.getfield 21, 3) := by decide +kernel
theorem dX4_copy_21 : decode cX4_copy 21 = .ok (.iconst 0, 1) := by decide +kernel
theorem dX4_copy_22 : decode cX4_copy 22 = .ok (.iload_n 2, 1) := by decide +kernel
theorem dX4_copy_23 : decode cX4_copy 23 = .ok (.iconst 4, 1) := by decide +kernel
theorem dX4_copy_24 : decode cX4_copy 24 = .ok (.imul, 1) := by decide +kernel
theorem dX4_copy_25 : decode cX4_copy 25 = .ok (.invokestatic 35, 3) := by decide +kernel
theorem dX4_copy_28 : decode cX4_copy 28 = .ok (.aload_n 0, 1) := by decide +kernel
theorem dX4_copy_29 : decode cX4_copy 29 = .ok (.iload_n 2, 1) := by decide +kernel
theorem dX4_copy_30 : decode cX4_copy 30 = .ok (.putfield 25, 3) := by decide +kernel
theorem dX4_copy_33 : decode cX4_copy 33 = .ok (.return_, 1) := by decide +kernel
def C_X4_copy (s : ST) (b0 : Nat) (x1 : Nat) : Option (ST) := Lt ((imn (s.1 x1 2) (s.1 b0 0))) fun y1 => Gcp s (x1 + 1) (lc (x1 + 1)) (b0 + 1) (lc (b0 + 1)) (0 : Int32) (0 : Int32) (y1 * (4 : Int32)) fun s1 => Lt (ups s1 b0 2 y1) fun s2 => some s2
set_option maxRecDepth 100000 in
set_option maxHeartbeats 4000000 in
theorem k_X4_copy {h : Nat → Nat} {Z : State → Heap → Prop} {sa : Nat → Nat} (hZ : ZK h Z sa) (l : Launch) (D : va_G) (cA cL : ClassId) (s : ST) (b0 : Nat) (x1 : Nat) (hb0 : isK 4 b0) (hx1 : isK 4 x1) {o : ST} (hs : C_X4_copy s b0 x1 = some o) : MV l (KC D cA cL h Z) 2 yX4_copy cX4_copy 3 none s [.ref (h b0), .ref (h x1)] o := by
  refine met_v (by decide) (Nat.le_of_ble_eq_true rfl) ?_
  intro p e st m args below meth c Q X RI
  unfold C_X4_copy at hs
  refine g_aload_n X dX4_copy_0 (q := 1) rfl 1 rfl ?_
  refine cg_4_2 X dX4_copy_1 (q := 4) rfl hx1 lf_X4_25 ?_
  refine g_aload_n X dX4_copy_4 (q := 5) rfl 0 rfl ?_
  refine cg_4_0 X dX4_copy_5 (q := 8) rfl hb0 lf_X4_15 ?_
  refine cm_min X dX4_copy_8 (q := 11) rfl ml_X4_32 (Nat.le_of_ble_eq_true rfl) (Nat.le_of_ble_eq_true rfl) (Nat.le_of_ble_eq_true rfl) ?_
  refine nmI hs (fun y1 hs => ?_)
  refine g_istore_n X dX4_copy_11 (q := 12) rfl (Nat.le_of_ble_eq_true rfl) (lv' := [(2, .int y1), (0, .ref (h b0)), (1, .ref (h x1))]) rfl ?_
  refine g_aload_n X dX4_copy_12 (q := 13) rfl 2 rfl ?_
  refine cg_4_1 X dX4_copy_13 (q := 16) rfl hx1 lf_X4_21 ?_
  refine g_iconst X dX4_copy_16 (q := 17) rfl li_i0 ?_
  refine g_aload_n X dX4_copy_17 (q := 18) rfl 1 rfl ?_
  refine cg_4_1 X dX4_copy_18 (q := 21) rfl hb0 lf_X4_21 ?_
  refine g_iconst X dX4_copy_21 (q := 22) rfl li_i0 ?_
  refine g_iload_n X dX4_copy_22 (q := 23) rfl 0 rfl ?_
  refine g_iconst X dX4_copy_23 (q := 24) rfl li_i4 ?_
  refine g_imul X dX4_copy_24 (q := 25) rfl ?_
  refine ca_copy X dX4_copy_25 (q := 28) rfl ml_X4_35 (x1 + 1) (b0 + 1) (sub_X4_numbers hx1) (sub_X4_numbers hb0) rfl rfl (Nat.le_of_ble_eq_true rfl) (Nat.le_of_ble_eq_true rfl) hs (fun s1 hs => ?_)
  refine g_aload_n X dX4_copy_28 (q := 29) rfl 1 rfl ?_
  refine g_iload_n X dX4_copy_29 (q := 30) rfl 0 rfl ?_
  refine cp_4_2 X dX4_copy_30 (q := 33) rfl hb0 lf_X4_25 hs (fun s2 hs => ?_)
  exact RI _ 33 _ (Option.some.inj hs) dX4_copy_33
theorem dX2_copy_0 : decode cX2_copy 0 = .ok (.aload_n 0, 1) := by decide +kernel
theorem dX2_copy_1 : decode cX2_copy 1 = .ok (.getfield 14, 3) := by decide +kernel
theorem dX2_copy_4 : decode cX2_copy 4 = .ok (.aload_n 1, 1) := by decide +kernel
theorem dX2_copy_5 : decode cX2_copy 5 = .ok (.getfield 14, 3) := by decide +kernel
theorem dX2_copy_8 : decode cX2_copy 8 = .ok (.invokevirtual 37, 3) := by decide +kernel
theorem dX2_copy_11 : decode cX2_copy 11 = .ok (.aload_n 1, 1) := by decide +kernel
theorem dX2_copy_12 : decode cX2_copy 12 = .ok (.getfield 20, 3) := by decide +kernel
theorem dX2_copy_15 : decode cX2_copy 15 = .ok (.iconst 0, 1) := by decide +kernel
theorem dX2_copy_16 : decode cX2_copy 16 = .ok (.aload_n 0, 1) := by decide +kernel
theorem dX2_copy_17 : decode cX2_copy 17 = .ok (.getfield 20, 3) := by decide +kernel
theorem dX2_copy_20 : decode cX2_copy 20 = .ok (.iconst 0, 1) := by decide +kernel
theorem dX2_copy_21 : decode cX2_copy 21 = .ok (.sipush 400, 3) := by decide +kernel
theorem dX2_copy_24 : decode cX2_copy 24 = .ok (.invokestatic 41, 3) := by decide +kernel
theorem dX2_copy_27 : decode cX2_copy 27 = .ok (.aload_n 0, 1) := by decide +kernel
theorem dX2_copy_28 : decode cX2_copy 28 = .ok (.aload_n 1, 1) := by decide +kernel
theorem dX2_copy_29 : decode cX2_copy 29 = .ok (.getfield 33, 3) := by decide +kernel
theorem dX2_copy_32 : decode cX2_copy 32 = .ok (.putfield 33, 3) := by decide +kernel
theorem dX2_copy_35 : decode cX2_copy 35 = .ok (.return_, 1) := by decide +kernel
theorem wX4_copy_X2 : Cond.methodLinkNest RX2 37 yX4_copy "StormSeeds" ∈ NW := nw_of 863 (by decide +kernel) rfl
theorem vc_X4_copy_X2 {p : Program} {l : Launch} {e : Env} {st : State} {m : MethodId} {args : Array Value} {below : List Frame} {meth : Method} {c : Code} {Q : State → Prop} {nL : Nat} {cc : ByteArray} {s : ST} {pc q : Nat} {lv : List (Nat × Value)} {rest : List Value} {D : va_G} {cA cL : ClassId} {h : Nat → Nat} {Z : State → Heap → Prop} {sa : Nat → Nat} (hZ : ZK h Z sa) {d0 : Nat} (X : Cx (KC D cA cL h Z) p st m args meth c cc nL RX2) {b0 : Nat} {x1 : Nat} (d : decode cc pc = .ok (.invokevirtual 37, 3)) (hq : pc + 3 = q) (hb0 : isK 4 b0) (hx1 : isK 4 x1) (hd1 : 2 + 1 ≤ d0) (hd2 : 8 + (3 + 11) + 100 * 2 ≤ 100 * d0) (hr : (rest.map fun v => v.category).sum ≤ 8) {B : Type} {f : ST → Option B} {r : B} (hs : Bd (C_X4_copy s b0 x1) f = some r) (k : ∀ y, f y = some r → WG (KC D cA cL h Z) p l e (rmD d0) st m args below meth c Q nL y q lv (rest)) : WG (KC D cA cL h Z) p l e (rmD d0) st m args below meth c Q nL s pc lv (.ref (h x1) :: .ref (h b0) :: rest) := by
  obtain ⟨v, hv, hs⟩ := Bd_e hs
  exact cVN_V (K := KC D cA cL h Z) X b0 (n := 1) (k_X4_copy hZ l D cA cL s b0 x1 hb0 hx1 hv) (gt_c (gt_of 803 (by decide +kernel) rfl) gt_t) (hZ.1 st st.heap X.2.2.2 _ wX4_copy_X2) (gt_of 199 (by decide +kernel) rfl) (gt_of 802 (by decide +kernel) rfl) (gt_of 34 (by decide +kernel) rfl) ⟨hd1, hd2⟩ ⟨by decide, by decide, by decide +kernel⟩ (As := [.ref (h x1)]) rfl hr (hb0).1 (fs := cF4 h b0 (s.1 b0) (s.2 b0)) (GC_4 (cA := cA) (cL := cL) hb0 _ _) rfl rfl d hq (k _ hs)
def C_X2_copy (s : ST) (b0 : Nat) (x1 : Nat) : Option (ST) := Bd (C_X4_copy s (b0 + 1) (x1 + 1)) fun s1 => Gcp s1 (x1 + 3) 400 (b0 + 3) 400 (0 : Int32) (0 : Int32) (400 : Int32) fun s2 => Lt (ups s2 b0 2 (s2.1 x1 2)) fun s3 => some s3
set_option maxRecDepth 100000 in
set_option maxHeartbeats 4000000 in
theorem k_X2_copy {h : Nat → Nat} {Z : State → Heap → Prop} {sa : Nat → Nat} (hZ : ZK h Z sa) (l : Launch) (D : va_G) (cA cL : ClassId) (s : ST) (b0 : Nat) (x1 : Nat) (hb0 : isK 2 b0) (hx1 : isK 2 x1) {o : ST} (hs : C_X2_copy s b0 x1 = some o) : MV l (KC D cA cL h Z) 3 yX2_copy cX2_copy 2 none s [.ref (h b0), .ref (h x1)] o := by
  refine met_v (by decide) (Nat.le_of_ble_eq_true rfl) ?_
  intro p e st m args below meth c Q X RI
  unfold C_X2_copy at hs
  refine g_aload_n X dX2_copy_0 (q := 1) rfl 0 rfl ?_
  refine cg_2_0 X dX2_copy_1 (q := 4) rfl hb0 lf_X2_14 ?_
  refine g_aload_n X dX2_copy_4 (q := 5) rfl 1 rfl ?_
  refine cg_2_0 X dX2_copy_5 (q := 8) rfl hx1 lf_X2_14 ?_
  refine vc_X4_copy_X2 hZ X dX2_copy_8 (q := 11) rfl (sub_X2_lines hb0) (sub_X2_lines hx1) (Nat.le_of_ble_eq_true rfl) (Nat.le_of_ble_eq_true rfl) (Nat.le_of_ble_eq_true rfl) hs (fun s1 hs => ?_)
  refine g_aload_n X dX2_copy_11 (q := 12) rfl 1 rfl ?_
  refine cg_2_1 X dX2_copy_12 (q := 15) rfl hx1 lf_X2_20 ?_
  refine g_iconst X dX2_copy_15 (q := 16) rfl li_i0 ?_
  refine g_aload_n X dX2_copy_16 (q := 17) rfl 0 rfl ?_
  refine cg_2_1 X dX2_copy_17 (q := 20) rfl hb0 lf_X2_20 ?_
  refine g_iconst X dX2_copy_20 (q := 21) rfl li_i0 ?_
  refine g_sipush X dX2_copy_21 (q := 24) rfl li_s400 ?_
  refine ca_copy X dX2_copy_24 (q := 27) rfl ml_X2_41 (x1 + 3) (b0 + 3) (sub_X2_code hx1) (sub_X2_code hb0) (len_X2_code hx1) (len_X2_code hb0) (Nat.le_of_ble_eq_true rfl) (Nat.le_of_ble_eq_true rfl) hs (fun s2 hs => ?_)
  refine g_aload_n X dX2_copy_27 (q := 28) rfl 0 rfl ?_
  refine g_aload_n X dX2_copy_28 (q := 29) rfl 1 rfl ?_
  refine cg_2_2 X dX2_copy_29 (q := 32) rfl hx1 lf_X2_33 ?_
  refine cp_2_2 X dX2_copy_32 (q := 35) rfl hb0 lf_X2_33 hs (fun s3 hs => ?_)
  exact RI _ 35 _ (Option.some.inj hs) dX2_copy_35
theorem dX2_emit_0 : decode cX2_emit 0 = .ok (.aload_n 0, 1) := by decide +kernel
theorem dX2_emit_1 : decode cX2_emit 1 = .ok (.getfield 33, 3) := by decide +kernel
theorem dX2_emit_4 : decode cX2_emit 4 = .ok (.sipush 400, 3) := by decide +kernel
theorem dX2_emit_7 : decode cX2_emit 7 = .ok (.if_icmp .ge 23, 3) := by decide +kernel
theorem dX2_emit_10 : decode cX2_emit 10 = .ok (.aload_n 0, 1) := by decide +kernel
theorem dX2_emit_11 : decode cX2_emit 11 = .ok (.getfield 20, 3) := by decide +kernel
theorem dX2_emit_14 : decode cX2_emit 14 = .ok (.aload_n 0, 1) := by decide +kernel
theorem dX2_emit_15 : decode cX2_emit 15 = .ok (.getfield 33, 3) := by decide +kernel
theorem dX2_emit_18 : decode cX2_emit 18 = .ok (.iload_n 1, 1) := by decide +kernel
theorem dX2_emit_19 : decode cX2_emit 19 = .ok (.iastore, 1) := by decide +kernel
theorem dX2_emit_20 : decode cX2_emit 20 = .ok (.aload_n 0, 1) := by decide +kernel
theorem dX2_emit_21 : decode cX2_emit 21 = .ok (.dup, 1) := by decide +kernel
theorem dX2_emit_22 : decode cX2_emit 22 = .ok (.getfield 33, 3) := by decide +kernel
theorem dX2_emit_25 : decode cX2_emit 25 = .ok (.iconst 1, 1) := by decide +kernel
theorem dX2_emit_26 : decode cX2_emit 26 = .ok (.iadd, 1) := by decide +kernel
theorem dX2_emit_27 : decode cX2_emit 27 = .ok (.putfield 33, 3) := by decide +kernel
theorem dX2_emit_30 : decode cX2_emit 30 = .ok (.return_, 1) := by decide +kernel
def C_X2_emit (s : ST) (x1 : Int32) : Option (ST) := if (400 : Int32) ≤ (s.1 60 2) then (some s) else (Gs s 63 400 (s.1 60 2) x1 fun s1 => Lt (ups s1 60 2 ((s1.1 60 2) + (1 : Int32))) fun s2 => some s2)
set_option maxRecDepth 100000 in
set_option maxHeartbeats 4000000 in
theorem k_X2_emit {h : Nat → Nat} {Z : State → Heap → Prop} {sa : Nat → Nat} (hZ : ZK h Z sa) (l : Launch) (D : va_G) (cA cL : ClassId) (s : ST) (x1 : Int32) {o : ST} (hs : C_X2_emit s x1 = some o) : MV l (KC D cA cL h Z) 1 yX2_emit cX2_emit 2 none s [.ref (h 60), .int x1] o := by
  refine met_v (by decide) (Nat.le_of_ble_eq_true rfl) ?_
  intro p e st m args below meth c Q X RI
  unfold C_X2_emit at hs
  refine g_aload_n X dX2_emit_0 (q := 1) rfl 0 rfl ?_
  refine cg_2_2 X dX2_emit_1 (q := 4) rfl sh_60 lf_X2_33 ?_
  refine g_sipush X dX2_emit_4 (q := 7) rfl li_s400 ?_
  refine g_icmp_ge X dX2_emit_7 (q := 10) rfl (tgt := 30) (by decide) hs ?_ ?_
  · intro hs
    exact RI _ 30 _ (Option.some.inj hs) dX2_emit_30
  · intro hs
    refine g_aload_n X dX2_emit_10 (q := 11) rfl 0 rfl ?_
    refine cg_2_1 X dX2_emit_11 (q := 14) rfl sh_60 lf_X2_20 ?_
    refine g_aload_n X dX2_emit_14 (q := 15) rfl 0 rfl ?_
    refine cg_2_2 X dX2_emit_15 (q := 18) rfl sh_60 lf_X2_33 ?_
    refine g_iload_n X dX2_emit_18 (q := 19) rfl 1 rfl ?_
    refine ca_st X dX2_emit_19 (q := 20) rfl 63 sh_63 rfl hs (fun s1 hs => ?_)
    refine g_aload_n X dX2_emit_20 (q := 21) rfl 0 rfl ?_
    refine g_dup X dX2_emit_21 (q := 22) rfl rfl ?_
    refine cg_2_2 X dX2_emit_22 (q := 25) rfl sh_60 lf_X2_33 ?_
    refine g_iconst X dX2_emit_25 (q := 26) rfl li_i1 ?_
    refine g_iadd X dX2_emit_26 (q := 27) rfl ?_
    refine cp_2_2 X dX2_emit_27 (q := 30) rfl sh_60 lf_X2_33 hs (fun s2 hs => ?_)
    exact RI _ 30 _ (Option.some.inj hs) dX2_emit_30
theorem dX9_beside_0 : decode cX9_beside 0 = .ok (.iload_n 2, 1) := by decide +kernel
theorem dX9_beside_1 : decode cX9_beside 1 = .ok (.ifCond .lt 9, 3) := by decide +kernel
theorem dX9_beside_4 : decode cX9_beside 4 = .ok (.iload_n 2, 1) := by decide +kernel
theorem dX9_beside_5 : decode cX9_beside 5 = .ok (.bipush 64, 2) := by decide +kernel
theorem dX9_beside_7 : decode cX9_beside 7 = .ok (.if_icmp .lt 5, 3) := by decide +kernel
theorem dX9_beside_10 : decode cX9_beside 10 = .ok (.iconst 0, 1) := by decide +kernel
theorem dX9_beside_11 : decode cX9_beside 11 = .ok (.ireturn, 1) := by decide +kernel
theorem dX9_beside_12 : decode cX9_beside 12 = .ok (.lconst 1, 1) := by decide +kernel
theorem dX9_beside_13 : decode cX9_beside 13 = .ok (.iload_n 2, 1) := by decide +kernel
theorem dX9_beside_14 : decode cX9_beside 14 = .ok (.lshl, 1) := by decide +kernel
theorem dX9_beside_15 : decode cX9_beside 15 = .ok (.lstore_n 3, 1) := by decide +kernel
theorem dX9_beside_16 : decode cX9_beside 16 = .ok (.lload_n 0, 1) := by decide +kernel
theorem dX9_beside_17 : decode cX9_beside 17 = .ok (.lload_n 3, 1) := by decide +kernel
theorem dX9_beside_18 : decode cX9_beside 18 = .ok (.iconst 1, 1) := by decide +kernel
theorem dX9_beside_19 : decode cX9_beside 19 = .ok (.lshl, 1) := by decide +kernel
theorem dX9_beside_20 : decode cX9_beside 20 = .ok (.lload_n 3, 1) := by decide +kernel
theorem dX9_beside_21 : decode cX9_beside 21 = .ok (.iconst 1, 1) := by decide +kernel
theorem dX9_beside_22 : decode cX9_beside 22 = .ok (.lushr, 1) := by decide +kernel
theorem dX9_beside_23 : decode cX9_beside 23 = .ok (.lor, 1) := by decide +kernel
theorem dX9_beside_24 : decode cX9_beside 24 = .ok (.lload_n 3, 1) := by decide +kernel
theorem dX9_beside_25 : decode cX9_beside 25 = .ok (.bipush 8, 2) := by decide +kernel
theorem dX9_beside_27 : decode cX9_beside 27 = .ok (.lshl, 1) := by decide +kernel
theorem dX9_beside_28 : decode cX9_beside 28 = .ok (.lor, 1) := by decide +kernel
theorem dX9_beside_29 : decode cX9_beside 29 = .ok (.lload_n 3, 1) := by decide +kernel
theorem dX9_beside_30 : decode cX9_beside 30 = .ok (.bipush 8, 2) := by decide +kernel
theorem dX9_beside_32 : decode cX9_beside 32 = .ok (.lushr, 1) := by decide +kernel
theorem dX9_beside_33 : decode cX9_beside 33 = .ok (.lor, 1) := by decide +kernel
theorem dX9_beside_34 : decode cX9_beside 34 = .ok (.land, 1) := by decide +kernel
theorem dX9_beside_35 : decode cX9_beside 35 = .ok (.invokestatic 282, 3) := by decide +kernel
theorem dX9_beside_38 : decode cX9_beside 38 = .ok (.ireturn, 1) := by decide +kernel
theorem wJ13_bitCount_95d88_X9 : GoodIn GT (va_wsS RX9 282 yJ13_bitCount_95d88 (.code yJ13_bitCount_95d88 cJ13_bitCount_95d88 2 (some .int) :: GT)) := gt_c (gt_of 1008 (by decide +kernel) rfl) (gt_c (gt_of 1009 (by decide +kernel) rfl) (gt_c (gt_of 214 (by decide +kernel) rfl) (gt_c (gt_of 1010 (by decide +kernel) rfl) gt_t)))
theorem vc_J13_bitCount_95d88_X9 {p : Program} {l : Launch} {e : Env} {st : State} {m : MethodId} {args : Array Value} {below : List Frame} {meth : Method} {c : Code} {Q : State → Prop} {nL : Nat} {cc : ByteArray} {s : ST} {pc q : Nat} {lv : List (Nat × Value)} {rest : List Value} {D : va_G} {cA cL : ClassId} {h : Nat → Nat} {Z : State → Heap → Prop} {sa : Nat → Nat} (hZ : ZK h Z sa) {d0 : Nat} (X : Cx (KC D cA cL h Z) p st m args meth c cc nL RX9) {x1 : Int64} (d : decode cc pc = .ok (.invokestatic 282, 3)) (hq : pc + 3 = q) (hd1 : 1 + 1 ≤ d0) (hd2 : 8 + (2 + 11) + 100 * 1 ≤ 100 * d0) (hr : (rest.map fun v => v.category).sum ≤ 8) {B : Type} {f : Int32 → B} {r : B} (hs : Lt (C_J13_bitCount_95d88 s x1) f = r) (k : ∀ y, f y = r → WG (KC D cA cL h Z) p l e (rmD d0) st m args below meth c Q nL s q lv (.int y :: rest)) : WG (KC D cA cL h Z) p l e (rmD d0) st m args below meth c Q nL s pc lv (.long x1 :: rest) := by
  exact cS_I (K := KC D cA cL h Z) X (n := 1) (k_J13_bitCount_95d88 hZ l D cA cL s x1) wJ13_bitCount_95d88_X9 ⟨hd1, hd2⟩ ⟨by decide, by decide, by decide +kernel⟩ (As := [.long x1]) rfl hr rfl d hq (k _ hs)
def C_X9_beside (s : ST) (x1 : Int64) (x2 : Int32) : Int32 := if x2 < 0 then ((0 : Int32)) else (if x2 < (64 : Int32) then (Lt (((1 : Int64) <<< (x2.toInt64 &&& 63))) fun y1 => Lt (C_J13_bitCount_95d88 s (x1 &&& ((((y1 <<< ((1 : Int32).toInt64 &&& 63)) ||| (lush y1 (1 : Int32))) ||| (y1 <<< ((8 : Int32).toInt64 &&& 63))) ||| (lush y1 (8 : Int32))))) fun y2 => y2) else ((0 : Int32)))
set_option maxRecDepth 100000 in
set_option maxHeartbeats 4000000 in
theorem k_X9_beside {h : Nat → Nat} {Z : State → Heap → Prop} {sa : Nat → Nat} (hZ : ZK h Z sa) (l : Launch) (D : va_G) (cA cL : ClassId) (s : ST) (x1 : Int64) (x2 : Int32) : MI l (KC D cA cL h Z) 2 yX9_beside cX9_beside 5 (some .int) s [.long x1, .int x2] (C_X9_beside s x1 x2) s := by
  refine met_i (by decide) (Nat.le_of_ble_eq_true rfl) ?_
  intro p e st m args below meth c Q X RI
  generalize hs : C_X9_beside s x1 x2 = o at RI
  unfold C_X9_beside at hs
  refine g_iload_n X dX9_beside_0 (q := 1) rfl 1 rfl ?_
  refine g_if_lt X dX9_beside_1 (q := 4) rfl (tgt := 10) (by decide) hs ?_ ?_
  · intro hs
    refine g_iconst X dX9_beside_10 (q := 11) rfl li_i0 ?_
    exact RI _ 11 _ _ _ rfl rfl hs dX9_beside_11
  · intro hs
    refine g_iload_n X dX9_beside_4 (q := 5) rfl 1 rfl ?_
    refine g_bipush X dX9_beside_5 (q := 7) rfl li_b64 ?_
    refine g_icmp_lt X dX9_beside_7 (q := 10) rfl (tgt := 12) (by decide) hs ?_ ?_
    · intro hs
      refine g_lconst X dX9_beside_12 (q := 13) rfl li_l1 ?_
      refine g_iload_n X dX9_beside_13 (q := 14) rfl 1 rfl ?_
      refine g_lshl X dX9_beside_14 (q := 15) rfl ?_
      refine nmL hs (fun y1 hs => ?_)
      refine g_lstore_n X dX9_beside_15 (q := 16) rfl (Nat.le_of_ble_eq_true rfl) (lv' := [(3, .long y1), (0, .long x1), (2, .int x2)]) rfl ?_
      refine g_lload_n X dX9_beside_16 (q := 17) rfl 1 rfl ?_
      refine g_lload_n X dX9_beside_17 (q := 18) rfl 0 rfl ?_
      refine g_iconst X dX9_beside_18 (q := 19) rfl li_i1 ?_
      refine g_lshl X dX9_beside_19 (q := 20) rfl ?_
      refine g_lload_n X dX9_beside_20 (q := 21) rfl 0 rfl ?_
      refine g_iconst X dX9_beside_21 (q := 22) rfl li_i1 ?_
      refine g_lushr X dX9_beside_22 (q := 23) rfl ?_
      refine g_lor X dX9_beside_23 (q := 24) rfl ?_
      refine g_lload_n X dX9_beside_24 (q := 25) rfl 0 rfl ?_
      refine g_bipush X dX9_beside_25 (q := 27) rfl li_b8 ?_
      refine g_lshl X dX9_beside_27 (q := 28) rfl ?_
      refine g_lor X dX9_beside_28 (q := 29) rfl ?_
      refine g_lload_n X dX9_beside_29 (q := 30) rfl 0 rfl ?_
      refine g_bipush X dX9_beside_30 (q := 32) rfl li_b8 ?_
      refine g_lushr X dX9_beside_32 (q := 33) rfl ?_
      refine g_lor X dX9_beside_33 (q := 34) rfl ?_
      refine g_land X dX9_beside_34 (q := 35) rfl ?_
      refine vc_J13_bitCount_95d88_X9 hZ X dX9_beside_35 (q := 38) rfl (Nat.le_of_ble_eq_true rfl) (Nat.le_of_ble_eq_true rfl) (Nat.le_of_ble_eq_true rfl) hs (fun y2 hs => ?_)
      exact RI _ 38 _ _ _ rfl rfl hs dX9_beside_38
    · intro hs
      refine g_iconst X dX9_beside_10 (q := 11) rfl li_i0 ?_
      exact RI _ 11 _ _ _ rfl rfl hs dX9_beside_11
theorem dX2_observe_0 : decode cX2_observe 0 = .ok (.aload_n 1, 1) := by decide +kernel
theorem dX2_observe_1 : decode cX2_observe 1 = .ok (.iload_n 3, 1) := by decide +kernel
theorem dX2_observe_2 : decode cX2_observe 2 = .ok (.invokevirtual 69, 3) := by decide +kernel
theorem dX2_observe_5 : decode cX2_observe 5 = .ok (.istore 5, 2) := by decide +kernel
theorem dX2_observe_7 : decode cX2_observe 7 = .ok (.aload_n 0, 1) := by decide +kernel
theorem dX2_observe_8 : decode cX2_observe 8 = .ok (.getfield 24, 3) := by decide +kernel
theorem dX2_observe_11 : decode cX2_observe 11 = .ok (.iconst 0, 1) := by decide +kernel
theorem dX2_observe_12 : decode cX2_observe 12 = .ok (.iload_n 2, 1) := by decide +kernel
theorem dX2_observe_13 : decode cX2_observe 13 = .ok (.iastore, 1) := by decide +kernel
theorem dX2_observe_14 : decode cX2_observe 14 = .ok (.aload_n 0, 1) := by decide +kernel
theorem dX2_observe_15 : decode cX2_observe 15 = .ok (.getfield 24, 3) := by decide +kernel
theorem dX2_observe_18 : decode cX2_observe 18 = .ok (.iconst 1, 1) := by decide +kernel
theorem dX2_observe_19 : decode cX2_observe 19 = .ok (.iload 5, 2) := by decide +kernel
theorem dX2_observe_21 : decode cX2_observe 21 = .ok (.ifCond .eq 12, 3) := by decide +kernel
theorem dX2_observe_24 : decode cX2_observe 24 = .ok (.aload_n 1, 1) := by decide +kernel
theorem dX2_observe_25 : decode cX2_observe 25 = .ok (.getfield 75, 3) := by decide +kernel
theorem dX2_observe_28 : decode cX2_observe 28 = .ok (.iload_n 3, 1) := by decide +kernel
theorem dX2_observe_29 : decode cX2_observe 29 = .ok (.iaload, 1) := by decide +kernel
theorem dX2_observe_30 : decode cX2_observe 30 = .ok (.goto 4, 3) := by decide +kernel
theorem dX2_observe_33 : decode cX2_observe 33 = .ok (.iconst 0, 1) := by decide +kernel
theorem dX2_observe_34 : decode cX2_observe 34 = .ok (.iastore, 1) := by decide +kernel
theorem dX2_observe_35 : decode cX2_observe 35 = .ok (.aload_n 0, 1) := by decide +kernel
theorem dX2_observe_36 : decode cX2_observe 36 = .ok (.getfield 24, 3) := by decide +kernel
theorem dX2_observe_39 : decode cX2_observe 39 = .ok (.iconst 2, 1) := by decide +kernel
theorem dX2_observe_40 : decode cX2_observe 40 = .ok (.iload 4, 2) := by decide +kernel
theorem dX2_observe_42 : decode cX2_observe 42 = .ok (.iastore, 1) := by decide +kernel
theorem dX2_observe_43 : decode cX2_observe 43 = .ok (.aload_n 0, 1) := by decide +kernel
theorem dX2_observe_44 : decode cX2_observe 44 = .ok (.getfield 24, 3) := by decide +kernel
theorem dX2_observe_47 : decode cX2_observe 47 = .ok (.iconst 3, 1) := by decide +kernel
theorem dX2_observe_48 : decode cX2_observe 48 = .ok (.aload_n 1, 1) := by decide +kernel
theorem dX2_observe_49 : decode cX2_observe 49 = .ok (.getfield 78, 3) := by decide +kernel
theorem dX2_observe_52 : decode cX2_observe 52 = .ok (.iload_n 3, 1) := by decide +kernel
theorem dX2_observe_53 : decode cX2_observe 53 = .ok (.invokestatic 82, 3) := by decide +kernel
theorem dX2_observe_56 : decode cX2_observe 56 = .ok (.iastore, 1) := by decide +kernel
theorem dX2_observe_57 : decode cX2_observe 57 = .ok (.aload_n 0, 1) := by decide +kernel
theorem dX2_observe_58 : decode cX2_observe 58 = .ok (.getfield 24, 3) := by decide +kernel
theorem dX2_observe_61 : decode cX2_observe 61 = .ok (.iconst 4, 1) := by decide +kernel
theorem dX2_observe_62 : decode cX2_observe 62 = .ok (.aload_n 1, 1) := by decide +kernel
theorem dX2_observe_63 : decode cX2_observe 63 = .ok (.getfield 86, 3) := by decide +kernel
theorem dX2_observe_66 : decode cX2_observe 66 = .ok (.iastore, 1) := by decide +kernel
theorem dX2_observe_67 : decode cX2_observe 67 = .ok (.aload_n 0, 1) := by decide +kernel
theorem dX2_observe_68 : decode cX2_observe 68 = .ok (.getfield 24, 3) := by decide +kernel
theorem dX2_observe_71 : decode cX2_observe 71 = .ok (.iconst 5, 1) := by decide +kernel
theorem dX2_observe_72 : decode cX2_observe 72 = .ok (.aload_n 1, 1) := by decide +kernel
theorem dX2_observe_73 : decode cX2_observe 73 = .ok (.iload_n 3, 1) := by decide +kernel
theorem dX2_observe_74 : decode cX2_observe 74 = .ok (.invokevirtual 89, 3) := by decide +kernel
theorem dX2_observe_77 : decode cX2_observe 77 = .ok (.ifCond .eq 7, 3) := by decide +kernel
theorem dX2_observe_80 : decode cX2_observe 80 = .ok (.iconst 1, 1) := by decide +kernel
theorem dX2_observe_81 : decode cX2_observe 81 = .ok (.goto 4, 3) := by decide +kernel
theorem dX2_observe_84 : decode cX2_observe 84 = .ok (.iconst 0, 1) := by decide +kernel
theorem dX2_observe_85 : decode cX2_observe 85 = .ok (.iastore, 1) := by decide +kernel
theorem dX2_observe_86 : decode cX2_observe 86 = .ok (.aload_n 0, 1) := by decide +kernel
theorem dX2_observe_87 : decode cX2_observe 87 = .ok (.getfield 24, 3) := by decide +kernel
theorem dX2_observe_90 : decode cX2_observe 90 = .ok (.bipush 6, 2) := by decide +kernel
theorem dX2_observe_92 : decode cX2_observe 92 = .ok (.aload_n 1, 1) := by decide +kernel
theorem dX2_observe_93 : decode cX2_observe 93 = .ok (.getfield 92, 3) := by decide +kernel
theorem dX2_observe_96 : decode cX2_observe 96 = .ok (.iload_n 3, 1) := by decide +kernel
theorem dX2_observe_97 : decode cX2_observe 97 = .ok (.invokestatic 82, 3) := by decide +kernel
theorem dX2_observe_100 : decode cX2_observe 100 = .ok (.iastore, 1) := by decide +kernel
theorem dX2_observe_101 : decode cX2_observe 101 = .ok (.aload_n 0, 1) := by decide +kernel
theorem dX2_observe_102 : decode cX2_observe 102 = .ok (.getfield 24, 3) := by decide +kernel
theorem dX2_observe_105 : decode cX2_observe 105 = .ok (.bipush 7, 2) := by decide +kernel
theorem dX2_observe_107 : decode cX2_observe 107 = .ok (.iload 5, 2) := by decide +kernel
theorem dX2_observe_109 : decode cX2_observe 109 = .ok (.ifCond .eq 23, 3) := by decide +kernel
theorem dX2_observe_112 : decode cX2_observe 112 = .ok (.aload_n 1, 1) := by decide +kernel
theorem dX2_observe_113 : decode cX2_observe 113 = .ok (.getfield 78, 3) := by decide +kernel
theorem dX2_observe_116 : decode cX2_observe 116 = .ok (.iload_n 3, 1) := by decide +kernel
theorem dX2_observe_117 : decode cX2_observe 117 = .ok (.invokestatic 95, 3) := by decide +kernel
theorem dX2_observe_120 : decode cX2_observe 120 = .ok (.ifCond .eq 12, 3) := by decide +kernel
theorem dX2_observe_123 : decode cX2_observe 123 = .ok (.aload_n 1, 1) := by decide +kernel
theorem dX2_observe_124 : decode cX2_observe 124 = .ok (.getfield 99, 3) := by decide +kernel
theorem dX2_observe_127 : decode cX2_observe 127 = .ok (.iload_n 3, 1) := by decide +kernel
theorem dX2_observe_128 : decode cX2_observe 128 = .ok (.iaload, 1) := by decide +kernel
theorem dX2_observe_129 : decode cX2_observe 129 = .ok (.goto 4, 3) := by decide +kernel
theorem dX2_observe_132 : decode cX2_observe 132 = .ok (.iconst 0, 1) := by decide +kernel
theorem dX2_observe_133 : decode cX2_observe 133 = .ok (.iastore, 1) := by decide +kernel
theorem dX2_observe_134 : decode cX2_observe 134 = .ok (.return_, 1) := by decide +kernel
theorem wX1_isCell_X2 : Cond.methodLinkNest RX2 69 yX1_isCell "StormSeeds" ∈ NW := nw_of 1004 (by decide +kernel) rfl
theorem vc_X1_isCell_X2 {p : Program} {l : Launch} {e : Env} {st : State} {m : MethodId} {args : Array Value} {below : List Frame} {meth : Method} {c : Code} {Q : State → Prop} {nL : Nat} {cc : ByteArray} {s : ST} {pc q : Nat} {lv : List (Nat × Value)} {rest : List Value} {D : va_G} {cA cL : ClassId} {h : Nat → Nat} {Z : State → Heap → Prop} {sa : Nat → Nat} (hZ : ZK h Z sa) {d0 : Nat} (X : Cx (KC D cA cL h Z) p st m args meth c cc nL RX2) {b0 : Nat} {x1 : Int32} (d : decode cc pc = .ok (.invokevirtual 69, 3)) (hq : pc + 3 = q) (hb0 : isK 1 b0) (hd1 : 1 + 1 ≤ d0) (hd2 : 8 + (2 + 11) + 100 * 1 ≤ 100 * d0) (hr : (rest.map fun v => v.category).sum ≤ 8) {B : Type} {f : Int32 → B} {r : B} (hs : Lt (C_X1_isCell s b0 x1) f = r) (k : ∀ y, f y = r → WG (KC D cA cL h Z) p l e (rmD d0) st m args below meth c Q nL s q lv (.int y :: rest)) : WG (KC D cA cL h Z) p l e (rmD d0) st m args below meth c Q nL s pc lv (.int x1 :: .ref (h b0) :: rest) := by
  exact cVN_I (K := KC D cA cL h Z) X b0 (n := 1) (k_X1_isCell hZ l D cA cL s b0 x1 hb0) (gt_c (gt_of 623 (by decide +kernel) rfl) gt_t) (hZ.1 st st.heap X.2.2.2 _ wX1_isCell_X2) (gt_of 197 (by decide +kernel) rfl) (gt_of 622 (by decide +kernel) rfl) (gt_of 8 (by decide +kernel) rfl) ⟨hd1, hd2⟩ ⟨by decide, by decide, by decide +kernel⟩ (As := [.int x1]) rfl hr (hb0).1 (fs := cF1 h b0 (s.1 b0) (s.2 b0)) (GC_1 (cA := cA) (cL := cL) hb0 _ _) rfl rfl d hq (k _ hs)
theorem wX1_isEdge_X2 : Cond.methodLinkNest RX2 89 yX1_isEdge "StormSeeds" ∈ NW := nw_of 1014 (by decide +kernel) rfl
theorem vc_X1_isEdge_X2 {p : Program} {l : Launch} {e : Env} {st : State} {m : MethodId} {args : Array Value} {below : List Frame} {meth : Method} {c : Code} {Q : State → Prop} {nL : Nat} {cc : ByteArray} {s : ST} {pc q : Nat} {lv : List (Nat × Value)} {rest : List Value} {D : va_G} {cA cL : ClassId} {h : Nat → Nat} {Z : State → Heap → Prop} {sa : Nat → Nat} (hZ : ZK h Z sa) {d0 : Nat} (X : Cx (KC D cA cL h Z) p st m args meth c cc nL RX2) {b0 : Nat} {x1 : Int32} (d : decode cc pc = .ok (.invokevirtual 89, 3)) (hq : pc + 3 = q) (hb0 : isK 1 b0) (hd1 : 1 + 1 ≤ d0) (hd2 : 8 + (4 + 11) + 100 * 1 ≤ 100 * d0) (hr : (rest.map fun v => v.category).sum ≤ 8) {B : Type} {f : Int32 → B} {r : B} (hs : Lt (C_X1_isEdge s b0 x1) f = r) (k : ∀ y, f y = r → WG (KC D cA cL h Z) p l e (rmD d0) st m args below meth c Q nL s q lv (.int y :: rest)) : WG (KC D cA cL h Z) p l e (rmD d0) st m args below meth c Q nL s pc lv (.int x1 :: .ref (h b0) :: rest) := by
  exact cVN_I (K := KC D cA cL h Z) X b0 (n := 1) (k_X1_isEdge hZ l D cA cL s b0 x1 hb0) (gt_c (gt_of 1017 (by decide +kernel) rfl) gt_t) (hZ.1 st st.heap X.2.2.2 _ wX1_isEdge_X2) (gt_of 197 (by decide +kernel) rfl) (gt_of 1016 (by decide +kernel) rfl) (gt_of 66 (by decide +kernel) rfl) ⟨hd1, hd2⟩ ⟨by decide, by decide, by decide +kernel⟩ (As := [.int x1]) rfl hr (hb0).1 (fs := cF1 h b0 (s.1 b0) (s.2 b0)) (GC_1 (cA := cA) (cL := cL) hb0 _ _) rfl rfl d hq (k _ hs)
theorem wX9_beside_X2 : Cond.methodLinkNest RX2 82 yX9_beside "StormSeeds" ∈ NW := nw_of 1005 (by decide +kernel) rfl
theorem vc_X9_beside_X2 {p : Program} {l : Launch} {e : Env} {st : State} {m : MethodId} {args : Array Value} {below : List Frame} {meth : Method} {c : Code} {Q : State → Prop} {nL : Nat} {cc : ByteArray} {s : ST} {pc q : Nat} {lv : List (Nat × Value)} {rest : List Value} {D : va_G} {cA cL : ClassId} {h : Nat → Nat} {Z : State → Heap → Prop} {sa : Nat → Nat} (hZ : ZK h Z sa) {d0 : Nat} (X : Cx (KC D cA cL h Z) p st m args meth c cc nL RX2) {x1 : Int64} {x2 : Int32} (d : decode cc pc = .ok (.invokestatic 82, 3)) (hq : pc + 3 = q) (hd1 : 2 + 1 ≤ d0) (hd2 : 8 + (5 + 11) + 100 * 2 ≤ 100 * d0) (hr : (rest.map fun v => v.category).sum ≤ 8) {B : Type} {f : Int32 → B} {r : B} (hs : Lt (C_X9_beside s x1 x2) f = r) (k : ∀ y, f y = r → WG (KC D cA cL h Z) p l e (rmD d0) st m args below meth c Q nL s q lv (.int y :: rest)) : WG (KC D cA cL h Z) p l e (rmD d0) st m args below meth c Q nL s pc lv (.int x2 :: .long x1 :: rest) := by
  exact cSN_I (K := KC D cA cL h Z) X (n := 2) (k_X9_beside hZ l D cA cL s x1 x2) (gt_c (gt_of 1007 (by decide +kernel) rfl) gt_t) (hZ.1 st st.heap X.2.2.2 _ wX9_beside_X2) (gt_of 196 (by decide +kernel) rfl) (gt_of 1006 (by decide +kernel) rfl) ⟨hd1, hd2⟩ ⟨by decide, by decide, by decide +kernel⟩ (As := [.long x1, .int x2]) rfl hr rfl d hq (k _ hs)
theorem wX9_isIn_X2 : Cond.methodLinkNest RX2 95 yX9_isIn "StormSeeds" ∈ NW := nw_of 1018 (by decide +kernel) rfl
theorem vc_X9_isIn_X2 {p : Program} {l : Launch} {e : Env} {st : State} {m : MethodId} {args : Array Value} {below : List Frame} {meth : Method} {c : Code} {Q : State → Prop} {nL : Nat} {cc : ByteArray} {s : ST} {pc q : Nat} {lv : List (Nat × Value)} {rest : List Value} {D : va_G} {cA cL : ClassId} {h : Nat → Nat} {Z : State → Heap → Prop} {sa : Nat → Nat} (hZ : ZK h Z sa) {d0 : Nat} (X : Cx (KC D cA cL h Z) p st m args meth c cc nL RX2) {x1 : Int64} {x2 : Int32} (d : decode cc pc = .ok (.invokestatic 95, 3)) (hq : pc + 3 = q) (hd1 : 1 + 1 ≤ d0) (hd2 : 8 + (3 + 11) + 100 * 1 ≤ 100 * d0) (hr : (rest.map fun v => v.category).sum ≤ 8) {B : Type} {f : Int32 → B} {r : B} (hs : Lt (C_X9_isIn s x1 x2) f = r) (k : ∀ y, f y = r → WG (KC D cA cL h Z) p l e (rmD d0) st m args below meth c Q nL s q lv (.int y :: rest)) : WG (KC D cA cL h Z) p l e (rmD d0) st m args below meth c Q nL s pc lv (.int x2 :: .long x1 :: rest) := by
  exact cSN_I (K := KC D cA cL h Z) X (n := 2) (k_X9_isIn hZ l D cA cL s x1 x2) (gt_c (gt_of 634 (by decide +kernel) rfl) gt_t) (hZ.1 st st.heap X.2.2.2 _ wX9_isIn_X2) (gt_of 196 (by decide +kernel) rfl) (gt_of 633 (by decide +kernel) rfl) ⟨hd1, hd2⟩ ⟨by decide, by decide, by decide +kernel⟩ (As := [.long x1, .int x2]) rfl hr rfl d hq (k _ hs)
def C_X2_observe (s : ST) (x1 : Nat) (x2 : Int32) (x3 : Int32) (x4 : Int32) : Option (ST) := Lt (C_X1_isCell s x1 x3) fun y1 => Lt (ups s 17 0 x2) fun s1 => Lt (fun (a1 : Int32) => (Lt (ups s1 17 1 a1) fun s2 => Lt (ups s2 17 2 x4) fun s3 => Lt (C_X9_beside s3 (s3.2 x1 9) x3) fun y2 => Lt (ups s3 17 3 y2) fun s4 => Lt (ups s4 17 4 (s4.1 x1 2)) fun s5 => Lt (C_X1_isEdge s5 x1 x3) fun y3 => Lt (fun (a2 : Int32) => (Lt (ups s5 17 5 a2) fun s6 => Lt (C_X9_beside s6 (s6.2 x1 7) x3) fun y4 => Lt (ups s6 17 6 y4) fun s7 => Lt (fun (a3 : Int32) => (Lt (ups s7 17 7 a3) fun s8 => some s8 : Option (ST))) fun j3 => Lt (j3 (0 : Int32) : Option (ST)) fun j4 => if y1 = 0 then (j4) else (Lt (C_X9_isIn s7 (s7.2 x1 9) x3) fun y5 => if y5 = 0 then (j4) else (Gl s7 (x1 + 5) 64 x3 fun y6 => j3 y6)) : Option (ST))) fun j2 => if y3 = 0 then (j2 (0 : Int32)) else (j2 (1 : Int32)) : Option (ST))) fun j1 => if y1 = 0 then (j1 (0 : Int32)) else (Gl s1 (x1 + 1) 64 x3 fun y7 => j1 y7)
set_option maxRecDepth 100000 in
set_option maxHeartbeats 4000000 in
theorem k_X2_observe {h : Nat → Nat} {Z : State → Heap → Prop} {sa : Nat → Nat} (hZ : ZK h Z sa) (l : Launch) (D : va_G) (cA cL : ClassId) (s : ST) (x1 : Nat) (x2 : Int32) (x3 : Int32) (x4 : Int32) (hx1 : isK 1 x1) {o : ST} (hs : C_X2_observe s x1 x2 x3 x4 = some o) : MV l (KC D cA cL h Z) 3 yX2_observe cX2_observe 6 none s [.ref (h 13), .ref (h x1), .int x2, .int x3, .int x4] o := by
  refine met_v (by decide) (Nat.le_of_ble_eq_true rfl) ?_
  intro p e st m args below meth c Q X RI
  unfold C_X2_observe at hs
  refine g_aload_n X dX2_observe_0 (q := 1) rfl 1 rfl ?_
  refine g_iload_n X dX2_observe_1 (q := 2) rfl 3 rfl ?_
  refine vc_X1_isCell_X2 hZ X dX2_observe_2 (q := 5) rfl hx1 (Nat.le_of_ble_eq_true rfl) (Nat.le_of_ble_eq_true rfl) (Nat.le_of_ble_eq_true rfl) hs (fun y1 hs => ?_)
  refine g_istore X dX2_observe_5 (q := 7) rfl (Nat.le_of_ble_eq_true rfl) (lv' := [(5, .int y1), (0, .ref (h 13)), (1, .ref (h x1)), (2, .int x2), (3, .int x3), (4, .int x4)]) rfl ?_
  refine g_aload_n X dX2_observe_7 (q := 8) rfl 1 rfl ?_
  refine cg_2_3 X dX2_observe_8 (q := 11) rfl sh_13 lf_X2_24 ?_
  refine g_iconst X dX2_observe_11 (q := 12) rfl li_i0 ?_
  refine g_iload_n X dX2_observe_12 (q := 13) rfl 3 rfl ?_
  refine ca_stk X dX2_observe_13 (q := 14) rfl 17 sh_17 rfl (j := 0) (by decide) (by decide) hs (fun s1 hs => ?_)
  refine g_aload_n X dX2_observe_14 (q := 15) rfl 1 rfl ?_
  refine cg_2_3 X dX2_observe_15 (q := 18) rfl sh_13 lf_X2_24 ?_
  refine g_iconst X dX2_observe_18 (q := 19) rfl li_i1 ?_
  refine g_iload X dX2_observe_19 (q := 21) rfl 0 rfl ?_
  refine jnW1 (fun (a1 : Int32) => WG (KC D cA cL h Z) p l e (rmD 3) st m args below meth c Q 6 s1 34 [(0, .ref (h 13)), (1, .ref (h x1)), (3, .int x3), (4, .int x4), (5, .int y1)] [.int a1, .int (1 : Int32), .ref (h 17)]) hs (fun a1 hs => ?_) (fun j1 ih1 hs => ?_)
  · refine ca_stk X dX2_observe_34 (q := 35) rfl 17 sh_17 rfl (j := 1) (by decide) (by decide) hs (fun s2 hs => ?_)
    refine g_aload_n X dX2_observe_35 (q := 36) rfl 0 rfl ?_
    refine cg_2_3 X dX2_observe_36 (q := 39) rfl sh_13 lf_X2_24 ?_
    refine g_iconst X dX2_observe_39 (q := 40) rfl li_i2 ?_
    refine g_iload X dX2_observe_40 (q := 42) rfl 3 rfl ?_
    refine ca_stk X dX2_observe_42 (q := 43) rfl 17 sh_17 rfl (j := 2) (by decide) (by decide) hs (fun s3 hs => ?_)
    refine g_aload_n X dX2_observe_43 (q := 44) rfl 0 rfl ?_
    refine cg_2_3 X dX2_observe_44 (q := 47) rfl sh_13 lf_X2_24 ?_
    refine g_iconst X dX2_observe_47 (q := 48) rfl li_i3 ?_
    refine g_aload_n X dX2_observe_48 (q := 49) rfl 1 rfl ?_
    refine cgN_1_9 hZ X dX2_observe_49 (q := 52) rfl hx1 lf_X2_78 ?_
    refine g_iload_n X dX2_observe_52 (q := 53) rfl 2 rfl ?_
    refine vc_X9_beside_X2 hZ X dX2_observe_53 (q := 56) rfl (Nat.le_of_ble_eq_true rfl) (Nat.le_of_ble_eq_true rfl) (Nat.le_of_ble_eq_true rfl) hs (fun y2 hs => ?_)
    refine ca_stk X dX2_observe_56 (q := 57) rfl 17 sh_17 rfl (j := 3) (by decide) (by decide) hs (fun s4 hs => ?_)
    refine g_aload_n X dX2_observe_57 (q := 58) rfl 0 rfl ?_
    refine cg_2_3 X dX2_observe_58 (q := 61) rfl sh_13 lf_X2_24 ?_
    refine g_iconst X dX2_observe_61 (q := 62) rfl li_i4 ?_
    refine g_aload_n X dX2_observe_62 (q := 63) rfl 1 rfl ?_
    refine cgN_1_2 hZ X dX2_observe_63 (q := 66) rfl hx1 lf_X2_86 ?_
    refine ca_stk X dX2_observe_66 (q := 67) rfl 17 sh_17 rfl (j := 4) (by decide) (by decide) hs (fun s5 hs => ?_)
    refine g_aload_n X dX2_observe_67 (q := 68) rfl 0 rfl ?_
    refine cg_2_3 X dX2_observe_68 (q := 71) rfl sh_13 lf_X2_24 ?_
    refine g_iconst X dX2_observe_71 (q := 72) rfl li_i5 ?_
    refine g_aload_n X dX2_observe_72 (q := 73) rfl 1 rfl ?_
    refine g_iload_n X dX2_observe_73 (q := 74) rfl 2 rfl ?_
    refine vc_X1_isEdge_X2 hZ X dX2_observe_74 (q := 77) rfl hx1 (Nat.le_of_ble_eq_true rfl) (Nat.le_of_ble_eq_true rfl) (Nat.le_of_ble_eq_true rfl) hs (fun y3 hs => ?_)
    refine jnW1 (fun (a2 : Int32) => WG (KC D cA cL h Z) p l e (rmD 3) st m args below meth c Q 6 s5 85 [(0, .ref (h 13)), (1, .ref (h x1)), (3, .int x3), (5, .int y1)] [.int a2, .int (5 : Int32), .ref (h 17)]) hs (fun a2 hs => ?_) (fun j2 ih2 hs => ?_)
    · refine ca_stk X dX2_observe_85 (q := 86) rfl 17 sh_17 rfl (j := 5) (by decide) (by decide) hs (fun s6 hs => ?_)
      refine g_aload_n X dX2_observe_86 (q := 87) rfl 0 rfl ?_
      refine cg_2_3 X dX2_observe_87 (q := 90) rfl sh_13 lf_X2_24 ?_
      refine g_bipush X dX2_observe_90 (q := 92) rfl li_b6 ?_
      refine g_aload_n X dX2_observe_92 (q := 93) rfl 1 rfl ?_
      refine cgN_1_7 hZ X dX2_observe_93 (q := 96) rfl hx1 lf_X2_92 ?_
      refine g_iload_n X dX2_observe_96 (q := 97) rfl 2 rfl ?_
      refine vc_X9_beside_X2 hZ X dX2_observe_97 (q := 100) rfl (Nat.le_of_ble_eq_true rfl) (Nat.le_of_ble_eq_true rfl) (Nat.le_of_ble_eq_true rfl) hs (fun y4 hs => ?_)
      refine ca_stk X dX2_observe_100 (q := 101) rfl 17 sh_17 rfl (j := 6) (by decide) (by decide) hs (fun s7 hs => ?_)
      refine g_aload_n X dX2_observe_101 (q := 102) rfl 0 rfl ?_
      refine cg_2_3 X dX2_observe_102 (q := 105) rfl sh_13 lf_X2_24 ?_
      refine g_bipush X dX2_observe_105 (q := 107) rfl li_b7 ?_
      refine g_iload X dX2_observe_107 (q := 109) rfl 3 rfl ?_
      refine jnW1 (fun (a3 : Int32) => WG (KC D cA cL h Z) p l e (rmD 3) st m args below meth c Q 6 s7 133 [] [.int a3, .int (7 : Int32), .ref (h 17)]) hs (fun a3 hs => ?_) (fun j3 ih3 hs => ?_)
      · refine ca_stk X dX2_observe_133 (q := 134) rfl 17 sh_17 rfl (j := 7) (by decide) (by decide) hs (fun s8 hs => ?_)
        exact RI _ 134 _ (Option.some.inj hs) dX2_observe_134
      refine jnW0 (WG (KC D cA cL h Z) p l e (rmD 3) st m args below meth c Q 6 s7 132 [] [.int (7 : Int32), .ref (h 17)]) hs (fun  hs => ?_) (fun j4 ih4 hs => ?_)
      · refine g_iconst X dX2_observe_132 (q := 133) rfl li_i0 ?_
        exact wg_sub [] rfl (ih3 _ hs)
      refine g_if_eq X dX2_observe_109 (q := 112) rfl (tgt := 132) (by decide) hs ?_ ?_
      · intro hs
        exact wg_sub [] rfl (ih4 hs)
      · intro hs
        refine g_aload_n X dX2_observe_112 (q := 113) rfl 1 rfl ?_
        refine cgN_1_9 hZ X dX2_observe_113 (q := 116) rfl hx1 lf_X2_78 ?_
        refine g_iload_n X dX2_observe_116 (q := 117) rfl 2 rfl ?_
        refine vc_X9_isIn_X2 hZ X dX2_observe_117 (q := 120) rfl (Nat.le_of_ble_eq_true rfl) (Nat.le_of_ble_eq_true rfl) (Nat.le_of_ble_eq_true rfl) hs (fun y5 hs => ?_)
        refine g_if_eq X dX2_observe_120 (q := 123) rfl (tgt := 132) (by decide) hs ?_ ?_
        · intro hs
          exact wg_sub [] rfl (ih4 hs)
        · intro hs
          refine g_aload_n X dX2_observe_123 (q := 124) rfl 1 rfl ?_
          refine cgN_1_14 hZ X dX2_observe_124 (q := 127) rfl hx1 lf_X2_99 ?_
          refine g_iload_n X dX2_observe_127 (q := 128) rfl 2 rfl ?_
          refine ca_ld X dX2_observe_128 (q := 129) rfl (x1 + 5) (sub_X1_gusts hx1) (len_X1_gusts hx1) hs (fun y6 hs => ?_)
          refine g_goto X dX2_observe_129 (tgt := 133) (by decide) ?_
          exact wg_sub [] rfl (ih3 _ hs)
    refine g_if_eq X dX2_observe_77 (q := 80) rfl (tgt := 84) (by decide) hs ?_ ?_
    · intro hs
      refine g_iconst X dX2_observe_84 (q := 85) rfl li_i0 ?_
      exact wg_sub [0, 1, 2, 4] rfl (ih2 _ hs)
    · intro hs
      refine g_iconst X dX2_observe_80 (q := 81) rfl li_i1 ?_
      refine g_goto X dX2_observe_81 (tgt := 85) (by decide) ?_
      exact wg_sub [0, 1, 2, 4] rfl (ih2 _ hs)
  refine g_if_eq X dX2_observe_21 (q := 24) rfl (tgt := 33) (by decide) hs ?_ ?_
  · intro hs
    refine g_iconst X dX2_observe_33 (q := 34) rfl li_i0 ?_
    exact wg_sub [1, 2, 4, 5, 0] rfl (ih1 _ hs)
  · intro hs
    refine g_aload_n X dX2_observe_24 (q := 25) rfl 2 rfl ?_
    refine cgN_1_10 hZ X dX2_observe_25 (q := 28) rfl hx1 lf_X2_75 ?_
    refine g_iload_n X dX2_observe_28 (q := 29) rfl 4 rfl ?_
    refine ca_ld X dX2_observe_29 (q := 30) rfl (x1 + 1) (sub_X1_wet hx1) (len_X1_wet hx1) hs (fun y7 hs => ?_)
    refine g_goto X dX2_observe_30 (tgt := 34) (by decide) ?_
    exact wg_sub [1, 2, 4, 5, 0] rfl (ih1 _ hs)
theorem dX4_hasRow_0 : decode cX4_hasRow 0 = .ok (.iload_n 1, 1) := by decide +kernel
theorem dX4_hasRow_1 : decode cX4_hasRow 1 = .ok (.ifCond .lt 15, 3) := by decide +kernel
theorem dX4_hasRow_4 : decode cX4_hasRow 4 = .ok (.iload_n 1, 1) := by decide +kernel
theorem dX4_hasRow_5 : decode cX4_hasRow 5 = .ok (.aload_n 0, 1) := by decide +kernel
theorem dX4_hasRow_6 : decode cX4_hasRow 6 = .ok (.getfield 25, 3) := by decide +kernel
theorem dX4_hasRow_9 : decode cX4_hasRow 9 = .ok (.if_icmp .ge 7, 3) := by decide +kernel
theorem dX4_hasRow_12 : decode cX4_hasRow 12 = .ok (.iconst 1, 1) := by decide +kernel
theorem dX4_hasRow_13 : decode cX4_hasRow 13 = .ok (.goto 4, 3) := by decide +kernel
theorem dX4_hasRow_16 : decode cX4_hasRow 16 = .ok (.iconst 0, 1) := by decide +kernel
theorem dX4_hasRow_17 : decode cX4_hasRow 17 = .ok (.ireturn, 1) := by decide +kernel
def C_X4_hasRow (s : ST) (b0 : Nat) (x1 : Int32) : Int32 := if x1 < 0 then ((0 : Int32)) else (if (s.1 b0 2) ≤ x1 then ((0 : Int32)) else ((1 : Int32)))
set_option maxRecDepth 100000 in
set_option maxHeartbeats 4000000 in
theorem k_X4_hasRow {h : Nat → Nat} {Z : State → Heap → Prop} {sa : Nat → Nat} (hZ : ZK h Z sa) (l : Launch) (D : va_G) (cA cL : ClassId) (s : ST) (b0 : Nat) (x1 : Int32) (hb0 : isK 4 b0) : MI l (KC D cA cL h Z) 1 yX4_hasRow cX4_hasRow 2 (some .boolean) s [.ref (h b0), .int x1] (C_X4_hasRow s b0 x1) s := by
  refine met_i (by decide) (Nat.le_of_ble_eq_true rfl) ?_
  intro p e st m args below meth c Q X RI
  generalize hs : C_X4_hasRow s b0 x1 = o at RI
  unfold C_X4_hasRow at hs
  refine g_iload_n X dX4_hasRow_0 (q := 1) rfl 1 rfl ?_
  refine g_if_lt X dX4_hasRow_1 (q := 4) rfl (tgt := 16) (by decide) hs ?_ ?_
  · intro hs
    refine g_iconst X dX4_hasRow_16 (q := 17) rfl li_i0 ?_
    exact RI _ 17 _ _ _ rfl rfl hs dX4_hasRow_17
  · intro hs
    refine g_iload_n X dX4_hasRow_4 (q := 5) rfl 1 rfl ?_
    refine g_aload_n X dX4_hasRow_5 (q := 6) rfl 0 rfl ?_
    refine cg_4_2 X dX4_hasRow_6 (q := 9) rfl hb0 lf_X4_25 ?_
    refine g_icmp_ge X dX4_hasRow_9 (q := 12) rfl (tgt := 16) (by decide) hs ?_ ?_
    · intro hs
      refine g_iconst X dX4_hasRow_16 (q := 17) rfl li_i0 ?_
      exact RI _ 17 _ _ _ rfl rfl hs dX4_hasRow_17
    · intro hs
      refine g_iconst X dX4_hasRow_12 (q := 13) rfl li_i1 ?_
      refine g_goto X dX4_hasRow_13 (tgt := 17) (by decide) ?_
      exact RI _ 17 _ _ _ rfl rfl hs dX4_hasRow_17
theorem dX4_of_0 : decode cX4_of 0 = .ok (.aload_n 0, 1) := by decide +kernel
theorem dX4_of_1 : decode cX4_of 1 = .ok (.iload_n 1, 1) := by decide +kernel
theorem dX4_of_2 : decode cX4_of 2 = .ok (.invokevirtual 28, 3) := by decide +kernel
theorem dX4_of_5 : decode cX4_of 5 = .ok (.ifCond .eq 12, 3) := by decide +kernel
theorem dX4_of_8 : decode cX4_of 8 = .ok (.iload_n 2, 1) := by decide +kernel
theorem dX4_of_9 : decode cX4_of 9 = .ok (.ifCond .lt 8, 3) := by decide +kernel
theorem dX4_of_12 : decode cX4_of 12 = .ok (.iload_n 2, 1) := by decide +kernel
theorem dX4_of_13 : decode cX4_of 13 = .ok (.iconst 4, 1) := by decide +kernel
theorem dX4_of_14 : decode cX4_of 14 = .ok (.if_icmp .lt 5, 3) := by decide +kernel
theorem dX4_of_17 : decode cX4_of 17 = .ok (.iconst (-1), 1) := by decide +kernel
theorem dX4_of_18 : decode cX4_of 18 = .ok (.ireturn, 1) := by decide +kernel
theorem dX4_of_19 : decode cX4_of 19 = .ok (.aload_n 0, 1) := by decide +kernel
theorem dX4_of_20 : decode cX4_of 20 = .ok (.getfield 21, 3) := by decide +kernel
theorem dX4_of_23 : decode cX4_of 23 = .ok (.iload_n 1, 1) := by decide +kernel
theorem dX4_of_24 : decode cX4_of 24 = .ok (.iconst 4, 1) := by decide +kernel
theorem dX4_of_25 : decode cX4_of 25 = .ok (.imul, 1) := by decide +kernel
theorem dX4_of_26 : decode cX4_of 26 = .ok (.iload_n 2, 1) := by decide +kernel
theorem dX4_of_27 : decode cX4_of 27 = .ok (.iadd, 1) := by decide +kernel
theorem dX4_of_28 : decode cX4_of 28 = .ok (.iaload, 1) := by decide +kernel
theorem dX4_of_29 : decode cX4_of 29 = .ok (.ireturn, 1) := by decide +kernel
theorem wX4_hasRow_X4 : GoodIn GT (wsV RX4 28 RX4 yX4_hasRow (.code yX4_hasRow cX4_hasRow 2 (some .boolean) :: GT)) := gt_V (gt_of 988 (by decide +kernel) rfl) (gt_of 914 (by decide +kernel) rfl) (gt_of 49 (by decide +kernel) rfl) (gt_of 199 (by decide +kernel) rfl) (gt_of 915 (by decide +kernel) rfl)
theorem vc_X4_hasRow_X4 {p : Program} {l : Launch} {e : Env} {st : State} {m : MethodId} {args : Array Value} {below : List Frame} {meth : Method} {c : Code} {Q : State → Prop} {nL : Nat} {cc : ByteArray} {s : ST} {pc q : Nat} {lv : List (Nat × Value)} {rest : List Value} {D : va_G} {cA cL : ClassId} {h : Nat → Nat} {Z : State → Heap → Prop} {sa : Nat → Nat} (hZ : ZK h Z sa) {d0 : Nat} (X : Cx (KC D cA cL h Z) p st m args meth c cc nL RX4) {b0 : Nat} {x1 : Int32} (d : decode cc pc = .ok (.invokevirtual 28, 3)) (hq : pc + 3 = q) (hb0 : isK 4 b0) (hd1 : 1 + 1 ≤ d0) (hd2 : 8 + (2 + 11) + 100 * 1 ≤ 100 * d0) (hr : (rest.map fun v => v.category).sum ≤ 8) {B : Type} {f : Int32 → B} {r : B} (hs : Lt (C_X4_hasRow s b0 x1) f = r) (k : ∀ y, f y = r → WG (KC D cA cL h Z) p l e (rmD d0) st m args below meth c Q nL s q lv (.int y :: rest)) : WG (KC D cA cL h Z) p l e (rmD d0) st m args below meth c Q nL s pc lv (.int x1 :: .ref (h b0) :: rest) := by
  exact cV_I (K := KC D cA cL h Z) X b0 (n := 1) (k_X4_hasRow hZ l D cA cL s b0 x1 hb0) wX4_hasRow_X4 ⟨hd1, hd2⟩ ⟨by decide, by decide, by decide +kernel⟩ (As := [.int x1]) rfl hr (hb0).1 (fs := cF4 h b0 (s.1 b0) (s.2 b0)) (GC_4 (cA := cA) (cL := cL) hb0 _ _) rfl rfl d hq (k _ hs)
def C_X4_of (s : ST) (b0 : Nat) (x1 : Int32) (x2 : Int32) : Option (Int32) := Lt (C_X4_hasRow s b0 x1) fun y1 => if y1 = 0 then (some (-1 : Int32)) else (if x2 < 0 then (some (-1 : Int32)) else (if x2 < (4 : Int32) then (Gl s (b0 + 1) (lc (b0 + 1)) ((x1 * (4 : Int32)) + x2) fun y2 => some y2) else (some (-1 : Int32))))
set_option maxRecDepth 100000 in
set_option maxHeartbeats 4000000 in
theorem k_X4_of {h : Nat → Nat} {Z : State → Heap → Prop} {sa : Nat → Nat} (hZ : ZK h Z sa) (l : Launch) (D : va_G) (cA cL : ClassId) (s : ST) (b0 : Nat) (x1 : Int32) (x2 : Int32) (hb0 : isK 4 b0) {o : Int32} (hs : C_X4_of s b0 x1 x2 = some o) : MI l (KC D cA cL h Z) 2 yX4_of cX4_of 3 (some .int) s [.ref (h b0), .int x1, .int x2] o s := by
  refine met_i (by decide) (Nat.le_of_ble_eq_true rfl) ?_
  intro p e st m args below meth c Q X RI
  unfold C_X4_of at hs
  refine g_aload_n X dX4_of_0 (q := 1) rfl 0 rfl ?_
  refine g_iload_n X dX4_of_1 (q := 2) rfl 1 rfl ?_
  refine vc_X4_hasRow_X4 hZ X dX4_of_2 (q := 5) rfl hb0 (Nat.le_of_ble_eq_true rfl) (Nat.le_of_ble_eq_true rfl) (Nat.le_of_ble_eq_true rfl) hs (fun y1 hs => ?_)
  refine g_if_eq X dX4_of_5 (q := 8) rfl (tgt := 17) (by decide) hs ?_ ?_
  · intro hs
    refine g_iconst X dX4_of_17 (q := 18) rfl li_im1 ?_
    exact RI _ 18 _ _ _ rfl rfl (Option.some.inj hs) dX4_of_18
  · intro hs
    refine g_iload_n X dX4_of_8 (q := 9) rfl 2 rfl ?_
    refine g_if_lt X dX4_of_9 (q := 12) rfl (tgt := 17) (by decide) hs ?_ ?_
    · intro hs
      refine g_iconst X dX4_of_17 (q := 18) rfl li_im1 ?_
      exact RI _ 18 _ _ _ rfl rfl (Option.some.inj hs) dX4_of_18
    · intro hs
      refine g_iload_n X dX4_of_12 (q := 13) rfl 2 rfl ?_
      refine g_iconst X dX4_of_13 (q := 14) rfl li_i4 ?_
      refine g_icmp_lt X dX4_of_14 (q := 17) rfl (tgt := 19) (by decide) hs ?_ ?_
      · intro hs
        refine g_aload_n X dX4_of_19 (q := 20) rfl 0 rfl ?_
        refine cg_4_1 X dX4_of_20 (q := 23) rfl hb0 lf_X4_21 ?_
        refine g_iload_n X dX4_of_23 (q := 24) rfl 1 rfl ?_
        refine g_iconst X dX4_of_24 (q := 25) rfl li_i4 ?_
        refine g_imul X dX4_of_25 (q := 26) rfl ?_
        refine g_iload_n X dX4_of_26 (q := 27) rfl 2 rfl ?_
        refine g_iadd X dX4_of_27 (q := 28) rfl ?_
        refine ca_ld X dX4_of_28 (q := 29) rfl (b0 + 1) (sub_X4_numbers hb0) rfl hs (fun y2 hs => ?_)
        exact RI _ 29 _ _ _ rfl rfl (Option.some.inj hs) dX4_of_29
      · intro hs
        refine g_iconst X dX4_of_17 (q := 18) rfl li_im1 ?_
        exact RI _ 18 _ _ _ rfl rfl (Option.some.inj hs) dX4_of_18
theorem dX2_join_0 : decode cX2_join 0 = .ok (.iload_n 0, 1) := by decide +kernel
theorem dX2_join_1 : decode cX2_join 1 = .ok (.tableswitch 116 (-17) (-9) #[112, 108, 97, 86, 75, 63, 59, 55, 51], 51) := by decide +kernel
theorem dX2_join_52 : decode cX2_join 52 = .ok (.iload_n 1, 1) := by decide +kernel
theorem dX2_join_53 : decode cX2_join 53 = .ok (.iload_n 2, 1) := by decide +kernel
theorem dX2_join_54 : decode cX2_join 54 = .ok (.iadd, 1) := by decide +kernel
theorem dX2_join_55 : decode cX2_join 55 = .ok (.ireturn, 1) := by decide +kernel
theorem dX2_join_56 : decode cX2_join 56 = .ok (.iload_n 1, 1) := by decide +kernel
theorem dX2_join_57 : decode cX2_join 57 = .ok (.iload_n 2, 1) := by decide +kernel
theorem dX2_join_58 : decode cX2_join 58 = .ok (.isub, 1) := by decide +kernel
theorem dX2_join_59 : decode cX2_join 59 = .ok (.ireturn, 1) := by decide +kernel
theorem dX2_join_60 : decode cX2_join 60 = .ok (.iload_n 1, 1) := by decide +kernel
theorem dX2_join_61 : decode cX2_join 61 = .ok (.iload_n 2, 1) := by decide +kernel
theorem dX2_join_62 : decode cX2_join 62 = .ok (.imul, 1) := by decide +kernel
theorem dX2_join_63 : decode cX2_join 63 = .ok (.ireturn, 1) := by decide +kernel
theorem dX2_join_64 : decode cX2_join 64 = .ok (.iload_n 2, 1) := by decide +kernel
theorem dX2_join_65 : decode cX2_join 65 = .ok (.ifCond .ne 7, 3) := by decide +kernel
theorem dX2_join_68 : decode cX2_join 68 = .ok (.iconst 0, 1) := by decide +kernel
theorem dX2_join_69 : decode cX2_join 69 = .ok (.goto 6, 3) := by decide +kernel
theorem dX2_join_72 : decode cX2_join 72 = .ok (.iload_n 1, 1) := by decide +kernel
theorem dX2_join_73 : decode cX2_join 73 = .ok (.iload_n 2, 1) := by decide +kernel
theorem dX2_join_74 : decode cX2_join 74 = .ok (.idiv, 1) := by decide +kernel
theorem dX2_join_75 : decode cX2_join 75 = .ok (.ireturn, 1) := by decide +kernel
theorem dX2_join_76 : decode cX2_join 76 = .ok (.iload_n 1, 1) := by decide +kernel
theorem dX2_join_77 : decode cX2_join 77 = .ok (.iload_n 2, 1) := by decide +kernel
theorem dX2_join_78 : decode cX2_join 78 = .ok (.if_icmp .ge 7, 3) := by decide +kernel
theorem dX2_join_81 : decode cX2_join 81 = .ok (.iconst 1, 1) := by decide +kernel
theorem dX2_join_82 : decode cX2_join 82 = .ok (.goto 4, 3) := by decide +kernel
theorem dX2_join_85 : decode cX2_join 85 = .ok (.iconst 0, 1) := by decide +kernel
theorem dX2_join_86 : decode cX2_join 86 = .ok (.ireturn, 1) := by decide +kernel
theorem dX2_join_87 : decode cX2_join 87 = .ok (.iload_n 1, 1) := by decide +kernel
theorem dX2_join_88 : decode cX2_join 88 = .ok (.iload_n 2, 1) := by decide +kernel
theorem dX2_join_89 : decode cX2_join 89 = .ok (.if_icmp .ne 7, 3) := by decide +kernel
theorem dX2_join_92 : decode cX2_join 92 = .ok (.iconst 1, 1) := by decide +kernel
theorem dX2_join_93 : decode cX2_join 93 = .ok (.goto 4, 3) := by decide +kernel
theorem dX2_join_96 : decode cX2_join 96 = .ok (.iconst 0, 1) := by decide +kernel
theorem dX2_join_97 : decode cX2_join 97 = .ok (.ireturn, 1) := by decide +kernel
theorem dX2_join_98 : decode cX2_join 98 = .ok (.iload_n 1, 1) := by decide +kernel
theorem dX2_join_99 : decode cX2_join 99 = .ok (.iload_n 2, 1) := by decide +kernel
theorem dX2_join_100 : decode cX2_join 100 = .ok (.if_icmp .le 7, 3) := by decide +kernel
theorem dX2_join_103 : decode cX2_join 103 = .ok (.iconst 1, 1) := by decide +kernel
theorem dX2_join_104 : decode cX2_join 104 = .ok (.goto 4, 3) := by decide +kernel
theorem dX2_join_107 : decode cX2_join 107 = .ok (.iconst 0, 1) := by decide +kernel
theorem dX2_join_108 : decode cX2_join 108 = .ok (.ireturn, 1) := by decide +kernel
theorem dX2_join_109 : decode cX2_join 109 = .ok (.iload_n 1, 1) := by decide +kernel
theorem dX2_join_110 : decode cX2_join 110 = .ok (.iload_n 2, 1) := by decide +kernel
theorem dX2_join_111 : decode cX2_join 111 = .ok (.iand, 1) := by decide +kernel
theorem dX2_join_112 : decode cX2_join 112 = .ok (.ireturn, 1) := by decide +kernel
theorem dX2_join_113 : decode cX2_join 113 = .ok (.iload_n 1, 1) := by decide +kernel
theorem dX2_join_114 : decode cX2_join 114 = .ok (.iload_n 2, 1) := by decide +kernel
theorem dX2_join_115 : decode cX2_join 115 = .ok (.ior, 1) := by decide +kernel
theorem dX2_join_116 : decode cX2_join 116 = .ok (.ireturn, 1) := by decide +kernel
theorem dX2_join_117 : decode cX2_join 117 = .ok (.iconst 0, 1) := by decide +kernel
theorem dX2_join_118 : decode cX2_join 118 = .ok (.ireturn, 1) := by decide +kernel
def C_X2_join (s : ST) (x1 : Int32) (x2 : Int32) (x3 : Int32) : Option (Int32) := if x1 = (-17 : Int32) then (some (x2 ||| x3)) else (if x1 = (-16 : Int32) then (some (x2 &&& x3)) else (if x1 = (-15 : Int32) then (if x2 ≤ x3 then (some (0 : Int32)) else (some (1 : Int32))) else (if x1 = (-14 : Int32) then (if x2 = x3 then (some (1 : Int32)) else (some (0 : Int32))) else (if x1 = (-13 : Int32) then (if x3 ≤ x2 then (some (0 : Int32)) else (some (1 : Int32))) else (if x1 = (-12 : Int32) then (if x3 = 0 then (some (0 : Int32)) else (Gz x3 <| some (x2 / x3))) else (if x1 = (-11 : Int32) then (some (x2 * x3)) else (if x1 = (-10 : Int32) then (some (x2 - x3)) else (if x1 = (-9 : Int32) then (some (x2 + x3)) else (some (0 : Int32))))))))))
set_option maxRecDepth 100000 in
set_option maxHeartbeats 4000000 in
theorem k_X2_join {h : Nat → Nat} {Z : State → Heap → Prop} {sa : Nat → Nat} (hZ : ZK h Z sa) (l : Launch) (D : va_G) (cA cL : ClassId) (s : ST) (x1 : Int32) (x2 : Int32) (x3 : Int32) {o : Int32} (hs : C_X2_join s x1 x2 x3 = some o) : MI l (KC D cA cL h Z) 1 yX2_join cX2_join 3 (some .int) s [.int x1, .int x2, .int x3] o s := by
  refine met_i (by decide) (Nat.le_of_ble_eq_true rfl) ?_
  intro p e st m args below meth c Q X RI
  unfold C_X2_join at hs
  refine g_iload_n X dX2_join_0 (q := 1) rfl 0 rfl ?_
  refine g_tsw X dX2_join_1 (z := (-17 : Int32)) (tgt := 113) rfl (by decide) (by decide) (by decide) hs ?_ (fun hn0 hs => ?_)
  · intro hs
    refine g_iload_n X dX2_join_113 (q := 114) rfl 1 rfl ?_
    refine g_iload_n X dX2_join_114 (q := 115) rfl 2 rfl ?_
    refine g_ior X dX2_join_115 (q := 116) rfl ?_
    exact RI _ 116 _ _ _ rfl rfl (Option.some.inj hs) dX2_join_116
  refine g_tsw X dX2_join_1 (z := (-16 : Int32)) (tgt := 109) rfl (by decide) (by decide) (by decide) hs ?_ (fun hn1 hs => ?_)
  · intro hs
    refine g_iload_n X dX2_join_109 (q := 110) rfl 1 rfl ?_
    refine g_iload_n X dX2_join_110 (q := 111) rfl 2 rfl ?_
    refine g_iand X dX2_join_111 (q := 112) rfl ?_
    exact RI _ 112 _ _ _ rfl rfl (Option.some.inj hs) dX2_join_112
  refine g_tsw X dX2_join_1 (z := (-15 : Int32)) (tgt := 98) rfl (by decide) (by decide) (by decide) hs ?_ (fun hn2 hs => ?_)
  · intro hs
    refine g_iload_n X dX2_join_98 (q := 99) rfl 1 rfl ?_
    refine g_iload_n X dX2_join_99 (q := 100) rfl 2 rfl ?_
    refine g_icmp_le X dX2_join_100 (q := 103) rfl (tgt := 107) (by decide) hs ?_ ?_
    · intro hs
      refine g_iconst X dX2_join_107 (q := 108) rfl li_i0 ?_
      exact RI _ 108 _ _ _ rfl rfl (Option.some.inj hs) dX2_join_108
    · intro hs
      refine g_iconst X dX2_join_103 (q := 104) rfl li_i1 ?_
      refine g_goto X dX2_join_104 (tgt := 108) (by decide) ?_
      exact RI _ 108 _ _ _ rfl rfl (Option.some.inj hs) dX2_join_108
  refine g_tsw X dX2_join_1 (z := (-14 : Int32)) (tgt := 87) rfl (by decide) (by decide) (by decide) hs ?_ (fun hn3 hs => ?_)
  · intro hs
    refine g_iload_n X dX2_join_87 (q := 88) rfl 1 rfl ?_
    refine g_iload_n X dX2_join_88 (q := 89) rfl 2 rfl ?_
    refine g_icmp_ne X dX2_join_89 (q := 92) rfl (tgt := 96) (by decide) hs ?_ ?_
    · intro hs
      refine g_iconst X dX2_join_96 (q := 97) rfl li_i0 ?_
      exact RI _ 97 _ _ _ rfl rfl (Option.some.inj hs) dX2_join_97
    · intro hs
      refine g_iconst X dX2_join_92 (q := 93) rfl li_i1 ?_
      refine g_goto X dX2_join_93 (tgt := 97) (by decide) ?_
      exact RI _ 97 _ _ _ rfl rfl (Option.some.inj hs) dX2_join_97
  refine g_tsw X dX2_join_1 (z := (-13 : Int32)) (tgt := 76) rfl (by decide) (by decide) (by decide) hs ?_ (fun hn4 hs => ?_)
  · intro hs
    refine g_iload_n X dX2_join_76 (q := 77) rfl 1 rfl ?_
    refine g_iload_n X dX2_join_77 (q := 78) rfl 2 rfl ?_
    refine g_icmp_ge X dX2_join_78 (q := 81) rfl (tgt := 85) (by decide) hs ?_ ?_
    · intro hs
      refine g_iconst X dX2_join_85 (q := 86) rfl li_i0 ?_
      exact RI _ 86 _ _ _ rfl rfl (Option.some.inj hs) dX2_join_86
    · intro hs
      refine g_iconst X dX2_join_81 (q := 82) rfl li_i1 ?_
      refine g_goto X dX2_join_82 (tgt := 86) (by decide) ?_
      exact RI _ 86 _ _ _ rfl rfl (Option.some.inj hs) dX2_join_86
  refine g_tsw X dX2_join_1 (z := (-12 : Int32)) (tgt := 64) rfl (by decide) (by decide) (by decide) hs ?_ (fun hn5 hs => ?_)
  · intro hs
    refine g_iload_n X dX2_join_64 (q := 65) rfl 2 rfl ?_
    refine g_if_ne X dX2_join_65 (q := 68) rfl (tgt := 72) (by decide) hs ?_ ?_
    · intro hs
      refine g_iload_n X dX2_join_72 (q := 73) rfl 1 rfl ?_
      refine g_iload_n X dX2_join_73 (q := 74) rfl 2 rfl ?_
      have hz := (Gz_e hs).1
      replace hs := (Gz_e hs).2
      refine g_idiv X dX2_join_74 (q := 75) rfl hz ?_
      exact RI _ 75 _ _ _ rfl rfl (Option.some.inj hs) dX2_join_75
    · intro hs
      refine g_iconst X dX2_join_68 (q := 69) rfl li_i0 ?_
      refine g_goto X dX2_join_69 (tgt := 75) (by decide) ?_
      exact RI _ 75 _ _ _ rfl rfl (Option.some.inj hs) dX2_join_75
  refine g_tsw X dX2_join_1 (z := (-11 : Int32)) (tgt := 60) rfl (by decide) (by decide) (by decide) hs ?_ (fun hn6 hs => ?_)
  · intro hs
    refine g_iload_n X dX2_join_60 (q := 61) rfl 1 rfl ?_
    refine g_iload_n X dX2_join_61 (q := 62) rfl 2 rfl ?_
    refine g_imul X dX2_join_62 (q := 63) rfl ?_
    exact RI _ 63 _ _ _ rfl rfl (Option.some.inj hs) dX2_join_63
  refine g_tsw X dX2_join_1 (z := (-10 : Int32)) (tgt := 56) rfl (by decide) (by decide) (by decide) hs ?_ (fun hn7 hs => ?_)
  · intro hs
    refine g_iload_n X dX2_join_56 (q := 57) rfl 1 rfl ?_
    refine g_iload_n X dX2_join_57 (q := 58) rfl 2 rfl ?_
    refine g_isub X dX2_join_58 (q := 59) rfl ?_
    exact RI _ 59 _ _ _ rfl rfl (Option.some.inj hs) dX2_join_59
  refine g_tsw X dX2_join_1 (z := (-9 : Int32)) (tgt := 52) rfl (by decide) (by decide) (by decide) hs ?_ (fun hn8 hs => ?_)
  · intro hs
    refine g_iload_n X dX2_join_52 (q := 53) rfl 1 rfl ?_
    refine g_iload_n X dX2_join_53 (q := 54) rfl 2 rfl ?_
    refine g_iadd X dX2_join_54 (q := 55) rfl ?_
    exact RI _ 55 _ _ _ rfl rfl (Option.some.inj hs) dX2_join_55
  refine g_tswO X dX2_join_1 (tgt := 117) (by have t0 := tsw_ne hn0 (k := -17) (by decide); have t1 := tsw_ne hn1 (k := -16) (by decide); have t2 := tsw_ne hn2 (k := -15) (by decide); have t3 := tsw_ne hn3 (k := -14) (by decide); have t4 := tsw_ne hn4 (k := -13) (by decide); have t5 := tsw_ne hn5 (k := -12) (by decide); have t6 := tsw_ne hn6 (k := -11) (by decide); have t7 := tsw_ne hn7 (k := -10) (by decide); have t8 := tsw_ne hn8 (k := -9) (by decide); omega) (by decide) ?_
  refine g_iconst X dX2_join_117 (q := 118) rfl li_i0 ?_
  exact RI _ 118 _ _ _ rfl rfl (Option.some.inj hs) dX2_join_118
theorem dX2_reckon_0 : decode cX2_reckon 0 = .ok (.iconst 0, 1) := by decide +kernel
theorem dX2_reckon_1 : decode cX2_reckon 1 = .ok (.istore_n 3, 1) := by decide +kernel
theorem dX2_reckon_2 : decode cX2_reckon 2 = .ok (.iconst 0, 1) := by decide +kernel
theorem dX2_reckon_3 : decode cX2_reckon 3 = .ok (.iload_n 1, 1) := by decide +kernel
theorem dX2_reckon_4 : decode cX2_reckon 4 = .ok (.invokestatic 66, 3) := by decide +kernel
theorem dX2_reckon_7 : decode cX2_reckon 7 = .ok (.istore 4, 2) := by decide +kernel
theorem dX2_reckon_9 : decode cX2_reckon 9 = .ok (.iload 4, 2) := by decide +kernel
theorem dX2_reckon_11 : decode cX2_reckon 11 = .ok (.iload_n 2, 1) := by decide +kernel
theorem dX2_reckon_12 : decode cX2_reckon 12 = .ok (.if_icmp .ge 140, 3) := by decide +kernel
theorem dX2_reckon_15 : decode cX2_reckon 15 = .ok (.iload 4, 2) := by decide +kernel
theorem dX2_reckon_17 : decode cX2_reckon 17 = .ok (.sipush 400, 3) := by decide +kernel
theorem dX2_reckon_20 : decode cX2_reckon 20 = .ok (.if_icmp .ge 132, 3) := by decide +kernel
theorem dX2_reckon_23 : decode cX2_reckon 23 = .ok (.aload_n 0, 1) := by decide +kernel
theorem dX2_reckon_24 : decode cX2_reckon 24 = .ok (.getfield 20, 3) := by decide +kernel
theorem dX2_reckon_27 : decode cX2_reckon 27 = .ok (.iload 4, 2) := by decide +kernel
theorem dX2_reckon_29 : decode cX2_reckon 29 = .ok (.iaload, 1) := by decide +kernel
theorem dX2_reckon_30 : decode cX2_reckon 30 = .ok (.istore 5, 2) := by decide +kernel
theorem dX2_reckon_32 : decode cX2_reckon 32 = .ok (.iload 5, 2) := by decide +kernel
theorem dX2_reckon_34 : decode cX2_reckon 34 = .ok (.bipush (-9), 2) := by decide +kernel
theorem dX2_reckon_36 : decode cX2_reckon 36 = .ok (.if_icmp .le 43, 3) := by decide +kernel
theorem dX2_reckon_39 : decode cX2_reckon 39 = .ok (.iload_n 3, 1) := by decide +kernel
theorem dX2_reckon_40 : decode cX2_reckon 40 = .ok (.aload_n 0, 1) := by decide +kernel
theorem dX2_reckon_41 : decode cX2_reckon 41 = .ok (.getfield 27, 3) := by decide +kernel
theorem dX2_reckon_44 : decode cX2_reckon 44 = .ok (.arraylength, 1) := by decide +kernel
theorem dX2_reckon_45 : decode cX2_reckon 45 = .ok (.if_icmp .ge 101, 3) := by decide +kernel
theorem dX2_reckon_48 : decode cX2_reckon 48 = .ok (.aload_n 0, 1) := by decide +kernel
theorem dX2_reckon_49 : decode cX2_reckon 49 = .ok (.getfield 27, 3) := by decide +kernel
theorem dX2_reckon_52 : decode cX2_reckon 52 = .ok (.iload_n 3, 1) := by decide +kernel
theorem dX2_reckon_53 : decode cX2_reckon 53 = .ok (.iload 5, 2) := by decide +kernel
theorem dX2_reckon_55 : decode cX2_reckon 55 = .ok (.ifCond .lt 8, 3) := by decide +kernel
theorem dX2_reckon_58 : decode cX2_reckon 58 = .ok (.iload 5, 2) := by decide +kernel
theorem dX2_reckon_60 : decode cX2_reckon 60 = .ok (.goto 12, 3) := by decide +kernel
theorem dX2_reckon_63 : decode cX2_reckon 63 = .ok (.aload_n 0, 1) := by decide +kernel
theorem dX2_reckon_64 : decode cX2_reckon 64 = .ok (.getfield 24, 3) := by decide +kernel
theorem dX2_reckon_67 : decode cX2_reckon 67 = .ok (.iconst (-1), 1) := by decide +kernel
theorem dX2_reckon_68 : decode cX2_reckon 68 = .ok (.iload 5, 2) := by decide +kernel
theorem dX2_reckon_70 : decode cX2_reckon 70 = .ok (.isub, 1) := by decide +kernel
theorem dX2_reckon_71 : decode cX2_reckon 71 = .ok (.iaload, 1) := by decide +kernel
theorem dX2_reckon_72 : decode cX2_reckon 72 = .ok (.iastore, 1) := by decide +kernel
theorem dX2_reckon_73 : decode cX2_reckon 73 = .ok (.iinc 3 1, 3) := by decide +kernel
theorem dX2_reckon_76 : decode cX2_reckon 76 = .ok (.goto 70, 3) := by decide +kernel
theorem dX2_reckon_79 : decode cX2_reckon 79 = .ok (.iload 5, 2) := by decide +kernel
theorem dX2_reckon_81 : decode cX2_reckon 81 = .ok (.bipush (-18), 2) := by decide +kernel
theorem dX2_reckon_83 : decode cX2_reckon 83 = .ok (.if_icmp .ne 28, 3) := by decide +kernel
theorem dX2_reckon_86 : decode cX2_reckon 86 = .ok (.iload_n 3, 1) := by decide +kernel
theorem dX2_reckon_87 : decode cX2_reckon 87 = .ok (.ifCond .le 59, 3) := by decide +kernel
theorem dX2_reckon_90 : decode cX2_reckon 90 = .ok (.aload_n 0, 1) := by decide +kernel
theorem dX2_reckon_91 : decode cX2_reckon 91 = .ok (.getfield 27, 3) := by decide +kernel
theorem dX2_reckon_94 : decode cX2_reckon 94 = .ok (.iload_n 3, 1) := by decide +kernel
theorem dX2_reckon_95 : decode cX2_reckon 95 = .ok (.iconst 1, 1) := by decide +kernel
theorem dX2_reckon_96 : decode cX2_reckon 96 = .ok (.isub, 1) := by decide +kernel
theorem dX2_reckon_97 : decode cX2_reckon 97 = .ok (.iconst 1, 1) := by decide +kernel
theorem dX2_reckon_98 : decode cX2_reckon 98 = .ok (.aload_n 0, 1) := by decide +kernel
theorem dX2_reckon_99 : decode cX2_reckon 99 = .ok (.getfield 27, 3) := by decide +kernel
theorem dX2_reckon_102 : decode cX2_reckon 102 = .ok (.iload_n 3, 1) := by decide +kernel
theorem dX2_reckon_103 : decode cX2_reckon 103 = .ok (.iconst 1, 1) := by decide +kernel
theorem dX2_reckon_104 : decode cX2_reckon 104 = .ok (.isub, 1) := by decide +kernel
theorem dX2_reckon_105 : decode cX2_reckon 105 = .ok (.iaload, 1) := by decide +kernel
theorem dX2_reckon_106 : decode cX2_reckon 106 = .ok (.isub, 1) := by decide +kernel
theorem dX2_reckon_107 : decode cX2_reckon 107 = .ok (.iastore, 1) := by decide +kernel
theorem dX2_reckon_108 : decode cX2_reckon 108 = .ok (.goto 38, 3) := by decide +kernel
theorem dX2_reckon_111 : decode cX2_reckon 111 = .ok (.iload_n 3, 1) := by decide +kernel
theorem dX2_reckon_112 : decode cX2_reckon 112 = .ok (.iconst 1, 1) := by decide +kernel
theorem dX2_reckon_113 : decode cX2_reckon 113 = .ok (.if_icmp .le 33, 3) := by decide +kernel
theorem dX2_reckon_116 : decode cX2_reckon 116 = .ok (.iinc 3 (-1), 3) := by decide +kernel
theorem dX2_reckon_119 : decode cX2_reckon 119 = .ok (.aload_n 0, 1) := by decide +kernel
theorem dX2_reckon_120 : decode cX2_reckon 120 = .ok (.getfield 27, 3) := by decide +kernel
theorem dX2_reckon_123 : decode cX2_reckon 123 = .ok (.iload_n 3, 1) := by decide +kernel
theorem dX2_reckon_124 : decode cX2_reckon 124 = .ok (.iconst 1, 1) := by decide +kernel
theorem dX2_reckon_125 : decode cX2_reckon 125 = .ok (.isub, 1) := by decide +kernel
theorem dX2_reckon_126 : decode cX2_reckon 126 = .ok (.iload 5, 2) := by decide +kernel
theorem dX2_reckon_128 : decode cX2_reckon 128 = .ok (.aload_n 0, 1) := by decide +kernel
theorem dX2_reckon_129 : decode cX2_reckon 129 = .ok (.getfield 27, 3) := by decide +kernel
theorem dX2_reckon_132 : decode cX2_reckon 132 = .ok (.iload_n 3, 1) := by decide +kernel
theorem dX2_reckon_133 : decode cX2_reckon 133 = .ok (.iconst 1, 1) := by decide +kernel
theorem dX2_reckon_134 : decode cX2_reckon 134 = .ok (.isub, 1) := by decide +kernel
theorem dX2_reckon_135 : decode cX2_reckon 135 = .ok (.iaload, 1) := by decide +kernel
theorem dX2_reckon_136 : decode cX2_reckon 136 = .ok (.aload_n 0, 1) := by decide +kernel
theorem dX2_reckon_137 : decode cX2_reckon 137 = .ok (.getfield 27, 3) := by decide +kernel
theorem dX2_reckon_140 : decode cX2_reckon 140 = .ok (.iload_n 3, 1) := by decide +kernel
theorem dX2_reckon_141 : decode cX2_reckon 141 = .ok (.iaload, 1) := by decide +kernel
theorem dX2_reckon_142 : decode cX2_reckon 142 = .ok (.invokestatic 102, 3) := by decide +kernel
theorem dX2_reckon_145 : decode cX2_reckon 145 = .ok (.iastore, 1) := by decide +kernel
theorem dX2_reckon_146 : decode cX2_reckon 146 = .ok (.iinc 4 1, 3) := by decide +kernel
theorem dX2_reckon_149 : decode cX2_reckon 149 = .ok (.goto (-140), 3) := by decide +kernel
theorem dX2_reckon_152 : decode cX2_reckon 152 = .ok (.aload_n 0, 1) := by decide +kernel
theorem dX2_reckon_153 : decode cX2_reckon 153 = .ok (.getfield 27, 3) := by decide +kernel
theorem dX2_reckon_156 : decode cX2_reckon 156 = .ok (.iconst 0, 1) := by decide +kernel
theorem dX2_reckon_157 : decode cX2_reckon 157 = .ok (.iaload, 1) := by decide +kernel
theorem dX2_reckon_158 : decode cX2_reckon 158 = .ok (.ireturn, 1) := by decide +kernel
theorem wX2_join_X2 : GoodIn GT (va_wsS RX2 102 yX2_join (.code yX2_join cX2_join 3 (some .int) :: GT)) := gt_c (gt_of 1025 (by decide +kernel) rfl) (gt_c (gt_of 1026 (by decide +kernel) rfl) (gt_c (gt_of 201 (by decide +kernel) rfl) (gt_c (gt_of 1027 (by decide +kernel) rfl) gt_t)))
theorem vc_X2_join_X2 {p : Program} {l : Launch} {e : Env} {st : State} {m : MethodId} {args : Array Value} {below : List Frame} {meth : Method} {c : Code} {Q : State → Prop} {nL : Nat} {cc : ByteArray} {s : ST} {pc q : Nat} {lv : List (Nat × Value)} {rest : List Value} {D : va_G} {cA cL : ClassId} {h : Nat → Nat} {Z : State → Heap → Prop} {sa : Nat → Nat} (hZ : ZK h Z sa) {d0 : Nat} (X : Cx (KC D cA cL h Z) p st m args meth c cc nL RX2) {x1 : Int32} {x2 : Int32} {x3 : Int32} (d : decode cc pc = .ok (.invokestatic 102, 3)) (hq : pc + 3 = q) (hd1 : 1 + 1 ≤ d0) (hd2 : 8 + (3 + 11) + 100 * 1 ≤ 100 * d0) (hr : (rest.map fun v => v.category).sum ≤ 8) {B : Type} {f : Int32 → Option B} {r : B} (hs : Bd (C_X2_join s x1 x2 x3) f = some r) (k : ∀ y, f y = some r → WG (KC D cA cL h Z) p l e (rmD d0) st m args below meth c Q nL s q lv (.int y :: rest)) : WG (KC D cA cL h Z) p l e (rmD d0) st m args below meth c Q nL s pc lv (.int x3 :: .int x2 :: .int x1 :: rest) := by
  obtain ⟨v, hv, hs⟩ := Bd_e hs
  exact cS_I (K := KC D cA cL h Z) X (n := 3) (k_X2_join hZ l D cA cL s x1 x2 x3 hv) wX2_join_X2 ⟨hd1, hd2⟩ ⟨by decide, by decide, by decide +kernel⟩ (As := [.int x1, .int x2, .int x3]) rfl hr rfl d hq (k _ hs)
def C_X2_reckon (s : ST) (x1 : Int32) (x2 : Int32) : Option (Int32 × ST) := Lt ((imx (0 : Int32) x1)) fun y1 => lpK3 (C := Int32 × ST) (fun (rec1 : Int32 → Int32 → ST → Option (Int32 × ST)) (a1 : Int32) (a2 : Int32) (s1 : ST) => Lt (Lt (s1.1 18 0) fun y2 => some (y2, s1) : Option (Int32 × ST)) fun j1 => if x2 ≤ a2 then (j1) else (if (400 : Int32) ≤ a2 then (j1) else (Gl s1 16 400 a2 fun y3 => Lt (fun (a3 : Int32) (s2 : ST) => (rec1 a3 (a2 + (1 : Int32)) s2 : Option (Int32 × ST))) fun j2 => if y3 ≤ (-9 : Int32) then (if y3 = (-18 : Int32) then (if a1 ≤ 0 then (j2 a1 s1) else (Gl s1 18 64 (a1 - (1 : Int32)) fun y7 => Gs s1 18 64 (a1 - (1 : Int32)) ((1 : Int32) - y7) fun s4 => j2 a1 s4)) else (if a1 ≤ (1 : Int32) then (j2 a1 s1) else (Gl s1 18 64 ((a1 + (-1 : Int32)) - (1 : Int32)) fun y4 => Gl s1 18 64 (a1 + (-1 : Int32)) fun y5 => Bd (C_X2_join s1 y3 y4 y5) fun y6 => Gs s1 18 64 ((a1 + (-1 : Int32)) - (1 : Int32)) y6 fun s3 => j2 (a1 + (-1 : Int32)) s3))) else (if (64 : Int32) ≤ a1 then (j2 a1 s1) else (Lt (fun (a4 : Int32) => (Gs s1 18 64 a1 a4 fun s5 => j2 (a1 + (1 : Int32)) s5 : Option (Int32 × ST))) fun j3 => if y3 < 0 then (Gl s1 17 8 ((-1 : Int32) - y3) fun y8 => j3 y8) else (j3 y3)))))) FU (0 : Int32) y1 s
set_option maxRecDepth 100000 in
set_option maxHeartbeats 4000000 in
theorem k_X2_reckon {h : Nat → Nat} {Z : State → Heap → Prop} {sa : Nat → Nat} (hZ : ZK h Z sa) (l : Launch) (D : va_G) (cA cL : ClassId) (s : ST) (x1 : Int32) (x2 : Int32) {o : Int32 × ST} (hs : C_X2_reckon s x1 x2 = some o) : MI l (KC D cA cL h Z) 2 yX2_reckon cX2_reckon 6 (some .int) s [.ref (h 13), .int x1, .int x2] o.1 o.2 := by
  refine met_i (by decide) (Nat.le_of_ble_eq_true rfl) ?_
  intro p e st m args below meth c Q X RI
  unfold C_X2_reckon at hs
  refine g_iconst X dX2_reckon_0 (q := 1) rfl li_i0 ?_
  refine g_istore_n X dX2_reckon_1 (q := 2) rfl (Nat.le_of_ble_eq_true rfl) (lv' := [(3, .int (0 : Int32)), (0, .ref (h 13)), (1, .int x1), (2, .int x2)]) rfl ?_
  refine g_iconst X dX2_reckon_2 (q := 3) rfl li_i0 ?_
  refine g_iload_n X dX2_reckon_3 (q := 4) rfl 2 rfl ?_
  refine cm_max X dX2_reckon_4 (q := 7) rfl ml_X2_66 (Nat.le_of_ble_eq_true rfl) (Nat.le_of_ble_eq_true rfl) (Nat.le_of_ble_eq_true rfl) ?_
  refine nmI hs (fun y1 hs => ?_)
  refine g_istore X dX2_reckon_7 (q := 9) rfl (Nat.le_of_ble_eq_true rfl) (lv' := [(4, .int y1), (3, .int (0 : Int32)), (0, .ref (h 13)), (1, .int x1), (2, .int x2)]) rfl ?_
  refine wg_sub [2, 4, 1, 0] rfl (lpW3 (fun (a1 : Int32) (a2 : Int32) (s1 : ST) => WG (KC D cA cL h Z) p l e (rmD 2) st m args below meth c Q 6 s1 9 [(0, .ref (h 13)), (2, .int x2), (3, .int a1), (4, .int a2)] []) (fun rec1 ih1 a1 a2 s1 hs => ?_) _ _ _ _ hs)
  refine g_iload X dX2_reckon_9 (q := 11) rfl 3 rfl ?_
  refine g_iload_n X dX2_reckon_11 (q := 12) rfl 1 rfl ?_
  refine jnW0 (WG (KC D cA cL h Z) p l e (rmD 2) st m args below meth c Q 6 s1 152 [(0, .ref (h 13))] []) hs (fun  hs => ?_) (fun j1 ih2 hs => ?_)
  · refine g_aload_n X dX2_reckon_152 (q := 153) rfl 0 rfl ?_
    refine cg_2_4 X dX2_reckon_153 (q := 156) rfl sh_13 lf_X2_27 ?_
    refine g_iconst X dX2_reckon_156 (q := 157) rfl li_i0 ?_
    refine ca_ldk X dX2_reckon_157 (q := 158) rfl 18 sh_18 rfl (j := 0) (by decide) (by decide) hs (fun y2 hs => ?_)
    exact RI _ 158 _ _ _ (rU1 hs) rfl (rV1 hs) dX2_reckon_158
  refine g_icmp_ge X dX2_reckon_12 (q := 15) rfl (tgt := 152) (by decide) hs ?_ ?_
  · intro hs
    exact wg_sub [0] rfl (ih2 hs)
  · intro hs
    refine g_iload X dX2_reckon_15 (q := 17) rfl 3 rfl ?_
    refine g_sipush X dX2_reckon_17 (q := 20) rfl li_s400 ?_
    refine g_icmp_ge X dX2_reckon_20 (q := 23) rfl (tgt := 152) (by decide) hs ?_ ?_
    · intro hs
      exact wg_sub [0] rfl (ih2 hs)
    · intro hs
      refine g_aload_n X dX2_reckon_23 (q := 24) rfl 0 rfl ?_
      refine cg_2_1 X dX2_reckon_24 (q := 27) rfl sh_13 lf_X2_20 ?_
      refine g_iload X dX2_reckon_27 (q := 29) rfl 3 rfl ?_
      refine ca_ld X dX2_reckon_29 (q := 30) rfl 16 sh_16 rfl hs (fun y3 hs => ?_)
      refine g_istore X dX2_reckon_30 (q := 32) rfl (Nat.le_of_ble_eq_true rfl) (lv' := [(5, .int y3), (0, .ref (h 13)), (2, .int x2), (3, .int a1), (4, .int a2)]) rfl ?_
      refine g_iload X dX2_reckon_32 (q := 34) rfl 0 rfl ?_
      refine g_bipush X dX2_reckon_34 (q := 36) rfl li_bm9 ?_
      refine jnW2 (fun (a3 : Int32) (s2 : ST) => WG (KC D cA cL h Z) p l e (rmD 2) st m args below meth c Q 6 s2 146 [(0, .ref (h 13)), (2, .int x2), (3, .int a3), (4, .int a2)] []) hs (fun a3 s2 hs => ?_) (fun j2 ih3 hs => ?_)
      · refine g_iinc X dX2_reckon_146 (q := 149) rfl 3 rfl (v := (a2 + (1 : Int32))) (congrArg (HAdd.hAdd a2) li_i1) (Nat.le_of_ble_eq_true rfl) (lv' := [(4, .int (a2 + (1 : Int32))), (0, .ref (h 13)), (2, .int x2), (3, .int a3)]) rfl ?_
        refine g_goto X dX2_reckon_149 (tgt := 9) (by decide) ?_
        exact wg_sub [1, 2, 3, 0] rfl (ih1 _ _ _ hs)
      refine g_icmp_le X dX2_reckon_36 (q := 39) rfl (tgt := 79) (by decide) hs ?_ ?_
      · intro hs
        refine g_iload X dX2_reckon_79 (q := 81) rfl 0 rfl ?_
        refine g_bipush X dX2_reckon_81 (q := 83) rfl li_bm18 ?_
        refine g_icmp_ne X dX2_reckon_83 (q := 86) rfl (tgt := 111) (by decide) hs ?_ ?_
        · intro hs
          refine g_iload_n X dX2_reckon_111 (q := 112) rfl 3 rfl ?_
          refine g_iconst X dX2_reckon_112 (q := 113) rfl li_i1 ?_
          refine g_icmp_le X dX2_reckon_113 (q := 116) rfl (tgt := 146) (by decide) hs ?_ ?_
          · intro hs
            exact wg_sub [1, 2, 3, 4] rfl (ih3 _ _ hs)
          · intro hs
            refine g_iinc X dX2_reckon_116 (q := 119) rfl 3 rfl (v := (a1 + (-1 : Int32))) (congrArg (HAdd.hAdd a1) li_im1) (Nat.le_of_ble_eq_true rfl) (lv' := [(3, .int (a1 + (-1 : Int32))), (5, .int y3), (0, .ref (h 13)), (2, .int x2), (4, .int a2)]) rfl ?_
            refine g_aload_n X dX2_reckon_119 (q := 120) rfl 2 rfl ?_
            refine cg_2_4 X dX2_reckon_120 (q := 123) rfl sh_13 lf_X2_27 ?_
            refine g_iload_n X dX2_reckon_123 (q := 124) rfl 0 rfl ?_
            refine g_iconst X dX2_reckon_124 (q := 125) rfl li_i1 ?_
            refine g_isub X dX2_reckon_125 (q := 126) rfl ?_
            refine g_iload X dX2_reckon_126 (q := 128) rfl 1 rfl ?_
            refine g_aload_n X dX2_reckon_128 (q := 129) rfl 2 rfl ?_
            refine cg_2_4 X dX2_reckon_129 (q := 132) rfl sh_13 lf_X2_27 ?_
            refine g_iload_n X dX2_reckon_132 (q := 133) rfl 0 rfl ?_
            refine g_iconst X dX2_reckon_133 (q := 134) rfl li_i1 ?_
            refine g_isub X dX2_reckon_134 (q := 135) rfl ?_
            refine ca_ld X dX2_reckon_135 (q := 136) rfl 18 sh_18 rfl hs (fun y4 hs => ?_)
            refine g_aload_n X dX2_reckon_136 (q := 137) rfl 2 rfl ?_
            refine cg_2_4 X dX2_reckon_137 (q := 140) rfl sh_13 lf_X2_27 ?_
            refine g_iload_n X dX2_reckon_140 (q := 141) rfl 0 rfl ?_
            refine ca_ld X dX2_reckon_141 (q := 142) rfl 18 sh_18 rfl hs (fun y5 hs => ?_)
            refine vc_X2_join_X2 hZ X dX2_reckon_142 (q := 145) rfl (Nat.le_of_ble_eq_true rfl) (Nat.le_of_ble_eq_true rfl) (Nat.le_of_ble_eq_true rfl) hs (fun y6 hs => ?_)
            refine ca_st X dX2_reckon_145 (q := 146) rfl 18 sh_18 rfl hs (fun s3 hs => ?_)
            exact wg_sub [2, 3, 0, 4] rfl (ih3 _ _ hs)
        · intro hs
          refine g_iload_n X dX2_reckon_86 (q := 87) rfl 3 rfl ?_
          refine g_if_le X dX2_reckon_87 (q := 90) rfl (tgt := 146) (by decide) hs ?_ ?_
          · intro hs
            exact wg_sub [1, 2, 3, 4] rfl (ih3 _ _ hs)
          · intro hs
            refine g_aload_n X dX2_reckon_90 (q := 91) rfl 1 rfl ?_
            refine cg_2_4 X dX2_reckon_91 (q := 94) rfl sh_13 lf_X2_27 ?_
            refine g_iload_n X dX2_reckon_94 (q := 95) rfl 3 rfl ?_
            refine g_iconst X dX2_reckon_95 (q := 96) rfl li_i1 ?_
            refine g_isub X dX2_reckon_96 (q := 97) rfl ?_
            refine g_iconst X dX2_reckon_97 (q := 98) rfl li_i1 ?_
            refine g_aload_n X dX2_reckon_98 (q := 99) rfl 1 rfl ?_
            refine cg_2_4 X dX2_reckon_99 (q := 102) rfl sh_13 lf_X2_27 ?_
            refine g_iload_n X dX2_reckon_102 (q := 103) rfl 3 rfl ?_
            refine g_iconst X dX2_reckon_103 (q := 104) rfl li_i1 ?_
            refine g_isub X dX2_reckon_104 (q := 105) rfl ?_
            refine ca_ld X dX2_reckon_105 (q := 106) rfl 18 sh_18 rfl hs (fun y7 hs => ?_)
            refine g_isub X dX2_reckon_106 (q := 107) rfl ?_
            refine ca_st X dX2_reckon_107 (q := 108) rfl 18 sh_18 rfl hs (fun s4 hs => ?_)
            refine g_goto X dX2_reckon_108 (tgt := 146) (by decide) ?_
            exact wg_sub [1, 2, 3, 4] rfl (ih3 _ _ hs)
      · intro hs
        refine g_iload_n X dX2_reckon_39 (q := 40) rfl 3 rfl ?_
        refine g_aload_n X dX2_reckon_40 (q := 41) rfl 1 rfl ?_
        refine cg_2_4 X dX2_reckon_41 (q := 44) rfl sh_13 lf_X2_27 ?_
        refine ca_len X dX2_reckon_44 (q := 45) rfl 18 sh_18 rfl (v := (64 : Int32)) (by decide) ?_
        refine g_icmp_ge X dX2_reckon_45 (q := 48) rfl (tgt := 146) (by decide) hs ?_ ?_
        · intro hs
          exact wg_sub [1, 2, 3, 4] rfl (ih3 _ _ hs)
        · intro hs
          refine g_aload_n X dX2_reckon_48 (q := 49) rfl 1 rfl ?_
          refine cg_2_4 X dX2_reckon_49 (q := 52) rfl sh_13 lf_X2_27 ?_
          refine g_iload_n X dX2_reckon_52 (q := 53) rfl 3 rfl ?_
          refine g_iload X dX2_reckon_53 (q := 55) rfl 0 rfl ?_
          refine jnW1 (fun (a4 : Int32) => WG (KC D cA cL h Z) p l e (rmD 2) st m args below meth c Q 6 s1 72 [(0, .ref (h 13)), (2, .int x2), (3, .int a1), (4, .int a2)] [.int a4, .int a1, .ref (h 18)]) hs (fun a4 hs => ?_) (fun j3 ih4 hs => ?_)
          · refine ca_st X dX2_reckon_72 (q := 73) rfl 18 sh_18 rfl hs (fun s5 hs => ?_)
            refine g_iinc X dX2_reckon_73 (q := 76) rfl 2 rfl (v := (a1 + (1 : Int32))) (congrArg (HAdd.hAdd a1) li_i1) (Nat.le_of_ble_eq_true rfl) (lv' := [(3, .int (a1 + (1 : Int32))), (0, .ref (h 13)), (2, .int x2), (4, .int a2)]) rfl ?_
            refine g_goto X dX2_reckon_76 (tgt := 146) (by decide) ?_
            exact wg_sub [1, 2, 0, 3] rfl (ih3 _ _ hs)
          refine g_if_lt X dX2_reckon_55 (q := 58) rfl (tgt := 63) (by decide) hs ?_ ?_
          · intro hs
            refine g_aload_n X dX2_reckon_63 (q := 64) rfl 1 rfl ?_
            refine cg_2_3 X dX2_reckon_64 (q := 67) rfl sh_13 lf_X2_24 ?_
            refine g_iconst X dX2_reckon_67 (q := 68) rfl li_im1 ?_
            refine g_iload X dX2_reckon_68 (q := 70) rfl 0 rfl ?_
            refine g_isub X dX2_reckon_70 (q := 71) rfl ?_
            refine ca_ld X dX2_reckon_71 (q := 72) rfl 17 sh_17 rfl hs (fun y8 hs => ?_)
            exact wg_sub [1, 2, 3, 4] rfl (ih4 _ hs)
          · intro hs
            refine g_iload X dX2_reckon_58 (q := 60) rfl 0 rfl ?_
            refine g_goto X dX2_reckon_60 (tgt := 72) (by decide) ?_
            exact wg_sub [1, 2, 3, 4] rfl (ih4 _ hs)
theorem dX2_ask_0 : decode cX2_ask 0 = .ok (.aload_n 0, 1) := by decide +kernel
theorem dX2_ask_1 : decode cX2_ask 1 = .ok (.aload_n 2, 1) := by decide +kernel
theorem dX2_ask_2 : decode cX2_ask 2 = .ok (.iload_n 3, 1) := by decide +kernel
theorem dX2_ask_3 : decode cX2_ask 3 = .ok (.iload 4, 2) := by decide +kernel
theorem dX2_ask_5 : decode cX2_ask 5 = .ok (.iload 5, 2) := by decide +kernel
theorem dX2_ask_7 : decode cX2_ask 7 = .ok (.invokevirtual 47, 3) := by decide +kernel
theorem dX2_ask_10 : decode cX2_ask 10 = .ok (.iload_n 1, 1) := by decide +kernel
theorem dX2_ask_11 : decode cX2_ask 11 = .ok (.ifCond .ne 16, 3) := by decide +kernel
theorem dX2_ask_14 : decode cX2_ask 14 = .ok (.iconst 1, 1) := by decide +kernel
theorem dX2_ask_15 : decode cX2_ask 15 = .ok (.aload_n 0, 1) := by decide +kernel
theorem dX2_ask_16 : decode cX2_ask 16 = .ok (.getfield 24, 3) := by decide +kernel
theorem dX2_ask_19 : decode cX2_ask 19 = .ok (.iconst 1, 1) := by decide +kernel
theorem dX2_ask_20 : decode cX2_ask 20 = .ok (.iaload, 1) := by decide +kernel
theorem dX2_ask_21 : decode cX2_ask 21 = .ok (.iconst 2, 1) := by decide +kernel
theorem dX2_ask_22 : decode cX2_ask 22 = .ok (.idiv, 1) := by decide +kernel
theorem dX2_ask_23 : decode cX2_ask 23 = .ok (.iadd, 1) := by decide +kernel
theorem dX2_ask_24 : decode cX2_ask 24 = .ok (.goto 10, 3) := by decide +kernel
theorem dX2_ask_27 : decode cX2_ask 27 = .ok (.aload_n 0, 1) := by decide +kernel
theorem dX2_ask_28 : decode cX2_ask 28 = .ok (.getfield 24, 3) := by decide +kernel
theorem dX2_ask_31 : decode cX2_ask 31 = .ok (.bipush 7, 2) := by decide +kernel
theorem dX2_ask_33 : decode cX2_ask 33 = .ok (.iaload, 1) := by decide +kernel
theorem dX2_ask_34 : decode cX2_ask 34 = .ok (.istore 6, 2) := by decide +kernel
theorem dX2_ask_36 : decode cX2_ask 36 = .ok (.iconst 0, 1) := by decide +kernel
theorem dX2_ask_37 : decode cX2_ask 37 = .ok (.istore 7, 2) := by decide +kernel
theorem dX2_ask_39 : decode cX2_ask 39 = .ok (.iload 7, 2) := by decide +kernel
theorem dX2_ask_41 : decode cX2_ask 41 = .ok (.aload_n 0, 1) := by decide +kernel
theorem dX2_ask_42 : decode cX2_ask 42 = .ok (.getfield 14, 3) := by decide +kernel
theorem dX2_ask_45 : decode cX2_ask 45 = .ok (.getfield 51, 3) := by decide +kernel
theorem dX2_ask_48 : decode cX2_ask 48 = .ok (.if_icmp .ge 86, 3) := by decide +kernel
theorem dX2_ask_51 : decode cX2_ask 51 = .ok (.aload_n 0, 1) := by decide +kernel
theorem dX2_ask_52 : decode cX2_ask 52 = .ok (.getfield 14, 3) := by decide +kernel
theorem dX2_ask_55 : decode cX2_ask 55 = .ok (.iload 7, 2) := by decide +kernel
theorem dX2_ask_57 : decode cX2_ask 57 = .ok (.iconst 2, 1) := by decide +kernel
theorem dX2_ask_58 : decode cX2_ask 58 = .ok (.invokevirtual 54, 3) := by decide +kernel
theorem dX2_ask_61 : decode cX2_ask 61 = .ok (.istore 8, 2) := by decide +kernel
theorem dX2_ask_63 : decode cX2_ask 63 = .ok (.aload_n 0, 1) := by decide +kernel
theorem dX2_ask_64 : decode cX2_ask 64 = .ok (.getfield 14, 3) := by decide +kernel
theorem dX2_ask_67 : decode cX2_ask 67 = .ok (.iload 7, 2) := by decide +kernel
theorem dX2_ask_69 : decode cX2_ask 69 = .ok (.iconst 3, 1) := by decide +kernel
theorem dX2_ask_70 : decode cX2_ask 70 = .ok (.invokevirtual 54, 3) := by decide +kernel
theorem dX2_ask_73 : decode cX2_ask 73 = .ok (.istore 9, 2) := by decide +kernel
theorem dX2_ask_75 : decode cX2_ask 75 = .ok (.aload_n 0, 1) := by decide +kernel
theorem dX2_ask_76 : decode cX2_ask 76 = .ok (.getfield 14, 3) := by decide +kernel
theorem dX2_ask_79 : decode cX2_ask 79 = .ok (.iload 7, 2) := by decide +kernel
theorem dX2_ask_81 : decode cX2_ask 81 = .ok (.iconst 0, 1) := by decide +kernel
theorem dX2_ask_82 : decode cX2_ask 82 = .ok (.invokevirtual 54, 3) := by decide +kernel
theorem dX2_ask_85 : decode cX2_ask 85 = .ok (.iload_n 1, 1) := by decide +kernel
theorem dX2_ask_86 : decode cX2_ask 86 = .ok (.if_icmp .ne 42, 3) := by decide +kernel
theorem dX2_ask_89 : decode cX2_ask 89 = .ok (.iload 8, 2) := by decide +kernel
theorem dX2_ask_91 : decode cX2_ask 91 = .ok (.iload 9, 2) := by decide +kernel
theorem dX2_ask_93 : decode cX2_ask 93 = .ok (.if_icmp .eq 14, 3) := by decide +kernel
theorem dX2_ask_96 : decode cX2_ask 96 = .ok (.aload_n 0, 1) := by decide +kernel
theorem dX2_ask_97 : decode cX2_ask 97 = .ok (.iload 8, 2) := by decide +kernel
theorem dX2_ask_99 : decode cX2_ask 99 = .ok (.iload 9, 2) := by decide +kernel
theorem dX2_ask_101 : decode cX2_ask 101 = .ok (.invokevirtual 58, 3) := by decide +kernel
theorem dX2_ask_104 : decode cX2_ask 104 = .ok (.ifCond .eq 24, 3) := by decide +kernel
theorem dX2_ask_107 : decode cX2_ask 107 = .ok (.aload_n 0, 1) := by decide +kernel
theorem dX2_ask_108 : decode cX2_ask 108 = .ok (.aload_n 0, 1) := by decide +kernel
theorem dX2_ask_109 : decode cX2_ask 109 = .ok (.getfield 14, 3) := by decide +kernel
theorem dX2_ask_112 : decode cX2_ask 112 = .ok (.iload 7, 2) := by decide +kernel
theorem dX2_ask_114 : decode cX2_ask 114 = .ok (.iconst 1, 1) := by decide +kernel
theorem dX2_ask_115 : decode cX2_ask 115 = .ok (.invokevirtual 54, 3) := by decide +kernel
theorem dX2_ask_118 : decode cX2_ask 118 = .ok (.iload 8, 2) := by decide +kernel
theorem dX2_ask_120 : decode cX2_ask 120 = .ok (.invokevirtual 58, 3) := by decide +kernel
theorem dX2_ask_123 : decode cX2_ask 123 = .ok (.istore 6, 2) := by decide +kernel
theorem dX2_ask_125 : decode cX2_ask 125 = .ok (.goto 9, 3) := by decide +kernel
theorem dX2_ask_128 : decode cX2_ask 128 = .ok (.iinc 7 1, 3) := by decide +kernel
theorem dX2_ask_131 : decode cX2_ask 131 = .ok (.goto (-92), 3) := by decide +kernel
theorem dX2_ask_134 : decode cX2_ask 134 = .ok (.iconst 0, 1) := by decide +kernel
theorem dX2_ask_135 : decode cX2_ask 135 = .ok (.iload 6, 2) := by decide +kernel
theorem dX2_ask_137 : decode cX2_ask 137 = .ok (.iload_n 1, 1) := by decide +kernel
theorem dX2_ask_138 : decode cX2_ask 138 = .ok (.ifCond .ne 8, 3) := by decide +kernel
theorem dX2_ask_141 : decode cX2_ask 141 = .ok (.bipush 9, 2) := by decide +kernel
theorem dX2_ask_143 : decode cX2_ask 143 = .ok (.goto 5, 3) := by decide +kernel
theorem dX2_ask_146 : decode cX2_ask 146 = .ok (.bipush 99, 2) := by decide +kernel
theorem dX2_ask_148 : decode cX2_ask 148 = .ok (.invokestatic 61, 3) := by decide +kernel
theorem dX2_ask_151 : decode cX2_ask 151 = .ok (.invokestatic 66, 3) := by decide +kernel
theorem dX2_ask_154 : decode cX2_ask 154 = .ok (.ireturn, 1) := by decide +kernel
theorem wX2_observe_X2 : GoodIn GT (wsV RX2 47 RX2 yX2_observe (.code yX2_observe cX2_observe 6 none :: GT)) := gt_V (gt_of 1000 (by decide +kernel) rfl) (gt_of 1002 (by decide +kernel) rfl) (gt_of 65 (by decide +kernel) rfl) (gt_of 201 (by decide +kernel) rfl) (gt_of 1003 (by decide +kernel) rfl)
theorem vc_X2_observe_X2 {p : Program} {l : Launch} {e : Env} {st : State} {m : MethodId} {args : Array Value} {below : List Frame} {meth : Method} {c : Code} {Q : State → Prop} {nL : Nat} {cc : ByteArray} {s : ST} {pc q : Nat} {lv : List (Nat × Value)} {rest : List Value} {D : va_G} {cA cL : ClassId} {h : Nat → Nat} {Z : State → Heap → Prop} {sa : Nat → Nat} (hZ : ZK h Z sa) {d0 : Nat} (X : Cx (KC D cA cL h Z) p st m args meth c cc nL RX2) {x1 : Nat} {x2 : Int32} {x3 : Int32} {x4 : Int32} (d : decode cc pc = .ok (.invokevirtual 47, 3)) (hq : pc + 3 = q) (hx1 : isK 1 x1) (hd1 : 3 + 1 ≤ d0) (hd2 : 8 + (6 + 11) + 100 * 3 ≤ 100 * d0) (hr : (rest.map fun v => v.category).sum ≤ 8) {B : Type} {f : ST → Option B} {r : B} (hs : Bd (C_X2_observe s x1 x2 x3 x4) f = some r) (k : ∀ y, f y = some r → WG (KC D cA cL h Z) p l e (rmD d0) st m args below meth c Q nL y q lv (rest)) : WG (KC D cA cL h Z) p l e (rmD d0) st m args below meth c Q nL s pc lv (.int x4 :: .int x3 :: .int x2 :: .ref (h x1) :: .ref (h 13) :: rest) := by
  obtain ⟨v, hv, hs⟩ := Bd_e hs
  exact cV_V (K := KC D cA cL h Z) X 13 (n := 4) (k_X2_observe hZ l D cA cL s x1 x2 x3 x4 hx1 hv) wX2_observe_X2 ⟨hd1, hd2⟩ ⟨by decide, by decide, by decide +kernel⟩ (As := [.ref (h x1), .int x2, .int x3, .int x4]) rfl hr (sh_13).1 (fs := cF2 h 13 (s.1 13) (s.2 13)) (GC_2 (cA := cA) (cL := cL) sh_13 _ _) rfl rfl d hq (k _ hs)
theorem wX2_reckon_X2 : GoodIn GT (wsV RX2 58 RX2 yX2_reckon (.code yX2_reckon cX2_reckon 6 (some .int) :: GT)) := gt_V (gt_of 1020 (by decide +kernel) rfl) (gt_of 1022 (by decide +kernel) rfl) (gt_of 67 (by decide +kernel) rfl) (gt_of 201 (by decide +kernel) rfl) (gt_of 1023 (by decide +kernel) rfl)
theorem vc_X2_reckon_X2 {p : Program} {l : Launch} {e : Env} {st : State} {m : MethodId} {args : Array Value} {below : List Frame} {meth : Method} {c : Code} {Q : State → Prop} {nL : Nat} {cc : ByteArray} {s : ST} {pc q : Nat} {lv : List (Nat × Value)} {rest : List Value} {D : va_G} {cA cL : ClassId} {h : Nat → Nat} {Z : State → Heap → Prop} {sa : Nat → Nat} (hZ : ZK h Z sa) {d0 : Nat} (X : Cx (KC D cA cL h Z) p st m args meth c cc nL RX2) {x1 : Int32} {x2 : Int32} (d : decode cc pc = .ok (.invokevirtual 58, 3)) (hq : pc + 3 = q) (hd1 : 2 + 1 ≤ d0) (hd2 : 8 + (6 + 11) + 100 * 2 ≤ 100 * d0) (hr : (rest.map fun v => v.category).sum ≤ 8) {B : Type} {f : Int32 × ST → Option B} {r : B} (hs : Bd (C_X2_reckon s x1 x2) f = some r) (k : ∀ y, f y = some r → WG (KC D cA cL h Z) p l e (rmD d0) st m args below meth c Q nL y.2 q lv (.int y.1 :: rest)) : WG (KC D cA cL h Z) p l e (rmD d0) st m args below meth c Q nL s pc lv (.int x2 :: .int x1 :: .ref (h 13) :: rest) := by
  obtain ⟨v, hv, hs⟩ := Bd_e hs
  exact cV_I (K := KC D cA cL h Z) X 13 (n := 2) (k_X2_reckon hZ l D cA cL s x1 x2 hv) wX2_reckon_X2 ⟨hd1, hd2⟩ ⟨by decide, by decide, by decide +kernel⟩ (As := [.int x1, .int x2]) rfl hr (sh_13).1 (fs := cF2 h 13 (s.1 13) (s.2 13)) (GC_2 (cA := cA) (cL := cL) sh_13 _ _) rfl rfl d hq (k _ hs)
theorem wX4_of_X2 : Cond.methodLinkNest RX2 54 yX4_of "StormSeeds" ∈ NW := nw_of 1019 (by decide +kernel) rfl
theorem vc_X4_of_X2 {p : Program} {l : Launch} {e : Env} {st : State} {m : MethodId} {args : Array Value} {below : List Frame} {meth : Method} {c : Code} {Q : State → Prop} {nL : Nat} {cc : ByteArray} {s : ST} {pc q : Nat} {lv : List (Nat × Value)} {rest : List Value} {D : va_G} {cA cL : ClassId} {h : Nat → Nat} {Z : State → Heap → Prop} {sa : Nat → Nat} (hZ : ZK h Z sa) {d0 : Nat} (X : Cx (KC D cA cL h Z) p st m args meth c cc nL RX2) {b0 : Nat} {x1 : Int32} {x2 : Int32} (d : decode cc pc = .ok (.invokevirtual 54, 3)) (hq : pc + 3 = q) (hb0 : isK 4 b0) (hd1 : 2 + 1 ≤ d0) (hd2 : 8 + (3 + 11) + 100 * 2 ≤ 100 * d0) (hr : (rest.map fun v => v.category).sum ≤ 8) {B : Type} {f : Int32 → Option B} {r : B} (hs : Bd (C_X4_of s b0 x1 x2) f = some r) (k : ∀ y, f y = some r → WG (KC D cA cL h Z) p l e (rmD d0) st m args below meth c Q nL s q lv (.int y :: rest)) : WG (KC D cA cL h Z) p l e (rmD d0) st m args below meth c Q nL s pc lv (.int x2 :: .int x1 :: .ref (h b0) :: rest) := by
  obtain ⟨v, hv, hs⟩ := Bd_e hs
  exact cVN_I (K := KC D cA cL h Z) X b0 (n := 2) (k_X4_of hZ l D cA cL s b0 x1 x2 hb0 hv) (gt_c (gt_of 987 (by decide +kernel) rfl) gt_t) (hZ.1 st st.heap X.2.2.2 _ wX4_of_X2) (gt_of 199 (by decide +kernel) rfl) (gt_of 986 (by decide +kernel) rfl) (gt_of 62 (by decide +kernel) rfl) ⟨hd1, hd2⟩ ⟨by decide, by decide, by decide +kernel⟩ (As := [.int x1, .int x2]) rfl hr (hb0).1 (fs := cF4 h b0 (s.1 b0) (s.2 b0)) (GC_4 (cA := cA) (cL := cL) hb0 _ _) rfl rfl d hq (k _ hs)
def C_X2_ask (s : ST) (x1 : Int32) (x2 : Nat) (x3 : Int32) (x4 : Int32) (x5 : Int32) : Option (Int32 × ST) := Bd (C_X2_observe s x2 x3 x4 x5) fun s1 => Lt (fun (a1 : Int32) => (lpK2 (C := Int32 × ST) (fun (rec1 : Int32 → ST → Option (Int32 × ST)) (a2 : Int32) (s2 : ST) => Lt (fun (a3 : Int32) (s3 : ST) => (Lt (fun (a4 : Int32) => (some ((imx (0 : Int32) (imn a3 a4)), s3) : Option (Int32 × ST))) fun j3 => if x1 = 0 then (j3 (9 : Int32)) else (j3 (99 : Int32)) : Option (Int32 × ST))) fun j2 => if (s2.1 14 2) ≤ a2 then (j2 a1 s2) else (Bd (C_X4_of s2 14 a2 (2 : Int32)) fun y1 => Bd (C_X4_of s2 14 a2 (3 : Int32)) fun y2 => Bd (C_X4_of s2 14 a2 (0 : Int32)) fun y3 => Lt (fun (s4 : ST) => (rec1 (a2 + (1 : Int32)) s4 : Option (Int32 × ST))) fun j4 => if y3 = x1 then (Lt (fun (s5 : ST) => (Bd (C_X4_of s5 14 a2 (1 : Int32)) fun y4 => Bd (C_X2_reckon s5 y4 y1) fun y5 => j2 y5.1 y5.2 : Option (Int32 × ST))) fun j5 => if y1 = y2 then (j5 s2) else (Bd (C_X2_reckon s2 y1 y2) fun y6 => if y6.1 = 0 then (j4 y6.2) else (j5 y6.2))) else (j4 s2))) FU (0 : Int32) s1 : Option (Int32 × ST))) fun j1 => if x1 = 0 then (Lt (s1.1 17 1) fun y8 => j1 ((1 : Int32) + (y8 / (2 : Int32)))) else (Lt (s1.1 17 7) fun y7 => j1 y7)
set_option maxRecDepth 100000 in
set_option maxHeartbeats 4000000 in
theorem k_X2_ask {h : Nat → Nat} {Z : State → Heap → Prop} {sa : Nat → Nat} (hZ : ZK h Z sa) (l : Launch) (D : va_G) (cA cL : ClassId) (s : ST) (x1 : Int32) (x2 : Nat) (x3 : Int32) (x4 : Int32) (x5 : Int32) (hx2 : isK 1 x2) {o : Int32 × ST} (hs : C_X2_ask s x1 x2 x3 x4 x5 = some o) : MI l (KC D cA cL h Z) 4 yX2_ask cX2_ask 10 (some .int) s [.ref (h 13), .int x1, .ref (h x2), .int x3, .int x4, .int x5] o.1 o.2 := by
  refine met_i (by decide) (Nat.le_of_ble_eq_true rfl) ?_
  intro p e st m args below meth c Q X RI
  unfold C_X2_ask at hs
  refine g_aload_n X dX2_ask_0 (q := 1) rfl 0 rfl ?_
  refine g_aload_n X dX2_ask_1 (q := 2) rfl 2 rfl ?_
  refine g_iload_n X dX2_ask_2 (q := 3) rfl 3 rfl ?_
  refine g_iload X dX2_ask_3 (q := 5) rfl 4 rfl ?_
  refine g_iload X dX2_ask_5 (q := 7) rfl 5 rfl ?_
  refine vc_X2_observe_X2 hZ X dX2_ask_7 (q := 10) rfl hx2 (Nat.le_of_ble_eq_true rfl) (Nat.le_of_ble_eq_true rfl) (Nat.le_of_ble_eq_true rfl) hs (fun s1 hs => ?_)
  refine g_iload_n X dX2_ask_10 (q := 11) rfl 1 rfl ?_
  refine jnW1 (fun (a1 : Int32) => WG (KC D cA cL h Z) p l e (rmD 4) st m args below meth c Q 10 s1 34 [(0, .ref (h 13)), (1, .int x1)] [.int a1]) hs (fun a1 hs => ?_) (fun j1 ih1 hs => ?_)
  · refine g_istore X dX2_ask_34 (q := 36) rfl (Nat.le_of_ble_eq_true rfl) (lv' := [(6, .int a1), (0, .ref (h 13)), (1, .int x1)]) rfl ?_
    refine g_iconst X dX2_ask_36 (q := 37) rfl li_i0 ?_
    refine g_istore X dX2_ask_37 (q := 39) rfl (Nat.le_of_ble_eq_true rfl) (lv' := [(7, .int (0 : Int32)), (6, .int a1), (0, .ref (h 13)), (1, .int x1)]) rfl ?_
    refine wg_sub [2, 3, 1, 0] rfl (lpW2 (fun (a2 : Int32) (s2 : ST) => WG (KC D cA cL h Z) p l e (rmD 4) st m args below meth c Q 10 s2 39 [(0, .ref (h 13)), (1, .int x1), (6, .int a1), (7, .int a2)] []) (fun rec1 ih2 a2 s2 hs => ?_) _ _ _ hs)
    refine g_iload X dX2_ask_39 (q := 41) rfl 3 rfl ?_
    refine g_aload_n X dX2_ask_41 (q := 42) rfl 0 rfl ?_
    refine cg_2_0 X dX2_ask_42 (q := 45) rfl sh_13 lf_X2_14 ?_
    refine cgN_4_2 hZ X dX2_ask_45 (q := 48) rfl sh_14 lf_X2_51 ?_
    refine jnW2 (fun (a3 : Int32) (s3 : ST) => WG (KC D cA cL h Z) p l e (rmD 4) st m args below meth c Q 10 s3 134 [(1, .int x1), (6, .int a3)] []) hs (fun a3 s3 hs => ?_) (fun j2 ih3 hs => ?_)
    · refine g_iconst X dX2_ask_134 (q := 135) rfl li_i0 ?_
      refine g_iload X dX2_ask_135 (q := 137) rfl 1 rfl ?_
      refine g_iload_n X dX2_ask_137 (q := 138) rfl 0 rfl ?_
      refine jnW1 (fun (a4 : Int32) => WG (KC D cA cL h Z) p l e (rmD 4) st m args below meth c Q 10 s3 148 [] [.int a4, .int a3, .int (0 : Int32)]) hs (fun a4 hs => ?_) (fun j3 ih4 hs => ?_)
      · refine cm_min X dX2_ask_148 (q := 151) rfl ml_X2_61 (Nat.le_of_ble_eq_true rfl) (Nat.le_of_ble_eq_true rfl) (Nat.le_of_ble_eq_true rfl) ?_
        refine cm_max X dX2_ask_151 (q := 154) rfl ml_X2_66 (Nat.le_of_ble_eq_true rfl) (Nat.le_of_ble_eq_true rfl) (Nat.le_of_ble_eq_true rfl) ?_
        exact RI _ 154 _ _ _ (rU1 hs) rfl (rV1 hs) dX2_ask_154
      refine g_if_ne X dX2_ask_138 (q := 141) rfl (tgt := 146) (by decide) hs ?_ ?_
      · intro hs
        refine g_bipush X dX2_ask_146 (q := 148) rfl li_b99 ?_
        exact wg_sub [] rfl (ih4 _ hs)
      · intro hs
        refine g_bipush X dX2_ask_141 (q := 143) rfl li_b9 ?_
        refine g_goto X dX2_ask_143 (tgt := 148) (by decide) ?_
        exact wg_sub [] rfl (ih4 _ hs)
    refine g_icmp_ge X dX2_ask_48 (q := 51) rfl (tgt := 134) (by decide) hs ?_ ?_
    · intro hs
      exact wg_sub [1, 2] rfl (ih3 _ _ hs)
    · intro hs
      refine g_aload_n X dX2_ask_51 (q := 52) rfl 0 rfl ?_
      refine cg_2_0 X dX2_ask_52 (q := 55) rfl sh_13 lf_X2_14 ?_
      refine g_iload X dX2_ask_55 (q := 57) rfl 3 rfl ?_
      refine g_iconst X dX2_ask_57 (q := 58) rfl li_i2 ?_
      refine vc_X4_of_X2 hZ X dX2_ask_58 (q := 61) rfl sh_14 (Nat.le_of_ble_eq_true rfl) (Nat.le_of_ble_eq_true rfl) (Nat.le_of_ble_eq_true rfl) hs (fun y1 hs => ?_)
      refine g_istore X dX2_ask_61 (q := 63) rfl (Nat.le_of_ble_eq_true rfl) (lv' := [(8, .int y1), (0, .ref (h 13)), (1, .int x1), (6, .int a1), (7, .int a2)]) rfl ?_
      refine g_aload_n X dX2_ask_63 (q := 64) rfl 1 rfl ?_
      refine cg_2_0 X dX2_ask_64 (q := 67) rfl sh_13 lf_X2_14 ?_
      refine g_iload X dX2_ask_67 (q := 69) rfl 4 rfl ?_
      refine g_iconst X dX2_ask_69 (q := 70) rfl li_i3 ?_
      refine vc_X4_of_X2 hZ X dX2_ask_70 (q := 73) rfl sh_14 (Nat.le_of_ble_eq_true rfl) (Nat.le_of_ble_eq_true rfl) (Nat.le_of_ble_eq_true rfl) hs (fun y2 hs => ?_)
      refine g_istore X dX2_ask_73 (q := 75) rfl (Nat.le_of_ble_eq_true rfl) (lv' := [(9, .int y2), (8, .int y1), (0, .ref (h 13)), (1, .int x1), (6, .int a1), (7, .int a2)]) rfl ?_
      refine g_aload_n X dX2_ask_75 (q := 76) rfl 2 rfl ?_
      refine cg_2_0 X dX2_ask_76 (q := 79) rfl sh_13 lf_X2_14 ?_
      refine g_iload X dX2_ask_79 (q := 81) rfl 5 rfl ?_
      refine g_iconst X dX2_ask_81 (q := 82) rfl li_i0 ?_
      refine vc_X4_of_X2 hZ X dX2_ask_82 (q := 85) rfl sh_14 (Nat.le_of_ble_eq_true rfl) (Nat.le_of_ble_eq_true rfl) (Nat.le_of_ble_eq_true rfl) hs (fun y3 hs => ?_)
      refine g_iload_n X dX2_ask_85 (q := 86) rfl 3 rfl ?_
      refine jnW1 (fun (s4 : ST) => WG (KC D cA cL h Z) p l e (rmD 4) st m args below meth c Q 10 s4 128 [(0, .ref (h 13)), (1, .int x1), (6, .int a1), (7, .int a2)] []) hs (fun s4 hs => ?_) (fun j4 ih5 hs => ?_)
      · refine g_iinc X dX2_ask_128 (q := 131) rfl 3 rfl (v := (a2 + (1 : Int32))) (congrArg (HAdd.hAdd a2) li_i1) (Nat.le_of_ble_eq_true rfl) (lv' := [(7, .int (a2 + (1 : Int32))), (0, .ref (h 13)), (1, .int x1), (6, .int a1)]) rfl ?_
        refine g_goto X dX2_ask_131 (tgt := 39) (by decide) ?_
        exact wg_sub [1, 2, 3, 0] rfl (ih2 _ _ hs)
      refine g_icmp_ne X dX2_ask_86 (q := 89) rfl (tgt := 128) (by decide) hs ?_ ?_
      · intro hs
        exact wg_sub [2, 3, 4, 5] rfl (ih5 _ hs)
      · intro hs
        refine g_iload X dX2_ask_89 (q := 91) rfl 1 rfl ?_
        refine g_iload X dX2_ask_91 (q := 93) rfl 0 rfl ?_
        refine jnW1 (fun (s5 : ST) => WG (KC D cA cL h Z) p l e (rmD 4) st m args below meth c Q 10 s5 107 [(0, .ref (h 13)), (1, .int x1), (7, .int a2), (8, .int y1)] []) hs (fun s5 hs => ?_) (fun j5 ih6 hs => ?_)
        · refine g_aload_n X dX2_ask_107 (q := 108) rfl 0 rfl ?_
          refine g_aload_n X dX2_ask_108 (q := 109) rfl 0 rfl ?_
          refine cg_2_0 X dX2_ask_109 (q := 112) rfl sh_13 lf_X2_14 ?_
          refine g_iload X dX2_ask_112 (q := 114) rfl 2 rfl ?_
          refine g_iconst X dX2_ask_114 (q := 115) rfl li_i1 ?_
          refine vc_X4_of_X2 hZ X dX2_ask_115 (q := 118) rfl sh_14 (Nat.le_of_ble_eq_true rfl) (Nat.le_of_ble_eq_true rfl) (Nat.le_of_ble_eq_true rfl) hs (fun y4 hs => ?_)
          refine g_iload X dX2_ask_118 (q := 120) rfl 3 rfl ?_
          refine vc_X2_reckon_X2 hZ X dX2_ask_120 (q := 123) rfl (Nat.le_of_ble_eq_true rfl) (Nat.le_of_ble_eq_true rfl) (Nat.le_of_ble_eq_true rfl) hs (fun y5 hs => ?_)
          refine g_istore X dX2_ask_123 (q := 125) rfl (Nat.le_of_ble_eq_true rfl) (lv' := [(6, .int y5.1), (0, .ref (h 13)), (1, .int x1), (7, .int a2), (8, .int y1)]) rfl ?_
          refine g_goto X dX2_ask_125 (tgt := 134) (by decide) ?_
          exact wg_sub [2, 0] rfl (ih3 _ _ hs)
        refine g_icmp_eq X dX2_ask_93 (q := 96) rfl (tgt := 107) (by decide) hs ?_ ?_
        · intro hs
          exact wg_sub [2, 3, 5, 1] rfl (ih6 _ hs)
        · intro hs
          refine g_aload_n X dX2_ask_96 (q := 97) rfl 2 rfl ?_
          refine g_iload X dX2_ask_97 (q := 99) rfl 1 rfl ?_
          refine g_iload X dX2_ask_99 (q := 101) rfl 0 rfl ?_
          refine vc_X2_reckon_X2 hZ X dX2_ask_101 (q := 104) rfl (Nat.le_of_ble_eq_true rfl) (Nat.le_of_ble_eq_true rfl) (Nat.le_of_ble_eq_true rfl) hs (fun y6 hs => ?_)
          refine g_if_eq X dX2_ask_104 (q := 107) rfl (tgt := 128) (by decide) hs ?_ ?_
          · intro hs
            exact wg_sub [2, 3, 4, 5] rfl (ih5 _ hs)
          · intro hs
            exact wg_sub [2, 3, 5, 1] rfl (ih6 _ hs)
  refine g_if_ne X dX2_ask_11 (q := 14) rfl (tgt := 27) (by decide) hs ?_ ?_
  · intro hs
    refine g_aload_n X dX2_ask_27 (q := 28) rfl 0 rfl ?_
    refine cg_2_3 X dX2_ask_28 (q := 31) rfl sh_13 lf_X2_24 ?_
    refine g_bipush X dX2_ask_31 (q := 33) rfl li_b7 ?_
    refine ca_ldk X dX2_ask_33 (q := 34) rfl 17 sh_17 rfl (j := 7) (by decide) (by decide) hs (fun y7 hs => ?_)
    exact wg_sub [0, 1] rfl (ih1 _ hs)
  · intro hs
    refine g_iconst X dX2_ask_14 (q := 15) rfl li_i1 ?_
    refine g_aload_n X dX2_ask_15 (q := 16) rfl 0 rfl ?_
    refine cg_2_3 X dX2_ask_16 (q := 19) rfl sh_13 lf_X2_24 ?_
    refine g_iconst X dX2_ask_19 (q := 20) rfl li_i1 ?_
    refine ca_ldk X dX2_ask_20 (q := 21) rfl 17 sh_17 rfl (j := 1) (by decide) (by decide) hs (fun y8 hs => ?_)
    refine g_iconst X dX2_ask_21 (q := 22) rfl li_i2 ?_
    refine g_idiv X dX2_ask_22 (q := 23) rfl (by decide) ?_
    refine g_iadd X dX2_ask_23 (q := 24) rfl ?_
    refine g_goto X dX2_ask_24 (tgt := 34) (by decide) ?_
    exact wg_sub [0, 1] rfl (ih1 _ hs)
