theorem dX10_meets_0 : decode cX10_meets 0 = .ok (.aload_n 0, 1) := by decide +kernel
theorem dX10_meets_1 : decode cX10_meets 1 = .ok (.iconst 0, 1) := by decide +kernel
theorem dX10_meets_2 : decode cX10_meets 2 = .ok (.putfield 83, 3) := by decide +kernel
theorem dX10_meets_5 : decode cX10_meets 5 = .ok (.aload_n 0, 1) := by decide +kernel
theorem dX10_meets_6 : decode cX10_meets 6 = .ok (.iload_n 1, 1) := by decide +kernel
theorem dX10_meets_7 : decode cX10_meets 7 = .ok (.iconst 0, 1) := by decide +kernel
theorem dX10_meets_8 : decode cX10_meets 8 = .ok (.iconst 1, 1) := by decide +kernel
theorem dX10_meets_9 : decode cX10_meets 9 = .ok (.invokevirtual 111, 3) := by decide +kernel
theorem dX10_meets_12 : decode cX10_meets 12 = .ok (.ifCond .ne 5, 3) := by decide +kernel
theorem dX10_meets_15 : decode cX10_meets 15 = .ok (.iconst (-1), 1) := by decide +kernel
theorem dX10_meets_16 : decode cX10_meets 16 = .ok (.ireturn, 1) := by decide +kernel
theorem dX10_meets_17 : decode cX10_meets 17 = .ok (.iconst 0, 1) := by decide +kernel
theorem dX10_meets_18 : decode cX10_meets 18 = .ok (.istore_n 2, 1) := by decide +kernel
theorem dX10_meets_19 : decode cX10_meets 19 = .ok (.iconst (-1), 1) := by decide +kernel
theorem dX10_meets_20 : decode cX10_meets 20 = .ok (.istore_n 3, 1) := by decide +kernel
theorem dX10_meets_21 : decode cX10_meets 21 = .ok (.aload_n 0, 1) := by decide +kernel
theorem dX10_meets_22 : decode cX10_meets 22 = .ok (.invokevirtual 428, 3) := by decide +kernel
theorem dX10_meets_25 : decode cX10_meets 25 = .ok (.istore 4, 2) := by decide +kernel
theorem dX10_meets_27 : decode cX10_meets 27 = .ok (.aload_n 0, 1) := by decide +kernel
theorem dX10_meets_28 : decode cX10_meets 28 = .ok (.invokevirtual 412, 3) := by decide +kernel
theorem dX10_meets_31 : decode cX10_meets 31 = .ok (.aload_n 0, 1) := by decide +kernel
theorem dX10_meets_32 : decode cX10_meets 32 = .ok (.getfield 7, 3) := by decide +kernel
theorem dX10_meets_35 : decode cX10_meets 35 = .ok (.iconst 0, 1) := by decide +kernel
theorem dX10_meets_36 : decode cX10_meets 36 = .ok (.iaload, 1) := by decide +kernel
theorem dX10_meets_37 : decode cX10_meets 37 = .ok (.iload 4, 2) := by decide +kernel
theorem dX10_meets_39 : decode cX10_meets 39 = .ok (.if_icmp .gt 83, 3) := by decide +kernel
theorem dX10_meets_42 : decode cX10_meets 42 = .ok (.aload_n 0, 1) := by decide +kernel
theorem dX10_meets_43 : decode cX10_meets 43 = .ok (.iconst 1, 1) := by decide +kernel
theorem dX10_meets_44 : decode cX10_meets 44 = .ok (.invokevirtual 396, 3) := by decide +kernel
theorem dX10_meets_47 : decode cX10_meets 47 = .ok (.pop, 1) := by decide +kernel
theorem dX10_meets_48 : decode cX10_meets 48 = .ok (.iconst 0, 1) := by decide +kernel
theorem dX10_meets_49 : decode cX10_meets 49 = .ok (.istore 5, 2) := by decide +kernel
theorem dX10_meets_51 : decode cX10_meets 51 = .ok (.iload 5, 2) := by decide +kernel
theorem dX10_meets_53 : decode cX10_meets 53 = .ok (.aload_n 0, 1) := by decide +kernel
theorem dX10_meets_54 : decode cX10_meets 54 = .ok (.getfield 124, 3) := by decide +kernel
theorem dX10_meets_57 : decode cX10_meets 57 = .ok (.if_icmp .ge 58, 3) := by decide +kernel
theorem dX10_meets_60 : decode cX10_meets 60 = .ok (.aload_n 0, 1) := by decide +kernel
theorem dX10_meets_61 : decode cX10_meets 61 = .ok (.iload 5, 2) := by decide +kernel
theorem dX10_meets_63 : decode cX10_meets 63 = .ok (.iconst 2, 1) := by decide +kernel
theorem dX10_meets_64 : decode cX10_meets 64 = .ok (.invokevirtual 425, 3) := by decide +kernel
theorem dX10_meets_67 : decode cX10_meets 67 = .ok (.aload_n 0, 1) := by decide +kernel
theorem dX10_meets_68 : decode cX10_meets 68 = .ok (.getfield 7, 3) := by decide +kernel
theorem dX10_meets_71 : decode cX10_meets 71 = .ok (.iconst 0, 1) := by decide +kernel
theorem dX10_meets_72 : decode cX10_meets 72 = .ok (.iaload, 1) := by decide +kernel
theorem dX10_meets_73 : decode cX10_meets 73 = .ok (.if_icmp .eq 6, 3) := by decide +kernel
theorem dX10_meets_76 : decode cX10_meets 76 = .ok (.goto 33, 3) := by decide +kernel
theorem dX10_meets_79 : decode cX10_meets 79 = .ok (.aload_n 0, 1) := by decide +kernel
theorem dX10_meets_80 : decode cX10_meets 80 = .ok (.iload 5, 2) := by decide +kernel
theorem dX10_meets_82 : decode cX10_meets 82 = .ok (.invokevirtual 431, 3) := by decide +kernel
theorem dX10_meets_85 : decode cX10_meets 85 = .ok (.ifCond .eq 16, 3) := by decide +kernel
theorem dX10_meets_88 : decode cX10_meets 88 = .ok (.iload_n 2, 1) := by decide +kernel
theorem dX10_meets_89 : decode cX10_meets 89 = .ok (.aload_n 0, 1) := by decide +kernel
theorem dX10_meets_90 : decode cX10_meets 90 = .ok (.iload 5, 2) := by decide +kernel
theorem dX10_meets_92 : decode cX10_meets 92 = .ok (.iconst 3, 1) := by decide +kernel
theorem dX10_meets_93 : decode cX10_meets 93 = .ok (.invokevirtual 425, 3) := by decide +kernel
theorem dX10_meets_96 : decode cX10_meets 96 = .ok (.iadd, 1) := by decide +kernel
theorem dX10_meets_97 : decode cX10_meets 97 = .ok (.istore_n 2, 1) := by decide +kernel
theorem dX10_meets_98 : decode cX10_meets 98 = .ok (.goto 11, 3) := by decide +kernel
theorem dX10_meets_101 : decode cX10_meets 101 = .ok (.iload_n 3, 1) := by decide +kernel
theorem dX10_meets_102 : decode cX10_meets 102 = .ok (.iconst (-1), 1) := by decide +kernel
theorem dX10_meets_103 : decode cX10_meets 103 = .ok (.if_icmp .ne 6, 3) := by decide +kernel
theorem dX10_meets_106 : decode cX10_meets 106 = .ok (.iload 5, 2) := by decide +kernel
theorem dX10_meets_108 : decode cX10_meets 108 = .ok (.istore_n 3, 1) := by decide +kernel
theorem dX10_meets_109 : decode cX10_meets 109 = .ok (.iinc 5 1, 3) := by decide +kernel
theorem dX10_meets_112 : decode cX10_meets 112 = .ok (.goto (-61), 3) := by decide +kernel
theorem dX10_meets_115 : decode cX10_meets 115 = .ok (.aload_n 0, 1) := by decide +kernel
theorem dX10_meets_116 : decode cX10_meets 116 = .ok (.invokevirtual 400, 3) := by decide +kernel
theorem dX10_meets_119 : decode cX10_meets 119 = .ok (.goto (-88), 3) := by decide +kernel
theorem dX10_meets_122 : decode cX10_meets 122 = .ok (.aload_n 0, 1) := by decide +kernel
theorem dX10_meets_123 : decode cX10_meets 123 = .ok (.invokevirtual 422, 3) := by decide +kernel
theorem dX10_meets_126 : decode cX10_meets 126 = .ok (.iload_n 1, 1) := by decide +kernel
theorem dX10_meets_127 : decode cX10_meets 127 = .ok (.ifCond .ne 7, 3) := by decide +kernel
theorem dX10_meets_130 : decode cX10_meets 130 = .ok (.iload_n 2, 1) := by decide +kernel
theorem dX10_meets_131 : decode cX10_meets 131 = .ok (.goto 4, 3) := by decide +kernel
theorem dX10_meets_134 : decode cX10_meets 134 = .ok (.iload_n 3, 1) := by decide +kernel
theorem dX10_meets_135 : decode cX10_meets 135 = .ok (.ireturn, 1) := by decide +kernel
def M_meets (s : ST) (x1 : Int32) : Option (Int32 × ST) := Lt (ups s 0 0 (0 : Int32)) fun s1 => Lt (M_isIn s1 x1 (0 : Int32) (1 : Int32)) fun y1 => if y1 = 0 then (some ((-1 : Int32), s1)) else (Bd (M_lastWanted s1) fun y2 => Bd (M_thinks s1) fun s2 => lpK3 (C := Int32 × ST) (fun (rec1 : Int32 → Int32 → ST → Option (Int32 × ST)) (a1 : Int32) (a2 : Int32) (s3 : ST) => Lt (s3.1 1 0) fun y3 => if y2 < y3 then (Bd (M_endsThought s3) fun s4 => if x1 = 0 then (some (a1, s4)) else (some (a2, s4))) else (Bd (M_goesIn s3 (1 : Int32)) fun y4 => lpK3 (C := Int32 × ST) (fun (rec2 : Int32 → Int32 → Int32 → Option (Int32 × ST)) (a3 : Int32) (a4 : Int32) (a5 : Int32) => if (y4.2.1 0 40) ≤ a5 then (Bd (M_goesOut y4.2) fun s5 => rec1 a3 a4 s5) else (Bd (M_ofWant y4.2 a5 (2 : Int32)) fun y5 => Lt (y4.2.1 1 0) fun y6 => Lt (fun (a6 : Int32) (a7 : Int32) => (rec2 a6 a7 (a5 + (1 : Int32)) : Option (Int32 × ST))) fun j1 => if y5 = y6 then (Bd (M_isMet y4.2 a5) fun y7 => if y7 = 0 then (if a4 = (-1 : Int32) then (j1 a3 a5) else (j1 a3 a4)) else (Bd (M_ofWant y4.2 a5 (3 : Int32)) fun y8 => Lt ((a3 + y8)) fun y9 => j1 y9 a4)) else (j1 a3 a4))) FU a1 a2 (0 : Int32))) FU (0 : Int32) (-1 : Int32) s2)
set_option maxRecDepth 100000 in
set_option maxHeartbeats 4000000 in
theorem k_meets (l : Launch) (D : va_G) (cA : ClassId) (h : Nat → Nat) (s : ST) (x1 : Int32) {o : Int32 × ST} (hs : M_meets s x1 = some o) : MI l (KM D cA h) 9 yX10_meets cX10_meets 6 (some .int) s [.ref (h 0), .int x1] o.1 o.2 := by
  refine met_i (by decide) (Nat.le_of_ble_eq_true rfl) ?_
  intro p e st m args below meth c Q X RI
  unfold M_meets at hs
  refine g_aload_n X dX10_meets_0 (q := 1) rfl 0 rfl ?_
  refine g_iconst X dX10_meets_1 (q := 2) rfl li_i0 ?_
  refine mp_0 X dX10_meets_2 (q := 5) rfl hs (fun s1 hs => ?_)
  refine g_aload_n X dX10_meets_5 (q := 6) rfl 0 rfl ?_
  refine g_iload_n X dX10_meets_6 (q := 7) rfl 1 rfl ?_
  refine g_iconst X dX10_meets_7 (q := 8) rfl li_i0 ?_
  refine g_iconst X dX10_meets_8 (q := 9) rfl li_i1 ?_
  refine v_isIn X dX10_meets_9 (q := 12) rfl (Nat.le_of_ble_eq_true rfl) (Nat.le_of_ble_eq_true rfl) (Nat.le_of_ble_eq_true rfl) hs (fun y1 hs => ?_)
  refine g_if_ne X dX10_meets_12 (q := 15) rfl (tgt := 17) (by decide) hs ?_ ?_
  · intro hs
    refine g_iconst X dX10_meets_17 (q := 18) rfl li_i0 ?_
    refine g_istore_n X dX10_meets_18 (q := 19) rfl (Nat.le_of_ble_eq_true rfl) (lv' := [(2, .int (0 : Int32)), (0, .ref (h 0)), (1, .int x1)]) rfl ?_
    refine g_iconst X dX10_meets_19 (q := 20) rfl li_im1 ?_
    refine g_istore_n X dX10_meets_20 (q := 21) rfl (Nat.le_of_ble_eq_true rfl) (lv' := [(3, .int (-1 : Int32)), (2, .int (0 : Int32)), (0, .ref (h 0)), (1, .int x1)]) rfl ?_
    refine g_aload_n X dX10_meets_21 (q := 22) rfl 2 rfl ?_
    refine v_lastWanted X dX10_meets_22 (q := 25) rfl (Nat.le_of_ble_eq_true rfl) (Nat.le_of_ble_eq_true rfl) (Nat.le_of_ble_eq_true rfl) hs (fun y2 hs => ?_)
    refine g_istore X dX10_meets_25 (q := 27) rfl (Nat.le_of_ble_eq_true rfl) (lv' := [(4, .int y2), (3, .int (-1 : Int32)), (2, .int (0 : Int32)), (0, .ref (h 0)), (1, .int x1)]) rfl ?_
    refine g_aload_n X dX10_meets_27 (q := 28) rfl 3 rfl ?_
    refine v_thinks X dX10_meets_28 (q := 31) rfl (Nat.le_of_ble_eq_true rfl) (Nat.le_of_ble_eq_true rfl) (Nat.le_of_ble_eq_true rfl) hs (fun s2 hs => ?_)
    refine wg_sub [3, 4, 2, 1, 0] rfl (lpW3 (fun (a1 : Int32) (a2 : Int32) (s3 : ST) => WG (KM D cA h) p l e (rmD 9) st m args below meth c Q 6 s3 31 [(0, .ref (h 0)), (1, .int x1), (2, .int a1), (3, .int a2), (4, .int y2)] []) (fun rec1 ih1 a1 a2 s3 hs => ?_) _ _ _ _ hs)
    refine g_aload_n X dX10_meets_31 (q := 32) rfl 0 rfl ?_
    refine mg_1 X dX10_meets_32 (q := 35) rfl ?_
    refine g_iconst X dX10_meets_35 (q := 36) rfl li_i0 ?_
    refine mk_1 X dX10_meets_36 (q := 37) rfl (j := 0) (by decide) (by decide) hs (fun y3 hs => ?_)
    refine g_iload X dX10_meets_37 (q := 39) rfl 4 rfl ?_
    refine g_icmp_gt X dX10_meets_39 (q := 42) rfl (tgt := 122) (by decide) hs ?_ ?_
    · intro hs
      refine g_aload_n X dX10_meets_122 (q := 123) rfl 0 rfl ?_
      refine v_endsThought X dX10_meets_123 (q := 126) rfl (Nat.le_of_ble_eq_true rfl) (Nat.le_of_ble_eq_true rfl) (Nat.le_of_ble_eq_true rfl) hs (fun s4 hs => ?_)
      refine g_iload_n X dX10_meets_126 (q := 127) rfl 1 rfl ?_
      refine g_if_ne X dX10_meets_127 (q := 130) rfl (tgt := 134) (by decide) hs ?_ ?_
      · intro hs
        refine g_iload_n X dX10_meets_134 (q := 135) rfl 3 rfl ?_
        exact RI _ 135 _ _ _ (rU1 hs) rfl (rV1 hs) dX10_meets_135
      · intro hs
        refine g_iload_n X dX10_meets_130 (q := 131) rfl 2 rfl ?_
        refine g_goto X dX10_meets_131 (tgt := 135) (by decide) ?_
        exact RI _ 135 _ _ _ (rU1 hs) rfl (rV1 hs) dX10_meets_135
    · intro hs
      refine g_aload_n X dX10_meets_42 (q := 43) rfl 0 rfl ?_
      refine g_iconst X dX10_meets_43 (q := 44) rfl li_i1 ?_
      refine v_goesIn X dX10_meets_44 (q := 47) rfl (Nat.le_of_ble_eq_true rfl) (Nat.le_of_ble_eq_true rfl) (Nat.le_of_ble_eq_true rfl) hs (fun y4 hs => ?_)
      refine g_pop X dX10_meets_47 (q := 48) rfl rfl ?_
      refine g_iconst X dX10_meets_48 (q := 49) rfl li_i0 ?_
      refine g_istore X dX10_meets_49 (q := 51) rfl (Nat.le_of_ble_eq_true rfl) (lv' := [(5, .int (0 : Int32)), (0, .ref (h 0)), (1, .int x1), (2, .int a1), (3, .int a2), (4, .int y2)]) rfl ?_
      refine wg_sub [1, 2, 3, 4, 5, 0] rfl (lpW3 (fun (a3 : Int32) (a4 : Int32) (a5 : Int32) => WG (KM D cA h) p l e (rmD 9) st m args below meth c Q 6 y4.2 51 [(0, .ref (h 0)), (1, .int x1), (2, .int a3), (3, .int a4), (4, .int y2), (5, .int a5)] []) (fun rec2 ih2 a3 a4 a5 hs => ?_) _ _ _ _ hs)
      refine g_iload X dX10_meets_51 (q := 53) rfl 5 rfl ?_
      refine g_aload_n X dX10_meets_53 (q := 54) rfl 0 rfl ?_
      refine mg_40 X dX10_meets_54 (q := 57) rfl ?_
      refine g_icmp_ge X dX10_meets_57 (q := 60) rfl (tgt := 115) (by decide) hs ?_ ?_
      · intro hs
        refine g_aload_n X dX10_meets_115 (q := 116) rfl 0 rfl ?_
        refine v_goesOut X dX10_meets_116 (q := 119) rfl (Nat.le_of_ble_eq_true rfl) (Nat.le_of_ble_eq_true rfl) (Nat.le_of_ble_eq_true rfl) hs (fun s5 hs => ?_)
        refine g_goto X dX10_meets_119 (tgt := 31) (by decide) ?_
        exact wg_sub [0, 1, 2, 3, 4] rfl (ih1 _ _ _ hs)
      · intro hs
        refine g_aload_n X dX10_meets_60 (q := 61) rfl 0 rfl ?_
        refine g_iload X dX10_meets_61 (q := 63) rfl 5 rfl ?_
        refine g_iconst X dX10_meets_63 (q := 64) rfl li_i2 ?_
        refine v_ofWant X dX10_meets_64 (q := 67) rfl (Nat.le_of_ble_eq_true rfl) (Nat.le_of_ble_eq_true rfl) (Nat.le_of_ble_eq_true rfl) hs (fun y5 hs => ?_)
        refine g_aload_n X dX10_meets_67 (q := 68) rfl 0 rfl ?_
        refine mg_1 X dX10_meets_68 (q := 71) rfl ?_
        refine g_iconst X dX10_meets_71 (q := 72) rfl li_i0 ?_
        refine mk_1 X dX10_meets_72 (q := 73) rfl (j := 0) (by decide) (by decide) hs (fun y6 hs => ?_)
        refine jnW2 (fun (a6 : Int32) (a7 : Int32) => WG (KM D cA h) p l e (rmD 9) st m args below meth c Q 6 y4.2 109 [(0, .ref (h 0)), (1, .int x1), (2, .int a6), (3, .int a7), (4, .int y2), (5, .int a5)] []) hs (fun a6 a7 hs => ?_) (fun j1 ih3 hs => ?_)
        · refine g_iinc X dX10_meets_109 (q := 112) rfl 5 rfl (v := (a5 + (1 : Int32))) (congrArg (HAdd.hAdd a5) li_i1) (Nat.le_of_ble_eq_true rfl) (lv' := [(5, .int (a5 + (1 : Int32))), (0, .ref (h 0)), (1, .int x1), (2, .int a6), (3, .int a7), (4, .int y2)]) rfl ?_
          refine g_goto X dX10_meets_112 (tgt := 51) (by decide) ?_
          exact wg_sub [1, 2, 3, 4, 5, 0] rfl (ih2 _ _ _ hs)
        refine g_icmp_eq X dX10_meets_73 (q := 76) rfl (tgt := 79) (by decide) hs ?_ ?_
        · intro hs
          refine g_aload_n X dX10_meets_79 (q := 80) rfl 0 rfl ?_
          refine g_iload X dX10_meets_80 (q := 82) rfl 5 rfl ?_
          refine v_isMet X dX10_meets_82 (q := 85) rfl (Nat.le_of_ble_eq_true rfl) (Nat.le_of_ble_eq_true rfl) (Nat.le_of_ble_eq_true rfl) hs (fun y7 hs => ?_)
          refine g_if_eq X dX10_meets_85 (q := 88) rfl (tgt := 101) (by decide) hs ?_ ?_
          · intro hs
            refine g_iload_n X dX10_meets_101 (q := 102) rfl 3 rfl ?_
            refine g_iconst X dX10_meets_102 (q := 103) rfl li_im1 ?_
            refine g_icmp_ne X dX10_meets_103 (q := 106) rfl (tgt := 109) (by decide) hs ?_ ?_
            · intro hs
              exact wg_sub [0, 1, 2, 3, 4, 5] rfl (ih3 _ _ hs)
            · intro hs
              refine g_iload X dX10_meets_106 (q := 108) rfl 5 rfl ?_
              refine g_istore_n X dX10_meets_108 (q := 109) rfl (Nat.le_of_ble_eq_true rfl) (lv' := [(3, .int a5), (0, .ref (h 0)), (1, .int x1), (2, .int a3), (4, .int y2), (5, .int a5)]) rfl ?_
              exact wg_sub [1, 2, 3, 0, 4, 5] rfl (ih3 _ _ hs)
          · intro hs
            refine g_iload_n X dX10_meets_88 (q := 89) rfl 2 rfl ?_
            refine g_aload_n X dX10_meets_89 (q := 90) rfl 0 rfl ?_
            refine g_iload X dX10_meets_90 (q := 92) rfl 5 rfl ?_
            refine g_iconst X dX10_meets_92 (q := 93) rfl li_i3 ?_
            refine v_ofWant X dX10_meets_93 (q := 96) rfl (Nat.le_of_ble_eq_true rfl) (Nat.le_of_ble_eq_true rfl) (Nat.le_of_ble_eq_true rfl) hs (fun y8 hs => ?_)
            refine g_iadd X dX10_meets_96 (q := 97) rfl ?_
            refine nmI hs (fun y9 hs => ?_)
            refine g_istore_n X dX10_meets_97 (q := 98) rfl (Nat.le_of_ble_eq_true rfl) (lv' := [(2, .int y9), (0, .ref (h 0)), (1, .int x1), (3, .int a4), (4, .int y2), (5, .int a5)]) rfl ?_
            refine g_goto X dX10_meets_98 (tgt := 109) (by decide) ?_
            exact wg_sub [1, 2, 0, 3, 4, 5] rfl (ih3 _ _ hs)
        · intro hs
          refine g_goto X dX10_meets_76 (tgt := 109) (by decide) ?_
          exact wg_sub [0, 1, 2, 3, 4, 5] rfl (ih3 _ _ hs)
  · intro hs
    refine g_iconst X dX10_meets_15 (q := 16) rfl li_im1 ?_
    exact RI _ 16 _ _ _ (rU1 hs) rfl (rV1 hs) dX10_meets_16
theorem dX10_isMetBy_0 : decode cX10_isMetBy 0 = .ok (.aload_n 0, 1) := by decide +kernel
theorem dX10_isMetBy_1 : decode cX10_isMetBy 1 = .ok (.iload_n 2, 1) := by decide +kernel
theorem dX10_isMetBy_2 : decode cX10_isMetBy 2 = .ok (.iload_n 3, 1) := by decide +kernel
theorem dX10_isMetBy_3 : decode cX10_isMetBy 3 = .ok (.iconst 0, 1) := by decide +kernel
theorem dX10_isMetBy_4 : decode cX10_isMetBy 4 = .ok (.invokevirtual 339, 3) := by decide +kernel
theorem dX10_isMetBy_7 : decode cX10_isMetBy 7 = .ok (.aload_n 0, 1) := by decide +kernel
theorem dX10_isMetBy_8 : decode cX10_isMetBy 8 = .ok (.aload_n 0, 1) := by decide +kernel
theorem dX10_isMetBy_9 : decode cX10_isMetBy 9 = .ok (.iload_n 1, 1) := by decide +kernel
theorem dX10_isMetBy_10 : decode cX10_isMetBy 10 = .ok (.iconst 2, 1) := by decide +kernel
theorem dX10_isMetBy_11 : decode cX10_isMetBy 11 = .ok (.invokevirtual 425, 3) := by decide +kernel
theorem dX10_isMetBy_14 : decode cX10_isMetBy 14 = .ok (.aload_n 0, 1) := by decide +kernel
theorem dX10_isMetBy_15 : decode cX10_isMetBy 15 = .ok (.getfield 7, 3) := by decide +kernel
theorem dX10_isMetBy_18 : decode cX10_isMetBy 18 = .ok (.iconst 0, 1) := by decide +kernel
theorem dX10_isMetBy_19 : decode cX10_isMetBy 19 = .ok (.iaload, 1) := by decide +kernel
theorem dX10_isMetBy_20 : decode cX10_isMetBy 20 = .ok (.isub, 1) := by decide +kernel
theorem dX10_isMetBy_21 : decode cX10_isMetBy 21 = .ok (.iconst 1, 1) := by decide +kernel
theorem dX10_isMetBy_22 : decode cX10_isMetBy 22 = .ok (.iadd, 1) := by decide +kernel
theorem dX10_isMetBy_23 : decode cX10_isMetBy 23 = .ok (.invokevirtual 415, 3) := by decide +kernel
theorem dX10_isMetBy_26 : decode cX10_isMetBy 26 = .ok (.aload_n 0, 1) := by decide +kernel
theorem dX10_isMetBy_27 : decode cX10_isMetBy 27 = .ok (.aload_n 0, 1) := by decide +kernel
theorem dX10_isMetBy_28 : decode cX10_isMetBy 28 = .ok (.getfield 7, 3) := by decide +kernel
theorem dX10_isMetBy_31 : decode cX10_isMetBy 31 = .ok (.iconst 4, 1) := by decide +kernel
theorem dX10_isMetBy_32 : decode cX10_isMetBy 32 = .ok (.iaload, 1) := by decide +kernel
theorem dX10_isMetBy_33 : decode cX10_isMetBy 33 = .ok (.aload_n 0, 1) := by decide +kernel
theorem dX10_isMetBy_34 : decode cX10_isMetBy 34 = .ok (.getfield 16, 3) := by decide +kernel
theorem dX10_isMetBy_37 : decode cX10_isMetBy 37 = .ok (.iconst 4, 1) := by decide +kernel
theorem dX10_isMetBy_38 : decode cX10_isMetBy 38 = .ok (.iaload, 1) := by decide +kernel
theorem dX10_isMetBy_39 : decode cX10_isMetBy 39 = .ok (.isub, 1) := by decide +kernel
theorem dX10_isMetBy_40 : decode cX10_isMetBy 40 = .ok (.putfield 434, 3) := by decide +kernel
theorem dX10_isMetBy_43 : decode cX10_isMetBy 43 = .ok (.aload_n 0, 1) := by decide +kernel
theorem dX10_isMetBy_44 : decode cX10_isMetBy 44 = .ok (.iload_n 1, 1) := by decide +kernel
theorem dX10_isMetBy_45 : decode cX10_isMetBy 45 = .ok (.invokevirtual 431, 3) := by decide +kernel
theorem dX10_isMetBy_48 : decode cX10_isMetBy 48 = .ok (.istore 4, 2) := by decide +kernel
theorem dX10_isMetBy_50 : decode cX10_isMetBy 50 = .ok (.aload_n 0, 1) := by decide +kernel
theorem dX10_isMetBy_51 : decode cX10_isMetBy 51 = .ok (.invokevirtual 93, 3) := by decide +kernel
theorem dX10_isMetBy_54 : decode cX10_isMetBy 54 = .ok (.iload 4, 2) := by decide +kernel
theorem dX10_isMetBy_56 : decode cX10_isMetBy 56 = .ok (.ireturn, 1) := by decide +kernel
def M_isMetBy (s : ST) (x1 : Int32) (x2 : Int32) (x3 : Int32) : Option (Int32 × ST) := Bd (M_falls s x2 x3 (0 : Int32)) fun s1 => Bd (M_ofWant s1 x1 (2 : Int32)) fun y1 => Lt (s1.1 1 0) fun y2 => Bd (M_goesTo s1 ((y1 - y2) + (1 : Int32))) fun s2 => Lt (s2.1 1 4) fun y3 => Lt (s2.1 3 4) fun y4 => Lt (ups s2 0 46 (y3 - y4)) fun s3 => Bd (M_isMet s3 x1) fun y5 => Bd (M_thinksAnew s3) fun s4 => some ((y5 &&& 1), s4)
set_option maxRecDepth 100000 in
set_option maxHeartbeats 4000000 in
theorem k_isMetBy (l : Launch) (D : va_G) (cA : ClassId) (h : Nat → Nat) (s : ST) (x1 : Int32) (x2 : Int32) (x3 : Int32) {o : Int32 × ST} (hs : M_isMetBy s x1 x2 x3 = some o) : MI l (KM D cA h) 10 yX10_isMetBy cX10_isMetBy 5 (some .boolean) s [.ref (h 0), .int x1, .int x2, .int x3] o.1 o.2 := by
  refine met_i (by decide) (Nat.le_of_ble_eq_true rfl) ?_
  intro p e st m args below meth c Q X RI
  unfold M_isMetBy at hs
  refine g_aload_n X dX10_isMetBy_0 (q := 1) rfl 0 rfl ?_
  refine g_iload_n X dX10_isMetBy_1 (q := 2) rfl 2 rfl ?_
  refine g_iload_n X dX10_isMetBy_2 (q := 3) rfl 3 rfl ?_
  refine g_iconst X dX10_isMetBy_3 (q := 4) rfl li_i0 ?_
  refine v_falls X dX10_isMetBy_4 (q := 7) rfl (Nat.le_of_ble_eq_true rfl) (Nat.le_of_ble_eq_true rfl) (Nat.le_of_ble_eq_true rfl) hs (fun s1 hs => ?_)
  refine g_aload_n X dX10_isMetBy_7 (q := 8) rfl 0 rfl ?_
  refine g_aload_n X dX10_isMetBy_8 (q := 9) rfl 0 rfl ?_
  refine g_iload_n X dX10_isMetBy_9 (q := 10) rfl 1 rfl ?_
  refine g_iconst X dX10_isMetBy_10 (q := 11) rfl li_i2 ?_
  refine v_ofWant X dX10_isMetBy_11 (q := 14) rfl (Nat.le_of_ble_eq_true rfl) (Nat.le_of_ble_eq_true rfl) (Nat.le_of_ble_eq_true rfl) hs (fun y1 hs => ?_)
  refine g_aload_n X dX10_isMetBy_14 (q := 15) rfl 0 rfl ?_
  refine mg_1 X dX10_isMetBy_15 (q := 18) rfl ?_
  refine g_iconst X dX10_isMetBy_18 (q := 19) rfl li_i0 ?_
  refine mk_1 X dX10_isMetBy_19 (q := 20) rfl (j := 0) (by decide) (by decide) hs (fun y2 hs => ?_)
  refine g_isub X dX10_isMetBy_20 (q := 21) rfl ?_
  refine g_iconst X dX10_isMetBy_21 (q := 22) rfl li_i1 ?_
  refine g_iadd X dX10_isMetBy_22 (q := 23) rfl ?_
  refine v_goesTo X dX10_isMetBy_23 (q := 26) rfl (Nat.le_of_ble_eq_true rfl) (Nat.le_of_ble_eq_true rfl) (Nat.le_of_ble_eq_true rfl) hs (fun s2 hs => ?_)
  refine g_aload_n X dX10_isMetBy_26 (q := 27) rfl 0 rfl ?_
  refine g_aload_n X dX10_isMetBy_27 (q := 28) rfl 0 rfl ?_
  refine mg_1 X dX10_isMetBy_28 (q := 31) rfl ?_
  refine g_iconst X dX10_isMetBy_31 (q := 32) rfl li_i4 ?_
  refine mk_1 X dX10_isMetBy_32 (q := 33) rfl (j := 4) (by decide) (by decide) hs (fun y3 hs => ?_)
  refine g_aload_n X dX10_isMetBy_33 (q := 34) rfl 0 rfl ?_
  refine mg_4 X dX10_isMetBy_34 (q := 37) rfl ?_
  refine g_iconst X dX10_isMetBy_37 (q := 38) rfl li_i4 ?_
  refine mk_3 X dX10_isMetBy_38 (q := 39) rfl (j := 4) (by decide) (by decide) hs (fun y4 hs => ?_)
  refine g_isub X dX10_isMetBy_39 (q := 40) rfl ?_
  refine mp_46 X dX10_isMetBy_40 (q := 43) rfl hs (fun s3 hs => ?_)
  refine g_aload_n X dX10_isMetBy_43 (q := 44) rfl 0 rfl ?_
  refine g_iload_n X dX10_isMetBy_44 (q := 45) rfl 1 rfl ?_
  refine v_isMet X dX10_isMetBy_45 (q := 48) rfl (Nat.le_of_ble_eq_true rfl) (Nat.le_of_ble_eq_true rfl) (Nat.le_of_ble_eq_true rfl) hs (fun y5 hs => ?_)
  refine g_istore X dX10_isMetBy_48 (q := 50) rfl (Nat.le_of_ble_eq_true rfl) (lv' := [(4, .int y5), (0, .ref (h 0)), (1, .int x1), (2, .int x2), (3, .int x3)]) rfl ?_
  refine g_aload_n X dX10_isMetBy_50 (q := 51) rfl 1 rfl ?_
  refine v_thinksAnew X dX10_isMetBy_51 (q := 54) rfl (Nat.le_of_ble_eq_true rfl) (Nat.le_of_ble_eq_true rfl) (Nat.le_of_ble_eq_true rfl) hs (fun s4 hs => ?_)
  refine g_iload X dX10_isMetBy_54 (q := 56) rfl 0 rfl ?_
  exact RI _ 56 _ _ _ (rU1 hs) rfl (rV1 hs) dX10_isMetBy_56
theorem v_isMetBy {p : Program} {l : Launch} {e : Env} {st : State} {m : MethodId} {args : Array Value} {below : List Frame} {meth : Method} {c : Code} {Q : State → Prop} {nL : Nat} {cc : ByteArray} {s : ST} {pc q : Nat} {lv : List (Nat × Value)} {rest : List Value} {D : va_G} {cA : ClassId} {h : Nat → Nat} {d0 : Nat} (X : Cx (KM D cA h) p st m args meth c cc nL RX10) {x1 : Int32} {x2 : Int32} {x3 : Int32} (d : decode cc pc = .ok (.invokevirtual 437, 3)) (hq : pc + 3 = q) (hd1 : 10 + 1 ≤ d0) (hd2 : 8 + (5 + 11) + 100 * 10 ≤ 100 * d0) (hr : (rest.map fun v => v.category).sum ≤ 8) {B : Type} {f : Int32 × ST → Option B} {r : B} (hs : Bd (M_isMetBy s x1 x2 x3) f = some r) (k : ∀ y, f y = some r → WG (KM D cA h) p l e (rmD d0) st m args below meth c Q nL y.2 q lv (.int y.1 :: rest)) : WG (KM D cA h) p l e (rmD d0) st m args below meth c Q nL s pc lv (.int x3 :: .int x2 :: .int x1 :: .ref (h 0) :: rest) := by
  obtain ⟨v, hv, hs⟩ := Bd_e hs
  exact cV_I X 0 (n := 3) (k_isMetBy l D cA h s x1 x2 x3 hv) gv_X10_isMetBy ⟨hd1, hd2⟩ ⟨by decide, by decide, by decide +kernel⟩ (As := [.int x1, .int x2, .int x3]) rfl hr (Nat.le_of_ble_eq_true rfl) (fs := mF h (s.1 0)) rfl rfl rfl d hq (k _ hs)
theorem dX10_sows_0 : decode cX10_sows 0 = .ok (.aload_n 0, 1) := by decide +kernel
theorem dX10_sows_1 : decode cX10_sows 1 = .ok (.iconst 0, 1) := by decide +kernel
theorem dX10_sows_2 : decode cX10_sows 2 = .ok (.putfield 83, 3) := by decide +kernel
theorem dX10_sows_5 : decode cX10_sows 5 = .ok (.aload_n 0, 1) := by decide +kernel
theorem dX10_sows_6 : decode cX10_sows 6 = .ok (.iload_n 1, 1) := by decide +kernel
theorem dX10_sows_7 : decode cX10_sows 7 = .ok (.iconst 0, 1) := by decide +kernel
theorem dX10_sows_8 : decode cX10_sows 8 = .ok (.aload_n 0, 1) := by decide +kernel
theorem dX10_sows_9 : decode cX10_sows 9 = .ok (.getfield 124, 3) := by decide +kernel
theorem dX10_sows_12 : decode cX10_sows 12 = .ok (.iconst 1, 1) := by decide +kernel
theorem dX10_sows_13 : decode cX10_sows 13 = .ok (.isub, 1) := by decide +kernel
theorem dX10_sows_14 : decode cX10_sows 14 = .ok (.invokevirtual 111, 3) := by decide +kernel
theorem dX10_sows_17 : decode cX10_sows 17 = .ok (.ifCond .eq 36, 3) := by decide +kernel
theorem dX10_sows_20 : decode cX10_sows 20 = .ok (.aload_n 0, 1) := by decide +kernel
theorem dX10_sows_21 : decode cX10_sows 21 = .ok (.aload_n 0, 1) := by decide +kernel
theorem dX10_sows_22 : decode cX10_sows 22 = .ok (.iload_n 1, 1) := by decide +kernel
theorem dX10_sows_23 : decode cX10_sows 23 = .ok (.iconst 2, 1) := by decide +kernel
theorem dX10_sows_24 : decode cX10_sows 24 = .ok (.invokevirtual 425, 3) := by decide +kernel
theorem dX10_sows_27 : decode cX10_sows 27 = .ok (.aload_n 0, 1) := by decide +kernel
theorem dX10_sows_28 : decode cX10_sows 28 = .ok (.getfield 7, 3) := by decide +kernel
theorem dX10_sows_31 : decode cX10_sows 31 = .ok (.iconst 0, 1) := by decide +kernel
theorem dX10_sows_32 : decode cX10_sows 32 = .ok (.iaload, 1) := by decide +kernel
theorem dX10_sows_33 : decode cX10_sows 33 = .ok (.isub, 1) := by decide +kernel
theorem dX10_sows_34 : decode cX10_sows 34 = .ok (.iconst 0, 1) := by decide +kernel
theorem dX10_sows_35 : decode cX10_sows 35 = .ok (.bipush 60, 2) := by decide +kernel
theorem dX10_sows_37 : decode cX10_sows 37 = .ok (.invokevirtual 111, 3) := by decide +kernel
theorem dX10_sows_40 : decode cX10_sows 40 = .ok (.ifCond .eq 13, 3) := by decide +kernel
theorem dX10_sows_43 : decode cX10_sows 43 = .ok (.aload_n 0, 1) := by decide +kernel
theorem dX10_sows_44 : decode cX10_sows 44 = .ok (.iload_n 2, 1) := by decide +kernel
theorem dX10_sows_45 : decode cX10_sows 45 = .ok (.iconst 0, 1) := by decide +kernel
theorem dX10_sows_46 : decode cX10_sows 46 = .ok (.iconst 2, 1) := by decide +kernel
theorem dX10_sows_47 : decode cX10_sows 47 = .ok (.invokevirtual 111, 3) := by decide +kernel
theorem dX10_sows_50 : decode cX10_sows 50 = .ok (.ifCond .ne 5, 3) := by decide +kernel
theorem dX10_sows_53 : decode cX10_sows 53 = .ok (.iconst (-1), 1) := by decide +kernel
theorem dX10_sows_54 : decode cX10_sows 54 = .ok (.ireturn, 1) := by decide +kernel
theorem dX10_sows_55 : decode cX10_sows 55 = .ok (.iconst (-1), 1) := by decide +kernel
theorem dX10_sows_56 : decode cX10_sows 56 = .ok (.istore_n 3, 1) := by decide +kernel
theorem dX10_sows_57 : decode cX10_sows 57 = .ok (.iconst 0, 1) := by decide +kernel
theorem dX10_sows_58 : decode cX10_sows 58 = .ok (.istore 4, 2) := by decide +kernel
theorem dX10_sows_60 : decode cX10_sows 60 = .ok (.aload_n 0, 1) := by decide +kernel
theorem dX10_sows_61 : decode cX10_sows 61 = .ok (.invokevirtual 412, 3) := by decide +kernel
theorem dX10_sows_64 : decode cX10_sows 64 = .ok (.iconst 0, 1) := by decide +kernel
theorem dX10_sows_65 : decode cX10_sows 65 = .ok (.istore 5, 2) := by decide +kernel
theorem dX10_sows_67 : decode cX10_sows 67 = .ok (.iload 5, 2) := by decide +kernel
theorem dX10_sows_69 : decode cX10_sows 69 = .ok (.aload_n 0, 1) := by decide +kernel
theorem dX10_sows_70 : decode cX10_sows 70 = .ok (.getfield 118, 3) := by decide +kernel
theorem dX10_sows_73 : decode cX10_sows 73 = .ok (.if_icmp .ge 78, 3) := by decide +kernel
theorem dX10_sows_76 : decode cX10_sows 76 = .ok (.iconst 0, 1) := by decide +kernel
theorem dX10_sows_77 : decode cX10_sows 77 = .ok (.istore 6, 2) := by decide +kernel
theorem dX10_sows_79 : decode cX10_sows 79 = .ok (.iload 6, 2) := by decide +kernel
theorem dX10_sows_81 : decode cX10_sows 81 = .ok (.bipush 64, 2) := by decide +kernel
theorem dX10_sows_83 : decode cX10_sows 83 = .ok (.if_icmp .ge 62, 3) := by decide +kernel
theorem dX10_sows_86 : decode cX10_sows 86 = .ok (.aload_n 0, 1) := by decide +kernel
theorem dX10_sows_87 : decode cX10_sows 87 = .ok (.iload 6, 2) := by decide +kernel
theorem dX10_sows_89 : decode cX10_sows 89 = .ok (.invokevirtual 333, 3) := by decide +kernel
theorem dX10_sows_92 : decode cX10_sows 92 = .ok (.ifCond .eq 47, 3) := by decide +kernel
theorem dX10_sows_95 : decode cX10_sows 95 = .ok (.aload_n 0, 1) := by decide +kernel
theorem dX10_sows_96 : decode cX10_sows 96 = .ok (.iload_n 1, 1) := by decide +kernel
theorem dX10_sows_97 : decode cX10_sows 97 = .ok (.iload 5, 2) := by decide +kernel
theorem dX10_sows_99 : decode cX10_sows 99 = .ok (.iload 6, 2) := by decide +kernel
theorem dX10_sows_101 : decode cX10_sows 101 = .ok (.invokevirtual 437, 3) := by decide +kernel
theorem dX10_sows_104 : decode cX10_sows 104 = .ok (.ifCond .eq 35, 3) := by decide +kernel
theorem dX10_sows_107 : decode cX10_sows 107 = .ok (.iload_n 3, 1) := by decide +kernel
theorem dX10_sows_108 : decode cX10_sows 108 = .ok (.iconst (-1), 1) := by decide +kernel
theorem dX10_sows_109 : decode cX10_sows 109 = .ok (.if_icmp .eq 15, 3) := by decide +kernel
theorem dX10_sows_112 : decode cX10_sows 112 = .ok (.aload_n 0, 1) := by decide +kernel
theorem dX10_sows_113 : decode cX10_sows 113 = .ok (.getfield 434, 3) := by decide +kernel
theorem dX10_sows_116 : decode cX10_sows 116 = .ok (.iload 4, 2) := by decide +kernel
theorem dX10_sows_118 : decode cX10_sows 118 = .ok (.if_icmp .lt 6, 3) := by decide +kernel
theorem dX10_sows_121 : decode cX10_sows 121 = .ok (.goto 18, 3) := by decide +kernel
theorem dX10_sows_124 : decode cX10_sows 124 = .ok (.bipush 64, 2) := by decide +kernel
theorem dX10_sows_126 : decode cX10_sows 126 = .ok (.iload 5, 2) := by decide +kernel
theorem dX10_sows_128 : decode cX10_sows 128 = .ok (.imul, 1) := by decide +kernel
theorem dX10_sows_129 : decode cX10_sows 129 = .ok (.iload 6, 2) := by decide +kernel
theorem dX10_sows_131 : decode cX10_sows 131 = .ok (.iadd, 1) := by decide +kernel
theorem dX10_sows_132 : decode cX10_sows 132 = .ok (.istore_n 3, 1) := by decide +kernel
theorem dX10_sows_133 : decode cX10_sows 133 = .ok (.aload_n 0, 1) := by decide +kernel
theorem dX10_sows_134 : decode cX10_sows 134 = .ok (.getfield 434, 3) := by decide +kernel
theorem dX10_sows_137 : decode cX10_sows 137 = .ok (.istore 4, 2) := by decide +kernel
theorem dX10_sows_139 : decode cX10_sows 139 = .ok (.iinc 6 1, 3) := by decide +kernel
theorem dX10_sows_142 : decode cX10_sows 142 = .ok (.goto (-63), 3) := by decide +kernel
theorem dX10_sows_145 : decode cX10_sows 145 = .ok (.iinc 5 1, 3) := by decide +kernel
theorem dX10_sows_148 : decode cX10_sows 148 = .ok (.goto (-81), 3) := by decide +kernel
theorem dX10_sows_151 : decode cX10_sows 151 = .ok (.aload_n 0, 1) := by decide +kernel
theorem dX10_sows_152 : decode cX10_sows 152 = .ok (.invokevirtual 422, 3) := by decide +kernel
theorem dX10_sows_155 : decode cX10_sows 155 = .ok (.iload_n 3, 1) := by decide +kernel
theorem dX10_sows_156 : decode cX10_sows 156 = .ok (.iconst (-1), 1) := by decide +kernel
theorem dX10_sows_157 : decode cX10_sows 157 = .ok (.if_icmp .ne 7, 3) := by decide +kernel
theorem dX10_sows_160 : decode cX10_sows 160 = .ok (.iconst (-1), 1) := by decide +kernel
theorem dX10_sows_161 : decode cX10_sows 161 = .ok (.goto 28, 3) := by decide +kernel
theorem dX10_sows_164 : decode cX10_sows 164 = .ok (.iload_n 2, 1) := by decide +kernel
theorem dX10_sows_165 : decode cX10_sows 165 = .ok (.ifCond .ne 10, 3) := by decide +kernel
theorem dX10_sows_168 : decode cX10_sows 168 = .ok (.iload_n 3, 1) := by decide +kernel
theorem dX10_sows_169 : decode cX10_sows 169 = .ok (.bipush 64, 2) := by decide +kernel
theorem dX10_sows_171 : decode cX10_sows 171 = .ok (.idiv, 1) := by decide +kernel
theorem dX10_sows_172 : decode cX10_sows 172 = .ok (.goto 17, 3) := by decide +kernel
theorem dX10_sows_175 : decode cX10_sows 175 = .ok (.iload_n 2, 1) := by decide +kernel
theorem dX10_sows_176 : decode cX10_sows 176 = .ok (.iconst 1, 1) := by decide +kernel
theorem dX10_sows_177 : decode cX10_sows 177 = .ok (.if_icmp .ne 10, 3) := by decide +kernel
theorem dX10_sows_180 : decode cX10_sows 180 = .ok (.iload_n 3, 1) := by decide +kernel
theorem dX10_sows_181 : decode cX10_sows 181 = .ok (.bipush 64, 2) := by decide +kernel
theorem dX10_sows_183 : decode cX10_sows 183 = .ok (.irem, 1) := by decide +kernel
theorem dX10_sows_184 : decode cX10_sows 184 = .ok (.goto 5, 3) := by decide +kernel
theorem dX10_sows_187 : decode cX10_sows 187 = .ok (.iload 4, 2) := by decide +kernel
theorem dX10_sows_189 : decode cX10_sows 189 = .ok (.ireturn, 1) := by decide +kernel
def M_sows (s : ST) (x1 : Int32) (x2 : Int32) : Option (Int32 × ST) := Lt (ups s 0 0 (0 : Int32)) fun s1 => Lt (M_isIn s1 x1 (0 : Int32) ((s1.1 0 40) - (1 : Int32))) fun y1 => if y1 = 0 then (some ((-1 : Int32), s1)) else (Bd (M_ofWant s1 x1 (2 : Int32)) fun y2 => Lt (s1.1 1 0) fun y3 => Lt (M_isIn s1 (y2 - y3) (0 : Int32) (60 : Int32)) fun y4 => if y4 = 0 then (some ((-1 : Int32), s1)) else (Lt (M_isIn s1 x2 (0 : Int32) (2 : Int32)) fun y5 => if y5 = 0 then (some ((-1 : Int32), s1)) else (Bd (M_thinks s1) fun s2 => lpK4 (C := Int32 × ST) (fun (rec1 : Int32 → Int32 → Int32 → ST → Option (Int32 × ST)) (a1 : Int32) (a2 : Int32) (a3 : Int32) (s3 : ST) => if (s3.1 0 34) ≤ a3 then (Bd (M_endsThought s3) fun s4 => if a1 = (-1 : Int32) then (some ((-1 : Int32), s4)) else (if x2 = 0 then (some ((a1 / (64 : Int32)), s4)) else (if x2 = (1 : Int32) then (some ((irm a1 (64 : Int32)), s4)) else (some (a2, s4))))) else (lpK4 (C := Int32 × ST) (fun (rec2 : Int32 → Int32 → Int32 → ST → Option (Int32 × ST)) (a4 : Int32) (a5 : Int32) (a6 : Int32) (s5 : ST) => if (64 : Int32) ≤ a6 then (rec1 a4 a5 (a3 + (1 : Int32)) s5) else (Bd (M_canSow s5 a6) fun y6 => Lt (fun (a7 : Int32) (a8 : Int32) (s6 : ST) => (rec2 a7 a8 (a6 + (1 : Int32)) s6 : Option (Int32 × ST))) fun j1 => if y6 = 0 then (j1 a4 a5 s5) else (Bd (M_isMetBy s5 x1 a3 a6) fun y7 => if y7.1 = 0 then (j1 a4 a5 y7.2) else (Lt (Lt ((((64 : Int32) * a3) + a6)) fun y8 => Lt ((y7.2.1 0 46)) fun y9 => j1 y8 y9 y7.2 : Option (Int32 × ST)) fun j2 => if a4 = (-1 : Int32) then (j2) else (if (y7.2.1 0 46) < a5 then (j2) else (j1 a4 a5 y7.2)))))) FU a1 a2 (0 : Int32) s3)) FU (-1 : Int32) (0 : Int32) (0 : Int32) s2)))
set_option maxRecDepth 100000 in
set_option maxHeartbeats 4000000 in
theorem k_sows (l : Launch) (D : va_G) (cA : ClassId) (h : Nat → Nat) (s : ST) (x1 : Int32) (x2 : Int32) {o : Int32 × ST} (hs : M_sows s x1 x2 = some o) : MI l (KM D cA h) 11 yX10_sows cX10_sows 7 (some .int) s [.ref (h 0), .int x1, .int x2] o.1 o.2 := by
  refine met_i (by decide) (Nat.le_of_ble_eq_true rfl) ?_
  intro p e st m args below meth c Q X RI
  unfold M_sows at hs
  refine g_aload_n X dX10_sows_0 (q := 1) rfl 0 rfl ?_
  refine g_iconst X dX10_sows_1 (q := 2) rfl li_i0 ?_
  refine mp_0 X dX10_sows_2 (q := 5) rfl hs (fun s1 hs => ?_)
  refine g_aload_n X dX10_sows_5 (q := 6) rfl 0 rfl ?_
  refine g_iload_n X dX10_sows_6 (q := 7) rfl 1 rfl ?_
  refine g_iconst X dX10_sows_7 (q := 8) rfl li_i0 ?_
  refine g_aload_n X dX10_sows_8 (q := 9) rfl 0 rfl ?_
  refine mg_40 X dX10_sows_9 (q := 12) rfl ?_
  refine g_iconst X dX10_sows_12 (q := 13) rfl li_i1 ?_
  refine g_isub X dX10_sows_13 (q := 14) rfl ?_
  refine v_isIn X dX10_sows_14 (q := 17) rfl (Nat.le_of_ble_eq_true rfl) (Nat.le_of_ble_eq_true rfl) (Nat.le_of_ble_eq_true rfl) hs (fun y1 hs => ?_)
  refine g_if_eq X dX10_sows_17 (q := 20) rfl (tgt := 53) (by decide) hs ?_ ?_
  · intro hs
    refine g_iconst X dX10_sows_53 (q := 54) rfl li_im1 ?_
    exact RI _ 54 _ _ _ (rU1 hs) rfl (rV1 hs) dX10_sows_54
  · intro hs
    refine g_aload_n X dX10_sows_20 (q := 21) rfl 0 rfl ?_
    refine g_aload_n X dX10_sows_21 (q := 22) rfl 0 rfl ?_
    refine g_iload_n X dX10_sows_22 (q := 23) rfl 1 rfl ?_
    refine g_iconst X dX10_sows_23 (q := 24) rfl li_i2 ?_
    refine v_ofWant X dX10_sows_24 (q := 27) rfl (Nat.le_of_ble_eq_true rfl) (Nat.le_of_ble_eq_true rfl) (Nat.le_of_ble_eq_true rfl) hs (fun y2 hs => ?_)
    refine g_aload_n X dX10_sows_27 (q := 28) rfl 0 rfl ?_
    refine mg_1 X dX10_sows_28 (q := 31) rfl ?_
    refine g_iconst X dX10_sows_31 (q := 32) rfl li_i0 ?_
    refine mk_1 X dX10_sows_32 (q := 33) rfl (j := 0) (by decide) (by decide) hs (fun y3 hs => ?_)
    refine g_isub X dX10_sows_33 (q := 34) rfl ?_
    refine g_iconst X dX10_sows_34 (q := 35) rfl li_i0 ?_
    refine g_bipush X dX10_sows_35 (q := 37) rfl li_b60 ?_
    refine v_isIn X dX10_sows_37 (q := 40) rfl (Nat.le_of_ble_eq_true rfl) (Nat.le_of_ble_eq_true rfl) (Nat.le_of_ble_eq_true rfl) hs (fun y4 hs => ?_)
    refine g_if_eq X dX10_sows_40 (q := 43) rfl (tgt := 53) (by decide) hs ?_ ?_
    · intro hs
      refine g_iconst X dX10_sows_53 (q := 54) rfl li_im1 ?_
      exact RI _ 54 _ _ _ (rU1 hs) rfl (rV1 hs) dX10_sows_54
    · intro hs
      refine g_aload_n X dX10_sows_43 (q := 44) rfl 0 rfl ?_
      refine g_iload_n X dX10_sows_44 (q := 45) rfl 2 rfl ?_
      refine g_iconst X dX10_sows_45 (q := 46) rfl li_i0 ?_
      refine g_iconst X dX10_sows_46 (q := 47) rfl li_i2 ?_
      refine v_isIn X dX10_sows_47 (q := 50) rfl (Nat.le_of_ble_eq_true rfl) (Nat.le_of_ble_eq_true rfl) (Nat.le_of_ble_eq_true rfl) hs (fun y5 hs => ?_)
      refine g_if_ne X dX10_sows_50 (q := 53) rfl (tgt := 55) (by decide) hs ?_ ?_
      · intro hs
        refine g_iconst X dX10_sows_55 (q := 56) rfl li_im1 ?_
        refine g_istore_n X dX10_sows_56 (q := 57) rfl (Nat.le_of_ble_eq_true rfl) (lv' := [(3, .int (-1 : Int32)), (0, .ref (h 0)), (1, .int x1), (2, .int x2)]) rfl ?_
        refine g_iconst X dX10_sows_57 (q := 58) rfl li_i0 ?_
        refine g_istore X dX10_sows_58 (q := 60) rfl (Nat.le_of_ble_eq_true rfl) (lv' := [(4, .int (0 : Int32)), (3, .int (-1 : Int32)), (0, .ref (h 0)), (1, .int x1), (2, .int x2)]) rfl ?_
        refine g_aload_n X dX10_sows_60 (q := 61) rfl 2 rfl ?_
        refine v_thinks X dX10_sows_61 (q := 64) rfl (Nat.le_of_ble_eq_true rfl) (Nat.le_of_ble_eq_true rfl) (Nat.le_of_ble_eq_true rfl) hs (fun s2 hs => ?_)
        refine g_iconst X dX10_sows_64 (q := 65) rfl li_i0 ?_
        refine g_istore X dX10_sows_65 (q := 67) rfl (Nat.le_of_ble_eq_true rfl) (lv' := [(5, .int (0 : Int32)), (4, .int (0 : Int32)), (3, .int (-1 : Int32)), (0, .ref (h 0)), (1, .int x1), (2, .int x2)]) rfl ?_
        refine wg_sub [3, 4, 5, 2, 1, 0] rfl (lpW4 (fun (a1 : Int32) (a2 : Int32) (a3 : Int32) (s3 : ST) => WG (KM D cA h) p l e (rmD 11) st m args below meth c Q 7 s3 67 [(0, .ref (h 0)), (1, .int x1), (2, .int x2), (3, .int a1), (4, .int a2), (5, .int a3)] []) (fun rec1 ih1 a1 a2 a3 s3 hs => ?_) _ _ _ _ _ hs)
        refine g_iload X dX10_sows_67 (q := 69) rfl 5 rfl ?_
        refine g_aload_n X dX10_sows_69 (q := 70) rfl 0 rfl ?_
        refine mg_34 X dX10_sows_70 (q := 73) rfl ?_
        refine g_icmp_ge X dX10_sows_73 (q := 76) rfl (tgt := 151) (by decide) hs ?_ ?_
        · intro hs
          refine g_aload_n X dX10_sows_151 (q := 152) rfl 0 rfl ?_
          refine v_endsThought X dX10_sows_152 (q := 155) rfl (Nat.le_of_ble_eq_true rfl) (Nat.le_of_ble_eq_true rfl) (Nat.le_of_ble_eq_true rfl) hs (fun s4 hs => ?_)
          refine g_iload_n X dX10_sows_155 (q := 156) rfl 3 rfl ?_
          refine g_iconst X dX10_sows_156 (q := 157) rfl li_im1 ?_
          refine g_icmp_ne X dX10_sows_157 (q := 160) rfl (tgt := 164) (by decide) hs ?_ ?_
          · intro hs
            refine g_iload_n X dX10_sows_164 (q := 165) rfl 2 rfl ?_
            refine g_if_ne X dX10_sows_165 (q := 168) rfl (tgt := 175) (by decide) hs ?_ ?_
            · intro hs
              refine g_iload_n X dX10_sows_175 (q := 176) rfl 2 rfl ?_
              refine g_iconst X dX10_sows_176 (q := 177) rfl li_i1 ?_
              refine g_icmp_ne X dX10_sows_177 (q := 180) rfl (tgt := 187) (by decide) hs ?_ ?_
              · intro hs
                refine g_iload X dX10_sows_187 (q := 189) rfl 4 rfl ?_
                exact RI _ 189 _ _ _ (rU1 hs) rfl (rV1 hs) dX10_sows_189
              · intro hs
                refine g_iload_n X dX10_sows_180 (q := 181) rfl 3 rfl ?_
                refine g_bipush X dX10_sows_181 (q := 183) rfl li_b64 ?_
                refine g_irem X dX10_sows_183 (q := 184) rfl (by decide) ?_
                refine g_goto X dX10_sows_184 (tgt := 189) (by decide) ?_
                exact RI _ 189 _ _ _ (rU1 hs) rfl (rV1 hs) dX10_sows_189
            · intro hs
              refine g_iload_n X dX10_sows_168 (q := 169) rfl 3 rfl ?_
              refine g_bipush X dX10_sows_169 (q := 171) rfl li_b64 ?_
              refine g_idiv X dX10_sows_171 (q := 172) rfl (by decide) ?_
              refine g_goto X dX10_sows_172 (tgt := 189) (by decide) ?_
              exact RI _ 189 _ _ _ (rU1 hs) rfl (rV1 hs) dX10_sows_189
          · intro hs
            refine g_iconst X dX10_sows_160 (q := 161) rfl li_im1 ?_
            refine g_goto X dX10_sows_161 (tgt := 189) (by decide) ?_
            exact RI _ 189 _ _ _ (rU1 hs) rfl (rV1 hs) dX10_sows_189
        · intro hs
          refine g_iconst X dX10_sows_76 (q := 77) rfl li_i0 ?_
          refine g_istore X dX10_sows_77 (q := 79) rfl (Nat.le_of_ble_eq_true rfl) (lv' := [(6, .int (0 : Int32)), (0, .ref (h 0)), (1, .int x1), (2, .int x2), (3, .int a1), (4, .int a2), (5, .int a3)]) rfl ?_
          refine wg_sub [1, 2, 3, 4, 5, 6, 0] rfl (lpW4 (fun (a4 : Int32) (a5 : Int32) (a6 : Int32) (s5 : ST) => WG (KM D cA h) p l e (rmD 11) st m args below meth c Q 7 s5 79 [(0, .ref (h 0)), (1, .int x1), (2, .int x2), (3, .int a4), (4, .int a5), (5, .int a3), (6, .int a6)] []) (fun rec2 ih2 a4 a5 a6 s5 hs => ?_) _ _ _ _ _ hs)
          refine g_iload X dX10_sows_79 (q := 81) rfl 6 rfl ?_
          refine g_bipush X dX10_sows_81 (q := 83) rfl li_b64 ?_
          refine g_icmp_ge X dX10_sows_83 (q := 86) rfl (tgt := 145) (by decide) hs ?_ ?_
          · intro hs
            refine g_iinc X dX10_sows_145 (q := 148) rfl 5 rfl (v := (a3 + (1 : Int32))) (congrArg (HAdd.hAdd a3) li_i1) (Nat.le_of_ble_eq_true rfl) (lv' := [(5, .int (a3 + (1 : Int32))), (0, .ref (h 0)), (1, .int x1), (2, .int x2), (3, .int a4), (4, .int a5), (6, .int a6)]) rfl ?_
            refine g_goto X dX10_sows_148 (tgt := 67) (by decide) ?_
            exact wg_sub [1, 2, 3, 4, 5, 0] rfl (ih1 _ _ _ _ hs)
          · intro hs
            refine g_aload_n X dX10_sows_86 (q := 87) rfl 0 rfl ?_
            refine g_iload X dX10_sows_87 (q := 89) rfl 6 rfl ?_
            refine v_canSow X dX10_sows_89 (q := 92) rfl (Nat.le_of_ble_eq_true rfl) (Nat.le_of_ble_eq_true rfl) (Nat.le_of_ble_eq_true rfl) hs (fun y6 hs => ?_)
            refine jnW3 (fun (a7 : Int32) (a8 : Int32) (s6 : ST) => WG (KM D cA h) p l e (rmD 11) st m args below meth c Q 7 s6 139 [(0, .ref (h 0)), (1, .int x1), (2, .int x2), (3, .int a7), (4, .int a8), (5, .int a3), (6, .int a6)] []) hs (fun a7 a8 s6 hs => ?_) (fun j1 ih3 hs => ?_)
            · refine g_iinc X dX10_sows_139 (q := 142) rfl 6 rfl (v := (a6 + (1 : Int32))) (congrArg (HAdd.hAdd a6) li_i1) (Nat.le_of_ble_eq_true rfl) (lv' := [(6, .int (a6 + (1 : Int32))), (0, .ref (h 0)), (1, .int x1), (2, .int x2), (3, .int a7), (4, .int a8), (5, .int a3)]) rfl ?_
              refine g_goto X dX10_sows_142 (tgt := 79) (by decide) ?_
              exact wg_sub [1, 2, 3, 4, 5, 6, 0] rfl (ih2 _ _ _ _ hs)
            refine g_if_eq X dX10_sows_92 (q := 95) rfl (tgt := 139) (by decide) hs ?_ ?_
            · intro hs
              exact wg_sub [0, 1, 2, 3, 4, 5, 6] rfl (ih3 _ _ _ hs)
            · intro hs
              refine g_aload_n X dX10_sows_95 (q := 96) rfl 0 rfl ?_
              refine g_iload_n X dX10_sows_96 (q := 97) rfl 1 rfl ?_
              refine g_iload X dX10_sows_97 (q := 99) rfl 5 rfl ?_
              refine g_iload X dX10_sows_99 (q := 101) rfl 6 rfl ?_
              refine v_isMetBy X dX10_sows_101 (q := 104) rfl (Nat.le_of_ble_eq_true rfl) (Nat.le_of_ble_eq_true rfl) (Nat.le_of_ble_eq_true rfl) hs (fun y7 hs => ?_)
              refine g_if_eq X dX10_sows_104 (q := 107) rfl (tgt := 139) (by decide) hs ?_ ?_
              · intro hs
                exact wg_sub [0, 1, 2, 3, 4, 5, 6] rfl (ih3 _ _ _ hs)
              · intro hs
                refine g_iload_n X dX10_sows_107 (q := 108) rfl 3 rfl ?_
                refine g_iconst X dX10_sows_108 (q := 109) rfl li_im1 ?_
                refine jnW0 (WG (KM D cA h) p l e (rmD 11) st m args below meth c Q 7 y7.2 124 [(0, .ref (h 0)), (1, .int x1), (2, .int x2), (5, .int a3), (6, .int a6)] []) hs (fun  hs => ?_) (fun j2 ih4 hs => ?_)
                · refine g_bipush X dX10_sows_124 (q := 126) rfl li_b64 ?_
                  refine g_iload X dX10_sows_126 (q := 128) rfl 3 rfl ?_
                  refine g_imul X dX10_sows_128 (q := 129) rfl ?_
                  refine g_iload X dX10_sows_129 (q := 131) rfl 4 rfl ?_
                  refine g_iadd X dX10_sows_131 (q := 132) rfl ?_
                  refine nmI hs (fun y8 hs => ?_)
                  refine g_istore_n X dX10_sows_132 (q := 133) rfl (Nat.le_of_ble_eq_true rfl) (lv' := [(3, .int y8), (0, .ref (h 0)), (1, .int x1), (2, .int x2), (5, .int a3), (6, .int a6)]) rfl ?_
                  refine g_aload_n X dX10_sows_133 (q := 134) rfl 1 rfl ?_
                  refine mg_46 X dX10_sows_134 (q := 137) rfl ?_
                  refine nmI hs (fun y9 hs => ?_)
                  refine g_istore X dX10_sows_137 (q := 139) rfl (Nat.le_of_ble_eq_true rfl) (lv' := [(4, .int y9), (3, .int y8), (0, .ref (h 0)), (1, .int x1), (2, .int x2), (5, .int a3), (6, .int a6)]) rfl ?_
                  exact wg_sub [2, 3, 4, 1, 0, 5, 6] rfl (ih3 _ _ _ hs)
                refine g_icmp_eq X dX10_sows_109 (q := 112) rfl (tgt := 124) (by decide) hs ?_ ?_
                · intro hs
                  exact wg_sub [0, 1, 2, 5, 6] rfl (ih4 hs)
                · intro hs
                  refine g_aload_n X dX10_sows_112 (q := 113) rfl 0 rfl ?_
                  refine mg_46 X dX10_sows_113 (q := 116) rfl ?_
                  refine g_iload X dX10_sows_116 (q := 118) rfl 4 rfl ?_
                  refine g_icmp_lt X dX10_sows_118 (q := 121) rfl (tgt := 124) (by decide) hs ?_ ?_
                  · intro hs
                    exact wg_sub [0, 1, 2, 5, 6] rfl (ih4 hs)
                  · intro hs
                    refine g_goto X dX10_sows_121 (tgt := 139) (by decide) ?_
                    exact wg_sub [0, 1, 2, 3, 4, 5, 6] rfl (ih3 _ _ _ hs)
      · intro hs
        refine g_iconst X dX10_sows_53 (q := 54) rfl li_im1 ?_
        exact RI _ 54 _ _ _ (rU1 hs) rfl (rV1 hs) dX10_sows_54
theorem dX10_gets_0 : decode cX10_gets 0 = .ok (.aload_n 0, 1) := by decide +kernel
theorem dX10_gets_1 : decode cX10_gets 1 = .ok (.iconst 0, 1) := by decide +kernel
theorem dX10_gets_2 : decode cX10_gets 2 = .ok (.putfield 83, 3) := by decide +kernel
theorem dX10_gets_5 : decode cX10_gets 5 = .ok (.aload_n 0, 1) := by decide +kernel
theorem dX10_gets_6 : decode cX10_gets 6 = .ok (.iload_n 1, 1) := by decide +kernel
theorem dX10_gets_7 : decode cX10_gets 7 = .ok (.iconst 0, 1) := by decide +kernel
theorem dX10_gets_8 : decode cX10_gets 8 = .ok (.aload_n 0, 1) := by decide +kernel
theorem dX10_gets_9 : decode cX10_gets 9 = .ok (.getfield 118, 3) := by decide +kernel
theorem dX10_gets_12 : decode cX10_gets 12 = .ok (.iconst 1, 1) := by decide +kernel
theorem dX10_gets_13 : decode cX10_gets 13 = .ok (.isub, 1) := by decide +kernel
theorem dX10_gets_14 : decode cX10_gets 14 = .ok (.invokevirtual 111, 3) := by decide +kernel
theorem dX10_gets_17 : decode cX10_gets 17 = .ok (.ifCond .eq 34, 3) := by decide +kernel
theorem dX10_gets_20 : decode cX10_gets 20 = .ok (.aload_n 0, 1) := by decide +kernel
theorem dX10_gets_21 : decode cX10_gets 21 = .ok (.iload_n 2, 1) := by decide +kernel
theorem dX10_gets_22 : decode cX10_gets 22 = .ok (.invokevirtual 130, 3) := by decide +kernel
theorem dX10_gets_25 : decode cX10_gets 25 = .ok (.ifCond .eq 26, 3) := by decide +kernel
theorem dX10_gets_28 : decode cX10_gets 28 = .ok (.aload_n 0, 1) := by decide +kernel
theorem dX10_gets_29 : decode cX10_gets 29 = .ok (.iload_n 3, 1) := by decide +kernel
theorem dX10_gets_30 : decode cX10_gets 30 = .ok (.invokevirtual 130, 3) := by decide +kernel
theorem dX10_gets_33 : decode cX10_gets 33 = .ok (.ifCond .eq 18, 3) := by decide +kernel
theorem dX10_gets_36 : decode cX10_gets 36 = .ok (.iload_n 2, 1) := by decide +kernel
theorem dX10_gets_37 : decode cX10_gets 37 = .ok (.iload_n 3, 1) := by decide +kernel
theorem dX10_gets_38 : decode cX10_gets 38 = .ok (.if_icmp .eq 13, 3) := by decide +kernel
theorem dX10_gets_41 : decode cX10_gets 41 = .ok (.aload_n 0, 1) := by decide +kernel
theorem dX10_gets_42 : decode cX10_gets 42 = .ok (.getfield 19, 3) := by decide +kernel
theorem dX10_gets_45 : decode cX10_gets 45 = .ok (.iload_n 2, 1) := by decide +kernel
theorem dX10_gets_46 : decode cX10_gets 46 = .ok (.iaload, 1) := by decide +kernel
theorem dX10_gets_47 : decode cX10_gets 47 = .ok (.iconst 1, 1) := by decide +kernel
theorem dX10_gets_48 : decode cX10_gets 48 = .ok (.if_icmp .ne 5, 3) := by decide +kernel
theorem dX10_gets_51 : decode cX10_gets 51 = .ok (.iconst (-1), 1) := by decide +kernel
theorem dX10_gets_52 : decode cX10_gets 52 = .ok (.ireturn, 1) := by decide +kernel
theorem dX10_gets_53 : decode cX10_gets 53 = .ok (.aload_n 0, 1) := by decide +kernel
theorem dX10_gets_54 : decode cX10_gets 54 = .ok (.invokevirtual 412, 3) := by decide +kernel
theorem dX10_gets_57 : decode cX10_gets 57 = .ok (.iconst 0, 1) := by decide +kernel
theorem dX10_gets_58 : decode cX10_gets 58 = .ok (.istore 4, 2) := by decide +kernel
theorem dX10_gets_60 : decode cX10_gets 60 = .ok (.iload 4, 2) := by decide +kernel
theorem dX10_gets_62 : decode cX10_gets 62 = .ok (.bipush 64, 2) := by decide +kernel
theorem dX10_gets_64 : decode cX10_gets 64 = .ok (.if_icmp .ge 32, 3) := by decide +kernel
theorem dX10_gets_67 : decode cX10_gets 67 = .ok (.aload_n 0, 1) := by decide +kernel
theorem dX10_gets_68 : decode cX10_gets 68 = .ok (.getfield 7, 3) := by decide +kernel
theorem dX10_gets_71 : decode cX10_gets 71 = .ok (.bipush 69, 2) := by decide +kernel
theorem dX10_gets_73 : decode cX10_gets 73 = .ok (.iload 4, 2) := by decide +kernel
theorem dX10_gets_75 : decode cX10_gets 75 = .ok (.iadd, 1) := by decide +kernel
theorem dX10_gets_76 : decode cX10_gets 76 = .ok (.iconst 0, 1) := by decide +kernel
theorem dX10_gets_77 : decode cX10_gets 77 = .ok (.iastore, 1) := by decide +kernel
theorem dX10_gets_78 : decode cX10_gets 78 = .ok (.aload_n 0, 1) := by decide +kernel
theorem dX10_gets_79 : decode cX10_gets 79 = .ok (.getfield 7, 3) := by decide +kernel
theorem dX10_gets_82 : decode cX10_gets 82 = .ok (.sipush 197, 3) := by decide +kernel
theorem dX10_gets_85 : decode cX10_gets 85 = .ok (.iload 4, 2) := by decide +kernel
theorem dX10_gets_87 : decode cX10_gets 87 = .ok (.iadd, 1) := by decide +kernel
theorem dX10_gets_88 : decode cX10_gets 88 = .ok (.iconst 0, 1) := by decide +kernel
theorem dX10_gets_89 : decode cX10_gets 89 = .ok (.iastore, 1) := by decide +kernel
theorem dX10_gets_90 : decode cX10_gets 90 = .ok (.iinc 4 1, 3) := by decide +kernel
theorem dX10_gets_93 : decode cX10_gets 93 = .ok (.goto (-33), 3) := by decide +kernel
theorem dX10_gets_96 : decode cX10_gets 96 = .ok (.aload_n 0, 1) := by decide +kernel
theorem dX10_gets_97 : decode cX10_gets 97 = .ok (.iload_n 1, 1) := by decide +kernel
theorem dX10_gets_98 : decode cX10_gets 98 = .ok (.iload_n 2, 1) := by decide +kernel
theorem dX10_gets_99 : decode cX10_gets 99 = .ok (.iconst 0, 1) := by decide +kernel
theorem dX10_gets_100 : decode cX10_gets 100 = .ok (.invokevirtual 339, 3) := by decide +kernel
theorem dX10_gets_103 : decode cX10_gets 103 = .ok (.iconst 0, 1) := by decide +kernel
theorem dX10_gets_104 : decode cX10_gets 104 = .ok (.istore 4, 2) := by decide +kernel
theorem dX10_gets_106 : decode cX10_gets 106 = .ok (.iconst 0, 1) := by decide +kernel
theorem dX10_gets_107 : decode cX10_gets 107 = .ok (.istore 5, 2) := by decide +kernel
theorem dX10_gets_109 : decode cX10_gets 109 = .ok (.iload 5, 2) := by decide +kernel
theorem dX10_gets_111 : decode cX10_gets 111 = .ok (.ifCond .ne 45, 3) := by decide +kernel
theorem dX10_gets_114 : decode cX10_gets 114 = .ok (.iload 4, 2) := by decide +kernel
theorem dX10_gets_116 : decode cX10_gets 116 = .ok (.bipush 99, 2) := by decide +kernel
theorem dX10_gets_118 : decode cX10_gets 118 = .ok (.if_icmp .ge 38, 3) := by decide +kernel
theorem dX10_gets_121 : decode cX10_gets 121 = .ok (.iload 4, 2) := by decide +kernel
theorem dX10_gets_123 : decode cX10_gets 123 = .ok (.iconst 1, 1) := by decide +kernel
theorem dX10_gets_124 : decode cX10_gets 124 = .ok (.iadd, 1) := by decide +kernel
theorem dX10_gets_125 : decode cX10_gets 125 = .ok (.istore 4, 2) := by decide +kernel
theorem dX10_gets_127 : decode cX10_gets 127 = .ok (.aload_n 0, 1) := by decide +kernel
theorem dX10_gets_128 : decode cX10_gets 128 = .ok (.iconst 0, 1) := by decide +kernel
theorem dX10_gets_129 : decode cX10_gets 129 = .ok (.invokevirtual 396, 3) := by decide +kernel
theorem dX10_gets_132 : decode cX10_gets 132 = .ok (.pop, 1) := by decide +kernel
theorem dX10_gets_133 : decode cX10_gets 133 = .ok (.aload_n 0, 1) := by decide +kernel
theorem dX10_gets_134 : decode cX10_gets 134 = .ok (.iload_n 3, 1) := by decide +kernel
theorem dX10_gets_135 : decode cX10_gets 135 = .ok (.invokevirtual 308, 3) := by decide +kernel
theorem dX10_gets_138 : decode cX10_gets 138 = .ok (.iconst (-1), 1) := by decide +kernel
theorem dX10_gets_139 : decode cX10_gets 139 = .ok (.if_icmp .eq 7, 3) := by decide +kernel
theorem dX10_gets_142 : decode cX10_gets 142 = .ok (.iconst 1, 1) := by decide +kernel
theorem dX10_gets_143 : decode cX10_gets 143 = .ok (.goto 4, 3) := by decide +kernel
theorem dX10_gets_146 : decode cX10_gets 146 = .ok (.iconst 0, 1) := by decide +kernel
theorem dX10_gets_147 : decode cX10_gets 147 = .ok (.istore 5, 2) := by decide +kernel
theorem dX10_gets_149 : decode cX10_gets 149 = .ok (.aload_n 0, 1) := by decide +kernel
theorem dX10_gets_150 : decode cX10_gets 150 = .ok (.invokevirtual 400, 3) := by decide +kernel
theorem dX10_gets_153 : decode cX10_gets 153 = .ok (.goto (-44), 3) := by decide +kernel
theorem dX10_gets_156 : decode cX10_gets 156 = .ok (.aload_n 0, 1) := by decide +kernel
theorem dX10_gets_157 : decode cX10_gets 157 = .ok (.invokevirtual 422, 3) := by decide +kernel
theorem dX10_gets_160 : decode cX10_gets 160 = .ok (.iload 5, 2) := by decide +kernel
theorem dX10_gets_162 : decode cX10_gets 162 = .ok (.ifCond .eq 8, 3) := by decide +kernel
theorem dX10_gets_165 : decode cX10_gets 165 = .ok (.iload 4, 2) := by decide +kernel
theorem dX10_gets_167 : decode cX10_gets 167 = .ok (.goto 4, 3) := by decide +kernel
theorem dX10_gets_170 : decode cX10_gets 170 = .ok (.iconst (-1), 1) := by decide +kernel
theorem dX10_gets_171 : decode cX10_gets 171 = .ok (.ireturn, 1) := by decide +kernel
def M_gets (s : ST) (x1 : Int32) (x2 : Int32) (x3 : Int32) : Option (Int32 × ST) := Lt (ups s 0 0 (0 : Int32)) fun s1 => Lt (M_isIn s1 x1 (0 : Int32) ((s1.1 0 34) - (1 : Int32))) fun y1 => if y1 = 0 then (some ((-1 : Int32), s1)) else (Lt (M_isCell s1 x2) fun y2 => if y2 = 0 then (some ((-1 : Int32), s1)) else (Lt (M_isCell s1 x3) fun y3 => if y3 = 0 then (some ((-1 : Int32), s1)) else (if x2 = x3 then (some ((-1 : Int32), s1)) else (Gl s1 4 64 x2 fun y4 => if y4 = (1 : Int32) then (some ((-1 : Int32), s1)) else (Bd (M_thinks s1) fun s2 => lpK2 (C := Int32 × ST) (fun (rec1 : Int32 → ST → Option (Int32 × ST)) (a1 : Int32) (s3 : ST) => if (64 : Int32) ≤ a1 then (Bd (M_falls s3 x1 x2 (0 : Int32)) fun s4 => lpK3 (C := Int32 × ST) (fun (rec2 : Int32 → Int32 → ST → Option (Int32 × ST)) (a2 : Int32) (a3 : Int32) (s5 : ST) => Lt (Bd (M_endsThought s5) fun s6 => if a3 = 0 then (some ((-1 : Int32), s6)) else (some (a2, s6)) : Option (Int32 × ST)) fun j1 => if a3 = 0 then (if (99 : Int32) ≤ a2 then (j1) else (Lt ((a2 + (1 : Int32))) fun y5 => Bd (M_goesIn s5 (0 : Int32)) fun y6 => Bd (M_stormOf y6.2 x3) fun y7 => Lt (fun (a4 : Int32) => (Bd (M_goesOut y6.2) fun s7 => rec2 y5 a4 s7 : Option (Int32 × ST))) fun j2 => if y7 = (-1 : Int32) then (j2 (0 : Int32)) else (j2 (1 : Int32)))) else (j1)) FU (0 : Int32) (0 : Int32) s4) else (Gs s3 1 389 ((69 : Int32) + a1) (0 : Int32) fun s8 => Gs s8 1 389 ((197 : Int32) + a1) (0 : Int32) fun s9 => rec1 (a1 + (1 : Int32)) s9)) FU (0 : Int32) s2)))))
set_option maxRecDepth 100000 in
set_option maxHeartbeats 4000000 in
theorem k_gets (l : Launch) (D : va_G) (cA : ClassId) (h : Nat → Nat) (s : ST) (x1 : Int32) (x2 : Int32) (x3 : Int32) {o : Int32 × ST} (hs : M_gets s x1 x2 x3 = some o) : MI l (KM D cA h) 9 yX10_gets cX10_gets 6 (some .int) s [.ref (h 0), .int x1, .int x2, .int x3] o.1 o.2 := by
  refine met_i (by decide) (Nat.le_of_ble_eq_true rfl) ?_
  intro p e st m args below meth c Q X RI
  unfold M_gets at hs
  refine g_aload_n X dX10_gets_0 (q := 1) rfl 0 rfl ?_
  refine g_iconst X dX10_gets_1 (q := 2) rfl li_i0 ?_
  refine mp_0 X dX10_gets_2 (q := 5) rfl hs (fun s1 hs => ?_)
  refine g_aload_n X dX10_gets_5 (q := 6) rfl 0 rfl ?_
  refine g_iload_n X dX10_gets_6 (q := 7) rfl 1 rfl ?_
  refine g_iconst X dX10_gets_7 (q := 8) rfl li_i0 ?_
  refine g_aload_n X dX10_gets_8 (q := 9) rfl 0 rfl ?_
  refine mg_34 X dX10_gets_9 (q := 12) rfl ?_
  refine g_iconst X dX10_gets_12 (q := 13) rfl li_i1 ?_
  refine g_isub X dX10_gets_13 (q := 14) rfl ?_
  refine v_isIn X dX10_gets_14 (q := 17) rfl (Nat.le_of_ble_eq_true rfl) (Nat.le_of_ble_eq_true rfl) (Nat.le_of_ble_eq_true rfl) hs (fun y1 hs => ?_)
  refine g_if_eq X dX10_gets_17 (q := 20) rfl (tgt := 51) (by decide) hs ?_ ?_
  · intro hs
    refine g_iconst X dX10_gets_51 (q := 52) rfl li_im1 ?_
    exact RI _ 52 _ _ _ (rU1 hs) rfl (rV1 hs) dX10_gets_52
  · intro hs
    refine g_aload_n X dX10_gets_20 (q := 21) rfl 0 rfl ?_
    refine g_iload_n X dX10_gets_21 (q := 22) rfl 2 rfl ?_
    refine v_isCell X dX10_gets_22 (q := 25) rfl (Nat.le_of_ble_eq_true rfl) (Nat.le_of_ble_eq_true rfl) (Nat.le_of_ble_eq_true rfl) hs (fun y2 hs => ?_)
    refine g_if_eq X dX10_gets_25 (q := 28) rfl (tgt := 51) (by decide) hs ?_ ?_
    · intro hs
      refine g_iconst X dX10_gets_51 (q := 52) rfl li_im1 ?_
      exact RI _ 52 _ _ _ (rU1 hs) rfl (rV1 hs) dX10_gets_52
    · intro hs
      refine g_aload_n X dX10_gets_28 (q := 29) rfl 0 rfl ?_
      refine g_iload_n X dX10_gets_29 (q := 30) rfl 3 rfl ?_
      refine v_isCell X dX10_gets_30 (q := 33) rfl (Nat.le_of_ble_eq_true rfl) (Nat.le_of_ble_eq_true rfl) (Nat.le_of_ble_eq_true rfl) hs (fun y3 hs => ?_)
      refine g_if_eq X dX10_gets_33 (q := 36) rfl (tgt := 51) (by decide) hs ?_ ?_
      · intro hs
        refine g_iconst X dX10_gets_51 (q := 52) rfl li_im1 ?_
        exact RI _ 52 _ _ _ (rU1 hs) rfl (rV1 hs) dX10_gets_52
      · intro hs
        refine g_iload_n X dX10_gets_36 (q := 37) rfl 2 rfl ?_
        refine g_iload_n X dX10_gets_37 (q := 38) rfl 3 rfl ?_
        refine g_icmp_eq X dX10_gets_38 (q := 41) rfl (tgt := 51) (by decide) hs ?_ ?_
        · intro hs
          refine g_iconst X dX10_gets_51 (q := 52) rfl li_im1 ?_
          exact RI _ 52 _ _ _ (rU1 hs) rfl (rV1 hs) dX10_gets_52
        · intro hs
          refine g_aload_n X dX10_gets_41 (q := 42) rfl 0 rfl ?_
          refine mg_9 X dX10_gets_42 (q := 45) rfl ?_
          refine g_iload_n X dX10_gets_45 (q := 46) rfl 2 rfl ?_
          refine ma_4 X dX10_gets_46 (q := 47) rfl hs (fun y4 hs => ?_)
          refine g_iconst X dX10_gets_47 (q := 48) rfl li_i1 ?_
          refine g_icmp_ne X dX10_gets_48 (q := 51) rfl (tgt := 53) (by decide) hs ?_ ?_
          · intro hs
            refine g_aload_n X dX10_gets_53 (q := 54) rfl 0 rfl ?_
            refine v_thinks X dX10_gets_54 (q := 57) rfl (Nat.le_of_ble_eq_true rfl) (Nat.le_of_ble_eq_true rfl) (Nat.le_of_ble_eq_true rfl) hs (fun s2 hs => ?_)
            refine g_iconst X dX10_gets_57 (q := 58) rfl li_i0 ?_
            refine g_istore X dX10_gets_58 (q := 60) rfl (Nat.le_of_ble_eq_true rfl) (lv' := [(4, .int (0 : Int32)), (0, .ref (h 0)), (1, .int x1), (2, .int x2), (3, .int x3)]) rfl ?_
            refine wg_sub [1, 2, 3, 4, 0] rfl (lpW2 (fun (a1 : Int32) (s3 : ST) => WG (KM D cA h) p l e (rmD 9) st m args below meth c Q 6 s3 60 [(0, .ref (h 0)), (1, .int x1), (2, .int x2), (3, .int x3), (4, .int a1)] []) (fun rec1 ih1 a1 s3 hs => ?_) _ _ _ hs)
            refine g_iload X dX10_gets_60 (q := 62) rfl 4 rfl ?_
            refine g_bipush X dX10_gets_62 (q := 64) rfl li_b64 ?_
            refine g_icmp_ge X dX10_gets_64 (q := 67) rfl (tgt := 96) (by decide) hs ?_ ?_
            · intro hs
              refine g_aload_n X dX10_gets_96 (q := 97) rfl 0 rfl ?_
              refine g_iload_n X dX10_gets_97 (q := 98) rfl 1 rfl ?_
              refine g_iload_n X dX10_gets_98 (q := 99) rfl 2 rfl ?_
              refine g_iconst X dX10_gets_99 (q := 100) rfl li_i0 ?_
              refine v_falls X dX10_gets_100 (q := 103) rfl (Nat.le_of_ble_eq_true rfl) (Nat.le_of_ble_eq_true rfl) (Nat.le_of_ble_eq_true rfl) hs (fun s4 hs => ?_)
              refine g_iconst X dX10_gets_103 (q := 104) rfl li_i0 ?_
              refine g_istore X dX10_gets_104 (q := 106) rfl (Nat.le_of_ble_eq_true rfl) (lv' := [(4, .int (0 : Int32)), (0, .ref (h 0)), (1, .int x1), (2, .int x2), (3, .int x3)]) rfl ?_
              refine g_iconst X dX10_gets_106 (q := 107) rfl li_i0 ?_
              refine g_istore X dX10_gets_107 (q := 109) rfl (Nat.le_of_ble_eq_true rfl) (lv' := [(5, .int (0 : Int32)), (4, .int (0 : Int32)), (0, .ref (h 0)), (1, .int x1), (2, .int x2), (3, .int x3)]) rfl ?_
              refine wg_sub [2, 5, 1, 0] rfl (lpW3 (fun (a2 : Int32) (a3 : Int32) (s5 : ST) => WG (KM D cA h) p l e (rmD 9) st m args below meth c Q 6 s5 109 [(0, .ref (h 0)), (3, .int x3), (4, .int a2), (5, .int a3)] []) (fun rec2 ih2 a2 a3 s5 hs => ?_) _ _ _ _ hs)
              refine g_iload X dX10_gets_109 (q := 111) rfl 3 rfl ?_
              refine jnW0 (WG (KM D cA h) p l e (rmD 9) st m args below meth c Q 6 s5 156 [(0, .ref (h 0)), (4, .int a2), (5, .int a3)] []) hs (fun  hs => ?_) (fun j1 ih3 hs => ?_)
              · refine g_aload_n X dX10_gets_156 (q := 157) rfl 0 rfl ?_
                refine v_endsThought X dX10_gets_157 (q := 160) rfl (Nat.le_of_ble_eq_true rfl) (Nat.le_of_ble_eq_true rfl) (Nat.le_of_ble_eq_true rfl) hs (fun s6 hs => ?_)
                refine g_iload X dX10_gets_160 (q := 162) rfl 2 rfl ?_
                refine g_if_eq X dX10_gets_162 (q := 165) rfl (tgt := 170) (by decide) hs ?_ ?_
                · intro hs
                  refine g_iconst X dX10_gets_170 (q := 171) rfl li_im1 ?_
                  exact RI _ 171 _ _ _ (rU1 hs) rfl (rV1 hs) dX10_gets_171
                · intro hs
                  refine g_iload X dX10_gets_165 (q := 167) rfl 1 rfl ?_
                  refine g_goto X dX10_gets_167 (tgt := 171) (by decide) ?_
                  exact RI _ 171 _ _ _ (rU1 hs) rfl (rV1 hs) dX10_gets_171
              refine g_if_ne X dX10_gets_111 (q := 114) rfl (tgt := 156) (by decide) hs ?_ ?_
              · intro hs
                exact wg_sub [0, 2, 3] rfl (ih3 hs)
              · intro hs
                refine g_iload X dX10_gets_114 (q := 116) rfl 2 rfl ?_
                refine g_bipush X dX10_gets_116 (q := 118) rfl li_b99 ?_
                refine g_icmp_ge X dX10_gets_118 (q := 121) rfl (tgt := 156) (by decide) hs ?_ ?_
                · intro hs
                  exact wg_sub [0, 2, 3] rfl (ih3 hs)
                · intro hs
                  refine g_iload X dX10_gets_121 (q := 123) rfl 2 rfl ?_
                  refine g_iconst X dX10_gets_123 (q := 124) rfl li_i1 ?_
                  refine g_iadd X dX10_gets_124 (q := 125) rfl ?_
                  refine nmI hs (fun y5 hs => ?_)
                  refine g_istore X dX10_gets_125 (q := 127) rfl (Nat.le_of_ble_eq_true rfl) (lv' := [(4, .int y5), (0, .ref (h 0)), (3, .int x3), (5, .int a3)]) rfl ?_
                  refine g_aload_n X dX10_gets_127 (q := 128) rfl 1 rfl ?_
                  refine g_iconst X dX10_gets_128 (q := 129) rfl li_i0 ?_
                  refine v_goesIn X dX10_gets_129 (q := 132) rfl (Nat.le_of_ble_eq_true rfl) (Nat.le_of_ble_eq_true rfl) (Nat.le_of_ble_eq_true rfl) hs (fun y6 hs => ?_)
                  refine g_pop X dX10_gets_132 (q := 133) rfl rfl ?_
                  refine g_aload_n X dX10_gets_133 (q := 134) rfl 1 rfl ?_
                  refine g_iload_n X dX10_gets_134 (q := 135) rfl 2 rfl ?_
                  refine v_stormOf X dX10_gets_135 (q := 138) rfl (Nat.le_of_ble_eq_true rfl) (Nat.le_of_ble_eq_true rfl) (Nat.le_of_ble_eq_true rfl) hs (fun y7 hs => ?_)
                  refine g_iconst X dX10_gets_138 (q := 139) rfl li_im1 ?_
                  refine jnW1 (fun (a4 : Int32) => WG (KM D cA h) p l e (rmD 9) st m args below meth c Q 6 y6.2 147 [(0, .ref (h 0)), (3, .int x3), (4, .int y5)] [.int a4]) hs (fun a4 hs => ?_) (fun j2 ih4 hs => ?_)
                  · refine g_istore X dX10_gets_147 (q := 149) rfl (Nat.le_of_ble_eq_true rfl) (lv' := [(5, .int a4), (0, .ref (h 0)), (3, .int x3), (4, .int y5)]) rfl ?_
                    refine g_aload_n X dX10_gets_149 (q := 150) rfl 1 rfl ?_
                    refine v_goesOut X dX10_gets_150 (q := 153) rfl (Nat.le_of_ble_eq_true rfl) (Nat.le_of_ble_eq_true rfl) (Nat.le_of_ble_eq_true rfl) hs (fun s7 hs => ?_)
                    refine g_goto X dX10_gets_153 (tgt := 109) (by decide) ?_
                    exact wg_sub [1, 2, 3, 0] rfl (ih2 _ _ _ hs)
                  refine g_icmp_eq X dX10_gets_139 (q := 142) rfl (tgt := 146) (by decide) hs ?_ ?_
                  · intro hs
                    refine g_iconst X dX10_gets_146 (q := 147) rfl li_i0 ?_
                    exact wg_sub [1, 2, 0] rfl (ih4 _ hs)
                  · intro hs
                    refine g_iconst X dX10_gets_142 (q := 143) rfl li_i1 ?_
                    refine g_goto X dX10_gets_143 (tgt := 147) (by decide) ?_
                    exact wg_sub [1, 2, 0] rfl (ih4 _ hs)
            · intro hs
              refine g_aload_n X dX10_gets_67 (q := 68) rfl 0 rfl ?_
              refine mg_1 X dX10_gets_68 (q := 71) rfl ?_
              refine g_bipush X dX10_gets_71 (q := 73) rfl li_b69 ?_
              refine g_iload X dX10_gets_73 (q := 75) rfl 4 rfl ?_
              refine g_iadd X dX10_gets_75 (q := 76) rfl ?_
              refine g_iconst X dX10_gets_76 (q := 77) rfl li_i0 ?_
              refine ms_1 X dX10_gets_77 (q := 78) rfl hs (fun s8 hs => ?_)
              refine g_aload_n X dX10_gets_78 (q := 79) rfl 0 rfl ?_
              refine mg_1 X dX10_gets_79 (q := 82) rfl ?_
              refine g_sipush X dX10_gets_82 (q := 85) rfl li_s197 ?_
              refine g_iload X dX10_gets_85 (q := 87) rfl 4 rfl ?_
              refine g_iadd X dX10_gets_87 (q := 88) rfl ?_
              refine g_iconst X dX10_gets_88 (q := 89) rfl li_i0 ?_
              refine ms_1 X dX10_gets_89 (q := 90) rfl hs (fun s9 hs => ?_)
              refine g_iinc X dX10_gets_90 (q := 93) rfl 4 rfl (v := (a1 + (1 : Int32))) (congrArg (HAdd.hAdd a1) li_i1) (Nat.le_of_ble_eq_true rfl) (lv' := [(4, .int (a1 + (1 : Int32))), (0, .ref (h 0)), (1, .int x1), (2, .int x2), (3, .int x3)]) rfl ?_
              refine g_goto X dX10_gets_93 (tgt := 60) (by decide) ?_
              exact wg_sub [1, 2, 3, 4, 0] rfl (ih1 _ _ hs)
          · intro hs
            refine g_iconst X dX10_gets_51 (q := 52) rfl li_im1 ?_
            exact RI _ 52 _ _ _ (rU1 hs) rfl (rV1 hs) dX10_gets_52
theorem dX10_isCalmFor_0 : decode cX10_isCalmFor 0 = .ok (.iconst 1, 1) := by decide +kernel
theorem dX10_isCalmFor_1 : decode cX10_isCalmFor 1 = .ok (.istore 4, 2) := by decide +kernel
theorem dX10_isCalmFor_3 : decode cX10_isCalmFor 3 = .ok (.iconst 0, 1) := by decide +kernel
theorem dX10_isCalmFor_4 : decode cX10_isCalmFor 4 = .ok (.istore 5, 2) := by decide +kernel
theorem dX10_isCalmFor_6 : decode cX10_isCalmFor 6 = .ok (.iload 5, 2) := by decide +kernel
theorem dX10_isCalmFor_8 : decode cX10_isCalmFor 8 = .ok (.iload_n 3, 1) := by decide +kernel
theorem dX10_isCalmFor_9 : decode cX10_isCalmFor 9 = .ok (.if_icmp .ge 42, 3) := by decide +kernel
theorem dX10_isCalmFor_12 : decode cX10_isCalmFor 12 = .ok (.iload 4, 2) := by decide +kernel
theorem dX10_isCalmFor_14 : decode cX10_isCalmFor 14 = .ok (.ifCond .eq 37, 3) := by decide +kernel
theorem dX10_isCalmFor_17 : decode cX10_isCalmFor 17 = .ok (.aload_n 0, 1) := by decide +kernel
theorem dX10_isCalmFor_18 : decode cX10_isCalmFor 18 = .ok (.iconst 1, 1) := by decide +kernel
theorem dX10_isCalmFor_19 : decode cX10_isCalmFor 19 = .ok (.invokevirtual 396, 3) := by decide +kernel
theorem dX10_isCalmFor_22 : decode cX10_isCalmFor 22 = .ok (.pop, 1) := by decide +kernel
theorem dX10_isCalmFor_23 : decode cX10_isCalmFor 23 = .ok (.aload_n 0, 1) := by decide +kernel
theorem dX10_isCalmFor_24 : decode cX10_isCalmFor 24 = .ok (.invokevirtual 418, 3) := by decide +kernel
theorem dX10_isCalmFor_27 : decode cX10_isCalmFor 27 = .ok (.lload_n 1, 1) := by decide +kernel
theorem dX10_isCalmFor_28 : decode cX10_isCalmFor 28 = .ok (.land, 1) := by decide +kernel
theorem dX10_isCalmFor_29 : decode cX10_isCalmFor 29 = .ok (.lconst 0, 1) := by decide +kernel
theorem dX10_isCalmFor_30 : decode cX10_isCalmFor 30 = .ok (.lcmp, 1) := by decide +kernel
theorem dX10_isCalmFor_31 : decode cX10_isCalmFor 31 = .ok (.ifCond .ne 7, 3) := by decide +kernel
theorem dX10_isCalmFor_34 : decode cX10_isCalmFor 34 = .ok (.iconst 1, 1) := by decide +kernel
theorem dX10_isCalmFor_35 : decode cX10_isCalmFor 35 = .ok (.goto 4, 3) := by decide +kernel
theorem dX10_isCalmFor_38 : decode cX10_isCalmFor 38 = .ok (.iconst 0, 1) := by decide +kernel
theorem dX10_isCalmFor_39 : decode cX10_isCalmFor 39 = .ok (.istore 4, 2) := by decide +kernel
theorem dX10_isCalmFor_41 : decode cX10_isCalmFor 41 = .ok (.aload_n 0, 1) := by decide +kernel
theorem dX10_isCalmFor_42 : decode cX10_isCalmFor 42 = .ok (.invokevirtual 400, 3) := by decide +kernel
theorem dX10_isCalmFor_45 : decode cX10_isCalmFor 45 = .ok (.iinc 5 1, 3) := by decide +kernel
theorem dX10_isCalmFor_48 : decode cX10_isCalmFor 48 = .ok (.goto (-42), 3) := by decide +kernel
theorem dX10_isCalmFor_51 : decode cX10_isCalmFor 51 = .ok (.iload 4, 2) := by decide +kernel
theorem dX10_isCalmFor_53 : decode cX10_isCalmFor 53 = .ok (.ireturn, 1) := by decide +kernel
def M_isCalmFor (s : ST) (x1 : Int64) (x2 : Int32) : Option (Int32 × ST) := lpK3 (C := Int32 × ST) (fun (rec1 : Int32 → Int32 → ST → Option (Int32 × ST)) (a1 : Int32) (a2 : Int32) (s1 : ST) => if x2 ≤ a2 then (some ((a1 &&& 1), s1)) else (if a1 = 0 then (some ((a1 &&& 1), s1)) else (Bd (M_goesIn s1 (1 : Int32)) fun y1 => Bd (M_stormSet y1.2) fun y2 => Lt (fun (a3 : Int32) => (Bd (M_goesOut y1.2) fun s2 => rec1 a3 (a2 + (1 : Int32)) s2 : Option (Int32 × ST))) fun j1 => if (lg_cmp (y2 &&& x1) (0 : Int64)) = 0 then (j1 (1 : Int32)) else (j1 (0 : Int32))))) FU (1 : Int32) (0 : Int32) s
set_option maxRecDepth 100000 in
set_option maxHeartbeats 4000000 in
theorem k_isCalmFor (l : Launch) (D : va_G) (cA : ClassId) (h : Nat → Nat) (s : ST) (x1 : Int64) (x2 : Int32) {o : Int32 × ST} (hs : M_isCalmFor s x1 x2 = some o) : MI l (KM D cA h) 9 yX10_isCalmFor cX10_isCalmFor 6 (some .boolean) s [.ref (h 0), .long x1, .int x2] o.1 o.2 := by
  refine met_i (by decide) (Nat.le_of_ble_eq_true rfl) ?_
  intro p e st m args below meth c Q X RI
  unfold M_isCalmFor at hs
  refine g_iconst X dX10_isCalmFor_0 (q := 1) rfl li_i1 ?_
  refine g_istore X dX10_isCalmFor_1 (q := 3) rfl (Nat.le_of_ble_eq_true rfl) (lv' := [(4, .int (1 : Int32)), (0, .ref (h 0)), (1, .long x1), (3, .int x2)]) rfl ?_
  refine g_iconst X dX10_isCalmFor_3 (q := 4) rfl li_i0 ?_
  refine g_istore X dX10_isCalmFor_4 (q := 6) rfl (Nat.le_of_ble_eq_true rfl) (lv' := [(5, .int (0 : Int32)), (4, .int (1 : Int32)), (0, .ref (h 0)), (1, .long x1), (3, .int x2)]) rfl ?_
  refine wg_sub [2, 3, 4, 1, 0] rfl (lpW3 (fun (a1 : Int32) (a2 : Int32) (s1 : ST) => WG (KM D cA h) p l e (rmD 9) st m args below meth c Q 6 s1 6 [(0, .ref (h 0)), (1, .long x1), (3, .int x2), (4, .int a1), (5, .int a2)] []) (fun rec1 ih1 a1 a2 s1 hs => ?_) _ _ _ _ hs)
  refine g_iload X dX10_isCalmFor_6 (q := 8) rfl 4 rfl ?_
  refine g_iload_n X dX10_isCalmFor_8 (q := 9) rfl 2 rfl ?_
  refine g_icmp_ge X dX10_isCalmFor_9 (q := 12) rfl (tgt := 51) (by decide) hs ?_ ?_
  · intro hs
    refine g_iload X dX10_isCalmFor_51 (q := 53) rfl 3 rfl ?_
    exact RI _ 53 _ _ _ (rU1 hs) rfl (rV1 hs) dX10_isCalmFor_53
  · intro hs
    refine g_iload X dX10_isCalmFor_12 (q := 14) rfl 3 rfl ?_
    refine g_if_eq X dX10_isCalmFor_14 (q := 17) rfl (tgt := 51) (by decide) hs ?_ ?_
    · intro hs
      refine g_iload X dX10_isCalmFor_51 (q := 53) rfl 3 rfl ?_
      exact RI _ 53 _ _ _ (rU1 hs) rfl (rV1 hs) dX10_isCalmFor_53
    · intro hs
      refine g_aload_n X dX10_isCalmFor_17 (q := 18) rfl 0 rfl ?_
      refine g_iconst X dX10_isCalmFor_18 (q := 19) rfl li_i1 ?_
      refine v_goesIn X dX10_isCalmFor_19 (q := 22) rfl (Nat.le_of_ble_eq_true rfl) (Nat.le_of_ble_eq_true rfl) (Nat.le_of_ble_eq_true rfl) hs (fun y1 hs => ?_)
      refine g_pop X dX10_isCalmFor_22 (q := 23) rfl rfl ?_
      refine g_aload_n X dX10_isCalmFor_23 (q := 24) rfl 0 rfl ?_
      refine v_stormSet X dX10_isCalmFor_24 (q := 27) rfl (Nat.le_of_ble_eq_true rfl) (Nat.le_of_ble_eq_true rfl) (Nat.le_of_ble_eq_true rfl) hs (fun y2 hs => ?_)
      refine g_lload_n X dX10_isCalmFor_27 (q := 28) rfl 1 rfl ?_
      refine g_land X dX10_isCalmFor_28 (q := 29) rfl ?_
      refine g_lconst X dX10_isCalmFor_29 (q := 30) rfl li_l0 ?_
      refine g_lcmp X dX10_isCalmFor_30 (q := 31) rfl ?_
      refine jnW1 (fun (a3 : Int32) => WG (KM D cA h) p l e (rmD 9) st m args below meth c Q 6 y1.2 39 [(0, .ref (h 0)), (1, .long x1), (3, .int x2), (5, .int a2)] [.int a3]) hs (fun a3 hs => ?_) (fun j1 ih2 hs => ?_)
      · refine g_istore X dX10_isCalmFor_39 (q := 41) rfl (Nat.le_of_ble_eq_true rfl) (lv' := [(4, .int a3), (0, .ref (h 0)), (1, .long x1), (3, .int x2), (5, .int a2)]) rfl ?_
        refine g_aload_n X dX10_isCalmFor_41 (q := 42) rfl 1 rfl ?_
        refine v_goesOut X dX10_isCalmFor_42 (q := 45) rfl (Nat.le_of_ble_eq_true rfl) (Nat.le_of_ble_eq_true rfl) (Nat.le_of_ble_eq_true rfl) hs (fun s2 hs => ?_)
        refine g_iinc X dX10_isCalmFor_45 (q := 48) rfl 4 rfl (v := (a2 + (1 : Int32))) (congrArg (HAdd.hAdd a2) li_i1) (Nat.le_of_ble_eq_true rfl) (lv' := [(5, .int (a2 + (1 : Int32))), (4, .int a3), (0, .ref (h 0)), (1, .long x1), (3, .int x2)]) rfl ?_
        refine g_goto X dX10_isCalmFor_48 (tgt := 6) (by decide) ?_
        exact wg_sub [2, 3, 4, 1, 0] rfl (ih1 _ _ _ hs)
      refine g_if_ne X dX10_isCalmFor_31 (q := 34) rfl (tgt := 38) (by decide) hs ?_ ?_
      · intro hs
        refine g_iconst X dX10_isCalmFor_38 (q := 39) rfl li_i0 ?_
        exact wg_sub [0, 1, 2, 4] rfl (ih2 _ hs)
      · intro hs
        refine g_iconst X dX10_isCalmFor_34 (q := 35) rfl li_i1 ?_
        refine g_goto X dX10_isCalmFor_35 (tgt := 39) (by decide) ?_
        exact wg_sub [0, 1, 2, 4] rfl (ih2 _ hs)
theorem v_isCalmFor {p : Program} {l : Launch} {e : Env} {st : State} {m : MethodId} {args : Array Value} {below : List Frame} {meth : Method} {c : Code} {Q : State → Prop} {nL : Nat} {cc : ByteArray} {s : ST} {pc q : Nat} {lv : List (Nat × Value)} {rest : List Value} {D : va_G} {cA : ClassId} {h : Nat → Nat} {d0 : Nat} (X : Cx (KM D cA h) p st m args meth c cc nL RX10) {x1 : Int64} {x2 : Int32} (d : decode cc pc = .ok (.invokevirtual 447, 3)) (hq : pc + 3 = q) (hd1 : 9 + 1 ≤ d0) (hd2 : 8 + (6 + 11) + 100 * 9 ≤ 100 * d0) (hr : (rest.map fun v => v.category).sum ≤ 8) {B : Type} {f : Int32 × ST → Option B} {r : B} (hs : Bd (M_isCalmFor s x1 x2) f = some r) (k : ∀ y, f y = some r → WG (KM D cA h) p l e (rmD d0) st m args below meth c Q nL y.2 q lv (.int y.1 :: rest)) : WG (KM D cA h) p l e (rmD d0) st m args below meth c Q nL s pc lv (.int x2 :: .long x1 :: .ref (h 0) :: rest) := by
  obtain ⟨v, hv, hs⟩ := Bd_e hs
  exact cV_I X 0 (n := 2) (k_isCalmFor l D cA h s x1 x2 hv) gv_X10_isCalmFor ⟨hd1, hd2⟩ ⟨by decide, by decide, by decide +kernel⟩ (As := [.long x1, .int x2]) rfl hr (Nat.le_of_ble_eq_true rfl) (fs := mF h (s.1 0)) rfl rfl rfl d hq (k _ hs)
theorem dX10_areCells_0 : decode cX10_areCells 0 = .ok (.iconst 0, 1) := by decide +kernel
theorem dX10_areCells_1 : decode cX10_areCells 1 = .ok (.istore_n 3, 1) := by decide +kernel
theorem dX10_areCells_2 : decode cX10_areCells 2 = .ok (.iload_n 3, 1) := by decide +kernel
theorem dX10_areCells_3 : decode cX10_areCells 3 = .ok (.bipush 64, 2) := by decide +kernel
theorem dX10_areCells_5 : decode cX10_areCells 5 = .ok (.if_icmp .ge 31, 3) := by decide +kernel
theorem dX10_areCells_8 : decode cX10_areCells 8 = .ok (.lload_n 1, 1) := by decide +kernel
theorem dX10_areCells_9 : decode cX10_areCells 9 = .ok (.aload_n 0, 1) := by decide +kernel
theorem dX10_areCells_10 : decode cX10_areCells 10 = .ok (.iload_n 3, 1) := by decide +kernel
theorem dX10_areCells_11 : decode cX10_areCells 11 = .ok (.invokevirtual 406, 3) := by decide +kernel
theorem dX10_areCells_14 : decode cX10_areCells 14 = .ok (.land, 1) := by decide +kernel
theorem dX10_areCells_15 : decode cX10_areCells 15 = .ok (.lconst 0, 1) := by decide +kernel
theorem dX10_areCells_16 : decode cX10_areCells 16 = .ok (.lcmp, 1) := by decide +kernel
theorem dX10_areCells_17 : decode cX10_areCells 17 = .ok (.ifCond .eq 13, 3) := by decide +kernel
theorem dX10_areCells_20 : decode cX10_areCells 20 = .ok (.aload_n 0, 1) := by decide +kernel
theorem dX10_areCells_21 : decode cX10_areCells 21 = .ok (.iload_n 3, 1) := by decide +kernel
theorem dX10_areCells_22 : decode cX10_areCells 22 = .ok (.invokevirtual 130, 3) := by decide +kernel
theorem dX10_areCells_25 : decode cX10_areCells 25 = .ok (.ifCond .ne 5, 3) := by decide +kernel
theorem dX10_areCells_28 : decode cX10_areCells 28 = .ok (.iconst 0, 1) := by decide +kernel
theorem dX10_areCells_29 : decode cX10_areCells 29 = .ok (.ireturn, 1) := by decide +kernel
theorem dX10_areCells_30 : decode cX10_areCells 30 = .ok (.iinc 3 1, 3) := by decide +kernel
theorem dX10_areCells_33 : decode cX10_areCells 33 = .ok (.goto (-31), 3) := by decide +kernel
theorem dX10_areCells_36 : decode cX10_areCells 36 = .ok (.iconst 1, 1) := by decide +kernel
theorem dX10_areCells_37 : decode cX10_areCells 37 = .ok (.ireturn, 1) := by decide +kernel
def M_areCells (s : ST) (x1 : Int64) : Option (Int32) := lpK1 (C := Int32) (fun (rec1 : Int32 → Option (Int32)) (a1 : Int32) => if (64 : Int32) ≤ a1 then (some (1 : Int32)) else (Lt (M_bit s a1) fun y1 => Lt (rec1 (a1 + (1 : Int32)) : Option (Int32)) fun j1 => if (lg_cmp (x1 &&& y1) (0 : Int64)) = 0 then (j1) else (Lt (M_isCell s a1) fun y2 => if y2 = 0 then (some (0 : Int32)) else (j1)))) FU (0 : Int32)
set_option maxRecDepth 100000 in
set_option maxHeartbeats 4000000 in
theorem k_areCells (l : Launch) (D : va_G) (cA : ClassId) (h : Nat → Nat) (s : ST) (x1 : Int64) {o : Int32} (hs : M_areCells s x1 = some o) : MI l (KM D cA h) 3 yX10_areCells cX10_areCells 4 (some .boolean) s [.ref (h 0), .long x1] o s := by
  refine met_i (by decide) (Nat.le_of_ble_eq_true rfl) ?_
  intro p e st m args below meth c Q X RI
  unfold M_areCells at hs
  refine g_iconst X dX10_areCells_0 (q := 1) rfl li_i0 ?_
  refine g_istore_n X dX10_areCells_1 (q := 2) rfl (Nat.le_of_ble_eq_true rfl) (lv' := [(3, .int (0 : Int32)), (0, .ref (h 0)), (1, .long x1)]) rfl ?_
  refine wg_sub [1, 2, 0] rfl (lpW1 (fun (a1 : Int32) => WG (KM D cA h) p l e (rmD 3) st m args below meth c Q 4 s 2 [(0, .ref (h 0)), (1, .long x1), (3, .int a1)] []) (fun rec1 ih1 a1 hs => ?_) _ _ hs)
  refine g_iload_n X dX10_areCells_2 (q := 3) rfl 2 rfl ?_
  refine g_bipush X dX10_areCells_3 (q := 5) rfl li_b64 ?_
  refine g_icmp_ge X dX10_areCells_5 (q := 8) rfl (tgt := 36) (by decide) hs ?_ ?_
  · intro hs
    refine g_iconst X dX10_areCells_36 (q := 37) rfl li_i1 ?_
    exact RI _ 37 _ _ _ rfl rfl (Option.some.inj hs) dX10_areCells_37
  · intro hs
    refine g_lload_n X dX10_areCells_8 (q := 9) rfl 1 rfl ?_
    refine g_aload_n X dX10_areCells_9 (q := 10) rfl 0 rfl ?_
    refine g_iload_n X dX10_areCells_10 (q := 11) rfl 2 rfl ?_
    refine v_bit X dX10_areCells_11 (q := 14) rfl (Nat.le_of_ble_eq_true rfl) (Nat.le_of_ble_eq_true rfl) (Nat.le_of_ble_eq_true rfl) hs (fun y1 hs => ?_)
    refine g_land X dX10_areCells_14 (q := 15) rfl ?_
    refine g_lconst X dX10_areCells_15 (q := 16) rfl li_l0 ?_
    refine g_lcmp X dX10_areCells_16 (q := 17) rfl ?_
    refine jnW0 (WG (KM D cA h) p l e (rmD 3) st m args below meth c Q 4 s 30 [(0, .ref (h 0)), (1, .long x1), (3, .int a1)] []) hs (fun  hs => ?_) (fun j1 ih2 hs => ?_)
    · refine g_iinc X dX10_areCells_30 (q := 33) rfl 2 rfl (v := (a1 + (1 : Int32))) (congrArg (HAdd.hAdd a1) li_i1) (Nat.le_of_ble_eq_true rfl) (lv' := [(3, .int (a1 + (1 : Int32))), (0, .ref (h 0)), (1, .long x1)]) rfl ?_
      refine g_goto X dX10_areCells_33 (tgt := 2) (by decide) ?_
      exact wg_sub [1, 2, 0] rfl (ih1 _ hs)
    refine g_if_eq X dX10_areCells_17 (q := 20) rfl (tgt := 30) (by decide) hs ?_ ?_
    · intro hs
      exact wg_sub [0, 1, 2] rfl (ih2 hs)
    · intro hs
      refine g_aload_n X dX10_areCells_20 (q := 21) rfl 0 rfl ?_
      refine g_iload_n X dX10_areCells_21 (q := 22) rfl 2 rfl ?_
      refine v_isCell X dX10_areCells_22 (q := 25) rfl (Nat.le_of_ble_eq_true rfl) (Nat.le_of_ble_eq_true rfl) (Nat.le_of_ble_eq_true rfl) hs (fun y2 hs => ?_)
      refine g_if_ne X dX10_areCells_25 (q := 28) rfl (tgt := 30) (by decide) hs ?_ ?_
      · intro hs
        exact wg_sub [0, 1, 2] rfl (ih2 hs)
      · intro hs
        refine g_iconst X dX10_areCells_28 (q := 29) rfl li_i0 ?_
        exact RI _ 29 _ _ _ rfl rfl (Option.some.inj hs) dX10_areCells_29
theorem v_areCells {p : Program} {l : Launch} {e : Env} {st : State} {m : MethodId} {args : Array Value} {below : List Frame} {meth : Method} {c : Code} {Q : State → Prop} {nL : Nat} {cc : ByteArray} {s : ST} {pc q : Nat} {lv : List (Nat × Value)} {rest : List Value} {D : va_G} {cA : ClassId} {h : Nat → Nat} {d0 : Nat} (X : Cx (KM D cA h) p st m args meth c cc nL RX10) {x1 : Int64} (d : decode cc pc = .ok (.invokevirtual 440, 3)) (hq : pc + 3 = q) (hd1 : 3 + 1 ≤ d0) (hd2 : 8 + (4 + 11) + 100 * 3 ≤ 100 * d0) (hr : (rest.map fun v => v.category).sum ≤ 8) {B : Type} {f : Int32 → Option B} {r : B} (hs : Bd (M_areCells s x1) f = some r) (k : ∀ y, f y = some r → WG (KM D cA h) p l e (rmD d0) st m args below meth c Q nL s q lv (.int y :: rest)) : WG (KM D cA h) p l e (rmD d0) st m args below meth c Q nL s pc lv (.long x1 :: .ref (h 0) :: rest) := by
  obtain ⟨v, hv, hs⟩ := Bd_e hs
  exact cV_I X 0 (n := 1) (k_areCells l D cA h s x1 hv) gv_X10_areCells ⟨hd1, hd2⟩ ⟨by decide, by decide, by decide +kernel⟩ (As := [.long x1]) rfl hr (Nat.le_of_ble_eq_true rfl) (fs := mF h (s.1 0)) rfl rfl rfl d hq (k _ hs)
theorem dX10_setOf_0 : decode cX10_setOf 0 = .ok (.lconst 0, 1) := by decide +kernel
theorem dX10_setOf_1 : decode cX10_setOf 1 = .ok (.lstore_n 3, 1) := by decide +kernel
theorem dX10_setOf_2 : decode cX10_setOf 2 = .ok (.iconst 0, 1) := by decide +kernel
theorem dX10_setOf_3 : decode cX10_setOf 3 = .ok (.istore 5, 2) := by decide +kernel
theorem dX10_setOf_5 : decode cX10_setOf 5 = .ok (.iload 5, 2) := by decide +kernel
theorem dX10_setOf_7 : decode cX10_setOf 7 = .ok (.iload_n 2, 1) := by decide +kernel
theorem dX10_setOf_8 : decode cX10_setOf 8 = .ok (.if_icmp .ge 33, 3) := by decide +kernel
theorem dX10_setOf_11 : decode cX10_setOf 11 = .ok (.iload_n 1, 1) := by decide +kernel
theorem dX10_setOf_12 : decode cX10_setOf 12 = .ok (.iload 5, 2) := by decide +kernel
theorem dX10_setOf_14 : decode cX10_setOf 14 = .ok (.ishr, 1) := by decide +kernel
theorem dX10_setOf_15 : decode cX10_setOf 15 = .ok (.iconst 1, 1) := by decide +kernel
theorem dX10_setOf_16 : decode cX10_setOf 16 = .ok (.iand, 1) := by decide +kernel
theorem dX10_setOf_17 : decode cX10_setOf 17 = .ok (.iconst 1, 1) := by decide +kernel
theorem dX10_setOf_18 : decode cX10_setOf 18 = .ok (.if_icmp .ne 17, 3) := by decide +kernel
theorem dX10_setOf_21 : decode cX10_setOf 21 = .ok (.lload_n 3, 1) := by decide +kernel
theorem dX10_setOf_22 : decode cX10_setOf 22 = .ok (.aload_n 0, 1) := by decide +kernel
theorem dX10_setOf_23 : decode cX10_setOf 23 = .ok (.aload_n 0, 1) := by decide +kernel
theorem dX10_setOf_24 : decode cX10_setOf 24 = .ok (.getfield 77, 3) := by decide +kernel
theorem dX10_setOf_27 : decode cX10_setOf 27 = .ok (.iload 5, 2) := by decide +kernel
theorem dX10_setOf_29 : decode cX10_setOf 29 = .ok (.iaload, 1) := by decide +kernel
theorem dX10_setOf_30 : decode cX10_setOf 30 = .ok (.invokevirtual 406, 3) := by decide +kernel
theorem dX10_setOf_33 : decode cX10_setOf 33 = .ok (.lor, 1) := by decide +kernel
theorem dX10_setOf_34 : decode cX10_setOf 34 = .ok (.lstore_n 3, 1) := by decide +kernel
theorem dX10_setOf_35 : decode cX10_setOf 35 = .ok (.iinc 5 1, 3) := by decide +kernel
theorem dX10_setOf_38 : decode cX10_setOf 38 = .ok (.goto (-33), 3) := by decide +kernel
theorem dX10_setOf_41 : decode cX10_setOf 41 = .ok (.lload_n 3, 1) := by decide +kernel
theorem dX10_setOf_42 : decode cX10_setOf 42 = .ok (.lreturn, 1) := by decide +kernel
def M_setOf (s : ST) (x1 : Int32) (x2 : Int32) : Option (Int64) := lpK2 (C := Int64) (fun (rec1 : Int64 → Int32 → Option (Int64)) (a1 : Int64) (a2 : Int32) => if x2 ≤ a2 then (some a1) else (Lt (fun (a3 : Int64) => (rec1 a3 (a2 + (1 : Int32)) : Option (Int64))) fun j1 => if ((x1 >>> (a2 &&& 31)) &&& (1 : Int32)) = (1 : Int32) then (Gl s 22 10 a2 fun y1 => Lt (M_bit s y1) fun y2 => Lt ((a1 ||| y2)) fun y3 => j1 y3) else (j1 a1))) FU (0 : Int64) (0 : Int32)
set_option maxRecDepth 100000 in
set_option maxHeartbeats 4000000 in
theorem k_setOf (l : Launch) (D : va_G) (cA : ClassId) (h : Nat → Nat) (s : ST) (x1 : Int32) (x2 : Int32) {o : Int64} (hs : M_setOf s x1 x2 = some o) : ML l (KM D cA h) 2 yX10_setOf cX10_setOf 6 (some .long) s [.ref (h 0), .int x1, .int x2] o s := by
  refine met_l (by decide) (Nat.le_of_ble_eq_true rfl) ?_
  intro p e st m args below meth c Q X RI
  unfold M_setOf at hs
  refine g_lconst X dX10_setOf_0 (q := 1) rfl li_l0 ?_
  refine g_lstore_n X dX10_setOf_1 (q := 2) rfl (Nat.le_of_ble_eq_true rfl) (lv' := [(3, .long (0 : Int64)), (0, .ref (h 0)), (1, .int x1), (2, .int x2)]) rfl ?_
  refine g_iconst X dX10_setOf_2 (q := 3) rfl li_i0 ?_
  refine g_istore X dX10_setOf_3 (q := 5) rfl (Nat.le_of_ble_eq_true rfl) (lv' := [(5, .int (0 : Int32)), (3, .long (0 : Int64)), (0, .ref (h 0)), (1, .int x1), (2, .int x2)]) rfl ?_
  refine wg_sub [2, 3, 4, 1, 0] rfl (lpW2 (fun (a1 : Int64) (a2 : Int32) => WG (KM D cA h) p l e (rmD 2) st m args below meth c Q 6 s 5 [(0, .ref (h 0)), (1, .int x1), (2, .int x2), (3, .long a1), (5, .int a2)] []) (fun rec1 ih1 a1 a2 hs => ?_) _ _ _ hs)
  refine g_iload X dX10_setOf_5 (q := 7) rfl 4 rfl ?_
  refine g_iload_n X dX10_setOf_7 (q := 8) rfl 2 rfl ?_
  refine g_icmp_ge X dX10_setOf_8 (q := 11) rfl (tgt := 41) (by decide) hs ?_ ?_
  · intro hs
    refine g_lload_n X dX10_setOf_41 (q := 42) rfl 3 rfl ?_
    exact RI _ 42 _ _ rfl (Option.some.inj hs) dX10_setOf_42
  · intro hs
    refine g_iload_n X dX10_setOf_11 (q := 12) rfl 1 rfl ?_
    refine g_iload X dX10_setOf_12 (q := 14) rfl 4 rfl ?_
    refine g_ishr X dX10_setOf_14 (q := 15) rfl ?_
    refine g_iconst X dX10_setOf_15 (q := 16) rfl li_i1 ?_
    refine g_iand X dX10_setOf_16 (q := 17) rfl ?_
    refine g_iconst X dX10_setOf_17 (q := 18) rfl li_i1 ?_
    refine jnW1 (fun (a3 : Int64) => WG (KM D cA h) p l e (rmD 2) st m args below meth c Q 6 s 35 [(0, .ref (h 0)), (1, .int x1), (2, .int x2), (3, .long a3), (5, .int a2)] []) hs (fun a3 hs => ?_) (fun j1 ih2 hs => ?_)
    · refine g_iinc X dX10_setOf_35 (q := 38) rfl 4 rfl (v := (a2 + (1 : Int32))) (congrArg (HAdd.hAdd a2) li_i1) (Nat.le_of_ble_eq_true rfl) (lv' := [(5, .int (a2 + (1 : Int32))), (0, .ref (h 0)), (1, .int x1), (2, .int x2), (3, .long a3)]) rfl ?_
      refine g_goto X dX10_setOf_38 (tgt := 5) (by decide) ?_
      exact wg_sub [1, 2, 3, 4, 0] rfl (ih1 _ _ hs)
    refine g_icmp_ne X dX10_setOf_18 (q := 21) rfl (tgt := 35) (by decide) hs ?_ ?_
    · intro hs
      exact wg_sub [0, 1, 2, 3, 4] rfl (ih2 _ hs)
    · intro hs
      refine g_lload_n X dX10_setOf_21 (q := 22) rfl 3 rfl ?_
      refine g_aload_n X dX10_setOf_22 (q := 23) rfl 0 rfl ?_
      refine g_aload_n X dX10_setOf_23 (q := 24) rfl 0 rfl ?_
      refine mg_47 X dX10_setOf_24 (q := 27) rfl ?_
      refine g_iload X dX10_setOf_27 (q := 29) rfl 4 rfl ?_
      refine ma_22 X dX10_setOf_29 (q := 30) rfl hs (fun y1 hs => ?_)
      refine v_bit X dX10_setOf_30 (q := 33) rfl (Nat.le_of_ble_eq_true rfl) (Nat.le_of_ble_eq_true rfl) (Nat.le_of_ble_eq_true rfl) hs (fun y2 hs => ?_)
      refine g_lor X dX10_setOf_33 (q := 34) rfl ?_
      refine nmL hs (fun y3 hs => ?_)
      refine g_lstore_n X dX10_setOf_34 (q := 35) rfl (Nat.le_of_ble_eq_true rfl) (lv' := [(3, .long y3), (0, .ref (h 0)), (1, .int x1), (2, .int x2), (5, .int a2)]) rfl ?_
      exact wg_sub [1, 2, 3, 0, 4] rfl (ih2 _ hs)
theorem v_setOf {p : Program} {l : Launch} {e : Env} {st : State} {m : MethodId} {args : Array Value} {below : List Frame} {meth : Method} {c : Code} {Q : State → Prop} {nL : Nat} {cc : ByteArray} {s : ST} {pc q : Nat} {lv : List (Nat × Value)} {rest : List Value} {D : va_G} {cA : ClassId} {h : Nat → Nat} {d0 : Nat} (X : Cx (KM D cA h) p st m args meth c cc nL RX10) {x1 : Int32} {x2 : Int32} (d : decode cc pc = .ok (.invokevirtual 451, 3)) (hq : pc + 3 = q) (hd1 : 2 + 1 ≤ d0) (hd2 : 8 + (6 + 11) + 100 * 2 ≤ 100 * d0) (hr : (rest.map fun v => v.category).sum ≤ 8) {B : Type} {f : Int64 → Option B} {r : B} (hs : Bd (M_setOf s x1 x2) f = some r) (k : ∀ y, f y = some r → WG (KM D cA h) p l e (rmD d0) st m args below meth c Q nL s q lv (.long y :: rest)) : WG (KM D cA h) p l e (rmD d0) st m args below meth c Q nL s pc lv (.int x2 :: .int x1 :: .ref (h 0) :: rest) := by
  obtain ⟨v, hv, hs⟩ := Bd_e hs
  exact cV_L X 0 (n := 2) (k_setOf l D cA h s x1 x2 hv) gv_X10_setOf ⟨hd1, hd2⟩ ⟨by decide, by decide, by decide +kernel⟩ (As := [.int x1, .int x2]) rfl hr (Nat.le_of_ble_eq_true rfl) (fs := mF h (s.1 0)) rfl rfl rfl d hq (k _ hs)
theorem dX10_weeds_0 : decode cX10_weeds 0 = .ok (.aload_n 0, 1) := by decide +kernel
theorem dX10_weeds_1 : decode cX10_weeds 1 = .ok (.iconst 0, 1) := by decide +kernel
theorem dX10_weeds_2 : decode cX10_weeds 2 = .ok (.putfield 83, 3) := by decide +kernel
theorem dX10_weeds_5 : decode cX10_weeds 5 = .ok (.aload_n 0, 1) := by decide +kernel
theorem dX10_weeds_6 : decode cX10_weeds 6 = .ok (.bipush 69, 2) := by decide +kernel
theorem dX10_weeds_8 : decode cX10_weeds 8 = .ok (.iconst (-1), 1) := by decide +kernel
theorem dX10_weeds_9 : decode cX10_weeds 9 = .ok (.invokevirtual 403, 3) := by decide +kernel
theorem dX10_weeds_12 : decode cX10_weeds 12 = .ok (.istore 5, 2) := by decide +kernel
theorem dX10_weeds_14 : decode cX10_weeds 14 = .ok (.aload_n 0, 1) := by decide +kernel
theorem dX10_weeds_15 : decode cX10_weeds 15 = .ok (.lload_n 1, 1) := by decide +kernel
theorem dX10_weeds_16 : decode cX10_weeds 16 = .ok (.invokevirtual 440, 3) := by decide +kernel
theorem dX10_weeds_19 : decode cX10_weeds 19 = .ok (.ifCond .eq 32, 3) := by decide +kernel
theorem dX10_weeds_22 : decode cX10_weeds 22 = .ok (.aload_n 0, 1) := by decide +kernel
theorem dX10_weeds_23 : decode cX10_weeds 23 = .ok (.iload_n 3, 1) := by decide +kernel
theorem dX10_weeds_24 : decode cX10_weeds 24 = .ok (.iconst 1, 1) := by decide +kernel
theorem dX10_weeds_25 : decode cX10_weeds 25 = .ok (.bipush 60, 2) := by decide +kernel
theorem dX10_weeds_27 : decode cX10_weeds 27 = .ok (.invokevirtual 111, 3) := by decide +kernel
theorem dX10_weeds_30 : decode cX10_weeds 30 = .ok (.ifCond .eq 21, 3) := by decide +kernel
theorem dX10_weeds_33 : decode cX10_weeds 33 = .ok (.aload_n 0, 1) := by decide +kernel
theorem dX10_weeds_34 : decode cX10_weeds 34 = .ok (.iload 4, 2) := by decide +kernel
theorem dX10_weeds_36 : decode cX10_weeds 36 = .ok (.iconst 0, 1) := by decide +kernel
theorem dX10_weeds_37 : decode cX10_weeds 37 = .ok (.iconst 1, 1) := by decide +kernel
theorem dX10_weeds_38 : decode cX10_weeds 38 = .ok (.invokevirtual 111, 3) := by decide +kernel
theorem dX10_weeds_41 : decode cX10_weeds 41 = .ok (.ifCond .eq 10, 3) := by decide +kernel
theorem dX10_weeds_44 : decode cX10_weeds 44 = .ok (.iload 5, 2) := by decide +kernel
theorem dX10_weeds_46 : decode cX10_weeds 46 = .ok (.bipush 10, 2) := by decide +kernel
theorem dX10_weeds_48 : decode cX10_weeds 48 = .ok (.if_icmp .le 7, 3) := by decide +kernel
theorem dX10_weeds_51 : decode cX10_weeds 51 = .ok (.ldc2_w 410, 3) := by decide +kernel
theorem dX10_weeds_54 : decode cX10_weeds 54 = .ok (.lreturn, 1) := by decide +kernel
theorem dX10_weeds_55 : decode cX10_weeds 55 = .ok (.iconst 0, 1) := by decide +kernel
theorem dX10_weeds_56 : decode cX10_weeds 56 = .ok (.istore 6, 2) := by decide +kernel
theorem dX10_weeds_58 : decode cX10_weeds 58 = .ok (.iconst 0, 1) := by decide +kernel
theorem dX10_weeds_59 : decode cX10_weeds 59 = .ok (.istore 7, 2) := by decide +kernel
theorem dX10_weeds_61 : decode cX10_weeds 61 = .ok (.iload 7, 2) := by decide +kernel
theorem dX10_weeds_63 : decode cX10_weeds 63 = .ok (.bipush 64, 2) := by decide +kernel
theorem dX10_weeds_65 : decode cX10_weeds 65 = .ok (.if_icmp .ge 37, 3) := by decide +kernel
theorem dX10_weeds_68 : decode cX10_weeds 68 = .ok (.aload_n 0, 1) := by decide +kernel
theorem dX10_weeds_69 : decode cX10_weeds 69 = .ok (.iload 7, 2) := by decide +kernel
theorem dX10_weeds_71 : decode cX10_weeds 71 = .ok (.invokevirtual 134, 3) := by decide +kernel
theorem dX10_weeds_74 : decode cX10_weeds 74 = .ok (.iconst (-1), 1) := by decide +kernel
theorem dX10_weeds_75 : decode cX10_weeds 75 = .ok (.if_icmp .ne 6, 3) := by decide +kernel
theorem dX10_weeds_78 : decode cX10_weeds 78 = .ok (.goto 18, 3) := by decide +kernel
theorem dX10_weeds_81 : decode cX10_weeds 81 = .ok (.aload_n 0, 1) := by decide +kernel
theorem dX10_weeds_82 : decode cX10_weeds 82 = .ok (.getfield 77, 3) := by decide +kernel
theorem dX10_weeds_85 : decode cX10_weeds 85 = .ok (.iload 6, 2) := by decide +kernel
theorem dX10_weeds_87 : decode cX10_weeds 87 = .ok (.iload 7, 2) := by decide +kernel
theorem dX10_weeds_89 : decode cX10_weeds 89 = .ok (.iastore, 1) := by decide +kernel
theorem dX10_weeds_90 : decode cX10_weeds 90 = .ok (.iload 6, 2) := by decide +kernel
theorem dX10_weeds_92 : decode cX10_weeds 92 = .ok (.iconst 1, 1) := by decide +kernel
theorem dX10_weeds_93 : decode cX10_weeds 93 = .ok (.iadd, 1) := by decide +kernel
theorem dX10_weeds_94 : decode cX10_weeds 94 = .ok (.istore 6, 2) := by decide +kernel
theorem dX10_weeds_96 : decode cX10_weeds 96 = .ok (.iinc 7 1, 3) := by decide +kernel
theorem dX10_weeds_99 : decode cX10_weeds 99 = .ok (.goto (-38), 3) := by decide +kernel
theorem dX10_weeds_102 : decode cX10_weeds 102 = .ok (.iconst (-1), 1) := by decide +kernel
theorem dX10_weeds_103 : decode cX10_weeds 103 = .ok (.istore 7, 2) := by decide +kernel
theorem dX10_weeds_105 : decode cX10_weeds 105 = .ok (.aload_n 0, 1) := by decide +kernel
theorem dX10_weeds_106 : decode cX10_weeds 106 = .ok (.invokevirtual 412, 3) := by decide +kernel
theorem dX10_weeds_109 : decode cX10_weeds 109 = .ok (.iconst 0, 1) := by decide +kernel
theorem dX10_weeds_110 : decode cX10_weeds 110 = .ok (.istore 8, 2) := by decide +kernel
theorem dX10_weeds_112 : decode cX10_weeds 112 = .ok (.iload 8, 2) := by decide +kernel
theorem dX10_weeds_114 : decode cX10_weeds 114 = .ok (.iconst 1, 1) := by decide +kernel
theorem dX10_weeds_115 : decode cX10_weeds 115 = .ok (.iload 5, 2) := by decide +kernel
theorem dX10_weeds_117 : decode cX10_weeds 117 = .ok (.ishl, 1) := by decide +kernel
theorem dX10_weeds_118 : decode cX10_weeds 118 = .ok (.if_icmp .ge 93, 3) := by decide +kernel
theorem dX10_weeds_121 : decode cX10_weeds 121 = .ok (.iload 7, 2) := by decide +kernel
theorem dX10_weeds_123 : decode cX10_weeds 123 = .ok (.iconst (-1), 1) := by decide +kernel
theorem dX10_weeds_124 : decode cX10_weeds 124 = .ok (.if_icmp .eq 21, 3) := by decide +kernel
theorem dX10_weeds_127 : decode cX10_weeds 127 = .ok (.aload_n 0, 1) := by decide +kernel
theorem dX10_weeds_128 : decode cX10_weeds 128 = .ok (.iload 8, 2) := by decide +kernel
theorem dX10_weeds_130 : decode cX10_weeds 130 = .ok (.invokevirtual 444, 3) := by decide +kernel
theorem dX10_weeds_133 : decode cX10_weeds 133 = .ok (.aload_n 0, 1) := by decide +kernel
theorem dX10_weeds_134 : decode cX10_weeds 134 = .ok (.iload 7, 2) := by decide +kernel
theorem dX10_weeds_136 : decode cX10_weeds 136 = .ok (.invokevirtual 444, 3) := by decide +kernel
theorem dX10_weeds_139 : decode cX10_weeds 139 = .ok (.if_icmp .lt 6, 3) := by decide +kernel
theorem dX10_weeds_142 : decode cX10_weeds 142 = .ok (.goto 63, 3) := by decide +kernel
theorem dX10_weeds_145 : decode cX10_weeds 145 = .ok (.iconst 0, 1) := by decide +kernel
theorem dX10_weeds_146 : decode cX10_weeds 146 = .ok (.istore 9, 2) := by decide +kernel
theorem dX10_weeds_148 : decode cX10_weeds 148 = .ok (.iload 9, 2) := by decide +kernel
theorem dX10_weeds_150 : decode cX10_weeds 150 = .ok (.iload 5, 2) := by decide +kernel
theorem dX10_weeds_152 : decode cX10_weeds 152 = .ok (.if_icmp .ge 36, 3) := by decide +kernel
theorem dX10_weeds_155 : decode cX10_weeds 155 = .ok (.iload 8, 2) := by decide +kernel
theorem dX10_weeds_157 : decode cX10_weeds 157 = .ok (.iload 9, 2) := by decide +kernel
theorem dX10_weeds_159 : decode cX10_weeds 159 = .ok (.ishr, 1) := by decide +kernel
theorem dX10_weeds_160 : decode cX10_weeds 160 = .ok (.iconst 1, 1) := by decide +kernel
theorem dX10_weeds_161 : decode cX10_weeds 161 = .ok (.iand, 1) := by decide +kernel
theorem dX10_weeds_162 : decode cX10_weeds 162 = .ok (.iconst 1, 1) := by decide +kernel
theorem dX10_weeds_163 : decode cX10_weeds 163 = .ok (.if_icmp .ne 19, 3) := by decide +kernel
theorem dX10_weeds_166 : decode cX10_weeds 166 = .ok (.aload_n 0, 1) := by decide +kernel
theorem dX10_weeds_167 : decode cX10_weeds 167 = .ok (.getfield 7, 3) := by decide +kernel
theorem dX10_weeds_170 : decode cX10_weeds 170 = .ok (.bipush 69, 2) := by decide +kernel
theorem dX10_weeds_172 : decode cX10_weeds 172 = .ok (.aload_n 0, 1) := by decide +kernel
theorem dX10_weeds_173 : decode cX10_weeds 173 = .ok (.getfield 77, 3) := by decide +kernel
theorem dX10_weeds_176 : decode cX10_weeds 176 = .ok (.iload 9, 2) := by decide +kernel
theorem dX10_weeds_178 : decode cX10_weeds 178 = .ok (.iaload, 1) := by decide +kernel
theorem dX10_weeds_179 : decode cX10_weeds 179 = .ok (.iadd, 1) := by decide +kernel
theorem dX10_weeds_180 : decode cX10_weeds 180 = .ok (.iconst 0, 1) := by decide +kernel
theorem dX10_weeds_181 : decode cX10_weeds 181 = .ok (.iastore, 1) := by decide +kernel
theorem dX10_weeds_182 : decode cX10_weeds 182 = .ok (.iinc 9 1, 3) := by decide +kernel
theorem dX10_weeds_185 : decode cX10_weeds 185 = .ok (.goto (-37), 3) := by decide +kernel
theorem dX10_weeds_188 : decode cX10_weeds 188 = .ok (.aload_n 0, 1) := by decide +kernel
theorem dX10_weeds_189 : decode cX10_weeds 189 = .ok (.lload_n 1, 1) := by decide +kernel
theorem dX10_weeds_190 : decode cX10_weeds 190 = .ok (.iload_n 3, 1) := by decide +kernel
theorem dX10_weeds_191 : decode cX10_weeds 191 = .ok (.invokevirtual 447, 3) := by decide +kernel
theorem dX10_weeds_194 : decode cX10_weeds 194 = .ok (.ifCond .eq 7, 3) := by decide +kernel
theorem dX10_weeds_197 : decode cX10_weeds 197 = .ok (.iload 8, 2) := by decide +kernel
theorem dX10_weeds_199 : decode cX10_weeds 199 = .ok (.istore 7, 2) := by decide +kernel
theorem dX10_weeds_201 : decode cX10_weeds 201 = .ok (.aload_n 0, 1) := by decide +kernel
theorem dX10_weeds_202 : decode cX10_weeds 202 = .ok (.invokevirtual 93, 3) := by decide +kernel
theorem dX10_weeds_205 : decode cX10_weeds 205 = .ok (.iinc 8 1, 3) := by decide +kernel
theorem dX10_weeds_208 : decode cX10_weeds 208 = .ok (.goto (-96), 3) := by decide +kernel
theorem dX10_weeds_211 : decode cX10_weeds 211 = .ok (.aload_n 0, 1) := by decide +kernel
theorem dX10_weeds_212 : decode cX10_weeds 212 = .ok (.invokevirtual 422, 3) := by decide +kernel
theorem dX10_weeds_215 : decode cX10_weeds 215 = .ok (.iload 7, 2) := by decide +kernel
theorem dX10_weeds_217 : decode cX10_weeds 217 = .ok (.iconst (-1), 1) := by decide +kernel
theorem dX10_weeds_218 : decode cX10_weeds 218 = .ok (.if_icmp .ne 9, 3) := by decide +kernel
theorem dX10_weeds_221 : decode cX10_weeds 221 = .ok (.ldc2_w 410, 3) := by decide +kernel
theorem dX10_weeds_224 : decode cX10_weeds 224 = .ok (.goto 26, 3) := by decide +kernel
theorem dX10_weeds_227 : decode cX10_weeds 227 = .ok (.iload 4, 2) := by decide +kernel
theorem dX10_weeds_229 : decode cX10_weeds 229 = .ok (.ifCond .ne 13, 3) := by decide +kernel
theorem dX10_weeds_232 : decode cX10_weeds 232 = .ok (.aload_n 0, 1) := by decide +kernel
theorem dX10_weeds_233 : decode cX10_weeds 233 = .ok (.iload 7, 2) := by decide +kernel
theorem dX10_weeds_235 : decode cX10_weeds 235 = .ok (.invokevirtual 444, 3) := by decide +kernel
theorem dX10_weeds_238 : decode cX10_weeds 238 = .ok (.i2l, 1) := by decide +kernel
theorem dX10_weeds_239 : decode cX10_weeds 239 = .ok (.goto 11, 3) := by decide +kernel
theorem dX10_weeds_242 : decode cX10_weeds 242 = .ok (.aload_n 0, 1) := by decide +kernel
theorem dX10_weeds_243 : decode cX10_weeds 243 = .ok (.iload 7, 2) := by decide +kernel
theorem dX10_weeds_245 : decode cX10_weeds 245 = .ok (.iload 5, 2) := by decide +kernel
theorem dX10_weeds_247 : decode cX10_weeds 247 = .ok (.invokevirtual 451, 3) := by decide +kernel
theorem dX10_weeds_250 : decode cX10_weeds 250 = .ok (.lreturn, 1) := by decide +kernel
def M_weeds (s : ST) (x1 : Int64) (x2 : Int32) (x3 : Int32) : Option (Int64 × ST) := Lt (ups s 0 0 (0 : Int32)) fun s1 => Bd (M_manyOf s1 (69 : Int32) (-1 : Int32)) fun y1 => Bd (M_areCells s1 x1) fun y2 => Lt (some ((-1 : Int64), s1) : Option (Int64 × ST)) fun j1 => if y2 = 0 then (j1) else (Lt (M_isIn s1 x2 (1 : Int32) (60 : Int32)) fun y3 => if y3 = 0 then (j1) else (Lt (M_isIn s1 x3 (0 : Int32) (1 : Int32)) fun y4 => if y4 = 0 then (j1) else (if y1 ≤ (10 : Int32) then (lpK3 (C := Int64 × ST) (fun (rec1 : Int32 → Int32 → ST → Option (Int64 × ST)) (a1 : Int32) (a2 : Int32) (s2 : ST) => if (64 : Int32) ≤ a2 then (Bd (M_thinks s2) fun s3 => lpK3 (C := Int64 × ST) (fun (rec2 : Int32 → Int32 → ST → Option (Int64 × ST)) (a3 : Int32) (a4 : Int32) (s4 : ST) => if ((1 : Int32) <<< (y1 &&& 31)) ≤ a4 then (Bd (M_endsThought s4) fun s5 => if a3 = (-1 : Int32) then (some ((-1 : Int64), s5)) else (if x3 = 0 then (Bd (M_onesOf s5 a3) fun y6 => some (y6.toInt64, s5)) else (Bd (M_setOf s5 a3 y1) fun y5 => some (y5, s5)))) else (Lt (fun (a5 : Int32) (s6 : ST) => (rec2 a5 (a4 + (1 : Int32)) s6 : Option (Int64 × ST))) fun j2 => Lt (lpK2 (C := Int64 × ST) (fun (rec3 : Int32 → ST → Option (Int64 × ST)) (a6 : Int32) (s7 : ST) => if y1 ≤ a6 then (Bd (M_isCalmFor s7 x1 x2) fun y7 => Lt (fun (a7 : Int32) => (Bd (M_thinksAnew y7.2) fun s8 => j2 a7 s8 : Option (Int64 × ST))) fun j4 => if y7.1 = 0 then (j4 a3) else (j4 a4)) else (Lt (fun (s9 : ST) => (rec3 (a6 + (1 : Int32)) s9 : Option (Int64 × ST))) fun j5 => if ((a4 >>> (a6 &&& 31)) &&& (1 : Int32)) = (1 : Int32) then (Gl s7 22 10 a6 fun y8 => Gs s7 1 389 ((69 : Int32) + y8) (0 : Int32) fun s10 => j5 s10) else (j5 s7))) FU (0 : Int32) s4 : Option (Int64 × ST)) fun j3 => if a3 = (-1 : Int32) then (j3) else (Bd (M_onesOf s4 a4) fun y9 => Bd (M_onesOf s4 a3) fun y10 => if y9 < y10 then (j3) else (j2 a3 s4)))) FU (-1 : Int32) (0 : Int32) s3) else (Bd (M_seedOf s2 a2) fun y11 => Lt (fun (a8 : Int32) (s11 : ST) => (rec1 a8 (a2 + (1 : Int32)) s11 : Option (Int64 × ST))) fun j6 => if y11 = (-1 : Int32) then (j6 a1 s2) else (Gs s2 22 10 a1 a2 fun s12 => Lt ((a1 + (1 : Int32))) fun y12 => j6 y12 s12))) FU (0 : Int32) (0 : Int32) s1) else (j1))))
set_option maxRecDepth 100000 in
set_option maxHeartbeats 4000000 in
theorem k_weeds (l : Launch) (D : va_G) (cA : ClassId) (h : Nat → Nat) (s : ST) (x1 : Int64) (x2 : Int32) (x3 : Int32) {o : Int64 × ST} (hs : M_weeds s x1 x2 x3 = some o) : ML l (KM D cA h) 10 yX10_weeds cX10_weeds 10 (some .long) s [.ref (h 0), .long x1, .int x2, .int x3] o.1 o.2 := by
  refine met_l (by decide) (Nat.le_of_ble_eq_true rfl) ?_
  intro p e st m args below meth c Q X RI
  unfold M_weeds at hs
  refine g_aload_n X dX10_weeds_0 (q := 1) rfl 0 rfl ?_
  refine g_iconst X dX10_weeds_1 (q := 2) rfl li_i0 ?_
  refine mp_0 X dX10_weeds_2 (q := 5) rfl hs (fun s1 hs => ?_)
  refine g_aload_n X dX10_weeds_5 (q := 6) rfl 0 rfl ?_
  refine g_bipush X dX10_weeds_6 (q := 8) rfl li_b69 ?_
  refine g_iconst X dX10_weeds_8 (q := 9) rfl li_im1 ?_
  refine v_manyOf X dX10_weeds_9 (q := 12) rfl (Nat.le_of_ble_eq_true rfl) (Nat.le_of_ble_eq_true rfl) (Nat.le_of_ble_eq_true rfl) hs (fun y1 hs => ?_)
  refine g_istore X dX10_weeds_12 (q := 14) rfl (Nat.le_of_ble_eq_true rfl) (lv' := [(5, .int y1), (0, .ref (h 0)), (1, .long x1), (3, .int x2), (4, .int x3)]) rfl ?_
  refine g_aload_n X dX10_weeds_14 (q := 15) rfl 1 rfl ?_
  refine g_lload_n X dX10_weeds_15 (q := 16) rfl 2 rfl ?_
  refine v_areCells X dX10_weeds_16 (q := 19) rfl (Nat.le_of_ble_eq_true rfl) (Nat.le_of_ble_eq_true rfl) (Nat.le_of_ble_eq_true rfl) hs (fun y2 hs => ?_)
  refine jnW0 (WG (KM D cA h) p l e (rmD 10) st m args below meth c Q 10 s1 51 [] []) hs (fun  hs => ?_) (fun j1 ih1 hs => ?_)
  · refine g_ldc2_w X dX10_weeds_51 (q := 54) rfl kc_X10_410 ?_
    exact RI _ 54 _ _ (rU1 hs) (rV1 hs) dX10_weeds_54
  refine g_if_eq X dX10_weeds_19 (q := 22) rfl (tgt := 51) (by decide) hs ?_ ?_
  · intro hs
    exact wg_sub [] rfl (ih1 hs)
  · intro hs
    refine g_aload_n X dX10_weeds_22 (q := 23) rfl 1 rfl ?_
    refine g_iload_n X dX10_weeds_23 (q := 24) rfl 3 rfl ?_
    refine g_iconst X dX10_weeds_24 (q := 25) rfl li_i1 ?_
    refine g_bipush X dX10_weeds_25 (q := 27) rfl li_b60 ?_
    refine v_isIn X dX10_weeds_27 (q := 30) rfl (Nat.le_of_ble_eq_true rfl) (Nat.le_of_ble_eq_true rfl) (Nat.le_of_ble_eq_true rfl) hs (fun y3 hs => ?_)
    refine g_if_eq X dX10_weeds_30 (q := 33) rfl (tgt := 51) (by decide) hs ?_ ?_
    · intro hs
      exact wg_sub [] rfl (ih1 hs)
    · intro hs
      refine g_aload_n X dX10_weeds_33 (q := 34) rfl 1 rfl ?_
      refine g_iload X dX10_weeds_34 (q := 36) rfl 4 rfl ?_
      refine g_iconst X dX10_weeds_36 (q := 37) rfl li_i0 ?_
      refine g_iconst X dX10_weeds_37 (q := 38) rfl li_i1 ?_
      refine v_isIn X dX10_weeds_38 (q := 41) rfl (Nat.le_of_ble_eq_true rfl) (Nat.le_of_ble_eq_true rfl) (Nat.le_of_ble_eq_true rfl) hs (fun y4 hs => ?_)
      refine g_if_eq X dX10_weeds_41 (q := 44) rfl (tgt := 51) (by decide) hs ?_ ?_
      · intro hs
        exact wg_sub [] rfl (ih1 hs)
      · intro hs
        refine g_iload X dX10_weeds_44 (q := 46) rfl 0 rfl ?_
        refine g_bipush X dX10_weeds_46 (q := 48) rfl li_b10 ?_
        refine g_icmp_le X dX10_weeds_48 (q := 51) rfl (tgt := 55) (by decide) hs ?_ ?_
        · intro hs
          refine g_iconst X dX10_weeds_55 (q := 56) rfl li_i0 ?_
          refine g_istore X dX10_weeds_56 (q := 58) rfl (Nat.le_of_ble_eq_true rfl) (lv' := [(6, .int (0 : Int32)), (5, .int y1), (0, .ref (h 0)), (1, .long x1), (3, .int x2), (4, .int x3)]) rfl ?_
          refine g_iconst X dX10_weeds_58 (q := 59) rfl li_i0 ?_
          refine g_istore X dX10_weeds_59 (q := 61) rfl (Nat.le_of_ble_eq_true rfl) (lv' := [(7, .int (0 : Int32)), (6, .int (0 : Int32)), (5, .int y1), (0, .ref (h 0)), (1, .long x1), (3, .int x2), (4, .int x3)]) rfl ?_
          refine wg_sub [3, 4, 5, 6, 2, 1, 0] rfl (lpW3 (fun (a1 : Int32) (a2 : Int32) (s2 : ST) => WG (KM D cA h) p l e (rmD 10) st m args below meth c Q 10 s2 61 [(0, .ref (h 0)), (1, .long x1), (3, .int x2), (4, .int x3), (5, .int y1), (6, .int a1), (7, .int a2)] []) (fun rec1 ih2 a1 a2 s2 hs => ?_) _ _ _ _ hs)
          refine g_iload X dX10_weeds_61 (q := 63) rfl 6 rfl ?_
          refine g_bipush X dX10_weeds_63 (q := 65) rfl li_b64 ?_
          refine g_icmp_ge X dX10_weeds_65 (q := 68) rfl (tgt := 102) (by decide) hs ?_ ?_
          · intro hs
            refine g_iconst X dX10_weeds_102 (q := 103) rfl li_im1 ?_
            refine g_istore X dX10_weeds_103 (q := 105) rfl (Nat.le_of_ble_eq_true rfl) (lv' := [(7, .int (-1 : Int32)), (0, .ref (h 0)), (1, .long x1), (3, .int x2), (4, .int x3), (5, .int y1), (6, .int a1)]) rfl ?_
            refine g_aload_n X dX10_weeds_105 (q := 106) rfl 1 rfl ?_
            refine v_thinks X dX10_weeds_106 (q := 109) rfl (Nat.le_of_ble_eq_true rfl) (Nat.le_of_ble_eq_true rfl) (Nat.le_of_ble_eq_true rfl) hs (fun s3 hs => ?_)
            refine g_iconst X dX10_weeds_109 (q := 110) rfl li_i0 ?_
            refine g_istore X dX10_weeds_110 (q := 112) rfl (Nat.le_of_ble_eq_true rfl) (lv' := [(8, .int (0 : Int32)), (7, .int (-1 : Int32)), (0, .ref (h 0)), (1, .long x1), (3, .int x2), (4, .int x3), (5, .int y1), (6, .int a1)]) rfl ?_
            refine wg_sub [2, 3, 4, 5, 6, 1, 0] rfl (lpW3 (fun (a3 : Int32) (a4 : Int32) (s4 : ST) => WG (KM D cA h) p l e (rmD 10) st m args below meth c Q 10 s4 112 [(0, .ref (h 0)), (1, .long x1), (3, .int x2), (4, .int x3), (5, .int y1), (7, .int a3), (8, .int a4)] []) (fun rec2 ih3 a3 a4 s4 hs => ?_) _ _ _ _ hs)
            refine g_iload X dX10_weeds_112 (q := 114) rfl 6 rfl ?_
            refine g_iconst X dX10_weeds_114 (q := 115) rfl li_i1 ?_
            refine g_iload X dX10_weeds_115 (q := 117) rfl 4 rfl ?_
            refine g_ishl X dX10_weeds_117 (q := 118) rfl ?_
            refine g_icmp_ge X dX10_weeds_118 (q := 121) rfl (tgt := 211) (by decide) hs ?_ ?_
            · intro hs
              refine g_aload_n X dX10_weeds_211 (q := 212) rfl 0 rfl ?_
              refine v_endsThought X dX10_weeds_212 (q := 215) rfl (Nat.le_of_ble_eq_true rfl) (Nat.le_of_ble_eq_true rfl) (Nat.le_of_ble_eq_true rfl) hs (fun s5 hs => ?_)
              refine g_iload X dX10_weeds_215 (q := 217) rfl 5 rfl ?_
              refine g_iconst X dX10_weeds_217 (q := 218) rfl li_im1 ?_
              refine g_icmp_ne X dX10_weeds_218 (q := 221) rfl (tgt := 227) (by decide) hs ?_ ?_
              · intro hs
                refine g_iload X dX10_weeds_227 (q := 229) rfl 3 rfl ?_
                refine g_if_ne X dX10_weeds_229 (q := 232) rfl (tgt := 242) (by decide) hs ?_ ?_
                · intro hs
                  refine g_aload_n X dX10_weeds_242 (q := 243) rfl 0 rfl ?_
                  refine g_iload X dX10_weeds_243 (q := 245) rfl 5 rfl ?_
                  refine g_iload X dX10_weeds_245 (q := 247) rfl 4 rfl ?_
                  refine v_setOf X dX10_weeds_247 (q := 250) rfl (Nat.le_of_ble_eq_true rfl) (Nat.le_of_ble_eq_true rfl) (Nat.le_of_ble_eq_true rfl) hs (fun y5 hs => ?_)
                  exact RI _ 250 _ _ (rU1 hs) (rV1 hs) dX10_weeds_250
                · intro hs
                  refine g_aload_n X dX10_weeds_232 (q := 233) rfl 0 rfl ?_
                  refine g_iload X dX10_weeds_233 (q := 235) rfl 5 rfl ?_
                  refine v_onesOf X dX10_weeds_235 (q := 238) rfl (Nat.le_of_ble_eq_true rfl) (Nat.le_of_ble_eq_true rfl) (Nat.le_of_ble_eq_true rfl) hs (fun y6 hs => ?_)
                  refine g_i2l X dX10_weeds_238 (q := 239) rfl ?_
                  refine g_goto X dX10_weeds_239 (tgt := 250) (by decide) ?_
                  exact RI _ 250 _ _ (rU1 hs) (rV1 hs) dX10_weeds_250
              · intro hs
                refine g_ldc2_w X dX10_weeds_221 (q := 224) rfl kc_X10_410 ?_
                refine g_goto X dX10_weeds_224 (tgt := 250) (by decide) ?_
                exact RI _ 250 _ _ (rU1 hs) (rV1 hs) dX10_weeds_250
            · intro hs
              refine g_iload X dX10_weeds_121 (q := 123) rfl 5 rfl ?_
              refine g_iconst X dX10_weeds_123 (q := 124) rfl li_im1 ?_
              refine jnW2 (fun (a5 : Int32) (s6 : ST) => WG (KM D cA h) p l e (rmD 10) st m args below meth c Q 10 s6 205 [(0, .ref (h 0)), (1, .long x1), (3, .int x2), (4, .int x3), (5, .int y1), (7, .int a5), (8, .int a4)] []) hs (fun a5 s6 hs => ?_) (fun j2 ih4 hs => ?_)
              · refine g_iinc X dX10_weeds_205 (q := 208) rfl 6 rfl (v := (a4 + (1 : Int32))) (congrArg (HAdd.hAdd a4) li_i1) (Nat.le_of_ble_eq_true rfl) (lv' := [(8, .int (a4 + (1 : Int32))), (0, .ref (h 0)), (1, .long x1), (3, .int x2), (4, .int x3), (5, .int y1), (7, .int a5)]) rfl ?_
                refine g_goto X dX10_weeds_208 (tgt := 112) (by decide) ?_
                exact wg_sub [1, 2, 3, 4, 5, 6, 0] rfl (ih3 _ _ _ hs)
              refine jnW0 (WG (KM D cA h) p l e (rmD 10) st m args below meth c Q 10 s4 145 [(0, .ref (h 0)), (1, .long x1), (3, .int x2), (4, .int x3), (5, .int y1), (7, .int a3), (8, .int a4)] []) hs (fun  hs => ?_) (fun j3 ih5 hs => ?_)
              · refine g_iconst X dX10_weeds_145 (q := 146) rfl li_i0 ?_
                refine g_istore X dX10_weeds_146 (q := 148) rfl (Nat.le_of_ble_eq_true rfl) (lv' := [(9, .int (0 : Int32)), (0, .ref (h 0)), (1, .long x1), (3, .int x2), (4, .int x3), (5, .int y1), (7, .int a3), (8, .int a4)]) rfl ?_
                refine wg_sub [1, 2, 3, 4, 5, 6, 7, 0] rfl (lpW2 (fun (a6 : Int32) (s7 : ST) => WG (KM D cA h) p l e (rmD 10) st m args below meth c Q 10 s7 148 [(0, .ref (h 0)), (1, .long x1), (3, .int x2), (4, .int x3), (5, .int y1), (7, .int a3), (8, .int a4), (9, .int a6)] []) (fun rec3 ih6 a6 s7 hs => ?_) _ _ _ hs)
                refine g_iload X dX10_weeds_148 (q := 150) rfl 7 rfl ?_
                refine g_iload X dX10_weeds_150 (q := 152) rfl 4 rfl ?_
                refine g_icmp_ge X dX10_weeds_152 (q := 155) rfl (tgt := 188) (by decide) hs ?_ ?_
                · intro hs
                  refine g_aload_n X dX10_weeds_188 (q := 189) rfl 0 rfl ?_
                  refine g_lload_n X dX10_weeds_189 (q := 190) rfl 1 rfl ?_
                  refine g_iload_n X dX10_weeds_190 (q := 191) rfl 2 rfl ?_
                  refine v_isCalmFor X dX10_weeds_191 (q := 194) rfl (Nat.le_of_ble_eq_true rfl) (Nat.le_of_ble_eq_true rfl) (Nat.le_of_ble_eq_true rfl) hs (fun y7 hs => ?_)
                  refine jnW1 (fun (a7 : Int32) => WG (KM D cA h) p l e (rmD 10) st m args below meth c Q 10 y7.2 201 [(0, .ref (h 0)), (1, .long x1), (3, .int x2), (4, .int x3), (5, .int y1), (7, .int a7), (8, .int a4)] []) hs (fun a7 hs => ?_) (fun j4 ih7 hs => ?_)
                  · refine g_aload_n X dX10_weeds_201 (q := 202) rfl 0 rfl ?_
                    refine v_thinksAnew X dX10_weeds_202 (q := 205) rfl (Nat.le_of_ble_eq_true rfl) (Nat.le_of_ble_eq_true rfl) (Nat.le_of_ble_eq_true rfl) hs (fun s8 hs => ?_)
                    exact wg_sub [0, 1, 2, 3, 4, 5, 6] rfl (ih4 _ _ hs)
                  refine g_if_eq X dX10_weeds_194 (q := 197) rfl (tgt := 201) (by decide) hs ?_ ?_
                  · intro hs
                    exact wg_sub [0, 1, 2, 3, 4, 5, 6] rfl (ih7 _ hs)
                  · intro hs
                    refine g_iload X dX10_weeds_197 (q := 199) rfl 6 rfl ?_
                    refine g_istore X dX10_weeds_199 (q := 201) rfl (Nat.le_of_ble_eq_true rfl) (lv' := [(7, .int a4), (0, .ref (h 0)), (1, .long x1), (3, .int x2), (4, .int x3), (5, .int y1), (8, .int a4), (9, .int a6)]) rfl ?_
                    exact wg_sub [1, 2, 3, 4, 5, 0, 6] rfl (ih7 _ hs)
                · intro hs
                  refine g_iload X dX10_weeds_155 (q := 157) rfl 6 rfl ?_
                  refine g_iload X dX10_weeds_157 (q := 159) rfl 7 rfl ?_
                  refine g_ishr X dX10_weeds_159 (q := 160) rfl ?_
                  refine g_iconst X dX10_weeds_160 (q := 161) rfl li_i1 ?_
                  refine g_iand X dX10_weeds_161 (q := 162) rfl ?_
                  refine g_iconst X dX10_weeds_162 (q := 163) rfl li_i1 ?_
                  refine jnW1 (fun (s9 : ST) => WG (KM D cA h) p l e (rmD 10) st m args below meth c Q 10 s9 182 [(0, .ref (h 0)), (1, .long x1), (3, .int x2), (4, .int x3), (5, .int y1), (7, .int a3), (8, .int a4), (9, .int a6)] []) hs (fun s9 hs => ?_) (fun j5 ih8 hs => ?_)
                  · refine g_iinc X dX10_weeds_182 (q := 185) rfl 7 rfl (v := (a6 + (1 : Int32))) (congrArg (HAdd.hAdd a6) li_i1) (Nat.le_of_ble_eq_true rfl) (lv' := [(9, .int (a6 + (1 : Int32))), (0, .ref (h 0)), (1, .long x1), (3, .int x2), (4, .int x3), (5, .int y1), (7, .int a3), (8, .int a4)]) rfl ?_
                    refine g_goto X dX10_weeds_185 (tgt := 148) (by decide) ?_
                    exact wg_sub [1, 2, 3, 4, 5, 6, 7, 0] rfl (ih6 _ _ hs)
                  refine g_icmp_ne X dX10_weeds_163 (q := 166) rfl (tgt := 182) (by decide) hs ?_ ?_
                  · intro hs
                    exact wg_sub [0, 1, 2, 3, 4, 5, 6, 7] rfl (ih8 _ hs)
                  · intro hs
                    refine g_aload_n X dX10_weeds_166 (q := 167) rfl 0 rfl ?_
                    refine mg_1 X dX10_weeds_167 (q := 170) rfl ?_
                    refine g_bipush X dX10_weeds_170 (q := 172) rfl li_b69 ?_
                    refine g_aload_n X dX10_weeds_172 (q := 173) rfl 0 rfl ?_
                    refine mg_47 X dX10_weeds_173 (q := 176) rfl ?_
                    refine g_iload X dX10_weeds_176 (q := 178) rfl 7 rfl ?_
                    refine ma_22 X dX10_weeds_178 (q := 179) rfl hs (fun y8 hs => ?_)
                    refine g_iadd X dX10_weeds_179 (q := 180) rfl ?_
                    refine g_iconst X dX10_weeds_180 (q := 181) rfl li_i0 ?_
                    refine ms_1 X dX10_weeds_181 (q := 182) rfl hs (fun s10 hs => ?_)
                    exact wg_sub [0, 1, 2, 3, 4, 5, 6, 7] rfl (ih8 _ hs)
              refine g_icmp_eq X dX10_weeds_124 (q := 127) rfl (tgt := 145) (by decide) hs ?_ ?_
              · intro hs
                exact wg_sub [0, 1, 2, 3, 4, 5, 6] rfl (ih5 hs)
              · intro hs
                refine g_aload_n X dX10_weeds_127 (q := 128) rfl 0 rfl ?_
                refine g_iload X dX10_weeds_128 (q := 130) rfl 6 rfl ?_
                refine v_onesOf X dX10_weeds_130 (q := 133) rfl (Nat.le_of_ble_eq_true rfl) (Nat.le_of_ble_eq_true rfl) (Nat.le_of_ble_eq_true rfl) hs (fun y9 hs => ?_)
                refine g_aload_n X dX10_weeds_133 (q := 134) rfl 0 rfl ?_
                refine g_iload X dX10_weeds_134 (q := 136) rfl 5 rfl ?_
                refine v_onesOf X dX10_weeds_136 (q := 139) rfl (Nat.le_of_ble_eq_true rfl) (Nat.le_of_ble_eq_true rfl) (Nat.le_of_ble_eq_true rfl) hs (fun y10 hs => ?_)
                refine g_icmp_lt X dX10_weeds_139 (q := 142) rfl (tgt := 145) (by decide) hs ?_ ?_
                · intro hs
                  exact wg_sub [0, 1, 2, 3, 4, 5, 6] rfl (ih5 hs)
                · intro hs
                  refine g_goto X dX10_weeds_142 (tgt := 205) (by decide) ?_
                  exact wg_sub [0, 1, 2, 3, 4, 5, 6] rfl (ih4 _ _ hs)
          · intro hs
            refine g_aload_n X dX10_weeds_68 (q := 69) rfl 0 rfl ?_
            refine g_iload X dX10_weeds_69 (q := 71) rfl 6 rfl ?_
            refine v_seedOf X dX10_weeds_71 (q := 74) rfl (Nat.le_of_ble_eq_true rfl) (Nat.le_of_ble_eq_true rfl) (Nat.le_of_ble_eq_true rfl) hs (fun y11 hs => ?_)
            refine g_iconst X dX10_weeds_74 (q := 75) rfl li_im1 ?_
            refine jnW2 (fun (a8 : Int32) (s11 : ST) => WG (KM D cA h) p l e (rmD 10) st m args below meth c Q 10 s11 96 [(0, .ref (h 0)), (1, .long x1), (3, .int x2), (4, .int x3), (5, .int y1), (6, .int a8), (7, .int a2)] []) hs (fun a8 s11 hs => ?_) (fun j6 ih9 hs => ?_)
            · refine g_iinc X dX10_weeds_96 (q := 99) rfl 6 rfl (v := (a2 + (1 : Int32))) (congrArg (HAdd.hAdd a2) li_i1) (Nat.le_of_ble_eq_true rfl) (lv' := [(7, .int (a2 + (1 : Int32))), (0, .ref (h 0)), (1, .long x1), (3, .int x2), (4, .int x3), (5, .int y1), (6, .int a8)]) rfl ?_
              refine g_goto X dX10_weeds_99 (tgt := 61) (by decide) ?_
              exact wg_sub [1, 2, 3, 4, 5, 6, 0] rfl (ih2 _ _ _ hs)
            refine g_icmp_ne X dX10_weeds_75 (q := 78) rfl (tgt := 81) (by decide) hs ?_ ?_
            · intro hs
              refine g_aload_n X dX10_weeds_81 (q := 82) rfl 0 rfl ?_
              refine mg_47 X dX10_weeds_82 (q := 85) rfl ?_
              refine g_iload X dX10_weeds_85 (q := 87) rfl 5 rfl ?_
              refine g_iload X dX10_weeds_87 (q := 89) rfl 6 rfl ?_
              refine ms_22 X dX10_weeds_89 (q := 90) rfl hs (fun s12 hs => ?_)
              refine g_iload X dX10_weeds_90 (q := 92) rfl 5 rfl ?_
              refine g_iconst X dX10_weeds_92 (q := 93) rfl li_i1 ?_
              refine g_iadd X dX10_weeds_93 (q := 94) rfl ?_
              refine nmI hs (fun y12 hs => ?_)
              refine g_istore X dX10_weeds_94 (q := 96) rfl (Nat.le_of_ble_eq_true rfl) (lv' := [(6, .int y12), (0, .ref (h 0)), (1, .long x1), (3, .int x2), (4, .int x3), (5, .int y1), (7, .int a2)]) rfl ?_
              exact wg_sub [1, 2, 3, 4, 5, 0, 6] rfl (ih9 _ _ hs)
            · intro hs
              refine g_goto X dX10_weeds_78 (tgt := 96) (by decide) ?_
              exact wg_sub [0, 1, 2, 3, 4, 5, 6] rfl (ih9 _ _ hs)
        · intro hs
          exact wg_sub [] rfl (ih1 hs)
theorem dX10_crossedOnce_0 : decode cX10_crossedOnce 0 = .ok (.iload_n 1, 1) := by decide +kernel
theorem dX10_crossedOnce_1 : decode cX10_crossedOnce 1 = .ok (.istore_n 2, 1) := by decide +kernel
theorem dX10_crossedOnce_2 : decode cX10_crossedOnce 2 = .ok (.iconst 0, 1) := by decide +kernel
theorem dX10_crossedOnce_3 : decode cX10_crossedOnce 3 = .ok (.istore_n 3, 1) := by decide +kernel
theorem dX10_crossedOnce_4 : decode cX10_crossedOnce 4 = .ok (.iload_n 3, 1) := by decide +kernel
theorem dX10_crossedOnce_5 : decode cX10_crossedOnce 5 = .ok (.aload_n 0, 1) := by decide +kernel
theorem dX10_crossedOnce_6 : decode cX10_crossedOnce 6 = .ok (.getfield 121, 3) := by decide +kernel
theorem dX10_crossedOnce_9 : decode cX10_crossedOnce 9 = .ok (.if_icmp .ge 58, 3) := by decide +kernel
theorem dX10_crossedOnce_12 : decode cX10_crossedOnce 12 = .ok (.iload_n 1, 1) := by decide +kernel
theorem dX10_crossedOnce_13 : decode cX10_crossedOnce 13 = .ok (.aload_n 0, 1) := by decide +kernel
theorem dX10_crossedOnce_14 : decode cX10_crossedOnce 14 = .ok (.getfield 62, 3) := by decide +kernel
theorem dX10_crossedOnce_17 : decode cX10_crossedOnce 17 = .ok (.iconst 3, 1) := by decide +kernel
theorem dX10_crossedOnce_18 : decode cX10_crossedOnce 18 = .ok (.iload_n 3, 1) := by decide +kernel
theorem dX10_crossedOnce_19 : decode cX10_crossedOnce 19 = .ok (.imul, 1) := by decide +kernel
theorem dX10_crossedOnce_20 : decode cX10_crossedOnce 20 = .ok (.iaload, 1) := by decide +kernel
theorem dX10_crossedOnce_21 : decode cX10_crossedOnce 21 = .ok (.ishr, 1) := by decide +kernel
theorem dX10_crossedOnce_22 : decode cX10_crossedOnce 22 = .ok (.iconst 1, 1) := by decide +kernel
theorem dX10_crossedOnce_23 : decode cX10_crossedOnce 23 = .ok (.iand, 1) := by decide +kernel
theorem dX10_crossedOnce_24 : decode cX10_crossedOnce 24 = .ok (.iconst 1, 1) := by decide +kernel
theorem dX10_crossedOnce_25 : decode cX10_crossedOnce 25 = .ok (.if_icmp .ne 36, 3) := by decide +kernel
theorem dX10_crossedOnce_28 : decode cX10_crossedOnce 28 = .ok (.iload_n 1, 1) := by decide +kernel
theorem dX10_crossedOnce_29 : decode cX10_crossedOnce 29 = .ok (.aload_n 0, 1) := by decide +kernel
theorem dX10_crossedOnce_30 : decode cX10_crossedOnce 30 = .ok (.getfield 62, 3) := by decide +kernel
theorem dX10_crossedOnce_33 : decode cX10_crossedOnce 33 = .ok (.iconst 3, 1) := by decide +kernel
theorem dX10_crossedOnce_34 : decode cX10_crossedOnce 34 = .ok (.iload_n 3, 1) := by decide +kernel
theorem dX10_crossedOnce_35 : decode cX10_crossedOnce 35 = .ok (.imul, 1) := by decide +kernel
theorem dX10_crossedOnce_36 : decode cX10_crossedOnce 36 = .ok (.iconst 1, 1) := by decide +kernel
theorem dX10_crossedOnce_37 : decode cX10_crossedOnce 37 = .ok (.iadd, 1) := by decide +kernel
theorem dX10_crossedOnce_38 : decode cX10_crossedOnce 38 = .ok (.iaload, 1) := by decide +kernel
theorem dX10_crossedOnce_39 : decode cX10_crossedOnce 39 = .ok (.ishr, 1) := by decide +kernel
theorem dX10_crossedOnce_40 : decode cX10_crossedOnce 40 = .ok (.iconst 1, 1) := by decide +kernel
theorem dX10_crossedOnce_41 : decode cX10_crossedOnce 41 = .ok (.iand, 1) := by decide +kernel
theorem dX10_crossedOnce_42 : decode cX10_crossedOnce 42 = .ok (.iconst 1, 1) := by decide +kernel
theorem dX10_crossedOnce_43 : decode cX10_crossedOnce 43 = .ok (.if_icmp .ne 18, 3) := by decide +kernel
theorem dX10_crossedOnce_46 : decode cX10_crossedOnce 46 = .ok (.iload_n 2, 1) := by decide +kernel
theorem dX10_crossedOnce_47 : decode cX10_crossedOnce 47 = .ok (.iconst 1, 1) := by decide +kernel
theorem dX10_crossedOnce_48 : decode cX10_crossedOnce 48 = .ok (.aload_n 0, 1) := by decide +kernel
theorem dX10_crossedOnce_49 : decode cX10_crossedOnce 49 = .ok (.getfield 62, 3) := by decide +kernel
theorem dX10_crossedOnce_52 : decode cX10_crossedOnce 52 = .ok (.iconst 3, 1) := by decide +kernel
theorem dX10_crossedOnce_53 : decode cX10_crossedOnce 53 = .ok (.iload_n 3, 1) := by decide +kernel
theorem dX10_crossedOnce_54 : decode cX10_crossedOnce 54 = .ok (.imul, 1) := by decide +kernel
theorem dX10_crossedOnce_55 : decode cX10_crossedOnce 55 = .ok (.iconst 2, 1) := by decide +kernel
theorem dX10_crossedOnce_56 : decode cX10_crossedOnce 56 = .ok (.iadd, 1) := by decide +kernel
theorem dX10_crossedOnce_57 : decode cX10_crossedOnce 57 = .ok (.iaload, 1) := by decide +kernel
theorem dX10_crossedOnce_58 : decode cX10_crossedOnce 58 = .ok (.ishl, 1) := by decide +kernel
theorem dX10_crossedOnce_59 : decode cX10_crossedOnce 59 = .ok (.ior, 1) := by decide +kernel
theorem dX10_crossedOnce_60 : decode cX10_crossedOnce 60 = .ok (.istore_n 2, 1) := by decide +kernel
theorem dX10_crossedOnce_61 : decode cX10_crossedOnce 61 = .ok (.iinc 3 1, 3) := by decide +kernel
theorem dX10_crossedOnce_64 : decode cX10_crossedOnce 64 = .ok (.goto (-60), 3) := by decide +kernel
theorem dX10_crossedOnce_67 : decode cX10_crossedOnce 67 = .ok (.iload_n 2, 1) := by decide +kernel
theorem dX10_crossedOnce_68 : decode cX10_crossedOnce 68 = .ok (.ireturn, 1) := by decide +kernel
def M_crossedOnce (s : ST) (x1 : Int32) : Option (Int32) := lpK2 (C := Int32) (fun (rec1 : Int32 → Int32 → Option (Int32)) (a1 : Int32) (a2 : Int32) => if (s.1 0 36) ≤ a2 then (some a1) else (Gl s 17 60 ((3 : Int32) * a2) fun y1 => Lt (fun (a3 : Int32) => (rec1 a3 (a2 + (1 : Int32)) : Option (Int32))) fun j1 => if ((x1 >>> (y1 &&& 31)) &&& (1 : Int32)) = (1 : Int32) then (Gl s 17 60 (((3 : Int32) * a2) + (1 : Int32)) fun y2 => if ((x1 >>> (y2 &&& 31)) &&& (1 : Int32)) = (1 : Int32) then (Gl s 17 60 (((3 : Int32) * a2) + (2 : Int32)) fun y3 => Lt ((a1 ||| ((1 : Int32) <<< (y3 &&& 31)))) fun y4 => j1 y4) else (j1 a1)) else (j1 a1))) FU x1 (0 : Int32)
set_option maxRecDepth 100000 in
set_option maxHeartbeats 4000000 in
theorem k_crossedOnce (l : Launch) (D : va_G) (cA : ClassId) (h : Nat → Nat) (s : ST) (x1 : Int32) {o : Int32} (hs : M_crossedOnce s x1 = some o) : MI l (KM D cA h) 1 yX10_crossedOnce cX10_crossedOnce 4 (some .int) s [.ref (h 0), .int x1] o s := by
  refine met_i (by decide) (Nat.le_of_ble_eq_true rfl) ?_
  intro p e st m args below meth c Q X RI
  unfold M_crossedOnce at hs
  refine g_iload_n X dX10_crossedOnce_0 (q := 1) rfl 1 rfl ?_
  refine g_istore_n X dX10_crossedOnce_1 (q := 2) rfl (Nat.le_of_ble_eq_true rfl) (lv' := [(2, .int x1), (0, .ref (h 0)), (1, .int x1)]) rfl ?_
  refine g_iconst X dX10_crossedOnce_2 (q := 3) rfl li_i0 ?_
  refine g_istore_n X dX10_crossedOnce_3 (q := 4) rfl (Nat.le_of_ble_eq_true rfl) (lv' := [(3, .int (0 : Int32)), (2, .int x1), (0, .ref (h 0)), (1, .int x1)]) rfl ?_
  refine wg_sub [2, 3, 1, 0] rfl (lpW2 (fun (a1 : Int32) (a2 : Int32) => WG (KM D cA h) p l e (rmD 1) st m args below meth c Q 4 s 4 [(0, .ref (h 0)), (1, .int x1), (2, .int a1), (3, .int a2)] []) (fun rec1 ih1 a1 a2 hs => ?_) _ _ _ hs)
  refine g_iload_n X dX10_crossedOnce_4 (q := 5) rfl 3 rfl ?_
  refine g_aload_n X dX10_crossedOnce_5 (q := 6) rfl 0 rfl ?_
  refine mg_36 X dX10_crossedOnce_6 (q := 9) rfl ?_
  refine g_icmp_ge X dX10_crossedOnce_9 (q := 12) rfl (tgt := 67) (by decide) hs ?_ ?_
  · intro hs
    refine g_iload_n X dX10_crossedOnce_67 (q := 68) rfl 2 rfl ?_
    exact RI _ 68 _ _ _ rfl rfl (Option.some.inj hs) dX10_crossedOnce_68
  · intro hs
    refine g_iload_n X dX10_crossedOnce_12 (q := 13) rfl 1 rfl ?_
    refine g_aload_n X dX10_crossedOnce_13 (q := 14) rfl 0 rfl ?_
    refine mg_37 X dX10_crossedOnce_14 (q := 17) rfl ?_
    refine g_iconst X dX10_crossedOnce_17 (q := 18) rfl li_i3 ?_
    refine g_iload_n X dX10_crossedOnce_18 (q := 19) rfl 3 rfl ?_
    refine g_imul X dX10_crossedOnce_19 (q := 20) rfl ?_
    refine ma_17 X dX10_crossedOnce_20 (q := 21) rfl hs (fun y1 hs => ?_)
    refine g_ishr X dX10_crossedOnce_21 (q := 22) rfl ?_
    refine g_iconst X dX10_crossedOnce_22 (q := 23) rfl li_i1 ?_
    refine g_iand X dX10_crossedOnce_23 (q := 24) rfl ?_
    refine g_iconst X dX10_crossedOnce_24 (q := 25) rfl li_i1 ?_
    refine jnW1 (fun (a3 : Int32) => WG (KM D cA h) p l e (rmD 1) st m args below meth c Q 4 s 61 [(0, .ref (h 0)), (1, .int x1), (2, .int a3), (3, .int a2)] []) hs (fun a3 hs => ?_) (fun j1 ih2 hs => ?_)
    · refine g_iinc X dX10_crossedOnce_61 (q := 64) rfl 3 rfl (v := (a2 + (1 : Int32))) (congrArg (HAdd.hAdd a2) li_i1) (Nat.le_of_ble_eq_true rfl) (lv' := [(3, .int (a2 + (1 : Int32))), (0, .ref (h 0)), (1, .int x1), (2, .int a3)]) rfl ?_
      refine g_goto X dX10_crossedOnce_64 (tgt := 4) (by decide) ?_
      exact wg_sub [1, 2, 3, 0] rfl (ih1 _ _ hs)
    refine g_icmp_ne X dX10_crossedOnce_25 (q := 28) rfl (tgt := 61) (by decide) hs ?_ ?_
    · intro hs
      exact wg_sub [0, 1, 2, 3] rfl (ih2 _ hs)
    · intro hs
      refine g_iload_n X dX10_crossedOnce_28 (q := 29) rfl 1 rfl ?_
      refine g_aload_n X dX10_crossedOnce_29 (q := 30) rfl 0 rfl ?_
      refine mg_37 X dX10_crossedOnce_30 (q := 33) rfl ?_
      refine g_iconst X dX10_crossedOnce_33 (q := 34) rfl li_i3 ?_
      refine g_iload_n X dX10_crossedOnce_34 (q := 35) rfl 3 rfl ?_
      refine g_imul X dX10_crossedOnce_35 (q := 36) rfl ?_
      refine g_iconst X dX10_crossedOnce_36 (q := 37) rfl li_i1 ?_
      refine g_iadd X dX10_crossedOnce_37 (q := 38) rfl ?_
      refine ma_17 X dX10_crossedOnce_38 (q := 39) rfl hs (fun y2 hs => ?_)
      refine g_ishr X dX10_crossedOnce_39 (q := 40) rfl ?_
      refine g_iconst X dX10_crossedOnce_40 (q := 41) rfl li_i1 ?_
      refine g_iand X dX10_crossedOnce_41 (q := 42) rfl ?_
      refine g_iconst X dX10_crossedOnce_42 (q := 43) rfl li_i1 ?_
      refine g_icmp_ne X dX10_crossedOnce_43 (q := 46) rfl (tgt := 61) (by decide) hs ?_ ?_
      · intro hs
        exact wg_sub [0, 1, 2, 3] rfl (ih2 _ hs)
      · intro hs
        refine g_iload_n X dX10_crossedOnce_46 (q := 47) rfl 2 rfl ?_
        refine g_iconst X dX10_crossedOnce_47 (q := 48) rfl li_i1 ?_
        refine g_aload_n X dX10_crossedOnce_48 (q := 49) rfl 0 rfl ?_
        refine mg_37 X dX10_crossedOnce_49 (q := 52) rfl ?_
        refine g_iconst X dX10_crossedOnce_52 (q := 53) rfl li_i3 ?_
        refine g_iload_n X dX10_crossedOnce_53 (q := 54) rfl 3 rfl ?_
        refine g_imul X dX10_crossedOnce_54 (q := 55) rfl ?_
        refine g_iconst X dX10_crossedOnce_55 (q := 56) rfl li_i2 ?_
        refine g_iadd X dX10_crossedOnce_56 (q := 57) rfl ?_
        refine ma_17 X dX10_crossedOnce_57 (q := 58) rfl hs (fun y3 hs => ?_)
        refine g_ishl X dX10_crossedOnce_58 (q := 59) rfl ?_
        refine g_ior X dX10_crossedOnce_59 (q := 60) rfl ?_
        refine nmI hs (fun y4 hs => ?_)
        refine g_istore_n X dX10_crossedOnce_60 (q := 61) rfl (Nat.le_of_ble_eq_true rfl) (lv' := [(2, .int y4), (0, .ref (h 0)), (1, .int x1), (3, .int a2)]) rfl ?_
        exact wg_sub [1, 2, 0, 3] rfl (ih2 _ hs)
theorem v_crossedOnce {p : Program} {l : Launch} {e : Env} {st : State} {m : MethodId} {args : Array Value} {below : List Frame} {meth : Method} {c : Code} {Q : State → Prop} {nL : Nat} {cc : ByteArray} {s : ST} {pc q : Nat} {lv : List (Nat × Value)} {rest : List Value} {D : va_G} {cA : ClassId} {h : Nat → Nat} {d0 : Nat} (X : Cx (KM D cA h) p st m args meth c cc nL RX10) {x1 : Int32} (d : decode cc pc = .ok (.invokevirtual 455, 3)) (hq : pc + 3 = q) (hd1 : 1 + 1 ≤ d0) (hd2 : 8 + (4 + 11) + 100 * 1 ≤ 100 * d0) (hr : (rest.map fun v => v.category).sum ≤ 8) {B : Type} {f : Int32 → Option B} {r : B} (hs : Bd (M_crossedOnce s x1) f = some r) (k : ∀ y, f y = some r → WG (KM D cA h) p l e (rmD d0) st m args below meth c Q nL s q lv (.int y :: rest)) : WG (KM D cA h) p l e (rmD d0) st m args below meth c Q nL s pc lv (.int x1 :: .ref (h 0) :: rest) := by
  obtain ⟨v, hv, hs⟩ := Bd_e hs
  exact cV_I X 0 (n := 1) (k_crossedOnce l D cA h s x1 hv) gv_X10_crossedOnce ⟨hd1, hd2⟩ ⟨by decide, by decide, by decide +kernel⟩ (As := [.int x1]) rfl hr (Nat.le_of_ble_eq_true rfl) (fs := mF h (s.1 0)) rfl rfl rfl d hq (k _ hs)
theorem dX10_have_0 : decode cX10_have 0 = .ok (.aload_n 0, 1) := by decide +kernel
theorem dX10_have_1 : decode cX10_have 1 = .ok (.iconst 0, 1) := by decide +kernel
theorem dX10_have_2 : decode cX10_have 2 = .ok (.putfield 83, 3) := by decide +kernel
theorem dX10_have_5 : decode cX10_have 5 = .ok (.iload_n 1, 1) := by decide +kernel
theorem dX10_have_6 : decode cX10_have 6 = .ok (.ifCond .lt 13, 3) := by decide +kernel
theorem dX10_have_9 : decode cX10_have 9 = .ok (.iload_n 1, 1) := by decide +kernel
theorem dX10_have_10 : decode cX10_have 10 = .ok (.iconst 1, 1) := by decide +kernel
theorem dX10_have_11 : decode cX10_have 11 = .ok (.aload_n 0, 1) := by decide +kernel
theorem dX10_have_12 : decode cX10_have 12 = .ok (.getfield 118, 3) := by decide +kernel
theorem dX10_have_15 : decode cX10_have 15 = .ok (.ishl, 1) := by decide +kernel
theorem dX10_have_16 : decode cX10_have 16 = .ok (.if_icmp .lt 5, 3) := by decide +kernel
theorem dX10_have_19 : decode cX10_have 19 = .ok (.iconst (-1), 1) := by decide +kernel
theorem dX10_have_20 : decode cX10_have 20 = .ok (.ireturn, 1) := by decide +kernel
theorem dX10_have_21 : decode cX10_have 21 = .ok (.iload_n 1, 1) := by decide +kernel
theorem dX10_have_22 : decode cX10_have 22 = .ok (.istore_n 2, 1) := by decide +kernel
theorem dX10_have_23 : decode cX10_have 23 = .ok (.aload_n 0, 1) := by decide +kernel
theorem dX10_have_24 : decode cX10_have 24 = .ok (.iload_n 2, 1) := by decide +kernel
theorem dX10_have_25 : decode cX10_have 25 = .ok (.invokevirtual 455, 3) := by decide +kernel
theorem dX10_have_28 : decode cX10_have 28 = .ok (.iload_n 2, 1) := by decide +kernel
theorem dX10_have_29 : decode cX10_have 29 = .ok (.if_icmp .eq 12, 3) := by decide +kernel
theorem dX10_have_32 : decode cX10_have 32 = .ok (.aload_n 0, 1) := by decide +kernel
theorem dX10_have_33 : decode cX10_have 33 = .ok (.iload_n 2, 1) := by decide +kernel
theorem dX10_have_34 : decode cX10_have 34 = .ok (.invokevirtual 455, 3) := by decide +kernel
theorem dX10_have_37 : decode cX10_have 37 = .ok (.istore_n 2, 1) := by decide +kernel
theorem dX10_have_38 : decode cX10_have 38 = .ok (.goto (-15), 3) := by decide +kernel
theorem dX10_have_41 : decode cX10_have 41 = .ok (.iload_n 2, 1) := by decide +kernel
theorem dX10_have_42 : decode cX10_have 42 = .ok (.ireturn, 1) := by decide +kernel
def M_have (s : ST) (x1 : Int32) : Option (Int32 × ST) := Lt (ups s 0 0 (0 : Int32)) fun s1 => if x1 < 0 then (some ((-1 : Int32), s1)) else (if x1 < ((1 : Int32) <<< ((s1.1 0 34) &&& 31)) then (lpK1 (C := Int32 × ST) (fun (rec1 : Int32 → Option (Int32 × ST)) (a1 : Int32) => Bd (M_crossedOnce s1 a1) fun y1 => if y1 = a1 then (some (a1, s1)) else (Bd (M_crossedOnce s1 a1) fun y2 => rec1 y2)) FU x1) else (some ((-1 : Int32), s1)))
set_option maxRecDepth 100000 in
set_option maxHeartbeats 4000000 in
theorem k_have (l : Launch) (D : va_G) (cA : ClassId) (h : Nat → Nat) (s : ST) (x1 : Int32) {o : Int32 × ST} (hs : M_have s x1 = some o) : MI l (KM D cA h) 2 yX10_have cX10_have 3 (some .int) s [.ref (h 0), .int x1] o.1 o.2 := by
  refine met_i (by decide) (Nat.le_of_ble_eq_true rfl) ?_
  intro p e st m args below meth c Q X RI
  unfold M_have at hs
  refine g_aload_n X dX10_have_0 (q := 1) rfl 0 rfl ?_
  refine g_iconst X dX10_have_1 (q := 2) rfl li_i0 ?_
  refine mp_0 X dX10_have_2 (q := 5) rfl hs (fun s1 hs => ?_)
  refine g_iload_n X dX10_have_5 (q := 6) rfl 1 rfl ?_
  refine g_if_lt X dX10_have_6 (q := 9) rfl (tgt := 19) (by decide) hs ?_ ?_
  · intro hs
    refine g_iconst X dX10_have_19 (q := 20) rfl li_im1 ?_
    exact RI _ 20 _ _ _ (rU1 hs) rfl (rV1 hs) dX10_have_20
  · intro hs
    refine g_iload_n X dX10_have_9 (q := 10) rfl 1 rfl ?_
    refine g_iconst X dX10_have_10 (q := 11) rfl li_i1 ?_
    refine g_aload_n X dX10_have_11 (q := 12) rfl 0 rfl ?_
    refine mg_34 X dX10_have_12 (q := 15) rfl ?_
    refine g_ishl X dX10_have_15 (q := 16) rfl ?_
    refine g_icmp_lt X dX10_have_16 (q := 19) rfl (tgt := 21) (by decide) hs ?_ ?_
    · intro hs
      refine g_iload_n X dX10_have_21 (q := 22) rfl 1 rfl ?_
      refine g_istore_n X dX10_have_22 (q := 23) rfl (Nat.le_of_ble_eq_true rfl) (lv' := [(2, .int x1), (0, .ref (h 0)), (1, .int x1)]) rfl ?_
      refine wg_sub [1, 0] rfl (lpW1 (fun (a1 : Int32) => WG (KM D cA h) p l e (rmD 2) st m args below meth c Q 3 s1 23 [(0, .ref (h 0)), (2, .int a1)] []) (fun rec1 ih1 a1 hs => ?_) _ _ hs)
      refine g_aload_n X dX10_have_23 (q := 24) rfl 0 rfl ?_
      refine g_iload_n X dX10_have_24 (q := 25) rfl 1 rfl ?_
      refine v_crossedOnce X dX10_have_25 (q := 28) rfl (Nat.le_of_ble_eq_true rfl) (Nat.le_of_ble_eq_true rfl) (Nat.le_of_ble_eq_true rfl) hs (fun y1 hs => ?_)
      refine g_iload_n X dX10_have_28 (q := 29) rfl 1 rfl ?_
      refine g_icmp_eq X dX10_have_29 (q := 32) rfl (tgt := 41) (by decide) hs ?_ ?_
      · intro hs
        refine g_iload_n X dX10_have_41 (q := 42) rfl 1 rfl ?_
        exact RI _ 42 _ _ _ (rU1 hs) rfl (rV1 hs) dX10_have_42
      · intro hs
        refine g_aload_n X dX10_have_32 (q := 33) rfl 0 rfl ?_
        refine g_iload_n X dX10_have_33 (q := 34) rfl 1 rfl ?_
        refine v_crossedOnce X dX10_have_34 (q := 37) rfl (Nat.le_of_ble_eq_true rfl) (Nat.le_of_ble_eq_true rfl) (Nat.le_of_ble_eq_true rfl) hs (fun y2 hs => ?_)
        refine g_istore_n X dX10_have_37 (q := 38) rfl (Nat.le_of_ble_eq_true rfl) (lv' := [(2, .int y2), (0, .ref (h 0))]) rfl ?_
        refine g_goto X dX10_have_38 (tgt := 23) (by decide) ?_
        exact wg_sub [1, 0] rfl (ih1 _ hs)
    · intro hs
      refine g_iconst X dX10_have_19 (q := 20) rfl li_im1 ?_
      exact RI _ 20 _ _ _ (rU1 hs) rfl (rV1 hs) dX10_have_20
theorem dX10_generations_0 : decode cX10_generations 0 = .ok (.aload_n 0, 1) := by decide +kernel
theorem dX10_generations_1 : decode cX10_generations 1 = .ok (.iconst 0, 1) := by decide +kernel
theorem dX10_generations_2 : decode cX10_generations 2 = .ok (.putfield 83, 3) := by decide +kernel
theorem dX10_generations_5 : decode cX10_generations 5 = .ok (.iload_n 1, 1) := by decide +kernel
theorem dX10_generations_6 : decode cX10_generations 6 = .ok (.ifCond .lt 28, 3) := by decide +kernel
theorem dX10_generations_9 : decode cX10_generations 9 = .ok (.iload_n 1, 1) := by decide +kernel
theorem dX10_generations_10 : decode cX10_generations 10 = .ok (.iconst 1, 1) := by decide +kernel
theorem dX10_generations_11 : decode cX10_generations 11 = .ok (.aload_n 0, 1) := by decide +kernel
theorem dX10_generations_12 : decode cX10_generations 12 = .ok (.getfield 118, 3) := by decide +kernel
theorem dX10_generations_15 : decode cX10_generations 15 = .ok (.ishl, 1) := by decide +kernel
theorem dX10_generations_16 : decode cX10_generations 16 = .ok (.if_icmp .ge 18, 3) := by decide +kernel
theorem dX10_generations_19 : decode cX10_generations 19 = .ok (.aload_n 0, 1) := by decide +kernel
theorem dX10_generations_20 : decode cX10_generations 20 = .ok (.iload_n 2, 1) := by decide +kernel
theorem dX10_generations_21 : decode cX10_generations 21 = .ok (.iconst 0, 1) := by decide +kernel
theorem dX10_generations_22 : decode cX10_generations 22 = .ok (.aload_n 0, 1) := by decide +kernel
theorem dX10_generations_23 : decode cX10_generations 23 = .ok (.getfield 118, 3) := by decide +kernel
theorem dX10_generations_26 : decode cX10_generations 26 = .ok (.iconst 1, 1) := by decide +kernel
theorem dX10_generations_27 : decode cX10_generations 27 = .ok (.isub, 1) := by decide +kernel
theorem dX10_generations_28 : decode cX10_generations 28 = .ok (.invokevirtual 111, 3) := by decide +kernel
theorem dX10_generations_31 : decode cX10_generations 31 = .ok (.ifCond .ne 5, 3) := by decide +kernel
theorem dX10_generations_34 : decode cX10_generations 34 = .ok (.iconst (-1), 1) := by decide +kernel
theorem dX10_generations_35 : decode cX10_generations 35 = .ok (.ireturn, 1) := by decide +kernel
theorem dX10_generations_36 : decode cX10_generations 36 = .ok (.iload_n 1, 1) := by decide +kernel
theorem dX10_generations_37 : decode cX10_generations 37 = .ok (.istore_n 3, 1) := by decide +kernel
theorem dX10_generations_38 : decode cX10_generations 38 = .ok (.iconst 0, 1) := by decide +kernel
theorem dX10_generations_39 : decode cX10_generations 39 = .ok (.istore 4, 2) := by decide +kernel
theorem dX10_generations_41 : decode cX10_generations 41 = .ok (.iload 4, 2) := by decide +kernel
theorem dX10_generations_43 : decode cX10_generations 43 = .ok (.bipush 8, 2) := by decide +kernel
theorem dX10_generations_45 : decode cX10_generations 45 = .ok (.if_icmp .gt 27, 3) := by decide +kernel
theorem dX10_generations_48 : decode cX10_generations 48 = .ok (.iload_n 3, 1) := by decide +kernel
theorem dX10_generations_49 : decode cX10_generations 49 = .ok (.iload_n 2, 1) := by decide +kernel
theorem dX10_generations_50 : decode cX10_generations 50 = .ok (.ishr, 1) := by decide +kernel
theorem dX10_generations_51 : decode cX10_generations 51 = .ok (.iconst 1, 1) := by decide +kernel
theorem dX10_generations_52 : decode cX10_generations 52 = .ok (.iand, 1) := by decide +kernel
theorem dX10_generations_53 : decode cX10_generations 53 = .ok (.iconst 1, 1) := by decide +kernel
theorem dX10_generations_54 : decode cX10_generations 54 = .ok (.if_icmp .ne 6, 3) := by decide +kernel
theorem dX10_generations_57 : decode cX10_generations 57 = .ok (.iload 4, 2) := by decide +kernel
theorem dX10_generations_59 : decode cX10_generations 59 = .ok (.ireturn, 1) := by decide +kernel
theorem dX10_generations_60 : decode cX10_generations 60 = .ok (.aload_n 0, 1) := by decide +kernel
theorem dX10_generations_61 : decode cX10_generations 61 = .ok (.iload_n 3, 1) := by decide +kernel
theorem dX10_generations_62 : decode cX10_generations 62 = .ok (.invokevirtual 455, 3) := by decide +kernel
theorem dX10_generations_65 : decode cX10_generations 65 = .ok (.istore_n 3, 1) := by decide +kernel
theorem dX10_generations_66 : decode cX10_generations 66 = .ok (.iinc 4 1, 3) := by decide +kernel
theorem dX10_generations_69 : decode cX10_generations 69 = .ok (.goto (-28), 3) := by decide +kernel
theorem dX10_generations_72 : decode cX10_generations 72 = .ok (.iconst (-1), 1) := by decide +kernel
theorem dX10_generations_73 : decode cX10_generations 73 = .ok (.ireturn, 1) := by decide +kernel
def M_generations (s : ST) (x1 : Int32) (x2 : Int32) : Option (Int32 × ST) := Lt (ups s 0 0 (0 : Int32)) fun s1 => if x1 < 0 then (some ((-1 : Int32), s1)) else (if ((1 : Int32) <<< ((s1.1 0 34) &&& 31)) ≤ x1 then (some ((-1 : Int32), s1)) else (Lt (M_isIn s1 x2 (0 : Int32) ((s1.1 0 34) - (1 : Int32))) fun y1 => if y1 = 0 then (some ((-1 : Int32), s1)) else (lpK2 (C := Int32 × ST) (fun (rec1 : Int32 → Int32 → Option (Int32 × ST)) (a1 : Int32) (a2 : Int32) => if (8 : Int32) < a2 then (some ((-1 : Int32), s1)) else (if ((a1 >>> (x2 &&& 31)) &&& (1 : Int32)) = (1 : Int32) then (some (a2, s1)) else (Bd (M_crossedOnce s1 a1) fun y2 => rec1 y2 (a2 + (1 : Int32))))) FU x1 (0 : Int32))))
set_option maxRecDepth 100000 in
set_option maxHeartbeats 4000000 in
theorem k_generations (l : Launch) (D : va_G) (cA : ClassId) (h : Nat → Nat) (s : ST) (x1 : Int32) (x2 : Int32) {o : Int32 × ST} (hs : M_generations s x1 x2 = some o) : MI l (KM D cA h) 2 yX10_generations cX10_generations 5 (some .int) s [.ref (h 0), .int x1, .int x2] o.1 o.2 := by
  refine met_i (by decide) (Nat.le_of_ble_eq_true rfl) ?_
  intro p e st m args below meth c Q X RI
  unfold M_generations at hs
  refine g_aload_n X dX10_generations_0 (q := 1) rfl 0 rfl ?_
  refine g_iconst X dX10_generations_1 (q := 2) rfl li_i0 ?_
  refine mp_0 X dX10_generations_2 (q := 5) rfl hs (fun s1 hs => ?_)
  refine g_iload_n X dX10_generations_5 (q := 6) rfl 1 rfl ?_
  refine g_if_lt X dX10_generations_6 (q := 9) rfl (tgt := 34) (by decide) hs ?_ ?_
  · intro hs
    refine g_iconst X dX10_generations_34 (q := 35) rfl li_im1 ?_
    exact RI _ 35 _ _ _ (rU1 hs) rfl (rV1 hs) dX10_generations_35
  · intro hs
    refine g_iload_n X dX10_generations_9 (q := 10) rfl 1 rfl ?_
    refine g_iconst X dX10_generations_10 (q := 11) rfl li_i1 ?_
    refine g_aload_n X dX10_generations_11 (q := 12) rfl 0 rfl ?_
    refine mg_34 X dX10_generations_12 (q := 15) rfl ?_
    refine g_ishl X dX10_generations_15 (q := 16) rfl ?_
    refine g_icmp_ge X dX10_generations_16 (q := 19) rfl (tgt := 34) (by decide) hs ?_ ?_
    · intro hs
      refine g_iconst X dX10_generations_34 (q := 35) rfl li_im1 ?_
      exact RI _ 35 _ _ _ (rU1 hs) rfl (rV1 hs) dX10_generations_35
    · intro hs
      refine g_aload_n X dX10_generations_19 (q := 20) rfl 0 rfl ?_
      refine g_iload_n X dX10_generations_20 (q := 21) rfl 2 rfl ?_
      refine g_iconst X dX10_generations_21 (q := 22) rfl li_i0 ?_
      refine g_aload_n X dX10_generations_22 (q := 23) rfl 0 rfl ?_
      refine mg_34 X dX10_generations_23 (q := 26) rfl ?_
      refine g_iconst X dX10_generations_26 (q := 27) rfl li_i1 ?_
      refine g_isub X dX10_generations_27 (q := 28) rfl ?_
      refine v_isIn X dX10_generations_28 (q := 31) rfl (Nat.le_of_ble_eq_true rfl) (Nat.le_of_ble_eq_true rfl) (Nat.le_of_ble_eq_true rfl) hs (fun y1 hs => ?_)
      refine g_if_ne X dX10_generations_31 (q := 34) rfl (tgt := 36) (by decide) hs ?_ ?_
      · intro hs
        refine g_iload_n X dX10_generations_36 (q := 37) rfl 1 rfl ?_
        refine g_istore_n X dX10_generations_37 (q := 38) rfl (Nat.le_of_ble_eq_true rfl) (lv' := [(3, .int x1), (0, .ref (h 0)), (1, .int x1), (2, .int x2)]) rfl ?_
        refine g_iconst X dX10_generations_38 (q := 39) rfl li_i0 ?_
        refine g_istore X dX10_generations_39 (q := 41) rfl (Nat.le_of_ble_eq_true rfl) (lv' := [(4, .int (0 : Int32)), (3, .int x1), (0, .ref (h 0)), (1, .int x1), (2, .int x2)]) rfl ?_
        refine wg_sub [2, 4, 1, 0] rfl (lpW2 (fun (a1 : Int32) (a2 : Int32) => WG (KM D cA h) p l e (rmD 2) st m args below meth c Q 5 s1 41 [(0, .ref (h 0)), (2, .int x2), (3, .int a1), (4, .int a2)] []) (fun rec1 ih1 a1 a2 hs => ?_) _ _ _ hs)
        refine g_iload X dX10_generations_41 (q := 43) rfl 3 rfl ?_
        refine g_bipush X dX10_generations_43 (q := 45) rfl li_b8 ?_
        refine g_icmp_gt X dX10_generations_45 (q := 48) rfl (tgt := 72) (by decide) hs ?_ ?_
        · intro hs
          refine g_iconst X dX10_generations_72 (q := 73) rfl li_im1 ?_
          exact RI _ 73 _ _ _ (rU1 hs) rfl (rV1 hs) dX10_generations_73
        · intro hs
          refine g_iload_n X dX10_generations_48 (q := 49) rfl 2 rfl ?_
          refine g_iload_n X dX10_generations_49 (q := 50) rfl 1 rfl ?_
          refine g_ishr X dX10_generations_50 (q := 51) rfl ?_
          refine g_iconst X dX10_generations_51 (q := 52) rfl li_i1 ?_
          refine g_iand X dX10_generations_52 (q := 53) rfl ?_
          refine g_iconst X dX10_generations_53 (q := 54) rfl li_i1 ?_
          refine g_icmp_ne X dX10_generations_54 (q := 57) rfl (tgt := 60) (by decide) hs ?_ ?_
          · intro hs
            refine g_aload_n X dX10_generations_60 (q := 61) rfl 0 rfl ?_
            refine g_iload_n X dX10_generations_61 (q := 62) rfl 2 rfl ?_
            refine v_crossedOnce X dX10_generations_62 (q := 65) rfl (Nat.le_of_ble_eq_true rfl) (Nat.le_of_ble_eq_true rfl) (Nat.le_of_ble_eq_true rfl) hs (fun y2 hs => ?_)
            refine g_istore_n X dX10_generations_65 (q := 66) rfl (Nat.le_of_ble_eq_true rfl) (lv' := [(3, .int y2), (0, .ref (h 0)), (2, .int x2), (4, .int a2)]) rfl ?_
            refine g_iinc X dX10_generations_66 (q := 69) rfl 3 rfl (v := (a2 + (1 : Int32))) (congrArg (HAdd.hAdd a2) li_i1) (Nat.le_of_ble_eq_true rfl) (lv' := [(4, .int (a2 + (1 : Int32))), (3, .int y2), (0, .ref (h 0)), (2, .int x2)]) rfl ?_
            refine g_goto X dX10_generations_69 (tgt := 41) (by decide) ?_
            exact wg_sub [2, 3, 1, 0] rfl (ih1 _ _ hs)
          · intro hs
            refine g_iload X dX10_generations_57 (q := 59) rfl 3 rfl ?_
            exact RI _ 59 _ _ _ (rU1 hs) rfl (rV1 hs) dX10_generations_59
      · intro hs
        refine g_iconst X dX10_generations_34 (q := 35) rfl li_im1 ?_
        exact RI _ 35 _ _ _ (rU1 hs) rfl (rV1 hs) dX10_generations_35
theorem dX10_findsWho_0 : decode cX10_findsWho 0 = .ok (.aload_n 0, 1) := by decide +kernel
theorem dX10_findsWho_1 : decode cX10_findsWho 1 = .ok (.iconst 0, 1) := by decide +kernel
theorem dX10_findsWho_2 : decode cX10_findsWho 2 = .ok (.putfield 458, 3) := by decide +kernel
theorem dX10_findsWho_5 : decode cX10_findsWho 5 = .ok (.aload_n 0, 1) := by decide +kernel
theorem dX10_findsWho_6 : decode cX10_findsWho 6 = .ok (.iconst (-1), 1) := by decide +kernel
theorem dX10_findsWho_7 : decode cX10_findsWho 7 = .ok (.putfield 461, 3) := by decide +kernel
theorem dX10_findsWho_10 : decode cX10_findsWho 10 = .ok (.iconst 0, 1) := by decide +kernel
theorem dX10_findsWho_11 : decode cX10_findsWho 11 = .ok (.istore_n 3, 1) := by decide +kernel
theorem dX10_findsWho_12 : decode cX10_findsWho 12 = .ok (.iload_n 3, 1) := by decide +kernel
theorem dX10_findsWho_13 : decode cX10_findsWho 13 = .ok (.aload_n 0, 1) := by decide +kernel
theorem dX10_findsWho_14 : decode cX10_findsWho 14 = .ok (.getfield 118, 3) := by decide +kernel
theorem dX10_findsWho_17 : decode cX10_findsWho 17 = .ok (.if_icmp .ge 73, 3) := by decide +kernel
theorem dX10_findsWho_20 : decode cX10_findsWho 20 = .ok (.aload_n 0, 1) := by decide +kernel
theorem dX10_findsWho_21 : decode cX10_findsWho 21 = .ok (.iload_n 3, 1) := by decide +kernel
theorem dX10_findsWho_22 : decode cX10_findsWho 22 = .ok (.iconst 0, 1) := by decide +kernel
theorem dX10_findsWho_23 : decode cX10_findsWho 23 = .ok (.invokevirtual 354, 3) := by decide +kernel
theorem dX10_findsWho_26 : decode cX10_findsWho 26 = .ok (.istore 4, 2) := by decide +kernel
theorem dX10_findsWho_28 : decode cX10_findsWho 28 = .ok (.iload 4, 2) := by decide +kernel
theorem dX10_findsWho_30 : decode cX10_findsWho 30 = .ok (.bipush 30, 2) := by decide +kernel
theorem dX10_findsWho_32 : decode cX10_findsWho 32 = .ok (.if_icmp .gt 52, 3) := by decide +kernel
theorem dX10_findsWho_35 : decode cX10_findsWho 35 = .ok (.aload_n 0, 1) := by decide +kernel
theorem dX10_findsWho_36 : decode cX10_findsWho 36 = .ok (.iload_n 3, 1) := by decide +kernel
theorem dX10_findsWho_37 : decode cX10_findsWho 37 = .ok (.iload_n 1, 1) := by decide +kernel
theorem dX10_findsWho_38 : decode cX10_findsWho 38 = .ok (.iload 4, 2) := by decide +kernel
theorem dX10_findsWho_40 : decode cX10_findsWho 40 = .ok (.invokevirtual 357, 3) := by decide +kernel
theorem dX10_findsWho_43 : decode cX10_findsWho 43 = .ok (.iload_n 2, 1) := by decide +kernel
theorem dX10_findsWho_44 : decode cX10_findsWho 44 = .ok (.if_icmp .eq 6, 3) := by decide +kernel
theorem dX10_findsWho_47 : decode cX10_findsWho 47 = .ok (.goto 31, 3) := by decide +kernel
theorem dX10_findsWho_50 : decode cX10_findsWho 50 = .ok (.aload_n 0, 1) := by decide +kernel
theorem dX10_findsWho_51 : decode cX10_findsWho 51 = .ok (.getfield 458, 3) := by decide +kernel
theorem dX10_findsWho_54 : decode cX10_findsWho 54 = .ok (.ifCond .ne 14, 3) := by decide +kernel
theorem dX10_findsWho_57 : decode cX10_findsWho 57 = .ok (.aload_n 0, 1) := by decide +kernel
theorem dX10_findsWho_58 : decode cX10_findsWho 58 = .ok (.bipush 64, 2) := by decide +kernel
theorem dX10_findsWho_60 : decode cX10_findsWho 60 = .ok (.iload_n 3, 1) := by decide +kernel
theorem dX10_findsWho_61 : decode cX10_findsWho 61 = .ok (.imul, 1) := by decide +kernel
theorem dX10_findsWho_62 : decode cX10_findsWho 62 = .ok (.iload 4, 2) := by decide +kernel
theorem dX10_findsWho_64 : decode cX10_findsWho 64 = .ok (.iadd, 1) := by decide +kernel
theorem dX10_findsWho_65 : decode cX10_findsWho 65 = .ok (.putfield 461, 3) := by decide +kernel
theorem dX10_findsWho_68 : decode cX10_findsWho 68 = .ok (.aload_n 0, 1) := by decide +kernel
theorem dX10_findsWho_69 : decode cX10_findsWho 69 = .ok (.aload_n 0, 1) := by decide +kernel
theorem dX10_findsWho_70 : decode cX10_findsWho 70 = .ok (.getfield 458, 3) := by decide +kernel
theorem dX10_findsWho_73 : decode cX10_findsWho 73 = .ok (.iconst 1, 1) := by decide +kernel
theorem dX10_findsWho_74 : decode cX10_findsWho 74 = .ok (.iadd, 1) := by decide +kernel
theorem dX10_findsWho_75 : decode cX10_findsWho 75 = .ok (.putfield 458, 3) := by decide +kernel
theorem dX10_findsWho_78 : decode cX10_findsWho 78 = .ok (.iinc 4 1, 3) := by decide +kernel
theorem dX10_findsWho_81 : decode cX10_findsWho 81 = .ok (.goto (-53), 3) := by decide +kernel
theorem dX10_findsWho_84 : decode cX10_findsWho 84 = .ok (.iinc 3 1, 3) := by decide +kernel
theorem dX10_findsWho_87 : decode cX10_findsWho 87 = .ok (.goto (-75), 3) := by decide +kernel
theorem dX10_findsWho_90 : decode cX10_findsWho 90 = .ok (.return_, 1) := by decide +kernel
def M_findsWho (s : ST) (x1 : Int32) (x2 : Int32) : Option (ST) := Lt (ups s 0 48 (0 : Int32)) fun s1 => Lt (ups s1 0 49 (-1 : Int32)) fun s2 => lpK2 (C := ST) (fun (rec1 : Int32 → ST → Option (ST)) (a1 : Int32) (s3 : ST) => if (s3.1 0 34) ≤ a1 then (some s3) else (Bd (M_ofKind s3 a1 (0 : Int32)) fun y1 => lpK2 (C := ST) (fun (rec2 : Int32 → ST → Option (ST)) (a2 : Int32) (s4 : ST) => if (30 : Int32) < a2 then (rec1 (a1 + (1 : Int32)) s4) else (Bd (M_gustOf s4 a1 x1 a2) fun y2 => Lt (fun (s5 : ST) => (rec2 (a2 + (1 : Int32)) s5 : Option (ST))) fun j1 => if y2.1 = x2 then (Lt (fun (s6 : ST) => (Lt (ups s6 0 48 ((s6.1 0 48) + (1 : Int32))) fun s7 => j1 s7 : Option (ST))) fun j2 => if (y2.2.1 0 48) = 0 then (Lt (ups y2.2 0 49 (((64 : Int32) * a1) + a2)) fun s8 => j2 s8) else (j2 y2.2)) else (j1 y2.2))) FU y1 s3)) FU (0 : Int32) s2
set_option maxRecDepth 100000 in
set_option maxHeartbeats 4000000 in
theorem k_findsWho (l : Launch) (D : va_G) (cA : ClassId) (h : Nat → Nat) (s : ST) (x1 : Int32) (x2 : Int32) {o : ST} (hs : M_findsWho s x1 x2 = some o) : MV l (KM D cA h) 6 yX10_findsWho cX10_findsWho 5 none s [.ref (h 0), .int x1, .int x2] o := by
  refine met_v (by decide) (Nat.le_of_ble_eq_true rfl) ?_
  intro p e st m args below meth c Q X RI
  unfold M_findsWho at hs
  refine g_aload_n X dX10_findsWho_0 (q := 1) rfl 0 rfl ?_
  refine g_iconst X dX10_findsWho_1 (q := 2) rfl li_i0 ?_
  refine mp_48 X dX10_findsWho_2 (q := 5) rfl hs (fun s1 hs => ?_)
  refine g_aload_n X dX10_findsWho_5 (q := 6) rfl 0 rfl ?_
  refine g_iconst X dX10_findsWho_6 (q := 7) rfl li_im1 ?_
  refine mp_49 X dX10_findsWho_7 (q := 10) rfl hs (fun s2 hs => ?_)
  refine g_iconst X dX10_findsWho_10 (q := 11) rfl li_i0 ?_
  refine g_istore_n X dX10_findsWho_11 (q := 12) rfl (Nat.le_of_ble_eq_true rfl) (lv' := [(3, .int (0 : Int32)), (0, .ref (h 0)), (1, .int x1), (2, .int x2)]) rfl ?_
  refine wg_sub [1, 2, 3, 0] rfl (lpW2 (fun (a1 : Int32) (s3 : ST) => WG (KM D cA h) p l e (rmD 6) st m args below meth c Q 5 s3 12 [(0, .ref (h 0)), (1, .int x1), (2, .int x2), (3, .int a1)] []) (fun rec1 ih1 a1 s3 hs => ?_) _ _ _ hs)
  refine g_iload_n X dX10_findsWho_12 (q := 13) rfl 3 rfl ?_
  refine g_aload_n X dX10_findsWho_13 (q := 14) rfl 0 rfl ?_
  refine mg_34 X dX10_findsWho_14 (q := 17) rfl ?_
  refine g_icmp_ge X dX10_findsWho_17 (q := 20) rfl (tgt := 90) (by decide) hs ?_ ?_
  · intro hs
    exact RI _ 90 _ (Option.some.inj hs) dX10_findsWho_90
  · intro hs
    refine g_aload_n X dX10_findsWho_20 (q := 21) rfl 0 rfl ?_
    refine g_iload_n X dX10_findsWho_21 (q := 22) rfl 3 rfl ?_
    refine g_iconst X dX10_findsWho_22 (q := 23) rfl li_i0 ?_
    refine v_ofKind X dX10_findsWho_23 (q := 26) rfl (Nat.le_of_ble_eq_true rfl) (Nat.le_of_ble_eq_true rfl) (Nat.le_of_ble_eq_true rfl) hs (fun y1 hs => ?_)
    refine g_istore X dX10_findsWho_26 (q := 28) rfl (Nat.le_of_ble_eq_true rfl) (lv' := [(4, .int y1), (0, .ref (h 0)), (1, .int x1), (2, .int x2), (3, .int a1)]) rfl ?_
    refine wg_sub [1, 2, 3, 4, 0] rfl (lpW2 (fun (a2 : Int32) (s4 : ST) => WG (KM D cA h) p l e (rmD 6) st m args below meth c Q 5 s4 28 [(0, .ref (h 0)), (1, .int x1), (2, .int x2), (3, .int a1), (4, .int a2)] []) (fun rec2 ih2 a2 s4 hs => ?_) _ _ _ hs)
    refine g_iload X dX10_findsWho_28 (q := 30) rfl 4 rfl ?_
    refine g_bipush X dX10_findsWho_30 (q := 32) rfl li_b30 ?_
    refine g_icmp_gt X dX10_findsWho_32 (q := 35) rfl (tgt := 84) (by decide) hs ?_ ?_
    · intro hs
      refine g_iinc X dX10_findsWho_84 (q := 87) rfl 3 rfl (v := (a1 + (1 : Int32))) (congrArg (HAdd.hAdd a1) li_i1) (Nat.le_of_ble_eq_true rfl) (lv' := [(3, .int (a1 + (1 : Int32))), (0, .ref (h 0)), (1, .int x1), (2, .int x2), (4, .int a2)]) rfl ?_
      refine g_goto X dX10_findsWho_87 (tgt := 12) (by decide) ?_
      exact wg_sub [1, 2, 3, 0] rfl (ih1 _ _ hs)
    · intro hs
      refine g_aload_n X dX10_findsWho_35 (q := 36) rfl 0 rfl ?_
      refine g_iload_n X dX10_findsWho_36 (q := 37) rfl 3 rfl ?_
      refine g_iload_n X dX10_findsWho_37 (q := 38) rfl 1 rfl ?_
      refine g_iload X dX10_findsWho_38 (q := 40) rfl 4 rfl ?_
      refine v_gustOf X dX10_findsWho_40 (q := 43) rfl (Nat.le_of_ble_eq_true rfl) (Nat.le_of_ble_eq_true rfl) (Nat.le_of_ble_eq_true rfl) hs (fun y2 hs => ?_)
      refine g_iload_n X dX10_findsWho_43 (q := 44) rfl 2 rfl ?_
      refine jnW1 (fun (s5 : ST) => WG (KM D cA h) p l e (rmD 6) st m args below meth c Q 5 s5 78 [(0, .ref (h 0)), (1, .int x1), (2, .int x2), (3, .int a1), (4, .int a2)] []) hs (fun s5 hs => ?_) (fun j1 ih3 hs => ?_)
      · refine g_iinc X dX10_findsWho_78 (q := 81) rfl 4 rfl (v := (a2 + (1 : Int32))) (congrArg (HAdd.hAdd a2) li_i1) (Nat.le_of_ble_eq_true rfl) (lv' := [(4, .int (a2 + (1 : Int32))), (0, .ref (h 0)), (1, .int x1), (2, .int x2), (3, .int a1)]) rfl ?_
        refine g_goto X dX10_findsWho_81 (tgt := 28) (by decide) ?_
        exact wg_sub [1, 2, 3, 4, 0] rfl (ih2 _ _ hs)
      refine g_icmp_eq X dX10_findsWho_44 (q := 47) rfl (tgt := 50) (by decide) hs ?_ ?_
      · intro hs
        refine g_aload_n X dX10_findsWho_50 (q := 51) rfl 0 rfl ?_
        refine mg_48 X dX10_findsWho_51 (q := 54) rfl ?_
        refine jnW1 (fun (s6 : ST) => WG (KM D cA h) p l e (rmD 6) st m args below meth c Q 5 s6 68 [(0, .ref (h 0)), (1, .int x1), (2, .int x2), (3, .int a1), (4, .int a2)] []) hs (fun s6 hs => ?_) (fun j2 ih4 hs => ?_)
        · refine g_aload_n X dX10_findsWho_68 (q := 69) rfl 0 rfl ?_
          refine g_aload_n X dX10_findsWho_69 (q := 70) rfl 0 rfl ?_
          refine mg_48 X dX10_findsWho_70 (q := 73) rfl ?_
          refine g_iconst X dX10_findsWho_73 (q := 74) rfl li_i1 ?_
          refine g_iadd X dX10_findsWho_74 (q := 75) rfl ?_
          refine mp_48 X dX10_findsWho_75 (q := 78) rfl hs (fun s7 hs => ?_)
          exact wg_sub [0, 1, 2, 3, 4] rfl (ih3 _ hs)
        refine g_if_ne X dX10_findsWho_54 (q := 57) rfl (tgt := 68) (by decide) hs ?_ ?_
        · intro hs
          exact wg_sub [0, 1, 2, 3, 4] rfl (ih4 _ hs)
        · intro hs
          refine g_aload_n X dX10_findsWho_57 (q := 58) rfl 0 rfl ?_
          refine g_bipush X dX10_findsWho_58 (q := 60) rfl li_b64 ?_
          refine g_iload_n X dX10_findsWho_60 (q := 61) rfl 3 rfl ?_
          refine g_imul X dX10_findsWho_61 (q := 62) rfl ?_
          refine g_iload X dX10_findsWho_62 (q := 64) rfl 4 rfl ?_
          refine g_iadd X dX10_findsWho_64 (q := 65) rfl ?_
          refine mp_49 X dX10_findsWho_65 (q := 68) rfl hs (fun s8 hs => ?_)
          exact wg_sub [0, 1, 2, 3, 4] rfl (ih4 _ hs)
      · intro hs
        refine g_goto X dX10_findsWho_47 (tgt := 78) (by decide) ?_
        exact wg_sub [0, 1, 2, 3, 4] rfl (ih3 _ hs)
theorem v_findsWho {p : Program} {l : Launch} {e : Env} {st : State} {m : MethodId} {args : Array Value} {below : List Frame} {meth : Method} {c : Code} {Q : State → Prop} {nL : Nat} {cc : ByteArray} {s : ST} {pc q : Nat} {lv : List (Nat × Value)} {rest : List Value} {D : va_G} {cA : ClassId} {h : Nat → Nat} {d0 : Nat} (X : Cx (KM D cA h) p st m args meth c cc nL RX10) {x1 : Int32} {x2 : Int32} (d : decode cc pc = .ok (.invokevirtual 464, 3)) (hq : pc + 3 = q) (hd1 : 6 + 1 ≤ d0) (hd2 : 8 + (5 + 11) + 100 * 6 ≤ 100 * d0) (hr : (rest.map fun v => v.category).sum ≤ 8) {B : Type} {f : ST → Option B} {r : B} (hs : Bd (M_findsWho s x1 x2) f = some r) (k : ∀ y, f y = some r → WG (KM D cA h) p l e (rmD d0) st m args below meth c Q nL y q lv (rest)) : WG (KM D cA h) p l e (rmD d0) st m args below meth c Q nL s pc lv (.int x2 :: .int x1 :: .ref (h 0) :: rest) := by
  obtain ⟨v, hv, hs⟩ := Bd_e hs
  exact cV_V X 0 (n := 2) (k_findsWho l D cA h s x1 x2 hv) gv_X10_findsWho ⟨hd1, hd2⟩ ⟨by decide, by decide, by decide +kernel⟩ (As := [.int x1, .int x2]) rfl hr (Nat.le_of_ble_eq_true rfl) (fs := mF h (s.1 0)) rfl rfl rfl d hq (k _ hs)
theorem dX10_who_0 : decode cX10_who 0 = .ok (.aload_n 0, 1) := by decide +kernel
theorem dX10_who_1 : decode cX10_who 1 = .ok (.iconst 0, 1) := by decide +kernel
theorem dX10_who_2 : decode cX10_who 2 = .ok (.putfield 83, 3) := by decide +kernel
theorem dX10_who_5 : decode cX10_who 5 = .ok (.aload_n 0, 1) := by decide +kernel
theorem dX10_who_6 : decode cX10_who 6 = .ok (.iload_n 1, 1) := by decide +kernel
theorem dX10_who_7 : decode cX10_who 7 = .ok (.invokevirtual 130, 3) := by decide +kernel
theorem dX10_who_10 : decode cX10_who 10 = .ok (.ifCond .eq 24, 3) := by decide +kernel
theorem dX10_who_13 : decode cX10_who 13 = .ok (.aload_n 0, 1) := by decide +kernel
theorem dX10_who_14 : decode cX10_who 14 = .ok (.iload_n 2, 1) := by decide +kernel
theorem dX10_who_15 : decode cX10_who 15 = .ok (.iconst 1, 1) := by decide +kernel
theorem dX10_who_16 : decode cX10_who 16 = .ok (.bipush 9, 2) := by decide +kernel
theorem dX10_who_18 : decode cX10_who 18 = .ok (.invokevirtual 111, 3) := by decide +kernel
theorem dX10_who_21 : decode cX10_who 21 = .ok (.ifCond .eq 13, 3) := by decide +kernel
theorem dX10_who_24 : decode cX10_who 24 = .ok (.aload_n 0, 1) := by decide +kernel
theorem dX10_who_25 : decode cX10_who 25 = .ok (.iload_n 3, 1) := by decide +kernel
theorem dX10_who_26 : decode cX10_who 26 = .ok (.iconst 0, 1) := by decide +kernel
theorem dX10_who_27 : decode cX10_who 27 = .ok (.iconst 2, 1) := by decide +kernel
theorem dX10_who_28 : decode cX10_who 28 = .ok (.invokevirtual 111, 3) := by decide +kernel
theorem dX10_who_31 : decode cX10_who 31 = .ok (.ifCond .ne 5, 3) := by decide +kernel
theorem dX10_who_34 : decode cX10_who 34 = .ok (.iconst (-1), 1) := by decide +kernel
theorem dX10_who_35 : decode cX10_who 35 = .ok (.ireturn, 1) := by decide +kernel
theorem dX10_who_36 : decode cX10_who 36 = .ok (.aload_n 0, 1) := by decide +kernel
theorem dX10_who_37 : decode cX10_who 37 = .ok (.iload_n 1, 1) := by decide +kernel
theorem dX10_who_38 : decode cX10_who 38 = .ok (.iload_n 2, 1) := by decide +kernel
theorem dX10_who_39 : decode cX10_who 39 = .ok (.invokevirtual 464, 3) := by decide +kernel
theorem dX10_who_42 : decode cX10_who 42 = .ok (.iload_n 3, 1) := by decide +kernel
theorem dX10_who_43 : decode cX10_who 43 = .ok (.ifCond .ne 8, 3) := by decide +kernel
theorem dX10_who_46 : decode cX10_who 46 = .ok (.aload_n 0, 1) := by decide +kernel
theorem dX10_who_47 : decode cX10_who 47 = .ok (.getfield 458, 3) := by decide +kernel
theorem dX10_who_50 : decode cX10_who 50 = .ok (.ireturn, 1) := by decide +kernel
theorem dX10_who_51 : decode cX10_who 51 = .ok (.aload_n 0, 1) := by decide +kernel
theorem dX10_who_52 : decode cX10_who 52 = .ok (.getfield 461, 3) := by decide +kernel
theorem dX10_who_55 : decode cX10_who 55 = .ok (.iconst (-1), 1) := by decide +kernel
theorem dX10_who_56 : decode cX10_who 56 = .ok (.if_icmp .ne 7, 3) := by decide +kernel
theorem dX10_who_59 : decode cX10_who 59 = .ok (.iconst (-1), 1) := by decide +kernel
theorem dX10_who_60 : decode cX10_who 60 = .ok (.goto 25, 3) := by decide +kernel
theorem dX10_who_63 : decode cX10_who 63 = .ok (.iload_n 3, 1) := by decide +kernel
theorem dX10_who_64 : decode cX10_who 64 = .ok (.iconst 1, 1) := by decide +kernel
theorem dX10_who_65 : decode cX10_who 65 = .ok (.if_icmp .ne 13, 3) := by decide +kernel
theorem dX10_who_68 : decode cX10_who 68 = .ok (.aload_n 0, 1) := by decide +kernel
theorem dX10_who_69 : decode cX10_who 69 = .ok (.getfield 461, 3) := by decide +kernel
theorem dX10_who_72 : decode cX10_who 72 = .ok (.bipush 64, 2) := by decide +kernel
theorem dX10_who_74 : decode cX10_who 74 = .ok (.idiv, 1) := by decide +kernel
theorem dX10_who_75 : decode cX10_who 75 = .ok (.goto 10, 3) := by decide +kernel
theorem dX10_who_78 : decode cX10_who 78 = .ok (.aload_n 0, 1) := by decide +kernel
theorem dX10_who_79 : decode cX10_who 79 = .ok (.getfield 461, 3) := by decide +kernel
theorem dX10_who_82 : decode cX10_who 82 = .ok (.bipush 64, 2) := by decide +kernel
theorem dX10_who_84 : decode cX10_who 84 = .ok (.irem, 1) := by decide +kernel
theorem dX10_who_85 : decode cX10_who 85 = .ok (.ireturn, 1) := by decide +kernel
def M_who (s : ST) (x1 : Int32) (x2 : Int32) (x3 : Int32) : Option (Int32 × ST) := Lt (ups s 0 0 (0 : Int32)) fun s1 => Lt (M_isCell s1 x1) fun y1 => if y1 = 0 then (some ((-1 : Int32), s1)) else (Lt (M_isIn s1 x2 (1 : Int32) (9 : Int32)) fun y2 => if y2 = 0 then (some ((-1 : Int32), s1)) else (Lt (M_isIn s1 x3 (0 : Int32) (2 : Int32)) fun y3 => if y3 = 0 then (some ((-1 : Int32), s1)) else (Bd (M_findsWho s1 x1 x2) fun s2 => if x3 = 0 then (some ((s2.1 0 48), s2)) else (if (s2.1 0 49) = (-1 : Int32) then (some ((-1 : Int32), s2)) else (if x3 = (1 : Int32) then (some (((s2.1 0 49) / (64 : Int32)), s2)) else (some ((irm (s2.1 0 49) (64 : Int32)), s2)))))))
set_option maxRecDepth 100000 in
set_option maxHeartbeats 4000000 in
theorem k_who (l : Launch) (D : va_G) (cA : ClassId) (h : Nat → Nat) (s : ST) (x1 : Int32) (x2 : Int32) (x3 : Int32) {o : Int32 × ST} (hs : M_who s x1 x2 x3 = some o) : MI l (KM D cA h) 7 yX10_who cX10_who 4 (some .int) s [.ref (h 0), .int x1, .int x2, .int x3] o.1 o.2 := by
  refine met_i (by decide) (Nat.le_of_ble_eq_true rfl) ?_
  intro p e st m args below meth c Q X RI
  unfold M_who at hs
  refine g_aload_n X dX10_who_0 (q := 1) rfl 0 rfl ?_
  refine g_iconst X dX10_who_1 (q := 2) rfl li_i0 ?_
  refine mp_0 X dX10_who_2 (q := 5) rfl hs (fun s1 hs => ?_)
  refine g_aload_n X dX10_who_5 (q := 6) rfl 0 rfl ?_
  refine g_iload_n X dX10_who_6 (q := 7) rfl 1 rfl ?_
  refine v_isCell X dX10_who_7 (q := 10) rfl (Nat.le_of_ble_eq_true rfl) (Nat.le_of_ble_eq_true rfl) (Nat.le_of_ble_eq_true rfl) hs (fun y1 hs => ?_)
  refine g_if_eq X dX10_who_10 (q := 13) rfl (tgt := 34) (by decide) hs ?_ ?_
  · intro hs
    refine g_iconst X dX10_who_34 (q := 35) rfl li_im1 ?_
    exact RI _ 35 _ _ _ (rU1 hs) rfl (rV1 hs) dX10_who_35
  · intro hs
    refine g_aload_n X dX10_who_13 (q := 14) rfl 0 rfl ?_
    refine g_iload_n X dX10_who_14 (q := 15) rfl 2 rfl ?_
    refine g_iconst X dX10_who_15 (q := 16) rfl li_i1 ?_
    refine g_bipush X dX10_who_16 (q := 18) rfl li_b9 ?_
    refine v_isIn X dX10_who_18 (q := 21) rfl (Nat.le_of_ble_eq_true rfl) (Nat.le_of_ble_eq_true rfl) (Nat.le_of_ble_eq_true rfl) hs (fun y2 hs => ?_)
    refine g_if_eq X dX10_who_21 (q := 24) rfl (tgt := 34) (by decide) hs ?_ ?_
    · intro hs
      refine g_iconst X dX10_who_34 (q := 35) rfl li_im1 ?_
      exact RI _ 35 _ _ _ (rU1 hs) rfl (rV1 hs) dX10_who_35
    · intro hs
      refine g_aload_n X dX10_who_24 (q := 25) rfl 0 rfl ?_
      refine g_iload_n X dX10_who_25 (q := 26) rfl 3 rfl ?_
      refine g_iconst X dX10_who_26 (q := 27) rfl li_i0 ?_
      refine g_iconst X dX10_who_27 (q := 28) rfl li_i2 ?_
      refine v_isIn X dX10_who_28 (q := 31) rfl (Nat.le_of_ble_eq_true rfl) (Nat.le_of_ble_eq_true rfl) (Nat.le_of_ble_eq_true rfl) hs (fun y3 hs => ?_)
      refine g_if_ne X dX10_who_31 (q := 34) rfl (tgt := 36) (by decide) hs ?_ ?_
      · intro hs
        refine g_aload_n X dX10_who_36 (q := 37) rfl 0 rfl ?_
        refine g_iload_n X dX10_who_37 (q := 38) rfl 1 rfl ?_
        refine g_iload_n X dX10_who_38 (q := 39) rfl 2 rfl ?_
        refine v_findsWho X dX10_who_39 (q := 42) rfl (Nat.le_of_ble_eq_true rfl) (Nat.le_of_ble_eq_true rfl) (Nat.le_of_ble_eq_true rfl) hs (fun s2 hs => ?_)
        refine g_iload_n X dX10_who_42 (q := 43) rfl 3 rfl ?_
        refine g_if_ne X dX10_who_43 (q := 46) rfl (tgt := 51) (by decide) hs ?_ ?_
        · intro hs
          refine g_aload_n X dX10_who_51 (q := 52) rfl 0 rfl ?_
          refine mg_49 X dX10_who_52 (q := 55) rfl ?_
          refine g_iconst X dX10_who_55 (q := 56) rfl li_im1 ?_
          refine g_icmp_ne X dX10_who_56 (q := 59) rfl (tgt := 63) (by decide) hs ?_ ?_
          · intro hs
            refine g_iload_n X dX10_who_63 (q := 64) rfl 3 rfl ?_
            refine g_iconst X dX10_who_64 (q := 65) rfl li_i1 ?_
            refine g_icmp_ne X dX10_who_65 (q := 68) rfl (tgt := 78) (by decide) hs ?_ ?_
            · intro hs
              refine g_aload_n X dX10_who_78 (q := 79) rfl 0 rfl ?_
              refine mg_49 X dX10_who_79 (q := 82) rfl ?_
              refine g_bipush X dX10_who_82 (q := 84) rfl li_b64 ?_
              refine g_irem X dX10_who_84 (q := 85) rfl (by decide) ?_
              exact RI _ 85 _ _ _ (rU1 hs) rfl (rV1 hs) dX10_who_85
            · intro hs
              refine g_aload_n X dX10_who_68 (q := 69) rfl 0 rfl ?_
              refine mg_49 X dX10_who_69 (q := 72) rfl ?_
              refine g_bipush X dX10_who_72 (q := 74) rfl li_b64 ?_
              refine g_idiv X dX10_who_74 (q := 75) rfl (by decide) ?_
              refine g_goto X dX10_who_75 (tgt := 85) (by decide) ?_
              exact RI _ 85 _ _ _ (rU1 hs) rfl (rV1 hs) dX10_who_85
          · intro hs
            refine g_iconst X dX10_who_59 (q := 60) rfl li_im1 ?_
            refine g_goto X dX10_who_60 (tgt := 85) (by decide) ?_
            exact RI _ 85 _ _ _ (rU1 hs) rfl (rV1 hs) dX10_who_85
        · intro hs
          refine g_aload_n X dX10_who_46 (q := 47) rfl 0 rfl ?_
          refine mg_48 X dX10_who_47 (q := 50) rfl ?_
          exact RI _ 50 _ _ _ (rU1 hs) rfl (rV1 hs) dX10_who_50
      · intro hs
        refine g_iconst X dX10_who_34 (q := 35) rfl li_im1 ?_
        exact RI _ 35 _ _ _ (rU1 hs) rfl (rV1 hs) dX10_who_35
theorem dX10_calm_0 : decode cX10_calm 0 = .ok (.aload_n 0, 1) := by decide +kernel
theorem dX10_calm_1 : decode cX10_calm 1 = .ok (.iconst 0, 1) := by decide +kernel
theorem dX10_calm_2 : decode cX10_calm 2 = .ok (.putfield 83, 3) := by decide +kernel
theorem dX10_calm_5 : decode cX10_calm 5 = .ok (.aload_n 0, 1) := by decide +kernel
theorem dX10_calm_6 : decode cX10_calm 6 = .ok (.iload_n 1, 1) := by decide +kernel
theorem dX10_calm_7 : decode cX10_calm 7 = .ok (.invokevirtual 130, 3) := by decide +kernel
theorem dX10_calm_10 : decode cX10_calm 10 = .ok (.ifCond .eq 24, 3) := by decide +kernel
theorem dX10_calm_13 : decode cX10_calm 13 = .ok (.aload_n 0, 1) := by decide +kernel
theorem dX10_calm_14 : decode cX10_calm 14 = .ok (.iload_n 2, 1) := by decide +kernel
theorem dX10_calm_15 : decode cX10_calm 15 = .ok (.iconst 1, 1) := by decide +kernel
theorem dX10_calm_16 : decode cX10_calm 16 = .ok (.bipush 60, 2) := by decide +kernel
theorem dX10_calm_18 : decode cX10_calm 18 = .ok (.invokevirtual 111, 3) := by decide +kernel
theorem dX10_calm_21 : decode cX10_calm 21 = .ok (.ifCond .eq 13, 3) := by decide +kernel
theorem dX10_calm_24 : decode cX10_calm 24 = .ok (.aload_n 0, 1) := by decide +kernel
theorem dX10_calm_25 : decode cX10_calm 25 = .ok (.iload_n 3, 1) := by decide +kernel
theorem dX10_calm_26 : decode cX10_calm 26 = .ok (.iconst 0, 1) := by decide +kernel
theorem dX10_calm_27 : decode cX10_calm 27 = .ok (.iconst 1, 1) := by decide +kernel
theorem dX10_calm_28 : decode cX10_calm 28 = .ok (.invokevirtual 111, 3) := by decide +kernel
theorem dX10_calm_31 : decode cX10_calm 31 = .ok (.ifCond .ne 5, 3) := by decide +kernel
theorem dX10_calm_34 : decode cX10_calm 34 = .ok (.iconst (-1), 1) := by decide +kernel
theorem dX10_calm_35 : decode cX10_calm 35 = .ok (.ireturn, 1) := by decide +kernel
theorem dX10_calm_36 : decode cX10_calm 36 = .ok (.iconst 0, 1) := by decide +kernel
theorem dX10_calm_37 : decode cX10_calm 37 = .ok (.istore 4, 2) := by decide +kernel
theorem dX10_calm_39 : decode cX10_calm 39 = .ok (.iconst (-1), 1) := by decide +kernel
theorem dX10_calm_40 : decode cX10_calm 40 = .ok (.istore 5, 2) := by decide +kernel
theorem dX10_calm_42 : decode cX10_calm 42 = .ok (.iconst 0, 1) := by decide +kernel
theorem dX10_calm_43 : decode cX10_calm 43 = .ok (.istore 6, 2) := by decide +kernel
theorem dX10_calm_45 : decode cX10_calm 45 = .ok (.aload_n 0, 1) := by decide +kernel
theorem dX10_calm_46 : decode cX10_calm 46 = .ok (.invokevirtual 412, 3) := by decide +kernel
theorem dX10_calm_49 : decode cX10_calm 49 = .ok (.iconst 0, 1) := by decide +kernel
theorem dX10_calm_50 : decode cX10_calm 50 = .ok (.istore 7, 2) := by decide +kernel
theorem dX10_calm_52 : decode cX10_calm 52 = .ok (.iload 7, 2) := by decide +kernel
theorem dX10_calm_54 : decode cX10_calm 54 = .ok (.iload_n 2, 1) := by decide +kernel
theorem dX10_calm_55 : decode cX10_calm 55 = .ok (.if_icmp .ge 62, 3) := by decide +kernel
theorem dX10_calm_58 : decode cX10_calm 58 = .ok (.aload_n 0, 1) := by decide +kernel
theorem dX10_calm_59 : decode cX10_calm 59 = .ok (.iconst 1, 1) := by decide +kernel
theorem dX10_calm_60 : decode cX10_calm 60 = .ok (.invokevirtual 396, 3) := by decide +kernel
theorem dX10_calm_63 : decode cX10_calm 63 = .ok (.pop, 1) := by decide +kernel
theorem dX10_calm_64 : decode cX10_calm 64 = .ok (.aload_n 0, 1) := by decide +kernel
theorem dX10_calm_65 : decode cX10_calm 65 = .ok (.iload_n 1, 1) := by decide +kernel
theorem dX10_calm_66 : decode cX10_calm 66 = .ok (.invokevirtual 308, 3) := by decide +kernel
theorem dX10_calm_69 : decode cX10_calm 69 = .ok (.iconst (-1), 1) := by decide +kernel
theorem dX10_calm_70 : decode cX10_calm 70 = .ok (.if_icmp .ne 10, 3) := by decide +kernel
theorem dX10_calm_73 : decode cX10_calm 73 = .ok (.iload 6, 2) := by decide +kernel
theorem dX10_calm_75 : decode cX10_calm 75 = .ok (.iconst 1, 1) := by decide +kernel
theorem dX10_calm_76 : decode cX10_calm 76 = .ok (.iadd, 1) := by decide +kernel
theorem dX10_calm_77 : decode cX10_calm 77 = .ok (.goto 4, 3) := by decide +kernel
theorem dX10_calm_80 : decode cX10_calm 80 = .ok (.iconst 0, 1) := by decide +kernel
theorem dX10_calm_81 : decode cX10_calm 81 = .ok (.istore 6, 2) := by decide +kernel
theorem dX10_calm_83 : decode cX10_calm 83 = .ok (.iload 6, 2) := by decide +kernel
theorem dX10_calm_85 : decode cX10_calm 85 = .ok (.iload 4, 2) := by decide +kernel
theorem dX10_calm_87 : decode cX10_calm 87 = .ok (.if_icmp .le 20, 3) := by decide +kernel
theorem dX10_calm_90 : decode cX10_calm 90 = .ok (.iload 6, 2) := by decide +kernel
theorem dX10_calm_92 : decode cX10_calm 92 = .ok (.istore 4, 2) := by decide +kernel
theorem dX10_calm_94 : decode cX10_calm 94 = .ok (.aload_n 0, 1) := by decide +kernel
theorem dX10_calm_95 : decode cX10_calm 95 = .ok (.getfield 7, 3) := by decide +kernel
theorem dX10_calm_98 : decode cX10_calm 98 = .ok (.iconst 0, 1) := by decide +kernel
theorem dX10_calm_99 : decode cX10_calm 99 = .ok (.iaload, 1) := by decide +kernel
theorem dX10_calm_100 : decode cX10_calm 100 = .ok (.iload 6, 2) := by decide +kernel
theorem dX10_calm_102 : decode cX10_calm 102 = .ok (.isub, 1) := by decide +kernel
theorem dX10_calm_103 : decode cX10_calm 103 = .ok (.iconst 1, 1) := by decide +kernel
theorem dX10_calm_104 : decode cX10_calm 104 = .ok (.iadd, 1) := by decide +kernel
theorem dX10_calm_105 : decode cX10_calm 105 = .ok (.istore 5, 2) := by decide +kernel
theorem dX10_calm_107 : decode cX10_calm 107 = .ok (.aload_n 0, 1) := by decide +kernel
theorem dX10_calm_108 : decode cX10_calm 108 = .ok (.invokevirtual 400, 3) := by decide +kernel
theorem dX10_calm_111 : decode cX10_calm 111 = .ok (.iinc 7 1, 3) := by decide +kernel
theorem dX10_calm_114 : decode cX10_calm 114 = .ok (.goto (-62), 3) := by decide +kernel
theorem dX10_calm_117 : decode cX10_calm 117 = .ok (.aload_n 0, 1) := by decide +kernel
theorem dX10_calm_118 : decode cX10_calm 118 = .ok (.invokevirtual 422, 3) := by decide +kernel
theorem dX10_calm_121 : decode cX10_calm 121 = .ok (.iload_n 3, 1) := by decide +kernel
theorem dX10_calm_122 : decode cX10_calm 122 = .ok (.ifCond .ne 8, 3) := by decide +kernel
theorem dX10_calm_125 : decode cX10_calm 125 = .ok (.iload 4, 2) := by decide +kernel
theorem dX10_calm_127 : decode cX10_calm 127 = .ok (.goto 5, 3) := by decide +kernel
theorem dX10_calm_130 : decode cX10_calm 130 = .ok (.iload 5, 2) := by decide +kernel
theorem dX10_calm_132 : decode cX10_calm 132 = .ok (.ireturn, 1) := by decide +kernel
def M_calm (s : ST) (x1 : Int32) (x2 : Int32) (x3 : Int32) : Option (Int32 × ST) := Lt (ups s 0 0 (0 : Int32)) fun s1 => Lt (M_isCell s1 x1) fun y1 => if y1 = 0 then (some ((-1 : Int32), s1)) else (Lt (M_isIn s1 x2 (1 : Int32) (60 : Int32)) fun y2 => if y2 = 0 then (some ((-1 : Int32), s1)) else (Lt (M_isIn s1 x3 (0 : Int32) (1 : Int32)) fun y3 => if y3 = 0 then (some ((-1 : Int32), s1)) else (Bd (M_thinks s1) fun s2 => lpK5 (C := Int32 × ST) (fun (rec1 : Int32 → Int32 → Int32 → Int32 → ST → Option (Int32 × ST)) (a1 : Int32) (a2 : Int32) (a3 : Int32) (a4 : Int32) (s3 : ST) => if x2 ≤ a4 then (Bd (M_endsThought s3) fun s4 => if x3 = 0 then (some (a1, s4)) else (some (a2, s4))) else (Bd (M_goesIn s3 (1 : Int32)) fun y4 => Bd (M_stormOf y4.2 x1) fun y5 => Lt (fun (a5 : Int32) => (Lt (fun (a6 : Int32) (a7 : Int32) => (Bd (M_goesOut y4.2) fun s5 => rec1 a6 a7 a5 (a4 + (1 : Int32)) s5 : Option (Int32 × ST))) fun j2 => if a5 ≤ a1 then (j2 a1 a2) else (Lt (y4.2.1 1 0) fun y6 => Lt (((y6 - a5) + (1 : Int32))) fun y7 => j2 a5 y7) : Option (Int32 × ST))) fun j1 => if y5 = (-1 : Int32) then (j1 (a3 + (1 : Int32))) else (j1 (0 : Int32)))) FU (0 : Int32) (-1 : Int32) (0 : Int32) (0 : Int32) s2)))
set_option maxRecDepth 100000 in
set_option maxHeartbeats 4000000 in
theorem k_calm (l : Launch) (D : va_G) (cA : ClassId) (h : Nat → Nat) (s : ST) (x1 : Int32) (x2 : Int32) (x3 : Int32) {o : Int32 × ST} (hs : M_calm s x1 x2 x3 = some o) : MI l (KM D cA h) 9 yX10_calm cX10_calm 8 (some .int) s [.ref (h 0), .int x1, .int x2, .int x3] o.1 o.2 := by
  refine met_i (by decide) (Nat.le_of_ble_eq_true rfl) ?_
  intro p e st m args below meth c Q X RI
  unfold M_calm at hs
  refine g_aload_n X dX10_calm_0 (q := 1) rfl 0 rfl ?_
  refine g_iconst X dX10_calm_1 (q := 2) rfl li_i0 ?_
  refine mp_0 X dX10_calm_2 (q := 5) rfl hs (fun s1 hs => ?_)
  refine g_aload_n X dX10_calm_5 (q := 6) rfl 0 rfl ?_
  refine g_iload_n X dX10_calm_6 (q := 7) rfl 1 rfl ?_
  refine v_isCell X dX10_calm_7 (q := 10) rfl (Nat.le_of_ble_eq_true rfl) (Nat.le_of_ble_eq_true rfl) (Nat.le_of_ble_eq_true rfl) hs (fun y1 hs => ?_)
  refine g_if_eq X dX10_calm_10 (q := 13) rfl (tgt := 34) (by decide) hs ?_ ?_
  · intro hs
    refine g_iconst X dX10_calm_34 (q := 35) rfl li_im1 ?_
    exact RI _ 35 _ _ _ (rU1 hs) rfl (rV1 hs) dX10_calm_35
  · intro hs
    refine g_aload_n X dX10_calm_13 (q := 14) rfl 0 rfl ?_
    refine g_iload_n X dX10_calm_14 (q := 15) rfl 2 rfl ?_
    refine g_iconst X dX10_calm_15 (q := 16) rfl li_i1 ?_
    refine g_bipush X dX10_calm_16 (q := 18) rfl li_b60 ?_
    refine v_isIn X dX10_calm_18 (q := 21) rfl (Nat.le_of_ble_eq_true rfl) (Nat.le_of_ble_eq_true rfl) (Nat.le_of_ble_eq_true rfl) hs (fun y2 hs => ?_)
    refine g_if_eq X dX10_calm_21 (q := 24) rfl (tgt := 34) (by decide) hs ?_ ?_
    · intro hs
      refine g_iconst X dX10_calm_34 (q := 35) rfl li_im1 ?_
      exact RI _ 35 _ _ _ (rU1 hs) rfl (rV1 hs) dX10_calm_35
    · intro hs
      refine g_aload_n X dX10_calm_24 (q := 25) rfl 0 rfl ?_
      refine g_iload_n X dX10_calm_25 (q := 26) rfl 3 rfl ?_
      refine g_iconst X dX10_calm_26 (q := 27) rfl li_i0 ?_
      refine g_iconst X dX10_calm_27 (q := 28) rfl li_i1 ?_
      refine v_isIn X dX10_calm_28 (q := 31) rfl (Nat.le_of_ble_eq_true rfl) (Nat.le_of_ble_eq_true rfl) (Nat.le_of_ble_eq_true rfl) hs (fun y3 hs => ?_)
      refine g_if_ne X dX10_calm_31 (q := 34) rfl (tgt := 36) (by decide) hs ?_ ?_
      · intro hs
        refine g_iconst X dX10_calm_36 (q := 37) rfl li_i0 ?_
        refine g_istore X dX10_calm_37 (q := 39) rfl (Nat.le_of_ble_eq_true rfl) (lv' := [(4, .int (0 : Int32)), (0, .ref (h 0)), (1, .int x1), (2, .int x2), (3, .int x3)]) rfl ?_
        refine g_iconst X dX10_calm_39 (q := 40) rfl li_im1 ?_
        refine g_istore X dX10_calm_40 (q := 42) rfl (Nat.le_of_ble_eq_true rfl) (lv' := [(5, .int (-1 : Int32)), (4, .int (0 : Int32)), (0, .ref (h 0)), (1, .int x1), (2, .int x2), (3, .int x3)]) rfl ?_
        refine g_iconst X dX10_calm_42 (q := 43) rfl li_i0 ?_
        refine g_istore X dX10_calm_43 (q := 45) rfl (Nat.le_of_ble_eq_true rfl) (lv' := [(6, .int (0 : Int32)), (5, .int (-1 : Int32)), (4, .int (0 : Int32)), (0, .ref (h 0)), (1, .int x1), (2, .int x2), (3, .int x3)]) rfl ?_
        refine g_aload_n X dX10_calm_45 (q := 46) rfl 3 rfl ?_
        refine v_thinks X dX10_calm_46 (q := 49) rfl (Nat.le_of_ble_eq_true rfl) (Nat.le_of_ble_eq_true rfl) (Nat.le_of_ble_eq_true rfl) hs (fun s2 hs => ?_)
        refine g_iconst X dX10_calm_49 (q := 50) rfl li_i0 ?_
        refine g_istore X dX10_calm_50 (q := 52) rfl (Nat.le_of_ble_eq_true rfl) (lv' := [(7, .int (0 : Int32)), (6, .int (0 : Int32)), (5, .int (-1 : Int32)), (4, .int (0 : Int32)), (0, .ref (h 0)), (1, .int x1), (2, .int x2), (3, .int x3)]) rfl ?_
        refine wg_sub [4, 5, 6, 7, 3, 2, 1, 0] rfl (lpW5 (fun (a1 : Int32) (a2 : Int32) (a3 : Int32) (a4 : Int32) (s3 : ST) => WG (KM D cA h) p l e (rmD 9) st m args below meth c Q 8 s3 52 [(0, .ref (h 0)), (1, .int x1), (2, .int x2), (3, .int x3), (4, .int a1), (5, .int a2), (6, .int a3), (7, .int a4)] []) (fun rec1 ih1 a1 a2 a3 a4 s3 hs => ?_) _ _ _ _ _ _ hs)
        refine g_iload X dX10_calm_52 (q := 54) rfl 7 rfl ?_
        refine g_iload_n X dX10_calm_54 (q := 55) rfl 2 rfl ?_
        refine g_icmp_ge X dX10_calm_55 (q := 58) rfl (tgt := 117) (by decide) hs ?_ ?_
        · intro hs
          refine g_aload_n X dX10_calm_117 (q := 118) rfl 0 rfl ?_
          refine v_endsThought X dX10_calm_118 (q := 121) rfl (Nat.le_of_ble_eq_true rfl) (Nat.le_of_ble_eq_true rfl) (Nat.le_of_ble_eq_true rfl) hs (fun s4 hs => ?_)
          refine g_iload_n X dX10_calm_121 (q := 122) rfl 3 rfl ?_
          refine g_if_ne X dX10_calm_122 (q := 125) rfl (tgt := 130) (by decide) hs ?_ ?_
          · intro hs
            refine g_iload X dX10_calm_130 (q := 132) rfl 5 rfl ?_
            exact RI _ 132 _ _ _ (rU1 hs) rfl (rV1 hs) dX10_calm_132
          · intro hs
            refine g_iload X dX10_calm_125 (q := 127) rfl 4 rfl ?_
            refine g_goto X dX10_calm_127 (tgt := 132) (by decide) ?_
            exact RI _ 132 _ _ _ (rU1 hs) rfl (rV1 hs) dX10_calm_132
        · intro hs
          refine g_aload_n X dX10_calm_58 (q := 59) rfl 0 rfl ?_
          refine g_iconst X dX10_calm_59 (q := 60) rfl li_i1 ?_
          refine v_goesIn X dX10_calm_60 (q := 63) rfl (Nat.le_of_ble_eq_true rfl) (Nat.le_of_ble_eq_true rfl) (Nat.le_of_ble_eq_true rfl) hs (fun y4 hs => ?_)
          refine g_pop X dX10_calm_63 (q := 64) rfl rfl ?_
          refine g_aload_n X dX10_calm_64 (q := 65) rfl 0 rfl ?_
          refine g_iload_n X dX10_calm_65 (q := 66) rfl 1 rfl ?_
          refine v_stormOf X dX10_calm_66 (q := 69) rfl (Nat.le_of_ble_eq_true rfl) (Nat.le_of_ble_eq_true rfl) (Nat.le_of_ble_eq_true rfl) hs (fun y5 hs => ?_)
          refine g_iconst X dX10_calm_69 (q := 70) rfl li_im1 ?_
          refine jnW1 (fun (a5 : Int32) => WG (KM D cA h) p l e (rmD 9) st m args below meth c Q 8 y4.2 81 [(0, .ref (h 0)), (1, .int x1), (2, .int x2), (3, .int x3), (4, .int a1), (5, .int a2), (7, .int a4)] [.int a5]) hs (fun a5 hs => ?_) (fun j1 ih2 hs => ?_)
          · refine g_istore X dX10_calm_81 (q := 83) rfl (Nat.le_of_ble_eq_true rfl) (lv' := [(6, .int a5), (0, .ref (h 0)), (1, .int x1), (2, .int x2), (3, .int x3), (4, .int a1), (5, .int a2), (7, .int a4)]) rfl ?_
            refine g_iload X dX10_calm_83 (q := 85) rfl 0 rfl ?_
            refine g_iload X dX10_calm_85 (q := 87) rfl 5 rfl ?_
            refine jnW2 (fun (a6 : Int32) (a7 : Int32) => WG (KM D cA h) p l e (rmD 9) st m args below meth c Q 8 y4.2 107 [(0, .ref (h 0)), (1, .int x1), (2, .int x2), (3, .int x3), (4, .int a6), (5, .int a7), (6, .int a5), (7, .int a4)] []) hs (fun a6 a7 hs => ?_) (fun j2 ih3 hs => ?_)
            · refine g_aload_n X dX10_calm_107 (q := 108) rfl 0 rfl ?_
              refine v_goesOut X dX10_calm_108 (q := 111) rfl (Nat.le_of_ble_eq_true rfl) (Nat.le_of_ble_eq_true rfl) (Nat.le_of_ble_eq_true rfl) hs (fun s5 hs => ?_)
              refine g_iinc X dX10_calm_111 (q := 114) rfl 7 rfl (v := (a4 + (1 : Int32))) (congrArg (HAdd.hAdd a4) li_i1) (Nat.le_of_ble_eq_true rfl) (lv' := [(7, .int (a4 + (1 : Int32))), (0, .ref (h 0)), (1, .int x1), (2, .int x2), (3, .int x3), (4, .int a6), (5, .int a7), (6, .int a5)]) rfl ?_
              refine g_goto X dX10_calm_114 (tgt := 52) (by decide) ?_
              exact wg_sub [1, 2, 3, 4, 5, 6, 7, 0] rfl (ih1 _ _ _ _ _ hs)
            refine g_icmp_le X dX10_calm_87 (q := 90) rfl (tgt := 107) (by decide) hs ?_ ?_
            · intro hs
              exact wg_sub [1, 2, 3, 4, 5, 6, 0, 7] rfl (ih3 _ _ hs)
            · intro hs
              refine g_iload X dX10_calm_90 (q := 92) rfl 0 rfl ?_
              refine g_istore X dX10_calm_92 (q := 94) rfl (Nat.le_of_ble_eq_true rfl) (lv' := [(4, .int a5), (6, .int a5), (0, .ref (h 0)), (1, .int x1), (2, .int x2), (3, .int x3), (5, .int a2), (7, .int a4)]) rfl ?_
              refine g_aload_n X dX10_calm_94 (q := 95) rfl 2 rfl ?_
              refine mg_1 X dX10_calm_95 (q := 98) rfl ?_
              refine g_iconst X dX10_calm_98 (q := 99) rfl li_i0 ?_
              refine mk_1 X dX10_calm_99 (q := 100) rfl (j := 0) (by decide) (by decide) hs (fun y6 hs => ?_)
              refine g_iload X dX10_calm_100 (q := 102) rfl 1 rfl ?_
              refine g_isub X dX10_calm_102 (q := 103) rfl ?_
              refine g_iconst X dX10_calm_103 (q := 104) rfl li_i1 ?_
              refine g_iadd X dX10_calm_104 (q := 105) rfl ?_
              refine nmI hs (fun y7 hs => ?_)
              refine g_istore X dX10_calm_105 (q := 107) rfl (Nat.le_of_ble_eq_true rfl) (lv' := [(5, .int y7), (4, .int a5), (6, .int a5), (0, .ref (h 0)), (1, .int x1), (2, .int x2), (3, .int x3), (7, .int a4)]) rfl ?_
              exact wg_sub [3, 4, 5, 6, 1, 0, 2, 7] rfl (ih3 _ _ hs)
          refine g_icmp_ne X dX10_calm_70 (q := 73) rfl (tgt := 80) (by decide) hs ?_ ?_
          · intro hs
            refine g_iconst X dX10_calm_80 (q := 81) rfl li_i0 ?_
            exact wg_sub [0, 1, 2, 3, 4, 5, 7] rfl (ih2 _ hs)
          · intro hs
            refine g_iload X dX10_calm_73 (q := 75) rfl 6 rfl ?_
            refine g_iconst X dX10_calm_75 (q := 76) rfl li_i1 ?_
            refine g_iadd X dX10_calm_76 (q := 77) rfl ?_
            refine g_goto X dX10_calm_77 (tgt := 81) (by decide) ?_
            exact wg_sub [0, 1, 2, 3, 4, 5, 7] rfl (ih2 _ hs)
      · intro hs
        refine g_iconst X dX10_calm_34 (q := 35) rfl li_im1 ?_
        exact RI _ 35 _ _ _ (rU1 hs) rfl (rV1 hs) dX10_calm_35
theorem dX10_goodOf_0 : decode cX10_goodOf 0 = .ok (.ldc_w 467, 3) := by decide +kernel
theorem dX10_goodOf_3 : decode cX10_goodOf 3 = .ok (.istore_n 3, 1) := by decide +kernel
theorem dX10_goodOf_4 : decode cX10_goodOf 4 = .ok (.iconst 0, 1) := by decide +kernel
theorem dX10_goodOf_5 : decode cX10_goodOf 5 = .ok (.istore 4, 2) := by decide +kernel
theorem dX10_goodOf_7 : decode cX10_goodOf 7 = .ok (.iload 4, 2) := by decide +kernel
theorem dX10_goodOf_9 : decode cX10_goodOf 9 = .ok (.iload_n 1, 1) := by decide +kernel
theorem dX10_goodOf_10 : decode cX10_goodOf 10 = .ok (.if_icmp .ge 24, 3) := by decide +kernel
theorem dX10_goodOf_13 : decode cX10_goodOf 13 = .ok (.iload_n 3, 1) := by decide +kernel
theorem dX10_goodOf_14 : decode cX10_goodOf 14 = .ok (.i2l, 1) := by decide +kernel
theorem dX10_goodOf_15 : decode cX10_goodOf 15 = .ok (.sipush 1000, 3) := by decide +kernel
theorem dX10_goodOf_18 : decode cX10_goodOf 18 = .ok (.iload_n 2, 1) := by decide +kernel
theorem dX10_goodOf_19 : decode cX10_goodOf 19 = .ok (.isub, 1) := by decide +kernel
theorem dX10_goodOf_20 : decode cX10_goodOf 20 = .ok (.i2l, 1) := by decide +kernel
theorem dX10_goodOf_21 : decode cX10_goodOf 21 = .ok (.lmul, 1) := by decide +kernel
theorem dX10_goodOf_22 : decode cX10_goodOf 22 = .ok (.ldc2_w 468, 3) := by decide +kernel
theorem dX10_goodOf_25 : decode cX10_goodOf 25 = .ok (.ldiv, 1) := by decide +kernel
theorem dX10_goodOf_26 : decode cX10_goodOf 26 = .ok (.l2i, 1) := by decide +kernel
theorem dX10_goodOf_27 : decode cX10_goodOf 27 = .ok (.istore_n 3, 1) := by decide +kernel
theorem dX10_goodOf_28 : decode cX10_goodOf 28 = .ok (.iinc 4 1, 3) := by decide +kernel
theorem dX10_goodOf_31 : decode cX10_goodOf 31 = .ok (.goto (-24), 3) := by decide +kernel
theorem dX10_goodOf_34 : decode cX10_goodOf 34 = .ok (.iload_n 3, 1) := by decide +kernel
theorem dX10_goodOf_35 : decode cX10_goodOf 35 = .ok (.ireturn, 1) := by decide +kernel
def M_goodOf (s : ST) (x1 : Int32) (x2 : Int32) : Option (Int32) := lpK2 (C := Int32) (fun (rec1 : Int32 → Int32 → Option (Int32)) (a1 : Int32) (a2 : Int32) => if x1 ≤ a2 then (some a1) else (Lt (((a1.toInt64 * ((1000 : Int32) - x2).toInt64) / (1000 : Int64)).toInt32) fun y1 => rec1 y1 (a2 + (1 : Int32)))) FU (1000000 : Int32) (0 : Int32)
set_option maxRecDepth 100000 in
set_option maxHeartbeats 4000000 in
theorem k_goodOf (l : Launch) (D : va_G) (cA : ClassId) (h : Nat → Nat) (s : ST) (x1 : Int32) (x2 : Int32) {o : Int32} (hs : M_goodOf s x1 x2 = some o) : MI l (KM D cA h) 1 yX10_goodOf cX10_goodOf 5 (some .int) s [.ref (h 0), .int x1, .int x2] o s := by
  refine met_i (by decide) (Nat.le_of_ble_eq_true rfl) ?_
  intro p e st m args below meth c Q X RI
  unfold M_goodOf at hs
  refine g_ldc_w X dX10_goodOf_0 (q := 3) rfl kc_X10_467 ?_
  refine g_istore_n X dX10_goodOf_3 (q := 4) rfl (Nat.le_of_ble_eq_true rfl) (lv' := [(3, .int (1000000 : Int32)), (0, .ref (h 0)), (1, .int x1), (2, .int x2)]) rfl ?_
  refine g_iconst X dX10_goodOf_4 (q := 5) rfl li_i0 ?_
  refine g_istore X dX10_goodOf_5 (q := 7) rfl (Nat.le_of_ble_eq_true rfl) (lv' := [(4, .int (0 : Int32)), (3, .int (1000000 : Int32)), (0, .ref (h 0)), (1, .int x1), (2, .int x2)]) rfl ?_
  refine wg_sub [3, 4, 1, 0] rfl (lpW2 (fun (a1 : Int32) (a2 : Int32) => WG (KM D cA h) p l e (rmD 1) st m args below meth c Q 5 s 7 [(1, .int x1), (2, .int x2), (3, .int a1), (4, .int a2)] []) (fun rec1 ih1 a1 a2 hs => ?_) _ _ _ hs)
  refine g_iload X dX10_goodOf_7 (q := 9) rfl 3 rfl ?_
  refine g_iload_n X dX10_goodOf_9 (q := 10) rfl 0 rfl ?_
  refine g_icmp_ge X dX10_goodOf_10 (q := 13) rfl (tgt := 34) (by decide) hs ?_ ?_
  · intro hs
    refine g_iload_n X dX10_goodOf_34 (q := 35) rfl 2 rfl ?_
    exact RI _ 35 _ _ _ rfl rfl (Option.some.inj hs) dX10_goodOf_35
  · intro hs
    refine g_iload_n X dX10_goodOf_13 (q := 14) rfl 2 rfl ?_
    refine g_i2l X dX10_goodOf_14 (q := 15) rfl ?_
    refine g_sipush X dX10_goodOf_15 (q := 18) rfl li_s1000 ?_
    refine g_iload_n X dX10_goodOf_18 (q := 19) rfl 1 rfl ?_
    refine g_isub X dX10_goodOf_19 (q := 20) rfl ?_
    refine g_i2l X dX10_goodOf_20 (q := 21) rfl ?_
    refine g_lmul X dX10_goodOf_21 (q := 22) rfl ?_
    refine g_ldc2_w X dX10_goodOf_22 (q := 25) rfl kc_X10_468 ?_
    refine g_ldiv X dX10_goodOf_25 (q := 26) rfl (by decide) ?_
    refine g_l2i X dX10_goodOf_26 (q := 27) rfl ?_
    refine nmI hs (fun y1 hs => ?_)
    refine g_istore_n X dX10_goodOf_27 (q := 28) rfl (Nat.le_of_ble_eq_true rfl) (lv' := [(3, .int y1), (1, .int x1), (2, .int x2), (4, .int a2)]) rfl ?_
    refine g_iinc X dX10_goodOf_28 (q := 31) rfl 3 rfl (v := (a2 + (1 : Int32))) (congrArg (HAdd.hAdd a2) li_i1) (Nat.le_of_ble_eq_true rfl) (lv' := [(4, .int (a2 + (1 : Int32))), (3, .int y1), (1, .int x1), (2, .int x2)]) rfl ?_
    refine g_goto X dX10_goodOf_31 (tgt := 7) (by decide) ?_
    exact wg_sub [2, 3, 1, 0] rfl (ih1 _ _ hs)
theorem v_goodOf {p : Program} {l : Launch} {e : Env} {st : State} {m : MethodId} {args : Array Value} {below : List Frame} {meth : Method} {c : Code} {Q : State → Prop} {nL : Nat} {cc : ByteArray} {s : ST} {pc q : Nat} {lv : List (Nat × Value)} {rest : List Value} {D : va_G} {cA : ClassId} {h : Nat → Nat} {d0 : Nat} (X : Cx (KM D cA h) p st m args meth c cc nL RX10) {x1 : Int32} {x2 : Int32} (d : decode cc pc = .ok (.invokevirtual 470, 3)) (hq : pc + 3 = q) (hd1 : 1 + 1 ≤ d0) (hd2 : 8 + (5 + 11) + 100 * 1 ≤ 100 * d0) (hr : (rest.map fun v => v.category).sum ≤ 8) {B : Type} {f : Int32 → Option B} {r : B} (hs : Bd (M_goodOf s x1 x2) f = some r) (k : ∀ y, f y = some r → WG (KM D cA h) p l e (rmD d0) st m args below meth c Q nL s q lv (.int y :: rest)) : WG (KM D cA h) p l e (rmD d0) st m args below meth c Q nL s pc lv (.int x2 :: .int x1 :: .ref (h 0) :: rest) := by
  obtain ⟨v, hv, hs⟩ := Bd_e hs
  exact cV_I X 0 (n := 2) (k_goodOf l D cA h s x1 x2 hv) gv_X10_goodOf ⟨hd1, hd2⟩ ⟨by decide, by decide, by decide +kernel⟩ (As := [.int x1, .int x2]) rfl hr (Nat.le_of_ble_eq_true rfl) (fs := mF h (s.1 0)) rfl rfl rfl d hq (k _ hs)
theorem dX10_good_0 : decode cX10_good 0 = .ok (.aload_n 0, 1) := by decide +kernel
theorem dX10_good_1 : decode cX10_good 1 = .ok (.iconst 0, 1) := by decide +kernel
theorem dX10_good_2 : decode cX10_good 2 = .ok (.putfield 83, 3) := by decide +kernel
theorem dX10_good_5 : decode cX10_good 5 = .ok (.aload_n 0, 1) := by decide +kernel
theorem dX10_good_6 : decode cX10_good 6 = .ok (.iload_n 1, 1) := by decide +kernel
theorem dX10_good_7 : decode cX10_good 7 = .ok (.iconst 0, 1) := by decide +kernel
theorem dX10_good_8 : decode cX10_good 8 = .ok (.bipush 60, 2) := by decide +kernel
theorem dX10_good_10 : decode cX10_good 10 = .ok (.invokevirtual 111, 3) := by decide +kernel
theorem dX10_good_13 : decode cX10_good 13 = .ok (.ifCond .eq 24, 3) := by decide +kernel
theorem dX10_good_16 : decode cX10_good 16 = .ok (.aload_n 0, 1) := by decide +kernel
theorem dX10_good_17 : decode cX10_good 17 = .ok (.iload_n 2, 1) := by decide +kernel
theorem dX10_good_18 : decode cX10_good 18 = .ok (.iconst 0, 1) := by decide +kernel
theorem dX10_good_19 : decode cX10_good 19 = .ok (.sipush 1000, 3) := by decide +kernel
theorem dX10_good_22 : decode cX10_good 22 = .ok (.invokevirtual 111, 3) := by decide +kernel
theorem dX10_good_25 : decode cX10_good 25 = .ok (.ifCond .eq 12, 3) := by decide +kernel
theorem dX10_good_28 : decode cX10_good 28 = .ok (.aload_n 0, 1) := by decide +kernel
theorem dX10_good_29 : decode cX10_good 29 = .ok (.iload_n 1, 1) := by decide +kernel
theorem dX10_good_30 : decode cX10_good 30 = .ok (.iload_n 2, 1) := by decide +kernel
theorem dX10_good_31 : decode cX10_good 31 = .ok (.invokevirtual 470, 3) := by decide +kernel
theorem dX10_good_34 : decode cX10_good 34 = .ok (.goto 4, 3) := by decide +kernel
theorem dX10_good_37 : decode cX10_good 37 = .ok (.iconst (-1), 1) := by decide +kernel
theorem dX10_good_38 : decode cX10_good 38 = .ok (.ireturn, 1) := by decide +kernel
def M_good (s : ST) (x1 : Int32) (x2 : Int32) : Option (Int32 × ST) := Lt (ups s 0 0 (0 : Int32)) fun s1 => Lt (M_isIn s1 x1 (0 : Int32) (60 : Int32)) fun y1 => if y1 = 0 then (some ((-1 : Int32), s1)) else (Lt (M_isIn s1 x2 (0 : Int32) (1000 : Int32)) fun y2 => if y2 = 0 then (some ((-1 : Int32), s1)) else (Bd (M_goodOf s1 x1 x2) fun y3 => some (y3, s1)))
set_option maxRecDepth 100000 in
set_option maxHeartbeats 4000000 in
theorem k_good (l : Launch) (D : va_G) (cA : ClassId) (h : Nat → Nat) (s : ST) (x1 : Int32) (x2 : Int32) {o : Int32 × ST} (hs : M_good s x1 x2 = some o) : MI l (KM D cA h) 2 yX10_good cX10_good 3 (some .int) s [.ref (h 0), .int x1, .int x2] o.1 o.2 := by
  refine met_i (by decide) (Nat.le_of_ble_eq_true rfl) ?_
  intro p e st m args below meth c Q X RI
  unfold M_good at hs
  refine g_aload_n X dX10_good_0 (q := 1) rfl 0 rfl ?_
  refine g_iconst X dX10_good_1 (q := 2) rfl li_i0 ?_
  refine mp_0 X dX10_good_2 (q := 5) rfl hs (fun s1 hs => ?_)
  refine g_aload_n X dX10_good_5 (q := 6) rfl 0 rfl ?_
  refine g_iload_n X dX10_good_6 (q := 7) rfl 1 rfl ?_
  refine g_iconst X dX10_good_7 (q := 8) rfl li_i0 ?_
  refine g_bipush X dX10_good_8 (q := 10) rfl li_b60 ?_
  refine v_isIn X dX10_good_10 (q := 13) rfl (Nat.le_of_ble_eq_true rfl) (Nat.le_of_ble_eq_true rfl) (Nat.le_of_ble_eq_true rfl) hs (fun y1 hs => ?_)
  refine g_if_eq X dX10_good_13 (q := 16) rfl (tgt := 37) (by decide) hs ?_ ?_
  · intro hs
    refine g_iconst X dX10_good_37 (q := 38) rfl li_im1 ?_
    exact RI _ 38 _ _ _ (rU1 hs) rfl (rV1 hs) dX10_good_38
  · intro hs
    refine g_aload_n X dX10_good_16 (q := 17) rfl 0 rfl ?_
    refine g_iload_n X dX10_good_17 (q := 18) rfl 2 rfl ?_
    refine g_iconst X dX10_good_18 (q := 19) rfl li_i0 ?_
    refine g_sipush X dX10_good_19 (q := 22) rfl li_s1000 ?_
    refine v_isIn X dX10_good_22 (q := 25) rfl (Nat.le_of_ble_eq_true rfl) (Nat.le_of_ble_eq_true rfl) (Nat.le_of_ble_eq_true rfl) hs (fun y2 hs => ?_)
    refine g_if_eq X dX10_good_25 (q := 28) rfl (tgt := 37) (by decide) hs ?_ ?_
    · intro hs
      refine g_iconst X dX10_good_37 (q := 38) rfl li_im1 ?_
      exact RI _ 38 _ _ _ (rU1 hs) rfl (rV1 hs) dX10_good_38
    · intro hs
      refine g_aload_n X dX10_good_28 (q := 29) rfl 0 rfl ?_
      refine g_iload_n X dX10_good_29 (q := 30) rfl 1 rfl ?_
      refine g_iload_n X dX10_good_30 (q := 31) rfl 2 rfl ?_
      refine v_goodOf X dX10_good_31 (q := 34) rfl (Nat.le_of_ble_eq_true rfl) (Nat.le_of_ble_eq_true rfl) (Nat.le_of_ble_eq_true rfl) hs (fun y3 hs => ?_)
      refine g_goto X dX10_good_34 (tgt := 38) (by decide) ?_
      exact RI _ 38 _ _ _ (rU1 hs) rfl (rV1 hs) dX10_good_38
theorem dX10_open_0 : decode cX10_open 0 = .ok (.aload_n 0, 1) := by decide +kernel
theorem dX10_open_1 : decode cX10_open 1 = .ok (.iconst 0, 1) := by decide +kernel
theorem dX10_open_2 : decode cX10_open 2 = .ok (.putfield 83, 3) := by decide +kernel
theorem dX10_open_5 : decode cX10_open 5 = .ok (.aload_n 0, 1) := by decide +kernel
theorem dX10_open_6 : decode cX10_open 6 = .ok (.iload_n 1, 1) := by decide +kernel
theorem dX10_open_7 : decode cX10_open 7 = .ok (.iconst 0, 1) := by decide +kernel
theorem dX10_open_8 : decode cX10_open 8 = .ok (.sipush 1000, 3) := by decide +kernel
theorem dX10_open_11 : decode cX10_open 11 = .ok (.invokevirtual 111, 3) := by decide +kernel
theorem dX10_open_14 : decode cX10_open 14 = .ok (.ifCond .eq 14, 3) := by decide +kernel
theorem dX10_open_17 : decode cX10_open 17 = .ok (.aload_n 0, 1) := by decide +kernel
theorem dX10_open_18 : decode cX10_open 18 = .ok (.iload_n 2, 1) := by decide +kernel
theorem dX10_open_19 : decode cX10_open 19 = .ok (.iconst 0, 1) := by decide +kernel
theorem dX10_open_20 : decode cX10_open 20 = .ok (.bipush 99, 2) := by decide +kernel
theorem dX10_open_22 : decode cX10_open 22 = .ok (.invokevirtual 111, 3) := by decide +kernel
theorem dX10_open_25 : decode cX10_open 25 = .ok (.ifCond .ne 5, 3) := by decide +kernel
theorem dX10_open_28 : decode cX10_open 28 = .ok (.iconst (-1), 1) := by decide +kernel
theorem dX10_open_29 : decode cX10_open 29 = .ok (.ireturn, 1) := by decide +kernel
theorem dX10_open_30 : decode cX10_open 30 = .ok (.iconst 0, 1) := by decide +kernel
theorem dX10_open_31 : decode cX10_open 31 = .ok (.istore_n 3, 1) := by decide +kernel
theorem dX10_open_32 : decode cX10_open 32 = .ok (.ldc2_w 410, 3) := by decide +kernel
theorem dX10_open_35 : decode cX10_open 35 = .ok (.lstore 4, 2) := by decide +kernel
theorem dX10_open_37 : decode cX10_open 37 = .ok (.iconst 0, 1) := by decide +kernel
theorem dX10_open_38 : decode cX10_open 38 = .ok (.istore 6, 2) := by decide +kernel
theorem dX10_open_40 : decode cX10_open 40 = .ok (.iload 6, 2) := by decide +kernel
theorem dX10_open_42 : decode cX10_open 42 = .ok (.bipush 60, 2) := by decide +kernel
theorem dX10_open_44 : decode cX10_open 44 = .ok (.if_icmp .gt 64, 3) := by decide +kernel
theorem dX10_open_47 : decode cX10_open 47 = .ok (.aload_n 0, 1) := by decide +kernel
theorem dX10_open_48 : decode cX10_open 48 = .ok (.iload 6, 2) := by decide +kernel
theorem dX10_open_50 : decode cX10_open 50 = .ok (.iload_n 1, 1) := by decide +kernel
theorem dX10_open_51 : decode cX10_open 51 = .ok (.invokevirtual 470, 3) := by decide +kernel
theorem dX10_open_54 : decode cX10_open 54 = .ok (.i2l, 1) := by decide +kernel
theorem dX10_open_55 : decode cX10_open 55 = .ok (.bipush 100, 2) := by decide +kernel
theorem dX10_open_57 : decode cX10_open 57 = .ok (.iload_n 2, 1) := by decide +kernel
theorem dX10_open_58 : decode cX10_open 58 = .ok (.iload 6, 2) := by decide +kernel
theorem dX10_open_60 : decode cX10_open 60 = .ok (.imul, 1) := by decide +kernel
theorem dX10_open_61 : decode cX10_open 61 = .ok (.iadd, 1) := by decide +kernel
theorem dX10_open_62 : decode cX10_open 62 = .ok (.i2l, 1) := by decide +kernel
theorem dX10_open_63 : decode cX10_open 63 = .ok (.lmul, 1) := by decide +kernel
theorem dX10_open_64 : decode cX10_open 64 = .ok (.ldc2_w 473, 3) := by decide +kernel
theorem dX10_open_67 : decode cX10_open 67 = .ok (.ldiv, 1) := by decide +kernel
theorem dX10_open_68 : decode cX10_open 68 = .ok (.lstore 7, 2) := by decide +kernel
theorem dX10_open_70 : decode cX10_open 70 = .ok (.lload 7, 2) := by decide +kernel
theorem dX10_open_72 : decode cX10_open 72 = .ok (.lload 4, 2) := by decide +kernel
theorem dX10_open_74 : decode cX10_open 74 = .ok (.lcmp, 1) := by decide +kernel
theorem dX10_open_75 : decode cX10_open 75 = .ok (.ifCond .le 8, 3) := by decide +kernel
theorem dX10_open_78 : decode cX10_open 78 = .ok (.iload 6, 2) := by decide +kernel
theorem dX10_open_80 : decode cX10_open 80 = .ok (.goto 4, 3) := by decide +kernel
theorem dX10_open_83 : decode cX10_open 83 = .ok (.iload_n 3, 1) := by decide +kernel
theorem dX10_open_84 : decode cX10_open 84 = .ok (.istore_n 3, 1) := by decide +kernel
theorem dX10_open_85 : decode cX10_open 85 = .ok (.lload 7, 2) := by decide +kernel
theorem dX10_open_87 : decode cX10_open 87 = .ok (.lload 4, 2) := by decide +kernel
theorem dX10_open_89 : decode cX10_open 89 = .ok (.lcmp, 1) := by decide +kernel
theorem dX10_open_90 : decode cX10_open 90 = .ok (.ifCond .le 8, 3) := by decide +kernel
theorem dX10_open_93 : decode cX10_open 93 = .ok (.lload 7, 2) := by decide +kernel
theorem dX10_open_95 : decode cX10_open 95 = .ok (.goto 5, 3) := by decide +kernel
theorem dX10_open_98 : decode cX10_open 98 = .ok (.lload 4, 2) := by decide +kernel
theorem dX10_open_100 : decode cX10_open 100 = .ok (.lstore 4, 2) := by decide +kernel
theorem dX10_open_102 : decode cX10_open 102 = .ok (.iinc 6 1, 3) := by decide +kernel
theorem dX10_open_105 : decode cX10_open 105 = .ok (.goto (-65), 3) := by decide +kernel
theorem dX10_open_108 : decode cX10_open 108 = .ok (.iload_n 3, 1) := by decide +kernel
theorem dX10_open_109 : decode cX10_open 109 = .ok (.ireturn, 1) := by decide +kernel
def M_open (s : ST) (x1 : Int32) (x2 : Int32) : Option (Int32 × ST) := Lt (ups s 0 0 (0 : Int32)) fun s1 => Lt (M_isIn s1 x1 (0 : Int32) (1000 : Int32)) fun y1 => if y1 = 0 then (some ((-1 : Int32), s1)) else (Lt (M_isIn s1 x2 (0 : Int32) (99 : Int32)) fun y2 => if y2 = 0 then (some ((-1 : Int32), s1)) else (lpK3 (C := Int32 × ST) (fun (rec1 : Int32 → Int64 → Int32 → Option (Int32 × ST)) (a1 : Int32) (a2 : Int64) (a3 : Int32) => if (60 : Int32) < a3 then (some (a1, s1)) else (Bd (M_goodOf s1 a3 x1) fun y3 => Lt (((y3.toInt64 * ((100 : Int32) + (x2 * a3)).toInt64) / (100 : Int64))) fun y4 => Lt (fun (a4 : Int32) => (Lt (fun (a5 : Int64) => (rec1 a4 a5 (a3 + (1 : Int32)) : Option (Int32 × ST))) fun j2 => if (lg_cmp y4 a2) ≤ 0 then (j2 a2) else (j2 y4) : Option (Int32 × ST))) fun j1 => if (lg_cmp y4 a2) ≤ 0 then (j1 a1) else (j1 a3))) FU (0 : Int32) (-1 : Int64) (0 : Int32)))
set_option maxRecDepth 100000 in
set_option maxHeartbeats 4000000 in
theorem k_open (l : Launch) (D : va_G) (cA : ClassId) (h : Nat → Nat) (s : ST) (x1 : Int32) (x2 : Int32) {o : Int32 × ST} (hs : M_open s x1 x2 = some o) : MI l (KM D cA h) 2 yX10_open cX10_open 9 (some .int) s [.ref (h 0), .int x1, .int x2] o.1 o.2 := by
  refine met_i (by decide) (Nat.le_of_ble_eq_true rfl) ?_
  intro p e st m args below meth c Q X RI
  unfold M_open at hs
  refine g_aload_n X dX10_open_0 (q := 1) rfl 0 rfl ?_
  refine g_iconst X dX10_open_1 (q := 2) rfl li_i0 ?_
  refine mp_0 X dX10_open_2 (q := 5) rfl hs (fun s1 hs => ?_)
  refine g_aload_n X dX10_open_5 (q := 6) rfl 0 rfl ?_
  refine g_iload_n X dX10_open_6 (q := 7) rfl 1 rfl ?_
  refine g_iconst X dX10_open_7 (q := 8) rfl li_i0 ?_
  refine g_sipush X dX10_open_8 (q := 11) rfl li_s1000 ?_
  refine v_isIn X dX10_open_11 (q := 14) rfl (Nat.le_of_ble_eq_true rfl) (Nat.le_of_ble_eq_true rfl) (Nat.le_of_ble_eq_true rfl) hs (fun y1 hs => ?_)
  refine g_if_eq X dX10_open_14 (q := 17) rfl (tgt := 28) (by decide) hs ?_ ?_
  · intro hs
    refine g_iconst X dX10_open_28 (q := 29) rfl li_im1 ?_
    exact RI _ 29 _ _ _ (rU1 hs) rfl (rV1 hs) dX10_open_29
  · intro hs
    refine g_aload_n X dX10_open_17 (q := 18) rfl 0 rfl ?_
    refine g_iload_n X dX10_open_18 (q := 19) rfl 2 rfl ?_
    refine g_iconst X dX10_open_19 (q := 20) rfl li_i0 ?_
    refine g_bipush X dX10_open_20 (q := 22) rfl li_b99 ?_
    refine v_isIn X dX10_open_22 (q := 25) rfl (Nat.le_of_ble_eq_true rfl) (Nat.le_of_ble_eq_true rfl) (Nat.le_of_ble_eq_true rfl) hs (fun y2 hs => ?_)
    refine g_if_ne X dX10_open_25 (q := 28) rfl (tgt := 30) (by decide) hs ?_ ?_
    · intro hs
      refine g_iconst X dX10_open_30 (q := 31) rfl li_i0 ?_
      refine g_istore_n X dX10_open_31 (q := 32) rfl (Nat.le_of_ble_eq_true rfl) (lv' := [(3, .int (0 : Int32)), (0, .ref (h 0)), (1, .int x1), (2, .int x2)]) rfl ?_
      refine g_ldc2_w X dX10_open_32 (q := 35) rfl kc_X10_410 ?_
      refine g_lstore X dX10_open_35 (q := 37) rfl (Nat.le_of_ble_eq_true rfl) (lv' := [(4, .long (-1 : Int64)), (3, .int (0 : Int32)), (0, .ref (h 0)), (1, .int x1), (2, .int x2)]) rfl ?_
      refine g_iconst X dX10_open_37 (q := 38) rfl li_i0 ?_
      refine g_istore X dX10_open_38 (q := 40) rfl (Nat.le_of_ble_eq_true rfl) (lv' := [(6, .int (0 : Int32)), (4, .long (-1 : Int64)), (3, .int (0 : Int32)), (0, .ref (h 0)), (1, .int x1), (2, .int x2)]) rfl ?_
      refine wg_sub [3, 4, 5, 2, 1, 0] rfl (lpW3 (fun (a1 : Int32) (a2 : Int64) (a3 : Int32) => WG (KM D cA h) p l e (rmD 2) st m args below meth c Q 9 s1 40 [(0, .ref (h 0)), (1, .int x1), (2, .int x2), (3, .int a1), (4, .long a2), (6, .int a3)] []) (fun rec1 ih1 a1 a2 a3 hs => ?_) _ _ _ _ hs)
      refine g_iload X dX10_open_40 (q := 42) rfl 5 rfl ?_
      refine g_bipush X dX10_open_42 (q := 44) rfl li_b60 ?_
      refine g_icmp_gt X dX10_open_44 (q := 47) rfl (tgt := 108) (by decide) hs ?_ ?_
      · intro hs
        refine g_iload_n X dX10_open_108 (q := 109) rfl 3 rfl ?_
        exact RI _ 109 _ _ _ (rU1 hs) rfl (rV1 hs) dX10_open_109
      · intro hs
        refine g_aload_n X dX10_open_47 (q := 48) rfl 0 rfl ?_
        refine g_iload X dX10_open_48 (q := 50) rfl 5 rfl ?_
        refine g_iload_n X dX10_open_50 (q := 51) rfl 1 rfl ?_
        refine v_goodOf X dX10_open_51 (q := 54) rfl (Nat.le_of_ble_eq_true rfl) (Nat.le_of_ble_eq_true rfl) (Nat.le_of_ble_eq_true rfl) hs (fun y3 hs => ?_)
        refine g_i2l X dX10_open_54 (q := 55) rfl ?_
        refine g_bipush X dX10_open_55 (q := 57) rfl li_b100 ?_
        refine g_iload_n X dX10_open_57 (q := 58) rfl 2 rfl ?_
        refine g_iload X dX10_open_58 (q := 60) rfl 5 rfl ?_
        refine g_imul X dX10_open_60 (q := 61) rfl ?_
        refine g_iadd X dX10_open_61 (q := 62) rfl ?_
        refine g_i2l X dX10_open_62 (q := 63) rfl ?_
        refine g_lmul X dX10_open_63 (q := 64) rfl ?_
        refine g_ldc2_w X dX10_open_64 (q := 67) rfl kc_X10_473 ?_
        refine g_ldiv X dX10_open_67 (q := 68) rfl (by decide) ?_
        refine nmL hs (fun y4 hs => ?_)
        refine g_lstore X dX10_open_68 (q := 70) rfl (Nat.le_of_ble_eq_true rfl) (lv' := [(7, .long y4), (0, .ref (h 0)), (1, .int x1), (2, .int x2), (3, .int a1), (4, .long a2), (6, .int a3)]) rfl ?_
        refine g_lload X dX10_open_70 (q := 72) rfl 0 rfl ?_
        refine g_lload X dX10_open_72 (q := 74) rfl 5 rfl ?_
        refine g_lcmp X dX10_open_74 (q := 75) rfl ?_
        refine jnW1 (fun (a4 : Int32) => WG (KM D cA h) p l e (rmD 2) st m args below meth c Q 9 s1 84 [(0, .ref (h 0)), (1, .int x1), (2, .int x2), (4, .long a2), (6, .int a3), (7, .long y4)] [.int a4]) hs (fun a4 hs => ?_) (fun j1 ih2 hs => ?_)
        · refine g_istore_n X dX10_open_84 (q := 85) rfl (Nat.le_of_ble_eq_true rfl) (lv' := [(3, .int a4), (0, .ref (h 0)), (1, .int x1), (2, .int x2), (4, .long a2), (6, .int a3), (7, .long y4)]) rfl ?_
          refine g_lload X dX10_open_85 (q := 87) rfl 6 rfl ?_
          refine g_lload X dX10_open_87 (q := 89) rfl 4 rfl ?_
          refine g_lcmp X dX10_open_89 (q := 90) rfl ?_
          refine jnW1 (fun (a5 : Int64) => WG (KM D cA h) p l e (rmD 2) st m args below meth c Q 9 s1 100 [(0, .ref (h 0)), (1, .int x1), (2, .int x2), (3, .int a4), (6, .int a3)] [.long a5]) hs (fun a5 hs => ?_) (fun j2 ih3 hs => ?_)
          · refine g_lstore X dX10_open_100 (q := 102) rfl (Nat.le_of_ble_eq_true rfl) (lv' := [(4, .long a5), (0, .ref (h 0)), (1, .int x1), (2, .int x2), (3, .int a4), (6, .int a3)]) rfl ?_
            refine g_iinc X dX10_open_102 (q := 105) rfl 5 rfl (v := (a3 + (1 : Int32))) (congrArg (HAdd.hAdd a3) li_i1) (Nat.le_of_ble_eq_true rfl) (lv' := [(6, .int (a3 + (1 : Int32))), (4, .long a5), (0, .ref (h 0)), (1, .int x1), (2, .int x2), (3, .int a4)]) rfl ?_
            refine g_goto X dX10_open_105 (tgt := 40) (by decide) ?_
            exact wg_sub [2, 3, 4, 5, 1, 0] rfl (ih1 _ _ _ hs)
          refine g_if_le X dX10_open_90 (q := 93) rfl (tgt := 98) (by decide) hs ?_ ?_
          · intro hs
            refine g_lload X dX10_open_98 (q := 100) rfl 4 rfl ?_
            exact wg_sub [1, 2, 3, 0, 5] rfl (ih3 _ hs)
          · intro hs
            refine g_lload X dX10_open_93 (q := 95) rfl 6 rfl ?_
            refine g_goto X dX10_open_95 (tgt := 100) (by decide) ?_
            exact wg_sub [1, 2, 3, 0, 5] rfl (ih3 _ hs)
        refine g_if_le X dX10_open_75 (q := 78) rfl (tgt := 83) (by decide) hs ?_ ?_
        · intro hs
          refine g_iload_n X dX10_open_83 (q := 84) rfl 4 rfl ?_
          exact wg_sub [1, 2, 3, 5, 6, 0] rfl (ih2 _ hs)
        · intro hs
          refine g_iload X dX10_open_78 (q := 80) rfl 6 rfl ?_
          refine g_goto X dX10_open_80 (tgt := 84) (by decide) ?_
          exact wg_sub [1, 2, 3, 5, 6, 0] rfl (ih2 _ hs)
    · intro hs
      refine g_iconst X dX10_open_28 (q := 29) rfl li_im1 ?_
      exact RI _ 29 _ _ _ (rU1 hs) rfl (rV1 hs) dX10_open_29
theorem dX10_heapOf_0 : decode cX10_heapOf 0 = .ok (.iconst 0, 1) := by decide +kernel
theorem dX10_heapOf_1 : decode cX10_heapOf 1 = .ok (.istore_n 2, 1) := by decide +kernel
theorem dX10_heapOf_2 : decode cX10_heapOf 2 = .ok (.iconst 0, 1) := by decide +kernel
theorem dX10_heapOf_3 : decode cX10_heapOf 3 = .ok (.istore_n 3, 1) := by decide +kernel
theorem dX10_heapOf_4 : decode cX10_heapOf 4 = .ok (.iload_n 3, 1) := by decide +kernel
theorem dX10_heapOf_5 : decode cX10_heapOf 5 = .ok (.aload_n 0, 1) := by decide +kernel
theorem dX10_heapOf_6 : decode cX10_heapOf 6 = .ok (.invokevirtual 104, 3) := by decide +kernel
theorem dX10_heapOf_9 : decode cX10_heapOf 9 = .ok (.if_icmp .ge 27, 3) := by decide +kernel
theorem dX10_heapOf_12 : decode cX10_heapOf 12 = .ok (.aload_n 0, 1) := by decide +kernel
theorem dX10_heapOf_13 : decode cX10_heapOf 13 = .ok (.bipush 8, 2) := by decide +kernel
theorem dX10_heapOf_15 : decode cX10_heapOf 15 = .ok (.iload_n 1, 1) := by decide +kernel
theorem dX10_heapOf_16 : decode cX10_heapOf 16 = .ok (.imul, 1) := by decide +kernel
theorem dX10_heapOf_17 : decode cX10_heapOf 17 = .ok (.iload_n 3, 1) := by decide +kernel
theorem dX10_heapOf_18 : decode cX10_heapOf 18 = .ok (.iadd, 1) := by decide +kernel
theorem dX10_heapOf_19 : decode cX10_heapOf 19 = .ok (.invokevirtual 134, 3) := by decide +kernel
theorem dX10_heapOf_22 : decode cX10_heapOf 22 = .ok (.iconst (-1), 1) := by decide +kernel
theorem dX10_heapOf_23 : decode cX10_heapOf 23 = .ok (.if_icmp .eq 7, 3) := by decide +kernel
theorem dX10_heapOf_26 : decode cX10_heapOf 26 = .ok (.iload_n 2, 1) := by decide +kernel
theorem dX10_heapOf_27 : decode cX10_heapOf 27 = .ok (.iconst 1, 1) := by decide +kernel
theorem dX10_heapOf_28 : decode cX10_heapOf 28 = .ok (.iadd, 1) := by decide +kernel
theorem dX10_heapOf_29 : decode cX10_heapOf 29 = .ok (.istore_n 2, 1) := by decide +kernel
theorem dX10_heapOf_30 : decode cX10_heapOf 30 = .ok (.iinc 3 1, 3) := by decide +kernel
theorem dX10_heapOf_33 : decode cX10_heapOf 33 = .ok (.goto (-29), 3) := by decide +kernel
theorem dX10_heapOf_36 : decode cX10_heapOf 36 = .ok (.iload_n 2, 1) := by decide +kernel
theorem dX10_heapOf_37 : decode cX10_heapOf 37 = .ok (.ireturn, 1) := by decide +kernel
def M_heapOf (s : ST) (x1 : Int32) : Option (Int32) := lpK2 (C := Int32) (fun (rec1 : Int32 → Int32 → Option (Int32)) (a1 : Int32) (a2 : Int32) => Lt (M_wide s) fun y1 => if y1 ≤ a2 then (some a1) else (Bd (M_seedOf s (((8 : Int32) * x1) + a2)) fun y2 => Lt (fun (a3 : Int32) => (rec1 a3 (a2 + (1 : Int32)) : Option (Int32))) fun j1 => if y2 = (-1 : Int32) then (j1 a1) else (Lt ((a1 + (1 : Int32))) fun y3 => j1 y3))) FU (0 : Int32) (0 : Int32)
set_option maxRecDepth 100000 in
set_option maxHeartbeats 4000000 in
theorem k_heapOf (l : Launch) (D : va_G) (cA : ClassId) (h : Nat → Nat) (s : ST) (x1 : Int32) {o : Int32} (hs : M_heapOf s x1 = some o) : MI l (KM D cA h) 2 yX10_heapOf cX10_heapOf 4 (some .int) s [.ref (h 0), .int x1] o s := by
  refine met_i (by decide) (Nat.le_of_ble_eq_true rfl) ?_
  intro p e st m args below meth c Q X RI
  unfold M_heapOf at hs
  refine g_iconst X dX10_heapOf_0 (q := 1) rfl li_i0 ?_
  refine g_istore_n X dX10_heapOf_1 (q := 2) rfl (Nat.le_of_ble_eq_true rfl) (lv' := [(2, .int (0 : Int32)), (0, .ref (h 0)), (1, .int x1)]) rfl ?_
  refine g_iconst X dX10_heapOf_2 (q := 3) rfl li_i0 ?_
  refine g_istore_n X dX10_heapOf_3 (q := 4) rfl (Nat.le_of_ble_eq_true rfl) (lv' := [(3, .int (0 : Int32)), (2, .int (0 : Int32)), (0, .ref (h 0)), (1, .int x1)]) rfl ?_
  refine wg_sub [2, 3, 1, 0] rfl (lpW2 (fun (a1 : Int32) (a2 : Int32) => WG (KM D cA h) p l e (rmD 2) st m args below meth c Q 4 s 4 [(0, .ref (h 0)), (1, .int x1), (2, .int a1), (3, .int a2)] []) (fun rec1 ih1 a1 a2 hs => ?_) _ _ _ hs)
  refine g_iload_n X dX10_heapOf_4 (q := 5) rfl 3 rfl ?_
  refine g_aload_n X dX10_heapOf_5 (q := 6) rfl 0 rfl ?_
  refine v_wide X dX10_heapOf_6 (q := 9) rfl (Nat.le_of_ble_eq_true rfl) (Nat.le_of_ble_eq_true rfl) (Nat.le_of_ble_eq_true rfl) hs (fun y1 hs => ?_)
  refine g_icmp_ge X dX10_heapOf_9 (q := 12) rfl (tgt := 36) (by decide) hs ?_ ?_
  · intro hs
    refine g_iload_n X dX10_heapOf_36 (q := 37) rfl 2 rfl ?_
    exact RI _ 37 _ _ _ rfl rfl (Option.some.inj hs) dX10_heapOf_37
  · intro hs
    refine g_aload_n X dX10_heapOf_12 (q := 13) rfl 0 rfl ?_
    refine g_bipush X dX10_heapOf_13 (q := 15) rfl li_b8 ?_
    refine g_iload_n X dX10_heapOf_15 (q := 16) rfl 1 rfl ?_
    refine g_imul X dX10_heapOf_16 (q := 17) rfl ?_
    refine g_iload_n X dX10_heapOf_17 (q := 18) rfl 3 rfl ?_
    refine g_iadd X dX10_heapOf_18 (q := 19) rfl ?_
    refine v_seedOf X dX10_heapOf_19 (q := 22) rfl (Nat.le_of_ble_eq_true rfl) (Nat.le_of_ble_eq_true rfl) (Nat.le_of_ble_eq_true rfl) hs (fun y2 hs => ?_)
    refine g_iconst X dX10_heapOf_22 (q := 23) rfl li_im1 ?_
    refine jnW1 (fun (a3 : Int32) => WG (KM D cA h) p l e (rmD 2) st m args below meth c Q 4 s 30 [(0, .ref (h 0)), (1, .int x1), (2, .int a3), (3, .int a2)] []) hs (fun a3 hs => ?_) (fun j1 ih2 hs => ?_)
    · refine g_iinc X dX10_heapOf_30 (q := 33) rfl 3 rfl (v := (a2 + (1 : Int32))) (congrArg (HAdd.hAdd a2) li_i1) (Nat.le_of_ble_eq_true rfl) (lv' := [(3, .int (a2 + (1 : Int32))), (0, .ref (h 0)), (1, .int x1), (2, .int a3)]) rfl ?_
      refine g_goto X dX10_heapOf_33 (tgt := 4) (by decide) ?_
      exact wg_sub [1, 2, 3, 0] rfl (ih1 _ _ hs)
    refine g_icmp_eq X dX10_heapOf_23 (q := 26) rfl (tgt := 30) (by decide) hs ?_ ?_
    · intro hs
      exact wg_sub [0, 1, 2, 3] rfl (ih2 _ hs)
    · intro hs
      refine g_iload_n X dX10_heapOf_26 (q := 27) rfl 2 rfl ?_
      refine g_iconst X dX10_heapOf_27 (q := 28) rfl li_i1 ?_
      refine g_iadd X dX10_heapOf_28 (q := 29) rfl ?_
      refine nmI hs (fun y3 hs => ?_)
      refine g_istore_n X dX10_heapOf_29 (q := 30) rfl (Nat.le_of_ble_eq_true rfl) (lv' := [(2, .int y3), (0, .ref (h 0)), (1, .int x1), (3, .int a2)]) rfl ?_
      exact wg_sub [1, 2, 0, 3] rfl (ih2 _ hs)
theorem v_heapOf {p : Program} {l : Launch} {e : Env} {st : State} {m : MethodId} {args : Array Value} {below : List Frame} {meth : Method} {c : Code} {Q : State → Prop} {nL : Nat} {cc : ByteArray} {s : ST} {pc q : Nat} {lv : List (Nat × Value)} {rest : List Value} {D : va_G} {cA : ClassId} {h : Nat → Nat} {d0 : Nat} (X : Cx (KM D cA h) p st m args meth c cc nL RX10) {x1 : Int32} (d : decode cc pc = .ok (.invokevirtual 475, 3)) (hq : pc + 3 = q) (hd1 : 2 + 1 ≤ d0) (hd2 : 8 + (4 + 11) + 100 * 2 ≤ 100 * d0) (hr : (rest.map fun v => v.category).sum ≤ 8) {B : Type} {f : Int32 → Option B} {r : B} (hs : Bd (M_heapOf s x1) f = some r) (k : ∀ y, f y = some r → WG (KM D cA h) p l e (rmD d0) st m args below meth c Q nL s q lv (.int y :: rest)) : WG (KM D cA h) p l e (rmD d0) st m args below meth c Q nL s pc lv (.int x1 :: .ref (h 0) :: rest) := by
  obtain ⟨v, hv, hs⟩ := Bd_e hs
  exact cV_I X 0 (n := 1) (k_heapOf l D cA h s x1 hv) gv_X10_heapOf ⟨hd1, hd2⟩ ⟨by decide, by decide, by decide +kernel⟩ (As := [.int x1]) rfl hr (Nat.le_of_ble_eq_true rfl) (fs := mF h (s.1 0)) rfl rfl rfl d hq (k _ hs)
theorem dX10_game_0 : decode cX10_game 0 = .ok (.aload_n 0, 1) := by decide +kernel
theorem dX10_game_1 : decode cX10_game 1 = .ok (.iconst 0, 1) := by decide +kernel
theorem dX10_game_2 : decode cX10_game 2 = .ok (.putfield 83, 3) := by decide +kernel
theorem dX10_game_5 : decode cX10_game 5 = .ok (.aload_n 0, 1) := by decide +kernel
theorem dX10_game_6 : decode cX10_game 6 = .ok (.iload_n 1, 1) := by decide +kernel
theorem dX10_game_7 : decode cX10_game 7 = .ok (.iconst 0, 1) := by decide +kernel
theorem dX10_game_8 : decode cX10_game 8 = .ok (.iconst 1, 1) := by decide +kernel
theorem dX10_game_9 : decode cX10_game 9 = .ok (.invokevirtual 111, 3) := by decide +kernel
theorem dX10_game_12 : decode cX10_game 12 = .ok (.ifCond .ne 5, 3) := by decide +kernel
theorem dX10_game_15 : decode cX10_game 15 = .ok (.iconst (-1), 1) := by decide +kernel
theorem dX10_game_16 : decode cX10_game 16 = .ok (.ireturn, 1) := by decide +kernel
theorem dX10_game_17 : decode cX10_game 17 = .ok (.iconst 0, 1) := by decide +kernel
theorem dX10_game_18 : decode cX10_game 18 = .ok (.istore_n 2, 1) := by decide +kernel
theorem dX10_game_19 : decode cX10_game 19 = .ok (.iconst 0, 1) := by decide +kernel
theorem dX10_game_20 : decode cX10_game 20 = .ok (.istore_n 3, 1) := by decide +kernel
theorem dX10_game_21 : decode cX10_game 21 = .ok (.iload_n 3, 1) := by decide +kernel
theorem dX10_game_22 : decode cX10_game 22 = .ok (.aload_n 0, 1) := by decide +kernel
theorem dX10_game_23 : decode cX10_game 23 = .ok (.invokevirtual 108, 3) := by decide +kernel
theorem dX10_game_26 : decode cX10_game 26 = .ok (.if_icmp .ge 17, 3) := by decide +kernel
theorem dX10_game_29 : decode cX10_game 29 = .ok (.iload_n 2, 1) := by decide +kernel
theorem dX10_game_30 : decode cX10_game 30 = .ok (.aload_n 0, 1) := by decide +kernel
theorem dX10_game_31 : decode cX10_game 31 = .ok (.iload_n 3, 1) := by decide +kernel
theorem dX10_game_32 : decode cX10_game 32 = .ok (.invokevirtual 475, 3) := by decide +kernel
theorem dX10_game_35 : decode cX10_game 35 = .ok (.ixor, 1) := by decide +kernel
theorem dX10_game_36 : decode cX10_game 36 = .ok (.istore_n 2, 1) := by decide +kernel
theorem dX10_game_37 : decode cX10_game 37 = .ok (.iinc 3 1, 3) := by decide +kernel
theorem dX10_game_40 : decode cX10_game 40 = .ok (.goto (-19), 3) := by decide +kernel
theorem dX10_game_43 : decode cX10_game 43 = .ok (.iconst 0, 1) := by decide +kernel
theorem dX10_game_44 : decode cX10_game 44 = .ok (.istore_n 3, 1) := by decide +kernel
theorem dX10_game_45 : decode cX10_game 45 = .ok (.iload_n 3, 1) := by decide +kernel
theorem dX10_game_46 : decode cX10_game 46 = .ok (.aload_n 0, 1) := by decide +kernel
theorem dX10_game_47 : decode cX10_game 47 = .ok (.invokevirtual 108, 3) := by decide +kernel
theorem dX10_game_50 : decode cX10_game 50 = .ok (.if_icmp .ge 40, 3) := by decide +kernel
theorem dX10_game_53 : decode cX10_game 53 = .ok (.aload_n 0, 1) := by decide +kernel
theorem dX10_game_54 : decode cX10_game 54 = .ok (.iload_n 3, 1) := by decide +kernel
theorem dX10_game_55 : decode cX10_game 55 = .ok (.invokevirtual 475, 3) := by decide +kernel
theorem dX10_game_58 : decode cX10_game 58 = .ok (.iload_n 2, 1) := by decide +kernel
theorem dX10_game_59 : decode cX10_game 59 = .ok (.ixor, 1) := by decide +kernel
theorem dX10_game_60 : decode cX10_game 60 = .ok (.aload_n 0, 1) := by decide +kernel
theorem dX10_game_61 : decode cX10_game 61 = .ok (.iload_n 3, 1) := by decide +kernel
theorem dX10_game_62 : decode cX10_game 62 = .ok (.invokevirtual 475, 3) := by decide +kernel
theorem dX10_game_65 : decode cX10_game 65 = .ok (.if_icmp .ge 19, 3) := by decide +kernel
theorem dX10_game_68 : decode cX10_game 68 = .ok (.iload_n 1, 1) := by decide +kernel
theorem dX10_game_69 : decode cX10_game 69 = .ok (.ifCond .ne 7, 3) := by decide +kernel
theorem dX10_game_72 : decode cX10_game 72 = .ok (.iload_n 3, 1) := by decide +kernel
theorem dX10_game_73 : decode cX10_game 73 = .ok (.goto 10, 3) := by decide +kernel
theorem dX10_game_76 : decode cX10_game 76 = .ok (.aload_n 0, 1) := by decide +kernel
theorem dX10_game_77 : decode cX10_game 77 = .ok (.iload_n 3, 1) := by decide +kernel
theorem dX10_game_78 : decode cX10_game 78 = .ok (.invokevirtual 475, 3) := by decide +kernel
theorem dX10_game_81 : decode cX10_game 81 = .ok (.iload_n 2, 1) := by decide +kernel
theorem dX10_game_82 : decode cX10_game 82 = .ok (.ixor, 1) := by decide +kernel
theorem dX10_game_83 : decode cX10_game 83 = .ok (.ireturn, 1) := by decide +kernel
theorem dX10_game_84 : decode cX10_game 84 = .ok (.iinc 3 1, 3) := by decide +kernel
theorem dX10_game_87 : decode cX10_game 87 = .ok (.goto (-42), 3) := by decide +kernel
theorem dX10_game_90 : decode cX10_game 90 = .ok (.iconst (-1), 1) := by decide +kernel
theorem dX10_game_91 : decode cX10_game 91 = .ok (.ireturn, 1) := by decide +kernel
def M_game (s : ST) (x1 : Int32) : Option (Int32 × ST) := Lt (ups s 0 0 (0 : Int32)) fun s1 => Lt (M_isIn s1 x1 (0 : Int32) (1 : Int32)) fun y1 => if y1 = 0 then (some ((-1 : Int32), s1)) else (lpK2 (C := Int32 × ST) (fun (rec1 : Int32 → Int32 → Option (Int32 × ST)) (a1 : Int32) (a2 : Int32) => Lt (M_high s1) fun y2 => if y2 ≤ a2 then (lpK1 (C := Int32 × ST) (fun (rec2 : Int32 → Option (Int32 × ST)) (a3 : Int32) => Lt (M_high s1) fun y3 => if y3 ≤ a3 then (some ((-1 : Int32), s1)) else (Bd (M_heapOf s1 a3) fun y4 => Bd (M_heapOf s1 a3) fun y5 => if y5 ≤ (y4 ^^^ a1) then (rec2 (a3 + (1 : Int32))) else (if x1 = 0 then (some (a3, s1)) else (Bd (M_heapOf s1 a3) fun y6 => some ((y6 ^^^ a1), s1))))) FU (0 : Int32)) else (Bd (M_heapOf s1 a2) fun y7 => Lt ((a1 ^^^ y7)) fun y8 => rec1 y8 (a2 + (1 : Int32)))) FU (0 : Int32) (0 : Int32))
set_option maxRecDepth 100000 in
set_option maxHeartbeats 4000000 in
theorem k_game (l : Launch) (D : va_G) (cA : ClassId) (h : Nat → Nat) (s : ST) (x1 : Int32) {o : Int32 × ST} (hs : M_game s x1 = some o) : MI l (KM D cA h) 3 yX10_game cX10_game 4 (some .int) s [.ref (h 0), .int x1] o.1 o.2 := by
  refine met_i (by decide) (Nat.le_of_ble_eq_true rfl) ?_
  intro p e st m args below meth c Q X RI
  unfold M_game at hs
  refine g_aload_n X dX10_game_0 (q := 1) rfl 0 rfl ?_
  refine g_iconst X dX10_game_1 (q := 2) rfl li_i0 ?_
  refine mp_0 X dX10_game_2 (q := 5) rfl hs (fun s1 hs => ?_)
  refine g_aload_n X dX10_game_5 (q := 6) rfl 0 rfl ?_
  refine g_iload_n X dX10_game_6 (q := 7) rfl 1 rfl ?_
  refine g_iconst X dX10_game_7 (q := 8) rfl li_i0 ?_
  refine g_iconst X dX10_game_8 (q := 9) rfl li_i1 ?_
  refine v_isIn X dX10_game_9 (q := 12) rfl (Nat.le_of_ble_eq_true rfl) (Nat.le_of_ble_eq_true rfl) (Nat.le_of_ble_eq_true rfl) hs (fun y1 hs => ?_)
  refine g_if_ne X dX10_game_12 (q := 15) rfl (tgt := 17) (by decide) hs ?_ ?_
  · intro hs
    refine g_iconst X dX10_game_17 (q := 18) rfl li_i0 ?_
    refine g_istore_n X dX10_game_18 (q := 19) rfl (Nat.le_of_ble_eq_true rfl) (lv' := [(2, .int (0 : Int32)), (0, .ref (h 0)), (1, .int x1)]) rfl ?_
    refine g_iconst X dX10_game_19 (q := 20) rfl li_i0 ?_
    refine g_istore_n X dX10_game_20 (q := 21) rfl (Nat.le_of_ble_eq_true rfl) (lv' := [(3, .int (0 : Int32)), (2, .int (0 : Int32)), (0, .ref (h 0)), (1, .int x1)]) rfl ?_
    refine wg_sub [2, 3, 1, 0] rfl (lpW2 (fun (a1 : Int32) (a2 : Int32) => WG (KM D cA h) p l e (rmD 3) st m args below meth c Q 4 s1 21 [(0, .ref (h 0)), (1, .int x1), (2, .int a1), (3, .int a2)] []) (fun rec1 ih1 a1 a2 hs => ?_) _ _ _ hs)
    refine g_iload_n X dX10_game_21 (q := 22) rfl 3 rfl ?_
    refine g_aload_n X dX10_game_22 (q := 23) rfl 0 rfl ?_
    refine v_high X dX10_game_23 (q := 26) rfl (Nat.le_of_ble_eq_true rfl) (Nat.le_of_ble_eq_true rfl) (Nat.le_of_ble_eq_true rfl) hs (fun y2 hs => ?_)
    refine g_icmp_ge X dX10_game_26 (q := 29) rfl (tgt := 43) (by decide) hs ?_ ?_
    · intro hs
      refine g_iconst X dX10_game_43 (q := 44) rfl li_i0 ?_
      refine g_istore_n X dX10_game_44 (q := 45) rfl (Nat.le_of_ble_eq_true rfl) (lv' := [(3, .int (0 : Int32)), (0, .ref (h 0)), (1, .int x1), (2, .int a1)]) rfl ?_
      refine wg_sub [1, 2, 3, 0] rfl (lpW1 (fun (a3 : Int32) => WG (KM D cA h) p l e (rmD 3) st m args below meth c Q 4 s1 45 [(0, .ref (h 0)), (1, .int x1), (2, .int a1), (3, .int a3)] []) (fun rec2 ih2 a3 hs => ?_) _ _ hs)
      refine g_iload_n X dX10_game_45 (q := 46) rfl 3 rfl ?_
      refine g_aload_n X dX10_game_46 (q := 47) rfl 0 rfl ?_
      refine v_high X dX10_game_47 (q := 50) rfl (Nat.le_of_ble_eq_true rfl) (Nat.le_of_ble_eq_true rfl) (Nat.le_of_ble_eq_true rfl) hs (fun y3 hs => ?_)
      refine g_icmp_ge X dX10_game_50 (q := 53) rfl (tgt := 90) (by decide) hs ?_ ?_
      · intro hs
        refine g_iconst X dX10_game_90 (q := 91) rfl li_im1 ?_
        exact RI _ 91 _ _ _ (rU1 hs) rfl (rV1 hs) dX10_game_91
      · intro hs
        refine g_aload_n X dX10_game_53 (q := 54) rfl 0 rfl ?_
        refine g_iload_n X dX10_game_54 (q := 55) rfl 3 rfl ?_
        refine v_heapOf X dX10_game_55 (q := 58) rfl (Nat.le_of_ble_eq_true rfl) (Nat.le_of_ble_eq_true rfl) (Nat.le_of_ble_eq_true rfl) hs (fun y4 hs => ?_)
        refine g_iload_n X dX10_game_58 (q := 59) rfl 2 rfl ?_
        refine g_ixor X dX10_game_59 (q := 60) rfl ?_
        refine g_aload_n X dX10_game_60 (q := 61) rfl 0 rfl ?_
        refine g_iload_n X dX10_game_61 (q := 62) rfl 3 rfl ?_
        refine v_heapOf X dX10_game_62 (q := 65) rfl (Nat.le_of_ble_eq_true rfl) (Nat.le_of_ble_eq_true rfl) (Nat.le_of_ble_eq_true rfl) hs (fun y5 hs => ?_)
        refine g_icmp_ge X dX10_game_65 (q := 68) rfl (tgt := 84) (by decide) hs ?_ ?_
        · intro hs
          refine g_iinc X dX10_game_84 (q := 87) rfl 3 rfl (v := (a3 + (1 : Int32))) (congrArg (HAdd.hAdd a3) li_i1) (Nat.le_of_ble_eq_true rfl) (lv' := [(3, .int (a3 + (1 : Int32))), (0, .ref (h 0)), (1, .int x1), (2, .int a1)]) rfl ?_
          refine g_goto X dX10_game_87 (tgt := 45) (by decide) ?_
          exact wg_sub [1, 2, 3, 0] rfl (ih2 _ hs)
        · intro hs
          refine g_iload_n X dX10_game_68 (q := 69) rfl 1 rfl ?_
          refine g_if_ne X dX10_game_69 (q := 72) rfl (tgt := 76) (by decide) hs ?_ ?_
          · intro hs
            refine g_aload_n X dX10_game_76 (q := 77) rfl 0 rfl ?_
            refine g_iload_n X dX10_game_77 (q := 78) rfl 3 rfl ?_
            refine v_heapOf X dX10_game_78 (q := 81) rfl (Nat.le_of_ble_eq_true rfl) (Nat.le_of_ble_eq_true rfl) (Nat.le_of_ble_eq_true rfl) hs (fun y6 hs => ?_)
            refine g_iload_n X dX10_game_81 (q := 82) rfl 2 rfl ?_
            refine g_ixor X dX10_game_82 (q := 83) rfl ?_
            exact RI _ 83 _ _ _ (rU1 hs) rfl (rV1 hs) dX10_game_83
          · intro hs
            refine g_iload_n X dX10_game_72 (q := 73) rfl 3 rfl ?_
            refine g_goto X dX10_game_73 (tgt := 83) (by decide) ?_
            exact RI _ 83 _ _ _ (rU1 hs) rfl (rV1 hs) dX10_game_83
    · intro hs
      refine g_iload_n X dX10_game_29 (q := 30) rfl 2 rfl ?_
      refine g_aload_n X dX10_game_30 (q := 31) rfl 0 rfl ?_
      refine g_iload_n X dX10_game_31 (q := 32) rfl 3 rfl ?_
      refine v_heapOf X dX10_game_32 (q := 35) rfl (Nat.le_of_ble_eq_true rfl) (Nat.le_of_ble_eq_true rfl) (Nat.le_of_ble_eq_true rfl) hs (fun y7 hs => ?_)
      refine g_ixor X dX10_game_35 (q := 36) rfl ?_
      refine nmI hs (fun y8 hs => ?_)
      refine g_istore_n X dX10_game_36 (q := 37) rfl (Nat.le_of_ble_eq_true rfl) (lv' := [(2, .int y8), (0, .ref (h 0)), (1, .int x1), (3, .int a2)]) rfl ?_
      refine g_iinc X dX10_game_37 (q := 40) rfl 3 rfl (v := (a2 + (1 : Int32))) (congrArg (HAdd.hAdd a2) li_i1) (Nat.le_of_ble_eq_true rfl) (lv' := [(3, .int (a2 + (1 : Int32))), (2, .int y8), (0, .ref (h 0)), (1, .int x1)]) rfl ?_
      refine g_goto X dX10_game_40 (tgt := 21) (by decide) ?_
      exact wg_sub [2, 3, 1, 0] rfl (ih1 _ _ hs)
  · intro hs
    refine g_iconst X dX10_game_15 (q := 16) rfl li_im1 ?_
    exact RI _ 16 _ _ _ (rU1 hs) rfl (rV1 hs) dX10_game_16
theorem dX10_keeps_0 : decode cX10_keeps 0 = .ok (.aload_n 0, 1) := by decide +kernel
theorem dX10_keeps_1 : decode cX10_keeps 1 = .ok (.aload_n 0, 1) := by decide +kernel
theorem dX10_keeps_2 : decode cX10_keeps 2 = .ok (.getfield 478, 3) := by decide +kernel
theorem dX10_keeps_5 : decode cX10_keeps 5 = .ok (.iconst 1, 1) := by decide +kernel
theorem dX10_keeps_6 : decode cX10_keeps 6 = .ok (.iadd, 1) := by decide +kernel
theorem dX10_keeps_7 : decode cX10_keeps 7 = .ok (.putfield 478, 3) := by decide +kernel
theorem dX10_keeps_10 : decode cX10_keeps 10 = .ok (.aload_n 0, 1) := by decide +kernel
theorem dX10_keeps_11 : decode cX10_keeps 11 = .ok (.getfield 481, 3) := by decide +kernel
theorem dX10_keeps_14 : decode cX10_keeps 14 = .ok (.ifCond .ne 15, 3) := by decide +kernel
theorem dX10_keeps_17 : decode cX10_keeps 17 = .ok (.aload_n 0, 1) := by decide +kernel
theorem dX10_keeps_18 : decode cX10_keeps 18 = .ok (.getfield 80, 3) := by decide +kernel
theorem dX10_keeps_21 : decode cX10_keeps 21 = .ok (.aload_n 0, 1) := by decide +kernel
theorem dX10_keeps_22 : decode cX10_keeps 22 = .ok (.getfield 478, 3) := by decide +kernel
theorem dX10_keeps_25 : decode cX10_keeps 25 = .ok (.iconst 1, 1) := by decide +kernel
theorem dX10_keeps_26 : decode cX10_keeps 26 = .ok (.isub, 1) := by decide +kernel
theorem dX10_keeps_27 : decode cX10_keeps 27 = .ok (.iaload, 1) := by decide +kernel
theorem dX10_keeps_28 : decode cX10_keeps 28 = .ok (.ireturn, 1) := by decide +kernel
theorem dX10_keeps_29 : decode cX10_keeps 29 = .ok (.aload_n 0, 1) := by decide +kernel
theorem dX10_keeps_30 : decode cX10_keeps 30 = .ok (.getfield 80, 3) := by decide +kernel
theorem dX10_keeps_33 : decode cX10_keeps 33 = .ok (.aload_n 0, 1) := by decide +kernel
theorem dX10_keeps_34 : decode cX10_keeps 34 = .ok (.getfield 478, 3) := by decide +kernel
theorem dX10_keeps_37 : decode cX10_keeps 37 = .ok (.iconst 1, 1) := by decide +kernel
theorem dX10_keeps_38 : decode cX10_keeps 38 = .ok (.isub, 1) := by decide +kernel
theorem dX10_keeps_39 : decode cX10_keeps 39 = .ok (.iload_n 1, 1) := by decide +kernel
theorem dX10_keeps_40 : decode cX10_keeps 40 = .ok (.iastore, 1) := by decide +kernel
theorem dX10_keeps_41 : decode cX10_keeps 41 = .ok (.iload_n 1, 1) := by decide +kernel
theorem dX10_keeps_42 : decode cX10_keeps 42 = .ok (.ireturn, 1) := by decide +kernel
def M_keeps (s : ST) (x1 : Int32) : Option (Int32 × ST) := Lt (ups s 0 52 ((s.1 0 52) + (1 : Int32))) fun s1 => if (s1.1 0 50) = 0 then (Gl s1 23 2300 ((s1.1 0 52) - (1 : Int32)) fun y1 => some (y1, s1)) else (Gs s1 23 2300 ((s1.1 0 52) - (1 : Int32)) x1 fun s2 => some (x1, s2))
set_option maxRecDepth 100000 in
set_option maxHeartbeats 4000000 in
theorem k_keeps (l : Launch) (D : va_G) (cA : ClassId) (h : Nat → Nat) (s : ST) (x1 : Int32) {o : Int32 × ST} (hs : M_keeps s x1 = some o) : MI l (KM D cA h) 1 yX10_keeps cX10_keeps 2 (some .int) s [.ref (h 0), .int x1] o.1 o.2 := by
  refine met_i (by decide) (Nat.le_of_ble_eq_true rfl) ?_
  intro p e st m args below meth c Q X RI
  unfold M_keeps at hs
  refine g_aload_n X dX10_keeps_0 (q := 1) rfl 0 rfl ?_
  refine g_aload_n X dX10_keeps_1 (q := 2) rfl 0 rfl ?_
  refine mg_52 X dX10_keeps_2 (q := 5) rfl ?_
  refine g_iconst X dX10_keeps_5 (q := 6) rfl li_i1 ?_
  refine g_iadd X dX10_keeps_6 (q := 7) rfl ?_
  refine mp_52 X dX10_keeps_7 (q := 10) rfl hs (fun s1 hs => ?_)
  refine g_aload_n X dX10_keeps_10 (q := 11) rfl 0 rfl ?_
  refine mg_50 X dX10_keeps_11 (q := 14) rfl ?_
  refine g_if_ne X dX10_keeps_14 (q := 17) rfl (tgt := 29) (by decide) hs ?_ ?_
  · intro hs
    refine g_aload_n X dX10_keeps_29 (q := 30) rfl 0 rfl ?_
    refine mg_53 X dX10_keeps_30 (q := 33) rfl ?_
    refine g_aload_n X dX10_keeps_33 (q := 34) rfl 0 rfl ?_
    refine mg_52 X dX10_keeps_34 (q := 37) rfl ?_
    refine g_iconst X dX10_keeps_37 (q := 38) rfl li_i1 ?_
    refine g_isub X dX10_keeps_38 (q := 39) rfl ?_
    refine g_iload_n X dX10_keeps_39 (q := 40) rfl 1 rfl ?_
    refine ms_23 X dX10_keeps_40 (q := 41) rfl hs (fun s2 hs => ?_)
    refine g_iload_n X dX10_keeps_41 (q := 42) rfl 1 rfl ?_
    exact RI _ 42 _ _ _ (rU1 hs) rfl (rV1 hs) dX10_keeps_42
  · intro hs
    refine g_aload_n X dX10_keeps_17 (q := 18) rfl 0 rfl ?_
    refine mg_53 X dX10_keeps_18 (q := 21) rfl ?_
    refine g_aload_n X dX10_keeps_21 (q := 22) rfl 0 rfl ?_
    refine mg_52 X dX10_keeps_22 (q := 25) rfl ?_
    refine g_iconst X dX10_keeps_25 (q := 26) rfl li_i1 ?_
    refine g_isub X dX10_keeps_26 (q := 27) rfl ?_
    refine ma_23 X dX10_keeps_27 (q := 28) rfl hs (fun y1 hs => ?_)
    exact RI _ 28 _ _ _ (rU1 hs) rfl (rV1 hs) dX10_keeps_28
theorem v_keeps {p : Program} {l : Launch} {e : Env} {st : State} {m : MethodId} {args : Array Value} {below : List Frame} {meth : Method} {c : Code} {Q : State → Prop} {nL : Nat} {cc : ByteArray} {s : ST} {pc q : Nat} {lv : List (Nat × Value)} {rest : List Value} {D : va_G} {cA : ClassId} {h : Nat → Nat} {d0 : Nat} (X : Cx (KM D cA h) p st m args meth c cc nL RX10) {x1 : Int32} (d : decode cc pc = .ok (.invokevirtual 484, 3)) (hq : pc + 3 = q) (hd1 : 1 + 1 ≤ d0) (hd2 : 8 + (2 + 11) + 100 * 1 ≤ 100 * d0) (hr : (rest.map fun v => v.category).sum ≤ 8) {B : Type} {f : Int32 × ST → Option B} {r : B} (hs : Bd (M_keeps s x1) f = some r) (k : ∀ y, f y = some r → WG (KM D cA h) p l e (rmD d0) st m args below meth c Q nL y.2 q lv (.int y.1 :: rest)) : WG (KM D cA h) p l e (rmD d0) st m args below meth c Q nL s pc lv (.int x1 :: .ref (h 0) :: rest) := by
  obtain ⟨v, hv, hs⟩ := Bd_e hs
  exact cV_I X 0 (n := 1) (k_keeps l D cA h s x1 hv) gv_X10_keeps ⟨hd1, hd2⟩ ⟨by decide, by decide, by decide +kernel⟩ (As := [.int x1]) rfl hr (Nat.le_of_ble_eq_true rfl) (fs := mF h (s.1 0)) rfl rfl rfl d hq (k _ hs)
theorem dX10_keepsLaw_0 : decode cX10_keepsLaw 0 = .ok (.aload_n 0, 1) := by decide +kernel
theorem dX10_keepsLaw_1 : decode cX10_keepsLaw 1 = .ok (.getfield 31, 3) := by decide +kernel
theorem dX10_keepsLaw_4 : decode cX10_keepsLaw 4 = .ok (.iconst 1, 1) := by decide +kernel
theorem dX10_keepsLaw_5 : decode cX10_keepsLaw 5 = .ok (.aload_n 0, 1) := by decide +kernel
theorem dX10_keepsLaw_6 : decode cX10_keepsLaw 6 = .ok (.aload_n 0, 1) := by decide +kernel
theorem dX10_keepsLaw_7 : decode cX10_keepsLaw 7 = .ok (.getfield 31, 3) := by decide +kernel
theorem dX10_keepsLaw_10 : decode cX10_keepsLaw 10 = .ok (.iconst 1, 1) := by decide +kernel
theorem dX10_keepsLaw_11 : decode cX10_keepsLaw 11 = .ok (.iaload, 1) := by decide +kernel
theorem dX10_keepsLaw_12 : decode cX10_keepsLaw 12 = .ok (.invokevirtual 484, 3) := by decide +kernel
theorem dX10_keepsLaw_15 : decode cX10_keepsLaw 15 = .ok (.iastore, 1) := by decide +kernel
theorem dX10_keepsLaw_16 : decode cX10_keepsLaw 16 = .ok (.bipush 16, 2) := by decide +kernel
theorem dX10_keepsLaw_18 : decode cX10_keepsLaw 18 = .ok (.istore_n 1, 1) := by decide +kernel
theorem dX10_keepsLaw_19 : decode cX10_keepsLaw 19 = .ok (.iload_n 1, 1) := by decide +kernel
theorem dX10_keepsLaw_20 : decode cX10_keepsLaw 20 = .ok (.bipush 32, 2) := by decide +kernel
theorem dX10_keepsLaw_22 : decode cX10_keepsLaw 22 = .ok (.if_icmp .ge 73, 3) := by decide +kernel
theorem dX10_keepsLaw_25 : decode cX10_keepsLaw 25 = .ok (.aload_n 0, 1) := by decide +kernel
theorem dX10_keepsLaw_26 : decode cX10_keepsLaw 26 = .ok (.getfield 34, 3) := by decide +kernel
theorem dX10_keepsLaw_29 : decode cX10_keepsLaw 29 = .ok (.iload_n 1, 1) := by decide +kernel
theorem dX10_keepsLaw_30 : decode cX10_keepsLaw 30 = .ok (.aload_n 0, 1) := by decide +kernel
theorem dX10_keepsLaw_31 : decode cX10_keepsLaw 31 = .ok (.aload_n 0, 1) := by decide +kernel
theorem dX10_keepsLaw_32 : decode cX10_keepsLaw 32 = .ok (.getfield 34, 3) := by decide +kernel
theorem dX10_keepsLaw_35 : decode cX10_keepsLaw 35 = .ok (.iload_n 1, 1) := by decide +kernel
theorem dX10_keepsLaw_36 : decode cX10_keepsLaw 36 = .ok (.iaload, 1) := by decide +kernel
theorem dX10_keepsLaw_37 : decode cX10_keepsLaw 37 = .ok (.invokevirtual 484, 3) := by decide +kernel
theorem dX10_keepsLaw_40 : decode cX10_keepsLaw 40 = .ok (.iastore, 1) := by decide +kernel
theorem dX10_keepsLaw_41 : decode cX10_keepsLaw 41 = .ok (.aload_n 0, 1) := by decide +kernel
theorem dX10_keepsLaw_42 : decode cX10_keepsLaw 42 = .ok (.getfield 37, 3) := by decide +kernel
theorem dX10_keepsLaw_45 : decode cX10_keepsLaw 45 = .ok (.iload_n 1, 1) := by decide +kernel
theorem dX10_keepsLaw_46 : decode cX10_keepsLaw 46 = .ok (.aload_n 0, 1) := by decide +kernel
theorem dX10_keepsLaw_47 : decode cX10_keepsLaw 47 = .ok (.aload_n 0, 1) := by decide +kernel
theorem dX10_keepsLaw_48 : decode cX10_keepsLaw 48 = .ok (.getfield 37, 3) := by decide +kernel
theorem dX10_keepsLaw_51 : decode cX10_keepsLaw 51 = .ok (.iload_n 1, 1) := by decide +kernel
theorem dX10_keepsLaw_52 : decode cX10_keepsLaw 52 = .ok (.iaload, 1) := by decide +kernel
theorem dX10_keepsLaw_53 : decode cX10_keepsLaw 53 = .ok (.invokevirtual 484, 3) := by decide +kernel
theorem dX10_keepsLaw_56 : decode cX10_keepsLaw 56 = .ok (.iastore, 1) := by decide +kernel
theorem dX10_keepsLaw_57 : decode cX10_keepsLaw 57 = .ok (.aload_n 0, 1) := by decide +kernel
theorem dX10_keepsLaw_58 : decode cX10_keepsLaw 58 = .ok (.getfield 40, 3) := by decide +kernel
theorem dX10_keepsLaw_61 : decode cX10_keepsLaw 61 = .ok (.iload_n 1, 1) := by decide +kernel
theorem dX10_keepsLaw_62 : decode cX10_keepsLaw 62 = .ok (.aload_n 0, 1) := by decide +kernel
theorem dX10_keepsLaw_63 : decode cX10_keepsLaw 63 = .ok (.aload_n 0, 1) := by decide +kernel
theorem dX10_keepsLaw_64 : decode cX10_keepsLaw 64 = .ok (.getfield 40, 3) := by decide +kernel
theorem dX10_keepsLaw_67 : decode cX10_keepsLaw 67 = .ok (.iload_n 1, 1) := by decide +kernel
theorem dX10_keepsLaw_68 : decode cX10_keepsLaw 68 = .ok (.iaload, 1) := by decide +kernel
theorem dX10_keepsLaw_69 : decode cX10_keepsLaw 69 = .ok (.invokevirtual 484, 3) := by decide +kernel
theorem dX10_keepsLaw_72 : decode cX10_keepsLaw 72 = .ok (.iastore, 1) := by decide +kernel
theorem dX10_keepsLaw_73 : decode cX10_keepsLaw 73 = .ok (.aload_n 0, 1) := by decide +kernel
theorem dX10_keepsLaw_74 : decode cX10_keepsLaw 74 = .ok (.getfield 43, 3) := by decide +kernel
theorem dX10_keepsLaw_77 : decode cX10_keepsLaw 77 = .ok (.iload_n 1, 1) := by decide +kernel
theorem dX10_keepsLaw_78 : decode cX10_keepsLaw 78 = .ok (.aload_n 0, 1) := by decide +kernel
theorem dX10_keepsLaw_79 : decode cX10_keepsLaw 79 = .ok (.aload_n 0, 1) := by decide +kernel
theorem dX10_keepsLaw_80 : decode cX10_keepsLaw 80 = .ok (.getfield 43, 3) := by decide +kernel
theorem dX10_keepsLaw_83 : decode cX10_keepsLaw 83 = .ok (.iload_n 1, 1) := by decide +kernel
theorem dX10_keepsLaw_84 : decode cX10_keepsLaw 84 = .ok (.iaload, 1) := by decide +kernel
theorem dX10_keepsLaw_85 : decode cX10_keepsLaw 85 = .ok (.invokevirtual 484, 3) := by decide +kernel
theorem dX10_keepsLaw_88 : decode cX10_keepsLaw 88 = .ok (.iastore, 1) := by decide +kernel
theorem dX10_keepsLaw_89 : decode cX10_keepsLaw 89 = .ok (.iinc 1 1, 3) := by decide +kernel
theorem dX10_keepsLaw_92 : decode cX10_keepsLaw 92 = .ok (.goto (-73), 3) := by decide +kernel
theorem dX10_keepsLaw_95 : decode cX10_keepsLaw 95 = .ok (.sipush 400, 3) := by decide +kernel
theorem dX10_keepsLaw_98 : decode cX10_keepsLaw 98 = .ok (.istore_n 1, 1) := by decide +kernel
theorem dX10_keepsLaw_99 : decode cX10_keepsLaw 99 = .ok (.iload_n 1, 1) := by decide +kernel
theorem dX10_keepsLaw_100 : decode cX10_keepsLaw 100 = .ok (.sipush 800, 3) := by decide +kernel
theorem dX10_keepsLaw_103 : decode cX10_keepsLaw 103 = .ok (.if_icmp .ge 41, 3) := by decide +kernel
theorem dX10_keepsLaw_106 : decode cX10_keepsLaw 106 = .ok (.aload_n 0, 1) := by decide +kernel
theorem dX10_keepsLaw_107 : decode cX10_keepsLaw 107 = .ok (.getfield 46, 3) := by decide +kernel
theorem dX10_keepsLaw_110 : decode cX10_keepsLaw 110 = .ok (.iload_n 1, 1) := by decide +kernel
theorem dX10_keepsLaw_111 : decode cX10_keepsLaw 111 = .ok (.aload_n 0, 1) := by decide +kernel
theorem dX10_keepsLaw_112 : decode cX10_keepsLaw 112 = .ok (.aload_n 0, 1) := by decide +kernel
theorem dX10_keepsLaw_113 : decode cX10_keepsLaw 113 = .ok (.getfield 46, 3) := by decide +kernel
theorem dX10_keepsLaw_116 : decode cX10_keepsLaw 116 = .ok (.iload_n 1, 1) := by decide +kernel
theorem dX10_keepsLaw_117 : decode cX10_keepsLaw 117 = .ok (.iaload, 1) := by decide +kernel
theorem dX10_keepsLaw_118 : decode cX10_keepsLaw 118 = .ok (.invokevirtual 484, 3) := by decide +kernel
theorem dX10_keepsLaw_121 : decode cX10_keepsLaw 121 = .ok (.iastore, 1) := by decide +kernel
theorem dX10_keepsLaw_122 : decode cX10_keepsLaw 122 = .ok (.aload_n 0, 1) := by decide +kernel
theorem dX10_keepsLaw_123 : decode cX10_keepsLaw 123 = .ok (.getfield 49, 3) := by decide +kernel
theorem dX10_keepsLaw_126 : decode cX10_keepsLaw 126 = .ok (.iload_n 1, 1) := by decide +kernel
theorem dX10_keepsLaw_127 : decode cX10_keepsLaw 127 = .ok (.aload_n 0, 1) := by decide +kernel
theorem dX10_keepsLaw_128 : decode cX10_keepsLaw 128 = .ok (.aload_n 0, 1) := by decide +kernel
theorem dX10_keepsLaw_129 : decode cX10_keepsLaw 129 = .ok (.getfield 49, 3) := by decide +kernel
theorem dX10_keepsLaw_132 : decode cX10_keepsLaw 132 = .ok (.iload_n 1, 1) := by decide +kernel
theorem dX10_keepsLaw_133 : decode cX10_keepsLaw 133 = .ok (.iaload, 1) := by decide +kernel
theorem dX10_keepsLaw_134 : decode cX10_keepsLaw 134 = .ok (.invokevirtual 484, 3) := by decide +kernel
theorem dX10_keepsLaw_137 : decode cX10_keepsLaw 137 = .ok (.iastore, 1) := by decide +kernel
theorem dX10_keepsLaw_138 : decode cX10_keepsLaw 138 = .ok (.iinc 1 1, 3) := by decide +kernel
theorem dX10_keepsLaw_141 : decode cX10_keepsLaw 141 = .ok (.goto (-42), 3) := by decide +kernel
theorem dX10_keepsLaw_144 : decode cX10_keepsLaw 144 = .ok (.return_, 1) := by decide +kernel
def M_keepsLaw (s : ST) : Option (ST) := Lt (s.1 8 1) fun y1 => Bd (M_keeps s y1) fun y2 => Lt (ups y2.2 8 1 y2.1) fun s1 => lpK2 (C := ST) (fun (rec1 : Int32 → ST → Option (ST)) (a1 : Int32) (s2 : ST) => if (32 : Int32) ≤ a1 then (lpK2 (C := ST) (fun (rec2 : Int32 → ST → Option (ST)) (a2 : Int32) (s3 : ST) => if (800 : Int32) ≤ a2 then (some s3) else (Gl s3 13 1200 a2 fun y3 => Bd (M_keeps s3 y3) fun y4 => Gs y4.2 13 1200 a2 y4.1 fun s4 => Gl s4 14 1200 a2 fun y5 => Bd (M_keeps s4 y5) fun y6 => Gs y6.2 14 1200 a2 y6.1 fun s5 => rec2 (a2 + (1 : Int32)) s5)) FU (400 : Int32) s2) else (Gl s2 9 48 a1 fun y7 => Bd (M_keeps s2 y7) fun y8 => Gs y8.2 9 48 a1 y8.1 fun s6 => Gl s6 10 48 a1 fun y9 => Bd (M_keeps s6 y9) fun y10 => Gs y10.2 10 48 a1 y10.1 fun s7 => Gl s7 11 48 a1 fun y11 => Bd (M_keeps s7 y11) fun y12 => Gs y12.2 11 48 a1 y12.1 fun s8 => Gl s8 12 48 a1 fun y13 => Bd (M_keeps s8 y13) fun y14 => Gs y14.2 12 48 a1 y14.1 fun s9 => rec1 (a1 + (1 : Int32)) s9)) FU (16 : Int32) s1
set_option maxRecDepth 100000 in
set_option maxHeartbeats 4000000 in
theorem k_keepsLaw (l : Launch) (D : va_G) (cA : ClassId) (h : Nat → Nat) (s : ST) {o : ST} (hs : M_keepsLaw s = some o) : MV l (KM D cA h) 2 yX10_keepsLaw cX10_keepsLaw 2 none s [.ref (h 0)] o := by
  refine met_v (by decide) (Nat.le_of_ble_eq_true rfl) ?_
  intro p e st m args below meth c Q X RI
  unfold M_keepsLaw at hs
  refine g_aload_n X dX10_keepsLaw_0 (q := 1) rfl 0 rfl ?_
  refine mg_18 X dX10_keepsLaw_1 (q := 4) rfl ?_
  refine g_iconst X dX10_keepsLaw_4 (q := 5) rfl li_i1 ?_
  refine g_aload_n X dX10_keepsLaw_5 (q := 6) rfl 0 rfl ?_
  refine g_aload_n X dX10_keepsLaw_6 (q := 7) rfl 0 rfl ?_
  refine mg_18 X dX10_keepsLaw_7 (q := 10) rfl ?_
  refine g_iconst X dX10_keepsLaw_10 (q := 11) rfl li_i1 ?_
  refine mk_8 X dX10_keepsLaw_11 (q := 12) rfl (j := 1) (by decide) (by decide) hs (fun y1 hs => ?_)
  refine v_keeps X dX10_keepsLaw_12 (q := 15) rfl (Nat.le_of_ble_eq_true rfl) (Nat.le_of_ble_eq_true rfl) (Nat.le_of_ble_eq_true rfl) hs (fun y2 hs => ?_)
  refine msk_8 X dX10_keepsLaw_15 (q := 16) rfl (j := 1) (by decide) (by decide) hs (fun s1 hs => ?_)
  refine g_bipush X dX10_keepsLaw_16 (q := 18) rfl li_b16 ?_
  refine g_istore_n X dX10_keepsLaw_18 (q := 19) rfl (Nat.le_of_ble_eq_true rfl) (lv' := [(1, .int (16 : Int32)), (0, .ref (h 0))]) rfl ?_
  refine wg_sub [1, 0] rfl (lpW2 (fun (a1 : Int32) (s2 : ST) => WG (KM D cA h) p l e (rmD 2) st m args below meth c Q 2 s2 19 [(0, .ref (h 0)), (1, .int a1)] []) (fun rec1 ih1 a1 s2 hs => ?_) _ _ _ hs)
  refine g_iload_n X dX10_keepsLaw_19 (q := 20) rfl 1 rfl ?_
  refine g_bipush X dX10_keepsLaw_20 (q := 22) rfl li_b32 ?_
  refine g_icmp_ge X dX10_keepsLaw_22 (q := 25) rfl (tgt := 95) (by decide) hs ?_ ?_
  · intro hs
    refine g_sipush X dX10_keepsLaw_95 (q := 98) rfl li_s400 ?_
    refine g_istore_n X dX10_keepsLaw_98 (q := 99) rfl (Nat.le_of_ble_eq_true rfl) (lv' := [(1, .int (400 : Int32)), (0, .ref (h 0))]) rfl ?_
    refine wg_sub [1, 0] rfl (lpW2 (fun (a2 : Int32) (s3 : ST) => WG (KM D cA h) p l e (rmD 2) st m args below meth c Q 2 s3 99 [(0, .ref (h 0)), (1, .int a2)] []) (fun rec2 ih2 a2 s3 hs => ?_) _ _ _ hs)
    refine g_iload_n X dX10_keepsLaw_99 (q := 100) rfl 1 rfl ?_
    refine g_sipush X dX10_keepsLaw_100 (q := 103) rfl li_s800 ?_
    refine g_icmp_ge X dX10_keepsLaw_103 (q := 106) rfl (tgt := 144) (by decide) hs ?_ ?_
    · intro hs
      exact RI _ 144 _ (Option.some.inj hs) dX10_keepsLaw_144
    · intro hs
      refine g_aload_n X dX10_keepsLaw_106 (q := 107) rfl 0 rfl ?_
      refine mg_23 X dX10_keepsLaw_107 (q := 110) rfl ?_
      refine g_iload_n X dX10_keepsLaw_110 (q := 111) rfl 1 rfl ?_
      refine g_aload_n X dX10_keepsLaw_111 (q := 112) rfl 0 rfl ?_
      refine g_aload_n X dX10_keepsLaw_112 (q := 113) rfl 0 rfl ?_
      refine mg_23 X dX10_keepsLaw_113 (q := 116) rfl ?_
      refine g_iload_n X dX10_keepsLaw_116 (q := 117) rfl 1 rfl ?_
      refine ma_13 X dX10_keepsLaw_117 (q := 118) rfl hs (fun y3 hs => ?_)
      refine v_keeps X dX10_keepsLaw_118 (q := 121) rfl (Nat.le_of_ble_eq_true rfl) (Nat.le_of_ble_eq_true rfl) (Nat.le_of_ble_eq_true rfl) hs (fun y4 hs => ?_)
      refine ms_13 X dX10_keepsLaw_121 (q := 122) rfl hs (fun s4 hs => ?_)
      refine g_aload_n X dX10_keepsLaw_122 (q := 123) rfl 0 rfl ?_
      refine mg_24 X dX10_keepsLaw_123 (q := 126) rfl ?_
      refine g_iload_n X dX10_keepsLaw_126 (q := 127) rfl 1 rfl ?_
      refine g_aload_n X dX10_keepsLaw_127 (q := 128) rfl 0 rfl ?_
      refine g_aload_n X dX10_keepsLaw_128 (q := 129) rfl 0 rfl ?_
      refine mg_24 X dX10_keepsLaw_129 (q := 132) rfl ?_
      refine g_iload_n X dX10_keepsLaw_132 (q := 133) rfl 1 rfl ?_
      refine ma_14 X dX10_keepsLaw_133 (q := 134) rfl hs (fun y5 hs => ?_)
      refine v_keeps X dX10_keepsLaw_134 (q := 137) rfl (Nat.le_of_ble_eq_true rfl) (Nat.le_of_ble_eq_true rfl) (Nat.le_of_ble_eq_true rfl) hs (fun y6 hs => ?_)
      refine ms_14 X dX10_keepsLaw_137 (q := 138) rfl hs (fun s5 hs => ?_)
      refine g_iinc X dX10_keepsLaw_138 (q := 141) rfl 1 rfl (v := (a2 + (1 : Int32))) (congrArg (HAdd.hAdd a2) li_i1) (Nat.le_of_ble_eq_true rfl) (lv' := [(1, .int (a2 + (1 : Int32))), (0, .ref (h 0))]) rfl ?_
      refine g_goto X dX10_keepsLaw_141 (tgt := 99) (by decide) ?_
      exact wg_sub [1, 0] rfl (ih2 _ _ hs)
  · intro hs
    refine g_aload_n X dX10_keepsLaw_25 (q := 26) rfl 0 rfl ?_
    refine mg_19 X dX10_keepsLaw_26 (q := 29) rfl ?_
    refine g_iload_n X dX10_keepsLaw_29 (q := 30) rfl 1 rfl ?_
    refine g_aload_n X dX10_keepsLaw_30 (q := 31) rfl 0 rfl ?_
    refine g_aload_n X dX10_keepsLaw_31 (q := 32) rfl 0 rfl ?_
    refine mg_19 X dX10_keepsLaw_32 (q := 35) rfl ?_
    refine g_iload_n X dX10_keepsLaw_35 (q := 36) rfl 1 rfl ?_
    refine ma_9 X dX10_keepsLaw_36 (q := 37) rfl hs (fun y7 hs => ?_)
    refine v_keeps X dX10_keepsLaw_37 (q := 40) rfl (Nat.le_of_ble_eq_true rfl) (Nat.le_of_ble_eq_true rfl) (Nat.le_of_ble_eq_true rfl) hs (fun y8 hs => ?_)
    refine ms_9 X dX10_keepsLaw_40 (q := 41) rfl hs (fun s6 hs => ?_)
    refine g_aload_n X dX10_keepsLaw_41 (q := 42) rfl 0 rfl ?_
    refine mg_20 X dX10_keepsLaw_42 (q := 45) rfl ?_
    refine g_iload_n X dX10_keepsLaw_45 (q := 46) rfl 1 rfl ?_
    refine g_aload_n X dX10_keepsLaw_46 (q := 47) rfl 0 rfl ?_
    refine g_aload_n X dX10_keepsLaw_47 (q := 48) rfl 0 rfl ?_
    refine mg_20 X dX10_keepsLaw_48 (q := 51) rfl ?_
    refine g_iload_n X dX10_keepsLaw_51 (q := 52) rfl 1 rfl ?_
    refine ma_10 X dX10_keepsLaw_52 (q := 53) rfl hs (fun y9 hs => ?_)
    refine v_keeps X dX10_keepsLaw_53 (q := 56) rfl (Nat.le_of_ble_eq_true rfl) (Nat.le_of_ble_eq_true rfl) (Nat.le_of_ble_eq_true rfl) hs (fun y10 hs => ?_)
    refine ms_10 X dX10_keepsLaw_56 (q := 57) rfl hs (fun s7 hs => ?_)
    refine g_aload_n X dX10_keepsLaw_57 (q := 58) rfl 0 rfl ?_
    refine mg_21 X dX10_keepsLaw_58 (q := 61) rfl ?_
    refine g_iload_n X dX10_keepsLaw_61 (q := 62) rfl 1 rfl ?_
    refine g_aload_n X dX10_keepsLaw_62 (q := 63) rfl 0 rfl ?_
    refine g_aload_n X dX10_keepsLaw_63 (q := 64) rfl 0 rfl ?_
    refine mg_21 X dX10_keepsLaw_64 (q := 67) rfl ?_
    refine g_iload_n X dX10_keepsLaw_67 (q := 68) rfl 1 rfl ?_
    refine ma_11 X dX10_keepsLaw_68 (q := 69) rfl hs (fun y11 hs => ?_)
    refine v_keeps X dX10_keepsLaw_69 (q := 72) rfl (Nat.le_of_ble_eq_true rfl) (Nat.le_of_ble_eq_true rfl) (Nat.le_of_ble_eq_true rfl) hs (fun y12 hs => ?_)
    refine ms_11 X dX10_keepsLaw_72 (q := 73) rfl hs (fun s8 hs => ?_)
    refine g_aload_n X dX10_keepsLaw_73 (q := 74) rfl 0 rfl ?_
    refine mg_22 X dX10_keepsLaw_74 (q := 77) rfl ?_
    refine g_iload_n X dX10_keepsLaw_77 (q := 78) rfl 1 rfl ?_
    refine g_aload_n X dX10_keepsLaw_78 (q := 79) rfl 0 rfl ?_
    refine g_aload_n X dX10_keepsLaw_79 (q := 80) rfl 0 rfl ?_
    refine mg_22 X dX10_keepsLaw_80 (q := 83) rfl ?_
    refine g_iload_n X dX10_keepsLaw_83 (q := 84) rfl 1 rfl ?_
    refine ma_12 X dX10_keepsLaw_84 (q := 85) rfl hs (fun y13 hs => ?_)
    refine v_keeps X dX10_keepsLaw_85 (q := 88) rfl (Nat.le_of_ble_eq_true rfl) (Nat.le_of_ble_eq_true rfl) (Nat.le_of_ble_eq_true rfl) hs (fun y14 hs => ?_)
    refine ms_12 X dX10_keepsLaw_88 (q := 89) rfl hs (fun s9 hs => ?_)
    refine g_iinc X dX10_keepsLaw_89 (q := 92) rfl 1 rfl (v := (a1 + (1 : Int32))) (congrArg (HAdd.hAdd a1) li_i1) (Nat.le_of_ble_eq_true rfl) (lv' := [(1, .int (a1 + (1 : Int32))), (0, .ref (h 0))]) rfl ?_
    refine g_goto X dX10_keepsLaw_92 (tgt := 19) (by decide) ?_
    exact wg_sub [1, 0] rfl (ih1 _ _ hs)
theorem v_keepsLaw {p : Program} {l : Launch} {e : Env} {st : State} {m : MethodId} {args : Array Value} {below : List Frame} {meth : Method} {c : Code} {Q : State → Prop} {nL : Nat} {cc : ByteArray} {s : ST} {pc q : Nat} {lv : List (Nat × Value)} {rest : List Value} {D : va_G} {cA : ClassId} {h : Nat → Nat} {d0 : Nat} (X : Cx (KM D cA h) p st m args meth c cc nL RX10) (d : decode cc pc = .ok (.invokevirtual 493, 3)) (hq : pc + 3 = q) (hd1 : 2 + 1 ≤ d0) (hd2 : 8 + (2 + 11) + 100 * 2 ≤ 100 * d0) (hr : (rest.map fun v => v.category).sum ≤ 8) {B : Type} {f : ST → Option B} {r : B} (hs : Bd (M_keepsLaw s) f = some r) (k : ∀ y, f y = some r → WG (KM D cA h) p l e (rmD d0) st m args below meth c Q nL y q lv (rest)) : WG (KM D cA h) p l e (rmD d0) st m args below meth c Q nL s pc lv (.ref (h 0) :: rest) := by
  obtain ⟨v, hv, hs⟩ := Bd_e hs
  exact cV_V X 0 (n := 0) (k_keepsLaw l D cA h s hv) gv_X10_keepsLaw ⟨hd1, hd2⟩ ⟨by decide, by decide, by decide +kernel⟩ (As := []) rfl hr (Nat.le_of_ble_eq_true rfl) (fs := mF h (s.1 0)) rfl rfl rfl d hq (k _ hs)
theorem dX10_keepsTold_0 : decode cX10_keepsTold 0 = .ok (.aload_n 0, 1) := by decide +kernel
theorem dX10_keepsTold_1 : decode cX10_keepsTold 1 = .ok (.aload_n 0, 1) := by decide +kernel
theorem dX10_keepsTold_2 : decode cX10_keepsTold 2 = .ok (.aload_n 0, 1) := by decide +kernel
theorem dX10_keepsTold_3 : decode cX10_keepsTold 3 = .ok (.getfield 98, 3) := by decide +kernel
theorem dX10_keepsTold_6 : decode cX10_keepsTold 6 = .ok (.invokevirtual 484, 3) := by decide +kernel
theorem dX10_keepsTold_9 : decode cX10_keepsTold 9 = .ok (.putfield 98, 3) := by decide +kernel
theorem dX10_keepsTold_12 : decode cX10_keepsTold 12 = .ok (.aload_n 0, 1) := by decide +kernel
theorem dX10_keepsTold_13 : decode cX10_keepsTold 13 = .ok (.aload_n 0, 1) := by decide +kernel
theorem dX10_keepsTold_14 : decode cX10_keepsTold 14 = .ok (.aload_n 0, 1) := by decide +kernel
theorem dX10_keepsTold_15 : decode cX10_keepsTold 15 = .ok (.getfield 101, 3) := by decide +kernel
theorem dX10_keepsTold_18 : decode cX10_keepsTold 18 = .ok (.invokevirtual 484, 3) := by decide +kernel
theorem dX10_keepsTold_21 : decode cX10_keepsTold 21 = .ok (.putfield 101, 3) := by decide +kernel
theorem dX10_keepsTold_24 : decode cX10_keepsTold 24 = .ok (.aload_n 0, 1) := by decide +kernel
theorem dX10_keepsTold_25 : decode cX10_keepsTold 25 = .ok (.aload_n 0, 1) := by decide +kernel
theorem dX10_keepsTold_26 : decode cX10_keepsTold 26 = .ok (.aload_n 0, 1) := by decide +kernel
theorem dX10_keepsTold_27 : decode cX10_keepsTold 27 = .ok (.getfield 115, 3) := by decide +kernel
theorem dX10_keepsTold_30 : decode cX10_keepsTold 30 = .ok (.invokevirtual 484, 3) := by decide +kernel
theorem dX10_keepsTold_33 : decode cX10_keepsTold 33 = .ok (.putfield 115, 3) := by decide +kernel
theorem dX10_keepsTold_36 : decode cX10_keepsTold 36 = .ok (.aload_n 0, 1) := by decide +kernel
theorem dX10_keepsTold_37 : decode cX10_keepsTold 37 = .ok (.aload_n 0, 1) := by decide +kernel
theorem dX10_keepsTold_38 : decode cX10_keepsTold 38 = .ok (.aload_n 0, 1) := by decide +kernel
theorem dX10_keepsTold_39 : decode cX10_keepsTold 39 = .ok (.getfield 118, 3) := by decide +kernel
theorem dX10_keepsTold_42 : decode cX10_keepsTold 42 = .ok (.invokevirtual 484, 3) := by decide +kernel
theorem dX10_keepsTold_45 : decode cX10_keepsTold 45 = .ok (.putfield 118, 3) := by decide +kernel
theorem dX10_keepsTold_48 : decode cX10_keepsTold 48 = .ok (.aload_n 0, 1) := by decide +kernel
theorem dX10_keepsTold_49 : decode cX10_keepsTold 49 = .ok (.aload_n 0, 1) := by decide +kernel
theorem dX10_keepsTold_50 : decode cX10_keepsTold 50 = .ok (.aload_n 0, 1) := by decide +kernel
theorem dX10_keepsTold_51 : decode cX10_keepsTold 51 = .ok (.getfield 121, 3) := by decide +kernel
theorem dX10_keepsTold_54 : decode cX10_keepsTold 54 = .ok (.invokevirtual 484, 3) := by decide +kernel
theorem dX10_keepsTold_57 : decode cX10_keepsTold 57 = .ok (.putfield 121, 3) := by decide +kernel
theorem dX10_keepsTold_60 : decode cX10_keepsTold 60 = .ok (.aload_n 0, 1) := by decide +kernel
theorem dX10_keepsTold_61 : decode cX10_keepsTold 61 = .ok (.aload_n 0, 1) := by decide +kernel
theorem dX10_keepsTold_62 : decode cX10_keepsTold 62 = .ok (.aload_n 0, 1) := by decide +kernel
theorem dX10_keepsTold_63 : decode cX10_keepsTold 63 = .ok (.getfield 124, 3) := by decide +kernel
theorem dX10_keepsTold_66 : decode cX10_keepsTold 66 = .ok (.invokevirtual 484, 3) := by decide +kernel
theorem dX10_keepsTold_69 : decode cX10_keepsTold 69 = .ok (.putfield 124, 3) := by decide +kernel
theorem dX10_keepsTold_72 : decode cX10_keepsTold 72 = .ok (.aload_n 0, 1) := by decide +kernel
theorem dX10_keepsTold_73 : decode cX10_keepsTold 73 = .ok (.aload_n 0, 1) := by decide +kernel
theorem dX10_keepsTold_74 : decode cX10_keepsTold 74 = .ok (.aload_n 0, 1) := by decide +kernel
theorem dX10_keepsTold_75 : decode cX10_keepsTold 75 = .ok (.getfield 127, 3) := by decide +kernel
theorem dX10_keepsTold_78 : decode cX10_keepsTold 78 = .ok (.invokevirtual 484, 3) := by decide +kernel
theorem dX10_keepsTold_81 : decode cX10_keepsTold 81 = .ok (.putfield 127, 3) := by decide +kernel
theorem dX10_keepsTold_84 : decode cX10_keepsTold 84 = .ok (.iconst 0, 1) := by decide +kernel
theorem dX10_keepsTold_85 : decode cX10_keepsTold 85 = .ok (.istore_n 1, 1) := by decide +kernel
theorem dX10_keepsTold_86 : decode cX10_keepsTold 86 = .ok (.iload_n 1, 1) := by decide +kernel
theorem dX10_keepsTold_87 : decode cX10_keepsTold 87 = .ok (.bipush 64, 2) := by decide +kernel
theorem dX10_keepsTold_89 : decode cX10_keepsTold 89 = .ok (.if_icmp .ge 25, 3) := by decide +kernel
theorem dX10_keepsTold_92 : decode cX10_keepsTold 92 = .ok (.aload_n 0, 1) := by decide +kernel
theorem dX10_keepsTold_93 : decode cX10_keepsTold 93 = .ok (.getfield 19, 3) := by decide +kernel
theorem dX10_keepsTold_96 : decode cX10_keepsTold 96 = .ok (.iload_n 1, 1) := by decide +kernel
theorem dX10_keepsTold_97 : decode cX10_keepsTold 97 = .ok (.aload_n 0, 1) := by decide +kernel
theorem dX10_keepsTold_98 : decode cX10_keepsTold 98 = .ok (.aload_n 0, 1) := by decide +kernel
theorem dX10_keepsTold_99 : decode cX10_keepsTold 99 = .ok (.getfield 19, 3) := by decide +kernel
theorem dX10_keepsTold_102 : decode cX10_keepsTold 102 = .ok (.iload_n 1, 1) := by decide +kernel
theorem dX10_keepsTold_103 : decode cX10_keepsTold 103 = .ok (.iaload, 1) := by decide +kernel
theorem dX10_keepsTold_104 : decode cX10_keepsTold 104 = .ok (.invokevirtual 484, 3) := by decide +kernel
theorem dX10_keepsTold_107 : decode cX10_keepsTold 107 = .ok (.iastore, 1) := by decide +kernel
theorem dX10_keepsTold_108 : decode cX10_keepsTold 108 = .ok (.iinc 1 1, 3) := by decide +kernel
theorem dX10_keepsTold_111 : decode cX10_keepsTold 111 = .ok (.goto (-25), 3) := by decide +kernel
theorem dX10_keepsTold_114 : decode cX10_keepsTold 114 = .ok (.iconst 0, 1) := by decide +kernel
theorem dX10_keepsTold_115 : decode cX10_keepsTold 115 = .ok (.istore_n 1, 1) := by decide +kernel
theorem dX10_keepsTold_116 : decode cX10_keepsTold 116 = .ok (.iload_n 1, 1) := by decide +kernel
theorem dX10_keepsTold_117 : decode cX10_keepsTold 117 = .ok (.bipush 24, 2) := by decide +kernel
theorem dX10_keepsTold_119 : decode cX10_keepsTold 119 = .ok (.if_icmp .ge 25, 3) := by decide +kernel
theorem dX10_keepsTold_122 : decode cX10_keepsTold 122 = .ok (.aload_n 0, 1) := by decide +kernel
theorem dX10_keepsTold_123 : decode cX10_keepsTold 123 = .ok (.getfield 59, 3) := by decide +kernel
theorem dX10_keepsTold_126 : decode cX10_keepsTold 126 = .ok (.iload_n 1, 1) := by decide +kernel
theorem dX10_keepsTold_127 : decode cX10_keepsTold 127 = .ok (.aload_n 0, 1) := by decide +kernel
theorem dX10_keepsTold_128 : decode cX10_keepsTold 128 = .ok (.aload_n 0, 1) := by decide +kernel
theorem dX10_keepsTold_129 : decode cX10_keepsTold 129 = .ok (.getfield 59, 3) := by decide +kernel
theorem dX10_keepsTold_132 : decode cX10_keepsTold 132 = .ok (.iload_n 1, 1) := by decide +kernel
theorem dX10_keepsTold_133 : decode cX10_keepsTold 133 = .ok (.iaload, 1) := by decide +kernel
theorem dX10_keepsTold_134 : decode cX10_keepsTold 134 = .ok (.invokevirtual 484, 3) := by decide +kernel
theorem dX10_keepsTold_137 : decode cX10_keepsTold 137 = .ok (.iastore, 1) := by decide +kernel
theorem dX10_keepsTold_138 : decode cX10_keepsTold 138 = .ok (.iinc 1 1, 3) := by decide +kernel
theorem dX10_keepsTold_141 : decode cX10_keepsTold 141 = .ok (.goto (-25), 3) := by decide +kernel
theorem dX10_keepsTold_144 : decode cX10_keepsTold 144 = .ok (.iconst 0, 1) := by decide +kernel
theorem dX10_keepsTold_145 : decode cX10_keepsTold 145 = .ok (.istore_n 1, 1) := by decide +kernel
theorem dX10_keepsTold_146 : decode cX10_keepsTold 146 = .ok (.iload_n 1, 1) := by decide +kernel
theorem dX10_keepsTold_147 : decode cX10_keepsTold 147 = .ok (.bipush 30, 2) := by decide +kernel
theorem dX10_keepsTold_149 : decode cX10_keepsTold 149 = .ok (.if_icmp .ge 25, 3) := by decide +kernel
theorem dX10_keepsTold_152 : decode cX10_keepsTold 152 = .ok (.aload_n 0, 1) := by decide +kernel
theorem dX10_keepsTold_153 : decode cX10_keepsTold 153 = .ok (.getfield 62, 3) := by decide +kernel
theorem dX10_keepsTold_156 : decode cX10_keepsTold 156 = .ok (.iload_n 1, 1) := by decide +kernel
theorem dX10_keepsTold_157 : decode cX10_keepsTold 157 = .ok (.aload_n 0, 1) := by decide +kernel
theorem dX10_keepsTold_158 : decode cX10_keepsTold 158 = .ok (.aload_n 0, 1) := by decide +kernel
theorem dX10_keepsTold_159 : decode cX10_keepsTold 159 = .ok (.getfield 62, 3) := by decide +kernel
theorem dX10_keepsTold_162 : decode cX10_keepsTold 162 = .ok (.iload_n 1, 1) := by decide +kernel
theorem dX10_keepsTold_163 : decode cX10_keepsTold 163 = .ok (.iaload, 1) := by decide +kernel
theorem dX10_keepsTold_164 : decode cX10_keepsTold 164 = .ok (.invokevirtual 484, 3) := by decide +kernel
theorem dX10_keepsTold_167 : decode cX10_keepsTold 167 = .ok (.iastore, 1) := by decide +kernel
theorem dX10_keepsTold_168 : decode cX10_keepsTold 168 = .ok (.iinc 1 1, 3) := by decide +kernel
theorem dX10_keepsTold_171 : decode cX10_keepsTold 171 = .ok (.goto (-25), 3) := by decide +kernel
theorem dX10_keepsTold_174 : decode cX10_keepsTold 174 = .ok (.iconst 0, 1) := by decide +kernel
theorem dX10_keepsTold_175 : decode cX10_keepsTold 175 = .ok (.istore_n 1, 1) := by decide +kernel
theorem dX10_keepsTold_176 : decode cX10_keepsTold 176 = .ok (.iload_n 1, 1) := by decide +kernel
theorem dX10_keepsTold_177 : decode cX10_keepsTold 177 = .ok (.bipush 40, 2) := by decide +kernel
theorem dX10_keepsTold_179 : decode cX10_keepsTold 179 = .ok (.if_icmp .ge 25, 3) := by decide +kernel
theorem dX10_keepsTold_182 : decode cX10_keepsTold 182 = .ok (.aload_n 0, 1) := by decide +kernel
theorem dX10_keepsTold_183 : decode cX10_keepsTold 183 = .ok (.getfield 65, 3) := by decide +kernel
theorem dX10_keepsTold_186 : decode cX10_keepsTold 186 = .ok (.iload_n 1, 1) := by decide +kernel
theorem dX10_keepsTold_187 : decode cX10_keepsTold 187 = .ok (.aload_n 0, 1) := by decide +kernel
theorem dX10_keepsTold_188 : decode cX10_keepsTold 188 = .ok (.aload_n 0, 1) := by decide +kernel
theorem dX10_keepsTold_189 : decode cX10_keepsTold 189 = .ok (.getfield 65, 3) := by decide +kernel
theorem dX10_keepsTold_192 : decode cX10_keepsTold 192 = .ok (.iload_n 1, 1) := by decide +kernel
theorem dX10_keepsTold_193 : decode cX10_keepsTold 193 = .ok (.iaload, 1) := by decide +kernel
theorem dX10_keepsTold_194 : decode cX10_keepsTold 194 = .ok (.invokevirtual 484, 3) := by decide +kernel
theorem dX10_keepsTold_197 : decode cX10_keepsTold 197 = .ok (.iastore, 1) := by decide +kernel
theorem dX10_keepsTold_198 : decode cX10_keepsTold 198 = .ok (.iinc 1 1, 3) := by decide +kernel
theorem dX10_keepsTold_201 : decode cX10_keepsTold 201 = .ok (.goto (-25), 3) := by decide +kernel
theorem dX10_keepsTold_204 : decode cX10_keepsTold 204 = .ok (.iconst 0, 1) := by decide +kernel
theorem dX10_keepsTold_205 : decode cX10_keepsTold 205 = .ok (.istore_n 1, 1) := by decide +kernel
theorem dX10_keepsTold_206 : decode cX10_keepsTold 206 = .ok (.iload_n 1, 1) := by decide +kernel
theorem dX10_keepsTold_207 : decode cX10_keepsTold 207 = .ok (.bipush 64, 2) := by decide +kernel
theorem dX10_keepsTold_209 : decode cX10_keepsTold 209 = .ok (.if_icmp .ge 25, 3) := by decide +kernel
theorem dX10_keepsTold_212 : decode cX10_keepsTold 212 = .ok (.aload_n 0, 1) := by decide +kernel
theorem dX10_keepsTold_213 : decode cX10_keepsTold 213 = .ok (.getfield 68, 3) := by decide +kernel
theorem dX10_keepsTold_216 : decode cX10_keepsTold 216 = .ok (.iload_n 1, 1) := by decide +kernel
theorem dX10_keepsTold_217 : decode cX10_keepsTold 217 = .ok (.aload_n 0, 1) := by decide +kernel
theorem dX10_keepsTold_218 : decode cX10_keepsTold 218 = .ok (.aload_n 0, 1) := by decide +kernel
theorem dX10_keepsTold_219 : decode cX10_keepsTold 219 = .ok (.getfield 68, 3) := by decide +kernel
theorem dX10_keepsTold_222 : decode cX10_keepsTold 222 = .ok (.iload_n 1, 1) := by decide +kernel
theorem dX10_keepsTold_223 : decode cX10_keepsTold 223 = .ok (.iaload, 1) := by decide +kernel
theorem dX10_keepsTold_224 : decode cX10_keepsTold 224 = .ok (.invokevirtual 484, 3) := by decide +kernel
theorem dX10_keepsTold_227 : decode cX10_keepsTold 227 = .ok (.iastore, 1) := by decide +kernel
theorem dX10_keepsTold_228 : decode cX10_keepsTold 228 = .ok (.iinc 1 1, 3) := by decide +kernel
theorem dX10_keepsTold_231 : decode cX10_keepsTold 231 = .ok (.goto (-25), 3) := by decide +kernel
theorem dX10_keepsTold_234 : decode cX10_keepsTold 234 = .ok (.return_, 1) := by decide +kernel
def M_keepsTold (s : ST) : Option (ST) := Bd (M_keeps s (s.1 0 6)) fun y1 => Lt (ups y1.2 0 6 y1.1) fun s1 => Bd (M_keeps s1 (s1.1 0 7)) fun y2 => Lt (ups y2.2 0 7 y2.1) fun s2 => Bd (M_keeps s2 (s2.1 0 8)) fun y3 => Lt (ups y3.2 0 8 y3.1) fun s3 => Bd (M_keeps s3 (s3.1 0 34)) fun y4 => Lt (ups y4.2 0 34 y4.1) fun s4 => Bd (M_keeps s4 (s4.1 0 36)) fun y5 => Lt (ups y5.2 0 36 y5.1) fun s5 => Bd (M_keeps s5 (s5.1 0 40)) fun y6 => Lt (ups y6.2 0 40 y6.1) fun s6 => Bd (M_keeps s6 (s6.1 0 42)) fun y7 => Lt (ups y7.2 0 42 y7.1) fun s7 => lpK2 (C := ST) (fun (rec1 : Int32 → ST → Option (ST)) (a1 : Int32) (s8 : ST) => if (64 : Int32) ≤ a1 then (lpK2 (C := ST) (fun (rec2 : Int32 → ST → Option (ST)) (a2 : Int32) (s9 : ST) => if (24 : Int32) ≤ a2 then (lpK2 (C := ST) (fun (rec3 : Int32 → ST → Option (ST)) (a3 : Int32) (s10 : ST) => if (30 : Int32) ≤ a3 then (lpK2 (C := ST) (fun (rec4 : Int32 → ST → Option (ST)) (a4 : Int32) (s11 : ST) => if (40 : Int32) ≤ a4 then (lpK2 (C := ST) (fun (rec5 : Int32 → ST → Option (ST)) (a5 : Int32) (s12 : ST) => if (64 : Int32) ≤ a5 then (some s12) else (Gl s12 19 128 a5 fun y8 => Bd (M_keeps s12 y8) fun y9 => Gs y9.2 19 128 a5 y9.1 fun s13 => rec5 (a5 + (1 : Int32)) s13)) FU (0 : Int32) s11) else (Gl s11 18 80 a4 fun y10 => Bd (M_keeps s11 y10) fun y11 => Gs y11.2 18 80 a4 y11.1 fun s14 => rec4 (a4 + (1 : Int32)) s14)) FU (0 : Int32) s10) else (Gl s10 17 60 a3 fun y12 => Bd (M_keeps s10 y12) fun y13 => Gs y13.2 17 60 a3 y13.1 fun s15 => rec3 (a3 + (1 : Int32)) s15)) FU (0 : Int32) s9) else (Gl s9 16 48 a2 fun y14 => Bd (M_keeps s9 y14) fun y15 => Gs y15.2 16 48 a2 y15.1 fun s16 => rec2 (a2 + (1 : Int32)) s16)) FU (0 : Int32) s8) else (Gl s8 4 64 a1 fun y16 => Bd (M_keeps s8 y16) fun y17 => Gs y17.2 4 64 a1 y17.1 fun s17 => rec1 (a1 + (1 : Int32)) s17)) FU (0 : Int32) s7
set_option maxRecDepth 100000 in
set_option maxHeartbeats 4000000 in
theorem k_keepsTold (l : Launch) (D : va_G) (cA : ClassId) (h : Nat → Nat) (s : ST) {o : ST} (hs : M_keepsTold s = some o) : MV l (KM D cA h) 2 yX10_keepsTold cX10_keepsTold 2 none s [.ref (h 0)] o := by
  refine met_v (by decide) (Nat.le_of_ble_eq_true rfl) ?_
  intro p e st m args below meth c Q X RI
  unfold M_keepsTold at hs
  refine g_aload_n X dX10_keepsTold_0 (q := 1) rfl 0 rfl ?_
  refine g_aload_n X dX10_keepsTold_1 (q := 2) rfl 0 rfl ?_
  refine g_aload_n X dX10_keepsTold_2 (q := 3) rfl 0 rfl ?_
  refine mg_6 X dX10_keepsTold_3 (q := 6) rfl ?_
  refine v_keeps X dX10_keepsTold_6 (q := 9) rfl (Nat.le_of_ble_eq_true rfl) (Nat.le_of_ble_eq_true rfl) (Nat.le_of_ble_eq_true rfl) hs (fun y1 hs => ?_)
  refine mp_6 X dX10_keepsTold_9 (q := 12) rfl hs (fun s1 hs => ?_)
  refine g_aload_n X dX10_keepsTold_12 (q := 13) rfl 0 rfl ?_
  refine g_aload_n X dX10_keepsTold_13 (q := 14) rfl 0 rfl ?_
  refine g_aload_n X dX10_keepsTold_14 (q := 15) rfl 0 rfl ?_
  refine mg_7 X dX10_keepsTold_15 (q := 18) rfl ?_
  refine v_keeps X dX10_keepsTold_18 (q := 21) rfl (Nat.le_of_ble_eq_true rfl) (Nat.le_of_ble_eq_true rfl) (Nat.le_of_ble_eq_true rfl) hs (fun y2 hs => ?_)
  refine mp_7 X dX10_keepsTold_21 (q := 24) rfl hs (fun s2 hs => ?_)
  refine g_aload_n X dX10_keepsTold_24 (q := 25) rfl 0 rfl ?_
  refine g_aload_n X dX10_keepsTold_25 (q := 26) rfl 0 rfl ?_
  refine g_aload_n X dX10_keepsTold_26 (q := 27) rfl 0 rfl ?_
  refine mg_8 X dX10_keepsTold_27 (q := 30) rfl ?_
  refine v_keeps X dX10_keepsTold_30 (q := 33) rfl (Nat.le_of_ble_eq_true rfl) (Nat.le_of_ble_eq_true rfl) (Nat.le_of_ble_eq_true rfl) hs (fun y3 hs => ?_)
  refine mp_8 X dX10_keepsTold_33 (q := 36) rfl hs (fun s3 hs => ?_)
  refine g_aload_n X dX10_keepsTold_36 (q := 37) rfl 0 rfl ?_
  refine g_aload_n X dX10_keepsTold_37 (q := 38) rfl 0 rfl ?_
  refine g_aload_n X dX10_keepsTold_38 (q := 39) rfl 0 rfl ?_
  refine mg_34 X dX10_keepsTold_39 (q := 42) rfl ?_
  refine v_keeps X dX10_keepsTold_42 (q := 45) rfl (Nat.le_of_ble_eq_true rfl) (Nat.le_of_ble_eq_true rfl) (Nat.le_of_ble_eq_true rfl) hs (fun y4 hs => ?_)
  refine mp_34 X dX10_keepsTold_45 (q := 48) rfl hs (fun s4 hs => ?_)
  refine g_aload_n X dX10_keepsTold_48 (q := 49) rfl 0 rfl ?_
  refine g_aload_n X dX10_keepsTold_49 (q := 50) rfl 0 rfl ?_
  refine g_aload_n X dX10_keepsTold_50 (q := 51) rfl 0 rfl ?_
  refine mg_36 X dX10_keepsTold_51 (q := 54) rfl ?_
  refine v_keeps X dX10_keepsTold_54 (q := 57) rfl (Nat.le_of_ble_eq_true rfl) (Nat.le_of_ble_eq_true rfl) (Nat.le_of_ble_eq_true rfl) hs (fun y5 hs => ?_)
  refine mp_36 X dX10_keepsTold_57 (q := 60) rfl hs (fun s5 hs => ?_)
  refine g_aload_n X dX10_keepsTold_60 (q := 61) rfl 0 rfl ?_
  refine g_aload_n X dX10_keepsTold_61 (q := 62) rfl 0 rfl ?_
  refine g_aload_n X dX10_keepsTold_62 (q := 63) rfl 0 rfl ?_
  refine mg_40 X dX10_keepsTold_63 (q := 66) rfl ?_
  refine v_keeps X dX10_keepsTold_66 (q := 69) rfl (Nat.le_of_ble_eq_true rfl) (Nat.le_of_ble_eq_true rfl) (Nat.le_of_ble_eq_true rfl) hs (fun y6 hs => ?_)
  refine mp_40 X dX10_keepsTold_69 (q := 72) rfl hs (fun s6 hs => ?_)
  refine g_aload_n X dX10_keepsTold_72 (q := 73) rfl 0 rfl ?_
  refine g_aload_n X dX10_keepsTold_73 (q := 74) rfl 0 rfl ?_
  refine g_aload_n X dX10_keepsTold_74 (q := 75) rfl 0 rfl ?_
  refine mg_42 X dX10_keepsTold_75 (q := 78) rfl ?_
  refine v_keeps X dX10_keepsTold_78 (q := 81) rfl (Nat.le_of_ble_eq_true rfl) (Nat.le_of_ble_eq_true rfl) (Nat.le_of_ble_eq_true rfl) hs (fun y7 hs => ?_)
  refine mp_42 X dX10_keepsTold_81 (q := 84) rfl hs (fun s7 hs => ?_)
  refine g_iconst X dX10_keepsTold_84 (q := 85) rfl li_i0 ?_
  refine g_istore_n X dX10_keepsTold_85 (q := 86) rfl (Nat.le_of_ble_eq_true rfl) (lv' := [(1, .int (0 : Int32)), (0, .ref (h 0))]) rfl ?_
  refine wg_sub [1, 0] rfl (lpW2 (fun (a1 : Int32) (s8 : ST) => WG (KM D cA h) p l e (rmD 2) st m args below meth c Q 2 s8 86 [(0, .ref (h 0)), (1, .int a1)] []) (fun rec1 ih1 a1 s8 hs => ?_) _ _ _ hs)
  refine g_iload_n X dX10_keepsTold_86 (q := 87) rfl 1 rfl ?_
  refine g_bipush X dX10_keepsTold_87 (q := 89) rfl li_b64 ?_
  refine g_icmp_ge X dX10_keepsTold_89 (q := 92) rfl (tgt := 114) (by decide) hs ?_ ?_
  · intro hs
    refine g_iconst X dX10_keepsTold_114 (q := 115) rfl li_i0 ?_
    refine g_istore_n X dX10_keepsTold_115 (q := 116) rfl (Nat.le_of_ble_eq_true rfl) (lv' := [(1, .int (0 : Int32)), (0, .ref (h 0))]) rfl ?_
    refine wg_sub [1, 0] rfl (lpW2 (fun (a2 : Int32) (s9 : ST) => WG (KM D cA h) p l e (rmD 2) st m args below meth c Q 2 s9 116 [(0, .ref (h 0)), (1, .int a2)] []) (fun rec2 ih2 a2 s9 hs => ?_) _ _ _ hs)
    refine g_iload_n X dX10_keepsTold_116 (q := 117) rfl 1 rfl ?_
    refine g_bipush X dX10_keepsTold_117 (q := 119) rfl li_b24 ?_
    refine g_icmp_ge X dX10_keepsTold_119 (q := 122) rfl (tgt := 144) (by decide) hs ?_ ?_
    · intro hs
      refine g_iconst X dX10_keepsTold_144 (q := 145) rfl li_i0 ?_
      refine g_istore_n X dX10_keepsTold_145 (q := 146) rfl (Nat.le_of_ble_eq_true rfl) (lv' := [(1, .int (0 : Int32)), (0, .ref (h 0))]) rfl ?_
      refine wg_sub [1, 0] rfl (lpW2 (fun (a3 : Int32) (s10 : ST) => WG (KM D cA h) p l e (rmD 2) st m args below meth c Q 2 s10 146 [(0, .ref (h 0)), (1, .int a3)] []) (fun rec3 ih3 a3 s10 hs => ?_) _ _ _ hs)
      refine g_iload_n X dX10_keepsTold_146 (q := 147) rfl 1 rfl ?_
      refine g_bipush X dX10_keepsTold_147 (q := 149) rfl li_b30 ?_
      refine g_icmp_ge X dX10_keepsTold_149 (q := 152) rfl (tgt := 174) (by decide) hs ?_ ?_
      · intro hs
        refine g_iconst X dX10_keepsTold_174 (q := 175) rfl li_i0 ?_
        refine g_istore_n X dX10_keepsTold_175 (q := 176) rfl (Nat.le_of_ble_eq_true rfl) (lv' := [(1, .int (0 : Int32)), (0, .ref (h 0))]) rfl ?_
        refine wg_sub [1, 0] rfl (lpW2 (fun (a4 : Int32) (s11 : ST) => WG (KM D cA h) p l e (rmD 2) st m args below meth c Q 2 s11 176 [(0, .ref (h 0)), (1, .int a4)] []) (fun rec4 ih4 a4 s11 hs => ?_) _ _ _ hs)
        refine g_iload_n X dX10_keepsTold_176 (q := 177) rfl 1 rfl ?_
        refine g_bipush X dX10_keepsTold_177 (q := 179) rfl li_b40 ?_
        refine g_icmp_ge X dX10_keepsTold_179 (q := 182) rfl (tgt := 204) (by decide) hs ?_ ?_
        · intro hs
          refine g_iconst X dX10_keepsTold_204 (q := 205) rfl li_i0 ?_
          refine g_istore_n X dX10_keepsTold_205 (q := 206) rfl (Nat.le_of_ble_eq_true rfl) (lv' := [(1, .int (0 : Int32)), (0, .ref (h 0))]) rfl ?_
          refine wg_sub [1, 0] rfl (lpW2 (fun (a5 : Int32) (s12 : ST) => WG (KM D cA h) p l e (rmD 2) st m args below meth c Q 2 s12 206 [(0, .ref (h 0)), (1, .int a5)] []) (fun rec5 ih5 a5 s12 hs => ?_) _ _ _ hs)
          refine g_iload_n X dX10_keepsTold_206 (q := 207) rfl 1 rfl ?_
          refine g_bipush X dX10_keepsTold_207 (q := 209) rfl li_b64 ?_
          refine g_icmp_ge X dX10_keepsTold_209 (q := 212) rfl (tgt := 234) (by decide) hs ?_ ?_
          · intro hs
            exact RI _ 234 _ (Option.some.inj hs) dX10_keepsTold_234
          · intro hs
            refine g_aload_n X dX10_keepsTold_212 (q := 213) rfl 0 rfl ?_
            refine mg_43 X dX10_keepsTold_213 (q := 216) rfl ?_
            refine g_iload_n X dX10_keepsTold_216 (q := 217) rfl 1 rfl ?_
            refine g_aload_n X dX10_keepsTold_217 (q := 218) rfl 0 rfl ?_
            refine g_aload_n X dX10_keepsTold_218 (q := 219) rfl 0 rfl ?_
            refine mg_43 X dX10_keepsTold_219 (q := 222) rfl ?_
            refine g_iload_n X dX10_keepsTold_222 (q := 223) rfl 1 rfl ?_
            refine ma_19 X dX10_keepsTold_223 (q := 224) rfl hs (fun y8 hs => ?_)
            refine v_keeps X dX10_keepsTold_224 (q := 227) rfl (Nat.le_of_ble_eq_true rfl) (Nat.le_of_ble_eq_true rfl) (Nat.le_of_ble_eq_true rfl) hs (fun y9 hs => ?_)
            refine ms_19 X dX10_keepsTold_227 (q := 228) rfl hs (fun s13 hs => ?_)
            refine g_iinc X dX10_keepsTold_228 (q := 231) rfl 1 rfl (v := (a5 + (1 : Int32))) (congrArg (HAdd.hAdd a5) li_i1) (Nat.le_of_ble_eq_true rfl) (lv' := [(1, .int (a5 + (1 : Int32))), (0, .ref (h 0))]) rfl ?_
            refine g_goto X dX10_keepsTold_231 (tgt := 206) (by decide) ?_
            exact wg_sub [1, 0] rfl (ih5 _ _ hs)
        · intro hs
          refine g_aload_n X dX10_keepsTold_182 (q := 183) rfl 0 rfl ?_
          refine mg_41 X dX10_keepsTold_183 (q := 186) rfl ?_
          refine g_iload_n X dX10_keepsTold_186 (q := 187) rfl 1 rfl ?_
          refine g_aload_n X dX10_keepsTold_187 (q := 188) rfl 0 rfl ?_
          refine g_aload_n X dX10_keepsTold_188 (q := 189) rfl 0 rfl ?_
          refine mg_41 X dX10_keepsTold_189 (q := 192) rfl ?_
          refine g_iload_n X dX10_keepsTold_192 (q := 193) rfl 1 rfl ?_
          refine ma_18 X dX10_keepsTold_193 (q := 194) rfl hs (fun y10 hs => ?_)
          refine v_keeps X dX10_keepsTold_194 (q := 197) rfl (Nat.le_of_ble_eq_true rfl) (Nat.le_of_ble_eq_true rfl) (Nat.le_of_ble_eq_true rfl) hs (fun y11 hs => ?_)
          refine ms_18 X dX10_keepsTold_197 (q := 198) rfl hs (fun s14 hs => ?_)
          refine g_iinc X dX10_keepsTold_198 (q := 201) rfl 1 rfl (v := (a4 + (1 : Int32))) (congrArg (HAdd.hAdd a4) li_i1) (Nat.le_of_ble_eq_true rfl) (lv' := [(1, .int (a4 + (1 : Int32))), (0, .ref (h 0))]) rfl ?_
          refine g_goto X dX10_keepsTold_201 (tgt := 176) (by decide) ?_
          exact wg_sub [1, 0] rfl (ih4 _ _ hs)
      · intro hs
        refine g_aload_n X dX10_keepsTold_152 (q := 153) rfl 0 rfl ?_
        refine mg_37 X dX10_keepsTold_153 (q := 156) rfl ?_
        refine g_iload_n X dX10_keepsTold_156 (q := 157) rfl 1 rfl ?_
        refine g_aload_n X dX10_keepsTold_157 (q := 158) rfl 0 rfl ?_
        refine g_aload_n X dX10_keepsTold_158 (q := 159) rfl 0 rfl ?_
        refine mg_37 X dX10_keepsTold_159 (q := 162) rfl ?_
        refine g_iload_n X dX10_keepsTold_162 (q := 163) rfl 1 rfl ?_
        refine ma_17 X dX10_keepsTold_163 (q := 164) rfl hs (fun y12 hs => ?_)
        refine v_keeps X dX10_keepsTold_164 (q := 167) rfl (Nat.le_of_ble_eq_true rfl) (Nat.le_of_ble_eq_true rfl) (Nat.le_of_ble_eq_true rfl) hs (fun y13 hs => ?_)
        refine ms_17 X dX10_keepsTold_167 (q := 168) rfl hs (fun s15 hs => ?_)
        refine g_iinc X dX10_keepsTold_168 (q := 171) rfl 1 rfl (v := (a3 + (1 : Int32))) (congrArg (HAdd.hAdd a3) li_i1) (Nat.le_of_ble_eq_true rfl) (lv' := [(1, .int (a3 + (1 : Int32))), (0, .ref (h 0))]) rfl ?_
        refine g_goto X dX10_keepsTold_171 (tgt := 146) (by decide) ?_
        exact wg_sub [1, 0] rfl (ih3 _ _ hs)
    · intro hs
      refine g_aload_n X dX10_keepsTold_122 (q := 123) rfl 0 rfl ?_
      refine mg_35 X dX10_keepsTold_123 (q := 126) rfl ?_
      refine g_iload_n X dX10_keepsTold_126 (q := 127) rfl 1 rfl ?_
      refine g_aload_n X dX10_keepsTold_127 (q := 128) rfl 0 rfl ?_
      refine g_aload_n X dX10_keepsTold_128 (q := 129) rfl 0 rfl ?_
      refine mg_35 X dX10_keepsTold_129 (q := 132) rfl ?_
      refine g_iload_n X dX10_keepsTold_132 (q := 133) rfl 1 rfl ?_
      refine ma_16 X dX10_keepsTold_133 (q := 134) rfl hs (fun y14 hs => ?_)
      refine v_keeps X dX10_keepsTold_134 (q := 137) rfl (Nat.le_of_ble_eq_true rfl) (Nat.le_of_ble_eq_true rfl) (Nat.le_of_ble_eq_true rfl) hs (fun y15 hs => ?_)
      refine ms_16 X dX10_keepsTold_137 (q := 138) rfl hs (fun s16 hs => ?_)
      refine g_iinc X dX10_keepsTold_138 (q := 141) rfl 1 rfl (v := (a2 + (1 : Int32))) (congrArg (HAdd.hAdd a2) li_i1) (Nat.le_of_ble_eq_true rfl) (lv' := [(1, .int (a2 + (1 : Int32))), (0, .ref (h 0))]) rfl ?_
      refine g_goto X dX10_keepsTold_141 (tgt := 116) (by decide) ?_
      exact wg_sub [1, 0] rfl (ih2 _ _ hs)
  · intro hs
    refine g_aload_n X dX10_keepsTold_92 (q := 93) rfl 0 rfl ?_
    refine mg_9 X dX10_keepsTold_93 (q := 96) rfl ?_
    refine g_iload_n X dX10_keepsTold_96 (q := 97) rfl 1 rfl ?_
    refine g_aload_n X dX10_keepsTold_97 (q := 98) rfl 0 rfl ?_
    refine g_aload_n X dX10_keepsTold_98 (q := 99) rfl 0 rfl ?_
    refine mg_9 X dX10_keepsTold_99 (q := 102) rfl ?_
    refine g_iload_n X dX10_keepsTold_102 (q := 103) rfl 1 rfl ?_
    refine ma_4 X dX10_keepsTold_103 (q := 104) rfl hs (fun y16 hs => ?_)
    refine v_keeps X dX10_keepsTold_104 (q := 107) rfl (Nat.le_of_ble_eq_true rfl) (Nat.le_of_ble_eq_true rfl) (Nat.le_of_ble_eq_true rfl) hs (fun y17 hs => ?_)
    refine ms_4 X dX10_keepsTold_107 (q := 108) rfl hs (fun s17 hs => ?_)
    refine g_iinc X dX10_keepsTold_108 (q := 111) rfl 1 rfl (v := (a1 + (1 : Int32))) (congrArg (HAdd.hAdd a1) li_i1) (Nat.le_of_ble_eq_true rfl) (lv' := [(1, .int (a1 + (1 : Int32))), (0, .ref (h 0))]) rfl ?_
    refine g_goto X dX10_keepsTold_111 (tgt := 86) (by decide) ?_
    exact wg_sub [1, 0] rfl (ih1 _ _ hs)
theorem v_keepsTold {p : Program} {l : Launch} {e : Env} {st : State} {m : MethodId} {args : Array Value} {below : List Frame} {meth : Method} {c : Code} {Q : State → Prop} {nL : Nat} {cc : ByteArray} {s : ST} {pc q : Nat} {lv : List (Nat × Value)} {rest : List Value} {D : va_G} {cA : ClassId} {h : Nat → Nat} {d0 : Nat} (X : Cx (KM D cA h) p st m args meth c cc nL RX10) (d : decode cc pc = .ok (.invokevirtual 490, 3)) (hq : pc + 3 = q) (hd1 : 2 + 1 ≤ d0) (hd2 : 8 + (2 + 11) + 100 * 2 ≤ 100 * d0) (hr : (rest.map fun v => v.category).sum ≤ 8) {B : Type} {f : ST → Option B} {r : B} (hs : Bd (M_keepsTold s) f = some r) (k : ∀ y, f y = some r → WG (KM D cA h) p l e (rmD d0) st m args below meth c Q nL y q lv (rest)) : WG (KM D cA h) p l e (rmD d0) st m args below meth c Q nL s pc lv (.ref (h 0) :: rest) := by
  obtain ⟨v, hv, hs⟩ := Bd_e hs
  exact cV_V X 0 (n := 0) (k_keepsTold l D cA h s hv) gv_X10_keepsTold ⟨hd1, hd2⟩ ⟨by decide, by decide, by decide +kernel⟩ (As := []) rfl hr (Nat.le_of_ble_eq_true rfl) (fs := mF h (s.1 0)) rfl rfl rfl d hq (k _ hs)
theorem dX10_image_0 : decode cX10_image 0 = .ok (.aload_n 0, 1) := by decide +kernel
theorem dX10_image_1 : decode cX10_image 1 = .ok (.iconst 0, 1) := by decide +kernel
theorem dX10_image_2 : decode cX10_image 2 = .ok (.putfield 83, 3) := by decide +kernel
theorem dX10_image_5 : decode cX10_image 5 = .ok (.iload_n 1, 1) := by decide +kernel
theorem dX10_image_6 : decode cX10_image 6 = .ok (.ifCond .ne 12, 3) := by decide +kernel
theorem dX10_image_9 : decode cX10_image 9 = .ok (.aload_n 0, 1) := by decide +kernel
theorem dX10_image_10 : decode cX10_image 10 = .ok (.getfield 487, 3) := by decide +kernel
theorem dX10_image_13 : decode cX10_image 13 = .ok (.ifCond .ne 5, 3) := by decide +kernel
theorem dX10_image_16 : decode cX10_image 16 = .ok (.iconst 0, 1) := by decide +kernel
theorem dX10_image_17 : decode cX10_image 17 = .ok (.ireturn, 1) := by decide +kernel
theorem dX10_image_18 : decode cX10_image 18 = .ok (.aload_n 0, 1) := by decide +kernel
theorem dX10_image_19 : decode cX10_image 19 = .ok (.iload_n 1, 1) := by decide +kernel
theorem dX10_image_20 : decode cX10_image 20 = .ok (.putfield 481, 3) := by decide +kernel
theorem dX10_image_23 : decode cX10_image 23 = .ok (.aload_n 0, 1) := by decide +kernel
theorem dX10_image_24 : decode cX10_image 24 = .ok (.iconst 1, 1) := by decide +kernel
theorem dX10_image_25 : decode cX10_image 25 = .ok (.putfield 487, 3) := by decide +kernel
theorem dX10_image_28 : decode cX10_image 28 = .ok (.aload_n 0, 1) := by decide +kernel
theorem dX10_image_29 : decode cX10_image 29 = .ok (.iconst 0, 1) := by decide +kernel
theorem dX10_image_30 : decode cX10_image 30 = .ok (.putfield 478, 3) := by decide +kernel
theorem dX10_image_33 : decode cX10_image 33 = .ok (.iconst 0, 1) := by decide +kernel
theorem dX10_image_34 : decode cX10_image 34 = .ok (.istore_n 2, 1) := by decide +kernel
theorem dX10_image_35 : decode cX10_image 35 = .ok (.iload_n 2, 1) := by decide +kernel
theorem dX10_image_36 : decode cX10_image 36 = .ok (.sipush 389, 3) := by decide +kernel
theorem dX10_image_39 : decode cX10_image 39 = .ok (.if_icmp .ge 25, 3) := by decide +kernel
theorem dX10_image_42 : decode cX10_image 42 = .ok (.aload_n 0, 1) := by decide +kernel
theorem dX10_image_43 : decode cX10_image 43 = .ok (.getfield 7, 3) := by decide +kernel
theorem dX10_image_46 : decode cX10_image 46 = .ok (.iload_n 2, 1) := by decide +kernel
theorem dX10_image_47 : decode cX10_image 47 = .ok (.aload_n 0, 1) := by decide +kernel
theorem dX10_image_48 : decode cX10_image 48 = .ok (.aload_n 0, 1) := by decide +kernel
theorem dX10_image_49 : decode cX10_image 49 = .ok (.getfield 7, 3) := by decide +kernel
theorem dX10_image_52 : decode cX10_image 52 = .ok (.iload_n 2, 1) := by decide +kernel
theorem dX10_image_53 : decode cX10_image 53 = .ok (.iaload, 1) := by decide +kernel
theorem dX10_image_54 : decode cX10_image 54 = .ok (.invokevirtual 484, 3) := by decide +kernel
theorem dX10_image_57 : decode cX10_image 57 = .ok (.iastore, 1) := by decide +kernel
theorem dX10_image_58 : decode cX10_image 58 = .ok (.iinc 2 1, 3) := by decide +kernel
theorem dX10_image_61 : decode cX10_image 61 = .ok (.goto (-26), 3) := by decide +kernel
theorem dX10_image_64 : decode cX10_image 64 = .ok (.aload_n 0, 1) := by decide +kernel
theorem dX10_image_65 : decode cX10_image 65 = .ok (.invokevirtual 490, 3) := by decide +kernel
theorem dX10_image_68 : decode cX10_image 68 = .ok (.iconst 0, 1) := by decide +kernel
theorem dX10_image_69 : decode cX10_image 69 = .ok (.istore_n 2, 1) := by decide +kernel
theorem dX10_image_70 : decode cX10_image 70 = .ok (.iload_n 2, 1) := by decide +kernel
theorem dX10_image_71 : decode cX10_image 71 = .ok (.sipush 600, 3) := by decide +kernel
theorem dX10_image_74 : decode cX10_image 74 = .ok (.if_icmp .ge 25, 3) := by decide +kernel
theorem dX10_image_77 : decode cX10_image 77 = .ok (.aload_n 0, 1) := by decide +kernel
theorem dX10_image_78 : decode cX10_image 78 = .ok (.getfield 22, 3) := by decide +kernel
theorem dX10_image_81 : decode cX10_image 81 = .ok (.iload_n 2, 1) := by decide +kernel
theorem dX10_image_82 : decode cX10_image 82 = .ok (.aload_n 0, 1) := by decide +kernel
theorem dX10_image_83 : decode cX10_image 83 = .ok (.aload_n 0, 1) := by decide +kernel
theorem dX10_image_84 : decode cX10_image 84 = .ok (.getfield 22, 3) := by decide +kernel
theorem dX10_image_87 : decode cX10_image 87 = .ok (.iload_n 2, 1) := by decide +kernel
theorem dX10_image_88 : decode cX10_image 88 = .ok (.iaload, 1) := by decide +kernel
theorem dX10_image_89 : decode cX10_image 89 = .ok (.invokevirtual 484, 3) := by decide +kernel
theorem dX10_image_92 : decode cX10_image 92 = .ok (.iastore, 1) := by decide +kernel
theorem dX10_image_93 : decode cX10_image 93 = .ok (.iinc 2 1, 3) := by decide +kernel
theorem dX10_image_96 : decode cX10_image 96 = .ok (.goto (-26), 3) := by decide +kernel
theorem dX10_image_99 : decode cX10_image 99 = .ok (.aload_n 0, 1) := by decide +kernel
theorem dX10_image_100 : decode cX10_image 100 = .ok (.invokevirtual 493, 3) := by decide +kernel
theorem dX10_image_103 : decode cX10_image 103 = .ok (.iload_n 1, 1) := by decide +kernel
theorem dX10_image_104 : decode cX10_image 104 = .ok (.ifCond .ne 8, 3) := by decide +kernel
theorem dX10_image_107 : decode cX10_image 107 = .ok (.aload_n 0, 1) := by decide +kernel
theorem dX10_image_108 : decode cX10_image 108 = .ok (.iconst 0, 1) := by decide +kernel
theorem dX10_image_109 : decode cX10_image 109 = .ok (.putfield 86, 3) := by decide +kernel
theorem dX10_image_112 : decode cX10_image 112 = .ok (.iconst 1, 1) := by decide +kernel
theorem dX10_image_113 : decode cX10_image 113 = .ok (.ireturn, 1) := by decide +kernel
def M_image (s : ST) (x1 : Int32) : Option (Int32 × ST) := Lt (ups s 0 0 (0 : Int32)) fun s1 => Lt (Gb x1 <| Lt (ups s1 0 50 x1) fun s2 => Lt (ups s2 0 51 (1 : Int32)) fun s3 => Lt (ups s3 0 52 (0 : Int32)) fun s4 => lpK2 (C := Int32 × ST) (fun (rec1 : Int32 → ST → Option (Int32 × ST)) (a1 : Int32) (s5 : ST) => if (389 : Int32) ≤ a1 then (Bd (M_keepsTold s5) fun s6 => lpK2 (C := Int32 × ST) (fun (rec2 : Int32 → ST → Option (Int32 × ST)) (a2 : Int32) (s7 : ST) => if (600 : Int32) ≤ a2 then (Bd (M_keepsLaw s7) fun s8 => if x1 = 0 then (Lt (ups s8 0 3 (0 : Int32)) fun s9 => some ((1 : Int32), s9)) else (some ((1 : Int32), s8))) else (Gl s7 5 600 a2 fun y1 => Bd (M_keeps s7 y1) fun y2 => Gs y2.2 5 600 a2 y2.1 fun s10 => rec2 (a2 + (1 : Int32)) s10)) FU (0 : Int32) s6) else (Gl s5 1 389 a1 fun y3 => Bd (M_keeps s5 y3) fun y4 => Gs y4.2 1 389 a1 y4.1 fun s11 => rec1 (a1 + (1 : Int32)) s11)) FU (0 : Int32) s4 : Option (Int32 × ST)) fun j1 => if x1 = 0 then (if (s1.1 0 51) = 0 then (some ((0 : Int32), s1)) else (j1)) else (j1)
set_option maxRecDepth 100000 in
set_option maxHeartbeats 4000000 in
theorem k_image (l : Launch) (D : va_G) (cA : ClassId) (h : Nat → Nat) (s : ST) (x1 : Int32) {o : Int32 × ST} (hs : M_image s x1 = some o) : MI l (KM D cA h) 3 yX10_image cX10_image 3 (some .boolean) s [.ref (h 0), .int x1] o.1 o.2 := by
  refine met_i (by decide) (Nat.le_of_ble_eq_true rfl) ?_
  intro p e st m args below meth c Q X RI
  unfold M_image at hs
  refine g_aload_n X dX10_image_0 (q := 1) rfl 0 rfl ?_
  refine g_iconst X dX10_image_1 (q := 2) rfl li_i0 ?_
  refine mp_0 X dX10_image_2 (q := 5) rfl hs (fun s1 hs => ?_)
  refine g_iload_n X dX10_image_5 (q := 6) rfl 1 rfl ?_
  refine jnW0 (WG (KM D cA h) p l e (rmD 3) st m args below meth c Q 3 s1 18 [(0, .ref (h 0)), (1, .int x1)] []) hs (fun  hs => ?_) (fun j1 ih1 hs => ?_)
  · refine g_aload_n X dX10_image_18 (q := 19) rfl 0 rfl ?_
    refine g_iload_n X dX10_image_19 (q := 20) rfl 1 rfl ?_
    have hz := (Gb_e hs).1
    replace hs := (Gb_e hs).2
    refine mp_50 X dX10_image_20 (q := 23) rfl hz hs (fun s2 hs => ?_)
    refine g_aload_n X dX10_image_23 (q := 24) rfl 0 rfl ?_
    refine g_iconst X dX10_image_24 (q := 25) rfl li_i1 ?_
    refine mp_51 X dX10_image_25 (q := 28) rfl (by decide) hs (fun s3 hs => ?_)
    refine g_aload_n X dX10_image_28 (q := 29) rfl 0 rfl ?_
    refine g_iconst X dX10_image_29 (q := 30) rfl li_i0 ?_
    refine mp_52 X dX10_image_30 (q := 33) rfl hs (fun s4 hs => ?_)
    refine g_iconst X dX10_image_33 (q := 34) rfl li_i0 ?_
    refine g_istore_n X dX10_image_34 (q := 35) rfl (Nat.le_of_ble_eq_true rfl) (lv' := [(2, .int (0 : Int32)), (0, .ref (h 0)), (1, .int x1)]) rfl ?_
    refine wg_sub [1, 2, 0] rfl (lpW2 (fun (a1 : Int32) (s5 : ST) => WG (KM D cA h) p l e (rmD 3) st m args below meth c Q 3 s5 35 [(0, .ref (h 0)), (1, .int x1), (2, .int a1)] []) (fun rec1 ih2 a1 s5 hs => ?_) _ _ _ hs)
    refine g_iload_n X dX10_image_35 (q := 36) rfl 2 rfl ?_
    refine g_sipush X dX10_image_36 (q := 39) rfl li_s389 ?_
    refine g_icmp_ge X dX10_image_39 (q := 42) rfl (tgt := 64) (by decide) hs ?_ ?_
    · intro hs
      refine g_aload_n X dX10_image_64 (q := 65) rfl 0 rfl ?_
      refine v_keepsTold X dX10_image_65 (q := 68) rfl (Nat.le_of_ble_eq_true rfl) (Nat.le_of_ble_eq_true rfl) (Nat.le_of_ble_eq_true rfl) hs (fun s6 hs => ?_)
      refine g_iconst X dX10_image_68 (q := 69) rfl li_i0 ?_
      refine g_istore_n X dX10_image_69 (q := 70) rfl (Nat.le_of_ble_eq_true rfl) (lv' := [(2, .int (0 : Int32)), (0, .ref (h 0)), (1, .int x1)]) rfl ?_
      refine wg_sub [1, 2, 0] rfl (lpW2 (fun (a2 : Int32) (s7 : ST) => WG (KM D cA h) p l e (rmD 3) st m args below meth c Q 3 s7 70 [(0, .ref (h 0)), (1, .int x1), (2, .int a2)] []) (fun rec2 ih3 a2 s7 hs => ?_) _ _ _ hs)
      refine g_iload_n X dX10_image_70 (q := 71) rfl 2 rfl ?_
      refine g_sipush X dX10_image_71 (q := 74) rfl li_s600 ?_
      refine g_icmp_ge X dX10_image_74 (q := 77) rfl (tgt := 99) (by decide) hs ?_ ?_
      · intro hs
        refine g_aload_n X dX10_image_99 (q := 100) rfl 0 rfl ?_
        refine v_keepsLaw X dX10_image_100 (q := 103) rfl (Nat.le_of_ble_eq_true rfl) (Nat.le_of_ble_eq_true rfl) (Nat.le_of_ble_eq_true rfl) hs (fun s8 hs => ?_)
        refine g_iload_n X dX10_image_103 (q := 104) rfl 1 rfl ?_
        refine g_if_ne X dX10_image_104 (q := 107) rfl (tgt := 112) (by decide) hs ?_ ?_
        · intro hs
          refine g_iconst X dX10_image_112 (q := 113) rfl li_i1 ?_
          exact RI _ 113 _ _ _ (rU1 hs) rfl (rV1 hs) dX10_image_113
        · intro hs
          refine g_aload_n X dX10_image_107 (q := 108) rfl 0 rfl ?_
          refine g_iconst X dX10_image_108 (q := 109) rfl li_i0 ?_
          refine mp_3 X dX10_image_109 (q := 112) rfl hs (fun s9 hs => ?_)
          refine g_iconst X dX10_image_112 (q := 113) rfl li_i1 ?_
          exact RI _ 113 _ _ _ (rU1 hs) rfl (rV1 hs) dX10_image_113
      · intro hs
        refine g_aload_n X dX10_image_77 (q := 78) rfl 0 rfl ?_
        refine mg_10 X dX10_image_78 (q := 81) rfl ?_
        refine g_iload_n X dX10_image_81 (q := 82) rfl 2 rfl ?_
        refine g_aload_n X dX10_image_82 (q := 83) rfl 0 rfl ?_
        refine g_aload_n X dX10_image_83 (q := 84) rfl 0 rfl ?_
        refine mg_10 X dX10_image_84 (q := 87) rfl ?_
        refine g_iload_n X dX10_image_87 (q := 88) rfl 2 rfl ?_
        refine ma_5 X dX10_image_88 (q := 89) rfl hs (fun y1 hs => ?_)
        refine v_keeps X dX10_image_89 (q := 92) rfl (Nat.le_of_ble_eq_true rfl) (Nat.le_of_ble_eq_true rfl) (Nat.le_of_ble_eq_true rfl) hs (fun y2 hs => ?_)
        refine ms_5 X dX10_image_92 (q := 93) rfl hs (fun s10 hs => ?_)
        refine g_iinc X dX10_image_93 (q := 96) rfl 2 rfl (v := (a2 + (1 : Int32))) (congrArg (HAdd.hAdd a2) li_i1) (Nat.le_of_ble_eq_true rfl) (lv' := [(2, .int (a2 + (1 : Int32))), (0, .ref (h 0)), (1, .int x1)]) rfl ?_
        refine g_goto X dX10_image_96 (tgt := 70) (by decide) ?_
        exact wg_sub [1, 2, 0] rfl (ih3 _ _ hs)
    · intro hs
      refine g_aload_n X dX10_image_42 (q := 43) rfl 0 rfl ?_
      refine mg_1 X dX10_image_43 (q := 46) rfl ?_
      refine g_iload_n X dX10_image_46 (q := 47) rfl 2 rfl ?_
      refine g_aload_n X dX10_image_47 (q := 48) rfl 0 rfl ?_
      refine g_aload_n X dX10_image_48 (q := 49) rfl 0 rfl ?_
      refine mg_1 X dX10_image_49 (q := 52) rfl ?_
      refine g_iload_n X dX10_image_52 (q := 53) rfl 2 rfl ?_
      refine ma_1 X dX10_image_53 (q := 54) rfl hs (fun y3 hs => ?_)
      refine v_keeps X dX10_image_54 (q := 57) rfl (Nat.le_of_ble_eq_true rfl) (Nat.le_of_ble_eq_true rfl) (Nat.le_of_ble_eq_true rfl) hs (fun y4 hs => ?_)
      refine ms_1 X dX10_image_57 (q := 58) rfl hs (fun s11 hs => ?_)
      refine g_iinc X dX10_image_58 (q := 61) rfl 2 rfl (v := (a1 + (1 : Int32))) (congrArg (HAdd.hAdd a1) li_i1) (Nat.le_of_ble_eq_true rfl) (lv' := [(2, .int (a1 + (1 : Int32))), (0, .ref (h 0)), (1, .int x1)]) rfl ?_
      refine g_goto X dX10_image_61 (tgt := 35) (by decide) ?_
      exact wg_sub [1, 2, 0] rfl (ih2 _ _ hs)
  refine g_if_ne X dX10_image_6 (q := 9) rfl (tgt := 18) (by decide) hs ?_ ?_
  · intro hs
    exact wg_sub [0, 1] rfl (ih1 hs)
  · intro hs
    refine g_aload_n X dX10_image_9 (q := 10) rfl 0 rfl ?_
    refine mg_51 X dX10_image_10 (q := 13) rfl ?_
    refine g_if_ne X dX10_image_13 (q := 16) rfl (tgt := 18) (by decide) hs ?_ ?_
    · intro hs
      exact wg_sub [0, 1] rfl (ih1 hs)
    · intro hs
      refine g_iconst X dX10_image_16 (q := 17) rfl li_i0 ?_
      exact RI _ 17 _ _ _ (rU1 hs) rfl (rV1 hs) dX10_image_17
