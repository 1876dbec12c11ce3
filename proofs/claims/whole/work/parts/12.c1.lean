theorem dX5_goesOn_0 : decode cX5_goesOn 0 = .ok (.aload_n 0, 1) := by decide +kernel
theorem dX5_goesOn_1 : decode cX5_goesOn 1 = .ok (.getfield 38, 3) := by decide +kernel
theorem dX5_goesOn_4 : decode cX5_goesOn 4 = .ok (.ifCond .ne 14, 3) := by decide +kernel
theorem dX5_goesOn_7 : decode cX5_goesOn 7 = .ok (.aload_n 0, 1) := by decide +kernel
theorem dX5_goesOn_8 : decode cX5_goesOn 8 = .ok (.getfield 24, 3) := by decide +kernel
theorem dX5_goesOn_11 : decode cX5_goesOn 11 = .ok (.ifCond .eq 7, 3) := by decide +kernel
theorem dX5_goesOn_14 : decode cX5_goesOn 14 = .ok (.iconst 1, 1) := by decide +kernel
theorem dX5_goesOn_15 : decode cX5_goesOn 15 = .ok (.goto 4, 3) := by decide +kernel
theorem dX5_goesOn_18 : decode cX5_goesOn 18 = .ok (.iconst 0, 1) := by decide +kernel
theorem dX5_goesOn_19 : decode cX5_goesOn 19 = .ok (.ireturn, 1) := by decide +kernel
def C_X5_goesOn (s : ST) : Int32 := if (s.1 49 8) = 0 then (if (s.1 49 7) = 0 then ((0 : Int32)) else ((1 : Int32))) else ((0 : Int32))
set_option maxRecDepth 100000 in
set_option maxHeartbeats 4000000 in
theorem k_X5_goesOn {h : Nat → Nat} {Z : State → Heap → Prop} {sa : Nat → Nat} (hZ : ZK h Z sa) (l : Launch) (D : va_G) (cA cL : ClassId) (s : ST) : MI l (KC D cA cL h Z) 1 yX5_goesOn cX5_goesOn 1 (some .boolean) s [.ref (h 49)] (C_X5_goesOn s) s := by
  refine met_i (by decide) (Nat.le_of_ble_eq_true rfl) ?_
  intro p e st m args below meth c Q X RI
  generalize hs : C_X5_goesOn s = o at RI
  unfold C_X5_goesOn at hs
  refine g_aload_n X dX5_goesOn_0 (q := 1) rfl 0 rfl ?_
  refine cg_5_8 X dX5_goesOn_1 (q := 4) rfl sh_49 lf_X5_38 ?_
  refine g_if_ne X dX5_goesOn_4 (q := 7) rfl (tgt := 18) (by decide) hs ?_ ?_
  · intro hs
    refine g_iconst X dX5_goesOn_18 (q := 19) rfl li_i0 ?_
    exact RI _ 19 _ _ _ rfl rfl hs dX5_goesOn_19
  · intro hs
    refine g_aload_n X dX5_goesOn_7 (q := 8) rfl 0 rfl ?_
    refine cg_5_7 X dX5_goesOn_8 (q := 11) rfl sh_49 lf_X5_24 ?_
    refine g_if_eq X dX5_goesOn_11 (q := 14) rfl (tgt := 18) (by decide) hs ?_ ?_
    · intro hs
      refine g_iconst X dX5_goesOn_18 (q := 19) rfl li_i0 ?_
      exact RI _ 19 _ _ _ rfl rfl hs dX5_goesOn_19
    · intro hs
      refine g_iconst X dX5_goesOn_14 (q := 15) rfl li_i1 ?_
      refine g_goto X dX5_goesOn_15 (tgt := 19) (by decide) ?_
      exact RI _ 19 _ _ _ rfl rfl hs dX5_goesOn_19
theorem dX5_hasWord_0 : decode cX5_hasWord 0 = .ok (.aload_n 0, 1) := by decide +kernel
theorem dX5_hasWord_1 : decode cX5_hasWord 1 = .ok (.getfield 24, 3) := by decide +kernel
theorem dX5_hasWord_4 : decode cX5_hasWord 4 = .ok (.iconst 1, 1) := by decide +kernel
theorem dX5_hasWord_5 : decode cX5_hasWord 5 = .ok (.if_icmp .ne 29, 3) := by decide +kernel
theorem dX5_hasWord_8 : decode cX5_hasWord 8 = .ok (.aload_n 0, 1) := by decide +kernel
theorem dX5_hasWord_9 : decode cX5_hasWord 9 = .ok (.getfield 41, 3) := by decide +kernel
theorem dX5_hasWord_12 : decode cX5_hasWord 12 = .ok (.sipush 400, 3) := by decide +kernel
theorem dX5_hasWord_15 : decode cX5_hasWord 15 = .ok (.if_icmp .gt 19, 3) := by decide +kernel
theorem dX5_hasWord_18 : decode cX5_hasWord 18 = .ok (.aload_n 0, 1) := by decide +kernel
theorem dX5_hasWord_19 : decode cX5_hasWord 19 = .ok (.getfield 21, 3) := by decide +kernel
theorem dX5_hasWord_22 : decode cX5_hasWord 22 = .ok (.aload_n 0, 1) := by decide +kernel
theorem dX5_hasWord_23 : decode cX5_hasWord 23 = .ok (.getfield 41, 3) := by decide +kernel
theorem dX5_hasWord_26 : decode cX5_hasWord 26 = .ok (.iaload, 1) := by decide +kernel
theorem dX5_hasWord_27 : decode cX5_hasWord 27 = .ok (.aload_n 1, 1) := by decide +kernel
theorem dX5_hasWord_28 : decode cX5_hasWord 28 = .ok (.invokevirtual 59, 3) := by decide +kernel
theorem dX5_hasWord_31 : decode cX5_hasWord 31 = .ok (.if_icmp .eq 5, 3) := by decide +kernel
theorem dX5_hasWord_34 : decode cX5_hasWord 34 = .ok (.iconst 0, 1) := by decide +kernel
theorem dX5_hasWord_35 : decode cX5_hasWord 35 = .ok (.ireturn, 1) := by decide +kernel
theorem dX5_hasWord_36 : decode cX5_hasWord 36 = .ok (.aload_n 0, 1) := by decide +kernel
theorem dX5_hasWord_37 : decode cX5_hasWord 37 = .ok (.getfield 18, 3) := by decide +kernel
theorem dX5_hasWord_40 : decode cX5_hasWord 40 = .ok (.aload_n 0, 1) := by decide +kernel
theorem dX5_hasWord_41 : decode cX5_hasWord 41 = .ok (.getfield 41, 3) := by decide +kernel
theorem dX5_hasWord_44 : decode cX5_hasWord 44 = .ok (.iaload, 1) := by decide +kernel
theorem dX5_hasWord_45 : decode cX5_hasWord 45 = .ok (.istore_n 2, 1) := by decide +kernel
theorem dX5_hasWord_46 : decode cX5_hasWord 46 = .ok (.iconst 0, 1) := by decide +kernel
theorem dX5_hasWord_47 : decode cX5_hasWord 47 = .ok (.istore_n 3, 1) := by decide +kernel
theorem dX5_hasWord_48 : decode cX5_hasWord 48 = .ok (.iload_n 3, 1) := by decide +kernel
theorem dX5_hasWord_49 : decode cX5_hasWord 49 = .ok (.aload_n 1, 1) := by decide +kernel
theorem dX5_hasWord_50 : decode cX5_hasWord 50 = .ok (.invokevirtual 59, 3) := by decide +kernel
theorem dX5_hasWord_53 : decode cX5_hasWord 53 = .ok (.if_icmp .ge 36, 3) := by decide +kernel
theorem dX5_hasWord_56 : decode cX5_hasWord 56 = .ok (.iload_n 2, 1) := by decide +kernel
theorem dX5_hasWord_57 : decode cX5_hasWord 57 = .ok (.iload_n 3, 1) := by decide +kernel
theorem dX5_hasWord_58 : decode cX5_hasWord 58 = .ok (.iadd, 1) := by decide +kernel
theorem dX5_hasWord_59 : decode cX5_hasWord 59 = .ok (.sipush 400, 3) := by decide +kernel
theorem dX5_hasWord_62 : decode cX5_hasWord 62 = .ok (.if_icmp .ge 27, 3) := by decide +kernel
theorem dX5_hasWord_65 : decode cX5_hasWord 65 = .ok (.aload_n 0, 1) := by decide +kernel
theorem dX5_hasWord_66 : decode cX5_hasWord 66 = .ok (.getfield 9, 3) := by decide +kernel
theorem dX5_hasWord_69 : decode cX5_hasWord 69 = .ok (.iload_n 2, 1) := by decide +kernel
theorem dX5_hasWord_70 : decode cX5_hasWord 70 = .ok (.iload_n 3, 1) := by decide +kernel
theorem dX5_hasWord_71 : decode cX5_hasWord 71 = .ok (.iadd, 1) := by decide +kernel
theorem dX5_hasWord_72 : decode cX5_hasWord 72 = .ok (.iaload, 1) := by decide +kernel
theorem dX5_hasWord_73 : decode cX5_hasWord 73 = .ok (.aload_n 1, 1) := by decide +kernel
theorem dX5_hasWord_74 : decode cX5_hasWord 74 = .ok (.iload_n 3, 1) := by decide +kernel
theorem dX5_hasWord_75 : decode cX5_hasWord 75 = .ok (.invokevirtual 65, 3) := by decide +kernel
theorem dX5_hasWord_78 : decode cX5_hasWord 78 = .ok (.if_icmp .eq 5, 3) := by decide +kernel
theorem dX5_hasWord_81 : decode cX5_hasWord 81 = .ok (.iconst 0, 1) := by decide +kernel
theorem dX5_hasWord_82 : decode cX5_hasWord 82 = .ok (.ireturn, 1) := by decide +kernel
theorem dX5_hasWord_83 : decode cX5_hasWord 83 = .ok (.iinc 3 1, 3) := by decide +kernel
theorem dX5_hasWord_86 : decode cX5_hasWord 86 = .ok (.goto (-38), 3) := by decide +kernel
theorem dX5_hasWord_89 : decode cX5_hasWord 89 = .ok (.iconst 1, 1) := by decide +kernel
theorem dX5_hasWord_90 : decode cX5_hasWord 90 = .ok (.ireturn, 1) := by decide +kernel
def C_X5_hasWord (s : ST) (x1 : Nat) : Option (Int32) := if (s.1 49 7) = (1 : Int32) then (if (400 : Int32) < (s.1 49 6) then (some (0 : Int32)) else (Gl s 53 401 (s.1 49 6) fun y1 => if y1 = (nI (slen x1)) then (Gl s 52 401 (s.1 49 6) fun y2 => lpK1 (C := Int32) (fun (rec1 : Int32 → Option (Int32)) (a1 : Int32) => if (nI (slen x1)) ≤ a1 then (some (1 : Int32)) else (if (400 : Int32) ≤ (y2 + a1) then (some (1 : Int32)) else (Gl s 50 400 (y2 + a1) fun y3 => Gc x1 a1 fun y4 => if y3 = y4 then (rec1 (a1 + (1 : Int32))) else (some (0 : Int32))))) FU (0 : Int32)) else (some (0 : Int32)))) else (some (0 : Int32))
set_option maxRecDepth 100000 in
set_option maxHeartbeats 4000000 in
theorem k_X5_hasWord {h : Nat → Nat} {Z : State → Heap → Prop} {sa : Nat → Nat} (hZ : ZK h Z sa) (l : Launch) (D : va_G) (cA cL : ClassId) (s : ST) (x1 : Nat) (hx1 : x1 < 30) {o : Int32} (hs : C_X5_hasWord s x1 = some o) : MI l (KC D cA cL h Z) 7 yX5_hasWord cX5_hasWord 4 (some .boolean) s [.ref (h 49), .ref (sa x1)] o s := by
  refine met_i (by decide) (Nat.le_of_ble_eq_true rfl) ?_
  intro p e st m args below meth c Q X RI
  unfold C_X5_hasWord at hs
  refine g_aload_n X dX5_hasWord_0 (q := 1) rfl 0 rfl ?_
  refine cg_5_7 X dX5_hasWord_1 (q := 4) rfl sh_49 lf_X5_24 ?_
  refine g_iconst X dX5_hasWord_4 (q := 5) rfl li_i1 ?_
  refine g_icmp_ne X dX5_hasWord_5 (q := 8) rfl (tgt := 34) (by decide) hs ?_ ?_
  · intro hs
    refine g_iconst X dX5_hasWord_34 (q := 35) rfl li_i0 ?_
    exact RI _ 35 _ _ _ rfl rfl (Option.some.inj hs) dX5_hasWord_35
  · intro hs
    refine g_aload_n X dX5_hasWord_8 (q := 9) rfl 0 rfl ?_
    refine cg_5_6 X dX5_hasWord_9 (q := 12) rfl sh_49 lf_X5_41 ?_
    refine g_sipush X dX5_hasWord_12 (q := 15) rfl li_s400 ?_
    refine g_icmp_gt X dX5_hasWord_15 (q := 18) rfl (tgt := 34) (by decide) hs ?_ ?_
    · intro hs
      refine g_iconst X dX5_hasWord_34 (q := 35) rfl li_i0 ?_
      exact RI _ 35 _ _ _ rfl rfl (Option.some.inj hs) dX5_hasWord_35
    · intro hs
      refine g_aload_n X dX5_hasWord_18 (q := 19) rfl 0 rfl ?_
      refine cg_5_4 X dX5_hasWord_19 (q := 22) rfl sh_49 lf_X5_21 ?_
      refine g_aload_n X dX5_hasWord_22 (q := 23) rfl 0 rfl ?_
      refine cg_5_6 X dX5_hasWord_23 (q := 26) rfl sh_49 lf_X5_41 ?_
      refine ca_ld X dX5_hasWord_26 (q := 27) rfl 53 sh_53 rfl hs (fun y1 hs => ?_)
      refine g_aload_n X dX5_hasWord_27 (q := 28) rfl 1 rfl ?_
      refine cs_len hZ X dX5_hasWord_28 (q := 31) rfl hx1 (Nat.le_of_ble_eq_true rfl) (Nat.le_of_ble_eq_true rfl) ?_
      refine g_icmp_eq X dX5_hasWord_31 (q := 34) rfl (tgt := 36) (by decide) hs ?_ ?_
      · intro hs
        refine g_aload_n X dX5_hasWord_36 (q := 37) rfl 0 rfl ?_
        refine cg_5_3 X dX5_hasWord_37 (q := 40) rfl sh_49 lf_X5_18 ?_
        refine g_aload_n X dX5_hasWord_40 (q := 41) rfl 0 rfl ?_
        refine cg_5_6 X dX5_hasWord_41 (q := 44) rfl sh_49 lf_X5_41 ?_
        refine ca_ld X dX5_hasWord_44 (q := 45) rfl 52 sh_52 rfl hs (fun y2 hs => ?_)
        refine g_istore_n X dX5_hasWord_45 (q := 46) rfl (Nat.le_of_ble_eq_true rfl) (lv' := [(2, .int y2), (0, .ref (h 49)), (1, .ref (sa x1))]) rfl ?_
        refine g_iconst X dX5_hasWord_46 (q := 47) rfl li_i0 ?_
        refine g_istore_n X dX5_hasWord_47 (q := 48) rfl (Nat.le_of_ble_eq_true rfl) (lv' := [(3, .int (0 : Int32)), (2, .int y2), (0, .ref (h 49)), (1, .ref (sa x1))]) rfl ?_
        refine wg_sub [2, 3, 1, 0] rfl (lpW1 (fun (a1 : Int32) => WG (KC D cA cL h Z) p l e (rmD 7) st m args below meth c Q 4 s 48 [(0, .ref (h 49)), (1, .ref (sa x1)), (2, .int y2), (3, .int a1)] []) (fun rec1 ih1 a1 hs => ?_) _ _ hs)
        refine g_iload_n X dX5_hasWord_48 (q := 49) rfl 3 rfl ?_
        refine g_aload_n X dX5_hasWord_49 (q := 50) rfl 1 rfl ?_
        refine cs_len hZ X dX5_hasWord_50 (q := 53) rfl hx1 (Nat.le_of_ble_eq_true rfl) (Nat.le_of_ble_eq_true rfl) ?_
        refine g_icmp_ge X dX5_hasWord_53 (q := 56) rfl (tgt := 89) (by decide) hs ?_ ?_
        · intro hs
          refine g_iconst X dX5_hasWord_89 (q := 90) rfl li_i1 ?_
          exact RI _ 90 _ _ _ rfl rfl (Option.some.inj hs) dX5_hasWord_90
        · intro hs
          refine g_iload_n X dX5_hasWord_56 (q := 57) rfl 2 rfl ?_
          refine g_iload_n X dX5_hasWord_57 (q := 58) rfl 3 rfl ?_
          refine g_iadd X dX5_hasWord_58 (q := 59) rfl ?_
          refine g_sipush X dX5_hasWord_59 (q := 62) rfl li_s400 ?_
          refine g_icmp_ge X dX5_hasWord_62 (q := 65) rfl (tgt := 89) (by decide) hs ?_ ?_
          · intro hs
            refine g_iconst X dX5_hasWord_89 (q := 90) rfl li_i1 ?_
            exact RI _ 90 _ _ _ rfl rfl (Option.some.inj hs) dX5_hasWord_90
          · intro hs
            refine g_aload_n X dX5_hasWord_65 (q := 66) rfl 0 rfl ?_
            refine cg_5_0 X dX5_hasWord_66 (q := 69) rfl sh_49 lf_X5_9 ?_
            refine g_iload_n X dX5_hasWord_69 (q := 70) rfl 2 rfl ?_
            refine g_iload_n X dX5_hasWord_70 (q := 71) rfl 3 rfl ?_
            refine g_iadd X dX5_hasWord_71 (q := 72) rfl ?_
            refine ca_ld X dX5_hasWord_72 (q := 73) rfl 50 sh_50 rfl hs (fun y3 hs => ?_)
            refine g_aload_n X dX5_hasWord_73 (q := 74) rfl 1 rfl ?_
            refine g_iload_n X dX5_hasWord_74 (q := 75) rfl 3 rfl ?_
            refine cs_char hZ X dX5_hasWord_75 (q := 78) rfl hx1 (Nat.le_of_ble_eq_true rfl) (Nat.le_of_ble_eq_true rfl) hs (fun y4 hs => ?_)
            refine g_icmp_eq X dX5_hasWord_78 (q := 81) rfl (tgt := 83) (by decide) hs ?_ ?_
            · intro hs
              refine g_iinc X dX5_hasWord_83 (q := 86) rfl 3 rfl (v := (a1 + (1 : Int32))) (congrArg (HAdd.hAdd a1) li_i1) (Nat.le_of_ble_eq_true rfl) (lv' := [(3, .int (a1 + (1 : Int32))), (0, .ref (h 49)), (1, .ref (sa x1)), (2, .int y2)]) rfl ?_
              refine g_goto X dX5_hasWord_86 (tgt := 48) (by decide) ?_
              exact wg_sub [1, 2, 3, 0] rfl (ih1 _ hs)
            · intro hs
              refine g_iconst X dX5_hasWord_81 (q := 82) rfl li_i0 ?_
              exact RI _ 82 _ _ _ rfl rfl (Option.some.inj hs) dX5_hasWord_82
      · intro hs
        refine g_iconst X dX5_hasWord_34 (q := 35) rfl li_i0 ?_
        exact RI _ 35 _ _ _ rfl rfl (Option.some.inj hs) dX5_hasWord_35
theorem dX4_isFull_0 : decode cX4_isFull 0 = .ok (.aload_n 0, 1) := by decide +kernel
theorem dX4_isFull_1 : decode cX4_isFull 1 = .ok (.getfield 25, 3) := by decide +kernel
theorem dX4_isFull_4 : decode cX4_isFull 4 = .ok (.aload_n 0, 1) := by decide +kernel
theorem dX4_isFull_5 : decode cX4_isFull 5 = .ok (.getfield 15, 3) := by decide +kernel
theorem dX4_isFull_8 : decode cX4_isFull 8 = .ok (.if_icmp .lt 7, 3) := by decide +kernel
theorem dX4_isFull_11 : decode cX4_isFull 11 = .ok (.iconst 1, 1) := by decide +kernel
theorem dX4_isFull_12 : decode cX4_isFull 12 = .ok (.goto 4, 3) := by decide +kernel
theorem dX4_isFull_15 : decode cX4_isFull 15 = .ok (.iconst 0, 1) := by decide +kernel
theorem dX4_isFull_16 : decode cX4_isFull 16 = .ok (.ireturn, 1) := by decide +kernel
def C_X4_isFull (s : ST) (b0 : Nat) : Int32 := if (s.1 b0 2) < (s.1 b0 0) then ((0 : Int32)) else ((1 : Int32))
set_option maxRecDepth 100000 in
set_option maxHeartbeats 4000000 in
theorem k_X4_isFull {h : Nat → Nat} {Z : State → Heap → Prop} {sa : Nat → Nat} (hZ : ZK h Z sa) (l : Launch) (D : va_G) (cA cL : ClassId) (s : ST) (b0 : Nat) (hb0 : isK 4 b0) : MI l (KC D cA cL h Z) 1 yX4_isFull cX4_isFull 1 (some .boolean) s [.ref (h b0)] (C_X4_isFull s b0) s := by
  refine met_i (by decide) (Nat.le_of_ble_eq_true rfl) ?_
  intro p e st m args below meth c Q X RI
  generalize hs : C_X4_isFull s b0 = o at RI
  unfold C_X4_isFull at hs
  refine g_aload_n X dX4_isFull_0 (q := 1) rfl 0 rfl ?_
  refine cg_4_2 X dX4_isFull_1 (q := 4) rfl hb0 lf_X4_25 ?_
  refine g_aload_n X dX4_isFull_4 (q := 5) rfl 0 rfl ?_
  refine cg_4_0 X dX4_isFull_5 (q := 8) rfl hb0 lf_X4_15 ?_
  refine g_icmp_lt X dX4_isFull_8 (q := 11) rfl (tgt := 15) (by decide) hs ?_ ?_
  · intro hs
    refine g_iconst X dX4_isFull_15 (q := 16) rfl li_i0 ?_
    exact RI _ 16 _ _ _ rfl rfl hs dX4_isFull_16
  · intro hs
    refine g_iconst X dX4_isFull_11 (q := 12) rfl li_i1 ?_
    refine g_goto X dX4_isFull_12 (tgt := 16) (by decide) ?_
    exact RI _ 16 _ _ _ rfl rfl hs dX4_isFull_16
theorem dX5_fail_0 : decode cX5_fail 0 = .ok (.aload_n 0, 1) := by decide +kernel
theorem dX5_fail_1 : decode cX5_fail 1 = .ok (.getfield 38, 3) := by decide +kernel
theorem dX5_fail_4 : decode cX5_fail 4 = .ok (.ifCond .ne 54, 3) := by decide +kernel
theorem dX5_fail_7 : decode cX5_fail 7 = .ok (.aload_n 0, 1) := by decide +kernel
theorem dX5_fail_8 : decode cX5_fail 8 = .ok (.iload_n 1, 1) := by decide +kernel
theorem dX5_fail_9 : decode cX5_fail 9 = .ok (.putfield 38, 3) := by decide +kernel
theorem dX5_fail_12 : decode cX5_fail 12 = .ok (.aload_n 0, 1) := by decide +kernel
theorem dX5_fail_13 : decode cX5_fail 13 = .ok (.aload_n 0, 1) := by decide +kernel
theorem dX5_fail_14 : decode cX5_fail 14 = .ok (.getfield 41, 3) := by decide +kernel
theorem dX5_fail_17 : decode cX5_fail 17 = .ok (.aload_n 0, 1) := by decide +kernel
theorem dX5_fail_18 : decode cX5_fail 18 = .ok (.getfield 44, 3) := by decide +kernel
theorem dX5_fail_21 : decode cX5_fail 21 = .ok (.if_icmp .ge 25, 3) := by decide +kernel
theorem dX5_fail_24 : decode cX5_fail 24 = .ok (.aload_n 0, 1) := by decide +kernel
theorem dX5_fail_25 : decode cX5_fail 25 = .ok (.getfield 41, 3) := by decide +kernel
theorem dX5_fail_28 : decode cX5_fail 28 = .ok (.sipush 400, 3) := by decide +kernel
theorem dX5_fail_31 : decode cX5_fail 31 = .ok (.if_icmp .gt 15, 3) := by decide +kernel
theorem dX5_fail_34 : decode cX5_fail 34 = .ok (.aload_n 0, 1) := by decide +kernel
theorem dX5_fail_35 : decode cX5_fail 35 = .ok (.getfield 18, 3) := by decide +kernel
theorem dX5_fail_38 : decode cX5_fail 38 = .ok (.aload_n 0, 1) := by decide +kernel
theorem dX5_fail_39 : decode cX5_fail 39 = .ok (.getfield 41, 3) := by decide +kernel
theorem dX5_fail_42 : decode cX5_fail 42 = .ok (.iaload, 1) := by decide +kernel
theorem dX5_fail_43 : decode cX5_fail 43 = .ok (.goto 7, 3) := by decide +kernel
theorem dX5_fail_46 : decode cX5_fail 46 = .ok (.aload_n 0, 1) := by decide +kernel
theorem dX5_fail_47 : decode cX5_fail 47 = .ok (.getfield 31, 3) := by decide +kernel
theorem dX5_fail_50 : decode cX5_fail 50 = .ok (.putfield 28, 3) := by decide +kernel
theorem dX5_fail_53 : decode cX5_fail 53 = .ok (.aload_n 0, 1) := by decide +kernel
theorem dX5_fail_54 : decode cX5_fail 54 = .ok (.iconst 5, 1) := by decide +kernel
theorem dX5_fail_55 : decode cX5_fail 55 = .ok (.putfield 24, 3) := by decide +kernel
theorem dX5_fail_58 : decode cX5_fail 58 = .ok (.return_, 1) := by decide +kernel
def C_X5_fail (s : ST) (x1 : Int32) : Option (ST) := if (s.1 49 8) = 0 then (Lt (ups s 49 8 x1) fun s1 => Lt (fun (a1 : Int32) => (Lt (ups s1 49 9 a1) fun s2 => Lt (ups s2 49 7 (5 : Int32)) fun s3 => some s3 : Option (ST))) fun j1 => Lt (j1 (s1.1 49 1) : Option (ST)) fun j2 => if (s1.1 49 5) ≤ (s1.1 49 6) then (j2) else (if (400 : Int32) < (s1.1 49 6) then (j2) else (Gl s1 52 401 (s1.1 49 6) fun y1 => j1 y1))) else (some s)
set_option maxRecDepth 100000 in
set_option maxHeartbeats 4000000 in
theorem k_X5_fail {h : Nat → Nat} {Z : State → Heap → Prop} {sa : Nat → Nat} (hZ : ZK h Z sa) (l : Launch) (D : va_G) (cA cL : ClassId) (s : ST) (x1 : Int32) {o : ST} (hs : C_X5_fail s x1 = some o) : MV l (KC D cA cL h Z) 1 yX5_fail cX5_fail 2 none s [.ref (h 49), .int x1] o := by
  refine met_v (by decide) (Nat.le_of_ble_eq_true rfl) ?_
  intro p e st m args below meth c Q X RI
  unfold C_X5_fail at hs
  refine g_aload_n X dX5_fail_0 (q := 1) rfl 0 rfl ?_
  refine cg_5_8 X dX5_fail_1 (q := 4) rfl sh_49 lf_X5_38 ?_
  refine g_if_ne X dX5_fail_4 (q := 7) rfl (tgt := 58) (by decide) hs ?_ ?_
  · intro hs
    exact RI _ 58 _ (Option.some.inj hs) dX5_fail_58
  · intro hs
    refine g_aload_n X dX5_fail_7 (q := 8) rfl 0 rfl ?_
    refine g_iload_n X dX5_fail_8 (q := 9) rfl 1 rfl ?_
    refine cp_5_8 X dX5_fail_9 (q := 12) rfl sh_49 lf_X5_38 hs (fun s1 hs => ?_)
    refine g_aload_n X dX5_fail_12 (q := 13) rfl 0 rfl ?_
    refine g_aload_n X dX5_fail_13 (q := 14) rfl 0 rfl ?_
    refine cg_5_6 X dX5_fail_14 (q := 17) rfl sh_49 lf_X5_41 ?_
    refine g_aload_n X dX5_fail_17 (q := 18) rfl 0 rfl ?_
    refine cg_5_5 X dX5_fail_18 (q := 21) rfl sh_49 lf_X5_44 ?_
    refine jnW1 (fun (a1 : Int32) => WG (KC D cA cL h Z) p l e (rmD 1) st m args below meth c Q 2 s1 50 [(0, .ref (h 49))] [.int a1, .ref (h 49)]) hs (fun a1 hs => ?_) (fun j1 ih1 hs => ?_)
    · refine cp_5_9 X dX5_fail_50 (q := 53) rfl sh_49 lf_X5_28 hs (fun s2 hs => ?_)
      refine g_aload_n X dX5_fail_53 (q := 54) rfl 0 rfl ?_
      refine g_iconst X dX5_fail_54 (q := 55) rfl li_i5 ?_
      refine cp_5_7 X dX5_fail_55 (q := 58) rfl sh_49 lf_X5_24 hs (fun s3 hs => ?_)
      exact RI _ 58 _ (Option.some.inj hs) dX5_fail_58
    refine jnW0 (WG (KC D cA cL h Z) p l e (rmD 1) st m args below meth c Q 2 s1 46 [(0, .ref (h 49))] [.ref (h 49)]) hs (fun  hs => ?_) (fun j2 ih2 hs => ?_)
    · refine g_aload_n X dX5_fail_46 (q := 47) rfl 0 rfl ?_
      refine cg_5_1 X dX5_fail_47 (q := 50) rfl sh_49 lf_X5_31 ?_
      exact wg_sub [0] rfl (ih1 _ hs)
    refine g_icmp_ge X dX5_fail_21 (q := 24) rfl (tgt := 46) (by decide) hs ?_ ?_
    · intro hs
      exact wg_sub [0] rfl (ih2 hs)
    · intro hs
      refine g_aload_n X dX5_fail_24 (q := 25) rfl 0 rfl ?_
      refine cg_5_6 X dX5_fail_25 (q := 28) rfl sh_49 lf_X5_41 ?_
      refine g_sipush X dX5_fail_28 (q := 31) rfl li_s400 ?_
      refine g_icmp_gt X dX5_fail_31 (q := 34) rfl (tgt := 46) (by decide) hs ?_ ?_
      · intro hs
        exact wg_sub [0] rfl (ih2 hs)
      · intro hs
        refine g_aload_n X dX5_fail_34 (q := 35) rfl 0 rfl ?_
        refine cg_5_3 X dX5_fail_35 (q := 38) rfl sh_49 lf_X5_18 ?_
        refine g_aload_n X dX5_fail_38 (q := 39) rfl 0 rfl ?_
        refine cg_5_6 X dX5_fail_39 (q := 42) rfl sh_49 lf_X5_41 ?_
        refine ca_ld X dX5_fail_42 (q := 43) rfl 52 sh_52 rfl hs (fun y1 hs => ?_)
        refine g_goto X dX5_fail_43 (tgt := 50) (by decide) ?_
        exact wg_sub [0] rfl (ih1 _ hs)
theorem dX5_advance_0 : decode cX5_advance 0 = .ok (.aload_n 0, 1) := by decide +kernel
theorem dX5_advance_1 : decode cX5_advance 1 = .ok (.getfield 41, 3) := by decide +kernel
theorem dX5_advance_4 : decode cX5_advance 4 = .ok (.iconst 1, 1) := by decide +kernel
theorem dX5_advance_5 : decode cX5_advance 5 = .ok (.iadd, 1) := by decide +kernel
theorem dX5_advance_6 : decode cX5_advance 6 = .ok (.aload_n 0, 1) := by decide +kernel
theorem dX5_advance_7 : decode cX5_advance 7 = .ok (.getfield 44, 3) := by decide +kernel
theorem dX5_advance_10 : decode cX5_advance 10 = .ok (.if_icmp .ge 36, 3) := by decide +kernel
theorem dX5_advance_13 : decode cX5_advance 13 = .ok (.aload_n 0, 1) := by decide +kernel
theorem dX5_advance_14 : decode cX5_advance 14 = .ok (.getfield 41, 3) := by decide +kernel
theorem dX5_advance_17 : decode cX5_advance 17 = .ok (.sipush 400, 3) := by decide +kernel
theorem dX5_advance_20 : decode cX5_advance 20 = .ok (.if_icmp .ge 26, 3) := by decide +kernel
theorem dX5_advance_23 : decode cX5_advance 23 = .ok (.aload_n 0, 1) := by decide +kernel
theorem dX5_advance_24 : decode cX5_advance 24 = .ok (.dup, 1) := by decide +kernel
theorem dX5_advance_25 : decode cX5_advance 25 = .ok (.getfield 41, 3) := by decide +kernel
theorem dX5_advance_28 : decode cX5_advance 28 = .ok (.iconst 1, 1) := by decide +kernel
theorem dX5_advance_29 : decode cX5_advance 29 = .ok (.iadd, 1) := by decide +kernel
theorem dX5_advance_30 : decode cX5_advance 30 = .ok (.putfield 41, 3) := by decide +kernel
theorem dX5_advance_33 : decode cX5_advance 33 = .ok (.aload_n 0, 1) := by decide +kernel
theorem dX5_advance_34 : decode cX5_advance 34 = .ok (.aload_n 0, 1) := by decide +kernel
theorem dX5_advance_35 : decode cX5_advance 35 = .ok (.getfield 15, 3) := by decide +kernel
theorem dX5_advance_38 : decode cX5_advance 38 = .ok (.aload_n 0, 1) := by decide +kernel
theorem dX5_advance_39 : decode cX5_advance 39 = .ok (.getfield 41, 3) := by decide +kernel
theorem dX5_advance_42 : decode cX5_advance 42 = .ok (.iaload, 1) := by decide +kernel
theorem dX5_advance_43 : decode cX5_advance 43 = .ok (.putfield 24, 3) := by decide +kernel
theorem dX5_advance_46 : decode cX5_advance 46 = .ok (.return_, 1) := by decide +kernel
def C_X5_advance (s : ST) : Option (ST) := if (s.1 49 5) ≤ ((s.1 49 6) + (1 : Int32)) then (some s) else (if (400 : Int32) ≤ (s.1 49 6) then (some s) else (Lt (ups s 49 6 ((s.1 49 6) + (1 : Int32))) fun s1 => Gl s1 51 401 (s1.1 49 6) fun y1 => Lt (ups s1 49 7 y1) fun s2 => some s2))
set_option maxRecDepth 100000 in
set_option maxHeartbeats 4000000 in
theorem k_X5_advance {h : Nat → Nat} {Z : State → Heap → Prop} {sa : Nat → Nat} (hZ : ZK h Z sa) (l : Launch) (D : va_G) (cA cL : ClassId) (s : ST) {o : ST} (hs : C_X5_advance s = some o) : MV l (KC D cA cL h Z) 1 yX5_advance cX5_advance 1 none s [.ref (h 49)] o := by
  refine met_v (by decide) (Nat.le_of_ble_eq_true rfl) ?_
  intro p e st m args below meth c Q X RI
  unfold C_X5_advance at hs
  refine g_aload_n X dX5_advance_0 (q := 1) rfl 0 rfl ?_
  refine cg_5_6 X dX5_advance_1 (q := 4) rfl sh_49 lf_X5_41 ?_
  refine g_iconst X dX5_advance_4 (q := 5) rfl li_i1 ?_
  refine g_iadd X dX5_advance_5 (q := 6) rfl ?_
  refine g_aload_n X dX5_advance_6 (q := 7) rfl 0 rfl ?_
  refine cg_5_5 X dX5_advance_7 (q := 10) rfl sh_49 lf_X5_44 ?_
  refine g_icmp_ge X dX5_advance_10 (q := 13) rfl (tgt := 46) (by decide) hs ?_ ?_
  · intro hs
    exact RI _ 46 _ (Option.some.inj hs) dX5_advance_46
  · intro hs
    refine g_aload_n X dX5_advance_13 (q := 14) rfl 0 rfl ?_
    refine cg_5_6 X dX5_advance_14 (q := 17) rfl sh_49 lf_X5_41 ?_
    refine g_sipush X dX5_advance_17 (q := 20) rfl li_s400 ?_
    refine g_icmp_ge X dX5_advance_20 (q := 23) rfl (tgt := 46) (by decide) hs ?_ ?_
    · intro hs
      exact RI _ 46 _ (Option.some.inj hs) dX5_advance_46
    · intro hs
      refine g_aload_n X dX5_advance_23 (q := 24) rfl 0 rfl ?_
      refine g_dup X dX5_advance_24 (q := 25) rfl rfl ?_
      refine cg_5_6 X dX5_advance_25 (q := 28) rfl sh_49 lf_X5_41 ?_
      refine g_iconst X dX5_advance_28 (q := 29) rfl li_i1 ?_
      refine g_iadd X dX5_advance_29 (q := 30) rfl ?_
      refine cp_5_6 X dX5_advance_30 (q := 33) rfl sh_49 lf_X5_41 hs (fun s1 hs => ?_)
      refine g_aload_n X dX5_advance_33 (q := 34) rfl 0 rfl ?_
      refine g_aload_n X dX5_advance_34 (q := 35) rfl 0 rfl ?_
      refine cg_5_2 X dX5_advance_35 (q := 38) rfl sh_49 lf_X5_15 ?_
      refine g_aload_n X dX5_advance_38 (q := 39) rfl 0 rfl ?_
      refine cg_5_6 X dX5_advance_39 (q := 42) rfl sh_49 lf_X5_41 ?_
      refine ca_ld X dX5_advance_42 (q := 43) rfl 51 sh_51 rfl hs (fun y1 hs => ?_)
      refine cp_5_7 X dX5_advance_43 (q := 46) rfl sh_49 lf_X5_24 hs (fun s2 hs => ?_)
      exact RI _ 46 _ (Option.some.inj hs) dX5_advance_46
theorem dX5_takesHead_0 : decode cX5_takesHead 0 = .ok (.aload_n 0, 1) := by decide +kernel
theorem dX5_takesHead_1 : decode cX5_takesHead 1 = .ok (.aload_n 1, 1) := by decide +kernel
theorem dX5_takesHead_2 : decode cX5_takesHead 2 = .ok (.invokevirtual 69, 3) := by decide +kernel
theorem dX5_takesHead_5 : decode cX5_takesHead 5 = .ok (.ifCond .ne 5, 3) := by decide +kernel
theorem dX5_takesHead_8 : decode cX5_takesHead 8 = .ok (.iconst 0, 1) := by decide +kernel
theorem dX5_takesHead_9 : decode cX5_takesHead 9 = .ok (.ireturn, 1) := by decide +kernel
theorem dX5_takesHead_10 : decode cX5_takesHead 10 = .ok (.aload_n 2, 1) := by decide +kernel
theorem dX5_takesHead_11 : decode cX5_takesHead 11 = .ok (.invokevirtual 80, 3) := by decide +kernel
theorem dX5_takesHead_14 : decode cX5_takesHead 14 = .ok (.ifCond .eq 11, 3) := by decide +kernel
theorem dX5_takesHead_17 : decode cX5_takesHead 17 = .ok (.aload_n 0, 1) := by decide +kernel
theorem dX5_takesHead_18 : decode cX5_takesHead 18 = .ok (.iconst 3, 1) := by decide +kernel
theorem dX5_takesHead_19 : decode cX5_takesHead 19 = .ok (.invokevirtual 86, 3) := by decide +kernel
theorem dX5_takesHead_22 : decode cX5_takesHead 22 = .ok (.goto 7, 3) := by decide +kernel
theorem dX5_takesHead_25 : decode cX5_takesHead 25 = .ok (.aload_n 0, 1) := by decide +kernel
theorem dX5_takesHead_26 : decode cX5_takesHead 26 = .ok (.invokevirtual 73, 3) := by decide +kernel
theorem dX5_takesHead_29 : decode cX5_takesHead 29 = .ok (.iconst 1, 1) := by decide +kernel
theorem dX5_takesHead_30 : decode cX5_takesHead 30 = .ok (.ireturn, 1) := by decide +kernel
theorem wX4_isFull_X5 : Cond.methodLinkNest RX5 80 yX4_isFull "StormSeeds" ∈ NW := nw_of 738 (by decide +kernel) rfl
theorem vc_X4_isFull_X5 {p : Program} {l : Launch} {e : Env} {st : State} {m : MethodId} {args : Array Value} {below : List Frame} {meth : Method} {c : Code} {Q : State → Prop} {nL : Nat} {cc : ByteArray} {s : ST} {pc q : Nat} {lv : List (Nat × Value)} {rest : List Value} {D : va_G} {cA cL : ClassId} {h : Nat → Nat} {Z : State → Heap → Prop} {sa : Nat → Nat} (hZ : ZK h Z sa) {d0 : Nat} (X : Cx (KC D cA cL h Z) p st m args meth c cc nL RX5) {b0 : Nat} (d : decode cc pc = .ok (.invokevirtual 80, 3)) (hq : pc + 3 = q) (hb0 : isK 4 b0) (hd1 : 1 + 1 ≤ d0) (hd2 : 8 + (1 + 11) + 100 * 1 ≤ 100 * d0) (hr : (rest.map fun v => v.category).sum ≤ 8) {B : Type} {f : Int32 → B} {r : B} (hs : Lt (C_X4_isFull s b0) f = r) (k : ∀ y, f y = r → WG (KC D cA cL h Z) p l e (rmD d0) st m args below meth c Q nL s q lv (.int y :: rest)) : WG (KC D cA cL h Z) p l e (rmD d0) st m args below meth c Q nL s pc lv (.ref (h b0) :: rest) := by
  exact cVN_I (K := KC D cA cL h Z) X b0 (n := 0) (k_X4_isFull hZ l D cA cL s b0 hb0) (gt_c (gt_of 741 (by decide +kernel) rfl) gt_t) (hZ.1 st st.heap X.2.2.2 _ wX4_isFull_X5) (gt_of 199 (by decide +kernel) rfl) (gt_of 740 (by decide +kernel) rfl) (gt_of 20 (by decide +kernel) rfl) ⟨hd1, hd2⟩ ⟨by decide, by decide, by decide +kernel⟩ (As := []) rfl hr (hb0).1 (fs := cF4 h b0 (s.1 b0) (s.2 b0)) (GC_4 (cA := cA) (cL := cL) hb0 _ _) rfl rfl d hq (k _ hs)
theorem wX5_advance_X5 : GoodIn GT (wsV RX5 73 RX5 yX5_advance (.code yX5_advance cX5_advance 1 none :: GT)) := gt_V (gt_of 746 (by decide +kernel) rfl) (gt_of 748 (by decide +kernel) rfl) (gt_of 22 (by decide +kernel) rfl) (gt_of 202 (by decide +kernel) rfl) (gt_of 749 (by decide +kernel) rfl)
theorem vc_X5_advance_X5 {p : Program} {l : Launch} {e : Env} {st : State} {m : MethodId} {args : Array Value} {below : List Frame} {meth : Method} {c : Code} {Q : State → Prop} {nL : Nat} {cc : ByteArray} {s : ST} {pc q : Nat} {lv : List (Nat × Value)} {rest : List Value} {D : va_G} {cA cL : ClassId} {h : Nat → Nat} {Z : State → Heap → Prop} {sa : Nat → Nat} (hZ : ZK h Z sa) {d0 : Nat} (X : Cx (KC D cA cL h Z) p st m args meth c cc nL RX5) (d : decode cc pc = .ok (.invokevirtual 73, 3)) (hq : pc + 3 = q) (hd1 : 1 + 1 ≤ d0) (hd2 : 8 + (1 + 11) + 100 * 1 ≤ 100 * d0) (hr : (rest.map fun v => v.category).sum ≤ 8) {B : Type} {f : ST → Option B} {r : B} (hs : Bd (C_X5_advance s) f = some r) (k : ∀ y, f y = some r → WG (KC D cA cL h Z) p l e (rmD d0) st m args below meth c Q nL y q lv (rest)) : WG (KC D cA cL h Z) p l e (rmD d0) st m args below meth c Q nL s pc lv (.ref (h 49) :: rest) := by
  obtain ⟨v, hv, hs⟩ := Bd_e hs
  exact cV_V (K := KC D cA cL h Z) X 49 (n := 0) (k_X5_advance hZ l D cA cL s hv) wX5_advance_X5 ⟨hd1, hd2⟩ ⟨by decide, by decide, by decide +kernel⟩ (As := []) rfl hr (sh_49).1 (fs := cF5 h 49 (s.1 49) (s.2 49)) (GC_5 (cA := cA) (cL := cL) sh_49 _ _) rfl rfl d hq (k _ hs)
theorem wX5_fail_X5 : GoodIn GT (wsV RX5 86 RX5 yX5_fail (.code yX5_fail cX5_fail 2 none :: GT)) := gt_V (gt_of 742 (by decide +kernel) rfl) (gt_of 744 (by decide +kernel) rfl) (gt_of 21 (by decide +kernel) rfl) (gt_of 202 (by decide +kernel) rfl) (gt_of 745 (by decide +kernel) rfl)
theorem vc_X5_fail_X5 {p : Program} {l : Launch} {e : Env} {st : State} {m : MethodId} {args : Array Value} {below : List Frame} {meth : Method} {c : Code} {Q : State → Prop} {nL : Nat} {cc : ByteArray} {s : ST} {pc q : Nat} {lv : List (Nat × Value)} {rest : List Value} {D : va_G} {cA cL : ClassId} {h : Nat → Nat} {Z : State → Heap → Prop} {sa : Nat → Nat} (hZ : ZK h Z sa) {d0 : Nat} (X : Cx (KC D cA cL h Z) p st m args meth c cc nL RX5) {x1 : Int32} (d : decode cc pc = .ok (.invokevirtual 86, 3)) (hq : pc + 3 = q) (hd1 : 1 + 1 ≤ d0) (hd2 : 8 + (2 + 11) + 100 * 1 ≤ 100 * d0) (hr : (rest.map fun v => v.category).sum ≤ 8) {B : Type} {f : ST → Option B} {r : B} (hs : Bd (C_X5_fail s x1) f = some r) (k : ∀ y, f y = some r → WG (KC D cA cL h Z) p l e (rmD d0) st m args below meth c Q nL y q lv (rest)) : WG (KC D cA cL h Z) p l e (rmD d0) st m args below meth c Q nL s pc lv (.int x1 :: .ref (h 49) :: rest) := by
  obtain ⟨v, hv, hs⟩ := Bd_e hs
  exact cV_V (K := KC D cA cL h Z) X 49 (n := 1) (k_X5_fail hZ l D cA cL s x1 hv) wX5_fail_X5 ⟨hd1, hd2⟩ ⟨by decide, by decide, by decide +kernel⟩ (As := [.int x1]) rfl hr (sh_49).1 (fs := cF5 h 49 (s.1 49) (s.2 49)) (GC_5 (cA := cA) (cL := cL) sh_49 _ _) rfl rfl d hq (k _ hs)
theorem wX5_hasWord_X5 : GoodIn GT (wsV RX5 69 RX5 yX5_hasWord (.code yX5_hasWord cX5_hasWord 4 (some .boolean) :: GT)) := gt_V (gt_of 686 (by decide +kernel) rfl) (gt_of 688 (by decide +kernel) rfl) (gt_of 19 (by decide +kernel) rfl) (gt_of 202 (by decide +kernel) rfl) (gt_of 689 (by decide +kernel) rfl)
theorem vc_X5_hasWord_X5 {p : Program} {l : Launch} {e : Env} {st : State} {m : MethodId} {args : Array Value} {below : List Frame} {meth : Method} {c : Code} {Q : State → Prop} {nL : Nat} {cc : ByteArray} {s : ST} {pc q : Nat} {lv : List (Nat × Value)} {rest : List Value} {D : va_G} {cA cL : ClassId} {h : Nat → Nat} {Z : State → Heap → Prop} {sa : Nat → Nat} (hZ : ZK h Z sa) {d0 : Nat} (X : Cx (KC D cA cL h Z) p st m args meth c cc nL RX5) {x1 : Nat} (d : decode cc pc = .ok (.invokevirtual 69, 3)) (hq : pc + 3 = q) (hx1 : x1 < 30) (hd1 : 7 + 1 ≤ d0) (hd2 : 8 + (4 + 11) + 100 * 7 ≤ 100 * d0) (hr : (rest.map fun v => v.category).sum ≤ 8) {B : Type} {f : Int32 → Option B} {r : B} (hs : Bd (C_X5_hasWord s x1) f = some r) (k : ∀ y, f y = some r → WG (KC D cA cL h Z) p l e (rmD d0) st m args below meth c Q nL s q lv (.int y :: rest)) : WG (KC D cA cL h Z) p l e (rmD d0) st m args below meth c Q nL s pc lv (.ref (sa x1) :: .ref (h 49) :: rest) := by
  obtain ⟨v, hv, hs⟩ := Bd_e hs
  exact cV_I (K := KC D cA cL h Z) X 49 (n := 1) (k_X5_hasWord hZ l D cA cL s x1 hx1 hv) wX5_hasWord_X5 ⟨hd1, hd2⟩ ⟨by decide, by decide, by decide +kernel⟩ (As := [.ref (sa x1)]) rfl hr (sh_49).1 (fs := cF5 h 49 (s.1 49) (s.2 49)) (GC_5 (cA := cA) (cL := cL) sh_49 _ _) rfl rfl d hq (k _ hs)
def C_X5_takesHead (s : ST) (x1 : Nat) (x2 : Nat) : Option (Int32 × ST) := Bd (C_X5_hasWord s x1) fun y1 => if y1 = 0 then (some ((0 : Int32), s)) else (Lt (C_X4_isFull s x2) fun y2 => if y2 = 0 then (Bd (C_X5_advance s) fun s1 => some ((1 : Int32), s1)) else (Bd (C_X5_fail s (3 : Int32)) fun s2 => some ((1 : Int32), s2)))
set_option maxRecDepth 100000 in
set_option maxHeartbeats 4000000 in
theorem k_X5_takesHead {h : Nat → Nat} {Z : State → Heap → Prop} {sa : Nat → Nat} (hZ : ZK h Z sa) (l : Launch) (D : va_G) (cA cL : ClassId) (s : ST) (x1 : Nat) (x2 : Nat) (hx1 : x1 < 30) (hx2 : isK 4 x2) {o : Int32 × ST} (hs : C_X5_takesHead s x1 x2 = some o) : MI l (KC D cA cL h Z) 8 yX5_takesHead cX5_takesHead 3 (some .boolean) s [.ref (h 49), .ref (sa x1), .ref (h x2)] o.1 o.2 := by
  refine met_i (by decide) (Nat.le_of_ble_eq_true rfl) ?_
  intro p e st m args below meth c Q X RI
  unfold C_X5_takesHead at hs
  refine g_aload_n X dX5_takesHead_0 (q := 1) rfl 0 rfl ?_
  refine g_aload_n X dX5_takesHead_1 (q := 2) rfl 1 rfl ?_
  refine vc_X5_hasWord_X5 hZ X dX5_takesHead_2 (q := 5) rfl hx1 (Nat.le_of_ble_eq_true rfl) (Nat.le_of_ble_eq_true rfl) (Nat.le_of_ble_eq_true rfl) hs (fun y1 hs => ?_)
  refine g_if_ne X dX5_takesHead_5 (q := 8) rfl (tgt := 10) (by decide) hs ?_ ?_
  · intro hs
    refine g_aload_n X dX5_takesHead_10 (q := 11) rfl 2 rfl ?_
    refine vc_X4_isFull_X5 hZ X dX5_takesHead_11 (q := 14) rfl hx2 (Nat.le_of_ble_eq_true rfl) (Nat.le_of_ble_eq_true rfl) (Nat.le_of_ble_eq_true rfl) hs (fun y2 hs => ?_)
    refine g_if_eq X dX5_takesHead_14 (q := 17) rfl (tgt := 25) (by decide) hs ?_ ?_
    · intro hs
      refine g_aload_n X dX5_takesHead_25 (q := 26) rfl 0 rfl ?_
      refine vc_X5_advance_X5 hZ X dX5_takesHead_26 (q := 29) rfl (Nat.le_of_ble_eq_true rfl) (Nat.le_of_ble_eq_true rfl) (Nat.le_of_ble_eq_true rfl) hs (fun s1 hs => ?_)
      refine g_iconst X dX5_takesHead_29 (q := 30) rfl li_i1 ?_
      exact RI _ 30 _ _ _ (rU1 hs) rfl (rV1 hs) dX5_takesHead_30
    · intro hs
      refine g_aload_n X dX5_takesHead_17 (q := 18) rfl 0 rfl ?_
      refine g_iconst X dX5_takesHead_18 (q := 19) rfl li_i3 ?_
      refine vc_X5_fail_X5 hZ X dX5_takesHead_19 (q := 22) rfl (Nat.le_of_ble_eq_true rfl) (Nat.le_of_ble_eq_true rfl) (Nat.le_of_ble_eq_true rfl) hs (fun s2 hs => ?_)
      refine g_goto X dX5_takesHead_22 (tgt := 29) (by decide) ?_
      refine g_iconst X dX5_takesHead_29 (q := 30) rfl li_i1 ?_
      exact RI _ 30 _ _ _ (rU1 hs) rfl (rV1 hs) dX5_takesHead_30
  · intro hs
    refine g_iconst X dX5_takesHead_8 (q := 9) rfl li_i0 ?_
    exact RI _ 9 _ _ _ (rU1 hs) rfl (rV1 hs) dX5_takesHead_9
theorem dX5_peekNumber_0 : decode cX5_peekNumber 0 = .ok (.aload_n 0, 1) := by decide +kernel
theorem dX5_peekNumber_1 : decode cX5_peekNumber 1 = .ok (.getfield 24, 3) := by decide +kernel
theorem dX5_peekNumber_4 : decode cX5_peekNumber 4 = .ok (.iconst 2, 1) := by decide +kernel
theorem dX5_peekNumber_5 : decode cX5_peekNumber 5 = .ok (.if_icmp .ne 25, 3) := by decide +kernel
theorem dX5_peekNumber_8 : decode cX5_peekNumber 8 = .ok (.aload_n 0, 1) := by decide +kernel
theorem dX5_peekNumber_9 : decode cX5_peekNumber 9 = .ok (.getfield 41, 3) := by decide +kernel
theorem dX5_peekNumber_12 : decode cX5_peekNumber 12 = .ok (.sipush 400, 3) := by decide +kernel
theorem dX5_peekNumber_15 : decode cX5_peekNumber 15 = .ok (.if_icmp .gt 15, 3) := by decide +kernel
theorem dX5_peekNumber_18 : decode cX5_peekNumber 18 = .ok (.aload_n 0, 1) := by decide +kernel
theorem dX5_peekNumber_19 : decode cX5_peekNumber 19 = .ok (.getfield 21, 3) := by decide +kernel
theorem dX5_peekNumber_22 : decode cX5_peekNumber 22 = .ok (.aload_n 0, 1) := by decide +kernel
theorem dX5_peekNumber_23 : decode cX5_peekNumber 23 = .ok (.getfield 41, 3) := by decide +kernel
theorem dX5_peekNumber_26 : decode cX5_peekNumber 26 = .ok (.iaload, 1) := by decide +kernel
theorem dX5_peekNumber_27 : decode cX5_peekNumber 27 = .ok (.goto 4, 3) := by decide +kernel
theorem dX5_peekNumber_30 : decode cX5_peekNumber 30 = .ok (.iconst (-1), 1) := by decide +kernel
theorem dX5_peekNumber_31 : decode cX5_peekNumber 31 = .ok (.ireturn, 1) := by decide +kernel
def C_X5_peekNumber (s : ST) : Option (Int32) := if (s.1 49 7) = (2 : Int32) then (if (400 : Int32) < (s.1 49 6) then (some (-1 : Int32)) else (Gl s 53 401 (s.1 49 6) fun y1 => some y1)) else (some (-1 : Int32))
set_option maxRecDepth 100000 in
set_option maxHeartbeats 4000000 in
theorem k_X5_peekNumber {h : Nat → Nat} {Z : State → Heap → Prop} {sa : Nat → Nat} (hZ : ZK h Z sa) (l : Launch) (D : va_G) (cA cL : ClassId) (s : ST) {o : Int32} (hs : C_X5_peekNumber s = some o) : MI l (KC D cA cL h Z) 1 yX5_peekNumber cX5_peekNumber 1 (some .int) s [.ref (h 49)] o s := by
  refine met_i (by decide) (Nat.le_of_ble_eq_true rfl) ?_
  intro p e st m args below meth c Q X RI
  unfold C_X5_peekNumber at hs
  refine g_aload_n X dX5_peekNumber_0 (q := 1) rfl 0 rfl ?_
  refine cg_5_7 X dX5_peekNumber_1 (q := 4) rfl sh_49 lf_X5_24 ?_
  refine g_iconst X dX5_peekNumber_4 (q := 5) rfl li_i2 ?_
  refine g_icmp_ne X dX5_peekNumber_5 (q := 8) rfl (tgt := 30) (by decide) hs ?_ ?_
  · intro hs
    refine g_iconst X dX5_peekNumber_30 (q := 31) rfl li_im1 ?_
    exact RI _ 31 _ _ _ rfl rfl (Option.some.inj hs) dX5_peekNumber_31
  · intro hs
    refine g_aload_n X dX5_peekNumber_8 (q := 9) rfl 0 rfl ?_
    refine cg_5_6 X dX5_peekNumber_9 (q := 12) rfl sh_49 lf_X5_41 ?_
    refine g_sipush X dX5_peekNumber_12 (q := 15) rfl li_s400 ?_
    refine g_icmp_gt X dX5_peekNumber_15 (q := 18) rfl (tgt := 30) (by decide) hs ?_ ?_
    · intro hs
      refine g_iconst X dX5_peekNumber_30 (q := 31) rfl li_im1 ?_
      exact RI _ 31 _ _ _ rfl rfl (Option.some.inj hs) dX5_peekNumber_31
    · intro hs
      refine g_aload_n X dX5_peekNumber_18 (q := 19) rfl 0 rfl ?_
      refine cg_5_4 X dX5_peekNumber_19 (q := 22) rfl sh_49 lf_X5_21 ?_
      refine g_aload_n X dX5_peekNumber_22 (q := 23) rfl 0 rfl ?_
      refine cg_5_6 X dX5_peekNumber_23 (q := 26) rfl sh_49 lf_X5_41 ?_
      refine ca_ld X dX5_peekNumber_26 (q := 27) rfl 53 sh_53 rfl hs (fun y1 hs => ?_)
      refine g_goto X dX5_peekNumber_27 (tgt := 31) (by decide) ?_
      exact RI _ 31 _ _ _ rfl rfl (Option.some.inj hs) dX5_peekNumber_31
theorem dX5_needNumber_0 : decode cX5_needNumber 0 = .ok (.aload_n 0, 1) := by decide +kernel
theorem dX5_needNumber_1 : decode cX5_needNumber 1 = .ok (.invokevirtual 96, 3) := by decide +kernel
theorem dX5_needNumber_4 : decode cX5_needNumber 4 = .ok (.istore_n 3, 1) := by decide +kernel
theorem dX5_needNumber_5 : decode cX5_needNumber 5 = .ok (.iload_n 3, 1) := by decide +kernel
theorem dX5_needNumber_6 : decode cX5_needNumber 6 = .ok (.iconst (-1), 1) := by decide +kernel
theorem dX5_needNumber_7 : decode cX5_needNumber 7 = .ok (.if_icmp .ne 10, 3) := by decide +kernel
theorem dX5_needNumber_10 : decode cX5_needNumber 10 = .ok (.aload_n 0, 1) := by decide +kernel
theorem dX5_needNumber_11 : decode cX5_needNumber 11 = .ok (.iconst 1, 1) := by decide +kernel
theorem dX5_needNumber_12 : decode cX5_needNumber 12 = .ok (.invokevirtual 86, 3) := by decide +kernel
theorem dX5_needNumber_15 : decode cX5_needNumber 15 = .ok (.iconst 0, 1) := by decide +kernel
theorem dX5_needNumber_16 : decode cX5_needNumber 16 = .ok (.ireturn, 1) := by decide +kernel
theorem dX5_needNumber_17 : decode cX5_needNumber 17 = .ok (.iload_n 3, 1) := by decide +kernel
theorem dX5_needNumber_18 : decode cX5_needNumber 18 = .ok (.iload_n 1, 1) := by decide +kernel
theorem dX5_needNumber_19 : decode cX5_needNumber 19 = .ok (.if_icmp .lt 8, 3) := by decide +kernel
theorem dX5_needNumber_22 : decode cX5_needNumber 22 = .ok (.iload_n 3, 1) := by decide +kernel
theorem dX5_needNumber_23 : decode cX5_needNumber 23 = .ok (.iload_n 2, 1) := by decide +kernel
theorem dX5_needNumber_24 : decode cX5_needNumber 24 = .ok (.if_icmp .le 10, 3) := by decide +kernel
theorem dX5_needNumber_27 : decode cX5_needNumber 27 = .ok (.aload_n 0, 1) := by decide +kernel
theorem dX5_needNumber_28 : decode cX5_needNumber 28 = .ok (.iconst 2, 1) := by decide +kernel
theorem dX5_needNumber_29 : decode cX5_needNumber 29 = .ok (.invokevirtual 86, 3) := by decide +kernel
theorem dX5_needNumber_32 : decode cX5_needNumber 32 = .ok (.iconst 0, 1) := by decide +kernel
theorem dX5_needNumber_33 : decode cX5_needNumber 33 = .ok (.ireturn, 1) := by decide +kernel
theorem dX5_needNumber_34 : decode cX5_needNumber 34 = .ok (.aload_n 0, 1) := by decide +kernel
theorem dX5_needNumber_35 : decode cX5_needNumber 35 = .ok (.invokevirtual 73, 3) := by decide +kernel
theorem dX5_needNumber_38 : decode cX5_needNumber 38 = .ok (.iload_n 3, 1) := by decide +kernel
theorem dX5_needNumber_39 : decode cX5_needNumber 39 = .ok (.ireturn, 1) := by decide +kernel
theorem wX5_peekNumber_X5 : GoodIn GT (wsV RX5 96 RX5 yX5_peekNumber (.code yX5_peekNumber cX5_peekNumber 1 (some .int) :: GT)) := gt_V (gt_of 758 (by decide +kernel) rfl) (gt_of 760 (by decide +kernel) rfl) (gt_of 25 (by decide +kernel) rfl) (gt_of 202 (by decide +kernel) rfl) (gt_of 761 (by decide +kernel) rfl)
theorem vc_X5_peekNumber_X5 {p : Program} {l : Launch} {e : Env} {st : State} {m : MethodId} {args : Array Value} {below : List Frame} {meth : Method} {c : Code} {Q : State → Prop} {nL : Nat} {cc : ByteArray} {s : ST} {pc q : Nat} {lv : List (Nat × Value)} {rest : List Value} {D : va_G} {cA cL : ClassId} {h : Nat → Nat} {Z : State → Heap → Prop} {sa : Nat → Nat} (hZ : ZK h Z sa) {d0 : Nat} (X : Cx (KC D cA cL h Z) p st m args meth c cc nL RX5) (d : decode cc pc = .ok (.invokevirtual 96, 3)) (hq : pc + 3 = q) (hd1 : 1 + 1 ≤ d0) (hd2 : 8 + (1 + 11) + 100 * 1 ≤ 100 * d0) (hr : (rest.map fun v => v.category).sum ≤ 8) {B : Type} {f : Int32 → Option B} {r : B} (hs : Bd (C_X5_peekNumber s) f = some r) (k : ∀ y, f y = some r → WG (KC D cA cL h Z) p l e (rmD d0) st m args below meth c Q nL s q lv (.int y :: rest)) : WG (KC D cA cL h Z) p l e (rmD d0) st m args below meth c Q nL s pc lv (.ref (h 49) :: rest) := by
  obtain ⟨v, hv, hs⟩ := Bd_e hs
  exact cV_I (K := KC D cA cL h Z) X 49 (n := 0) (k_X5_peekNumber hZ l D cA cL s hv) wX5_peekNumber_X5 ⟨hd1, hd2⟩ ⟨by decide, by decide, by decide +kernel⟩ (As := []) rfl hr (sh_49).1 (fs := cF5 h 49 (s.1 49) (s.2 49)) (GC_5 (cA := cA) (cL := cL) sh_49 _ _) rfl rfl d hq (k _ hs)
def C_X5_needNumber (s : ST) (x1 : Int32) (x2 : Int32) : Option (Int32 × ST) := Bd (C_X5_peekNumber s) fun y1 => if y1 = (-1 : Int32) then (Bd (C_X5_fail s (1 : Int32)) fun s3 => some ((0 : Int32), s3)) else (Lt (Bd (C_X5_fail s (2 : Int32)) fun s1 => some ((0 : Int32), s1) : Option (Int32 × ST)) fun j1 => if y1 < x1 then (j1) else (if y1 ≤ x2 then (Bd (C_X5_advance s) fun s2 => some (y1, s2)) else (j1)))
set_option maxRecDepth 100000 in
set_option maxHeartbeats 4000000 in
theorem k_X5_needNumber {h : Nat → Nat} {Z : State → Heap → Prop} {sa : Nat → Nat} (hZ : ZK h Z sa) (l : Launch) (D : va_G) (cA cL : ClassId) (s : ST) (x1 : Int32) (x2 : Int32) {o : Int32 × ST} (hs : C_X5_needNumber s x1 x2 = some o) : MI l (KC D cA cL h Z) 2 yX5_needNumber cX5_needNumber 4 (some .int) s [.ref (h 49), .int x1, .int x2] o.1 o.2 := by
  refine met_i (by decide) (Nat.le_of_ble_eq_true rfl) ?_
  intro p e st m args below meth c Q X RI
  unfold C_X5_needNumber at hs
  refine g_aload_n X dX5_needNumber_0 (q := 1) rfl 0 rfl ?_
  refine vc_X5_peekNumber_X5 hZ X dX5_needNumber_1 (q := 4) rfl (Nat.le_of_ble_eq_true rfl) (Nat.le_of_ble_eq_true rfl) (Nat.le_of_ble_eq_true rfl) hs (fun y1 hs => ?_)
  refine g_istore_n X dX5_needNumber_4 (q := 5) rfl (Nat.le_of_ble_eq_true rfl) (lv' := [(3, .int y1), (0, .ref (h 49)), (1, .int x1), (2, .int x2)]) rfl ?_
  refine g_iload_n X dX5_needNumber_5 (q := 6) rfl 0 rfl ?_
  refine g_iconst X dX5_needNumber_6 (q := 7) rfl li_im1 ?_
  refine g_icmp_ne X dX5_needNumber_7 (q := 10) rfl (tgt := 17) (by decide) hs ?_ ?_
  · intro hs
    refine g_iload_n X dX5_needNumber_17 (q := 18) rfl 0 rfl ?_
    refine g_iload_n X dX5_needNumber_18 (q := 19) rfl 2 rfl ?_
    refine jnW0 (WG (KC D cA cL h Z) p l e (rmD 2) st m args below meth c Q 4 s 27 [(0, .ref (h 49))] []) hs (fun  hs => ?_) (fun j1 ih1 hs => ?_)
    · refine g_aload_n X dX5_needNumber_27 (q := 28) rfl 0 rfl ?_
      refine g_iconst X dX5_needNumber_28 (q := 29) rfl li_i2 ?_
      refine vc_X5_fail_X5 hZ X dX5_needNumber_29 (q := 32) rfl (Nat.le_of_ble_eq_true rfl) (Nat.le_of_ble_eq_true rfl) (Nat.le_of_ble_eq_true rfl) hs (fun s1 hs => ?_)
      refine g_iconst X dX5_needNumber_32 (q := 33) rfl li_i0 ?_
      exact RI _ 33 _ _ _ (rU1 hs) rfl (rV1 hs) dX5_needNumber_33
    refine g_icmp_lt X dX5_needNumber_19 (q := 22) rfl (tgt := 27) (by decide) hs ?_ ?_
    · intro hs
      exact wg_sub [1] rfl (ih1 hs)
    · intro hs
      refine g_iload_n X dX5_needNumber_22 (q := 23) rfl 0 rfl ?_
      refine g_iload_n X dX5_needNumber_23 (q := 24) rfl 3 rfl ?_
      refine g_icmp_le X dX5_needNumber_24 (q := 27) rfl (tgt := 34) (by decide) hs ?_ ?_
      · intro hs
        refine g_aload_n X dX5_needNumber_34 (q := 35) rfl 1 rfl ?_
        refine vc_X5_advance_X5 hZ X dX5_needNumber_35 (q := 38) rfl (Nat.le_of_ble_eq_true rfl) (Nat.le_of_ble_eq_true rfl) (Nat.le_of_ble_eq_true rfl) hs (fun s2 hs => ?_)
        refine g_iload_n X dX5_needNumber_38 (q := 39) rfl 0 rfl ?_
        exact RI _ 39 _ _ _ (rU1 hs) rfl (rV1 hs) dX5_needNumber_39
      · intro hs
        exact wg_sub [1] rfl (ih1 hs)
  · intro hs
    refine g_aload_n X dX5_needNumber_10 (q := 11) rfl 1 rfl ?_
    refine g_iconst X dX5_needNumber_11 (q := 12) rfl li_i1 ?_
    refine vc_X5_fail_X5 hZ X dX5_needNumber_12 (q := 15) rfl (Nat.le_of_ble_eq_true rfl) (Nat.le_of_ble_eq_true rfl) (Nat.le_of_ble_eq_true rfl) hs (fun s3 hs => ?_)
    refine g_iconst X dX5_needNumber_15 (q := 16) rfl li_i0 ?_
    exact RI _ 16 _ _ _ (rU1 hs) rfl (rV1 hs) dX5_needNumber_16
theorem dX5_takesWord_0 : decode cX5_takesWord 0 = .ok (.aload_n 0, 1) := by decide +kernel
theorem dX5_takesWord_1 : decode cX5_takesWord 1 = .ok (.aload_n 1, 1) := by decide +kernel
theorem dX5_takesWord_2 : decode cX5_takesWord 2 = .ok (.invokevirtual 69, 3) := by decide +kernel
theorem dX5_takesWord_5 : decode cX5_takesWord 5 = .ok (.istore_n 2, 1) := by decide +kernel
theorem dX5_takesWord_6 : decode cX5_takesWord 6 = .ok (.iload_n 2, 1) := by decide +kernel
theorem dX5_takesWord_7 : decode cX5_takesWord 7 = .ok (.ifCond .eq 7, 3) := by decide +kernel
theorem dX5_takesWord_10 : decode cX5_takesWord 10 = .ok (.aload_n 0, 1) := by decide +kernel
theorem dX5_takesWord_11 : decode cX5_takesWord 11 = .ok (.invokevirtual 73, 3) := by decide +kernel
theorem dX5_takesWord_14 : decode cX5_takesWord 14 = .ok (.iload_n 2, 1) := by decide +kernel
theorem dX5_takesWord_15 : decode cX5_takesWord 15 = .ok (.ireturn, 1) := by decide +kernel
def C_X5_takesWord (s : ST) (x1 : Nat) : Option (Int32 × ST) := Bd (C_X5_hasWord s x1) fun y1 => if y1 = 0 then (some ((y1 &&& 1), s)) else (Bd (C_X5_advance s) fun s1 => some ((y1 &&& 1), s1))
set_option maxRecDepth 100000 in
set_option maxHeartbeats 4000000 in
theorem k_X5_takesWord {h : Nat → Nat} {Z : State → Heap → Prop} {sa : Nat → Nat} (hZ : ZK h Z sa) (l : Launch) (D : va_G) (cA cL : ClassId) (s : ST) (x1 : Nat) (hx1 : x1 < 30) {o : Int32 × ST} (hs : C_X5_takesWord s x1 = some o) : MI l (KC D cA cL h Z) 8 yX5_takesWord cX5_takesWord 3 (some .boolean) s [.ref (h 49), .ref (sa x1)] o.1 o.2 := by
  refine met_i (by decide) (Nat.le_of_ble_eq_true rfl) ?_
  intro p e st m args below meth c Q X RI
  unfold C_X5_takesWord at hs
  refine g_aload_n X dX5_takesWord_0 (q := 1) rfl 0 rfl ?_
  refine g_aload_n X dX5_takesWord_1 (q := 2) rfl 1 rfl ?_
  refine vc_X5_hasWord_X5 hZ X dX5_takesWord_2 (q := 5) rfl hx1 (Nat.le_of_ble_eq_true rfl) (Nat.le_of_ble_eq_true rfl) (Nat.le_of_ble_eq_true rfl) hs (fun y1 hs => ?_)
  refine g_istore_n X dX5_takesWord_5 (q := 6) rfl (Nat.le_of_ble_eq_true rfl) (lv' := [(2, .int y1), (0, .ref (h 49)), (1, .ref (sa x1))]) rfl ?_
  refine g_iload_n X dX5_takesWord_6 (q := 7) rfl 0 rfl ?_
  refine g_if_eq X dX5_takesWord_7 (q := 10) rfl (tgt := 14) (by decide) hs ?_ ?_
  · intro hs
    refine g_iload_n X dX5_takesWord_14 (q := 15) rfl 0 rfl ?_
    exact RI _ 15 _ _ _ (rU1 hs) rfl (rV1 hs) dX5_takesWord_15
  · intro hs
    refine g_aload_n X dX5_takesWord_10 (q := 11) rfl 1 rfl ?_
    refine vc_X5_advance_X5 hZ X dX5_takesWord_11 (q := 14) rfl (Nat.le_of_ble_eq_true rfl) (Nat.le_of_ble_eq_true rfl) (Nat.le_of_ble_eq_true rfl) hs (fun s1 hs => ?_)
    refine g_iload_n X dX5_takesWord_14 (q := 15) rfl 0 rfl ?_
    exact RI _ 15 _ _ _ (rU1 hs) rfl (rV1 hs) dX5_takesWord_15
theorem dX5_needWord_0 : decode cX5_needWord 0 = .ok (.aload_n 0, 1) := by decide +kernel
theorem dX5_needWord_1 : decode cX5_needWord 1 = .ok (.aload_n 1, 1) := by decide +kernel
theorem dX5_needWord_2 : decode cX5_needWord 2 = .ok (.invokevirtual 90, 3) := by decide +kernel
theorem dX5_needWord_5 : decode cX5_needWord 5 = .ok (.ifCond .ne 8, 3) := by decide +kernel
theorem dX5_needWord_8 : decode cX5_needWord 8 = .ok (.aload_n 0, 1) := by decide +kernel
theorem dX5_needWord_9 : decode cX5_needWord 9 = .ok (.iconst 1, 1) := by decide +kernel
theorem dX5_needWord_10 : decode cX5_needWord 10 = .ok (.invokevirtual 86, 3) := by decide +kernel
theorem dX5_needWord_13 : decode cX5_needWord 13 = .ok (.return_, 1) := by decide +kernel
theorem wX5_takesWord_X5 : GoodIn GT (wsV RX5 90 RX5 yX5_takesWord (.code yX5_takesWord cX5_takesWord 3 (some .boolean) :: GT)) := gt_V (gt_of 767 (by decide +kernel) rfl) (gt_of 769 (by decide +kernel) rfl) (gt_of 27 (by decide +kernel) rfl) (gt_of 202 (by decide +kernel) rfl) (gt_of 770 (by decide +kernel) rfl)
theorem vc_X5_takesWord_X5 {p : Program} {l : Launch} {e : Env} {st : State} {m : MethodId} {args : Array Value} {below : List Frame} {meth : Method} {c : Code} {Q : State → Prop} {nL : Nat} {cc : ByteArray} {s : ST} {pc q : Nat} {lv : List (Nat × Value)} {rest : List Value} {D : va_G} {cA cL : ClassId} {h : Nat → Nat} {Z : State → Heap → Prop} {sa : Nat → Nat} (hZ : ZK h Z sa) {d0 : Nat} (X : Cx (KC D cA cL h Z) p st m args meth c cc nL RX5) {x1 : Nat} (d : decode cc pc = .ok (.invokevirtual 90, 3)) (hq : pc + 3 = q) (hx1 : x1 < 30) (hd1 : 8 + 1 ≤ d0) (hd2 : 8 + (3 + 11) + 100 * 8 ≤ 100 * d0) (hr : (rest.map fun v => v.category).sum ≤ 8) {B : Type} {f : Int32 × ST → Option B} {r : B} (hs : Bd (C_X5_takesWord s x1) f = some r) (k : ∀ y, f y = some r → WG (KC D cA cL h Z) p l e (rmD d0) st m args below meth c Q nL y.2 q lv (.int y.1 :: rest)) : WG (KC D cA cL h Z) p l e (rmD d0) st m args below meth c Q nL s pc lv (.ref (sa x1) :: .ref (h 49) :: rest) := by
  obtain ⟨v, hv, hs⟩ := Bd_e hs
  exact cV_I (K := KC D cA cL h Z) X 49 (n := 1) (k_X5_takesWord hZ l D cA cL s x1 hx1 hv) wX5_takesWord_X5 ⟨hd1, hd2⟩ ⟨by decide, by decide, by decide +kernel⟩ (As := [.ref (sa x1)]) rfl hr (sh_49).1 (fs := cF5 h 49 (s.1 49) (s.2 49)) (GC_5 (cA := cA) (cL := cL) sh_49 _ _) rfl rfl d hq (k _ hs)
def C_X5_needWord (s : ST) (x1 : Nat) : Option (ST) := Bd (C_X5_takesWord s x1) fun y1 => if y1.1 = 0 then (Bd (C_X5_fail y1.2 (1 : Int32)) fun s1 => some s1) else (some y1.2)
set_option maxRecDepth 100000 in
set_option maxHeartbeats 4000000 in
theorem k_X5_needWord {h : Nat → Nat} {Z : State → Heap → Prop} {sa : Nat → Nat} (hZ : ZK h Z sa) (l : Launch) (D : va_G) (cA cL : ClassId) (s : ST) (x1 : Nat) (hx1 : x1 < 30) {o : ST} (hs : C_X5_needWord s x1 = some o) : MV l (KC D cA cL h Z) 9 yX5_needWord cX5_needWord 2 none s [.ref (h 49), .ref (sa x1)] o := by
  refine met_v (by decide) (Nat.le_of_ble_eq_true rfl) ?_
  intro p e st m args below meth c Q X RI
  unfold C_X5_needWord at hs
  refine g_aload_n X dX5_needWord_0 (q := 1) rfl 0 rfl ?_
  refine g_aload_n X dX5_needWord_1 (q := 2) rfl 1 rfl ?_
  refine vc_X5_takesWord_X5 hZ X dX5_needWord_2 (q := 5) rfl hx1 (Nat.le_of_ble_eq_true rfl) (Nat.le_of_ble_eq_true rfl) (Nat.le_of_ble_eq_true rfl) hs (fun y1 hs => ?_)
  refine g_if_ne X dX5_needWord_5 (q := 8) rfl (tgt := 13) (by decide) hs ?_ ?_
  · intro hs
    exact RI _ 13 _ (Option.some.inj hs) dX5_needWord_13
  · intro hs
    refine g_aload_n X dX5_needWord_8 (q := 9) rfl 0 rfl ?_
    refine g_iconst X dX5_needWord_9 (q := 10) rfl li_i1 ?_
    refine vc_X5_fail_X5 hZ X dX5_needWord_10 (q := 13) rfl (Nat.le_of_ble_eq_true rfl) (Nat.le_of_ble_eq_true rfl) (Nat.le_of_ble_eq_true rfl) hs (fun s1 hs => ?_)
    exact RI _ 13 _ (Option.some.inj hs) dX5_needWord_13
theorem dX5_hasSign_0 : decode cX5_hasSign 0 = .ok (.aload_n 0, 1) := by decide +kernel
theorem dX5_hasSign_1 : decode cX5_hasSign 1 = .ok (.getfield 24, 3) := by decide +kernel
theorem dX5_hasSign_4 : decode cX5_hasSign 4 = .ok (.iconst 3, 1) := by decide +kernel
theorem dX5_hasSign_5 : decode cX5_hasSign 5 = .ok (.if_icmp .ne 50, 3) := by decide +kernel
theorem dX5_hasSign_8 : decode cX5_hasSign 8 = .ok (.aload_n 0, 1) := by decide +kernel
theorem dX5_hasSign_9 : decode cX5_hasSign 9 = .ok (.getfield 41, 3) := by decide +kernel
theorem dX5_hasSign_12 : decode cX5_hasSign 12 = .ok (.sipush 400, 3) := by decide +kernel
theorem dX5_hasSign_15 : decode cX5_hasSign 15 = .ok (.if_icmp .gt 40, 3) := by decide +kernel
theorem dX5_hasSign_18 : decode cX5_hasSign 18 = .ok (.aload_n 0, 1) := by decide +kernel
theorem dX5_hasSign_19 : decode cX5_hasSign 19 = .ok (.getfield 18, 3) := by decide +kernel
theorem dX5_hasSign_22 : decode cX5_hasSign 22 = .ok (.aload_n 0, 1) := by decide +kernel
theorem dX5_hasSign_23 : decode cX5_hasSign 23 = .ok (.getfield 41, 3) := by decide +kernel
theorem dX5_hasSign_26 : decode cX5_hasSign 26 = .ok (.iaload, 1) := by decide +kernel
theorem dX5_hasSign_27 : decode cX5_hasSign 27 = .ok (.sipush 400, 3) := by decide +kernel
theorem dX5_hasSign_30 : decode cX5_hasSign 30 = .ok (.if_icmp .ge 25, 3) := by decide +kernel
theorem dX5_hasSign_33 : decode cX5_hasSign 33 = .ok (.aload_n 0, 1) := by decide +kernel
theorem dX5_hasSign_34 : decode cX5_hasSign 34 = .ok (.getfield 9, 3) := by decide +kernel
theorem dX5_hasSign_37 : decode cX5_hasSign 37 = .ok (.aload_n 0, 1) := by decide +kernel
theorem dX5_hasSign_38 : decode cX5_hasSign 38 = .ok (.getfield 18, 3) := by decide +kernel
theorem dX5_hasSign_41 : decode cX5_hasSign 41 = .ok (.aload_n 0, 1) := by decide +kernel
theorem dX5_hasSign_42 : decode cX5_hasSign 42 = .ok (.getfield 41, 3) := by decide +kernel
theorem dX5_hasSign_45 : decode cX5_hasSign 45 = .ok (.iaload, 1) := by decide +kernel
theorem dX5_hasSign_46 : decode cX5_hasSign 46 = .ok (.iaload, 1) := by decide +kernel
theorem dX5_hasSign_47 : decode cX5_hasSign 47 = .ok (.iload_n 1, 1) := by decide +kernel
theorem dX5_hasSign_48 : decode cX5_hasSign 48 = .ok (.if_icmp .ne 7, 3) := by decide +kernel
theorem dX5_hasSign_51 : decode cX5_hasSign 51 = .ok (.iconst 1, 1) := by decide +kernel
theorem dX5_hasSign_52 : decode cX5_hasSign 52 = .ok (.goto 4, 3) := by decide +kernel
theorem dX5_hasSign_55 : decode cX5_hasSign 55 = .ok (.iconst 0, 1) := by decide +kernel
theorem dX5_hasSign_56 : decode cX5_hasSign 56 = .ok (.ireturn, 1) := by decide +kernel
def C_X5_hasSign (s : ST) (x1 : Int32) : Option (Int32) := if (s.1 49 7) = (3 : Int32) then (if (400 : Int32) < (s.1 49 6) then (some (0 : Int32)) else (Gl s 52 401 (s.1 49 6) fun y1 => if (400 : Int32) ≤ y1 then (some (0 : Int32)) else (Gl s 52 401 (s.1 49 6) fun y2 => Gl s 50 400 y2 fun y3 => if y3 = x1 then (some (1 : Int32)) else (some (0 : Int32))))) else (some (0 : Int32))
set_option maxRecDepth 100000 in
set_option maxHeartbeats 4000000 in
theorem k_X5_hasSign {h : Nat → Nat} {Z : State → Heap → Prop} {sa : Nat → Nat} (hZ : ZK h Z sa) (l : Launch) (D : va_G) (cA cL : ClassId) (s : ST) (x1 : Int32) {o : Int32} (hs : C_X5_hasSign s x1 = some o) : MI l (KC D cA cL h Z) 1 yX5_hasSign cX5_hasSign 2 (some .boolean) s [.ref (h 49), .int x1] o s := by
  refine met_i (by decide) (Nat.le_of_ble_eq_true rfl) ?_
  intro p e st m args below meth c Q X RI
  unfold C_X5_hasSign at hs
  refine g_aload_n X dX5_hasSign_0 (q := 1) rfl 0 rfl ?_
  refine cg_5_7 X dX5_hasSign_1 (q := 4) rfl sh_49 lf_X5_24 ?_
  refine g_iconst X dX5_hasSign_4 (q := 5) rfl li_i3 ?_
  refine g_icmp_ne X dX5_hasSign_5 (q := 8) rfl (tgt := 55) (by decide) hs ?_ ?_
  · intro hs
    refine g_iconst X dX5_hasSign_55 (q := 56) rfl li_i0 ?_
    exact RI _ 56 _ _ _ rfl rfl (Option.some.inj hs) dX5_hasSign_56
  · intro hs
    refine g_aload_n X dX5_hasSign_8 (q := 9) rfl 0 rfl ?_
    refine cg_5_6 X dX5_hasSign_9 (q := 12) rfl sh_49 lf_X5_41 ?_
    refine g_sipush X dX5_hasSign_12 (q := 15) rfl li_s400 ?_
    refine g_icmp_gt X dX5_hasSign_15 (q := 18) rfl (tgt := 55) (by decide) hs ?_ ?_
    · intro hs
      refine g_iconst X dX5_hasSign_55 (q := 56) rfl li_i0 ?_
      exact RI _ 56 _ _ _ rfl rfl (Option.some.inj hs) dX5_hasSign_56
    · intro hs
      refine g_aload_n X dX5_hasSign_18 (q := 19) rfl 0 rfl ?_
      refine cg_5_3 X dX5_hasSign_19 (q := 22) rfl sh_49 lf_X5_18 ?_
      refine g_aload_n X dX5_hasSign_22 (q := 23) rfl 0 rfl ?_
      refine cg_5_6 X dX5_hasSign_23 (q := 26) rfl sh_49 lf_X5_41 ?_
      refine ca_ld X dX5_hasSign_26 (q := 27) rfl 52 sh_52 rfl hs (fun y1 hs => ?_)
      refine g_sipush X dX5_hasSign_27 (q := 30) rfl li_s400 ?_
      refine g_icmp_ge X dX5_hasSign_30 (q := 33) rfl (tgt := 55) (by decide) hs ?_ ?_
      · intro hs
        refine g_iconst X dX5_hasSign_55 (q := 56) rfl li_i0 ?_
        exact RI _ 56 _ _ _ rfl rfl (Option.some.inj hs) dX5_hasSign_56
      · intro hs
        refine g_aload_n X dX5_hasSign_33 (q := 34) rfl 0 rfl ?_
        refine cg_5_0 X dX5_hasSign_34 (q := 37) rfl sh_49 lf_X5_9 ?_
        refine g_aload_n X dX5_hasSign_37 (q := 38) rfl 0 rfl ?_
        refine cg_5_3 X dX5_hasSign_38 (q := 41) rfl sh_49 lf_X5_18 ?_
        refine g_aload_n X dX5_hasSign_41 (q := 42) rfl 0 rfl ?_
        refine cg_5_6 X dX5_hasSign_42 (q := 45) rfl sh_49 lf_X5_41 ?_
        refine ca_ld X dX5_hasSign_45 (q := 46) rfl 52 sh_52 rfl hs (fun y2 hs => ?_)
        refine ca_ld X dX5_hasSign_46 (q := 47) rfl 50 sh_50 rfl hs (fun y3 hs => ?_)
        refine g_iload_n X dX5_hasSign_47 (q := 48) rfl 1 rfl ?_
        refine g_icmp_ne X dX5_hasSign_48 (q := 51) rfl (tgt := 55) (by decide) hs ?_ ?_
        · intro hs
          refine g_iconst X dX5_hasSign_55 (q := 56) rfl li_i0 ?_
          exact RI _ 56 _ _ _ rfl rfl (Option.some.inj hs) dX5_hasSign_56
        · intro hs
          refine g_iconst X dX5_hasSign_51 (q := 52) rfl li_i1 ?_
          refine g_goto X dX5_hasSign_52 (tgt := 56) (by decide) ?_
          exact RI _ 56 _ _ _ rfl rfl (Option.some.inj hs) dX5_hasSign_56
theorem dX5_takesSign_0 : decode cX5_takesSign 0 = .ok (.aload_n 0, 1) := by decide +kernel
theorem dX5_takesSign_1 : decode cX5_takesSign 1 = .ok (.iload_n 1, 1) := by decide +kernel
theorem dX5_takesSign_2 : decode cX5_takesSign 2 = .ok (.invokevirtual 76, 3) := by decide +kernel
theorem dX5_takesSign_5 : decode cX5_takesSign 5 = .ok (.istore_n 2, 1) := by decide +kernel
theorem dX5_takesSign_6 : decode cX5_takesSign 6 = .ok (.iload_n 2, 1) := by decide +kernel
theorem dX5_takesSign_7 : decode cX5_takesSign 7 = .ok (.ifCond .eq 7, 3) := by decide +kernel
theorem dX5_takesSign_10 : decode cX5_takesSign 10 = .ok (.aload_n 0, 1) := by decide +kernel
theorem dX5_takesSign_11 : decode cX5_takesSign 11 = .ok (.invokevirtual 73, 3) := by decide +kernel
theorem dX5_takesSign_14 : decode cX5_takesSign 14 = .ok (.iload_n 2, 1) := by decide +kernel
theorem dX5_takesSign_15 : decode cX5_takesSign 15 = .ok (.ireturn, 1) := by decide +kernel
theorem wX5_hasSign_X5 : GoodIn GT (wsV RX5 76 RX5 yX5_hasSign (.code yX5_hasSign cX5_hasSign 2 (some .boolean) :: GT)) := gt_V (gt_of 780 (by decide +kernel) rfl) (gt_of 782 (by decide +kernel) rfl) (gt_of 30 (by decide +kernel) rfl) (gt_of 202 (by decide +kernel) rfl) (gt_of 783 (by decide +kernel) rfl)
theorem vc_X5_hasSign_X5 {p : Program} {l : Launch} {e : Env} {st : State} {m : MethodId} {args : Array Value} {below : List Frame} {meth : Method} {c : Code} {Q : State → Prop} {nL : Nat} {cc : ByteArray} {s : ST} {pc q : Nat} {lv : List (Nat × Value)} {rest : List Value} {D : va_G} {cA cL : ClassId} {h : Nat → Nat} {Z : State → Heap → Prop} {sa : Nat → Nat} (hZ : ZK h Z sa) {d0 : Nat} (X : Cx (KC D cA cL h Z) p st m args meth c cc nL RX5) {x1 : Int32} (d : decode cc pc = .ok (.invokevirtual 76, 3)) (hq : pc + 3 = q) (hd1 : 1 + 1 ≤ d0) (hd2 : 8 + (2 + 11) + 100 * 1 ≤ 100 * d0) (hr : (rest.map fun v => v.category).sum ≤ 8) {B : Type} {f : Int32 → Option B} {r : B} (hs : Bd (C_X5_hasSign s x1) f = some r) (k : ∀ y, f y = some r → WG (KC D cA cL h Z) p l e (rmD d0) st m args below meth c Q nL s q lv (.int y :: rest)) : WG (KC D cA cL h Z) p l e (rmD d0) st m args below meth c Q nL s pc lv (.int x1 :: .ref (h 49) :: rest) := by
  obtain ⟨v, hv, hs⟩ := Bd_e hs
  exact cV_I (K := KC D cA cL h Z) X 49 (n := 1) (k_X5_hasSign hZ l D cA cL s x1 hv) wX5_hasSign_X5 ⟨hd1, hd2⟩ ⟨by decide, by decide, by decide +kernel⟩ (As := [.int x1]) rfl hr (sh_49).1 (fs := cF5 h 49 (s.1 49) (s.2 49)) (GC_5 (cA := cA) (cL := cL) sh_49 _ _) rfl rfl d hq (k _ hs)
def C_X5_takesSign (s : ST) (x1 : Int32) : Option (Int32 × ST) := Bd (C_X5_hasSign s x1) fun y1 => if y1 = 0 then (some ((y1 &&& 1), s)) else (Bd (C_X5_advance s) fun s1 => some ((y1 &&& 1), s1))
set_option maxRecDepth 100000 in
set_option maxHeartbeats 4000000 in
theorem k_X5_takesSign {h : Nat → Nat} {Z : State → Heap → Prop} {sa : Nat → Nat} (hZ : ZK h Z sa) (l : Launch) (D : va_G) (cA cL : ClassId) (s : ST) (x1 : Int32) {o : Int32 × ST} (hs : C_X5_takesSign s x1 = some o) : MI l (KC D cA cL h Z) 2 yX5_takesSign cX5_takesSign 3 (some .boolean) s [.ref (h 49), .int x1] o.1 o.2 := by
  refine met_i (by decide) (Nat.le_of_ble_eq_true rfl) ?_
  intro p e st m args below meth c Q X RI
  unfold C_X5_takesSign at hs
  refine g_aload_n X dX5_takesSign_0 (q := 1) rfl 0 rfl ?_
  refine g_iload_n X dX5_takesSign_1 (q := 2) rfl 1 rfl ?_
  refine vc_X5_hasSign_X5 hZ X dX5_takesSign_2 (q := 5) rfl (Nat.le_of_ble_eq_true rfl) (Nat.le_of_ble_eq_true rfl) (Nat.le_of_ble_eq_true rfl) hs (fun y1 hs => ?_)
  refine g_istore_n X dX5_takesSign_5 (q := 6) rfl (Nat.le_of_ble_eq_true rfl) (lv' := [(2, .int y1), (0, .ref (h 49)), (1, .int x1)]) rfl ?_
  refine g_iload_n X dX5_takesSign_6 (q := 7) rfl 0 rfl ?_
  refine g_if_eq X dX5_takesSign_7 (q := 10) rfl (tgt := 14) (by decide) hs ?_ ?_
  · intro hs
    refine g_iload_n X dX5_takesSign_14 (q := 15) rfl 0 rfl ?_
    exact RI _ 15 _ _ _ (rU1 hs) rfl (rV1 hs) dX5_takesSign_15
  · intro hs
    refine g_aload_n X dX5_takesSign_10 (q := 11) rfl 1 rfl ?_
    refine vc_X5_advance_X5 hZ X dX5_takesSign_11 (q := 14) rfl (Nat.le_of_ble_eq_true rfl) (Nat.le_of_ble_eq_true rfl) (Nat.le_of_ble_eq_true rfl) hs (fun s1 hs => ?_)
    refine g_iload_n X dX5_takesSign_14 (q := 15) rfl 0 rfl ?_
    exact RI _ 15 _ _ _ (rU1 hs) rfl (rV1 hs) dX5_takesSign_15
theorem dX5_needSign_0 : decode cX5_needSign 0 = .ok (.aload_n 0, 1) := by decide +kernel
theorem dX5_needSign_1 : decode cX5_needSign 1 = .ok (.iload_n 1, 1) := by decide +kernel
theorem dX5_needSign_2 : decode cX5_needSign 2 = .ok (.invokevirtual 93, 3) := by decide +kernel
theorem dX5_needSign_5 : decode cX5_needSign 5 = .ok (.ifCond .ne 8, 3) := by decide +kernel
theorem dX5_needSign_8 : decode cX5_needSign 8 = .ok (.aload_n 0, 1) := by decide +kernel
theorem dX5_needSign_9 : decode cX5_needSign 9 = .ok (.iconst 1, 1) := by decide +kernel
theorem dX5_needSign_10 : decode cX5_needSign 10 = .ok (.invokevirtual 86, 3) := by decide +kernel
theorem dX5_needSign_13 : decode cX5_needSign 13 = .ok (.return_, 1) := by decide +kernel
theorem wX5_takesSign_X5 : GoodIn GT (wsV RX5 93 RX5 yX5_takesSign (.code yX5_takesSign cX5_takesSign 3 (some .boolean) :: GT)) := gt_V (gt_of 776 (by decide +kernel) rfl) (gt_of 778 (by decide +kernel) rfl) (gt_of 29 (by decide +kernel) rfl) (gt_of 202 (by decide +kernel) rfl) (gt_of 779 (by decide +kernel) rfl)
theorem vc_X5_takesSign_X5 {p : Program} {l : Launch} {e : Env} {st : State} {m : MethodId} {args : Array Value} {below : List Frame} {meth : Method} {c : Code} {Q : State → Prop} {nL : Nat} {cc : ByteArray} {s : ST} {pc q : Nat} {lv : List (Nat × Value)} {rest : List Value} {D : va_G} {cA cL : ClassId} {h : Nat → Nat} {Z : State → Heap → Prop} {sa : Nat → Nat} (hZ : ZK h Z sa) {d0 : Nat} (X : Cx (KC D cA cL h Z) p st m args meth c cc nL RX5) {x1 : Int32} (d : decode cc pc = .ok (.invokevirtual 93, 3)) (hq : pc + 3 = q) (hd1 : 2 + 1 ≤ d0) (hd2 : 8 + (3 + 11) + 100 * 2 ≤ 100 * d0) (hr : (rest.map fun v => v.category).sum ≤ 8) {B : Type} {f : Int32 × ST → Option B} {r : B} (hs : Bd (C_X5_takesSign s x1) f = some r) (k : ∀ y, f y = some r → WG (KC D cA cL h Z) p l e (rmD d0) st m args below meth c Q nL y.2 q lv (.int y.1 :: rest)) : WG (KC D cA cL h Z) p l e (rmD d0) st m args below meth c Q nL s pc lv (.int x1 :: .ref (h 49) :: rest) := by
  obtain ⟨v, hv, hs⟩ := Bd_e hs
  exact cV_I (K := KC D cA cL h Z) X 49 (n := 1) (k_X5_takesSign hZ l D cA cL s x1 hv) wX5_takesSign_X5 ⟨hd1, hd2⟩ ⟨by decide, by decide, by decide +kernel⟩ (As := [.int x1]) rfl hr (sh_49).1 (fs := cF5 h 49 (s.1 49) (s.2 49)) (GC_5 (cA := cA) (cL := cL) sh_49 _ _) rfl rfl d hq (k _ hs)
def C_X5_needSign (s : ST) (x1 : Int32) : Option (ST) := Bd (C_X5_takesSign s x1) fun y1 => if y1.1 = 0 then (Bd (C_X5_fail y1.2 (1 : Int32)) fun s1 => some s1) else (some y1.2)
set_option maxRecDepth 100000 in
set_option maxHeartbeats 4000000 in
theorem k_X5_needSign {h : Nat → Nat} {Z : State → Heap → Prop} {sa : Nat → Nat} (hZ : ZK h Z sa) (l : Launch) (D : va_G) (cA cL : ClassId) (s : ST) (x1 : Int32) {o : ST} (hs : C_X5_needSign s x1 = some o) : MV l (KC D cA cL h Z) 3 yX5_needSign cX5_needSign 2 none s [.ref (h 49), .int x1] o := by
  refine met_v (by decide) (Nat.le_of_ble_eq_true rfl) ?_
  intro p e st m args below meth c Q X RI
  unfold C_X5_needSign at hs
  refine g_aload_n X dX5_needSign_0 (q := 1) rfl 0 rfl ?_
  refine g_iload_n X dX5_needSign_1 (q := 2) rfl 1 rfl ?_
  refine vc_X5_takesSign_X5 hZ X dX5_needSign_2 (q := 5) rfl (Nat.le_of_ble_eq_true rfl) (Nat.le_of_ble_eq_true rfl) (Nat.le_of_ble_eq_true rfl) hs (fun y1 hs => ?_)
  refine g_if_ne X dX5_needSign_5 (q := 8) rfl (tgt := 13) (by decide) hs ?_ ?_
  · intro hs
    exact RI _ 13 _ (Option.some.inj hs) dX5_needSign_13
  · intro hs
    refine g_aload_n X dX5_needSign_8 (q := 9) rfl 0 rfl ?_
    refine g_iconst X dX5_needSign_9 (q := 10) rfl li_i1 ?_
    refine vc_X5_fail_X5 hZ X dX5_needSign_10 (q := 13) rfl (Nat.le_of_ble_eq_true rfl) (Nat.le_of_ble_eq_true rfl) (Nat.le_of_ble_eq_true rfl) hs (fun s1 hs => ?_)
    exact RI _ 13 _ (Option.some.inj hs) dX5_needSign_13
theorem dX4_add_0 : decode cX4_add 0 = .ok (.aload_n 0, 1) := by decide +kernel
theorem dX4_add_1 : decode cX4_add 1 = .ok (.getfield 25, 3) := by decide +kernel
theorem dX4_add_4 : decode cX4_add 4 = .ok (.aload_n 0, 1) := by decide +kernel
theorem dX4_add_5 : decode cX4_add 5 = .ok (.getfield 15, 3) := by decide +kernel
theorem dX4_add_8 : decode cX4_add 8 = .ok (.if_icmp .lt 4, 3) := by decide +kernel
theorem dX4_add_11 : decode cX4_add 11 = .ok (.return_, 1) := by decide +kernel
theorem dX4_add_12 : decode cX4_add 12 = .ok (.aload_n 0, 1) := by decide +kernel
theorem dX4_add_13 : decode cX4_add 13 = .ok (.getfield 25, 3) := by decide +kernel
theorem dX4_add_16 : decode cX4_add 16 = .ok (.iconst 4, 1) := by decide +kernel
theorem dX4_add_17 : decode cX4_add 17 = .ok (.imul, 1) := by decide +kernel
theorem dX4_add_18 : decode cX4_add 18 = .ok (.istore 5, 2) := by decide +kernel
theorem dX4_add_20 : decode cX4_add 20 = .ok (.aload_n 0, 1) := by decide +kernel
theorem dX4_add_21 : decode cX4_add 21 = .ok (.getfield 21, 3) := by decide +kernel
theorem dX4_add_24 : decode cX4_add 24 = .ok (.iload 5, 2) := by decide +kernel
theorem dX4_add_26 : decode cX4_add 26 = .ok (.iload_n 1, 1) := by decide +kernel
theorem dX4_add_27 : decode cX4_add 27 = .ok (.iastore, 1) := by decide +kernel
theorem dX4_add_28 : decode cX4_add 28 = .ok (.aload_n 0, 1) := by decide +kernel
theorem dX4_add_29 : decode cX4_add 29 = .ok (.getfield 21, 3) := by decide +kernel
theorem dX4_add_32 : decode cX4_add 32 = .ok (.iload 5, 2) := by decide +kernel
theorem dX4_add_34 : decode cX4_add 34 = .ok (.iconst 1, 1) := by decide +kernel
theorem dX4_add_35 : decode cX4_add 35 = .ok (.iadd, 1) := by decide +kernel
theorem dX4_add_36 : decode cX4_add 36 = .ok (.iload_n 2, 1) := by decide +kernel
theorem dX4_add_37 : decode cX4_add 37 = .ok (.iastore, 1) := by decide +kernel
theorem dX4_add_38 : decode cX4_add 38 = .ok (.aload_n 0, 1) := by decide +kernel
theorem dX4_add_39 : decode cX4_add 39 = .ok (.getfield 21, 3) := by decide +kernel
theorem dX4_add_42 : decode cX4_add 42 = .ok (.iload 5, 2) := by decide +kernel
theorem dX4_add_44 : decode cX4_add 44 = .ok (.iconst 2, 1) := by decide +kernel
theorem dX4_add_45 : decode cX4_add 45 = .ok (.iadd, 1) := by decide +kernel
theorem dX4_add_46 : decode cX4_add 46 = .ok (.iload_n 3, 1) := by decide +kernel
theorem dX4_add_47 : decode cX4_add 47 = .ok (.iastore, 1) := by decide +kernel
theorem dX4_add_48 : decode cX4_add 48 = .ok (.aload_n 0, 1) := by decide +kernel
theorem dX4_add_49 : decode cX4_add 49 = .ok (.getfield 21, 3) := by decide +kernel
theorem dX4_add_52 : decode cX4_add 52 = .ok (.iload 5, 2) := by decide +kernel
theorem dX4_add_54 : decode cX4_add 54 = .ok (.iconst 3, 1) := by decide +kernel
theorem dX4_add_55 : decode cX4_add 55 = .ok (.iadd, 1) := by decide +kernel
theorem dX4_add_56 : decode cX4_add 56 = .ok (.iload 4, 2) := by decide +kernel
theorem dX4_add_58 : decode cX4_add 58 = .ok (.iastore, 1) := by decide +kernel
theorem dX4_add_59 : decode cX4_add 59 = .ok (.aload_n 0, 1) := by decide +kernel
theorem dX4_add_60 : decode cX4_add 60 = .ok (.dup, 1) := by decide +kernel
theorem dX4_add_61 : decode cX4_add 61 = .ok (.getfield 25, 3) := by decide +kernel
theorem dX4_add_64 : decode cX4_add 64 = .ok (.iconst 1, 1) := by decide +kernel
theorem dX4_add_65 : decode cX4_add 65 = .ok (.iadd, 1) := by decide +kernel
theorem dX4_add_66 : decode cX4_add 66 = .ok (.putfield 25, 3) := by decide +kernel
theorem dX4_add_69 : decode cX4_add 69 = .ok (.return_, 1) := by decide +kernel
def C_X4_add (s : ST) (b0 : Nat) (x1 : Int32) (x2 : Int32) (x3 : Int32) (x4 : Int32) : Option (ST) := if (s.1 b0 2) < (s.1 b0 0) then (Lt (((s.1 b0 2) * (4 : Int32))) fun y1 => Gs s (b0 + 1) (lc (b0 + 1)) y1 x1 fun s1 => Gs s1 (b0 + 1) (lc (b0 + 1)) (y1 + (1 : Int32)) x2 fun s2 => Gs s2 (b0 + 1) (lc (b0 + 1)) (y1 + (2 : Int32)) x3 fun s3 => Gs s3 (b0 + 1) (lc (b0 + 1)) (y1 + (3 : Int32)) x4 fun s4 => Lt (ups s4 b0 2 ((s4.1 b0 2) + (1 : Int32))) fun s5 => some s5) else (some s)
set_option maxRecDepth 100000 in
set_option maxHeartbeats 4000000 in
theorem k_X4_add {h : Nat → Nat} {Z : State → Heap → Prop} {sa : Nat → Nat} (hZ : ZK h Z sa) (l : Launch) (D : va_G) (cA cL : ClassId) (s : ST) (b0 : Nat) (x1 : Int32) (x2 : Int32) (x3 : Int32) (x4 : Int32) (hb0 : isK 4 b0) {o : ST} (hs : C_X4_add s b0 x1 x2 x3 x4 = some o) : MV l (KC D cA cL h Z) 1 yX4_add cX4_add 6 none s [.ref (h b0), .int x1, .int x2, .int x3, .int x4] o := by
  refine met_v (by decide) (Nat.le_of_ble_eq_true rfl) ?_
  intro p e st m args below meth c Q X RI
  unfold C_X4_add at hs
  refine g_aload_n X dX4_add_0 (q := 1) rfl 0 rfl ?_
  refine cg_4_2 X dX4_add_1 (q := 4) rfl hb0 lf_X4_25 ?_
  refine g_aload_n X dX4_add_4 (q := 5) rfl 0 rfl ?_
  refine cg_4_0 X dX4_add_5 (q := 8) rfl hb0 lf_X4_15 ?_
  refine g_icmp_lt X dX4_add_8 (q := 11) rfl (tgt := 12) (by decide) hs ?_ ?_
  · intro hs
    refine g_aload_n X dX4_add_12 (q := 13) rfl 0 rfl ?_
    refine cg_4_2 X dX4_add_13 (q := 16) rfl hb0 lf_X4_25 ?_
    refine g_iconst X dX4_add_16 (q := 17) rfl li_i4 ?_
    refine g_imul X dX4_add_17 (q := 18) rfl ?_
    refine nmI hs (fun y1 hs => ?_)
    refine g_istore X dX4_add_18 (q := 20) rfl (Nat.le_of_ble_eq_true rfl) (lv' := [(5, .int y1), (0, .ref (h b0)), (1, .int x1), (2, .int x2), (3, .int x3), (4, .int x4)]) rfl ?_
    refine g_aload_n X dX4_add_20 (q := 21) rfl 1 rfl ?_
    refine cg_4_1 X dX4_add_21 (q := 24) rfl hb0 lf_X4_21 ?_
    refine g_iload X dX4_add_24 (q := 26) rfl 0 rfl ?_
    refine g_iload_n X dX4_add_26 (q := 27) rfl 2 rfl ?_
    refine ca_st X dX4_add_27 (q := 28) rfl (b0 + 1) (sub_X4_numbers hb0) rfl hs (fun s1 hs => ?_)
    refine g_aload_n X dX4_add_28 (q := 29) rfl 1 rfl ?_
    refine cg_4_1 X dX4_add_29 (q := 32) rfl hb0 lf_X4_21 ?_
    refine g_iload X dX4_add_32 (q := 34) rfl 0 rfl ?_
    refine g_iconst X dX4_add_34 (q := 35) rfl li_i1 ?_
    refine g_iadd X dX4_add_35 (q := 36) rfl ?_
    refine g_iload_n X dX4_add_36 (q := 37) rfl 3 rfl ?_
    refine ca_st X dX4_add_37 (q := 38) rfl (b0 + 1) (sub_X4_numbers hb0) rfl hs (fun s2 hs => ?_)
    refine g_aload_n X dX4_add_38 (q := 39) rfl 1 rfl ?_
    refine cg_4_1 X dX4_add_39 (q := 42) rfl hb0 lf_X4_21 ?_
    refine g_iload X dX4_add_42 (q := 44) rfl 0 rfl ?_
    refine g_iconst X dX4_add_44 (q := 45) rfl li_i2 ?_
    refine g_iadd X dX4_add_45 (q := 46) rfl ?_
    refine g_iload_n X dX4_add_46 (q := 47) rfl 4 rfl ?_
    refine ca_st X dX4_add_47 (q := 48) rfl (b0 + 1) (sub_X4_numbers hb0) rfl hs (fun s3 hs => ?_)
    refine g_aload_n X dX4_add_48 (q := 49) rfl 1 rfl ?_
    refine cg_4_1 X dX4_add_49 (q := 52) rfl hb0 lf_X4_21 ?_
    refine g_iload X dX4_add_52 (q := 54) rfl 0 rfl ?_
    refine g_iconst X dX4_add_54 (q := 55) rfl li_i3 ?_
    refine g_iadd X dX4_add_55 (q := 56) rfl ?_
    refine g_iload X dX4_add_56 (q := 58) rfl 5 rfl ?_
    refine ca_st X dX4_add_58 (q := 59) rfl (b0 + 1) (sub_X4_numbers hb0) rfl hs (fun s4 hs => ?_)
    refine g_aload_n X dX4_add_59 (q := 60) rfl 1 rfl ?_
    refine g_dup X dX4_add_60 (q := 61) rfl rfl ?_
    refine cg_4_2 X dX4_add_61 (q := 64) rfl hb0 lf_X4_25 ?_
    refine g_iconst X dX4_add_64 (q := 65) rfl li_i1 ?_
    refine g_iadd X dX4_add_65 (q := 66) rfl ?_
    refine cp_4_2 X dX4_add_66 (q := 69) rfl hb0 lf_X4_25 hs (fun s5 hs => ?_)
    exact RI _ 69 _ (Option.some.inj hs) dX4_add_69
  · intro hs
    exact RI _ 11 _ (Option.some.inj hs) dX4_add_11
theorem dX3_readKind_0 : decode cX3_readKind 0 = .ok (.aload_n 0, 1) := by decide +kernel
theorem dX3_readKind_1 : decode cX3_readKind 1 = .ok (.getfield 18, 3) := by decide +kernel
theorem dX3_readKind_4 : decode cX3_readKind 4 = .ok (.iconst 1, 1) := by decide +kernel
theorem dX3_readKind_5 : decode cX3_readKind 5 = .ok (.bipush 20, 2) := by decide +kernel
theorem dX3_readKind_7 : decode cX3_readKind 7 = .ok (.invokevirtual 76, 3) := by decide +kernel
theorem dX3_readKind_10 : decode cX3_readKind 10 = .ok (.istore_n 1, 1) := by decide +kernel
theorem dX3_readKind_11 : decode cX3_readKind 11 = .ok (.aload_n 0, 1) := by decide +kernel
theorem dX3_readKind_12 : decode cX3_readKind 12 = .ok (.getfield 18, 3) := by decide +kernel
theorem dX3_readKind_15 : decode cX3_readKind 15 = .ok (.ldc 80, 2) := by decide +kernel
theorem dX3_readKind_17 : decode cX3_readKind 17 = .ok (.invokevirtual 82, 3) := by decide +kernel
theorem dX3_readKind_20 : decode cX3_readKind 20 = .ok (.aload_n 0, 1) := by decide +kernel
theorem dX3_readKind_21 : decode cX3_readKind 21 = .ok (.getfield 18, 3) := by decide +kernel
theorem dX3_readKind_24 : decode cX3_readKind 24 = .ok (.iconst 1, 1) := by decide +kernel
theorem dX3_readKind_25 : decode cX3_readKind 25 = .ok (.bipush 9, 2) := by decide +kernel
theorem dX3_readKind_27 : decode cX3_readKind 27 = .ok (.invokevirtual 76, 3) := by decide +kernel
theorem dX3_readKind_30 : decode cX3_readKind 30 = .ok (.istore_n 2, 1) := by decide +kernel
theorem dX3_readKind_31 : decode cX3_readKind 31 = .ok (.aload_n 0, 1) := by decide +kernel
theorem dX3_readKind_32 : decode cX3_readKind 32 = .ok (.getfield 18, 3) := by decide +kernel
theorem dX3_readKind_35 : decode cX3_readKind 35 = .ok (.ldc 86, 2) := by decide +kernel
theorem dX3_readKind_37 : decode cX3_readKind 37 = .ok (.invokevirtual 82, 3) := by decide +kernel
theorem dX3_readKind_40 : decode cX3_readKind 40 = .ok (.aload_n 0, 1) := by decide +kernel
theorem dX3_readKind_41 : decode cX3_readKind 41 = .ok (.getfield 18, 3) := by decide +kernel
theorem dX3_readKind_44 : decode cX3_readKind 44 = .ok (.iconst 0, 1) := by decide +kernel
theorem dX3_readKind_45 : decode cX3_readKind 45 = .ok (.bipush 6, 2) := by decide +kernel
theorem dX3_readKind_47 : decode cX3_readKind 47 = .ok (.invokevirtual 76, 3) := by decide +kernel
theorem dX3_readKind_50 : decode cX3_readKind 50 = .ok (.istore_n 3, 1) := by decide +kernel
theorem dX3_readKind_51 : decode cX3_readKind 51 = .ok (.aload_n 0, 1) := by decide +kernel
theorem dX3_readKind_52 : decode cX3_readKind 52 = .ok (.getfield 18, 3) := by decide +kernel
theorem dX3_readKind_55 : decode cX3_readKind 55 = .ok (.bipush 59, 2) := by decide +kernel
theorem dX3_readKind_57 : decode cX3_readKind 57 = .ok (.invokevirtual 88, 3) := by decide +kernel
theorem dX3_readKind_60 : decode cX3_readKind 60 = .ok (.aload_n 0, 1) := by decide +kernel
theorem dX3_readKind_61 : decode cX3_readKind 61 = .ok (.getfield 18, 3) := by decide +kernel
theorem dX3_readKind_64 : decode cX3_readKind 64 = .ok (.getfield 65, 3) := by decide +kernel
theorem dX3_readKind_67 : decode cX3_readKind 67 = .ok (.ifCond .ne 17, 3) := by decide +kernel
theorem dX3_readKind_70 : decode cX3_readKind 70 = .ok (.aload_n 0, 1) := by decide +kernel
theorem dX3_readKind_71 : decode cX3_readKind 71 = .ok (.getfield 12, 3) := by decide +kernel
theorem dX3_readKind_74 : decode cX3_readKind 74 = .ok (.getfield 29, 3) := by decide +kernel
theorem dX3_readKind_77 : decode cX3_readKind 77 = .ok (.iload_n 1, 1) := by decide +kernel
theorem dX3_readKind_78 : decode cX3_readKind 78 = .ok (.iload_n 2, 1) := by decide +kernel
theorem dX3_readKind_79 : decode cX3_readKind 79 = .ok (.iload_n 3, 1) := by decide +kernel
theorem dX3_readKind_80 : decode cX3_readKind 80 = .ok (.iconst 0, 1) := by decide +kernel
theorem dX3_readKind_81 : decode cX3_readKind 81 = .ok (.invokevirtual 92, 3) := by decide +kernel
theorem dX3_readKind_84 : decode cX3_readKind 84 = .ok (.return_, 1) := by decide +kernel
theorem wX4_add_X3 : Cond.methodLinkNest RX3 92 yX4_add "StormSeeds" ∈ NW := nw_of 784 (by decide +kernel) rfl
theorem vc_X4_add_X3 {p : Program} {l : Launch} {e : Env} {st : State} {m : MethodId} {args : Array Value} {below : List Frame} {meth : Method} {c : Code} {Q : State → Prop} {nL : Nat} {cc : ByteArray} {s : ST} {pc q : Nat} {lv : List (Nat × Value)} {rest : List Value} {D : va_G} {cA cL : ClassId} {h : Nat → Nat} {Z : State → Heap → Prop} {sa : Nat → Nat} (hZ : ZK h Z sa) {d0 : Nat} (X : Cx (KC D cA cL h Z) p st m args meth c cc nL RX3) {b0 : Nat} {x1 : Int32} {x2 : Int32} {x3 : Int32} {x4 : Int32} (d : decode cc pc = .ok (.invokevirtual 92, 3)) (hq : pc + 3 = q) (hb0 : isK 4 b0) (hd1 : 1 + 1 ≤ d0) (hd2 : 8 + (6 + 11) + 100 * 1 ≤ 100 * d0) (hr : (rest.map fun v => v.category).sum ≤ 8) {B : Type} {f : ST → Option B} {r : B} (hs : Bd (C_X4_add s b0 x1 x2 x3 x4) f = some r) (k : ∀ y, f y = some r → WG (KC D cA cL h Z) p l e (rmD d0) st m args below meth c Q nL y q lv (rest)) : WG (KC D cA cL h Z) p l e (rmD d0) st m args below meth c Q nL s pc lv (.int x4 :: .int x3 :: .int x2 :: .int x1 :: .ref (h b0) :: rest) := by
  obtain ⟨v, hv, hs⟩ := Bd_e hs
  exact cVN_V (K := KC D cA cL h Z) X b0 (n := 4) (k_X4_add hZ l D cA cL s b0 x1 x2 x3 x4 hb0 hv) (gt_c (gt_of 787 (by decide +kernel) rfl) gt_t) (hZ.1 st st.heap X.2.2.2 _ wX4_add_X3) (gt_of 199 (by decide +kernel) rfl) (gt_of 786 (by decide +kernel) rfl) (gt_of 31 (by decide +kernel) rfl) ⟨hd1, hd2⟩ ⟨by decide, by decide, by decide +kernel⟩ (As := [.int x1, .int x2, .int x3, .int x4]) rfl hr (hb0).1 (fs := cF4 h b0 (s.1 b0) (s.2 b0)) (GC_4 (cA := cA) (cL := cL) hb0 _ _) rfl rfl d hq (k _ hs)
theorem wX5_needNumber_X3 : Cond.methodLinkNest RX3 76 yX5_needNumber "StormSeeds" ∈ NW := nw_of 754 (by decide +kernel) rfl
theorem vc_X5_needNumber_X3 {p : Program} {l : Launch} {e : Env} {st : State} {m : MethodId} {args : Array Value} {below : List Frame} {meth : Method} {c : Code} {Q : State → Prop} {nL : Nat} {cc : ByteArray} {s : ST} {pc q : Nat} {lv : List (Nat × Value)} {rest : List Value} {D : va_G} {cA cL : ClassId} {h : Nat → Nat} {Z : State → Heap → Prop} {sa : Nat → Nat} (hZ : ZK h Z sa) {d0 : Nat} (X : Cx (KC D cA cL h Z) p st m args meth c cc nL RX3) {x1 : Int32} {x2 : Int32} (d : decode cc pc = .ok (.invokevirtual 76, 3)) (hq : pc + 3 = q) (hd1 : 2 + 1 ≤ d0) (hd2 : 8 + (4 + 11) + 100 * 2 ≤ 100 * d0) (hr : (rest.map fun v => v.category).sum ≤ 8) {B : Type} {f : Int32 × ST → Option B} {r : B} (hs : Bd (C_X5_needNumber s x1 x2) f = some r) (k : ∀ y, f y = some r → WG (KC D cA cL h Z) p l e (rmD d0) st m args below meth c Q nL y.2 q lv (.int y.1 :: rest)) : WG (KC D cA cL h Z) p l e (rmD d0) st m args below meth c Q nL s pc lv (.int x2 :: .int x1 :: .ref (h 49) :: rest) := by
  obtain ⟨v, hv, hs⟩ := Bd_e hs
  exact cVN_I (K := KC D cA cL h Z) X 49 (n := 2) (k_X5_needNumber hZ l D cA cL s x1 x2 hv) (gt_c (gt_of 757 (by decide +kernel) rfl) gt_t) (hZ.1 st st.heap X.2.2.2 _ wX5_needNumber_X3) (gt_of 202 (by decide +kernel) rfl) (gt_of 756 (by decide +kernel) rfl) (gt_of 24 (by decide +kernel) rfl) ⟨hd1, hd2⟩ ⟨by decide, by decide, by decide +kernel⟩ (As := [.int x1, .int x2]) rfl hr (sh_49).1 (fs := cF5 h 49 (s.1 49) (s.2 49)) (GC_5 (cA := cA) (cL := cL) sh_49 _ _) rfl rfl d hq (k _ hs)
theorem wX5_needSign_X3 : Cond.methodLinkNest RX3 88 yX5_needSign "StormSeeds" ∈ NW := nw_of 772 (by decide +kernel) rfl
theorem vc_X5_needSign_X3 {p : Program} {l : Launch} {e : Env} {st : State} {m : MethodId} {args : Array Value} {below : List Frame} {meth : Method} {c : Code} {Q : State → Prop} {nL : Nat} {cc : ByteArray} {s : ST} {pc q : Nat} {lv : List (Nat × Value)} {rest : List Value} {D : va_G} {cA cL : ClassId} {h : Nat → Nat} {Z : State → Heap → Prop} {sa : Nat → Nat} (hZ : ZK h Z sa) {d0 : Nat} (X : Cx (KC D cA cL h Z) p st m args meth c cc nL RX3) {x1 : Int32} (d : decode cc pc = .ok (.invokevirtual 88, 3)) (hq : pc + 3 = q) (hd1 : 3 + 1 ≤ d0) (hd2 : 8 + (2 + 11) + 100 * 3 ≤ 100 * d0) (hr : (rest.map fun v => v.category).sum ≤ 8) {B : Type} {f : ST → Option B} {r : B} (hs : Bd (C_X5_needSign s x1) f = some r) (k : ∀ y, f y = some r → WG (KC D cA cL h Z) p l e (rmD d0) st m args below meth c Q nL y q lv (rest)) : WG (KC D cA cL h Z) p l e (rmD d0) st m args below meth c Q nL s pc lv (.int x1 :: .ref (h 49) :: rest) := by
  obtain ⟨v, hv, hs⟩ := Bd_e hs
  exact cVN_V (K := KC D cA cL h Z) X 49 (n := 1) (k_X5_needSign hZ l D cA cL s x1 hv) (gt_c (gt_of 775 (by decide +kernel) rfl) gt_t) (hZ.1 st st.heap X.2.2.2 _ wX5_needSign_X3) (gt_of 202 (by decide +kernel) rfl) (gt_of 774 (by decide +kernel) rfl) (gt_of 28 (by decide +kernel) rfl) ⟨hd1, hd2⟩ ⟨by decide, by decide, by decide +kernel⟩ (As := [.int x1]) rfl hr (sh_49).1 (fs := cF5 h 49 (s.1 49) (s.2 49)) (GC_5 (cA := cA) (cL := cL) sh_49 _ _) rfl rfl d hq (k _ hs)
theorem wX5_needWord_X3 : Cond.methodLinkNest RX3 82 yX5_needWord "StormSeeds" ∈ NW := nw_of 763 (by decide +kernel) rfl
theorem vc_X5_needWord_X3 {p : Program} {l : Launch} {e : Env} {st : State} {m : MethodId} {args : Array Value} {below : List Frame} {meth : Method} {c : Code} {Q : State → Prop} {nL : Nat} {cc : ByteArray} {s : ST} {pc q : Nat} {lv : List (Nat × Value)} {rest : List Value} {D : va_G} {cA cL : ClassId} {h : Nat → Nat} {Z : State → Heap → Prop} {sa : Nat → Nat} (hZ : ZK h Z sa) {d0 : Nat} (X : Cx (KC D cA cL h Z) p st m args meth c cc nL RX3) {x1 : Nat} (d : decode cc pc = .ok (.invokevirtual 82, 3)) (hq : pc + 3 = q) (hx1 : x1 < 30) (hd1 : 9 + 1 ≤ d0) (hd2 : 8 + (2 + 11) + 100 * 9 ≤ 100 * d0) (hr : (rest.map fun v => v.category).sum ≤ 8) {B : Type} {f : ST → Option B} {r : B} (hs : Bd (C_X5_needWord s x1) f = some r) (k : ∀ y, f y = some r → WG (KC D cA cL h Z) p l e (rmD d0) st m args below meth c Q nL y q lv (rest)) : WG (KC D cA cL h Z) p l e (rmD d0) st m args below meth c Q nL s pc lv (.ref (sa x1) :: .ref (h 49) :: rest) := by
  obtain ⟨v, hv, hs⟩ := Bd_e hs
  exact cVN_V (K := KC D cA cL h Z) X 49 (n := 1) (k_X5_needWord hZ l D cA cL s x1 hx1 hv) (gt_c (gt_of 766 (by decide +kernel) rfl) gt_t) (hZ.1 st st.heap X.2.2.2 _ wX5_needWord_X3) (gt_of 202 (by decide +kernel) rfl) (gt_of 765 (by decide +kernel) rfl) (gt_of 26 (by decide +kernel) rfl) ⟨hd1, hd2⟩ ⟨by decide, by decide, by decide +kernel⟩ (As := [.ref (sa x1)]) rfl hr (sh_49).1 (fs := cF5 h 49 (s.1 49) (s.2 49)) (GC_5 (cA := cA) (cL := cL) sh_49 _ _) rfl rfl d hq (k _ hs)
def C_X3_readKind (s : ST) : Option (ST) := Bd (C_X5_needNumber s (1 : Int32) (20 : Int32)) fun y1 => Bd (C_X5_needWord y1.2 2) fun s1 => Bd (C_X5_needNumber s1 (1 : Int32) (9 : Int32)) fun y2 => Bd (C_X5_needWord y2.2 3) fun s2 => Bd (C_X5_needNumber s2 (0 : Int32) (6 : Int32)) fun y3 => Bd (C_X5_needSign y3.2 (59 : Int32)) fun s3 => if (s3.1 49 8) = 0 then (Bd (C_X4_add s3 56 y1.1 y2.1 y3.1 (0 : Int32)) fun s4 => some s4) else (some s3)
set_option maxRecDepth 100000 in
set_option maxHeartbeats 4000000 in
theorem k_X3_readKind {h : Nat → Nat} {Z : State → Heap → Prop} {sa : Nat → Nat} (hZ : ZK h Z sa) (l : Launch) (D : va_G) (cA cL : ClassId) (s : ST) {o : ST} (hs : C_X3_readKind s = some o) : MV l (KC D cA cL h Z) 10 yX3_readKind cX3_readKind 4 none s [.ref (h 54)] o := by
  refine met_v (by decide) (Nat.le_of_ble_eq_true rfl) ?_
  intro p e st m args below meth c Q X RI
  unfold C_X3_readKind at hs
  refine g_aload_n X dX3_readKind_0 (q := 1) rfl 0 rfl ?_
  refine cg_3_0 X dX3_readKind_1 (q := 4) rfl sh_54 lf_X3_18 ?_
  refine g_iconst X dX3_readKind_4 (q := 5) rfl li_i1 ?_
  refine g_bipush X dX3_readKind_5 (q := 7) rfl li_b20 ?_
  refine vc_X5_needNumber_X3 hZ X dX3_readKind_7 (q := 10) rfl (Nat.le_of_ble_eq_true rfl) (Nat.le_of_ble_eq_true rfl) (Nat.le_of_ble_eq_true rfl) hs (fun y1 hs => ?_)
  refine g_istore_n X dX3_readKind_10 (q := 11) rfl (Nat.le_of_ble_eq_true rfl) (lv' := [(1, .int y1.1), (0, .ref (h 54))]) rfl ?_
  refine g_aload_n X dX3_readKind_11 (q := 12) rfl 1 rfl ?_
  refine cg_3_0 X dX3_readKind_12 (q := 15) rfl sh_54 lf_X3_18 ?_
  refine cg_ldc hZ X dX3_readKind_15 (q := 17) rfl 2 (Nat.le_of_ble_eq_true rfl) rfl ?_
  refine vc_X5_needWord_X3 hZ X dX3_readKind_17 (q := 20) rfl (Nat.le_of_ble_eq_true rfl) (Nat.le_of_ble_eq_true rfl) (Nat.le_of_ble_eq_true rfl) (Nat.le_of_ble_eq_true rfl) hs (fun s1 hs => ?_)
  refine g_aload_n X dX3_readKind_20 (q := 21) rfl 1 rfl ?_
  refine cg_3_0 X dX3_readKind_21 (q := 24) rfl sh_54 lf_X3_18 ?_
  refine g_iconst X dX3_readKind_24 (q := 25) rfl li_i1 ?_
  refine g_bipush X dX3_readKind_25 (q := 27) rfl li_b9 ?_
  refine vc_X5_needNumber_X3 hZ X dX3_readKind_27 (q := 30) rfl (Nat.le_of_ble_eq_true rfl) (Nat.le_of_ble_eq_true rfl) (Nat.le_of_ble_eq_true rfl) hs (fun y2 hs => ?_)
  refine g_istore_n X dX3_readKind_30 (q := 31) rfl (Nat.le_of_ble_eq_true rfl) (lv' := [(2, .int y2.1), (1, .int y1.1), (0, .ref (h 54))]) rfl ?_
  refine g_aload_n X dX3_readKind_31 (q := 32) rfl 2 rfl ?_
  refine cg_3_0 X dX3_readKind_32 (q := 35) rfl sh_54 lf_X3_18 ?_
  refine cg_ldc hZ X dX3_readKind_35 (q := 37) rfl 3 (Nat.le_of_ble_eq_true rfl) rfl ?_
  refine vc_X5_needWord_X3 hZ X dX3_readKind_37 (q := 40) rfl (Nat.le_of_ble_eq_true rfl) (Nat.le_of_ble_eq_true rfl) (Nat.le_of_ble_eq_true rfl) (Nat.le_of_ble_eq_true rfl) hs (fun s2 hs => ?_)
  refine g_aload_n X dX3_readKind_40 (q := 41) rfl 2 rfl ?_
  refine cg_3_0 X dX3_readKind_41 (q := 44) rfl sh_54 lf_X3_18 ?_
  refine g_iconst X dX3_readKind_44 (q := 45) rfl li_i0 ?_
  refine g_bipush X dX3_readKind_45 (q := 47) rfl li_b6 ?_
  refine vc_X5_needNumber_X3 hZ X dX3_readKind_47 (q := 50) rfl (Nat.le_of_ble_eq_true rfl) (Nat.le_of_ble_eq_true rfl) (Nat.le_of_ble_eq_true rfl) hs (fun y3 hs => ?_)
  refine g_istore_n X dX3_readKind_50 (q := 51) rfl (Nat.le_of_ble_eq_true rfl) (lv' := [(3, .int y3.1), (2, .int y2.1), (1, .int y1.1), (0, .ref (h 54))]) rfl ?_
  refine g_aload_n X dX3_readKind_51 (q := 52) rfl 3 rfl ?_
  refine cg_3_0 X dX3_readKind_52 (q := 55) rfl sh_54 lf_X3_18 ?_
  refine g_bipush X dX3_readKind_55 (q := 57) rfl li_b59 ?_
  refine vc_X5_needSign_X3 hZ X dX3_readKind_57 (q := 60) rfl (Nat.le_of_ble_eq_true rfl) (Nat.le_of_ble_eq_true rfl) (Nat.le_of_ble_eq_true rfl) hs (fun s3 hs => ?_)
  refine g_aload_n X dX3_readKind_60 (q := 61) rfl 3 rfl ?_
  refine cg_3_0 X dX3_readKind_61 (q := 64) rfl sh_54 lf_X3_18 ?_
  refine cgN_5_8 hZ X dX3_readKind_64 (q := 67) rfl sh_49 lf_X3_65 ?_
  refine g_if_ne X dX3_readKind_67 (q := 70) rfl (tgt := 84) (by decide) hs ?_ ?_
  · intro hs
    exact RI _ 84 _ (Option.some.inj hs) dX3_readKind_84
  · intro hs
    refine g_aload_n X dX3_readKind_70 (q := 71) rfl 3 rfl ?_
    refine cg_3_3 X dX3_readKind_71 (q := 74) rfl sh_54 lf_X3_12 ?_
    refine cgN_7_0 hZ X dX3_readKind_74 (q := 77) rfl sh_55 lf_X3_29 ?_
    refine g_iload_n X dX3_readKind_77 (q := 78) rfl 2 rfl ?_
    refine g_iload_n X dX3_readKind_78 (q := 79) rfl 1 rfl ?_
    refine g_iload_n X dX3_readKind_79 (q := 80) rfl 0 rfl ?_
    refine g_iconst X dX3_readKind_80 (q := 81) rfl li_i0 ?_
    refine vc_X4_add_X3 hZ X dX3_readKind_81 (q := 84) rfl sh_56 (Nat.le_of_ble_eq_true rfl) (Nat.le_of_ble_eq_true rfl) (Nat.le_of_ble_eq_true rfl) hs (fun s4 hs => ?_)
    exact RI _ 84 _ (Option.some.inj hs) dX3_readKind_84
theorem dX3_needKind_0 : decode cX3_needKind 0 = .ok (.aload_n 0, 1) := by decide +kernel
theorem dX3_needKind_1 : decode cX3_needKind 1 = .ok (.getfield 18, 3) := by decide +kernel
theorem dX3_needKind_4 : decode cX3_needKind 4 = .ok (.iconst 0, 1) := by decide +kernel
theorem dX3_needKind_5 : decode cX3_needKind 5 = .ok (.aload_n 1, 1) := by decide +kernel
theorem dX3_needKind_6 : decode cX3_needKind 6 = .ok (.getfield 73, 3) := by decide +kernel
theorem dX3_needKind_9 : decode cX3_needKind 9 = .ok (.iconst 1, 1) := by decide +kernel
theorem dX3_needKind_10 : decode cX3_needKind 10 = .ok (.isub, 1) := by decide +kernel
theorem dX3_needKind_11 : decode cX3_needKind 11 = .ok (.invokevirtual 76, 3) := by decide +kernel
theorem dX3_needKind_14 : decode cX3_needKind 14 = .ok (.ireturn, 1) := by decide +kernel
def C_X3_needKind (s : ST) (x1 : Nat) : Option (Int32 × ST) := Bd (C_X5_needNumber s (0 : Int32) ((s.1 x1 2) - (1 : Int32))) fun y1 => some (y1.1, y1.2)
set_option maxRecDepth 100000 in
set_option maxHeartbeats 4000000 in
theorem k_X3_needKind {h : Nat → Nat} {Z : State → Heap → Prop} {sa : Nat → Nat} (hZ : ZK h Z sa) (l : Launch) (D : va_G) (cA cL : ClassId) (s : ST) (x1 : Nat) (hx1 : isK 4 x1) {o : Int32 × ST} (hs : C_X3_needKind s x1 = some o) : MI l (KC D cA cL h Z) 3 yX3_needKind cX3_needKind 2 (some .int) s [.ref (h 54), .ref (h x1)] o.1 o.2 := by
  refine met_i (by decide) (Nat.le_of_ble_eq_true rfl) ?_
  intro p e st m args below meth c Q X RI
  unfold C_X3_needKind at hs
  refine g_aload_n X dX3_needKind_0 (q := 1) rfl 0 rfl ?_
  refine cg_3_0 X dX3_needKind_1 (q := 4) rfl sh_54 lf_X3_18 ?_
  refine g_iconst X dX3_needKind_4 (q := 5) rfl li_i0 ?_
  refine g_aload_n X dX3_needKind_5 (q := 6) rfl 1 rfl ?_
  refine cgN_4_2 hZ X dX3_needKind_6 (q := 9) rfl hx1 lf_X3_73 ?_
  refine g_iconst X dX3_needKind_9 (q := 10) rfl li_i1 ?_
  refine g_isub X dX3_needKind_10 (q := 11) rfl ?_
  refine vc_X5_needNumber_X3 hZ X dX3_needKind_11 (q := 14) rfl (Nat.le_of_ble_eq_true rfl) (Nat.le_of_ble_eq_true rfl) (Nat.le_of_ble_eq_true rfl) hs (fun y1 hs => ?_)
  exact RI _ 14 _ _ _ (rU1 hs) rfl (rV1 hs) dX3_needKind_14
theorem dX3_readCrossing_0 : decode cX3_readCrossing 0 = .ok (.aload_n 0, 1) := by decide +kernel
theorem dX3_readCrossing_1 : decode cX3_readCrossing 1 = .ok (.aload_n 0, 1) := by decide +kernel
theorem dX3_readCrossing_2 : decode cX3_readCrossing 2 = .ok (.getfield 12, 3) := by decide +kernel
theorem dX3_readCrossing_5 : decode cX3_readCrossing 5 = .ok (.getfield 29, 3) := by decide +kernel
theorem dX3_readCrossing_8 : decode cX3_readCrossing 8 = .ok (.invokevirtual 96, 3) := by decide +kernel
theorem dX3_readCrossing_11 : decode cX3_readCrossing 11 = .ok (.istore_n 1, 1) := by decide +kernel
theorem dX3_readCrossing_12 : decode cX3_readCrossing 12 = .ok (.aload_n 0, 1) := by decide +kernel
theorem dX3_readCrossing_13 : decode cX3_readCrossing 13 = .ok (.getfield 18, 3) := by decide +kernel
theorem dX3_readCrossing_16 : decode cX3_readCrossing 16 = .ok (.ldc 100, 2) := by decide +kernel
theorem dX3_readCrossing_18 : decode cX3_readCrossing 18 = .ok (.invokevirtual 82, 3) := by decide +kernel
theorem dX3_readCrossing_21 : decode cX3_readCrossing 21 = .ok (.aload_n 0, 1) := by decide +kernel
theorem dX3_readCrossing_22 : decode cX3_readCrossing 22 = .ok (.aload_n 0, 1) := by decide +kernel
theorem dX3_readCrossing_23 : decode cX3_readCrossing 23 = .ok (.getfield 12, 3) := by decide +kernel
theorem dX3_readCrossing_26 : decode cX3_readCrossing 26 = .ok (.getfield 29, 3) := by decide +kernel
theorem dX3_readCrossing_29 : decode cX3_readCrossing 29 = .ok (.invokevirtual 96, 3) := by decide +kernel
theorem dX3_readCrossing_32 : decode cX3_readCrossing 32 = .ok (.istore_n 2, 1) := by decide +kernel
theorem dX3_readCrossing_33 : decode cX3_readCrossing 33 = .ok (.aload_n 0, 1) := by decide +kernel
theorem dX3_readCrossing_34 : decode cX3_readCrossing 34 = .ok (.getfield 18, 3) := by decide +kernel
theorem dX3_readCrossing_37 : decode cX3_readCrossing 37 = .ok (.ldc 102, 2) := by decide +kernel
theorem dX3_readCrossing_39 : decode cX3_readCrossing 39 = .ok (.invokevirtual 82, 3) := by decide +kernel
theorem dX3_readCrossing_42 : decode cX3_readCrossing 42 = .ok (.aload_n 0, 1) := by decide +kernel
theorem dX3_readCrossing_43 : decode cX3_readCrossing 43 = .ok (.aload_n 0, 1) := by decide +kernel
theorem dX3_readCrossing_44 : decode cX3_readCrossing 44 = .ok (.getfield 12, 3) := by decide +kernel
theorem dX3_readCrossing_47 : decode cX3_readCrossing 47 = .ok (.getfield 29, 3) := by decide +kernel
theorem dX3_readCrossing_50 : decode cX3_readCrossing 50 = .ok (.invokevirtual 96, 3) := by decide +kernel
theorem dX3_readCrossing_53 : decode cX3_readCrossing 53 = .ok (.istore_n 3, 1) := by decide +kernel
theorem dX3_readCrossing_54 : decode cX3_readCrossing 54 = .ok (.aload_n 0, 1) := by decide +kernel
theorem dX3_readCrossing_55 : decode cX3_readCrossing 55 = .ok (.getfield 18, 3) := by decide +kernel
theorem dX3_readCrossing_58 : decode cX3_readCrossing 58 = .ok (.bipush 59, 2) := by decide +kernel
theorem dX3_readCrossing_60 : decode cX3_readCrossing 60 = .ok (.invokevirtual 88, 3) := by decide +kernel
theorem dX3_readCrossing_63 : decode cX3_readCrossing 63 = .ok (.aload_n 0, 1) := by decide +kernel
theorem dX3_readCrossing_64 : decode cX3_readCrossing 64 = .ok (.getfield 18, 3) := by decide +kernel
theorem dX3_readCrossing_67 : decode cX3_readCrossing 67 = .ok (.getfield 65, 3) := by decide +kernel
theorem dX3_readCrossing_70 : decode cX3_readCrossing 70 = .ok (.ifCond .ne 17, 3) := by decide +kernel
theorem dX3_readCrossing_73 : decode cX3_readCrossing 73 = .ok (.aload_n 0, 1) := by decide +kernel
theorem dX3_readCrossing_74 : decode cX3_readCrossing 74 = .ok (.getfield 12, 3) := by decide +kernel
theorem dX3_readCrossing_77 : decode cX3_readCrossing 77 = .ok (.getfield 38, 3) := by decide +kernel
theorem dX3_readCrossing_80 : decode cX3_readCrossing 80 = .ok (.iload_n 1, 1) := by decide +kernel
theorem dX3_readCrossing_81 : decode cX3_readCrossing 81 = .ok (.iload_n 2, 1) := by decide +kernel
theorem dX3_readCrossing_82 : decode cX3_readCrossing 82 = .ok (.iload_n 3, 1) := by decide +kernel
theorem dX3_readCrossing_83 : decode cX3_readCrossing 83 = .ok (.iconst 0, 1) := by decide +kernel
theorem dX3_readCrossing_84 : decode cX3_readCrossing 84 = .ok (.invokevirtual 92, 3) := by decide +kernel
theorem dX3_readCrossing_87 : decode cX3_readCrossing 87 = .ok (.return_, 1) := by decide +kernel
theorem wX3_needKind_X3 : GoodIn GT (wsV RX3 96 RX3 yX3_needKind (.code yX3_needKind cX3_needKind 2 (some .int) :: GT)) := gt_V (gt_of 793 (by decide +kernel) rfl) (gt_of 795 (by decide +kernel) rfl) (gt_of 33 (by decide +kernel) rfl) (gt_of 203 (by decide +kernel) rfl) (gt_of 796 (by decide +kernel) rfl)
theorem vc_X3_needKind_X3 {p : Program} {l : Launch} {e : Env} {st : State} {m : MethodId} {args : Array Value} {below : List Frame} {meth : Method} {c : Code} {Q : State → Prop} {nL : Nat} {cc : ByteArray} {s : ST} {pc q : Nat} {lv : List (Nat × Value)} {rest : List Value} {D : va_G} {cA cL : ClassId} {h : Nat → Nat} {Z : State → Heap → Prop} {sa : Nat → Nat} (hZ : ZK h Z sa) {d0 : Nat} (X : Cx (KC D cA cL h Z) p st m args meth c cc nL RX3) {x1 : Nat} (d : decode cc pc = .ok (.invokevirtual 96, 3)) (hq : pc + 3 = q) (hx1 : isK 4 x1) (hd1 : 3 + 1 ≤ d0) (hd2 : 8 + (2 + 11) + 100 * 3 ≤ 100 * d0) (hr : (rest.map fun v => v.category).sum ≤ 8) {B : Type} {f : Int32 × ST → Option B} {r : B} (hs : Bd (C_X3_needKind s x1) f = some r) (k : ∀ y, f y = some r → WG (KC D cA cL h Z) p l e (rmD d0) st m args below meth c Q nL y.2 q lv (.int y.1 :: rest)) : WG (KC D cA cL h Z) p l e (rmD d0) st m args below meth c Q nL s pc lv (.ref (h x1) :: .ref (h 54) :: rest) := by
  obtain ⟨v, hv, hs⟩ := Bd_e hs
  exact cV_I (K := KC D cA cL h Z) X 54 (n := 1) (k_X3_needKind hZ l D cA cL s x1 hx1 hv) wX3_needKind_X3 ⟨hd1, hd2⟩ ⟨by decide, by decide, by decide +kernel⟩ (As := [.ref (h x1)]) rfl hr (sh_54).1 (fs := cF3 h 54 (s.1 54) (s.2 54)) (GC_3 (cA := cA) (cL := cL) sh_54 _ _) rfl rfl d hq (k _ hs)
def C_X3_readCrossing (s : ST) : Option (ST) := Bd (C_X3_needKind s 56) fun y1 => Bd (C_X5_needWord y1.2 4) fun s1 => Bd (C_X3_needKind s1 56) fun y2 => Bd (C_X5_needWord y2.2 5) fun s2 => Bd (C_X3_needKind s2 56) fun y3 => Bd (C_X5_needSign y3.2 (59 : Int32)) fun s3 => if (s3.1 49 8) = 0 then (Bd (C_X4_add s3 58 y1.1 y2.1 y3.1 (0 : Int32)) fun s4 => some s4) else (some s3)
set_option maxRecDepth 100000 in
set_option maxHeartbeats 4000000 in
theorem k_X3_readCrossing {h : Nat → Nat} {Z : State → Heap → Prop} {sa : Nat → Nat} (hZ : ZK h Z sa) (l : Launch) (D : va_G) (cA cL : ClassId) (s : ST) {o : ST} (hs : C_X3_readCrossing s = some o) : MV l (KC D cA cL h Z) 10 yX3_readCrossing cX3_readCrossing 4 none s [.ref (h 54)] o := by
  refine met_v (by decide) (Nat.le_of_ble_eq_true rfl) ?_
  intro p e st m args below meth c Q X RI
  unfold C_X3_readCrossing at hs
  refine g_aload_n X dX3_readCrossing_0 (q := 1) rfl 0 rfl ?_
  refine g_aload_n X dX3_readCrossing_1 (q := 2) rfl 0 rfl ?_
  refine cg_3_3 X dX3_readCrossing_2 (q := 5) rfl sh_54 lf_X3_12 ?_
  refine cgN_7_0 hZ X dX3_readCrossing_5 (q := 8) rfl sh_55 lf_X3_29 ?_
  refine vc_X3_needKind_X3 hZ X dX3_readCrossing_8 (q := 11) rfl sh_56 (Nat.le_of_ble_eq_true rfl) (Nat.le_of_ble_eq_true rfl) (Nat.le_of_ble_eq_true rfl) hs (fun y1 hs => ?_)
  refine g_istore_n X dX3_readCrossing_11 (q := 12) rfl (Nat.le_of_ble_eq_true rfl) (lv' := [(1, .int y1.1), (0, .ref (h 54))]) rfl ?_
  refine g_aload_n X dX3_readCrossing_12 (q := 13) rfl 1 rfl ?_
  refine cg_3_0 X dX3_readCrossing_13 (q := 16) rfl sh_54 lf_X3_18 ?_
  refine cg_ldc hZ X dX3_readCrossing_16 (q := 18) rfl 4 (Nat.le_of_ble_eq_true rfl) rfl ?_
  refine vc_X5_needWord_X3 hZ X dX3_readCrossing_18 (q := 21) rfl (Nat.le_of_ble_eq_true rfl) (Nat.le_of_ble_eq_true rfl) (Nat.le_of_ble_eq_true rfl) (Nat.le_of_ble_eq_true rfl) hs (fun s1 hs => ?_)
  refine g_aload_n X dX3_readCrossing_21 (q := 22) rfl 1 rfl ?_
  refine g_aload_n X dX3_readCrossing_22 (q := 23) rfl 1 rfl ?_
  refine cg_3_3 X dX3_readCrossing_23 (q := 26) rfl sh_54 lf_X3_12 ?_
  refine cgN_7_0 hZ X dX3_readCrossing_26 (q := 29) rfl sh_55 lf_X3_29 ?_
  refine vc_X3_needKind_X3 hZ X dX3_readCrossing_29 (q := 32) rfl sh_56 (Nat.le_of_ble_eq_true rfl) (Nat.le_of_ble_eq_true rfl) (Nat.le_of_ble_eq_true rfl) hs (fun y2 hs => ?_)
  refine g_istore_n X dX3_readCrossing_32 (q := 33) rfl (Nat.le_of_ble_eq_true rfl) (lv' := [(2, .int y2.1), (1, .int y1.1), (0, .ref (h 54))]) rfl ?_
  refine g_aload_n X dX3_readCrossing_33 (q := 34) rfl 2 rfl ?_
  refine cg_3_0 X dX3_readCrossing_34 (q := 37) rfl sh_54 lf_X3_18 ?_
  refine cg_ldc hZ X dX3_readCrossing_37 (q := 39) rfl 5 (Nat.le_of_ble_eq_true rfl) rfl ?_
  refine vc_X5_needWord_X3 hZ X dX3_readCrossing_39 (q := 42) rfl (Nat.le_of_ble_eq_true rfl) (Nat.le_of_ble_eq_true rfl) (Nat.le_of_ble_eq_true rfl) (Nat.le_of_ble_eq_true rfl) hs (fun s2 hs => ?_)
  refine g_aload_n X dX3_readCrossing_42 (q := 43) rfl 2 rfl ?_
  refine g_aload_n X dX3_readCrossing_43 (q := 44) rfl 2 rfl ?_
  refine cg_3_3 X dX3_readCrossing_44 (q := 47) rfl sh_54 lf_X3_12 ?_
  refine cgN_7_0 hZ X dX3_readCrossing_47 (q := 50) rfl sh_55 lf_X3_29 ?_
  refine vc_X3_needKind_X3 hZ X dX3_readCrossing_50 (q := 53) rfl sh_56 (Nat.le_of_ble_eq_true rfl) (Nat.le_of_ble_eq_true rfl) (Nat.le_of_ble_eq_true rfl) hs (fun y3 hs => ?_)
  refine g_istore_n X dX3_readCrossing_53 (q := 54) rfl (Nat.le_of_ble_eq_true rfl) (lv' := [(3, .int y3.1), (2, .int y2.1), (1, .int y1.1), (0, .ref (h 54))]) rfl ?_
  refine g_aload_n X dX3_readCrossing_54 (q := 55) rfl 3 rfl ?_
  refine cg_3_0 X dX3_readCrossing_55 (q := 58) rfl sh_54 lf_X3_18 ?_
  refine g_bipush X dX3_readCrossing_58 (q := 60) rfl li_b59 ?_
  refine vc_X5_needSign_X3 hZ X dX3_readCrossing_60 (q := 63) rfl (Nat.le_of_ble_eq_true rfl) (Nat.le_of_ble_eq_true rfl) (Nat.le_of_ble_eq_true rfl) hs (fun s3 hs => ?_)
  refine g_aload_n X dX3_readCrossing_63 (q := 64) rfl 3 rfl ?_
  refine cg_3_0 X dX3_readCrossing_64 (q := 67) rfl sh_54 lf_X3_18 ?_
  refine cgN_5_8 hZ X dX3_readCrossing_67 (q := 70) rfl sh_49 lf_X3_65 ?_
  refine g_if_ne X dX3_readCrossing_70 (q := 73) rfl (tgt := 87) (by decide) hs ?_ ?_
  · intro hs
    exact RI _ 87 _ (Option.some.inj hs) dX3_readCrossing_87
  · intro hs
    refine g_aload_n X dX3_readCrossing_73 (q := 74) rfl 3 rfl ?_
    refine cg_3_3 X dX3_readCrossing_74 (q := 77) rfl sh_54 lf_X3_12 ?_
    refine cgN_7_1 hZ X dX3_readCrossing_77 (q := 80) rfl sh_55 lf_X3_38 ?_
    refine g_iload_n X dX3_readCrossing_80 (q := 81) rfl 2 rfl ?_
    refine g_iload_n X dX3_readCrossing_81 (q := 82) rfl 1 rfl ?_
    refine g_iload_n X dX3_readCrossing_82 (q := 83) rfl 0 rfl ?_
    refine g_iconst X dX3_readCrossing_83 (q := 84) rfl li_i0 ?_
    refine vc_X4_add_X3 hZ X dX3_readCrossing_84 (q := 87) rfl sh_58 (Nat.le_of_ble_eq_true rfl) (Nat.le_of_ble_eq_true rfl) (Nat.le_of_ble_eq_true rfl) hs (fun s4 hs => ?_)
    exact RI _ 87 _ (Option.some.inj hs) dX3_readCrossing_87
theorem dX3_readKinds_0 : decode cX3_readKinds 0 = .ok (.aload_n 0, 1) := by decide +kernel
theorem dX3_readKinds_1 : decode cX3_readKinds 1 = .ok (.getfield 12, 3) := by decide +kernel
theorem dX3_readKinds_4 : decode cX3_readKinds 4 = .ok (.getfield 29, 3) := by decide +kernel
theorem dX3_readKinds_7 : decode cX3_readKinds 7 = .ok (.invokevirtual 33, 3) := by decide +kernel
theorem dX3_readKinds_10 : decode cX3_readKinds 10 = .ok (.aload_n 0, 1) := by decide +kernel
theorem dX3_readKinds_11 : decode cX3_readKinds 11 = .ok (.getfield 12, 3) := by decide +kernel
theorem dX3_readKinds_14 : decode cX3_readKinds 14 = .ok (.getfield 38, 3) := by decide +kernel
theorem dX3_readKinds_17 : decode cX3_readKinds 17 = .ok (.invokevirtual 33, 3) := by decide +kernel
theorem dX3_readKinds_20 : decode cX3_readKinds 20 = .ok (.iconst 0, 1) := by decide +kernel
theorem dX3_readKinds_21 : decode cX3_readKinds 21 = .ok (.istore_n 1, 1) := by decide +kernel
theorem dX3_readKinds_22 : decode cX3_readKinds 22 = .ok (.iload_n 1, 1) := by decide +kernel
theorem dX3_readKinds_23 : decode cX3_readKinds 23 = .ok (.sipush 400, 3) := by decide +kernel
theorem dX3_readKinds_26 : decode cX3_readKinds 26 = .ok (.if_icmp .ge 79, 3) := by decide +kernel
theorem dX3_readKinds_29 : decode cX3_readKinds 29 = .ok (.aload_n 0, 1) := by decide +kernel
theorem dX3_readKinds_30 : decode cX3_readKinds 30 = .ok (.getfield 18, 3) := by decide +kernel
theorem dX3_readKinds_33 : decode cX3_readKinds 33 = .ok (.invokevirtual 41, 3) := by decide +kernel
theorem dX3_readKinds_36 : decode cX3_readKinds 36 = .ok (.ifCond .eq 69, 3) := by decide +kernel
theorem dX3_readKinds_39 : decode cX3_readKinds 39 = .ok (.aload_n 0, 1) := by decide +kernel
theorem dX3_readKinds_40 : decode cX3_readKinds 40 = .ok (.getfield 18, 3) := by decide +kernel
theorem dX3_readKinds_43 : decode cX3_readKinds 43 = .ok (.ldc 47, 2) := by decide +kernel
theorem dX3_readKinds_45 : decode cX3_readKinds 45 = .ok (.aload_n 0, 1) := by decide +kernel
theorem dX3_readKinds_46 : decode cX3_readKinds 46 = .ok (.getfield 12, 3) := by decide +kernel
theorem dX3_readKinds_49 : decode cX3_readKinds 49 = .ok (.getfield 29, 3) := by decide +kernel
theorem dX3_readKinds_52 : decode cX3_readKinds 52 = .ok (.invokevirtual 49, 3) := by decide +kernel
theorem dX3_readKinds_55 : decode cX3_readKinds 55 = .ok (.ifCond .eq 10, 3) := by decide +kernel
theorem dX3_readKinds_58 : decode cX3_readKinds 58 = .ok (.aload_n 0, 1) := by decide +kernel
theorem dX3_readKinds_59 : decode cX3_readKinds 59 = .ok (.invokevirtual 53, 3) := by decide +kernel
theorem dX3_readKinds_62 : decode cX3_readKinds 62 = .ok (.goto 37, 3) := by decide +kernel
theorem dX3_readKinds_65 : decode cX3_readKinds 65 = .ok (.aload_n 0, 1) := by decide +kernel
theorem dX3_readKinds_66 : decode cX3_readKinds 66 = .ok (.getfield 18, 3) := by decide +kernel
theorem dX3_readKinds_69 : decode cX3_readKinds 69 = .ok (.ldc 56, 2) := by decide +kernel
theorem dX3_readKinds_71 : decode cX3_readKinds 71 = .ok (.aload_n 0, 1) := by decide +kernel
theorem dX3_readKinds_72 : decode cX3_readKinds 72 = .ok (.getfield 12, 3) := by decide +kernel
theorem dX3_readKinds_75 : decode cX3_readKinds 75 = .ok (.getfield 38, 3) := by decide +kernel
theorem dX3_readKinds_78 : decode cX3_readKinds 78 = .ok (.invokevirtual 49, 3) := by decide +kernel
theorem dX3_readKinds_81 : decode cX3_readKinds 81 = .ok (.ifCond .eq 10, 3) := by decide +kernel
theorem dX3_readKinds_84 : decode cX3_readKinds 84 = .ok (.aload_n 0, 1) := by decide +kernel
theorem dX3_readKinds_85 : decode cX3_readKinds 85 = .ok (.invokevirtual 58, 3) := by decide +kernel
theorem dX3_readKinds_88 : decode cX3_readKinds 88 = .ok (.goto 11, 3) := by decide +kernel
theorem dX3_readKinds_91 : decode cX3_readKinds 91 = .ok (.aload_n 0, 1) := by decide +kernel
theorem dX3_readKinds_92 : decode cX3_readKinds 92 = .ok (.getfield 18, 3) := by decide +kernel
theorem dX3_readKinds_95 : decode cX3_readKinds 95 = .ok (.iconst 1, 1) := by decide +kernel
theorem dX3_readKinds_96 : decode cX3_readKinds 96 = .ok (.invokevirtual 61, 3) := by decide +kernel
theorem dX3_readKinds_99 : decode cX3_readKinds 99 = .ok (.iinc 1 1, 3) := by decide +kernel
theorem dX3_readKinds_102 : decode cX3_readKinds 102 = .ok (.goto (-80), 3) := by decide +kernel
theorem dX3_readKinds_105 : decode cX3_readKinds 105 = .ok (.aload_n 0, 1) := by decide +kernel
theorem dX3_readKinds_106 : decode cX3_readKinds 106 = .ok (.getfield 18, 3) := by decide +kernel
theorem dX3_readKinds_109 : decode cX3_readKinds 109 = .ok (.getfield 65, 3) := by decide +kernel
theorem dX3_readKinds_112 : decode cX3_readKinds 112 = .ok (.ifCond .eq 5, 3) := by decide +kernel
theorem dX3_readKinds_115 : decode cX3_readKinds 115 = .ok (.iconst (-1), 1) := by decide +kernel
theorem dX3_readKinds_116 : decode cX3_readKinds 116 = .ok (.ireturn, 1) := by decide +kernel
theorem dX3_readKinds_117 : decode cX3_readKinds 117 = .ok (.aload_n 0, 1) := by decide +kernel
theorem dX3_readKinds_118 : decode cX3_readKinds 118 = .ok (.getfield 22, 3) := by decide +kernel
theorem dX3_readKinds_121 : decode cX3_readKinds 121 = .ok (.getfield 29, 3) := by decide +kernel
theorem dX3_readKinds_124 : decode cX3_readKinds 124 = .ok (.aload_n 0, 1) := by decide +kernel
theorem dX3_readKinds_125 : decode cX3_readKinds 125 = .ok (.getfield 12, 3) := by decide +kernel
theorem dX3_readKinds_128 : decode cX3_readKinds 128 = .ok (.getfield 29, 3) := by decide +kernel
theorem dX3_readKinds_131 : decode cX3_readKinds 131 = .ok (.invokevirtual 69, 3) := by decide +kernel
theorem dX3_readKinds_134 : decode cX3_readKinds 134 = .ok (.aload_n 0, 1) := by decide +kernel
theorem dX3_readKinds_135 : decode cX3_readKinds 135 = .ok (.getfield 22, 3) := by decide +kernel
theorem dX3_readKinds_138 : decode cX3_readKinds 138 = .ok (.getfield 38, 3) := by decide +kernel
theorem dX3_readKinds_141 : decode cX3_readKinds 141 = .ok (.aload_n 0, 1) := by decide +kernel
theorem dX3_readKinds_142 : decode cX3_readKinds 142 = .ok (.getfield 12, 3) := by decide +kernel
theorem dX3_readKinds_145 : decode cX3_readKinds 145 = .ok (.getfield 38, 3) := by decide +kernel
theorem dX3_readKinds_148 : decode cX3_readKinds 148 = .ok (.invokevirtual 69, 3) := by decide +kernel
theorem dX3_readKinds_151 : decode cX3_readKinds 151 = .ok (.aload_n 0, 1) := by decide +kernel
theorem dX3_readKinds_152 : decode cX3_readKinds 152 = .ok (.getfield 22, 3) := by decide +kernel
theorem dX3_readKinds_155 : decode cX3_readKinds 155 = .ok (.getfield 29, 3) := by decide +kernel
theorem dX3_readKinds_158 : decode cX3_readKinds 158 = .ok (.getfield 73, 3) := by decide +kernel
theorem dX3_readKinds_161 : decode cX3_readKinds 161 = .ok (.aload_n 0, 1) := by decide +kernel
theorem dX3_readKinds_162 : decode cX3_readKinds 162 = .ok (.getfield 22, 3) := by decide +kernel
theorem dX3_readKinds_165 : decode cX3_readKinds 165 = .ok (.getfield 38, 3) := by decide +kernel
theorem dX3_readKinds_168 : decode cX3_readKinds 168 = .ok (.getfield 73, 3) := by decide +kernel
theorem dX3_readKinds_171 : decode cX3_readKinds 171 = .ok (.iadd, 1) := by decide +kernel
theorem dX3_readKinds_172 : decode cX3_readKinds 172 = .ok (.ireturn, 1) := by decide +kernel
theorem wX3_readCrossing_X3 : GoodIn GT (wsV RX3 58 RX3 yX3_readCrossing (.code yX3_readCrossing cX3_readCrossing 4 none :: GT)) := gt_V (gt_of 789 (by decide +kernel) rfl) (gt_of 791 (by decide +kernel) rfl) (gt_of 32 (by decide +kernel) rfl) (gt_of 203 (by decide +kernel) rfl) (gt_of 792 (by decide +kernel) rfl)
theorem vc_X3_readCrossing_X3 {p : Program} {l : Launch} {e : Env} {st : State} {m : MethodId} {args : Array Value} {below : List Frame} {meth : Method} {c : Code} {Q : State → Prop} {nL : Nat} {cc : ByteArray} {s : ST} {pc q : Nat} {lv : List (Nat × Value)} {rest : List Value} {D : va_G} {cA cL : ClassId} {h : Nat → Nat} {Z : State → Heap → Prop} {sa : Nat → Nat} (hZ : ZK h Z sa) {d0 : Nat} (X : Cx (KC D cA cL h Z) p st m args meth c cc nL RX3) (d : decode cc pc = .ok (.invokevirtual 58, 3)) (hq : pc + 3 = q) (hd1 : 10 + 1 ≤ d0) (hd2 : 8 + (4 + 11) + 100 * 10 ≤ 100 * d0) (hr : (rest.map fun v => v.category).sum ≤ 8) {B : Type} {f : ST → Option B} {r : B} (hs : Bd (C_X3_readCrossing s) f = some r) (k : ∀ y, f y = some r → WG (KC D cA cL h Z) p l e (rmD d0) st m args below meth c Q nL y q lv (rest)) : WG (KC D cA cL h Z) p l e (rmD d0) st m args below meth c Q nL s pc lv (.ref (h 54) :: rest) := by
  obtain ⟨v, hv, hs⟩ := Bd_e hs
  exact cV_V (K := KC D cA cL h Z) X 54 (n := 0) (k_X3_readCrossing hZ l D cA cL s hv) wX3_readCrossing_X3 ⟨hd1, hd2⟩ ⟨by decide, by decide, by decide +kernel⟩ (As := []) rfl hr (sh_54).1 (fs := cF3 h 54 (s.1 54) (s.2 54)) (GC_3 (cA := cA) (cL := cL) sh_54 _ _) rfl rfl d hq (k _ hs)
theorem wX3_readKind_X3 : GoodIn GT (wsV RX3 53 RX3 yX3_readKind (.code yX3_readKind cX3_readKind 4 none :: GT)) := gt_V (gt_of 750 (by decide +kernel) rfl) (gt_of 752 (by decide +kernel) rfl) (gt_of 23 (by decide +kernel) rfl) (gt_of 203 (by decide +kernel) rfl) (gt_of 753 (by decide +kernel) rfl)
theorem vc_X3_readKind_X3 {p : Program} {l : Launch} {e : Env} {st : State} {m : MethodId} {args : Array Value} {below : List Frame} {meth : Method} {c : Code} {Q : State → Prop} {nL : Nat} {cc : ByteArray} {s : ST} {pc q : Nat} {lv : List (Nat × Value)} {rest : List Value} {D : va_G} {cA cL : ClassId} {h : Nat → Nat} {Z : State → Heap → Prop} {sa : Nat → Nat} (hZ : ZK h Z sa) {d0 : Nat} (X : Cx (KC D cA cL h Z) p st m args meth c cc nL RX3) (d : decode cc pc = .ok (.invokevirtual 53, 3)) (hq : pc + 3 = q) (hd1 : 10 + 1 ≤ d0) (hd2 : 8 + (4 + 11) + 100 * 10 ≤ 100 * d0) (hr : (rest.map fun v => v.category).sum ≤ 8) {B : Type} {f : ST → Option B} {r : B} (hs : Bd (C_X3_readKind s) f = some r) (k : ∀ y, f y = some r → WG (KC D cA cL h Z) p l e (rmD d0) st m args below meth c Q nL y q lv (rest)) : WG (KC D cA cL h Z) p l e (rmD d0) st m args below meth c Q nL s pc lv (.ref (h 54) :: rest) := by
  obtain ⟨v, hv, hs⟩ := Bd_e hs
  exact cV_V (K := KC D cA cL h Z) X 54 (n := 0) (k_X3_readKind hZ l D cA cL s hv) wX3_readKind_X3 ⟨hd1, hd2⟩ ⟨by decide, by decide, by decide +kernel⟩ (As := []) rfl hr (sh_54).1 (fs := cF3 h 54 (s.1 54) (s.2 54)) (GC_3 (cA := cA) (cL := cL) sh_54 _ _) rfl rfl d hq (k _ hs)
theorem wX4_clear_X3 : Cond.methodLinkNest RX3 33 yX4_clear "StormSeeds" ∈ NW := nw_of 676 (by decide +kernel) rfl
theorem vc_X4_clear_X3 {p : Program} {l : Launch} {e : Env} {st : State} {m : MethodId} {args : Array Value} {below : List Frame} {meth : Method} {c : Code} {Q : State → Prop} {nL : Nat} {cc : ByteArray} {s : ST} {pc q : Nat} {lv : List (Nat × Value)} {rest : List Value} {D : va_G} {cA cL : ClassId} {h : Nat → Nat} {Z : State → Heap → Prop} {sa : Nat → Nat} (hZ : ZK h Z sa) {d0 : Nat} (X : Cx (KC D cA cL h Z) p st m args meth c cc nL RX3) {b0 : Nat} (d : decode cc pc = .ok (.invokevirtual 33, 3)) (hq : pc + 3 = q) (hb0 : isK 4 b0) (hd1 : 1 + 1 ≤ d0) (hd2 : 8 + (1 + 11) + 100 * 1 ≤ 100 * d0) (hr : (rest.map fun v => v.category).sum ≤ 8) {B : Type} {f : ST → B} {r : B} (hs : Lt (C_X4_clear s b0) f = r) (k : ∀ y, f y = r → WG (KC D cA cL h Z) p l e (rmD d0) st m args below meth c Q nL y q lv (rest)) : WG (KC D cA cL h Z) p l e (rmD d0) st m args below meth c Q nL s pc lv (.ref (h b0) :: rest) := by
  exact cVN_V (K := KC D cA cL h Z) X b0 (n := 0) (k_X4_clear hZ l D cA cL s b0 hb0) (gt_c (gt_of 600 (by decide +kernel) rfl) gt_t) (hZ.1 st st.heap X.2.2.2 _ wX4_clear_X3) (gt_of 199 (by decide +kernel) rfl) (gt_of 599 (by decide +kernel) rfl) (gt_of 4 (by decide +kernel) rfl) ⟨hd1, hd2⟩ ⟨by decide, by decide, by decide +kernel⟩ (As := []) rfl hr (hb0).1 (fs := cF4 h b0 (s.1 b0) (s.2 b0)) (GC_4 (cA := cA) (cL := cL) hb0 _ _) rfl rfl d hq (k _ hs)
theorem wX4_copy_X3 : Cond.methodLinkNest RX3 69 yX4_copy "StormSeeds" ∈ NW := nw_of 800 (by decide +kernel) rfl
theorem vc_X4_copy_X3 {p : Program} {l : Launch} {e : Env} {st : State} {m : MethodId} {args : Array Value} {below : List Frame} {meth : Method} {c : Code} {Q : State → Prop} {nL : Nat} {cc : ByteArray} {s : ST} {pc q : Nat} {lv : List (Nat × Value)} {rest : List Value} {D : va_G} {cA cL : ClassId} {h : Nat → Nat} {Z : State → Heap → Prop} {sa : Nat → Nat} (hZ : ZK h Z sa) {d0 : Nat} (X : Cx (KC D cA cL h Z) p st m args meth c cc nL RX3) {b0 : Nat} {x1 : Nat} (d : decode cc pc = .ok (.invokevirtual 69, 3)) (hq : pc + 3 = q) (hb0 : isK 4 b0) (hx1 : isK 4 x1) (hd1 : 2 + 1 ≤ d0) (hd2 : 8 + (3 + 11) + 100 * 2 ≤ 100 * d0) (hr : (rest.map fun v => v.category).sum ≤ 8) {B : Type} {f : ST → Option B} {r : B} (hs : Bd (C_X4_copy s b0 x1) f = some r) (k : ∀ y, f y = some r → WG (KC D cA cL h Z) p l e (rmD d0) st m args below meth c Q nL y q lv (rest)) : WG (KC D cA cL h Z) p l e (rmD d0) st m args below meth c Q nL s pc lv (.ref (h x1) :: .ref (h b0) :: rest) := by
  obtain ⟨v, hv, hs⟩ := Bd_e hs
  exact cVN_V (K := KC D cA cL h Z) X b0 (n := 1) (k_X4_copy hZ l D cA cL s b0 x1 hb0 hx1 hv) (gt_c (gt_of 803 (by decide +kernel) rfl) gt_t) (hZ.1 st st.heap X.2.2.2 _ wX4_copy_X3) (gt_of 199 (by decide +kernel) rfl) (gt_of 802 (by decide +kernel) rfl) (gt_of 34 (by decide +kernel) rfl) ⟨hd1, hd2⟩ ⟨by decide, by decide, by decide +kernel⟩ (As := [.ref (h x1)]) rfl hr (hb0).1 (fs := cF4 h b0 (s.1 b0) (s.2 b0)) (GC_4 (cA := cA) (cL := cL) hb0 _ _) rfl rfl d hq (k _ hs)
theorem wX5_fail_X3 : Cond.methodLinkNest RX3 61 yX5_fail "StormSeeds" ∈ NW := nw_of 799 (by decide +kernel) rfl
theorem vc_X5_fail_X3 {p : Program} {l : Launch} {e : Env} {st : State} {m : MethodId} {args : Array Value} {below : List Frame} {meth : Method} {c : Code} {Q : State → Prop} {nL : Nat} {cc : ByteArray} {s : ST} {pc q : Nat} {lv : List (Nat × Value)} {rest : List Value} {D : va_G} {cA cL : ClassId} {h : Nat → Nat} {Z : State → Heap → Prop} {sa : Nat → Nat} (hZ : ZK h Z sa) {d0 : Nat} (X : Cx (KC D cA cL h Z) p st m args meth c cc nL RX3) {x1 : Int32} (d : decode cc pc = .ok (.invokevirtual 61, 3)) (hq : pc + 3 = q) (hd1 : 1 + 1 ≤ d0) (hd2 : 8 + (2 + 11) + 100 * 1 ≤ 100 * d0) (hr : (rest.map fun v => v.category).sum ≤ 8) {B : Type} {f : ST → Option B} {r : B} (hs : Bd (C_X5_fail s x1) f = some r) (k : ∀ y, f y = some r → WG (KC D cA cL h Z) p l e (rmD d0) st m args below meth c Q nL y q lv (rest)) : WG (KC D cA cL h Z) p l e (rmD d0) st m args below meth c Q nL s pc lv (.int x1 :: .ref (h 49) :: rest) := by
  obtain ⟨v, hv, hs⟩ := Bd_e hs
  exact cVN_V (K := KC D cA cL h Z) X 49 (n := 1) (k_X5_fail hZ l D cA cL s x1 hv) (gt_c (gt_of 745 (by decide +kernel) rfl) gt_t) (hZ.1 st st.heap X.2.2.2 _ wX5_fail_X3) (gt_of 202 (by decide +kernel) rfl) (gt_of 744 (by decide +kernel) rfl) (gt_of 21 (by decide +kernel) rfl) ⟨hd1, hd2⟩ ⟨by decide, by decide, by decide +kernel⟩ (As := [.int x1]) rfl hr (sh_49).1 (fs := cF5 h 49 (s.1 49) (s.2 49)) (GC_5 (cA := cA) (cL := cL) sh_49 _ _) rfl rfl d hq (k _ hs)
theorem wX5_goesOn_X3 : Cond.methodLinkNest RX3 41 yX5_goesOn "StormSeeds" ∈ NW := nw_of 677 (by decide +kernel) rfl
theorem vc_X5_goesOn_X3 {p : Program} {l : Launch} {e : Env} {st : State} {m : MethodId} {args : Array Value} {below : List Frame} {meth : Method} {c : Code} {Q : State → Prop} {nL : Nat} {cc : ByteArray} {s : ST} {pc q : Nat} {lv : List (Nat × Value)} {rest : List Value} {D : va_G} {cA cL : ClassId} {h : Nat → Nat} {Z : State → Heap → Prop} {sa : Nat → Nat} (hZ : ZK h Z sa) {d0 : Nat} (X : Cx (KC D cA cL h Z) p st m args meth c cc nL RX3) (d : decode cc pc = .ok (.invokevirtual 41, 3)) (hq : pc + 3 = q) (hd1 : 1 + 1 ≤ d0) (hd2 : 8 + (1 + 11) + 100 * 1 ≤ 100 * d0) (hr : (rest.map fun v => v.category).sum ≤ 8) {B : Type} {f : Int32 → B} {r : B} (hs : Lt (C_X5_goesOn s) f = r) (k : ∀ y, f y = r → WG (KC D cA cL h Z) p l e (rmD d0) st m args below meth c Q nL s q lv (.int y :: rest)) : WG (KC D cA cL h Z) p l e (rmD d0) st m args below meth c Q nL s pc lv (.ref (h 49) :: rest) := by
  exact cVN_I (K := KC D cA cL h Z) X 49 (n := 0) (k_X5_goesOn hZ l D cA cL s) (gt_c (gt_of 680 (by decide +kernel) rfl) gt_t) (hZ.1 st st.heap X.2.2.2 _ wX5_goesOn_X3) (gt_of 202 (by decide +kernel) rfl) (gt_of 679 (by decide +kernel) rfl) (gt_of 17 (by decide +kernel) rfl) ⟨hd1, hd2⟩ ⟨by decide, by decide, by decide +kernel⟩ (As := []) rfl hr (sh_49).1 (fs := cF5 h 49 (s.1 49) (s.2 49)) (GC_5 (cA := cA) (cL := cL) sh_49 _ _) rfl rfl d hq (k _ hs)
theorem wX5_takesHead_X3 : Cond.methodLinkNest RX3 49 yX5_takesHead "StormSeeds" ∈ NW := nw_of 682 (by decide +kernel) rfl
theorem vc_X5_takesHead_X3 {p : Program} {l : Launch} {e : Env} {st : State} {m : MethodId} {args : Array Value} {below : List Frame} {meth : Method} {c : Code} {Q : State → Prop} {nL : Nat} {cc : ByteArray} {s : ST} {pc q : Nat} {lv : List (Nat × Value)} {rest : List Value} {D : va_G} {cA cL : ClassId} {h : Nat → Nat} {Z : State → Heap → Prop} {sa : Nat → Nat} (hZ : ZK h Z sa) {d0 : Nat} (X : Cx (KC D cA cL h Z) p st m args meth c cc nL RX3) {x1 : Nat} {x2 : Nat} (d : decode cc pc = .ok (.invokevirtual 49, 3)) (hq : pc + 3 = q) (hx1 : x1 < 30) (hx2 : isK 4 x2) (hd1 : 8 + 1 ≤ d0) (hd2 : 8 + (3 + 11) + 100 * 8 ≤ 100 * d0) (hr : (rest.map fun v => v.category).sum ≤ 8) {B : Type} {f : Int32 × ST → Option B} {r : B} (hs : Bd (C_X5_takesHead s x1 x2) f = some r) (k : ∀ y, f y = some r → WG (KC D cA cL h Z) p l e (rmD d0) st m args below meth c Q nL y.2 q lv (.int y.1 :: rest)) : WG (KC D cA cL h Z) p l e (rmD d0) st m args below meth c Q nL s pc lv (.ref (h x2) :: .ref (sa x1) :: .ref (h 49) :: rest) := by
  obtain ⟨v, hv, hs⟩ := Bd_e hs
  exact cVN_I (K := KC D cA cL h Z) X 49 (n := 2) (k_X5_takesHead hZ l D cA cL s x1 x2 hx1 hx2 hv) (gt_c (gt_of 685 (by decide +kernel) rfl) gt_t) (hZ.1 st st.heap X.2.2.2 _ wX5_takesHead_X3) (gt_of 202 (by decide +kernel) rfl) (gt_of 684 (by decide +kernel) rfl) (gt_of 18 (by decide +kernel) rfl) ⟨hd1, hd2⟩ ⟨by decide, by decide, by decide +kernel⟩ (As := [.ref (sa x1), .ref (h x2)]) rfl hr (sh_49).1 (fs := cF5 h 49 (s.1 49) (s.2 49)) (GC_5 (cA := cA) (cL := cL) sh_49 _ _) rfl rfl d hq (k _ hs)
def C_X3_readKinds (s : ST) : Option (Int32 × ST) := Lt (C_X4_clear s 56) fun s1 => Lt (C_X4_clear s1 58) fun s2 => lpK2 (C := Int32 × ST) (fun (rec1 : Int32 → ST → Option (Int32 × ST)) (a1 : Int32) (s3 : ST) => Lt (if (s3.1 49 8) = 0 then (Bd (C_X4_copy s3 9 56) fun s4 => Bd (C_X4_copy s4 11 58) fun s5 => some (((s5.1 9 2) + (s5.1 11 2)), s5)) else (some ((-1 : Int32), s3)) : Option (Int32 × ST)) fun j1 => if (400 : Int32) ≤ a1 then (j1) else (Lt (C_X5_goesOn s3) fun y1 => if y1 = 0 then (j1) else (Bd (C_X5_takesHead s3 0 56) fun y2 => Lt (fun (s6 : ST) => (rec1 (a1 + (1 : Int32)) s6 : Option (Int32 × ST))) fun j2 => if y2.1 = 0 then (Bd (C_X5_takesHead y2.2 1 58) fun y3 => if y3.1 = 0 then (Bd (C_X5_fail y3.2 (1 : Int32)) fun s7 => j2 s7) else (Bd (C_X3_readCrossing y3.2) fun s8 => j2 s8)) else (Bd (C_X3_readKind y2.2) fun s9 => j2 s9)))) FU (0 : Int32) s2
set_option maxRecDepth 100000 in
set_option maxHeartbeats 4000000 in
theorem k_X3_readKinds {h : Nat → Nat} {Z : State → Heap → Prop} {sa : Nat → Nat} (hZ : ZK h Z sa) (l : Launch) (D : va_G) (cA cL : ClassId) (s : ST) {o : Int32 × ST} (hs : C_X3_readKinds s = some o) : MI l (KC D cA cL h Z) 11 yX3_readKinds cX3_readKinds 2 (some .int) s [.ref (h 54)] o.1 o.2 := by
  refine met_i (by decide) (Nat.le_of_ble_eq_true rfl) ?_
  intro p e st m args below meth c Q X RI
  unfold C_X3_readKinds at hs
  refine g_aload_n X dX3_readKinds_0 (q := 1) rfl 0 rfl ?_
  refine cg_3_3 X dX3_readKinds_1 (q := 4) rfl sh_54 lf_X3_12 ?_
  refine cgN_7_0 hZ X dX3_readKinds_4 (q := 7) rfl sh_55 lf_X3_29 ?_
  refine vc_X4_clear_X3 hZ X dX3_readKinds_7 (q := 10) rfl sh_56 (Nat.le_of_ble_eq_true rfl) (Nat.le_of_ble_eq_true rfl) (Nat.le_of_ble_eq_true rfl) hs (fun s1 hs => ?_)
  refine g_aload_n X dX3_readKinds_10 (q := 11) rfl 0 rfl ?_
  refine cg_3_3 X dX3_readKinds_11 (q := 14) rfl sh_54 lf_X3_12 ?_
  refine cgN_7_1 hZ X dX3_readKinds_14 (q := 17) rfl sh_55 lf_X3_38 ?_
  refine vc_X4_clear_X3 hZ X dX3_readKinds_17 (q := 20) rfl sh_58 (Nat.le_of_ble_eq_true rfl) (Nat.le_of_ble_eq_true rfl) (Nat.le_of_ble_eq_true rfl) hs (fun s2 hs => ?_)
  refine g_iconst X dX3_readKinds_20 (q := 21) rfl li_i0 ?_
  refine g_istore_n X dX3_readKinds_21 (q := 22) rfl (Nat.le_of_ble_eq_true rfl) (lv' := [(1, .int (0 : Int32)), (0, .ref (h 54))]) rfl ?_
  refine wg_sub [1, 0] rfl (lpW2 (fun (a1 : Int32) (s3 : ST) => WG (KC D cA cL h Z) p l e (rmD 11) st m args below meth c Q 2 s3 22 [(0, .ref (h 54)), (1, .int a1)] []) (fun rec1 ih1 a1 s3 hs => ?_) _ _ _ hs)
  refine g_iload_n X dX3_readKinds_22 (q := 23) rfl 1 rfl ?_
  refine g_sipush X dX3_readKinds_23 (q := 26) rfl li_s400 ?_
  refine jnW0 (WG (KC D cA cL h Z) p l e (rmD 11) st m args below meth c Q 2 s3 105 [(0, .ref (h 54))] []) hs (fun  hs => ?_) (fun j1 ih2 hs => ?_)
  · refine g_aload_n X dX3_readKinds_105 (q := 106) rfl 0 rfl ?_
    refine cg_3_0 X dX3_readKinds_106 (q := 109) rfl sh_54 lf_X3_18 ?_
    refine cgN_5_8 hZ X dX3_readKinds_109 (q := 112) rfl sh_49 lf_X3_65 ?_
    refine g_if_eq X dX3_readKinds_112 (q := 115) rfl (tgt := 117) (by decide) hs ?_ ?_
    · intro hs
      refine g_aload_n X dX3_readKinds_117 (q := 118) rfl 0 rfl ?_
      refine cg_3_1 X dX3_readKinds_118 (q := 121) rfl sh_54 lf_X3_22 ?_
      refine cgN_7_0 hZ X dX3_readKinds_121 (q := 124) rfl sh_8 lf_X3_29 ?_
      refine g_aload_n X dX3_readKinds_124 (q := 125) rfl 0 rfl ?_
      refine cg_3_3 X dX3_readKinds_125 (q := 128) rfl sh_54 lf_X3_12 ?_
      refine cgN_7_0 hZ X dX3_readKinds_128 (q := 131) rfl sh_55 lf_X3_29 ?_
      refine vc_X4_copy_X3 hZ X dX3_readKinds_131 (q := 134) rfl sh_9 sh_56 (Nat.le_of_ble_eq_true rfl) (Nat.le_of_ble_eq_true rfl) (Nat.le_of_ble_eq_true rfl) hs (fun s4 hs => ?_)
      refine g_aload_n X dX3_readKinds_134 (q := 135) rfl 0 rfl ?_
      refine cg_3_1 X dX3_readKinds_135 (q := 138) rfl sh_54 lf_X3_22 ?_
      refine cgN_7_1 hZ X dX3_readKinds_138 (q := 141) rfl sh_8 lf_X3_38 ?_
      refine g_aload_n X dX3_readKinds_141 (q := 142) rfl 0 rfl ?_
      refine cg_3_3 X dX3_readKinds_142 (q := 145) rfl sh_54 lf_X3_12 ?_
      refine cgN_7_1 hZ X dX3_readKinds_145 (q := 148) rfl sh_55 lf_X3_38 ?_
      refine vc_X4_copy_X3 hZ X dX3_readKinds_148 (q := 151) rfl sh_11 sh_58 (Nat.le_of_ble_eq_true rfl) (Nat.le_of_ble_eq_true rfl) (Nat.le_of_ble_eq_true rfl) hs (fun s5 hs => ?_)
      refine g_aload_n X dX3_readKinds_151 (q := 152) rfl 0 rfl ?_
      refine cg_3_1 X dX3_readKinds_152 (q := 155) rfl sh_54 lf_X3_22 ?_
      refine cgN_7_0 hZ X dX3_readKinds_155 (q := 158) rfl sh_8 lf_X3_29 ?_
      refine cgN_4_2 hZ X dX3_readKinds_158 (q := 161) rfl sh_9 lf_X3_73 ?_
      refine g_aload_n X dX3_readKinds_161 (q := 162) rfl 0 rfl ?_
      refine cg_3_1 X dX3_readKinds_162 (q := 165) rfl sh_54 lf_X3_22 ?_
      refine cgN_7_1 hZ X dX3_readKinds_165 (q := 168) rfl sh_8 lf_X3_38 ?_
      refine cgN_4_2 hZ X dX3_readKinds_168 (q := 171) rfl sh_11 lf_X3_73 ?_
      refine g_iadd X dX3_readKinds_171 (q := 172) rfl ?_
      exact RI _ 172 _ _ _ (rU1 hs) rfl (rV1 hs) dX3_readKinds_172
    · intro hs
      refine g_iconst X dX3_readKinds_115 (q := 116) rfl li_im1 ?_
      exact RI _ 116 _ _ _ (rU1 hs) rfl (rV1 hs) dX3_readKinds_116
  refine g_icmp_ge X dX3_readKinds_26 (q := 29) rfl (tgt := 105) (by decide) hs ?_ ?_
  · intro hs
    exact wg_sub [0] rfl (ih2 hs)
  · intro hs
    refine g_aload_n X dX3_readKinds_29 (q := 30) rfl 0 rfl ?_
    refine cg_3_0 X dX3_readKinds_30 (q := 33) rfl sh_54 lf_X3_18 ?_
    refine vc_X5_goesOn_X3 hZ X dX3_readKinds_33 (q := 36) rfl (Nat.le_of_ble_eq_true rfl) (Nat.le_of_ble_eq_true rfl) (Nat.le_of_ble_eq_true rfl) hs (fun y1 hs => ?_)
    refine g_if_eq X dX3_readKinds_36 (q := 39) rfl (tgt := 105) (by decide) hs ?_ ?_
    · intro hs
      exact wg_sub [0] rfl (ih2 hs)
    · intro hs
      refine g_aload_n X dX3_readKinds_39 (q := 40) rfl 0 rfl ?_
      refine cg_3_0 X dX3_readKinds_40 (q := 43) rfl sh_54 lf_X3_18 ?_
      refine cg_ldc hZ X dX3_readKinds_43 (q := 45) rfl 0 (Nat.le_of_ble_eq_true rfl) rfl ?_
      refine g_aload_n X dX3_readKinds_45 (q := 46) rfl 0 rfl ?_
      refine cg_3_3 X dX3_readKinds_46 (q := 49) rfl sh_54 lf_X3_12 ?_
      refine cgN_7_0 hZ X dX3_readKinds_49 (q := 52) rfl sh_55 lf_X3_29 ?_
      refine vc_X5_takesHead_X3 hZ X dX3_readKinds_52 (q := 55) rfl (Nat.le_of_ble_eq_true rfl) sh_56 (Nat.le_of_ble_eq_true rfl) (Nat.le_of_ble_eq_true rfl) (Nat.le_of_ble_eq_true rfl) hs (fun y2 hs => ?_)
      refine jnW1 (fun (s6 : ST) => WG (KC D cA cL h Z) p l e (rmD 11) st m args below meth c Q 2 s6 99 [(0, .ref (h 54)), (1, .int a1)] []) hs (fun s6 hs => ?_) (fun j2 ih3 hs => ?_)
      · refine g_iinc X dX3_readKinds_99 (q := 102) rfl 1 rfl (v := (a1 + (1 : Int32))) (congrArg (HAdd.hAdd a1) li_i1) (Nat.le_of_ble_eq_true rfl) (lv' := [(1, .int (a1 + (1 : Int32))), (0, .ref (h 54))]) rfl ?_
        refine g_goto X dX3_readKinds_102 (tgt := 22) (by decide) ?_
        exact wg_sub [1, 0] rfl (ih1 _ _ hs)
      refine g_if_eq X dX3_readKinds_55 (q := 58) rfl (tgt := 65) (by decide) hs ?_ ?_
      · intro hs
        refine g_aload_n X dX3_readKinds_65 (q := 66) rfl 0 rfl ?_
        refine cg_3_0 X dX3_readKinds_66 (q := 69) rfl sh_54 lf_X3_18 ?_
        refine cg_ldc hZ X dX3_readKinds_69 (q := 71) rfl 1 (Nat.le_of_ble_eq_true rfl) rfl ?_
        refine g_aload_n X dX3_readKinds_71 (q := 72) rfl 0 rfl ?_
        refine cg_3_3 X dX3_readKinds_72 (q := 75) rfl sh_54 lf_X3_12 ?_
        refine cgN_7_1 hZ X dX3_readKinds_75 (q := 78) rfl sh_55 lf_X3_38 ?_
        refine vc_X5_takesHead_X3 hZ X dX3_readKinds_78 (q := 81) rfl (Nat.le_of_ble_eq_true rfl) sh_58 (Nat.le_of_ble_eq_true rfl) (Nat.le_of_ble_eq_true rfl) (Nat.le_of_ble_eq_true rfl) hs (fun y3 hs => ?_)
        refine g_if_eq X dX3_readKinds_81 (q := 84) rfl (tgt := 91) (by decide) hs ?_ ?_
        · intro hs
          refine g_aload_n X dX3_readKinds_91 (q := 92) rfl 0 rfl ?_
          refine cg_3_0 X dX3_readKinds_92 (q := 95) rfl sh_54 lf_X3_18 ?_
          refine g_iconst X dX3_readKinds_95 (q := 96) rfl li_i1 ?_
          refine vc_X5_fail_X3 hZ X dX3_readKinds_96 (q := 99) rfl (Nat.le_of_ble_eq_true rfl) (Nat.le_of_ble_eq_true rfl) (Nat.le_of_ble_eq_true rfl) hs (fun s7 hs => ?_)
          exact wg_sub [0, 1] rfl (ih3 _ hs)
        · intro hs
          refine g_aload_n X dX3_readKinds_84 (q := 85) rfl 0 rfl ?_
          refine vc_X3_readCrossing_X3 hZ X dX3_readKinds_85 (q := 88) rfl (Nat.le_of_ble_eq_true rfl) (Nat.le_of_ble_eq_true rfl) (Nat.le_of_ble_eq_true rfl) hs (fun s8 hs => ?_)
          refine g_goto X dX3_readKinds_88 (tgt := 99) (by decide) ?_
          exact wg_sub [0, 1] rfl (ih3 _ hs)
      · intro hs
        refine g_aload_n X dX3_readKinds_58 (q := 59) rfl 0 rfl ?_
        refine vc_X3_readKind_X3 hZ X dX3_readKinds_59 (q := 62) rfl (Nat.le_of_ble_eq_true rfl) (Nat.le_of_ble_eq_true rfl) (Nat.le_of_ble_eq_true rfl) hs (fun s9 hs => ?_)
        refine g_goto X dX3_readKinds_62 (tgt := 99) (by decide) ?_
        exact wg_sub [0, 1] rfl (ih3 _ hs)
theorem dX3_needCell_0 : decode cX3_needCell 0 = .ok (.aload_n 0, 1) := by decide +kernel
theorem dX3_needCell_1 : decode cX3_needCell 1 = .ok (.getfield 18, 3) := by decide +kernel
theorem dX3_needCell_4 : decode cX3_needCell 4 = .ok (.iconst 0, 1) := by decide +kernel
theorem dX3_needCell_5 : decode cX3_needCell 5 = .ok (.aload_n 0, 1) := by decide +kernel
theorem dX3_needCell_6 : decode cX3_needCell 6 = .ok (.getfield 25, 3) := by decide +kernel
theorem dX3_needCell_9 : decode cX3_needCell 9 = .ok (.aload_n 0, 1) := by decide +kernel
theorem dX3_needCell_10 : decode cX3_needCell 10 = .ok (.getfield 18, 3) := by decide +kernel
theorem dX3_needCell_13 : decode cX3_needCell 13 = .ok (.invokevirtual 146, 3) := by decide +kernel
theorem dX3_needCell_16 : decode cX3_needCell 16 = .ok (.invokevirtual 149, 3) := by decide +kernel
theorem dX3_needCell_19 : decode cX3_needCell 19 = .ok (.ifCond .eq 8, 3) := by decide +kernel
theorem dX3_needCell_22 : decode cX3_needCell 22 = .ok (.bipush 63, 2) := by decide +kernel
theorem dX3_needCell_24 : decode cX3_needCell 24 = .ok (.goto 4, 3) := by decide +kernel
theorem dX3_needCell_27 : decode cX3_needCell 27 = .ok (.iconst (-1), 1) := by decide +kernel
theorem dX3_needCell_28 : decode cX3_needCell 28 = .ok (.invokevirtual 76, 3) := by decide +kernel
theorem dX3_needCell_31 : decode cX3_needCell 31 = .ok (.ireturn, 1) := by decide +kernel
theorem wX1_isCell_X3 : Cond.methodLinkNest RX3 149 yX1_isCell "StormSeeds" ∈ NW := nw_of 877 (by decide +kernel) rfl
theorem vc_X1_isCell_X3 {p : Program} {l : Launch} {e : Env} {st : State} {m : MethodId} {args : Array Value} {below : List Frame} {meth : Method} {c : Code} {Q : State → Prop} {nL : Nat} {cc : ByteArray} {s : ST} {pc q : Nat} {lv : List (Nat × Value)} {rest : List Value} {D : va_G} {cA cL : ClassId} {h : Nat → Nat} {Z : State → Heap → Prop} {sa : Nat → Nat} (hZ : ZK h Z sa) {d0 : Nat} (X : Cx (KC D cA cL h Z) p st m args meth c cc nL RX3) {b0 : Nat} {x1 : Int32} (d : decode cc pc = .ok (.invokevirtual 149, 3)) (hq : pc + 3 = q) (hb0 : isK 1 b0) (hd1 : 1 + 1 ≤ d0) (hd2 : 8 + (2 + 11) + 100 * 1 ≤ 100 * d0) (hr : (rest.map fun v => v.category).sum ≤ 8) {B : Type} {f : Int32 → B} {r : B} (hs : Lt (C_X1_isCell s b0 x1) f = r) (k : ∀ y, f y = r → WG (KC D cA cL h Z) p l e (rmD d0) st m args below meth c Q nL s q lv (.int y :: rest)) : WG (KC D cA cL h Z) p l e (rmD d0) st m args below meth c Q nL s pc lv (.int x1 :: .ref (h b0) :: rest) := by
  exact cVN_I (K := KC D cA cL h Z) X b0 (n := 1) (k_X1_isCell hZ l D cA cL s b0 x1 hb0) (gt_c (gt_of 623 (by decide +kernel) rfl) gt_t) (hZ.1 st st.heap X.2.2.2 _ wX1_isCell_X3) (gt_of 197 (by decide +kernel) rfl) (gt_of 622 (by decide +kernel) rfl) (gt_of 8 (by decide +kernel) rfl) ⟨hd1, hd2⟩ ⟨by decide, by decide, by decide +kernel⟩ (As := [.int x1]) rfl hr (hb0).1 (fs := cF1 h b0 (s.1 b0) (s.2 b0)) (GC_1 (cA := cA) (cL := cL) hb0 _ _) rfl rfl d hq (k _ hs)
theorem wX5_peekNumber_X3 : Cond.methodLinkNest RX3 146 yX5_peekNumber "StormSeeds" ∈ NW := nw_of 876 (by decide +kernel) rfl
theorem vc_X5_peekNumber_X3 {p : Program} {l : Launch} {e : Env} {st : State} {m : MethodId} {args : Array Value} {below : List Frame} {meth : Method} {c : Code} {Q : State → Prop} {nL : Nat} {cc : ByteArray} {s : ST} {pc q : Nat} {lv : List (Nat × Value)} {rest : List Value} {D : va_G} {cA cL : ClassId} {h : Nat → Nat} {Z : State → Heap → Prop} {sa : Nat → Nat} (hZ : ZK h Z sa) {d0 : Nat} (X : Cx (KC D cA cL h Z) p st m args meth c cc nL RX3) (d : decode cc pc = .ok (.invokevirtual 146, 3)) (hq : pc + 3 = q) (hd1 : 1 + 1 ≤ d0) (hd2 : 8 + (1 + 11) + 100 * 1 ≤ 100 * d0) (hr : (rest.map fun v => v.category).sum ≤ 8) {B : Type} {f : Int32 → Option B} {r : B} (hs : Bd (C_X5_peekNumber s) f = some r) (k : ∀ y, f y = some r → WG (KC D cA cL h Z) p l e (rmD d0) st m args below meth c Q nL s q lv (.int y :: rest)) : WG (KC D cA cL h Z) p l e (rmD d0) st m args below meth c Q nL s pc lv (.ref (h 49) :: rest) := by
  obtain ⟨v, hv, hs⟩ := Bd_e hs
  exact cVN_I (K := KC D cA cL h Z) X 49 (n := 0) (k_X5_peekNumber hZ l D cA cL s hv) (gt_c (gt_of 761 (by decide +kernel) rfl) gt_t) (hZ.1 st st.heap X.2.2.2 _ wX5_peekNumber_X3) (gt_of 202 (by decide +kernel) rfl) (gt_of 760 (by decide +kernel) rfl) (gt_of 25 (by decide +kernel) rfl) ⟨hd1, hd2⟩ ⟨by decide, by decide, by decide +kernel⟩ (As := []) rfl hr (sh_49).1 (fs := cF5 h 49 (s.1 49) (s.2 49)) (GC_5 (cA := cA) (cL := cL) sh_49 _ _) rfl rfl d hq (k _ hs)
def C_X3_needCell (s : ST) : Option (Int32 × ST) := Bd (C_X5_peekNumber s) fun y1 => Lt (C_X1_isCell s 1 y1) fun y2 => Lt (fun (a1 : Int32) => (Bd (C_X5_needNumber s (0 : Int32) a1) fun y3 => some (y3.1, y3.2) : Option (Int32 × ST))) fun j1 => if y2 = 0 then (j1 (-1 : Int32)) else (j1 (63 : Int32))
set_option maxRecDepth 100000 in
set_option maxHeartbeats 4000000 in
theorem k_X3_needCell {h : Nat → Nat} {Z : State → Heap → Prop} {sa : Nat → Nat} (hZ : ZK h Z sa) (l : Launch) (D : va_G) (cA cL : ClassId) (s : ST) {o : Int32 × ST} (hs : C_X3_needCell s = some o) : MI l (KC D cA cL h Z) 3 yX3_needCell cX3_needCell 1 (some .int) s [.ref (h 54)] o.1 o.2 := by
  refine met_i (by decide) (Nat.le_of_ble_eq_true rfl) ?_
  intro p e st m args below meth c Q X RI
  unfold C_X3_needCell at hs
  refine g_aload_n X dX3_needCell_0 (q := 1) rfl 0 rfl ?_
  refine cg_3_0 X dX3_needCell_1 (q := 4) rfl sh_54 lf_X3_18 ?_
  refine g_iconst X dX3_needCell_4 (q := 5) rfl li_i0 ?_
  refine g_aload_n X dX3_needCell_5 (q := 6) rfl 0 rfl ?_
  refine cg_3_2 X dX3_needCell_6 (q := 9) rfl sh_54 lf_X3_25 ?_
  refine g_aload_n X dX3_needCell_9 (q := 10) rfl 0 rfl ?_
  refine cg_3_0 X dX3_needCell_10 (q := 13) rfl sh_54 lf_X3_18 ?_
  refine vc_X5_peekNumber_X3 hZ X dX3_needCell_13 (q := 16) rfl (Nat.le_of_ble_eq_true rfl) (Nat.le_of_ble_eq_true rfl) (Nat.le_of_ble_eq_true rfl) hs (fun y1 hs => ?_)
  refine vc_X1_isCell_X3 hZ X dX3_needCell_16 (q := 19) rfl sh_1 (Nat.le_of_ble_eq_true rfl) (Nat.le_of_ble_eq_true rfl) (Nat.le_of_ble_eq_true rfl) hs (fun y2 hs => ?_)
  refine jnW1 (fun (a1 : Int32) => WG (KC D cA cL h Z) p l e (rmD 3) st m args below meth c Q 1 s 28 [] [.int a1, .int (0 : Int32), .ref (h 49)]) hs (fun a1 hs => ?_) (fun j1 ih1 hs => ?_)
  · refine vc_X5_needNumber_X3 hZ X dX3_needCell_28 (q := 31) rfl (Nat.le_of_ble_eq_true rfl) (Nat.le_of_ble_eq_true rfl) (Nat.le_of_ble_eq_true rfl) hs (fun y3 hs => ?_)
    exact RI _ 31 _ _ _ (rU1 hs) rfl (rV1 hs) dX3_needCell_31
  refine g_if_eq X dX3_needCell_19 (q := 22) rfl (tgt := 27) (by decide) hs ?_ ?_
  · intro hs
    refine g_iconst X dX3_needCell_27 (q := 28) rfl li_im1 ?_
    exact wg_sub [] rfl (ih1 _ hs)
  · intro hs
    refine g_bipush X dX3_needCell_22 (q := 24) rfl li_b63 ?_
    refine g_goto X dX3_needCell_24 (tgt := 28) (by decide) ?_
    exact wg_sub [] rfl (ih1 _ hs)
theorem dX3_readWants_0 : decode cX3_readWants 0 = .ok (.aload_n 0, 1) := by decide +kernel
theorem dX3_readWants_1 : decode cX3_readWants 1 = .ok (.getfield 12, 3) := by decide +kernel
theorem dX3_readWants_4 : decode cX3_readWants 4 = .ok (.getfield 104, 3) := by decide +kernel
theorem dX3_readWants_7 : decode cX3_readWants 7 = .ok (.invokevirtual 33, 3) := by decide +kernel
theorem dX3_readWants_10 : decode cX3_readWants 10 = .ok (.iconst 0, 1) := by decide +kernel
theorem dX3_readWants_11 : decode cX3_readWants 11 = .ok (.istore_n 1, 1) := by decide +kernel
theorem dX3_readWants_12 : decode cX3_readWants 12 = .ok (.iload_n 1, 1) := by decide +kernel
theorem dX3_readWants_13 : decode cX3_readWants 13 = .ok (.sipush 400, 3) := by decide +kernel
theorem dX3_readWants_16 : decode cX3_readWants 16 = .ok (.if_icmp .ge 166, 3) := by decide +kernel
theorem dX3_readWants_19 : decode cX3_readWants 19 = .ok (.aload_n 0, 1) := by decide +kernel
theorem dX3_readWants_20 : decode cX3_readWants 20 = .ok (.getfield 18, 3) := by decide +kernel
theorem dX3_readWants_23 : decode cX3_readWants 23 = .ok (.invokevirtual 41, 3) := by decide +kernel
theorem dX3_readWants_26 : decode cX3_readWants 26 = .ok (.ifCond .eq 156, 3) := by decide +kernel
theorem dX3_readWants_29 : decode cX3_readWants 29 = .ok (.aload_n 0, 1) := by decide +kernel
theorem dX3_readWants_30 : decode cX3_readWants 30 = .ok (.getfield 18, 3) := by decide +kernel
theorem dX3_readWants_33 : decode cX3_readWants 33 = .ok (.ldc 107, 2) := by decide +kernel
theorem dX3_readWants_35 : decode cX3_readWants 35 = .ok (.aload_n 0, 1) := by decide +kernel
theorem dX3_readWants_36 : decode cX3_readWants 36 = .ok (.getfield 12, 3) := by decide +kernel
theorem dX3_readWants_39 : decode cX3_readWants 39 = .ok (.getfield 104, 3) := by decide +kernel
theorem dX3_readWants_42 : decode cX3_readWants 42 = .ok (.invokevirtual 49, 3) := by decide +kernel
theorem dX3_readWants_45 : decode cX3_readWants 45 = .ok (.ifCond .ne 11, 3) := by decide +kernel
theorem dX3_readWants_48 : decode cX3_readWants 48 = .ok (.aload_n 0, 1) := by decide +kernel
theorem dX3_readWants_49 : decode cX3_readWants 49 = .ok (.getfield 18, 3) := by decide +kernel
theorem dX3_readWants_52 : decode cX3_readWants 52 = .ok (.iconst 1, 1) := by decide +kernel
theorem dX3_readWants_53 : decode cX3_readWants 53 = .ok (.invokevirtual 61, 3) := by decide +kernel
theorem dX3_readWants_56 : decode cX3_readWants 56 = .ok (.aload_n 0, 1) := by decide +kernel
theorem dX3_readWants_57 : decode cX3_readWants 57 = .ok (.getfield 18, 3) := by decide +kernel
theorem dX3_readWants_60 : decode cX3_readWants 60 = .ok (.ldc 109, 2) := by decide +kernel
theorem dX3_readWants_62 : decode cX3_readWants 62 = .ok (.invokevirtual 111, 3) := by decide +kernel
theorem dX3_readWants_65 : decode cX3_readWants 65 = .ok (.ifCond .eq 7, 3) := by decide +kernel
theorem dX3_readWants_68 : decode cX3_readWants 68 = .ok (.iconst (-1), 1) := by decide +kernel
theorem dX3_readWants_69 : decode cX3_readWants 69 = .ok (.goto 14, 3) := by decide +kernel
theorem dX3_readWants_72 : decode cX3_readWants 72 = .ok (.aload_n 0, 1) := by decide +kernel
theorem dX3_readWants_73 : decode cX3_readWants 73 = .ok (.aload_n 0, 1) := by decide +kernel
theorem dX3_readWants_74 : decode cX3_readWants 74 = .ok (.getfield 22, 3) := by decide +kernel
theorem dX3_readWants_77 : decode cX3_readWants 77 = .ok (.getfield 29, 3) := by decide +kernel
theorem dX3_readWants_80 : decode cX3_readWants 80 = .ok (.invokevirtual 96, 3) := by decide +kernel
theorem dX3_readWants_83 : decode cX3_readWants 83 = .ok (.istore_n 2, 1) := by decide +kernel
theorem dX3_readWants_84 : decode cX3_readWants 84 = .ok (.aload_n 0, 1) := by decide +kernel
theorem dX3_readWants_85 : decode cX3_readWants 85 = .ok (.getfield 18, 3) := by decide +kernel
theorem dX3_readWants_88 : decode cX3_readWants 88 = .ok (.ldc 115, 2) := by decide +kernel
theorem dX3_readWants_90 : decode cX3_readWants 90 = .ok (.invokevirtual 82, 3) := by decide +kernel
theorem dX3_readWants_93 : decode cX3_readWants 93 = .ok (.aload_n 0, 1) := by decide +kernel
theorem dX3_readWants_94 : decode cX3_readWants 94 = .ok (.invokevirtual 117, 3) := by decide +kernel
theorem dX3_readWants_97 : decode cX3_readWants 97 = .ok (.istore_n 3, 1) := by decide +kernel
theorem dX3_readWants_98 : decode cX3_readWants 98 = .ok (.aload_n 0, 1) := by decide +kernel
theorem dX3_readWants_99 : decode cX3_readWants 99 = .ok (.getfield 18, 3) := by decide +kernel
theorem dX3_readWants_102 : decode cX3_readWants 102 = .ok (.ldc 121, 2) := by decide +kernel
theorem dX3_readWants_104 : decode cX3_readWants 104 = .ok (.invokevirtual 82, 3) := by decide +kernel
theorem dX3_readWants_107 : decode cX3_readWants 107 = .ok (.aload_n 0, 1) := by decide +kernel
theorem dX3_readWants_108 : decode cX3_readWants 108 = .ok (.getfield 18, 3) := by decide +kernel
theorem dX3_readWants_111 : decode cX3_readWants 111 = .ok (.iconst 0, 1) := by decide +kernel
theorem dX3_readWants_112 : decode cX3_readWants 112 = .ok (.sipush 999, 3) := by decide +kernel
theorem dX3_readWants_115 : decode cX3_readWants 115 = .ok (.invokevirtual 76, 3) := by decide +kernel
theorem dX3_readWants_118 : decode cX3_readWants 118 = .ok (.istore 4, 2) := by decide +kernel
theorem dX3_readWants_120 : decode cX3_readWants 120 = .ok (.aload_n 0, 1) := by decide +kernel
theorem dX3_readWants_121 : decode cX3_readWants 121 = .ok (.getfield 18, 3) := by decide +kernel
theorem dX3_readWants_124 : decode cX3_readWants 124 = .ok (.ldc 123, 2) := by decide +kernel
theorem dX3_readWants_126 : decode cX3_readWants 126 = .ok (.invokevirtual 82, 3) := by decide +kernel
theorem dX3_readWants_129 : decode cX3_readWants 129 = .ok (.aload_n 0, 1) := by decide +kernel
theorem dX3_readWants_130 : decode cX3_readWants 130 = .ok (.getfield 18, 3) := by decide +kernel
theorem dX3_readWants_133 : decode cX3_readWants 133 = .ok (.iconst 1, 1) := by decide +kernel
theorem dX3_readWants_134 : decode cX3_readWants 134 = .ok (.bipush 99, 2) := by decide +kernel
theorem dX3_readWants_136 : decode cX3_readWants 136 = .ok (.invokevirtual 76, 3) := by decide +kernel
theorem dX3_readWants_139 : decode cX3_readWants 139 = .ok (.istore 5, 2) := by decide +kernel
theorem dX3_readWants_141 : decode cX3_readWants 141 = .ok (.aload_n 0, 1) := by decide +kernel
theorem dX3_readWants_142 : decode cX3_readWants 142 = .ok (.getfield 18, 3) := by decide +kernel
theorem dX3_readWants_145 : decode cX3_readWants 145 = .ok (.bipush 59, 2) := by decide +kernel
theorem dX3_readWants_147 : decode cX3_readWants 147 = .ok (.invokevirtual 88, 3) := by decide +kernel
theorem dX3_readWants_150 : decode cX3_readWants 150 = .ok (.aload_n 0, 1) := by decide +kernel
theorem dX3_readWants_151 : decode cX3_readWants 151 = .ok (.getfield 18, 3) := by decide +kernel
theorem dX3_readWants_154 : decode cX3_readWants 154 = .ok (.getfield 65, 3) := by decide +kernel
theorem dX3_readWants_157 : decode cX3_readWants 157 = .ok (.ifCond .ne 19, 3) := by decide +kernel
theorem dX3_readWants_160 : decode cX3_readWants 160 = .ok (.aload_n 0, 1) := by decide +kernel
theorem dX3_readWants_161 : decode cX3_readWants 161 = .ok (.getfield 12, 3) := by decide +kernel
theorem dX3_readWants_164 : decode cX3_readWants 164 = .ok (.getfield 104, 3) := by decide +kernel
theorem dX3_readWants_167 : decode cX3_readWants 167 = .ok (.iload_n 2, 1) := by decide +kernel
theorem dX3_readWants_168 : decode cX3_readWants 168 = .ok (.iload_n 3, 1) := by decide +kernel
theorem dX3_readWants_169 : decode cX3_readWants 169 = .ok (.iload 4, 2) := by decide +kernel
theorem dX3_readWants_171 : decode cX3_readWants 171 = .ok (.iload 5, 2) := by decide +kernel
theorem dX3_readWants_173 : decode cX3_readWants 173 = .ok (.invokevirtual 92, 3) := by decide +kernel
theorem dX3_readWants_176 : decode cX3_readWants 176 = .ok (.iinc 1 1, 3) := by decide +kernel
theorem dX3_readWants_179 : decode cX3_readWants 179 = .ok (.goto (-167), 3) := by decide +kernel
theorem dX3_readWants_182 : decode cX3_readWants 182 = .ok (.aload_n 0, 1) := by decide +kernel
theorem dX3_readWants_183 : decode cX3_readWants 183 = .ok (.getfield 18, 3) := by decide +kernel
theorem dX3_readWants_186 : decode cX3_readWants 186 = .ok (.getfield 65, 3) := by decide +kernel
theorem dX3_readWants_189 : decode cX3_readWants 189 = .ok (.ifCond .eq 5, 3) := by decide +kernel
theorem dX3_readWants_192 : decode cX3_readWants 192 = .ok (.iconst (-1), 1) := by decide +kernel
theorem dX3_readWants_193 : decode cX3_readWants 193 = .ok (.ireturn, 1) := by decide +kernel
theorem dX3_readWants_194 : decode cX3_readWants 194 = .ok (.aload_n 0, 1) := by decide +kernel
theorem dX3_readWants_195 : decode cX3_readWants 195 = .ok (.getfield 22, 3) := by decide +kernel
theorem dX3_readWants_198 : decode cX3_readWants 198 = .ok (.getfield 104, 3) := by decide +kernel
theorem dX3_readWants_201 : decode cX3_readWants 201 = .ok (.aload_n 0, 1) := by decide +kernel
theorem dX3_readWants_202 : decode cX3_readWants 202 = .ok (.getfield 12, 3) := by decide +kernel
theorem dX3_readWants_205 : decode cX3_readWants 205 = .ok (.getfield 104, 3) := by decide +kernel
theorem dX3_readWants_208 : decode cX3_readWants 208 = .ok (.invokevirtual 69, 3) := by decide +kernel
theorem dX3_readWants_211 : decode cX3_readWants 211 = .ok (.aload_n 0, 1) := by decide +kernel
theorem dX3_readWants_212 : decode cX3_readWants 212 = .ok (.getfield 22, 3) := by decide +kernel
theorem dX3_readWants_215 : decode cX3_readWants 215 = .ok (.getfield 104, 3) := by decide +kernel
theorem dX3_readWants_218 : decode cX3_readWants 218 = .ok (.getfield 73, 3) := by decide +kernel
theorem dX3_readWants_221 : decode cX3_readWants 221 = .ok (.ireturn, 1) := by decide +kernel
theorem wX3_needCell_X3 : GoodIn GT (wsV RX3 117 RX3 yX3_needCell (.code yX3_needCell cX3_needCell 1 (some .int) :: GT)) := gt_V (gt_of 872 (by decide +kernel) rfl) (gt_of 874 (by decide +kernel) rfl) (gt_of 44 (by decide +kernel) rfl) (gt_of 203 (by decide +kernel) rfl) (gt_of 875 (by decide +kernel) rfl)
theorem vc_X3_needCell_X3 {p : Program} {l : Launch} {e : Env} {st : State} {m : MethodId} {args : Array Value} {below : List Frame} {meth : Method} {c : Code} {Q : State → Prop} {nL : Nat} {cc : ByteArray} {s : ST} {pc q : Nat} {lv : List (Nat × Value)} {rest : List Value} {D : va_G} {cA cL : ClassId} {h : Nat → Nat} {Z : State → Heap → Prop} {sa : Nat → Nat} (hZ : ZK h Z sa) {d0 : Nat} (X : Cx (KC D cA cL h Z) p st m args meth c cc nL RX3) (d : decode cc pc = .ok (.invokevirtual 117, 3)) (hq : pc + 3 = q) (hd1 : 3 + 1 ≤ d0) (hd2 : 8 + (1 + 11) + 100 * 3 ≤ 100 * d0) (hr : (rest.map fun v => v.category).sum ≤ 8) {B : Type} {f : Int32 × ST → Option B} {r : B} (hs : Bd (C_X3_needCell s) f = some r) (k : ∀ y, f y = some r → WG (KC D cA cL h Z) p l e (rmD d0) st m args below meth c Q nL y.2 q lv (.int y.1 :: rest)) : WG (KC D cA cL h Z) p l e (rmD d0) st m args below meth c Q nL s pc lv (.ref (h 54) :: rest) := by
  obtain ⟨v, hv, hs⟩ := Bd_e hs
  exact cV_I (K := KC D cA cL h Z) X 54 (n := 0) (k_X3_needCell hZ l D cA cL s hv) wX3_needCell_X3 ⟨hd1, hd2⟩ ⟨by decide, by decide, by decide +kernel⟩ (As := []) rfl hr (sh_54).1 (fs := cF3 h 54 (s.1 54) (s.2 54)) (GC_3 (cA := cA) (cL := cL) sh_54 _ _) rfl rfl d hq (k _ hs)
theorem wX5_takesWord_X3 : Cond.methodLinkNest RX3 111 yX5_takesWord "StormSeeds" ∈ NW := nw_of 835 (by decide +kernel) rfl
theorem vc_X5_takesWord_X3 {p : Program} {l : Launch} {e : Env} {st : State} {m : MethodId} {args : Array Value} {below : List Frame} {meth : Method} {c : Code} {Q : State → Prop} {nL : Nat} {cc : ByteArray} {s : ST} {pc q : Nat} {lv : List (Nat × Value)} {rest : List Value} {D : va_G} {cA cL : ClassId} {h : Nat → Nat} {Z : State → Heap → Prop} {sa : Nat → Nat} (hZ : ZK h Z sa) {d0 : Nat} (X : Cx (KC D cA cL h Z) p st m args meth c cc nL RX3) {x1 : Nat} (d : decode cc pc = .ok (.invokevirtual 111, 3)) (hq : pc + 3 = q) (hx1 : x1 < 30) (hd1 : 8 + 1 ≤ d0) (hd2 : 8 + (3 + 11) + 100 * 8 ≤ 100 * d0) (hr : (rest.map fun v => v.category).sum ≤ 8) {B : Type} {f : Int32 × ST → Option B} {r : B} (hs : Bd (C_X5_takesWord s x1) f = some r) (k : ∀ y, f y = some r → WG (KC D cA cL h Z) p l e (rmD d0) st m args below meth c Q nL y.2 q lv (.int y.1 :: rest)) : WG (KC D cA cL h Z) p l e (rmD d0) st m args below meth c Q nL s pc lv (.ref (sa x1) :: .ref (h 49) :: rest) := by
  obtain ⟨v, hv, hs⟩ := Bd_e hs
  exact cVN_I (K := KC D cA cL h Z) X 49 (n := 1) (k_X5_takesWord hZ l D cA cL s x1 hx1 hv) (gt_c (gt_of 770 (by decide +kernel) rfl) gt_t) (hZ.1 st st.heap X.2.2.2 _ wX5_takesWord_X3) (gt_of 202 (by decide +kernel) rfl) (gt_of 769 (by decide +kernel) rfl) (gt_of 27 (by decide +kernel) rfl) ⟨hd1, hd2⟩ ⟨by decide, by decide, by decide +kernel⟩ (As := [.ref (sa x1)]) rfl hr (sh_49).1 (fs := cF5 h 49 (s.1 49) (s.2 49)) (GC_5 (cA := cA) (cL := cL) sh_49 _ _) rfl rfl d hq (k _ hs)
def C_X3_readWants (s : ST) : Option (Int32 × ST) := Lt (C_X4_clear s 66) fun s1 => lpK2 (C := Int32 × ST) (fun (rec1 : Int32 → ST → Option (Int32 × ST)) (a1 : Int32) (s2 : ST) => Lt (if (s2.1 49 8) = 0 then (Bd (C_X4_copy s2 19 66) fun s3 => some ((s3.1 19 2), s3)) else (some ((-1 : Int32), s2)) : Option (Int32 × ST)) fun j1 => if (400 : Int32) ≤ a1 then (j1) else (Lt (C_X5_goesOn s2) fun y1 => if y1 = 0 then (j1) else (Bd (C_X5_takesHead s2 6 66) fun y2 => Lt (fun (s4 : ST) => (Bd (C_X5_takesWord s4 7) fun y3 => Lt (fun (a2 : Int32) (s5 : ST) => (Bd (C_X5_needWord s5 8) fun s6 => Bd (C_X3_needCell s6) fun y4 => Bd (C_X5_needWord y4.2 9) fun s7 => Bd (C_X5_needNumber s7 (0 : Int32) (999 : Int32)) fun y5 => Bd (C_X5_needWord y5.2 10) fun s8 => Bd (C_X5_needNumber s8 (1 : Int32) (99 : Int32)) fun y6 => Bd (C_X5_needSign y6.2 (59 : Int32)) fun s9 => Lt (fun (s10 : ST) => (rec1 (a1 + (1 : Int32)) s10 : Option (Int32 × ST))) fun j4 => if (s9.1 49 8) = 0 then (Bd (C_X4_add s9 66 a2 y4.1 y5.1 y6.1) fun s11 => j4 s11) else (j4 s9) : Option (Int32 × ST))) fun j3 => if y3.1 = 0 then (Bd (C_X3_needKind y3.2 9) fun y7 => j3 y7.1 y7.2) else (j3 (-1 : Int32) y3.2) : Option (Int32 × ST))) fun j2 => if y2.1 = 0 then (Bd (C_X5_fail y2.2 (1 : Int32)) fun s12 => j2 s12) else (j2 y2.2)))) FU (0 : Int32) s1
set_option maxRecDepth 100000 in
set_option maxHeartbeats 4000000 in
theorem k_X3_readWants {h : Nat → Nat} {Z : State → Heap → Prop} {sa : Nat → Nat} (hZ : ZK h Z sa) (l : Launch) (D : va_G) (cA cL : ClassId) (s : ST) {o : Int32 × ST} (hs : C_X3_readWants s = some o) : MI l (KC D cA cL h Z) 10 yX3_readWants cX3_readWants 6 (some .int) s [.ref (h 54)] o.1 o.2 := by
  refine met_i (by decide) (Nat.le_of_ble_eq_true rfl) ?_
  intro p e st m args below meth c Q X RI
  unfold C_X3_readWants at hs
  refine g_aload_n X dX3_readWants_0 (q := 1) rfl 0 rfl ?_
  refine cg_3_3 X dX3_readWants_1 (q := 4) rfl sh_54 lf_X3_12 ?_
  refine cgN_7_3 hZ X dX3_readWants_4 (q := 7) rfl sh_55 lf_X3_104 ?_
  refine vc_X4_clear_X3 hZ X dX3_readWants_7 (q := 10) rfl sh_66 (Nat.le_of_ble_eq_true rfl) (Nat.le_of_ble_eq_true rfl) (Nat.le_of_ble_eq_true rfl) hs (fun s1 hs => ?_)
  refine g_iconst X dX3_readWants_10 (q := 11) rfl li_i0 ?_
  refine g_istore_n X dX3_readWants_11 (q := 12) rfl (Nat.le_of_ble_eq_true rfl) (lv' := [(1, .int (0 : Int32)), (0, .ref (h 54))]) rfl ?_
  refine wg_sub [1, 0] rfl (lpW2 (fun (a1 : Int32) (s2 : ST) => WG (KC D cA cL h Z) p l e (rmD 10) st m args below meth c Q 6 s2 12 [(0, .ref (h 54)), (1, .int a1)] []) (fun rec1 ih1 a1 s2 hs => ?_) _ _ _ hs)
  refine g_iload_n X dX3_readWants_12 (q := 13) rfl 1 rfl ?_
  refine g_sipush X dX3_readWants_13 (q := 16) rfl li_s400 ?_
  refine jnW0 (WG (KC D cA cL h Z) p l e (rmD 10) st m args below meth c Q 6 s2 182 [(0, .ref (h 54))] []) hs (fun  hs => ?_) (fun j1 ih2 hs => ?_)
  · refine g_aload_n X dX3_readWants_182 (q := 183) rfl 0 rfl ?_
    refine cg_3_0 X dX3_readWants_183 (q := 186) rfl sh_54 lf_X3_18 ?_
    refine cgN_5_8 hZ X dX3_readWants_186 (q := 189) rfl sh_49 lf_X3_65 ?_
    refine g_if_eq X dX3_readWants_189 (q := 192) rfl (tgt := 194) (by decide) hs ?_ ?_
    · intro hs
      refine g_aload_n X dX3_readWants_194 (q := 195) rfl 0 rfl ?_
      refine cg_3_1 X dX3_readWants_195 (q := 198) rfl sh_54 lf_X3_22 ?_
      refine cgN_7_3 hZ X dX3_readWants_198 (q := 201) rfl sh_8 lf_X3_104 ?_
      refine g_aload_n X dX3_readWants_201 (q := 202) rfl 0 rfl ?_
      refine cg_3_3 X dX3_readWants_202 (q := 205) rfl sh_54 lf_X3_12 ?_
      refine cgN_7_3 hZ X dX3_readWants_205 (q := 208) rfl sh_55 lf_X3_104 ?_
      refine vc_X4_copy_X3 hZ X dX3_readWants_208 (q := 211) rfl sh_19 sh_66 (Nat.le_of_ble_eq_true rfl) (Nat.le_of_ble_eq_true rfl) (Nat.le_of_ble_eq_true rfl) hs (fun s3 hs => ?_)
      refine g_aload_n X dX3_readWants_211 (q := 212) rfl 0 rfl ?_
      refine cg_3_1 X dX3_readWants_212 (q := 215) rfl sh_54 lf_X3_22 ?_
      refine cgN_7_3 hZ X dX3_readWants_215 (q := 218) rfl sh_8 lf_X3_104 ?_
      refine cgN_4_2 hZ X dX3_readWants_218 (q := 221) rfl sh_19 lf_X3_73 ?_
      exact RI _ 221 _ _ _ (rU1 hs) rfl (rV1 hs) dX3_readWants_221
    · intro hs
      refine g_iconst X dX3_readWants_192 (q := 193) rfl li_im1 ?_
      exact RI _ 193 _ _ _ (rU1 hs) rfl (rV1 hs) dX3_readWants_193
  refine g_icmp_ge X dX3_readWants_16 (q := 19) rfl (tgt := 182) (by decide) hs ?_ ?_
  · intro hs
    exact wg_sub [0] rfl (ih2 hs)
  · intro hs
    refine g_aload_n X dX3_readWants_19 (q := 20) rfl 0 rfl ?_
    refine cg_3_0 X dX3_readWants_20 (q := 23) rfl sh_54 lf_X3_18 ?_
    refine vc_X5_goesOn_X3 hZ X dX3_readWants_23 (q := 26) rfl (Nat.le_of_ble_eq_true rfl) (Nat.le_of_ble_eq_true rfl) (Nat.le_of_ble_eq_true rfl) hs (fun y1 hs => ?_)
    refine g_if_eq X dX3_readWants_26 (q := 29) rfl (tgt := 182) (by decide) hs ?_ ?_
    · intro hs
      exact wg_sub [0] rfl (ih2 hs)
    · intro hs
      refine g_aload_n X dX3_readWants_29 (q := 30) rfl 0 rfl ?_
      refine cg_3_0 X dX3_readWants_30 (q := 33) rfl sh_54 lf_X3_18 ?_
      refine cg_ldc hZ X dX3_readWants_33 (q := 35) rfl 6 (Nat.le_of_ble_eq_true rfl) rfl ?_
      refine g_aload_n X dX3_readWants_35 (q := 36) rfl 0 rfl ?_
      refine cg_3_3 X dX3_readWants_36 (q := 39) rfl sh_54 lf_X3_12 ?_
      refine cgN_7_3 hZ X dX3_readWants_39 (q := 42) rfl sh_55 lf_X3_104 ?_
      refine vc_X5_takesHead_X3 hZ X dX3_readWants_42 (q := 45) rfl (Nat.le_of_ble_eq_true rfl) sh_66 (Nat.le_of_ble_eq_true rfl) (Nat.le_of_ble_eq_true rfl) (Nat.le_of_ble_eq_true rfl) hs (fun y2 hs => ?_)
      refine jnW1 (fun (s4 : ST) => WG (KC D cA cL h Z) p l e (rmD 10) st m args below meth c Q 6 s4 56 [(0, .ref (h 54)), (1, .int a1)] []) hs (fun s4 hs => ?_) (fun j2 ih3 hs => ?_)
      · refine g_aload_n X dX3_readWants_56 (q := 57) rfl 0 rfl ?_
        refine cg_3_0 X dX3_readWants_57 (q := 60) rfl sh_54 lf_X3_18 ?_
        refine cg_ldc hZ X dX3_readWants_60 (q := 62) rfl 7 (Nat.le_of_ble_eq_true rfl) rfl ?_
        refine vc_X5_takesWord_X3 hZ X dX3_readWants_62 (q := 65) rfl (Nat.le_of_ble_eq_true rfl) (Nat.le_of_ble_eq_true rfl) (Nat.le_of_ble_eq_true rfl) (Nat.le_of_ble_eq_true rfl) hs (fun y3 hs => ?_)
        refine jnW2 (fun (a2 : Int32) (s5 : ST) => WG (KC D cA cL h Z) p l e (rmD 10) st m args below meth c Q 6 s5 83 [(0, .ref (h 54)), (1, .int a1)] [.int a2]) hs (fun a2 s5 hs => ?_) (fun j3 ih4 hs => ?_)
        · refine g_istore_n X dX3_readWants_83 (q := 84) rfl (Nat.le_of_ble_eq_true rfl) (lv' := [(2, .int a2), (0, .ref (h 54)), (1, .int a1)]) rfl ?_
          refine g_aload_n X dX3_readWants_84 (q := 85) rfl 1 rfl ?_
          refine cg_3_0 X dX3_readWants_85 (q := 88) rfl sh_54 lf_X3_18 ?_
          refine cg_ldc hZ X dX3_readWants_88 (q := 90) rfl 8 (Nat.le_of_ble_eq_true rfl) rfl ?_
          refine vc_X5_needWord_X3 hZ X dX3_readWants_90 (q := 93) rfl (Nat.le_of_ble_eq_true rfl) (Nat.le_of_ble_eq_true rfl) (Nat.le_of_ble_eq_true rfl) (Nat.le_of_ble_eq_true rfl) hs (fun s6 hs => ?_)
          refine g_aload_n X dX3_readWants_93 (q := 94) rfl 1 rfl ?_
          refine vc_X3_needCell_X3 hZ X dX3_readWants_94 (q := 97) rfl (Nat.le_of_ble_eq_true rfl) (Nat.le_of_ble_eq_true rfl) (Nat.le_of_ble_eq_true rfl) hs (fun y4 hs => ?_)
          refine g_istore_n X dX3_readWants_97 (q := 98) rfl (Nat.le_of_ble_eq_true rfl) (lv' := [(3, .int y4.1), (2, .int a2), (0, .ref (h 54)), (1, .int a1)]) rfl ?_
          refine g_aload_n X dX3_readWants_98 (q := 99) rfl 2 rfl ?_
          refine cg_3_0 X dX3_readWants_99 (q := 102) rfl sh_54 lf_X3_18 ?_
          refine cg_ldc hZ X dX3_readWants_102 (q := 104) rfl 9 (Nat.le_of_ble_eq_true rfl) rfl ?_
          refine vc_X5_needWord_X3 hZ X dX3_readWants_104 (q := 107) rfl (Nat.le_of_ble_eq_true rfl) (Nat.le_of_ble_eq_true rfl) (Nat.le_of_ble_eq_true rfl) (Nat.le_of_ble_eq_true rfl) hs (fun s7 hs => ?_)
          refine g_aload_n X dX3_readWants_107 (q := 108) rfl 2 rfl ?_
          refine cg_3_0 X dX3_readWants_108 (q := 111) rfl sh_54 lf_X3_18 ?_
          refine g_iconst X dX3_readWants_111 (q := 112) rfl li_i0 ?_
          refine g_sipush X dX3_readWants_112 (q := 115) rfl li_s999 ?_
          refine vc_X5_needNumber_X3 hZ X dX3_readWants_115 (q := 118) rfl (Nat.le_of_ble_eq_true rfl) (Nat.le_of_ble_eq_true rfl) (Nat.le_of_ble_eq_true rfl) hs (fun y5 hs => ?_)
          refine g_istore X dX3_readWants_118 (q := 120) rfl (Nat.le_of_ble_eq_true rfl) (lv' := [(4, .int y5.1), (3, .int y4.1), (2, .int a2), (0, .ref (h 54)), (1, .int a1)]) rfl ?_
          refine g_aload_n X dX3_readWants_120 (q := 121) rfl 3 rfl ?_
          refine cg_3_0 X dX3_readWants_121 (q := 124) rfl sh_54 lf_X3_18 ?_
          refine cg_ldc hZ X dX3_readWants_124 (q := 126) rfl 10 (Nat.le_of_ble_eq_true rfl) rfl ?_
          refine vc_X5_needWord_X3 hZ X dX3_readWants_126 (q := 129) rfl (Nat.le_of_ble_eq_true rfl) (Nat.le_of_ble_eq_true rfl) (Nat.le_of_ble_eq_true rfl) (Nat.le_of_ble_eq_true rfl) hs (fun s8 hs => ?_)
          refine g_aload_n X dX3_readWants_129 (q := 130) rfl 3 rfl ?_
          refine cg_3_0 X dX3_readWants_130 (q := 133) rfl sh_54 lf_X3_18 ?_
          refine g_iconst X dX3_readWants_133 (q := 134) rfl li_i1 ?_
          refine g_bipush X dX3_readWants_134 (q := 136) rfl li_b99 ?_
          refine vc_X5_needNumber_X3 hZ X dX3_readWants_136 (q := 139) rfl (Nat.le_of_ble_eq_true rfl) (Nat.le_of_ble_eq_true rfl) (Nat.le_of_ble_eq_true rfl) hs (fun y6 hs => ?_)
          refine g_istore X dX3_readWants_139 (q := 141) rfl (Nat.le_of_ble_eq_true rfl) (lv' := [(5, .int y6.1), (4, .int y5.1), (3, .int y4.1), (2, .int a2), (0, .ref (h 54)), (1, .int a1)]) rfl ?_
          refine g_aload_n X dX3_readWants_141 (q := 142) rfl 4 rfl ?_
          refine cg_3_0 X dX3_readWants_142 (q := 145) rfl sh_54 lf_X3_18 ?_
          refine g_bipush X dX3_readWants_145 (q := 147) rfl li_b59 ?_
          refine vc_X5_needSign_X3 hZ X dX3_readWants_147 (q := 150) rfl (Nat.le_of_ble_eq_true rfl) (Nat.le_of_ble_eq_true rfl) (Nat.le_of_ble_eq_true rfl) hs (fun s9 hs => ?_)
          refine g_aload_n X dX3_readWants_150 (q := 151) rfl 4 rfl ?_
          refine cg_3_0 X dX3_readWants_151 (q := 154) rfl sh_54 lf_X3_18 ?_
          refine cgN_5_8 hZ X dX3_readWants_154 (q := 157) rfl sh_49 lf_X3_65 ?_
          refine jnW1 (fun (s10 : ST) => WG (KC D cA cL h Z) p l e (rmD 10) st m args below meth c Q 6 s10 176 [(0, .ref (h 54)), (1, .int a1)] []) hs (fun s10 hs => ?_) (fun j4 ih5 hs => ?_)
          · refine g_iinc X dX3_readWants_176 (q := 179) rfl 1 rfl (v := (a1 + (1 : Int32))) (congrArg (HAdd.hAdd a1) li_i1) (Nat.le_of_ble_eq_true rfl) (lv' := [(1, .int (a1 + (1 : Int32))), (0, .ref (h 54))]) rfl ?_
            refine g_goto X dX3_readWants_179 (tgt := 12) (by decide) ?_
            exact wg_sub [1, 0] rfl (ih1 _ _ hs)
          refine g_if_ne X dX3_readWants_157 (q := 160) rfl (tgt := 176) (by decide) hs ?_ ?_
          · intro hs
            exact wg_sub [4, 5] rfl (ih5 _ hs)
          · intro hs
            refine g_aload_n X dX3_readWants_160 (q := 161) rfl 4 rfl ?_
            refine cg_3_3 X dX3_readWants_161 (q := 164) rfl sh_54 lf_X3_12 ?_
            refine cgN_7_3 hZ X dX3_readWants_164 (q := 167) rfl sh_55 lf_X3_104 ?_
            refine g_iload_n X dX3_readWants_167 (q := 168) rfl 3 rfl ?_
            refine g_iload_n X dX3_readWants_168 (q := 169) rfl 2 rfl ?_
            refine g_iload X dX3_readWants_169 (q := 171) rfl 1 rfl ?_
            refine g_iload X dX3_readWants_171 (q := 173) rfl 0 rfl ?_
            refine vc_X4_add_X3 hZ X dX3_readWants_173 (q := 176) rfl sh_66 (Nat.le_of_ble_eq_true rfl) (Nat.le_of_ble_eq_true rfl) (Nat.le_of_ble_eq_true rfl) hs (fun s11 hs => ?_)
            exact wg_sub [4, 5] rfl (ih5 _ hs)
        refine g_if_eq X dX3_readWants_65 (q := 68) rfl (tgt := 72) (by decide) hs ?_ ?_
        · intro hs
          refine g_aload_n X dX3_readWants_72 (q := 73) rfl 0 rfl ?_
          refine g_aload_n X dX3_readWants_73 (q := 74) rfl 0 rfl ?_
          refine cg_3_1 X dX3_readWants_74 (q := 77) rfl sh_54 lf_X3_22 ?_
          refine cgN_7_0 hZ X dX3_readWants_77 (q := 80) rfl sh_8 lf_X3_29 ?_
          refine vc_X3_needKind_X3 hZ X dX3_readWants_80 (q := 83) rfl sh_9 (Nat.le_of_ble_eq_true rfl) (Nat.le_of_ble_eq_true rfl) (Nat.le_of_ble_eq_true rfl) hs (fun y7 hs => ?_)
          exact wg_sub [0, 1] rfl (ih4 _ _ hs)
        · intro hs
          refine g_iconst X dX3_readWants_68 (q := 69) rfl li_im1 ?_
          refine g_goto X dX3_readWants_69 (tgt := 83) (by decide) ?_
          exact wg_sub [0, 1] rfl (ih4 _ _ hs)
      refine g_if_ne X dX3_readWants_45 (q := 48) rfl (tgt := 56) (by decide) hs ?_ ?_
      · intro hs
        exact wg_sub [0, 1] rfl (ih3 _ hs)
      · intro hs
        refine g_aload_n X dX3_readWants_48 (q := 49) rfl 0 rfl ?_
        refine cg_3_0 X dX3_readWants_49 (q := 52) rfl sh_54 lf_X3_18 ?_
        refine g_iconst X dX3_readWants_52 (q := 53) rfl li_i1 ?_
        refine vc_X5_fail_X3 hZ X dX3_readWants_53 (q := 56) rfl (Nat.le_of_ble_eq_true rfl) (Nat.le_of_ble_eq_true rfl) (Nat.le_of_ble_eq_true rfl) hs (fun s12 hs => ?_)
        exact wg_sub [0, 1] rfl (ih3 _ hs)
theorem dX3_needWind_0 : decode cX3_needWind 0 = .ok (.aload_n 0, 1) := by decide +kernel
theorem dX3_needWind_1 : decode cX3_needWind 1 = .ok (.getfield 18, 3) := by decide +kernel
theorem dX3_needWind_4 : decode cX3_needWind 4 = .ok (.ldc 138, 2) := by decide +kernel
theorem dX3_needWind_6 : decode cX3_needWind 6 = .ok (.invokevirtual 111, 3) := by decide +kernel
theorem dX3_needWind_9 : decode cX3_needWind 9 = .ok (.ifCond .eq 5, 3) := by decide +kernel
theorem dX3_needWind_12 : decode cX3_needWind 12 = .ok (.iconst 0, 1) := by decide +kernel
theorem dX3_needWind_13 : decode cX3_needWind 13 = .ok (.ireturn, 1) := by decide +kernel
theorem dX3_needWind_14 : decode cX3_needWind 14 = .ok (.aload_n 0, 1) := by decide +kernel
theorem dX3_needWind_15 : decode cX3_needWind 15 = .ok (.getfield 18, 3) := by decide +kernel
theorem dX3_needWind_18 : decode cX3_needWind 18 = .ok (.ldc 140, 2) := by decide +kernel
theorem dX3_needWind_20 : decode cX3_needWind 20 = .ok (.invokevirtual 111, 3) := by decide +kernel
theorem dX3_needWind_23 : decode cX3_needWind 23 = .ok (.ifCond .eq 5, 3) := by decide +kernel
theorem dX3_needWind_26 : decode cX3_needWind 26 = .ok (.iconst 1, 1) := by decide +kernel
theorem dX3_needWind_27 : decode cX3_needWind 27 = .ok (.ireturn, 1) := by decide +kernel
theorem dX3_needWind_28 : decode cX3_needWind 28 = .ok (.aload_n 0, 1) := by decide +kernel
theorem dX3_needWind_29 : decode cX3_needWind 29 = .ok (.getfield 18, 3) := by decide +kernel
theorem dX3_needWind_32 : decode cX3_needWind 32 = .ok (.ldc 142, 2) := by decide +kernel
theorem dX3_needWind_34 : decode cX3_needWind 34 = .ok (.invokevirtual 111, 3) := by decide +kernel
theorem dX3_needWind_37 : decode cX3_needWind 37 = .ok (.ifCond .eq 5, 3) := by decide +kernel
theorem dX3_needWind_40 : decode cX3_needWind 40 = .ok (.iconst 2, 1) := by decide +kernel
theorem dX3_needWind_41 : decode cX3_needWind 41 = .ok (.ireturn, 1) := by decide +kernel
theorem dX3_needWind_42 : decode cX3_needWind 42 = .ok (.aload_n 0, 1) := by decide +kernel
theorem dX3_needWind_43 : decode cX3_needWind 43 = .ok (.getfield 18, 3) := by decide +kernel
theorem dX3_needWind_46 : decode cX3_needWind 46 = .ok (.ldc 144, 2) := by decide +kernel
theorem dX3_needWind_48 : decode cX3_needWind 48 = .ok (.invokevirtual 82, 3) := by decide +kernel
theorem dX3_needWind_51 : decode cX3_needWind 51 = .ok (.iconst 3, 1) := by decide +kernel
theorem dX3_needWind_52 : decode cX3_needWind 52 = .ok (.ireturn, 1) := by decide +kernel
def C_X3_needWind (s : ST) : Option (Int32 × ST) := Bd (C_X5_takesWord s 13) fun y1 => if y1.1 = 0 then (Bd (C_X5_takesWord y1.2 14) fun y2 => if y2.1 = 0 then (Bd (C_X5_takesWord y2.2 15) fun y3 => if y3.1 = 0 then (Bd (C_X5_needWord y3.2 16) fun s1 => some ((3 : Int32), s1)) else (some ((2 : Int32), y3.2))) else (some ((1 : Int32), y2.2))) else (some ((0 : Int32), y1.2))
set_option maxRecDepth 100000 in
set_option maxHeartbeats 4000000 in
theorem k_X3_needWind {h : Nat → Nat} {Z : State → Heap → Prop} {sa : Nat → Nat} (hZ : ZK h Z sa) (l : Launch) (D : va_G) (cA cL : ClassId) (s : ST) {o : Int32 × ST} (hs : C_X3_needWind s = some o) : MI l (KC D cA cL h Z) 10 yX3_needWind cX3_needWind 1 (some .int) s [.ref (h 54)] o.1 o.2 := by
  refine met_i (by decide) (Nat.le_of_ble_eq_true rfl) ?_
  intro p e st m args below meth c Q X RI
  unfold C_X3_needWind at hs
  refine g_aload_n X dX3_needWind_0 (q := 1) rfl 0 rfl ?_
  refine cg_3_0 X dX3_needWind_1 (q := 4) rfl sh_54 lf_X3_18 ?_
  refine cg_ldc hZ X dX3_needWind_4 (q := 6) rfl 13 (Nat.le_of_ble_eq_true rfl) rfl ?_
  refine vc_X5_takesWord_X3 hZ X dX3_needWind_6 (q := 9) rfl (Nat.le_of_ble_eq_true rfl) (Nat.le_of_ble_eq_true rfl) (Nat.le_of_ble_eq_true rfl) (Nat.le_of_ble_eq_true rfl) hs (fun y1 hs => ?_)
  refine g_if_eq X dX3_needWind_9 (q := 12) rfl (tgt := 14) (by decide) hs ?_ ?_
  · intro hs
    refine g_aload_n X dX3_needWind_14 (q := 15) rfl 0 rfl ?_
    refine cg_3_0 X dX3_needWind_15 (q := 18) rfl sh_54 lf_X3_18 ?_
    refine cg_ldc hZ X dX3_needWind_18 (q := 20) rfl 14 (Nat.le_of_ble_eq_true rfl) rfl ?_
    refine vc_X5_takesWord_X3 hZ X dX3_needWind_20 (q := 23) rfl (Nat.le_of_ble_eq_true rfl) (Nat.le_of_ble_eq_true rfl) (Nat.le_of_ble_eq_true rfl) (Nat.le_of_ble_eq_true rfl) hs (fun y2 hs => ?_)
    refine g_if_eq X dX3_needWind_23 (q := 26) rfl (tgt := 28) (by decide) hs ?_ ?_
    · intro hs
      refine g_aload_n X dX3_needWind_28 (q := 29) rfl 0 rfl ?_
      refine cg_3_0 X dX3_needWind_29 (q := 32) rfl sh_54 lf_X3_18 ?_
      refine cg_ldc hZ X dX3_needWind_32 (q := 34) rfl 15 (Nat.le_of_ble_eq_true rfl) rfl ?_
      refine vc_X5_takesWord_X3 hZ X dX3_needWind_34 (q := 37) rfl (Nat.le_of_ble_eq_true rfl) (Nat.le_of_ble_eq_true rfl) (Nat.le_of_ble_eq_true rfl) (Nat.le_of_ble_eq_true rfl) hs (fun y3 hs => ?_)
      refine g_if_eq X dX3_needWind_37 (q := 40) rfl (tgt := 42) (by decide) hs ?_ ?_
      · intro hs
        refine g_aload_n X dX3_needWind_42 (q := 43) rfl 0 rfl ?_
        refine cg_3_0 X dX3_needWind_43 (q := 46) rfl sh_54 lf_X3_18 ?_
        refine cg_ldc hZ X dX3_needWind_46 (q := 48) rfl 16 (Nat.le_of_ble_eq_true rfl) rfl ?_
        refine vc_X5_needWord_X3 hZ X dX3_needWind_48 (q := 51) rfl (Nat.le_of_ble_eq_true rfl) (Nat.le_of_ble_eq_true rfl) (Nat.le_of_ble_eq_true rfl) (Nat.le_of_ble_eq_true rfl) hs (fun s1 hs => ?_)
        refine g_iconst X dX3_needWind_51 (q := 52) rfl li_i3 ?_
        exact RI _ 52 _ _ _ (rU1 hs) rfl (rV1 hs) dX3_needWind_52
      · intro hs
        refine g_iconst X dX3_needWind_40 (q := 41) rfl li_i2 ?_
        exact RI _ 41 _ _ _ (rU1 hs) rfl (rV1 hs) dX3_needWind_41
    · intro hs
      refine g_iconst X dX3_needWind_26 (q := 27) rfl li_i1 ?_
      exact RI _ 27 _ _ _ (rU1 hs) rfl (rV1 hs) dX3_needWind_27
  · intro hs
    refine g_iconst X dX3_needWind_12 (q := 13) rfl li_i0 ?_
    exact RI _ 13 _ _ _ (rU1 hs) rfl (rV1 hs) dX3_needWind_13
theorem dX3_readDeed_0 : decode cX3_readDeed 0 = .ok (.iconst 2, 1) := by decide +kernel
theorem dX3_readDeed_1 : decode cX3_readDeed 1 = .ok (.istore_n 2, 1) := by decide +kernel
theorem dX3_readDeed_2 : decode cX3_readDeed 2 = .ok (.iconst (-1), 1) := by decide +kernel
theorem dX3_readDeed_3 : decode cX3_readDeed 3 = .ok (.istore_n 3, 1) := by decide +kernel
theorem dX3_readDeed_4 : decode cX3_readDeed 4 = .ok (.iconst (-1), 1) := by decide +kernel
theorem dX3_readDeed_5 : decode cX3_readDeed 5 = .ok (.istore 4, 2) := by decide +kernel
theorem dX3_readDeed_7 : decode cX3_readDeed 7 = .ok (.aload_n 0, 1) := by decide +kernel
theorem dX3_readDeed_8 : decode cX3_readDeed 8 = .ok (.getfield 18, 3) := by decide +kernel
theorem dX3_readDeed_11 : decode cX3_readDeed 11 = .ok (.ldc 131, 2) := by decide +kernel
theorem dX3_readDeed_13 : decode cX3_readDeed 13 = .ok (.invokevirtual 111, 3) := by decide +kernel
theorem dX3_readDeed_16 : decode cX3_readDeed 16 = .ok (.ifCond .eq 35, 3) := by decide +kernel
theorem dX3_readDeed_19 : decode cX3_readDeed 19 = .ok (.iconst 0, 1) := by decide +kernel
theorem dX3_readDeed_20 : decode cX3_readDeed 20 = .ok (.istore_n 2, 1) := by decide +kernel
theorem dX3_readDeed_21 : decode cX3_readDeed 21 = .ok (.aload_n 0, 1) := by decide +kernel
theorem dX3_readDeed_22 : decode cX3_readDeed 22 = .ok (.aload_n 0, 1) := by decide +kernel
theorem dX3_readDeed_23 : decode cX3_readDeed 23 = .ok (.getfield 22, 3) := by decide +kernel
theorem dX3_readDeed_26 : decode cX3_readDeed 26 = .ok (.getfield 29, 3) := by decide +kernel
theorem dX3_readDeed_29 : decode cX3_readDeed 29 = .ok (.invokevirtual 96, 3) := by decide +kernel
theorem dX3_readDeed_32 : decode cX3_readDeed 32 = .ok (.istore_n 3, 1) := by decide +kernel
theorem dX3_readDeed_33 : decode cX3_readDeed 33 = .ok (.aload_n 0, 1) := by decide +kernel
theorem dX3_readDeed_34 : decode cX3_readDeed 34 = .ok (.getfield 18, 3) := by decide +kernel
theorem dX3_readDeed_37 : decode cX3_readDeed 37 = .ok (.ldc 115, 2) := by decide +kernel
theorem dX3_readDeed_39 : decode cX3_readDeed 39 = .ok (.invokevirtual 82, 3) := by decide +kernel
theorem dX3_readDeed_42 : decode cX3_readDeed 42 = .ok (.aload_n 0, 1) := by decide +kernel
theorem dX3_readDeed_43 : decode cX3_readDeed 43 = .ok (.invokevirtual 117, 3) := by decide +kernel
theorem dX3_readDeed_46 : decode cX3_readDeed 46 = .ok (.istore 4, 2) := by decide +kernel
theorem dX3_readDeed_48 : decode cX3_readDeed 48 = .ok (.goto 31, 3) := by decide +kernel
theorem dX3_readDeed_51 : decode cX3_readDeed 51 = .ok (.aload_n 0, 1) := by decide +kernel
theorem dX3_readDeed_52 : decode cX3_readDeed 52 = .ok (.getfield 18, 3) := by decide +kernel
theorem dX3_readDeed_55 : decode cX3_readDeed 55 = .ok (.ldc 133, 2) := by decide +kernel
theorem dX3_readDeed_57 : decode cX3_readDeed 57 = .ok (.invokevirtual 111, 3) := by decide +kernel
theorem dX3_readDeed_60 : decode cX3_readDeed 60 = .ok (.ifCond .eq 14, 3) := by decide +kernel
theorem dX3_readDeed_63 : decode cX3_readDeed 63 = .ok (.iconst 1, 1) := by decide +kernel
theorem dX3_readDeed_64 : decode cX3_readDeed 64 = .ok (.istore_n 2, 1) := by decide +kernel
theorem dX3_readDeed_65 : decode cX3_readDeed 65 = .ok (.aload_n 0, 1) := by decide +kernel
theorem dX3_readDeed_66 : decode cX3_readDeed 66 = .ok (.invokevirtual 117, 3) := by decide +kernel
theorem dX3_readDeed_69 : decode cX3_readDeed 69 = .ok (.istore 4, 2) := by decide +kernel
theorem dX3_readDeed_71 : decode cX3_readDeed 71 = .ok (.goto 8, 3) := by decide +kernel
theorem dX3_readDeed_74 : decode cX3_readDeed 74 = .ok (.aload_n 0, 1) := by decide +kernel
theorem dX3_readDeed_75 : decode cX3_readDeed 75 = .ok (.invokevirtual 135, 3) := by decide +kernel
theorem dX3_readDeed_78 : decode cX3_readDeed 78 = .ok (.istore_n 3, 1) := by decide +kernel
theorem dX3_readDeed_79 : decode cX3_readDeed 79 = .ok (.aload_n 0, 1) := by decide +kernel
theorem dX3_readDeed_80 : decode cX3_readDeed 80 = .ok (.getfield 18, 3) := by decide +kernel
theorem dX3_readDeed_83 : decode cX3_readDeed 83 = .ok (.bipush 59, 2) := by decide +kernel
theorem dX3_readDeed_85 : decode cX3_readDeed 85 = .ok (.invokevirtual 88, 3) := by decide +kernel
theorem dX3_readDeed_88 : decode cX3_readDeed 88 = .ok (.aload_n 0, 1) := by decide +kernel
theorem dX3_readDeed_89 : decode cX3_readDeed 89 = .ok (.getfield 18, 3) := by decide +kernel
theorem dX3_readDeed_92 : decode cX3_readDeed 92 = .ok (.getfield 65, 3) := by decide +kernel
theorem dX3_readDeed_95 : decode cX3_readDeed 95 = .ok (.ifCond .ne 18, 3) := by decide +kernel
theorem dX3_readDeed_98 : decode cX3_readDeed 98 = .ok (.aload_n 0, 1) := by decide +kernel
theorem dX3_readDeed_99 : decode cX3_readDeed 99 = .ok (.getfield 12, 3) := by decide +kernel
theorem dX3_readDeed_102 : decode cX3_readDeed 102 = .ok (.getfield 125, 3) := by decide +kernel
theorem dX3_readDeed_105 : decode cX3_readDeed 105 = .ok (.iload_n 1, 1) := by decide +kernel
theorem dX3_readDeed_106 : decode cX3_readDeed 106 = .ok (.iload_n 2, 1) := by decide +kernel
theorem dX3_readDeed_107 : decode cX3_readDeed 107 = .ok (.iload_n 3, 1) := by decide +kernel
theorem dX3_readDeed_108 : decode cX3_readDeed 108 = .ok (.iload 4, 2) := by decide +kernel
theorem dX3_readDeed_110 : decode cX3_readDeed 110 = .ok (.invokevirtual 92, 3) := by decide +kernel
theorem dX3_readDeed_113 : decode cX3_readDeed 113 = .ok (.return_, 1) := by decide +kernel
theorem wX3_needWind_X3 : GoodIn GT (wsV RX3 135 RX3 yX3_needWind (.code yX3_needWind cX3_needWind 1 (some .int) :: GT)) := gt_V (gt_of 890 (by decide +kernel) rfl) (gt_of 892 (by decide +kernel) rfl) (gt_of 47 (by decide +kernel) rfl) (gt_of 203 (by decide +kernel) rfl) (gt_of 893 (by decide +kernel) rfl)
theorem vc_X3_needWind_X3 {p : Program} {l : Launch} {e : Env} {st : State} {m : MethodId} {args : Array Value} {below : List Frame} {meth : Method} {c : Code} {Q : State → Prop} {nL : Nat} {cc : ByteArray} {s : ST} {pc q : Nat} {lv : List (Nat × Value)} {rest : List Value} {D : va_G} {cA cL : ClassId} {h : Nat → Nat} {Z : State → Heap → Prop} {sa : Nat → Nat} (hZ : ZK h Z sa) {d0 : Nat} (X : Cx (KC D cA cL h Z) p st m args meth c cc nL RX3) (d : decode cc pc = .ok (.invokevirtual 135, 3)) (hq : pc + 3 = q) (hd1 : 10 + 1 ≤ d0) (hd2 : 8 + (1 + 11) + 100 * 10 ≤ 100 * d0) (hr : (rest.map fun v => v.category).sum ≤ 8) {B : Type} {f : Int32 × ST → Option B} {r : B} (hs : Bd (C_X3_needWind s) f = some r) (k : ∀ y, f y = some r → WG (KC D cA cL h Z) p l e (rmD d0) st m args below meth c Q nL y.2 q lv (.int y.1 :: rest)) : WG (KC D cA cL h Z) p l e (rmD d0) st m args below meth c Q nL s pc lv (.ref (h 54) :: rest) := by
  obtain ⟨v, hv, hs⟩ := Bd_e hs
  exact cV_I (K := KC D cA cL h Z) X 54 (n := 0) (k_X3_needWind hZ l D cA cL s hv) wX3_needWind_X3 ⟨hd1, hd2⟩ ⟨by decide, by decide, by decide +kernel⟩ (As := []) rfl hr (sh_54).1 (fs := cF3 h 54 (s.1 54) (s.2 54)) (GC_3 (cA := cA) (cL := cL) sh_54 _ _) rfl rfl d hq (k _ hs)
def C_X3_readDeed (s : ST) (x1 : Int32) : Option (ST) := Bd (C_X5_takesWord s 11) fun y1 => Lt (fun (a1 : Int32) (a2 : Int32) (a3 : Int32) (s1 : ST) => (Bd (C_X5_needSign s1 (59 : Int32)) fun s2 => if (s2.1 49 8) = 0 then (Bd (C_X4_add s2 68 x1 a1 a2 a3) fun s3 => some s3) else (some s2) : Option (ST))) fun j1 => if y1.1 = 0 then (Bd (C_X5_takesWord y1.2 12) fun y2 => if y2.1 = 0 then (Bd (C_X3_needWind y2.2) fun y3 => j1 (2 : Int32) y3.1 (-1 : Int32) y3.2) else (Bd (C_X3_needCell y2.2) fun y4 => j1 (1 : Int32) (-1 : Int32) y4.1 y4.2)) else (Bd (C_X3_needKind y1.2 9) fun y5 => Bd (C_X5_needWord y5.2 8) fun s4 => Bd (C_X3_needCell s4) fun y6 => j1 (0 : Int32) y5.1 y6.1 y6.2)
set_option maxRecDepth 100000 in
set_option maxHeartbeats 4000000 in
theorem k_X3_readDeed {h : Nat → Nat} {Z : State → Heap → Prop} {sa : Nat → Nat} (hZ : ZK h Z sa) (l : Launch) (D : va_G) (cA cL : ClassId) (s : ST) (x1 : Int32) {o : ST} (hs : C_X3_readDeed s x1 = some o) : MV l (KC D cA cL h Z) 11 yX3_readDeed cX3_readDeed 5 none s [.ref (h 54), .int x1] o := by
  refine met_v (by decide) (Nat.le_of_ble_eq_true rfl) ?_
  intro p e st m args below meth c Q X RI
  unfold C_X3_readDeed at hs
  refine g_iconst X dX3_readDeed_0 (q := 1) rfl li_i2 ?_
  refine g_istore_n X dX3_readDeed_1 (q := 2) rfl (Nat.le_of_ble_eq_true rfl) (lv' := [(2, .int (2 : Int32)), (0, .ref (h 54)), (1, .int x1)]) rfl ?_
  refine g_iconst X dX3_readDeed_2 (q := 3) rfl li_im1 ?_
  refine g_istore_n X dX3_readDeed_3 (q := 4) rfl (Nat.le_of_ble_eq_true rfl) (lv' := [(3, .int (-1 : Int32)), (2, .int (2 : Int32)), (0, .ref (h 54)), (1, .int x1)]) rfl ?_
  refine g_iconst X dX3_readDeed_4 (q := 5) rfl li_im1 ?_
  refine g_istore X dX3_readDeed_5 (q := 7) rfl (Nat.le_of_ble_eq_true rfl) (lv' := [(4, .int (-1 : Int32)), (3, .int (-1 : Int32)), (2, .int (2 : Int32)), (0, .ref (h 54)), (1, .int x1)]) rfl ?_
  refine g_aload_n X dX3_readDeed_7 (q := 8) rfl 3 rfl ?_
  refine cg_3_0 X dX3_readDeed_8 (q := 11) rfl sh_54 lf_X3_18 ?_
  refine cg_ldc hZ X dX3_readDeed_11 (q := 13) rfl 11 (Nat.le_of_ble_eq_true rfl) rfl ?_
  refine vc_X5_takesWord_X3 hZ X dX3_readDeed_13 (q := 16) rfl (Nat.le_of_ble_eq_true rfl) (Nat.le_of_ble_eq_true rfl) (Nat.le_of_ble_eq_true rfl) (Nat.le_of_ble_eq_true rfl) hs (fun y1 hs => ?_)
  refine jnW4 (fun (a1 : Int32) (a2 : Int32) (a3 : Int32) (s1 : ST) => WG (KC D cA cL h Z) p l e (rmD 11) st m args below meth c Q 5 s1 79 [(0, .ref (h 54)), (1, .int x1), (2, .int a1), (3, .int a2), (4, .int a3)] []) hs (fun a1 a2 a3 s1 hs => ?_) (fun j1 ih1 hs => ?_)
  · refine g_aload_n X dX3_readDeed_79 (q := 80) rfl 0 rfl ?_
    refine cg_3_0 X dX3_readDeed_80 (q := 83) rfl sh_54 lf_X3_18 ?_
    refine g_bipush X dX3_readDeed_83 (q := 85) rfl li_b59 ?_
    refine vc_X5_needSign_X3 hZ X dX3_readDeed_85 (q := 88) rfl (Nat.le_of_ble_eq_true rfl) (Nat.le_of_ble_eq_true rfl) (Nat.le_of_ble_eq_true rfl) hs (fun s2 hs => ?_)
    refine g_aload_n X dX3_readDeed_88 (q := 89) rfl 0 rfl ?_
    refine cg_3_0 X dX3_readDeed_89 (q := 92) rfl sh_54 lf_X3_18 ?_
    refine cgN_5_8 hZ X dX3_readDeed_92 (q := 95) rfl sh_49 lf_X3_65 ?_
    refine g_if_ne X dX3_readDeed_95 (q := 98) rfl (tgt := 113) (by decide) hs ?_ ?_
    · intro hs
      exact RI _ 113 _ (Option.some.inj hs) dX3_readDeed_113
    · intro hs
      refine g_aload_n X dX3_readDeed_98 (q := 99) rfl 0 rfl ?_
      refine cg_3_3 X dX3_readDeed_99 (q := 102) rfl sh_54 lf_X3_12 ?_
      refine cgN_7_4 hZ X dX3_readDeed_102 (q := 105) rfl sh_55 lf_X3_125 ?_
      refine g_iload_n X dX3_readDeed_105 (q := 106) rfl 1 rfl ?_
      refine g_iload_n X dX3_readDeed_106 (q := 107) rfl 2 rfl ?_
      refine g_iload_n X dX3_readDeed_107 (q := 108) rfl 3 rfl ?_
      refine g_iload X dX3_readDeed_108 (q := 110) rfl 4 rfl ?_
      refine vc_X4_add_X3 hZ X dX3_readDeed_110 (q := 113) rfl sh_68 (Nat.le_of_ble_eq_true rfl) (Nat.le_of_ble_eq_true rfl) (Nat.le_of_ble_eq_true rfl) hs (fun s3 hs => ?_)
      exact RI _ 113 _ (Option.some.inj hs) dX3_readDeed_113
  refine g_if_eq X dX3_readDeed_16 (q := 19) rfl (tgt := 51) (by decide) hs ?_ ?_
  · intro hs
    refine g_aload_n X dX3_readDeed_51 (q := 52) rfl 3 rfl ?_
    refine cg_3_0 X dX3_readDeed_52 (q := 55) rfl sh_54 lf_X3_18 ?_
    refine cg_ldc hZ X dX3_readDeed_55 (q := 57) rfl 12 (Nat.le_of_ble_eq_true rfl) rfl ?_
    refine vc_X5_takesWord_X3 hZ X dX3_readDeed_57 (q := 60) rfl (Nat.le_of_ble_eq_true rfl) (Nat.le_of_ble_eq_true rfl) (Nat.le_of_ble_eq_true rfl) (Nat.le_of_ble_eq_true rfl) hs (fun y2 hs => ?_)
    refine g_if_eq X dX3_readDeed_60 (q := 63) rfl (tgt := 74) (by decide) hs ?_ ?_
    · intro hs
      refine g_aload_n X dX3_readDeed_74 (q := 75) rfl 3 rfl ?_
      refine vc_X3_needWind_X3 hZ X dX3_readDeed_75 (q := 78) rfl (Nat.le_of_ble_eq_true rfl) (Nat.le_of_ble_eq_true rfl) (Nat.le_of_ble_eq_true rfl) hs (fun y3 hs => ?_)
      refine g_istore_n X dX3_readDeed_78 (q := 79) rfl (Nat.le_of_ble_eq_true rfl) (lv' := [(3, .int y3.1), (4, .int (-1 : Int32)), (2, .int (2 : Int32)), (0, .ref (h 54)), (1, .int x1)]) rfl ?_
      exact wg_sub [3, 4, 2, 0, 1] rfl (ih1 _ _ _ _ hs)
    · intro hs
      refine g_iconst X dX3_readDeed_63 (q := 64) rfl li_i1 ?_
      refine g_istore_n X dX3_readDeed_64 (q := 65) rfl (Nat.le_of_ble_eq_true rfl) (lv' := [(2, .int (1 : Int32)), (4, .int (-1 : Int32)), (3, .int (-1 : Int32)), (0, .ref (h 54)), (1, .int x1)]) rfl ?_
      refine g_aload_n X dX3_readDeed_65 (q := 66) rfl 3 rfl ?_
      refine vc_X3_needCell_X3 hZ X dX3_readDeed_66 (q := 69) rfl (Nat.le_of_ble_eq_true rfl) (Nat.le_of_ble_eq_true rfl) (Nat.le_of_ble_eq_true rfl) hs (fun y4 hs => ?_)
      refine g_istore X dX3_readDeed_69 (q := 71) rfl (Nat.le_of_ble_eq_true rfl) (lv' := [(4, .int y4.1), (2, .int (1 : Int32)), (3, .int (-1 : Int32)), (0, .ref (h 54)), (1, .int x1)]) rfl ?_
      refine g_goto X dX3_readDeed_71 (tgt := 79) (by decide) ?_
      exact wg_sub [3, 4, 1, 2, 0] rfl (ih1 _ _ _ _ hs)
  · intro hs
    refine g_iconst X dX3_readDeed_19 (q := 20) rfl li_i0 ?_
    refine g_istore_n X dX3_readDeed_20 (q := 21) rfl (Nat.le_of_ble_eq_true rfl) (lv' := [(2, .int (0 : Int32)), (4, .int (-1 : Int32)), (3, .int (-1 : Int32)), (0, .ref (h 54)), (1, .int x1)]) rfl ?_
    refine g_aload_n X dX3_readDeed_21 (q := 22) rfl 3 rfl ?_
    refine g_aload_n X dX3_readDeed_22 (q := 23) rfl 3 rfl ?_
    refine cg_3_1 X dX3_readDeed_23 (q := 26) rfl sh_54 lf_X3_22 ?_
    refine cgN_7_0 hZ X dX3_readDeed_26 (q := 29) rfl sh_8 lf_X3_29 ?_
    refine vc_X3_needKind_X3 hZ X dX3_readDeed_29 (q := 32) rfl sh_9 (Nat.le_of_ble_eq_true rfl) (Nat.le_of_ble_eq_true rfl) (Nat.le_of_ble_eq_true rfl) hs (fun y5 hs => ?_)
    refine g_istore_n X dX3_readDeed_32 (q := 33) rfl (Nat.le_of_ble_eq_true rfl) (lv' := [(3, .int y5.1), (2, .int (0 : Int32)), (4, .int (-1 : Int32)), (0, .ref (h 54)), (1, .int x1)]) rfl ?_
    refine g_aload_n X dX3_readDeed_33 (q := 34) rfl 3 rfl ?_
    refine cg_3_0 X dX3_readDeed_34 (q := 37) rfl sh_54 lf_X3_18 ?_
    refine cg_ldc hZ X dX3_readDeed_37 (q := 39) rfl 8 (Nat.le_of_ble_eq_true rfl) rfl ?_
    refine vc_X5_needWord_X3 hZ X dX3_readDeed_39 (q := 42) rfl (Nat.le_of_ble_eq_true rfl) (Nat.le_of_ble_eq_true rfl) (Nat.le_of_ble_eq_true rfl) (Nat.le_of_ble_eq_true rfl) hs (fun s4 hs => ?_)
    refine g_aload_n X dX3_readDeed_42 (q := 43) rfl 3 rfl ?_
    refine vc_X3_needCell_X3 hZ X dX3_readDeed_43 (q := 46) rfl (Nat.le_of_ble_eq_true rfl) (Nat.le_of_ble_eq_true rfl) (Nat.le_of_ble_eq_true rfl) hs (fun y6 hs => ?_)
    refine g_istore X dX3_readDeed_46 (q := 48) rfl (Nat.le_of_ble_eq_true rfl) (lv' := [(4, .int y6.1), (3, .int y5.1), (2, .int (0 : Int32)), (0, .ref (h 54)), (1, .int x1)]) rfl ?_
    refine g_goto X dX3_readDeed_48 (tgt := 79) (by decide) ?_
    exact wg_sub [3, 4, 2, 1, 0] rfl (ih1 _ _ _ _ hs)
theorem dX3_readPlan_0 : decode cX3_readPlan 0 = .ok (.aload_n 0, 1) := by decide +kernel
theorem dX3_readPlan_1 : decode cX3_readPlan 1 = .ok (.getfield 12, 3) := by decide +kernel
theorem dX3_readPlan_4 : decode cX3_readPlan 4 = .ok (.getfield 125, 3) := by decide +kernel
theorem dX3_readPlan_7 : decode cX3_readPlan 7 = .ok (.invokevirtual 33, 3) := by decide +kernel
theorem dX3_readPlan_10 : decode cX3_readPlan 10 = .ok (.iconst 0, 1) := by decide +kernel
theorem dX3_readPlan_11 : decode cX3_readPlan 11 = .ok (.istore_n 1, 1) := by decide +kernel
theorem dX3_readPlan_12 : decode cX3_readPlan 12 = .ok (.iload_n 1, 1) := by decide +kernel
theorem dX3_readPlan_13 : decode cX3_readPlan 13 = .ok (.sipush 400, 3) := by decide +kernel
theorem dX3_readPlan_16 : decode cX3_readPlan 16 = .ok (.if_icmp .ge 61, 3) := by decide +kernel
theorem dX3_readPlan_19 : decode cX3_readPlan 19 = .ok (.aload_n 0, 1) := by decide +kernel
theorem dX3_readPlan_20 : decode cX3_readPlan 20 = .ok (.getfield 18, 3) := by decide +kernel
theorem dX3_readPlan_23 : decode cX3_readPlan 23 = .ok (.invokevirtual 41, 3) := by decide +kernel
theorem dX3_readPlan_26 : decode cX3_readPlan 26 = .ok (.ifCond .eq 51, 3) := by decide +kernel
theorem dX3_readPlan_29 : decode cX3_readPlan 29 = .ok (.aload_n 0, 1) := by decide +kernel
theorem dX3_readPlan_30 : decode cX3_readPlan 30 = .ok (.getfield 18, 3) := by decide +kernel
theorem dX3_readPlan_33 : decode cX3_readPlan 33 = .ok (.ldc 121, 2) := by decide +kernel
theorem dX3_readPlan_35 : decode cX3_readPlan 35 = .ok (.aload_n 0, 1) := by decide +kernel
theorem dX3_readPlan_36 : decode cX3_readPlan 36 = .ok (.getfield 12, 3) := by decide +kernel
theorem dX3_readPlan_39 : decode cX3_readPlan 39 = .ok (.getfield 125, 3) := by decide +kernel
theorem dX3_readPlan_42 : decode cX3_readPlan 42 = .ok (.invokevirtual 49, 3) := by decide +kernel
theorem dX3_readPlan_45 : decode cX3_readPlan 45 = .ok (.ifCond .ne 11, 3) := by decide +kernel
theorem dX3_readPlan_48 : decode cX3_readPlan 48 = .ok (.aload_n 0, 1) := by decide +kernel
theorem dX3_readPlan_49 : decode cX3_readPlan 49 = .ok (.getfield 18, 3) := by decide +kernel
theorem dX3_readPlan_52 : decode cX3_readPlan 52 = .ok (.iconst 1, 1) := by decide +kernel
theorem dX3_readPlan_53 : decode cX3_readPlan 53 = .ok (.invokevirtual 61, 3) := by decide +kernel
theorem dX3_readPlan_56 : decode cX3_readPlan 56 = .ok (.aload_n 0, 1) := by decide +kernel
theorem dX3_readPlan_57 : decode cX3_readPlan 57 = .ok (.aload_n 0, 1) := by decide +kernel
theorem dX3_readPlan_58 : decode cX3_readPlan 58 = .ok (.getfield 18, 3) := by decide +kernel
theorem dX3_readPlan_61 : decode cX3_readPlan 61 = .ok (.iconst 0, 1) := by decide +kernel
theorem dX3_readPlan_62 : decode cX3_readPlan 62 = .ok (.sipush 999, 3) := by decide +kernel
theorem dX3_readPlan_65 : decode cX3_readPlan 65 = .ok (.invokevirtual 76, 3) := by decide +kernel
theorem dX3_readPlan_68 : decode cX3_readPlan 68 = .ok (.invokevirtual 128, 3) := by decide +kernel
theorem dX3_readPlan_71 : decode cX3_readPlan 71 = .ok (.iinc 1 1, 3) := by decide +kernel
theorem dX3_readPlan_74 : decode cX3_readPlan 74 = .ok (.goto (-62), 3) := by decide +kernel
theorem dX3_readPlan_77 : decode cX3_readPlan 77 = .ok (.aload_n 0, 1) := by decide +kernel
theorem dX3_readPlan_78 : decode cX3_readPlan 78 = .ok (.getfield 18, 3) := by decide +kernel
theorem dX3_readPlan_81 : decode cX3_readPlan 81 = .ok (.getfield 65, 3) := by decide +kernel
theorem dX3_readPlan_84 : decode cX3_readPlan 84 = .ok (.ifCond .eq 5, 3) := by decide +kernel
theorem dX3_readPlan_87 : decode cX3_readPlan 87 = .ok (.iconst (-1), 1) := by decide +kernel
theorem dX3_readPlan_88 : decode cX3_readPlan 88 = .ok (.ireturn, 1) := by decide +kernel
theorem dX3_readPlan_89 : decode cX3_readPlan 89 = .ok (.aload_n 0, 1) := by decide +kernel
theorem dX3_readPlan_90 : decode cX3_readPlan 90 = .ok (.getfield 22, 3) := by decide +kernel
theorem dX3_readPlan_93 : decode cX3_readPlan 93 = .ok (.getfield 125, 3) := by decide +kernel
theorem dX3_readPlan_96 : decode cX3_readPlan 96 = .ok (.aload_n 0, 1) := by decide +kernel
theorem dX3_readPlan_97 : decode cX3_readPlan 97 = .ok (.getfield 12, 3) := by decide +kernel
theorem dX3_readPlan_100 : decode cX3_readPlan 100 = .ok (.getfield 125, 3) := by decide +kernel
theorem dX3_readPlan_103 : decode cX3_readPlan 103 = .ok (.invokevirtual 69, 3) := by decide +kernel
theorem dX3_readPlan_106 : decode cX3_readPlan 106 = .ok (.aload_n 0, 1) := by decide +kernel
theorem dX3_readPlan_107 : decode cX3_readPlan 107 = .ok (.getfield 22, 3) := by decide +kernel
theorem dX3_readPlan_110 : decode cX3_readPlan 110 = .ok (.getfield 125, 3) := by decide +kernel
theorem dX3_readPlan_113 : decode cX3_readPlan 113 = .ok (.getfield 73, 3) := by decide +kernel
theorem dX3_readPlan_116 : decode cX3_readPlan 116 = .ok (.ireturn, 1) := by decide +kernel
theorem wX3_readDeed_X3 : GoodIn GT (wsV RX3 128 RX3 yX3_readDeed (.code yX3_readDeed cX3_readDeed 5 none :: GT)) := gt_V (gt_of 884 (by decide +kernel) rfl) (gt_of 886 (by decide +kernel) rfl) (gt_of 46 (by decide +kernel) rfl) (gt_of 203 (by decide +kernel) rfl) (gt_of 887 (by decide +kernel) rfl)
theorem vc_X3_readDeed_X3 {p : Program} {l : Launch} {e : Env} {st : State} {m : MethodId} {args : Array Value} {below : List Frame} {meth : Method} {c : Code} {Q : State → Prop} {nL : Nat} {cc : ByteArray} {s : ST} {pc q : Nat} {lv : List (Nat × Value)} {rest : List Value} {D : va_G} {cA cL : ClassId} {h : Nat → Nat} {Z : State → Heap → Prop} {sa : Nat → Nat} (hZ : ZK h Z sa) {d0 : Nat} (X : Cx (KC D cA cL h Z) p st m args meth c cc nL RX3) {x1 : Int32} (d : decode cc pc = .ok (.invokevirtual 128, 3)) (hq : pc + 3 = q) (hd1 : 11 + 1 ≤ d0) (hd2 : 8 + (5 + 11) + 100 * 11 ≤ 100 * d0) (hr : (rest.map fun v => v.category).sum ≤ 8) {B : Type} {f : ST → Option B} {r : B} (hs : Bd (C_X3_readDeed s x1) f = some r) (k : ∀ y, f y = some r → WG (KC D cA cL h Z) p l e (rmD d0) st m args below meth c Q nL y q lv (rest)) : WG (KC D cA cL h Z) p l e (rmD d0) st m args below meth c Q nL s pc lv (.int x1 :: .ref (h 54) :: rest) := by
  obtain ⟨v, hv, hs⟩ := Bd_e hs
  exact cV_V (K := KC D cA cL h Z) X 54 (n := 1) (k_X3_readDeed hZ l D cA cL s x1 hv) wX3_readDeed_X3 ⟨hd1, hd2⟩ ⟨by decide, by decide, by decide +kernel⟩ (As := [.int x1]) rfl hr (sh_54).1 (fs := cF3 h 54 (s.1 54) (s.2 54)) (GC_3 (cA := cA) (cL := cL) sh_54 _ _) rfl rfl d hq (k _ hs)
def C_X3_readPlan (s : ST) : Option (Int32 × ST) := Lt (C_X4_clear s 68) fun s1 => lpK2 (C := Int32 × ST) (fun (rec1 : Int32 → ST → Option (Int32 × ST)) (a1 : Int32) (s2 : ST) => Lt (if (s2.1 49 8) = 0 then (Bd (C_X4_copy s2 21 68) fun s3 => some ((s3.1 21 2), s3)) else (some ((-1 : Int32), s2)) : Option (Int32 × ST)) fun j1 => if (400 : Int32) ≤ a1 then (j1) else (Lt (C_X5_goesOn s2) fun y1 => if y1 = 0 then (j1) else (Bd (C_X5_takesHead s2 9 68) fun y2 => Lt (fun (s4 : ST) => (Bd (C_X5_needNumber s4 (0 : Int32) (999 : Int32)) fun y3 => Bd (C_X3_readDeed y3.2 y3.1) fun s5 => rec1 (a1 + (1 : Int32)) s5 : Option (Int32 × ST))) fun j2 => if y2.1 = 0 then (Bd (C_X5_fail y2.2 (1 : Int32)) fun s6 => j2 s6) else (j2 y2.2)))) FU (0 : Int32) s1
set_option maxRecDepth 100000 in
set_option maxHeartbeats 4000000 in
theorem k_X3_readPlan {h : Nat → Nat} {Z : State → Heap → Prop} {sa : Nat → Nat} (hZ : ZK h Z sa) (l : Launch) (D : va_G) (cA cL : ClassId) (s : ST) {o : Int32 × ST} (hs : C_X3_readPlan s = some o) : MI l (KC D cA cL h Z) 12 yX3_readPlan cX3_readPlan 2 (some .int) s [.ref (h 54)] o.1 o.2 := by
  refine met_i (by decide) (Nat.le_of_ble_eq_true rfl) ?_
  intro p e st m args below meth c Q X RI
  unfold C_X3_readPlan at hs
  refine g_aload_n X dX3_readPlan_0 (q := 1) rfl 0 rfl ?_
  refine cg_3_3 X dX3_readPlan_1 (q := 4) rfl sh_54 lf_X3_12 ?_
  refine cgN_7_4 hZ X dX3_readPlan_4 (q := 7) rfl sh_55 lf_X3_125 ?_
  refine vc_X4_clear_X3 hZ X dX3_readPlan_7 (q := 10) rfl sh_68 (Nat.le_of_ble_eq_true rfl) (Nat.le_of_ble_eq_true rfl) (Nat.le_of_ble_eq_true rfl) hs (fun s1 hs => ?_)
  refine g_iconst X dX3_readPlan_10 (q := 11) rfl li_i0 ?_
  refine g_istore_n X dX3_readPlan_11 (q := 12) rfl (Nat.le_of_ble_eq_true rfl) (lv' := [(1, .int (0 : Int32)), (0, .ref (h 54))]) rfl ?_
  refine wg_sub [1, 0] rfl (lpW2 (fun (a1 : Int32) (s2 : ST) => WG (KC D cA cL h Z) p l e (rmD 12) st m args below meth c Q 2 s2 12 [(0, .ref (h 54)), (1, .int a1)] []) (fun rec1 ih1 a1 s2 hs => ?_) _ _ _ hs)
  refine g_iload_n X dX3_readPlan_12 (q := 13) rfl 1 rfl ?_
  refine g_sipush X dX3_readPlan_13 (q := 16) rfl li_s400 ?_
  refine jnW0 (WG (KC D cA cL h Z) p l e (rmD 12) st m args below meth c Q 2 s2 77 [(0, .ref (h 54))] []) hs (fun  hs => ?_) (fun j1 ih2 hs => ?_)
  · refine g_aload_n X dX3_readPlan_77 (q := 78) rfl 0 rfl ?_
    refine cg_3_0 X dX3_readPlan_78 (q := 81) rfl sh_54 lf_X3_18 ?_
    refine cgN_5_8 hZ X dX3_readPlan_81 (q := 84) rfl sh_49 lf_X3_65 ?_
    refine g_if_eq X dX3_readPlan_84 (q := 87) rfl (tgt := 89) (by decide) hs ?_ ?_
    · intro hs
      refine g_aload_n X dX3_readPlan_89 (q := 90) rfl 0 rfl ?_
      refine cg_3_1 X dX3_readPlan_90 (q := 93) rfl sh_54 lf_X3_22 ?_
      refine cgN_7_4 hZ X dX3_readPlan_93 (q := 96) rfl sh_8 lf_X3_125 ?_
      refine g_aload_n X dX3_readPlan_96 (q := 97) rfl 0 rfl ?_
      refine cg_3_3 X dX3_readPlan_97 (q := 100) rfl sh_54 lf_X3_12 ?_
      refine cgN_7_4 hZ X dX3_readPlan_100 (q := 103) rfl sh_55 lf_X3_125 ?_
      refine vc_X4_copy_X3 hZ X dX3_readPlan_103 (q := 106) rfl sh_21 sh_68 (Nat.le_of_ble_eq_true rfl) (Nat.le_of_ble_eq_true rfl) (Nat.le_of_ble_eq_true rfl) hs (fun s3 hs => ?_)
      refine g_aload_n X dX3_readPlan_106 (q := 107) rfl 0 rfl ?_
      refine cg_3_1 X dX3_readPlan_107 (q := 110) rfl sh_54 lf_X3_22 ?_
      refine cgN_7_4 hZ X dX3_readPlan_110 (q := 113) rfl sh_8 lf_X3_125 ?_
      refine cgN_4_2 hZ X dX3_readPlan_113 (q := 116) rfl sh_21 lf_X3_73 ?_
      exact RI _ 116 _ _ _ (rU1 hs) rfl (rV1 hs) dX3_readPlan_116
    · intro hs
      refine g_iconst X dX3_readPlan_87 (q := 88) rfl li_im1 ?_
      exact RI _ 88 _ _ _ (rU1 hs) rfl (rV1 hs) dX3_readPlan_88
  refine g_icmp_ge X dX3_readPlan_16 (q := 19) rfl (tgt := 77) (by decide) hs ?_ ?_
  · intro hs
    exact wg_sub [0] rfl (ih2 hs)
  · intro hs
    refine g_aload_n X dX3_readPlan_19 (q := 20) rfl 0 rfl ?_
    refine cg_3_0 X dX3_readPlan_20 (q := 23) rfl sh_54 lf_X3_18 ?_
    refine vc_X5_goesOn_X3 hZ X dX3_readPlan_23 (q := 26) rfl (Nat.le_of_ble_eq_true rfl) (Nat.le_of_ble_eq_true rfl) (Nat.le_of_ble_eq_true rfl) hs (fun y1 hs => ?_)
    refine g_if_eq X dX3_readPlan_26 (q := 29) rfl (tgt := 77) (by decide) hs ?_ ?_
    · intro hs
      exact wg_sub [0] rfl (ih2 hs)
    · intro hs
      refine g_aload_n X dX3_readPlan_29 (q := 30) rfl 0 rfl ?_
      refine cg_3_0 X dX3_readPlan_30 (q := 33) rfl sh_54 lf_X3_18 ?_
      refine cg_ldc hZ X dX3_readPlan_33 (q := 35) rfl 9 (Nat.le_of_ble_eq_true rfl) rfl ?_
      refine g_aload_n X dX3_readPlan_35 (q := 36) rfl 0 rfl ?_
      refine cg_3_3 X dX3_readPlan_36 (q := 39) rfl sh_54 lf_X3_12 ?_
      refine cgN_7_4 hZ X dX3_readPlan_39 (q := 42) rfl sh_55 lf_X3_125 ?_
      refine vc_X5_takesHead_X3 hZ X dX3_readPlan_42 (q := 45) rfl (Nat.le_of_ble_eq_true rfl) sh_68 (Nat.le_of_ble_eq_true rfl) (Nat.le_of_ble_eq_true rfl) (Nat.le_of_ble_eq_true rfl) hs (fun y2 hs => ?_)
      refine jnW1 (fun (s4 : ST) => WG (KC D cA cL h Z) p l e (rmD 12) st m args below meth c Q 2 s4 56 [(0, .ref (h 54)), (1, .int a1)] []) hs (fun s4 hs => ?_) (fun j2 ih3 hs => ?_)
      · refine g_aload_n X dX3_readPlan_56 (q := 57) rfl 0 rfl ?_
        refine g_aload_n X dX3_readPlan_57 (q := 58) rfl 0 rfl ?_
        refine cg_3_0 X dX3_readPlan_58 (q := 61) rfl sh_54 lf_X3_18 ?_
        refine g_iconst X dX3_readPlan_61 (q := 62) rfl li_i0 ?_
        refine g_sipush X dX3_readPlan_62 (q := 65) rfl li_s999 ?_
        refine vc_X5_needNumber_X3 hZ X dX3_readPlan_65 (q := 68) rfl (Nat.le_of_ble_eq_true rfl) (Nat.le_of_ble_eq_true rfl) (Nat.le_of_ble_eq_true rfl) hs (fun y3 hs => ?_)
        refine vc_X3_readDeed_X3 hZ X dX3_readPlan_68 (q := 71) rfl (Nat.le_of_ble_eq_true rfl) (Nat.le_of_ble_eq_true rfl) (Nat.le_of_ble_eq_true rfl) hs (fun s5 hs => ?_)
        refine g_iinc X dX3_readPlan_71 (q := 74) rfl 1 rfl (v := (a1 + (1 : Int32))) (congrArg (HAdd.hAdd a1) li_i1) (Nat.le_of_ble_eq_true rfl) (lv' := [(1, .int (a1 + (1 : Int32))), (0, .ref (h 54))]) rfl ?_
        refine g_goto X dX3_readPlan_74 (tgt := 12) (by decide) ?_
        exact wg_sub [1, 0] rfl (ih1 _ _ hs)
      refine g_if_ne X dX3_readPlan_45 (q := 48) rfl (tgt := 56) (by decide) hs ?_ ?_
      · intro hs
        exact wg_sub [0, 1] rfl (ih3 _ hs)
      · intro hs
        refine g_aload_n X dX3_readPlan_48 (q := 49) rfl 0 rfl ?_
        refine cg_3_0 X dX3_readPlan_49 (q := 52) rfl sh_54 lf_X3_18 ?_
        refine g_iconst X dX3_readPlan_52 (q := 53) rfl li_i1 ?_
        refine vc_X5_fail_X3 hZ X dX3_readPlan_53 (q := 56) rfl (Nat.le_of_ble_eq_true rfl) (Nat.le_of_ble_eq_true rfl) (Nat.le_of_ble_eq_true rfl) hs (fun s6 hs => ?_)
        exact wg_sub [0, 1] rfl (ih3 _ hs)
theorem dX3_valueWord_0 : decode cX3_valueWord 0 = .ok (.iload_n 0, 1) := by decide +kernel
theorem dX3_valueWord_1 : decode cX3_valueWord 1 = .ok (.tableswitch 64 0 6 #[43, 46, 49, 52, 55, 58, 61], 43) := by decide +kernel
theorem dX3_valueWord_44 : decode cX3_valueWord 44 = .ok (.ldc 47, 2) := by decide +kernel
theorem dX3_valueWord_46 : decode cX3_valueWord 46 = .ok (.areturn, 1) := by decide +kernel
theorem dX3_valueWord_47 : decode cX3_valueWord 47 = .ok (.ldc 197, 2) := by decide +kernel
theorem dX3_valueWord_49 : decode cX3_valueWord 49 = .ok (.areturn, 1) := by decide +kernel
theorem dX3_valueWord_50 : decode cX3_valueWord 50 = .ok (.ldc 199, 2) := by decide +kernel
theorem dX3_valueWord_52 : decode cX3_valueWord 52 = .ok (.areturn, 1) := by decide +kernel
theorem dX3_valueWord_53 : decode cX3_valueWord 53 = .ok (.ldc 201, 2) := by decide +kernel
theorem dX3_valueWord_55 : decode cX3_valueWord 55 = .ok (.areturn, 1) := by decide +kernel
theorem dX3_valueWord_56 : decode cX3_valueWord 56 = .ok (.ldc 203, 2) := by decide +kernel
theorem dX3_valueWord_58 : decode cX3_valueWord 58 = .ok (.areturn, 1) := by decide +kernel
theorem dX3_valueWord_59 : decode cX3_valueWord 59 = .ok (.ldc 205, 2) := by decide +kernel
theorem dX3_valueWord_61 : decode cX3_valueWord 61 = .ok (.areturn, 1) := by decide +kernel
theorem dX3_valueWord_62 : decode cX3_valueWord 62 = .ok (.ldc 207, 2) := by decide +kernel
theorem dX3_valueWord_64 : decode cX3_valueWord 64 = .ok (.areturn, 1) := by decide +kernel
theorem dX3_valueWord_65 : decode cX3_valueWord 65 = .ok (.ldc 209, 2) := by decide +kernel
theorem dX3_valueWord_67 : decode cX3_valueWord 67 = .ok (.areturn, 1) := by decide +kernel
def C_X3_valueWord (s : ST) (x1 : Int32) : Nat := if x1 = (0 : Int32) then (0) else (if x1 = (1 : Int32) then (20) else (if x1 = (2 : Int32) then (21) else (if x1 = (3 : Int32) then (22) else (if x1 = (4 : Int32) then (23) else (if x1 = (5 : Int32) then (24) else (if x1 = (6 : Int32) then (25) else (26)))))))
set_option maxRecDepth 100000 in
set_option maxHeartbeats 4000000 in
theorem k_X3_valueWord {h : Nat → Nat} {Z : State → Heap → Prop} {sa : Nat → Nat} (hZ : ZK h Z sa) (l : Launch) (D : va_G) (cA cL : ClassId) (s : ST) (x1 : Int32) : MR l (KC D cA cL h Z) 1 yX3_valueWord cX3_valueWord 1 (some (.object "java/lang/String")) s [.int x1] (sa (C_X3_valueWord s x1)) s := by
  refine met_r (by decide) (Nat.le_of_ble_eq_true rfl) ?_
  intro p e st m args below meth c Q X RI
  generalize hs : C_X3_valueWord s x1 = o at RI
  unfold C_X3_valueWord at hs
  refine g_iload_n X dX3_valueWord_0 (q := 1) rfl 0 rfl ?_
  refine g_tsw X dX3_valueWord_1 (z := (0 : Int32)) (tgt := 44) rfl (by decide) (by decide) (by decide) hs ?_ (fun hn0 hs => ?_)
  · intro hs
    refine cg_ldc hZ X dX3_valueWord_44 (q := 46) rfl 0 (Nat.le_of_ble_eq_true rfl) rfl ?_
    exact RI _ 46 _ _ rfl (congrArg sa hs) dX3_valueWord_46
  refine g_tsw X dX3_valueWord_1 (z := (1 : Int32)) (tgt := 47) rfl (by decide) (by decide) (by decide) hs ?_ (fun hn1 hs => ?_)
  · intro hs
    refine cg_ldc hZ X dX3_valueWord_47 (q := 49) rfl 20 (Nat.le_of_ble_eq_true rfl) rfl ?_
    exact RI _ 49 _ _ rfl (congrArg sa hs) dX3_valueWord_49
  refine g_tsw X dX3_valueWord_1 (z := (2 : Int32)) (tgt := 50) rfl (by decide) (by decide) (by decide) hs ?_ (fun hn2 hs => ?_)
  · intro hs
    refine cg_ldc hZ X dX3_valueWord_50 (q := 52) rfl 21 (Nat.le_of_ble_eq_true rfl) rfl ?_
    exact RI _ 52 _ _ rfl (congrArg sa hs) dX3_valueWord_52
  refine g_tsw X dX3_valueWord_1 (z := (3 : Int32)) (tgt := 53) rfl (by decide) (by decide) (by decide) hs ?_ (fun hn3 hs => ?_)
  · intro hs
    refine cg_ldc hZ X dX3_valueWord_53 (q := 55) rfl 22 (Nat.le_of_ble_eq_true rfl) rfl ?_
    exact RI _ 55 _ _ rfl (congrArg sa hs) dX3_valueWord_55
  refine g_tsw X dX3_valueWord_1 (z := (4 : Int32)) (tgt := 56) rfl (by decide) (by decide) (by decide) hs ?_ (fun hn4 hs => ?_)
  · intro hs
    refine cg_ldc hZ X dX3_valueWord_56 (q := 58) rfl 23 (Nat.le_of_ble_eq_true rfl) rfl ?_
    exact RI _ 58 _ _ rfl (congrArg sa hs) dX3_valueWord_58
  refine g_tsw X dX3_valueWord_1 (z := (5 : Int32)) (tgt := 59) rfl (by decide) (by decide) (by decide) hs ?_ (fun hn5 hs => ?_)
  · intro hs
    refine cg_ldc hZ X dX3_valueWord_59 (q := 61) rfl 24 (Nat.le_of_ble_eq_true rfl) rfl ?_
    exact RI _ 61 _ _ rfl (congrArg sa hs) dX3_valueWord_61
  refine g_tsw X dX3_valueWord_1 (z := (6 : Int32)) (tgt := 62) rfl (by decide) (by decide) (by decide) hs ?_ (fun hn6 hs => ?_)
  · intro hs
    refine cg_ldc hZ X dX3_valueWord_62 (q := 64) rfl 25 (Nat.le_of_ble_eq_true rfl) rfl ?_
    exact RI _ 64 _ _ rfl (congrArg sa hs) dX3_valueWord_64
  refine g_tswO X dX3_valueWord_1 (tgt := 65) (by have t0 := tsw_ne hn0 (k := 0) (by decide); have t1 := tsw_ne hn1 (k := 1) (by decide); have t2 := tsw_ne hn2 (k := 2) (by decide); have t3 := tsw_ne hn3 (k := 3) (by decide); have t4 := tsw_ne hn4 (k := 4) (by decide); have t5 := tsw_ne hn5 (k := 5) (by decide); have t6 := tsw_ne hn6 (k := 6) (by decide); omega) (by decide) ?_
  refine cg_ldc hZ X dX3_valueWord_65 (q := 67) rfl 26 (Nat.le_of_ble_eq_true rfl) rfl ?_
  exact RI _ 67 _ _ rfl (congrArg sa hs) dX3_valueWord_67
theorem valueWord_lt {s : ST} {x : Int32} {r : Nat} (h : C_X3_valueWord s x = r) : r < 30 := by
  subst h
  unfold C_X3_valueWord
  repeat' split
  all_goals decide
theorem dX3_readUnit_0 : decode cX3_readUnit 0 = .ok (.iconst 0, 1) := by decide +kernel
theorem dX3_readUnit_1 : decode cX3_readUnit 1 = .ok (.istore_n 1, 1) := by decide +kernel
theorem dX3_readUnit_2 : decode cX3_readUnit 2 = .ok (.iload_n 1, 1) := by decide +kernel
theorem dX3_readUnit_3 : decode cX3_readUnit 3 = .ok (.bipush 8, 2) := by decide +kernel
theorem dX3_readUnit_5 : decode cX3_readUnit 5 = .ok (.if_icmp .ge 37, 3) := by decide +kernel
theorem dX3_readUnit_8 : decode cX3_readUnit 8 = .ok (.aload_n 0, 1) := by decide +kernel
theorem dX3_readUnit_9 : decode cX3_readUnit 9 = .ok (.getfield 18, 3) := by decide +kernel
theorem dX3_readUnit_12 : decode cX3_readUnit 12 = .ok (.iload_n 1, 1) := by decide +kernel
theorem dX3_readUnit_13 : decode cX3_readUnit 13 = .ok (.invokestatic 193, 3) := by decide +kernel
theorem dX3_readUnit_16 : decode cX3_readUnit 16 = .ok (.invokevirtual 111, 3) := by decide +kernel
theorem dX3_readUnit_19 : decode cX3_readUnit 19 = .ok (.ifCond .eq 17, 3) := by decide +kernel
theorem dX3_readUnit_22 : decode cX3_readUnit 22 = .ok (.aload_n 0, 1) := by decide +kernel
theorem dX3_readUnit_23 : decode cX3_readUnit 23 = .ok (.getfield 12, 3) := by decide +kernel
theorem dX3_readUnit_26 : decode cX3_readUnit 26 = .ok (.getfield 155, 3) := by decide +kernel
theorem dX3_readUnit_29 : decode cX3_readUnit 29 = .ok (.iconst (-1), 1) := by decide +kernel
theorem dX3_readUnit_30 : decode cX3_readUnit 30 = .ok (.iload_n 1, 1) := by decide +kernel
theorem dX3_readUnit_31 : decode cX3_readUnit 31 = .ok (.isub, 1) := by decide +kernel
theorem dX3_readUnit_32 : decode cX3_readUnit 32 = .ok (.invokevirtual 190, 3) := by decide +kernel
theorem dX3_readUnit_35 : decode cX3_readUnit 35 = .ok (.return_, 1) := by decide +kernel
theorem dX3_readUnit_36 : decode cX3_readUnit 36 = .ok (.iinc 1 1, 3) := by decide +kernel
theorem dX3_readUnit_39 : decode cX3_readUnit 39 = .ok (.goto (-37), 3) := by decide +kernel
theorem dX3_readUnit_42 : decode cX3_readUnit 42 = .ok (.aload_n 0, 1) := by decide +kernel
theorem dX3_readUnit_43 : decode cX3_readUnit 43 = .ok (.getfield 12, 3) := by decide +kernel
theorem dX3_readUnit_46 : decode cX3_readUnit 46 = .ok (.getfield 155, 3) := by decide +kernel
theorem dX3_readUnit_49 : decode cX3_readUnit 49 = .ok (.aload_n 0, 1) := by decide +kernel
theorem dX3_readUnit_50 : decode cX3_readUnit 50 = .ok (.getfield 18, 3) := by decide +kernel
theorem dX3_readUnit_53 : decode cX3_readUnit 53 = .ok (.iconst 0, 1) := by decide +kernel
theorem dX3_readUnit_54 : decode cX3_readUnit 54 = .ok (.sipush 9999, 3) := by decide +kernel
theorem dX3_readUnit_57 : decode cX3_readUnit 57 = .ok (.invokevirtual 76, 3) := by decide +kernel
theorem dX3_readUnit_60 : decode cX3_readUnit 60 = .ok (.invokevirtual 190, 3) := by decide +kernel
theorem dX3_readUnit_63 : decode cX3_readUnit 63 = .ok (.return_, 1) := by decide +kernel
theorem wX2_emit_X3 : Cond.methodLinkNest RX3 190 yX2_emit "StormSeeds" ∈ NW := nw_of 836 (by decide +kernel) rfl
theorem vc_X2_emit_X3 {p : Program} {l : Launch} {e : Env} {st : State} {m : MethodId} {args : Array Value} {below : List Frame} {meth : Method} {c : Code} {Q : State → Prop} {nL : Nat} {cc : ByteArray} {s : ST} {pc q : Nat} {lv : List (Nat × Value)} {rest : List Value} {D : va_G} {cA cL : ClassId} {h : Nat → Nat} {Z : State → Heap → Prop} {sa : Nat → Nat} (hZ : ZK h Z sa) {d0 : Nat} (X : Cx (KC D cA cL h Z) p st m args meth c cc nL RX3) {x1 : Int32} (d : decode cc pc = .ok (.invokevirtual 190, 3)) (hq : pc + 3 = q) (hd1 : 1 + 1 ≤ d0) (hd2 : 8 + (2 + 11) + 100 * 1 ≤ 100 * d0) (hr : (rest.map fun v => v.category).sum ≤ 8) {B : Type} {f : ST → Option B} {r : B} (hs : Bd (C_X2_emit s x1) f = some r) (k : ∀ y, f y = some r → WG (KC D cA cL h Z) p l e (rmD d0) st m args below meth c Q nL y q lv (rest)) : WG (KC D cA cL h Z) p l e (rmD d0) st m args below meth c Q nL s pc lv (.int x1 :: .ref (h 60) :: rest) := by
  obtain ⟨v, hv, hs⟩ := Bd_e hs
  exact cVN_V (K := KC D cA cL h Z) X 60 (n := 1) (k_X2_emit hZ l D cA cL s x1 hv) (gt_c (gt_of 839 (by decide +kernel) rfl) gt_t) (hZ.1 st st.heap X.2.2.2 _ wX2_emit_X3) (gt_of 201 (by decide +kernel) rfl) (gt_of 838 (by decide +kernel) rfl) (gt_of 38 (by decide +kernel) rfl) ⟨hd1, hd2⟩ ⟨by decide, by decide, by decide +kernel⟩ (As := [.int x1]) rfl hr (sh_60).1 (fs := cF2 h 60 (s.1 60) (s.2 60)) (GC_2 (cA := cA) (cL := cL) sh_60 _ _) rfl rfl d hq (k _ hs)
theorem wX3_valueWord_X3 : GoodIn GT (va_wsS RX3 193 yX3_valueWord (.code yX3_valueWord cX3_valueWord 1 (some (.object "java/lang/String")) :: GT)) := gt_c (gt_of 825 (by decide +kernel) rfl) (gt_c (gt_of 826 (by decide +kernel) rfl) (gt_c (gt_of 203 (by decide +kernel) rfl) (gt_c (gt_of 827 (by decide +kernel) rfl) gt_t)))
theorem vc_X3_valueWord_X3 {p : Program} {l : Launch} {e : Env} {st : State} {m : MethodId} {args : Array Value} {below : List Frame} {meth : Method} {c : Code} {Q : State → Prop} {nL : Nat} {cc : ByteArray} {s : ST} {pc q : Nat} {lv : List (Nat × Value)} {rest : List Value} {D : va_G} {cA cL : ClassId} {h : Nat → Nat} {Z : State → Heap → Prop} {sa : Nat → Nat} (hZ : ZK h Z sa) {d0 : Nat} (X : Cx (KC D cA cL h Z) p st m args meth c cc nL RX3) {x1 : Int32} (d : decode cc pc = .ok (.invokestatic 193, 3)) (hq : pc + 3 = q) (hd1 : 1 + 1 ≤ d0) (hd2 : 8 + (1 + 11) + 100 * 1 ≤ 100 * d0) (hr : (rest.map fun v => v.category).sum ≤ 8) {B : Type} {f : Nat → B} {r : B} (hs : Lt (C_X3_valueWord s x1) f = r) (k : ∀ y, y < 30 → f y = r → WG (KC D cA cL h Z) p l e (rmD d0) st m args below meth c Q nL s q lv (.ref (sa y) :: rest)) : WG (KC D cA cL h Z) p l e (rmD d0) st m args below meth c Q nL s pc lv (.int x1 :: rest) := by
  exact cS_R (K := KC D cA cL h Z) X (n := 1) (k_X3_valueWord hZ l D cA cL s x1) wX3_valueWord_X3 ⟨hd1, hd2⟩ ⟨by decide, by decide, by decide +kernel⟩ (As := [.int x1]) rfl hr rfl d hq (k _ (valueWord_lt rfl) hs)
def C_X3_readUnit (s : ST) : Option (ST) := lpK2 (C := ST) (fun (rec1 : Int32 → ST → Option (ST)) (a1 : Int32) (s1 : ST) => if (8 : Int32) ≤ a1 then (Bd (C_X5_needNumber s1 (0 : Int32) (9999 : Int32)) fun y1 => Bd (C_X2_emit y1.2 y1.1) fun s2 => some s2) else (Lt (C_X3_valueWord s1 a1) fun y2 => Bd (C_X5_takesWord s1 y2) fun y3 => if y3.1 = 0 then (rec1 (a1 + (1 : Int32)) y3.2) else (Bd (C_X2_emit y3.2 ((-1 : Int32) - a1)) fun s3 => some s3))) FU (0 : Int32) s
set_option maxRecDepth 100000 in
set_option maxHeartbeats 4000000 in
theorem k_X3_readUnit {h : Nat → Nat} {Z : State → Heap → Prop} {sa : Nat → Nat} (hZ : ZK h Z sa) (l : Launch) (D : va_G) (cA cL : ClassId) (s : ST) {o : ST} (hs : C_X3_readUnit s = some o) : MV l (KC D cA cL h Z) 9 yX3_readUnit cX3_readUnit 2 none s [.ref (h 54)] o := by
  refine met_v (by decide) (Nat.le_of_ble_eq_true rfl) ?_
  intro p e st m args below meth c Q X RI
  unfold C_X3_readUnit at hs
  refine g_iconst X dX3_readUnit_0 (q := 1) rfl li_i0 ?_
  refine g_istore_n X dX3_readUnit_1 (q := 2) rfl (Nat.le_of_ble_eq_true rfl) (lv' := [(1, .int (0 : Int32)), (0, .ref (h 54))]) rfl ?_
  refine wg_sub [1, 0] rfl (lpW2 (fun (a1 : Int32) (s1 : ST) => WG (KC D cA cL h Z) p l e (rmD 9) st m args below meth c Q 2 s1 2 [(0, .ref (h 54)), (1, .int a1)] []) (fun rec1 ih1 a1 s1 hs => ?_) _ _ _ hs)
  refine g_iload_n X dX3_readUnit_2 (q := 3) rfl 1 rfl ?_
  refine g_bipush X dX3_readUnit_3 (q := 5) rfl li_b8 ?_
  refine g_icmp_ge X dX3_readUnit_5 (q := 8) rfl (tgt := 42) (by decide) hs ?_ ?_
  · intro hs
    refine g_aload_n X dX3_readUnit_42 (q := 43) rfl 0 rfl ?_
    refine cg_3_3 X dX3_readUnit_43 (q := 46) rfl sh_54 lf_X3_12 ?_
    refine cgN_7_2 hZ X dX3_readUnit_46 (q := 49) rfl sh_55 lf_X3_155 ?_
    refine g_aload_n X dX3_readUnit_49 (q := 50) rfl 0 rfl ?_
    refine cg_3_0 X dX3_readUnit_50 (q := 53) rfl sh_54 lf_X3_18 ?_
    refine g_iconst X dX3_readUnit_53 (q := 54) rfl li_i0 ?_
    refine g_sipush X dX3_readUnit_54 (q := 57) rfl li_s9999 ?_
    refine vc_X5_needNumber_X3 hZ X dX3_readUnit_57 (q := 60) rfl (Nat.le_of_ble_eq_true rfl) (Nat.le_of_ble_eq_true rfl) (Nat.le_of_ble_eq_true rfl) hs (fun y1 hs => ?_)
    refine vc_X2_emit_X3 hZ X dX3_readUnit_60 (q := 63) rfl (Nat.le_of_ble_eq_true rfl) (Nat.le_of_ble_eq_true rfl) (Nat.le_of_ble_eq_true rfl) hs (fun s2 hs => ?_)
    exact RI _ 63 _ (Option.some.inj hs) dX3_readUnit_63
  · intro hs
    refine g_aload_n X dX3_readUnit_8 (q := 9) rfl 0 rfl ?_
    refine cg_3_0 X dX3_readUnit_9 (q := 12) rfl sh_54 lf_X3_18 ?_
    refine g_iload_n X dX3_readUnit_12 (q := 13) rfl 1 rfl ?_
    refine vc_X3_valueWord_X3 hZ X dX3_readUnit_13 (q := 16) rfl (Nat.le_of_ble_eq_true rfl) (Nat.le_of_ble_eq_true rfl) (Nat.le_of_ble_eq_true rfl) hs (fun y2 hy2 hs => ?_)
    refine vc_X5_takesWord_X3 hZ X dX3_readUnit_16 (q := 19) rfl hy2 (Nat.le_of_ble_eq_true rfl) (Nat.le_of_ble_eq_true rfl) (Nat.le_of_ble_eq_true rfl) hs (fun y3 hs => ?_)
    refine g_if_eq X dX3_readUnit_19 (q := 22) rfl (tgt := 36) (by decide) hs ?_ ?_
    · intro hs
      refine g_iinc X dX3_readUnit_36 (q := 39) rfl 1 rfl (v := (a1 + (1 : Int32))) (congrArg (HAdd.hAdd a1) li_i1) (Nat.le_of_ble_eq_true rfl) (lv' := [(1, .int (a1 + (1 : Int32))), (0, .ref (h 54))]) rfl ?_
      refine g_goto X dX3_readUnit_39 (tgt := 2) (by decide) ?_
      exact wg_sub [1, 0] rfl (ih1 _ _ hs)
    · intro hs
      refine g_aload_n X dX3_readUnit_22 (q := 23) rfl 0 rfl ?_
      refine cg_3_3 X dX3_readUnit_23 (q := 26) rfl sh_54 lf_X3_12 ?_
      refine cgN_7_2 hZ X dX3_readUnit_26 (q := 29) rfl sh_55 lf_X3_155 ?_
      refine g_iconst X dX3_readUnit_29 (q := 30) rfl li_im1 ?_
      refine g_iload_n X dX3_readUnit_30 (q := 31) rfl 1 rfl ?_
      refine g_isub X dX3_readUnit_31 (q := 32) rfl ?_
      refine vc_X2_emit_X3 hZ X dX3_readUnit_32 (q := 35) rfl (Nat.le_of_ble_eq_true rfl) (Nat.le_of_ble_eq_true rfl) (Nat.le_of_ble_eq_true rfl) hs (fun s3 hs => ?_)
      exact RI _ 35 _ (Option.some.inj hs) dX3_readUnit_35
theorem dX3_readSum_0 : decode cX3_readSum 0 = .ok (.iconst 0, 1) := by decide +kernel
theorem dX3_readSum_1 : decode cX3_readSum 1 = .ok (.istore_n 1, 1) := by decide +kernel
theorem dX3_readSum_2 : decode cX3_readSum 2 = .ok (.aload_n 0, 1) := by decide +kernel
theorem dX3_readSum_3 : decode cX3_readSum 3 = .ok (.invokevirtual 183, 3) := by decide +kernel
theorem dX3_readSum_6 : decode cX3_readSum 6 = .ok (.iconst 0, 1) := by decide +kernel
theorem dX3_readSum_7 : decode cX3_readSum 7 = .ok (.istore_n 2, 1) := by decide +kernel
theorem dX3_readSum_8 : decode cX3_readSum 8 = .ok (.iload_n 2, 1) := by decide +kernel
theorem dX3_readSum_9 : decode cX3_readSum 9 = .ok (.sipush 400, 3) := by decide +kernel
theorem dX3_readSum_12 : decode cX3_readSum 12 = .ok (.if_icmp .ge 148, 3) := by decide +kernel
theorem dX3_readSum_15 : decode cX3_readSum 15 = .ok (.aload_n 0, 1) := by decide +kernel
theorem dX3_readSum_16 : decode cX3_readSum 16 = .ok (.getfield 18, 3) := by decide +kernel
theorem dX3_readSum_19 : decode cX3_readSum 19 = .ok (.bipush 42, 2) := by decide +kernel
theorem dX3_readSum_21 : decode cX3_readSum 21 = .ok (.invokevirtual 186, 3) := by decide +kernel
theorem dX3_readSum_24 : decode cX3_readSum 24 = .ok (.ifCond .eq 22, 3) := by decide +kernel
theorem dX3_readSum_27 : decode cX3_readSum 27 = .ok (.aload_n 0, 1) := by decide +kernel
theorem dX3_readSum_28 : decode cX3_readSum 28 = .ok (.invokevirtual 183, 3) := by decide +kernel
theorem dX3_readSum_31 : decode cX3_readSum 31 = .ok (.aload_n 0, 1) := by decide +kernel
theorem dX3_readSum_32 : decode cX3_readSum 32 = .ok (.getfield 12, 3) := by decide +kernel
theorem dX3_readSum_35 : decode cX3_readSum 35 = .ok (.getfield 155, 3) := by decide +kernel
theorem dX3_readSum_38 : decode cX3_readSum 38 = .ok (.bipush (-11), 2) := by decide +kernel
theorem dX3_readSum_40 : decode cX3_readSum 40 = .ok (.invokevirtual 190, 3) := by decide +kernel
theorem dX3_readSum_43 : decode cX3_readSum 43 = .ok (.goto 111, 3) := by decide +kernel
theorem dX3_readSum_46 : decode cX3_readSum 46 = .ok (.aload_n 0, 1) := by decide +kernel
theorem dX3_readSum_47 : decode cX3_readSum 47 = .ok (.getfield 18, 3) := by decide +kernel
theorem dX3_readSum_50 : decode cX3_readSum 50 = .ok (.bipush 47, 2) := by decide +kernel
theorem dX3_readSum_52 : decode cX3_readSum 52 = .ok (.invokevirtual 186, 3) := by decide +kernel
theorem dX3_readSum_55 : decode cX3_readSum 55 = .ok (.ifCond .eq 39, 3) := by decide +kernel
theorem dX3_readSum_58 : decode cX3_readSum 58 = .ok (.aload_n 0, 1) := by decide +kernel
theorem dX3_readSum_59 : decode cX3_readSum 59 = .ok (.getfield 12, 3) := by decide +kernel
theorem dX3_readSum_62 : decode cX3_readSum 62 = .ok (.getfield 155, 3) := by decide +kernel
theorem dX3_readSum_65 : decode cX3_readSum 65 = .ok (.aload_n 0, 1) := by decide +kernel
theorem dX3_readSum_66 : decode cX3_readSum 66 = .ok (.getfield 18, 3) := by decide +kernel
theorem dX3_readSum_69 : decode cX3_readSum 69 = .ok (.iconst 1, 1) := by decide +kernel
theorem dX3_readSum_70 : decode cX3_readSum 70 = .ok (.sipush 9999, 3) := by decide +kernel
theorem dX3_readSum_73 : decode cX3_readSum 73 = .ok (.invokevirtual 76, 3) := by decide +kernel
theorem dX3_readSum_76 : decode cX3_readSum 76 = .ok (.invokevirtual 190, 3) := by decide +kernel
theorem dX3_readSum_79 : decode cX3_readSum 79 = .ok (.aload_n 0, 1) := by decide +kernel
theorem dX3_readSum_80 : decode cX3_readSum 80 = .ok (.getfield 12, 3) := by decide +kernel
theorem dX3_readSum_83 : decode cX3_readSum 83 = .ok (.getfield 155, 3) := by decide +kernel
theorem dX3_readSum_86 : decode cX3_readSum 86 = .ok (.bipush (-12), 2) := by decide +kernel
theorem dX3_readSum_88 : decode cX3_readSum 88 = .ok (.invokevirtual 190, 3) := by decide +kernel
theorem dX3_readSum_91 : decode cX3_readSum 91 = .ok (.goto 63, 3) := by decide +kernel
theorem dX3_readSum_94 : decode cX3_readSum 94 = .ok (.iload_n 1, 1) := by decide +kernel
theorem dX3_readSum_95 : decode cX3_readSum 95 = .ok (.ifCond .eq 14, 3) := by decide +kernel
theorem dX3_readSum_98 : decode cX3_readSum 98 = .ok (.aload_n 0, 1) := by decide +kernel
theorem dX3_readSum_99 : decode cX3_readSum 99 = .ok (.getfield 12, 3) := by decide +kernel
theorem dX3_readSum_102 : decode cX3_readSum 102 = .ok (.getfield 155, 3) := by decide +kernel
theorem dX3_readSum_105 : decode cX3_readSum 105 = .ok (.iload_n 1, 1) := by decide +kernel
theorem dX3_readSum_106 : decode cX3_readSum 106 = .ok (.invokevirtual 190, 3) := by decide +kernel
theorem dX3_readSum_109 : decode cX3_readSum 109 = .ok (.aload_n 0, 1) := by decide +kernel
theorem dX3_readSum_110 : decode cX3_readSum 110 = .ok (.getfield 18, 3) := by decide +kernel
theorem dX3_readSum_113 : decode cX3_readSum 113 = .ok (.bipush 43, 2) := by decide +kernel
theorem dX3_readSum_115 : decode cX3_readSum 115 = .ok (.invokevirtual 186, 3) := by decide +kernel
theorem dX3_readSum_118 : decode cX3_readSum 118 = .ok (.ifCond .eq 8, 3) := by decide +kernel
theorem dX3_readSum_121 : decode cX3_readSum 121 = .ok (.bipush (-9), 2) := by decide +kernel
theorem dX3_readSum_123 : decode cX3_readSum 123 = .ok (.goto 21, 3) := by decide +kernel
theorem dX3_readSum_126 : decode cX3_readSum 126 = .ok (.aload_n 0, 1) := by decide +kernel
theorem dX3_readSum_127 : decode cX3_readSum 127 = .ok (.getfield 18, 3) := by decide +kernel
theorem dX3_readSum_130 : decode cX3_readSum 130 = .ok (.bipush 45, 2) := by decide +kernel
theorem dX3_readSum_132 : decode cX3_readSum 132 = .ok (.invokevirtual 186, 3) := by decide +kernel
theorem dX3_readSum_135 : decode cX3_readSum 135 = .ok (.ifCond .eq 8, 3) := by decide +kernel
theorem dX3_readSum_138 : decode cX3_readSum 138 = .ok (.bipush (-10), 2) := by decide +kernel
theorem dX3_readSum_140 : decode cX3_readSum 140 = .ok (.goto 4, 3) := by decide +kernel
theorem dX3_readSum_143 : decode cX3_readSum 143 = .ok (.iconst 0, 1) := by decide +kernel
theorem dX3_readSum_144 : decode cX3_readSum 144 = .ok (.istore_n 1, 1) := by decide +kernel
theorem dX3_readSum_145 : decode cX3_readSum 145 = .ok (.iload_n 1, 1) := by decide +kernel
theorem dX3_readSum_146 : decode cX3_readSum 146 = .ok (.ifCond .ne 4, 3) := by decide +kernel
theorem dX3_readSum_149 : decode cX3_readSum 149 = .ok (.return_, 1) := by decide +kernel
theorem dX3_readSum_150 : decode cX3_readSum 150 = .ok (.aload_n 0, 1) := by decide +kernel
theorem dX3_readSum_151 : decode cX3_readSum 151 = .ok (.invokevirtual 183, 3) := by decide +kernel
theorem dX3_readSum_154 : decode cX3_readSum 154 = .ok (.iinc 2 1, 3) := by decide +kernel
theorem dX3_readSum_157 : decode cX3_readSum 157 = .ok (.goto (-149), 3) := by decide +kernel
theorem dX3_readSum_160 : decode cX3_readSum 160 = .ok (.return_, 1) := by decide +kernel
theorem wX3_readUnit_X3 : GoodIn GT (wsV RX3 183 RX3 yX3_readUnit (.code yX3_readUnit cX3_readUnit 2 none :: GT)) := gt_V (gt_of 821 (by decide +kernel) rfl) (gt_of 823 (by decide +kernel) rfl) (gt_of 37 (by decide +kernel) rfl) (gt_of 203 (by decide +kernel) rfl) (gt_of 824 (by decide +kernel) rfl)
theorem vc_X3_readUnit_X3 {p : Program} {l : Launch} {e : Env} {st : State} {m : MethodId} {args : Array Value} {below : List Frame} {meth : Method} {c : Code} {Q : State → Prop} {nL : Nat} {cc : ByteArray} {s : ST} {pc q : Nat} {lv : List (Nat × Value)} {rest : List Value} {D : va_G} {cA cL : ClassId} {h : Nat → Nat} {Z : State → Heap → Prop} {sa : Nat → Nat} (hZ : ZK h Z sa) {d0 : Nat} (X : Cx (KC D cA cL h Z) p st m args meth c cc nL RX3) (d : decode cc pc = .ok (.invokevirtual 183, 3)) (hq : pc + 3 = q) (hd1 : 9 + 1 ≤ d0) (hd2 : 8 + (2 + 11) + 100 * 9 ≤ 100 * d0) (hr : (rest.map fun v => v.category).sum ≤ 8) {B : Type} {f : ST → Option B} {r : B} (hs : Bd (C_X3_readUnit s) f = some r) (k : ∀ y, f y = some r → WG (KC D cA cL h Z) p l e (rmD d0) st m args below meth c Q nL y q lv (rest)) : WG (KC D cA cL h Z) p l e (rmD d0) st m args below meth c Q nL s pc lv (.ref (h 54) :: rest) := by
  obtain ⟨v, hv, hs⟩ := Bd_e hs
  exact cV_V (K := KC D cA cL h Z) X 54 (n := 0) (k_X3_readUnit hZ l D cA cL s hv) wX3_readUnit_X3 ⟨hd1, hd2⟩ ⟨by decide, by decide, by decide +kernel⟩ (As := []) rfl hr (sh_54).1 (fs := cF3 h 54 (s.1 54) (s.2 54)) (GC_3 (cA := cA) (cL := cL) sh_54 _ _) rfl rfl d hq (k _ hs)
theorem wX5_takesSign_X3 : Cond.methodLinkNest RX3 186 yX5_takesSign "StormSeeds" ∈ NW := nw_of 840 (by decide +kernel) rfl
theorem vc_X5_takesSign_X3 {p : Program} {l : Launch} {e : Env} {st : State} {m : MethodId} {args : Array Value} {below : List Frame} {meth : Method} {c : Code} {Q : State → Prop} {nL : Nat} {cc : ByteArray} {s : ST} {pc q : Nat} {lv : List (Nat × Value)} {rest : List Value} {D : va_G} {cA cL : ClassId} {h : Nat → Nat} {Z : State → Heap → Prop} {sa : Nat → Nat} (hZ : ZK h Z sa) {d0 : Nat} (X : Cx (KC D cA cL h Z) p st m args meth c cc nL RX3) {x1 : Int32} (d : decode cc pc = .ok (.invokevirtual 186, 3)) (hq : pc + 3 = q) (hd1 : 2 + 1 ≤ d0) (hd2 : 8 + (3 + 11) + 100 * 2 ≤ 100 * d0) (hr : (rest.map fun v => v.category).sum ≤ 8) {B : Type} {f : Int32 × ST → Option B} {r : B} (hs : Bd (C_X5_takesSign s x1) f = some r) (k : ∀ y, f y = some r → WG (KC D cA cL h Z) p l e (rmD d0) st m args below meth c Q nL y.2 q lv (.int y.1 :: rest)) : WG (KC D cA cL h Z) p l e (rmD d0) st m args below meth c Q nL s pc lv (.int x1 :: .ref (h 49) :: rest) := by
  obtain ⟨v, hv, hs⟩ := Bd_e hs
  exact cVN_I (K := KC D cA cL h Z) X 49 (n := 1) (k_X5_takesSign hZ l D cA cL s x1 hv) (gt_c (gt_of 779 (by decide +kernel) rfl) gt_t) (hZ.1 st st.heap X.2.2.2 _ wX5_takesSign_X3) (gt_of 202 (by decide +kernel) rfl) (gt_of 778 (by decide +kernel) rfl) (gt_of 29 (by decide +kernel) rfl) ⟨hd1, hd2⟩ ⟨by decide, by decide, by decide +kernel⟩ (As := [.int x1]) rfl hr (sh_49).1 (fs := cF5 h 49 (s.1 49) (s.2 49)) (GC_5 (cA := cA) (cL := cL) sh_49 _ _) rfl rfl d hq (k _ hs)
def C_X3_readSum (s : ST) : Option (ST) := Bd (C_X3_readUnit s) fun s1 => lpK3 (C := ST) (fun (rec1 : Int32 → Int32 → ST → Option (ST)) (a1 : Int32) (a2 : Int32) (s2 : ST) => if (400 : Int32) ≤ a2 then (some s2) else (Bd (C_X5_takesSign s2 (42 : Int32)) fun y1 => Lt (fun (a3 : Int32) (s3 : ST) => (rec1 a3 (a2 + (1 : Int32)) s3 : Option (ST))) fun j1 => if y1.1 = 0 then (Bd (C_X5_takesSign y1.2 (47 : Int32)) fun y2 => if y2.1 = 0 then (Lt (fun (s4 : ST) => (Bd (C_X5_takesSign s4 (43 : Int32)) fun y3 => Lt (fun (a4 : Int32) (s5 : ST) => (if a4 = 0 then (some s5) else (Bd (C_X3_readUnit s5) fun s6 => j1 a4 s6) : Option (ST))) fun j3 => if y3.1 = 0 then (Bd (C_X5_takesSign y3.2 (45 : Int32)) fun y4 => if y4.1 = 0 then (j3 (0 : Int32) y4.2) else (j3 (-10 : Int32) y4.2)) else (j3 (-9 : Int32) y3.2) : Option (ST))) fun j2 => if a1 = 0 then (j2 y2.2) else (Bd (C_X2_emit y2.2 a1) fun s7 => j2 s7)) else (Bd (C_X5_needNumber y2.2 (1 : Int32) (9999 : Int32)) fun y5 => Bd (C_X2_emit y5.2 y5.1) fun s8 => Bd (C_X2_emit s8 (-12 : Int32)) fun s9 => j1 a1 s9)) else (Bd (C_X3_readUnit y1.2) fun s10 => Bd (C_X2_emit s10 (-11 : Int32)) fun s11 => j1 a1 s11))) FU (0 : Int32) (0 : Int32) s1
set_option maxRecDepth 100000 in
set_option maxHeartbeats 4000000 in
theorem k_X3_readSum {h : Nat → Nat} {Z : State → Heap → Prop} {sa : Nat → Nat} (hZ : ZK h Z sa) (l : Launch) (D : va_G) (cA cL : ClassId) (s : ST) {o : ST} (hs : C_X3_readSum s = some o) : MV l (KC D cA cL h Z) 10 yX3_readSum cX3_readSum 3 none s [.ref (h 54)] o := by
  refine met_v (by decide) (Nat.le_of_ble_eq_true rfl) ?_
  intro p e st m args below meth c Q X RI
  unfold C_X3_readSum at hs
  refine g_iconst X dX3_readSum_0 (q := 1) rfl li_i0 ?_
  refine g_istore_n X dX3_readSum_1 (q := 2) rfl (Nat.le_of_ble_eq_true rfl) (lv' := [(1, .int (0 : Int32)), (0, .ref (h 54))]) rfl ?_
  refine g_aload_n X dX3_readSum_2 (q := 3) rfl 1 rfl ?_
  refine vc_X3_readUnit_X3 hZ X dX3_readSum_3 (q := 6) rfl (Nat.le_of_ble_eq_true rfl) (Nat.le_of_ble_eq_true rfl) (Nat.le_of_ble_eq_true rfl) hs (fun s1 hs => ?_)
  refine g_iconst X dX3_readSum_6 (q := 7) rfl li_i0 ?_
  refine g_istore_n X dX3_readSum_7 (q := 8) rfl (Nat.le_of_ble_eq_true rfl) (lv' := [(2, .int (0 : Int32)), (1, .int (0 : Int32)), (0, .ref (h 54))]) rfl ?_
  refine wg_sub [2, 1, 0] rfl (lpW3 (fun (a1 : Int32) (a2 : Int32) (s2 : ST) => WG (KC D cA cL h Z) p l e (rmD 10) st m args below meth c Q 3 s2 8 [(0, .ref (h 54)), (1, .int a1), (2, .int a2)] []) (fun rec1 ih1 a1 a2 s2 hs => ?_) _ _ _ _ hs)
  refine g_iload_n X dX3_readSum_8 (q := 9) rfl 2 rfl ?_
  refine g_sipush X dX3_readSum_9 (q := 12) rfl li_s400 ?_
  refine g_icmp_ge X dX3_readSum_12 (q := 15) rfl (tgt := 160) (by decide) hs ?_ ?_
  · intro hs
    exact RI _ 160 _ (Option.some.inj hs) dX3_readSum_160
  · intro hs
    refine g_aload_n X dX3_readSum_15 (q := 16) rfl 0 rfl ?_
    refine cg_3_0 X dX3_readSum_16 (q := 19) rfl sh_54 lf_X3_18 ?_
    refine g_bipush X dX3_readSum_19 (q := 21) rfl li_b42 ?_
    refine vc_X5_takesSign_X3 hZ X dX3_readSum_21 (q := 24) rfl (Nat.le_of_ble_eq_true rfl) (Nat.le_of_ble_eq_true rfl) (Nat.le_of_ble_eq_true rfl) hs (fun y1 hs => ?_)
    refine jnW2 (fun (a3 : Int32) (s3 : ST) => WG (KC D cA cL h Z) p l e (rmD 10) st m args below meth c Q 3 s3 154 [(0, .ref (h 54)), (1, .int a3), (2, .int a2)] []) hs (fun a3 s3 hs => ?_) (fun j1 ih2 hs => ?_)
    · refine g_iinc X dX3_readSum_154 (q := 157) rfl 2 rfl (v := (a2 + (1 : Int32))) (congrArg (HAdd.hAdd a2) li_i1) (Nat.le_of_ble_eq_true rfl) (lv' := [(2, .int (a2 + (1 : Int32))), (0, .ref (h 54)), (1, .int a3)]) rfl ?_
      refine g_goto X dX3_readSum_157 (tgt := 8) (by decide) ?_
      exact wg_sub [1, 2, 0] rfl (ih1 _ _ _ hs)
    refine g_if_eq X dX3_readSum_24 (q := 27) rfl (tgt := 46) (by decide) hs ?_ ?_
    · intro hs
      refine g_aload_n X dX3_readSum_46 (q := 47) rfl 0 rfl ?_
      refine cg_3_0 X dX3_readSum_47 (q := 50) rfl sh_54 lf_X3_18 ?_
      refine g_bipush X dX3_readSum_50 (q := 52) rfl li_b47 ?_
      refine vc_X5_takesSign_X3 hZ X dX3_readSum_52 (q := 55) rfl (Nat.le_of_ble_eq_true rfl) (Nat.le_of_ble_eq_true rfl) (Nat.le_of_ble_eq_true rfl) hs (fun y2 hs => ?_)
      refine g_if_eq X dX3_readSum_55 (q := 58) rfl (tgt := 94) (by decide) hs ?_ ?_
      · intro hs
        refine g_iload_n X dX3_readSum_94 (q := 95) rfl 1 rfl ?_
        refine jnW1 (fun (s4 : ST) => WG (KC D cA cL h Z) p l e (rmD 10) st m args below meth c Q 3 s4 109 [(0, .ref (h 54)), (2, .int a2)] []) hs (fun s4 hs => ?_) (fun j2 ih3 hs => ?_)
        · refine g_aload_n X dX3_readSum_109 (q := 110) rfl 0 rfl ?_
          refine cg_3_0 X dX3_readSum_110 (q := 113) rfl sh_54 lf_X3_18 ?_
          refine g_bipush X dX3_readSum_113 (q := 115) rfl li_b43 ?_
          refine vc_X5_takesSign_X3 hZ X dX3_readSum_115 (q := 118) rfl (Nat.le_of_ble_eq_true rfl) (Nat.le_of_ble_eq_true rfl) (Nat.le_of_ble_eq_true rfl) hs (fun y3 hs => ?_)
          refine jnW2 (fun (a4 : Int32) (s5 : ST) => WG (KC D cA cL h Z) p l e (rmD 10) st m args below meth c Q 3 s5 144 [(0, .ref (h 54)), (2, .int a2)] [.int a4]) hs (fun a4 s5 hs => ?_) (fun j3 ih4 hs => ?_)
          · refine g_istore_n X dX3_readSum_144 (q := 145) rfl (Nat.le_of_ble_eq_true rfl) (lv' := [(1, .int a4), (0, .ref (h 54)), (2, .int a2)]) rfl ?_
            refine g_iload_n X dX3_readSum_145 (q := 146) rfl 0 rfl ?_
            refine g_if_ne X dX3_readSum_146 (q := 149) rfl (tgt := 150) (by decide) hs ?_ ?_
            · intro hs
              refine g_aload_n X dX3_readSum_150 (q := 151) rfl 1 rfl ?_
              refine vc_X3_readUnit_X3 hZ X dX3_readSum_151 (q := 154) rfl (Nat.le_of_ble_eq_true rfl) (Nat.le_of_ble_eq_true rfl) (Nat.le_of_ble_eq_true rfl) hs (fun s6 hs => ?_)
              exact wg_sub [1, 0, 2] rfl (ih2 _ _ hs)
            · intro hs
              exact RI _ 149 _ (Option.some.inj hs) dX3_readSum_149
          refine g_if_eq X dX3_readSum_118 (q := 121) rfl (tgt := 126) (by decide) hs ?_ ?_
          · intro hs
            refine g_aload_n X dX3_readSum_126 (q := 127) rfl 0 rfl ?_
            refine cg_3_0 X dX3_readSum_127 (q := 130) rfl sh_54 lf_X3_18 ?_
            refine g_bipush X dX3_readSum_130 (q := 132) rfl li_b45 ?_
            refine vc_X5_takesSign_X3 hZ X dX3_readSum_132 (q := 135) rfl (Nat.le_of_ble_eq_true rfl) (Nat.le_of_ble_eq_true rfl) (Nat.le_of_ble_eq_true rfl) hs (fun y4 hs => ?_)
            refine g_if_eq X dX3_readSum_135 (q := 138) rfl (tgt := 143) (by decide) hs ?_ ?_
            · intro hs
              refine g_iconst X dX3_readSum_143 (q := 144) rfl li_i0 ?_
              exact wg_sub [0, 1] rfl (ih4 _ _ hs)
            · intro hs
              refine g_bipush X dX3_readSum_138 (q := 140) rfl li_bm10 ?_
              refine g_goto X dX3_readSum_140 (tgt := 144) (by decide) ?_
              exact wg_sub [0, 1] rfl (ih4 _ _ hs)
          · intro hs
            refine g_bipush X dX3_readSum_121 (q := 123) rfl li_bm9 ?_
            refine g_goto X dX3_readSum_123 (tgt := 144) (by decide) ?_
            exact wg_sub [0, 1] rfl (ih4 _ _ hs)
        refine g_if_eq X dX3_readSum_95 (q := 98) rfl (tgt := 109) (by decide) hs ?_ ?_
        · intro hs
          exact wg_sub [0, 2] rfl (ih3 _ hs)
        · intro hs
          refine g_aload_n X dX3_readSum_98 (q := 99) rfl 0 rfl ?_
          refine cg_3_3 X dX3_readSum_99 (q := 102) rfl sh_54 lf_X3_12 ?_
          refine cgN_7_2 hZ X dX3_readSum_102 (q := 105) rfl sh_55 lf_X3_155 ?_
          refine g_iload_n X dX3_readSum_105 (q := 106) rfl 1 rfl ?_
          refine vc_X2_emit_X3 hZ X dX3_readSum_106 (q := 109) rfl (Nat.le_of_ble_eq_true rfl) (Nat.le_of_ble_eq_true rfl) (Nat.le_of_ble_eq_true rfl) hs (fun s7 hs => ?_)
          exact wg_sub [0, 2] rfl (ih3 _ hs)
      · intro hs
        refine g_aload_n X dX3_readSum_58 (q := 59) rfl 0 rfl ?_
        refine cg_3_3 X dX3_readSum_59 (q := 62) rfl sh_54 lf_X3_12 ?_
        refine cgN_7_2 hZ X dX3_readSum_62 (q := 65) rfl sh_55 lf_X3_155 ?_
        refine g_aload_n X dX3_readSum_65 (q := 66) rfl 0 rfl ?_
        refine cg_3_0 X dX3_readSum_66 (q := 69) rfl sh_54 lf_X3_18 ?_
        refine g_iconst X dX3_readSum_69 (q := 70) rfl li_i1 ?_
        refine g_sipush X dX3_readSum_70 (q := 73) rfl li_s9999 ?_
        refine vc_X5_needNumber_X3 hZ X dX3_readSum_73 (q := 76) rfl (Nat.le_of_ble_eq_true rfl) (Nat.le_of_ble_eq_true rfl) (Nat.le_of_ble_eq_true rfl) hs (fun y5 hs => ?_)
        refine vc_X2_emit_X3 hZ X dX3_readSum_76 (q := 79) rfl (Nat.le_of_ble_eq_true rfl) (Nat.le_of_ble_eq_true rfl) (Nat.le_of_ble_eq_true rfl) hs (fun s8 hs => ?_)
        refine g_aload_n X dX3_readSum_79 (q := 80) rfl 0 rfl ?_
        refine cg_3_3 X dX3_readSum_80 (q := 83) rfl sh_54 lf_X3_12 ?_
        refine cgN_7_2 hZ X dX3_readSum_83 (q := 86) rfl sh_55 lf_X3_155 ?_
        refine g_bipush X dX3_readSum_86 (q := 88) rfl li_bm12 ?_
        refine vc_X2_emit_X3 hZ X dX3_readSum_88 (q := 91) rfl (Nat.le_of_ble_eq_true rfl) (Nat.le_of_ble_eq_true rfl) (Nat.le_of_ble_eq_true rfl) hs (fun s9 hs => ?_)
        refine g_goto X dX3_readSum_91 (tgt := 154) (by decide) ?_
        exact wg_sub [0, 1, 2] rfl (ih2 _ _ hs)
    · intro hs
      refine g_aload_n X dX3_readSum_27 (q := 28) rfl 0 rfl ?_
      refine vc_X3_readUnit_X3 hZ X dX3_readSum_28 (q := 31) rfl (Nat.le_of_ble_eq_true rfl) (Nat.le_of_ble_eq_true rfl) (Nat.le_of_ble_eq_true rfl) hs (fun s10 hs => ?_)
      refine g_aload_n X dX3_readSum_31 (q := 32) rfl 0 rfl ?_
      refine cg_3_3 X dX3_readSum_32 (q := 35) rfl sh_54 lf_X3_12 ?_
      refine cgN_7_2 hZ X dX3_readSum_35 (q := 38) rfl sh_55 lf_X3_155 ?_
      refine g_bipush X dX3_readSum_38 (q := 40) rfl li_bm11 ?_
      refine vc_X2_emit_X3 hZ X dX3_readSum_40 (q := 43) rfl (Nat.le_of_ble_eq_true rfl) (Nat.le_of_ble_eq_true rfl) (Nat.le_of_ble_eq_true rfl) hs (fun s11 hs => ?_)
      refine g_goto X dX3_readSum_43 (tgt := 154) (by decide) ?_
      exact wg_sub [0, 1, 2] rfl (ih2 _ _ hs)
theorem dX3_takeComparison_0 : decode cX3_takeComparison 0 = .ok (.aload_n 0, 1) := by decide +kernel
theorem dX3_takeComparison_1 : decode cX3_takeComparison 1 = .ok (.getfield 18, 3) := by decide +kernel
theorem dX3_takeComparison_4 : decode cX3_takeComparison 4 = .ok (.bipush 60, 2) := by decide +kernel
theorem dX3_takeComparison_6 : decode cX3_takeComparison 6 = .ok (.invokevirtual 186, 3) := by decide +kernel
theorem dX3_takeComparison_9 : decode cX3_takeComparison 9 = .ok (.ifCond .eq 6, 3) := by decide +kernel
theorem dX3_takeComparison_12 : decode cX3_takeComparison 12 = .ok (.bipush (-13), 2) := by decide +kernel
theorem dX3_takeComparison_14 : decode cX3_takeComparison 14 = .ok (.ireturn, 1) := by decide +kernel
theorem dX3_takeComparison_15 : decode cX3_takeComparison 15 = .ok (.aload_n 0, 1) := by decide +kernel
theorem dX3_takeComparison_16 : decode cX3_takeComparison 16 = .ok (.getfield 18, 3) := by decide +kernel
theorem dX3_takeComparison_19 : decode cX3_takeComparison 19 = .ok (.bipush 61, 2) := by decide +kernel
theorem dX3_takeComparison_21 : decode cX3_takeComparison 21 = .ok (.invokevirtual 186, 3) := by decide +kernel
theorem dX3_takeComparison_24 : decode cX3_takeComparison 24 = .ok (.ifCond .eq 6, 3) := by decide +kernel
theorem dX3_takeComparison_27 : decode cX3_takeComparison 27 = .ok (.bipush (-14), 2) := by decide +kernel
theorem dX3_takeComparison_29 : decode cX3_takeComparison 29 = .ok (.ireturn, 1) := by decide +kernel
theorem dX3_takeComparison_30 : decode cX3_takeComparison 30 = .ok (.aload_n 0, 1) := by decide +kernel
theorem dX3_takeComparison_31 : decode cX3_takeComparison 31 = .ok (.getfield 18, 3) := by decide +kernel
theorem dX3_takeComparison_34 : decode cX3_takeComparison 34 = .ok (.bipush 62, 2) := by decide +kernel
theorem dX3_takeComparison_36 : decode cX3_takeComparison 36 = .ok (.invokevirtual 88, 3) := by decide +kernel
theorem dX3_takeComparison_39 : decode cX3_takeComparison 39 = .ok (.bipush (-15), 2) := by decide +kernel
theorem dX3_takeComparison_41 : decode cX3_takeComparison 41 = .ok (.ireturn, 1) := by decide +kernel
def C_X3_takeComparison (s : ST) : Option (Int32 × ST) := Bd (C_X5_takesSign s (60 : Int32)) fun y1 => if y1.1 = 0 then (Bd (C_X5_takesSign y1.2 (61 : Int32)) fun y2 => if y2.1 = 0 then (Bd (C_X5_needSign y2.2 (62 : Int32)) fun s1 => some ((-15 : Int32), s1)) else (some ((-14 : Int32), y2.2))) else (some ((-13 : Int32), y1.2))
set_option maxRecDepth 100000 in
set_option maxHeartbeats 4000000 in
theorem k_X3_takeComparison {h : Nat → Nat} {Z : State → Heap → Prop} {sa : Nat → Nat} (hZ : ZK h Z sa) (l : Launch) (D : va_G) (cA cL : ClassId) (s : ST) {o : Int32 × ST} (hs : C_X3_takeComparison s = some o) : MI l (KC D cA cL h Z) 4 yX3_takeComparison cX3_takeComparison 1 (some .int) s [.ref (h 54)] o.1 o.2 := by
  refine met_i (by decide) (Nat.le_of_ble_eq_true rfl) ?_
  intro p e st m args below meth c Q X RI
  unfold C_X3_takeComparison at hs
  refine g_aload_n X dX3_takeComparison_0 (q := 1) rfl 0 rfl ?_
  refine cg_3_0 X dX3_takeComparison_1 (q := 4) rfl sh_54 lf_X3_18 ?_
  refine g_bipush X dX3_takeComparison_4 (q := 6) rfl li_b60 ?_
  refine vc_X5_takesSign_X3 hZ X dX3_takeComparison_6 (q := 9) rfl (Nat.le_of_ble_eq_true rfl) (Nat.le_of_ble_eq_true rfl) (Nat.le_of_ble_eq_true rfl) hs (fun y1 hs => ?_)
  refine g_if_eq X dX3_takeComparison_9 (q := 12) rfl (tgt := 15) (by decide) hs ?_ ?_
  · intro hs
    refine g_aload_n X dX3_takeComparison_15 (q := 16) rfl 0 rfl ?_
    refine cg_3_0 X dX3_takeComparison_16 (q := 19) rfl sh_54 lf_X3_18 ?_
    refine g_bipush X dX3_takeComparison_19 (q := 21) rfl li_b61 ?_
    refine vc_X5_takesSign_X3 hZ X dX3_takeComparison_21 (q := 24) rfl (Nat.le_of_ble_eq_true rfl) (Nat.le_of_ble_eq_true rfl) (Nat.le_of_ble_eq_true rfl) hs (fun y2 hs => ?_)
    refine g_if_eq X dX3_takeComparison_24 (q := 27) rfl (tgt := 30) (by decide) hs ?_ ?_
    · intro hs
      refine g_aload_n X dX3_takeComparison_30 (q := 31) rfl 0 rfl ?_
      refine cg_3_0 X dX3_takeComparison_31 (q := 34) rfl sh_54 lf_X3_18 ?_
      refine g_bipush X dX3_takeComparison_34 (q := 36) rfl li_b62 ?_
      refine vc_X5_needSign_X3 hZ X dX3_takeComparison_36 (q := 39) rfl (Nat.le_of_ble_eq_true rfl) (Nat.le_of_ble_eq_true rfl) (Nat.le_of_ble_eq_true rfl) hs (fun s1 hs => ?_)
      refine g_bipush X dX3_takeComparison_39 (q := 41) rfl li_bm15 ?_
      exact RI _ 41 _ _ _ (rU1 hs) rfl (rV1 hs) dX3_takeComparison_41
    · intro hs
      refine g_bipush X dX3_takeComparison_27 (q := 29) rfl li_bm14 ?_
      exact RI _ 29 _ _ _ (rU1 hs) rfl (rV1 hs) dX3_takeComparison_29
  · intro hs
    refine g_bipush X dX3_takeComparison_12 (q := 14) rfl li_bm13 ?_
    exact RI _ 14 _ _ _ (rU1 hs) rfl (rV1 hs) dX3_takeComparison_14
theorem dX5_hasRoom_0 : decode cX5_hasRoom 0 = .ok (.aload_n 0, 1) := by decide +kernel
theorem dX5_hasRoom_1 : decode cX5_hasRoom 1 = .ok (.getfield 31, 3) := by decide +kernel
theorem dX5_hasRoom_4 : decode cX5_hasRoom 4 = .ok (.iload_n 1, 1) := by decide +kernel
theorem dX5_hasRoom_5 : decode cX5_hasRoom 5 = .ok (.iadd, 1) := by decide +kernel
theorem dX5_hasRoom_6 : decode cX5_hasRoom 6 = .ok (.sipush 400, 3) := by decide +kernel
theorem dX5_hasRoom_9 : decode cX5_hasRoom 9 = .ok (.if_icmp .gt 7, 3) := by decide +kernel
theorem dX5_hasRoom_12 : decode cX5_hasRoom 12 = .ok (.iconst 1, 1) := by decide +kernel
theorem dX5_hasRoom_13 : decode cX5_hasRoom 13 = .ok (.goto 4, 3) := by decide +kernel
theorem dX5_hasRoom_16 : decode cX5_hasRoom 16 = .ok (.iconst 0, 1) := by decide +kernel
theorem dX5_hasRoom_17 : decode cX5_hasRoom 17 = .ok (.ireturn, 1) := by decide +kernel
def C_X5_hasRoom (s : ST) (x1 : Int32) : Int32 := if (400 : Int32) < ((s.1 49 1) + x1) then ((0 : Int32)) else ((1 : Int32))
set_option maxRecDepth 100000 in
set_option maxHeartbeats 4000000 in
theorem k_X5_hasRoom {h : Nat → Nat} {Z : State → Heap → Prop} {sa : Nat → Nat} (hZ : ZK h Z sa) (l : Launch) (D : va_G) (cA cL : ClassId) (s : ST) (x1 : Int32) : MI l (KC D cA cL h Z) 1 yX5_hasRoom cX5_hasRoom 2 (some .boolean) s [.ref (h 49), .int x1] (C_X5_hasRoom s x1) s := by
  refine met_i (by decide) (Nat.le_of_ble_eq_true rfl) ?_
  intro p e st m args below meth c Q X RI
  generalize hs : C_X5_hasRoom s x1 = o at RI
  unfold C_X5_hasRoom at hs
  refine g_aload_n X dX5_hasRoom_0 (q := 1) rfl 0 rfl ?_
  refine cg_5_1 X dX5_hasRoom_1 (q := 4) rfl sh_49 lf_X5_31 ?_
  refine g_iload_n X dX5_hasRoom_4 (q := 5) rfl 1 rfl ?_
  refine g_iadd X dX5_hasRoom_5 (q := 6) rfl ?_
  refine g_sipush X dX5_hasRoom_6 (q := 9) rfl li_s400 ?_
  refine g_icmp_gt X dX5_hasRoom_9 (q := 12) rfl (tgt := 16) (by decide) hs ?_ ?_
  · intro hs
    refine g_iconst X dX5_hasRoom_16 (q := 17) rfl li_i0 ?_
    exact RI _ 17 _ _ _ rfl rfl hs dX5_hasRoom_17
  · intro hs
    refine g_iconst X dX5_hasRoom_12 (q := 13) rfl li_i1 ?_
    refine g_goto X dX5_hasRoom_13 (tgt := 17) (by decide) ?_
    exact RI _ 17 _ _ _ rfl rfl hs dX5_hasRoom_17
theorem dX5_append_0 : decode cX5_append 0 = .ok (.aload_n 0, 1) := by decide +kernel
theorem dX5_append_1 : decode cX5_append 1 = .ok (.iconst 4, 1) := by decide +kernel
theorem dX5_append_2 : decode cX5_append 2 = .ok (.invokevirtual 34, 3) := by decide +kernel
theorem dX5_append_5 : decode cX5_append 5 = .ok (.ifCond .ne 4, 3) := by decide +kernel
theorem dX5_append_8 : decode cX5_append 8 = .ok (.return_, 1) := by decide +kernel
theorem dX5_append_9 : decode cX5_append 9 = .ok (.bipush 24, 2) := by decide +kernel
theorem dX5_append_11 : decode cX5_append 11 = .ok (.istore_n 2, 1) := by decide +kernel
theorem dX5_append_12 : decode cX5_append 12 = .ok (.iload_n 2, 1) := by decide +kernel
theorem dX5_append_13 : decode cX5_append 13 = .ok (.ifCond .lt 35, 3) := by decide +kernel
theorem dX5_append_16 : decode cX5_append 16 = .ok (.aload_n 0, 1) := by decide +kernel
theorem dX5_append_17 : decode cX5_append 17 = .ok (.getfield 9, 3) := by decide +kernel
theorem dX5_append_20 : decode cX5_append 20 = .ok (.aload_n 0, 1) := by decide +kernel
theorem dX5_append_21 : decode cX5_append 21 = .ok (.getfield 31, 3) := by decide +kernel
theorem dX5_append_24 : decode cX5_append 24 = .ok (.iload_n 1, 1) := by decide +kernel
theorem dX5_append_25 : decode cX5_append 25 = .ok (.iload_n 2, 1) := by decide +kernel
theorem dX5_append_26 : decode cX5_append 26 = .ok (.iushr, 1) := by decide +kernel
theorem dX5_append_27 : decode cX5_append 27 = .ok (.sipush 255, 3) := by decide +kernel
theorem dX5_append_30 : decode cX5_append 30 = .ok (.iand, 1) := by decide +kernel
theorem dX5_append_31 : decode cX5_append 31 = .ok (.iastore, 1) := by decide +kernel
theorem dX5_append_32 : decode cX5_append 32 = .ok (.aload_n 0, 1) := by decide +kernel
theorem dX5_append_33 : decode cX5_append 33 = .ok (.dup, 1) := by decide +kernel
theorem dX5_append_34 : decode cX5_append 34 = .ok (.getfield 31, 3) := by decide +kernel
theorem dX5_append_37 : decode cX5_append 37 = .ok (.iconst 1, 1) := by decide +kernel
theorem dX5_append_38 : decode cX5_append 38 = .ok (.iadd, 1) := by decide +kernel
theorem dX5_append_39 : decode cX5_append 39 = .ok (.putfield 31, 3) := by decide +kernel
theorem dX5_append_42 : decode cX5_append 42 = .ok (.iinc 2 (-8), 3) := by decide +kernel
theorem dX5_append_45 : decode cX5_append 45 = .ok (.goto (-33), 3) := by decide +kernel
theorem dX5_append_48 : decode cX5_append 48 = .ok (.return_, 1) := by decide +kernel
theorem wX5_hasRoom_X5 : GoodIn GT (wsV RX5 34 RX5 yX5_hasRoom (.code yX5_hasRoom cX5_hasRoom 2 (some .boolean) :: GT)) := gt_V (gt_of 648 (by decide +kernel) rfl) (gt_of 642 (by decide +kernel) rfl) (gt_of 11 (by decide +kernel) rfl) (gt_of 202 (by decide +kernel) rfl) (gt_of 643 (by decide +kernel) rfl)
theorem vc_X5_hasRoom_X5 {p : Program} {l : Launch} {e : Env} {st : State} {m : MethodId} {args : Array Value} {below : List Frame} {meth : Method} {c : Code} {Q : State → Prop} {nL : Nat} {cc : ByteArray} {s : ST} {pc q : Nat} {lv : List (Nat × Value)} {rest : List Value} {D : va_G} {cA cL : ClassId} {h : Nat → Nat} {Z : State → Heap → Prop} {sa : Nat → Nat} (hZ : ZK h Z sa) {d0 : Nat} (X : Cx (KC D cA cL h Z) p st m args meth c cc nL RX5) {x1 : Int32} (d : decode cc pc = .ok (.invokevirtual 34, 3)) (hq : pc + 3 = q) (hd1 : 1 + 1 ≤ d0) (hd2 : 8 + (2 + 11) + 100 * 1 ≤ 100 * d0) (hr : (rest.map fun v => v.category).sum ≤ 8) {B : Type} {f : Int32 → B} {r : B} (hs : Lt (C_X5_hasRoom s x1) f = r) (k : ∀ y, f y = r → WG (KC D cA cL h Z) p l e (rmD d0) st m args below meth c Q nL s q lv (.int y :: rest)) : WG (KC D cA cL h Z) p l e (rmD d0) st m args below meth c Q nL s pc lv (.int x1 :: .ref (h 49) :: rest) := by
  exact cV_I (K := KC D cA cL h Z) X 49 (n := 1) (k_X5_hasRoom hZ l D cA cL s x1) wX5_hasRoom_X5 ⟨hd1, hd2⟩ ⟨by decide, by decide, by decide +kernel⟩ (As := [.int x1]) rfl hr (sh_49).1 (fs := cF5 h 49 (s.1 49) (s.2 49)) (GC_5 (cA := cA) (cL := cL) sh_49 _ _) rfl rfl d hq (k _ hs)
def C_X5_append (s : ST) (x1 : Int32) : Option (ST) := Lt (C_X5_hasRoom s (4 : Int32)) fun y1 => if y1 = 0 then (some s) else (lpK2 (C := ST) (fun (rec1 : Int32 → ST → Option (ST)) (a1 : Int32) (s1 : ST) => if a1 < 0 then (some s1) else (Gs s1 50 400 (s1.1 49 1) ((iush x1 a1) &&& (255 : Int32)) fun s2 => Lt (ups s2 49 1 ((s2.1 49 1) + (1 : Int32))) fun s3 => rec1 (a1 + (-8 : Int32)) s3)) FU (24 : Int32) s)
set_option maxRecDepth 100000 in
set_option maxHeartbeats 4000000 in
theorem k_X5_append {h : Nat → Nat} {Z : State → Heap → Prop} {sa : Nat → Nat} (hZ : ZK h Z sa) (l : Launch) (D : va_G) (cA cL : ClassId) (s : ST) (x1 : Int32) {o : ST} (hs : C_X5_append s x1 = some o) : MV l (KC D cA cL h Z) 2 yX5_append cX5_append 3 none s [.ref (h 49), .int x1] o := by
  refine met_v (by decide) (Nat.le_of_ble_eq_true rfl) ?_
  intro p e st m args below meth c Q X RI
  unfold C_X5_append at hs
  refine g_aload_n X dX5_append_0 (q := 1) rfl 0 rfl ?_
  refine g_iconst X dX5_append_1 (q := 2) rfl li_i4 ?_
  refine vc_X5_hasRoom_X5 hZ X dX5_append_2 (q := 5) rfl (Nat.le_of_ble_eq_true rfl) (Nat.le_of_ble_eq_true rfl) (Nat.le_of_ble_eq_true rfl) hs (fun y1 hs => ?_)
  refine g_if_ne X dX5_append_5 (q := 8) rfl (tgt := 9) (by decide) hs ?_ ?_
  · intro hs
    refine g_bipush X dX5_append_9 (q := 11) rfl li_b24 ?_
    refine g_istore_n X dX5_append_11 (q := 12) rfl (Nat.le_of_ble_eq_true rfl) (lv' := [(2, .int (24 : Int32)), (0, .ref (h 49)), (1, .int x1)]) rfl ?_
    refine wg_sub [1, 2, 0] rfl (lpW2 (fun (a1 : Int32) (s1 : ST) => WG (KC D cA cL h Z) p l e (rmD 2) st m args below meth c Q 3 s1 12 [(0, .ref (h 49)), (1, .int x1), (2, .int a1)] []) (fun rec1 ih1 a1 s1 hs => ?_) _ _ _ hs)
    refine g_iload_n X dX5_append_12 (q := 13) rfl 2 rfl ?_
    refine g_if_lt X dX5_append_13 (q := 16) rfl (tgt := 48) (by decide) hs ?_ ?_
    · intro hs
      exact RI _ 48 _ (Option.some.inj hs) dX5_append_48
    · intro hs
      refine g_aload_n X dX5_append_16 (q := 17) rfl 0 rfl ?_
      refine cg_5_0 X dX5_append_17 (q := 20) rfl sh_49 lf_X5_9 ?_
      refine g_aload_n X dX5_append_20 (q := 21) rfl 0 rfl ?_
      refine cg_5_1 X dX5_append_21 (q := 24) rfl sh_49 lf_X5_31 ?_
      refine g_iload_n X dX5_append_24 (q := 25) rfl 1 rfl ?_
      refine g_iload_n X dX5_append_25 (q := 26) rfl 2 rfl ?_
      refine g_iushr X dX5_append_26 (q := 27) rfl ?_
      refine g_sipush X dX5_append_27 (q := 30) rfl li_s255 ?_
      refine g_iand X dX5_append_30 (q := 31) rfl ?_
      refine ca_st X dX5_append_31 (q := 32) rfl 50 sh_50 rfl hs (fun s2 hs => ?_)
      refine g_aload_n X dX5_append_32 (q := 33) rfl 0 rfl ?_
      refine g_dup X dX5_append_33 (q := 34) rfl rfl ?_
      refine cg_5_1 X dX5_append_34 (q := 37) rfl sh_49 lf_X5_31 ?_
      refine g_iconst X dX5_append_37 (q := 38) rfl li_i1 ?_
      refine g_iadd X dX5_append_38 (q := 39) rfl ?_
      refine cp_5_1 X dX5_append_39 (q := 42) rfl sh_49 lf_X5_31 hs (fun s3 hs => ?_)
      refine g_iinc X dX5_append_42 (q := 45) rfl 2 rfl (v := (a1 + (-8 : Int32))) (congrArg (HAdd.hAdd a1) li_im8) (Nat.le_of_ble_eq_true rfl) (lv' := [(2, .int (a1 + (-8 : Int32))), (0, .ref (h 49)), (1, .int x1)]) rfl ?_
      refine g_goto X dX5_append_45 (tgt := 12) (by decide) ?_
      exact wg_sub [1, 2, 0] rfl (ih1 _ _ hs)
  · intro hs
    exact RI _ 8 _ (Option.some.inj hs) dX5_append_8
theorem dX5_sortOf_0 : decode cX5_sortOf 0 = .ok (.iload_n 0, 1) := by decide +kernel
theorem dX5_sortOf_1 : decode cX5_sortOf 1 = .ok (.bipush 32, 2) := by decide +kernel
theorem dX5_sortOf_3 : decode cX5_sortOf 3 = .ok (.if_icmp .eq 9, 3) := by decide +kernel
theorem dX5_sortOf_6 : decode cX5_sortOf 6 = .ok (.iload_n 0, 1) := by decide +kernel
theorem dX5_sortOf_7 : decode cX5_sortOf 7 = .ok (.bipush 10, 2) := by decide +kernel
theorem dX5_sortOf_9 : decode cX5_sortOf 9 = .ok (.if_icmp .ne 5, 3) := by decide +kernel
theorem dX5_sortOf_12 : decode cX5_sortOf 12 = .ok (.iconst 4, 1) := by decide +kernel
theorem dX5_sortOf_13 : decode cX5_sortOf 13 = .ok (.ireturn, 1) := by decide +kernel
theorem dX5_sortOf_14 : decode cX5_sortOf 14 = .ok (.iload_n 0, 1) := by decide +kernel
theorem dX5_sortOf_15 : decode cX5_sortOf 15 = .ok (.bipush 48, 2) := by decide +kernel
theorem dX5_sortOf_17 : decode cX5_sortOf 17 = .ok (.if_icmp .lt 11, 3) := by decide +kernel
theorem dX5_sortOf_20 : decode cX5_sortOf 20 = .ok (.iload_n 0, 1) := by decide +kernel
theorem dX5_sortOf_21 : decode cX5_sortOf 21 = .ok (.bipush 57, 2) := by decide +kernel
theorem dX5_sortOf_23 : decode cX5_sortOf 23 = .ok (.if_icmp .gt 5, 3) := by decide +kernel
theorem dX5_sortOf_26 : decode cX5_sortOf 26 = .ok (.iconst 2, 1) := by decide +kernel
theorem dX5_sortOf_27 : decode cX5_sortOf 27 = .ok (.ireturn, 1) := by decide +kernel
theorem dX5_sortOf_28 : decode cX5_sortOf 28 = .ok (.iload_n 0, 1) := by decide +kernel
theorem dX5_sortOf_29 : decode cX5_sortOf 29 = .ok (.bipush 97, 2) := by decide +kernel
theorem dX5_sortOf_31 : decode cX5_sortOf 31 = .ok (.if_icmp .lt 9, 3) := by decide +kernel
theorem dX5_sortOf_34 : decode cX5_sortOf 34 = .ok (.iload_n 0, 1) := by decide +kernel
theorem dX5_sortOf_35 : decode cX5_sortOf 35 = .ok (.bipush 122, 2) := by decide +kernel
theorem dX5_sortOf_37 : decode cX5_sortOf 37 = .ok (.if_icmp .le 15, 3) := by decide +kernel
theorem dX5_sortOf_40 : decode cX5_sortOf 40 = .ok (.iload_n 0, 1) := by decide +kernel
theorem dX5_sortOf_41 : decode cX5_sortOf 41 = .ok (.bipush 65, 2) := by decide +kernel
theorem dX5_sortOf_43 : decode cX5_sortOf 43 = .ok (.if_icmp .lt 13, 3) := by decide +kernel
theorem dX5_sortOf_46 : decode cX5_sortOf 46 = .ok (.iload_n 0, 1) := by decide +kernel
theorem dX5_sortOf_47 : decode cX5_sortOf 47 = .ok (.bipush 90, 2) := by decide +kernel
theorem dX5_sortOf_49 : decode cX5_sortOf 49 = .ok (.if_icmp .gt 7, 3) := by decide +kernel
theorem dX5_sortOf_52 : decode cX5_sortOf 52 = .ok (.iconst 1, 1) := by decide +kernel
theorem dX5_sortOf_53 : decode cX5_sortOf 53 = .ok (.goto 4, 3) := by decide +kernel
theorem dX5_sortOf_56 : decode cX5_sortOf 56 = .ok (.iconst 3, 1) := by decide +kernel
theorem dX5_sortOf_57 : decode cX5_sortOf 57 = .ok (.ireturn, 1) := by decide +kernel
def C_X5_sortOf (s : ST) (x1 : Int32) : Int32 := if x1 = (32 : Int32) then ((4 : Int32)) else (if x1 = (10 : Int32) then ((4 : Int32)) else (Lt (Lt ((1 : Int32) : Int32) fun j2 => Lt (if x1 < (65 : Int32) then ((3 : Int32)) else (if (90 : Int32) < x1 then ((3 : Int32)) else (j2)) : Int32) fun j3 => if x1 < (97 : Int32) then (j3) else (if x1 ≤ (122 : Int32) then (j2) else (j3)) : Int32) fun j1 => if x1 < (48 : Int32) then (j1) else (if (57 : Int32) < x1 then (j1) else ((2 : Int32)))))
set_option maxRecDepth 100000 in
set_option maxHeartbeats 4000000 in
theorem k_X5_sortOf {h : Nat → Nat} {Z : State → Heap → Prop} {sa : Nat → Nat} (hZ : ZK h Z sa) (l : Launch) (D : va_G) (cA cL : ClassId) (s : ST) (x1 : Int32) : MI l (KC D cA cL h Z) 1 yX5_sortOf cX5_sortOf 1 (some .int) s [.int x1] (C_X5_sortOf s x1) s := by
  refine met_i (by decide) (Nat.le_of_ble_eq_true rfl) ?_
  intro p e st m args below meth c Q X RI
  generalize hs : C_X5_sortOf s x1 = o at RI
  unfold C_X5_sortOf at hs
  refine g_iload_n X dX5_sortOf_0 (q := 1) rfl 0 rfl ?_
  refine g_bipush X dX5_sortOf_1 (q := 3) rfl li_b32 ?_
  refine g_icmp_eq X dX5_sortOf_3 (q := 6) rfl (tgt := 12) (by decide) hs ?_ ?_
  · intro hs
    refine g_iconst X dX5_sortOf_12 (q := 13) rfl li_i4 ?_
    exact RI _ 13 _ _ _ rfl rfl hs dX5_sortOf_13
  · intro hs
    refine g_iload_n X dX5_sortOf_6 (q := 7) rfl 0 rfl ?_
    refine g_bipush X dX5_sortOf_7 (q := 9) rfl li_b10 ?_
    refine g_icmp_ne X dX5_sortOf_9 (q := 12) rfl (tgt := 14) (by decide) hs ?_ ?_
    · intro hs
      refine g_iload_n X dX5_sortOf_14 (q := 15) rfl 0 rfl ?_
      refine g_bipush X dX5_sortOf_15 (q := 17) rfl li_b48 ?_
      refine jnW0 (WG (KC D cA cL h Z) p l e (rmD 1) st m args below meth c Q 1 s 28 [(0, .int x1)] []) hs (fun  hs => ?_) (fun j1 ih1 hs => ?_)
      · refine g_iload_n X dX5_sortOf_28 (q := 29) rfl 0 rfl ?_
        refine g_bipush X dX5_sortOf_29 (q := 31) rfl li_b97 ?_
        refine jnW0 (WG (KC D cA cL h Z) p l e (rmD 1) st m args below meth c Q 1 s 52 [] []) hs (fun  hs => ?_) (fun j2 ih2 hs => ?_)
        · refine g_iconst X dX5_sortOf_52 (q := 53) rfl li_i1 ?_
          refine g_goto X dX5_sortOf_53 (tgt := 57) (by decide) ?_
          exact RI _ 57 _ _ _ rfl rfl hs dX5_sortOf_57
        refine jnW0 (WG (KC D cA cL h Z) p l e (rmD 1) st m args below meth c Q 1 s 40 [(0, .int x1)] []) hs (fun  hs => ?_) (fun j3 ih3 hs => ?_)
        · refine g_iload_n X dX5_sortOf_40 (q := 41) rfl 0 rfl ?_
          refine g_bipush X dX5_sortOf_41 (q := 43) rfl li_b65 ?_
          refine g_icmp_lt X dX5_sortOf_43 (q := 46) rfl (tgt := 56) (by decide) hs ?_ ?_
          · intro hs
            refine g_iconst X dX5_sortOf_56 (q := 57) rfl li_i3 ?_
            exact RI _ 57 _ _ _ rfl rfl hs dX5_sortOf_57
          · intro hs
            refine g_iload_n X dX5_sortOf_46 (q := 47) rfl 0 rfl ?_
            refine g_bipush X dX5_sortOf_47 (q := 49) rfl li_b90 ?_
            refine g_icmp_gt X dX5_sortOf_49 (q := 52) rfl (tgt := 56) (by decide) hs ?_ ?_
            · intro hs
              refine g_iconst X dX5_sortOf_56 (q := 57) rfl li_i3 ?_
              exact RI _ 57 _ _ _ rfl rfl hs dX5_sortOf_57
            · intro hs
              exact wg_sub [] rfl (ih2 hs)
        refine g_icmp_lt X dX5_sortOf_31 (q := 34) rfl (tgt := 40) (by decide) hs ?_ ?_
        · intro hs
          exact wg_sub [0] rfl (ih3 hs)
        · intro hs
          refine g_iload_n X dX5_sortOf_34 (q := 35) rfl 0 rfl ?_
          refine g_bipush X dX5_sortOf_35 (q := 37) rfl li_b122 ?_
          refine g_icmp_le X dX5_sortOf_37 (q := 40) rfl (tgt := 52) (by decide) hs ?_ ?_
          · intro hs
            exact wg_sub [] rfl (ih2 hs)
          · intro hs
            exact wg_sub [0] rfl (ih3 hs)
      refine g_icmp_lt X dX5_sortOf_17 (q := 20) rfl (tgt := 28) (by decide) hs ?_ ?_
      · intro hs
        exact wg_sub [0] rfl (ih1 hs)
      · intro hs
        refine g_iload_n X dX5_sortOf_20 (q := 21) rfl 0 rfl ?_
        refine g_bipush X dX5_sortOf_21 (q := 23) rfl li_b57 ?_
        refine g_icmp_gt X dX5_sortOf_23 (q := 26) rfl (tgt := 28) (by decide) hs ?_ ?_
        · intro hs
          exact wg_sub [0] rfl (ih1 hs)
        · intro hs
          refine g_iconst X dX5_sortOf_26 (q := 27) rfl li_i2 ?_
          exact RI _ 27 _ _ _ rfl rfl hs dX5_sortOf_27
    · intro hs
      refine g_iconst X dX5_sortOf_12 (q := 13) rfl li_i4 ?_
      exact RI _ 13 _ _ _ rfl rfl hs dX5_sortOf_13
theorem dX5_numberOf_0 : decode cX5_numberOf 0 = .ok (.iload_n 2, 1) := by decide +kernel
theorem dX5_numberOf_1 : decode cX5_numberOf 1 = .ok (.iload_n 1, 1) := by decide +kernel
theorem dX5_numberOf_2 : decode cX5_numberOf 2 = .ok (.isub, 1) := by decide +kernel
theorem dX5_numberOf_3 : decode cX5_numberOf 3 = .ok (.iconst 4, 1) := by decide +kernel
theorem dX5_numberOf_4 : decode cX5_numberOf 4 = .ok (.if_icmp .le 5, 3) := by decide +kernel
theorem dX5_numberOf_7 : decode cX5_numberOf 7 = .ok (.iconst (-1), 1) := by decide +kernel
theorem dX5_numberOf_8 : decode cX5_numberOf 8 = .ok (.ireturn, 1) := by decide +kernel
theorem dX5_numberOf_9 : decode cX5_numberOf 9 = .ok (.iconst 0, 1) := by decide +kernel
theorem dX5_numberOf_10 : decode cX5_numberOf 10 = .ok (.istore_n 3, 1) := by decide +kernel
theorem dX5_numberOf_11 : decode cX5_numberOf 11 = .ok (.iload_n 1, 1) := by decide +kernel
theorem dX5_numberOf_12 : decode cX5_numberOf 12 = .ok (.istore 4, 2) := by decide +kernel
theorem dX5_numberOf_14 : decode cX5_numberOf 14 = .ok (.iload 4, 2) := by decide +kernel
theorem dX5_numberOf_16 : decode cX5_numberOf 16 = .ok (.iload_n 2, 1) := by decide +kernel
theorem dX5_numberOf_17 : decode cX5_numberOf 17 = .ok (.if_icmp .ge 33, 3) := by decide +kernel
theorem dX5_numberOf_20 : decode cX5_numberOf 20 = .ok (.iload 4, 2) := by decide +kernel
theorem dX5_numberOf_22 : decode cX5_numberOf 22 = .ok (.sipush 400, 3) := by decide +kernel
theorem dX5_numberOf_25 : decode cX5_numberOf 25 = .ok (.if_icmp .ge 25, 3) := by decide +kernel
theorem dX5_numberOf_28 : decode cX5_numberOf 28 = .ok (.bipush 10, 2) := by decide +kernel
theorem dX5_numberOf_30 : decode cX5_numberOf 30 = .ok (.iload_n 3, 1) := by decide +kernel
theorem dX5_numberOf_31 : decode cX5_numberOf 31 = .ok (.imul, 1) := by decide +kernel
theorem dX5_numberOf_32 : decode cX5_numberOf 32 = .ok (.aload_n 0, 1) := by decide +kernel
theorem dX5_numberOf_33 : decode cX5_numberOf 33 = .ok (.getfield 9, 3) := by decide +kernel
theorem dX5_numberOf_36 : decode cX5_numberOf 36 = .ok (.iload 4, 2) := by decide +kernel
theorem dX5_numberOf_38 : decode cX5_numberOf 38 = .ok (.iaload, 1) := by decide +kernel
theorem dX5_numberOf_39 : decode cX5_numberOf 39 = .ok (.iadd, 1) := by decide +kernel
theorem dX5_numberOf_40 : decode cX5_numberOf 40 = .ok (.bipush 48, 2) := by decide +kernel
theorem dX5_numberOf_42 : decode cX5_numberOf 42 = .ok (.isub, 1) := by decide +kernel
theorem dX5_numberOf_43 : decode cX5_numberOf 43 = .ok (.istore_n 3, 1) := by decide +kernel
theorem dX5_numberOf_44 : decode cX5_numberOf 44 = .ok (.iinc 4 1, 3) := by decide +kernel
theorem dX5_numberOf_47 : decode cX5_numberOf 47 = .ok (.goto (-33), 3) := by decide +kernel
theorem dX5_numberOf_50 : decode cX5_numberOf 50 = .ok (.iload_n 3, 1) := by decide +kernel
theorem dX5_numberOf_51 : decode cX5_numberOf 51 = .ok (.ireturn, 1) := by decide +kernel
def C_X5_numberOf (s : ST) (x1 : Int32) (x2 : Int32) : Option (Int32) := if (x2 - x1) ≤ (4 : Int32) then (lpK2 (C := Int32) (fun (rec1 : Int32 → Int32 → Option (Int32)) (a1 : Int32) (a2 : Int32) => if x2 ≤ a2 then (some a1) else (if (400 : Int32) ≤ a2 then (some a1) else (Gl s 50 400 a2 fun y1 => Lt (((((10 : Int32) * a1) + y1) - (48 : Int32))) fun y2 => rec1 y2 (a2 + (1 : Int32))))) FU (0 : Int32) x1) else (some (-1 : Int32))
set_option maxRecDepth 100000 in
set_option maxHeartbeats 4000000 in
theorem k_X5_numberOf {h : Nat → Nat} {Z : State → Heap → Prop} {sa : Nat → Nat} (hZ : ZK h Z sa) (l : Launch) (D : va_G) (cA cL : ClassId) (s : ST) (x1 : Int32) (x2 : Int32) {o : Int32} (hs : C_X5_numberOf s x1 x2 = some o) : MI l (KC D cA cL h Z) 1 yX5_numberOf cX5_numberOf 5 (some .int) s [.ref (h 49), .int x1, .int x2] o s := by
  refine met_i (by decide) (Nat.le_of_ble_eq_true rfl) ?_
  intro p e st m args below meth c Q X RI
  unfold C_X5_numberOf at hs
  refine g_iload_n X dX5_numberOf_0 (q := 1) rfl 2 rfl ?_
  refine g_iload_n X dX5_numberOf_1 (q := 2) rfl 1 rfl ?_
  refine g_isub X dX5_numberOf_2 (q := 3) rfl ?_
  refine g_iconst X dX5_numberOf_3 (q := 4) rfl li_i4 ?_
  refine g_icmp_le X dX5_numberOf_4 (q := 7) rfl (tgt := 9) (by decide) hs ?_ ?_
  · intro hs
    refine g_iconst X dX5_numberOf_9 (q := 10) rfl li_i0 ?_
    refine g_istore_n X dX5_numberOf_10 (q := 11) rfl (Nat.le_of_ble_eq_true rfl) (lv' := [(3, .int (0 : Int32)), (0, .ref (h 49)), (1, .int x1), (2, .int x2)]) rfl ?_
    refine g_iload_n X dX5_numberOf_11 (q := 12) rfl 2 rfl ?_
    refine g_istore X dX5_numberOf_12 (q := 14) rfl (Nat.le_of_ble_eq_true rfl) (lv' := [(4, .int x1), (3, .int (0 : Int32)), (0, .ref (h 49)), (1, .int x1), (2, .int x2)]) rfl ?_
    refine wg_sub [2, 4, 1, 0] rfl (lpW2 (fun (a1 : Int32) (a2 : Int32) => WG (KC D cA cL h Z) p l e (rmD 1) st m args below meth c Q 5 s 14 [(0, .ref (h 49)), (2, .int x2), (3, .int a1), (4, .int a2)] []) (fun rec1 ih1 a1 a2 hs => ?_) _ _ _ hs)
    refine g_iload X dX5_numberOf_14 (q := 16) rfl 3 rfl ?_
    refine g_iload_n X dX5_numberOf_16 (q := 17) rfl 1 rfl ?_
    refine g_icmp_ge X dX5_numberOf_17 (q := 20) rfl (tgt := 50) (by decide) hs ?_ ?_
    · intro hs
      refine g_iload_n X dX5_numberOf_50 (q := 51) rfl 2 rfl ?_
      exact RI _ 51 _ _ _ rfl rfl (Option.some.inj hs) dX5_numberOf_51
    · intro hs
      refine g_iload X dX5_numberOf_20 (q := 22) rfl 3 rfl ?_
      refine g_sipush X dX5_numberOf_22 (q := 25) rfl li_s400 ?_
      refine g_icmp_ge X dX5_numberOf_25 (q := 28) rfl (tgt := 50) (by decide) hs ?_ ?_
      · intro hs
        refine g_iload_n X dX5_numberOf_50 (q := 51) rfl 2 rfl ?_
        exact RI _ 51 _ _ _ rfl rfl (Option.some.inj hs) dX5_numberOf_51
      · intro hs
        refine g_bipush X dX5_numberOf_28 (q := 30) rfl li_b10 ?_
        refine g_iload_n X dX5_numberOf_30 (q := 31) rfl 2 rfl ?_
        refine g_imul X dX5_numberOf_31 (q := 32) rfl ?_
        refine g_aload_n X dX5_numberOf_32 (q := 33) rfl 0 rfl ?_
        refine cg_5_0 X dX5_numberOf_33 (q := 36) rfl sh_49 lf_X5_9 ?_
        refine g_iload X dX5_numberOf_36 (q := 38) rfl 3 rfl ?_
        refine ca_ld X dX5_numberOf_38 (q := 39) rfl 50 sh_50 rfl hs (fun y1 hs => ?_)
        refine g_iadd X dX5_numberOf_39 (q := 40) rfl ?_
        refine g_bipush X dX5_numberOf_40 (q := 42) rfl li_b48 ?_
        refine g_isub X dX5_numberOf_42 (q := 43) rfl ?_
        refine nmI hs (fun y2 hs => ?_)
        refine g_istore_n X dX5_numberOf_43 (q := 44) rfl (Nat.le_of_ble_eq_true rfl) (lv' := [(3, .int y2), (0, .ref (h 49)), (2, .int x2), (4, .int a2)]) rfl ?_
        refine g_iinc X dX5_numberOf_44 (q := 47) rfl 3 rfl (v := (a2 + (1 : Int32))) (congrArg (HAdd.hAdd a2) li_i1) (Nat.le_of_ble_eq_true rfl) (lv' := [(4, .int (a2 + (1 : Int32))), (3, .int y2), (0, .ref (h 49)), (2, .int x2)]) rfl ?_
        refine g_goto X dX5_numberOf_47 (tgt := 14) (by decide) ?_
        exact wg_sub [2, 3, 1, 0] rfl (ih1 _ _ hs)
  · intro hs
    refine g_iconst X dX5_numberOf_7 (q := 8) rfl li_im1 ?_
    exact RI _ 8 _ _ _ rfl rfl (Option.some.inj hs) dX5_numberOf_8
theorem dX5_putToken_0 : decode cX5_putToken 0 = .ok (.aload_n 0, 1) := by decide +kernel
theorem dX5_putToken_1 : decode cX5_putToken 1 = .ok (.getfield 44, 3) := by decide +kernel
theorem dX5_putToken_4 : decode cX5_putToken 4 = .ok (.sipush 400, 3) := by decide +kernel
theorem dX5_putToken_7 : decode cX5_putToken 7 = .ok (.if_icmp .gt 43, 3) := by decide +kernel
theorem dX5_putToken_10 : decode cX5_putToken 10 = .ok (.aload_n 0, 1) := by decide +kernel
theorem dX5_putToken_11 : decode cX5_putToken 11 = .ok (.getfield 15, 3) := by decide +kernel
theorem dX5_putToken_14 : decode cX5_putToken 14 = .ok (.aload_n 0, 1) := by decide +kernel
theorem dX5_putToken_15 : decode cX5_putToken 15 = .ok (.getfield 44, 3) := by decide +kernel
theorem dX5_putToken_18 : decode cX5_putToken 18 = .ok (.iload_n 1, 1) := by decide +kernel
theorem dX5_putToken_19 : decode cX5_putToken 19 = .ok (.iastore, 1) := by decide +kernel
theorem dX5_putToken_20 : decode cX5_putToken 20 = .ok (.aload_n 0, 1) := by decide +kernel
theorem dX5_putToken_21 : decode cX5_putToken 21 = .ok (.getfield 18, 3) := by decide +kernel
theorem dX5_putToken_24 : decode cX5_putToken 24 = .ok (.aload_n 0, 1) := by decide +kernel
theorem dX5_putToken_25 : decode cX5_putToken 25 = .ok (.getfield 44, 3) := by decide +kernel
theorem dX5_putToken_28 : decode cX5_putToken 28 = .ok (.iload_n 2, 1) := by decide +kernel
theorem dX5_putToken_29 : decode cX5_putToken 29 = .ok (.iastore, 1) := by decide +kernel
theorem dX5_putToken_30 : decode cX5_putToken 30 = .ok (.aload_n 0, 1) := by decide +kernel
theorem dX5_putToken_31 : decode cX5_putToken 31 = .ok (.getfield 21, 3) := by decide +kernel
theorem dX5_putToken_34 : decode cX5_putToken 34 = .ok (.aload_n 0, 1) := by decide +kernel
theorem dX5_putToken_35 : decode cX5_putToken 35 = .ok (.getfield 44, 3) := by decide +kernel
theorem dX5_putToken_38 : decode cX5_putToken 38 = .ok (.iload_n 3, 1) := by decide +kernel
theorem dX5_putToken_39 : decode cX5_putToken 39 = .ok (.iastore, 1) := by decide +kernel
theorem dX5_putToken_40 : decode cX5_putToken 40 = .ok (.aload_n 0, 1) := by decide +kernel
theorem dX5_putToken_41 : decode cX5_putToken 41 = .ok (.dup, 1) := by decide +kernel
theorem dX5_putToken_42 : decode cX5_putToken 42 = .ok (.getfield 44, 3) := by decide +kernel
theorem dX5_putToken_45 : decode cX5_putToken 45 = .ok (.iconst 1, 1) := by decide +kernel
theorem dX5_putToken_46 : decode cX5_putToken 46 = .ok (.iadd, 1) := by decide +kernel
theorem dX5_putToken_47 : decode cX5_putToken 47 = .ok (.putfield 44, 3) := by decide +kernel
theorem dX5_putToken_50 : decode cX5_putToken 50 = .ok (.return_, 1) := by decide +kernel
def C_X5_putToken (s : ST) (x1 : Int32) (x2 : Int32) (x3 : Int32) : Option (ST) := if (400 : Int32) < (s.1 49 5) then (some s) else (Gs s 51 401 (s.1 49 5) x1 fun s1 => Gs s1 52 401 (s1.1 49 5) x2 fun s2 => Gs s2 53 401 (s2.1 49 5) x3 fun s3 => Lt (ups s3 49 5 ((s3.1 49 5) + (1 : Int32))) fun s4 => some s4)
set_option maxRecDepth 100000 in
set_option maxHeartbeats 4000000 in
theorem k_X5_putToken {h : Nat → Nat} {Z : State → Heap → Prop} {sa : Nat → Nat} (hZ : ZK h Z sa) (l : Launch) (D : va_G) (cA cL : ClassId) (s : ST) (x1 : Int32) (x2 : Int32) (x3 : Int32) {o : ST} (hs : C_X5_putToken s x1 x2 x3 = some o) : MV l (KC D cA cL h Z) 1 yX5_putToken cX5_putToken 4 none s [.ref (h 49), .int x1, .int x2, .int x3] o := by
  refine met_v (by decide) (Nat.le_of_ble_eq_true rfl) ?_
  intro p e st m args below meth c Q X RI
  unfold C_X5_putToken at hs
  refine g_aload_n X dX5_putToken_0 (q := 1) rfl 0 rfl ?_
  refine cg_5_5 X dX5_putToken_1 (q := 4) rfl sh_49 lf_X5_44 ?_
  refine g_sipush X dX5_putToken_4 (q := 7) rfl li_s400 ?_
  refine g_icmp_gt X dX5_putToken_7 (q := 10) rfl (tgt := 50) (by decide) hs ?_ ?_
  · intro hs
    exact RI _ 50 _ (Option.some.inj hs) dX5_putToken_50
  · intro hs
    refine g_aload_n X dX5_putToken_10 (q := 11) rfl 0 rfl ?_
    refine cg_5_2 X dX5_putToken_11 (q := 14) rfl sh_49 lf_X5_15 ?_
    refine g_aload_n X dX5_putToken_14 (q := 15) rfl 0 rfl ?_
    refine cg_5_5 X dX5_putToken_15 (q := 18) rfl sh_49 lf_X5_44 ?_
    refine g_iload_n X dX5_putToken_18 (q := 19) rfl 1 rfl ?_
    refine ca_st X dX5_putToken_19 (q := 20) rfl 51 sh_51 rfl hs (fun s1 hs => ?_)
    refine g_aload_n X dX5_putToken_20 (q := 21) rfl 0 rfl ?_
    refine cg_5_3 X dX5_putToken_21 (q := 24) rfl sh_49 lf_X5_18 ?_
    refine g_aload_n X dX5_putToken_24 (q := 25) rfl 0 rfl ?_
    refine cg_5_5 X dX5_putToken_25 (q := 28) rfl sh_49 lf_X5_44 ?_
    refine g_iload_n X dX5_putToken_28 (q := 29) rfl 2 rfl ?_
    refine ca_st X dX5_putToken_29 (q := 30) rfl 52 sh_52 rfl hs (fun s2 hs => ?_)
    refine g_aload_n X dX5_putToken_30 (q := 31) rfl 0 rfl ?_
    refine cg_5_4 X dX5_putToken_31 (q := 34) rfl sh_49 lf_X5_21 ?_
    refine g_aload_n X dX5_putToken_34 (q := 35) rfl 0 rfl ?_
    refine cg_5_5 X dX5_putToken_35 (q := 38) rfl sh_49 lf_X5_44 ?_
    refine g_iload_n X dX5_putToken_38 (q := 39) rfl 3 rfl ?_
    refine ca_st X dX5_putToken_39 (q := 40) rfl 53 sh_53 rfl hs (fun s3 hs => ?_)
    refine g_aload_n X dX5_putToken_40 (q := 41) rfl 0 rfl ?_
    refine g_dup X dX5_putToken_41 (q := 42) rfl rfl ?_
    refine cg_5_5 X dX5_putToken_42 (q := 45) rfl sh_49 lf_X5_44 ?_
    refine g_iconst X dX5_putToken_45 (q := 46) rfl li_i1 ?_
    refine g_iadd X dX5_putToken_46 (q := 47) rfl ?_
    refine cp_5_5 X dX5_putToken_47 (q := 50) rfl sh_49 lf_X5_44 hs (fun s4 hs => ?_)
    exact RI _ 50 _ (Option.some.inj hs) dX5_putToken_50
theorem dX5_begin_0 : decode cX5_begin 0 = .ok (.aload_n 0, 1) := by decide +kernel
theorem dX5_begin_1 : decode cX5_begin 1 = .ok (.iconst 0, 1) := by decide +kernel
theorem dX5_begin_2 : decode cX5_begin 2 = .ok (.putfield 38, 3) := by decide +kernel
theorem dX5_begin_5 : decode cX5_begin 5 = .ok (.aload_n 0, 1) := by decide +kernel
theorem dX5_begin_6 : decode cX5_begin 6 = .ok (.iconst (-1), 1) := by decide +kernel
theorem dX5_begin_7 : decode cX5_begin 7 = .ok (.putfield 28, 3) := by decide +kernel
theorem dX5_begin_10 : decode cX5_begin 10 = .ok (.aload_n 0, 1) := by decide +kernel
theorem dX5_begin_11 : decode cX5_begin 11 = .ok (.iconst 0, 1) := by decide +kernel
theorem dX5_begin_12 : decode cX5_begin 12 = .ok (.putfield 41, 3) := by decide +kernel
theorem dX5_begin_15 : decode cX5_begin 15 = .ok (.aload_n 0, 1) := by decide +kernel
theorem dX5_begin_16 : decode cX5_begin 16 = .ok (.iconst 0, 1) := by decide +kernel
theorem dX5_begin_17 : decode cX5_begin 17 = .ok (.putfield 44, 3) := by decide +kernel
theorem dX5_begin_20 : decode cX5_begin 20 = .ok (.iconst 0, 1) := by decide +kernel
theorem dX5_begin_21 : decode cX5_begin 21 = .ok (.istore_n 1, 1) := by decide +kernel
theorem dX5_begin_22 : decode cX5_begin 22 = .ok (.iconst 0, 1) := by decide +kernel
theorem dX5_begin_23 : decode cX5_begin 23 = .ok (.istore_n 2, 1) := by decide +kernel
theorem dX5_begin_24 : decode cX5_begin 24 = .ok (.iload_n 2, 1) := by decide +kernel
theorem dX5_begin_25 : decode cX5_begin 25 = .ok (.sipush 400, 3) := by decide +kernel
theorem dX5_begin_28 : decode cX5_begin 28 = .ok (.if_icmp .ge 104, 3) := by decide +kernel
theorem dX5_begin_31 : decode cX5_begin 31 = .ok (.iload_n 1, 1) := by decide +kernel
theorem dX5_begin_32 : decode cX5_begin 32 = .ok (.aload_n 0, 1) := by decide +kernel
theorem dX5_begin_33 : decode cX5_begin 33 = .ok (.getfield 31, 3) := by decide +kernel
theorem dX5_begin_36 : decode cX5_begin 36 = .ok (.if_icmp .ge 96, 3) := by decide +kernel
theorem dX5_begin_39 : decode cX5_begin 39 = .ok (.aload_n 0, 1) := by decide +kernel
theorem dX5_begin_40 : decode cX5_begin 40 = .ok (.getfield 9, 3) := by decide +kernel
theorem dX5_begin_43 : decode cX5_begin 43 = .ok (.iload_n 1, 1) := by decide +kernel
theorem dX5_begin_44 : decode cX5_begin 44 = .ok (.iaload, 1) := by decide +kernel
theorem dX5_begin_45 : decode cX5_begin 45 = .ok (.invokestatic 47, 3) := by decide +kernel
theorem dX5_begin_48 : decode cX5_begin 48 = .ok (.istore_n 3, 1) := by decide +kernel
theorem dX5_begin_49 : decode cX5_begin 49 = .ok (.iload_n 1, 1) := by decide +kernel
theorem dX5_begin_50 : decode cX5_begin 50 = .ok (.iconst 1, 1) := by decide +kernel
theorem dX5_begin_51 : decode cX5_begin 51 = .ok (.iadd, 1) := by decide +kernel
theorem dX5_begin_52 : decode cX5_begin 52 = .ok (.istore 4, 2) := by decide +kernel
theorem dX5_begin_54 : decode cX5_begin 54 = .ok (.iload 4, 2) := by decide +kernel
theorem dX5_begin_56 : decode cX5_begin 56 = .ok (.aload_n 0, 1) := by decide +kernel
theorem dX5_begin_57 : decode cX5_begin 57 = .ok (.getfield 31, 3) := by decide +kernel
theorem dX5_begin_60 : decode cX5_begin 60 = .ok (.if_icmp .ge 33, 3) := by decide +kernel
theorem dX5_begin_63 : decode cX5_begin 63 = .ok (.iload_n 3, 1) := by decide +kernel
theorem dX5_begin_64 : decode cX5_begin 64 = .ok (.iconst 1, 1) := by decide +kernel
theorem dX5_begin_65 : decode cX5_begin 65 = .ok (.if_icmp .eq 8, 3) := by decide +kernel
theorem dX5_begin_68 : decode cX5_begin 68 = .ok (.iload_n 3, 1) := by decide +kernel
theorem dX5_begin_69 : decode cX5_begin 69 = .ok (.iconst 2, 1) := by decide +kernel
theorem dX5_begin_70 : decode cX5_begin 70 = .ok (.if_icmp .ne 23, 3) := by decide +kernel
theorem dX5_begin_73 : decode cX5_begin 73 = .ok (.aload_n 0, 1) := by decide +kernel
theorem dX5_begin_74 : decode cX5_begin 74 = .ok (.getfield 9, 3) := by decide +kernel
theorem dX5_begin_77 : decode cX5_begin 77 = .ok (.iload 4, 2) := by decide +kernel
theorem dX5_begin_79 : decode cX5_begin 79 = .ok (.iaload, 1) := by decide +kernel
theorem dX5_begin_80 : decode cX5_begin 80 = .ok (.invokestatic 47, 3) := by decide +kernel
theorem dX5_begin_83 : decode cX5_begin 83 = .ok (.iload_n 3, 1) := by decide +kernel
theorem dX5_begin_84 : decode cX5_begin 84 = .ok (.if_icmp .ne 9, 3) := by decide +kernel
theorem dX5_begin_87 : decode cX5_begin 87 = .ok (.iinc 4 1, 3) := by decide +kernel
theorem dX5_begin_90 : decode cX5_begin 90 = .ok (.goto (-36), 3) := by decide +kernel
theorem dX5_begin_93 : decode cX5_begin 93 = .ok (.iload_n 3, 1) := by decide +kernel
theorem dX5_begin_94 : decode cX5_begin 94 = .ok (.iconst 4, 1) := by decide +kernel
theorem dX5_begin_95 : decode cX5_begin 95 = .ok (.if_icmp .eq 28, 3) := by decide +kernel
theorem dX5_begin_98 : decode cX5_begin 98 = .ok (.aload_n 0, 1) := by decide +kernel
theorem dX5_begin_99 : decode cX5_begin 99 = .ok (.iload_n 3, 1) := by decide +kernel
theorem dX5_begin_100 : decode cX5_begin 100 = .ok (.iload_n 1, 1) := by decide +kernel
theorem dX5_begin_101 : decode cX5_begin 101 = .ok (.iload_n 3, 1) := by decide +kernel
theorem dX5_begin_102 : decode cX5_begin 102 = .ok (.iconst 2, 1) := by decide +kernel
theorem dX5_begin_103 : decode cX5_begin 103 = .ok (.if_icmp .ne 13, 3) := by decide +kernel
theorem dX5_begin_106 : decode cX5_begin 106 = .ok (.aload_n 0, 1) := by decide +kernel
theorem dX5_begin_107 : decode cX5_begin 107 = .ok (.iload_n 1, 1) := by decide +kernel
theorem dX5_begin_108 : decode cX5_begin 108 = .ok (.iload 4, 2) := by decide +kernel
theorem dX5_begin_110 : decode cX5_begin 110 = .ok (.invokevirtual 51, 3) := by decide +kernel
theorem dX5_begin_113 : decode cX5_begin 113 = .ok (.goto 7, 3) := by decide +kernel
theorem dX5_begin_116 : decode cX5_begin 116 = .ok (.iload 4, 2) := by decide +kernel
theorem dX5_begin_118 : decode cX5_begin 118 = .ok (.iload_n 1, 1) := by decide +kernel
theorem dX5_begin_119 : decode cX5_begin 119 = .ok (.isub, 1) := by decide +kernel
theorem dX5_begin_120 : decode cX5_begin 120 = .ok (.invokevirtual 55, 3) := by decide +kernel
theorem dX5_begin_123 : decode cX5_begin 123 = .ok (.iload 4, 2) := by decide +kernel
theorem dX5_begin_125 : decode cX5_begin 125 = .ok (.istore_n 1, 1) := by decide +kernel
theorem dX5_begin_126 : decode cX5_begin 126 = .ok (.iinc 2 1, 3) := by decide +kernel
theorem dX5_begin_129 : decode cX5_begin 129 = .ok (.goto (-105), 3) := by decide +kernel
theorem dX5_begin_132 : decode cX5_begin 132 = .ok (.aload_n 0, 1) := by decide +kernel
theorem dX5_begin_133 : decode cX5_begin 133 = .ok (.iconst 0, 1) := by decide +kernel
theorem dX5_begin_134 : decode cX5_begin 134 = .ok (.aload_n 0, 1) := by decide +kernel
theorem dX5_begin_135 : decode cX5_begin 135 = .ok (.getfield 31, 3) := by decide +kernel
theorem dX5_begin_138 : decode cX5_begin 138 = .ok (.iconst 0, 1) := by decide +kernel
theorem dX5_begin_139 : decode cX5_begin 139 = .ok (.invokevirtual 55, 3) := by decide +kernel
theorem dX5_begin_142 : decode cX5_begin 142 = .ok (.aload_n 0, 1) := by decide +kernel
theorem dX5_begin_143 : decode cX5_begin 143 = .ok (.aload_n 0, 1) := by decide +kernel
theorem dX5_begin_144 : decode cX5_begin 144 = .ok (.getfield 15, 3) := by decide +kernel
theorem dX5_begin_147 : decode cX5_begin 147 = .ok (.iconst 0, 1) := by decide +kernel
theorem dX5_begin_148 : decode cX5_begin 148 = .ok (.iaload, 1) := by decide +kernel
theorem dX5_begin_149 : decode cX5_begin 149 = .ok (.putfield 24, 3) := by decide +kernel
theorem dX5_begin_152 : decode cX5_begin 152 = .ok (.return_, 1) := by decide +kernel
theorem wX5_numberOf_X5 : GoodIn GT (wsV RX5 51 RX5 yX5_numberOf (.code yX5_numberOf cX5_numberOf 5 (some .int) :: GT)) := gt_V (gt_of 664 (by decide +kernel) rfl) (gt_of 666 (by decide +kernel) rfl) (gt_of 14 (by decide +kernel) rfl) (gt_of 202 (by decide +kernel) rfl) (gt_of 667 (by decide +kernel) rfl)
theorem vc_X5_numberOf_X5 {p : Program} {l : Launch} {e : Env} {st : State} {m : MethodId} {args : Array Value} {below : List Frame} {meth : Method} {c : Code} {Q : State → Prop} {nL : Nat} {cc : ByteArray} {s : ST} {pc q : Nat} {lv : List (Nat × Value)} {rest : List Value} {D : va_G} {cA cL : ClassId} {h : Nat → Nat} {Z : State → Heap → Prop} {sa : Nat → Nat} (hZ : ZK h Z sa) {d0 : Nat} (X : Cx (KC D cA cL h Z) p st m args meth c cc nL RX5) {x1 : Int32} {x2 : Int32} (d : decode cc pc = .ok (.invokevirtual 51, 3)) (hq : pc + 3 = q) (hd1 : 1 + 1 ≤ d0) (hd2 : 8 + (5 + 11) + 100 * 1 ≤ 100 * d0) (hr : (rest.map fun v => v.category).sum ≤ 8) {B : Type} {f : Int32 → Option B} {r : B} (hs : Bd (C_X5_numberOf s x1 x2) f = some r) (k : ∀ y, f y = some r → WG (KC D cA cL h Z) p l e (rmD d0) st m args below meth c Q nL s q lv (.int y :: rest)) : WG (KC D cA cL h Z) p l e (rmD d0) st m args below meth c Q nL s pc lv (.int x2 :: .int x1 :: .ref (h 49) :: rest) := by
  obtain ⟨v, hv, hs⟩ := Bd_e hs
  exact cV_I (K := KC D cA cL h Z) X 49 (n := 2) (k_X5_numberOf hZ l D cA cL s x1 x2 hv) wX5_numberOf_X5 ⟨hd1, hd2⟩ ⟨by decide, by decide, by decide +kernel⟩ (As := [.int x1, .int x2]) rfl hr (sh_49).1 (fs := cF5 h 49 (s.1 49) (s.2 49)) (GC_5 (cA := cA) (cL := cL) sh_49 _ _) rfl rfl d hq (k _ hs)
theorem wX5_putToken_X5 : GoodIn GT (wsV RX5 55 RX5 yX5_putToken (.code yX5_putToken cX5_putToken 4 none :: GT)) := gt_V (gt_of 668 (by decide +kernel) rfl) (gt_of 670 (by decide +kernel) rfl) (gt_of 15 (by decide +kernel) rfl) (gt_of 202 (by decide +kernel) rfl) (gt_of 671 (by decide +kernel) rfl)
theorem vc_X5_putToken_X5 {p : Program} {l : Launch} {e : Env} {st : State} {m : MethodId} {args : Array Value} {below : List Frame} {meth : Method} {c : Code} {Q : State → Prop} {nL : Nat} {cc : ByteArray} {s : ST} {pc q : Nat} {lv : List (Nat × Value)} {rest : List Value} {D : va_G} {cA cL : ClassId} {h : Nat → Nat} {Z : State → Heap → Prop} {sa : Nat → Nat} (hZ : ZK h Z sa) {d0 : Nat} (X : Cx (KC D cA cL h Z) p st m args meth c cc nL RX5) {x1 : Int32} {x2 : Int32} {x3 : Int32} (d : decode cc pc = .ok (.invokevirtual 55, 3)) (hq : pc + 3 = q) (hd1 : 1 + 1 ≤ d0) (hd2 : 8 + (4 + 11) + 100 * 1 ≤ 100 * d0) (hr : (rest.map fun v => v.category).sum ≤ 8) {B : Type} {f : ST → Option B} {r : B} (hs : Bd (C_X5_putToken s x1 x2 x3) f = some r) (k : ∀ y, f y = some r → WG (KC D cA cL h Z) p l e (rmD d0) st m args below meth c Q nL y q lv (rest)) : WG (KC D cA cL h Z) p l e (rmD d0) st m args below meth c Q nL s pc lv (.int x3 :: .int x2 :: .int x1 :: .ref (h 49) :: rest) := by
  obtain ⟨v, hv, hs⟩ := Bd_e hs
  exact cV_V (K := KC D cA cL h Z) X 49 (n := 3) (k_X5_putToken hZ l D cA cL s x1 x2 x3 hv) wX5_putToken_X5 ⟨hd1, hd2⟩ ⟨by decide, by decide, by decide +kernel⟩ (As := [.int x1, .int x2, .int x3]) rfl hr (sh_49).1 (fs := cF5 h 49 (s.1 49) (s.2 49)) (GC_5 (cA := cA) (cL := cL) sh_49 _ _) rfl rfl d hq (k _ hs)
theorem wX5_sortOf_X5 : GoodIn GT (va_wsS RX5 47 yX5_sortOf (.code yX5_sortOf cX5_sortOf 1 (some .int) :: GT)) := gt_c (gt_of 661 (by decide +kernel) rfl) (gt_c (gt_of 662 (by decide +kernel) rfl) (gt_c (gt_of 202 (by decide +kernel) rfl) (gt_c (gt_of 663 (by decide +kernel) rfl) gt_t)))
theorem vc_X5_sortOf_X5 {p : Program} {l : Launch} {e : Env} {st : State} {m : MethodId} {args : Array Value} {below : List Frame} {meth : Method} {c : Code} {Q : State → Prop} {nL : Nat} {cc : ByteArray} {s : ST} {pc q : Nat} {lv : List (Nat × Value)} {rest : List Value} {D : va_G} {cA cL : ClassId} {h : Nat → Nat} {Z : State → Heap → Prop} {sa : Nat → Nat} (hZ : ZK h Z sa) {d0 : Nat} (X : Cx (KC D cA cL h Z) p st m args meth c cc nL RX5) {x1 : Int32} (d : decode cc pc = .ok (.invokestatic 47, 3)) (hq : pc + 3 = q) (hd1 : 1 + 1 ≤ d0) (hd2 : 8 + (1 + 11) + 100 * 1 ≤ 100 * d0) (hr : (rest.map fun v => v.category).sum ≤ 8) {B : Type} {f : Int32 → B} {r : B} (hs : Lt (C_X5_sortOf s x1) f = r) (k : ∀ y, f y = r → WG (KC D cA cL h Z) p l e (rmD d0) st m args below meth c Q nL s q lv (.int y :: rest)) : WG (KC D cA cL h Z) p l e (rmD d0) st m args below meth c Q nL s pc lv (.int x1 :: rest) := by
  exact cS_I (K := KC D cA cL h Z) X (n := 1) (k_X5_sortOf hZ l D cA cL s x1) wX5_sortOf_X5 ⟨hd1, hd2⟩ ⟨by decide, by decide, by decide +kernel⟩ (As := [.int x1]) rfl hr rfl d hq (k _ hs)
def C_X5_begin (s : ST) : Option (ST) := Lt (ups s 49 8 (0 : Int32)) fun s1 => Lt (ups s1 49 9 (-1 : Int32)) fun s2 => Lt (ups s2 49 6 (0 : Int32)) fun s3 => Lt (ups s3 49 5 (0 : Int32)) fun s4 => lpK3 (C := ST) (fun (rec1 : Int32 → Int32 → ST → Option (ST)) (a1 : Int32) (a2 : Int32) (s5 : ST) => Lt (Bd (C_X5_putToken s5 (0 : Int32) (s5.1 49 1) (0 : Int32)) fun s6 => Lt (s6.1 51 0) fun y1 => Lt (ups s6 49 7 y1) fun s7 => some s7 : Option (ST)) fun j1 => if (400 : Int32) ≤ a2 then (j1) else (if (s5.1 49 1) ≤ a1 then (j1) else (Gl s5 50 400 a1 fun y2 => Lt (C_X5_sortOf s5 y2) fun y3 => Lt ((a1 + (1 : Int32))) fun y4 => lpK1 (C := ST) (fun (rec2 : Int32 → Option (ST)) (a3 : Int32) => Lt (Lt (fun (s8 : ST) => (rec1 a3 (a2 + (1 : Int32)) s8 : Option (ST))) fun j3 => if y3 = (4 : Int32) then (j3 s5) else (Lt (fun (a4 : Int32) => (Bd (C_X5_putToken s5 y3 a1 a4) fun s9 => j3 s9 : Option (ST))) fun j4 => if y3 = (2 : Int32) then (Bd (C_X5_numberOf s5 a1 a3) fun y5 => j4 y5) else (j4 (a3 - a1))) : Option (ST)) fun j2 => if (s5.1 49 1) ≤ a3 then (j2) else (Lt (Gl s5 50 400 a3 fun y6 => Lt (C_X5_sortOf s5 y6) fun y7 => if y7 = y3 then (rec2 (a3 + (1 : Int32))) else (j2) : Option (ST)) fun j5 => if y3 = (1 : Int32) then (j5) else (if y3 = (2 : Int32) then (j5) else (j2)))) FU y4))) FU (0 : Int32) (0 : Int32) s4
set_option maxRecDepth 100000 in
set_option maxHeartbeats 4000000 in
theorem k_X5_begin {h : Nat → Nat} {Z : State → Heap → Prop} {sa : Nat → Nat} (hZ : ZK h Z sa) (l : Launch) (D : va_G) (cA cL : ClassId) (s : ST) {o : ST} (hs : C_X5_begin s = some o) : MV l (KC D cA cL h Z) 2 yX5_begin cX5_begin 5 none s [.ref (h 49)] o := by
  refine met_v (by decide) (Nat.le_of_ble_eq_true rfl) ?_
  intro p e st m args below meth c Q X RI
  unfold C_X5_begin at hs
  refine g_aload_n X dX5_begin_0 (q := 1) rfl 0 rfl ?_
  refine g_iconst X dX5_begin_1 (q := 2) rfl li_i0 ?_
  refine cp_5_8 X dX5_begin_2 (q := 5) rfl sh_49 lf_X5_38 hs (fun s1 hs => ?_)
  refine g_aload_n X dX5_begin_5 (q := 6) rfl 0 rfl ?_
  refine g_iconst X dX5_begin_6 (q := 7) rfl li_im1 ?_
  refine cp_5_9 X dX5_begin_7 (q := 10) rfl sh_49 lf_X5_28 hs (fun s2 hs => ?_)
  refine g_aload_n X dX5_begin_10 (q := 11) rfl 0 rfl ?_
  refine g_iconst X dX5_begin_11 (q := 12) rfl li_i0 ?_
  refine cp_5_6 X dX5_begin_12 (q := 15) rfl sh_49 lf_X5_41 hs (fun s3 hs => ?_)
  refine g_aload_n X dX5_begin_15 (q := 16) rfl 0 rfl ?_
  refine g_iconst X dX5_begin_16 (q := 17) rfl li_i0 ?_
  refine cp_5_5 X dX5_begin_17 (q := 20) rfl sh_49 lf_X5_44 hs (fun s4 hs => ?_)
  refine g_iconst X dX5_begin_20 (q := 21) rfl li_i0 ?_
  refine g_istore_n X dX5_begin_21 (q := 22) rfl (Nat.le_of_ble_eq_true rfl) (lv' := [(1, .int (0 : Int32)), (0, .ref (h 49))]) rfl ?_
  refine g_iconst X dX5_begin_22 (q := 23) rfl li_i0 ?_
  refine g_istore_n X dX5_begin_23 (q := 24) rfl (Nat.le_of_ble_eq_true rfl) (lv' := [(2, .int (0 : Int32)), (1, .int (0 : Int32)), (0, .ref (h 49))]) rfl ?_
  refine wg_sub [2, 1, 0] rfl (lpW3 (fun (a1 : Int32) (a2 : Int32) (s5 : ST) => WG (KC D cA cL h Z) p l e (rmD 2) st m args below meth c Q 5 s5 24 [(0, .ref (h 49)), (1, .int a1), (2, .int a2)] []) (fun rec1 ih1 a1 a2 s5 hs => ?_) _ _ _ _ hs)
  refine g_iload_n X dX5_begin_24 (q := 25) rfl 2 rfl ?_
  refine g_sipush X dX5_begin_25 (q := 28) rfl li_s400 ?_
  refine jnW0 (WG (KC D cA cL h Z) p l e (rmD 2) st m args below meth c Q 5 s5 132 [(0, .ref (h 49))] []) hs (fun  hs => ?_) (fun j1 ih2 hs => ?_)
  · refine g_aload_n X dX5_begin_132 (q := 133) rfl 0 rfl ?_
    refine g_iconst X dX5_begin_133 (q := 134) rfl li_i0 ?_
    refine g_aload_n X dX5_begin_134 (q := 135) rfl 0 rfl ?_
    refine cg_5_1 X dX5_begin_135 (q := 138) rfl sh_49 lf_X5_31 ?_
    refine g_iconst X dX5_begin_138 (q := 139) rfl li_i0 ?_
    refine vc_X5_putToken_X5 hZ X dX5_begin_139 (q := 142) rfl (Nat.le_of_ble_eq_true rfl) (Nat.le_of_ble_eq_true rfl) (Nat.le_of_ble_eq_true rfl) hs (fun s6 hs => ?_)
    refine g_aload_n X dX5_begin_142 (q := 143) rfl 0 rfl ?_
    refine g_aload_n X dX5_begin_143 (q := 144) rfl 0 rfl ?_
    refine cg_5_2 X dX5_begin_144 (q := 147) rfl sh_49 lf_X5_15 ?_
    refine g_iconst X dX5_begin_147 (q := 148) rfl li_i0 ?_
    refine ca_ldk X dX5_begin_148 (q := 149) rfl 51 sh_51 rfl (j := 0) (by decide) (by decide) hs (fun y1 hs => ?_)
    refine cp_5_7 X dX5_begin_149 (q := 152) rfl sh_49 lf_X5_24 hs (fun s7 hs => ?_)
    exact RI _ 152 _ (Option.some.inj hs) dX5_begin_152
  refine g_icmp_ge X dX5_begin_28 (q := 31) rfl (tgt := 132) (by decide) hs ?_ ?_
  · intro hs
    exact wg_sub [0] rfl (ih2 hs)
  · intro hs
    refine g_iload_n X dX5_begin_31 (q := 32) rfl 1 rfl ?_
    refine g_aload_n X dX5_begin_32 (q := 33) rfl 0 rfl ?_
    refine cg_5_1 X dX5_begin_33 (q := 36) rfl sh_49 lf_X5_31 ?_
    refine g_icmp_ge X dX5_begin_36 (q := 39) rfl (tgt := 132) (by decide) hs ?_ ?_
    · intro hs
      exact wg_sub [0] rfl (ih2 hs)
    · intro hs
      refine g_aload_n X dX5_begin_39 (q := 40) rfl 0 rfl ?_
      refine cg_5_0 X dX5_begin_40 (q := 43) rfl sh_49 lf_X5_9 ?_
      refine g_iload_n X dX5_begin_43 (q := 44) rfl 1 rfl ?_
      refine ca_ld X dX5_begin_44 (q := 45) rfl 50 sh_50 rfl hs (fun y2 hs => ?_)
      refine vc_X5_sortOf_X5 hZ X dX5_begin_45 (q := 48) rfl (Nat.le_of_ble_eq_true rfl) (Nat.le_of_ble_eq_true rfl) (Nat.le_of_ble_eq_true rfl) hs (fun y3 hs => ?_)
      refine g_istore_n X dX5_begin_48 (q := 49) rfl (Nat.le_of_ble_eq_true rfl) (lv' := [(3, .int y3), (0, .ref (h 49)), (1, .int a1), (2, .int a2)]) rfl ?_
      refine g_iload_n X dX5_begin_49 (q := 50) rfl 2 rfl ?_
      refine g_iconst X dX5_begin_50 (q := 51) rfl li_i1 ?_
      refine g_iadd X dX5_begin_51 (q := 52) rfl ?_
      refine nmI hs (fun y4 hs => ?_)
      refine g_istore X dX5_begin_52 (q := 54) rfl (Nat.le_of_ble_eq_true rfl) (lv' := [(4, .int y4), (3, .int y3), (0, .ref (h 49)), (1, .int a1), (2, .int a2)]) rfl ?_
      refine wg_sub [2, 3, 4, 1, 0] rfl (lpW1 (fun (a3 : Int32) => WG (KC D cA cL h Z) p l e (rmD 2) st m args below meth c Q 5 s5 54 [(0, .ref (h 49)), (1, .int a1), (2, .int a2), (3, .int y3), (4, .int a3)] []) (fun rec2 ih3 a3 hs => ?_) _ _ hs)
      refine g_iload X dX5_begin_54 (q := 56) rfl 4 rfl ?_
      refine g_aload_n X dX5_begin_56 (q := 57) rfl 0 rfl ?_
      refine cg_5_1 X dX5_begin_57 (q := 60) rfl sh_49 lf_X5_31 ?_
      refine jnW0 (WG (KC D cA cL h Z) p l e (rmD 2) st m args below meth c Q 5 s5 93 [(0, .ref (h 49)), (1, .int a1), (2, .int a2), (3, .int y3), (4, .int a3)] []) hs (fun  hs => ?_) (fun j2 ih4 hs => ?_)
      · refine g_iload_n X dX5_begin_93 (q := 94) rfl 3 rfl ?_
        refine g_iconst X dX5_begin_94 (q := 95) rfl li_i4 ?_
        refine jnW1 (fun (s8 : ST) => WG (KC D cA cL h Z) p l e (rmD 2) st m args below meth c Q 5 s8 123 [(0, .ref (h 49)), (2, .int a2), (4, .int a3)] []) hs (fun s8 hs => ?_) (fun j3 ih5 hs => ?_)
        · refine g_iload X dX5_begin_123 (q := 125) rfl 2 rfl ?_
          refine g_istore_n X dX5_begin_125 (q := 126) rfl (Nat.le_of_ble_eq_true rfl) (lv' := [(1, .int a3), (0, .ref (h 49)), (2, .int a2), (4, .int a3)]) rfl ?_
          refine g_iinc X dX5_begin_126 (q := 129) rfl 2 rfl (v := (a2 + (1 : Int32))) (congrArg (HAdd.hAdd a2) li_i1) (Nat.le_of_ble_eq_true rfl) (lv' := [(2, .int (a2 + (1 : Int32))), (1, .int a3), (0, .ref (h 49)), (4, .int a3)]) rfl ?_
          refine g_goto X dX5_begin_129 (tgt := 24) (by decide) ?_
          exact wg_sub [2, 1, 0] rfl (ih1 _ _ _ hs)
        refine g_icmp_eq X dX5_begin_95 (q := 98) rfl (tgt := 123) (by decide) hs ?_ ?_
        · intro hs
          exact wg_sub [0, 2, 4] rfl (ih5 _ hs)
        · intro hs
          refine g_aload_n X dX5_begin_98 (q := 99) rfl 0 rfl ?_
          refine g_iload_n X dX5_begin_99 (q := 100) rfl 3 rfl ?_
          refine g_iload_n X dX5_begin_100 (q := 101) rfl 1 rfl ?_
          refine g_iload_n X dX5_begin_101 (q := 102) rfl 3 rfl ?_
          refine g_iconst X dX5_begin_102 (q := 103) rfl li_i2 ?_
          refine jnW1 (fun (a4 : Int32) => WG (KC D cA cL h Z) p l e (rmD 2) st m args below meth c Q 5 s5 120 [(0, .ref (h 49)), (2, .int a2), (4, .int a3)] [.int a4, .int a1, .int y3, .ref (h 49)]) hs (fun a4 hs => ?_) (fun j4 ih6 hs => ?_)
          · refine vc_X5_putToken_X5 hZ X dX5_begin_120 (q := 123) rfl (Nat.le_of_ble_eq_true rfl) (Nat.le_of_ble_eq_true rfl) (Nat.le_of_ble_eq_true rfl) hs (fun s9 hs => ?_)
            exact wg_sub [0, 1, 2] rfl (ih5 _ hs)
          refine g_icmp_ne X dX5_begin_103 (q := 106) rfl (tgt := 116) (by decide) hs ?_ ?_
          · intro hs
            refine g_iload X dX5_begin_116 (q := 118) rfl 4 rfl ?_
            refine g_iload_n X dX5_begin_118 (q := 119) rfl 1 rfl ?_
            refine g_isub X dX5_begin_119 (q := 120) rfl ?_
            exact wg_sub [0, 2, 4] rfl (ih6 _ hs)
          · intro hs
            refine g_aload_n X dX5_begin_106 (q := 107) rfl 0 rfl ?_
            refine g_iload_n X dX5_begin_107 (q := 108) rfl 1 rfl ?_
            refine g_iload X dX5_begin_108 (q := 110) rfl 4 rfl ?_
            refine vc_X5_numberOf_X5 hZ X dX5_begin_110 (q := 113) rfl (Nat.le_of_ble_eq_true rfl) (Nat.le_of_ble_eq_true rfl) (Nat.le_of_ble_eq_true rfl) hs (fun y5 hs => ?_)
            refine g_goto X dX5_begin_113 (tgt := 120) (by decide) ?_
            exact wg_sub [0, 2, 4] rfl (ih6 _ hs)
      refine g_icmp_ge X dX5_begin_60 (q := 63) rfl (tgt := 93) (by decide) hs ?_ ?_
      · intro hs
        exact wg_sub [0, 1, 2, 3, 4] rfl (ih4 hs)
      · intro hs
        refine g_iload_n X dX5_begin_63 (q := 64) rfl 3 rfl ?_
        refine g_iconst X dX5_begin_64 (q := 65) rfl li_i1 ?_
        refine jnW0 (WG (KC D cA cL h Z) p l e (rmD 2) st m args below meth c Q 5 s5 73 [(0, .ref (h 49)), (1, .int a1), (2, .int a2), (3, .int y3), (4, .int a3)] []) hs (fun  hs => ?_) (fun j5 ih7 hs => ?_)
        · refine g_aload_n X dX5_begin_73 (q := 74) rfl 0 rfl ?_
          refine cg_5_0 X dX5_begin_74 (q := 77) rfl sh_49 lf_X5_9 ?_
          refine g_iload X dX5_begin_77 (q := 79) rfl 4 rfl ?_
          refine ca_ld X dX5_begin_79 (q := 80) rfl 50 sh_50 rfl hs (fun y6 hs => ?_)
          refine vc_X5_sortOf_X5 hZ X dX5_begin_80 (q := 83) rfl (Nat.le_of_ble_eq_true rfl) (Nat.le_of_ble_eq_true rfl) (Nat.le_of_ble_eq_true rfl) hs (fun y7 hs => ?_)
          refine g_iload_n X dX5_begin_83 (q := 84) rfl 3 rfl ?_
          refine g_icmp_ne X dX5_begin_84 (q := 87) rfl (tgt := 93) (by decide) hs ?_ ?_
          · intro hs
            exact wg_sub [0, 1, 2, 3, 4] rfl (ih4 hs)
          · intro hs
            refine g_iinc X dX5_begin_87 (q := 90) rfl 4 rfl (v := (a3 + (1 : Int32))) (congrArg (HAdd.hAdd a3) li_i1) (Nat.le_of_ble_eq_true rfl) (lv' := [(4, .int (a3 + (1 : Int32))), (0, .ref (h 49)), (1, .int a1), (2, .int a2), (3, .int y3)]) rfl ?_
            refine g_goto X dX5_begin_90 (tgt := 54) (by decide) ?_
            exact wg_sub [1, 2, 3, 4, 0] rfl (ih3 _ hs)
        refine g_icmp_eq X dX5_begin_65 (q := 68) rfl (tgt := 73) (by decide) hs ?_ ?_
        · intro hs
          exact wg_sub [0, 1, 2, 3, 4] rfl (ih7 hs)
        · intro hs
          refine g_iload_n X dX5_begin_68 (q := 69) rfl 3 rfl ?_
          refine g_iconst X dX5_begin_69 (q := 70) rfl li_i2 ?_
          refine g_icmp_ne X dX5_begin_70 (q := 73) rfl (tgt := 93) (by decide) hs ?_ ?_
          · intro hs
            exact wg_sub [0, 1, 2, 3, 4] rfl (ih4 hs)
          · intro hs
            exact wg_sub [0, 1, 2, 3, 4] rfl (ih7 hs)
theorem dX7_hasKind_0 : decode cX7_hasKind 0 = .ok (.aload_n 0, 1) := by decide +kernel
theorem dX7_hasKind_1 : decode cX7_hasKind 1 = .ok (.getfield 14, 3) := by decide +kernel
theorem dX7_hasKind_4 : decode cX7_hasKind 4 = .ok (.iload_n 1, 1) := by decide +kernel
theorem dX7_hasKind_5 : decode cX7_hasKind 5 = .ok (.invokevirtual 47, 3) := by decide +kernel
theorem dX7_hasKind_8 : decode cX7_hasKind 8 = .ok (.ireturn, 1) := by decide +kernel
theorem wX4_hasRow_X7 : Cond.methodLinkNest RX7 47 yX4_hasRow "StormSeeds" ∈ NW := nw_of 912 (by decide +kernel) rfl
theorem vc_X4_hasRow_X7 {p : Program} {l : Launch} {e : Env} {st : State} {m : MethodId} {args : Array Value} {below : List Frame} {meth : Method} {c : Code} {Q : State → Prop} {nL : Nat} {cc : ByteArray} {s : ST} {pc q : Nat} {lv : List (Nat × Value)} {rest : List Value} {D : va_G} {cA cL : ClassId} {h : Nat → Nat} {Z : State → Heap → Prop} {sa : Nat → Nat} (hZ : ZK h Z sa) {d0 : Nat} (X : Cx (KC D cA cL h Z) p st m args meth c cc nL RX7) {b0 : Nat} {x1 : Int32} (d : decode cc pc = .ok (.invokevirtual 47, 3)) (hq : pc + 3 = q) (hb0 : isK 4 b0) (hd1 : 1 + 1 ≤ d0) (hd2 : 8 + (2 + 11) + 100 * 1 ≤ 100 * d0) (hr : (rest.map fun v => v.category).sum ≤ 8) {B : Type} {f : Int32 → B} {r : B} (hs : Lt (C_X4_hasRow s b0 x1) f = r) (k : ∀ y, f y = r → WG (KC D cA cL h Z) p l e (rmD d0) st m args below meth c Q nL s q lv (.int y :: rest)) : WG (KC D cA cL h Z) p l e (rmD d0) st m args below meth c Q nL s pc lv (.int x1 :: .ref (h b0) :: rest) := by
  exact cVN_I (K := KC D cA cL h Z) X b0 (n := 1) (k_X4_hasRow hZ l D cA cL s b0 x1 hb0) (gt_c (gt_of 915 (by decide +kernel) rfl) gt_t) (hZ.1 st st.heap X.2.2.2 _ wX4_hasRow_X7) (gt_of 199 (by decide +kernel) rfl) (gt_of 914 (by decide +kernel) rfl) (gt_of 49 (by decide +kernel) rfl) ⟨hd1, hd2⟩ ⟨by decide, by decide, by decide +kernel⟩ (As := [.int x1]) rfl hr (hb0).1 (fs := cF4 h b0 (s.1 b0) (s.2 b0)) (GC_4 (cA := cA) (cL := cL) hb0 _ _) rfl rfl d hq (k _ hs)
def C_X7_hasKind (s : ST) (b0 : Nat) (x1 : Int32) : Int32 := Lt (C_X4_hasRow s (b0 + 1) x1) fun y1 => (y1 &&& 1)
set_option maxRecDepth 100000 in
set_option maxHeartbeats 4000000 in
theorem k_X7_hasKind {h : Nat → Nat} {Z : State → Heap → Prop} {sa : Nat → Nat} (hZ : ZK h Z sa) (l : Launch) (D : va_G) (cA cL : ClassId) (s : ST) (b0 : Nat) (x1 : Int32) (hb0 : isK 7 b0) : MI l (KC D cA cL h Z) 2 yX7_hasKind cX7_hasKind 2 (some .boolean) s [.ref (h b0), .int x1] (C_X7_hasKind s b0 x1) s := by
  refine met_i (by decide) (Nat.le_of_ble_eq_true rfl) ?_
  intro p e st m args below meth c Q X RI
  generalize hs : C_X7_hasKind s b0 x1 = o at RI
  unfold C_X7_hasKind at hs
  refine g_aload_n X dX7_hasKind_0 (q := 1) rfl 0 rfl ?_
  refine cg_7_0 X dX7_hasKind_1 (q := 4) rfl hb0 lf_X7_14 ?_
  refine g_iload_n X dX7_hasKind_4 (q := 5) rfl 1 rfl ?_
  refine vc_X4_hasRow_X7 hZ X dX7_hasKind_5 (q := 8) rfl (sub_X7_kinds hb0) (Nat.le_of_ble_eq_true rfl) (Nat.le_of_ble_eq_true rfl) (Nat.le_of_ble_eq_true rfl) hs (fun y1 hs => ?_)
  exact RI _ 8 _ _ _ rfl rfl hs dX7_hasKind_8
theorem dX8_note_0 : decode cX8_note 0 = .ok (.aload_n 0, 1) := by decide +kernel
theorem dX8_note_1 : decode cX8_note 1 = .ok (.getfield 15, 3) := by decide +kernel
theorem dX8_note_4 : decode cX8_note 4 = .ok (.ifnull 18, 3) := by decide +kernel
theorem dX8_note_7 : decode cX8_note 7 = .ok (.aload_n 0, 1) := by decide +kernel
theorem dX8_note_8 : decode cX8_note 8 = .ok (.getfield 15, 3) := by decide +kernel
theorem dX8_note_11 : decode cX8_note 11 = .ok (.aload_n 1, 1) := by decide +kernel
theorem dX8_note_12 : decode cX8_note 12 = .ok (.getfield 19, 3) := by decide +kernel
theorem dX8_note_15 : decode cX8_note 15 = .ok (.iload_n 2, 1) := by decide +kernel
theorem dX8_note_16 : decode cX8_note 16 = .ok (.iload_n 3, 1) := by decide +kernel
theorem dX8_note_17 : decode cX8_note 17 = .ok (.iload 4, 2) := by decide +kernel
theorem dX8_note_19 : decode cX8_note 19 = .ok (.invokevirtual 25, 3) := by decide +kernel
theorem dX8_note_22 : decode cX8_note 22 = .ok (.return_, 1) := by decide +kernel
def C_X8_note_t (s : ST) (x2 : Int32) (x3 : Int32) (x4 : Int32) : ST := s
set_option maxRecDepth 100000 in
set_option maxHeartbeats 4000000 in
theorem k_X8_note_t {h : Nat → Nat} {Z : State → Heap → Prop} {sa : Nat → Nat} (hZ : ZK h Z sa) (l : Launch) (D : va_G) (cA cL : ClassId) (s : ST) (x2 : Int32) (x3 : Int32) (x4 : Int32) : MV l (KC D cA cL h Z) 2 yX8_note cX8_note 5 none s [.ref (h 79), .ref (h 72), .int x2, .int x3, .int x4] (C_X8_note_t s x2 x3 x4) := by
  refine met_v (by decide) (Nat.le_of_ble_eq_true rfl) ?_
  intro p e st m args below meth c Q X RI
  generalize hs : C_X8_note_t s x2 x3 x4 = o at RI
  unfold C_X8_note_t at hs
  refine g_aload_n X dX8_note_0 (q := 1) rfl 0 rfl ?_
  refine cg_18_1 X dX8_note_1 (q := 4) rfl sh_79 lf_X8_15 ?_
  refine g_ifnullN X dX8_note_4 (tgt := 22) (by decide) ?_
  exact RI _ 22 _ hs dX8_note_22
theorem dX8_plant_0 : decode cX8_plant 0 = .ok (.aload_n 0, 1) := by decide +kernel
theorem dX8_plant_1 : decode cX8_plant 1 = .ok (.getfield 9, 3) := by decide +kernel
theorem dX8_plant_4 : decode cX8_plant 4 = .ok (.iload_n 2, 1) := by decide +kernel
theorem dX8_plant_5 : decode cX8_plant 5 = .ok (.invokevirtual 31, 3) := by decide +kernel
theorem dX8_plant_8 : decode cX8_plant 8 = .ok (.ifCond .eq 11, 3) := by decide +kernel
theorem dX8_plant_11 : decode cX8_plant 11 = .ok (.aload_n 1, 1) := by decide +kernel
theorem dX8_plant_12 : decode cX8_plant 12 = .ok (.iload_n 3, 1) := by decide +kernel
theorem dX8_plant_13 : decode cX8_plant 13 = .ok (.invokevirtual 37, 3) := by decide +kernel
theorem dX8_plant_16 : decode cX8_plant 16 = .ok (.ifCond .ne 5, 3) := by decide +kernel
theorem dX8_plant_19 : decode cX8_plant 19 = .ok (.iconst 0, 1) := by decide +kernel
theorem dX8_plant_20 : decode cX8_plant 20 = .ok (.ireturn, 1) := by decide +kernel
theorem dX8_plant_21 : decode cX8_plant 21 = .ok (.aload_n 1, 1) := by decide +kernel
theorem dX8_plant_22 : decode cX8_plant 22 = .ok (.iload_n 2, 1) := by decide +kernel
theorem dX8_plant_23 : decode cX8_plant 23 = .ok (.iload_n 3, 1) := by decide +kernel
theorem dX8_plant_24 : decode cX8_plant 24 = .ok (.invokevirtual 40, 3) := by decide +kernel
theorem dX8_plant_27 : decode cX8_plant 27 = .ok (.aload_n 0, 1) := by decide +kernel
theorem dX8_plant_28 : decode cX8_plant 28 = .ok (.aload_n 1, 1) := by decide +kernel
theorem dX8_plant_29 : decode cX8_plant 29 = .ok (.iconst 0, 1) := by decide +kernel
theorem dX8_plant_30 : decode cX8_plant 30 = .ok (.iload_n 3, 1) := by decide +kernel
theorem dX8_plant_31 : decode cX8_plant 31 = .ok (.iload_n 2, 1) := by decide +kernel
theorem dX8_plant_32 : decode cX8_plant 32 = .ok (.invokevirtual 44, 3) := by decide +kernel
theorem dX8_plant_35 : decode cX8_plant 35 = .ok (.iconst 1, 1) := by decide +kernel
theorem dX8_plant_36 : decode cX8_plant 36 = .ok (.ireturn, 1) := by decide +kernel
theorem wX1_isSowable_X8 : Cond.methodLinkNest RX8 37 yX1_isSowable "StormSeeds" ∈ NW := nw_of 934 (by decide +kernel) rfl
theorem vc_X1_isSowable_X8 {p : Program} {l : Launch} {e : Env} {st : State} {m : MethodId} {args : Array Value} {below : List Frame} {meth : Method} {c : Code} {Q : State → Prop} {nL : Nat} {cc : ByteArray} {s : ST} {pc q : Nat} {lv : List (Nat × Value)} {rest : List Value} {D : va_G} {cA cL : ClassId} {h : Nat → Nat} {Z : State → Heap → Prop} {sa : Nat → Nat} (hZ : ZK h Z sa) {d0 : Nat} (X : Cx (KC D cA cL h Z) p st m args meth c cc nL RX8) {b0 : Nat} {x1 : Int32} (d : decode cc pc = .ok (.invokevirtual 37, 3)) (hq : pc + 3 = q) (hb0 : isK 1 b0) (hd1 : 2 + 1 ≤ d0) (hd2 : 8 + (2 + 11) + 100 * 2 ≤ 100 * d0) (hr : (rest.map fun v => v.category).sum ≤ 8) {B : Type} {f : Int32 → B} {r : B} (hs : Lt (C_X1_isSowable s b0 x1) f = r) (k : ∀ y, f y = r → WG (KC D cA cL h Z) p l e (rmD d0) st m args below meth c Q nL s q lv (.int y :: rest)) : WG (KC D cA cL h Z) p l e (rmD d0) st m args below meth c Q nL s pc lv (.int x1 :: .ref (h b0) :: rest) := by
  exact cVN_I (K := KC D cA cL h Z) X b0 (n := 1) (k_X1_isSowable hZ l D cA cL s b0 x1 hb0) (gt_c (gt_of 919 (by decide +kernel) rfl) gt_t) (hZ.1 st st.heap X.2.2.2 _ wX1_isSowable_X8) (gt_of 197 (by decide +kernel) rfl) (gt_of 918 (by decide +kernel) rfl) (gt_of 50 (by decide +kernel) rfl) ⟨hd1, hd2⟩ ⟨by decide, by decide, by decide +kernel⟩ (As := [.int x1]) rfl hr (hb0).1 (fs := cF1 h b0 (s.1 b0) (s.2 b0)) (GC_1 (cA := cA) (cL := cL) hb0 _ _) rfl rfl d hq (k _ hs)
theorem wX1_laySeed_X8 : Cond.methodLinkNest RX8 40 yX1_laySeed "StormSeeds" ∈ NW := nw_of 935 (by decide +kernel) rfl
theorem vc_X1_laySeed_X8 {p : Program} {l : Launch} {e : Env} {st : State} {m : MethodId} {args : Array Value} {below : List Frame} {meth : Method} {c : Code} {Q : State → Prop} {nL : Nat} {cc : ByteArray} {s : ST} {pc q : Nat} {lv : List (Nat × Value)} {rest : List Value} {D : va_G} {cA cL : ClassId} {h : Nat → Nat} {Z : State → Heap → Prop} {sa : Nat → Nat} (hZ : ZK h Z sa) {d0 : Nat} (X : Cx (KC D cA cL h Z) p st m args meth c cc nL RX8) {b0 : Nat} {x1 : Int32} {x2 : Int32} (d : decode cc pc = .ok (.invokevirtual 40, 3)) (hq : pc + 3 = q) (hb0 : isK 1 b0) (hd1 : 2 + 1 ≤ d0) (hd2 : 8 + (3 + 11) + 100 * 2 ≤ 100 * d0) (hr : (rest.map fun v => v.category).sum ≤ 8) {B : Type} {f : ST → Option B} {r : B} (hs : Bd (C_X1_laySeed s b0 x1 x2) f = some r) (k : ∀ y, f y = some r → WG (KC D cA cL h Z) p l e (rmD d0) st m args below meth c Q nL y q lv (rest)) : WG (KC D cA cL h Z) p l e (rmD d0) st m args below meth c Q nL s pc lv (.int x2 :: .int x1 :: .ref (h b0) :: rest) := by
  obtain ⟨v, hv, hs⟩ := Bd_e hs
  exact cVN_V (K := KC D cA cL h Z) X b0 (n := 2) (k_X1_laySeed hZ l D cA cL s b0 x1 x2 hb0 hv) (gt_c (gt_of 938 (by decide +kernel) rfl) gt_t) (hZ.1 st st.heap X.2.2.2 _ wX1_laySeed_X8) (gt_of 197 (by decide +kernel) rfl) (gt_of 937 (by decide +kernel) rfl) (gt_of 54 (by decide +kernel) rfl) ⟨hd1, hd2⟩ ⟨by decide, by decide, by decide +kernel⟩ (As := [.int x1, .int x2]) rfl hr (hb0).1 (fs := cF1 h b0 (s.1 b0) (s.2 b0)) (GC_1 (cA := cA) (cL := cL) hb0 _ _) rfl rfl d hq (k _ hs)
theorem wX7_hasKind_X8 : Cond.methodLinkNest RX8 31 yX7_hasKind "StormSeeds" ∈ NW := nw_of 933 (by decide +kernel) rfl
theorem vc_X7_hasKind_X8 {p : Program} {l : Launch} {e : Env} {st : State} {m : MethodId} {args : Array Value} {below : List Frame} {meth : Method} {c : Code} {Q : State → Prop} {nL : Nat} {cc : ByteArray} {s : ST} {pc q : Nat} {lv : List (Nat × Value)} {rest : List Value} {D : va_G} {cA cL : ClassId} {h : Nat → Nat} {Z : State → Heap → Prop} {sa : Nat → Nat} (hZ : ZK h Z sa) {d0 : Nat} (X : Cx (KC D cA cL h Z) p st m args meth c cc nL RX8) {b0 : Nat} {x1 : Int32} (d : decode cc pc = .ok (.invokevirtual 31, 3)) (hq : pc + 3 = q) (hb0 : isK 7 b0) (hd1 : 2 + 1 ≤ d0) (hd2 : 8 + (2 + 11) + 100 * 2 ≤ 100 * d0) (hr : (rest.map fun v => v.category).sum ≤ 8) {B : Type} {f : Int32 → B} {r : B} (hs : Lt (C_X7_hasKind s b0 x1) f = r) (k : ∀ y, f y = r → WG (KC D cA cL h Z) p l e (rmD d0) st m args below meth c Q nL s q lv (.int y :: rest)) : WG (KC D cA cL h Z) p l e (rmD d0) st m args below meth c Q nL s pc lv (.int x1 :: .ref (h b0) :: rest) := by
  exact cVN_I (K := KC D cA cL h Z) X b0 (n := 1) (k_X7_hasKind hZ l D cA cL s b0 x1 hb0) (gt_c (gt_of 911 (by decide +kernel) rfl) gt_t) (hZ.1 st st.heap X.2.2.2 _ wX7_hasKind_X8) (gt_of 198 (by decide +kernel) rfl) (gt_of 910 (by decide +kernel) rfl) (gt_of 48 (by decide +kernel) rfl) ⟨hd1, hd2⟩ ⟨by decide, by decide, by decide +kernel⟩ (As := [.int x1]) rfl hr (hb0).1 (fs := cF7 h b0 (s.1 b0) (s.2 b0)) (GC_7 (cA := cA) (cL := cL) hb0 _ _) rfl rfl d hq (k _ hs)
theorem wX8_note_t_X8 : GoodIn GT (wsV RX8 44 RX8 yX8_note (.code yX8_note cX8_note 5 none :: GT)) := gt_V (gt_of 939 (by decide +kernel) rfl) (gt_of 941 (by decide +kernel) rfl) (gt_of 55 (by decide +kernel) rfl) (gt_of 204 (by decide +kernel) rfl) (gt_of 942 (by decide +kernel) rfl)
theorem vc_X8_note_t_X8 {p : Program} {l : Launch} {e : Env} {st : State} {m : MethodId} {args : Array Value} {below : List Frame} {meth : Method} {c : Code} {Q : State → Prop} {nL : Nat} {cc : ByteArray} {s : ST} {pc q : Nat} {lv : List (Nat × Value)} {rest : List Value} {D : va_G} {cA cL : ClassId} {h : Nat → Nat} {Z : State → Heap → Prop} {sa : Nat → Nat} (hZ : ZK h Z sa) {d0 : Nat} (X : Cx (KC D cA cL h Z) p st m args meth c cc nL RX8) {x2 : Int32} {x3 : Int32} {x4 : Int32} (d : decode cc pc = .ok (.invokevirtual 44, 3)) (hq : pc + 3 = q) (hd1 : 2 + 1 ≤ d0) (hd2 : 8 + (5 + 11) + 100 * 2 ≤ 100 * d0) (hr : (rest.map fun v => v.category).sum ≤ 8) {B : Type} {f : ST → B} {r : B} (hs : Lt (C_X8_note_t s x2 x3 x4) f = r) (k : ∀ y, f y = r → WG (KC D cA cL h Z) p l e (rmD d0) st m args below meth c Q nL y q lv (rest)) : WG (KC D cA cL h Z) p l e (rmD d0) st m args below meth c Q nL s pc lv (.int x4 :: .int x3 :: .int x2 :: .ref (h 72) :: .ref (h 79) :: rest) := by
  exact cV_V (K := KC D cA cL h Z) X 79 (n := 4) (k_X8_note_t hZ l D cA cL s x2 x3 x4) wX8_note_t_X8 ⟨hd1, hd2⟩ ⟨by decide, by decide, by decide +kernel⟩ (As := [.ref (h 72), .int x2, .int x3, .int x4]) rfl hr (sh_79).1 (fs := cF18 h 79 (s.1 79) (s.2 79)) (GC_18 (cA := cA) (cL := cL) sh_79 _ _) rfl rfl d hq (k _ hs)
def C_X8_plant_t (s : ST) (x2 : Int32) (x3 : Int32) : Option (Int32 × ST) := Lt (C_X7_hasKind s 8 x2) fun y1 => if y1 = 0 then (some ((0 : Int32), s)) else (Lt (C_X1_isSowable s 72 x3) fun y2 => if y2 = 0 then (some ((0 : Int32), s)) else (Bd (C_X1_laySeed s 72 x2 x3) fun s1 => Lt (C_X8_note_t s1 (0 : Int32) x3 x2) fun s2 => some ((1 : Int32), s2)))
set_option maxRecDepth 100000 in
set_option maxHeartbeats 4000000 in
theorem k_X8_plant_t {h : Nat → Nat} {Z : State → Heap → Prop} {sa : Nat → Nat} (hZ : ZK h Z sa) (l : Launch) (D : va_G) (cA cL : ClassId) (s : ST) (x2 : Int32) (x3 : Int32) {o : Int32 × ST} (hs : C_X8_plant_t s x2 x3 = some o) : MI l (KC D cA cL h Z) 3 yX8_plant cX8_plant 4 (some .boolean) s [.ref (h 79), .ref (h 72), .int x2, .int x3] o.1 o.2 := by
  refine met_i (by decide) (Nat.le_of_ble_eq_true rfl) ?_
  intro p e st m args below meth c Q X RI
  unfold C_X8_plant_t at hs
  refine g_aload_n X dX8_plant_0 (q := 1) rfl 0 rfl ?_
  refine cg_18_0 X dX8_plant_1 (q := 4) rfl sh_79 lf_X8_9 ?_
  refine g_iload_n X dX8_plant_4 (q := 5) rfl 2 rfl ?_
  refine vc_X7_hasKind_X8 hZ X dX8_plant_5 (q := 8) rfl sh_8 (Nat.le_of_ble_eq_true rfl) (Nat.le_of_ble_eq_true rfl) (Nat.le_of_ble_eq_true rfl) hs (fun y1 hs => ?_)
  refine g_if_eq X dX8_plant_8 (q := 11) rfl (tgt := 19) (by decide) hs ?_ ?_
  · intro hs
    refine g_iconst X dX8_plant_19 (q := 20) rfl li_i0 ?_
    exact RI _ 20 _ _ _ (rU1 hs) rfl (rV1 hs) dX8_plant_20
  · intro hs
    refine g_aload_n X dX8_plant_11 (q := 12) rfl 1 rfl ?_
    refine g_iload_n X dX8_plant_12 (q := 13) rfl 3 rfl ?_
    refine vc_X1_isSowable_X8 hZ X dX8_plant_13 (q := 16) rfl sh_72 (Nat.le_of_ble_eq_true rfl) (Nat.le_of_ble_eq_true rfl) (Nat.le_of_ble_eq_true rfl) hs (fun y2 hs => ?_)
    refine g_if_ne X dX8_plant_16 (q := 19) rfl (tgt := 21) (by decide) hs ?_ ?_
    · intro hs
      refine g_aload_n X dX8_plant_21 (q := 22) rfl 1 rfl ?_
      refine g_iload_n X dX8_plant_22 (q := 23) rfl 2 rfl ?_
      refine g_iload_n X dX8_plant_23 (q := 24) rfl 3 rfl ?_
      refine vc_X1_laySeed_X8 hZ X dX8_plant_24 (q := 27) rfl sh_72 (Nat.le_of_ble_eq_true rfl) (Nat.le_of_ble_eq_true rfl) (Nat.le_of_ble_eq_true rfl) hs (fun s1 hs => ?_)
      refine g_aload_n X dX8_plant_27 (q := 28) rfl 0 rfl ?_
      refine g_aload_n X dX8_plant_28 (q := 29) rfl 1 rfl ?_
      refine g_iconst X dX8_plant_29 (q := 30) rfl li_i0 ?_
      refine g_iload_n X dX8_plant_30 (q := 31) rfl 3 rfl ?_
      refine g_iload_n X dX8_plant_31 (q := 32) rfl 2 rfl ?_
      refine vc_X8_note_t_X8 hZ X dX8_plant_32 (q := 35) rfl (Nat.le_of_ble_eq_true rfl) (Nat.le_of_ble_eq_true rfl) (Nat.le_of_ble_eq_true rfl) hs (fun s2 hs => ?_)
      refine g_iconst X dX8_plant_35 (q := 36) rfl li_i1 ?_
      exact RI _ 36 _ _ _ (rU1 hs) rfl (rV1 hs) dX8_plant_36
    · intro hs
      refine g_iconst X dX8_plant_19 (q := 20) rfl li_i0 ?_
      exact RI _ 20 _ _ _ (rU1 hs) rfl (rV1 hs) dX8_plant_20
