theorem dX8_pull_0 : decode cX8_pull 0 = .ok (.aload_n 1, 1) := by decide +kernel
theorem dX8_pull_1 : decode cX8_pull 1 = .ok (.iload_n 2, 1) := by decide +kernel
theorem dX8_pull_2 : decode cX8_pull 2 = .ok (.invokevirtual 48, 3) := by decide +kernel
theorem dX8_pull_5 : decode cX8_pull 5 = .ok (.ifCond .eq 11, 3) := by decide +kernel
theorem dX8_pull_8 : decode cX8_pull 8 = .ok (.aload_n 1, 1) := by decide +kernel
theorem dX8_pull_9 : decode cX8_pull 9 = .ok (.iload_n 2, 1) := by decide +kernel
theorem dX8_pull_10 : decode cX8_pull 10 = .ok (.invokevirtual 51, 3) := by decide +kernel
theorem dX8_pull_13 : decode cX8_pull 13 = .ok (.ifCond .ne 5, 3) := by decide +kernel
theorem dX8_pull_16 : decode cX8_pull 16 = .ok (.iconst 0, 1) := by decide +kernel
theorem dX8_pull_17 : decode cX8_pull 17 = .ok (.ireturn, 1) := by decide +kernel
theorem dX8_pull_18 : decode cX8_pull 18 = .ok (.aload_n 1, 1) := by decide +kernel
theorem dX8_pull_19 : decode cX8_pull 19 = .ok (.iload_n 2, 1) := by decide +kernel
theorem dX8_pull_20 : decode cX8_pull 20 = .ok (.invokevirtual 54, 3) := by decide +kernel
theorem dX8_pull_23 : decode cX8_pull 23 = .ok (.aload_n 0, 1) := by decide +kernel
theorem dX8_pull_24 : decode cX8_pull 24 = .ok (.aload_n 1, 1) := by decide +kernel
theorem dX8_pull_25 : decode cX8_pull 25 = .ok (.iconst 1, 1) := by decide +kernel
theorem dX8_pull_26 : decode cX8_pull 26 = .ok (.iload_n 2, 1) := by decide +kernel
theorem dX8_pull_27 : decode cX8_pull 27 = .ok (.aload_n 1, 1) := by decide +kernel
theorem dX8_pull_28 : decode cX8_pull 28 = .ok (.getfield 58, 3) := by decide +kernel
theorem dX8_pull_31 : decode cX8_pull 31 = .ok (.iload_n 2, 1) := by decide +kernel
theorem dX8_pull_32 : decode cX8_pull 32 = .ok (.iaload, 1) := by decide +kernel
theorem dX8_pull_33 : decode cX8_pull 33 = .ok (.invokevirtual 44, 3) := by decide +kernel
theorem dX8_pull_36 : decode cX8_pull 36 = .ok (.iconst 1, 1) := by decide +kernel
theorem dX8_pull_37 : decode cX8_pull 37 = .ok (.ireturn, 1) := by decide +kernel
theorem wX1_hasSeed_X8 : Cond.methodLinkNest RX8 51 yX1_hasSeed "StormSeeds" ∈ NW := nw_of 954 (by decide +kernel) rfl
theorem vc_X1_hasSeed_X8 {p : Program} {l : Launch} {e : Env} {st : State} {m : MethodId} {args : Array Value} {below : List Frame} {meth : Method} {c : Code} {Q : State → Prop} {nL : Nat} {cc : ByteArray} {s : ST} {pc q : Nat} {lv : List (Nat × Value)} {rest : List Value} {D : va_G} {cA cL : ClassId} {h : Nat → Nat} {Z : State → Heap → Prop} {sa : Nat → Nat} (hZ : ZK h Z sa) {d0 : Nat} (X : Cx (KC D cA cL h Z) p st m args meth c cc nL RX8) {b0 : Nat} {x1 : Int32} (d : decode cc pc = .ok (.invokevirtual 51, 3)) (hq : pc + 3 = q) (hb0 : isK 1 b0) (hd1 : 2 + 1 ≤ d0) (hd2 : 8 + (2 + 11) + 100 * 2 ≤ 100 * d0) (hr : (rest.map fun v => v.category).sum ≤ 8) {B : Type} {f : Int32 → B} {r : B} (hs : Lt (C_X1_hasSeed s b0 x1) f = r) (k : ∀ y, f y = r → WG (KC D cA cL h Z) p l e (rmD d0) st m args below meth c Q nL s q lv (.int y :: rest)) : WG (KC D cA cL h Z) p l e (rmD d0) st m args below meth c Q nL s pc lv (.int x1 :: .ref (h b0) :: rest) := by
  exact cVN_I (K := KC D cA cL h Z) X b0 (n := 1) (k_X1_hasSeed hZ l D cA cL s b0 x1 hb0) (gt_c (gt_of 631 (by decide +kernel) rfl) gt_t) (hZ.1 st st.heap X.2.2.2 _ wX1_hasSeed_X8) (gt_of 197 (by decide +kernel) rfl) (gt_of 630 (by decide +kernel) rfl) (gt_of 10 (by decide +kernel) rfl) ⟨hd1, hd2⟩ ⟨by decide, by decide, by decide +kernel⟩ (As := [.int x1]) rfl hr (hb0).1 (fs := cF1 h b0 (s.1 b0) (s.2 b0)) (GC_1 (cA := cA) (cL := cL) hb0 _ _) rfl rfl d hq (k _ hs)
theorem wX1_isCell_X8 : Cond.methodLinkNest RX8 48 yX1_isCell "StormSeeds" ∈ NW := nw_of 953 (by decide +kernel) rfl
theorem vc_X1_isCell_X8 {p : Program} {l : Launch} {e : Env} {st : State} {m : MethodId} {args : Array Value} {below : List Frame} {meth : Method} {c : Code} {Q : State → Prop} {nL : Nat} {cc : ByteArray} {s : ST} {pc q : Nat} {lv : List (Nat × Value)} {rest : List Value} {D : va_G} {cA cL : ClassId} {h : Nat → Nat} {Z : State → Heap → Prop} {sa : Nat → Nat} (hZ : ZK h Z sa) {d0 : Nat} (X : Cx (KC D cA cL h Z) p st m args meth c cc nL RX8) {b0 : Nat} {x1 : Int32} (d : decode cc pc = .ok (.invokevirtual 48, 3)) (hq : pc + 3 = q) (hb0 : isK 1 b0) (hd1 : 1 + 1 ≤ d0) (hd2 : 8 + (2 + 11) + 100 * 1 ≤ 100 * d0) (hr : (rest.map fun v => v.category).sum ≤ 8) {B : Type} {f : Int32 → B} {r : B} (hs : Lt (C_X1_isCell s b0 x1) f = r) (k : ∀ y, f y = r → WG (KC D cA cL h Z) p l e (rmD d0) st m args below meth c Q nL s q lv (.int y :: rest)) : WG (KC D cA cL h Z) p l e (rmD d0) st m args below meth c Q nL s pc lv (.int x1 :: .ref (h b0) :: rest) := by
  exact cVN_I (K := KC D cA cL h Z) X b0 (n := 1) (k_X1_isCell hZ l D cA cL s b0 x1 hb0) (gt_c (gt_of 623 (by decide +kernel) rfl) gt_t) (hZ.1 st st.heap X.2.2.2 _ wX1_isCell_X8) (gt_of 197 (by decide +kernel) rfl) (gt_of 622 (by decide +kernel) rfl) (gt_of 8 (by decide +kernel) rfl) ⟨hd1, hd2⟩ ⟨by decide, by decide, by decide +kernel⟩ (As := [.int x1]) rfl hr (hb0).1 (fs := cF1 h b0 (s.1 b0) (s.2 b0)) (GC_1 (cA := cA) (cL := cL) hb0 _ _) rfl rfl d hq (k _ hs)
theorem wX1_liftSeed_X8 : Cond.methodLinkNest RX8 54 yX1_liftSeed "StormSeeds" ∈ NW := nw_of 955 (by decide +kernel) rfl
theorem vc_X1_liftSeed_X8 {p : Program} {l : Launch} {e : Env} {st : State} {m : MethodId} {args : Array Value} {below : List Frame} {meth : Method} {c : Code} {Q : State → Prop} {nL : Nat} {cc : ByteArray} {s : ST} {pc q : Nat} {lv : List (Nat × Value)} {rest : List Value} {D : va_G} {cA cL : ClassId} {h : Nat → Nat} {Z : State → Heap → Prop} {sa : Nat → Nat} (hZ : ZK h Z sa) {d0 : Nat} (X : Cx (KC D cA cL h Z) p st m args meth c cc nL RX8) {b0 : Nat} {x1 : Int32} (d : decode cc pc = .ok (.invokevirtual 54, 3)) (hq : pc + 3 = q) (hb0 : isK 1 b0) (hd1 : 1 + 1 ≤ d0) (hd2 : 8 + (2 + 11) + 100 * 1 ≤ 100 * d0) (hr : (rest.map fun v => v.category).sum ≤ 8) {B : Type} {f : ST → B} {r : B} (hs : Lt (C_X1_liftSeed s b0 x1) f = r) (k : ∀ y, f y = r → WG (KC D cA cL h Z) p l e (rmD d0) st m args below meth c Q nL y q lv (rest)) : WG (KC D cA cL h Z) p l e (rmD d0) st m args below meth c Q nL s pc lv (.int x1 :: .ref (h b0) :: rest) := by
  exact cVN_V (K := KC D cA cL h Z) X b0 (n := 1) (k_X1_liftSeed hZ l D cA cL s b0 x1 hb0) (gt_c (gt_of 958 (by decide +kernel) rfl) gt_t) (hZ.1 st st.heap X.2.2.2 _ wX1_liftSeed_X8) (gt_of 197 (by decide +kernel) rfl) (gt_of 957 (by decide +kernel) rfl) (gt_of 57 (by decide +kernel) rfl) ⟨hd1, hd2⟩ ⟨by decide, by decide, by decide +kernel⟩ (As := [.int x1]) rfl hr (hb0).1 (fs := cF1 h b0 (s.1 b0) (s.2 b0)) (GC_1 (cA := cA) (cL := cL) hb0 _ _) rfl rfl d hq (k _ hs)
def C_X8_pull_t (s : ST) (x2 : Int32) : Option (Int32 × ST) := Lt (C_X1_isCell s 72 x2) fun y1 => if y1 = 0 then (some ((0 : Int32), s)) else (Lt (C_X1_hasSeed s 72 x2) fun y2 => if y2 = 0 then (some ((0 : Int32), s)) else (Lt (C_X1_liftSeed s 72 x2) fun s1 => Gl s1 74 64 x2 fun y3 => Lt (C_X8_note_t s1 (1 : Int32) x2 y3) fun s2 => some ((1 : Int32), s2)))
set_option maxRecDepth 100000 in
set_option maxHeartbeats 4000000 in
theorem k_X8_pull_t {h : Nat → Nat} {Z : State → Heap → Prop} {sa : Nat → Nat} (hZ : ZK h Z sa) (l : Launch) (D : va_G) (cA cL : ClassId) (s : ST) (x2 : Int32) {o : Int32 × ST} (hs : C_X8_pull_t s x2 = some o) : MI l (KC D cA cL h Z) 3 yX8_pull cX8_pull 3 (some .boolean) s [.ref (h 79), .ref (h 72), .int x2] o.1 o.2 := by
  refine met_i (by decide) (Nat.le_of_ble_eq_true rfl) ?_
  intro p e st m args below meth c Q X RI
  unfold C_X8_pull_t at hs
  refine g_aload_n X dX8_pull_0 (q := 1) rfl 1 rfl ?_
  refine g_iload_n X dX8_pull_1 (q := 2) rfl 2 rfl ?_
  refine vc_X1_isCell_X8 hZ X dX8_pull_2 (q := 5) rfl sh_72 (Nat.le_of_ble_eq_true rfl) (Nat.le_of_ble_eq_true rfl) (Nat.le_of_ble_eq_true rfl) hs (fun y1 hs => ?_)
  refine g_if_eq X dX8_pull_5 (q := 8) rfl (tgt := 16) (by decide) hs ?_ ?_
  · intro hs
    refine g_iconst X dX8_pull_16 (q := 17) rfl li_i0 ?_
    exact RI _ 17 _ _ _ (rU1 hs) rfl (rV1 hs) dX8_pull_17
  · intro hs
    refine g_aload_n X dX8_pull_8 (q := 9) rfl 1 rfl ?_
    refine g_iload_n X dX8_pull_9 (q := 10) rfl 2 rfl ?_
    refine vc_X1_hasSeed_X8 hZ X dX8_pull_10 (q := 13) rfl sh_72 (Nat.le_of_ble_eq_true rfl) (Nat.le_of_ble_eq_true rfl) (Nat.le_of_ble_eq_true rfl) hs (fun y2 hs => ?_)
    refine g_if_ne X dX8_pull_13 (q := 16) rfl (tgt := 18) (by decide) hs ?_ ?_
    · intro hs
      refine g_aload_n X dX8_pull_18 (q := 19) rfl 1 rfl ?_
      refine g_iload_n X dX8_pull_19 (q := 20) rfl 2 rfl ?_
      refine vc_X1_liftSeed_X8 hZ X dX8_pull_20 (q := 23) rfl sh_72 (Nat.le_of_ble_eq_true rfl) (Nat.le_of_ble_eq_true rfl) (Nat.le_of_ble_eq_true rfl) hs (fun s1 hs => ?_)
      refine g_aload_n X dX8_pull_23 (q := 24) rfl 0 rfl ?_
      refine g_aload_n X dX8_pull_24 (q := 25) rfl 1 rfl ?_
      refine g_iconst X dX8_pull_25 (q := 26) rfl li_i1 ?_
      refine g_iload_n X dX8_pull_26 (q := 27) rfl 2 rfl ?_
      refine g_aload_n X dX8_pull_27 (q := 28) rfl 1 rfl ?_
      refine cgN_1_11 hZ X dX8_pull_28 (q := 31) rfl sh_72 lf_X8_58 ?_
      refine g_iload_n X dX8_pull_31 (q := 32) rfl 2 rfl ?_
      refine ca_ld X dX8_pull_32 (q := 33) rfl 74 sh_74 rfl hs (fun y3 hs => ?_)
      refine vc_X8_note_t_X8 hZ X dX8_pull_33 (q := 36) rfl (Nat.le_of_ble_eq_true rfl) (Nat.le_of_ble_eq_true rfl) (Nat.le_of_ble_eq_true rfl) hs (fun s2 hs => ?_)
      refine g_iconst X dX8_pull_36 (q := 37) rfl li_i1 ?_
      exact RI _ 37 _ _ _ (rU1 hs) rfl (rV1 hs) dX8_pull_37
    · intro hs
      refine g_iconst X dX8_pull_16 (q := 17) rfl li_i0 ?_
      exact RI _ 17 _ _ _ (rU1 hs) rfl (rV1 hs) dX8_pull_17
theorem dX8_followPlan_0 : decode cX8_followPlan 0 = .ok (.iconst 0, 1) := by decide +kernel
theorem dX8_followPlan_1 : decode cX8_followPlan 1 = .ok (.istore_n 2, 1) := by decide +kernel
theorem dX8_followPlan_2 : decode cX8_followPlan 2 = .ok (.iload_n 2, 1) := by decide +kernel
theorem dX8_followPlan_3 : decode cX8_followPlan 3 = .ok (.aload_n 0, 1) := by decide +kernel
theorem dX8_followPlan_4 : decode cX8_followPlan 4 = .ok (.getfield 9, 3) := by decide +kernel
theorem dX8_followPlan_7 : decode cX8_followPlan 7 = .ok (.getfield 108, 3) := by decide +kernel
theorem dX8_followPlan_10 : decode cX8_followPlan 10 = .ok (.getfield 102, 3) := by decide +kernel
theorem dX8_followPlan_13 : decode cX8_followPlan 13 = .ok (.if_icmp .ge 112, 3) := by decide +kernel
theorem dX8_followPlan_16 : decode cX8_followPlan 16 = .ok (.aload_n 0, 1) := by decide +kernel
theorem dX8_followPlan_17 : decode cX8_followPlan 17 = .ok (.getfield 9, 3) := by decide +kernel
theorem dX8_followPlan_20 : decode cX8_followPlan 20 = .ok (.getfield 108, 3) := by decide +kernel
theorem dX8_followPlan_23 : decode cX8_followPlan 23 = .ok (.iload_n 2, 1) := by decide +kernel
theorem dX8_followPlan_24 : decode cX8_followPlan 24 = .ok (.iconst 0, 1) := by decide +kernel
theorem dX8_followPlan_25 : decode cX8_followPlan 25 = .ok (.invokevirtual 72, 3) := by decide +kernel
theorem dX8_followPlan_28 : decode cX8_followPlan 28 = .ok (.aload_n 1, 1) := by decide +kernel
theorem dX8_followPlan_29 : decode cX8_followPlan 29 = .ok (.getfield 19, 3) := by decide +kernel
theorem dX8_followPlan_32 : decode cX8_followPlan 32 = .ok (.if_icmp .eq 6, 3) := by decide +kernel
theorem dX8_followPlan_35 : decode cX8_followPlan 35 = .ok (.goto 84, 3) := by decide +kernel
theorem dX8_followPlan_38 : decode cX8_followPlan 38 = .ok (.aload_n 0, 1) := by decide +kernel
theorem dX8_followPlan_39 : decode cX8_followPlan 39 = .ok (.getfield 9, 3) := by decide +kernel
theorem dX8_followPlan_42 : decode cX8_followPlan 42 = .ok (.getfield 108, 3) := by decide +kernel
theorem dX8_followPlan_45 : decode cX8_followPlan 45 = .ok (.iload_n 2, 1) := by decide +kernel
theorem dX8_followPlan_46 : decode cX8_followPlan 46 = .ok (.iconst 1, 1) := by decide +kernel
theorem dX8_followPlan_47 : decode cX8_followPlan 47 = .ok (.invokevirtual 72, 3) := by decide +kernel
theorem dX8_followPlan_50 : decode cX8_followPlan 50 = .ok (.istore_n 3, 1) := by decide +kernel
theorem dX8_followPlan_51 : decode cX8_followPlan 51 = .ok (.aload_n 0, 1) := by decide +kernel
theorem dX8_followPlan_52 : decode cX8_followPlan 52 = .ok (.getfield 9, 3) := by decide +kernel
theorem dX8_followPlan_55 : decode cX8_followPlan 55 = .ok (.getfield 108, 3) := by decide +kernel
theorem dX8_followPlan_58 : decode cX8_followPlan 58 = .ok (.iload_n 2, 1) := by decide +kernel
theorem dX8_followPlan_59 : decode cX8_followPlan 59 = .ok (.iconst 2, 1) := by decide +kernel
theorem dX8_followPlan_60 : decode cX8_followPlan 60 = .ok (.invokevirtual 72, 3) := by decide +kernel
theorem dX8_followPlan_63 : decode cX8_followPlan 63 = .ok (.istore 4, 2) := by decide +kernel
theorem dX8_followPlan_65 : decode cX8_followPlan 65 = .ok (.aload_n 0, 1) := by decide +kernel
theorem dX8_followPlan_66 : decode cX8_followPlan 66 = .ok (.getfield 9, 3) := by decide +kernel
theorem dX8_followPlan_69 : decode cX8_followPlan 69 = .ok (.getfield 108, 3) := by decide +kernel
theorem dX8_followPlan_72 : decode cX8_followPlan 72 = .ok (.iload_n 2, 1) := by decide +kernel
theorem dX8_followPlan_73 : decode cX8_followPlan 73 = .ok (.iconst 3, 1) := by decide +kernel
theorem dX8_followPlan_74 : decode cX8_followPlan 74 = .ok (.invokevirtual 72, 3) := by decide +kernel
theorem dX8_followPlan_77 : decode cX8_followPlan 77 = .ok (.istore 5, 2) := by decide +kernel
theorem dX8_followPlan_79 : decode cX8_followPlan 79 = .ok (.iload_n 3, 1) := by decide +kernel
theorem dX8_followPlan_80 : decode cX8_followPlan 80 = .ok (.ifCond .ne 16, 3) := by decide +kernel
theorem dX8_followPlan_83 : decode cX8_followPlan 83 = .ok (.aload_n 0, 1) := by decide +kernel
theorem dX8_followPlan_84 : decode cX8_followPlan 84 = .ok (.aload_n 1, 1) := by decide +kernel
theorem dX8_followPlan_85 : decode cX8_followPlan 85 = .ok (.iload 4, 2) := by decide +kernel
theorem dX8_followPlan_87 : decode cX8_followPlan 87 = .ok (.iload 5, 2) := by decide +kernel
theorem dX8_followPlan_89 : decode cX8_followPlan 89 = .ok (.invokevirtual 111, 3) := by decide +kernel
theorem dX8_followPlan_92 : decode cX8_followPlan 92 = .ok (.pop, 1) := by decide +kernel
theorem dX8_followPlan_93 : decode cX8_followPlan 93 = .ok (.goto 26, 3) := by decide +kernel
theorem dX8_followPlan_96 : decode cX8_followPlan 96 = .ok (.iload_n 3, 1) := by decide +kernel
theorem dX8_followPlan_97 : decode cX8_followPlan 97 = .ok (.iconst 1, 1) := by decide +kernel
theorem dX8_followPlan_98 : decode cX8_followPlan 98 = .ok (.if_icmp .ne 14, 3) := by decide +kernel
theorem dX8_followPlan_101 : decode cX8_followPlan 101 = .ok (.aload_n 0, 1) := by decide +kernel
theorem dX8_followPlan_102 : decode cX8_followPlan 102 = .ok (.aload_n 1, 1) := by decide +kernel
theorem dX8_followPlan_103 : decode cX8_followPlan 103 = .ok (.iload 5, 2) := by decide +kernel
theorem dX8_followPlan_105 : decode cX8_followPlan 105 = .ok (.invokevirtual 115, 3) := by decide +kernel
theorem dX8_followPlan_108 : decode cX8_followPlan 108 = .ok (.pop, 1) := by decide +kernel
theorem dX8_followPlan_109 : decode cX8_followPlan 109 = .ok (.goto 10, 3) := by decide +kernel
theorem dX8_followPlan_112 : decode cX8_followPlan 112 = .ok (.aload_n 1, 1) := by decide +kernel
theorem dX8_followPlan_113 : decode cX8_followPlan 113 = .ok (.iload 4, 2) := by decide +kernel
theorem dX8_followPlan_115 : decode cX8_followPlan 115 = .ok (.invokevirtual 118, 3) := by decide +kernel
theorem dX8_followPlan_118 : decode cX8_followPlan 118 = .ok (.pop, 1) := by decide +kernel
theorem dX8_followPlan_119 : decode cX8_followPlan 119 = .ok (.iinc 2 1, 3) := by decide +kernel
theorem dX8_followPlan_122 : decode cX8_followPlan 122 = .ok (.goto (-120), 3) := by decide +kernel
theorem dX8_followPlan_125 : decode cX8_followPlan 125 = .ok (.return_, 1) := by decide +kernel
theorem wX1_veer_X8 : Cond.methodLinkNest RX8 118 yX1_veer "StormSeeds" ∈ NW := nw_of 991 (by decide +kernel) rfl
theorem vc_X1_veer_X8 {p : Program} {l : Launch} {e : Env} {st : State} {m : MethodId} {args : Array Value} {below : List Frame} {meth : Method} {c : Code} {Q : State → Prop} {nL : Nat} {cc : ByteArray} {s : ST} {pc q : Nat} {lv : List (Nat × Value)} {rest : List Value} {D : va_G} {cA cL : ClassId} {h : Nat → Nat} {Z : State → Heap → Prop} {sa : Nat → Nat} (hZ : ZK h Z sa) {d0 : Nat} (X : Cx (KC D cA cL h Z) p st m args meth c cc nL RX8) {b0 : Nat} {x1 : Int32} (d : decode cc pc = .ok (.invokevirtual 118, 3)) (hq : pc + 3 = q) (hb0 : isK 1 b0) (hd1 : 3 + 1 ≤ d0) (hd2 : 8 + (2 + 11) + 100 * 3 ≤ 100 * d0) (hr : (rest.map fun v => v.category).sum ≤ 8) {B : Type} {f : Int32 × ST → B} {r : B} (hs : Lt (C_X1_veer s b0 x1) f = r) (k : ∀ y, f y = r → WG (KC D cA cL h Z) p l e (rmD d0) st m args below meth c Q nL y.2 q lv (.int y.1 :: rest)) : WG (KC D cA cL h Z) p l e (rmD d0) st m args below meth c Q nL s pc lv (.int x1 :: .ref (h b0) :: rest) := by
  exact cVN_I (K := KC D cA cL h Z) X b0 (n := 1) (k_X1_veer hZ l D cA cL s b0 x1 hb0) (gt_c (gt_of 970 (by decide +kernel) rfl) gt_t) (hZ.1 st st.heap X.2.2.2 _ wX1_veer_X8) (gt_of 197 (by decide +kernel) rfl) (gt_of 969 (by decide +kernel) rfl) (gt_of 59 (by decide +kernel) rfl) ⟨hd1, hd2⟩ ⟨by decide, by decide, by decide +kernel⟩ (As := [.int x1]) rfl hr (hb0).1 (fs := cF1 h b0 (s.1 b0) (s.2 b0)) (GC_1 (cA := cA) (cL := cL) hb0 _ _) rfl rfl d hq (k _ hs)
theorem wX4_of_X8 : Cond.methodLinkNest RX8 72 yX4_of "StormSeeds" ∈ NW := nw_of 984 (by decide +kernel) rfl
theorem vc_X4_of_X8 {p : Program} {l : Launch} {e : Env} {st : State} {m : MethodId} {args : Array Value} {below : List Frame} {meth : Method} {c : Code} {Q : State → Prop} {nL : Nat} {cc : ByteArray} {s : ST} {pc q : Nat} {lv : List (Nat × Value)} {rest : List Value} {D : va_G} {cA cL : ClassId} {h : Nat → Nat} {Z : State → Heap → Prop} {sa : Nat → Nat} (hZ : ZK h Z sa) {d0 : Nat} (X : Cx (KC D cA cL h Z) p st m args meth c cc nL RX8) {b0 : Nat} {x1 : Int32} {x2 : Int32} (d : decode cc pc = .ok (.invokevirtual 72, 3)) (hq : pc + 3 = q) (hb0 : isK 4 b0) (hd1 : 2 + 1 ≤ d0) (hd2 : 8 + (3 + 11) + 100 * 2 ≤ 100 * d0) (hr : (rest.map fun v => v.category).sum ≤ 8) {B : Type} {f : Int32 → Option B} {r : B} (hs : Bd (C_X4_of s b0 x1 x2) f = some r) (k : ∀ y, f y = some r → WG (KC D cA cL h Z) p l e (rmD d0) st m args below meth c Q nL s q lv (.int y :: rest)) : WG (KC D cA cL h Z) p l e (rmD d0) st m args below meth c Q nL s pc lv (.int x2 :: .int x1 :: .ref (h b0) :: rest) := by
  obtain ⟨v, hv, hs⟩ := Bd_e hs
  exact cVN_I (K := KC D cA cL h Z) X b0 (n := 2) (k_X4_of hZ l D cA cL s b0 x1 x2 hb0 hv) (gt_c (gt_of 987 (by decide +kernel) rfl) gt_t) (hZ.1 st st.heap X.2.2.2 _ wX4_of_X8) (gt_of 199 (by decide +kernel) rfl) (gt_of 986 (by decide +kernel) rfl) (gt_of 62 (by decide +kernel) rfl) ⟨hd1, hd2⟩ ⟨by decide, by decide, by decide +kernel⟩ (As := [.int x1, .int x2]) rfl hr (hb0).1 (fs := cF4 h b0 (s.1 b0) (s.2 b0)) (GC_4 (cA := cA) (cL := cL) hb0 _ _) rfl rfl d hq (k _ hs)
theorem wX8_plant_t_X8 : GoodIn GT (wsV RX8 111 RX8 yX8_plant (.code yX8_plant cX8_plant 4 (some .boolean) :: GT)) := gt_V (gt_of 989 (by decide +kernel) rfl) (gt_of 931 (by decide +kernel) rfl) (gt_of 53 (by decide +kernel) rfl) (gt_of 204 (by decide +kernel) rfl) (gt_of 932 (by decide +kernel) rfl)
theorem vc_X8_plant_t_X8 {p : Program} {l : Launch} {e : Env} {st : State} {m : MethodId} {args : Array Value} {below : List Frame} {meth : Method} {c : Code} {Q : State → Prop} {nL : Nat} {cc : ByteArray} {s : ST} {pc q : Nat} {lv : List (Nat × Value)} {rest : List Value} {D : va_G} {cA cL : ClassId} {h : Nat → Nat} {Z : State → Heap → Prop} {sa : Nat → Nat} (hZ : ZK h Z sa) {d0 : Nat} (X : Cx (KC D cA cL h Z) p st m args meth c cc nL RX8) {x2 : Int32} {x3 : Int32} (d : decode cc pc = .ok (.invokevirtual 111, 3)) (hq : pc + 3 = q) (hd1 : 3 + 1 ≤ d0) (hd2 : 8 + (4 + 11) + 100 * 3 ≤ 100 * d0) (hr : (rest.map fun v => v.category).sum ≤ 8) {B : Type} {f : Int32 × ST → Option B} {r : B} (hs : Bd (C_X8_plant_t s x2 x3) f = some r) (k : ∀ y, f y = some r → WG (KC D cA cL h Z) p l e (rmD d0) st m args below meth c Q nL y.2 q lv (.int y.1 :: rest)) : WG (KC D cA cL h Z) p l e (rmD d0) st m args below meth c Q nL s pc lv (.int x3 :: .int x2 :: .ref (h 72) :: .ref (h 79) :: rest) := by
  obtain ⟨v, hv, hs⟩ := Bd_e hs
  exact cV_I (K := KC D cA cL h Z) X 79 (n := 3) (k_X8_plant_t hZ l D cA cL s x2 x3 hv) wX8_plant_t_X8 ⟨hd1, hd2⟩ ⟨by decide, by decide, by decide +kernel⟩ (As := [.ref (h 72), .int x2, .int x3]) rfl hr (sh_79).1 (fs := cF18 h 79 (s.1 79) (s.2 79)) (GC_18 (cA := cA) (cL := cL) sh_79 _ _) rfl rfl d hq (k _ hs)
theorem wX8_pull_t_X8 : GoodIn GT (wsV RX8 115 RX8 yX8_pull (.code yX8_pull cX8_pull 3 (some .boolean) :: GT)) := gt_V (gt_of 990 (by decide +kernel) rfl) (gt_of 951 (by decide +kernel) rfl) (gt_of 56 (by decide +kernel) rfl) (gt_of 204 (by decide +kernel) rfl) (gt_of 952 (by decide +kernel) rfl)
theorem vc_X8_pull_t_X8 {p : Program} {l : Launch} {e : Env} {st : State} {m : MethodId} {args : Array Value} {below : List Frame} {meth : Method} {c : Code} {Q : State → Prop} {nL : Nat} {cc : ByteArray} {s : ST} {pc q : Nat} {lv : List (Nat × Value)} {rest : List Value} {D : va_G} {cA cL : ClassId} {h : Nat → Nat} {Z : State → Heap → Prop} {sa : Nat → Nat} (hZ : ZK h Z sa) {d0 : Nat} (X : Cx (KC D cA cL h Z) p st m args meth c cc nL RX8) {x2 : Int32} (d : decode cc pc = .ok (.invokevirtual 115, 3)) (hq : pc + 3 = q) (hd1 : 3 + 1 ≤ d0) (hd2 : 8 + (3 + 11) + 100 * 3 ≤ 100 * d0) (hr : (rest.map fun v => v.category).sum ≤ 8) {B : Type} {f : Int32 × ST → Option B} {r : B} (hs : Bd (C_X8_pull_t s x2) f = some r) (k : ∀ y, f y = some r → WG (KC D cA cL h Z) p l e (rmD d0) st m args below meth c Q nL y.2 q lv (.int y.1 :: rest)) : WG (KC D cA cL h Z) p l e (rmD d0) st m args below meth c Q nL s pc lv (.int x2 :: .ref (h 72) :: .ref (h 79) :: rest) := by
  obtain ⟨v, hv, hs⟩ := Bd_e hs
  exact cV_I (K := KC D cA cL h Z) X 79 (n := 2) (k_X8_pull_t hZ l D cA cL s x2 hv) wX8_pull_t_X8 ⟨hd1, hd2⟩ ⟨by decide, by decide, by decide +kernel⟩ (As := [.ref (h 72), .int x2]) rfl hr (sh_79).1 (fs := cF18 h 79 (s.1 79) (s.2 79)) (GC_18 (cA := cA) (cL := cL) sh_79 _ _) rfl rfl d hq (k _ hs)
def C_X8_followPlan_t (s : ST) : Option (ST) := lpK2 (C := ST) (fun (rec1 : Int32 → ST → Option (ST)) (a1 : Int32) (s1 : ST) => if (s1.1 21 2) ≤ a1 then (some s1) else (Bd (C_X4_of s1 21 a1 (0 : Int32)) fun y1 => Lt (fun (s2 : ST) => (rec1 (a1 + (1 : Int32)) s2 : Option (ST))) fun j1 => if y1 = (s1.1 72 2) then (Bd (C_X4_of s1 21 a1 (1 : Int32)) fun y2 => Bd (C_X4_of s1 21 a1 (2 : Int32)) fun y3 => Bd (C_X4_of s1 21 a1 (3 : Int32)) fun y4 => if y2 = 0 then (Bd (C_X8_plant_t s1 y3 y4) fun y7 => j1 y7.2) else (if y2 = (1 : Int32) then (Bd (C_X8_pull_t s1 y4) fun y6 => j1 y6.2) else (Lt (C_X1_veer s1 72 y3) fun y5 => j1 y5.2))) else (j1 s1))) FU (0 : Int32) s
set_option maxRecDepth 100000 in
set_option maxHeartbeats 4000000 in
theorem k_X8_followPlan_t {h : Nat → Nat} {Z : State → Heap → Prop} {sa : Nat → Nat} (hZ : ZK h Z sa) (l : Launch) (D : va_G) (cA cL : ClassId) (s : ST) {o : ST} (hs : C_X8_followPlan_t s = some o) : MV l (KC D cA cL h Z) 4 yX8_followPlan cX8_followPlan 6 none s [.ref (h 79), .ref (h 72)] o := by
  refine met_v (by decide) (Nat.le_of_ble_eq_true rfl) ?_
  intro p e st m args below meth c Q X RI
  unfold C_X8_followPlan_t at hs
  refine g_iconst X dX8_followPlan_0 (q := 1) rfl li_i0 ?_
  refine g_istore_n X dX8_followPlan_1 (q := 2) rfl (Nat.le_of_ble_eq_true rfl) (lv' := [(2, .int (0 : Int32)), (0, .ref (h 79)), (1, .ref (h 72))]) rfl ?_
  refine wg_sub [1, 2, 0] rfl (lpW2 (fun (a1 : Int32) (s1 : ST) => WG (KC D cA cL h Z) p l e (rmD 4) st m args below meth c Q 6 s1 2 [(0, .ref (h 79)), (1, .ref (h 72)), (2, .int a1)] []) (fun rec1 ih1 a1 s1 hs => ?_) _ _ _ hs)
  refine g_iload_n X dX8_followPlan_2 (q := 3) rfl 2 rfl ?_
  refine g_aload_n X dX8_followPlan_3 (q := 4) rfl 0 rfl ?_
  refine cg_18_0 X dX8_followPlan_4 (q := 7) rfl sh_79 lf_X8_9 ?_
  refine cgN_7_4 hZ X dX8_followPlan_7 (q := 10) rfl sh_8 lf_X8_108 ?_
  refine cgN_4_2 hZ X dX8_followPlan_10 (q := 13) rfl sh_21 lf_X8_102 ?_
  refine g_icmp_ge X dX8_followPlan_13 (q := 16) rfl (tgt := 125) (by decide) hs ?_ ?_
  · intro hs
    exact RI _ 125 _ (Option.some.inj hs) dX8_followPlan_125
  · intro hs
    refine g_aload_n X dX8_followPlan_16 (q := 17) rfl 0 rfl ?_
    refine cg_18_0 X dX8_followPlan_17 (q := 20) rfl sh_79 lf_X8_9 ?_
    refine cgN_7_4 hZ X dX8_followPlan_20 (q := 23) rfl sh_8 lf_X8_108 ?_
    refine g_iload_n X dX8_followPlan_23 (q := 24) rfl 2 rfl ?_
    refine g_iconst X dX8_followPlan_24 (q := 25) rfl li_i0 ?_
    refine vc_X4_of_X8 hZ X dX8_followPlan_25 (q := 28) rfl sh_21 (Nat.le_of_ble_eq_true rfl) (Nat.le_of_ble_eq_true rfl) (Nat.le_of_ble_eq_true rfl) hs (fun y1 hs => ?_)
    refine g_aload_n X dX8_followPlan_28 (q := 29) rfl 1 rfl ?_
    refine cgN_1_2 hZ X dX8_followPlan_29 (q := 32) rfl sh_72 lf_X8_19 ?_
    refine jnW1 (fun (s2 : ST) => WG (KC D cA cL h Z) p l e (rmD 4) st m args below meth c Q 6 s2 119 [(0, .ref (h 79)), (1, .ref (h 72)), (2, .int a1)] []) hs (fun s2 hs => ?_) (fun j1 ih2 hs => ?_)
    · refine g_iinc X dX8_followPlan_119 (q := 122) rfl 2 rfl (v := (a1 + (1 : Int32))) (congrArg (HAdd.hAdd a1) li_i1) (Nat.le_of_ble_eq_true rfl) (lv' := [(2, .int (a1 + (1 : Int32))), (0, .ref (h 79)), (1, .ref (h 72))]) rfl ?_
      refine g_goto X dX8_followPlan_122 (tgt := 2) (by decide) ?_
      exact wg_sub [1, 2, 0] rfl (ih1 _ _ hs)
    refine g_icmp_eq X dX8_followPlan_32 (q := 35) rfl (tgt := 38) (by decide) hs ?_ ?_
    · intro hs
      refine g_aload_n X dX8_followPlan_38 (q := 39) rfl 0 rfl ?_
      refine cg_18_0 X dX8_followPlan_39 (q := 42) rfl sh_79 lf_X8_9 ?_
      refine cgN_7_4 hZ X dX8_followPlan_42 (q := 45) rfl sh_8 lf_X8_108 ?_
      refine g_iload_n X dX8_followPlan_45 (q := 46) rfl 2 rfl ?_
      refine g_iconst X dX8_followPlan_46 (q := 47) rfl li_i1 ?_
      refine vc_X4_of_X8 hZ X dX8_followPlan_47 (q := 50) rfl sh_21 (Nat.le_of_ble_eq_true rfl) (Nat.le_of_ble_eq_true rfl) (Nat.le_of_ble_eq_true rfl) hs (fun y2 hs => ?_)
      refine g_istore_n X dX8_followPlan_50 (q := 51) rfl (Nat.le_of_ble_eq_true rfl) (lv' := [(3, .int y2), (0, .ref (h 79)), (1, .ref (h 72)), (2, .int a1)]) rfl ?_
      refine g_aload_n X dX8_followPlan_51 (q := 52) rfl 1 rfl ?_
      refine cg_18_0 X dX8_followPlan_52 (q := 55) rfl sh_79 lf_X8_9 ?_
      refine cgN_7_4 hZ X dX8_followPlan_55 (q := 58) rfl sh_8 lf_X8_108 ?_
      refine g_iload_n X dX8_followPlan_58 (q := 59) rfl 3 rfl ?_
      refine g_iconst X dX8_followPlan_59 (q := 60) rfl li_i2 ?_
      refine vc_X4_of_X8 hZ X dX8_followPlan_60 (q := 63) rfl sh_21 (Nat.le_of_ble_eq_true rfl) (Nat.le_of_ble_eq_true rfl) (Nat.le_of_ble_eq_true rfl) hs (fun y3 hs => ?_)
      refine g_istore X dX8_followPlan_63 (q := 65) rfl (Nat.le_of_ble_eq_true rfl) (lv' := [(4, .int y3), (3, .int y2), (0, .ref (h 79)), (1, .ref (h 72)), (2, .int a1)]) rfl ?_
      refine g_aload_n X dX8_followPlan_65 (q := 66) rfl 2 rfl ?_
      refine cg_18_0 X dX8_followPlan_66 (q := 69) rfl sh_79 lf_X8_9 ?_
      refine cgN_7_4 hZ X dX8_followPlan_69 (q := 72) rfl sh_8 lf_X8_108 ?_
      refine g_iload_n X dX8_followPlan_72 (q := 73) rfl 4 rfl ?_
      refine g_iconst X dX8_followPlan_73 (q := 74) rfl li_i3 ?_
      refine vc_X4_of_X8 hZ X dX8_followPlan_74 (q := 77) rfl sh_21 (Nat.le_of_ble_eq_true rfl) (Nat.le_of_ble_eq_true rfl) (Nat.le_of_ble_eq_true rfl) hs (fun y4 hs => ?_)
      refine g_istore X dX8_followPlan_77 (q := 79) rfl (Nat.le_of_ble_eq_true rfl) (lv' := [(5, .int y4), (4, .int y3), (3, .int y2), (0, .ref (h 79)), (1, .ref (h 72)), (2, .int a1)]) rfl ?_
      refine g_iload_n X dX8_followPlan_79 (q := 80) rfl 2 rfl ?_
      refine g_if_ne X dX8_followPlan_80 (q := 83) rfl (tgt := 96) (by decide) hs ?_ ?_
      · intro hs
        refine g_iload_n X dX8_followPlan_96 (q := 97) rfl 2 rfl ?_
        refine g_iconst X dX8_followPlan_97 (q := 98) rfl li_i1 ?_
        refine g_icmp_ne X dX8_followPlan_98 (q := 101) rfl (tgt := 112) (by decide) hs ?_ ?_
        · intro hs
          refine g_aload_n X dX8_followPlan_112 (q := 113) rfl 4 rfl ?_
          refine g_iload X dX8_followPlan_113 (q := 115) rfl 1 rfl ?_
          refine vc_X1_veer_X8 hZ X dX8_followPlan_115 (q := 118) rfl sh_72 (Nat.le_of_ble_eq_true rfl) (Nat.le_of_ble_eq_true rfl) (Nat.le_of_ble_eq_true rfl) hs (fun y5 hs => ?_)
          refine g_pop X dX8_followPlan_118 (q := 119) rfl rfl ?_
          exact wg_sub [3, 4, 5] rfl (ih2 _ hs)
        · intro hs
          refine g_aload_n X dX8_followPlan_101 (q := 102) rfl 3 rfl ?_
          refine g_aload_n X dX8_followPlan_102 (q := 103) rfl 4 rfl ?_
          refine g_iload X dX8_followPlan_103 (q := 105) rfl 0 rfl ?_
          refine vc_X8_pull_t_X8 hZ X dX8_followPlan_105 (q := 108) rfl (Nat.le_of_ble_eq_true rfl) (Nat.le_of_ble_eq_true rfl) (Nat.le_of_ble_eq_true rfl) hs (fun y6 hs => ?_)
          refine g_pop X dX8_followPlan_108 (q := 109) rfl rfl ?_
          refine g_goto X dX8_followPlan_109 (tgt := 119) (by decide) ?_
          exact wg_sub [3, 4, 5] rfl (ih2 _ hs)
      · intro hs
        refine g_aload_n X dX8_followPlan_83 (q := 84) rfl 3 rfl ?_
        refine g_aload_n X dX8_followPlan_84 (q := 85) rfl 4 rfl ?_
        refine g_iload X dX8_followPlan_85 (q := 87) rfl 1 rfl ?_
        refine g_iload X dX8_followPlan_87 (q := 89) rfl 0 rfl ?_
        refine vc_X8_plant_t_X8 hZ X dX8_followPlan_89 (q := 92) rfl (Nat.le_of_ble_eq_true rfl) (Nat.le_of_ble_eq_true rfl) (Nat.le_of_ble_eq_true rfl) hs (fun y7 hs => ?_)
        refine g_pop X dX8_followPlan_92 (q := 93) rfl rfl ?_
        refine g_goto X dX8_followPlan_93 (tgt := 119) (by decide) ?_
        exact wg_sub [3, 4, 5] rfl (ih2 _ hs)
    · intro hs
      refine g_goto X dX8_followPlan_35 (tgt := 119) (by decide) ?_
      exact wg_sub [0, 1, 2] rfl (ih2 _ hs)
theorem dX7_crossing_0 : decode cX7_crossing 0 = .ok (.iconst 0, 1) := by decide +kernel
theorem dX7_crossing_1 : decode cX7_crossing 1 = .ok (.istore_n 3, 1) := by decide +kernel
theorem dX7_crossing_2 : decode cX7_crossing 2 = .ok (.iload_n 3, 1) := by decide +kernel
theorem dX7_crossing_3 : decode cX7_crossing 3 = .ok (.aload_n 0, 1) := by decide +kernel
theorem dX7_crossing_4 : decode cX7_crossing 4 = .ok (.getfield 20, 3) := by decide +kernel
theorem dX7_crossing_7 : decode cX7_crossing 7 = .ok (.getfield 51, 3) := by decide +kernel
theorem dX7_crossing_10 : decode cX7_crossing 10 = .ok (.if_icmp .ge 65, 3) := by decide +kernel
theorem dX7_crossing_13 : decode cX7_crossing 13 = .ok (.aload_n 0, 1) := by decide +kernel
theorem dX7_crossing_14 : decode cX7_crossing 14 = .ok (.getfield 20, 3) := by decide +kernel
theorem dX7_crossing_17 : decode cX7_crossing 17 = .ok (.iload_n 3, 1) := by decide +kernel
theorem dX7_crossing_18 : decode cX7_crossing 18 = .ok (.iconst 0, 1) := by decide +kernel
theorem dX7_crossing_19 : decode cX7_crossing 19 = .ok (.invokevirtual 55, 3) := by decide +kernel
theorem dX7_crossing_22 : decode cX7_crossing 22 = .ok (.istore 4, 2) := by decide +kernel
theorem dX7_crossing_24 : decode cX7_crossing 24 = .ok (.aload_n 0, 1) := by decide +kernel
theorem dX7_crossing_25 : decode cX7_crossing 25 = .ok (.getfield 20, 3) := by decide +kernel
theorem dX7_crossing_28 : decode cX7_crossing 28 = .ok (.iload_n 3, 1) := by decide +kernel
theorem dX7_crossing_29 : decode cX7_crossing 29 = .ok (.iconst 1, 1) := by decide +kernel
theorem dX7_crossing_30 : decode cX7_crossing 30 = .ok (.invokevirtual 55, 3) := by decide +kernel
theorem dX7_crossing_33 : decode cX7_crossing 33 = .ok (.istore 5, 2) := by decide +kernel
theorem dX7_crossing_35 : decode cX7_crossing 35 = .ok (.iload 4, 2) := by decide +kernel
theorem dX7_crossing_37 : decode cX7_crossing 37 = .ok (.iload_n 1, 1) := by decide +kernel
theorem dX7_crossing_38 : decode cX7_crossing 38 = .ok (.if_icmp .ne 9, 3) := by decide +kernel
theorem dX7_crossing_41 : decode cX7_crossing 41 = .ok (.iload 5, 2) := by decide +kernel
theorem dX7_crossing_43 : decode cX7_crossing 43 = .ok (.iload_n 2, 1) := by decide +kernel
theorem dX7_crossing_44 : decode cX7_crossing 44 = .ok (.if_icmp .eq 15, 3) := by decide +kernel
theorem dX7_crossing_47 : decode cX7_crossing 47 = .ok (.iload 4, 2) := by decide +kernel
theorem dX7_crossing_49 : decode cX7_crossing 49 = .ok (.iload_n 2, 1) := by decide +kernel
theorem dX7_crossing_50 : decode cX7_crossing 50 = .ok (.if_icmp .ne 19, 3) := by decide +kernel
theorem dX7_crossing_53 : decode cX7_crossing 53 = .ok (.iload 5, 2) := by decide +kernel
theorem dX7_crossing_55 : decode cX7_crossing 55 = .ok (.iload_n 1, 1) := by decide +kernel
theorem dX7_crossing_56 : decode cX7_crossing 56 = .ok (.if_icmp .ne 13, 3) := by decide +kernel
theorem dX7_crossing_59 : decode cX7_crossing 59 = .ok (.aload_n 0, 1) := by decide +kernel
theorem dX7_crossing_60 : decode cX7_crossing 60 = .ok (.getfield 20, 3) := by decide +kernel
theorem dX7_crossing_63 : decode cX7_crossing 63 = .ok (.iload_n 3, 1) := by decide +kernel
theorem dX7_crossing_64 : decode cX7_crossing 64 = .ok (.iconst 2, 1) := by decide +kernel
theorem dX7_crossing_65 : decode cX7_crossing 65 = .ok (.invokevirtual 55, 3) := by decide +kernel
theorem dX7_crossing_68 : decode cX7_crossing 68 = .ok (.ireturn, 1) := by decide +kernel
theorem dX7_crossing_69 : decode cX7_crossing 69 = .ok (.iinc 3 1, 3) := by decide +kernel
theorem dX7_crossing_72 : decode cX7_crossing 72 = .ok (.goto (-70), 3) := by decide +kernel
theorem dX7_crossing_75 : decode cX7_crossing 75 = .ok (.iconst (-1), 1) := by decide +kernel
theorem dX7_crossing_76 : decode cX7_crossing 76 = .ok (.ireturn, 1) := by decide +kernel
theorem wX4_of_X7 : Cond.methodLinkNest RX7 55 yX4_of "StormSeeds" ∈ NW := nw_of 1037 (by decide +kernel) rfl
theorem vc_X4_of_X7 {p : Program} {l : Launch} {e : Env} {st : State} {m : MethodId} {args : Array Value} {below : List Frame} {meth : Method} {c : Code} {Q : State → Prop} {nL : Nat} {cc : ByteArray} {s : ST} {pc q : Nat} {lv : List (Nat × Value)} {rest : List Value} {D : va_G} {cA cL : ClassId} {h : Nat → Nat} {Z : State → Heap → Prop} {sa : Nat → Nat} (hZ : ZK h Z sa) {d0 : Nat} (X : Cx (KC D cA cL h Z) p st m args meth c cc nL RX7) {b0 : Nat} {x1 : Int32} {x2 : Int32} (d : decode cc pc = .ok (.invokevirtual 55, 3)) (hq : pc + 3 = q) (hb0 : isK 4 b0) (hd1 : 2 + 1 ≤ d0) (hd2 : 8 + (3 + 11) + 100 * 2 ≤ 100 * d0) (hr : (rest.map fun v => v.category).sum ≤ 8) {B : Type} {f : Int32 → Option B} {r : B} (hs : Bd (C_X4_of s b0 x1 x2) f = some r) (k : ∀ y, f y = some r → WG (KC D cA cL h Z) p l e (rmD d0) st m args below meth c Q nL s q lv (.int y :: rest)) : WG (KC D cA cL h Z) p l e (rmD d0) st m args below meth c Q nL s pc lv (.int x2 :: .int x1 :: .ref (h b0) :: rest) := by
  obtain ⟨v, hv, hs⟩ := Bd_e hs
  exact cVN_I (K := KC D cA cL h Z) X b0 (n := 2) (k_X4_of hZ l D cA cL s b0 x1 x2 hb0 hv) (gt_c (gt_of 987 (by decide +kernel) rfl) gt_t) (hZ.1 st st.heap X.2.2.2 _ wX4_of_X7) (gt_of 199 (by decide +kernel) rfl) (gt_of 986 (by decide +kernel) rfl) (gt_of 62 (by decide +kernel) rfl) ⟨hd1, hd2⟩ ⟨by decide, by decide, by decide +kernel⟩ (As := [.int x1, .int x2]) rfl hr (hb0).1 (fs := cF4 h b0 (s.1 b0) (s.2 b0)) (GC_4 (cA := cA) (cL := cL) hb0 _ _) rfl rfl d hq (k _ hs)
def C_X7_crossing (s : ST) (b0 : Nat) (x1 : Int32) (x2 : Int32) : Option (Int32) := lpK1 (C := Int32) (fun (rec1 : Int32 → Option (Int32)) (a1 : Int32) => if (s.1 (b0 + 3) 2) ≤ a1 then (some (-1 : Int32)) else (Bd (C_X4_of s (b0 + 3) a1 (0 : Int32)) fun y1 => Bd (C_X4_of s (b0 + 3) a1 (1 : Int32)) fun y2 => Lt (Bd (C_X4_of s (b0 + 3) a1 (2 : Int32)) fun y3 => some y3 : Option (Int32)) fun j1 => Lt (Lt (rec1 (a1 + (1 : Int32)) : Option (Int32)) fun j3 => if y1 = x2 then (if y2 = x1 then (j1) else (j3)) else (j3) : Option (Int32)) fun j2 => if y1 = x1 then (if y2 = x2 then (j1) else (j2)) else (j2))) FU (0 : Int32)
set_option maxRecDepth 100000 in
set_option maxHeartbeats 4000000 in
theorem k_X7_crossing {h : Nat → Nat} {Z : State → Heap → Prop} {sa : Nat → Nat} (hZ : ZK h Z sa) (l : Launch) (D : va_G) (cA cL : ClassId) (s : ST) (b0 : Nat) (x1 : Int32) (x2 : Int32) (hb0 : isK 7 b0) {o : Int32} (hs : C_X7_crossing s b0 x1 x2 = some o) : MI l (KC D cA cL h Z) 3 yX7_crossing cX7_crossing 6 (some .int) s [.ref (h b0), .int x1, .int x2] o s := by
  refine met_i (by decide) (Nat.le_of_ble_eq_true rfl) ?_
  intro p e st m args below meth c Q X RI
  unfold C_X7_crossing at hs
  refine g_iconst X dX7_crossing_0 (q := 1) rfl li_i0 ?_
  refine g_istore_n X dX7_crossing_1 (q := 2) rfl (Nat.le_of_ble_eq_true rfl) (lv' := [(3, .int (0 : Int32)), (0, .ref (h b0)), (1, .int x1), (2, .int x2)]) rfl ?_
  refine wg_sub [1, 2, 3, 0] rfl (lpW1 (fun (a1 : Int32) => WG (KC D cA cL h Z) p l e (rmD 3) st m args below meth c Q 6 s 2 [(0, .ref (h b0)), (1, .int x1), (2, .int x2), (3, .int a1)] []) (fun rec1 ih1 a1 hs => ?_) _ _ hs)
  refine g_iload_n X dX7_crossing_2 (q := 3) rfl 3 rfl ?_
  refine g_aload_n X dX7_crossing_3 (q := 4) rfl 0 rfl ?_
  refine cg_7_1 X dX7_crossing_4 (q := 7) rfl hb0 lf_X7_20 ?_
  refine cgN_4_2 hZ X dX7_crossing_7 (q := 10) rfl (sub_X7_crossings hb0) lf_X7_51 ?_
  refine g_icmp_ge X dX7_crossing_10 (q := 13) rfl (tgt := 75) (by decide) hs ?_ ?_
  · intro hs
    refine g_iconst X dX7_crossing_75 (q := 76) rfl li_im1 ?_
    exact RI _ 76 _ _ _ rfl rfl (Option.some.inj hs) dX7_crossing_76
  · intro hs
    refine g_aload_n X dX7_crossing_13 (q := 14) rfl 0 rfl ?_
    refine cg_7_1 X dX7_crossing_14 (q := 17) rfl hb0 lf_X7_20 ?_
    refine g_iload_n X dX7_crossing_17 (q := 18) rfl 3 rfl ?_
    refine g_iconst X dX7_crossing_18 (q := 19) rfl li_i0 ?_
    refine vc_X4_of_X7 hZ X dX7_crossing_19 (q := 22) rfl (sub_X7_crossings hb0) (Nat.le_of_ble_eq_true rfl) (Nat.le_of_ble_eq_true rfl) (Nat.le_of_ble_eq_true rfl) hs (fun y1 hs => ?_)
    refine g_istore X dX7_crossing_22 (q := 24) rfl (Nat.le_of_ble_eq_true rfl) (lv' := [(4, .int y1), (0, .ref (h b0)), (1, .int x1), (2, .int x2), (3, .int a1)]) rfl ?_
    refine g_aload_n X dX7_crossing_24 (q := 25) rfl 1 rfl ?_
    refine cg_7_1 X dX7_crossing_25 (q := 28) rfl hb0 lf_X7_20 ?_
    refine g_iload_n X dX7_crossing_28 (q := 29) rfl 4 rfl ?_
    refine g_iconst X dX7_crossing_29 (q := 30) rfl li_i1 ?_
    refine vc_X4_of_X7 hZ X dX7_crossing_30 (q := 33) rfl (sub_X7_crossings hb0) (Nat.le_of_ble_eq_true rfl) (Nat.le_of_ble_eq_true rfl) (Nat.le_of_ble_eq_true rfl) hs (fun y2 hs => ?_)
    refine g_istore X dX7_crossing_33 (q := 35) rfl (Nat.le_of_ble_eq_true rfl) (lv' := [(5, .int y2), (4, .int y1), (0, .ref (h b0)), (1, .int x1), (2, .int x2), (3, .int a1)]) rfl ?_
    refine g_iload X dX7_crossing_35 (q := 37) rfl 1 rfl ?_
    refine g_iload_n X dX7_crossing_37 (q := 38) rfl 3 rfl ?_
    refine jnW0 (WG (KC D cA cL h Z) p l e (rmD 3) st m args below meth c Q 6 s 59 [(0, .ref (h b0)), (3, .int a1)] []) hs (fun  hs => ?_) (fun j1 ih2 hs => ?_)
    · refine g_aload_n X dX7_crossing_59 (q := 60) rfl 0 rfl ?_
      refine cg_7_1 X dX7_crossing_60 (q := 63) rfl hb0 lf_X7_20 ?_
      refine g_iload_n X dX7_crossing_63 (q := 64) rfl 1 rfl ?_
      refine g_iconst X dX7_crossing_64 (q := 65) rfl li_i2 ?_
      refine vc_X4_of_X7 hZ X dX7_crossing_65 (q := 68) rfl (sub_X7_crossings hb0) (Nat.le_of_ble_eq_true rfl) (Nat.le_of_ble_eq_true rfl) (Nat.le_of_ble_eq_true rfl) hs (fun y3 hs => ?_)
      exact RI _ 68 _ _ _ rfl rfl (Option.some.inj hs) dX7_crossing_68
    refine jnW0 (WG (KC D cA cL h Z) p l e (rmD 3) st m args below meth c Q 6 s 47 [(0, .ref (h b0)), (1, .int x1), (2, .int x2), (3, .int a1), (4, .int y1), (5, .int y2)] []) hs (fun  hs => ?_) (fun j2 ih3 hs => ?_)
    · refine g_iload X dX7_crossing_47 (q := 49) rfl 4 rfl ?_
      refine g_iload_n X dX7_crossing_49 (q := 50) rfl 2 rfl ?_
      refine jnW0 (WG (KC D cA cL h Z) p l e (rmD 3) st m args below meth c Q 6 s 69 [(0, .ref (h b0)), (1, .int x1), (2, .int x2), (3, .int a1)] []) hs (fun  hs => ?_) (fun j3 ih4 hs => ?_)
      · refine g_iinc X dX7_crossing_69 (q := 72) rfl 3 rfl (v := (a1 + (1 : Int32))) (congrArg (HAdd.hAdd a1) li_i1) (Nat.le_of_ble_eq_true rfl) (lv' := [(3, .int (a1 + (1 : Int32))), (0, .ref (h b0)), (1, .int x1), (2, .int x2)]) rfl ?_
        refine g_goto X dX7_crossing_72 (tgt := 2) (by decide) ?_
        exact wg_sub [1, 2, 3, 0] rfl (ih1 _ hs)
      refine g_icmp_ne X dX7_crossing_50 (q := 53) rfl (tgt := 69) (by decide) hs ?_ ?_
      · intro hs
        exact wg_sub [0, 1, 2, 3] rfl (ih4 hs)
      · intro hs
        refine g_iload X dX7_crossing_53 (q := 55) rfl 5 rfl ?_
        refine g_iload_n X dX7_crossing_55 (q := 56) rfl 1 rfl ?_
        refine g_icmp_ne X dX7_crossing_56 (q := 59) rfl (tgt := 69) (by decide) hs ?_ ?_
        · intro hs
          exact wg_sub [0, 1, 2, 3] rfl (ih4 hs)
        · intro hs
          exact wg_sub [0, 3] rfl (ih2 hs)
    refine g_icmp_ne X dX7_crossing_38 (q := 41) rfl (tgt := 47) (by decide) hs ?_ ?_
    · intro hs
      exact wg_sub [2, 3, 4, 5, 1, 0] rfl (ih3 hs)
    · intro hs
      refine g_iload X dX7_crossing_41 (q := 43) rfl 0 rfl ?_
      refine g_iload_n X dX7_crossing_43 (q := 44) rfl 4 rfl ?_
      refine g_icmp_eq X dX7_crossing_44 (q := 47) rfl (tgt := 59) (by decide) hs ?_ ?_
      · intro hs
        exact wg_sub [2, 5] rfl (ih2 hs)
      · intro hs
        exact wg_sub [2, 3, 4, 5, 1, 0] rfl (ih3 hs)
theorem dX8_comesUp_0 : decode cX8_comesUp 0 = .ok (.aload_n 1, 1) := by decide +kernel
theorem dX8_comesUp_1 : decode cX8_comesUp 1 = .ok (.iload_n 2, 1) := by decide +kernel
theorem dX8_comesUp_2 : decode cX8_comesUp 2 = .ok (.invokevirtual 48, 3) := by decide +kernel
theorem dX8_comesUp_5 : decode cX8_comesUp 5 = .ok (.ifCond .ne 5, 3) := by decide +kernel
theorem dX8_comesUp_8 : decode cX8_comesUp 8 = .ok (.iconst 0, 1) := by decide +kernel
theorem dX8_comesUp_9 : decode cX8_comesUp 9 = .ok (.ireturn, 1) := by decide +kernel
theorem dX8_comesUp_10 : decode cX8_comesUp 10 = .ok (.aload_n 1, 1) := by decide +kernel
theorem dX8_comesUp_11 : decode cX8_comesUp 11 = .ok (.getfield 58, 3) := by decide +kernel
theorem dX8_comesUp_14 : decode cX8_comesUp 14 = .ok (.iload_n 2, 1) := by decide +kernel
theorem dX8_comesUp_15 : decode cX8_comesUp 15 = .ok (.iaload, 1) := by decide +kernel
theorem dX8_comesUp_16 : decode cX8_comesUp 16 = .ok (.istore_n 3, 1) := by decide +kernel
theorem dX8_comesUp_17 : decode cX8_comesUp 17 = .ok (.aload_n 1, 1) := by decide +kernel
theorem dX8_comesUp_18 : decode cX8_comesUp 18 = .ok (.iload_n 2, 1) := by decide +kernel
theorem dX8_comesUp_19 : decode cX8_comesUp 19 = .ok (.invokevirtual 54, 3) := by decide +kernel
theorem dX8_comesUp_22 : decode cX8_comesUp 22 = .ok (.aload_n 0, 1) := by decide +kernel
theorem dX8_comesUp_23 : decode cX8_comesUp 23 = .ok (.getfield 9, 3) := by decide +kernel
theorem dX8_comesUp_26 : decode cX8_comesUp 26 = .ok (.getfield 121, 3) := by decide +kernel
theorem dX8_comesUp_29 : decode cX8_comesUp 29 = .ok (.iconst 0, 1) := by decide +kernel
theorem dX8_comesUp_30 : decode cX8_comesUp 30 = .ok (.aload_n 1, 1) := by decide +kernel
theorem dX8_comesUp_31 : decode cX8_comesUp 31 = .ok (.iload_n 3, 1) := by decide +kernel
theorem dX8_comesUp_32 : decode cX8_comesUp 32 = .ok (.iload_n 2, 1) := by decide +kernel
theorem dX8_comesUp_33 : decode cX8_comesUp 33 = .ok (.aload_n 1, 1) := by decide +kernel
theorem dX8_comesUp_34 : decode cX8_comesUp 34 = .ok (.getfield 19, 3) := by decide +kernel
theorem dX8_comesUp_37 : decode cX8_comesUp 37 = .ok (.aload_n 1, 1) := by decide +kernel
theorem dX8_comesUp_38 : decode cX8_comesUp 38 = .ok (.getfield 66, 3) := by decide +kernel
theorem dX8_comesUp_41 : decode cX8_comesUp 41 = .ok (.iload_n 2, 1) := by decide +kernel
theorem dX8_comesUp_42 : decode cX8_comesUp 42 = .ok (.iaload, 1) := by decide +kernel
theorem dX8_comesUp_43 : decode cX8_comesUp 43 = .ok (.isub, 1) := by decide +kernel
theorem dX8_comesUp_44 : decode cX8_comesUp 44 = .ok (.invokevirtual 125, 3) := by decide +kernel
theorem dX8_comesUp_47 : decode cX8_comesUp 47 = .ok (.istore 4, 2) := by decide +kernel
theorem dX8_comesUp_49 : decode cX8_comesUp 49 = .ok (.aload_n 1, 1) := by decide +kernel
theorem dX8_comesUp_50 : decode cX8_comesUp 50 = .ok (.iload_n 2, 1) := by decide +kernel
theorem dX8_comesUp_51 : decode cX8_comesUp 51 = .ok (.invokevirtual 83, 3) := by decide +kernel
theorem dX8_comesUp_54 : decode cX8_comesUp 54 = .ok (.ifCond .eq 12, 3) := by decide +kernel
theorem dX8_comesUp_57 : decode cX8_comesUp 57 = .ok (.aload_n 1, 1) := by decide +kernel
theorem dX8_comesUp_58 : decode cX8_comesUp 58 = .ok (.getfield 131, 3) := by decide +kernel
theorem dX8_comesUp_61 : decode cX8_comesUp 61 = .ok (.iload_n 2, 1) := by decide +kernel
theorem dX8_comesUp_62 : decode cX8_comesUp 62 = .ok (.iaload, 1) := by decide +kernel
theorem dX8_comesUp_63 : decode cX8_comesUp 63 = .ok (.goto 4, 3) := by decide +kernel
theorem dX8_comesUp_66 : decode cX8_comesUp 66 = .ok (.iconst 0, 1) := by decide +kernel
theorem dX8_comesUp_67 : decode cX8_comesUp 67 = .ok (.istore 5, 2) := by decide +kernel
theorem dX8_comesUp_69 : decode cX8_comesUp 69 = .ok (.iload 5, 2) := by decide +kernel
theorem dX8_comesUp_71 : decode cX8_comesUp 71 = .ok (.ifCond .le 20, 3) := by decide +kernel
theorem dX8_comesUp_74 : decode cX8_comesUp 74 = .ok (.aload_n 0, 1) := by decide +kernel
theorem dX8_comesUp_75 : decode cX8_comesUp 75 = .ok (.getfield 9, 3) := by decide +kernel
theorem dX8_comesUp_78 : decode cX8_comesUp 78 = .ok (.aload_n 1, 1) := by decide +kernel
theorem dX8_comesUp_79 : decode cX8_comesUp 79 = .ok (.getfield 92, 3) := by decide +kernel
theorem dX8_comesUp_82 : decode cX8_comesUp 82 = .ok (.iload_n 2, 1) := by decide +kernel
theorem dX8_comesUp_83 : decode cX8_comesUp 83 = .ok (.iaload, 1) := by decide +kernel
theorem dX8_comesUp_84 : decode cX8_comesUp 84 = .ok (.iload_n 3, 1) := by decide +kernel
theorem dX8_comesUp_85 : decode cX8_comesUp 85 = .ok (.invokevirtual 134, 3) := by decide +kernel
theorem dX8_comesUp_88 : decode cX8_comesUp 88 = .ok (.goto 4, 3) := by decide +kernel
theorem dX8_comesUp_91 : decode cX8_comesUp 91 = .ok (.iconst (-1), 1) := by decide +kernel
theorem dX8_comesUp_92 : decode cX8_comesUp 92 = .ok (.istore 6, 2) := by decide +kernel
theorem dX8_comesUp_94 : decode cX8_comesUp 94 = .ok (.iload 4, 2) := by decide +kernel
theorem dX8_comesUp_96 : decode cX8_comesUp 96 = .ok (.ifCond .eq 16, 3) := by decide +kernel
theorem dX8_comesUp_99 : decode cX8_comesUp 99 = .ok (.iload 6, 2) := by decide +kernel
theorem dX8_comesUp_101 : decode cX8_comesUp 101 = .ok (.iconst (-1), 1) := by decide +kernel
theorem dX8_comesUp_102 : decode cX8_comesUp 102 = .ok (.if_icmp .ne 20, 3) := by decide +kernel
theorem dX8_comesUp_105 : decode cX8_comesUp 105 = .ok (.iload 4, 2) := by decide +kernel
theorem dX8_comesUp_107 : decode cX8_comesUp 107 = .ok (.iload 5, 2) := by decide +kernel
theorem dX8_comesUp_109 : decode cX8_comesUp 109 = .ok (.if_icmp .ge 13, 3) := by decide +kernel
theorem dX8_comesUp_112 : decode cX8_comesUp 112 = .ok (.aload_n 0, 1) := by decide +kernel
theorem dX8_comesUp_113 : decode cX8_comesUp 113 = .ok (.aload_n 1, 1) := by decide +kernel
theorem dX8_comesUp_114 : decode cX8_comesUp 114 = .ok (.iconst 3, 1) := by decide +kernel
theorem dX8_comesUp_115 : decode cX8_comesUp 115 = .ok (.iload_n 2, 1) := by decide +kernel
theorem dX8_comesUp_116 : decode cX8_comesUp 116 = .ok (.iload_n 3, 1) := by decide +kernel
theorem dX8_comesUp_117 : decode cX8_comesUp 117 = .ok (.invokevirtual 44, 3) := by decide +kernel
theorem dX8_comesUp_120 : decode cX8_comesUp 120 = .ok (.iconst 0, 1) := by decide +kernel
theorem dX8_comesUp_121 : decode cX8_comesUp 121 = .ok (.ireturn, 1) := by decide +kernel
theorem dX8_comesUp_122 : decode cX8_comesUp 122 = .ok (.iload 6, 2) := by decide +kernel
theorem dX8_comesUp_124 : decode cX8_comesUp 124 = .ok (.iconst (-1), 1) := by decide +kernel
theorem dX8_comesUp_125 : decode cX8_comesUp 125 = .ok (.if_icmp .eq 22, 3) := by decide +kernel
theorem dX8_comesUp_128 : decode cX8_comesUp 128 = .ok (.iload 6, 2) := by decide +kernel
theorem dX8_comesUp_130 : decode cX8_comesUp 130 = .ok (.istore_n 3, 1) := by decide +kernel
theorem dX8_comesUp_131 : decode cX8_comesUp 131 = .ok (.bipush 9, 2) := by decide +kernel
theorem dX8_comesUp_133 : decode cX8_comesUp 133 = .ok (.iload 4, 2) := by decide +kernel
theorem dX8_comesUp_135 : decode cX8_comesUp 135 = .ok (.iload 5, 2) := by decide +kernel
theorem dX8_comesUp_137 : decode cX8_comesUp 137 = .ok (.invokestatic 137, 3) := by decide +kernel
theorem dX8_comesUp_140 : decode cX8_comesUp 140 = .ok (.iconst 1, 1) := by decide +kernel
theorem dX8_comesUp_141 : decode cX8_comesUp 141 = .ok (.iadd, 1) := by decide +kernel
theorem dX8_comesUp_142 : decode cX8_comesUp 142 = .ok (.invokestatic 142, 3) := by decide +kernel
theorem dX8_comesUp_145 : decode cX8_comesUp 145 = .ok (.istore 4, 2) := by decide +kernel
theorem dX8_comesUp_147 : decode cX8_comesUp 147 = .ok (.aload_n 1, 1) := by decide +kernel
theorem dX8_comesUp_148 : decode cX8_comesUp 148 = .ok (.iload_n 3, 1) := by decide +kernel
theorem dX8_comesUp_149 : decode cX8_comesUp 149 = .ok (.iload_n 2, 1) := by decide +kernel
theorem dX8_comesUp_150 : decode cX8_comesUp 150 = .ok (.iload 4, 2) := by decide +kernel
theorem dX8_comesUp_152 : decode cX8_comesUp 152 = .ok (.aload_n 1, 1) := by decide +kernel
theorem dX8_comesUp_153 : decode cX8_comesUp 153 = .ok (.getfield 19, 3) := by decide +kernel
theorem dX8_comesUp_156 : decode cX8_comesUp 156 = .ok (.aload_n 0, 1) := by decide +kernel
theorem dX8_comesUp_157 : decode cX8_comesUp 157 = .ok (.getfield 9, 3) := by decide +kernel
theorem dX8_comesUp_160 : decode cX8_comesUp 160 = .ok (.getfield 69, 3) := by decide +kernel
theorem dX8_comesUp_163 : decode cX8_comesUp 163 = .ok (.iload_n 3, 1) := by decide +kernel
theorem dX8_comesUp_164 : decode cX8_comesUp 164 = .ok (.iconst 1, 1) := by decide +kernel
theorem dX8_comesUp_165 : decode cX8_comesUp 165 = .ok (.invokevirtual 72, 3) := by decide +kernel
theorem dX8_comesUp_168 : decode cX8_comesUp 168 = .ok (.iadd, 1) := by decide +kernel
theorem dX8_comesUp_169 : decode cX8_comesUp 169 = .ok (.iconst 1, 1) := by decide +kernel
theorem dX8_comesUp_170 : decode cX8_comesUp 170 = .ok (.isub, 1) := by decide +kernel
theorem dX8_comesUp_171 : decode cX8_comesUp 171 = .ok (.invokevirtual 145, 3) := by decide +kernel
theorem dX8_comesUp_174 : decode cX8_comesUp 174 = .ok (.aload_n 0, 1) := by decide +kernel
theorem dX8_comesUp_175 : decode cX8_comesUp 175 = .ok (.aload_n 1, 1) := by decide +kernel
theorem dX8_comesUp_176 : decode cX8_comesUp 176 = .ok (.iconst 2, 1) := by decide +kernel
theorem dX8_comesUp_177 : decode cX8_comesUp 177 = .ok (.iload_n 2, 1) := by decide +kernel
theorem dX8_comesUp_178 : decode cX8_comesUp 178 = .ok (.iload_n 3, 1) := by decide +kernel
theorem dX8_comesUp_179 : decode cX8_comesUp 179 = .ok (.invokevirtual 44, 3) := by decide +kernel
theorem dX8_comesUp_182 : decode cX8_comesUp 182 = .ok (.iconst 1, 1) := by decide +kernel
theorem dX8_comesUp_183 : decode cX8_comesUp 183 = .ok (.ireturn, 1) := by decide +kernel
theorem wX1_hasStorm_X8 : Cond.methodLinkNest RX8 83 yX1_hasStorm "StormSeeds" ∈ NW := nw_of 1029 (by decide +kernel) rfl
theorem vc_X1_hasStorm_X8 {p : Program} {l : Launch} {e : Env} {st : State} {m : MethodId} {args : Array Value} {below : List Frame} {meth : Method} {c : Code} {Q : State → Prop} {nL : Nat} {cc : ByteArray} {s : ST} {pc q : Nat} {lv : List (Nat × Value)} {rest : List Value} {D : va_G} {cA cL : ClassId} {h : Nat → Nat} {Z : State → Heap → Prop} {sa : Nat → Nat} (hZ : ZK h Z sa) {d0 : Nat} (X : Cx (KC D cA cL h Z) p st m args meth c cc nL RX8) {b0 : Nat} {x1 : Int32} (d : decode cc pc = .ok (.invokevirtual 83, 3)) (hq : pc + 3 = q) (hb0 : isK 1 b0) (hd1 : 2 + 1 ≤ d0) (hd2 : 8 + (2 + 11) + 100 * 2 ≤ 100 * d0) (hr : (rest.map fun v => v.category).sum ≤ 8) {B : Type} {f : Int32 → B} {r : B} (hs : Lt (C_X1_hasStorm s b0 x1) f = r) (k : ∀ y, f y = r → WG (KC D cA cL h Z) p l e (rmD d0) st m args below meth c Q nL s q lv (.int y :: rest)) : WG (KC D cA cL h Z) p l e (rmD d0) st m args below meth c Q nL s pc lv (.int x1 :: .ref (h b0) :: rest) := by
  exact cVN_I (K := KC D cA cL h Z) X b0 (n := 1) (k_X1_hasStorm hZ l D cA cL s b0 x1 hb0) (gt_c (gt_of 1032 (by decide +kernel) rfl) gt_t) (hZ.1 st st.heap X.2.2.2 _ wX1_hasStorm_X8) (gt_of 197 (by decide +kernel) rfl) (gt_of 1031 (by decide +kernel) rfl) (gt_of 68 (by decide +kernel) rfl) ⟨hd1, hd2⟩ ⟨by decide, by decide, by decide +kernel⟩ (As := [.int x1]) rfl hr (hb0).1 (fs := cF1 h b0 (s.1 b0) (s.2 b0)) (GC_1 (cA := cA) (cL := cL) hb0 _ _) rfl rfl d hq (k _ hs)
theorem wX1_raiseStorm_X8 : Cond.methodLinkNest RX8 145 yX1_raiseStorm "StormSeeds" ∈ NW := nw_of 1040 (by decide +kernel) rfl
theorem vc_X1_raiseStorm_X8 {p : Program} {l : Launch} {e : Env} {st : State} {m : MethodId} {args : Array Value} {below : List Frame} {meth : Method} {c : Code} {Q : State → Prop} {nL : Nat} {cc : ByteArray} {s : ST} {pc q : Nat} {lv : List (Nat × Value)} {rest : List Value} {D : va_G} {cA cL : ClassId} {h : Nat → Nat} {Z : State → Heap → Prop} {sa : Nat → Nat} (hZ : ZK h Z sa) {d0 : Nat} (X : Cx (KC D cA cL h Z) p st m args meth c cc nL RX8) {b0 : Nat} {x1 : Int32} {x2 : Int32} {x3 : Int32} {x4 : Int32} (d : decode cc pc = .ok (.invokevirtual 145, 3)) (hq : pc + 3 = q) (hb0 : isK 1 b0) (hd1 : 2 + 1 ≤ d0) (hd2 : 8 + (5 + 11) + 100 * 2 ≤ 100 * d0) (hr : (rest.map fun v => v.category).sum ≤ 8) {B : Type} {f : ST → Option B} {r : B} (hs : Bd (C_X1_raiseStorm s b0 x1 x2 x3 x4) f = some r) (k : ∀ y, f y = some r → WG (KC D cA cL h Z) p l e (rmD d0) st m args below meth c Q nL y q lv (rest)) : WG (KC D cA cL h Z) p l e (rmD d0) st m args below meth c Q nL s pc lv (.int x4 :: .int x3 :: .int x2 :: .int x1 :: .ref (h b0) :: rest) := by
  obtain ⟨v, hv, hs⟩ := Bd_e hs
  exact cVN_V (K := KC D cA cL h Z) X b0 (n := 4) (k_X1_raiseStorm hZ l D cA cL s b0 x1 x2 x3 x4 hb0 hv) (gt_c (gt_of 1043 (by decide +kernel) rfl) gt_t) (hZ.1 st st.heap X.2.2.2 _ wX1_raiseStorm_X8) (gt_of 197 (by decide +kernel) rfl) (gt_of 1042 (by decide +kernel) rfl) (gt_of 70 (by decide +kernel) rfl) ⟨hd1, hd2⟩ ⟨by decide, by decide, by decide +kernel⟩ (As := [.int x1, .int x2, .int x3, .int x4]) rfl hr (hb0).1 (fs := cF1 h b0 (s.1 b0) (s.2 b0)) (GC_1 (cA := cA) (cL := cL) hb0 _ _) rfl rfl d hq (k _ hs)
theorem wX2_ask_X8 : Cond.methodLinkNest RX8 125 yX2_ask "StormSeeds" ∈ NW := nw_of 996 (by decide +kernel) rfl
theorem vc_X2_ask_X8 {p : Program} {l : Launch} {e : Env} {st : State} {m : MethodId} {args : Array Value} {below : List Frame} {meth : Method} {c : Code} {Q : State → Prop} {nL : Nat} {cc : ByteArray} {s : ST} {pc q : Nat} {lv : List (Nat × Value)} {rest : List Value} {D : va_G} {cA cL : ClassId} {h : Nat → Nat} {Z : State → Heap → Prop} {sa : Nat → Nat} (hZ : ZK h Z sa) {d0 : Nat} (X : Cx (KC D cA cL h Z) p st m args meth c cc nL RX8) {x1 : Int32} {x2 : Nat} {x3 : Int32} {x4 : Int32} {x5 : Int32} (d : decode cc pc = .ok (.invokevirtual 125, 3)) (hq : pc + 3 = q) (hx2 : isK 1 x2) (hd1 : 4 + 1 ≤ d0) (hd2 : 8 + (10 + 11) + 100 * 4 ≤ 100 * d0) (hr : (rest.map fun v => v.category).sum ≤ 8) {B : Type} {f : Int32 × ST → Option B} {r : B} (hs : Bd (C_X2_ask s x1 x2 x3 x4 x5) f = some r) (k : ∀ y, f y = some r → WG (KC D cA cL h Z) p l e (rmD d0) st m args below meth c Q nL y.2 q lv (.int y.1 :: rest)) : WG (KC D cA cL h Z) p l e (rmD d0) st m args below meth c Q nL s pc lv (.int x5 :: .int x4 :: .int x3 :: .ref (h x2) :: .int x1 :: .ref (h 13) :: rest) := by
  obtain ⟨v, hv, hs⟩ := Bd_e hs
  exact cVN_I (K := KC D cA cL h Z) X 13 (n := 5) (k_X2_ask hZ l D cA cL s x1 x2 x3 x4 x5 hx2 hv) (gt_c (gt_of 999 (by decide +kernel) rfl) gt_t) (hZ.1 st st.heap X.2.2.2 _ wX2_ask_X8) (gt_of 201 (by decide +kernel) rfl) (gt_of 998 (by decide +kernel) rfl) (gt_of 64 (by decide +kernel) rfl) ⟨hd1, hd2⟩ ⟨by decide, by decide, by decide +kernel⟩ (As := [.int x1, .ref (h x2), .int x3, .int x4, .int x5]) rfl hr (sh_13).1 (fs := cF2 h 13 (s.1 13) (s.2 13)) (GC_2 (cA := cA) (cL := cL) sh_13 _ _) rfl rfl d hq (k _ hs)
theorem wX7_crossing_X8 : Cond.methodLinkNest RX8 134 yX7_crossing "StormSeeds" ∈ NW := nw_of 1033 (by decide +kernel) rfl
theorem vc_X7_crossing_X8 {p : Program} {l : Launch} {e : Env} {st : State} {m : MethodId} {args : Array Value} {below : List Frame} {meth : Method} {c : Code} {Q : State → Prop} {nL : Nat} {cc : ByteArray} {s : ST} {pc q : Nat} {lv : List (Nat × Value)} {rest : List Value} {D : va_G} {cA cL : ClassId} {h : Nat → Nat} {Z : State → Heap → Prop} {sa : Nat → Nat} (hZ : ZK h Z sa) {d0 : Nat} (X : Cx (KC D cA cL h Z) p st m args meth c cc nL RX8) {b0 : Nat} {x1 : Int32} {x2 : Int32} (d : decode cc pc = .ok (.invokevirtual 134, 3)) (hq : pc + 3 = q) (hb0 : isK 7 b0) (hd1 : 3 + 1 ≤ d0) (hd2 : 8 + (6 + 11) + 100 * 3 ≤ 100 * d0) (hr : (rest.map fun v => v.category).sum ≤ 8) {B : Type} {f : Int32 → Option B} {r : B} (hs : Bd (C_X7_crossing s b0 x1 x2) f = some r) (k : ∀ y, f y = some r → WG (KC D cA cL h Z) p l e (rmD d0) st m args below meth c Q nL s q lv (.int y :: rest)) : WG (KC D cA cL h Z) p l e (rmD d0) st m args below meth c Q nL s pc lv (.int x2 :: .int x1 :: .ref (h b0) :: rest) := by
  obtain ⟨v, hv, hs⟩ := Bd_e hs
  exact cVN_I (K := KC D cA cL h Z) X b0 (n := 2) (k_X7_crossing hZ l D cA cL s b0 x1 x2 hb0 hv) (gt_c (gt_of 1036 (by decide +kernel) rfl) gt_t) (hZ.1 st st.heap X.2.2.2 _ wX7_crossing_X8) (gt_of 198 (by decide +kernel) rfl) (gt_of 1035 (by decide +kernel) rfl) (gt_of 69 (by decide +kernel) rfl) ⟨hd1, hd2⟩ ⟨by decide, by decide, by decide +kernel⟩ (As := [.int x1, .int x2]) rfl hr (hb0).1 (fs := cF7 h b0 (s.1 b0) (s.2 b0)) (GC_7 (cA := cA) (cL := cL) hb0 _ _) rfl rfl d hq (k _ hs)
def C_X8_comesUp_t (s : ST) (x2 : Int32) : Option (Int32 × ST) := Lt (C_X1_isCell s 72 x2) fun y1 => if y1 = 0 then (some ((0 : Int32), s)) else (Gl s 74 64 x2 fun y2 => Lt (C_X1_liftSeed s 72 x2) fun s1 => Gl s1 75 64 x2 fun y3 => Bd (C_X2_ask s1 (0 : Int32) 72 y2 x2 ((s1.1 72 2) - y3)) fun y4 => Lt (C_X1_hasStorm y4.2 72 x2) fun y5 => Lt (fun (a1 : Int32) => (Lt (fun (a2 : Int32) => (Lt (Lt (C_X8_note_t y4.2 (3 : Int32) x2 y2) fun s2 => some ((0 : Int32), s2) : Option (Int32 × ST)) fun j3 => if y4.1 = 0 then (j3) else (Lt (Lt (fun (a3 : Int32) (a4 : Int32) => (Bd (C_X4_of y4.2 9 a3 (1 : Int32)) fun y6 => Bd (C_X1_raiseStorm y4.2 72 a3 x2 a4 (((y4.2.1 72 2) + y6) - (1 : Int32))) fun s3 => Lt (C_X8_note_t s3 (2 : Int32) x2 a3) fun s4 => some ((1 : Int32), s4) : Option (Int32 × ST))) fun j5 => if a2 = (-1 : Int32) then (j5 y2 y4.1) else (Lt ((imn (9 : Int32) ((imx y4.1 a1) + (1 : Int32)))) fun y7 => j5 a2 y7) : Option (Int32 × ST)) fun j4 => if a2 = (-1 : Int32) then (if a1 ≤ y4.1 then (j4) else (j3)) else (j4)) : Option (Int32 × ST))) fun j2 => if a1 ≤ 0 then (j2 (-1 : Int32)) else (Gl y4.2 76 64 x2 fun y8 => Bd (C_X7_crossing y4.2 8 y8 y2) fun y9 => j2 y9) : Option (Int32 × ST))) fun j1 => if y5 = 0 then (j1 (0 : Int32)) else (Gl y4.2 77 64 x2 fun y10 => j1 y10))
set_option maxRecDepth 100000 in
set_option maxHeartbeats 4000000 in
theorem k_X8_comesUp_t {h : Nat → Nat} {Z : State → Heap → Prop} {sa : Nat → Nat} (hZ : ZK h Z sa) (l : Launch) (D : va_G) (cA cL : ClassId) (s : ST) (x2 : Int32) {o : Int32 × ST} (hs : C_X8_comesUp_t s x2 = some o) : MI l (KC D cA cL h Z) 5 yX8_comesUp cX8_comesUp 7 (some .boolean) s [.ref (h 79), .ref (h 72), .int x2] o.1 o.2 := by
  refine met_i (by decide) (Nat.le_of_ble_eq_true rfl) ?_
  intro p e st m args below meth c Q X RI
  unfold C_X8_comesUp_t at hs
  refine g_aload_n X dX8_comesUp_0 (q := 1) rfl 1 rfl ?_
  refine g_iload_n X dX8_comesUp_1 (q := 2) rfl 2 rfl ?_
  refine vc_X1_isCell_X8 hZ X dX8_comesUp_2 (q := 5) rfl sh_72 (Nat.le_of_ble_eq_true rfl) (Nat.le_of_ble_eq_true rfl) (Nat.le_of_ble_eq_true rfl) hs (fun y1 hs => ?_)
  refine g_if_ne X dX8_comesUp_5 (q := 8) rfl (tgt := 10) (by decide) hs ?_ ?_
  · intro hs
    refine g_aload_n X dX8_comesUp_10 (q := 11) rfl 1 rfl ?_
    refine cgN_1_11 hZ X dX8_comesUp_11 (q := 14) rfl sh_72 lf_X8_58 ?_
    refine g_iload_n X dX8_comesUp_14 (q := 15) rfl 2 rfl ?_
    refine ca_ld X dX8_comesUp_15 (q := 16) rfl 74 sh_74 rfl hs (fun y2 hs => ?_)
    refine g_istore_n X dX8_comesUp_16 (q := 17) rfl (Nat.le_of_ble_eq_true rfl) (lv' := [(3, .int y2), (0, .ref (h 79)), (1, .ref (h 72)), (2, .int x2)]) rfl ?_
    refine g_aload_n X dX8_comesUp_17 (q := 18) rfl 2 rfl ?_
    refine g_iload_n X dX8_comesUp_18 (q := 19) rfl 3 rfl ?_
    refine vc_X1_liftSeed_X8 hZ X dX8_comesUp_19 (q := 22) rfl sh_72 (Nat.le_of_ble_eq_true rfl) (Nat.le_of_ble_eq_true rfl) (Nat.le_of_ble_eq_true rfl) hs (fun s1 hs => ?_)
    refine g_aload_n X dX8_comesUp_22 (q := 23) rfl 1 rfl ?_
    refine cg_18_0 X dX8_comesUp_23 (q := 26) rfl sh_79 lf_X8_9 ?_
    refine cgN_7_2 hZ X dX8_comesUp_26 (q := 29) rfl sh_8 lf_X8_121 ?_
    refine g_iconst X dX8_comesUp_29 (q := 30) rfl li_i0 ?_
    refine g_aload_n X dX8_comesUp_30 (q := 31) rfl 2 rfl ?_
    refine g_iload_n X dX8_comesUp_31 (q := 32) rfl 0 rfl ?_
    refine g_iload_n X dX8_comesUp_32 (q := 33) rfl 3 rfl ?_
    refine g_aload_n X dX8_comesUp_33 (q := 34) rfl 2 rfl ?_
    refine cgN_1_2 hZ X dX8_comesUp_34 (q := 37) rfl sh_72 lf_X8_19 ?_
    refine g_aload_n X dX8_comesUp_37 (q := 38) rfl 2 rfl ?_
    refine cgN_1_12 hZ X dX8_comesUp_38 (q := 41) rfl sh_72 lf_X8_66 ?_
    refine g_iload_n X dX8_comesUp_41 (q := 42) rfl 3 rfl ?_
    refine ca_ld X dX8_comesUp_42 (q := 43) rfl 75 sh_75 rfl hs (fun y3 hs => ?_)
    refine g_isub X dX8_comesUp_43 (q := 44) rfl ?_
    refine vc_X2_ask_X8 hZ X dX8_comesUp_44 (q := 47) rfl sh_72 (Nat.le_of_ble_eq_true rfl) (Nat.le_of_ble_eq_true rfl) (Nat.le_of_ble_eq_true rfl) hs (fun y4 hs => ?_)
    refine g_istore X dX8_comesUp_47 (q := 49) rfl (Nat.le_of_ble_eq_true rfl) (lv' := [(4, .int y4.1), (3, .int y2), (0, .ref (h 79)), (1, .ref (h 72)), (2, .int x2)]) rfl ?_
    refine g_aload_n X dX8_comesUp_49 (q := 50) rfl 3 rfl ?_
    refine g_iload_n X dX8_comesUp_50 (q := 51) rfl 4 rfl ?_
    refine vc_X1_hasStorm_X8 hZ X dX8_comesUp_51 (q := 54) rfl sh_72 (Nat.le_of_ble_eq_true rfl) (Nat.le_of_ble_eq_true rfl) (Nat.le_of_ble_eq_true rfl) hs (fun y5 hs => ?_)
    refine jnW1 (fun (a1 : Int32) => WG (KC D cA cL h Z) p l e (rmD 5) st m args below meth c Q 7 y4.2 67 [(0, .ref (h 79)), (1, .ref (h 72)), (2, .int x2), (3, .int y2), (4, .int y4.1)] [.int a1]) hs (fun a1 hs => ?_) (fun j1 ih1 hs => ?_)
    · refine g_istore X dX8_comesUp_67 (q := 69) rfl (Nat.le_of_ble_eq_true rfl) (lv' := [(5, .int a1), (0, .ref (h 79)), (1, .ref (h 72)), (2, .int x2), (3, .int y2), (4, .int y4.1)]) rfl ?_
      refine g_iload X dX8_comesUp_69 (q := 71) rfl 0 rfl ?_
      refine jnW1 (fun (a2 : Int32) => WG (KC D cA cL h Z) p l e (rmD 5) st m args below meth c Q 7 y4.2 92 [(0, .ref (h 79)), (1, .ref (h 72)), (2, .int x2), (3, .int y2), (4, .int y4.1), (5, .int a1)] [.int a2]) hs (fun a2 hs => ?_) (fun j2 ih2 hs => ?_)
      · refine g_istore X dX8_comesUp_92 (q := 94) rfl (Nat.le_of_ble_eq_true rfl) (lv' := [(6, .int a2), (0, .ref (h 79)), (1, .ref (h 72)), (2, .int x2), (3, .int y2), (4, .int y4.1), (5, .int a1)]) rfl ?_
        refine g_iload X dX8_comesUp_94 (q := 96) rfl 5 rfl ?_
        refine jnW0 (WG (KC D cA cL h Z) p l e (rmD 5) st m args below meth c Q 7 y4.2 112 [(0, .ref (h 79)), (1, .ref (h 72)), (2, .int x2), (3, .int y2)] []) hs (fun  hs => ?_) (fun j3 ih3 hs => ?_)
        · refine g_aload_n X dX8_comesUp_112 (q := 113) rfl 0 rfl ?_
          refine g_aload_n X dX8_comesUp_113 (q := 114) rfl 1 rfl ?_
          refine g_iconst X dX8_comesUp_114 (q := 115) rfl li_i3 ?_
          refine g_iload_n X dX8_comesUp_115 (q := 116) rfl 2 rfl ?_
          refine g_iload_n X dX8_comesUp_116 (q := 117) rfl 3 rfl ?_
          refine vc_X8_note_t_X8 hZ X dX8_comesUp_117 (q := 120) rfl (Nat.le_of_ble_eq_true rfl) (Nat.le_of_ble_eq_true rfl) (Nat.le_of_ble_eq_true rfl) hs (fun s2 hs => ?_)
          refine g_iconst X dX8_comesUp_120 (q := 121) rfl li_i0 ?_
          exact RI _ 121 _ _ _ (rU1 hs) rfl (rV1 hs) dX8_comesUp_121
        refine g_if_eq X dX8_comesUp_96 (q := 99) rfl (tgt := 112) (by decide) hs ?_ ?_
        · intro hs
          exact wg_sub [1, 2, 3, 4] rfl (ih3 hs)
        · intro hs
          refine g_iload X dX8_comesUp_99 (q := 101) rfl 0 rfl ?_
          refine g_iconst X dX8_comesUp_101 (q := 102) rfl li_im1 ?_
          refine jnW0 (WG (KC D cA cL h Z) p l e (rmD 5) st m args below meth c Q 7 y4.2 122 [(0, .ref (h 79)), (1, .ref (h 72)), (2, .int x2), (3, .int y2), (4, .int y4.1), (5, .int a1), (6, .int a2)] []) hs (fun  hs => ?_) (fun j4 ih4 hs => ?_)
          · refine g_iload X dX8_comesUp_122 (q := 124) rfl 6 rfl ?_
            refine g_iconst X dX8_comesUp_124 (q := 125) rfl li_im1 ?_
            refine jnW2 (fun (a3 : Int32) (a4 : Int32) => WG (KC D cA cL h Z) p l e (rmD 5) st m args below meth c Q 7 y4.2 147 [(0, .ref (h 79)), (1, .ref (h 72)), (2, .int x2), (3, .int a3), (4, .int a4)] []) hs (fun a3 a4 hs => ?_) (fun j5 ih5 hs => ?_)
            · refine g_aload_n X dX8_comesUp_147 (q := 148) rfl 1 rfl ?_
              refine g_iload_n X dX8_comesUp_148 (q := 149) rfl 3 rfl ?_
              refine g_iload_n X dX8_comesUp_149 (q := 150) rfl 2 rfl ?_
              refine g_iload X dX8_comesUp_150 (q := 152) rfl 4 rfl ?_
              refine g_aload_n X dX8_comesUp_152 (q := 153) rfl 1 rfl ?_
              refine cgN_1_2 hZ X dX8_comesUp_153 (q := 156) rfl sh_72 lf_X8_19 ?_
              refine g_aload_n X dX8_comesUp_156 (q := 157) rfl 0 rfl ?_
              refine cg_18_0 X dX8_comesUp_157 (q := 160) rfl sh_79 lf_X8_9 ?_
              refine cgN_7_0 hZ X dX8_comesUp_160 (q := 163) rfl sh_8 lf_X8_69 ?_
              refine g_iload_n X dX8_comesUp_163 (q := 164) rfl 3 rfl ?_
              refine g_iconst X dX8_comesUp_164 (q := 165) rfl li_i1 ?_
              refine vc_X4_of_X8 hZ X dX8_comesUp_165 (q := 168) rfl sh_9 (Nat.le_of_ble_eq_true rfl) (Nat.le_of_ble_eq_true rfl) (Nat.le_of_ble_eq_true rfl) hs (fun y6 hs => ?_)
              refine g_iadd X dX8_comesUp_168 (q := 169) rfl ?_
              refine g_iconst X dX8_comesUp_169 (q := 170) rfl li_i1 ?_
              refine g_isub X dX8_comesUp_170 (q := 171) rfl ?_
              refine vc_X1_raiseStorm_X8 hZ X dX8_comesUp_171 (q := 174) rfl sh_72 (Nat.le_of_ble_eq_true rfl) (Nat.le_of_ble_eq_true rfl) (Nat.le_of_ble_eq_true rfl) hs (fun s3 hs => ?_)
              refine g_aload_n X dX8_comesUp_174 (q := 175) rfl 0 rfl ?_
              refine g_aload_n X dX8_comesUp_175 (q := 176) rfl 1 rfl ?_
              refine g_iconst X dX8_comesUp_176 (q := 177) rfl li_i2 ?_
              refine g_iload_n X dX8_comesUp_177 (q := 178) rfl 2 rfl ?_
              refine g_iload_n X dX8_comesUp_178 (q := 179) rfl 3 rfl ?_
              refine vc_X8_note_t_X8 hZ X dX8_comesUp_179 (q := 182) rfl (Nat.le_of_ble_eq_true rfl) (Nat.le_of_ble_eq_true rfl) (Nat.le_of_ble_eq_true rfl) hs (fun s4 hs => ?_)
              refine g_iconst X dX8_comesUp_182 (q := 183) rfl li_i1 ?_
              exact RI _ 183 _ _ _ (rU1 hs) rfl (rV1 hs) dX8_comesUp_183
            refine g_icmp_eq X dX8_comesUp_125 (q := 128) rfl (tgt := 147) (by decide) hs ?_ ?_
            · intro hs
              exact wg_sub [0, 1, 2, 3, 4] rfl (ih5 _ _ hs)
            · intro hs
              refine g_iload X dX8_comesUp_128 (q := 130) rfl 6 rfl ?_
              refine g_istore_n X dX8_comesUp_130 (q := 131) rfl (Nat.le_of_ble_eq_true rfl) (lv' := [(3, .int a2), (0, .ref (h 79)), (1, .ref (h 72)), (2, .int x2), (4, .int y4.1), (5, .int a1), (6, .int a2)]) rfl ?_
              refine g_bipush X dX8_comesUp_131 (q := 133) rfl li_b9 ?_
              refine g_iload X dX8_comesUp_133 (q := 135) rfl 4 rfl ?_
              refine g_iload X dX8_comesUp_135 (q := 137) rfl 5 rfl ?_
              refine cm_max X dX8_comesUp_137 (q := 140) rfl ml_X8_137 (Nat.le_of_ble_eq_true rfl) (Nat.le_of_ble_eq_true rfl) (Nat.le_of_ble_eq_true rfl) ?_
              refine g_iconst X dX8_comesUp_140 (q := 141) rfl li_i1 ?_
              refine g_iadd X dX8_comesUp_141 (q := 142) rfl ?_
              refine cm_min X dX8_comesUp_142 (q := 145) rfl ml_X8_142 (Nat.le_of_ble_eq_true rfl) (Nat.le_of_ble_eq_true rfl) (Nat.le_of_ble_eq_true rfl) ?_
              refine nmI hs (fun y7 hs => ?_)
              refine g_istore X dX8_comesUp_145 (q := 147) rfl (Nat.le_of_ble_eq_true rfl) (lv' := [(4, .int y7), (3, .int a2), (0, .ref (h 79)), (1, .ref (h 72)), (2, .int x2), (5, .int a1), (6, .int a2)]) rfl ?_
              exact wg_sub [2, 3, 4, 1, 0] rfl (ih5 _ _ hs)
          refine g_icmp_ne X dX8_comesUp_102 (q := 105) rfl (tgt := 122) (by decide) hs ?_ ?_
          · intro hs
            exact wg_sub [1, 2, 3, 4, 5, 6, 0] rfl (ih4 hs)
          · intro hs
            refine g_iload X dX8_comesUp_105 (q := 107) rfl 5 rfl ?_
            refine g_iload X dX8_comesUp_107 (q := 109) rfl 6 rfl ?_
            refine g_icmp_ge X dX8_comesUp_109 (q := 112) rfl (tgt := 122) (by decide) hs ?_ ?_
            · intro hs
              exact wg_sub [1, 2, 3, 4, 5, 6, 0] rfl (ih4 hs)
            · intro hs
              exact wg_sub [1, 2, 3, 4] rfl (ih3 hs)
      refine g_if_le X dX8_comesUp_71 (q := 74) rfl (tgt := 91) (by decide) hs ?_ ?_
      · intro hs
        refine g_iconst X dX8_comesUp_91 (q := 92) rfl li_im1 ?_
        exact wg_sub [1, 2, 3, 4, 5, 0] rfl (ih2 _ hs)
      · intro hs
        refine g_aload_n X dX8_comesUp_74 (q := 75) rfl 1 rfl ?_
        refine cg_18_0 X dX8_comesUp_75 (q := 78) rfl sh_79 lf_X8_9 ?_
        refine g_aload_n X dX8_comesUp_78 (q := 79) rfl 2 rfl ?_
        refine cgN_1_13 hZ X dX8_comesUp_79 (q := 82) rfl sh_72 lf_X8_92 ?_
        refine g_iload_n X dX8_comesUp_82 (q := 83) rfl 3 rfl ?_
        refine ca_ld X dX8_comesUp_83 (q := 84) rfl 76 sh_76 rfl hs (fun y8 hs => ?_)
        refine g_iload_n X dX8_comesUp_84 (q := 85) rfl 4 rfl ?_
        refine vc_X7_crossing_X8 hZ X dX8_comesUp_85 (q := 88) rfl sh_8 (Nat.le_of_ble_eq_true rfl) (Nat.le_of_ble_eq_true rfl) (Nat.le_of_ble_eq_true rfl) hs (fun y9 hs => ?_)
        refine g_goto X dX8_comesUp_88 (tgt := 92) (by decide) ?_
        exact wg_sub [1, 2, 3, 4, 5, 0] rfl (ih2 _ hs)
    refine g_if_eq X dX8_comesUp_54 (q := 57) rfl (tgt := 66) (by decide) hs ?_ ?_
    · intro hs
      refine g_iconst X dX8_comesUp_66 (q := 67) rfl li_i0 ?_
      exact wg_sub [2, 3, 4, 1, 0] rfl (ih1 _ hs)
    · intro hs
      refine g_aload_n X dX8_comesUp_57 (q := 58) rfl 3 rfl ?_
      refine cgN_1_14 hZ X dX8_comesUp_58 (q := 61) rfl sh_72 lf_X8_131 ?_
      refine g_iload_n X dX8_comesUp_61 (q := 62) rfl 4 rfl ?_
      refine ca_ld X dX8_comesUp_62 (q := 63) rfl 77 sh_77 rfl hs (fun y10 hs => ?_)
      refine g_goto X dX8_comesUp_63 (tgt := 67) (by decide) ?_
      exact wg_sub [2, 3, 4, 1, 0] rfl (ih1 _ hs)
  · intro hs
    refine g_iconst X dX8_comesUp_8 (q := 9) rfl li_i0 ?_
    exact RI _ 9 _ _ _ (rU1 hs) rfl (rV1 hs) dX8_comesUp_9
theorem dX8_blow_0 : decode cX8_blow 0 = .ok (.iconst 0, 1) := by decide +kernel
theorem dX8_blow_1 : decode cX8_blow 1 = .ok (.istore_n 2, 1) := by decide +kernel
theorem dX8_blow_2 : decode cX8_blow 2 = .ok (.iconst 0, 1) := by decide +kernel
theorem dX8_blow_3 : decode cX8_blow 3 = .ok (.istore_n 3, 1) := by decide +kernel
theorem dX8_blow_4 : decode cX8_blow 4 = .ok (.iload_n 3, 1) := by decide +kernel
theorem dX8_blow_5 : decode cX8_blow 5 = .ok (.bipush 64, 2) := by decide +kernel
theorem dX8_blow_7 : decode cX8_blow 7 = .ok (.if_icmp .ge 40, 3) := by decide +kernel
theorem dX8_blow_10 : decode cX8_blow 10 = .ok (.aload_n 1, 1) := by decide +kernel
theorem dX8_blow_11 : decode cX8_blow 11 = .ok (.iload_n 3, 1) := by decide +kernel
theorem dX8_blow_12 : decode cX8_blow 12 = .ok (.invokevirtual 83, 3) := by decide +kernel
theorem dX8_blow_15 : decode cX8_blow 15 = .ok (.ifCond .eq 26, 3) := by decide +kernel
theorem dX8_blow_18 : decode cX8_blow 18 = .ok (.iload_n 2, 1) := by decide +kernel
theorem dX8_blow_19 : decode cX8_blow 19 = .ok (.aload_n 0, 1) := by decide +kernel
theorem dX8_blow_20 : decode cX8_blow 20 = .ok (.getfield 9, 3) := by decide +kernel
theorem dX8_blow_23 : decode cX8_blow 23 = .ok (.getfield 121, 3) := by decide +kernel
theorem dX8_blow_26 : decode cX8_blow 26 = .ok (.iconst 1, 1) := by decide +kernel
theorem dX8_blow_27 : decode cX8_blow 27 = .ok (.aload_n 1, 1) := by decide +kernel
theorem dX8_blow_28 : decode cX8_blow 28 = .ok (.aload_n 1, 1) := by decide +kernel
theorem dX8_blow_29 : decode cX8_blow 29 = .ok (.getfield 92, 3) := by decide +kernel
theorem dX8_blow_32 : decode cX8_blow 32 = .ok (.iload_n 3, 1) := by decide +kernel
theorem dX8_blow_33 : decode cX8_blow 33 = .ok (.iaload, 1) := by decide +kernel
theorem dX8_blow_34 : decode cX8_blow 34 = .ok (.iload_n 3, 1) := by decide +kernel
theorem dX8_blow_35 : decode cX8_blow 35 = .ok (.iconst 0, 1) := by decide +kernel
theorem dX8_blow_36 : decode cX8_blow 36 = .ok (.invokevirtual 125, 3) := by decide +kernel
theorem dX8_blow_39 : decode cX8_blow 39 = .ok (.iadd, 1) := by decide +kernel
theorem dX8_blow_40 : decode cX8_blow 40 = .ok (.istore_n 2, 1) := by decide +kernel
theorem dX8_blow_41 : decode cX8_blow 41 = .ok (.iinc 3 1, 3) := by decide +kernel
theorem dX8_blow_44 : decode cX8_blow 44 = .ok (.goto (-40), 3) := by decide +kernel
theorem dX8_blow_47 : decode cX8_blow 47 = .ok (.aload_n 1, 1) := by decide +kernel
theorem dX8_blow_48 : decode cX8_blow 48 = .ok (.dup, 1) := by decide +kernel
theorem dX8_blow_49 : decode cX8_blow 49 = .ok (.getfield 148, 3) := by decide +kernel
theorem dX8_blow_52 : decode cX8_blow 52 = .ok (.iload_n 2, 1) := by decide +kernel
theorem dX8_blow_53 : decode cX8_blow 53 = .ok (.iadd, 1) := by decide +kernel
theorem dX8_blow_54 : decode cX8_blow 54 = .ok (.putfield 148, 3) := by decide +kernel
theorem dX8_blow_57 : decode cX8_blow 57 = .ok (.aload_n 1, 1) := by decide +kernel
theorem dX8_blow_58 : decode cX8_blow 58 = .ok (.getfield 19, 3) := by decide +kernel
theorem dX8_blow_61 : decode cX8_blow 61 = .ok (.iconst 2, 1) := by decide +kernel
theorem dX8_blow_62 : decode cX8_blow 62 = .ok (.irem, 1) := by decide +kernel
theorem dX8_blow_63 : decode cX8_blow 63 = .ok (.ifCond .ne 7, 3) := by decide +kernel
theorem dX8_blow_66 : decode cX8_blow 66 = .ok (.iconst 1, 1) := by decide +kernel
theorem dX8_blow_67 : decode cX8_blow 67 = .ok (.goto 4, 3) := by decide +kernel
theorem dX8_blow_70 : decode cX8_blow 70 = .ok (.iconst 0, 1) := by decide +kernel
theorem dX8_blow_71 : decode cX8_blow 71 = .ok (.istore_n 3, 1) := by decide +kernel
theorem dX8_blow_72 : decode cX8_blow 72 = .ok (.iconst 0, 1) := by decide +kernel
theorem dX8_blow_73 : decode cX8_blow 73 = .ok (.istore 4, 2) := by decide +kernel
theorem dX8_blow_75 : decode cX8_blow 75 = .ok (.iload 4, 2) := by decide +kernel
theorem dX8_blow_77 : decode cX8_blow 77 = .ok (.bipush 64, 2) := by decide +kernel
theorem dX8_blow_79 : decode cX8_blow 79 = .ok (.if_icmp .ge 77, 3) := by decide +kernel
theorem dX8_blow_82 : decode cX8_blow 82 = .ok (.aload_n 1, 1) := by decide +kernel
theorem dX8_blow_83 : decode cX8_blow 83 = .ok (.getfield 151, 3) := by decide +kernel
theorem dX8_blow_86 : decode cX8_blow 86 = .ok (.iload 4, 2) := by decide +kernel
theorem dX8_blow_88 : decode cX8_blow 88 = .ok (.iaload, 1) := by decide +kernel
theorem dX8_blow_89 : decode cX8_blow 89 = .ok (.istore 5, 2) := by decide +kernel
theorem dX8_blow_91 : decode cX8_blow 91 = .ok (.aload_n 1, 1) := by decide +kernel
theorem dX8_blow_92 : decode cX8_blow 92 = .ok (.iload 4, 2) := by decide +kernel
theorem dX8_blow_94 : decode cX8_blow 94 = .ok (.invokevirtual 83, 3) := by decide +kernel
theorem dX8_blow_97 : decode cX8_blow 97 = .ok (.ifCond .eq 34, 3) := by decide +kernel
theorem dX8_blow_100 : decode cX8_blow 100 = .ok (.aload_n 1, 1) := by decide +kernel
theorem dX8_blow_101 : decode cX8_blow 101 = .ok (.getfield 151, 3) := by decide +kernel
theorem dX8_blow_104 : decode cX8_blow 104 = .ok (.iload 4, 2) := by decide +kernel
theorem dX8_blow_106 : decode cX8_blow 106 = .ok (.bipush 9, 2) := by decide +kernel
theorem dX8_blow_108 : decode cX8_blow 108 = .ok (.iload 5, 2) := by decide +kernel
theorem dX8_blow_110 : decode cX8_blow 110 = .ok (.iconst 1, 1) := by decide +kernel
theorem dX8_blow_111 : decode cX8_blow 111 = .ok (.aload_n 1, 1) := by decide +kernel
theorem dX8_blow_112 : decode cX8_blow 112 = .ok (.getfield 131, 3) := by decide +kernel
theorem dX8_blow_115 : decode cX8_blow 115 = .ok (.iload 4, 2) := by decide +kernel
theorem dX8_blow_117 : decode cX8_blow 117 = .ok (.iaload, 1) := by decide +kernel
theorem dX8_blow_118 : decode cX8_blow 118 = .ok (.iconst 3, 1) := by decide +kernel
theorem dX8_blow_119 : decode cX8_blow 119 = .ok (.idiv, 1) := by decide +kernel
theorem dX8_blow_120 : decode cX8_blow 120 = .ok (.invokestatic 137, 3) := by decide +kernel
theorem dX8_blow_123 : decode cX8_blow 123 = .ok (.iadd, 1) := by decide +kernel
theorem dX8_blow_124 : decode cX8_blow 124 = .ok (.invokestatic 142, 3) := by decide +kernel
theorem dX8_blow_127 : decode cX8_blow 127 = .ok (.iastore, 1) := by decide +kernel
theorem dX8_blow_128 : decode cX8_blow 128 = .ok (.goto 22, 3) := by decide +kernel
theorem dX8_blow_131 : decode cX8_blow 131 = .ok (.iload_n 3, 1) := by decide +kernel
theorem dX8_blow_132 : decode cX8_blow 132 = .ok (.ifCond .eq 18, 3) := by decide +kernel
theorem dX8_blow_135 : decode cX8_blow 135 = .ok (.aload_n 1, 1) := by decide +kernel
theorem dX8_blow_136 : decode cX8_blow 136 = .ok (.getfield 151, 3) := by decide +kernel
theorem dX8_blow_139 : decode cX8_blow 139 = .ok (.iload 4, 2) := by decide +kernel
theorem dX8_blow_141 : decode cX8_blow 141 = .ok (.iconst 0, 1) := by decide +kernel
theorem dX8_blow_142 : decode cX8_blow 142 = .ok (.iload 5, 2) := by decide +kernel
theorem dX8_blow_144 : decode cX8_blow 144 = .ok (.iconst 1, 1) := by decide +kernel
theorem dX8_blow_145 : decode cX8_blow 145 = .ok (.isub, 1) := by decide +kernel
theorem dX8_blow_146 : decode cX8_blow 146 = .ok (.invokestatic 137, 3) := by decide +kernel
theorem dX8_blow_149 : decode cX8_blow 149 = .ok (.iastore, 1) := by decide +kernel
theorem dX8_blow_150 : decode cX8_blow 150 = .ok (.iinc 4 1, 3) := by decide +kernel
theorem dX8_blow_153 : decode cX8_blow 153 = .ok (.goto (-78), 3) := by decide +kernel
theorem dX8_blow_156 : decode cX8_blow 156 = .ok (.return_, 1) := by decide +kernel
def C_X8_blow_t (s : ST) : Option (ST) := lpK3 (C := ST) (fun (rec1 : Int32 → Int32 → ST → Option (ST)) (a1 : Int32) (a2 : Int32) (s1 : ST) => if (64 : Int32) ≤ a2 then (Lt (ups s1 72 5 ((s1.1 72 5) + a1)) fun s2 => Lt (fun (a3 : Int32) => (lpK2 (C := ST) (fun (rec2 : Int32 → ST → Option (ST)) (a4 : Int32) (s3 : ST) => if (64 : Int32) ≤ a4 then (some s3) else (Gl s3 73 64 a4 fun y1 => Lt (C_X1_hasStorm s3 72 a4) fun y2 => Lt (fun (s4 : ST) => (rec2 (a4 + (1 : Int32)) s4 : Option (ST))) fun j2 => if y2 = 0 then (if a3 = 0 then (j2 s3) else (Gs s3 73 64 a4 (imx (0 : Int32) (y1 - (1 : Int32))) fun s5 => j2 s5)) else (Gl s3 77 64 a4 fun y3 => Gs s3 73 64 a4 (imn (9 : Int32) (y1 + (imx (1 : Int32) (y3 / (3 : Int32))))) fun s6 => j2 s6))) FU (0 : Int32) s2 : Option (ST))) fun j1 => if (irm (s2.1 72 2) (2 : Int32)) = 0 then (j1 (1 : Int32)) else (j1 (0 : Int32))) else (Lt (C_X1_hasStorm s1 72 a2) fun y4 => Lt (fun (a5 : Int32) (s7 : ST) => (rec1 a5 (a2 + (1 : Int32)) s7 : Option (ST))) fun j3 => if y4 = 0 then (j3 a1 s1) else (Gl s1 76 64 a2 fun y5 => Bd (C_X2_ask s1 (1 : Int32) 72 y5 a2 (0 : Int32)) fun y6 => Lt ((a1 + y6.1)) fun y7 => j3 y7 y6.2))) FU (0 : Int32) (0 : Int32) s
set_option maxRecDepth 100000 in
set_option maxHeartbeats 4000000 in
theorem k_X8_blow_t {h : Nat → Nat} {Z : State → Heap → Prop} {sa : Nat → Nat} (hZ : ZK h Z sa) (l : Launch) (D : va_G) (cA cL : ClassId) (s : ST) {o : ST} (hs : C_X8_blow_t s = some o) : MV l (KC D cA cL h Z) 5 yX8_blow cX8_blow 6 none s [.ref (h 79), .ref (h 72)] o := by
  refine met_v (by decide) (Nat.le_of_ble_eq_true rfl) ?_
  intro p e st m args below meth c Q X RI
  unfold C_X8_blow_t at hs
  refine g_iconst X dX8_blow_0 (q := 1) rfl li_i0 ?_
  refine g_istore_n X dX8_blow_1 (q := 2) rfl (Nat.le_of_ble_eq_true rfl) (lv' := [(2, .int (0 : Int32)), (0, .ref (h 79)), (1, .ref (h 72))]) rfl ?_
  refine g_iconst X dX8_blow_2 (q := 3) rfl li_i0 ?_
  refine g_istore_n X dX8_blow_3 (q := 4) rfl (Nat.le_of_ble_eq_true rfl) (lv' := [(3, .int (0 : Int32)), (2, .int (0 : Int32)), (0, .ref (h 79)), (1, .ref (h 72))]) rfl ?_
  refine wg_sub [2, 3, 1, 0] rfl (lpW3 (fun (a1 : Int32) (a2 : Int32) (s1 : ST) => WG (KC D cA cL h Z) p l e (rmD 5) st m args below meth c Q 6 s1 4 [(0, .ref (h 79)), (1, .ref (h 72)), (2, .int a1), (3, .int a2)] []) (fun rec1 ih1 a1 a2 s1 hs => ?_) _ _ _ _ hs)
  refine g_iload_n X dX8_blow_4 (q := 5) rfl 3 rfl ?_
  refine g_bipush X dX8_blow_5 (q := 7) rfl li_b64 ?_
  refine g_icmp_ge X dX8_blow_7 (q := 10) rfl (tgt := 47) (by decide) hs ?_ ?_
  · intro hs
    refine g_aload_n X dX8_blow_47 (q := 48) rfl 1 rfl ?_
    refine g_dup X dX8_blow_48 (q := 49) rfl rfl ?_
    refine cgN_1_5 hZ X dX8_blow_49 (q := 52) rfl sh_72 lf_X8_148 ?_
    refine g_iload_n X dX8_blow_52 (q := 53) rfl 2 rfl ?_
    refine g_iadd X dX8_blow_53 (q := 54) rfl ?_
    refine cpN_1_5 hZ X dX8_blow_54 (q := 57) rfl sh_72 lf_X8_148 hs (fun s2 hs => ?_)
    refine g_aload_n X dX8_blow_57 (q := 58) rfl 1 rfl ?_
    refine cgN_1_2 hZ X dX8_blow_58 (q := 61) rfl sh_72 lf_X8_19 ?_
    refine g_iconst X dX8_blow_61 (q := 62) rfl li_i2 ?_
    refine g_irem X dX8_blow_62 (q := 63) rfl (by decide) ?_
    refine jnW1 (fun (a3 : Int32) => WG (KC D cA cL h Z) p l e (rmD 5) st m args below meth c Q 6 s2 71 [(1, .ref (h 72))] [.int a3]) hs (fun a3 hs => ?_) (fun j1 ih2 hs => ?_)
    · refine g_istore_n X dX8_blow_71 (q := 72) rfl (Nat.le_of_ble_eq_true rfl) (lv' := [(3, .int a3), (1, .ref (h 72))]) rfl ?_
      refine g_iconst X dX8_blow_72 (q := 73) rfl li_i0 ?_
      refine g_istore X dX8_blow_73 (q := 75) rfl (Nat.le_of_ble_eq_true rfl) (lv' := [(4, .int (0 : Int32)), (3, .int a3), (1, .ref (h 72))]) rfl ?_
      refine wg_sub [2, 1, 0] rfl (lpW2 (fun (a4 : Int32) (s3 : ST) => WG (KC D cA cL h Z) p l e (rmD 5) st m args below meth c Q 6 s3 75 [(1, .ref (h 72)), (3, .int a3), (4, .int a4)] []) (fun rec2 ih3 a4 s3 hs => ?_) _ _ _ hs)
      refine g_iload X dX8_blow_75 (q := 77) rfl 2 rfl ?_
      refine g_bipush X dX8_blow_77 (q := 79) rfl li_b64 ?_
      refine g_icmp_ge X dX8_blow_79 (q := 82) rfl (tgt := 156) (by decide) hs ?_ ?_
      · intro hs
        exact RI _ 156 _ (Option.some.inj hs) dX8_blow_156
      · intro hs
        refine g_aload_n X dX8_blow_82 (q := 83) rfl 0 rfl ?_
        refine cgN_1_10 hZ X dX8_blow_83 (q := 86) rfl sh_72 lf_X8_151 ?_
        refine g_iload X dX8_blow_86 (q := 88) rfl 2 rfl ?_
        refine ca_ld X dX8_blow_88 (q := 89) rfl 73 sh_73 rfl hs (fun y1 hs => ?_)
        refine g_istore X dX8_blow_89 (q := 91) rfl (Nat.le_of_ble_eq_true rfl) (lv' := [(5, .int y1), (1, .ref (h 72)), (3, .int a3), (4, .int a4)]) rfl ?_
        refine g_aload_n X dX8_blow_91 (q := 92) rfl 1 rfl ?_
        refine g_iload X dX8_blow_92 (q := 94) rfl 3 rfl ?_
        refine vc_X1_hasStorm_X8 hZ X dX8_blow_94 (q := 97) rfl sh_72 (Nat.le_of_ble_eq_true rfl) (Nat.le_of_ble_eq_true rfl) (Nat.le_of_ble_eq_true rfl) hs (fun y2 hs => ?_)
        refine jnW1 (fun (s4 : ST) => WG (KC D cA cL h Z) p l e (rmD 5) st m args below meth c Q 6 s4 150 [(1, .ref (h 72)), (3, .int a3), (4, .int a4)] []) hs (fun s4 hs => ?_) (fun j2 ih4 hs => ?_)
        · refine g_iinc X dX8_blow_150 (q := 153) rfl 2 rfl (v := (a4 + (1 : Int32))) (congrArg (HAdd.hAdd a4) li_i1) (Nat.le_of_ble_eq_true rfl) (lv' := [(4, .int (a4 + (1 : Int32))), (1, .ref (h 72)), (3, .int a3)]) rfl ?_
          refine g_goto X dX8_blow_153 (tgt := 75) (by decide) ?_
          exact wg_sub [1, 2, 0] rfl (ih3 _ _ hs)
        refine g_if_eq X dX8_blow_97 (q := 100) rfl (tgt := 131) (by decide) hs ?_ ?_
        · intro hs
          refine g_iload_n X dX8_blow_131 (q := 132) rfl 2 rfl ?_
          refine g_if_eq X dX8_blow_132 (q := 135) rfl (tgt := 150) (by decide) hs ?_ ?_
          · intro hs
            exact wg_sub [1, 2, 3] rfl (ih4 _ hs)
          · intro hs
            refine g_aload_n X dX8_blow_135 (q := 136) rfl 1 rfl ?_
            refine cgN_1_10 hZ X dX8_blow_136 (q := 139) rfl sh_72 lf_X8_151 ?_
            refine g_iload X dX8_blow_139 (q := 141) rfl 3 rfl ?_
            refine g_iconst X dX8_blow_141 (q := 142) rfl li_i0 ?_
            refine g_iload X dX8_blow_142 (q := 144) rfl 0 rfl ?_
            refine g_iconst X dX8_blow_144 (q := 145) rfl li_i1 ?_
            refine g_isub X dX8_blow_145 (q := 146) rfl ?_
            refine cm_max X dX8_blow_146 (q := 149) rfl ml_X8_137 (Nat.le_of_ble_eq_true rfl) (Nat.le_of_ble_eq_true rfl) (Nat.le_of_ble_eq_true rfl) ?_
            refine ca_st X dX8_blow_149 (q := 150) rfl 73 sh_73 rfl hs (fun s5 hs => ?_)
            exact wg_sub [1, 2, 3] rfl (ih4 _ hs)
        · intro hs
          refine g_aload_n X dX8_blow_100 (q := 101) rfl 1 rfl ?_
          refine cgN_1_10 hZ X dX8_blow_101 (q := 104) rfl sh_72 lf_X8_151 ?_
          refine g_iload X dX8_blow_104 (q := 106) rfl 3 rfl ?_
          refine g_bipush X dX8_blow_106 (q := 108) rfl li_b9 ?_
          refine g_iload X dX8_blow_108 (q := 110) rfl 0 rfl ?_
          refine g_iconst X dX8_blow_110 (q := 111) rfl li_i1 ?_
          refine g_aload_n X dX8_blow_111 (q := 112) rfl 1 rfl ?_
          refine cgN_1_14 hZ X dX8_blow_112 (q := 115) rfl sh_72 lf_X8_131 ?_
          refine g_iload X dX8_blow_115 (q := 117) rfl 3 rfl ?_
          refine ca_ld X dX8_blow_117 (q := 118) rfl 77 sh_77 rfl hs (fun y3 hs => ?_)
          refine g_iconst X dX8_blow_118 (q := 119) rfl li_i3 ?_
          refine g_idiv X dX8_blow_119 (q := 120) rfl (by decide) ?_
          refine cm_max X dX8_blow_120 (q := 123) rfl ml_X8_137 (Nat.le_of_ble_eq_true rfl) (Nat.le_of_ble_eq_true rfl) (Nat.le_of_ble_eq_true rfl) ?_
          refine g_iadd X dX8_blow_123 (q := 124) rfl ?_
          refine cm_min X dX8_blow_124 (q := 127) rfl ml_X8_142 (Nat.le_of_ble_eq_true rfl) (Nat.le_of_ble_eq_true rfl) (Nat.le_of_ble_eq_true rfl) ?_
          refine ca_st X dX8_blow_127 (q := 128) rfl 73 sh_73 rfl hs (fun s6 hs => ?_)
          refine g_goto X dX8_blow_128 (tgt := 150) (by decide) ?_
          exact wg_sub [1, 2, 3] rfl (ih4 _ hs)
    refine g_if_ne X dX8_blow_63 (q := 66) rfl (tgt := 70) (by decide) hs ?_ ?_
    · intro hs
      refine g_iconst X dX8_blow_70 (q := 71) rfl li_i0 ?_
      exact wg_sub [1] rfl (ih2 _ hs)
    · intro hs
      refine g_iconst X dX8_blow_66 (q := 67) rfl li_i1 ?_
      refine g_goto X dX8_blow_67 (tgt := 71) (by decide) ?_
      exact wg_sub [1] rfl (ih2 _ hs)
  · intro hs
    refine g_aload_n X dX8_blow_10 (q := 11) rfl 1 rfl ?_
    refine g_iload_n X dX8_blow_11 (q := 12) rfl 3 rfl ?_
    refine vc_X1_hasStorm_X8 hZ X dX8_blow_12 (q := 15) rfl sh_72 (Nat.le_of_ble_eq_true rfl) (Nat.le_of_ble_eq_true rfl) (Nat.le_of_ble_eq_true rfl) hs (fun y4 hs => ?_)
    refine jnW2 (fun (a5 : Int32) (s7 : ST) => WG (KC D cA cL h Z) p l e (rmD 5) st m args below meth c Q 6 s7 41 [(0, .ref (h 79)), (1, .ref (h 72)), (2, .int a5), (3, .int a2)] []) hs (fun a5 s7 hs => ?_) (fun j3 ih5 hs => ?_)
    · refine g_iinc X dX8_blow_41 (q := 44) rfl 3 rfl (v := (a2 + (1 : Int32))) (congrArg (HAdd.hAdd a2) li_i1) (Nat.le_of_ble_eq_true rfl) (lv' := [(3, .int (a2 + (1 : Int32))), (0, .ref (h 79)), (1, .ref (h 72)), (2, .int a5)]) rfl ?_
      refine g_goto X dX8_blow_44 (tgt := 4) (by decide) ?_
      exact wg_sub [1, 2, 3, 0] rfl (ih1 _ _ _ hs)
    refine g_if_eq X dX8_blow_15 (q := 18) rfl (tgt := 41) (by decide) hs ?_ ?_
    · intro hs
      exact wg_sub [0, 1, 2, 3] rfl (ih5 _ _ hs)
    · intro hs
      refine g_iload_n X dX8_blow_18 (q := 19) rfl 2 rfl ?_
      refine g_aload_n X dX8_blow_19 (q := 20) rfl 0 rfl ?_
      refine cg_18_0 X dX8_blow_20 (q := 23) rfl sh_79 lf_X8_9 ?_
      refine cgN_7_2 hZ X dX8_blow_23 (q := 26) rfl sh_8 lf_X8_121 ?_
      refine g_iconst X dX8_blow_26 (q := 27) rfl li_i1 ?_
      refine g_aload_n X dX8_blow_27 (q := 28) rfl 1 rfl ?_
      refine g_aload_n X dX8_blow_28 (q := 29) rfl 1 rfl ?_
      refine cgN_1_13 hZ X dX8_blow_29 (q := 32) rfl sh_72 lf_X8_92 ?_
      refine g_iload_n X dX8_blow_32 (q := 33) rfl 3 rfl ?_
      refine ca_ld X dX8_blow_33 (q := 34) rfl 76 sh_76 rfl hs (fun y5 hs => ?_)
      refine g_iload_n X dX8_blow_34 (q := 35) rfl 3 rfl ?_
      refine g_iconst X dX8_blow_35 (q := 36) rfl li_i0 ?_
      refine vc_X2_ask_X8 hZ X dX8_blow_36 (q := 39) rfl sh_72 (Nat.le_of_ble_eq_true rfl) (Nat.le_of_ble_eq_true rfl) (Nat.le_of_ble_eq_true rfl) hs (fun y6 hs => ?_)
      refine g_iadd X dX8_blow_39 (q := 40) rfl ?_
      refine nmI hs (fun y7 hs => ?_)
      refine g_istore_n X dX8_blow_40 (q := 41) rfl (Nat.le_of_ble_eq_true rfl) (lv' := [(2, .int y7), (0, .ref (h 79)), (1, .ref (h 72)), (3, .int a2)]) rfl ?_
      exact wg_sub [1, 2, 0, 3] rfl (ih5 _ _ hs)
theorem dX8_dawn_0 : decode cX8_dawn 0 = .ok (.iload_n 2, 1) := by decide +kernel
theorem dX8_dawn_1 : decode cX8_dawn 1 = .ok (.ifCond .eq 8, 3) := by decide +kernel
theorem dX8_dawn_4 : decode cX8_dawn 4 = .ok (.aload_n 0, 1) := by decide +kernel
theorem dX8_dawn_5 : decode cX8_dawn 5 = .ok (.aload_n 1, 1) := by decide +kernel
theorem dX8_dawn_6 : decode cX8_dawn 6 = .ok (.invokevirtual 62, 3) := by decide +kernel
theorem dX8_dawn_9 : decode cX8_dawn 9 = .ok (.iconst 0, 1) := by decide +kernel
theorem dX8_dawn_10 : decode cX8_dawn 10 = .ok (.istore_n 3, 1) := by decide +kernel
theorem dX8_dawn_11 : decode cX8_dawn 11 = .ok (.iconst 0, 1) := by decide +kernel
theorem dX8_dawn_12 : decode cX8_dawn 12 = .ok (.istore 4, 2) := by decide +kernel
theorem dX8_dawn_14 : decode cX8_dawn 14 = .ok (.iload 4, 2) := by decide +kernel
theorem dX8_dawn_16 : decode cX8_dawn 16 = .ok (.bipush 64, 2) := by decide +kernel
theorem dX8_dawn_18 : decode cX8_dawn 18 = .ok (.if_icmp .ge 64, 3) := by decide +kernel
theorem dX8_dawn_21 : decode cX8_dawn 21 = .ok (.aload_n 1, 1) := by decide +kernel
theorem dX8_dawn_22 : decode cX8_dawn 22 = .ok (.iload 4, 2) := by decide +kernel
theorem dX8_dawn_24 : decode cX8_dawn 24 = .ok (.invokevirtual 51, 3) := by decide +kernel
theorem dX8_dawn_27 : decode cX8_dawn 27 = .ok (.ifCond .eq 49, 3) := by decide +kernel
theorem dX8_dawn_30 : decode cX8_dawn 30 = .ok (.aload_n 1, 1) := by decide +kernel
theorem dX8_dawn_31 : decode cX8_dawn 31 = .ok (.getfield 19, 3) := by decide +kernel
theorem dX8_dawn_34 : decode cX8_dawn 34 = .ok (.aload_n 1, 1) := by decide +kernel
theorem dX8_dawn_35 : decode cX8_dawn 35 = .ok (.getfield 66, 3) := by decide +kernel
theorem dX8_dawn_38 : decode cX8_dawn 38 = .ok (.iload 4, 2) := by decide +kernel
theorem dX8_dawn_40 : decode cX8_dawn 40 = .ok (.iaload, 1) := by decide +kernel
theorem dX8_dawn_41 : decode cX8_dawn 41 = .ok (.isub, 1) := by decide +kernel
theorem dX8_dawn_42 : decode cX8_dawn 42 = .ok (.aload_n 0, 1) := by decide +kernel
theorem dX8_dawn_43 : decode cX8_dawn 43 = .ok (.getfield 9, 3) := by decide +kernel
theorem dX8_dawn_46 : decode cX8_dawn 46 = .ok (.getfield 69, 3) := by decide +kernel
theorem dX8_dawn_49 : decode cX8_dawn 49 = .ok (.aload_n 1, 1) := by decide +kernel
theorem dX8_dawn_50 : decode cX8_dawn 50 = .ok (.getfield 58, 3) := by decide +kernel
theorem dX8_dawn_53 : decode cX8_dawn 53 = .ok (.iload 4, 2) := by decide +kernel
theorem dX8_dawn_55 : decode cX8_dawn 55 = .ok (.iaload, 1) := by decide +kernel
theorem dX8_dawn_56 : decode cX8_dawn 56 = .ok (.iconst 0, 1) := by decide +kernel
theorem dX8_dawn_57 : decode cX8_dawn 57 = .ok (.invokevirtual 72, 3) := by decide +kernel
theorem dX8_dawn_60 : decode cX8_dawn 60 = .ok (.if_icmp .lt 16, 3) := by decide +kernel
theorem dX8_dawn_63 : decode cX8_dawn 63 = .ok (.aload_n 0, 1) := by decide +kernel
theorem dX8_dawn_64 : decode cX8_dawn 64 = .ok (.aload_n 1, 1) := by decide +kernel
theorem dX8_dawn_65 : decode cX8_dawn 65 = .ok (.iload 4, 2) := by decide +kernel
theorem dX8_dawn_67 : decode cX8_dawn 67 = .ok (.invokevirtual 76, 3) := by decide +kernel
theorem dX8_dawn_70 : decode cX8_dawn 70 = .ok (.ifCond .eq 6, 3) := by decide +kernel
theorem dX8_dawn_73 : decode cX8_dawn 73 = .ok (.iinc 3 1, 3) := by decide +kernel
theorem dX8_dawn_76 : decode cX8_dawn 76 = .ok (.iinc 4 1, 3) := by decide +kernel
theorem dX8_dawn_79 : decode cX8_dawn 79 = .ok (.goto (-65), 3) := by decide +kernel
theorem dX8_dawn_82 : decode cX8_dawn 82 = .ok (.aload_n 0, 1) := by decide +kernel
theorem dX8_dawn_83 : decode cX8_dawn 83 = .ok (.aload_n 1, 1) := by decide +kernel
theorem dX8_dawn_84 : decode cX8_dawn 84 = .ok (.invokevirtual 80, 3) := by decide +kernel
theorem dX8_dawn_87 : decode cX8_dawn 87 = .ok (.iload_n 3, 1) := by decide +kernel
theorem dX8_dawn_88 : decode cX8_dawn 88 = .ok (.ireturn, 1) := by decide +kernel
theorem wX8_blow_t_X8 : GoodIn GT (wsV RX8 80 RX8 yX8_blow (.code yX8_blow cX8_blow 6 none :: GT)) := gt_V (gt_of 1044 (by decide +kernel) rfl) (gt_of 1046 (by decide +kernel) rfl) (gt_of 71 (by decide +kernel) rfl) (gt_of 204 (by decide +kernel) rfl) (gt_of 1047 (by decide +kernel) rfl)
theorem vc_X8_blow_t_X8 {p : Program} {l : Launch} {e : Env} {st : State} {m : MethodId} {args : Array Value} {below : List Frame} {meth : Method} {c : Code} {Q : State → Prop} {nL : Nat} {cc : ByteArray} {s : ST} {pc q : Nat} {lv : List (Nat × Value)} {rest : List Value} {D : va_G} {cA cL : ClassId} {h : Nat → Nat} {Z : State → Heap → Prop} {sa : Nat → Nat} (hZ : ZK h Z sa) {d0 : Nat} (X : Cx (KC D cA cL h Z) p st m args meth c cc nL RX8) (d : decode cc pc = .ok (.invokevirtual 80, 3)) (hq : pc + 3 = q) (hd1 : 5 + 1 ≤ d0) (hd2 : 8 + (6 + 11) + 100 * 5 ≤ 100 * d0) (hr : (rest.map fun v => v.category).sum ≤ 8) {B : Type} {f : ST → Option B} {r : B} (hs : Bd (C_X8_blow_t s) f = some r) (k : ∀ y, f y = some r → WG (KC D cA cL h Z) p l e (rmD d0) st m args below meth c Q nL y q lv (rest)) : WG (KC D cA cL h Z) p l e (rmD d0) st m args below meth c Q nL s pc lv (.ref (h 72) :: .ref (h 79) :: rest) := by
  obtain ⟨v, hv, hs⟩ := Bd_e hs
  exact cV_V (K := KC D cA cL h Z) X 79 (n := 1) (k_X8_blow_t hZ l D cA cL s hv) wX8_blow_t_X8 ⟨hd1, hd2⟩ ⟨by decide, by decide, by decide +kernel⟩ (As := [.ref (h 72)]) rfl hr (sh_79).1 (fs := cF18 h 79 (s.1 79) (s.2 79)) (GC_18 (cA := cA) (cL := cL) sh_79 _ _) rfl rfl d hq (k _ hs)
theorem wX8_comesUp_t_X8 : GoodIn GT (wsV RX8 76 RX8 yX8_comesUp (.code yX8_comesUp cX8_comesUp 7 (some .boolean) :: GT)) := gt_V (gt_of 992 (by decide +kernel) rfl) (gt_of 994 (by decide +kernel) rfl) (gt_of 63 (by decide +kernel) rfl) (gt_of 204 (by decide +kernel) rfl) (gt_of 995 (by decide +kernel) rfl)
theorem vc_X8_comesUp_t_X8 {p : Program} {l : Launch} {e : Env} {st : State} {m : MethodId} {args : Array Value} {below : List Frame} {meth : Method} {c : Code} {Q : State → Prop} {nL : Nat} {cc : ByteArray} {s : ST} {pc q : Nat} {lv : List (Nat × Value)} {rest : List Value} {D : va_G} {cA cL : ClassId} {h : Nat → Nat} {Z : State → Heap → Prop} {sa : Nat → Nat} (hZ : ZK h Z sa) {d0 : Nat} (X : Cx (KC D cA cL h Z) p st m args meth c cc nL RX8) {x2 : Int32} (d : decode cc pc = .ok (.invokevirtual 76, 3)) (hq : pc + 3 = q) (hd1 : 5 + 1 ≤ d0) (hd2 : 8 + (7 + 11) + 100 * 5 ≤ 100 * d0) (hr : (rest.map fun v => v.category).sum ≤ 8) {B : Type} {f : Int32 × ST → Option B} {r : B} (hs : Bd (C_X8_comesUp_t s x2) f = some r) (k : ∀ y, f y = some r → WG (KC D cA cL h Z) p l e (rmD d0) st m args below meth c Q nL y.2 q lv (.int y.1 :: rest)) : WG (KC D cA cL h Z) p l e (rmD d0) st m args below meth c Q nL s pc lv (.int x2 :: .ref (h 72) :: .ref (h 79) :: rest) := by
  obtain ⟨v, hv, hs⟩ := Bd_e hs
  exact cV_I (K := KC D cA cL h Z) X 79 (n := 2) (k_X8_comesUp_t hZ l D cA cL s x2 hv) wX8_comesUp_t_X8 ⟨hd1, hd2⟩ ⟨by decide, by decide, by decide +kernel⟩ (As := [.ref (h 72), .int x2]) rfl hr (sh_79).1 (fs := cF18 h 79 (s.1 79) (s.2 79)) (GC_18 (cA := cA) (cL := cL) sh_79 _ _) rfl rfl d hq (k _ hs)
theorem wX8_followPlan_t_X8 : GoodIn GT (wsV RX8 62 RX8 yX8_followPlan (.code yX8_followPlan cX8_followPlan 6 none :: GT)) := gt_V (gt_of 980 (by decide +kernel) rfl) (gt_of 982 (by decide +kernel) rfl) (gt_of 61 (by decide +kernel) rfl) (gt_of 204 (by decide +kernel) rfl) (gt_of 983 (by decide +kernel) rfl)
theorem vc_X8_followPlan_t_X8 {p : Program} {l : Launch} {e : Env} {st : State} {m : MethodId} {args : Array Value} {below : List Frame} {meth : Method} {c : Code} {Q : State → Prop} {nL : Nat} {cc : ByteArray} {s : ST} {pc q : Nat} {lv : List (Nat × Value)} {rest : List Value} {D : va_G} {cA cL : ClassId} {h : Nat → Nat} {Z : State → Heap → Prop} {sa : Nat → Nat} (hZ : ZK h Z sa) {d0 : Nat} (X : Cx (KC D cA cL h Z) p st m args meth c cc nL RX8) (d : decode cc pc = .ok (.invokevirtual 62, 3)) (hq : pc + 3 = q) (hd1 : 4 + 1 ≤ d0) (hd2 : 8 + (6 + 11) + 100 * 4 ≤ 100 * d0) (hr : (rest.map fun v => v.category).sum ≤ 8) {B : Type} {f : ST → Option B} {r : B} (hs : Bd (C_X8_followPlan_t s) f = some r) (k : ∀ y, f y = some r → WG (KC D cA cL h Z) p l e (rmD d0) st m args below meth c Q nL y q lv (rest)) : WG (KC D cA cL h Z) p l e (rmD d0) st m args below meth c Q nL s pc lv (.ref (h 72) :: .ref (h 79) :: rest) := by
  obtain ⟨v, hv, hs⟩ := Bd_e hs
  exact cV_V (K := KC D cA cL h Z) X 79 (n := 1) (k_X8_followPlan_t hZ l D cA cL s hv) wX8_followPlan_t_X8 ⟨hd1, hd2⟩ ⟨by decide, by decide, by decide +kernel⟩ (As := [.ref (h 72)]) rfl hr (sh_79).1 (fs := cF18 h 79 (s.1 79) (s.2 79)) (GC_18 (cA := cA) (cL := cL) sh_79 _ _) rfl rfl d hq (k _ hs)
def C_X8_dawn_t (s : ST) (x2 : Int32) : Option (Int32 × ST) := Lt (fun (s1 : ST) => (lpK3 (C := Int32 × ST) (fun (rec1 : Int32 → Int32 → ST → Option (Int32 × ST)) (a1 : Int32) (a2 : Int32) (s2 : ST) => if (64 : Int32) ≤ a2 then (Bd (C_X8_blow_t s2) fun s3 => some (a1, s3)) else (Lt (C_X1_hasSeed s2 72 a2) fun y1 => Lt (fun (a3 : Int32) (s4 : ST) => (rec1 a3 (a2 + (1 : Int32)) s4 : Option (Int32 × ST))) fun j2 => if y1 = 0 then (j2 a1 s2) else (Gl s2 75 64 a2 fun y2 => Gl s2 74 64 a2 fun y3 => Bd (C_X4_of s2 9 y3 (0 : Int32)) fun y4 => if ((s2.1 72 2) - y2) < y4 then (j2 a1 s2) else (Bd (C_X8_comesUp_t s2 a2) fun y5 => if y5.1 = 0 then (j2 a1 y5.2) else (j2 (a1 + (1 : Int32)) y5.2))))) FU (0 : Int32) (0 : Int32) s1 : Option (Int32 × ST))) fun j1 => if x2 = 0 then (j1 s) else (Bd (C_X8_followPlan_t s) fun s5 => j1 s5)
set_option maxRecDepth 100000 in
set_option maxHeartbeats 4000000 in
theorem k_X8_dawn_t {h : Nat → Nat} {Z : State → Heap → Prop} {sa : Nat → Nat} (hZ : ZK h Z sa) (l : Launch) (D : va_G) (cA cL : ClassId) (s : ST) (x2 : Int32) {o : Int32 × ST} (hs : C_X8_dawn_t s x2 = some o) : MI l (KC D cA cL h Z) 6 yX8_dawn cX8_dawn 5 (some .int) s [.ref (h 79), .ref (h 72), .int x2] o.1 o.2 := by
  refine met_i (by decide) (Nat.le_of_ble_eq_true rfl) ?_
  intro p e st m args below meth c Q X RI
  unfold C_X8_dawn_t at hs
  refine g_iload_n X dX8_dawn_0 (q := 1) rfl 2 rfl ?_
  refine jnW1 (fun (s1 : ST) => WG (KC D cA cL h Z) p l e (rmD 6) st m args below meth c Q 5 s1 9 [(0, .ref (h 79)), (1, .ref (h 72))] []) hs (fun s1 hs => ?_) (fun j1 ih1 hs => ?_)
  · refine g_iconst X dX8_dawn_9 (q := 10) rfl li_i0 ?_
    refine g_istore_n X dX8_dawn_10 (q := 11) rfl (Nat.le_of_ble_eq_true rfl) (lv' := [(3, .int (0 : Int32)), (0, .ref (h 79)), (1, .ref (h 72))]) rfl ?_
    refine g_iconst X dX8_dawn_11 (q := 12) rfl li_i0 ?_
    refine g_istore X dX8_dawn_12 (q := 14) rfl (Nat.le_of_ble_eq_true rfl) (lv' := [(4, .int (0 : Int32)), (3, .int (0 : Int32)), (0, .ref (h 79)), (1, .ref (h 72))]) rfl ?_
    refine wg_sub [2, 3, 1, 0] rfl (lpW3 (fun (a1 : Int32) (a2 : Int32) (s2 : ST) => WG (KC D cA cL h Z) p l e (rmD 6) st m args below meth c Q 5 s2 14 [(0, .ref (h 79)), (1, .ref (h 72)), (3, .int a1), (4, .int a2)] []) (fun rec1 ih2 a1 a2 s2 hs => ?_) _ _ _ _ hs)
    refine g_iload X dX8_dawn_14 (q := 16) rfl 3 rfl ?_
    refine g_bipush X dX8_dawn_16 (q := 18) rfl li_b64 ?_
    refine g_icmp_ge X dX8_dawn_18 (q := 21) rfl (tgt := 82) (by decide) hs ?_ ?_
    · intro hs
      refine g_aload_n X dX8_dawn_82 (q := 83) rfl 0 rfl ?_
      refine g_aload_n X dX8_dawn_83 (q := 84) rfl 1 rfl ?_
      refine vc_X8_blow_t_X8 hZ X dX8_dawn_84 (q := 87) rfl (Nat.le_of_ble_eq_true rfl) (Nat.le_of_ble_eq_true rfl) (Nat.le_of_ble_eq_true rfl) hs (fun s3 hs => ?_)
      refine g_iload_n X dX8_dawn_87 (q := 88) rfl 2 rfl ?_
      exact RI _ 88 _ _ _ (rU1 hs) rfl (rV1 hs) dX8_dawn_88
    · intro hs
      refine g_aload_n X dX8_dawn_21 (q := 22) rfl 1 rfl ?_
      refine g_iload X dX8_dawn_22 (q := 24) rfl 3 rfl ?_
      refine vc_X1_hasSeed_X8 hZ X dX8_dawn_24 (q := 27) rfl sh_72 (Nat.le_of_ble_eq_true rfl) (Nat.le_of_ble_eq_true rfl) (Nat.le_of_ble_eq_true rfl) hs (fun y1 hs => ?_)
      refine jnW2 (fun (a3 : Int32) (s4 : ST) => WG (KC D cA cL h Z) p l e (rmD 6) st m args below meth c Q 5 s4 76 [(0, .ref (h 79)), (1, .ref (h 72)), (3, .int a3), (4, .int a2)] []) hs (fun a3 s4 hs => ?_) (fun j2 ih3 hs => ?_)
      · refine g_iinc X dX8_dawn_76 (q := 79) rfl 3 rfl (v := (a2 + (1 : Int32))) (congrArg (HAdd.hAdd a2) li_i1) (Nat.le_of_ble_eq_true rfl) (lv' := [(4, .int (a2 + (1 : Int32))), (0, .ref (h 79)), (1, .ref (h 72)), (3, .int a3)]) rfl ?_
        refine g_goto X dX8_dawn_79 (tgt := 14) (by decide) ?_
        exact wg_sub [1, 2, 3, 0] rfl (ih2 _ _ _ hs)
      refine g_if_eq X dX8_dawn_27 (q := 30) rfl (tgt := 76) (by decide) hs ?_ ?_
      · intro hs
        exact wg_sub [0, 1, 2, 3] rfl (ih3 _ _ hs)
      · intro hs
        refine g_aload_n X dX8_dawn_30 (q := 31) rfl 1 rfl ?_
        refine cgN_1_2 hZ X dX8_dawn_31 (q := 34) rfl sh_72 lf_X8_19 ?_
        refine g_aload_n X dX8_dawn_34 (q := 35) rfl 1 rfl ?_
        refine cgN_1_12 hZ X dX8_dawn_35 (q := 38) rfl sh_72 lf_X8_66 ?_
        refine g_iload X dX8_dawn_38 (q := 40) rfl 3 rfl ?_
        refine ca_ld X dX8_dawn_40 (q := 41) rfl 75 sh_75 rfl hs (fun y2 hs => ?_)
        refine g_isub X dX8_dawn_41 (q := 42) rfl ?_
        refine g_aload_n X dX8_dawn_42 (q := 43) rfl 0 rfl ?_
        refine cg_18_0 X dX8_dawn_43 (q := 46) rfl sh_79 lf_X8_9 ?_
        refine cgN_7_0 hZ X dX8_dawn_46 (q := 49) rfl sh_8 lf_X8_69 ?_
        refine g_aload_n X dX8_dawn_49 (q := 50) rfl 1 rfl ?_
        refine cgN_1_11 hZ X dX8_dawn_50 (q := 53) rfl sh_72 lf_X8_58 ?_
        refine g_iload X dX8_dawn_53 (q := 55) rfl 3 rfl ?_
        refine ca_ld X dX8_dawn_55 (q := 56) rfl 74 sh_74 rfl hs (fun y3 hs => ?_)
        refine g_iconst X dX8_dawn_56 (q := 57) rfl li_i0 ?_
        refine vc_X4_of_X8 hZ X dX8_dawn_57 (q := 60) rfl sh_9 (Nat.le_of_ble_eq_true rfl) (Nat.le_of_ble_eq_true rfl) (Nat.le_of_ble_eq_true rfl) hs (fun y4 hs => ?_)
        refine g_icmp_lt X dX8_dawn_60 (q := 63) rfl (tgt := 76) (by decide) hs ?_ ?_
        · intro hs
          exact wg_sub [0, 1, 2, 3] rfl (ih3 _ _ hs)
        · intro hs
          refine g_aload_n X dX8_dawn_63 (q := 64) rfl 0 rfl ?_
          refine g_aload_n X dX8_dawn_64 (q := 65) rfl 1 rfl ?_
          refine g_iload X dX8_dawn_65 (q := 67) rfl 3 rfl ?_
          refine vc_X8_comesUp_t_X8 hZ X dX8_dawn_67 (q := 70) rfl (Nat.le_of_ble_eq_true rfl) (Nat.le_of_ble_eq_true rfl) (Nat.le_of_ble_eq_true rfl) hs (fun y5 hs => ?_)
          refine g_if_eq X dX8_dawn_70 (q := 73) rfl (tgt := 76) (by decide) hs ?_ ?_
          · intro hs
            exact wg_sub [0, 1, 2, 3] rfl (ih3 _ _ hs)
          · intro hs
            refine g_iinc X dX8_dawn_73 (q := 76) rfl 2 rfl (v := (a1 + (1 : Int32))) (congrArg (HAdd.hAdd a1) li_i1) (Nat.le_of_ble_eq_true rfl) (lv' := [(3, .int (a1 + (1 : Int32))), (0, .ref (h 79)), (1, .ref (h 72)), (4, .int a2)]) rfl ?_
            exact wg_sub [1, 2, 0, 3] rfl (ih3 _ _ hs)
  refine g_if_eq X dX8_dawn_1 (q := 4) rfl (tgt := 9) (by decide) hs ?_ ?_
  · intro hs
    exact wg_sub [0, 1] rfl (ih1 _ hs)
  · intro hs
    refine g_aload_n X dX8_dawn_4 (q := 5) rfl 0 rfl ?_
    refine g_aload_n X dX8_dawn_5 (q := 6) rfl 1 rfl ?_
    refine vc_X8_followPlan_t_X8 hZ X dX8_dawn_6 (q := 9) rfl (Nat.le_of_ble_eq_true rfl) (Nat.le_of_ble_eq_true rfl) (Nat.le_of_ble_eq_true rfl) hs (fun s5 hs => ?_)
    exact wg_sub [0, 1] rfl (ih1 _ hs)
theorem dX8_scatter_0 : decode cX8_scatter 0 = .ok (.iload_n 3, 1) := by decide +kernel
theorem dX8_scatter_1 : decode cX8_scatter 1 = .ok (.istore 4, 2) := by decide +kernel
theorem dX8_scatter_3 : decode cX8_scatter 3 = .ok (.aload_n 0, 1) := by decide +kernel
theorem dX8_scatter_4 : decode cX8_scatter 4 = .ok (.getfield 9, 3) := by decide +kernel
theorem dX8_scatter_7 : decode cX8_scatter 7 = .ok (.getfield 69, 3) := by decide +kernel
theorem dX8_scatter_10 : decode cX8_scatter 10 = .ok (.iload_n 2, 1) := by decide +kernel
theorem dX8_scatter_11 : decode cX8_scatter 11 = .ok (.iconst 2, 1) := by decide +kernel
theorem dX8_scatter_12 : decode cX8_scatter 12 = .ok (.invokevirtual 72, 3) := by decide +kernel
theorem dX8_scatter_15 : decode cX8_scatter 15 = .ok (.istore 5, 2) := by decide +kernel
theorem dX8_scatter_17 : decode cX8_scatter 17 = .ok (.iconst 0, 1) := by decide +kernel
theorem dX8_scatter_18 : decode cX8_scatter 18 = .ok (.istore 6, 2) := by decide +kernel
theorem dX8_scatter_20 : decode cX8_scatter 20 = .ok (.iload 6, 2) := by decide +kernel
theorem dX8_scatter_22 : decode cX8_scatter 22 = .ok (.iload 5, 2) := by decide +kernel
theorem dX8_scatter_24 : decode cX8_scatter 24 = .ok (.if_icmp .ge 67, 3) := by decide +kernel
theorem dX8_scatter_27 : decode cX8_scatter 27 = .ok (.aload_n 1, 1) := by decide +kernel
theorem dX8_scatter_28 : decode cX8_scatter 28 = .ok (.iload 4, 2) := by decide +kernel
theorem dX8_scatter_30 : decode cX8_scatter 30 = .ok (.invokevirtual 154, 3) := by decide +kernel
theorem dX8_scatter_33 : decode cX8_scatter 33 = .ok (.istore 4, 2) := by decide +kernel
theorem dX8_scatter_35 : decode cX8_scatter 35 = .ok (.iload 4, 2) := by decide +kernel
theorem dX8_scatter_37 : decode cX8_scatter 37 = .ok (.iconst (-1), 1) := by decide +kernel
theorem dX8_scatter_38 : decode cX8_scatter 38 = .ok (.if_icmp .eq 12, 3) := by decide +kernel
theorem dX8_scatter_41 : decode cX8_scatter 41 = .ok (.aload_n 1, 1) := by decide +kernel
theorem dX8_scatter_42 : decode cX8_scatter 42 = .ok (.iload 4, 2) := by decide +kernel
theorem dX8_scatter_44 : decode cX8_scatter 44 = .ok (.invokevirtual 158, 3) := by decide +kernel
theorem dX8_scatter_47 : decode cX8_scatter 47 = .ok (.ifCond .eq 4, 3) := by decide +kernel
theorem dX8_scatter_50 : decode cX8_scatter 50 = .ok (.return_, 1) := by decide +kernel
theorem dX8_scatter_51 : decode cX8_scatter 51 = .ok (.aload_n 1, 1) := by decide +kernel
theorem dX8_scatter_52 : decode cX8_scatter 52 = .ok (.iload 4, 2) := by decide +kernel
theorem dX8_scatter_54 : decode cX8_scatter 54 = .ok (.invokevirtual 51, 3) := by decide +kernel
theorem dX8_scatter_57 : decode cX8_scatter 57 = .ok (.ifCond .ne 28, 3) := by decide +kernel
theorem dX8_scatter_60 : decode cX8_scatter 60 = .ok (.aload_n 1, 1) := by decide +kernel
theorem dX8_scatter_61 : decode cX8_scatter 61 = .ok (.iload 4, 2) := by decide +kernel
theorem dX8_scatter_63 : decode cX8_scatter 63 = .ok (.invokevirtual 83, 3) := by decide +kernel
theorem dX8_scatter_66 : decode cX8_scatter 66 = .ok (.ifCond .ne 19, 3) := by decide +kernel
theorem dX8_scatter_69 : decode cX8_scatter 69 = .ok (.aload_n 1, 1) := by decide +kernel
theorem dX8_scatter_70 : decode cX8_scatter 70 = .ok (.iload_n 2, 1) := by decide +kernel
theorem dX8_scatter_71 : decode cX8_scatter 71 = .ok (.iload 4, 2) := by decide +kernel
theorem dX8_scatter_73 : decode cX8_scatter 73 = .ok (.invokevirtual 40, 3) := by decide +kernel
theorem dX8_scatter_76 : decode cX8_scatter 76 = .ok (.aload_n 0, 1) := by decide +kernel
theorem dX8_scatter_77 : decode cX8_scatter 77 = .ok (.aload_n 1, 1) := by decide +kernel
theorem dX8_scatter_78 : decode cX8_scatter 78 = .ok (.iconst 5, 1) := by decide +kernel
theorem dX8_scatter_79 : decode cX8_scatter 79 = .ok (.iload 4, 2) := by decide +kernel
theorem dX8_scatter_81 : decode cX8_scatter 81 = .ok (.iload_n 2, 1) := by decide +kernel
theorem dX8_scatter_82 : decode cX8_scatter 82 = .ok (.invokevirtual 44, 3) := by decide +kernel
theorem dX8_scatter_85 : decode cX8_scatter 85 = .ok (.iinc 6 1, 3) := by decide +kernel
theorem dX8_scatter_88 : decode cX8_scatter 88 = .ok (.goto (-68), 3) := by decide +kernel
theorem dX8_scatter_91 : decode cX8_scatter 91 = .ok (.return_, 1) := by decide +kernel
theorem wX1_downWind_X8 : Cond.methodLinkNest RX8 154 yX1_downWind "StormSeeds" ∈ NW := nw_of 1060 (by decide +kernel) rfl
theorem vc_X1_downWind_X8 {p : Program} {l : Launch} {e : Env} {st : State} {m : MethodId} {args : Array Value} {below : List Frame} {meth : Method} {c : Code} {Q : State → Prop} {nL : Nat} {cc : ByteArray} {s : ST} {pc q : Nat} {lv : List (Nat × Value)} {rest : List Value} {D : va_G} {cA cL : ClassId} {h : Nat → Nat} {Z : State → Heap → Prop} {sa : Nat → Nat} (hZ : ZK h Z sa) {d0 : Nat} (X : Cx (KC D cA cL h Z) p st m args meth c cc nL RX8) {b0 : Nat} {x1 : Int32} (d : decode cc pc = .ok (.invokevirtual 154, 3)) (hq : pc + 3 = q) (hb0 : isK 1 b0) (hd1 : 2 + 1 ≤ d0) (hd2 : 8 + (4 + 11) + 100 * 2 ≤ 100 * d0) (hr : (rest.map fun v => v.category).sum ≤ 8) {B : Type} {f : Int32 → B} {r : B} (hs : Lt (C_X1_downWind s b0 x1) f = r) (k : ∀ y, f y = r → WG (KC D cA cL h Z) p l e (rmD d0) st m args below meth c Q nL s q lv (.int y :: rest)) : WG (KC D cA cL h Z) p l e (rmD d0) st m args below meth c Q nL s pc lv (.int x1 :: .ref (h b0) :: rest) := by
  exact cVN_I (K := KC D cA cL h Z) X b0 (n := 1) (k_X1_downWind hZ l D cA cL s b0 x1 hb0) (gt_c (gt_of 1063 (by decide +kernel) rfl) gt_t) (hZ.1 st st.heap X.2.2.2 _ wX1_downWind_X8) (gt_of 197 (by decide +kernel) rfl) (gt_of 1062 (by decide +kernel) rfl) (gt_of 75 (by decide +kernel) rfl) ⟨hd1, hd2⟩ ⟨by decide, by decide, by decide +kernel⟩ (As := [.int x1]) rfl hr (hb0).1 (fs := cF1 h b0 (s.1 b0) (s.2 b0)) (GC_1 (cA := cA) (cL := cL) hb0 _ _) rfl rfl d hq (k _ hs)
theorem wX1_hasHedge_X8 : Cond.methodLinkNest RX8 158 yX1_hasHedge "StormSeeds" ∈ NW := nw_of 1064 (by decide +kernel) rfl
theorem vc_X1_hasHedge_X8 {p : Program} {l : Launch} {e : Env} {st : State} {m : MethodId} {args : Array Value} {below : List Frame} {meth : Method} {c : Code} {Q : State → Prop} {nL : Nat} {cc : ByteArray} {s : ST} {pc q : Nat} {lv : List (Nat × Value)} {rest : List Value} {D : va_G} {cA cL : ClassId} {h : Nat → Nat} {Z : State → Heap → Prop} {sa : Nat → Nat} (hZ : ZK h Z sa) {d0 : Nat} (X : Cx (KC D cA cL h Z) p st m args meth c cc nL RX8) {b0 : Nat} {x1 : Int32} (d : decode cc pc = .ok (.invokevirtual 158, 3)) (hq : pc + 3 = q) (hb0 : isK 1 b0) (hd1 : 2 + 1 ≤ d0) (hd2 : 8 + (2 + 11) + 100 * 2 ≤ 100 * d0) (hr : (rest.map fun v => v.category).sum ≤ 8) {B : Type} {f : Int32 → B} {r : B} (hs : Lt (C_X1_hasHedge s b0 x1) f = r) (k : ∀ y, f y = r → WG (KC D cA cL h Z) p l e (rmD d0) st m args below meth c Q nL s q lv (.int y :: rest)) : WG (KC D cA cL h Z) p l e (rmD d0) st m args below meth c Q nL s pc lv (.int x1 :: .ref (h b0) :: rest) := by
  exact cVN_I (K := KC D cA cL h Z) X b0 (n := 1) (k_X1_hasHedge hZ l D cA cL s b0 x1 hb0) (gt_c (gt_of 1067 (by decide +kernel) rfl) gt_t) (hZ.1 st st.heap X.2.2.2 _ wX1_hasHedge_X8) (gt_of 197 (by decide +kernel) rfl) (gt_of 1066 (by decide +kernel) rfl) (gt_of 76 (by decide +kernel) rfl) ⟨hd1, hd2⟩ ⟨by decide, by decide, by decide +kernel⟩ (As := [.int x1]) rfl hr (hb0).1 (fs := cF1 h b0 (s.1 b0) (s.2 b0)) (GC_1 (cA := cA) (cL := cL) hb0 _ _) rfl rfl d hq (k _ hs)
def C_X8_scatter_t (s : ST) (x2 : Int32) (x3 : Int32) : Option (ST) := Bd (C_X4_of s 9 x2 (2 : Int32)) fun y1 => lpK3 (C := ST) (fun (rec1 : Int32 → Int32 → ST → Option (ST)) (a1 : Int32) (a2 : Int32) (s1 : ST) => if y1 ≤ a2 then (some s1) else (Lt (C_X1_downWind s1 72 a1) fun y2 => if y2 = (-1 : Int32) then (some s1) else (Lt (C_X1_hasHedge s1 72 y2) fun y3 => if y3 = 0 then (Lt (C_X1_hasSeed s1 72 y2) fun y4 => Lt (fun (s2 : ST) => (rec1 y2 (a2 + (1 : Int32)) s2 : Option (ST))) fun j1 => if y4 = 0 then (Lt (C_X1_hasStorm s1 72 y2) fun y5 => if y5 = 0 then (Bd (C_X1_laySeed s1 72 x2 y2) fun s3 => Lt (C_X8_note_t s3 (5 : Int32) y2 x2) fun s4 => j1 s4) else (j1 s1)) else (j1 s1)) else (some s1)))) FU x3 (0 : Int32) s
set_option maxRecDepth 100000 in
set_option maxHeartbeats 4000000 in
theorem k_X8_scatter_t {h : Nat → Nat} {Z : State → Heap → Prop} {sa : Nat → Nat} (hZ : ZK h Z sa) (l : Launch) (D : va_G) (cA cL : ClassId) (s : ST) (x2 : Int32) (x3 : Int32) {o : ST} (hs : C_X8_scatter_t s x2 x3 = some o) : MV l (KC D cA cL h Z) 3 yX8_scatter cX8_scatter 7 none s [.ref (h 79), .ref (h 72), .int x2, .int x3] o := by
  refine met_v (by decide) (Nat.le_of_ble_eq_true rfl) ?_
  intro p e st m args below meth c Q X RI
  unfold C_X8_scatter_t at hs
  refine g_iload_n X dX8_scatter_0 (q := 1) rfl 3 rfl ?_
  refine g_istore X dX8_scatter_1 (q := 3) rfl (Nat.le_of_ble_eq_true rfl) (lv' := [(4, .int x3), (0, .ref (h 79)), (1, .ref (h 72)), (2, .int x2), (3, .int x3)]) rfl ?_
  refine g_aload_n X dX8_scatter_3 (q := 4) rfl 1 rfl ?_
  refine cg_18_0 X dX8_scatter_4 (q := 7) rfl sh_79 lf_X8_9 ?_
  refine cgN_7_0 hZ X dX8_scatter_7 (q := 10) rfl sh_8 lf_X8_69 ?_
  refine g_iload_n X dX8_scatter_10 (q := 11) rfl 3 rfl ?_
  refine g_iconst X dX8_scatter_11 (q := 12) rfl li_i2 ?_
  refine vc_X4_of_X8 hZ X dX8_scatter_12 (q := 15) rfl sh_9 (Nat.le_of_ble_eq_true rfl) (Nat.le_of_ble_eq_true rfl) (Nat.le_of_ble_eq_true rfl) hs (fun y1 hs => ?_)
  refine g_istore X dX8_scatter_15 (q := 17) rfl (Nat.le_of_ble_eq_true rfl) (lv' := [(5, .int y1), (4, .int x3), (0, .ref (h 79)), (1, .ref (h 72)), (2, .int x2), (3, .int x3)]) rfl ?_
  refine g_iconst X dX8_scatter_17 (q := 18) rfl li_i0 ?_
  refine g_istore X dX8_scatter_18 (q := 20) rfl (Nat.le_of_ble_eq_true rfl) (lv' := [(6, .int (0 : Int32)), (5, .int y1), (4, .int x3), (0, .ref (h 79)), (1, .ref (h 72)), (2, .int x2), (3, .int x3)]) rfl ?_
  refine wg_sub [3, 4, 5, 2, 1, 0] rfl (lpW3 (fun (a1 : Int32) (a2 : Int32) (s1 : ST) => WG (KC D cA cL h Z) p l e (rmD 3) st m args below meth c Q 7 s1 20 [(0, .ref (h 79)), (1, .ref (h 72)), (2, .int x2), (4, .int a1), (5, .int y1), (6, .int a2)] []) (fun rec1 ih1 a1 a2 s1 hs => ?_) _ _ _ _ hs)
  refine g_iload X dX8_scatter_20 (q := 22) rfl 5 rfl ?_
  refine g_iload X dX8_scatter_22 (q := 24) rfl 4 rfl ?_
  refine g_icmp_ge X dX8_scatter_24 (q := 27) rfl (tgt := 91) (by decide) hs ?_ ?_
  · intro hs
    exact RI _ 91 _ (Option.some.inj hs) dX8_scatter_91
  · intro hs
    refine g_aload_n X dX8_scatter_27 (q := 28) rfl 1 rfl ?_
    refine g_iload X dX8_scatter_28 (q := 30) rfl 3 rfl ?_
    refine vc_X1_downWind_X8 hZ X dX8_scatter_30 (q := 33) rfl sh_72 (Nat.le_of_ble_eq_true rfl) (Nat.le_of_ble_eq_true rfl) (Nat.le_of_ble_eq_true rfl) hs (fun y2 hs => ?_)
    refine g_istore X dX8_scatter_33 (q := 35) rfl (Nat.le_of_ble_eq_true rfl) (lv' := [(4, .int y2), (0, .ref (h 79)), (1, .ref (h 72)), (2, .int x2), (5, .int y1), (6, .int a2)]) rfl ?_
    refine g_iload X dX8_scatter_35 (q := 37) rfl 0 rfl ?_
    refine g_iconst X dX8_scatter_37 (q := 38) rfl li_im1 ?_
    refine g_icmp_eq X dX8_scatter_38 (q := 41) rfl (tgt := 50) (by decide) hs ?_ ?_
    · intro hs
      exact RI _ 50 _ (Option.some.inj hs) dX8_scatter_50
    · intro hs
      refine g_aload_n X dX8_scatter_41 (q := 42) rfl 2 rfl ?_
      refine g_iload X dX8_scatter_42 (q := 44) rfl 0 rfl ?_
      refine vc_X1_hasHedge_X8 hZ X dX8_scatter_44 (q := 47) rfl sh_72 (Nat.le_of_ble_eq_true rfl) (Nat.le_of_ble_eq_true rfl) (Nat.le_of_ble_eq_true rfl) hs (fun y3 hs => ?_)
      refine g_if_eq X dX8_scatter_47 (q := 50) rfl (tgt := 51) (by decide) hs ?_ ?_
      · intro hs
        refine g_aload_n X dX8_scatter_51 (q := 52) rfl 2 rfl ?_
        refine g_iload X dX8_scatter_52 (q := 54) rfl 0 rfl ?_
        refine vc_X1_hasSeed_X8 hZ X dX8_scatter_54 (q := 57) rfl sh_72 (Nat.le_of_ble_eq_true rfl) (Nat.le_of_ble_eq_true rfl) (Nat.le_of_ble_eq_true rfl) hs (fun y4 hs => ?_)
        refine jnW1 (fun (s2 : ST) => WG (KC D cA cL h Z) p l e (rmD 3) st m args below meth c Q 7 s2 85 [(0, .ref (h 79)), (1, .ref (h 72)), (2, .int x2), (4, .int y2), (5, .int y1), (6, .int a2)] []) hs (fun s2 hs => ?_) (fun j1 ih2 hs => ?_)
        · refine g_iinc X dX8_scatter_85 (q := 88) rfl 5 rfl (v := (a2 + (1 : Int32))) (congrArg (HAdd.hAdd a2) li_i1) (Nat.le_of_ble_eq_true rfl) (lv' := [(6, .int (a2 + (1 : Int32))), (0, .ref (h 79)), (1, .ref (h 72)), (2, .int x2), (4, .int y2), (5, .int y1)]) rfl ?_
          refine g_goto X dX8_scatter_88 (tgt := 20) (by decide) ?_
          exact wg_sub [1, 2, 3, 4, 5, 0] rfl (ih1 _ _ _ hs)
        refine g_if_ne X dX8_scatter_57 (q := 60) rfl (tgt := 85) (by decide) hs ?_ ?_
        · intro hs
          exact wg_sub [1, 2, 3, 0, 4, 5] rfl (ih2 _ hs)
        · intro hs
          refine g_aload_n X dX8_scatter_60 (q := 61) rfl 2 rfl ?_
          refine g_iload X dX8_scatter_61 (q := 63) rfl 0 rfl ?_
          refine vc_X1_hasStorm_X8 hZ X dX8_scatter_63 (q := 66) rfl sh_72 (Nat.le_of_ble_eq_true rfl) (Nat.le_of_ble_eq_true rfl) (Nat.le_of_ble_eq_true rfl) hs (fun y5 hs => ?_)
          refine g_if_ne X dX8_scatter_66 (q := 69) rfl (tgt := 85) (by decide) hs ?_ ?_
          · intro hs
            exact wg_sub [1, 2, 3, 0, 4, 5] rfl (ih2 _ hs)
          · intro hs
            refine g_aload_n X dX8_scatter_69 (q := 70) rfl 2 rfl ?_
            refine g_iload_n X dX8_scatter_70 (q := 71) rfl 3 rfl ?_
            refine g_iload X dX8_scatter_71 (q := 73) rfl 0 rfl ?_
            refine vc_X1_laySeed_X8 hZ X dX8_scatter_73 (q := 76) rfl sh_72 (Nat.le_of_ble_eq_true rfl) (Nat.le_of_ble_eq_true rfl) (Nat.le_of_ble_eq_true rfl) hs (fun s3 hs => ?_)
            refine g_aload_n X dX8_scatter_76 (q := 77) rfl 1 rfl ?_
            refine g_aload_n X dX8_scatter_77 (q := 78) rfl 2 rfl ?_
            refine g_iconst X dX8_scatter_78 (q := 79) rfl li_i5 ?_
            refine g_iload X dX8_scatter_79 (q := 81) rfl 0 rfl ?_
            refine g_iload_n X dX8_scatter_81 (q := 82) rfl 3 rfl ?_
            refine vc_X8_note_t_X8 hZ X dX8_scatter_82 (q := 85) rfl (Nat.le_of_ble_eq_true rfl) (Nat.le_of_ble_eq_true rfl) (Nat.le_of_ble_eq_true rfl) hs (fun s4 hs => ?_)
            exact wg_sub [1, 2, 3, 0, 4, 5] rfl (ih2 _ hs)
      · intro hs
        exact RI _ 50 _ (Option.some.inj hs) dX8_scatter_50
theorem dX8_dusk_0 : decode cX8_dusk 0 = .ok (.iconst 0, 1) := by decide +kernel
theorem dX8_dusk_1 : decode cX8_dusk 1 = .ok (.istore_n 2, 1) := by decide +kernel
theorem dX8_dusk_2 : decode cX8_dusk 2 = .ok (.iload_n 2, 1) := by decide +kernel
theorem dX8_dusk_3 : decode cX8_dusk 3 = .ok (.bipush 64, 2) := by decide +kernel
theorem dX8_dusk_5 : decode cX8_dusk 5 = .ok (.if_icmp .ge 60, 3) := by decide +kernel
theorem dX8_dusk_8 : decode cX8_dusk 8 = .ok (.aload_n 1, 1) := by decide +kernel
theorem dX8_dusk_9 : decode cX8_dusk 9 = .ok (.iload_n 2, 1) := by decide +kernel
theorem dX8_dusk_10 : decode cX8_dusk 10 = .ok (.invokevirtual 83, 3) := by decide +kernel
theorem dX8_dusk_13 : decode cX8_dusk 13 = .ok (.ifCond .eq 46, 3) := by decide +kernel
theorem dX8_dusk_16 : decode cX8_dusk 16 = .ok (.aload_n 1, 1) := by decide +kernel
theorem dX8_dusk_17 : decode cX8_dusk 17 = .ok (.getfield 86, 3) := by decide +kernel
theorem dX8_dusk_20 : decode cX8_dusk 20 = .ok (.iload_n 2, 1) := by decide +kernel
theorem dX8_dusk_21 : decode cX8_dusk 21 = .ok (.iaload, 1) := by decide +kernel
theorem dX8_dusk_22 : decode cX8_dusk 22 = .ok (.aload_n 1, 1) := by decide +kernel
theorem dX8_dusk_23 : decode cX8_dusk 23 = .ok (.getfield 19, 3) := by decide +kernel
theorem dX8_dusk_26 : decode cX8_dusk 26 = .ok (.if_icmp .gt 33, 3) := by decide +kernel
theorem dX8_dusk_29 : decode cX8_dusk 29 = .ok (.aload_n 1, 1) := by decide +kernel
theorem dX8_dusk_30 : decode cX8_dusk 30 = .ok (.iload_n 2, 1) := by decide +kernel
theorem dX8_dusk_31 : decode cX8_dusk 31 = .ok (.invokevirtual 89, 3) := by decide +kernel
theorem dX8_dusk_34 : decode cX8_dusk 34 = .ok (.aload_n 0, 1) := by decide +kernel
theorem dX8_dusk_35 : decode cX8_dusk 35 = .ok (.aload_n 1, 1) := by decide +kernel
theorem dX8_dusk_36 : decode cX8_dusk 36 = .ok (.iconst 4, 1) := by decide +kernel
theorem dX8_dusk_37 : decode cX8_dusk 37 = .ok (.iload_n 2, 1) := by decide +kernel
theorem dX8_dusk_38 : decode cX8_dusk 38 = .ok (.aload_n 1, 1) := by decide +kernel
theorem dX8_dusk_39 : decode cX8_dusk 39 = .ok (.getfield 92, 3) := by decide +kernel
theorem dX8_dusk_42 : decode cX8_dusk 42 = .ok (.iload_n 2, 1) := by decide +kernel
theorem dX8_dusk_43 : decode cX8_dusk 43 = .ok (.iaload, 1) := by decide +kernel
theorem dX8_dusk_44 : decode cX8_dusk 44 = .ok (.invokevirtual 44, 3) := by decide +kernel
theorem dX8_dusk_47 : decode cX8_dusk 47 = .ok (.aload_n 0, 1) := by decide +kernel
theorem dX8_dusk_48 : decode cX8_dusk 48 = .ok (.aload_n 1, 1) := by decide +kernel
theorem dX8_dusk_49 : decode cX8_dusk 49 = .ok (.aload_n 1, 1) := by decide +kernel
theorem dX8_dusk_50 : decode cX8_dusk 50 = .ok (.getfield 92, 3) := by decide +kernel
theorem dX8_dusk_53 : decode cX8_dusk 53 = .ok (.iload_n 2, 1) := by decide +kernel
theorem dX8_dusk_54 : decode cX8_dusk 54 = .ok (.iaload, 1) := by decide +kernel
theorem dX8_dusk_55 : decode cX8_dusk 55 = .ok (.iload_n 2, 1) := by decide +kernel
theorem dX8_dusk_56 : decode cX8_dusk 56 = .ok (.invokevirtual 95, 3) := by decide +kernel
theorem dX8_dusk_59 : decode cX8_dusk 59 = .ok (.iinc 2 1, 3) := by decide +kernel
theorem dX8_dusk_62 : decode cX8_dusk 62 = .ok (.goto (-60), 3) := by decide +kernel
theorem dX8_dusk_65 : decode cX8_dusk 65 = .ok (.aload_n 0, 1) := by decide +kernel
theorem dX8_dusk_66 : decode cX8_dusk 66 = .ok (.getfield 15, 3) := by decide +kernel
theorem dX8_dusk_69 : decode cX8_dusk 69 = .ok (.ifnull 28, 3) := by decide +kernel
theorem dX8_dusk_72 : decode cX8_dusk 72 = .ok (.aload_n 1, 1) := by decide +kernel
theorem dX8_dusk_73 : decode cX8_dusk 73 = .ok (.getfield 99, 3) := by decide +kernel
theorem dX8_dusk_76 : decode cX8_dusk 76 = .ok (.ifCond .le 21, 3) := by decide +kernel
theorem dX8_dusk_79 : decode cX8_dusk 79 = .ok (.aload_n 0, 1) := by decide +kernel
theorem dX8_dusk_80 : decode cX8_dusk 80 = .ok (.getfield 9, 3) := by decide +kernel
theorem dX8_dusk_83 : decode cX8_dusk 83 = .ok (.getfield 69, 3) := by decide +kernel
theorem dX8_dusk_86 : decode cX8_dusk 86 = .ok (.getfield 102, 3) := by decide +kernel
theorem dX8_dusk_89 : decode cX8_dusk 89 = .ok (.ifCond .le 8, 3) := by decide +kernel
theorem dX8_dusk_92 : decode cX8_dusk 92 = .ok (.aload_n 0, 1) := by decide +kernel
theorem dX8_dusk_93 : decode cX8_dusk 93 = .ok (.aload_n 1, 1) := by decide +kernel
theorem dX8_dusk_94 : decode cX8_dusk 94 = .ok (.invokevirtual 105, 3) := by decide +kernel
theorem dX8_dusk_97 : decode cX8_dusk 97 = .ok (.aload_n 1, 1) := by decide +kernel
theorem dX8_dusk_98 : decode cX8_dusk 98 = .ok (.dup, 1) := by decide +kernel
theorem dX8_dusk_99 : decode cX8_dusk 99 = .ok (.getfield 19, 3) := by decide +kernel
theorem dX8_dusk_102 : decode cX8_dusk 102 = .ok (.iconst 1, 1) := by decide +kernel
theorem dX8_dusk_103 : decode cX8_dusk 103 = .ok (.iadd, 1) := by decide +kernel
theorem dX8_dusk_104 : decode cX8_dusk 104 = .ok (.putfield 19, 3) := by decide +kernel
theorem dX8_dusk_107 : decode cX8_dusk 107 = .ok (.return_, 1) := by decide +kernel
theorem wX1_endStorm_X8 : Cond.methodLinkNest RX8 89 yX1_endStorm "StormSeeds" ∈ NW := nw_of 1052 (by decide +kernel) rfl
theorem vc_X1_endStorm_X8 {p : Program} {l : Launch} {e : Env} {st : State} {m : MethodId} {args : Array Value} {below : List Frame} {meth : Method} {c : Code} {Q : State → Prop} {nL : Nat} {cc : ByteArray} {s : ST} {pc q : Nat} {lv : List (Nat × Value)} {rest : List Value} {D : va_G} {cA cL : ClassId} {h : Nat → Nat} {Z : State → Heap → Prop} {sa : Nat → Nat} (hZ : ZK h Z sa) {d0 : Nat} (X : Cx (KC D cA cL h Z) p st m args meth c cc nL RX8) {b0 : Nat} {x1 : Int32} (d : decode cc pc = .ok (.invokevirtual 89, 3)) (hq : pc + 3 = q) (hb0 : isK 1 b0) (hd1 : 1 + 1 ≤ d0) (hd2 : 8 + (2 + 11) + 100 * 1 ≤ 100 * d0) (hr : (rest.map fun v => v.category).sum ≤ 8) {B : Type} {f : ST → B} {r : B} (hs : Lt (C_X1_endStorm s b0 x1) f = r) (k : ∀ y, f y = r → WG (KC D cA cL h Z) p l e (rmD d0) st m args below meth c Q nL y q lv (rest)) : WG (KC D cA cL h Z) p l e (rmD d0) st m args below meth c Q nL s pc lv (.int x1 :: .ref (h b0) :: rest) := by
  exact cVN_V (K := KC D cA cL h Z) X b0 (n := 1) (k_X1_endStorm hZ l D cA cL s b0 x1 hb0) (gt_c (gt_of 1055 (by decide +kernel) rfl) gt_t) (hZ.1 st st.heap X.2.2.2 _ wX1_endStorm_X8) (gt_of 197 (by decide +kernel) rfl) (gt_of 1054 (by decide +kernel) rfl) (gt_of 73 (by decide +kernel) rfl) ⟨hd1, hd2⟩ ⟨by decide, by decide, by decide +kernel⟩ (As := [.int x1]) rfl hr (hb0).1 (fs := cF1 h b0 (s.1 b0) (s.2 b0)) (GC_1 (cA := cA) (cL := cL) hb0 _ _) rfl rfl d hq (k _ hs)
theorem wX8_scatter_t_X8 : GoodIn GT (wsV RX8 95 RX8 yX8_scatter (.code yX8_scatter cX8_scatter 7 none :: GT)) := gt_V (gt_of 1056 (by decide +kernel) rfl) (gt_of 1058 (by decide +kernel) rfl) (gt_of 74 (by decide +kernel) rfl) (gt_of 204 (by decide +kernel) rfl) (gt_of 1059 (by decide +kernel) rfl)
theorem vc_X8_scatter_t_X8 {p : Program} {l : Launch} {e : Env} {st : State} {m : MethodId} {args : Array Value} {below : List Frame} {meth : Method} {c : Code} {Q : State → Prop} {nL : Nat} {cc : ByteArray} {s : ST} {pc q : Nat} {lv : List (Nat × Value)} {rest : List Value} {D : va_G} {cA cL : ClassId} {h : Nat → Nat} {Z : State → Heap → Prop} {sa : Nat → Nat} (hZ : ZK h Z sa) {d0 : Nat} (X : Cx (KC D cA cL h Z) p st m args meth c cc nL RX8) {x2 : Int32} {x3 : Int32} (d : decode cc pc = .ok (.invokevirtual 95, 3)) (hq : pc + 3 = q) (hd1 : 3 + 1 ≤ d0) (hd2 : 8 + (7 + 11) + 100 * 3 ≤ 100 * d0) (hr : (rest.map fun v => v.category).sum ≤ 8) {B : Type} {f : ST → Option B} {r : B} (hs : Bd (C_X8_scatter_t s x2 x3) f = some r) (k : ∀ y, f y = some r → WG (KC D cA cL h Z) p l e (rmD d0) st m args below meth c Q nL y q lv (rest)) : WG (KC D cA cL h Z) p l e (rmD d0) st m args below meth c Q nL s pc lv (.int x3 :: .int x2 :: .ref (h 72) :: .ref (h 79) :: rest) := by
  obtain ⟨v, hv, hs⟩ := Bd_e hs
  exact cV_V (K := KC D cA cL h Z) X 79 (n := 3) (k_X8_scatter_t hZ l D cA cL s x2 x3 hv) wX8_scatter_t_X8 ⟨hd1, hd2⟩ ⟨by decide, by decide, by decide +kernel⟩ (As := [.ref (h 72), .int x2, .int x3]) rfl hr (sh_79).1 (fs := cF18 h 79 (s.1 79) (s.2 79)) (GC_18 (cA := cA) (cL := cL) sh_79 _ _) rfl rfl d hq (k _ hs)
def C_X8_dusk_t (s : ST) : Option (ST) := lpK2 (C := ST) (fun (rec1 : Int32 → ST → Option (ST)) (a1 : Int32) (s1 : ST) => if (64 : Int32) ≤ a1 then (Lt (Lt (ups s1 72 2 ((s1.1 72 2) + (1 : Int32))) fun s2 => some s2 : Option (ST)) fun j1 => j1) else (Lt (C_X1_hasStorm s1 72 a1) fun y1 => Lt (fun (s3 : ST) => (rec1 (a1 + (1 : Int32)) s3 : Option (ST))) fun j2 => if y1 = 0 then (j2 s1) else (Gl s1 78 64 a1 fun y2 => if (s1.1 72 2) < y2 then (j2 s1) else (Lt (C_X1_endStorm s1 72 a1) fun s4 => Gl s4 76 64 a1 fun y3 => Lt (C_X8_note_t s4 (4 : Int32) a1 y3) fun s5 => Gl s5 76 64 a1 fun y4 => Bd (C_X8_scatter_t s5 y4 a1) fun s6 => j2 s6)))) FU (0 : Int32) s
set_option maxRecDepth 100000 in
set_option maxHeartbeats 4000000 in
theorem k_X8_dusk_t {h : Nat → Nat} {Z : State → Heap → Prop} {sa : Nat → Nat} (hZ : ZK h Z sa) (l : Launch) (D : va_G) (cA cL : ClassId) (s : ST) {o : ST} (hs : C_X8_dusk_t s = some o) : MV l (KC D cA cL h Z) 4 yX8_dusk cX8_dusk 3 none s [.ref (h 79), .ref (h 72)] o := by
  refine met_v (by decide) (Nat.le_of_ble_eq_true rfl) ?_
  intro p e st m args below meth c Q X RI
  unfold C_X8_dusk_t at hs
  refine g_iconst X dX8_dusk_0 (q := 1) rfl li_i0 ?_
  refine g_istore_n X dX8_dusk_1 (q := 2) rfl (Nat.le_of_ble_eq_true rfl) (lv' := [(2, .int (0 : Int32)), (0, .ref (h 79)), (1, .ref (h 72))]) rfl ?_
  refine wg_sub [1, 2, 0] rfl (lpW2 (fun (a1 : Int32) (s1 : ST) => WG (KC D cA cL h Z) p l e (rmD 4) st m args below meth c Q 3 s1 2 [(0, .ref (h 79)), (1, .ref (h 72)), (2, .int a1)] []) (fun rec1 ih1 a1 s1 hs => ?_) _ _ _ hs)
  refine g_iload_n X dX8_dusk_2 (q := 3) rfl 2 rfl ?_
  refine g_bipush X dX8_dusk_3 (q := 5) rfl li_b64 ?_
  refine g_icmp_ge X dX8_dusk_5 (q := 8) rfl (tgt := 65) (by decide) hs ?_ ?_
  · intro hs
    refine g_aload_n X dX8_dusk_65 (q := 66) rfl 0 rfl ?_
    refine cg_18_1 X dX8_dusk_66 (q := 69) rfl sh_79 lf_X8_15 ?_
    refine jnW0 (WG (KC D cA cL h Z) p l e (rmD 4) st m args below meth c Q 3 s1 97 [(1, .ref (h 72))] []) hs (fun  hs => ?_) (fun j1 ih2 hs => ?_)
    · refine g_aload_n X dX8_dusk_97 (q := 98) rfl 0 rfl ?_
      refine g_dup X dX8_dusk_98 (q := 99) rfl rfl ?_
      refine cgN_1_2 hZ X dX8_dusk_99 (q := 102) rfl sh_72 lf_X8_19 ?_
      refine g_iconst X dX8_dusk_102 (q := 103) rfl li_i1 ?_
      refine g_iadd X dX8_dusk_103 (q := 104) rfl ?_
      refine cpN_1_2 hZ X dX8_dusk_104 (q := 107) rfl sh_72 lf_X8_19 hs (fun s2 hs => ?_)
      exact RI _ 107 _ (Option.some.inj hs) dX8_dusk_107
    refine g_ifnullN X dX8_dusk_69 (tgt := 97) (by decide) ?_
    exact wg_sub [1] rfl (ih2 hs)
  · intro hs
    refine g_aload_n X dX8_dusk_8 (q := 9) rfl 1 rfl ?_
    refine g_iload_n X dX8_dusk_9 (q := 10) rfl 2 rfl ?_
    refine vc_X1_hasStorm_X8 hZ X dX8_dusk_10 (q := 13) rfl sh_72 (Nat.le_of_ble_eq_true rfl) (Nat.le_of_ble_eq_true rfl) (Nat.le_of_ble_eq_true rfl) hs (fun y1 hs => ?_)
    refine jnW1 (fun (s3 : ST) => WG (KC D cA cL h Z) p l e (rmD 4) st m args below meth c Q 3 s3 59 [(0, .ref (h 79)), (1, .ref (h 72)), (2, .int a1)] []) hs (fun s3 hs => ?_) (fun j2 ih3 hs => ?_)
    · refine g_iinc X dX8_dusk_59 (q := 62) rfl 2 rfl (v := (a1 + (1 : Int32))) (congrArg (HAdd.hAdd a1) li_i1) (Nat.le_of_ble_eq_true rfl) (lv' := [(2, .int (a1 + (1 : Int32))), (0, .ref (h 79)), (1, .ref (h 72))]) rfl ?_
      refine g_goto X dX8_dusk_62 (tgt := 2) (by decide) ?_
      exact wg_sub [1, 2, 0] rfl (ih1 _ _ hs)
    refine g_if_eq X dX8_dusk_13 (q := 16) rfl (tgt := 59) (by decide) hs ?_ ?_
    · intro hs
      exact wg_sub [0, 1, 2] rfl (ih3 _ hs)
    · intro hs
      refine g_aload_n X dX8_dusk_16 (q := 17) rfl 1 rfl ?_
      refine cgN_1_15 hZ X dX8_dusk_17 (q := 20) rfl sh_72 lf_X8_86 ?_
      refine g_iload_n X dX8_dusk_20 (q := 21) rfl 2 rfl ?_
      refine ca_ld X dX8_dusk_21 (q := 22) rfl 78 sh_78 rfl hs (fun y2 hs => ?_)
      refine g_aload_n X dX8_dusk_22 (q := 23) rfl 1 rfl ?_
      refine cgN_1_2 hZ X dX8_dusk_23 (q := 26) rfl sh_72 lf_X8_19 ?_
      refine g_icmp_gt X dX8_dusk_26 (q := 29) rfl (tgt := 59) (by decide) hs ?_ ?_
      · intro hs
        exact wg_sub [0, 1, 2] rfl (ih3 _ hs)
      · intro hs
        refine g_aload_n X dX8_dusk_29 (q := 30) rfl 1 rfl ?_
        refine g_iload_n X dX8_dusk_30 (q := 31) rfl 2 rfl ?_
        refine vc_X1_endStorm_X8 hZ X dX8_dusk_31 (q := 34) rfl sh_72 (Nat.le_of_ble_eq_true rfl) (Nat.le_of_ble_eq_true rfl) (Nat.le_of_ble_eq_true rfl) hs (fun s4 hs => ?_)
        refine g_aload_n X dX8_dusk_34 (q := 35) rfl 0 rfl ?_
        refine g_aload_n X dX8_dusk_35 (q := 36) rfl 1 rfl ?_
        refine g_iconst X dX8_dusk_36 (q := 37) rfl li_i4 ?_
        refine g_iload_n X dX8_dusk_37 (q := 38) rfl 2 rfl ?_
        refine g_aload_n X dX8_dusk_38 (q := 39) rfl 1 rfl ?_
        refine cgN_1_13 hZ X dX8_dusk_39 (q := 42) rfl sh_72 lf_X8_92 ?_
        refine g_iload_n X dX8_dusk_42 (q := 43) rfl 2 rfl ?_
        refine ca_ld X dX8_dusk_43 (q := 44) rfl 76 sh_76 rfl hs (fun y3 hs => ?_)
        refine vc_X8_note_t_X8 hZ X dX8_dusk_44 (q := 47) rfl (Nat.le_of_ble_eq_true rfl) (Nat.le_of_ble_eq_true rfl) (Nat.le_of_ble_eq_true rfl) hs (fun s5 hs => ?_)
        refine g_aload_n X dX8_dusk_47 (q := 48) rfl 0 rfl ?_
        refine g_aload_n X dX8_dusk_48 (q := 49) rfl 1 rfl ?_
        refine g_aload_n X dX8_dusk_49 (q := 50) rfl 1 rfl ?_
        refine cgN_1_13 hZ X dX8_dusk_50 (q := 53) rfl sh_72 lf_X8_92 ?_
        refine g_iload_n X dX8_dusk_53 (q := 54) rfl 2 rfl ?_
        refine ca_ld X dX8_dusk_54 (q := 55) rfl 76 sh_76 rfl hs (fun y4 hs => ?_)
        refine g_iload_n X dX8_dusk_55 (q := 56) rfl 2 rfl ?_
        refine vc_X8_scatter_t_X8 hZ X dX8_dusk_56 (q := 59) rfl (Nat.le_of_ble_eq_true rfl) (Nat.le_of_ble_eq_true rfl) (Nat.le_of_ble_eq_true rfl) hs (fun s6 hs => ?_)
        exact wg_sub [0, 1, 2] rfl (ih3 _ hs)
theorem dX6_thinkOn_0 : decode cX6_thinkOn 0 = .ok (.aload_n 0, 1) := by decide +kernel
theorem dX6_thinkOn_1 : decode cX6_thinkOn 1 = .ok (.getfield 30, 3) := by decide +kernel
theorem dX6_thinkOn_4 : decode cX6_thinkOn 4 = .ok (.aload_n 0, 1) := by decide +kernel
theorem dX6_thinkOn_5 : decode cX6_thinkOn 5 = .ok (.getfield 12, 3) := by decide +kernel
theorem dX6_thinkOn_8 : decode cX6_thinkOn 8 = .ok (.iconst 1, 1) := by decide +kernel
theorem dX6_thinkOn_9 : decode cX6_thinkOn 9 = .ok (.invokevirtual 42, 3) := by decide +kernel
theorem dX6_thinkOn_12 : decode cX6_thinkOn 12 = .ok (.pop, 1) := by decide +kernel
theorem dX6_thinkOn_13 : decode cX6_thinkOn 13 = .ok (.iconst 1, 1) := by decide +kernel
theorem dX6_thinkOn_14 : decode cX6_thinkOn 14 = .ok (.istore_n 2, 1) := by decide +kernel
theorem dX6_thinkOn_15 : decode cX6_thinkOn 15 = .ok (.iload_n 2, 1) := by decide +kernel
theorem dX6_thinkOn_16 : decode cX6_thinkOn 16 = .ok (.iload_n 1, 1) := by decide +kernel
theorem dX6_thinkOn_17 : decode cX6_thinkOn 17 = .ok (.if_icmp .ge 33, 3) := by decide +kernel
theorem dX6_thinkOn_20 : decode cX6_thinkOn 20 = .ok (.aload_n 0, 1) := by decide +kernel
theorem dX6_thinkOn_21 : decode cX6_thinkOn 21 = .ok (.getfield 30, 3) := by decide +kernel
theorem dX6_thinkOn_24 : decode cX6_thinkOn 24 = .ok (.aload_n 0, 1) := by decide +kernel
theorem dX6_thinkOn_25 : decode cX6_thinkOn 25 = .ok (.getfield 12, 3) := by decide +kernel
theorem dX6_thinkOn_28 : decode cX6_thinkOn 28 = .ok (.invokevirtual 46, 3) := by decide +kernel
theorem dX6_thinkOn_31 : decode cX6_thinkOn 31 = .ok (.aload_n 0, 1) := by decide +kernel
theorem dX6_thinkOn_32 : decode cX6_thinkOn 32 = .ok (.getfield 30, 3) := by decide +kernel
theorem dX6_thinkOn_35 : decode cX6_thinkOn 35 = .ok (.aload_n 0, 1) := by decide +kernel
theorem dX6_thinkOn_36 : decode cX6_thinkOn 36 = .ok (.getfield 12, 3) := by decide +kernel
theorem dX6_thinkOn_39 : decode cX6_thinkOn 39 = .ok (.iconst 1, 1) := by decide +kernel
theorem dX6_thinkOn_40 : decode cX6_thinkOn 40 = .ok (.invokevirtual 42, 3) := by decide +kernel
theorem dX6_thinkOn_43 : decode cX6_thinkOn 43 = .ok (.pop, 1) := by decide +kernel
theorem dX6_thinkOn_44 : decode cX6_thinkOn 44 = .ok (.iinc 2 1, 3) := by decide +kernel
theorem dX6_thinkOn_47 : decode cX6_thinkOn 47 = .ok (.goto (-32), 3) := by decide +kernel
theorem dX6_thinkOn_50 : decode cX6_thinkOn 50 = .ok (.return_, 1) := by decide +kernel
theorem wX8_dawn_t_X6 : Cond.methodLinkNest RX6 42 yX8_dawn "StormSeeds" ∈ NW := nw_of 1122 (by decide +kernel) rfl
theorem vc_X8_dawn_t_X6 {p : Program} {l : Launch} {e : Env} {st : State} {m : MethodId} {args : Array Value} {below : List Frame} {meth : Method} {c : Code} {Q : State → Prop} {nL : Nat} {cc : ByteArray} {s : ST} {pc q : Nat} {lv : List (Nat × Value)} {rest : List Value} {D : va_G} {cA cL : ClassId} {h : Nat → Nat} {Z : State → Heap → Prop} {sa : Nat → Nat} (hZ : ZK h Z sa) {d0 : Nat} (X : Cx (KC D cA cL h Z) p st m args meth c cc nL RX6) {x2 : Int32} (d : decode cc pc = .ok (.invokevirtual 42, 3)) (hq : pc + 3 = q) (hd1 : 6 + 1 ≤ d0) (hd2 : 8 + (5 + 11) + 100 * 6 ≤ 100 * d0) (hr : (rest.map fun v => v.category).sum ≤ 8) {B : Type} {f : Int32 × ST → Option B} {r : B} (hs : Bd (C_X8_dawn_t s x2) f = some r) (k : ∀ y, f y = some r → WG (KC D cA cL h Z) p l e (rmD d0) st m args below meth c Q nL y.2 q lv (.int y.1 :: rest)) : WG (KC D cA cL h Z) p l e (rmD d0) st m args below meth c Q nL s pc lv (.int x2 :: .ref (h 72) :: .ref (h 79) :: rest) := by
  obtain ⟨v, hv, hs⟩ := Bd_e hs
  exact cVN_I (K := KC D cA cL h Z) X 79 (n := 2) (k_X8_dawn_t hZ l D cA cL s x2 hv) (gt_c (gt_of 979 (by decide +kernel) rfl) gt_t) (hZ.1 st st.heap X.2.2.2 _ wX8_dawn_t_X6) (gt_of 204 (by decide +kernel) rfl) (gt_of 978 (by decide +kernel) rfl) (gt_of 60 (by decide +kernel) rfl) ⟨hd1, hd2⟩ ⟨by decide, by decide, by decide +kernel⟩ (As := [.ref (h 72), .int x2]) rfl hr (sh_79).1 (fs := cF18 h 79 (s.1 79) (s.2 79)) (GC_18 (cA := cA) (cL := cL) sh_79 _ _) rfl rfl d hq (k _ hs)
theorem wX8_dusk_t_X6 : Cond.methodLinkNest RX6 46 yX8_dusk "StormSeeds" ∈ NW := nw_of 1123 (by decide +kernel) rfl
theorem vc_X8_dusk_t_X6 {p : Program} {l : Launch} {e : Env} {st : State} {m : MethodId} {args : Array Value} {below : List Frame} {meth : Method} {c : Code} {Q : State → Prop} {nL : Nat} {cc : ByteArray} {s : ST} {pc q : Nat} {lv : List (Nat × Value)} {rest : List Value} {D : va_G} {cA cL : ClassId} {h : Nat → Nat} {Z : State → Heap → Prop} {sa : Nat → Nat} (hZ : ZK h Z sa) {d0 : Nat} (X : Cx (KC D cA cL h Z) p st m args meth c cc nL RX6) (d : decode cc pc = .ok (.invokevirtual 46, 3)) (hq : pc + 3 = q) (hd1 : 4 + 1 ≤ d0) (hd2 : 8 + (3 + 11) + 100 * 4 ≤ 100 * d0) (hr : (rest.map fun v => v.category).sum ≤ 8) {B : Type} {f : ST → Option B} {r : B} (hs : Bd (C_X8_dusk_t s) f = some r) (k : ∀ y, f y = some r → WG (KC D cA cL h Z) p l e (rmD d0) st m args below meth c Q nL y q lv (rest)) : WG (KC D cA cL h Z) p l e (rmD d0) st m args below meth c Q nL s pc lv (.ref (h 72) :: .ref (h 79) :: rest) := by
  obtain ⟨v, hv, hs⟩ := Bd_e hs
  exact cVN_V (K := KC D cA cL h Z) X 79 (n := 1) (k_X8_dusk_t hZ l D cA cL s hv) (gt_c (gt_of 1051 (by decide +kernel) rfl) gt_t) (hZ.1 st st.heap X.2.2.2 _ wX8_dusk_t_X6) (gt_of 204 (by decide +kernel) rfl) (gt_of 1050 (by decide +kernel) rfl) (gt_of 72 (by decide +kernel) rfl) ⟨hd1, hd2⟩ ⟨by decide, by decide, by decide +kernel⟩ (As := [.ref (h 72)]) rfl hr (sh_79).1 (fs := cF18 h 79 (s.1 79) (s.2 79)) (GC_18 (cA := cA) (cL := cL) sh_79 _ _) rfl rfl d hq (k _ hs)
def C_X6_thinkOn (s : ST) (x1 : Int32) : Option (ST) := Bd (C_X8_dawn_t s (1 : Int32)) fun y1 => lpK2 (C := ST) (fun (rec1 : Int32 → ST → Option (ST)) (a1 : Int32) (s1 : ST) => if x1 ≤ a1 then (some s1) else (Bd (C_X8_dusk_t s1) fun s2 => Bd (C_X8_dawn_t s2 (1 : Int32)) fun y2 => rec1 (a1 + (1 : Int32)) y2.2)) FU (1 : Int32) y1.2
set_option maxRecDepth 100000 in
set_option maxHeartbeats 4000000 in
theorem k_X6_thinkOn {h : Nat → Nat} {Z : State → Heap → Prop} {sa : Nat → Nat} (hZ : ZK h Z sa) (l : Launch) (D : va_G) (cA cL : ClassId) (s : ST) (x1 : Int32) {o : ST} (hs : C_X6_thinkOn s x1 = some o) : MV l (KC D cA cL h Z) 7 yX6_thinkOn cX6_thinkOn 3 none s [.ref (h 71), .int x1] o := by
  refine met_v (by decide) (Nat.le_of_ble_eq_true rfl) ?_
  intro p e st m args below meth c Q X RI
  unfold C_X6_thinkOn at hs
  refine g_aload_n X dX6_thinkOn_0 (q := 1) rfl 0 rfl ?_
  refine cg_6_3 X dX6_thinkOn_1 (q := 4) rfl sh_71 lf_X6_30 ?_
  refine g_aload_n X dX6_thinkOn_4 (q := 5) rfl 0 rfl ?_
  refine cg_6_2 X dX6_thinkOn_5 (q := 8) rfl sh_71 lf_X6_12 ?_
  refine g_iconst X dX6_thinkOn_8 (q := 9) rfl li_i1 ?_
  refine vc_X8_dawn_t_X6 hZ X dX6_thinkOn_9 (q := 12) rfl (Nat.le_of_ble_eq_true rfl) (Nat.le_of_ble_eq_true rfl) (Nat.le_of_ble_eq_true rfl) hs (fun y1 hs => ?_)
  refine g_pop X dX6_thinkOn_12 (q := 13) rfl rfl ?_
  refine g_iconst X dX6_thinkOn_13 (q := 14) rfl li_i1 ?_
  refine g_istore_n X dX6_thinkOn_14 (q := 15) rfl (Nat.le_of_ble_eq_true rfl) (lv' := [(2, .int (1 : Int32)), (0, .ref (h 71)), (1, .int x1)]) rfl ?_
  refine wg_sub [1, 2, 0] rfl (lpW2 (fun (a1 : Int32) (s1 : ST) => WG (KC D cA cL h Z) p l e (rmD 7) st m args below meth c Q 3 s1 15 [(0, .ref (h 71)), (1, .int x1), (2, .int a1)] []) (fun rec1 ih1 a1 s1 hs => ?_) _ _ _ hs)
  refine g_iload_n X dX6_thinkOn_15 (q := 16) rfl 2 rfl ?_
  refine g_iload_n X dX6_thinkOn_16 (q := 17) rfl 1 rfl ?_
  refine g_icmp_ge X dX6_thinkOn_17 (q := 20) rfl (tgt := 50) (by decide) hs ?_ ?_
  · intro hs
    exact RI _ 50 _ (Option.some.inj hs) dX6_thinkOn_50
  · intro hs
    refine g_aload_n X dX6_thinkOn_20 (q := 21) rfl 0 rfl ?_
    refine cg_6_3 X dX6_thinkOn_21 (q := 24) rfl sh_71 lf_X6_30 ?_
    refine g_aload_n X dX6_thinkOn_24 (q := 25) rfl 0 rfl ?_
    refine cg_6_2 X dX6_thinkOn_25 (q := 28) rfl sh_71 lf_X6_12 ?_
    refine vc_X8_dusk_t_X6 hZ X dX6_thinkOn_28 (q := 31) rfl (Nat.le_of_ble_eq_true rfl) (Nat.le_of_ble_eq_true rfl) (Nat.le_of_ble_eq_true rfl) hs (fun s2 hs => ?_)
    refine g_aload_n X dX6_thinkOn_31 (q := 32) rfl 0 rfl ?_
    refine cg_6_3 X dX6_thinkOn_32 (q := 35) rfl sh_71 lf_X6_30 ?_
    refine g_aload_n X dX6_thinkOn_35 (q := 36) rfl 0 rfl ?_
    refine cg_6_2 X dX6_thinkOn_36 (q := 39) rfl sh_71 lf_X6_12 ?_
    refine g_iconst X dX6_thinkOn_39 (q := 40) rfl li_i1 ?_
    refine vc_X8_dawn_t_X6 hZ X dX6_thinkOn_40 (q := 43) rfl (Nat.le_of_ble_eq_true rfl) (Nat.le_of_ble_eq_true rfl) (Nat.le_of_ble_eq_true rfl) hs (fun y2 hs => ?_)
    refine g_pop X dX6_thinkOn_43 (q := 44) rfl rfl ?_
    refine g_iinc X dX6_thinkOn_44 (q := 47) rfl 2 rfl (v := (a1 + (1 : Int32))) (congrArg (HAdd.hAdd a1) li_i1) (Nat.le_of_ble_eq_true rfl) (lv' := [(2, .int (a1 + (1 : Int32))), (0, .ref (h 71)), (1, .int x1)]) rfl ?_
    refine g_goto X dX6_thinkOn_47 (tgt := 15) (by decide) ?_
    exact wg_sub [1, 2, 0] rfl (ih1 _ _ hs)
theorem dX6_blowing_0 : decode cX6_blowing 0 = .ok (.aload_n 0, 1) := by decide +kernel
theorem dX6_blowing_1 : decode cX6_blowing 1 = .ok (.getfield 12, 3) := by decide +kernel
theorem dX6_blowing_4 : decode cX6_blowing 4 = .ok (.aload_n 0, 1) := by decide +kernel
theorem dX6_blowing_5 : decode cX6_blowing 5 = .ok (.getfield 22, 3) := by decide +kernel
theorem dX6_blowing_8 : decode cX6_blowing 8 = .ok (.invokevirtual 34, 3) := by decide +kernel
theorem dX6_blowing_11 : decode cX6_blowing 11 = .ok (.aload_n 0, 1) := by decide +kernel
theorem dX6_blowing_12 : decode cX6_blowing 12 = .ok (.iload_n 1, 1) := by decide +kernel
theorem dX6_blowing_13 : decode cX6_blowing 13 = .ok (.invokevirtual 38, 3) := by decide +kernel
theorem dX6_blowing_16 : decode cX6_blowing 16 = .ok (.aload_n 0, 1) := by decide +kernel
theorem dX6_blowing_17 : decode cX6_blowing 17 = .ok (.getfield 12, 3) := by decide +kernel
theorem dX6_blowing_20 : decode cX6_blowing 20 = .ok (.areturn, 1) := by decide +kernel
theorem wX1_copy_X6 : Cond.methodLinkNest RX6 34 yX1_copy "StormSeeds" ∈ NW := nw_of 1117 (by decide +kernel) rfl
theorem vc_X1_copy_X6 {p : Program} {l : Launch} {e : Env} {st : State} {m : MethodId} {args : Array Value} {below : List Frame} {meth : Method} {c : Code} {Q : State → Prop} {nL : Nat} {cc : ByteArray} {s : ST} {pc q : Nat} {lv : List (Nat × Value)} {rest : List Value} {D : va_G} {cA cL : ClassId} {h : Nat → Nat} {Z : State → Heap → Prop} {sa : Nat → Nat} (hZ : ZK h Z sa) {d0 : Nat} (X : Cx (KC D cA cL h Z) p st m args meth c cc nL RX6) {b0 : Nat} {x1 : Nat} (d : decode cc pc = .ok (.invokevirtual 34, 3)) (hq : pc + 3 = q) (hb0 : isK 1 b0) (hx1 : isK 1 x1) (hd1 : 2 + 1 ≤ d0) (hd2 : 8 + (2 + 11) + 100 * 2 ≤ 100 * d0) (hr : (rest.map fun v => v.category).sum ≤ 8) {B : Type} {f : ST → Option B} {r : B} (hs : Bd (C_X1_copy s b0 x1) f = some r) (k : ∀ y, f y = some r → WG (KC D cA cL h Z) p l e (rmD d0) st m args below meth c Q nL y q lv (rest)) : WG (KC D cA cL h Z) p l e (rmD d0) st m args below meth c Q nL s pc lv (.ref (h x1) :: .ref (h b0) :: rest) := by
  obtain ⟨v, hv, hs⟩ := Bd_e hs
  exact cVN_V (K := KC D cA cL h Z) X b0 (n := 1) (k_X1_copy hZ l D cA cL s b0 x1 hb0 hx1 hv) (gt_c (gt_of 927 (by decide +kernel) rfl) gt_t) (hZ.1 st st.heap X.2.2.2 _ wX1_copy_X6) (gt_of 197 (by decide +kernel) rfl) (gt_of 926 (by decide +kernel) rfl) (gt_of 52 (by decide +kernel) rfl) ⟨hd1, hd2⟩ ⟨by decide, by decide, by decide +kernel⟩ (As := [.ref (h x1)]) rfl hr (hb0).1 (fs := cF1 h b0 (s.1 b0) (s.2 b0)) (GC_1 (cA := cA) (cL := cL) hb0 _ _) rfl rfl d hq (k _ hs)
theorem wX6_thinkOn_X6 : GoodIn GT (wsV RX6 38 RX6 yX6_thinkOn (.code yX6_thinkOn cX6_thinkOn 3 none :: GT)) := gt_V (gt_of 1118 (by decide +kernel) rfl) (gt_of 1120 (by decide +kernel) rfl) (gt_of 80 (by decide +kernel) rfl) (gt_of 205 (by decide +kernel) rfl) (gt_of 1121 (by decide +kernel) rfl)
theorem vc_X6_thinkOn_X6 {p : Program} {l : Launch} {e : Env} {st : State} {m : MethodId} {args : Array Value} {below : List Frame} {meth : Method} {c : Code} {Q : State → Prop} {nL : Nat} {cc : ByteArray} {s : ST} {pc q : Nat} {lv : List (Nat × Value)} {rest : List Value} {D : va_G} {cA cL : ClassId} {h : Nat → Nat} {Z : State → Heap → Prop} {sa : Nat → Nat} (hZ : ZK h Z sa) {d0 : Nat} (X : Cx (KC D cA cL h Z) p st m args meth c cc nL RX6) {x1 : Int32} (d : decode cc pc = .ok (.invokevirtual 38, 3)) (hq : pc + 3 = q) (hd1 : 7 + 1 ≤ d0) (hd2 : 8 + (3 + 11) + 100 * 7 ≤ 100 * d0) (hr : (rest.map fun v => v.category).sum ≤ 8) {B : Type} {f : ST → Option B} {r : B} (hs : Bd (C_X6_thinkOn s x1) f = some r) (k : ∀ y, f y = some r → WG (KC D cA cL h Z) p l e (rmD d0) st m args below meth c Q nL y q lv (rest)) : WG (KC D cA cL h Z) p l e (rmD d0) st m args below meth c Q nL s pc lv (.int x1 :: .ref (h 71) :: rest) := by
  obtain ⟨v, hv, hs⟩ := Bd_e hs
  exact cV_V (K := KC D cA cL h Z) X 71 (n := 1) (k_X6_thinkOn hZ l D cA cL s x1 hv) wX6_thinkOn_X6 ⟨hd1, hd2⟩ ⟨by decide, by decide, by decide +kernel⟩ (As := [.int x1]) rfl hr (sh_71).1 (fs := cF6 h 71 (s.1 71) (s.2 71)) (GC_6 (cA := cA) (cL := cL) sh_71 _ _) rfl rfl d hq (k _ hs)
def C_X6_blowing (s : ST) (x1 : Int32) : Option ST := Bd (C_X1_copy s 72 1) fun s1 => Bd (C_X6_thinkOn s1 x1) fun s2 => some s2
set_option maxRecDepth 100000 in
set_option maxHeartbeats 4000000 in
theorem k_X6_blowing {h : Nat → Nat} {Z : State → Heap → Prop} {sa : Nat → Nat} (hZ : ZK h Z sa) (l : Launch) (D : va_G) (cA cL : ClassId) (s : ST) (x1 : Int32) {o : ST} (hs : C_X6_blowing s x1 = some o) : MR l (KC D cA cL h Z) 8 yX6_blowing cX6_blowing 2 (some (.object "StormSeeds$Land")) s [.ref (h 71), .int x1] (h 72) o := by
  refine met_r (by decide) (Nat.le_of_ble_eq_true rfl) ?_
  intro p e st m args below meth c Q X RI
  unfold C_X6_blowing at hs
  refine g_aload_n X dX6_blowing_0 (q := 1) rfl 0 rfl ?_
  refine cg_6_2 X dX6_blowing_1 (q := 4) rfl sh_71 lf_X6_12 ?_
  refine g_aload_n X dX6_blowing_4 (q := 5) rfl 0 rfl ?_
  refine cg_6_1 X dX6_blowing_5 (q := 8) rfl sh_71 lf_X6_22 ?_
  refine vc_X1_copy_X6 hZ X dX6_blowing_8 (q := 11) rfl sh_72 sh_1 (Nat.le_of_ble_eq_true rfl) (Nat.le_of_ble_eq_true rfl) (Nat.le_of_ble_eq_true rfl) hs (fun s1 hs => ?_)
  refine g_aload_n X dX6_blowing_11 (q := 12) rfl 0 rfl ?_
  refine g_iload_n X dX6_blowing_12 (q := 13) rfl 1 rfl ?_
  refine vc_X6_thinkOn_X6 hZ X dX6_blowing_13 (q := 16) rfl (Nat.le_of_ble_eq_true rfl) (Nat.le_of_ble_eq_true rfl) (Nat.le_of_ble_eq_true rfl) hs (fun s2 hs => ?_)
  refine g_aload_n X dX6_blowing_16 (q := 17) rfl 0 rfl ?_
  refine cg_6_2 X dX6_blowing_17 (q := 20) rfl sh_71 lf_X6_12 ?_
  exact RI _ 20 _ _ (Option.some.inj hs) rfl dX6_blowing_20
theorem dX6_isMet_0 : decode cX6_isMet 0 = .ok (.aload_n 0, 1) := by decide +kernel
theorem dX6_isMet_1 : decode cX6_isMet 1 = .ok (.getfield 18, 3) := by decide +kernel
theorem dX6_isMet_4 : decode cX6_isMet 4 = .ok (.getfield 49, 3) := by decide +kernel
theorem dX6_isMet_7 : decode cX6_isMet 7 = .ok (.iload_n 1, 1) := by decide +kernel
theorem dX6_isMet_8 : decode cX6_isMet 8 = .ok (.iconst 0, 1) := by decide +kernel
theorem dX6_isMet_9 : decode cX6_isMet 9 = .ok (.invokevirtual 55, 3) := by decide +kernel
theorem dX6_isMet_12 : decode cX6_isMet 12 = .ok (.istore_n 2, 1) := by decide +kernel
theorem dX6_isMet_13 : decode cX6_isMet 13 = .ok (.aload_n 0, 1) := by decide +kernel
theorem dX6_isMet_14 : decode cX6_isMet 14 = .ok (.getfield 18, 3) := by decide +kernel
theorem dX6_isMet_17 : decode cX6_isMet 17 = .ok (.getfield 49, 3) := by decide +kernel
theorem dX6_isMet_20 : decode cX6_isMet 20 = .ok (.iload_n 1, 1) := by decide +kernel
theorem dX6_isMet_21 : decode cX6_isMet 21 = .ok (.iconst 1, 1) := by decide +kernel
theorem dX6_isMet_22 : decode cX6_isMet 22 = .ok (.invokevirtual 55, 3) := by decide +kernel
theorem dX6_isMet_25 : decode cX6_isMet 25 = .ok (.istore_n 3, 1) := by decide +kernel
theorem dX6_isMet_26 : decode cX6_isMet 26 = .ok (.aload_n 0, 1) := by decide +kernel
theorem dX6_isMet_27 : decode cX6_isMet 27 = .ok (.getfield 12, 3) := by decide +kernel
theorem dX6_isMet_30 : decode cX6_isMet 30 = .ok (.iload_n 3, 1) := by decide +kernel
theorem dX6_isMet_31 : decode cX6_isMet 31 = .ok (.invokevirtual 61, 3) := by decide +kernel
theorem dX6_isMet_34 : decode cX6_isMet 34 = .ok (.ifCond .eq 14, 3) := by decide +kernel
theorem dX6_isMet_37 : decode cX6_isMet 37 = .ok (.aload_n 0, 1) := by decide +kernel
theorem dX6_isMet_38 : decode cX6_isMet 38 = .ok (.getfield 12, 3) := by decide +kernel
theorem dX6_isMet_41 : decode cX6_isMet 41 = .ok (.iload_n 3, 1) := by decide +kernel
theorem dX6_isMet_42 : decode cX6_isMet 42 = .ok (.invokevirtual 65, 3) := by decide +kernel
theorem dX6_isMet_45 : decode cX6_isMet 45 = .ok (.ifCond .ne 14, 3) := by decide +kernel
theorem dX6_isMet_48 : decode cX6_isMet 48 = .ok (.iload_n 2, 1) := by decide +kernel
theorem dX6_isMet_49 : decode cX6_isMet 49 = .ok (.iconst (-1), 1) := by decide +kernel
theorem dX6_isMet_50 : decode cX6_isMet 50 = .ok (.if_icmp .ne 7, 3) := by decide +kernel
theorem dX6_isMet_53 : decode cX6_isMet 53 = .ok (.iconst 1, 1) := by decide +kernel
theorem dX6_isMet_54 : decode cX6_isMet 54 = .ok (.goto 4, 3) := by decide +kernel
theorem dX6_isMet_57 : decode cX6_isMet 57 = .ok (.iconst 0, 1) := by decide +kernel
theorem dX6_isMet_58 : decode cX6_isMet 58 = .ok (.ireturn, 1) := by decide +kernel
theorem dX6_isMet_59 : decode cX6_isMet 59 = .ok (.aload_n 0, 1) := by decide +kernel
theorem dX6_isMet_60 : decode cX6_isMet 60 = .ok (.getfield 12, 3) := by decide +kernel
theorem dX6_isMet_63 : decode cX6_isMet 63 = .ok (.getfield 68, 3) := by decide +kernel
theorem dX6_isMet_66 : decode cX6_isMet 66 = .ok (.iload_n 3, 1) := by decide +kernel
theorem dX6_isMet_67 : decode cX6_isMet 67 = .ok (.iaload, 1) := by decide +kernel
theorem dX6_isMet_68 : decode cX6_isMet 68 = .ok (.iload_n 2, 1) := by decide +kernel
theorem dX6_isMet_69 : decode cX6_isMet 69 = .ok (.if_icmp .ne 7, 3) := by decide +kernel
theorem dX6_isMet_72 : decode cX6_isMet 72 = .ok (.iconst 1, 1) := by decide +kernel
theorem dX6_isMet_73 : decode cX6_isMet 73 = .ok (.goto 4, 3) := by decide +kernel
theorem dX6_isMet_76 : decode cX6_isMet 76 = .ok (.iconst 0, 1) := by decide +kernel
theorem dX6_isMet_77 : decode cX6_isMet 77 = .ok (.ireturn, 1) := by decide +kernel
theorem wX1_hasStorm_X6 : Cond.methodLinkNest RX6 65 yX1_hasStorm "StormSeeds" ∈ NW := nw_of 1144 (by decide +kernel) rfl
theorem vc_X1_hasStorm_X6 {p : Program} {l : Launch} {e : Env} {st : State} {m : MethodId} {args : Array Value} {below : List Frame} {meth : Method} {c : Code} {Q : State → Prop} {nL : Nat} {cc : ByteArray} {s : ST} {pc q : Nat} {lv : List (Nat × Value)} {rest : List Value} {D : va_G} {cA cL : ClassId} {h : Nat → Nat} {Z : State → Heap → Prop} {sa : Nat → Nat} (hZ : ZK h Z sa) {d0 : Nat} (X : Cx (KC D cA cL h Z) p st m args meth c cc nL RX6) {b0 : Nat} {x1 : Int32} (d : decode cc pc = .ok (.invokevirtual 65, 3)) (hq : pc + 3 = q) (hb0 : isK 1 b0) (hd1 : 2 + 1 ≤ d0) (hd2 : 8 + (2 + 11) + 100 * 2 ≤ 100 * d0) (hr : (rest.map fun v => v.category).sum ≤ 8) {B : Type} {f : Int32 → B} {r : B} (hs : Lt (C_X1_hasStorm s b0 x1) f = r) (k : ∀ y, f y = r → WG (KC D cA cL h Z) p l e (rmD d0) st m args below meth c Q nL s q lv (.int y :: rest)) : WG (KC D cA cL h Z) p l e (rmD d0) st m args below meth c Q nL s pc lv (.int x1 :: .ref (h b0) :: rest) := by
  exact cVN_I (K := KC D cA cL h Z) X b0 (n := 1) (k_X1_hasStorm hZ l D cA cL s b0 x1 hb0) (gt_c (gt_of 1032 (by decide +kernel) rfl) gt_t) (hZ.1 st st.heap X.2.2.2 _ wX1_hasStorm_X6) (gt_of 197 (by decide +kernel) rfl) (gt_of 1031 (by decide +kernel) rfl) (gt_of 68 (by decide +kernel) rfl) ⟨hd1, hd2⟩ ⟨by decide, by decide, by decide +kernel⟩ (As := [.int x1]) rfl hr (hb0).1 (fs := cF1 h b0 (s.1 b0) (s.2 b0)) (GC_1 (cA := cA) (cL := cL) hb0 _ _) rfl rfl d hq (k _ hs)
theorem wX1_isCell_X6 : Cond.methodLinkNest RX6 61 yX1_isCell "StormSeeds" ∈ NW := nw_of 1143 (by decide +kernel) rfl
theorem vc_X1_isCell_X6 {p : Program} {l : Launch} {e : Env} {st : State} {m : MethodId} {args : Array Value} {below : List Frame} {meth : Method} {c : Code} {Q : State → Prop} {nL : Nat} {cc : ByteArray} {s : ST} {pc q : Nat} {lv : List (Nat × Value)} {rest : List Value} {D : va_G} {cA cL : ClassId} {h : Nat → Nat} {Z : State → Heap → Prop} {sa : Nat → Nat} (hZ : ZK h Z sa) {d0 : Nat} (X : Cx (KC D cA cL h Z) p st m args meth c cc nL RX6) {b0 : Nat} {x1 : Int32} (d : decode cc pc = .ok (.invokevirtual 61, 3)) (hq : pc + 3 = q) (hb0 : isK 1 b0) (hd1 : 1 + 1 ≤ d0) (hd2 : 8 + (2 + 11) + 100 * 1 ≤ 100 * d0) (hr : (rest.map fun v => v.category).sum ≤ 8) {B : Type} {f : Int32 → B} {r : B} (hs : Lt (C_X1_isCell s b0 x1) f = r) (k : ∀ y, f y = r → WG (KC D cA cL h Z) p l e (rmD d0) st m args below meth c Q nL s q lv (.int y :: rest)) : WG (KC D cA cL h Z) p l e (rmD d0) st m args below meth c Q nL s pc lv (.int x1 :: .ref (h b0) :: rest) := by
  exact cVN_I (K := KC D cA cL h Z) X b0 (n := 1) (k_X1_isCell hZ l D cA cL s b0 x1 hb0) (gt_c (gt_of 623 (by decide +kernel) rfl) gt_t) (hZ.1 st st.heap X.2.2.2 _ wX1_isCell_X6) (gt_of 197 (by decide +kernel) rfl) (gt_of 622 (by decide +kernel) rfl) (gt_of 8 (by decide +kernel) rfl) ⟨hd1, hd2⟩ ⟨by decide, by decide, by decide +kernel⟩ (As := [.int x1]) rfl hr (hb0).1 (fs := cF1 h b0 (s.1 b0) (s.2 b0)) (GC_1 (cA := cA) (cL := cL) hb0 _ _) rfl rfl d hq (k _ hs)
theorem wX4_of_X6 : Cond.methodLinkNest RX6 55 yX4_of "StormSeeds" ∈ NW := nw_of 1137 (by decide +kernel) rfl
theorem vc_X4_of_X6 {p : Program} {l : Launch} {e : Env} {st : State} {m : MethodId} {args : Array Value} {below : List Frame} {meth : Method} {c : Code} {Q : State → Prop} {nL : Nat} {cc : ByteArray} {s : ST} {pc q : Nat} {lv : List (Nat × Value)} {rest : List Value} {D : va_G} {cA cL : ClassId} {h : Nat → Nat} {Z : State → Heap → Prop} {sa : Nat → Nat} (hZ : ZK h Z sa) {d0 : Nat} (X : Cx (KC D cA cL h Z) p st m args meth c cc nL RX6) {b0 : Nat} {x1 : Int32} {x2 : Int32} (d : decode cc pc = .ok (.invokevirtual 55, 3)) (hq : pc + 3 = q) (hb0 : isK 4 b0) (hd1 : 2 + 1 ≤ d0) (hd2 : 8 + (3 + 11) + 100 * 2 ≤ 100 * d0) (hr : (rest.map fun v => v.category).sum ≤ 8) {B : Type} {f : Int32 → Option B} {r : B} (hs : Bd (C_X4_of s b0 x1 x2) f = some r) (k : ∀ y, f y = some r → WG (KC D cA cL h Z) p l e (rmD d0) st m args below meth c Q nL s q lv (.int y :: rest)) : WG (KC D cA cL h Z) p l e (rmD d0) st m args below meth c Q nL s pc lv (.int x2 :: .int x1 :: .ref (h b0) :: rest) := by
  obtain ⟨v, hv, hs⟩ := Bd_e hs
  exact cVN_I (K := KC D cA cL h Z) X b0 (n := 2) (k_X4_of hZ l D cA cL s b0 x1 x2 hb0 hv) (gt_c (gt_of 987 (by decide +kernel) rfl) gt_t) (hZ.1 st st.heap X.2.2.2 _ wX4_of_X6) (gt_of 199 (by decide +kernel) rfl) (gt_of 986 (by decide +kernel) rfl) (gt_of 62 (by decide +kernel) rfl) ⟨hd1, hd2⟩ ⟨by decide, by decide, by decide +kernel⟩ (As := [.int x1, .int x2]) rfl hr (hb0).1 (fs := cF4 h b0 (s.1 b0) (s.2 b0)) (GC_4 (cA := cA) (cL := cL) hb0 _ _) rfl rfl d hq (k _ hs)
def C_X6_isMet (s : ST) (x1 : Int32) : Option (Int32) := Bd (C_X4_of s 19 x1 (0 : Int32)) fun y1 => Bd (C_X4_of s 19 x1 (1 : Int32)) fun y2 => Lt (C_X1_isCell s 72 y2) fun y3 => Lt (if y1 = (-1 : Int32) then (some (1 : Int32)) else (some (0 : Int32)) : Option (Int32)) fun j1 => if y3 = 0 then (j1) else (Lt (C_X1_hasStorm s 72 y2) fun y4 => if y4 = 0 then (j1) else (Gl s 76 64 y2 fun y5 => if y5 = y1 then (some (1 : Int32)) else (some (0 : Int32))))
set_option maxRecDepth 100000 in
set_option maxHeartbeats 4000000 in
theorem k_X6_isMet {h : Nat → Nat} {Z : State → Heap → Prop} {sa : Nat → Nat} (hZ : ZK h Z sa) (l : Launch) (D : va_G) (cA cL : ClassId) (s : ST) (x1 : Int32) {o : Int32} (hs : C_X6_isMet s x1 = some o) : MI l (KC D cA cL h Z) 3 yX6_isMet cX6_isMet 4 (some .boolean) s [.ref (h 71), .int x1] o s := by
  refine met_i (by decide) (Nat.le_of_ble_eq_true rfl) ?_
  intro p e st m args below meth c Q X RI
  unfold C_X6_isMet at hs
  refine g_aload_n X dX6_isMet_0 (q := 1) rfl 0 rfl ?_
  refine cg_6_0 X dX6_isMet_1 (q := 4) rfl sh_71 lf_X6_18 ?_
  refine cgN_7_3 hZ X dX6_isMet_4 (q := 7) rfl sh_8 lf_X6_49 ?_
  refine g_iload_n X dX6_isMet_7 (q := 8) rfl 1 rfl ?_
  refine g_iconst X dX6_isMet_8 (q := 9) rfl li_i0 ?_
  refine vc_X4_of_X6 hZ X dX6_isMet_9 (q := 12) rfl sh_19 (Nat.le_of_ble_eq_true rfl) (Nat.le_of_ble_eq_true rfl) (Nat.le_of_ble_eq_true rfl) hs (fun y1 hs => ?_)
  refine g_istore_n X dX6_isMet_12 (q := 13) rfl (Nat.le_of_ble_eq_true rfl) (lv' := [(2, .int y1), (0, .ref (h 71)), (1, .int x1)]) rfl ?_
  refine g_aload_n X dX6_isMet_13 (q := 14) rfl 1 rfl ?_
  refine cg_6_0 X dX6_isMet_14 (q := 17) rfl sh_71 lf_X6_18 ?_
  refine cgN_7_3 hZ X dX6_isMet_17 (q := 20) rfl sh_8 lf_X6_49 ?_
  refine g_iload_n X dX6_isMet_20 (q := 21) rfl 2 rfl ?_
  refine g_iconst X dX6_isMet_21 (q := 22) rfl li_i1 ?_
  refine vc_X4_of_X6 hZ X dX6_isMet_22 (q := 25) rfl sh_19 (Nat.le_of_ble_eq_true rfl) (Nat.le_of_ble_eq_true rfl) (Nat.le_of_ble_eq_true rfl) hs (fun y2 hs => ?_)
  refine g_istore_n X dX6_isMet_25 (q := 26) rfl (Nat.le_of_ble_eq_true rfl) (lv' := [(3, .int y2), (2, .int y1), (0, .ref (h 71)), (1, .int x1)]) rfl ?_
  refine g_aload_n X dX6_isMet_26 (q := 27) rfl 2 rfl ?_
  refine cg_6_2 X dX6_isMet_27 (q := 30) rfl sh_71 lf_X6_12 ?_
  refine g_iload_n X dX6_isMet_30 (q := 31) rfl 0 rfl ?_
  refine vc_X1_isCell_X6 hZ X dX6_isMet_31 (q := 34) rfl sh_72 (Nat.le_of_ble_eq_true rfl) (Nat.le_of_ble_eq_true rfl) (Nat.le_of_ble_eq_true rfl) hs (fun y3 hs => ?_)
  refine jnW0 (WG (KC D cA cL h Z) p l e (rmD 3) st m args below meth c Q 4 s 48 [(2, .int y1)] []) hs (fun  hs => ?_) (fun j1 ih1 hs => ?_)
  · refine g_iload_n X dX6_isMet_48 (q := 49) rfl 0 rfl ?_
    refine g_iconst X dX6_isMet_49 (q := 50) rfl li_im1 ?_
    refine g_icmp_ne X dX6_isMet_50 (q := 53) rfl (tgt := 57) (by decide) hs ?_ ?_
    · intro hs
      refine g_iconst X dX6_isMet_57 (q := 58) rfl li_i0 ?_
      exact RI _ 58 _ _ _ rfl rfl (Option.some.inj hs) dX6_isMet_58
    · intro hs
      refine g_iconst X dX6_isMet_53 (q := 54) rfl li_i1 ?_
      refine g_goto X dX6_isMet_54 (tgt := 58) (by decide) ?_
      exact RI _ 58 _ _ _ rfl rfl (Option.some.inj hs) dX6_isMet_58
  refine g_if_eq X dX6_isMet_34 (q := 37) rfl (tgt := 48) (by decide) hs ?_ ?_
  · intro hs
    exact wg_sub [1] rfl (ih1 hs)
  · intro hs
    refine g_aload_n X dX6_isMet_37 (q := 38) rfl 2 rfl ?_
    refine cg_6_2 X dX6_isMet_38 (q := 41) rfl sh_71 lf_X6_12 ?_
    refine g_iload_n X dX6_isMet_41 (q := 42) rfl 0 rfl ?_
    refine vc_X1_hasStorm_X6 hZ X dX6_isMet_42 (q := 45) rfl sh_72 (Nat.le_of_ble_eq_true rfl) (Nat.le_of_ble_eq_true rfl) (Nat.le_of_ble_eq_true rfl) hs (fun y4 hs => ?_)
    refine g_if_ne X dX6_isMet_45 (q := 48) rfl (tgt := 59) (by decide) hs ?_ ?_
    · intro hs
      refine g_aload_n X dX6_isMet_59 (q := 60) rfl 2 rfl ?_
      refine cg_6_2 X dX6_isMet_60 (q := 63) rfl sh_71 lf_X6_12 ?_
      refine cgN_1_13 hZ X dX6_isMet_63 (q := 66) rfl sh_72 lf_X6_68 ?_
      refine g_iload_n X dX6_isMet_66 (q := 67) rfl 0 rfl ?_
      refine ca_ld X dX6_isMet_67 (q := 68) rfl 76 sh_76 rfl hs (fun y5 hs => ?_)
      refine g_iload_n X dX6_isMet_68 (q := 69) rfl 1 rfl ?_
      refine g_icmp_ne X dX6_isMet_69 (q := 72) rfl (tgt := 76) (by decide) hs ?_ ?_
      · intro hs
        refine g_iconst X dX6_isMet_76 (q := 77) rfl li_i0 ?_
        exact RI _ 77 _ _ _ rfl rfl (Option.some.inj hs) dX6_isMet_77
      · intro hs
        refine g_iconst X dX6_isMet_72 (q := 73) rfl li_i1 ?_
        refine g_goto X dX6_isMet_73 (tgt := 77) (by decide) ?_
        exact RI _ 77 _ _ _ rfl rfl (Option.some.inj hs) dX6_isMet_77
    · intro hs
      exact wg_sub [1] rfl (ih1 hs)
theorem dX6_meeting_0 : decode cX6_meeting 0 = .ok (.iconst (-1), 1) := by decide +kernel
theorem dX6_meeting_1 : decode cX6_meeting 1 = .ok (.istore_n 2, 1) := by decide +kernel
theorem dX6_meeting_2 : decode cX6_meeting 2 = .ok (.iconst 0, 1) := by decide +kernel
theorem dX6_meeting_3 : decode cX6_meeting 3 = .ok (.istore_n 3, 1) := by decide +kernel
theorem dX6_meeting_4 : decode cX6_meeting 4 = .ok (.iload_n 3, 1) := by decide +kernel
theorem dX6_meeting_5 : decode cX6_meeting 5 = .ok (.aload_n 0, 1) := by decide +kernel
theorem dX6_meeting_6 : decode cX6_meeting 6 = .ok (.getfield 18, 3) := by decide +kernel
theorem dX6_meeting_9 : decode cX6_meeting 9 = .ok (.getfield 49, 3) := by decide +kernel
theorem dX6_meeting_12 : decode cX6_meeting 12 = .ok (.getfield 72, 3) := by decide +kernel
theorem dX6_meeting_15 : decode cX6_meeting 15 = .ok (.if_icmp .ge 26, 3) := by decide +kernel
theorem dX6_meeting_18 : decode cX6_meeting 18 = .ok (.iload_n 2, 1) := by decide +kernel
theorem dX6_meeting_19 : decode cX6_meeting 19 = .ok (.aload_n 0, 1) := by decide +kernel
theorem dX6_meeting_20 : decode cX6_meeting 20 = .ok (.getfield 18, 3) := by decide +kernel
theorem dX6_meeting_23 : decode cX6_meeting 23 = .ok (.getfield 49, 3) := by decide +kernel
theorem dX6_meeting_26 : decode cX6_meeting 26 = .ok (.iload_n 3, 1) := by decide +kernel
theorem dX6_meeting_27 : decode cX6_meeting 27 = .ok (.iconst 2, 1) := by decide +kernel
theorem dX6_meeting_28 : decode cX6_meeting 28 = .ok (.invokevirtual 55, 3) := by decide +kernel
theorem dX6_meeting_31 : decode cX6_meeting 31 = .ok (.invokestatic 76, 3) := by decide +kernel
theorem dX6_meeting_34 : decode cX6_meeting 34 = .ok (.istore_n 2, 1) := by decide +kernel
theorem dX6_meeting_35 : decode cX6_meeting 35 = .ok (.iinc 3 1, 3) := by decide +kernel
theorem dX6_meeting_38 : decode cX6_meeting 38 = .ok (.goto (-34), 3) := by decide +kernel
theorem dX6_meeting_41 : decode cX6_meeting 41 = .ok (.aload_n 0, 1) := by decide +kernel
theorem dX6_meeting_42 : decode cX6_meeting 42 = .ok (.getfield 12, 3) := by decide +kernel
theorem dX6_meeting_45 : decode cX6_meeting 45 = .ok (.aload_n 0, 1) := by decide +kernel
theorem dX6_meeting_46 : decode cX6_meeting 46 = .ok (.getfield 22, 3) := by decide +kernel
theorem dX6_meeting_49 : decode cX6_meeting 49 = .ok (.invokevirtual 34, 3) := by decide +kernel
theorem dX6_meeting_52 : decode cX6_meeting 52 = .ok (.iconst 0, 1) := by decide +kernel
theorem dX6_meeting_53 : decode cX6_meeting 53 = .ok (.istore_n 3, 1) := by decide +kernel
theorem dX6_meeting_54 : decode cX6_meeting 54 = .ok (.aload_n 0, 1) := by decide +kernel
theorem dX6_meeting_55 : decode cX6_meeting 55 = .ok (.getfield 22, 3) := by decide +kernel
theorem dX6_meeting_58 : decode cX6_meeting 58 = .ok (.getfield 81, 3) := by decide +kernel
theorem dX6_meeting_61 : decode cX6_meeting 61 = .ok (.istore 4, 2) := by decide +kernel
theorem dX6_meeting_63 : decode cX6_meeting 63 = .ok (.iload 4, 2) := by decide +kernel
theorem dX6_meeting_65 : decode cX6_meeting 65 = .ok (.iload_n 2, 1) := by decide +kernel
theorem dX6_meeting_66 : decode cX6_meeting 66 = .ok (.if_icmp .gt 113, 3) := by decide +kernel
theorem dX6_meeting_69 : decode cX6_meeting 69 = .ok (.aload_n 0, 1) := by decide +kernel
theorem dX6_meeting_70 : decode cX6_meeting 70 = .ok (.getfield 30, 3) := by decide +kernel
theorem dX6_meeting_73 : decode cX6_meeting 73 = .ok (.aload_n 0, 1) := by decide +kernel
theorem dX6_meeting_74 : decode cX6_meeting 74 = .ok (.getfield 12, 3) := by decide +kernel
theorem dX6_meeting_77 : decode cX6_meeting 77 = .ok (.iconst 1, 1) := by decide +kernel
theorem dX6_meeting_78 : decode cX6_meeting 78 = .ok (.invokevirtual 42, 3) := by decide +kernel
theorem dX6_meeting_81 : decode cX6_meeting 81 = .ok (.pop, 1) := by decide +kernel
theorem dX6_meeting_82 : decode cX6_meeting 82 = .ok (.iconst 0, 1) := by decide +kernel
theorem dX6_meeting_83 : decode cX6_meeting 83 = .ok (.istore 5, 2) := by decide +kernel
theorem dX6_meeting_85 : decode cX6_meeting 85 = .ok (.iload 5, 2) := by decide +kernel
theorem dX6_meeting_87 : decode cX6_meeting 87 = .ok (.aload_n 0, 1) := by decide +kernel
theorem dX6_meeting_88 : decode cX6_meeting 88 = .ok (.getfield 18, 3) := by decide +kernel
theorem dX6_meeting_91 : decode cX6_meeting 91 = .ok (.getfield 49, 3) := by decide +kernel
theorem dX6_meeting_94 : decode cX6_meeting 94 = .ok (.getfield 72, 3) := by decide +kernel
theorem dX6_meeting_97 : decode cX6_meeting 97 = .ok (.if_icmp .ge 65, 3) := by decide +kernel
theorem dX6_meeting_100 : decode cX6_meeting 100 = .ok (.aload_n 0, 1) := by decide +kernel
theorem dX6_meeting_101 : decode cX6_meeting 101 = .ok (.getfield 18, 3) := by decide +kernel
theorem dX6_meeting_104 : decode cX6_meeting 104 = .ok (.getfield 49, 3) := by decide +kernel
theorem dX6_meeting_107 : decode cX6_meeting 107 = .ok (.iload 5, 2) := by decide +kernel
theorem dX6_meeting_109 : decode cX6_meeting 109 = .ok (.iconst 2, 1) := by decide +kernel
theorem dX6_meeting_110 : decode cX6_meeting 110 = .ok (.invokevirtual 55, 3) := by decide +kernel
theorem dX6_meeting_113 : decode cX6_meeting 113 = .ok (.iload 4, 2) := by decide +kernel
theorem dX6_meeting_115 : decode cX6_meeting 115 = .ok (.if_icmp .eq 6, 3) := by decide +kernel
theorem dX6_meeting_118 : decode cX6_meeting 118 = .ok (.goto 38, 3) := by decide +kernel
theorem dX6_meeting_121 : decode cX6_meeting 121 = .ok (.aload_n 0, 1) := by decide +kernel
theorem dX6_meeting_122 : decode cX6_meeting 122 = .ok (.iload 5, 2) := by decide +kernel
theorem dX6_meeting_124 : decode cX6_meeting 124 = .ok (.invokevirtual 84, 3) := by decide +kernel
theorem dX6_meeting_127 : decode cX6_meeting 127 = .ok (.ifCond .eq 22, 3) := by decide +kernel
theorem dX6_meeting_130 : decode cX6_meeting 130 = .ok (.iload_n 3, 1) := by decide +kernel
theorem dX6_meeting_131 : decode cX6_meeting 131 = .ok (.aload_n 0, 1) := by decide +kernel
theorem dX6_meeting_132 : decode cX6_meeting 132 = .ok (.getfield 18, 3) := by decide +kernel
theorem dX6_meeting_135 : decode cX6_meeting 135 = .ok (.getfield 49, 3) := by decide +kernel
theorem dX6_meeting_138 : decode cX6_meeting 138 = .ok (.iload 5, 2) := by decide +kernel
theorem dX6_meeting_140 : decode cX6_meeting 140 = .ok (.iconst 3, 1) := by decide +kernel
theorem dX6_meeting_141 : decode cX6_meeting 141 = .ok (.invokevirtual 55, 3) := by decide +kernel
theorem dX6_meeting_144 : decode cX6_meeting 144 = .ok (.iadd, 1) := by decide +kernel
theorem dX6_meeting_145 : decode cX6_meeting 145 = .ok (.istore_n 3, 1) := by decide +kernel
theorem dX6_meeting_146 : decode cX6_meeting 146 = .ok (.goto 10, 3) := by decide +kernel
theorem dX6_meeting_149 : decode cX6_meeting 149 = .ok (.iload_n 1, 1) := by decide +kernel
theorem dX6_meeting_150 : decode cX6_meeting 150 = .ok (.ifCond .ne 6, 3) := by decide +kernel
theorem dX6_meeting_153 : decode cX6_meeting 153 = .ok (.iload 5, 2) := by decide +kernel
theorem dX6_meeting_155 : decode cX6_meeting 155 = .ok (.ireturn, 1) := by decide +kernel
theorem dX6_meeting_156 : decode cX6_meeting 156 = .ok (.iinc 5 1, 3) := by decide +kernel
theorem dX6_meeting_159 : decode cX6_meeting 159 = .ok (.goto (-74), 3) := by decide +kernel
theorem dX6_meeting_162 : decode cX6_meeting 162 = .ok (.aload_n 0, 1) := by decide +kernel
theorem dX6_meeting_163 : decode cX6_meeting 163 = .ok (.getfield 30, 3) := by decide +kernel
theorem dX6_meeting_166 : decode cX6_meeting 166 = .ok (.aload_n 0, 1) := by decide +kernel
theorem dX6_meeting_167 : decode cX6_meeting 167 = .ok (.getfield 12, 3) := by decide +kernel
theorem dX6_meeting_170 : decode cX6_meeting 170 = .ok (.invokevirtual 46, 3) := by decide +kernel
theorem dX6_meeting_173 : decode cX6_meeting 173 = .ok (.iinc 4 1, 3) := by decide +kernel
theorem dX6_meeting_176 : decode cX6_meeting 176 = .ok (.goto (-113), 3) := by decide +kernel
theorem dX6_meeting_179 : decode cX6_meeting 179 = .ok (.iload_n 1, 1) := by decide +kernel
theorem dX6_meeting_180 : decode cX6_meeting 180 = .ok (.ifCond .eq 7, 3) := by decide +kernel
theorem dX6_meeting_183 : decode cX6_meeting 183 = .ok (.iload_n 3, 1) := by decide +kernel
theorem dX6_meeting_184 : decode cX6_meeting 184 = .ok (.goto 4, 3) := by decide +kernel
theorem dX6_meeting_187 : decode cX6_meeting 187 = .ok (.iconst (-1), 1) := by decide +kernel
theorem dX6_meeting_188 : decode cX6_meeting 188 = .ok (.ireturn, 1) := by decide +kernel
theorem wX6_isMet_X6 : GoodIn GT (wsV RX6 84 RX6 yX6_isMet (.code yX6_isMet cX6_isMet 4 (some .boolean) :: GT)) := gt_V (gt_of 1139 (by decide +kernel) rfl) (gt_of 1141 (by decide +kernel) rfl) (gt_of 82 (by decide +kernel) rfl) (gt_of 205 (by decide +kernel) rfl) (gt_of 1142 (by decide +kernel) rfl)
theorem vc_X6_isMet_X6 {p : Program} {l : Launch} {e : Env} {st : State} {m : MethodId} {args : Array Value} {below : List Frame} {meth : Method} {c : Code} {Q : State → Prop} {nL : Nat} {cc : ByteArray} {s : ST} {pc q : Nat} {lv : List (Nat × Value)} {rest : List Value} {D : va_G} {cA cL : ClassId} {h : Nat → Nat} {Z : State → Heap → Prop} {sa : Nat → Nat} (hZ : ZK h Z sa) {d0 : Nat} (X : Cx (KC D cA cL h Z) p st m args meth c cc nL RX6) {x1 : Int32} (d : decode cc pc = .ok (.invokevirtual 84, 3)) (hq : pc + 3 = q) (hd1 : 3 + 1 ≤ d0) (hd2 : 8 + (4 + 11) + 100 * 3 ≤ 100 * d0) (hr : (rest.map fun v => v.category).sum ≤ 8) {B : Type} {f : Int32 → Option B} {r : B} (hs : Bd (C_X6_isMet s x1) f = some r) (k : ∀ y, f y = some r → WG (KC D cA cL h Z) p l e (rmD d0) st m args below meth c Q nL s q lv (.int y :: rest)) : WG (KC D cA cL h Z) p l e (rmD d0) st m args below meth c Q nL s pc lv (.int x1 :: .ref (h 71) :: rest) := by
  obtain ⟨v, hv, hs⟩ := Bd_e hs
  exact cV_I (K := KC D cA cL h Z) X 71 (n := 1) (k_X6_isMet hZ l D cA cL s x1 hv) wX6_isMet_X6 ⟨hd1, hd2⟩ ⟨by decide, by decide, by decide +kernel⟩ (As := [.int x1]) rfl hr (sh_71).1 (fs := cF6 h 71 (s.1 71) (s.2 71)) (GC_6 (cA := cA) (cL := cL) sh_71 _ _) rfl rfl d hq (k _ hs)
def C_X6_meeting (s : ST) (x1 : Int32) : Option (Int32 × ST) := lpK2 (C := Int32 × ST) (fun (rec1 : Int32 → Int32 → Option (Int32 × ST)) (a1 : Int32) (a2 : Int32) => if (s.1 19 2) ≤ a2 then (Bd (C_X1_copy s 72 1) fun s1 => Lt ((s1.1 1 2)) fun y1 => lpK3 (C := Int32 × ST) (fun (rec2 : Int32 → Int32 → ST → Option (Int32 × ST)) (a3 : Int32) (a4 : Int32) (s2 : ST) => if a1 < a4 then (if x1 = 0 then (some ((-1 : Int32), s2)) else (some (a3, s2))) else (Bd (C_X8_dawn_t s2 (1 : Int32)) fun y2 => lpK2 (C := Int32 × ST) (fun (rec3 : Int32 → Int32 → Option (Int32 × ST)) (a5 : Int32) (a6 : Int32) => if (y2.2.1 19 2) ≤ a6 then (Bd (C_X8_dusk_t y2.2) fun s3 => rec2 a5 (a4 + (1 : Int32)) s3) else (Bd (C_X4_of y2.2 19 a6 (2 : Int32)) fun y3 => Lt (fun (a7 : Int32) => (rec3 a7 (a6 + (1 : Int32)) : Option (Int32 × ST))) fun j1 => if y3 = a4 then (Bd (C_X6_isMet y2.2 a6) fun y4 => if y4 = 0 then (if x1 = 0 then (some (a6, y2.2)) else (j1 a5)) else (Bd (C_X4_of y2.2 19 a6 (3 : Int32)) fun y5 => Lt ((a5 + y5)) fun y6 => j1 y6)) else (j1 a5))) FU a3 (0 : Int32))) FU (0 : Int32) y1 s1) else (Bd (C_X4_of s 19 a2 (2 : Int32)) fun y7 => Lt ((imx a1 y7)) fun y8 => rec1 y8 (a2 + (1 : Int32)))) FU (-1 : Int32) (0 : Int32)
set_option maxRecDepth 100000 in
set_option maxHeartbeats 4000000 in
theorem k_X6_meeting {h : Nat → Nat} {Z : State → Heap → Prop} {sa : Nat → Nat} (hZ : ZK h Z sa) (l : Launch) (D : va_G) (cA cL : ClassId) (s : ST) (x1 : Int32) {o : Int32 × ST} (hs : C_X6_meeting s x1 = some o) : MI l (KC D cA cL h Z) 7 yX6_meeting cX6_meeting 6 (some .int) s [.ref (h 71), .int x1] o.1 o.2 := by
  refine met_i (by decide) (Nat.le_of_ble_eq_true rfl) ?_
  intro p e st m args below meth c Q X RI
  unfold C_X6_meeting at hs
  refine g_iconst X dX6_meeting_0 (q := 1) rfl li_im1 ?_
  refine g_istore_n X dX6_meeting_1 (q := 2) rfl (Nat.le_of_ble_eq_true rfl) (lv' := [(2, .int (-1 : Int32)), (0, .ref (h 71)), (1, .int x1)]) rfl ?_
  refine g_iconst X dX6_meeting_2 (q := 3) rfl li_i0 ?_
  refine g_istore_n X dX6_meeting_3 (q := 4) rfl (Nat.le_of_ble_eq_true rfl) (lv' := [(3, .int (0 : Int32)), (2, .int (-1 : Int32)), (0, .ref (h 71)), (1, .int x1)]) rfl ?_
  refine wg_sub [2, 3, 1, 0] rfl (lpW2 (fun (a1 : Int32) (a2 : Int32) => WG (KC D cA cL h Z) p l e (rmD 7) st m args below meth c Q 6 s 4 [(0, .ref (h 71)), (1, .int x1), (2, .int a1), (3, .int a2)] []) (fun rec1 ih1 a1 a2 hs => ?_) _ _ _ hs)
  refine g_iload_n X dX6_meeting_4 (q := 5) rfl 3 rfl ?_
  refine g_aload_n X dX6_meeting_5 (q := 6) rfl 0 rfl ?_
  refine cg_6_0 X dX6_meeting_6 (q := 9) rfl sh_71 lf_X6_18 ?_
  refine cgN_7_3 hZ X dX6_meeting_9 (q := 12) rfl sh_8 lf_X6_49 ?_
  refine cgN_4_2 hZ X dX6_meeting_12 (q := 15) rfl sh_19 lf_X6_72 ?_
  refine g_icmp_ge X dX6_meeting_15 (q := 18) rfl (tgt := 41) (by decide) hs ?_ ?_
  · intro hs
    refine g_aload_n X dX6_meeting_41 (q := 42) rfl 0 rfl ?_
    refine cg_6_2 X dX6_meeting_42 (q := 45) rfl sh_71 lf_X6_12 ?_
    refine g_aload_n X dX6_meeting_45 (q := 46) rfl 0 rfl ?_
    refine cg_6_1 X dX6_meeting_46 (q := 49) rfl sh_71 lf_X6_22 ?_
    refine vc_X1_copy_X6 hZ X dX6_meeting_49 (q := 52) rfl sh_72 sh_1 (Nat.le_of_ble_eq_true rfl) (Nat.le_of_ble_eq_true rfl) (Nat.le_of_ble_eq_true rfl) hs (fun s1 hs => ?_)
    refine g_iconst X dX6_meeting_52 (q := 53) rfl li_i0 ?_
    refine g_istore_n X dX6_meeting_53 (q := 54) rfl (Nat.le_of_ble_eq_true rfl) (lv' := [(3, .int (0 : Int32)), (0, .ref (h 71)), (1, .int x1), (2, .int a1)]) rfl ?_
    refine g_aload_n X dX6_meeting_54 (q := 55) rfl 1 rfl ?_
    refine cg_6_1 X dX6_meeting_55 (q := 58) rfl sh_71 lf_X6_22 ?_
    refine cgN_1_2 hZ X dX6_meeting_58 (q := 61) rfl sh_1 lf_X6_81 ?_
    refine nmI hs (fun y1 hs => ?_)
    refine g_istore X dX6_meeting_61 (q := 63) rfl (Nat.le_of_ble_eq_true rfl) (lv' := [(4, .int y1), (3, .int (0 : Int32)), (0, .ref (h 71)), (1, .int x1), (2, .int a1)]) rfl ?_
    refine wg_sub [2, 3, 4, 1, 0] rfl (lpW3 (fun (a3 : Int32) (a4 : Int32) (s2 : ST) => WG (KC D cA cL h Z) p l e (rmD 7) st m args below meth c Q 6 s2 63 [(0, .ref (h 71)), (1, .int x1), (2, .int a1), (3, .int a3), (4, .int a4)] []) (fun rec2 ih2 a3 a4 s2 hs => ?_) _ _ _ _ hs)
    refine g_iload X dX6_meeting_63 (q := 65) rfl 4 rfl ?_
    refine g_iload_n X dX6_meeting_65 (q := 66) rfl 2 rfl ?_
    refine g_icmp_gt X dX6_meeting_66 (q := 69) rfl (tgt := 179) (by decide) hs ?_ ?_
    · intro hs
      refine g_iload_n X dX6_meeting_179 (q := 180) rfl 1 rfl ?_
      refine g_if_eq X dX6_meeting_180 (q := 183) rfl (tgt := 187) (by decide) hs ?_ ?_
      · intro hs
        refine g_iconst X dX6_meeting_187 (q := 188) rfl li_im1 ?_
        exact RI _ 188 _ _ _ (rU1 hs) rfl (rV1 hs) dX6_meeting_188
      · intro hs
        refine g_iload_n X dX6_meeting_183 (q := 184) rfl 3 rfl ?_
        refine g_goto X dX6_meeting_184 (tgt := 188) (by decide) ?_
        exact RI _ 188 _ _ _ (rU1 hs) rfl (rV1 hs) dX6_meeting_188
    · intro hs
      refine g_aload_n X dX6_meeting_69 (q := 70) rfl 0 rfl ?_
      refine cg_6_3 X dX6_meeting_70 (q := 73) rfl sh_71 lf_X6_30 ?_
      refine g_aload_n X dX6_meeting_73 (q := 74) rfl 0 rfl ?_
      refine cg_6_2 X dX6_meeting_74 (q := 77) rfl sh_71 lf_X6_12 ?_
      refine g_iconst X dX6_meeting_77 (q := 78) rfl li_i1 ?_
      refine vc_X8_dawn_t_X6 hZ X dX6_meeting_78 (q := 81) rfl (Nat.le_of_ble_eq_true rfl) (Nat.le_of_ble_eq_true rfl) (Nat.le_of_ble_eq_true rfl) hs (fun y2 hs => ?_)
      refine g_pop X dX6_meeting_81 (q := 82) rfl rfl ?_
      refine g_iconst X dX6_meeting_82 (q := 83) rfl li_i0 ?_
      refine g_istore X dX6_meeting_83 (q := 85) rfl (Nat.le_of_ble_eq_true rfl) (lv' := [(5, .int (0 : Int32)), (0, .ref (h 71)), (1, .int x1), (2, .int a1), (3, .int a3), (4, .int a4)]) rfl ?_
      refine wg_sub [1, 2, 3, 4, 5, 0] rfl (lpW2 (fun (a5 : Int32) (a6 : Int32) => WG (KC D cA cL h Z) p l e (rmD 7) st m args below meth c Q 6 y2.2 85 [(0, .ref (h 71)), (1, .int x1), (2, .int a1), (3, .int a5), (4, .int a4), (5, .int a6)] []) (fun rec3 ih3 a5 a6 hs => ?_) _ _ _ hs)
      refine g_iload X dX6_meeting_85 (q := 87) rfl 5 rfl ?_
      refine g_aload_n X dX6_meeting_87 (q := 88) rfl 0 rfl ?_
      refine cg_6_0 X dX6_meeting_88 (q := 91) rfl sh_71 lf_X6_18 ?_
      refine cgN_7_3 hZ X dX6_meeting_91 (q := 94) rfl sh_8 lf_X6_49 ?_
      refine cgN_4_2 hZ X dX6_meeting_94 (q := 97) rfl sh_19 lf_X6_72 ?_
      refine g_icmp_ge X dX6_meeting_97 (q := 100) rfl (tgt := 162) (by decide) hs ?_ ?_
      · intro hs
        refine g_aload_n X dX6_meeting_162 (q := 163) rfl 0 rfl ?_
        refine cg_6_3 X dX6_meeting_163 (q := 166) rfl sh_71 lf_X6_30 ?_
        refine g_aload_n X dX6_meeting_166 (q := 167) rfl 0 rfl ?_
        refine cg_6_2 X dX6_meeting_167 (q := 170) rfl sh_71 lf_X6_12 ?_
        refine vc_X8_dusk_t_X6 hZ X dX6_meeting_170 (q := 173) rfl (Nat.le_of_ble_eq_true rfl) (Nat.le_of_ble_eq_true rfl) (Nat.le_of_ble_eq_true rfl) hs (fun s3 hs => ?_)
        refine g_iinc X dX6_meeting_173 (q := 176) rfl 4 rfl (v := (a4 + (1 : Int32))) (congrArg (HAdd.hAdd a4) li_i1) (Nat.le_of_ble_eq_true rfl) (lv' := [(4, .int (a4 + (1 : Int32))), (0, .ref (h 71)), (1, .int x1), (2, .int a1), (3, .int a5), (5, .int a6)]) rfl ?_
        refine g_goto X dX6_meeting_176 (tgt := 63) (by decide) ?_
        exact wg_sub [1, 2, 3, 4, 0] rfl (ih2 _ _ _ hs)
      · intro hs
        refine g_aload_n X dX6_meeting_100 (q := 101) rfl 0 rfl ?_
        refine cg_6_0 X dX6_meeting_101 (q := 104) rfl sh_71 lf_X6_18 ?_
        refine cgN_7_3 hZ X dX6_meeting_104 (q := 107) rfl sh_8 lf_X6_49 ?_
        refine g_iload X dX6_meeting_107 (q := 109) rfl 5 rfl ?_
        refine g_iconst X dX6_meeting_109 (q := 110) rfl li_i2 ?_
        refine vc_X4_of_X6 hZ X dX6_meeting_110 (q := 113) rfl sh_19 (Nat.le_of_ble_eq_true rfl) (Nat.le_of_ble_eq_true rfl) (Nat.le_of_ble_eq_true rfl) hs (fun y3 hs => ?_)
        refine g_iload X dX6_meeting_113 (q := 115) rfl 4 rfl ?_
        refine jnW1 (fun (a7 : Int32) => WG (KC D cA cL h Z) p l e (rmD 7) st m args below meth c Q 6 y2.2 156 [(0, .ref (h 71)), (1, .int x1), (2, .int a1), (3, .int a7), (4, .int a4), (5, .int a6)] []) hs (fun a7 hs => ?_) (fun j1 ih4 hs => ?_)
        · refine g_iinc X dX6_meeting_156 (q := 159) rfl 5 rfl (v := (a6 + (1 : Int32))) (congrArg (HAdd.hAdd a6) li_i1) (Nat.le_of_ble_eq_true rfl) (lv' := [(5, .int (a6 + (1 : Int32))), (0, .ref (h 71)), (1, .int x1), (2, .int a1), (3, .int a7), (4, .int a4)]) rfl ?_
          refine g_goto X dX6_meeting_159 (tgt := 85) (by decide) ?_
          exact wg_sub [1, 2, 3, 4, 5, 0] rfl (ih3 _ _ hs)
        refine g_icmp_eq X dX6_meeting_115 (q := 118) rfl (tgt := 121) (by decide) hs ?_ ?_
        · intro hs
          refine g_aload_n X dX6_meeting_121 (q := 122) rfl 0 rfl ?_
          refine g_iload X dX6_meeting_122 (q := 124) rfl 5 rfl ?_
          refine vc_X6_isMet_X6 hZ X dX6_meeting_124 (q := 127) rfl (Nat.le_of_ble_eq_true rfl) (Nat.le_of_ble_eq_true rfl) (Nat.le_of_ble_eq_true rfl) hs (fun y4 hs => ?_)
          refine g_if_eq X dX6_meeting_127 (q := 130) rfl (tgt := 149) (by decide) hs ?_ ?_
          · intro hs
            refine g_iload_n X dX6_meeting_149 (q := 150) rfl 1 rfl ?_
            refine g_if_ne X dX6_meeting_150 (q := 153) rfl (tgt := 156) (by decide) hs ?_ ?_
            · intro hs
              exact wg_sub [0, 1, 2, 3, 4, 5] rfl (ih4 _ hs)
            · intro hs
              refine g_iload X dX6_meeting_153 (q := 155) rfl 5 rfl ?_
              exact RI _ 155 _ _ _ (rU1 hs) rfl (rV1 hs) dX6_meeting_155
          · intro hs
            refine g_iload_n X dX6_meeting_130 (q := 131) rfl 3 rfl ?_
            refine g_aload_n X dX6_meeting_131 (q := 132) rfl 0 rfl ?_
            refine cg_6_0 X dX6_meeting_132 (q := 135) rfl sh_71 lf_X6_18 ?_
            refine cgN_7_3 hZ X dX6_meeting_135 (q := 138) rfl sh_8 lf_X6_49 ?_
            refine g_iload X dX6_meeting_138 (q := 140) rfl 5 rfl ?_
            refine g_iconst X dX6_meeting_140 (q := 141) rfl li_i3 ?_
            refine vc_X4_of_X6 hZ X dX6_meeting_141 (q := 144) rfl sh_19 (Nat.le_of_ble_eq_true rfl) (Nat.le_of_ble_eq_true rfl) (Nat.le_of_ble_eq_true rfl) hs (fun y5 hs => ?_)
            refine g_iadd X dX6_meeting_144 (q := 145) rfl ?_
            refine nmI hs (fun y6 hs => ?_)
            refine g_istore_n X dX6_meeting_145 (q := 146) rfl (Nat.le_of_ble_eq_true rfl) (lv' := [(3, .int y6), (0, .ref (h 71)), (1, .int x1), (2, .int a1), (4, .int a4), (5, .int a6)]) rfl ?_
            refine g_goto X dX6_meeting_146 (tgt := 156) (by decide) ?_
            exact wg_sub [1, 2, 3, 0, 4, 5] rfl (ih4 _ hs)
        · intro hs
          refine g_goto X dX6_meeting_118 (tgt := 156) (by decide) ?_
          exact wg_sub [0, 1, 2, 3, 4, 5] rfl (ih4 _ hs)
  · intro hs
    refine g_iload_n X dX6_meeting_18 (q := 19) rfl 2 rfl ?_
    refine g_aload_n X dX6_meeting_19 (q := 20) rfl 0 rfl ?_
    refine cg_6_0 X dX6_meeting_20 (q := 23) rfl sh_71 lf_X6_18 ?_
    refine cgN_7_3 hZ X dX6_meeting_23 (q := 26) rfl sh_8 lf_X6_49 ?_
    refine g_iload_n X dX6_meeting_26 (q := 27) rfl 3 rfl ?_
    refine g_iconst X dX6_meeting_27 (q := 28) rfl li_i2 ?_
    refine vc_X4_of_X6 hZ X dX6_meeting_28 (q := 31) rfl sh_19 (Nat.le_of_ble_eq_true rfl) (Nat.le_of_ble_eq_true rfl) (Nat.le_of_ble_eq_true rfl) hs (fun y7 hs => ?_)
    refine cm_max X dX6_meeting_31 (q := 34) rfl ml_X6_76 (Nat.le_of_ble_eq_true rfl) (Nat.le_of_ble_eq_true rfl) (Nat.le_of_ble_eq_true rfl) ?_
    refine nmI hs (fun y8 hs => ?_)
    refine g_istore_n X dX6_meeting_34 (q := 35) rfl (Nat.le_of_ble_eq_true rfl) (lv' := [(2, .int y8), (0, .ref (h 71)), (1, .int x1), (3, .int a2)]) rfl ?_
    refine g_iinc X dX6_meeting_35 (q := 38) rfl 3 rfl (v := (a2 + (1 : Int32))) (congrArg (HAdd.hAdd a2) li_i1) (Nat.le_of_ble_eq_true rfl) (lv' := [(3, .int (a2 + (1 : Int32))), (2, .int y8), (0, .ref (h 71)), (1, .int x1)]) rfl ?_
    refine g_goto X dX6_meeting_38 (tgt := 4) (by decide) ?_
    exact wg_sub [2, 3, 1, 0] rfl (ih1 _ _ hs)
theorem dX6_bestSeed_0 : decode cX6_bestSeed 0 = .ok (.iconst (-1), 1) := by decide +kernel
theorem dX6_bestSeed_1 : decode cX6_bestSeed 1 = .ok (.istore 4, 2) := by decide +kernel
theorem dX6_bestSeed_3 : decode cX6_bestSeed 3 = .ok (.iconst (-1), 1) := by decide +kernel
theorem dX6_bestSeed_4 : decode cX6_bestSeed 4 = .ok (.istore 5, 2) := by decide +kernel
theorem dX6_bestSeed_6 : decode cX6_bestSeed 6 = .ok (.iconst (-1), 1) := by decide +kernel
theorem dX6_bestSeed_7 : decode cX6_bestSeed 7 = .ok (.istore 6, 2) := by decide +kernel
theorem dX6_bestSeed_9 : decode cX6_bestSeed 9 = .ok (.iconst 0, 1) := by decide +kernel
theorem dX6_bestSeed_10 : decode cX6_bestSeed 10 = .ok (.istore 7, 2) := by decide +kernel
theorem dX6_bestSeed_12 : decode cX6_bestSeed 12 = .ok (.iload 7, 2) := by decide +kernel
theorem dX6_bestSeed_14 : decode cX6_bestSeed 14 = .ok (.aload_n 0, 1) := by decide +kernel
theorem dX6_bestSeed_15 : decode cX6_bestSeed 15 = .ok (.getfield 18, 3) := by decide +kernel
theorem dX6_bestSeed_18 : decode cX6_bestSeed 18 = .ok (.getfield 87, 3) := by decide +kernel
theorem dX6_bestSeed_21 : decode cX6_bestSeed 21 = .ok (.getfield 72, 3) := by decide +kernel
theorem dX6_bestSeed_24 : decode cX6_bestSeed 24 = .ok (.if_icmp .ge 117, 3) := by decide +kernel
theorem dX6_bestSeed_27 : decode cX6_bestSeed 27 = .ok (.iconst 0, 1) := by decide +kernel
theorem dX6_bestSeed_28 : decode cX6_bestSeed 28 = .ok (.istore 8, 2) := by decide +kernel
theorem dX6_bestSeed_30 : decode cX6_bestSeed 30 = .ok (.iload 8, 2) := by decide +kernel
theorem dX6_bestSeed_32 : decode cX6_bestSeed 32 = .ok (.bipush 64, 2) := by decide +kernel
theorem dX6_bestSeed_34 : decode cX6_bestSeed 34 = .ok (.if_icmp .ge 101, 3) := by decide +kernel
theorem dX6_bestSeed_37 : decode cX6_bestSeed 37 = .ok (.aload_n 0, 1) := by decide +kernel
theorem dX6_bestSeed_38 : decode cX6_bestSeed 38 = .ok (.getfield 22, 3) := by decide +kernel
theorem dX6_bestSeed_41 : decode cX6_bestSeed 41 = .ok (.iload 8, 2) := by decide +kernel
theorem dX6_bestSeed_43 : decode cX6_bestSeed 43 = .ok (.invokevirtual 90, 3) := by decide +kernel
theorem dX6_bestSeed_46 : decode cX6_bestSeed 46 = .ok (.ifCond .ne 6, 3) := by decide +kernel
theorem dX6_bestSeed_49 : decode cX6_bestSeed 49 = .ok (.goto 80, 3) := by decide +kernel
theorem dX6_bestSeed_52 : decode cX6_bestSeed 52 = .ok (.aload_n 0, 1) := by decide +kernel
theorem dX6_bestSeed_53 : decode cX6_bestSeed 53 = .ok (.getfield 12, 3) := by decide +kernel
theorem dX6_bestSeed_56 : decode cX6_bestSeed 56 = .ok (.aload_n 0, 1) := by decide +kernel
theorem dX6_bestSeed_57 : decode cX6_bestSeed 57 = .ok (.getfield 22, 3) := by decide +kernel
theorem dX6_bestSeed_60 : decode cX6_bestSeed 60 = .ok (.invokevirtual 34, 3) := by decide +kernel
theorem dX6_bestSeed_63 : decode cX6_bestSeed 63 = .ok (.aload_n 0, 1) := by decide +kernel
theorem dX6_bestSeed_64 : decode cX6_bestSeed 64 = .ok (.getfield 12, 3) := by decide +kernel
theorem dX6_bestSeed_67 : decode cX6_bestSeed 67 = .ok (.iload 7, 2) := by decide +kernel
theorem dX6_bestSeed_69 : decode cX6_bestSeed 69 = .ok (.iload 8, 2) := by decide +kernel
theorem dX6_bestSeed_71 : decode cX6_bestSeed 71 = .ok (.invokevirtual 93, 3) := by decide +kernel
theorem dX6_bestSeed_74 : decode cX6_bestSeed 74 = .ok (.aload_n 0, 1) := by decide +kernel
theorem dX6_bestSeed_75 : decode cX6_bestSeed 75 = .ok (.iload_n 2, 1) := by decide +kernel
theorem dX6_bestSeed_76 : decode cX6_bestSeed 76 = .ok (.invokevirtual 38, 3) := by decide +kernel
theorem dX6_bestSeed_79 : decode cX6_bestSeed 79 = .ok (.aload_n 0, 1) := by decide +kernel
theorem dX6_bestSeed_80 : decode cX6_bestSeed 80 = .ok (.getfield 12, 3) := by decide +kernel
theorem dX6_bestSeed_83 : decode cX6_bestSeed 83 = .ok (.getfield 97, 3) := by decide +kernel
theorem dX6_bestSeed_86 : decode cX6_bestSeed 86 = .ok (.aload_n 0, 1) := by decide +kernel
theorem dX6_bestSeed_87 : decode cX6_bestSeed 87 = .ok (.getfield 22, 3) := by decide +kernel
theorem dX6_bestSeed_90 : decode cX6_bestSeed 90 = .ok (.getfield 97, 3) := by decide +kernel
theorem dX6_bestSeed_93 : decode cX6_bestSeed 93 = .ok (.isub, 1) := by decide +kernel
theorem dX6_bestSeed_94 : decode cX6_bestSeed 94 = .ok (.istore 9, 2) := by decide +kernel
theorem dX6_bestSeed_96 : decode cX6_bestSeed 96 = .ok (.aload_n 0, 1) := by decide +kernel
theorem dX6_bestSeed_97 : decode cX6_bestSeed 97 = .ok (.iload_n 1, 1) := by decide +kernel
theorem dX6_bestSeed_98 : decode cX6_bestSeed 98 = .ok (.invokevirtual 84, 3) := by decide +kernel
theorem dX6_bestSeed_101 : decode cX6_bestSeed 101 = .ok (.ifCond .eq 28, 3) := by decide +kernel
theorem dX6_bestSeed_104 : decode cX6_bestSeed 104 = .ok (.iload 4, 2) := by decide +kernel
theorem dX6_bestSeed_106 : decode cX6_bestSeed 106 = .ok (.iconst (-1), 1) := by decide +kernel
theorem dX6_bestSeed_107 : decode cX6_bestSeed 107 = .ok (.if_icmp .eq 10, 3) := by decide +kernel
theorem dX6_bestSeed_110 : decode cX6_bestSeed 110 = .ok (.iload 9, 2) := by decide +kernel
theorem dX6_bestSeed_112 : decode cX6_bestSeed 112 = .ok (.iload 6, 2) := by decide +kernel
theorem dX6_bestSeed_114 : decode cX6_bestSeed 114 = .ok (.if_icmp .ge 15, 3) := by decide +kernel
theorem dX6_bestSeed_117 : decode cX6_bestSeed 117 = .ok (.iload 7, 2) := by decide +kernel
theorem dX6_bestSeed_119 : decode cX6_bestSeed 119 = .ok (.istore 4, 2) := by decide +kernel
theorem dX6_bestSeed_121 : decode cX6_bestSeed 121 = .ok (.iload 8, 2) := by decide +kernel
theorem dX6_bestSeed_123 : decode cX6_bestSeed 123 = .ok (.istore 5, 2) := by decide +kernel
theorem dX6_bestSeed_125 : decode cX6_bestSeed 125 = .ok (.iload 9, 2) := by decide +kernel
theorem dX6_bestSeed_127 : decode cX6_bestSeed 127 = .ok (.istore 6, 2) := by decide +kernel
theorem dX6_bestSeed_129 : decode cX6_bestSeed 129 = .ok (.iinc 8 1, 3) := by decide +kernel
theorem dX6_bestSeed_132 : decode cX6_bestSeed 132 = .ok (.goto (-102), 3) := by decide +kernel
theorem dX6_bestSeed_135 : decode cX6_bestSeed 135 = .ok (.iinc 7 1, 3) := by decide +kernel
theorem dX6_bestSeed_138 : decode cX6_bestSeed 138 = .ok (.goto (-126), 3) := by decide +kernel
theorem dX6_bestSeed_141 : decode cX6_bestSeed 141 = .ok (.iload_n 3, 1) := by decide +kernel
theorem dX6_bestSeed_142 : decode cX6_bestSeed 142 = .ok (.ifCond .ne 8, 3) := by decide +kernel
theorem dX6_bestSeed_145 : decode cX6_bestSeed 145 = .ok (.iload 4, 2) := by decide +kernel
theorem dX6_bestSeed_147 : decode cX6_bestSeed 147 = .ok (.goto 15, 3) := by decide +kernel
theorem dX6_bestSeed_150 : decode cX6_bestSeed 150 = .ok (.iload_n 3, 1) := by decide +kernel
theorem dX6_bestSeed_151 : decode cX6_bestSeed 151 = .ok (.iconst 1, 1) := by decide +kernel
theorem dX6_bestSeed_152 : decode cX6_bestSeed 152 = .ok (.if_icmp .ne 8, 3) := by decide +kernel
theorem dX6_bestSeed_155 : decode cX6_bestSeed 155 = .ok (.iload 5, 2) := by decide +kernel
theorem dX6_bestSeed_157 : decode cX6_bestSeed 157 = .ok (.goto 5, 3) := by decide +kernel
theorem dX6_bestSeed_160 : decode cX6_bestSeed 160 = .ok (.iload 6, 2) := by decide +kernel
theorem dX6_bestSeed_162 : decode cX6_bestSeed 162 = .ok (.ireturn, 1) := by decide +kernel
theorem wX1_isSowable_X6 : Cond.methodLinkNest RX6 90 yX1_isSowable "StormSeeds" ∈ NW := nw_of 1154 (by decide +kernel) rfl
theorem vc_X1_isSowable_X6 {p : Program} {l : Launch} {e : Env} {st : State} {m : MethodId} {args : Array Value} {below : List Frame} {meth : Method} {c : Code} {Q : State → Prop} {nL : Nat} {cc : ByteArray} {s : ST} {pc q : Nat} {lv : List (Nat × Value)} {rest : List Value} {D : va_G} {cA cL : ClassId} {h : Nat → Nat} {Z : State → Heap → Prop} {sa : Nat → Nat} (hZ : ZK h Z sa) {d0 : Nat} (X : Cx (KC D cA cL h Z) p st m args meth c cc nL RX6) {b0 : Nat} {x1 : Int32} (d : decode cc pc = .ok (.invokevirtual 90, 3)) (hq : pc + 3 = q) (hb0 : isK 1 b0) (hd1 : 2 + 1 ≤ d0) (hd2 : 8 + (2 + 11) + 100 * 2 ≤ 100 * d0) (hr : (rest.map fun v => v.category).sum ≤ 8) {B : Type} {f : Int32 → B} {r : B} (hs : Lt (C_X1_isSowable s b0 x1) f = r) (k : ∀ y, f y = r → WG (KC D cA cL h Z) p l e (rmD d0) st m args below meth c Q nL s q lv (.int y :: rest)) : WG (KC D cA cL h Z) p l e (rmD d0) st m args below meth c Q nL s pc lv (.int x1 :: .ref (h b0) :: rest) := by
  exact cVN_I (K := KC D cA cL h Z) X b0 (n := 1) (k_X1_isSowable hZ l D cA cL s b0 x1 hb0) (gt_c (gt_of 919 (by decide +kernel) rfl) gt_t) (hZ.1 st st.heap X.2.2.2 _ wX1_isSowable_X6) (gt_of 197 (by decide +kernel) rfl) (gt_of 918 (by decide +kernel) rfl) (gt_of 50 (by decide +kernel) rfl) ⟨hd1, hd2⟩ ⟨by decide, by decide, by decide +kernel⟩ (As := [.int x1]) rfl hr (hb0).1 (fs := cF1 h b0 (s.1 b0) (s.2 b0)) (GC_1 (cA := cA) (cL := cL) hb0 _ _) rfl rfl d hq (k _ hs)
theorem wX1_laySeed_X6 : Cond.methodLinkNest RX6 93 yX1_laySeed "StormSeeds" ∈ NW := nw_of 1155 (by decide +kernel) rfl
theorem vc_X1_laySeed_X6 {p : Program} {l : Launch} {e : Env} {st : State} {m : MethodId} {args : Array Value} {below : List Frame} {meth : Method} {c : Code} {Q : State → Prop} {nL : Nat} {cc : ByteArray} {s : ST} {pc q : Nat} {lv : List (Nat × Value)} {rest : List Value} {D : va_G} {cA cL : ClassId} {h : Nat → Nat} {Z : State → Heap → Prop} {sa : Nat → Nat} (hZ : ZK h Z sa) {d0 : Nat} (X : Cx (KC D cA cL h Z) p st m args meth c cc nL RX6) {b0 : Nat} {x1 : Int32} {x2 : Int32} (d : decode cc pc = .ok (.invokevirtual 93, 3)) (hq : pc + 3 = q) (hb0 : isK 1 b0) (hd1 : 2 + 1 ≤ d0) (hd2 : 8 + (3 + 11) + 100 * 2 ≤ 100 * d0) (hr : (rest.map fun v => v.category).sum ≤ 8) {B : Type} {f : ST → Option B} {r : B} (hs : Bd (C_X1_laySeed s b0 x1 x2) f = some r) (k : ∀ y, f y = some r → WG (KC D cA cL h Z) p l e (rmD d0) st m args below meth c Q nL y q lv (rest)) : WG (KC D cA cL h Z) p l e (rmD d0) st m args below meth c Q nL s pc lv (.int x2 :: .int x1 :: .ref (h b0) :: rest) := by
  obtain ⟨v, hv, hs⟩ := Bd_e hs
  exact cVN_V (K := KC D cA cL h Z) X b0 (n := 2) (k_X1_laySeed hZ l D cA cL s b0 x1 x2 hb0 hv) (gt_c (gt_of 938 (by decide +kernel) rfl) gt_t) (hZ.1 st st.heap X.2.2.2 _ wX1_laySeed_X6) (gt_of 197 (by decide +kernel) rfl) (gt_of 937 (by decide +kernel) rfl) (gt_of 54 (by decide +kernel) rfl) ⟨hd1, hd2⟩ ⟨by decide, by decide, by decide +kernel⟩ (As := [.int x1, .int x2]) rfl hr (hb0).1 (fs := cF1 h b0 (s.1 b0) (s.2 b0)) (GC_1 (cA := cA) (cL := cL) hb0 _ _) rfl rfl d hq (k _ hs)
def C_X6_bestSeed (s : ST) (x1 : Int32) (x2 : Int32) (x3 : Int32) : Option (Int32 × ST) := lpK5 (C := Int32 × ST) (fun (rec1 : Int32 → Int32 → Int32 → Int32 → ST → Option (Int32 × ST)) (a1 : Int32) (a2 : Int32) (a3 : Int32) (a4 : Int32) (s1 : ST) => if (s1.1 9 2) ≤ a4 then (if x3 = 0 then (some (a1, s1)) else (if x3 = (1 : Int32) then (some (a2, s1)) else (some (a3, s1)))) else (lpK5 (C := Int32 × ST) (fun (rec2 : Int32 → Int32 → Int32 → Int32 → ST → Option (Int32 × ST)) (a5 : Int32) (a6 : Int32) (a7 : Int32) (a8 : Int32) (s2 : ST) => if (64 : Int32) ≤ a8 then (rec1 a5 a6 a7 (a4 + (1 : Int32)) s2) else (Lt (C_X1_isSowable s2 1 a8) fun y1 => Lt (fun (a9 : Int32) (a10 : Int32) (a11 : Int32) (s3 : ST) => (rec2 a9 a10 a11 (a8 + (1 : Int32)) s3 : Option (Int32 × ST))) fun j1 => if y1 = 0 then (j1 a5 a6 a7 s2) else (Bd (C_X1_copy s2 72 1) fun s4 => Bd (C_X1_laySeed s4 72 a4 a8) fun s5 => Bd (C_X6_thinkOn s5 x2) fun s6 => Lt (((s6.1 72 5) - (s6.1 1 5))) fun y2 => Bd (C_X6_isMet s6 x1) fun y3 => if y3 = 0 then (j1 a5 a6 a7 s6) else (Lt (j1 a4 a8 y2 s6 : Option (Int32 × ST)) fun j2 => if a5 = (-1 : Int32) then (j2) else (if a7 ≤ y2 then (j1 a5 a6 a7 s6) else (j2)))))) FU a1 a2 a3 (0 : Int32) s1)) FU (-1 : Int32) (-1 : Int32) (-1 : Int32) (0 : Int32) s
set_option maxRecDepth 100000 in
set_option maxHeartbeats 4000000 in
theorem k_X6_bestSeed {h : Nat → Nat} {Z : State → Heap → Prop} {sa : Nat → Nat} (hZ : ZK h Z sa) (l : Launch) (D : va_G) (cA cL : ClassId) (s : ST) (x1 : Int32) (x2 : Int32) (x3 : Int32) {o : Int32 × ST} (hs : C_X6_bestSeed s x1 x2 x3 = some o) : MI l (KC D cA cL h Z) 8 yX6_bestSeed cX6_bestSeed 10 (some .int) s [.ref (h 71), .int x1, .int x2, .int x3] o.1 o.2 := by
  refine met_i (by decide) (Nat.le_of_ble_eq_true rfl) ?_
  intro p e st m args below meth c Q X RI
  unfold C_X6_bestSeed at hs
  refine g_iconst X dX6_bestSeed_0 (q := 1) rfl li_im1 ?_
  refine g_istore X dX6_bestSeed_1 (q := 3) rfl (Nat.le_of_ble_eq_true rfl) (lv' := [(4, .int (-1 : Int32)), (0, .ref (h 71)), (1, .int x1), (2, .int x2), (3, .int x3)]) rfl ?_
  refine g_iconst X dX6_bestSeed_3 (q := 4) rfl li_im1 ?_
  refine g_istore X dX6_bestSeed_4 (q := 6) rfl (Nat.le_of_ble_eq_true rfl) (lv' := [(5, .int (-1 : Int32)), (4, .int (-1 : Int32)), (0, .ref (h 71)), (1, .int x1), (2, .int x2), (3, .int x3)]) rfl ?_
  refine g_iconst X dX6_bestSeed_6 (q := 7) rfl li_im1 ?_
  refine g_istore X dX6_bestSeed_7 (q := 9) rfl (Nat.le_of_ble_eq_true rfl) (lv' := [(6, .int (-1 : Int32)), (5, .int (-1 : Int32)), (4, .int (-1 : Int32)), (0, .ref (h 71)), (1, .int x1), (2, .int x2), (3, .int x3)]) rfl ?_
  refine g_iconst X dX6_bestSeed_9 (q := 10) rfl li_i0 ?_
  refine g_istore X dX6_bestSeed_10 (q := 12) rfl (Nat.le_of_ble_eq_true rfl) (lv' := [(7, .int (0 : Int32)), (6, .int (-1 : Int32)), (5, .int (-1 : Int32)), (4, .int (-1 : Int32)), (0, .ref (h 71)), (1, .int x1), (2, .int x2), (3, .int x3)]) rfl ?_
  refine wg_sub [4, 5, 6, 7, 3, 2, 1, 0] rfl (lpW5 (fun (a1 : Int32) (a2 : Int32) (a3 : Int32) (a4 : Int32) (s1 : ST) => WG (KC D cA cL h Z) p l e (rmD 8) st m args below meth c Q 10 s1 12 [(0, .ref (h 71)), (1, .int x1), (2, .int x2), (3, .int x3), (4, .int a1), (5, .int a2), (6, .int a3), (7, .int a4)] []) (fun rec1 ih1 a1 a2 a3 a4 s1 hs => ?_) _ _ _ _ _ _ hs)
  refine g_iload X dX6_bestSeed_12 (q := 14) rfl 7 rfl ?_
  refine g_aload_n X dX6_bestSeed_14 (q := 15) rfl 0 rfl ?_
  refine cg_6_0 X dX6_bestSeed_15 (q := 18) rfl sh_71 lf_X6_18 ?_
  refine cgN_7_0 hZ X dX6_bestSeed_18 (q := 21) rfl sh_8 lf_X6_87 ?_
  refine cgN_4_2 hZ X dX6_bestSeed_21 (q := 24) rfl sh_9 lf_X6_72 ?_
  refine g_icmp_ge X dX6_bestSeed_24 (q := 27) rfl (tgt := 141) (by decide) hs ?_ ?_
  · intro hs
    refine g_iload_n X dX6_bestSeed_141 (q := 142) rfl 3 rfl ?_
    refine g_if_ne X dX6_bestSeed_142 (q := 145) rfl (tgt := 150) (by decide) hs ?_ ?_
    · intro hs
      refine g_iload_n X dX6_bestSeed_150 (q := 151) rfl 3 rfl ?_
      refine g_iconst X dX6_bestSeed_151 (q := 152) rfl li_i1 ?_
      refine g_icmp_ne X dX6_bestSeed_152 (q := 155) rfl (tgt := 160) (by decide) hs ?_ ?_
      · intro hs
        refine g_iload X dX6_bestSeed_160 (q := 162) rfl 6 rfl ?_
        exact RI _ 162 _ _ _ (rU1 hs) rfl (rV1 hs) dX6_bestSeed_162
      · intro hs
        refine g_iload X dX6_bestSeed_155 (q := 157) rfl 5 rfl ?_
        refine g_goto X dX6_bestSeed_157 (tgt := 162) (by decide) ?_
        exact RI _ 162 _ _ _ (rU1 hs) rfl (rV1 hs) dX6_bestSeed_162
    · intro hs
      refine g_iload X dX6_bestSeed_145 (q := 147) rfl 4 rfl ?_
      refine g_goto X dX6_bestSeed_147 (tgt := 162) (by decide) ?_
      exact RI _ 162 _ _ _ (rU1 hs) rfl (rV1 hs) dX6_bestSeed_162
  · intro hs
    refine g_iconst X dX6_bestSeed_27 (q := 28) rfl li_i0 ?_
    refine g_istore X dX6_bestSeed_28 (q := 30) rfl (Nat.le_of_ble_eq_true rfl) (lv' := [(8, .int (0 : Int32)), (0, .ref (h 71)), (1, .int x1), (2, .int x2), (3, .int x3), (4, .int a1), (5, .int a2), (6, .int a3), (7, .int a4)]) rfl ?_
    refine wg_sub [1, 2, 3, 4, 5, 6, 7, 8, 0] rfl (lpW5 (fun (a5 : Int32) (a6 : Int32) (a7 : Int32) (a8 : Int32) (s2 : ST) => WG (KC D cA cL h Z) p l e (rmD 8) st m args below meth c Q 10 s2 30 [(0, .ref (h 71)), (1, .int x1), (2, .int x2), (3, .int x3), (4, .int a5), (5, .int a6), (6, .int a7), (7, .int a4), (8, .int a8)] []) (fun rec2 ih2 a5 a6 a7 a8 s2 hs => ?_) _ _ _ _ _ _ hs)
    refine g_iload X dX6_bestSeed_30 (q := 32) rfl 8 rfl ?_
    refine g_bipush X dX6_bestSeed_32 (q := 34) rfl li_b64 ?_
    refine g_icmp_ge X dX6_bestSeed_34 (q := 37) rfl (tgt := 135) (by decide) hs ?_ ?_
    · intro hs
      refine g_iinc X dX6_bestSeed_135 (q := 138) rfl 7 rfl (v := (a4 + (1 : Int32))) (congrArg (HAdd.hAdd a4) li_i1) (Nat.le_of_ble_eq_true rfl) (lv' := [(7, .int (a4 + (1 : Int32))), (0, .ref (h 71)), (1, .int x1), (2, .int x2), (3, .int x3), (4, .int a5), (5, .int a6), (6, .int a7), (8, .int a8)]) rfl ?_
      refine g_goto X dX6_bestSeed_138 (tgt := 12) (by decide) ?_
      exact wg_sub [1, 2, 3, 4, 5, 6, 7, 0] rfl (ih1 _ _ _ _ _ hs)
    · intro hs
      refine g_aload_n X dX6_bestSeed_37 (q := 38) rfl 0 rfl ?_
      refine cg_6_1 X dX6_bestSeed_38 (q := 41) rfl sh_71 lf_X6_22 ?_
      refine g_iload X dX6_bestSeed_41 (q := 43) rfl 8 rfl ?_
      refine vc_X1_isSowable_X6 hZ X dX6_bestSeed_43 (q := 46) rfl sh_1 (Nat.le_of_ble_eq_true rfl) (Nat.le_of_ble_eq_true rfl) (Nat.le_of_ble_eq_true rfl) hs (fun y1 hs => ?_)
      refine jnW4 (fun (a9 : Int32) (a10 : Int32) (a11 : Int32) (s3 : ST) => WG (KC D cA cL h Z) p l e (rmD 8) st m args below meth c Q 10 s3 129 [(0, .ref (h 71)), (1, .int x1), (2, .int x2), (3, .int x3), (4, .int a9), (5, .int a10), (6, .int a11), (7, .int a4), (8, .int a8)] []) hs (fun a9 a10 a11 s3 hs => ?_) (fun j1 ih3 hs => ?_)
      · refine g_iinc X dX6_bestSeed_129 (q := 132) rfl 8 rfl (v := (a8 + (1 : Int32))) (congrArg (HAdd.hAdd a8) li_i1) (Nat.le_of_ble_eq_true rfl) (lv' := [(8, .int (a8 + (1 : Int32))), (0, .ref (h 71)), (1, .int x1), (2, .int x2), (3, .int x3), (4, .int a9), (5, .int a10), (6, .int a11), (7, .int a4)]) rfl ?_
        refine g_goto X dX6_bestSeed_132 (tgt := 30) (by decide) ?_
        exact wg_sub [1, 2, 3, 4, 5, 6, 7, 8, 0] rfl (ih2 _ _ _ _ _ hs)
      refine g_if_ne X dX6_bestSeed_46 (q := 49) rfl (tgt := 52) (by decide) hs ?_ ?_
      · intro hs
        refine g_aload_n X dX6_bestSeed_52 (q := 53) rfl 0 rfl ?_
        refine cg_6_2 X dX6_bestSeed_53 (q := 56) rfl sh_71 lf_X6_12 ?_
        refine g_aload_n X dX6_bestSeed_56 (q := 57) rfl 0 rfl ?_
        refine cg_6_1 X dX6_bestSeed_57 (q := 60) rfl sh_71 lf_X6_22 ?_
        refine vc_X1_copy_X6 hZ X dX6_bestSeed_60 (q := 63) rfl sh_72 sh_1 (Nat.le_of_ble_eq_true rfl) (Nat.le_of_ble_eq_true rfl) (Nat.le_of_ble_eq_true rfl) hs (fun s4 hs => ?_)
        refine g_aload_n X dX6_bestSeed_63 (q := 64) rfl 0 rfl ?_
        refine cg_6_2 X dX6_bestSeed_64 (q := 67) rfl sh_71 lf_X6_12 ?_
        refine g_iload X dX6_bestSeed_67 (q := 69) rfl 7 rfl ?_
        refine g_iload X dX6_bestSeed_69 (q := 71) rfl 8 rfl ?_
        refine vc_X1_laySeed_X6 hZ X dX6_bestSeed_71 (q := 74) rfl sh_72 (Nat.le_of_ble_eq_true rfl) (Nat.le_of_ble_eq_true rfl) (Nat.le_of_ble_eq_true rfl) hs (fun s5 hs => ?_)
        refine g_aload_n X dX6_bestSeed_74 (q := 75) rfl 0 rfl ?_
        refine g_iload_n X dX6_bestSeed_75 (q := 76) rfl 2 rfl ?_
        refine vc_X6_thinkOn_X6 hZ X dX6_bestSeed_76 (q := 79) rfl (Nat.le_of_ble_eq_true rfl) (Nat.le_of_ble_eq_true rfl) (Nat.le_of_ble_eq_true rfl) hs (fun s6 hs => ?_)
        refine g_aload_n X dX6_bestSeed_79 (q := 80) rfl 0 rfl ?_
        refine cg_6_2 X dX6_bestSeed_80 (q := 83) rfl sh_71 lf_X6_12 ?_
        refine cgN_1_5 hZ X dX6_bestSeed_83 (q := 86) rfl sh_72 lf_X6_97 ?_
        refine g_aload_n X dX6_bestSeed_86 (q := 87) rfl 0 rfl ?_
        refine cg_6_1 X dX6_bestSeed_87 (q := 90) rfl sh_71 lf_X6_22 ?_
        refine cgN_1_5 hZ X dX6_bestSeed_90 (q := 93) rfl sh_1 lf_X6_97 ?_
        refine g_isub X dX6_bestSeed_93 (q := 94) rfl ?_
        refine nmI hs (fun y2 hs => ?_)
        refine g_istore X dX6_bestSeed_94 (q := 96) rfl (Nat.le_of_ble_eq_true rfl) (lv' := [(9, .int y2), (0, .ref (h 71)), (1, .int x1), (2, .int x2), (3, .int x3), (4, .int a5), (5, .int a6), (6, .int a7), (7, .int a4), (8, .int a8)]) rfl ?_
        refine g_aload_n X dX6_bestSeed_96 (q := 97) rfl 1 rfl ?_
        refine g_iload_n X dX6_bestSeed_97 (q := 98) rfl 2 rfl ?_
        refine vc_X6_isMet_X6 hZ X dX6_bestSeed_98 (q := 101) rfl (Nat.le_of_ble_eq_true rfl) (Nat.le_of_ble_eq_true rfl) (Nat.le_of_ble_eq_true rfl) hs (fun y3 hs => ?_)
        refine g_if_eq X dX6_bestSeed_101 (q := 104) rfl (tgt := 129) (by decide) hs ?_ ?_
        · intro hs
          exact wg_sub [1, 2, 3, 4, 5, 6, 7, 8, 9] rfl (ih3 _ _ _ _ hs)
        · intro hs
          refine g_iload X dX6_bestSeed_104 (q := 106) rfl 5 rfl ?_
          refine g_iconst X dX6_bestSeed_106 (q := 107) rfl li_im1 ?_
          refine jnW0 (WG (KC D cA cL h Z) p l e (rmD 8) st m args below meth c Q 10 s6 117 [(0, .ref (h 71)), (1, .int x1), (2, .int x2), (3, .int x3), (7, .int a4), (8, .int a8), (9, .int y2)] []) hs (fun  hs => ?_) (fun j2 ih4 hs => ?_)
          · refine g_iload X dX6_bestSeed_117 (q := 119) rfl 4 rfl ?_
            refine g_istore X dX6_bestSeed_119 (q := 121) rfl (Nat.le_of_ble_eq_true rfl) (lv' := [(4, .int a4), (0, .ref (h 71)), (1, .int x1), (2, .int x2), (3, .int x3), (7, .int a4), (8, .int a8), (9, .int y2)]) rfl ?_
            refine g_iload X dX6_bestSeed_121 (q := 123) rfl 6 rfl ?_
            refine g_istore X dX6_bestSeed_123 (q := 125) rfl (Nat.le_of_ble_eq_true rfl) (lv' := [(5, .int a8), (4, .int a4), (0, .ref (h 71)), (1, .int x1), (2, .int x2), (3, .int x3), (7, .int a4), (8, .int a8), (9, .int y2)]) rfl ?_
            refine g_iload X dX6_bestSeed_125 (q := 127) rfl 8 rfl ?_
            refine g_istore X dX6_bestSeed_127 (q := 129) rfl (Nat.le_of_ble_eq_true rfl) (lv' := [(6, .int y2), (5, .int a8), (4, .int a4), (0, .ref (h 71)), (1, .int x1), (2, .int x2), (3, .int x3), (7, .int a4), (8, .int a8), (9, .int y2)]) rfl ?_
            exact wg_sub [3, 4, 5, 6, 2, 1, 0, 7, 8] rfl (ih3 _ _ _ _ hs)
          refine g_icmp_eq X dX6_bestSeed_107 (q := 110) rfl (tgt := 117) (by decide) hs ?_ ?_
          · intro hs
            exact wg_sub [1, 2, 3, 4, 8, 9, 0] rfl (ih4 hs)
          · intro hs
            refine g_iload X dX6_bestSeed_110 (q := 112) rfl 0 rfl ?_
            refine g_iload X dX6_bestSeed_112 (q := 114) rfl 7 rfl ?_
            refine g_icmp_ge X dX6_bestSeed_114 (q := 117) rfl (tgt := 129) (by decide) hs ?_ ?_
            · intro hs
              exact wg_sub [1, 2, 3, 4, 5, 6, 7, 8, 9] rfl (ih3 _ _ _ _ hs)
            · intro hs
              exact wg_sub [1, 2, 3, 4, 8, 9, 0] rfl (ih4 hs)
      · intro hs
        refine g_goto X dX6_bestSeed_49 (tgt := 129) (by decide) ?_
        exact wg_sub [0, 1, 2, 3, 4, 5, 6, 7, 8] rfl (ih3 _ _ _ _ hs)
theorem dX6_getting_0 : decode cX6_getting 0 = .ok (.aload_n 0, 1) := by decide +kernel
theorem dX6_getting_1 : decode cX6_getting 1 = .ok (.getfield 12, 3) := by decide +kernel
theorem dX6_getting_4 : decode cX6_getting 4 = .ok (.aload_n 0, 1) := by decide +kernel
theorem dX6_getting_5 : decode cX6_getting 5 = .ok (.getfield 22, 3) := by decide +kernel
theorem dX6_getting_8 : decode cX6_getting 8 = .ok (.invokevirtual 34, 3) := by decide +kernel
theorem dX6_getting_11 : decode cX6_getting 11 = .ok (.aload_n 0, 1) := by decide +kernel
theorem dX6_getting_12 : decode cX6_getting 12 = .ok (.getfield 12, 3) := by decide +kernel
theorem dX6_getting_15 : decode cX6_getting 15 = .ok (.invokevirtual 100, 3) := by decide +kernel
theorem dX6_getting_18 : decode cX6_getting 18 = .ok (.aload_n 0, 1) := by decide +kernel
theorem dX6_getting_19 : decode cX6_getting 19 = .ok (.getfield 12, 3) := by decide +kernel
theorem dX6_getting_22 : decode cX6_getting 22 = .ok (.iload_n 1, 1) := by decide +kernel
theorem dX6_getting_23 : decode cX6_getting 23 = .ok (.iload_n 2, 1) := by decide +kernel
theorem dX6_getting_24 : decode cX6_getting 24 = .ok (.invokevirtual 93, 3) := by decide +kernel
theorem dX6_getting_27 : decode cX6_getting 27 = .ok (.iconst 1, 1) := by decide +kernel
theorem dX6_getting_28 : decode cX6_getting 28 = .ok (.istore 4, 2) := by decide +kernel
theorem dX6_getting_30 : decode cX6_getting 30 = .ok (.iload 4, 2) := by decide +kernel
theorem dX6_getting_32 : decode cX6_getting 32 = .ok (.bipush 99, 2) := by decide +kernel
theorem dX6_getting_34 : decode cX6_getting 34 = .ok (.if_icmp .gt 47, 3) := by decide +kernel
theorem dX6_getting_37 : decode cX6_getting 37 = .ok (.aload_n 0, 1) := by decide +kernel
theorem dX6_getting_38 : decode cX6_getting 38 = .ok (.getfield 30, 3) := by decide +kernel
theorem dX6_getting_41 : decode cX6_getting 41 = .ok (.aload_n 0, 1) := by decide +kernel
theorem dX6_getting_42 : decode cX6_getting 42 = .ok (.getfield 12, 3) := by decide +kernel
theorem dX6_getting_45 : decode cX6_getting 45 = .ok (.iconst 0, 1) := by decide +kernel
theorem dX6_getting_46 : decode cX6_getting 46 = .ok (.invokevirtual 42, 3) := by decide +kernel
theorem dX6_getting_49 : decode cX6_getting 49 = .ok (.pop, 1) := by decide +kernel
theorem dX6_getting_50 : decode cX6_getting 50 = .ok (.aload_n 0, 1) := by decide +kernel
theorem dX6_getting_51 : decode cX6_getting 51 = .ok (.getfield 12, 3) := by decide +kernel
theorem dX6_getting_54 : decode cX6_getting 54 = .ok (.iload_n 3, 1) := by decide +kernel
theorem dX6_getting_55 : decode cX6_getting 55 = .ok (.invokevirtual 65, 3) := by decide +kernel
theorem dX6_getting_58 : decode cX6_getting 58 = .ok (.ifCond .eq 6, 3) := by decide +kernel
theorem dX6_getting_61 : decode cX6_getting 61 = .ok (.iload 4, 2) := by decide +kernel
theorem dX6_getting_63 : decode cX6_getting 63 = .ok (.ireturn, 1) := by decide +kernel
theorem dX6_getting_64 : decode cX6_getting 64 = .ok (.aload_n 0, 1) := by decide +kernel
theorem dX6_getting_65 : decode cX6_getting 65 = .ok (.getfield 30, 3) := by decide +kernel
theorem dX6_getting_68 : decode cX6_getting 68 = .ok (.aload_n 0, 1) := by decide +kernel
theorem dX6_getting_69 : decode cX6_getting 69 = .ok (.getfield 12, 3) := by decide +kernel
theorem dX6_getting_72 : decode cX6_getting 72 = .ok (.invokevirtual 46, 3) := by decide +kernel
theorem dX6_getting_75 : decode cX6_getting 75 = .ok (.iinc 4 1, 3) := by decide +kernel
theorem dX6_getting_78 : decode cX6_getting 78 = .ok (.goto (-48), 3) := by decide +kernel
theorem dX6_getting_81 : decode cX6_getting 81 = .ok (.iconst (-1), 1) := by decide +kernel
theorem dX6_getting_82 : decode cX6_getting 82 = .ok (.ireturn, 1) := by decide +kernel
theorem wX1_clearSeedsAndStorms_X6 : Cond.methodLinkNest RX6 100 yX1_clearSeedsAndStorms "StormSeeds" ∈ NW := nw_of 1164 (by decide +kernel) rfl
theorem vc_X1_clearSeedsAndStorms_X6 {p : Program} {l : Launch} {e : Env} {st : State} {m : MethodId} {args : Array Value} {below : List Frame} {meth : Method} {c : Code} {Q : State → Prop} {nL : Nat} {cc : ByteArray} {s : ST} {pc q : Nat} {lv : List (Nat × Value)} {rest : List Value} {D : va_G} {cA cL : ClassId} {h : Nat → Nat} {Z : State → Heap → Prop} {sa : Nat → Nat} (hZ : ZK h Z sa) {d0 : Nat} (X : Cx (KC D cA cL h Z) p st m args meth c cc nL RX6) {b0 : Nat} (d : decode cc pc = .ok (.invokevirtual 100, 3)) (hq : pc + 3 = q) (hb0 : isK 1 b0) (hd1 : 1 + 1 ≤ d0) (hd2 : 8 + (1 + 11) + 100 * 1 ≤ 100 * d0) (hr : (rest.map fun v => v.category).sum ≤ 8) {B : Type} {f : ST → B} {r : B} (hs : Lt (C_X1_clearSeedsAndStorms s b0) f = r) (k : ∀ y, f y = r → WG (KC D cA cL h Z) p l e (rmD d0) st m args below meth c Q nL y q lv (rest)) : WG (KC D cA cL h Z) p l e (rmD d0) st m args below meth c Q nL s pc lv (.ref (h b0) :: rest) := by
  exact cVN_V (K := KC D cA cL h Z) X b0 (n := 0) (k_X1_clearSeedsAndStorms hZ l D cA cL s b0 hb0) (gt_c (gt_of 537 (by decide +kernel) rfl) gt_t) (hZ.1 st st.heap X.2.2.2 _ wX1_clearSeedsAndStorms_X6) (gt_of 197 (by decide +kernel) rfl) (gt_of 536 (by decide +kernel) rfl) (gt_of 1 (by decide +kernel) rfl) ⟨hd1, hd2⟩ ⟨by decide, by decide, by decide +kernel⟩ (As := []) rfl hr (hb0).1 (fs := cF1 h b0 (s.1 b0) (s.2 b0)) (GC_1 (cA := cA) (cL := cL) hb0 _ _) rfl rfl d hq (k _ hs)
def C_X6_getting (s : ST) (x1 : Int32) (x2 : Int32) (x3 : Int32) : Option (Int32 × ST) := Bd (C_X1_copy s 72 1) fun s1 => Lt (C_X1_clearSeedsAndStorms s1 72) fun s2 => Bd (C_X1_laySeed s2 72 x1 x2) fun s3 => lpK2 (C := Int32 × ST) (fun (rec1 : Int32 → ST → Option (Int32 × ST)) (a1 : Int32) (s4 : ST) => if (99 : Int32) < a1 then (some ((-1 : Int32), s4)) else (Bd (C_X8_dawn_t s4 (0 : Int32)) fun y1 => Lt (C_X1_hasStorm y1.2 72 x3) fun y2 => if y2 = 0 then (Bd (C_X8_dusk_t y1.2) fun s5 => rec1 (a1 + (1 : Int32)) s5) else (some (a1, y1.2)))) FU (1 : Int32) s3
set_option maxRecDepth 100000 in
set_option maxHeartbeats 4000000 in
theorem k_X6_getting {h : Nat → Nat} {Z : State → Heap → Prop} {sa : Nat → Nat} (hZ : ZK h Z sa) (l : Launch) (D : va_G) (cA cL : ClassId) (s : ST) (x1 : Int32) (x2 : Int32) (x3 : Int32) {o : Int32 × ST} (hs : C_X6_getting s x1 x2 x3 = some o) : MI l (KC D cA cL h Z) 7 yX6_getting cX6_getting 5 (some .int) s [.ref (h 71), .int x1, .int x2, .int x3] o.1 o.2 := by
  refine met_i (by decide) (Nat.le_of_ble_eq_true rfl) ?_
  intro p e st m args below meth c Q X RI
  unfold C_X6_getting at hs
  refine g_aload_n X dX6_getting_0 (q := 1) rfl 0 rfl ?_
  refine cg_6_2 X dX6_getting_1 (q := 4) rfl sh_71 lf_X6_12 ?_
  refine g_aload_n X dX6_getting_4 (q := 5) rfl 0 rfl ?_
  refine cg_6_1 X dX6_getting_5 (q := 8) rfl sh_71 lf_X6_22 ?_
  refine vc_X1_copy_X6 hZ X dX6_getting_8 (q := 11) rfl sh_72 sh_1 (Nat.le_of_ble_eq_true rfl) (Nat.le_of_ble_eq_true rfl) (Nat.le_of_ble_eq_true rfl) hs (fun s1 hs => ?_)
  refine g_aload_n X dX6_getting_11 (q := 12) rfl 0 rfl ?_
  refine cg_6_2 X dX6_getting_12 (q := 15) rfl sh_71 lf_X6_12 ?_
  refine vc_X1_clearSeedsAndStorms_X6 hZ X dX6_getting_15 (q := 18) rfl sh_72 (Nat.le_of_ble_eq_true rfl) (Nat.le_of_ble_eq_true rfl) (Nat.le_of_ble_eq_true rfl) hs (fun s2 hs => ?_)
  refine g_aload_n X dX6_getting_18 (q := 19) rfl 0 rfl ?_
  refine cg_6_2 X dX6_getting_19 (q := 22) rfl sh_71 lf_X6_12 ?_
  refine g_iload_n X dX6_getting_22 (q := 23) rfl 1 rfl ?_
  refine g_iload_n X dX6_getting_23 (q := 24) rfl 2 rfl ?_
  refine vc_X1_laySeed_X6 hZ X dX6_getting_24 (q := 27) rfl sh_72 (Nat.le_of_ble_eq_true rfl) (Nat.le_of_ble_eq_true rfl) (Nat.le_of_ble_eq_true rfl) hs (fun s3 hs => ?_)
  refine g_iconst X dX6_getting_27 (q := 28) rfl li_i1 ?_
  refine g_istore X dX6_getting_28 (q := 30) rfl (Nat.le_of_ble_eq_true rfl) (lv' := [(4, .int (1 : Int32)), (0, .ref (h 71)), (1, .int x1), (2, .int x2), (3, .int x3)]) rfl ?_
  refine wg_sub [1, 4, 0] rfl (lpW2 (fun (a1 : Int32) (s4 : ST) => WG (KC D cA cL h Z) p l e (rmD 7) st m args below meth c Q 5 s4 30 [(0, .ref (h 71)), (3, .int x3), (4, .int a1)] []) (fun rec1 ih1 a1 s4 hs => ?_) _ _ _ hs)
  refine g_iload X dX6_getting_30 (q := 32) rfl 2 rfl ?_
  refine g_bipush X dX6_getting_32 (q := 34) rfl li_b99 ?_
  refine g_icmp_gt X dX6_getting_34 (q := 37) rfl (tgt := 81) (by decide) hs ?_ ?_
  · intro hs
    refine g_iconst X dX6_getting_81 (q := 82) rfl li_im1 ?_
    exact RI _ 82 _ _ _ (rU1 hs) rfl (rV1 hs) dX6_getting_82
  · intro hs
    refine g_aload_n X dX6_getting_37 (q := 38) rfl 0 rfl ?_
    refine cg_6_3 X dX6_getting_38 (q := 41) rfl sh_71 lf_X6_30 ?_
    refine g_aload_n X dX6_getting_41 (q := 42) rfl 0 rfl ?_
    refine cg_6_2 X dX6_getting_42 (q := 45) rfl sh_71 lf_X6_12 ?_
    refine g_iconst X dX6_getting_45 (q := 46) rfl li_i0 ?_
    refine vc_X8_dawn_t_X6 hZ X dX6_getting_46 (q := 49) rfl (Nat.le_of_ble_eq_true rfl) (Nat.le_of_ble_eq_true rfl) (Nat.le_of_ble_eq_true rfl) hs (fun y1 hs => ?_)
    refine g_pop X dX6_getting_49 (q := 50) rfl rfl ?_
    refine g_aload_n X dX6_getting_50 (q := 51) rfl 0 rfl ?_
    refine cg_6_2 X dX6_getting_51 (q := 54) rfl sh_71 lf_X6_12 ?_
    refine g_iload_n X dX6_getting_54 (q := 55) rfl 1 rfl ?_
    refine vc_X1_hasStorm_X6 hZ X dX6_getting_55 (q := 58) rfl sh_72 (Nat.le_of_ble_eq_true rfl) (Nat.le_of_ble_eq_true rfl) (Nat.le_of_ble_eq_true rfl) hs (fun y2 hs => ?_)
    refine g_if_eq X dX6_getting_58 (q := 61) rfl (tgt := 64) (by decide) hs ?_ ?_
    · intro hs
      refine g_aload_n X dX6_getting_64 (q := 65) rfl 0 rfl ?_
      refine cg_6_3 X dX6_getting_65 (q := 68) rfl sh_71 lf_X6_30 ?_
      refine g_aload_n X dX6_getting_68 (q := 69) rfl 0 rfl ?_
      refine cg_6_2 X dX6_getting_69 (q := 72) rfl sh_71 lf_X6_12 ?_
      refine vc_X8_dusk_t_X6 hZ X dX6_getting_72 (q := 75) rfl (Nat.le_of_ble_eq_true rfl) (Nat.le_of_ble_eq_true rfl) (Nat.le_of_ble_eq_true rfl) hs (fun s5 hs => ?_)
      refine g_iinc X dX6_getting_75 (q := 78) rfl 2 rfl (v := (a1 + (1 : Int32))) (congrArg (HAdd.hAdd a1) li_i1) (Nat.le_of_ble_eq_true rfl) (lv' := [(4, .int (a1 + (1 : Int32))), (0, .ref (h 71)), (3, .int x3)]) rfl ?_
      refine g_goto X dX6_getting_78 (tgt := 30) (by decide) ?_
      exact wg_sub [1, 2, 0] rfl (ih1 _ _ hs)
    · intro hs
      refine g_iload X dX6_getting_61 (q := 63) rfl 2 rfl ?_
      exact RI _ 63 _ _ _ (rU1 hs) rfl (rV1 hs) dX6_getting_63
theorem dJ6_bitCount_0f7a4_0 : decode cJ6_bitCount_0f7a4 0 = .ok (.iload_n 0, 1) := by decide +kernel
theorem dJ6_bitCount_0f7a4_1 : decode cJ6_bitCount_0f7a4 1 = .ok (.iload_n 0, 1) := by decide +kernel
theorem dJ6_bitCount_0f7a4_2 : decode cJ6_bitCount_0f7a4 2 = .ok (.iconst 1, 1) := by decide +kernel
theorem dJ6_bitCount_0f7a4_3 : decode cJ6_bitCount_0f7a4 3 = .ok (.iushr, 1) := by decide +kernel
theorem dJ6_bitCount_0f7a4_4 : decode cJ6_bitCount_0f7a4 4 = .ok (.ldc_w 265, 3) := by decide +kernel
theorem dJ6_bitCount_0f7a4_7 : decode cJ6_bitCount_0f7a4 7 = .ok (.iand, 1) := by decide +kernel
theorem dJ6_bitCount_0f7a4_8 : decode cJ6_bitCount_0f7a4 8 = .ok (.isub, 1) := by decide +kernel
theorem dJ6_bitCount_0f7a4_9 : decode cJ6_bitCount_0f7a4 9 = .ok (.istore_n 0, 1) := by decide +kernel
theorem dJ6_bitCount_0f7a4_10 : decode cJ6_bitCount_0f7a4 10 = .ok (.iload_n 0, 1) := by decide +kernel
theorem dJ6_bitCount_0f7a4_11 : decode cJ6_bitCount_0f7a4 11 = .ok (.ldc_w 266, 3) := by decide +kernel
theorem dJ6_bitCount_0f7a4_14 : decode cJ6_bitCount_0f7a4 14 = .ok (.iand, 1) := by decide +kernel
theorem dJ6_bitCount_0f7a4_15 : decode cJ6_bitCount_0f7a4 15 = .ok (.iload_n 0, 1) := by decide +kernel
theorem dJ6_bitCount_0f7a4_16 : decode cJ6_bitCount_0f7a4 16 = .ok (.iconst 2, 1) := by decide +kernel
theorem dJ6_bitCount_0f7a4_17 : decode cJ6_bitCount_0f7a4 17 = .ok (.iushr, 1) := by decide +kernel
theorem dJ6_bitCount_0f7a4_18 : decode cJ6_bitCount_0f7a4 18 = .ok (.ldc_w 266, 3) := by decide +kernel
theorem dJ6_bitCount_0f7a4_21 : decode cJ6_bitCount_0f7a4 21 = .ok (.iand, 1) := by decide +kernel
theorem dJ6_bitCount_0f7a4_22 : decode cJ6_bitCount_0f7a4 22 = .ok (.iadd, 1) := by decide +kernel
theorem dJ6_bitCount_0f7a4_23 : decode cJ6_bitCount_0f7a4 23 = .ok (.istore_n 0, 1) := by decide +kernel
theorem dJ6_bitCount_0f7a4_24 : decode cJ6_bitCount_0f7a4 24 = .ok (.iload_n 0, 1) := by decide +kernel
theorem dJ6_bitCount_0f7a4_25 : decode cJ6_bitCount_0f7a4 25 = .ok (.iload_n 0, 1) := by decide +kernel
theorem dJ6_bitCount_0f7a4_26 : decode cJ6_bitCount_0f7a4 26 = .ok (.iconst 4, 1) := by decide +kernel
theorem dJ6_bitCount_0f7a4_27 : decode cJ6_bitCount_0f7a4 27 = .ok (.iushr, 1) := by decide +kernel
theorem dJ6_bitCount_0f7a4_28 : decode cJ6_bitCount_0f7a4 28 = .ok (.iadd, 1) := by decide +kernel
theorem dJ6_bitCount_0f7a4_29 : decode cJ6_bitCount_0f7a4 29 = .ok (.ldc_w 267, 3) := by decide +kernel
theorem dJ6_bitCount_0f7a4_32 : decode cJ6_bitCount_0f7a4 32 = .ok (.iand, 1) := by decide +kernel
theorem dJ6_bitCount_0f7a4_33 : decode cJ6_bitCount_0f7a4 33 = .ok (.istore_n 0, 1) := by decide +kernel
theorem dJ6_bitCount_0f7a4_34 : decode cJ6_bitCount_0f7a4 34 = .ok (.iload_n 0, 1) := by decide +kernel
theorem dJ6_bitCount_0f7a4_35 : decode cJ6_bitCount_0f7a4 35 = .ok (.iload_n 0, 1) := by decide +kernel
theorem dJ6_bitCount_0f7a4_36 : decode cJ6_bitCount_0f7a4 36 = .ok (.bipush 8, 2) := by decide +kernel
theorem dJ6_bitCount_0f7a4_38 : decode cJ6_bitCount_0f7a4 38 = .ok (.iushr, 1) := by decide +kernel
theorem dJ6_bitCount_0f7a4_39 : decode cJ6_bitCount_0f7a4 39 = .ok (.iadd, 1) := by decide +kernel
theorem dJ6_bitCount_0f7a4_40 : decode cJ6_bitCount_0f7a4 40 = .ok (.istore_n 0, 1) := by decide +kernel
theorem dJ6_bitCount_0f7a4_41 : decode cJ6_bitCount_0f7a4 41 = .ok (.iload_n 0, 1) := by decide +kernel
theorem dJ6_bitCount_0f7a4_42 : decode cJ6_bitCount_0f7a4 42 = .ok (.iload_n 0, 1) := by decide +kernel
theorem dJ6_bitCount_0f7a4_43 : decode cJ6_bitCount_0f7a4 43 = .ok (.bipush 16, 2) := by decide +kernel
theorem dJ6_bitCount_0f7a4_45 : decode cJ6_bitCount_0f7a4 45 = .ok (.iushr, 1) := by decide +kernel
theorem dJ6_bitCount_0f7a4_46 : decode cJ6_bitCount_0f7a4 46 = .ok (.iadd, 1) := by decide +kernel
theorem dJ6_bitCount_0f7a4_47 : decode cJ6_bitCount_0f7a4 47 = .ok (.istore_n 0, 1) := by decide +kernel
theorem dJ6_bitCount_0f7a4_48 : decode cJ6_bitCount_0f7a4 48 = .ok (.iload_n 0, 1) := by decide +kernel
theorem dJ6_bitCount_0f7a4_49 : decode cJ6_bitCount_0f7a4 49 = .ok (.bipush 63, 2) := by decide +kernel
theorem dJ6_bitCount_0f7a4_51 : decode cJ6_bitCount_0f7a4 51 = .ok (.iand, 1) := by decide +kernel
theorem dJ6_bitCount_0f7a4_52 : decode cJ6_bitCount_0f7a4 52 = .ok (.ireturn, 1) := by decide +kernel
def C_J6_bitCount_0f7a4 (s : ST) (x1 : Int32) : Int32 := Lt ((x1 - ((iush x1 (1 : Int32)) &&& (1431655765 : Int32)))) fun y1 => Lt (((y1 &&& (858993459 : Int32)) + ((iush y1 (2 : Int32)) &&& (858993459 : Int32)))) fun y2 => Lt (((y2 + (iush y2 (4 : Int32))) &&& (252645135 : Int32))) fun y3 => Lt ((y3 + (iush y3 (8 : Int32)))) fun y4 => Lt ((y4 + (iush y4 (16 : Int32)))) fun y5 => (y5 &&& (63 : Int32))
set_option maxRecDepth 100000 in
set_option maxHeartbeats 4000000 in
theorem k_J6_bitCount_0f7a4 {h : Nat → Nat} {Z : State → Heap → Prop} {sa : Nat → Nat} (hZ : ZK h Z sa) (l : Launch) (D : va_G) (cA cL : ClassId) (s : ST) (x1 : Int32) : MI l (KC D cA cL h Z) 1 yJ6_bitCount_0f7a4 cJ6_bitCount_0f7a4 1 (some .int) s [.int x1] (C_J6_bitCount_0f7a4 s x1) s := by
  refine met_i (by decide) (Nat.le_of_ble_eq_true rfl) ?_
  intro p e st m args below meth c Q X RI
  generalize hs : C_J6_bitCount_0f7a4 s x1 = o at RI
  unfold C_J6_bitCount_0f7a4 at hs
  refine g_iload_n X dJ6_bitCount_0f7a4_0 (q := 1) rfl 0 rfl ?_
  refine g_iload_n X dJ6_bitCount_0f7a4_1 (q := 2) rfl 0 rfl ?_
  refine g_iconst X dJ6_bitCount_0f7a4_2 (q := 3) rfl li_i1 ?_
  refine g_iushr X dJ6_bitCount_0f7a4_3 (q := 4) rfl ?_
  refine g_ldc_w X dJ6_bitCount_0f7a4_4 (q := 7) rfl kc_J6_265 ?_
  refine g_iand X dJ6_bitCount_0f7a4_7 (q := 8) rfl ?_
  refine g_isub X dJ6_bitCount_0f7a4_8 (q := 9) rfl ?_
  refine nmI hs (fun y1 hs => ?_)
  refine g_istore_n X dJ6_bitCount_0f7a4_9 (q := 10) rfl (Nat.le_of_ble_eq_true rfl) (lv' := [(0, .int y1)]) rfl ?_
  refine g_iload_n X dJ6_bitCount_0f7a4_10 (q := 11) rfl 0 rfl ?_
  refine g_ldc_w X dJ6_bitCount_0f7a4_11 (q := 14) rfl kc_J6_266 ?_
  refine g_iand X dJ6_bitCount_0f7a4_14 (q := 15) rfl ?_
  refine g_iload_n X dJ6_bitCount_0f7a4_15 (q := 16) rfl 0 rfl ?_
  refine g_iconst X dJ6_bitCount_0f7a4_16 (q := 17) rfl li_i2 ?_
  refine g_iushr X dJ6_bitCount_0f7a4_17 (q := 18) rfl ?_
  refine g_ldc_w X dJ6_bitCount_0f7a4_18 (q := 21) rfl kc_J6_266 ?_
  refine g_iand X dJ6_bitCount_0f7a4_21 (q := 22) rfl ?_
  refine g_iadd X dJ6_bitCount_0f7a4_22 (q := 23) rfl ?_
  refine nmI hs (fun y2 hs => ?_)
  refine g_istore_n X dJ6_bitCount_0f7a4_23 (q := 24) rfl (Nat.le_of_ble_eq_true rfl) (lv' := [(0, .int y2)]) rfl ?_
  refine g_iload_n X dJ6_bitCount_0f7a4_24 (q := 25) rfl 0 rfl ?_
  refine g_iload_n X dJ6_bitCount_0f7a4_25 (q := 26) rfl 0 rfl ?_
  refine g_iconst X dJ6_bitCount_0f7a4_26 (q := 27) rfl li_i4 ?_
  refine g_iushr X dJ6_bitCount_0f7a4_27 (q := 28) rfl ?_
  refine g_iadd X dJ6_bitCount_0f7a4_28 (q := 29) rfl ?_
  refine g_ldc_w X dJ6_bitCount_0f7a4_29 (q := 32) rfl kc_J6_267 ?_
  refine g_iand X dJ6_bitCount_0f7a4_32 (q := 33) rfl ?_
  refine nmI hs (fun y3 hs => ?_)
  refine g_istore_n X dJ6_bitCount_0f7a4_33 (q := 34) rfl (Nat.le_of_ble_eq_true rfl) (lv' := [(0, .int y3)]) rfl ?_
  refine g_iload_n X dJ6_bitCount_0f7a4_34 (q := 35) rfl 0 rfl ?_
  refine g_iload_n X dJ6_bitCount_0f7a4_35 (q := 36) rfl 0 rfl ?_
  refine g_bipush X dJ6_bitCount_0f7a4_36 (q := 38) rfl li_b8 ?_
  refine g_iushr X dJ6_bitCount_0f7a4_38 (q := 39) rfl ?_
  refine g_iadd X dJ6_bitCount_0f7a4_39 (q := 40) rfl ?_
  refine nmI hs (fun y4 hs => ?_)
  refine g_istore_n X dJ6_bitCount_0f7a4_40 (q := 41) rfl (Nat.le_of_ble_eq_true rfl) (lv' := [(0, .int y4)]) rfl ?_
  refine g_iload_n X dJ6_bitCount_0f7a4_41 (q := 42) rfl 0 rfl ?_
  refine g_iload_n X dJ6_bitCount_0f7a4_42 (q := 43) rfl 0 rfl ?_
  refine g_bipush X dJ6_bitCount_0f7a4_43 (q := 45) rfl li_b16 ?_
  refine g_iushr X dJ6_bitCount_0f7a4_45 (q := 46) rfl ?_
  refine g_iadd X dJ6_bitCount_0f7a4_46 (q := 47) rfl ?_
  refine nmI hs (fun y5 hs => ?_)
  refine g_istore_n X dJ6_bitCount_0f7a4_47 (q := 48) rfl (Nat.le_of_ble_eq_true rfl) (lv' := [(0, .int y5)]) rfl ?_
  refine g_iload_n X dJ6_bitCount_0f7a4_48 (q := 49) rfl 0 rfl ?_
  refine g_bipush X dJ6_bitCount_0f7a4_49 (q := 51) rfl li_b63 ?_
  refine g_iand X dJ6_bitCount_0f7a4_51 (q := 52) rfl ?_
  exact RI _ 52 _ _ _ rfl rfl hs dJ6_bitCount_0f7a4_52
theorem dX6_chosenSeeds_0 : decode cX6_chosenSeeds 0 = .ok (.lconst 0, 1) := by decide +kernel
theorem dX6_chosenSeeds_1 : decode cX6_chosenSeeds 1 = .ok (.lstore_n 2, 1) := by decide +kernel
theorem dX6_chosenSeeds_2 : decode cX6_chosenSeeds 2 = .ok (.iconst 0, 1) := by decide +kernel
theorem dX6_chosenSeeds_3 : decode cX6_chosenSeeds 3 = .ok (.istore 4, 2) := by decide +kernel
theorem dX6_chosenSeeds_5 : decode cX6_chosenSeeds 5 = .ok (.iconst 0, 1) := by decide +kernel
theorem dX6_chosenSeeds_6 : decode cX6_chosenSeeds 6 = .ok (.istore 5, 2) := by decide +kernel
theorem dX6_chosenSeeds_8 : decode cX6_chosenSeeds 8 = .ok (.iload 5, 2) := by decide +kernel
theorem dX6_chosenSeeds_10 : decode cX6_chosenSeeds 10 = .ok (.bipush 64, 2) := by decide +kernel
theorem dX6_chosenSeeds_12 : decode cX6_chosenSeeds 12 = .ok (.if_icmp .ge 41, 3) := by decide +kernel
theorem dX6_chosenSeeds_15 : decode cX6_chosenSeeds 15 = .ok (.aload_n 0, 1) := by decide +kernel
theorem dX6_chosenSeeds_16 : decode cX6_chosenSeeds 16 = .ok (.getfield 22, 3) := by decide +kernel
theorem dX6_chosenSeeds_19 : decode cX6_chosenSeeds 19 = .ok (.iload 5, 2) := by decide +kernel
theorem dX6_chosenSeeds_21 : decode cX6_chosenSeeds 21 = .ok (.invokevirtual 131, 3) := by decide +kernel
theorem dX6_chosenSeeds_24 : decode cX6_chosenSeeds 24 = .ok (.ifCond .eq 23, 3) := by decide +kernel
theorem dX6_chosenSeeds_27 : decode cX6_chosenSeeds 27 = .ok (.iload_n 1, 1) := by decide +kernel
theorem dX6_chosenSeeds_28 : decode cX6_chosenSeeds 28 = .ok (.i2l, 1) := by decide +kernel
theorem dX6_chosenSeeds_29 : decode cX6_chosenSeeds 29 = .ok (.iload 4, 2) := by decide +kernel
theorem dX6_chosenSeeds_31 : decode cX6_chosenSeeds 31 = .ok (.invokestatic 134, 3) := by decide +kernel
theorem dX6_chosenSeeds_34 : decode cX6_chosenSeeds 34 = .ok (.ifCond .eq 10, 3) := by decide +kernel
theorem dX6_chosenSeeds_37 : decode cX6_chosenSeeds 37 = .ok (.lload_n 2, 1) := by decide +kernel
theorem dX6_chosenSeeds_38 : decode cX6_chosenSeeds 38 = .ok (.lconst 1, 1) := by decide +kernel
theorem dX6_chosenSeeds_39 : decode cX6_chosenSeeds 39 = .ok (.iload 5, 2) := by decide +kernel
theorem dX6_chosenSeeds_41 : decode cX6_chosenSeeds 41 = .ok (.lshl, 1) := by decide +kernel
theorem dX6_chosenSeeds_42 : decode cX6_chosenSeeds 42 = .ok (.lor, 1) := by decide +kernel
theorem dX6_chosenSeeds_43 : decode cX6_chosenSeeds 43 = .ok (.lstore_n 2, 1) := by decide +kernel
theorem dX6_chosenSeeds_44 : decode cX6_chosenSeeds 44 = .ok (.iinc 4 1, 3) := by decide +kernel
theorem dX6_chosenSeeds_47 : decode cX6_chosenSeeds 47 = .ok (.iinc 5 1, 3) := by decide +kernel
theorem dX6_chosenSeeds_50 : decode cX6_chosenSeeds 50 = .ok (.goto (-42), 3) := by decide +kernel
theorem dX6_chosenSeeds_53 : decode cX6_chosenSeeds 53 = .ok (.lload_n 2, 1) := by decide +kernel
theorem dX6_chosenSeeds_54 : decode cX6_chosenSeeds 54 = .ok (.lreturn, 1) := by decide +kernel
theorem wX1_hasSeed_X6 : Cond.methodLinkNest RX6 131 yX1_hasSeed "StormSeeds" ∈ NW := nw_of 1189 (by decide +kernel) rfl
theorem vc_X1_hasSeed_X6 {p : Program} {l : Launch} {e : Env} {st : State} {m : MethodId} {args : Array Value} {below : List Frame} {meth : Method} {c : Code} {Q : State → Prop} {nL : Nat} {cc : ByteArray} {s : ST} {pc q : Nat} {lv : List (Nat × Value)} {rest : List Value} {D : va_G} {cA cL : ClassId} {h : Nat → Nat} {Z : State → Heap → Prop} {sa : Nat → Nat} (hZ : ZK h Z sa) {d0 : Nat} (X : Cx (KC D cA cL h Z) p st m args meth c cc nL RX6) {b0 : Nat} {x1 : Int32} (d : decode cc pc = .ok (.invokevirtual 131, 3)) (hq : pc + 3 = q) (hb0 : isK 1 b0) (hd1 : 2 + 1 ≤ d0) (hd2 : 8 + (2 + 11) + 100 * 2 ≤ 100 * d0) (hr : (rest.map fun v => v.category).sum ≤ 8) {B : Type} {f : Int32 → B} {r : B} (hs : Lt (C_X1_hasSeed s b0 x1) f = r) (k : ∀ y, f y = r → WG (KC D cA cL h Z) p l e (rmD d0) st m args below meth c Q nL s q lv (.int y :: rest)) : WG (KC D cA cL h Z) p l e (rmD d0) st m args below meth c Q nL s pc lv (.int x1 :: .ref (h b0) :: rest) := by
  exact cVN_I (K := KC D cA cL h Z) X b0 (n := 1) (k_X1_hasSeed hZ l D cA cL s b0 x1 hb0) (gt_c (gt_of 631 (by decide +kernel) rfl) gt_t) (hZ.1 st st.heap X.2.2.2 _ wX1_hasSeed_X6) (gt_of 197 (by decide +kernel) rfl) (gt_of 630 (by decide +kernel) rfl) (gt_of 10 (by decide +kernel) rfl) ⟨hd1, hd2⟩ ⟨by decide, by decide, by decide +kernel⟩ (As := [.int x1]) rfl hr (hb0).1 (fs := cF1 h b0 (s.1 b0) (s.2 b0)) (GC_1 (cA := cA) (cL := cL) hb0 _ _) rfl rfl d hq (k _ hs)
theorem wX9_isIn_X6 : Cond.methodLinkNest RX6 134 yX9_isIn "StormSeeds" ∈ NW := nw_of 1190 (by decide +kernel) rfl
theorem vc_X9_isIn_X6 {p : Program} {l : Launch} {e : Env} {st : State} {m : MethodId} {args : Array Value} {below : List Frame} {meth : Method} {c : Code} {Q : State → Prop} {nL : Nat} {cc : ByteArray} {s : ST} {pc q : Nat} {lv : List (Nat × Value)} {rest : List Value} {D : va_G} {cA cL : ClassId} {h : Nat → Nat} {Z : State → Heap → Prop} {sa : Nat → Nat} (hZ : ZK h Z sa) {d0 : Nat} (X : Cx (KC D cA cL h Z) p st m args meth c cc nL RX6) {x1 : Int64} {x2 : Int32} (d : decode cc pc = .ok (.invokestatic 134, 3)) (hq : pc + 3 = q) (hd1 : 1 + 1 ≤ d0) (hd2 : 8 + (3 + 11) + 100 * 1 ≤ 100 * d0) (hr : (rest.map fun v => v.category).sum ≤ 8) {B : Type} {f : Int32 → B} {r : B} (hs : Lt (C_X9_isIn s x1 x2) f = r) (k : ∀ y, f y = r → WG (KC D cA cL h Z) p l e (rmD d0) st m args below meth c Q nL s q lv (.int y :: rest)) : WG (KC D cA cL h Z) p l e (rmD d0) st m args below meth c Q nL s pc lv (.int x2 :: .long x1 :: rest) := by
  exact cSN_I (K := KC D cA cL h Z) X (n := 2) (k_X9_isIn hZ l D cA cL s x1 x2) (gt_c (gt_of 634 (by decide +kernel) rfl) gt_t) (hZ.1 st st.heap X.2.2.2 _ wX9_isIn_X6) (gt_of 196 (by decide +kernel) rfl) (gt_of 633 (by decide +kernel) rfl) ⟨hd1, hd2⟩ ⟨by decide, by decide, by decide +kernel⟩ (As := [.long x1, .int x2]) rfl hr rfl d hq (k _ hs)
def C_X6_chosenSeeds (s : ST) (x1 : Int32) : Option (Int64) := lpK3 (C := Int64) (fun (rec1 : Int64 → Int32 → Int32 → Option (Int64)) (a1 : Int64) (a2 : Int32) (a3 : Int32) => if (64 : Int32) ≤ a3 then (some a1) else (Lt (C_X1_hasSeed s 1 a3) fun y1 => Lt (fun (a4 : Int64) (a5 : Int32) => (rec1 a4 a5 (a3 + (1 : Int32)) : Option (Int64))) fun j1 => if y1 = 0 then (j1 a1 a2) else (Lt (C_X9_isIn s x1.toInt64 a2) fun y2 => Lt (fun (a6 : Int64) => (j1 a6 (a2 + (1 : Int32)) : Option (Int64))) fun j2 => if y2 = 0 then (j2 a1) else (Lt ((a1 ||| ((1 : Int64) <<< (a3.toInt64 &&& 63)))) fun y3 => j2 y3)))) FU (0 : Int64) (0 : Int32) (0 : Int32)
set_option maxRecDepth 100000 in
set_option maxHeartbeats 4000000 in
theorem k_X6_chosenSeeds {h : Nat → Nat} {Z : State → Heap → Prop} {sa : Nat → Nat} (hZ : ZK h Z sa) (l : Launch) (D : va_G) (cA cL : ClassId) (s : ST) (x1 : Int32) {o : Int64} (hs : C_X6_chosenSeeds s x1 = some o) : ML l (KC D cA cL h Z) 3 yX6_chosenSeeds cX6_chosenSeeds 6 (some .long) s [.ref (h 71), .int x1] o s := by
  refine met_l (by decide) (Nat.le_of_ble_eq_true rfl) ?_
  intro p e st m args below meth c Q X RI
  unfold C_X6_chosenSeeds at hs
  refine g_lconst X dX6_chosenSeeds_0 (q := 1) rfl li_l0 ?_
  refine g_lstore_n X dX6_chosenSeeds_1 (q := 2) rfl (Nat.le_of_ble_eq_true rfl) (lv' := [(2, .long (0 : Int64)), (0, .ref (h 71)), (1, .int x1)]) rfl ?_
  refine g_iconst X dX6_chosenSeeds_2 (q := 3) rfl li_i0 ?_
  refine g_istore X dX6_chosenSeeds_3 (q := 5) rfl (Nat.le_of_ble_eq_true rfl) (lv' := [(4, .int (0 : Int32)), (2, .long (0 : Int64)), (0, .ref (h 71)), (1, .int x1)]) rfl ?_
  refine g_iconst X dX6_chosenSeeds_5 (q := 6) rfl li_i0 ?_
  refine g_istore X dX6_chosenSeeds_6 (q := 8) rfl (Nat.le_of_ble_eq_true rfl) (lv' := [(5, .int (0 : Int32)), (4, .int (0 : Int32)), (2, .long (0 : Int64)), (0, .ref (h 71)), (1, .int x1)]) rfl ?_
  refine wg_sub [3, 4, 2, 1, 0] rfl (lpW3 (fun (a1 : Int64) (a2 : Int32) (a3 : Int32) => WG (KC D cA cL h Z) p l e (rmD 3) st m args below meth c Q 6 s 8 [(0, .ref (h 71)), (1, .int x1), (2, .long a1), (4, .int a2), (5, .int a3)] []) (fun rec1 ih1 a1 a2 a3 hs => ?_) _ _ _ _ hs)
  refine g_iload X dX6_chosenSeeds_8 (q := 10) rfl 4 rfl ?_
  refine g_bipush X dX6_chosenSeeds_10 (q := 12) rfl li_b64 ?_
  refine g_icmp_ge X dX6_chosenSeeds_12 (q := 15) rfl (tgt := 53) (by decide) hs ?_ ?_
  · intro hs
    refine g_lload_n X dX6_chosenSeeds_53 (q := 54) rfl 2 rfl ?_
    exact RI _ 54 _ _ rfl (Option.some.inj hs) dX6_chosenSeeds_54
  · intro hs
    refine g_aload_n X dX6_chosenSeeds_15 (q := 16) rfl 0 rfl ?_
    refine cg_6_1 X dX6_chosenSeeds_16 (q := 19) rfl sh_71 lf_X6_22 ?_
    refine g_iload X dX6_chosenSeeds_19 (q := 21) rfl 4 rfl ?_
    refine vc_X1_hasSeed_X6 hZ X dX6_chosenSeeds_21 (q := 24) rfl sh_1 (Nat.le_of_ble_eq_true rfl) (Nat.le_of_ble_eq_true rfl) (Nat.le_of_ble_eq_true rfl) hs (fun y1 hs => ?_)
    refine jnW2 (fun (a4 : Int64) (a5 : Int32) => WG (KC D cA cL h Z) p l e (rmD 3) st m args below meth c Q 6 s 47 [(0, .ref (h 71)), (1, .int x1), (2, .long a4), (4, .int a5), (5, .int a3)] []) hs (fun a4 a5 hs => ?_) (fun j1 ih2 hs => ?_)
    · refine g_iinc X dX6_chosenSeeds_47 (q := 50) rfl 4 rfl (v := (a3 + (1 : Int32))) (congrArg (HAdd.hAdd a3) li_i1) (Nat.le_of_ble_eq_true rfl) (lv' := [(5, .int (a3 + (1 : Int32))), (0, .ref (h 71)), (1, .int x1), (2, .long a4), (4, .int a5)]) rfl ?_
      refine g_goto X dX6_chosenSeeds_50 (tgt := 8) (by decide) ?_
      exact wg_sub [1, 2, 3, 4, 0] rfl (ih1 _ _ _ hs)
    refine g_if_eq X dX6_chosenSeeds_24 (q := 27) rfl (tgt := 47) (by decide) hs ?_ ?_
    · intro hs
      exact wg_sub [0, 1, 2, 3, 4] rfl (ih2 _ _ hs)
    · intro hs
      refine g_iload_n X dX6_chosenSeeds_27 (q := 28) rfl 1 rfl ?_
      refine g_i2l X dX6_chosenSeeds_28 (q := 29) rfl ?_
      refine g_iload X dX6_chosenSeeds_29 (q := 31) rfl 3 rfl ?_
      refine vc_X9_isIn_X6 hZ X dX6_chosenSeeds_31 (q := 34) rfl (Nat.le_of_ble_eq_true rfl) (Nat.le_of_ble_eq_true rfl) (Nat.le_of_ble_eq_true rfl) hs (fun y2 hs => ?_)
      refine jnW1 (fun (a6 : Int64) => WG (KC D cA cL h Z) p l e (rmD 3) st m args below meth c Q 6 s 44 [(0, .ref (h 71)), (1, .int x1), (2, .long a6), (4, .int a2), (5, .int a3)] []) hs (fun a6 hs => ?_) (fun j2 ih3 hs => ?_)
      · refine g_iinc X dX6_chosenSeeds_44 (q := 47) rfl 3 rfl (v := (a2 + (1 : Int32))) (congrArg (HAdd.hAdd a2) li_i1) (Nat.le_of_ble_eq_true rfl) (lv' := [(4, .int (a2 + (1 : Int32))), (0, .ref (h 71)), (1, .int x1), (2, .long a6), (5, .int a3)]) rfl ?_
        exact wg_sub [1, 2, 3, 0, 4] rfl (ih2 _ _ hs)
      refine g_if_eq X dX6_chosenSeeds_34 (q := 37) rfl (tgt := 44) (by decide) hs ?_ ?_
      · intro hs
        exact wg_sub [0, 1, 2, 3, 4] rfl (ih3 _ hs)
      · intro hs
        refine g_lload_n X dX6_chosenSeeds_37 (q := 38) rfl 2 rfl ?_
        refine g_lconst X dX6_chosenSeeds_38 (q := 39) rfl li_l1 ?_
        refine g_iload X dX6_chosenSeeds_39 (q := 41) rfl 4 rfl ?_
        refine g_lshl X dX6_chosenSeeds_41 (q := 42) rfl ?_
        refine g_lor X dX6_chosenSeeds_42 (q := 43) rfl ?_
        refine nmL hs (fun y3 hs => ?_)
        refine g_lstore_n X dX6_chosenSeeds_43 (q := 44) rfl (Nat.le_of_ble_eq_true rfl) (lv' := [(2, .long y3), (0, .ref (h 71)), (1, .int x1), (4, .int a2), (5, .int a3)]) rfl ?_
        exact wg_sub [1, 2, 0, 3, 4] rfl (ih3 _ hs)
theorem dX6_staysCalm_0 : decode cX6_staysCalm 0 = .ok (.aload_n 0, 1) := by decide +kernel
theorem dX6_staysCalm_1 : decode cX6_staysCalm 1 = .ok (.getfield 12, 3) := by decide +kernel
theorem dX6_staysCalm_4 : decode cX6_staysCalm 4 = .ok (.aload_n 0, 1) := by decide +kernel
theorem dX6_staysCalm_5 : decode cX6_staysCalm 5 = .ok (.getfield 22, 3) := by decide +kernel
theorem dX6_staysCalm_8 : decode cX6_staysCalm 8 = .ok (.invokevirtual 34, 3) := by decide +kernel
theorem dX6_staysCalm_11 : decode cX6_staysCalm 11 = .ok (.aload_n 0, 1) := by decide +kernel
theorem dX6_staysCalm_12 : decode cX6_staysCalm 12 = .ok (.getfield 12, 3) := by decide +kernel
theorem dX6_staysCalm_15 : decode cX6_staysCalm 15 = .ok (.dup, 1) := by decide +kernel
theorem dX6_staysCalm_16 : decode cX6_staysCalm 16 = .ok (.getfield 103, 3) := by decide +kernel
theorem dX6_staysCalm_19 : decode cX6_staysCalm 19 = .ok (.lload_n 1, 1) := by decide +kernel
theorem dX6_staysCalm_20 : decode cX6_staysCalm 20 = .ok (.ldc2_w 129, 3) := by decide +kernel
theorem dX6_staysCalm_23 : decode cX6_staysCalm 23 = .ok (.lxor, 1) := by decide +kernel
theorem dX6_staysCalm_24 : decode cX6_staysCalm 24 = .ok (.land, 1) := by decide +kernel
theorem dX6_staysCalm_25 : decode cX6_staysCalm 25 = .ok (.putfield 103, 3) := by decide +kernel
theorem dX6_staysCalm_28 : decode cX6_staysCalm 28 = .ok (.iconst 0, 1) := by decide +kernel
theorem dX6_staysCalm_29 : decode cX6_staysCalm 29 = .ok (.istore 6, 2) := by decide +kernel
theorem dX6_staysCalm_31 : decode cX6_staysCalm 31 = .ok (.iload 6, 2) := by decide +kernel
theorem dX6_staysCalm_33 : decode cX6_staysCalm 33 = .ok (.iload 5, 2) := by decide +kernel
theorem dX6_staysCalm_35 : decode cX6_staysCalm 35 = .ok (.if_icmp .ge 49, 3) := by decide +kernel
theorem dX6_staysCalm_38 : decode cX6_staysCalm 38 = .ok (.aload_n 0, 1) := by decide +kernel
theorem dX6_staysCalm_39 : decode cX6_staysCalm 39 = .ok (.getfield 30, 3) := by decide +kernel
theorem dX6_staysCalm_42 : decode cX6_staysCalm 42 = .ok (.aload_n 0, 1) := by decide +kernel
theorem dX6_staysCalm_43 : decode cX6_staysCalm 43 = .ok (.getfield 12, 3) := by decide +kernel
theorem dX6_staysCalm_46 : decode cX6_staysCalm 46 = .ok (.iconst 1, 1) := by decide +kernel
theorem dX6_staysCalm_47 : decode cX6_staysCalm 47 = .ok (.invokevirtual 42, 3) := by decide +kernel
theorem dX6_staysCalm_50 : decode cX6_staysCalm 50 = .ok (.pop, 1) := by decide +kernel
theorem dX6_staysCalm_51 : decode cX6_staysCalm 51 = .ok (.aload_n 0, 1) := by decide +kernel
theorem dX6_staysCalm_52 : decode cX6_staysCalm 52 = .ok (.getfield 12, 3) := by decide +kernel
theorem dX6_staysCalm_55 : decode cX6_staysCalm 55 = .ok (.getfield 138, 3) := by decide +kernel
theorem dX6_staysCalm_58 : decode cX6_staysCalm 58 = .ok (.lload_n 3, 1) := by decide +kernel
theorem dX6_staysCalm_59 : decode cX6_staysCalm 59 = .ok (.land, 1) := by decide +kernel
theorem dX6_staysCalm_60 : decode cX6_staysCalm 60 = .ok (.lconst 0, 1) := by decide +kernel
theorem dX6_staysCalm_61 : decode cX6_staysCalm 61 = .ok (.lcmp, 1) := by decide +kernel
theorem dX6_staysCalm_62 : decode cX6_staysCalm 62 = .ok (.ifCond .eq 5, 3) := by decide +kernel
theorem dX6_staysCalm_65 : decode cX6_staysCalm 65 = .ok (.iconst 0, 1) := by decide +kernel
theorem dX6_staysCalm_66 : decode cX6_staysCalm 66 = .ok (.ireturn, 1) := by decide +kernel
theorem dX6_staysCalm_67 : decode cX6_staysCalm 67 = .ok (.aload_n 0, 1) := by decide +kernel
theorem dX6_staysCalm_68 : decode cX6_staysCalm 68 = .ok (.getfield 30, 3) := by decide +kernel
theorem dX6_staysCalm_71 : decode cX6_staysCalm 71 = .ok (.aload_n 0, 1) := by decide +kernel
theorem dX6_staysCalm_72 : decode cX6_staysCalm 72 = .ok (.getfield 12, 3) := by decide +kernel
theorem dX6_staysCalm_75 : decode cX6_staysCalm 75 = .ok (.invokevirtual 46, 3) := by decide +kernel
theorem dX6_staysCalm_78 : decode cX6_staysCalm 78 = .ok (.iinc 6 1, 3) := by decide +kernel
theorem dX6_staysCalm_81 : decode cX6_staysCalm 81 = .ok (.goto (-50), 3) := by decide +kernel
theorem dX6_staysCalm_84 : decode cX6_staysCalm 84 = .ok (.iconst 1, 1) := by decide +kernel
theorem dX6_staysCalm_85 : decode cX6_staysCalm 85 = .ok (.ireturn, 1) := by decide +kernel
def C_X6_staysCalm (s : ST) (x1 : Int64) (x2 : Int64) (x3 : Int32) : Option (Int32 × ST) := Bd (C_X1_copy s 72 1) fun s1 => Lt (upl s1 72 8 ((s1.2 72 8) &&& (x1 ^^^ (-1 : Int64)))) fun s2 => lpK2 (C := Int32 × ST) (fun (rec1 : Int32 → ST → Option (Int32 × ST)) (a1 : Int32) (s3 : ST) => if x3 ≤ a1 then (some ((1 : Int32), s3)) else (Bd (C_X8_dawn_t s3 (1 : Int32)) fun y1 => if (lg_cmp ((y1.2.2 72 9) &&& x2) (0 : Int64)) = 0 then (Bd (C_X8_dusk_t y1.2) fun s4 => rec1 (a1 + (1 : Int32)) s4) else (some ((0 : Int32), y1.2)))) FU (0 : Int32) s2
set_option maxRecDepth 100000 in
set_option maxHeartbeats 4000000 in
theorem k_X6_staysCalm {h : Nat → Nat} {Z : State → Heap → Prop} {sa : Nat → Nat} (hZ : ZK h Z sa) (l : Launch) (D : va_G) (cA cL : ClassId) (s : ST) (x1 : Int64) (x2 : Int64) (x3 : Int32) {o : Int32 × ST} (hs : C_X6_staysCalm s x1 x2 x3 = some o) : MI l (KC D cA cL h Z) 7 yX6_staysCalm cX6_staysCalm 7 (some .boolean) s [.ref (h 71), .long x1, .long x2, .int x3] o.1 o.2 := by
  refine met_i (by decide) (Nat.le_of_ble_eq_true rfl) ?_
  intro p e st m args below meth c Q X RI
  unfold C_X6_staysCalm at hs
  refine g_aload_n X dX6_staysCalm_0 (q := 1) rfl 0 rfl ?_
  refine cg_6_2 X dX6_staysCalm_1 (q := 4) rfl sh_71 lf_X6_12 ?_
  refine g_aload_n X dX6_staysCalm_4 (q := 5) rfl 0 rfl ?_
  refine cg_6_1 X dX6_staysCalm_5 (q := 8) rfl sh_71 lf_X6_22 ?_
  refine vc_X1_copy_X6 hZ X dX6_staysCalm_8 (q := 11) rfl sh_72 sh_1 (Nat.le_of_ble_eq_true rfl) (Nat.le_of_ble_eq_true rfl) (Nat.le_of_ble_eq_true rfl) hs (fun s1 hs => ?_)
  refine g_aload_n X dX6_staysCalm_11 (q := 12) rfl 0 rfl ?_
  refine cg_6_2 X dX6_staysCalm_12 (q := 15) rfl sh_71 lf_X6_12 ?_
  refine g_dup X dX6_staysCalm_15 (q := 16) rfl rfl ?_
  refine cgN_1_8 hZ X dX6_staysCalm_16 (q := 19) rfl sh_72 lf_X6_103 ?_
  refine g_lload_n X dX6_staysCalm_19 (q := 20) rfl 1 rfl ?_
  refine g_ldc2_w X dX6_staysCalm_20 (q := 23) rfl kc_X6_129 ?_
  refine g_lxor X dX6_staysCalm_23 (q := 24) rfl ?_
  refine g_land X dX6_staysCalm_24 (q := 25) rfl ?_
  refine cpN_1_8 hZ X dX6_staysCalm_25 (q := 28) rfl sh_72 lf_X6_103 hs (fun s2 hs => ?_)
  refine g_iconst X dX6_staysCalm_28 (q := 29) rfl li_i0 ?_
  refine g_istore X dX6_staysCalm_29 (q := 31) rfl (Nat.le_of_ble_eq_true rfl) (lv' := [(6, .int (0 : Int32)), (0, .ref (h 71)), (1, .long x1), (3, .long x2), (5, .int x3)]) rfl ?_
  refine wg_sub [1, 3, 4, 0] rfl (lpW2 (fun (a1 : Int32) (s3 : ST) => WG (KC D cA cL h Z) p l e (rmD 7) st m args below meth c Q 7 s3 31 [(0, .ref (h 71)), (3, .long x2), (5, .int x3), (6, .int a1)] []) (fun rec1 ih1 a1 s3 hs => ?_) _ _ _ hs)
  refine g_iload X dX6_staysCalm_31 (q := 33) rfl 3 rfl ?_
  refine g_iload X dX6_staysCalm_33 (q := 35) rfl 2 rfl ?_
  refine g_icmp_ge X dX6_staysCalm_35 (q := 38) rfl (tgt := 84) (by decide) hs ?_ ?_
  · intro hs
    refine g_iconst X dX6_staysCalm_84 (q := 85) rfl li_i1 ?_
    exact RI _ 85 _ _ _ (rU1 hs) rfl (rV1 hs) dX6_staysCalm_85
  · intro hs
    refine g_aload_n X dX6_staysCalm_38 (q := 39) rfl 0 rfl ?_
    refine cg_6_3 X dX6_staysCalm_39 (q := 42) rfl sh_71 lf_X6_30 ?_
    refine g_aload_n X dX6_staysCalm_42 (q := 43) rfl 0 rfl ?_
    refine cg_6_2 X dX6_staysCalm_43 (q := 46) rfl sh_71 lf_X6_12 ?_
    refine g_iconst X dX6_staysCalm_46 (q := 47) rfl li_i1 ?_
    refine vc_X8_dawn_t_X6 hZ X dX6_staysCalm_47 (q := 50) rfl (Nat.le_of_ble_eq_true rfl) (Nat.le_of_ble_eq_true rfl) (Nat.le_of_ble_eq_true rfl) hs (fun y1 hs => ?_)
    refine g_pop X dX6_staysCalm_50 (q := 51) rfl rfl ?_
    refine g_aload_n X dX6_staysCalm_51 (q := 52) rfl 0 rfl ?_
    refine cg_6_2 X dX6_staysCalm_52 (q := 55) rfl sh_71 lf_X6_12 ?_
    refine cgN_1_9 hZ X dX6_staysCalm_55 (q := 58) rfl sh_72 lf_X6_138 ?_
    refine g_lload_n X dX6_staysCalm_58 (q := 59) rfl 1 rfl ?_
    refine g_land X dX6_staysCalm_59 (q := 60) rfl ?_
    refine g_lconst X dX6_staysCalm_60 (q := 61) rfl li_l0 ?_
    refine g_lcmp X dX6_staysCalm_61 (q := 62) rfl ?_
    refine g_if_eq X dX6_staysCalm_62 (q := 65) rfl (tgt := 67) (by decide) hs ?_ ?_
    · intro hs
      refine g_aload_n X dX6_staysCalm_67 (q := 68) rfl 0 rfl ?_
      refine cg_6_3 X dX6_staysCalm_68 (q := 71) rfl sh_71 lf_X6_30 ?_
      refine g_aload_n X dX6_staysCalm_71 (q := 72) rfl 0 rfl ?_
      refine cg_6_2 X dX6_staysCalm_72 (q := 75) rfl sh_71 lf_X6_12 ?_
      refine vc_X8_dusk_t_X6 hZ X dX6_staysCalm_75 (q := 78) rfl (Nat.le_of_ble_eq_true rfl) (Nat.le_of_ble_eq_true rfl) (Nat.le_of_ble_eq_true rfl) hs (fun s4 hs => ?_)
      refine g_iinc X dX6_staysCalm_78 (q := 81) rfl 3 rfl (v := (a1 + (1 : Int32))) (congrArg (HAdd.hAdd a1) li_i1) (Nat.le_of_ble_eq_true rfl) (lv' := [(6, .int (a1 + (1 : Int32))), (0, .ref (h 71)), (3, .long x2), (5, .int x3)]) rfl ?_
      refine g_goto X dX6_staysCalm_81 (tgt := 31) (by decide) ?_
      exact wg_sub [1, 2, 3, 0] rfl (ih1 _ _ hs)
    · intro hs
      refine g_iconst X dX6_staysCalm_65 (q := 66) rfl li_i0 ?_
      exact RI _ 66 _ _ _ (rU1 hs) rfl (rV1 hs) dX6_staysCalm_66
theorem dX6_fewestWeeds_0 : decode cX6_fewestWeeds 0 = .ok (.bipush 10, 2) := by decide +kernel
theorem dX6_fewestWeeds_2 : decode cX6_fewestWeeds 2 = .ok (.aload_n 0, 1) := by decide +kernel
theorem dX6_fewestWeeds_3 : decode cX6_fewestWeeds 3 = .ok (.getfield 22, 3) := by decide +kernel
theorem dX6_fewestWeeds_6 : decode cX6_fewestWeeds 6 = .ok (.getfield 103, 3) := by decide +kernel
theorem dX6_fewestWeeds_9 : decode cX6_fewestWeeds 9 = .ok (.invokestatic 107, 3) := by decide +kernel
theorem dX6_fewestWeeds_12 : decode cX6_fewestWeeds 12 = .ok (.invokestatic 113, 3) := by decide +kernel
theorem dX6_fewestWeeds_15 : decode cX6_fewestWeeds 15 = .ok (.istore 4, 2) := by decide +kernel
theorem dX6_fewestWeeds_17 : decode cX6_fewestWeeds 17 = .ok (.iconst 0, 1) := by decide +kernel
theorem dX6_fewestWeeds_18 : decode cX6_fewestWeeds 18 = .ok (.istore 5, 2) := by decide +kernel
theorem dX6_fewestWeeds_20 : decode cX6_fewestWeeds 20 = .ok (.iload 5, 2) := by decide +kernel
theorem dX6_fewestWeeds_22 : decode cX6_fewestWeeds 22 = .ok (.iload 4, 2) := by decide +kernel
theorem dX6_fewestWeeds_24 : decode cX6_fewestWeeds 24 = .ok (.if_icmp .gt 62, 3) := by decide +kernel
theorem dX6_fewestWeeds_27 : decode cX6_fewestWeeds 27 = .ok (.iconst 0, 1) := by decide +kernel
theorem dX6_fewestWeeds_28 : decode cX6_fewestWeeds 28 = .ok (.istore 6, 2) := by decide +kernel
theorem dX6_fewestWeeds_30 : decode cX6_fewestWeeds 30 = .ok (.iload 6, 2) := by decide +kernel
theorem dX6_fewestWeeds_32 : decode cX6_fewestWeeds 32 = .ok (.iconst 1, 1) := by decide +kernel
theorem dX6_fewestWeeds_33 : decode cX6_fewestWeeds 33 = .ok (.iload 4, 2) := by decide +kernel
theorem dX6_fewestWeeds_35 : decode cX6_fewestWeeds 35 = .ok (.ishl, 1) := by decide +kernel
theorem dX6_fewestWeeds_36 : decode cX6_fewestWeeds 36 = .ok (.if_icmp .ge 44, 3) := by decide +kernel
theorem dX6_fewestWeeds_39 : decode cX6_fewestWeeds 39 = .ok (.iload 6, 2) := by decide +kernel
theorem dX6_fewestWeeds_41 : decode cX6_fewestWeeds 41 = .ok (.invokestatic 116, 3) := by decide +kernel
theorem dX6_fewestWeeds_44 : decode cX6_fewestWeeds 44 = .ok (.iload 5, 2) := by decide +kernel
theorem dX6_fewestWeeds_46 : decode cX6_fewestWeeds 46 = .ok (.if_icmp .eq 6, 3) := by decide +kernel
theorem dX6_fewestWeeds_49 : decode cX6_fewestWeeds 49 = .ok (.goto 25, 3) := by decide +kernel
theorem dX6_fewestWeeds_52 : decode cX6_fewestWeeds 52 = .ok (.aload_n 0, 1) := by decide +kernel
theorem dX6_fewestWeeds_53 : decode cX6_fewestWeeds 53 = .ok (.iload 6, 2) := by decide +kernel
theorem dX6_fewestWeeds_55 : decode cX6_fewestWeeds 55 = .ok (.invokevirtual 121, 3) := by decide +kernel
theorem dX6_fewestWeeds_58 : decode cX6_fewestWeeds 58 = .ok (.lstore 7, 2) := by decide +kernel
theorem dX6_fewestWeeds_60 : decode cX6_fewestWeeds 60 = .ok (.aload_n 0, 1) := by decide +kernel
theorem dX6_fewestWeeds_61 : decode cX6_fewestWeeds 61 = .ok (.lload 7, 2) := by decide +kernel
theorem dX6_fewestWeeds_63 : decode cX6_fewestWeeds 63 = .ok (.lload_n 1, 1) := by decide +kernel
theorem dX6_fewestWeeds_64 : decode cX6_fewestWeeds 64 = .ok (.iload_n 3, 1) := by decide +kernel
theorem dX6_fewestWeeds_65 : decode cX6_fewestWeeds 65 = .ok (.invokevirtual 125, 3) := by decide +kernel
theorem dX6_fewestWeeds_68 : decode cX6_fewestWeeds 68 = .ok (.ifCond .eq 6, 3) := by decide +kernel
theorem dX6_fewestWeeds_71 : decode cX6_fewestWeeds 71 = .ok (.lload 7, 2) := by decide +kernel
theorem dX6_fewestWeeds_73 : decode cX6_fewestWeeds 73 = .ok (.lreturn, 1) := by decide +kernel
theorem dX6_fewestWeeds_74 : decode cX6_fewestWeeds 74 = .ok (.iinc 6 1, 3) := by decide +kernel
theorem dX6_fewestWeeds_77 : decode cX6_fewestWeeds 77 = .ok (.goto (-47), 3) := by decide +kernel
theorem dX6_fewestWeeds_80 : decode cX6_fewestWeeds 80 = .ok (.iinc 5 1, 3) := by decide +kernel
theorem dX6_fewestWeeds_83 : decode cX6_fewestWeeds 83 = .ok (.goto (-63), 3) := by decide +kernel
theorem dX6_fewestWeeds_86 : decode cX6_fewestWeeds 86 = .ok (.ldc2_w 129, 3) := by decide +kernel
theorem dX6_fewestWeeds_89 : decode cX6_fewestWeeds 89 = .ok (.lreturn, 1) := by decide +kernel
theorem wJ13_bitCount_95d88_X6 : GoodIn GT (va_wsS RX6 107 yJ13_bitCount_95d88 (.code yJ13_bitCount_95d88 cJ13_bitCount_95d88 2 (some .int) :: GT)) := gt_c (gt_of 1177 (by decide +kernel) rfl) (gt_c (gt_of 1009 (by decide +kernel) rfl) (gt_c (gt_of 214 (by decide +kernel) rfl) (gt_c (gt_of 1010 (by decide +kernel) rfl) gt_t)))
theorem vc_J13_bitCount_95d88_X6 {p : Program} {l : Launch} {e : Env} {st : State} {m : MethodId} {args : Array Value} {below : List Frame} {meth : Method} {c : Code} {Q : State → Prop} {nL : Nat} {cc : ByteArray} {s : ST} {pc q : Nat} {lv : List (Nat × Value)} {rest : List Value} {D : va_G} {cA cL : ClassId} {h : Nat → Nat} {Z : State → Heap → Prop} {sa : Nat → Nat} (hZ : ZK h Z sa) {d0 : Nat} (X : Cx (KC D cA cL h Z) p st m args meth c cc nL RX6) {x1 : Int64} (d : decode cc pc = .ok (.invokestatic 107, 3)) (hq : pc + 3 = q) (hd1 : 1 + 1 ≤ d0) (hd2 : 8 + (2 + 11) + 100 * 1 ≤ 100 * d0) (hr : (rest.map fun v => v.category).sum ≤ 8) {B : Type} {f : Int32 → B} {r : B} (hs : Lt (C_J13_bitCount_95d88 s x1) f = r) (k : ∀ y, f y = r → WG (KC D cA cL h Z) p l e (rmD d0) st m args below meth c Q nL s q lv (.int y :: rest)) : WG (KC D cA cL h Z) p l e (rmD d0) st m args below meth c Q nL s pc lv (.long x1 :: rest) := by
  exact cS_I (K := KC D cA cL h Z) X (n := 1) (k_J13_bitCount_95d88 hZ l D cA cL s x1) wJ13_bitCount_95d88_X6 ⟨hd1, hd2⟩ ⟨by decide, by decide, by decide +kernel⟩ (As := [.long x1]) rfl hr rfl d hq (k _ hs)
theorem wJ6_bitCount_0f7a4_X6 : GoodIn GT (va_wsS RX6 116 yJ6_bitCount_0f7a4 (.code yJ6_bitCount_0f7a4 cJ6_bitCount_0f7a4 1 (some .int) :: GT)) := gt_c (gt_of 1179 (by decide +kernel) rfl) (gt_c (gt_of 1180 (by decide +kernel) rfl) (gt_c (gt_of 215 (by decide +kernel) rfl) (gt_c (gt_of 1181 (by decide +kernel) rfl) gt_t)))
theorem vc_J6_bitCount_0f7a4_X6 {p : Program} {l : Launch} {e : Env} {st : State} {m : MethodId} {args : Array Value} {below : List Frame} {meth : Method} {c : Code} {Q : State → Prop} {nL : Nat} {cc : ByteArray} {s : ST} {pc q : Nat} {lv : List (Nat × Value)} {rest : List Value} {D : va_G} {cA cL : ClassId} {h : Nat → Nat} {Z : State → Heap → Prop} {sa : Nat → Nat} (hZ : ZK h Z sa) {d0 : Nat} (X : Cx (KC D cA cL h Z) p st m args meth c cc nL RX6) {x1 : Int32} (d : decode cc pc = .ok (.invokestatic 116, 3)) (hq : pc + 3 = q) (hd1 : 1 + 1 ≤ d0) (hd2 : 8 + (1 + 11) + 100 * 1 ≤ 100 * d0) (hr : (rest.map fun v => v.category).sum ≤ 8) {B : Type} {f : Int32 → B} {r : B} (hs : Lt (C_J6_bitCount_0f7a4 s x1) f = r) (k : ∀ y, f y = r → WG (KC D cA cL h Z) p l e (rmD d0) st m args below meth c Q nL s q lv (.int y :: rest)) : WG (KC D cA cL h Z) p l e (rmD d0) st m args below meth c Q nL s pc lv (.int x1 :: rest) := by
  exact cS_I (K := KC D cA cL h Z) X (n := 1) (k_J6_bitCount_0f7a4 hZ l D cA cL s x1) wJ6_bitCount_0f7a4_X6 ⟨hd1, hd2⟩ ⟨by decide, by decide, by decide +kernel⟩ (As := [.int x1]) rfl hr rfl d hq (k _ hs)
theorem wX6_chosenSeeds_X6 : GoodIn GT (wsV RX6 121 RX6 yX6_chosenSeeds (.code yX6_chosenSeeds cX6_chosenSeeds 6 (some .long) :: GT)) := gt_V (gt_of 1185 (by decide +kernel) rfl) (gt_of 1187 (by decide +kernel) rfl) (gt_of 87 (by decide +kernel) rfl) (gt_of 205 (by decide +kernel) rfl) (gt_of 1188 (by decide +kernel) rfl)
theorem vc_X6_chosenSeeds_X6 {p : Program} {l : Launch} {e : Env} {st : State} {m : MethodId} {args : Array Value} {below : List Frame} {meth : Method} {c : Code} {Q : State → Prop} {nL : Nat} {cc : ByteArray} {s : ST} {pc q : Nat} {lv : List (Nat × Value)} {rest : List Value} {D : va_G} {cA cL : ClassId} {h : Nat → Nat} {Z : State → Heap → Prop} {sa : Nat → Nat} (hZ : ZK h Z sa) {d0 : Nat} (X : Cx (KC D cA cL h Z) p st m args meth c cc nL RX6) {x1 : Int32} (d : decode cc pc = .ok (.invokevirtual 121, 3)) (hq : pc + 3 = q) (hd1 : 3 + 1 ≤ d0) (hd2 : 8 + (6 + 11) + 100 * 3 ≤ 100 * d0) (hr : (rest.map fun v => v.category).sum ≤ 8) {B : Type} {f : Int64 → Option B} {r : B} (hs : Bd (C_X6_chosenSeeds s x1) f = some r) (k : ∀ y, f y = some r → WG (KC D cA cL h Z) p l e (rmD d0) st m args below meth c Q nL s q lv (.long y :: rest)) : WG (KC D cA cL h Z) p l e (rmD d0) st m args below meth c Q nL s pc lv (.int x1 :: .ref (h 71) :: rest) := by
  obtain ⟨v, hv, hs⟩ := Bd_e hs
  exact cV_L (K := KC D cA cL h Z) X 71 (n := 1) (k_X6_chosenSeeds hZ l D cA cL s x1 hv) wX6_chosenSeeds_X6 ⟨hd1, hd2⟩ ⟨by decide, by decide, by decide +kernel⟩ (As := [.int x1]) rfl hr (sh_71).1 (fs := cF6 h 71 (s.1 71) (s.2 71)) (GC_6 (cA := cA) (cL := cL) sh_71 _ _) rfl rfl d hq (k _ hs)
theorem wX6_staysCalm_X6 : GoodIn GT (wsV RX6 125 RX6 yX6_staysCalm (.code yX6_staysCalm cX6_staysCalm 7 (some .boolean) :: GT)) := gt_V (gt_of 1191 (by decide +kernel) rfl) (gt_of 1193 (by decide +kernel) rfl) (gt_of 88 (by decide +kernel) rfl) (gt_of 205 (by decide +kernel) rfl) (gt_of 1194 (by decide +kernel) rfl)
theorem vc_X6_staysCalm_X6 {p : Program} {l : Launch} {e : Env} {st : State} {m : MethodId} {args : Array Value} {below : List Frame} {meth : Method} {c : Code} {Q : State → Prop} {nL : Nat} {cc : ByteArray} {s : ST} {pc q : Nat} {lv : List (Nat × Value)} {rest : List Value} {D : va_G} {cA cL : ClassId} {h : Nat → Nat} {Z : State → Heap → Prop} {sa : Nat → Nat} (hZ : ZK h Z sa) {d0 : Nat} (X : Cx (KC D cA cL h Z) p st m args meth c cc nL RX6) {x1 : Int64} {x2 : Int64} {x3 : Int32} (d : decode cc pc = .ok (.invokevirtual 125, 3)) (hq : pc + 3 = q) (hd1 : 7 + 1 ≤ d0) (hd2 : 8 + (7 + 11) + 100 * 7 ≤ 100 * d0) (hr : (rest.map fun v => v.category).sum ≤ 8) {B : Type} {f : Int32 × ST → Option B} {r : B} (hs : Bd (C_X6_staysCalm s x1 x2 x3) f = some r) (k : ∀ y, f y = some r → WG (KC D cA cL h Z) p l e (rmD d0) st m args below meth c Q nL y.2 q lv (.int y.1 :: rest)) : WG (KC D cA cL h Z) p l e (rmD d0) st m args below meth c Q nL s pc lv (.int x3 :: .long x2 :: .long x1 :: .ref (h 71) :: rest) := by
  obtain ⟨v, hv, hs⟩ := Bd_e hs
  exact cV_I (K := KC D cA cL h Z) X 71 (n := 3) (k_X6_staysCalm hZ l D cA cL s x1 x2 x3 hv) wX6_staysCalm_X6 ⟨hd1, hd2⟩ ⟨by decide, by decide, by decide +kernel⟩ (As := [.long x1, .long x2, .int x3]) rfl hr (sh_71).1 (fs := cF6 h 71 (s.1 71) (s.2 71)) (GC_6 (cA := cA) (cL := cL) sh_71 _ _) rfl rfl d hq (k _ hs)
def C_X6_fewestWeeds (s : ST) (x1 : Int64) (x2 : Int32) : Option (Int64 × ST) := Lt (C_J13_bitCount_95d88 s (s.2 1 8)) fun y1 => Lt ((imn (10 : Int32) y1)) fun y2 => lpK2 (C := Int64 × ST) (fun (rec1 : Int32 → ST → Option (Int64 × ST)) (a1 : Int32) (s1 : ST) => if y2 < a1 then (some ((-1 : Int64), s1)) else (lpK2 (C := Int64 × ST) (fun (rec2 : Int32 → ST → Option (Int64 × ST)) (a2 : Int32) (s2 : ST) => if ((1 : Int32) <<< (y2 &&& 31)) ≤ a2 then (rec1 (a1 + (1 : Int32)) s2) else (Lt (C_J6_bitCount_0f7a4 s2 a2) fun y3 => Lt (fun (s3 : ST) => (rec2 (a2 + (1 : Int32)) s3 : Option (Int64 × ST))) fun j1 => if y3 = a1 then (Bd (C_X6_chosenSeeds s2 a2) fun y4 => Bd (C_X6_staysCalm s2 y4 x1 x2) fun y5 => if y5.1 = 0 then (j1 y5.2) else (some (y4, y5.2))) else (j1 s2))) FU (0 : Int32) s1)) FU (0 : Int32) s
set_option maxRecDepth 100000 in
set_option maxHeartbeats 4000000 in
theorem k_X6_fewestWeeds {h : Nat → Nat} {Z : State → Heap → Prop} {sa : Nat → Nat} (hZ : ZK h Z sa) (l : Launch) (D : va_G) (cA cL : ClassId) (s : ST) (x1 : Int64) (x2 : Int32) {o : Int64 × ST} (hs : C_X6_fewestWeeds s x1 x2 = some o) : ML l (KC D cA cL h Z) 8 yX6_fewestWeeds cX6_fewestWeeds 9 (some .long) s [.ref (h 71), .long x1, .int x2] o.1 o.2 := by
  refine met_l (by decide) (Nat.le_of_ble_eq_true rfl) ?_
  intro p e st m args below meth c Q X RI
  unfold C_X6_fewestWeeds at hs
  refine g_bipush X dX6_fewestWeeds_0 (q := 2) rfl li_b10 ?_
  refine g_aload_n X dX6_fewestWeeds_2 (q := 3) rfl 0 rfl ?_
  refine cg_6_1 X dX6_fewestWeeds_3 (q := 6) rfl sh_71 lf_X6_22 ?_
  refine cgN_1_8 hZ X dX6_fewestWeeds_6 (q := 9) rfl sh_1 lf_X6_103 ?_
  refine vc_J13_bitCount_95d88_X6 hZ X dX6_fewestWeeds_9 (q := 12) rfl (Nat.le_of_ble_eq_true rfl) (Nat.le_of_ble_eq_true rfl) (Nat.le_of_ble_eq_true rfl) hs (fun y1 hs => ?_)
  refine cm_min X dX6_fewestWeeds_12 (q := 15) rfl ml_X6_113 (Nat.le_of_ble_eq_true rfl) (Nat.le_of_ble_eq_true rfl) (Nat.le_of_ble_eq_true rfl) ?_
  refine nmI hs (fun y2 hs => ?_)
  refine g_istore X dX6_fewestWeeds_15 (q := 17) rfl (Nat.le_of_ble_eq_true rfl) (lv' := [(4, .int y2), (0, .ref (h 71)), (1, .long x1), (3, .int x2)]) rfl ?_
  refine g_iconst X dX6_fewestWeeds_17 (q := 18) rfl li_i0 ?_
  refine g_istore X dX6_fewestWeeds_18 (q := 20) rfl (Nat.le_of_ble_eq_true rfl) (lv' := [(5, .int (0 : Int32)), (4, .int y2), (0, .ref (h 71)), (1, .long x1), (3, .int x2)]) rfl ?_
  refine wg_sub [2, 3, 4, 1, 0] rfl (lpW2 (fun (a1 : Int32) (s1 : ST) => WG (KC D cA cL h Z) p l e (rmD 8) st m args below meth c Q 9 s1 20 [(0, .ref (h 71)), (1, .long x1), (3, .int x2), (4, .int y2), (5, .int a1)] []) (fun rec1 ih1 a1 s1 hs => ?_) _ _ _ hs)
  refine g_iload X dX6_fewestWeeds_20 (q := 22) rfl 4 rfl ?_
  refine g_iload X dX6_fewestWeeds_22 (q := 24) rfl 3 rfl ?_
  refine g_icmp_gt X dX6_fewestWeeds_24 (q := 27) rfl (tgt := 86) (by decide) hs ?_ ?_
  · intro hs
    refine g_ldc2_w X dX6_fewestWeeds_86 (q := 89) rfl kc_X6_129 ?_
    exact RI _ 89 _ _ (rU1 hs) (rV1 hs) dX6_fewestWeeds_89
  · intro hs
    refine g_iconst X dX6_fewestWeeds_27 (q := 28) rfl li_i0 ?_
    refine g_istore X dX6_fewestWeeds_28 (q := 30) rfl (Nat.le_of_ble_eq_true rfl) (lv' := [(6, .int (0 : Int32)), (0, .ref (h 71)), (1, .long x1), (3, .int x2), (4, .int y2), (5, .int a1)]) rfl ?_
    refine wg_sub [1, 2, 3, 4, 5, 0] rfl (lpW2 (fun (a2 : Int32) (s2 : ST) => WG (KC D cA cL h Z) p l e (rmD 8) st m args below meth c Q 9 s2 30 [(0, .ref (h 71)), (1, .long x1), (3, .int x2), (4, .int y2), (5, .int a1), (6, .int a2)] []) (fun rec2 ih2 a2 s2 hs => ?_) _ _ _ hs)
    refine g_iload X dX6_fewestWeeds_30 (q := 32) rfl 5 rfl ?_
    refine g_iconst X dX6_fewestWeeds_32 (q := 33) rfl li_i1 ?_
    refine g_iload X dX6_fewestWeeds_33 (q := 35) rfl 3 rfl ?_
    refine g_ishl X dX6_fewestWeeds_35 (q := 36) rfl ?_
    refine g_icmp_ge X dX6_fewestWeeds_36 (q := 39) rfl (tgt := 80) (by decide) hs ?_ ?_
    · intro hs
      refine g_iinc X dX6_fewestWeeds_80 (q := 83) rfl 4 rfl (v := (a1 + (1 : Int32))) (congrArg (HAdd.hAdd a1) li_i1) (Nat.le_of_ble_eq_true rfl) (lv' := [(5, .int (a1 + (1 : Int32))), (0, .ref (h 71)), (1, .long x1), (3, .int x2), (4, .int y2), (6, .int a2)]) rfl ?_
      refine g_goto X dX6_fewestWeeds_83 (tgt := 20) (by decide) ?_
      exact wg_sub [1, 2, 3, 4, 0] rfl (ih1 _ _ hs)
    · intro hs
      refine g_iload X dX6_fewestWeeds_39 (q := 41) rfl 5 rfl ?_
      refine vc_J6_bitCount_0f7a4_X6 hZ X dX6_fewestWeeds_41 (q := 44) rfl (Nat.le_of_ble_eq_true rfl) (Nat.le_of_ble_eq_true rfl) (Nat.le_of_ble_eq_true rfl) hs (fun y3 hs => ?_)
      refine g_iload X dX6_fewestWeeds_44 (q := 46) rfl 4 rfl ?_
      refine jnW1 (fun (s3 : ST) => WG (KC D cA cL h Z) p l e (rmD 8) st m args below meth c Q 9 s3 74 [(0, .ref (h 71)), (1, .long x1), (3, .int x2), (4, .int y2), (5, .int a1), (6, .int a2)] []) hs (fun s3 hs => ?_) (fun j1 ih3 hs => ?_)
      · refine g_iinc X dX6_fewestWeeds_74 (q := 77) rfl 5 rfl (v := (a2 + (1 : Int32))) (congrArg (HAdd.hAdd a2) li_i1) (Nat.le_of_ble_eq_true rfl) (lv' := [(6, .int (a2 + (1 : Int32))), (0, .ref (h 71)), (1, .long x1), (3, .int x2), (4, .int y2), (5, .int a1)]) rfl ?_
        refine g_goto X dX6_fewestWeeds_77 (tgt := 30) (by decide) ?_
        exact wg_sub [1, 2, 3, 4, 5, 0] rfl (ih2 _ _ hs)
      refine g_icmp_eq X dX6_fewestWeeds_46 (q := 49) rfl (tgt := 52) (by decide) hs ?_ ?_
      · intro hs
        refine g_aload_n X dX6_fewestWeeds_52 (q := 53) rfl 0 rfl ?_
        refine g_iload X dX6_fewestWeeds_53 (q := 55) rfl 5 rfl ?_
        refine vc_X6_chosenSeeds_X6 hZ X dX6_fewestWeeds_55 (q := 58) rfl (Nat.le_of_ble_eq_true rfl) (Nat.le_of_ble_eq_true rfl) (Nat.le_of_ble_eq_true rfl) hs (fun y4 hs => ?_)
        refine g_lstore X dX6_fewestWeeds_58 (q := 60) rfl (Nat.le_of_ble_eq_true rfl) (lv' := [(7, .long y4), (0, .ref (h 71)), (1, .long x1), (3, .int x2), (4, .int y2), (5, .int a1), (6, .int a2)]) rfl ?_
        refine g_aload_n X dX6_fewestWeeds_60 (q := 61) rfl 1 rfl ?_
        refine g_lload X dX6_fewestWeeds_61 (q := 63) rfl 0 rfl ?_
        refine g_lload_n X dX6_fewestWeeds_63 (q := 64) rfl 2 rfl ?_
        refine g_iload_n X dX6_fewestWeeds_64 (q := 65) rfl 3 rfl ?_
        refine vc_X6_staysCalm_X6 hZ X dX6_fewestWeeds_65 (q := 68) rfl (Nat.le_of_ble_eq_true rfl) (Nat.le_of_ble_eq_true rfl) (Nat.le_of_ble_eq_true rfl) hs (fun y5 hs => ?_)
        refine g_if_eq X dX6_fewestWeeds_68 (q := 71) rfl (tgt := 74) (by decide) hs ?_ ?_
        · intro hs
          exact wg_sub [1, 2, 3, 4, 5, 6] rfl (ih3 _ hs)
        · intro hs
          refine g_lload X dX6_fewestWeeds_71 (q := 73) rfl 0 rfl ?_
          exact RI _ 73 _ _ (rU1 hs) (rV1 hs) dX6_fewestWeeds_73
      · intro hs
        refine g_goto X dX6_fewestWeeds_49 (tgt := 74) (by decide) ?_
        exact wg_sub [0, 1, 2, 3, 4, 5] rfl (ih3 _ hs)
theorem dX6_longestCalm_0 : decode cX6_longestCalm 0 = .ok (.aload_n 0, 1) := by decide +kernel
theorem dX6_longestCalm_1 : decode cX6_longestCalm 1 = .ok (.getfield 12, 3) := by decide +kernel
theorem dX6_longestCalm_4 : decode cX6_longestCalm 4 = .ok (.aload_n 0, 1) := by decide +kernel
theorem dX6_longestCalm_5 : decode cX6_longestCalm 5 = .ok (.getfield 22, 3) := by decide +kernel
theorem dX6_longestCalm_8 : decode cX6_longestCalm 8 = .ok (.invokevirtual 34, 3) := by decide +kernel
theorem dX6_longestCalm_11 : decode cX6_longestCalm 11 = .ok (.iconst 0, 1) := by decide +kernel
theorem dX6_longestCalm_12 : decode cX6_longestCalm 12 = .ok (.istore 4, 2) := by decide +kernel
theorem dX6_longestCalm_14 : decode cX6_longestCalm 14 = .ok (.iconst (-1), 1) := by decide +kernel
theorem dX6_longestCalm_15 : decode cX6_longestCalm 15 = .ok (.istore 5, 2) := by decide +kernel
theorem dX6_longestCalm_17 : decode cX6_longestCalm 17 = .ok (.iconst 0, 1) := by decide +kernel
theorem dX6_longestCalm_18 : decode cX6_longestCalm 18 = .ok (.istore 6, 2) := by decide +kernel
theorem dX6_longestCalm_20 : decode cX6_longestCalm 20 = .ok (.iconst 0, 1) := by decide +kernel
theorem dX6_longestCalm_21 : decode cX6_longestCalm 21 = .ok (.istore 7, 2) := by decide +kernel
theorem dX6_longestCalm_23 : decode cX6_longestCalm 23 = .ok (.iload 7, 2) := by decide +kernel
theorem dX6_longestCalm_25 : decode cX6_longestCalm 25 = .ok (.iload_n 2, 1) := by decide +kernel
theorem dX6_longestCalm_26 : decode cX6_longestCalm 26 = .ok (.if_icmp .ge 79, 3) := by decide +kernel
theorem dX6_longestCalm_29 : decode cX6_longestCalm 29 = .ok (.aload_n 0, 1) := by decide +kernel
theorem dX6_longestCalm_30 : decode cX6_longestCalm 30 = .ok (.getfield 30, 3) := by decide +kernel
theorem dX6_longestCalm_33 : decode cX6_longestCalm 33 = .ok (.aload_n 0, 1) := by decide +kernel
theorem dX6_longestCalm_34 : decode cX6_longestCalm 34 = .ok (.getfield 12, 3) := by decide +kernel
theorem dX6_longestCalm_37 : decode cX6_longestCalm 37 = .ok (.iconst 1, 1) := by decide +kernel
theorem dX6_longestCalm_38 : decode cX6_longestCalm 38 = .ok (.invokevirtual 42, 3) := by decide +kernel
theorem dX6_longestCalm_41 : decode cX6_longestCalm 41 = .ok (.pop, 1) := by decide +kernel
theorem dX6_longestCalm_42 : decode cX6_longestCalm 42 = .ok (.aload_n 0, 1) := by decide +kernel
theorem dX6_longestCalm_43 : decode cX6_longestCalm 43 = .ok (.getfield 12, 3) := by decide +kernel
theorem dX6_longestCalm_46 : decode cX6_longestCalm 46 = .ok (.iload_n 1, 1) := by decide +kernel
theorem dX6_longestCalm_47 : decode cX6_longestCalm 47 = .ok (.invokevirtual 65, 3) := by decide +kernel
theorem dX6_longestCalm_50 : decode cX6_longestCalm 50 = .ok (.ifCond .eq 7, 3) := by decide +kernel
theorem dX6_longestCalm_53 : decode cX6_longestCalm 53 = .ok (.iconst 0, 1) := by decide +kernel
theorem dX6_longestCalm_54 : decode cX6_longestCalm 54 = .ok (.goto 7, 3) := by decide +kernel
theorem dX6_longestCalm_57 : decode cX6_longestCalm 57 = .ok (.iload 6, 2) := by decide +kernel
theorem dX6_longestCalm_59 : decode cX6_longestCalm 59 = .ok (.iconst 1, 1) := by decide +kernel
theorem dX6_longestCalm_60 : decode cX6_longestCalm 60 = .ok (.iadd, 1) := by decide +kernel
theorem dX6_longestCalm_61 : decode cX6_longestCalm 61 = .ok (.istore 6, 2) := by decide +kernel
theorem dX6_longestCalm_63 : decode cX6_longestCalm 63 = .ok (.iload 6, 2) := by decide +kernel
theorem dX6_longestCalm_65 : decode cX6_longestCalm 65 = .ok (.iload 4, 2) := by decide +kernel
theorem dX6_longestCalm_67 : decode cX6_longestCalm 67 = .ok (.if_icmp .le 21, 3) := by decide +kernel
theorem dX6_longestCalm_70 : decode cX6_longestCalm 70 = .ok (.iload 6, 2) := by decide +kernel
theorem dX6_longestCalm_72 : decode cX6_longestCalm 72 = .ok (.istore 4, 2) := by decide +kernel
theorem dX6_longestCalm_74 : decode cX6_longestCalm 74 = .ok (.aload_n 0, 1) := by decide +kernel
theorem dX6_longestCalm_75 : decode cX6_longestCalm 75 = .ok (.getfield 12, 3) := by decide +kernel
theorem dX6_longestCalm_78 : decode cX6_longestCalm 78 = .ok (.getfield 81, 3) := by decide +kernel
theorem dX6_longestCalm_81 : decode cX6_longestCalm 81 = .ok (.iload 6, 2) := by decide +kernel
theorem dX6_longestCalm_83 : decode cX6_longestCalm 83 = .ok (.isub, 1) := by decide +kernel
theorem dX6_longestCalm_84 : decode cX6_longestCalm 84 = .ok (.iconst 1, 1) := by decide +kernel
theorem dX6_longestCalm_85 : decode cX6_longestCalm 85 = .ok (.iadd, 1) := by decide +kernel
theorem dX6_longestCalm_86 : decode cX6_longestCalm 86 = .ok (.istore 5, 2) := by decide +kernel
theorem dX6_longestCalm_88 : decode cX6_longestCalm 88 = .ok (.aload_n 0, 1) := by decide +kernel
theorem dX6_longestCalm_89 : decode cX6_longestCalm 89 = .ok (.getfield 30, 3) := by decide +kernel
theorem dX6_longestCalm_92 : decode cX6_longestCalm 92 = .ok (.aload_n 0, 1) := by decide +kernel
theorem dX6_longestCalm_93 : decode cX6_longestCalm 93 = .ok (.getfield 12, 3) := by decide +kernel
theorem dX6_longestCalm_96 : decode cX6_longestCalm 96 = .ok (.invokevirtual 46, 3) := by decide +kernel
theorem dX6_longestCalm_99 : decode cX6_longestCalm 99 = .ok (.iinc 7 1, 3) := by decide +kernel
theorem dX6_longestCalm_102 : decode cX6_longestCalm 102 = .ok (.goto (-79), 3) := by decide +kernel
theorem dX6_longestCalm_105 : decode cX6_longestCalm 105 = .ok (.iload_n 3, 1) := by decide +kernel
theorem dX6_longestCalm_106 : decode cX6_longestCalm 106 = .ok (.ifCond .eq 8, 3) := by decide +kernel
theorem dX6_longestCalm_109 : decode cX6_longestCalm 109 = .ok (.iload 4, 2) := by decide +kernel
theorem dX6_longestCalm_111 : decode cX6_longestCalm 111 = .ok (.goto 5, 3) := by decide +kernel
theorem dX6_longestCalm_114 : decode cX6_longestCalm 114 = .ok (.iload 5, 2) := by decide +kernel
theorem dX6_longestCalm_116 : decode cX6_longestCalm 116 = .ok (.ireturn, 1) := by decide +kernel
def C_X6_longestCalm (s : ST) (x1 : Int32) (x2 : Int32) (x3 : Int32) : Option (Int32 × ST) := Bd (C_X1_copy s 72 1) fun s1 => lpK5 (C := Int32 × ST) (fun (rec1 : Int32 → Int32 → Int32 → Int32 → ST → Option (Int32 × ST)) (a1 : Int32) (a2 : Int32) (a3 : Int32) (a4 : Int32) (s2 : ST) => if x2 ≤ a4 then (if x3 = 0 then (some (a2, s2)) else (some (a1, s2))) else (Bd (C_X8_dawn_t s2 (1 : Int32)) fun y1 => Lt (C_X1_hasStorm y1.2 72 x1) fun y2 => Lt (fun (a5 : Int32) => (Lt (fun (a6 : Int32) (a7 : Int32) => (Bd (C_X8_dusk_t y1.2) fun s3 => rec1 a6 a7 a5 (a4 + (1 : Int32)) s3 : Option (Int32 × ST))) fun j2 => if a5 ≤ a1 then (j2 a1 a2) else (Lt ((((y1.2.1 72 2) - a5) + (1 : Int32))) fun y3 => j2 a5 y3) : Option (Int32 × ST))) fun j1 => if y2 = 0 then (j1 (a3 + (1 : Int32))) else (j1 (0 : Int32)))) FU (0 : Int32) (-1 : Int32) (0 : Int32) (0 : Int32) s1
set_option maxRecDepth 100000 in
set_option maxHeartbeats 4000000 in
theorem k_X6_longestCalm {h : Nat → Nat} {Z : State → Heap → Prop} {sa : Nat → Nat} (hZ : ZK h Z sa) (l : Launch) (D : va_G) (cA cL : ClassId) (s : ST) (x1 : Int32) (x2 : Int32) (x3 : Int32) {o : Int32 × ST} (hs : C_X6_longestCalm s x1 x2 x3 = some o) : MI l (KC D cA cL h Z) 7 yX6_longestCalm cX6_longestCalm 8 (some .int) s [.ref (h 71), .int x1, .int x2, .int x3] o.1 o.2 := by
  refine met_i (by decide) (Nat.le_of_ble_eq_true rfl) ?_
  intro p e st m args below meth c Q X RI
  unfold C_X6_longestCalm at hs
  refine g_aload_n X dX6_longestCalm_0 (q := 1) rfl 0 rfl ?_
  refine cg_6_2 X dX6_longestCalm_1 (q := 4) rfl sh_71 lf_X6_12 ?_
  refine g_aload_n X dX6_longestCalm_4 (q := 5) rfl 0 rfl ?_
  refine cg_6_1 X dX6_longestCalm_5 (q := 8) rfl sh_71 lf_X6_22 ?_
  refine vc_X1_copy_X6 hZ X dX6_longestCalm_8 (q := 11) rfl sh_72 sh_1 (Nat.le_of_ble_eq_true rfl) (Nat.le_of_ble_eq_true rfl) (Nat.le_of_ble_eq_true rfl) hs (fun s1 hs => ?_)
  refine g_iconst X dX6_longestCalm_11 (q := 12) rfl li_i0 ?_
  refine g_istore X dX6_longestCalm_12 (q := 14) rfl (Nat.le_of_ble_eq_true rfl) (lv' := [(4, .int (0 : Int32)), (0, .ref (h 71)), (1, .int x1), (2, .int x2), (3, .int x3)]) rfl ?_
  refine g_iconst X dX6_longestCalm_14 (q := 15) rfl li_im1 ?_
  refine g_istore X dX6_longestCalm_15 (q := 17) rfl (Nat.le_of_ble_eq_true rfl) (lv' := [(5, .int (-1 : Int32)), (4, .int (0 : Int32)), (0, .ref (h 71)), (1, .int x1), (2, .int x2), (3, .int x3)]) rfl ?_
  refine g_iconst X dX6_longestCalm_17 (q := 18) rfl li_i0 ?_
  refine g_istore X dX6_longestCalm_18 (q := 20) rfl (Nat.le_of_ble_eq_true rfl) (lv' := [(6, .int (0 : Int32)), (5, .int (-1 : Int32)), (4, .int (0 : Int32)), (0, .ref (h 71)), (1, .int x1), (2, .int x2), (3, .int x3)]) rfl ?_
  refine g_iconst X dX6_longestCalm_20 (q := 21) rfl li_i0 ?_
  refine g_istore X dX6_longestCalm_21 (q := 23) rfl (Nat.le_of_ble_eq_true rfl) (lv' := [(7, .int (0 : Int32)), (6, .int (0 : Int32)), (5, .int (-1 : Int32)), (4, .int (0 : Int32)), (0, .ref (h 71)), (1, .int x1), (2, .int x2), (3, .int x3)]) rfl ?_
  refine wg_sub [4, 5, 6, 7, 3, 2, 1, 0] rfl (lpW5 (fun (a1 : Int32) (a2 : Int32) (a3 : Int32) (a4 : Int32) (s2 : ST) => WG (KC D cA cL h Z) p l e (rmD 7) st m args below meth c Q 8 s2 23 [(0, .ref (h 71)), (1, .int x1), (2, .int x2), (3, .int x3), (4, .int a1), (5, .int a2), (6, .int a3), (7, .int a4)] []) (fun rec1 ih1 a1 a2 a3 a4 s2 hs => ?_) _ _ _ _ _ _ hs)
  refine g_iload X dX6_longestCalm_23 (q := 25) rfl 7 rfl ?_
  refine g_iload_n X dX6_longestCalm_25 (q := 26) rfl 2 rfl ?_
  refine g_icmp_ge X dX6_longestCalm_26 (q := 29) rfl (tgt := 105) (by decide) hs ?_ ?_
  · intro hs
    refine g_iload_n X dX6_longestCalm_105 (q := 106) rfl 3 rfl ?_
    refine g_if_eq X dX6_longestCalm_106 (q := 109) rfl (tgt := 114) (by decide) hs ?_ ?_
    · intro hs
      refine g_iload X dX6_longestCalm_114 (q := 116) rfl 5 rfl ?_
      exact RI _ 116 _ _ _ (rU1 hs) rfl (rV1 hs) dX6_longestCalm_116
    · intro hs
      refine g_iload X dX6_longestCalm_109 (q := 111) rfl 4 rfl ?_
      refine g_goto X dX6_longestCalm_111 (tgt := 116) (by decide) ?_
      exact RI _ 116 _ _ _ (rU1 hs) rfl (rV1 hs) dX6_longestCalm_116
  · intro hs
    refine g_aload_n X dX6_longestCalm_29 (q := 30) rfl 0 rfl ?_
    refine cg_6_3 X dX6_longestCalm_30 (q := 33) rfl sh_71 lf_X6_30 ?_
    refine g_aload_n X dX6_longestCalm_33 (q := 34) rfl 0 rfl ?_
    refine cg_6_2 X dX6_longestCalm_34 (q := 37) rfl sh_71 lf_X6_12 ?_
    refine g_iconst X dX6_longestCalm_37 (q := 38) rfl li_i1 ?_
    refine vc_X8_dawn_t_X6 hZ X dX6_longestCalm_38 (q := 41) rfl (Nat.le_of_ble_eq_true rfl) (Nat.le_of_ble_eq_true rfl) (Nat.le_of_ble_eq_true rfl) hs (fun y1 hs => ?_)
    refine g_pop X dX6_longestCalm_41 (q := 42) rfl rfl ?_
    refine g_aload_n X dX6_longestCalm_42 (q := 43) rfl 0 rfl ?_
    refine cg_6_2 X dX6_longestCalm_43 (q := 46) rfl sh_71 lf_X6_12 ?_
    refine g_iload_n X dX6_longestCalm_46 (q := 47) rfl 1 rfl ?_
    refine vc_X1_hasStorm_X6 hZ X dX6_longestCalm_47 (q := 50) rfl sh_72 (Nat.le_of_ble_eq_true rfl) (Nat.le_of_ble_eq_true rfl) (Nat.le_of_ble_eq_true rfl) hs (fun y2 hs => ?_)
    refine jnW1 (fun (a5 : Int32) => WG (KC D cA cL h Z) p l e (rmD 7) st m args below meth c Q 8 y1.2 61 [(0, .ref (h 71)), (1, .int x1), (2, .int x2), (3, .int x3), (4, .int a1), (5, .int a2), (7, .int a4)] [.int a5]) hs (fun a5 hs => ?_) (fun j1 ih2 hs => ?_)
    · refine g_istore X dX6_longestCalm_61 (q := 63) rfl (Nat.le_of_ble_eq_true rfl) (lv' := [(6, .int a5), (0, .ref (h 71)), (1, .int x1), (2, .int x2), (3, .int x3), (4, .int a1), (5, .int a2), (7, .int a4)]) rfl ?_
      refine g_iload X dX6_longestCalm_63 (q := 65) rfl 0 rfl ?_
      refine g_iload X dX6_longestCalm_65 (q := 67) rfl 5 rfl ?_
      refine jnW2 (fun (a6 : Int32) (a7 : Int32) => WG (KC D cA cL h Z) p l e (rmD 7) st m args below meth c Q 8 y1.2 88 [(0, .ref (h 71)), (1, .int x1), (2, .int x2), (3, .int x3), (4, .int a6), (5, .int a7), (6, .int a5), (7, .int a4)] []) hs (fun a6 a7 hs => ?_) (fun j2 ih3 hs => ?_)
      · refine g_aload_n X dX6_longestCalm_88 (q := 89) rfl 0 rfl ?_
        refine cg_6_3 X dX6_longestCalm_89 (q := 92) rfl sh_71 lf_X6_30 ?_
        refine g_aload_n X dX6_longestCalm_92 (q := 93) rfl 0 rfl ?_
        refine cg_6_2 X dX6_longestCalm_93 (q := 96) rfl sh_71 lf_X6_12 ?_
        refine vc_X8_dusk_t_X6 hZ X dX6_longestCalm_96 (q := 99) rfl (Nat.le_of_ble_eq_true rfl) (Nat.le_of_ble_eq_true rfl) (Nat.le_of_ble_eq_true rfl) hs (fun s3 hs => ?_)
        refine g_iinc X dX6_longestCalm_99 (q := 102) rfl 7 rfl (v := (a4 + (1 : Int32))) (congrArg (HAdd.hAdd a4) li_i1) (Nat.le_of_ble_eq_true rfl) (lv' := [(7, .int (a4 + (1 : Int32))), (0, .ref (h 71)), (1, .int x1), (2, .int x2), (3, .int x3), (4, .int a6), (5, .int a7), (6, .int a5)]) rfl ?_
        refine g_goto X dX6_longestCalm_102 (tgt := 23) (by decide) ?_
        exact wg_sub [1, 2, 3, 4, 5, 6, 7, 0] rfl (ih1 _ _ _ _ _ hs)
      refine g_icmp_le X dX6_longestCalm_67 (q := 70) rfl (tgt := 88) (by decide) hs ?_ ?_
      · intro hs
        exact wg_sub [1, 2, 3, 4, 5, 6, 0, 7] rfl (ih3 _ _ hs)
      · intro hs
        refine g_iload X dX6_longestCalm_70 (q := 72) rfl 0 rfl ?_
        refine g_istore X dX6_longestCalm_72 (q := 74) rfl (Nat.le_of_ble_eq_true rfl) (lv' := [(4, .int a5), (6, .int a5), (0, .ref (h 71)), (1, .int x1), (2, .int x2), (3, .int x3), (5, .int a2), (7, .int a4)]) rfl ?_
        refine g_aload_n X dX6_longestCalm_74 (q := 75) rfl 2 rfl ?_
        refine cg_6_2 X dX6_longestCalm_75 (q := 78) rfl sh_71 lf_X6_12 ?_
        refine cgN_1_2 hZ X dX6_longestCalm_78 (q := 81) rfl sh_72 lf_X6_81 ?_
        refine g_iload X dX6_longestCalm_81 (q := 83) rfl 1 rfl ?_
        refine g_isub X dX6_longestCalm_83 (q := 84) rfl ?_
        refine g_iconst X dX6_longestCalm_84 (q := 85) rfl li_i1 ?_
        refine g_iadd X dX6_longestCalm_85 (q := 86) rfl ?_
        refine nmI hs (fun y3 hs => ?_)
        refine g_istore X dX6_longestCalm_86 (q := 88) rfl (Nat.le_of_ble_eq_true rfl) (lv' := [(5, .int y3), (4, .int a5), (6, .int a5), (0, .ref (h 71)), (1, .int x1), (2, .int x2), (3, .int x3), (7, .int a4)]) rfl ?_
        exact wg_sub [3, 4, 5, 6, 1, 0, 2, 7] rfl (ih3 _ _ hs)
    refine g_if_eq X dX6_longestCalm_50 (q := 53) rfl (tgt := 57) (by decide) hs ?_ ?_
    · intro hs
      refine g_iload X dX6_longestCalm_57 (q := 59) rfl 6 rfl ?_
      refine g_iconst X dX6_longestCalm_59 (q := 60) rfl li_i1 ?_
      refine g_iadd X dX6_longestCalm_60 (q := 61) rfl ?_
      exact wg_sub [0, 1, 2, 3, 4, 5, 7] rfl (ih2 _ hs)
    · intro hs
      refine g_iconst X dX6_longestCalm_53 (q := 54) rfl li_i0 ?_
      refine g_goto X dX6_longestCalm_54 (tgt := 61) (by decide) ?_
      exact wg_sub [0, 1, 2, 3, 4, 5, 7] rfl (ih2 _ hs)
theorem dX7_forget_0 : decode cX7_forget 0 = .ok (.aload_n 0, 1) := by decide +kernel
theorem dX7_forget_1 : decode cX7_forget 1 = .ok (.getfield 14, 3) := by decide +kernel
theorem dX7_forget_4 : decode cX7_forget 4 = .ok (.invokevirtual 36, 3) := by decide +kernel
theorem dX7_forget_7 : decode cX7_forget 7 = .ok (.aload_n 0, 1) := by decide +kernel
theorem dX7_forget_8 : decode cX7_forget 8 = .ok (.getfield 20, 3) := by decide +kernel
theorem dX7_forget_11 : decode cX7_forget 11 = .ok (.invokevirtual 36, 3) := by decide +kernel
theorem dX7_forget_14 : decode cX7_forget 14 = .ok (.aload_n 0, 1) := by decide +kernel
theorem dX7_forget_15 : decode cX7_forget 15 = .ok (.getfield 26, 3) := by decide +kernel
theorem dX7_forget_18 : decode cX7_forget 18 = .ok (.invokevirtual 39, 3) := by decide +kernel
theorem dX7_forget_21 : decode cX7_forget 21 = .ok (.aload_n 0, 1) := by decide +kernel
theorem dX7_forget_22 : decode cX7_forget 22 = .ok (.getfield 30, 3) := by decide +kernel
theorem dX7_forget_25 : decode cX7_forget 25 = .ok (.invokevirtual 36, 3) := by decide +kernel
theorem dX7_forget_28 : decode cX7_forget 28 = .ok (.aload_n 0, 1) := by decide +kernel
theorem dX7_forget_29 : decode cX7_forget 29 = .ok (.getfield 33, 3) := by decide +kernel
theorem dX7_forget_32 : decode cX7_forget 32 = .ok (.invokevirtual 36, 3) := by decide +kernel
theorem dX7_forget_35 : decode cX7_forget 35 = .ok (.return_, 1) := by decide +kernel
theorem wX2_clear_X7 : Cond.methodLinkNest RX7 39 yX2_clear "StormSeeds" ∈ NW := nw_of 601 (by decide +kernel) rfl
theorem vc_X2_clear_X7 {p : Program} {l : Launch} {e : Env} {st : State} {m : MethodId} {args : Array Value} {below : List Frame} {meth : Method} {c : Code} {Q : State → Prop} {nL : Nat} {cc : ByteArray} {s : ST} {pc q : Nat} {lv : List (Nat × Value)} {rest : List Value} {D : va_G} {cA cL : ClassId} {h : Nat → Nat} {Z : State → Heap → Prop} {sa : Nat → Nat} (hZ : ZK h Z sa) {d0 : Nat} (X : Cx (KC D cA cL h Z) p st m args meth c cc nL RX7) {b0 : Nat} (d : decode cc pc = .ok (.invokevirtual 39, 3)) (hq : pc + 3 = q) (hb0 : isK 2 b0) (hd1 : 2 + 1 ≤ d0) (hd2 : 8 + (1 + 11) + 100 * 2 ≤ 100 * d0) (hr : (rest.map fun v => v.category).sum ≤ 8) {B : Type} {f : ST → B} {r : B} (hs : Lt (C_X2_clear s b0) f = r) (k : ∀ y, f y = r → WG (KC D cA cL h Z) p l e (rmD d0) st m args below meth c Q nL y q lv (rest)) : WG (KC D cA cL h Z) p l e (rmD d0) st m args below meth c Q nL s pc lv (.ref (h b0) :: rest) := by
  exact cVN_V (K := KC D cA cL h Z) X b0 (n := 0) (k_X2_clear hZ l D cA cL s b0 hb0) (gt_c (gt_of 604 (by decide +kernel) rfl) gt_t) (hZ.1 st st.heap X.2.2.2 _ wX2_clear_X7) (gt_of 201 (by decide +kernel) rfl) (gt_of 603 (by decide +kernel) rfl) (gt_of 5 (by decide +kernel) rfl) ⟨hd1, hd2⟩ ⟨by decide, by decide, by decide +kernel⟩ (As := []) rfl hr (hb0).1 (fs := cF2 h b0 (s.1 b0) (s.2 b0)) (GC_2 (cA := cA) (cL := cL) hb0 _ _) rfl rfl d hq (k _ hs)
theorem wX4_clear_X7 : Cond.methodLinkNest RX7 36 yX4_clear "StormSeeds" ∈ NW := nw_of 597 (by decide +kernel) rfl
theorem vc_X4_clear_X7 {p : Program} {l : Launch} {e : Env} {st : State} {m : MethodId} {args : Array Value} {below : List Frame} {meth : Method} {c : Code} {Q : State → Prop} {nL : Nat} {cc : ByteArray} {s : ST} {pc q : Nat} {lv : List (Nat × Value)} {rest : List Value} {D : va_G} {cA cL : ClassId} {h : Nat → Nat} {Z : State → Heap → Prop} {sa : Nat → Nat} (hZ : ZK h Z sa) {d0 : Nat} (X : Cx (KC D cA cL h Z) p st m args meth c cc nL RX7) {b0 : Nat} (d : decode cc pc = .ok (.invokevirtual 36, 3)) (hq : pc + 3 = q) (hb0 : isK 4 b0) (hd1 : 1 + 1 ≤ d0) (hd2 : 8 + (1 + 11) + 100 * 1 ≤ 100 * d0) (hr : (rest.map fun v => v.category).sum ≤ 8) {B : Type} {f : ST → B} {r : B} (hs : Lt (C_X4_clear s b0) f = r) (k : ∀ y, f y = r → WG (KC D cA cL h Z) p l e (rmD d0) st m args below meth c Q nL y q lv (rest)) : WG (KC D cA cL h Z) p l e (rmD d0) st m args below meth c Q nL s pc lv (.ref (h b0) :: rest) := by
  exact cVN_V (K := KC D cA cL h Z) X b0 (n := 0) (k_X4_clear hZ l D cA cL s b0 hb0) (gt_c (gt_of 600 (by decide +kernel) rfl) gt_t) (hZ.1 st st.heap X.2.2.2 _ wX4_clear_X7) (gt_of 199 (by decide +kernel) rfl) (gt_of 599 (by decide +kernel) rfl) (gt_of 4 (by decide +kernel) rfl) ⟨hd1, hd2⟩ ⟨by decide, by decide, by decide +kernel⟩ (As := []) rfl hr (hb0).1 (fs := cF4 h b0 (s.1 b0) (s.2 b0)) (GC_4 (cA := cA) (cL := cL) hb0 _ _) rfl rfl d hq (k _ hs)
def C_X7_forget (s : ST) (b0 : Nat) : ST := Lt (C_X4_clear s (b0 + 1)) fun s1 => Lt (C_X4_clear s1 (b0 + 3)) fun s2 => Lt (C_X2_clear s2 (b0 + 5)) fun s3 => Lt (C_X4_clear s3 (b0 + 11)) fun s4 => Lt (C_X4_clear s4 (b0 + 13)) fun s5 => s5
set_option maxRecDepth 100000 in
set_option maxHeartbeats 4000000 in
theorem k_X7_forget {h : Nat → Nat} {Z : State → Heap → Prop} {sa : Nat → Nat} (hZ : ZK h Z sa) (l : Launch) (D : va_G) (cA cL : ClassId) (s : ST) (b0 : Nat) (hb0 : isK 7 b0) : MV l (KC D cA cL h Z) 3 yX7_forget cX7_forget 1 none s [.ref (h b0)] (C_X7_forget s b0) := by
  refine met_v (by decide) (Nat.le_of_ble_eq_true rfl) ?_
  intro p e st m args below meth c Q X RI
  generalize hs : C_X7_forget s b0 = o at RI
  unfold C_X7_forget at hs
  refine g_aload_n X dX7_forget_0 (q := 1) rfl 0 rfl ?_
  refine cg_7_0 X dX7_forget_1 (q := 4) rfl hb0 lf_X7_14 ?_
  refine vc_X4_clear_X7 hZ X dX7_forget_4 (q := 7) rfl (sub_X7_kinds hb0) (Nat.le_of_ble_eq_true rfl) (Nat.le_of_ble_eq_true rfl) (Nat.le_of_ble_eq_true rfl) hs (fun s1 hs => ?_)
  refine g_aload_n X dX7_forget_7 (q := 8) rfl 0 rfl ?_
  refine cg_7_1 X dX7_forget_8 (q := 11) rfl hb0 lf_X7_20 ?_
  refine vc_X4_clear_X7 hZ X dX7_forget_11 (q := 14) rfl (sub_X7_crossings hb0) (Nat.le_of_ble_eq_true rfl) (Nat.le_of_ble_eq_true rfl) (Nat.le_of_ble_eq_true rfl) hs (fun s2 hs => ?_)
  refine g_aload_n X dX7_forget_14 (q := 15) rfl 0 rfl ?_
  refine cg_7_2 X dX7_forget_15 (q := 18) rfl hb0 lf_X7_26 ?_
  refine vc_X2_clear_X7 hZ X dX7_forget_18 (q := 21) rfl (sub_X7_law hb0) (Nat.le_of_ble_eq_true rfl) (Nat.le_of_ble_eq_true rfl) (Nat.le_of_ble_eq_true rfl) hs (fun s3 hs => ?_)
  refine g_aload_n X dX7_forget_21 (q := 22) rfl 0 rfl ?_
  refine cg_7_3 X dX7_forget_22 (q := 25) rfl hb0 lf_X7_30 ?_
  refine vc_X4_clear_X7 hZ X dX7_forget_25 (q := 28) rfl (sub_X7_wants hb0) (Nat.le_of_ble_eq_true rfl) (Nat.le_of_ble_eq_true rfl) (Nat.le_of_ble_eq_true rfl) hs (fun s4 hs => ?_)
  refine g_aload_n X dX7_forget_28 (q := 29) rfl 0 rfl ?_
  refine cg_7_4 X dX7_forget_29 (q := 32) rfl hb0 lf_X7_33 ?_
  refine vc_X4_clear_X7 hZ X dX7_forget_32 (q := 35) rfl (sub_X7_plan hb0) (Nat.le_of_ble_eq_true rfl) (Nat.le_of_ble_eq_true rfl) (Nat.le_of_ble_eq_true rfl) hs (fun s5 hs => ?_)
  exact RI _ 35 _ hs dX7_forget_35
theorem dX7_copy_0 : decode cX7_copy 0 = .ok (.aload_n 0, 1) := by decide +kernel
theorem dX7_copy_1 : decode cX7_copy 1 = .ok (.getfield 14, 3) := by decide +kernel
theorem dX7_copy_4 : decode cX7_copy 4 = .ok (.aload_n 1, 1) := by decide +kernel
theorem dX7_copy_5 : decode cX7_copy 5 = .ok (.getfield 14, 3) := by decide +kernel
theorem dX7_copy_8 : decode cX7_copy 8 = .ok (.invokevirtual 40, 3) := by decide +kernel
theorem dX7_copy_11 : decode cX7_copy 11 = .ok (.aload_n 0, 1) := by decide +kernel
theorem dX7_copy_12 : decode cX7_copy 12 = .ok (.getfield 20, 3) := by decide +kernel
theorem dX7_copy_15 : decode cX7_copy 15 = .ok (.aload_n 1, 1) := by decide +kernel
theorem dX7_copy_16 : decode cX7_copy 16 = .ok (.getfield 20, 3) := by decide +kernel
theorem dX7_copy_19 : decode cX7_copy 19 = .ok (.invokevirtual 40, 3) := by decide +kernel
theorem dX7_copy_22 : decode cX7_copy 22 = .ok (.aload_n 0, 1) := by decide +kernel
theorem dX7_copy_23 : decode cX7_copy 23 = .ok (.getfield 26, 3) := by decide +kernel
theorem dX7_copy_26 : decode cX7_copy 26 = .ok (.aload_n 1, 1) := by decide +kernel
theorem dX7_copy_27 : decode cX7_copy 27 = .ok (.getfield 26, 3) := by decide +kernel
theorem dX7_copy_30 : decode cX7_copy 30 = .ok (.invokevirtual 44, 3) := by decide +kernel
theorem dX7_copy_33 : decode cX7_copy 33 = .ok (.aload_n 0, 1) := by decide +kernel
theorem dX7_copy_34 : decode cX7_copy 34 = .ok (.getfield 30, 3) := by decide +kernel
theorem dX7_copy_37 : decode cX7_copy 37 = .ok (.aload_n 1, 1) := by decide +kernel
theorem dX7_copy_38 : decode cX7_copy 38 = .ok (.getfield 30, 3) := by decide +kernel
theorem dX7_copy_41 : decode cX7_copy 41 = .ok (.invokevirtual 40, 3) := by decide +kernel
theorem dX7_copy_44 : decode cX7_copy 44 = .ok (.aload_n 0, 1) := by decide +kernel
theorem dX7_copy_45 : decode cX7_copy 45 = .ok (.getfield 33, 3) := by decide +kernel
theorem dX7_copy_48 : decode cX7_copy 48 = .ok (.aload_n 1, 1) := by decide +kernel
theorem dX7_copy_49 : decode cX7_copy 49 = .ok (.getfield 33, 3) := by decide +kernel
theorem dX7_copy_52 : decode cX7_copy 52 = .ok (.invokevirtual 40, 3) := by decide +kernel
theorem dX7_copy_55 : decode cX7_copy 55 = .ok (.return_, 1) := by decide +kernel
theorem wX2_copy_X7 : Cond.methodLinkNest RX7 44 yX2_copy "StormSeeds" ∈ NW := nw_of 1271 (by decide +kernel) rfl
theorem vc_X2_copy_X7 {p : Program} {l : Launch} {e : Env} {st : State} {m : MethodId} {args : Array Value} {below : List Frame} {meth : Method} {c : Code} {Q : State → Prop} {nL : Nat} {cc : ByteArray} {s : ST} {pc q : Nat} {lv : List (Nat × Value)} {rest : List Value} {D : va_G} {cA cL : ClassId} {h : Nat → Nat} {Z : State → Heap → Prop} {sa : Nat → Nat} (hZ : ZK h Z sa) {d0 : Nat} (X : Cx (KC D cA cL h Z) p st m args meth c cc nL RX7) {b0 : Nat} {x1 : Nat} (d : decode cc pc = .ok (.invokevirtual 44, 3)) (hq : pc + 3 = q) (hb0 : isK 2 b0) (hx1 : isK 2 x1) (hd1 : 3 + 1 ≤ d0) (hd2 : 8 + (2 + 11) + 100 * 3 ≤ 100 * d0) (hr : (rest.map fun v => v.category).sum ≤ 8) {B : Type} {f : ST → Option B} {r : B} (hs : Bd (C_X2_copy s b0 x1) f = some r) (k : ∀ y, f y = some r → WG (KC D cA cL h Z) p l e (rmD d0) st m args below meth c Q nL y q lv (rest)) : WG (KC D cA cL h Z) p l e (rmD d0) st m args below meth c Q nL s pc lv (.ref (h x1) :: .ref (h b0) :: rest) := by
  obtain ⟨v, hv, hs⟩ := Bd_e hs
  exact cVN_V (K := KC D cA cL h Z) X b0 (n := 1) (k_X2_copy hZ l D cA cL s b0 x1 hb0 hx1 hv) (gt_c (gt_of 862 (by decide +kernel) rfl) gt_t) (hZ.1 st st.heap X.2.2.2 _ wX2_copy_X7) (gt_of 201 (by decide +kernel) rfl) (gt_of 861 (by decide +kernel) rfl) (gt_of 42 (by decide +kernel) rfl) ⟨hd1, hd2⟩ ⟨by decide, by decide, by decide +kernel⟩ (As := [.ref (h x1)]) rfl hr (hb0).1 (fs := cF2 h b0 (s.1 b0) (s.2 b0)) (GC_2 (cA := cA) (cL := cL) hb0 _ _) rfl rfl d hq (k _ hs)
theorem wX4_copy_X7 : Cond.methodLinkNest RX7 40 yX4_copy "StormSeeds" ∈ NW := nw_of 1270 (by decide +kernel) rfl
theorem vc_X4_copy_X7 {p : Program} {l : Launch} {e : Env} {st : State} {m : MethodId} {args : Array Value} {below : List Frame} {meth : Method} {c : Code} {Q : State → Prop} {nL : Nat} {cc : ByteArray} {s : ST} {pc q : Nat} {lv : List (Nat × Value)} {rest : List Value} {D : va_G} {cA cL : ClassId} {h : Nat → Nat} {Z : State → Heap → Prop} {sa : Nat → Nat} (hZ : ZK h Z sa) {d0 : Nat} (X : Cx (KC D cA cL h Z) p st m args meth c cc nL RX7) {b0 : Nat} {x1 : Nat} (d : decode cc pc = .ok (.invokevirtual 40, 3)) (hq : pc + 3 = q) (hb0 : isK 4 b0) (hx1 : isK 4 x1) (hd1 : 2 + 1 ≤ d0) (hd2 : 8 + (3 + 11) + 100 * 2 ≤ 100 * d0) (hr : (rest.map fun v => v.category).sum ≤ 8) {B : Type} {f : ST → Option B} {r : B} (hs : Bd (C_X4_copy s b0 x1) f = some r) (k : ∀ y, f y = some r → WG (KC D cA cL h Z) p l e (rmD d0) st m args below meth c Q nL y q lv (rest)) : WG (KC D cA cL h Z) p l e (rmD d0) st m args below meth c Q nL s pc lv (.ref (h x1) :: .ref (h b0) :: rest) := by
  obtain ⟨v, hv, hs⟩ := Bd_e hs
  exact cVN_V (K := KC D cA cL h Z) X b0 (n := 1) (k_X4_copy hZ l D cA cL s b0 x1 hb0 hx1 hv) (gt_c (gt_of 803 (by decide +kernel) rfl) gt_t) (hZ.1 st st.heap X.2.2.2 _ wX4_copy_X7) (gt_of 199 (by decide +kernel) rfl) (gt_of 802 (by decide +kernel) rfl) (gt_of 34 (by decide +kernel) rfl) ⟨hd1, hd2⟩ ⟨by decide, by decide, by decide +kernel⟩ (As := [.ref (h x1)]) rfl hr (hb0).1 (fs := cF4 h b0 (s.1 b0) (s.2 b0)) (GC_4 (cA := cA) (cL := cL) hb0 _ _) rfl rfl d hq (k _ hs)
def C_X7_copy (s : ST) (b0 : Nat) (x1 : Nat) : Option (ST) := Bd (C_X4_copy s (b0 + 1) (x1 + 1)) fun s1 => Bd (C_X4_copy s1 (b0 + 3) (x1 + 3)) fun s2 => Bd (C_X2_copy s2 (b0 + 5) (x1 + 5)) fun s3 => Bd (C_X4_copy s3 (b0 + 11) (x1 + 11)) fun s4 => Bd (C_X4_copy s4 (b0 + 13) (x1 + 13)) fun s5 => some s5
set_option maxRecDepth 100000 in
set_option maxHeartbeats 4000000 in
theorem k_X7_copy {h : Nat → Nat} {Z : State → Heap → Prop} {sa : Nat → Nat} (hZ : ZK h Z sa) (l : Launch) (D : va_G) (cA cL : ClassId) (s : ST) (b0 : Nat) (x1 : Nat) (hb0 : isK 7 b0) (hx1 : isK 7 x1) {o : ST} (hs : C_X7_copy s b0 x1 = some o) : MV l (KC D cA cL h Z) 4 yX7_copy cX7_copy 2 none s [.ref (h b0), .ref (h x1)] o := by
  refine met_v (by decide) (Nat.le_of_ble_eq_true rfl) ?_
  intro p e st m args below meth c Q X RI
  unfold C_X7_copy at hs
  refine g_aload_n X dX7_copy_0 (q := 1) rfl 0 rfl ?_
  refine cg_7_0 X dX7_copy_1 (q := 4) rfl hb0 lf_X7_14 ?_
  refine g_aload_n X dX7_copy_4 (q := 5) rfl 1 rfl ?_
  refine cg_7_0 X dX7_copy_5 (q := 8) rfl hx1 lf_X7_14 ?_
  refine vc_X4_copy_X7 hZ X dX7_copy_8 (q := 11) rfl (sub_X7_kinds hb0) (sub_X7_kinds hx1) (Nat.le_of_ble_eq_true rfl) (Nat.le_of_ble_eq_true rfl) (Nat.le_of_ble_eq_true rfl) hs (fun s1 hs => ?_)
  refine g_aload_n X dX7_copy_11 (q := 12) rfl 0 rfl ?_
  refine cg_7_1 X dX7_copy_12 (q := 15) rfl hb0 lf_X7_20 ?_
  refine g_aload_n X dX7_copy_15 (q := 16) rfl 1 rfl ?_
  refine cg_7_1 X dX7_copy_16 (q := 19) rfl hx1 lf_X7_20 ?_
  refine vc_X4_copy_X7 hZ X dX7_copy_19 (q := 22) rfl (sub_X7_crossings hb0) (sub_X7_crossings hx1) (Nat.le_of_ble_eq_true rfl) (Nat.le_of_ble_eq_true rfl) (Nat.le_of_ble_eq_true rfl) hs (fun s2 hs => ?_)
  refine g_aload_n X dX7_copy_22 (q := 23) rfl 0 rfl ?_
  refine cg_7_2 X dX7_copy_23 (q := 26) rfl hb0 lf_X7_26 ?_
  refine g_aload_n X dX7_copy_26 (q := 27) rfl 1 rfl ?_
  refine cg_7_2 X dX7_copy_27 (q := 30) rfl hx1 lf_X7_26 ?_
  refine vc_X2_copy_X7 hZ X dX7_copy_30 (q := 33) rfl (sub_X7_law hb0) (sub_X7_law hx1) (Nat.le_of_ble_eq_true rfl) (Nat.le_of_ble_eq_true rfl) (Nat.le_of_ble_eq_true rfl) hs (fun s3 hs => ?_)
  refine g_aload_n X dX7_copy_33 (q := 34) rfl 0 rfl ?_
  refine cg_7_3 X dX7_copy_34 (q := 37) rfl hb0 lf_X7_30 ?_
  refine g_aload_n X dX7_copy_37 (q := 38) rfl 1 rfl ?_
  refine cg_7_3 X dX7_copy_38 (q := 41) rfl hx1 lf_X7_30 ?_
  refine vc_X4_copy_X7 hZ X dX7_copy_41 (q := 44) rfl (sub_X7_wants hb0) (sub_X7_wants hx1) (Nat.le_of_ble_eq_true rfl) (Nat.le_of_ble_eq_true rfl) (Nat.le_of_ble_eq_true rfl) hs (fun s4 hs => ?_)
  refine g_aload_n X dX7_copy_44 (q := 45) rfl 0 rfl ?_
  refine cg_7_4 X dX7_copy_45 (q := 48) rfl hb0 lf_X7_33 ?_
  refine g_aload_n X dX7_copy_48 (q := 49) rfl 1 rfl ?_
  refine cg_7_4 X dX7_copy_49 (q := 52) rfl hx1 lf_X7_33 ?_
  refine vc_X4_copy_X7 hZ X dX7_copy_52 (q := 55) rfl (sub_X7_plan hb0) (sub_X7_plan hx1) (Nat.le_of_ble_eq_true rfl) (Nat.le_of_ble_eq_true rfl) (Nat.le_of_ble_eq_true rfl) hs (fun s5 hs => ?_)
  exact RI _ 55 _ (Option.some.inj hs) dX7_copy_55
theorem dX7_isSetOfKinds_0 : decode cX7_isSetOfKinds 0 = .ok (.iload_n 1, 1) := by decide +kernel
theorem dX7_isSetOfKinds_1 : decode cX7_isSetOfKinds 1 = .ok (.iconst 1, 1) := by decide +kernel
theorem dX7_isSetOfKinds_2 : decode cX7_isSetOfKinds 2 = .ok (.aload_n 0, 1) := by decide +kernel
theorem dX7_isSetOfKinds_3 : decode cX7_isSetOfKinds 3 = .ok (.getfield 14, 3) := by decide +kernel
theorem dX7_isSetOfKinds_6 : decode cX7_isSetOfKinds 6 = .ok (.getfield 51, 3) := by decide +kernel
theorem dX7_isSetOfKinds_9 : decode cX7_isSetOfKinds 9 = .ok (.ishl, 1) := by decide +kernel
theorem dX7_isSetOfKinds_10 : decode cX7_isSetOfKinds 10 = .ok (.ineg, 1) := by decide +kernel
theorem dX7_isSetOfKinds_11 : decode cX7_isSetOfKinds 11 = .ok (.iand, 1) := by decide +kernel
theorem dX7_isSetOfKinds_12 : decode cX7_isSetOfKinds 12 = .ok (.ifCond .ne 7, 3) := by decide +kernel
theorem dX7_isSetOfKinds_15 : decode cX7_isSetOfKinds 15 = .ok (.iconst 1, 1) := by decide +kernel
theorem dX7_isSetOfKinds_16 : decode cX7_isSetOfKinds 16 = .ok (.goto 4, 3) := by decide +kernel
theorem dX7_isSetOfKinds_19 : decode cX7_isSetOfKinds 19 = .ok (.iconst 0, 1) := by decide +kernel
theorem dX7_isSetOfKinds_20 : decode cX7_isSetOfKinds 20 = .ok (.ireturn, 1) := by decide +kernel
def C_X7_isSetOfKinds (s : ST) (b0 : Nat) (x1 : Int32) : Int32 := if (x1 &&& (-((1 : Int32) <<< ((s.1 (b0 + 1) 2) &&& 31)))) = 0 then ((1 : Int32)) else ((0 : Int32))
set_option maxRecDepth 100000 in
set_option maxHeartbeats 4000000 in
theorem k_X7_isSetOfKinds {h : Nat → Nat} {Z : State → Heap → Prop} {sa : Nat → Nat} (hZ : ZK h Z sa) (l : Launch) (D : va_G) (cA cL : ClassId) (s : ST) (b0 : Nat) (x1 : Int32) (hb0 : isK 7 b0) : MI l (KC D cA cL h Z) 1 yX7_isSetOfKinds cX7_isSetOfKinds 2 (some .boolean) s [.ref (h b0), .int x1] (C_X7_isSetOfKinds s b0 x1) s := by
  refine met_i (by decide) (Nat.le_of_ble_eq_true rfl) ?_
  intro p e st m args below meth c Q X RI
  generalize hs : C_X7_isSetOfKinds s b0 x1 = o at RI
  unfold C_X7_isSetOfKinds at hs
  refine g_iload_n X dX7_isSetOfKinds_0 (q := 1) rfl 1 rfl ?_
  refine g_iconst X dX7_isSetOfKinds_1 (q := 2) rfl li_i1 ?_
  refine g_aload_n X dX7_isSetOfKinds_2 (q := 3) rfl 0 rfl ?_
  refine cg_7_0 X dX7_isSetOfKinds_3 (q := 6) rfl hb0 lf_X7_14 ?_
  refine cgN_4_2 hZ X dX7_isSetOfKinds_6 (q := 9) rfl (sub_X7_kinds hb0) lf_X7_51 ?_
  refine g_ishl X dX7_isSetOfKinds_9 (q := 10) rfl ?_
  refine g_ineg X dX7_isSetOfKinds_10 (q := 11) rfl ?_
  refine g_iand X dX7_isSetOfKinds_11 (q := 12) rfl ?_
  refine g_if_ne X dX7_isSetOfKinds_12 (q := 15) rfl (tgt := 19) (by decide) hs ?_ ?_
  · intro hs
    refine g_iconst X dX7_isSetOfKinds_19 (q := 20) rfl li_i0 ?_
    exact RI _ 20 _ _ _ rfl rfl hs dX7_isSetOfKinds_20
  · intro hs
    refine g_iconst X dX7_isSetOfKinds_15 (q := 16) rfl li_i1 ?_
    refine g_goto X dX7_isSetOfKinds_16 (tgt := 20) (by decide) ?_
    exact RI _ 20 _ _ _ rfl rfl hs dX7_isSetOfKinds_20
theorem dX7_nextGeneration_0 : decode cX7_nextGeneration 0 = .ok (.iload_n 1, 1) := by decide +kernel
theorem dX7_nextGeneration_1 : decode cX7_nextGeneration 1 = .ok (.istore_n 2, 1) := by decide +kernel
theorem dX7_nextGeneration_2 : decode cX7_nextGeneration 2 = .ok (.iconst 0, 1) := by decide +kernel
theorem dX7_nextGeneration_3 : decode cX7_nextGeneration 3 = .ok (.istore_n 3, 1) := by decide +kernel
theorem dX7_nextGeneration_4 : decode cX7_nextGeneration 4 = .ok (.iload_n 3, 1) := by decide +kernel
theorem dX7_nextGeneration_5 : decode cX7_nextGeneration 5 = .ok (.aload_n 0, 1) := by decide +kernel
theorem dX7_nextGeneration_6 : decode cX7_nextGeneration 6 = .ok (.getfield 20, 3) := by decide +kernel
theorem dX7_nextGeneration_9 : decode cX7_nextGeneration 9 = .ok (.getfield 51, 3) := by decide +kernel
theorem dX7_nextGeneration_12 : decode cX7_nextGeneration 12 = .ok (.if_icmp .ge 57, 3) := by decide +kernel
theorem dX7_nextGeneration_15 : decode cX7_nextGeneration 15 = .ok (.iload_n 1, 1) := by decide +kernel
theorem dX7_nextGeneration_16 : decode cX7_nextGeneration 16 = .ok (.i2l, 1) := by decide +kernel
theorem dX7_nextGeneration_17 : decode cX7_nextGeneration 17 = .ok (.aload_n 0, 1) := by decide +kernel
theorem dX7_nextGeneration_18 : decode cX7_nextGeneration 18 = .ok (.getfield 20, 3) := by decide +kernel
theorem dX7_nextGeneration_21 : decode cX7_nextGeneration 21 = .ok (.iload_n 3, 1) := by decide +kernel
theorem dX7_nextGeneration_22 : decode cX7_nextGeneration 22 = .ok (.iconst 0, 1) := by decide +kernel
theorem dX7_nextGeneration_23 : decode cX7_nextGeneration 23 = .ok (.invokevirtual 55, 3) := by decide +kernel
theorem dX7_nextGeneration_26 : decode cX7_nextGeneration 26 = .ok (.invokestatic 59, 3) := by decide +kernel
theorem dX7_nextGeneration_29 : decode cX7_nextGeneration 29 = .ok (.ifCond .eq 34, 3) := by decide +kernel
theorem dX7_nextGeneration_32 : decode cX7_nextGeneration 32 = .ok (.iload_n 1, 1) := by decide +kernel
theorem dX7_nextGeneration_33 : decode cX7_nextGeneration 33 = .ok (.i2l, 1) := by decide +kernel
theorem dX7_nextGeneration_34 : decode cX7_nextGeneration 34 = .ok (.aload_n 0, 1) := by decide +kernel
theorem dX7_nextGeneration_35 : decode cX7_nextGeneration 35 = .ok (.getfield 20, 3) := by decide +kernel
theorem dX7_nextGeneration_38 : decode cX7_nextGeneration 38 = .ok (.iload_n 3, 1) := by decide +kernel
theorem dX7_nextGeneration_39 : decode cX7_nextGeneration 39 = .ok (.iconst 1, 1) := by decide +kernel
theorem dX7_nextGeneration_40 : decode cX7_nextGeneration 40 = .ok (.invokevirtual 55, 3) := by decide +kernel
theorem dX7_nextGeneration_43 : decode cX7_nextGeneration 43 = .ok (.invokestatic 59, 3) := by decide +kernel
theorem dX7_nextGeneration_46 : decode cX7_nextGeneration 46 = .ok (.ifCond .eq 17, 3) := by decide +kernel
theorem dX7_nextGeneration_49 : decode cX7_nextGeneration 49 = .ok (.iload_n 2, 1) := by decide +kernel
theorem dX7_nextGeneration_50 : decode cX7_nextGeneration 50 = .ok (.iconst 1, 1) := by decide +kernel
theorem dX7_nextGeneration_51 : decode cX7_nextGeneration 51 = .ok (.aload_n 0, 1) := by decide +kernel
theorem dX7_nextGeneration_52 : decode cX7_nextGeneration 52 = .ok (.getfield 20, 3) := by decide +kernel
theorem dX7_nextGeneration_55 : decode cX7_nextGeneration 55 = .ok (.iload_n 3, 1) := by decide +kernel
theorem dX7_nextGeneration_56 : decode cX7_nextGeneration 56 = .ok (.iconst 2, 1) := by decide +kernel
theorem dX7_nextGeneration_57 : decode cX7_nextGeneration 57 = .ok (.invokevirtual 55, 3) := by decide +kernel
theorem dX7_nextGeneration_60 : decode cX7_nextGeneration 60 = .ok (.ishl, 1) := by decide +kernel
theorem dX7_nextGeneration_61 : decode cX7_nextGeneration 61 = .ok (.ior, 1) := by decide +kernel
theorem dX7_nextGeneration_62 : decode cX7_nextGeneration 62 = .ok (.istore_n 2, 1) := by decide +kernel
theorem dX7_nextGeneration_63 : decode cX7_nextGeneration 63 = .ok (.iinc 3 1, 3) := by decide +kernel
theorem dX7_nextGeneration_66 : decode cX7_nextGeneration 66 = .ok (.goto (-62), 3) := by decide +kernel
theorem dX7_nextGeneration_69 : decode cX7_nextGeneration 69 = .ok (.iload_n 2, 1) := by decide +kernel
theorem dX7_nextGeneration_70 : decode cX7_nextGeneration 70 = .ok (.ireturn, 1) := by decide +kernel
theorem wX9_isIn_X7 : Cond.methodLinkNest RX7 59 yX9_isIn "StormSeeds" ∈ NW := nw_of 1208 (by decide +kernel) rfl
theorem vc_X9_isIn_X7 {p : Program} {l : Launch} {e : Env} {st : State} {m : MethodId} {args : Array Value} {below : List Frame} {meth : Method} {c : Code} {Q : State → Prop} {nL : Nat} {cc : ByteArray} {s : ST} {pc q : Nat} {lv : List (Nat × Value)} {rest : List Value} {D : va_G} {cA cL : ClassId} {h : Nat → Nat} {Z : State → Heap → Prop} {sa : Nat → Nat} (hZ : ZK h Z sa) {d0 : Nat} (X : Cx (KC D cA cL h Z) p st m args meth c cc nL RX7) {x1 : Int64} {x2 : Int32} (d : decode cc pc = .ok (.invokestatic 59, 3)) (hq : pc + 3 = q) (hd1 : 1 + 1 ≤ d0) (hd2 : 8 + (3 + 11) + 100 * 1 ≤ 100 * d0) (hr : (rest.map fun v => v.category).sum ≤ 8) {B : Type} {f : Int32 → B} {r : B} (hs : Lt (C_X9_isIn s x1 x2) f = r) (k : ∀ y, f y = r → WG (KC D cA cL h Z) p l e (rmD d0) st m args below meth c Q nL s q lv (.int y :: rest)) : WG (KC D cA cL h Z) p l e (rmD d0) st m args below meth c Q nL s pc lv (.int x2 :: .long x1 :: rest) := by
  exact cSN_I (K := KC D cA cL h Z) X (n := 2) (k_X9_isIn hZ l D cA cL s x1 x2) (gt_c (gt_of 634 (by decide +kernel) rfl) gt_t) (hZ.1 st st.heap X.2.2.2 _ wX9_isIn_X7) (gt_of 196 (by decide +kernel) rfl) (gt_of 633 (by decide +kernel) rfl) ⟨hd1, hd2⟩ ⟨by decide, by decide, by decide +kernel⟩ (As := [.long x1, .int x2]) rfl hr rfl d hq (k _ hs)
def C_X7_nextGeneration (s : ST) (b0 : Nat) (x1 : Int32) : Option (Int32) := lpK2 (C := Int32) (fun (rec1 : Int32 → Int32 → Option (Int32)) (a1 : Int32) (a2 : Int32) => if (s.1 (b0 + 3) 2) ≤ a2 then (some a1) else (Bd (C_X4_of s (b0 + 3) a2 (0 : Int32)) fun y1 => Lt (C_X9_isIn s x1.toInt64 y1) fun y2 => Lt (fun (a3 : Int32) => (rec1 a3 (a2 + (1 : Int32)) : Option (Int32))) fun j1 => if y2 = 0 then (j1 a1) else (Bd (C_X4_of s (b0 + 3) a2 (1 : Int32)) fun y3 => Lt (C_X9_isIn s x1.toInt64 y3) fun y4 => if y4 = 0 then (j1 a1) else (Bd (C_X4_of s (b0 + 3) a2 (2 : Int32)) fun y5 => Lt ((a1 ||| ((1 : Int32) <<< (y5 &&& 31)))) fun y6 => j1 y6)))) FU x1 (0 : Int32)
set_option maxRecDepth 100000 in
set_option maxHeartbeats 4000000 in
theorem k_X7_nextGeneration {h : Nat → Nat} {Z : State → Heap → Prop} {sa : Nat → Nat} (hZ : ZK h Z sa) (l : Launch) (D : va_G) (cA cL : ClassId) (s : ST) (b0 : Nat) (x1 : Int32) (hb0 : isK 7 b0) {o : Int32} (hs : C_X7_nextGeneration s b0 x1 = some o) : MI l (KC D cA cL h Z) 3 yX7_nextGeneration cX7_nextGeneration 4 (some .int) s [.ref (h b0), .int x1] o s := by
  refine met_i (by decide) (Nat.le_of_ble_eq_true rfl) ?_
  intro p e st m args below meth c Q X RI
  unfold C_X7_nextGeneration at hs
  refine g_iload_n X dX7_nextGeneration_0 (q := 1) rfl 1 rfl ?_
  refine g_istore_n X dX7_nextGeneration_1 (q := 2) rfl (Nat.le_of_ble_eq_true rfl) (lv' := [(2, .int x1), (0, .ref (h b0)), (1, .int x1)]) rfl ?_
  refine g_iconst X dX7_nextGeneration_2 (q := 3) rfl li_i0 ?_
  refine g_istore_n X dX7_nextGeneration_3 (q := 4) rfl (Nat.le_of_ble_eq_true rfl) (lv' := [(3, .int (0 : Int32)), (2, .int x1), (0, .ref (h b0)), (1, .int x1)]) rfl ?_
  refine wg_sub [2, 3, 1, 0] rfl (lpW2 (fun (a1 : Int32) (a2 : Int32) => WG (KC D cA cL h Z) p l e (rmD 3) st m args below meth c Q 4 s 4 [(0, .ref (h b0)), (1, .int x1), (2, .int a1), (3, .int a2)] []) (fun rec1 ih1 a1 a2 hs => ?_) _ _ _ hs)
  refine g_iload_n X dX7_nextGeneration_4 (q := 5) rfl 3 rfl ?_
  refine g_aload_n X dX7_nextGeneration_5 (q := 6) rfl 0 rfl ?_
  refine cg_7_1 X dX7_nextGeneration_6 (q := 9) rfl hb0 lf_X7_20 ?_
  refine cgN_4_2 hZ X dX7_nextGeneration_9 (q := 12) rfl (sub_X7_crossings hb0) lf_X7_51 ?_
  refine g_icmp_ge X dX7_nextGeneration_12 (q := 15) rfl (tgt := 69) (by decide) hs ?_ ?_
  · intro hs
    refine g_iload_n X dX7_nextGeneration_69 (q := 70) rfl 2 rfl ?_
    exact RI _ 70 _ _ _ rfl rfl (Option.some.inj hs) dX7_nextGeneration_70
  · intro hs
    refine g_iload_n X dX7_nextGeneration_15 (q := 16) rfl 1 rfl ?_
    refine g_i2l X dX7_nextGeneration_16 (q := 17) rfl ?_
    refine g_aload_n X dX7_nextGeneration_17 (q := 18) rfl 0 rfl ?_
    refine cg_7_1 X dX7_nextGeneration_18 (q := 21) rfl hb0 lf_X7_20 ?_
    refine g_iload_n X dX7_nextGeneration_21 (q := 22) rfl 3 rfl ?_
    refine g_iconst X dX7_nextGeneration_22 (q := 23) rfl li_i0 ?_
    refine vc_X4_of_X7 hZ X dX7_nextGeneration_23 (q := 26) rfl (sub_X7_crossings hb0) (Nat.le_of_ble_eq_true rfl) (Nat.le_of_ble_eq_true rfl) (Nat.le_of_ble_eq_true rfl) hs (fun y1 hs => ?_)
    refine vc_X9_isIn_X7 hZ X dX7_nextGeneration_26 (q := 29) rfl (Nat.le_of_ble_eq_true rfl) (Nat.le_of_ble_eq_true rfl) (Nat.le_of_ble_eq_true rfl) hs (fun y2 hs => ?_)
    refine jnW1 (fun (a3 : Int32) => WG (KC D cA cL h Z) p l e (rmD 3) st m args below meth c Q 4 s 63 [(0, .ref (h b0)), (1, .int x1), (2, .int a3), (3, .int a2)] []) hs (fun a3 hs => ?_) (fun j1 ih2 hs => ?_)
    · refine g_iinc X dX7_nextGeneration_63 (q := 66) rfl 3 rfl (v := (a2 + (1 : Int32))) (congrArg (HAdd.hAdd a2) li_i1) (Nat.le_of_ble_eq_true rfl) (lv' := [(3, .int (a2 + (1 : Int32))), (0, .ref (h b0)), (1, .int x1), (2, .int a3)]) rfl ?_
      refine g_goto X dX7_nextGeneration_66 (tgt := 4) (by decide) ?_
      exact wg_sub [1, 2, 3, 0] rfl (ih1 _ _ hs)
    refine g_if_eq X dX7_nextGeneration_29 (q := 32) rfl (tgt := 63) (by decide) hs ?_ ?_
    · intro hs
      exact wg_sub [0, 1, 2, 3] rfl (ih2 _ hs)
    · intro hs
      refine g_iload_n X dX7_nextGeneration_32 (q := 33) rfl 1 rfl ?_
      refine g_i2l X dX7_nextGeneration_33 (q := 34) rfl ?_
      refine g_aload_n X dX7_nextGeneration_34 (q := 35) rfl 0 rfl ?_
      refine cg_7_1 X dX7_nextGeneration_35 (q := 38) rfl hb0 lf_X7_20 ?_
      refine g_iload_n X dX7_nextGeneration_38 (q := 39) rfl 3 rfl ?_
      refine g_iconst X dX7_nextGeneration_39 (q := 40) rfl li_i1 ?_
      refine vc_X4_of_X7 hZ X dX7_nextGeneration_40 (q := 43) rfl (sub_X7_crossings hb0) (Nat.le_of_ble_eq_true rfl) (Nat.le_of_ble_eq_true rfl) (Nat.le_of_ble_eq_true rfl) hs (fun y3 hs => ?_)
      refine vc_X9_isIn_X7 hZ X dX7_nextGeneration_43 (q := 46) rfl (Nat.le_of_ble_eq_true rfl) (Nat.le_of_ble_eq_true rfl) (Nat.le_of_ble_eq_true rfl) hs (fun y4 hs => ?_)
      refine g_if_eq X dX7_nextGeneration_46 (q := 49) rfl (tgt := 63) (by decide) hs ?_ ?_
      · intro hs
        exact wg_sub [0, 1, 2, 3] rfl (ih2 _ hs)
      · intro hs
        refine g_iload_n X dX7_nextGeneration_49 (q := 50) rfl 2 rfl ?_
        refine g_iconst X dX7_nextGeneration_50 (q := 51) rfl li_i1 ?_
        refine g_aload_n X dX7_nextGeneration_51 (q := 52) rfl 0 rfl ?_
        refine cg_7_1 X dX7_nextGeneration_52 (q := 55) rfl hb0 lf_X7_20 ?_
        refine g_iload_n X dX7_nextGeneration_55 (q := 56) rfl 3 rfl ?_
        refine g_iconst X dX7_nextGeneration_56 (q := 57) rfl li_i2 ?_
        refine vc_X4_of_X7 hZ X dX7_nextGeneration_57 (q := 60) rfl (sub_X7_crossings hb0) (Nat.le_of_ble_eq_true rfl) (Nat.le_of_ble_eq_true rfl) (Nat.le_of_ble_eq_true rfl) hs (fun y5 hs => ?_)
        refine g_ishl X dX7_nextGeneration_60 (q := 61) rfl ?_
        refine g_ior X dX7_nextGeneration_61 (q := 62) rfl ?_
        refine nmI hs (fun y6 hs => ?_)
        refine g_istore_n X dX7_nextGeneration_62 (q := 63) rfl (Nat.le_of_ble_eq_true rfl) (lv' := [(2, .int y6), (0, .ref (h b0)), (1, .int x1), (3, .int a2)]) rfl ?_
        exact wg_sub [1, 2, 0, 3] rfl (ih2 _ hs)
theorem wX4_add_X8 : Cond.methodLinkNest RX8 25 yX4_add "StormSeeds" ∈ NW := nw_of 943 (by decide +kernel) rfl
theorem vc_X4_add_X8 {p : Program} {l : Launch} {e : Env} {st : State} {m : MethodId} {args : Array Value} {below : List Frame} {meth : Method} {c : Code} {Q : State → Prop} {nL : Nat} {cc : ByteArray} {s : ST} {pc q : Nat} {lv : List (Nat × Value)} {rest : List Value} {D : va_G} {cA cL : ClassId} {h : Nat → Nat} {Z : State → Heap → Prop} {sa : Nat → Nat} (hZ : ZK h Z sa) {d0 : Nat} (X : Cx (KC D cA cL h Z) p st m args meth c cc nL RX8) {b0 : Nat} {x1 : Int32} {x2 : Int32} {x3 : Int32} {x4 : Int32} (d : decode cc pc = .ok (.invokevirtual 25, 3)) (hq : pc + 3 = q) (hb0 : isK 4 b0) (hd1 : 1 + 1 ≤ d0) (hd2 : 8 + (6 + 11) + 100 * 1 ≤ 100 * d0) (hr : (rest.map fun v => v.category).sum ≤ 8) {B : Type} {f : ST → Option B} {r : B} (hs : Bd (C_X4_add s b0 x1 x2 x3 x4) f = some r) (k : ∀ y, f y = some r → WG (KC D cA cL h Z) p l e (rmD d0) st m args below meth c Q nL y q lv (rest)) : WG (KC D cA cL h Z) p l e (rmD d0) st m args below meth c Q nL s pc lv (.int x4 :: .int x3 :: .int x2 :: .int x1 :: .ref (h b0) :: rest) := by
  obtain ⟨v, hv, hs⟩ := Bd_e hs
  exact cVN_V (K := KC D cA cL h Z) X b0 (n := 4) (k_X4_add hZ l D cA cL s b0 x1 x2 x3 x4 hb0 hv) (gt_c (gt_of 787 (by decide +kernel) rfl) gt_t) (hZ.1 st st.heap X.2.2.2 _ wX4_add_X8) (gt_of 199 (by decide +kernel) rfl) (gt_of 786 (by decide +kernel) rfl) (gt_of 31 (by decide +kernel) rfl) ⟨hd1, hd2⟩ ⟨by decide, by decide, by decide +kernel⟩ (As := [.int x1, .int x2, .int x3, .int x4]) rfl hr (hb0).1 (fs := cF4 h b0 (s.1 b0) (s.2 b0)) (GC_4 (cA := cA) (cL := cL) hb0 _ _) rfl rfl d hq (k _ hs)
def C_X8_note_r (s : ST) (x2 : Int32) (x3 : Int32) (x4 : Int32) : Option (ST) := Bd (C_X4_add s 23 (s.1 1 2) x2 x3 x4) fun s1 => some s1
set_option maxRecDepth 100000 in
set_option maxHeartbeats 4000000 in
theorem k_X8_note_r {h : Nat → Nat} {Z : State → Heap → Prop} {sa : Nat → Nat} (hZ : ZK h Z sa) (l : Launch) (D : va_G) (cA cL : ClassId) (s : ST) (x2 : Int32) (x3 : Int32) (x4 : Int32) {o : ST} (hs : C_X8_note_r s x2 x3 x4 = some o) : MV l (KC D cA cL h Z) 2 yX8_note cX8_note 5 none s [.ref (h 70), .ref (h 1), .int x2, .int x3, .int x4] o := by
  refine met_v (by decide) (Nat.le_of_ble_eq_true rfl) ?_
  intro p e st m args below meth c Q X RI
  unfold C_X8_note_r at hs
  refine g_aload_n X dX8_note_0 (q := 1) rfl 0 rfl ?_
  refine cg_8_1 X dX8_note_1 (q := 4) rfl sh_70 lf_X8_15 ?_
  refine g_ifnull X dX8_note_4 (q := 7) rfl ?_
  refine g_aload_n X dX8_note_7 (q := 8) rfl 0 rfl ?_
  refine cg_8_1 X dX8_note_8 (q := 11) rfl sh_70 lf_X8_15 ?_
  refine g_aload_n X dX8_note_11 (q := 12) rfl 1 rfl ?_
  refine cgN_1_2 hZ X dX8_note_12 (q := 15) rfl sh_1 lf_X8_19 ?_
  refine g_iload_n X dX8_note_15 (q := 16) rfl 2 rfl ?_
  refine g_iload_n X dX8_note_16 (q := 17) rfl 3 rfl ?_
  refine g_iload X dX8_note_17 (q := 19) rfl 4 rfl ?_
  refine vc_X4_add_X8 hZ X dX8_note_19 (q := 22) rfl sh_23 (Nat.le_of_ble_eq_true rfl) (Nat.le_of_ble_eq_true rfl) (Nat.le_of_ble_eq_true rfl) hs (fun s1 hs => ?_)
  exact RI _ 22 _ (Option.some.inj hs) dX8_note_22
theorem wX8_note_r_X8 : GoodIn GT (wsV RX8 44 RX8 yX8_note (.code yX8_note cX8_note 5 none :: GT)) := gt_V (gt_of 939 (by decide +kernel) rfl) (gt_of 941 (by decide +kernel) rfl) (gt_of 55 (by decide +kernel) rfl) (gt_of 204 (by decide +kernel) rfl) (gt_of 942 (by decide +kernel) rfl)
theorem vc_X8_note_r_X8 {p : Program} {l : Launch} {e : Env} {st : State} {m : MethodId} {args : Array Value} {below : List Frame} {meth : Method} {c : Code} {Q : State → Prop} {nL : Nat} {cc : ByteArray} {s : ST} {pc q : Nat} {lv : List (Nat × Value)} {rest : List Value} {D : va_G} {cA cL : ClassId} {h : Nat → Nat} {Z : State → Heap → Prop} {sa : Nat → Nat} (hZ : ZK h Z sa) {d0 : Nat} (X : Cx (KC D cA cL h Z) p st m args meth c cc nL RX8) {x2 : Int32} {x3 : Int32} {x4 : Int32} (d : decode cc pc = .ok (.invokevirtual 44, 3)) (hq : pc + 3 = q) (hd1 : 2 + 1 ≤ d0) (hd2 : 8 + (5 + 11) + 100 * 2 ≤ 100 * d0) (hr : (rest.map fun v => v.category).sum ≤ 8) {B : Type} {f : ST → Option B} {r : B} (hs : Bd (C_X8_note_r s x2 x3 x4) f = some r) (k : ∀ y, f y = some r → WG (KC D cA cL h Z) p l e (rmD d0) st m args below meth c Q nL y q lv (rest)) : WG (KC D cA cL h Z) p l e (rmD d0) st m args below meth c Q nL s pc lv (.int x4 :: .int x3 :: .int x2 :: .ref (h 1) :: .ref (h 70) :: rest) := by
  obtain ⟨v, hv, hs⟩ := Bd_e hs
  exact cV_V (K := KC D cA cL h Z) X 70 (n := 4) (k_X8_note_r hZ l D cA cL s x2 x3 x4 hv) wX8_note_r_X8 ⟨hd1, hd2⟩ ⟨by decide, by decide, by decide +kernel⟩ (As := [.ref (h 1), .int x2, .int x3, .int x4]) rfl hr (sh_70).1 (fs := cF8 h 70 (s.1 70) (s.2 70)) (GC_8 (cA := cA) (cL := cL) sh_70 _ _) rfl rfl d hq (k _ hs)
def C_X8_plant_r (s : ST) (x2 : Int32) (x3 : Int32) : Option (Int32 × ST) := Lt (C_X7_hasKind s 8 x2) fun y1 => if y1 = 0 then (some ((0 : Int32), s)) else (Lt (C_X1_isSowable s 1 x3) fun y2 => if y2 = 0 then (some ((0 : Int32), s)) else (Bd (C_X1_laySeed s 1 x2 x3) fun s1 => Bd (C_X8_note_r s1 (0 : Int32) x3 x2) fun s2 => some ((1 : Int32), s2)))
set_option maxRecDepth 100000 in
set_option maxHeartbeats 4000000 in
theorem k_X8_plant_r {h : Nat → Nat} {Z : State → Heap → Prop} {sa : Nat → Nat} (hZ : ZK h Z sa) (l : Launch) (D : va_G) (cA cL : ClassId) (s : ST) (x2 : Int32) (x3 : Int32) {o : Int32 × ST} (hs : C_X8_plant_r s x2 x3 = some o) : MI l (KC D cA cL h Z) 3 yX8_plant cX8_plant 4 (some .boolean) s [.ref (h 70), .ref (h 1), .int x2, .int x3] o.1 o.2 := by
  refine met_i (by decide) (Nat.le_of_ble_eq_true rfl) ?_
  intro p e st m args below meth c Q X RI
  unfold C_X8_plant_r at hs
  refine g_aload_n X dX8_plant_0 (q := 1) rfl 0 rfl ?_
  refine cg_8_0 X dX8_plant_1 (q := 4) rfl sh_70 lf_X8_9 ?_
  refine g_iload_n X dX8_plant_4 (q := 5) rfl 2 rfl ?_
  refine vc_X7_hasKind_X8 hZ X dX8_plant_5 (q := 8) rfl sh_8 (Nat.le_of_ble_eq_true rfl) (Nat.le_of_ble_eq_true rfl) (Nat.le_of_ble_eq_true rfl) hs (fun y1 hs => ?_)
  refine g_if_eq X dX8_plant_8 (q := 11) rfl (tgt := 19) (by decide) hs ?_ ?_
  · intro hs
    refine g_iconst X dX8_plant_19 (q := 20) rfl li_i0 ?_
    exact RI _ 20 _ _ _ (rU1 hs) rfl (rV1 hs) dX8_plant_20
  · intro hs
    refine g_aload_n X dX8_plant_11 (q := 12) rfl 1 rfl ?_
    refine g_iload_n X dX8_plant_12 (q := 13) rfl 3 rfl ?_
    refine vc_X1_isSowable_X8 hZ X dX8_plant_13 (q := 16) rfl sh_1 (Nat.le_of_ble_eq_true rfl) (Nat.le_of_ble_eq_true rfl) (Nat.le_of_ble_eq_true rfl) hs (fun y2 hs => ?_)
    refine g_if_ne X dX8_plant_16 (q := 19) rfl (tgt := 21) (by decide) hs ?_ ?_
    · intro hs
      refine g_aload_n X dX8_plant_21 (q := 22) rfl 1 rfl ?_
      refine g_iload_n X dX8_plant_22 (q := 23) rfl 2 rfl ?_
      refine g_iload_n X dX8_plant_23 (q := 24) rfl 3 rfl ?_
      refine vc_X1_laySeed_X8 hZ X dX8_plant_24 (q := 27) rfl sh_1 (Nat.le_of_ble_eq_true rfl) (Nat.le_of_ble_eq_true rfl) (Nat.le_of_ble_eq_true rfl) hs (fun s1 hs => ?_)
      refine g_aload_n X dX8_plant_27 (q := 28) rfl 0 rfl ?_
      refine g_aload_n X dX8_plant_28 (q := 29) rfl 1 rfl ?_
      refine g_iconst X dX8_plant_29 (q := 30) rfl li_i0 ?_
      refine g_iload_n X dX8_plant_30 (q := 31) rfl 3 rfl ?_
      refine g_iload_n X dX8_plant_31 (q := 32) rfl 2 rfl ?_
      refine vc_X8_note_r_X8 hZ X dX8_plant_32 (q := 35) rfl (Nat.le_of_ble_eq_true rfl) (Nat.le_of_ble_eq_true rfl) (Nat.le_of_ble_eq_true rfl) hs (fun s2 hs => ?_)
      refine g_iconst X dX8_plant_35 (q := 36) rfl li_i1 ?_
      exact RI _ 36 _ _ _ (rU1 hs) rfl (rV1 hs) dX8_plant_36
    · intro hs
      refine g_iconst X dX8_plant_19 (q := 20) rfl li_i0 ?_
      exact RI _ 20 _ _ _ (rU1 hs) rfl (rV1 hs) dX8_plant_20
