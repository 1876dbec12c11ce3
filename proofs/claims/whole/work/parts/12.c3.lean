def C_X8_pull_r (s : ST) (x2 : Int32) : Option (Int32 × ST) := Lt (C_X1_isCell s 1 x2) fun y1 => if y1 = 0 then (some ((0 : Int32), s)) else (Lt (C_X1_hasSeed s 1 x2) fun y2 => if y2 = 0 then (some ((0 : Int32), s)) else (Lt (C_X1_liftSeed s 1 x2) fun s1 => Gl s1 3 64 x2 fun y3 => Bd (C_X8_note_r s1 (1 : Int32) x2 y3) fun s2 => some ((1 : Int32), s2)))
set_option maxRecDepth 100000 in
set_option maxHeartbeats 4000000 in
theorem k_X8_pull_r {h : Nat → Nat} {Z : State → Heap → Prop} {sa : Nat → Nat} (hZ : ZK h Z sa) (l : Launch) (D : va_G) (cA cL : ClassId) (s : ST) (x2 : Int32) {o : Int32 × ST} (hs : C_X8_pull_r s x2 = some o) : MI l (KC D cA cL h Z) 3 yX8_pull cX8_pull 3 (some .boolean) s [.ref (h 70), .ref (h 1), .int x2] o.1 o.2 := by
  refine met_i (by decide) (Nat.le_of_ble_eq_true rfl) ?_
  intro p e st m args below meth c Q X RI
  unfold C_X8_pull_r at hs
  refine g_aload_n X dX8_pull_0 (q := 1) rfl 1 rfl ?_
  refine g_iload_n X dX8_pull_1 (q := 2) rfl 2 rfl ?_
  refine vc_X1_isCell_X8 hZ X dX8_pull_2 (q := 5) rfl sh_1 (Nat.le_of_ble_eq_true rfl) (Nat.le_of_ble_eq_true rfl) (Nat.le_of_ble_eq_true rfl) hs (fun y1 hs => ?_)
  refine g_if_eq X dX8_pull_5 (q := 8) rfl (tgt := 16) (by decide) hs ?_ ?_
  · intro hs
    refine g_iconst X dX8_pull_16 (q := 17) rfl li_i0 ?_
    exact RI _ 17 _ _ _ (rU1 hs) rfl (rV1 hs) dX8_pull_17
  · intro hs
    refine g_aload_n X dX8_pull_8 (q := 9) rfl 1 rfl ?_
    refine g_iload_n X dX8_pull_9 (q := 10) rfl 2 rfl ?_
    refine vc_X1_hasSeed_X8 hZ X dX8_pull_10 (q := 13) rfl sh_1 (Nat.le_of_ble_eq_true rfl) (Nat.le_of_ble_eq_true rfl) (Nat.le_of_ble_eq_true rfl) hs (fun y2 hs => ?_)
    refine g_if_ne X dX8_pull_13 (q := 16) rfl (tgt := 18) (by decide) hs ?_ ?_
    · intro hs
      refine g_aload_n X dX8_pull_18 (q := 19) rfl 1 rfl ?_
      refine g_iload_n X dX8_pull_19 (q := 20) rfl 2 rfl ?_
      refine vc_X1_liftSeed_X8 hZ X dX8_pull_20 (q := 23) rfl sh_1 (Nat.le_of_ble_eq_true rfl) (Nat.le_of_ble_eq_true rfl) (Nat.le_of_ble_eq_true rfl) hs (fun s1 hs => ?_)
      refine g_aload_n X dX8_pull_23 (q := 24) rfl 0 rfl ?_
      refine g_aload_n X dX8_pull_24 (q := 25) rfl 1 rfl ?_
      refine g_iconst X dX8_pull_25 (q := 26) rfl li_i1 ?_
      refine g_iload_n X dX8_pull_26 (q := 27) rfl 2 rfl ?_
      refine g_aload_n X dX8_pull_27 (q := 28) rfl 1 rfl ?_
      refine cgN_1_11 hZ X dX8_pull_28 (q := 31) rfl sh_1 lf_X8_58 ?_
      refine g_iload_n X dX8_pull_31 (q := 32) rfl 2 rfl ?_
      refine ca_ld X dX8_pull_32 (q := 33) rfl 3 sh_3 rfl hs (fun y3 hs => ?_)
      refine vc_X8_note_r_X8 hZ X dX8_pull_33 (q := 36) rfl (Nat.le_of_ble_eq_true rfl) (Nat.le_of_ble_eq_true rfl) (Nat.le_of_ble_eq_true rfl) hs (fun s2 hs => ?_)
      refine g_iconst X dX8_pull_36 (q := 37) rfl li_i1 ?_
      exact RI _ 37 _ _ _ (rU1 hs) rfl (rV1 hs) dX8_pull_37
    · intro hs
      refine g_iconst X dX8_pull_16 (q := 17) rfl li_i0 ?_
      exact RI _ 17 _ _ _ (rU1 hs) rfl (rV1 hs) dX8_pull_17
theorem wX8_plant_r_X8 : GoodIn GT (wsV RX8 111 RX8 yX8_plant (.code yX8_plant cX8_plant 4 (some .boolean) :: GT)) := gt_V (gt_of 989 (by decide +kernel) rfl) (gt_of 931 (by decide +kernel) rfl) (gt_of 53 (by decide +kernel) rfl) (gt_of 204 (by decide +kernel) rfl) (gt_of 932 (by decide +kernel) rfl)
theorem vc_X8_plant_r_X8 {p : Program} {l : Launch} {e : Env} {st : State} {m : MethodId} {args : Array Value} {below : List Frame} {meth : Method} {c : Code} {Q : State → Prop} {nL : Nat} {cc : ByteArray} {s : ST} {pc q : Nat} {lv : List (Nat × Value)} {rest : List Value} {D : va_G} {cA cL : ClassId} {h : Nat → Nat} {Z : State → Heap → Prop} {sa : Nat → Nat} (hZ : ZK h Z sa) {d0 : Nat} (X : Cx (KC D cA cL h Z) p st m args meth c cc nL RX8) {x2 : Int32} {x3 : Int32} (d : decode cc pc = .ok (.invokevirtual 111, 3)) (hq : pc + 3 = q) (hd1 : 3 + 1 ≤ d0) (hd2 : 8 + (4 + 11) + 100 * 3 ≤ 100 * d0) (hr : (rest.map fun v => v.category).sum ≤ 8) {B : Type} {f : Int32 × ST → Option B} {r : B} (hs : Bd (C_X8_plant_r s x2 x3) f = some r) (k : ∀ y, f y = some r → WG (KC D cA cL h Z) p l e (rmD d0) st m args below meth c Q nL y.2 q lv (.int y.1 :: rest)) : WG (KC D cA cL h Z) p l e (rmD d0) st m args below meth c Q nL s pc lv (.int x3 :: .int x2 :: .ref (h 1) :: .ref (h 70) :: rest) := by
  obtain ⟨v, hv, hs⟩ := Bd_e hs
  exact cV_I (K := KC D cA cL h Z) X 70 (n := 3) (k_X8_plant_r hZ l D cA cL s x2 x3 hv) wX8_plant_r_X8 ⟨hd1, hd2⟩ ⟨by decide, by decide, by decide +kernel⟩ (As := [.ref (h 1), .int x2, .int x3]) rfl hr (sh_70).1 (fs := cF8 h 70 (s.1 70) (s.2 70)) (GC_8 (cA := cA) (cL := cL) sh_70 _ _) rfl rfl d hq (k _ hs)
theorem wX8_pull_r_X8 : GoodIn GT (wsV RX8 115 RX8 yX8_pull (.code yX8_pull cX8_pull 3 (some .boolean) :: GT)) := gt_V (gt_of 990 (by decide +kernel) rfl) (gt_of 951 (by decide +kernel) rfl) (gt_of 56 (by decide +kernel) rfl) (gt_of 204 (by decide +kernel) rfl) (gt_of 952 (by decide +kernel) rfl)
theorem vc_X8_pull_r_X8 {p : Program} {l : Launch} {e : Env} {st : State} {m : MethodId} {args : Array Value} {below : List Frame} {meth : Method} {c : Code} {Q : State → Prop} {nL : Nat} {cc : ByteArray} {s : ST} {pc q : Nat} {lv : List (Nat × Value)} {rest : List Value} {D : va_G} {cA cL : ClassId} {h : Nat → Nat} {Z : State → Heap → Prop} {sa : Nat → Nat} (hZ : ZK h Z sa) {d0 : Nat} (X : Cx (KC D cA cL h Z) p st m args meth c cc nL RX8) {x2 : Int32} (d : decode cc pc = .ok (.invokevirtual 115, 3)) (hq : pc + 3 = q) (hd1 : 3 + 1 ≤ d0) (hd2 : 8 + (3 + 11) + 100 * 3 ≤ 100 * d0) (hr : (rest.map fun v => v.category).sum ≤ 8) {B : Type} {f : Int32 × ST → Option B} {r : B} (hs : Bd (C_X8_pull_r s x2) f = some r) (k : ∀ y, f y = some r → WG (KC D cA cL h Z) p l e (rmD d0) st m args below meth c Q nL y.2 q lv (.int y.1 :: rest)) : WG (KC D cA cL h Z) p l e (rmD d0) st m args below meth c Q nL s pc lv (.int x2 :: .ref (h 1) :: .ref (h 70) :: rest) := by
  obtain ⟨v, hv, hs⟩ := Bd_e hs
  exact cV_I (K := KC D cA cL h Z) X 70 (n := 2) (k_X8_pull_r hZ l D cA cL s x2 hv) wX8_pull_r_X8 ⟨hd1, hd2⟩ ⟨by decide, by decide, by decide +kernel⟩ (As := [.ref (h 1), .int x2]) rfl hr (sh_70).1 (fs := cF8 h 70 (s.1 70) (s.2 70)) (GC_8 (cA := cA) (cL := cL) sh_70 _ _) rfl rfl d hq (k _ hs)
def C_X8_followPlan_r (s : ST) : Option (ST) := lpK2 (C := ST) (fun (rec1 : Int32 → ST → Option (ST)) (a1 : Int32) (s1 : ST) => if (s1.1 21 2) ≤ a1 then (some s1) else (Bd (C_X4_of s1 21 a1 (0 : Int32)) fun y1 => Lt (fun (s2 : ST) => (rec1 (a1 + (1 : Int32)) s2 : Option (ST))) fun j1 => if y1 = (s1.1 1 2) then (Bd (C_X4_of s1 21 a1 (1 : Int32)) fun y2 => Bd (C_X4_of s1 21 a1 (2 : Int32)) fun y3 => Bd (C_X4_of s1 21 a1 (3 : Int32)) fun y4 => if y2 = 0 then (Bd (C_X8_plant_r s1 y3 y4) fun y7 => j1 y7.2) else (if y2 = (1 : Int32) then (Bd (C_X8_pull_r s1 y4) fun y6 => j1 y6.2) else (Lt (C_X1_veer s1 1 y3) fun y5 => j1 y5.2))) else (j1 s1))) FU (0 : Int32) s
set_option maxRecDepth 100000 in
set_option maxHeartbeats 4000000 in
theorem k_X8_followPlan_r {h : Nat → Nat} {Z : State → Heap → Prop} {sa : Nat → Nat} (hZ : ZK h Z sa) (l : Launch) (D : va_G) (cA cL : ClassId) (s : ST) {o : ST} (hs : C_X8_followPlan_r s = some o) : MV l (KC D cA cL h Z) 4 yX8_followPlan cX8_followPlan 6 none s [.ref (h 70), .ref (h 1)] o := by
  refine met_v (by decide) (Nat.le_of_ble_eq_true rfl) ?_
  intro p e st m args below meth c Q X RI
  unfold C_X8_followPlan_r at hs
  refine g_iconst X dX8_followPlan_0 (q := 1) rfl li_i0 ?_
  refine g_istore_n X dX8_followPlan_1 (q := 2) rfl (Nat.le_of_ble_eq_true rfl) (lv' := [(2, .int (0 : Int32)), (0, .ref (h 70)), (1, .ref (h 1))]) rfl ?_
  refine wg_sub [1, 2, 0] rfl (lpW2 (fun (a1 : Int32) (s1 : ST) => WG (KC D cA cL h Z) p l e (rmD 4) st m args below meth c Q 6 s1 2 [(0, .ref (h 70)), (1, .ref (h 1)), (2, .int a1)] []) (fun rec1 ih1 a1 s1 hs => ?_) _ _ _ hs)
  refine g_iload_n X dX8_followPlan_2 (q := 3) rfl 2 rfl ?_
  refine g_aload_n X dX8_followPlan_3 (q := 4) rfl 0 rfl ?_
  refine cg_8_0 X dX8_followPlan_4 (q := 7) rfl sh_70 lf_X8_9 ?_
  refine cgN_7_4 hZ X dX8_followPlan_7 (q := 10) rfl sh_8 lf_X8_108 ?_
  refine cgN_4_2 hZ X dX8_followPlan_10 (q := 13) rfl sh_21 lf_X8_102 ?_
  refine g_icmp_ge X dX8_followPlan_13 (q := 16) rfl (tgt := 125) (by decide) hs ?_ ?_
  · intro hs
    exact RI _ 125 _ (Option.some.inj hs) dX8_followPlan_125
  · intro hs
    refine g_aload_n X dX8_followPlan_16 (q := 17) rfl 0 rfl ?_
    refine cg_8_0 X dX8_followPlan_17 (q := 20) rfl sh_70 lf_X8_9 ?_
    refine cgN_7_4 hZ X dX8_followPlan_20 (q := 23) rfl sh_8 lf_X8_108 ?_
    refine g_iload_n X dX8_followPlan_23 (q := 24) rfl 2 rfl ?_
    refine g_iconst X dX8_followPlan_24 (q := 25) rfl li_i0 ?_
    refine vc_X4_of_X8 hZ X dX8_followPlan_25 (q := 28) rfl sh_21 (Nat.le_of_ble_eq_true rfl) (Nat.le_of_ble_eq_true rfl) (Nat.le_of_ble_eq_true rfl) hs (fun y1 hs => ?_)
    refine g_aload_n X dX8_followPlan_28 (q := 29) rfl 1 rfl ?_
    refine cgN_1_2 hZ X dX8_followPlan_29 (q := 32) rfl sh_1 lf_X8_19 ?_
    refine jnW1 (fun (s2 : ST) => WG (KC D cA cL h Z) p l e (rmD 4) st m args below meth c Q 6 s2 119 [(0, .ref (h 70)), (1, .ref (h 1)), (2, .int a1)] []) hs (fun s2 hs => ?_) (fun j1 ih2 hs => ?_)
    · refine g_iinc X dX8_followPlan_119 (q := 122) rfl 2 rfl (v := (a1 + (1 : Int32))) (congrArg (HAdd.hAdd a1) li_i1) (Nat.le_of_ble_eq_true rfl) (lv' := [(2, .int (a1 + (1 : Int32))), (0, .ref (h 70)), (1, .ref (h 1))]) rfl ?_
      refine g_goto X dX8_followPlan_122 (tgt := 2) (by decide) ?_
      exact wg_sub [1, 2, 0] rfl (ih1 _ _ hs)
    refine g_icmp_eq X dX8_followPlan_32 (q := 35) rfl (tgt := 38) (by decide) hs ?_ ?_
    · intro hs
      refine g_aload_n X dX8_followPlan_38 (q := 39) rfl 0 rfl ?_
      refine cg_8_0 X dX8_followPlan_39 (q := 42) rfl sh_70 lf_X8_9 ?_
      refine cgN_7_4 hZ X dX8_followPlan_42 (q := 45) rfl sh_8 lf_X8_108 ?_
      refine g_iload_n X dX8_followPlan_45 (q := 46) rfl 2 rfl ?_
      refine g_iconst X dX8_followPlan_46 (q := 47) rfl li_i1 ?_
      refine vc_X4_of_X8 hZ X dX8_followPlan_47 (q := 50) rfl sh_21 (Nat.le_of_ble_eq_true rfl) (Nat.le_of_ble_eq_true rfl) (Nat.le_of_ble_eq_true rfl) hs (fun y2 hs => ?_)
      refine g_istore_n X dX8_followPlan_50 (q := 51) rfl (Nat.le_of_ble_eq_true rfl) (lv' := [(3, .int y2), (0, .ref (h 70)), (1, .ref (h 1)), (2, .int a1)]) rfl ?_
      refine g_aload_n X dX8_followPlan_51 (q := 52) rfl 1 rfl ?_
      refine cg_8_0 X dX8_followPlan_52 (q := 55) rfl sh_70 lf_X8_9 ?_
      refine cgN_7_4 hZ X dX8_followPlan_55 (q := 58) rfl sh_8 lf_X8_108 ?_
      refine g_iload_n X dX8_followPlan_58 (q := 59) rfl 3 rfl ?_
      refine g_iconst X dX8_followPlan_59 (q := 60) rfl li_i2 ?_
      refine vc_X4_of_X8 hZ X dX8_followPlan_60 (q := 63) rfl sh_21 (Nat.le_of_ble_eq_true rfl) (Nat.le_of_ble_eq_true rfl) (Nat.le_of_ble_eq_true rfl) hs (fun y3 hs => ?_)
      refine g_istore X dX8_followPlan_63 (q := 65) rfl (Nat.le_of_ble_eq_true rfl) (lv' := [(4, .int y3), (3, .int y2), (0, .ref (h 70)), (1, .ref (h 1)), (2, .int a1)]) rfl ?_
      refine g_aload_n X dX8_followPlan_65 (q := 66) rfl 2 rfl ?_
      refine cg_8_0 X dX8_followPlan_66 (q := 69) rfl sh_70 lf_X8_9 ?_
      refine cgN_7_4 hZ X dX8_followPlan_69 (q := 72) rfl sh_8 lf_X8_108 ?_
      refine g_iload_n X dX8_followPlan_72 (q := 73) rfl 4 rfl ?_
      refine g_iconst X dX8_followPlan_73 (q := 74) rfl li_i3 ?_
      refine vc_X4_of_X8 hZ X dX8_followPlan_74 (q := 77) rfl sh_21 (Nat.le_of_ble_eq_true rfl) (Nat.le_of_ble_eq_true rfl) (Nat.le_of_ble_eq_true rfl) hs (fun y4 hs => ?_)
      refine g_istore X dX8_followPlan_77 (q := 79) rfl (Nat.le_of_ble_eq_true rfl) (lv' := [(5, .int y4), (4, .int y3), (3, .int y2), (0, .ref (h 70)), (1, .ref (h 1)), (2, .int a1)]) rfl ?_
      refine g_iload_n X dX8_followPlan_79 (q := 80) rfl 2 rfl ?_
      refine g_if_ne X dX8_followPlan_80 (q := 83) rfl (tgt := 96) (by decide) hs ?_ ?_
      · intro hs
        refine g_iload_n X dX8_followPlan_96 (q := 97) rfl 2 rfl ?_
        refine g_iconst X dX8_followPlan_97 (q := 98) rfl li_i1 ?_
        refine g_icmp_ne X dX8_followPlan_98 (q := 101) rfl (tgt := 112) (by decide) hs ?_ ?_
        · intro hs
          refine g_aload_n X dX8_followPlan_112 (q := 113) rfl 4 rfl ?_
          refine g_iload X dX8_followPlan_113 (q := 115) rfl 1 rfl ?_
          refine vc_X1_veer_X8 hZ X dX8_followPlan_115 (q := 118) rfl sh_1 (Nat.le_of_ble_eq_true rfl) (Nat.le_of_ble_eq_true rfl) (Nat.le_of_ble_eq_true rfl) hs (fun y5 hs => ?_)
          refine g_pop X dX8_followPlan_118 (q := 119) rfl rfl ?_
          exact wg_sub [3, 4, 5] rfl (ih2 _ hs)
        · intro hs
          refine g_aload_n X dX8_followPlan_101 (q := 102) rfl 3 rfl ?_
          refine g_aload_n X dX8_followPlan_102 (q := 103) rfl 4 rfl ?_
          refine g_iload X dX8_followPlan_103 (q := 105) rfl 0 rfl ?_
          refine vc_X8_pull_r_X8 hZ X dX8_followPlan_105 (q := 108) rfl (Nat.le_of_ble_eq_true rfl) (Nat.le_of_ble_eq_true rfl) (Nat.le_of_ble_eq_true rfl) hs (fun y6 hs => ?_)
          refine g_pop X dX8_followPlan_108 (q := 109) rfl rfl ?_
          refine g_goto X dX8_followPlan_109 (tgt := 119) (by decide) ?_
          exact wg_sub [3, 4, 5] rfl (ih2 _ hs)
      · intro hs
        refine g_aload_n X dX8_followPlan_83 (q := 84) rfl 3 rfl ?_
        refine g_aload_n X dX8_followPlan_84 (q := 85) rfl 4 rfl ?_
        refine g_iload X dX8_followPlan_85 (q := 87) rfl 1 rfl ?_
        refine g_iload X dX8_followPlan_87 (q := 89) rfl 0 rfl ?_
        refine vc_X8_plant_r_X8 hZ X dX8_followPlan_89 (q := 92) rfl (Nat.le_of_ble_eq_true rfl) (Nat.le_of_ble_eq_true rfl) (Nat.le_of_ble_eq_true rfl) hs (fun y7 hs => ?_)
        refine g_pop X dX8_followPlan_92 (q := 93) rfl rfl ?_
        refine g_goto X dX8_followPlan_93 (tgt := 119) (by decide) ?_
        exact wg_sub [3, 4, 5] rfl (ih2 _ hs)
    · intro hs
      refine g_goto X dX8_followPlan_35 (tgt := 119) (by decide) ?_
      exact wg_sub [0, 1, 2] rfl (ih2 _ hs)
def C_X8_comesUp_r (s : ST) (x2 : Int32) : Option (Int32 × ST) := Lt (C_X1_isCell s 1 x2) fun y1 => if y1 = 0 then (some ((0 : Int32), s)) else (Gl s 3 64 x2 fun y2 => Lt (C_X1_liftSeed s 1 x2) fun s1 => Gl s1 4 64 x2 fun y3 => Bd (C_X2_ask s1 (0 : Int32) 1 y2 x2 ((s1.1 1 2) - y3)) fun y4 => Lt (C_X1_hasStorm y4.2 1 x2) fun y5 => Lt (fun (a1 : Int32) => (Lt (fun (a2 : Int32) => (Lt (Bd (C_X8_note_r y4.2 (3 : Int32) x2 y2) fun s2 => some ((0 : Int32), s2) : Option (Int32 × ST)) fun j3 => if y4.1 = 0 then (j3) else (Lt (Lt (fun (a3 : Int32) (a4 : Int32) => (Bd (C_X4_of y4.2 9 a3 (1 : Int32)) fun y6 => Bd (C_X1_raiseStorm y4.2 1 a3 x2 a4 (((y4.2.1 1 2) + y6) - (1 : Int32))) fun s3 => Bd (C_X8_note_r s3 (2 : Int32) x2 a3) fun s4 => some ((1 : Int32), s4) : Option (Int32 × ST))) fun j5 => if a2 = (-1 : Int32) then (j5 y2 y4.1) else (Lt ((imn (9 : Int32) ((imx y4.1 a1) + (1 : Int32)))) fun y7 => j5 a2 y7) : Option (Int32 × ST)) fun j4 => if a2 = (-1 : Int32) then (if a1 ≤ y4.1 then (j4) else (j3)) else (j4)) : Option (Int32 × ST))) fun j2 => if a1 ≤ 0 then (j2 (-1 : Int32)) else (Gl y4.2 5 64 x2 fun y8 => Bd (C_X7_crossing y4.2 8 y8 y2) fun y9 => j2 y9) : Option (Int32 × ST))) fun j1 => if y5 = 0 then (j1 (0 : Int32)) else (Gl y4.2 6 64 x2 fun y10 => j1 y10))
set_option maxRecDepth 100000 in
set_option maxHeartbeats 4000000 in
theorem k_X8_comesUp_r {h : Nat → Nat} {Z : State → Heap → Prop} {sa : Nat → Nat} (hZ : ZK h Z sa) (l : Launch) (D : va_G) (cA cL : ClassId) (s : ST) (x2 : Int32) {o : Int32 × ST} (hs : C_X8_comesUp_r s x2 = some o) : MI l (KC D cA cL h Z) 5 yX8_comesUp cX8_comesUp 7 (some .boolean) s [.ref (h 70), .ref (h 1), .int x2] o.1 o.2 := by
  refine met_i (by decide) (Nat.le_of_ble_eq_true rfl) ?_
  intro p e st m args below meth c Q X RI
  unfold C_X8_comesUp_r at hs
  refine g_aload_n X dX8_comesUp_0 (q := 1) rfl 1 rfl ?_
  refine g_iload_n X dX8_comesUp_1 (q := 2) rfl 2 rfl ?_
  refine vc_X1_isCell_X8 hZ X dX8_comesUp_2 (q := 5) rfl sh_1 (Nat.le_of_ble_eq_true rfl) (Nat.le_of_ble_eq_true rfl) (Nat.le_of_ble_eq_true rfl) hs (fun y1 hs => ?_)
  refine g_if_ne X dX8_comesUp_5 (q := 8) rfl (tgt := 10) (by decide) hs ?_ ?_
  · intro hs
    refine g_aload_n X dX8_comesUp_10 (q := 11) rfl 1 rfl ?_
    refine cgN_1_11 hZ X dX8_comesUp_11 (q := 14) rfl sh_1 lf_X8_58 ?_
    refine g_iload_n X dX8_comesUp_14 (q := 15) rfl 2 rfl ?_
    refine ca_ld X dX8_comesUp_15 (q := 16) rfl 3 sh_3 rfl hs (fun y2 hs => ?_)
    refine g_istore_n X dX8_comesUp_16 (q := 17) rfl (Nat.le_of_ble_eq_true rfl) (lv' := [(3, .int y2), (0, .ref (h 70)), (1, .ref (h 1)), (2, .int x2)]) rfl ?_
    refine g_aload_n X dX8_comesUp_17 (q := 18) rfl 2 rfl ?_
    refine g_iload_n X dX8_comesUp_18 (q := 19) rfl 3 rfl ?_
    refine vc_X1_liftSeed_X8 hZ X dX8_comesUp_19 (q := 22) rfl sh_1 (Nat.le_of_ble_eq_true rfl) (Nat.le_of_ble_eq_true rfl) (Nat.le_of_ble_eq_true rfl) hs (fun s1 hs => ?_)
    refine g_aload_n X dX8_comesUp_22 (q := 23) rfl 1 rfl ?_
    refine cg_8_0 X dX8_comesUp_23 (q := 26) rfl sh_70 lf_X8_9 ?_
    refine cgN_7_2 hZ X dX8_comesUp_26 (q := 29) rfl sh_8 lf_X8_121 ?_
    refine g_iconst X dX8_comesUp_29 (q := 30) rfl li_i0 ?_
    refine g_aload_n X dX8_comesUp_30 (q := 31) rfl 2 rfl ?_
    refine g_iload_n X dX8_comesUp_31 (q := 32) rfl 0 rfl ?_
    refine g_iload_n X dX8_comesUp_32 (q := 33) rfl 3 rfl ?_
    refine g_aload_n X dX8_comesUp_33 (q := 34) rfl 2 rfl ?_
    refine cgN_1_2 hZ X dX8_comesUp_34 (q := 37) rfl sh_1 lf_X8_19 ?_
    refine g_aload_n X dX8_comesUp_37 (q := 38) rfl 2 rfl ?_
    refine cgN_1_12 hZ X dX8_comesUp_38 (q := 41) rfl sh_1 lf_X8_66 ?_
    refine g_iload_n X dX8_comesUp_41 (q := 42) rfl 3 rfl ?_
    refine ca_ld X dX8_comesUp_42 (q := 43) rfl 4 sh_4 rfl hs (fun y3 hs => ?_)
    refine g_isub X dX8_comesUp_43 (q := 44) rfl ?_
    refine vc_X2_ask_X8 hZ X dX8_comesUp_44 (q := 47) rfl sh_1 (Nat.le_of_ble_eq_true rfl) (Nat.le_of_ble_eq_true rfl) (Nat.le_of_ble_eq_true rfl) hs (fun y4 hs => ?_)
    refine g_istore X dX8_comesUp_47 (q := 49) rfl (Nat.le_of_ble_eq_true rfl) (lv' := [(4, .int y4.1), (3, .int y2), (0, .ref (h 70)), (1, .ref (h 1)), (2, .int x2)]) rfl ?_
    refine g_aload_n X dX8_comesUp_49 (q := 50) rfl 3 rfl ?_
    refine g_iload_n X dX8_comesUp_50 (q := 51) rfl 4 rfl ?_
    refine vc_X1_hasStorm_X8 hZ X dX8_comesUp_51 (q := 54) rfl sh_1 (Nat.le_of_ble_eq_true rfl) (Nat.le_of_ble_eq_true rfl) (Nat.le_of_ble_eq_true rfl) hs (fun y5 hs => ?_)
    refine jnW1 (fun (a1 : Int32) => WG (KC D cA cL h Z) p l e (rmD 5) st m args below meth c Q 7 y4.2 67 [(0, .ref (h 70)), (1, .ref (h 1)), (2, .int x2), (3, .int y2), (4, .int y4.1)] [.int a1]) hs (fun a1 hs => ?_) (fun j1 ih1 hs => ?_)
    · refine g_istore X dX8_comesUp_67 (q := 69) rfl (Nat.le_of_ble_eq_true rfl) (lv' := [(5, .int a1), (0, .ref (h 70)), (1, .ref (h 1)), (2, .int x2), (3, .int y2), (4, .int y4.1)]) rfl ?_
      refine g_iload X dX8_comesUp_69 (q := 71) rfl 0 rfl ?_
      refine jnW1 (fun (a2 : Int32) => WG (KC D cA cL h Z) p l e (rmD 5) st m args below meth c Q 7 y4.2 92 [(0, .ref (h 70)), (1, .ref (h 1)), (2, .int x2), (3, .int y2), (4, .int y4.1), (5, .int a1)] [.int a2]) hs (fun a2 hs => ?_) (fun j2 ih2 hs => ?_)
      · refine g_istore X dX8_comesUp_92 (q := 94) rfl (Nat.le_of_ble_eq_true rfl) (lv' := [(6, .int a2), (0, .ref (h 70)), (1, .ref (h 1)), (2, .int x2), (3, .int y2), (4, .int y4.1), (5, .int a1)]) rfl ?_
        refine g_iload X dX8_comesUp_94 (q := 96) rfl 5 rfl ?_
        refine jnW0 (WG (KC D cA cL h Z) p l e (rmD 5) st m args below meth c Q 7 y4.2 112 [(0, .ref (h 70)), (1, .ref (h 1)), (2, .int x2), (3, .int y2)] []) hs (fun  hs => ?_) (fun j3 ih3 hs => ?_)
        · refine g_aload_n X dX8_comesUp_112 (q := 113) rfl 0 rfl ?_
          refine g_aload_n X dX8_comesUp_113 (q := 114) rfl 1 rfl ?_
          refine g_iconst X dX8_comesUp_114 (q := 115) rfl li_i3 ?_
          refine g_iload_n X dX8_comesUp_115 (q := 116) rfl 2 rfl ?_
          refine g_iload_n X dX8_comesUp_116 (q := 117) rfl 3 rfl ?_
          refine vc_X8_note_r_X8 hZ X dX8_comesUp_117 (q := 120) rfl (Nat.le_of_ble_eq_true rfl) (Nat.le_of_ble_eq_true rfl) (Nat.le_of_ble_eq_true rfl) hs (fun s2 hs => ?_)
          refine g_iconst X dX8_comesUp_120 (q := 121) rfl li_i0 ?_
          exact RI _ 121 _ _ _ (rU1 hs) rfl (rV1 hs) dX8_comesUp_121
        refine g_if_eq X dX8_comesUp_96 (q := 99) rfl (tgt := 112) (by decide) hs ?_ ?_
        · intro hs
          exact wg_sub [1, 2, 3, 4] rfl (ih3 hs)
        · intro hs
          refine g_iload X dX8_comesUp_99 (q := 101) rfl 0 rfl ?_
          refine g_iconst X dX8_comesUp_101 (q := 102) rfl li_im1 ?_
          refine jnW0 (WG (KC D cA cL h Z) p l e (rmD 5) st m args below meth c Q 7 y4.2 122 [(0, .ref (h 70)), (1, .ref (h 1)), (2, .int x2), (3, .int y2), (4, .int y4.1), (5, .int a1), (6, .int a2)] []) hs (fun  hs => ?_) (fun j4 ih4 hs => ?_)
          · refine g_iload X dX8_comesUp_122 (q := 124) rfl 6 rfl ?_
            refine g_iconst X dX8_comesUp_124 (q := 125) rfl li_im1 ?_
            refine jnW2 (fun (a3 : Int32) (a4 : Int32) => WG (KC D cA cL h Z) p l e (rmD 5) st m args below meth c Q 7 y4.2 147 [(0, .ref (h 70)), (1, .ref (h 1)), (2, .int x2), (3, .int a3), (4, .int a4)] []) hs (fun a3 a4 hs => ?_) (fun j5 ih5 hs => ?_)
            · refine g_aload_n X dX8_comesUp_147 (q := 148) rfl 1 rfl ?_
              refine g_iload_n X dX8_comesUp_148 (q := 149) rfl 3 rfl ?_
              refine g_iload_n X dX8_comesUp_149 (q := 150) rfl 2 rfl ?_
              refine g_iload X dX8_comesUp_150 (q := 152) rfl 4 rfl ?_
              refine g_aload_n X dX8_comesUp_152 (q := 153) rfl 1 rfl ?_
              refine cgN_1_2 hZ X dX8_comesUp_153 (q := 156) rfl sh_1 lf_X8_19 ?_
              refine g_aload_n X dX8_comesUp_156 (q := 157) rfl 0 rfl ?_
              refine cg_8_0 X dX8_comesUp_157 (q := 160) rfl sh_70 lf_X8_9 ?_
              refine cgN_7_0 hZ X dX8_comesUp_160 (q := 163) rfl sh_8 lf_X8_69 ?_
              refine g_iload_n X dX8_comesUp_163 (q := 164) rfl 3 rfl ?_
              refine g_iconst X dX8_comesUp_164 (q := 165) rfl li_i1 ?_
              refine vc_X4_of_X8 hZ X dX8_comesUp_165 (q := 168) rfl sh_9 (Nat.le_of_ble_eq_true rfl) (Nat.le_of_ble_eq_true rfl) (Nat.le_of_ble_eq_true rfl) hs (fun y6 hs => ?_)
              refine g_iadd X dX8_comesUp_168 (q := 169) rfl ?_
              refine g_iconst X dX8_comesUp_169 (q := 170) rfl li_i1 ?_
              refine g_isub X dX8_comesUp_170 (q := 171) rfl ?_
              refine vc_X1_raiseStorm_X8 hZ X dX8_comesUp_171 (q := 174) rfl sh_1 (Nat.le_of_ble_eq_true rfl) (Nat.le_of_ble_eq_true rfl) (Nat.le_of_ble_eq_true rfl) hs (fun s3 hs => ?_)
              refine g_aload_n X dX8_comesUp_174 (q := 175) rfl 0 rfl ?_
              refine g_aload_n X dX8_comesUp_175 (q := 176) rfl 1 rfl ?_
              refine g_iconst X dX8_comesUp_176 (q := 177) rfl li_i2 ?_
              refine g_iload_n X dX8_comesUp_177 (q := 178) rfl 2 rfl ?_
              refine g_iload_n X dX8_comesUp_178 (q := 179) rfl 3 rfl ?_
              refine vc_X8_note_r_X8 hZ X dX8_comesUp_179 (q := 182) rfl (Nat.le_of_ble_eq_true rfl) (Nat.le_of_ble_eq_true rfl) (Nat.le_of_ble_eq_true rfl) hs (fun s4 hs => ?_)
              refine g_iconst X dX8_comesUp_182 (q := 183) rfl li_i1 ?_
              exact RI _ 183 _ _ _ (rU1 hs) rfl (rV1 hs) dX8_comesUp_183
            refine g_icmp_eq X dX8_comesUp_125 (q := 128) rfl (tgt := 147) (by decide) hs ?_ ?_
            · intro hs
              exact wg_sub [0, 1, 2, 3, 4] rfl (ih5 _ _ hs)
            · intro hs
              refine g_iload X dX8_comesUp_128 (q := 130) rfl 6 rfl ?_
              refine g_istore_n X dX8_comesUp_130 (q := 131) rfl (Nat.le_of_ble_eq_true rfl) (lv' := [(3, .int a2), (0, .ref (h 70)), (1, .ref (h 1)), (2, .int x2), (4, .int y4.1), (5, .int a1), (6, .int a2)]) rfl ?_
              refine g_bipush X dX8_comesUp_131 (q := 133) rfl li_b9 ?_
              refine g_iload X dX8_comesUp_133 (q := 135) rfl 4 rfl ?_
              refine g_iload X dX8_comesUp_135 (q := 137) rfl 5 rfl ?_
              refine cm_max X dX8_comesUp_137 (q := 140) rfl ml_X8_137 (Nat.le_of_ble_eq_true rfl) (Nat.le_of_ble_eq_true rfl) (Nat.le_of_ble_eq_true rfl) ?_
              refine g_iconst X dX8_comesUp_140 (q := 141) rfl li_i1 ?_
              refine g_iadd X dX8_comesUp_141 (q := 142) rfl ?_
              refine cm_min X dX8_comesUp_142 (q := 145) rfl ml_X8_142 (Nat.le_of_ble_eq_true rfl) (Nat.le_of_ble_eq_true rfl) (Nat.le_of_ble_eq_true rfl) ?_
              refine nmI hs (fun y7 hs => ?_)
              refine g_istore X dX8_comesUp_145 (q := 147) rfl (Nat.le_of_ble_eq_true rfl) (lv' := [(4, .int y7), (3, .int a2), (0, .ref (h 70)), (1, .ref (h 1)), (2, .int x2), (5, .int a1), (6, .int a2)]) rfl ?_
              exact wg_sub [2, 3, 4, 1, 0] rfl (ih5 _ _ hs)
          refine g_icmp_ne X dX8_comesUp_102 (q := 105) rfl (tgt := 122) (by decide) hs ?_ ?_
          · intro hs
            exact wg_sub [1, 2, 3, 4, 5, 6, 0] rfl (ih4 hs)
          · intro hs
            refine g_iload X dX8_comesUp_105 (q := 107) rfl 5 rfl ?_
            refine g_iload X dX8_comesUp_107 (q := 109) rfl 6 rfl ?_
            refine g_icmp_ge X dX8_comesUp_109 (q := 112) rfl (tgt := 122) (by decide) hs ?_ ?_
            · intro hs
              exact wg_sub [1, 2, 3, 4, 5, 6, 0] rfl (ih4 hs)
            · intro hs
              exact wg_sub [1, 2, 3, 4] rfl (ih3 hs)
      refine g_if_le X dX8_comesUp_71 (q := 74) rfl (tgt := 91) (by decide) hs ?_ ?_
      · intro hs
        refine g_iconst X dX8_comesUp_91 (q := 92) rfl li_im1 ?_
        exact wg_sub [1, 2, 3, 4, 5, 0] rfl (ih2 _ hs)
      · intro hs
        refine g_aload_n X dX8_comesUp_74 (q := 75) rfl 1 rfl ?_
        refine cg_8_0 X dX8_comesUp_75 (q := 78) rfl sh_70 lf_X8_9 ?_
        refine g_aload_n X dX8_comesUp_78 (q := 79) rfl 2 rfl ?_
        refine cgN_1_13 hZ X dX8_comesUp_79 (q := 82) rfl sh_1 lf_X8_92 ?_
        refine g_iload_n X dX8_comesUp_82 (q := 83) rfl 3 rfl ?_
        refine ca_ld X dX8_comesUp_83 (q := 84) rfl 5 sh_5 rfl hs (fun y8 hs => ?_)
        refine g_iload_n X dX8_comesUp_84 (q := 85) rfl 4 rfl ?_
        refine vc_X7_crossing_X8 hZ X dX8_comesUp_85 (q := 88) rfl sh_8 (Nat.le_of_ble_eq_true rfl) (Nat.le_of_ble_eq_true rfl) (Nat.le_of_ble_eq_true rfl) hs (fun y9 hs => ?_)
        refine g_goto X dX8_comesUp_88 (tgt := 92) (by decide) ?_
        exact wg_sub [1, 2, 3, 4, 5, 0] rfl (ih2 _ hs)
    refine g_if_eq X dX8_comesUp_54 (q := 57) rfl (tgt := 66) (by decide) hs ?_ ?_
    · intro hs
      refine g_iconst X dX8_comesUp_66 (q := 67) rfl li_i0 ?_
      exact wg_sub [2, 3, 4, 1, 0] rfl (ih1 _ hs)
    · intro hs
      refine g_aload_n X dX8_comesUp_57 (q := 58) rfl 3 rfl ?_
      refine cgN_1_14 hZ X dX8_comesUp_58 (q := 61) rfl sh_1 lf_X8_131 ?_
      refine g_iload_n X dX8_comesUp_61 (q := 62) rfl 4 rfl ?_
      refine ca_ld X dX8_comesUp_62 (q := 63) rfl 6 sh_6 rfl hs (fun y10 hs => ?_)
      refine g_goto X dX8_comesUp_63 (tgt := 67) (by decide) ?_
      exact wg_sub [2, 3, 4, 1, 0] rfl (ih1 _ hs)
  · intro hs
    refine g_iconst X dX8_comesUp_8 (q := 9) rfl li_i0 ?_
    exact RI _ 9 _ _ _ (rU1 hs) rfl (rV1 hs) dX8_comesUp_9
def C_X8_blow_r (s : ST) : Option (ST) := lpK3 (C := ST) (fun (rec1 : Int32 → Int32 → ST → Option (ST)) (a1 : Int32) (a2 : Int32) (s1 : ST) => if (64 : Int32) ≤ a2 then (Lt (ups s1 1 5 ((s1.1 1 5) + a1)) fun s2 => Lt (fun (a3 : Int32) => (lpK2 (C := ST) (fun (rec2 : Int32 → ST → Option (ST)) (a4 : Int32) (s3 : ST) => if (64 : Int32) ≤ a4 then (some s3) else (Gl s3 2 64 a4 fun y1 => Lt (C_X1_hasStorm s3 1 a4) fun y2 => Lt (fun (s4 : ST) => (rec2 (a4 + (1 : Int32)) s4 : Option (ST))) fun j2 => if y2 = 0 then (if a3 = 0 then (j2 s3) else (Gs s3 2 64 a4 (imx (0 : Int32) (y1 - (1 : Int32))) fun s5 => j2 s5)) else (Gl s3 6 64 a4 fun y3 => Gs s3 2 64 a4 (imn (9 : Int32) (y1 + (imx (1 : Int32) (y3 / (3 : Int32))))) fun s6 => j2 s6))) FU (0 : Int32) s2 : Option (ST))) fun j1 => if (irm (s2.1 1 2) (2 : Int32)) = 0 then (j1 (1 : Int32)) else (j1 (0 : Int32))) else (Lt (C_X1_hasStorm s1 1 a2) fun y4 => Lt (fun (a5 : Int32) (s7 : ST) => (rec1 a5 (a2 + (1 : Int32)) s7 : Option (ST))) fun j3 => if y4 = 0 then (j3 a1 s1) else (Gl s1 5 64 a2 fun y5 => Bd (C_X2_ask s1 (1 : Int32) 1 y5 a2 (0 : Int32)) fun y6 => Lt ((a1 + y6.1)) fun y7 => j3 y7 y6.2))) FU (0 : Int32) (0 : Int32) s
set_option maxRecDepth 100000 in
set_option maxHeartbeats 4000000 in
theorem k_X8_blow_r {h : Nat → Nat} {Z : State → Heap → Prop} {sa : Nat → Nat} (hZ : ZK h Z sa) (l : Launch) (D : va_G) (cA cL : ClassId) (s : ST) {o : ST} (hs : C_X8_blow_r s = some o) : MV l (KC D cA cL h Z) 5 yX8_blow cX8_blow 6 none s [.ref (h 70), .ref (h 1)] o := by
  refine met_v (by decide) (Nat.le_of_ble_eq_true rfl) ?_
  intro p e st m args below meth c Q X RI
  unfold C_X8_blow_r at hs
  refine g_iconst X dX8_blow_0 (q := 1) rfl li_i0 ?_
  refine g_istore_n X dX8_blow_1 (q := 2) rfl (Nat.le_of_ble_eq_true rfl) (lv' := [(2, .int (0 : Int32)), (0, .ref (h 70)), (1, .ref (h 1))]) rfl ?_
  refine g_iconst X dX8_blow_2 (q := 3) rfl li_i0 ?_
  refine g_istore_n X dX8_blow_3 (q := 4) rfl (Nat.le_of_ble_eq_true rfl) (lv' := [(3, .int (0 : Int32)), (2, .int (0 : Int32)), (0, .ref (h 70)), (1, .ref (h 1))]) rfl ?_
  refine wg_sub [2, 3, 1, 0] rfl (lpW3 (fun (a1 : Int32) (a2 : Int32) (s1 : ST) => WG (KC D cA cL h Z) p l e (rmD 5) st m args below meth c Q 6 s1 4 [(0, .ref (h 70)), (1, .ref (h 1)), (2, .int a1), (3, .int a2)] []) (fun rec1 ih1 a1 a2 s1 hs => ?_) _ _ _ _ hs)
  refine g_iload_n X dX8_blow_4 (q := 5) rfl 3 rfl ?_
  refine g_bipush X dX8_blow_5 (q := 7) rfl li_b64 ?_
  refine g_icmp_ge X dX8_blow_7 (q := 10) rfl (tgt := 47) (by decide) hs ?_ ?_
  · intro hs
    refine g_aload_n X dX8_blow_47 (q := 48) rfl 1 rfl ?_
    refine g_dup X dX8_blow_48 (q := 49) rfl rfl ?_
    refine cgN_1_5 hZ X dX8_blow_49 (q := 52) rfl sh_1 lf_X8_148 ?_
    refine g_iload_n X dX8_blow_52 (q := 53) rfl 2 rfl ?_
    refine g_iadd X dX8_blow_53 (q := 54) rfl ?_
    refine cpN_1_5 hZ X dX8_blow_54 (q := 57) rfl sh_1 lf_X8_148 hs (fun s2 hs => ?_)
    refine g_aload_n X dX8_blow_57 (q := 58) rfl 1 rfl ?_
    refine cgN_1_2 hZ X dX8_blow_58 (q := 61) rfl sh_1 lf_X8_19 ?_
    refine g_iconst X dX8_blow_61 (q := 62) rfl li_i2 ?_
    refine g_irem X dX8_blow_62 (q := 63) rfl (by decide) ?_
    refine jnW1 (fun (a3 : Int32) => WG (KC D cA cL h Z) p l e (rmD 5) st m args below meth c Q 6 s2 71 [(1, .ref (h 1))] [.int a3]) hs (fun a3 hs => ?_) (fun j1 ih2 hs => ?_)
    · refine g_istore_n X dX8_blow_71 (q := 72) rfl (Nat.le_of_ble_eq_true rfl) (lv' := [(3, .int a3), (1, .ref (h 1))]) rfl ?_
      refine g_iconst X dX8_blow_72 (q := 73) rfl li_i0 ?_
      refine g_istore X dX8_blow_73 (q := 75) rfl (Nat.le_of_ble_eq_true rfl) (lv' := [(4, .int (0 : Int32)), (3, .int a3), (1, .ref (h 1))]) rfl ?_
      refine wg_sub [2, 1, 0] rfl (lpW2 (fun (a4 : Int32) (s3 : ST) => WG (KC D cA cL h Z) p l e (rmD 5) st m args below meth c Q 6 s3 75 [(1, .ref (h 1)), (3, .int a3), (4, .int a4)] []) (fun rec2 ih3 a4 s3 hs => ?_) _ _ _ hs)
      refine g_iload X dX8_blow_75 (q := 77) rfl 2 rfl ?_
      refine g_bipush X dX8_blow_77 (q := 79) rfl li_b64 ?_
      refine g_icmp_ge X dX8_blow_79 (q := 82) rfl (tgt := 156) (by decide) hs ?_ ?_
      · intro hs
        exact RI _ 156 _ (Option.some.inj hs) dX8_blow_156
      · intro hs
        refine g_aload_n X dX8_blow_82 (q := 83) rfl 0 rfl ?_
        refine cgN_1_10 hZ X dX8_blow_83 (q := 86) rfl sh_1 lf_X8_151 ?_
        refine g_iload X dX8_blow_86 (q := 88) rfl 2 rfl ?_
        refine ca_ld X dX8_blow_88 (q := 89) rfl 2 sh_2 rfl hs (fun y1 hs => ?_)
        refine g_istore X dX8_blow_89 (q := 91) rfl (Nat.le_of_ble_eq_true rfl) (lv' := [(5, .int y1), (1, .ref (h 1)), (3, .int a3), (4, .int a4)]) rfl ?_
        refine g_aload_n X dX8_blow_91 (q := 92) rfl 1 rfl ?_
        refine g_iload X dX8_blow_92 (q := 94) rfl 3 rfl ?_
        refine vc_X1_hasStorm_X8 hZ X dX8_blow_94 (q := 97) rfl sh_1 (Nat.le_of_ble_eq_true rfl) (Nat.le_of_ble_eq_true rfl) (Nat.le_of_ble_eq_true rfl) hs (fun y2 hs => ?_)
        refine jnW1 (fun (s4 : ST) => WG (KC D cA cL h Z) p l e (rmD 5) st m args below meth c Q 6 s4 150 [(1, .ref (h 1)), (3, .int a3), (4, .int a4)] []) hs (fun s4 hs => ?_) (fun j2 ih4 hs => ?_)
        · refine g_iinc X dX8_blow_150 (q := 153) rfl 2 rfl (v := (a4 + (1 : Int32))) (congrArg (HAdd.hAdd a4) li_i1) (Nat.le_of_ble_eq_true rfl) (lv' := [(4, .int (a4 + (1 : Int32))), (1, .ref (h 1)), (3, .int a3)]) rfl ?_
          refine g_goto X dX8_blow_153 (tgt := 75) (by decide) ?_
          exact wg_sub [1, 2, 0] rfl (ih3 _ _ hs)
        refine g_if_eq X dX8_blow_97 (q := 100) rfl (tgt := 131) (by decide) hs ?_ ?_
        · intro hs
          refine g_iload_n X dX8_blow_131 (q := 132) rfl 2 rfl ?_
          refine g_if_eq X dX8_blow_132 (q := 135) rfl (tgt := 150) (by decide) hs ?_ ?_
          · intro hs
            exact wg_sub [1, 2, 3] rfl (ih4 _ hs)
          · intro hs
            refine g_aload_n X dX8_blow_135 (q := 136) rfl 1 rfl ?_
            refine cgN_1_10 hZ X dX8_blow_136 (q := 139) rfl sh_1 lf_X8_151 ?_
            refine g_iload X dX8_blow_139 (q := 141) rfl 3 rfl ?_
            refine g_iconst X dX8_blow_141 (q := 142) rfl li_i0 ?_
            refine g_iload X dX8_blow_142 (q := 144) rfl 0 rfl ?_
            refine g_iconst X dX8_blow_144 (q := 145) rfl li_i1 ?_
            refine g_isub X dX8_blow_145 (q := 146) rfl ?_
            refine cm_max X dX8_blow_146 (q := 149) rfl ml_X8_137 (Nat.le_of_ble_eq_true rfl) (Nat.le_of_ble_eq_true rfl) (Nat.le_of_ble_eq_true rfl) ?_
            refine ca_st X dX8_blow_149 (q := 150) rfl 2 sh_2 rfl hs (fun s5 hs => ?_)
            exact wg_sub [1, 2, 3] rfl (ih4 _ hs)
        · intro hs
          refine g_aload_n X dX8_blow_100 (q := 101) rfl 1 rfl ?_
          refine cgN_1_10 hZ X dX8_blow_101 (q := 104) rfl sh_1 lf_X8_151 ?_
          refine g_iload X dX8_blow_104 (q := 106) rfl 3 rfl ?_
          refine g_bipush X dX8_blow_106 (q := 108) rfl li_b9 ?_
          refine g_iload X dX8_blow_108 (q := 110) rfl 0 rfl ?_
          refine g_iconst X dX8_blow_110 (q := 111) rfl li_i1 ?_
          refine g_aload_n X dX8_blow_111 (q := 112) rfl 1 rfl ?_
          refine cgN_1_14 hZ X dX8_blow_112 (q := 115) rfl sh_1 lf_X8_131 ?_
          refine g_iload X dX8_blow_115 (q := 117) rfl 3 rfl ?_
          refine ca_ld X dX8_blow_117 (q := 118) rfl 6 sh_6 rfl hs (fun y3 hs => ?_)
          refine g_iconst X dX8_blow_118 (q := 119) rfl li_i3 ?_
          refine g_idiv X dX8_blow_119 (q := 120) rfl (by decide) ?_
          refine cm_max X dX8_blow_120 (q := 123) rfl ml_X8_137 (Nat.le_of_ble_eq_true rfl) (Nat.le_of_ble_eq_true rfl) (Nat.le_of_ble_eq_true rfl) ?_
          refine g_iadd X dX8_blow_123 (q := 124) rfl ?_
          refine cm_min X dX8_blow_124 (q := 127) rfl ml_X8_142 (Nat.le_of_ble_eq_true rfl) (Nat.le_of_ble_eq_true rfl) (Nat.le_of_ble_eq_true rfl) ?_
          refine ca_st X dX8_blow_127 (q := 128) rfl 2 sh_2 rfl hs (fun s6 hs => ?_)
          refine g_goto X dX8_blow_128 (tgt := 150) (by decide) ?_
          exact wg_sub [1, 2, 3] rfl (ih4 _ hs)
    refine g_if_ne X dX8_blow_63 (q := 66) rfl (tgt := 70) (by decide) hs ?_ ?_
    · intro hs
      refine g_iconst X dX8_blow_70 (q := 71) rfl li_i0 ?_
      exact wg_sub [1] rfl (ih2 _ hs)
    · intro hs
      refine g_iconst X dX8_blow_66 (q := 67) rfl li_i1 ?_
      refine g_goto X dX8_blow_67 (tgt := 71) (by decide) ?_
      exact wg_sub [1] rfl (ih2 _ hs)
  · intro hs
    refine g_aload_n X dX8_blow_10 (q := 11) rfl 1 rfl ?_
    refine g_iload_n X dX8_blow_11 (q := 12) rfl 3 rfl ?_
    refine vc_X1_hasStorm_X8 hZ X dX8_blow_12 (q := 15) rfl sh_1 (Nat.le_of_ble_eq_true rfl) (Nat.le_of_ble_eq_true rfl) (Nat.le_of_ble_eq_true rfl) hs (fun y4 hs => ?_)
    refine jnW2 (fun (a5 : Int32) (s7 : ST) => WG (KC D cA cL h Z) p l e (rmD 5) st m args below meth c Q 6 s7 41 [(0, .ref (h 70)), (1, .ref (h 1)), (2, .int a5), (3, .int a2)] []) hs (fun a5 s7 hs => ?_) (fun j3 ih5 hs => ?_)
    · refine g_iinc X dX8_blow_41 (q := 44) rfl 3 rfl (v := (a2 + (1 : Int32))) (congrArg (HAdd.hAdd a2) li_i1) (Nat.le_of_ble_eq_true rfl) (lv' := [(3, .int (a2 + (1 : Int32))), (0, .ref (h 70)), (1, .ref (h 1)), (2, .int a5)]) rfl ?_
      refine g_goto X dX8_blow_44 (tgt := 4) (by decide) ?_
      exact wg_sub [1, 2, 3, 0] rfl (ih1 _ _ _ hs)
    refine g_if_eq X dX8_blow_15 (q := 18) rfl (tgt := 41) (by decide) hs ?_ ?_
    · intro hs
      exact wg_sub [0, 1, 2, 3] rfl (ih5 _ _ hs)
    · intro hs
      refine g_iload_n X dX8_blow_18 (q := 19) rfl 2 rfl ?_
      refine g_aload_n X dX8_blow_19 (q := 20) rfl 0 rfl ?_
      refine cg_8_0 X dX8_blow_20 (q := 23) rfl sh_70 lf_X8_9 ?_
      refine cgN_7_2 hZ X dX8_blow_23 (q := 26) rfl sh_8 lf_X8_121 ?_
      refine g_iconst X dX8_blow_26 (q := 27) rfl li_i1 ?_
      refine g_aload_n X dX8_blow_27 (q := 28) rfl 1 rfl ?_
      refine g_aload_n X dX8_blow_28 (q := 29) rfl 1 rfl ?_
      refine cgN_1_13 hZ X dX8_blow_29 (q := 32) rfl sh_1 lf_X8_92 ?_
      refine g_iload_n X dX8_blow_32 (q := 33) rfl 3 rfl ?_
      refine ca_ld X dX8_blow_33 (q := 34) rfl 5 sh_5 rfl hs (fun y5 hs => ?_)
      refine g_iload_n X dX8_blow_34 (q := 35) rfl 3 rfl ?_
      refine g_iconst X dX8_blow_35 (q := 36) rfl li_i0 ?_
      refine vc_X2_ask_X8 hZ X dX8_blow_36 (q := 39) rfl sh_1 (Nat.le_of_ble_eq_true rfl) (Nat.le_of_ble_eq_true rfl) (Nat.le_of_ble_eq_true rfl) hs (fun y6 hs => ?_)
      refine g_iadd X dX8_blow_39 (q := 40) rfl ?_
      refine nmI hs (fun y7 hs => ?_)
      refine g_istore_n X dX8_blow_40 (q := 41) rfl (Nat.le_of_ble_eq_true rfl) (lv' := [(2, .int y7), (0, .ref (h 70)), (1, .ref (h 1)), (3, .int a2)]) rfl ?_
      exact wg_sub [1, 2, 0, 3] rfl (ih5 _ _ hs)
theorem wX8_blow_r_X8 : GoodIn GT (wsV RX8 80 RX8 yX8_blow (.code yX8_blow cX8_blow 6 none :: GT)) := gt_V (gt_of 1044 (by decide +kernel) rfl) (gt_of 1046 (by decide +kernel) rfl) (gt_of 71 (by decide +kernel) rfl) (gt_of 204 (by decide +kernel) rfl) (gt_of 1047 (by decide +kernel) rfl)
theorem vc_X8_blow_r_X8 {p : Program} {l : Launch} {e : Env} {st : State} {m : MethodId} {args : Array Value} {below : List Frame} {meth : Method} {c : Code} {Q : State → Prop} {nL : Nat} {cc : ByteArray} {s : ST} {pc q : Nat} {lv : List (Nat × Value)} {rest : List Value} {D : va_G} {cA cL : ClassId} {h : Nat → Nat} {Z : State → Heap → Prop} {sa : Nat → Nat} (hZ : ZK h Z sa) {d0 : Nat} (X : Cx (KC D cA cL h Z) p st m args meth c cc nL RX8) (d : decode cc pc = .ok (.invokevirtual 80, 3)) (hq : pc + 3 = q) (hd1 : 5 + 1 ≤ d0) (hd2 : 8 + (6 + 11) + 100 * 5 ≤ 100 * d0) (hr : (rest.map fun v => v.category).sum ≤ 8) {B : Type} {f : ST → Option B} {r : B} (hs : Bd (C_X8_blow_r s) f = some r) (k : ∀ y, f y = some r → WG (KC D cA cL h Z) p l e (rmD d0) st m args below meth c Q nL y q lv (rest)) : WG (KC D cA cL h Z) p l e (rmD d0) st m args below meth c Q nL s pc lv (.ref (h 1) :: .ref (h 70) :: rest) := by
  obtain ⟨v, hv, hs⟩ := Bd_e hs
  exact cV_V (K := KC D cA cL h Z) X 70 (n := 1) (k_X8_blow_r hZ l D cA cL s hv) wX8_blow_r_X8 ⟨hd1, hd2⟩ ⟨by decide, by decide, by decide +kernel⟩ (As := [.ref (h 1)]) rfl hr (sh_70).1 (fs := cF8 h 70 (s.1 70) (s.2 70)) (GC_8 (cA := cA) (cL := cL) sh_70 _ _) rfl rfl d hq (k _ hs)
theorem wX8_comesUp_r_X8 : GoodIn GT (wsV RX8 76 RX8 yX8_comesUp (.code yX8_comesUp cX8_comesUp 7 (some .boolean) :: GT)) := gt_V (gt_of 992 (by decide +kernel) rfl) (gt_of 994 (by decide +kernel) rfl) (gt_of 63 (by decide +kernel) rfl) (gt_of 204 (by decide +kernel) rfl) (gt_of 995 (by decide +kernel) rfl)
theorem vc_X8_comesUp_r_X8 {p : Program} {l : Launch} {e : Env} {st : State} {m : MethodId} {args : Array Value} {below : List Frame} {meth : Method} {c : Code} {Q : State → Prop} {nL : Nat} {cc : ByteArray} {s : ST} {pc q : Nat} {lv : List (Nat × Value)} {rest : List Value} {D : va_G} {cA cL : ClassId} {h : Nat → Nat} {Z : State → Heap → Prop} {sa : Nat → Nat} (hZ : ZK h Z sa) {d0 : Nat} (X : Cx (KC D cA cL h Z) p st m args meth c cc nL RX8) {x2 : Int32} (d : decode cc pc = .ok (.invokevirtual 76, 3)) (hq : pc + 3 = q) (hd1 : 5 + 1 ≤ d0) (hd2 : 8 + (7 + 11) + 100 * 5 ≤ 100 * d0) (hr : (rest.map fun v => v.category).sum ≤ 8) {B : Type} {f : Int32 × ST → Option B} {r : B} (hs : Bd (C_X8_comesUp_r s x2) f = some r) (k : ∀ y, f y = some r → WG (KC D cA cL h Z) p l e (rmD d0) st m args below meth c Q nL y.2 q lv (.int y.1 :: rest)) : WG (KC D cA cL h Z) p l e (rmD d0) st m args below meth c Q nL s pc lv (.int x2 :: .ref (h 1) :: .ref (h 70) :: rest) := by
  obtain ⟨v, hv, hs⟩ := Bd_e hs
  exact cV_I (K := KC D cA cL h Z) X 70 (n := 2) (k_X8_comesUp_r hZ l D cA cL s x2 hv) wX8_comesUp_r_X8 ⟨hd1, hd2⟩ ⟨by decide, by decide, by decide +kernel⟩ (As := [.ref (h 1), .int x2]) rfl hr (sh_70).1 (fs := cF8 h 70 (s.1 70) (s.2 70)) (GC_8 (cA := cA) (cL := cL) sh_70 _ _) rfl rfl d hq (k _ hs)
theorem wX8_followPlan_r_X8 : GoodIn GT (wsV RX8 62 RX8 yX8_followPlan (.code yX8_followPlan cX8_followPlan 6 none :: GT)) := gt_V (gt_of 980 (by decide +kernel) rfl) (gt_of 982 (by decide +kernel) rfl) (gt_of 61 (by decide +kernel) rfl) (gt_of 204 (by decide +kernel) rfl) (gt_of 983 (by decide +kernel) rfl)
theorem vc_X8_followPlan_r_X8 {p : Program} {l : Launch} {e : Env} {st : State} {m : MethodId} {args : Array Value} {below : List Frame} {meth : Method} {c : Code} {Q : State → Prop} {nL : Nat} {cc : ByteArray} {s : ST} {pc q : Nat} {lv : List (Nat × Value)} {rest : List Value} {D : va_G} {cA cL : ClassId} {h : Nat → Nat} {Z : State → Heap → Prop} {sa : Nat → Nat} (hZ : ZK h Z sa) {d0 : Nat} (X : Cx (KC D cA cL h Z) p st m args meth c cc nL RX8) (d : decode cc pc = .ok (.invokevirtual 62, 3)) (hq : pc + 3 = q) (hd1 : 4 + 1 ≤ d0) (hd2 : 8 + (6 + 11) + 100 * 4 ≤ 100 * d0) (hr : (rest.map fun v => v.category).sum ≤ 8) {B : Type} {f : ST → Option B} {r : B} (hs : Bd (C_X8_followPlan_r s) f = some r) (k : ∀ y, f y = some r → WG (KC D cA cL h Z) p l e (rmD d0) st m args below meth c Q nL y q lv (rest)) : WG (KC D cA cL h Z) p l e (rmD d0) st m args below meth c Q nL s pc lv (.ref (h 1) :: .ref (h 70) :: rest) := by
  obtain ⟨v, hv, hs⟩ := Bd_e hs
  exact cV_V (K := KC D cA cL h Z) X 70 (n := 1) (k_X8_followPlan_r hZ l D cA cL s hv) wX8_followPlan_r_X8 ⟨hd1, hd2⟩ ⟨by decide, by decide, by decide +kernel⟩ (As := [.ref (h 1)]) rfl hr (sh_70).1 (fs := cF8 h 70 (s.1 70) (s.2 70)) (GC_8 (cA := cA) (cL := cL) sh_70 _ _) rfl rfl d hq (k _ hs)
def C_X8_dawn_r (s : ST) (x2 : Int32) : Option (Int32 × ST) := Lt (fun (s1 : ST) => (lpK3 (C := Int32 × ST) (fun (rec1 : Int32 → Int32 → ST → Option (Int32 × ST)) (a1 : Int32) (a2 : Int32) (s2 : ST) => if (64 : Int32) ≤ a2 then (Bd (C_X8_blow_r s2) fun s3 => some (a1, s3)) else (Lt (C_X1_hasSeed s2 1 a2) fun y1 => Lt (fun (a3 : Int32) (s4 : ST) => (rec1 a3 (a2 + (1 : Int32)) s4 : Option (Int32 × ST))) fun j2 => if y1 = 0 then (j2 a1 s2) else (Gl s2 4 64 a2 fun y2 => Gl s2 3 64 a2 fun y3 => Bd (C_X4_of s2 9 y3 (0 : Int32)) fun y4 => if ((s2.1 1 2) - y2) < y4 then (j2 a1 s2) else (Bd (C_X8_comesUp_r s2 a2) fun y5 => if y5.1 = 0 then (j2 a1 y5.2) else (j2 (a1 + (1 : Int32)) y5.2))))) FU (0 : Int32) (0 : Int32) s1 : Option (Int32 × ST))) fun j1 => if x2 = 0 then (j1 s) else (Bd (C_X8_followPlan_r s) fun s5 => j1 s5)
set_option maxRecDepth 100000 in
set_option maxHeartbeats 4000000 in
theorem k_X8_dawn_r {h : Nat → Nat} {Z : State → Heap → Prop} {sa : Nat → Nat} (hZ : ZK h Z sa) (l : Launch) (D : va_G) (cA cL : ClassId) (s : ST) (x2 : Int32) {o : Int32 × ST} (hs : C_X8_dawn_r s x2 = some o) : MI l (KC D cA cL h Z) 6 yX8_dawn cX8_dawn 5 (some .int) s [.ref (h 70), .ref (h 1), .int x2] o.1 o.2 := by
  refine met_i (by decide) (Nat.le_of_ble_eq_true rfl) ?_
  intro p e st m args below meth c Q X RI
  unfold C_X8_dawn_r at hs
  refine g_iload_n X dX8_dawn_0 (q := 1) rfl 2 rfl ?_
  refine jnW1 (fun (s1 : ST) => WG (KC D cA cL h Z) p l e (rmD 6) st m args below meth c Q 5 s1 9 [(0, .ref (h 70)), (1, .ref (h 1))] []) hs (fun s1 hs => ?_) (fun j1 ih1 hs => ?_)
  · refine g_iconst X dX8_dawn_9 (q := 10) rfl li_i0 ?_
    refine g_istore_n X dX8_dawn_10 (q := 11) rfl (Nat.le_of_ble_eq_true rfl) (lv' := [(3, .int (0 : Int32)), (0, .ref (h 70)), (1, .ref (h 1))]) rfl ?_
    refine g_iconst X dX8_dawn_11 (q := 12) rfl li_i0 ?_
    refine g_istore X dX8_dawn_12 (q := 14) rfl (Nat.le_of_ble_eq_true rfl) (lv' := [(4, .int (0 : Int32)), (3, .int (0 : Int32)), (0, .ref (h 70)), (1, .ref (h 1))]) rfl ?_
    refine wg_sub [2, 3, 1, 0] rfl (lpW3 (fun (a1 : Int32) (a2 : Int32) (s2 : ST) => WG (KC D cA cL h Z) p l e (rmD 6) st m args below meth c Q 5 s2 14 [(0, .ref (h 70)), (1, .ref (h 1)), (3, .int a1), (4, .int a2)] []) (fun rec1 ih2 a1 a2 s2 hs => ?_) _ _ _ _ hs)
    refine g_iload X dX8_dawn_14 (q := 16) rfl 3 rfl ?_
    refine g_bipush X dX8_dawn_16 (q := 18) rfl li_b64 ?_
    refine g_icmp_ge X dX8_dawn_18 (q := 21) rfl (tgt := 82) (by decide) hs ?_ ?_
    · intro hs
      refine g_aload_n X dX8_dawn_82 (q := 83) rfl 0 rfl ?_
      refine g_aload_n X dX8_dawn_83 (q := 84) rfl 1 rfl ?_
      refine vc_X8_blow_r_X8 hZ X dX8_dawn_84 (q := 87) rfl (Nat.le_of_ble_eq_true rfl) (Nat.le_of_ble_eq_true rfl) (Nat.le_of_ble_eq_true rfl) hs (fun s3 hs => ?_)
      refine g_iload_n X dX8_dawn_87 (q := 88) rfl 2 rfl ?_
      exact RI _ 88 _ _ _ (rU1 hs) rfl (rV1 hs) dX8_dawn_88
    · intro hs
      refine g_aload_n X dX8_dawn_21 (q := 22) rfl 1 rfl ?_
      refine g_iload X dX8_dawn_22 (q := 24) rfl 3 rfl ?_
      refine vc_X1_hasSeed_X8 hZ X dX8_dawn_24 (q := 27) rfl sh_1 (Nat.le_of_ble_eq_true rfl) (Nat.le_of_ble_eq_true rfl) (Nat.le_of_ble_eq_true rfl) hs (fun y1 hs => ?_)
      refine jnW2 (fun (a3 : Int32) (s4 : ST) => WG (KC D cA cL h Z) p l e (rmD 6) st m args below meth c Q 5 s4 76 [(0, .ref (h 70)), (1, .ref (h 1)), (3, .int a3), (4, .int a2)] []) hs (fun a3 s4 hs => ?_) (fun j2 ih3 hs => ?_)
      · refine g_iinc X dX8_dawn_76 (q := 79) rfl 3 rfl (v := (a2 + (1 : Int32))) (congrArg (HAdd.hAdd a2) li_i1) (Nat.le_of_ble_eq_true rfl) (lv' := [(4, .int (a2 + (1 : Int32))), (0, .ref (h 70)), (1, .ref (h 1)), (3, .int a3)]) rfl ?_
        refine g_goto X dX8_dawn_79 (tgt := 14) (by decide) ?_
        exact wg_sub [1, 2, 3, 0] rfl (ih2 _ _ _ hs)
      refine g_if_eq X dX8_dawn_27 (q := 30) rfl (tgt := 76) (by decide) hs ?_ ?_
      · intro hs
        exact wg_sub [0, 1, 2, 3] rfl (ih3 _ _ hs)
      · intro hs
        refine g_aload_n X dX8_dawn_30 (q := 31) rfl 1 rfl ?_
        refine cgN_1_2 hZ X dX8_dawn_31 (q := 34) rfl sh_1 lf_X8_19 ?_
        refine g_aload_n X dX8_dawn_34 (q := 35) rfl 1 rfl ?_
        refine cgN_1_12 hZ X dX8_dawn_35 (q := 38) rfl sh_1 lf_X8_66 ?_
        refine g_iload X dX8_dawn_38 (q := 40) rfl 3 rfl ?_
        refine ca_ld X dX8_dawn_40 (q := 41) rfl 4 sh_4 rfl hs (fun y2 hs => ?_)
        refine g_isub X dX8_dawn_41 (q := 42) rfl ?_
        refine g_aload_n X dX8_dawn_42 (q := 43) rfl 0 rfl ?_
        refine cg_8_0 X dX8_dawn_43 (q := 46) rfl sh_70 lf_X8_9 ?_
        refine cgN_7_0 hZ X dX8_dawn_46 (q := 49) rfl sh_8 lf_X8_69 ?_
        refine g_aload_n X dX8_dawn_49 (q := 50) rfl 1 rfl ?_
        refine cgN_1_11 hZ X dX8_dawn_50 (q := 53) rfl sh_1 lf_X8_58 ?_
        refine g_iload X dX8_dawn_53 (q := 55) rfl 3 rfl ?_
        refine ca_ld X dX8_dawn_55 (q := 56) rfl 3 sh_3 rfl hs (fun y3 hs => ?_)
        refine g_iconst X dX8_dawn_56 (q := 57) rfl li_i0 ?_
        refine vc_X4_of_X8 hZ X dX8_dawn_57 (q := 60) rfl sh_9 (Nat.le_of_ble_eq_true rfl) (Nat.le_of_ble_eq_true rfl) (Nat.le_of_ble_eq_true rfl) hs (fun y4 hs => ?_)
        refine g_icmp_lt X dX8_dawn_60 (q := 63) rfl (tgt := 76) (by decide) hs ?_ ?_
        · intro hs
          exact wg_sub [0, 1, 2, 3] rfl (ih3 _ _ hs)
        · intro hs
          refine g_aload_n X dX8_dawn_63 (q := 64) rfl 0 rfl ?_
          refine g_aload_n X dX8_dawn_64 (q := 65) rfl 1 rfl ?_
          refine g_iload X dX8_dawn_65 (q := 67) rfl 3 rfl ?_
          refine vc_X8_comesUp_r_X8 hZ X dX8_dawn_67 (q := 70) rfl (Nat.le_of_ble_eq_true rfl) (Nat.le_of_ble_eq_true rfl) (Nat.le_of_ble_eq_true rfl) hs (fun y5 hs => ?_)
          refine g_if_eq X dX8_dawn_70 (q := 73) rfl (tgt := 76) (by decide) hs ?_ ?_
          · intro hs
            exact wg_sub [0, 1, 2, 3] rfl (ih3 _ _ hs)
          · intro hs
            refine g_iinc X dX8_dawn_73 (q := 76) rfl 2 rfl (v := (a1 + (1 : Int32))) (congrArg (HAdd.hAdd a1) li_i1) (Nat.le_of_ble_eq_true rfl) (lv' := [(3, .int (a1 + (1 : Int32))), (0, .ref (h 70)), (1, .ref (h 1)), (4, .int a2)]) rfl ?_
            exact wg_sub [1, 2, 0, 3] rfl (ih3 _ _ hs)
  refine g_if_eq X dX8_dawn_1 (q := 4) rfl (tgt := 9) (by decide) hs ?_ ?_
  · intro hs
    exact wg_sub [0, 1] rfl (ih1 _ hs)
  · intro hs
    refine g_aload_n X dX8_dawn_4 (q := 5) rfl 0 rfl ?_
    refine g_aload_n X dX8_dawn_5 (q := 6) rfl 1 rfl ?_
    refine vc_X8_followPlan_r_X8 hZ X dX8_dawn_6 (q := 9) rfl (Nat.le_of_ble_eq_true rfl) (Nat.le_of_ble_eq_true rfl) (Nat.le_of_ble_eq_true rfl) hs (fun s5 hs => ?_)
    exact wg_sub [0, 1] rfl (ih1 _ hs)
def C_X8_scatter_r (s : ST) (x2 : Int32) (x3 : Int32) : Option (ST) := Bd (C_X4_of s 9 x2 (2 : Int32)) fun y1 => lpK3 (C := ST) (fun (rec1 : Int32 → Int32 → ST → Option (ST)) (a1 : Int32) (a2 : Int32) (s1 : ST) => if y1 ≤ a2 then (some s1) else (Lt (C_X1_downWind s1 1 a1) fun y2 => if y2 = (-1 : Int32) then (some s1) else (Lt (C_X1_hasHedge s1 1 y2) fun y3 => if y3 = 0 then (Lt (C_X1_hasSeed s1 1 y2) fun y4 => Lt (fun (s2 : ST) => (rec1 y2 (a2 + (1 : Int32)) s2 : Option (ST))) fun j1 => if y4 = 0 then (Lt (C_X1_hasStorm s1 1 y2) fun y5 => if y5 = 0 then (Bd (C_X1_laySeed s1 1 x2 y2) fun s3 => Bd (C_X8_note_r s3 (5 : Int32) y2 x2) fun s4 => j1 s4) else (j1 s1)) else (j1 s1)) else (some s1)))) FU x3 (0 : Int32) s
set_option maxRecDepth 100000 in
set_option maxHeartbeats 4000000 in
theorem k_X8_scatter_r {h : Nat → Nat} {Z : State → Heap → Prop} {sa : Nat → Nat} (hZ : ZK h Z sa) (l : Launch) (D : va_G) (cA cL : ClassId) (s : ST) (x2 : Int32) (x3 : Int32) {o : ST} (hs : C_X8_scatter_r s x2 x3 = some o) : MV l (KC D cA cL h Z) 3 yX8_scatter cX8_scatter 7 none s [.ref (h 70), .ref (h 1), .int x2, .int x3] o := by
  refine met_v (by decide) (Nat.le_of_ble_eq_true rfl) ?_
  intro p e st m args below meth c Q X RI
  unfold C_X8_scatter_r at hs
  refine g_iload_n X dX8_scatter_0 (q := 1) rfl 3 rfl ?_
  refine g_istore X dX8_scatter_1 (q := 3) rfl (Nat.le_of_ble_eq_true rfl) (lv' := [(4, .int x3), (0, .ref (h 70)), (1, .ref (h 1)), (2, .int x2), (3, .int x3)]) rfl ?_
  refine g_aload_n X dX8_scatter_3 (q := 4) rfl 1 rfl ?_
  refine cg_8_0 X dX8_scatter_4 (q := 7) rfl sh_70 lf_X8_9 ?_
  refine cgN_7_0 hZ X dX8_scatter_7 (q := 10) rfl sh_8 lf_X8_69 ?_
  refine g_iload_n X dX8_scatter_10 (q := 11) rfl 3 rfl ?_
  refine g_iconst X dX8_scatter_11 (q := 12) rfl li_i2 ?_
  refine vc_X4_of_X8 hZ X dX8_scatter_12 (q := 15) rfl sh_9 (Nat.le_of_ble_eq_true rfl) (Nat.le_of_ble_eq_true rfl) (Nat.le_of_ble_eq_true rfl) hs (fun y1 hs => ?_)
  refine g_istore X dX8_scatter_15 (q := 17) rfl (Nat.le_of_ble_eq_true rfl) (lv' := [(5, .int y1), (4, .int x3), (0, .ref (h 70)), (1, .ref (h 1)), (2, .int x2), (3, .int x3)]) rfl ?_
  refine g_iconst X dX8_scatter_17 (q := 18) rfl li_i0 ?_
  refine g_istore X dX8_scatter_18 (q := 20) rfl (Nat.le_of_ble_eq_true rfl) (lv' := [(6, .int (0 : Int32)), (5, .int y1), (4, .int x3), (0, .ref (h 70)), (1, .ref (h 1)), (2, .int x2), (3, .int x3)]) rfl ?_
  refine wg_sub [3, 4, 5, 2, 1, 0] rfl (lpW3 (fun (a1 : Int32) (a2 : Int32) (s1 : ST) => WG (KC D cA cL h Z) p l e (rmD 3) st m args below meth c Q 7 s1 20 [(0, .ref (h 70)), (1, .ref (h 1)), (2, .int x2), (4, .int a1), (5, .int y1), (6, .int a2)] []) (fun rec1 ih1 a1 a2 s1 hs => ?_) _ _ _ _ hs)
  refine g_iload X dX8_scatter_20 (q := 22) rfl 5 rfl ?_
  refine g_iload X dX8_scatter_22 (q := 24) rfl 4 rfl ?_
  refine g_icmp_ge X dX8_scatter_24 (q := 27) rfl (tgt := 91) (by decide) hs ?_ ?_
  · intro hs
    exact RI _ 91 _ (Option.some.inj hs) dX8_scatter_91
  · intro hs
    refine g_aload_n X dX8_scatter_27 (q := 28) rfl 1 rfl ?_
    refine g_iload X dX8_scatter_28 (q := 30) rfl 3 rfl ?_
    refine vc_X1_downWind_X8 hZ X dX8_scatter_30 (q := 33) rfl sh_1 (Nat.le_of_ble_eq_true rfl) (Nat.le_of_ble_eq_true rfl) (Nat.le_of_ble_eq_true rfl) hs (fun y2 hs => ?_)
    refine g_istore X dX8_scatter_33 (q := 35) rfl (Nat.le_of_ble_eq_true rfl) (lv' := [(4, .int y2), (0, .ref (h 70)), (1, .ref (h 1)), (2, .int x2), (5, .int y1), (6, .int a2)]) rfl ?_
    refine g_iload X dX8_scatter_35 (q := 37) rfl 0 rfl ?_
    refine g_iconst X dX8_scatter_37 (q := 38) rfl li_im1 ?_
    refine g_icmp_eq X dX8_scatter_38 (q := 41) rfl (tgt := 50) (by decide) hs ?_ ?_
    · intro hs
      exact RI _ 50 _ (Option.some.inj hs) dX8_scatter_50
    · intro hs
      refine g_aload_n X dX8_scatter_41 (q := 42) rfl 2 rfl ?_
      refine g_iload X dX8_scatter_42 (q := 44) rfl 0 rfl ?_
      refine vc_X1_hasHedge_X8 hZ X dX8_scatter_44 (q := 47) rfl sh_1 (Nat.le_of_ble_eq_true rfl) (Nat.le_of_ble_eq_true rfl) (Nat.le_of_ble_eq_true rfl) hs (fun y3 hs => ?_)
      refine g_if_eq X dX8_scatter_47 (q := 50) rfl (tgt := 51) (by decide) hs ?_ ?_
      · intro hs
        refine g_aload_n X dX8_scatter_51 (q := 52) rfl 2 rfl ?_
        refine g_iload X dX8_scatter_52 (q := 54) rfl 0 rfl ?_
        refine vc_X1_hasSeed_X8 hZ X dX8_scatter_54 (q := 57) rfl sh_1 (Nat.le_of_ble_eq_true rfl) (Nat.le_of_ble_eq_true rfl) (Nat.le_of_ble_eq_true rfl) hs (fun y4 hs => ?_)
        refine jnW1 (fun (s2 : ST) => WG (KC D cA cL h Z) p l e (rmD 3) st m args below meth c Q 7 s2 85 [(0, .ref (h 70)), (1, .ref (h 1)), (2, .int x2), (4, .int y2), (5, .int y1), (6, .int a2)] []) hs (fun s2 hs => ?_) (fun j1 ih2 hs => ?_)
        · refine g_iinc X dX8_scatter_85 (q := 88) rfl 5 rfl (v := (a2 + (1 : Int32))) (congrArg (HAdd.hAdd a2) li_i1) (Nat.le_of_ble_eq_true rfl) (lv' := [(6, .int (a2 + (1 : Int32))), (0, .ref (h 70)), (1, .ref (h 1)), (2, .int x2), (4, .int y2), (5, .int y1)]) rfl ?_
          refine g_goto X dX8_scatter_88 (tgt := 20) (by decide) ?_
          exact wg_sub [1, 2, 3, 4, 5, 0] rfl (ih1 _ _ _ hs)
        refine g_if_ne X dX8_scatter_57 (q := 60) rfl (tgt := 85) (by decide) hs ?_ ?_
        · intro hs
          exact wg_sub [1, 2, 3, 0, 4, 5] rfl (ih2 _ hs)
        · intro hs
          refine g_aload_n X dX8_scatter_60 (q := 61) rfl 2 rfl ?_
          refine g_iload X dX8_scatter_61 (q := 63) rfl 0 rfl ?_
          refine vc_X1_hasStorm_X8 hZ X dX8_scatter_63 (q := 66) rfl sh_1 (Nat.le_of_ble_eq_true rfl) (Nat.le_of_ble_eq_true rfl) (Nat.le_of_ble_eq_true rfl) hs (fun y5 hs => ?_)
          refine g_if_ne X dX8_scatter_66 (q := 69) rfl (tgt := 85) (by decide) hs ?_ ?_
          · intro hs
            exact wg_sub [1, 2, 3, 0, 4, 5] rfl (ih2 _ hs)
          · intro hs
            refine g_aload_n X dX8_scatter_69 (q := 70) rfl 2 rfl ?_
            refine g_iload_n X dX8_scatter_70 (q := 71) rfl 3 rfl ?_
            refine g_iload X dX8_scatter_71 (q := 73) rfl 0 rfl ?_
            refine vc_X1_laySeed_X8 hZ X dX8_scatter_73 (q := 76) rfl sh_1 (Nat.le_of_ble_eq_true rfl) (Nat.le_of_ble_eq_true rfl) (Nat.le_of_ble_eq_true rfl) hs (fun s3 hs => ?_)
            refine g_aload_n X dX8_scatter_76 (q := 77) rfl 1 rfl ?_
            refine g_aload_n X dX8_scatter_77 (q := 78) rfl 2 rfl ?_
            refine g_iconst X dX8_scatter_78 (q := 79) rfl li_i5 ?_
            refine g_iload X dX8_scatter_79 (q := 81) rfl 0 rfl ?_
            refine g_iload_n X dX8_scatter_81 (q := 82) rfl 3 rfl ?_
            refine vc_X8_note_r_X8 hZ X dX8_scatter_82 (q := 85) rfl (Nat.le_of_ble_eq_true rfl) (Nat.le_of_ble_eq_true rfl) (Nat.le_of_ble_eq_true rfl) hs (fun s4 hs => ?_)
            exact wg_sub [1, 2, 3, 0, 4, 5] rfl (ih2 _ hs)
      · intro hs
        exact RI _ 50 _ (Option.some.inj hs) dX8_scatter_50
theorem dX8_letBirdsDrop_0 : decode cX8_letBirdsDrop 0 = .ok (.aload_n 1, 1) := by decide +kernel
theorem dX8_letBirdsDrop_1 : decode cX8_letBirdsDrop 1 = .ok (.getfield 161, 3) := by decide +kernel
theorem dX8_letBirdsDrop_4 : decode cX8_letBirdsDrop 4 = .ok (.iconst 2, 1) := by decide +kernel
theorem dX8_letBirdsDrop_5 : decode cX8_letBirdsDrop 5 = .ok (.if_icmp .lt 17, 3) := by decide +kernel
theorem dX8_letBirdsDrop_8 : decode cX8_letBirdsDrop 8 = .ok (.aload_n 1, 1) := by decide +kernel
theorem dX8_letBirdsDrop_9 : decode cX8_letBirdsDrop 9 = .ok (.sipush 1000, 3) := by decide +kernel
theorem dX8_letBirdsDrop_12 : decode cX8_letBirdsDrop 12 = .ok (.invokevirtual 164, 3) := by decide +kernel
theorem dX8_letBirdsDrop_15 : decode cX8_letBirdsDrop 15 = .ok (.aload_n 1, 1) := by decide +kernel
theorem dX8_letBirdsDrop_16 : decode cX8_letBirdsDrop 16 = .ok (.getfield 99, 3) := by decide +kernel
theorem dX8_letBirdsDrop_19 : decode cX8_letBirdsDrop 19 = .ok (.if_icmp .lt 4, 3) := by decide +kernel
theorem dX8_letBirdsDrop_22 : decode cX8_letBirdsDrop 22 = .ok (.return_, 1) := by decide +kernel
theorem dX8_letBirdsDrop_23 : decode cX8_letBirdsDrop 23 = .ok (.aload_n 1, 1) := by decide +kernel
theorem dX8_letBirdsDrop_24 : decode cX8_letBirdsDrop 24 = .ok (.aload_n 1, 1) := by decide +kernel
theorem dX8_letBirdsDrop_25 : decode cX8_letBirdsDrop 25 = .ok (.getfield 161, 3) := by decide +kernel
theorem dX8_letBirdsDrop_28 : decode cX8_letBirdsDrop 28 = .ok (.aload_n 1, 1) := by decide +kernel
theorem dX8_letBirdsDrop_29 : decode cX8_letBirdsDrop 29 = .ok (.getfield 167, 3) := by decide +kernel
theorem dX8_letBirdsDrop_32 : decode cX8_letBirdsDrop 32 = .ok (.imul, 1) := by decide +kernel
theorem dX8_letBirdsDrop_33 : decode cX8_letBirdsDrop 33 = .ok (.invokevirtual 164, 3) := by decide +kernel
theorem dX8_letBirdsDrop_36 : decode cX8_letBirdsDrop 36 = .ok (.istore_n 2, 1) := by decide +kernel
theorem dX8_letBirdsDrop_37 : decode cX8_letBirdsDrop 37 = .ok (.aload_n 1, 1) := by decide +kernel
theorem dX8_letBirdsDrop_38 : decode cX8_letBirdsDrop 38 = .ok (.aload_n 0, 1) := by decide +kernel
theorem dX8_letBirdsDrop_39 : decode cX8_letBirdsDrop 39 = .ok (.getfield 9, 3) := by decide +kernel
theorem dX8_letBirdsDrop_42 : decode cX8_letBirdsDrop 42 = .ok (.getfield 69, 3) := by decide +kernel
theorem dX8_letBirdsDrop_45 : decode cX8_letBirdsDrop 45 = .ok (.getfield 102, 3) := by decide +kernel
theorem dX8_letBirdsDrop_48 : decode cX8_letBirdsDrop 48 = .ok (.invokevirtual 164, 3) := by decide +kernel
theorem dX8_letBirdsDrop_51 : decode cX8_letBirdsDrop 51 = .ok (.istore_n 3, 1) := by decide +kernel
theorem dX8_letBirdsDrop_52 : decode cX8_letBirdsDrop 52 = .ok (.bipush 8, 2) := by decide +kernel
theorem dX8_letBirdsDrop_54 : decode cX8_letBirdsDrop 54 = .ok (.iload_n 2, 1) := by decide +kernel
theorem dX8_letBirdsDrop_55 : decode cX8_letBirdsDrop 55 = .ok (.aload_n 1, 1) := by decide +kernel
theorem dX8_letBirdsDrop_56 : decode cX8_letBirdsDrop 56 = .ok (.getfield 161, 3) := by decide +kernel
theorem dX8_letBirdsDrop_59 : decode cX8_letBirdsDrop 59 = .ok (.idiv, 1) := by decide +kernel
theorem dX8_letBirdsDrop_60 : decode cX8_letBirdsDrop 60 = .ok (.imul, 1) := by decide +kernel
theorem dX8_letBirdsDrop_61 : decode cX8_letBirdsDrop 61 = .ok (.iload_n 2, 1) := by decide +kernel
theorem dX8_letBirdsDrop_62 : decode cX8_letBirdsDrop 62 = .ok (.aload_n 1, 1) := by decide +kernel
theorem dX8_letBirdsDrop_63 : decode cX8_letBirdsDrop 63 = .ok (.getfield 161, 3) := by decide +kernel
theorem dX8_letBirdsDrop_66 : decode cX8_letBirdsDrop 66 = .ok (.irem, 1) := by decide +kernel
theorem dX8_letBirdsDrop_67 : decode cX8_letBirdsDrop 67 = .ok (.iadd, 1) := by decide +kernel
theorem dX8_letBirdsDrop_68 : decode cX8_letBirdsDrop 68 = .ok (.istore 4, 2) := by decide +kernel
theorem dX8_letBirdsDrop_70 : decode cX8_letBirdsDrop 70 = .ok (.aload_n 1, 1) := by decide +kernel
theorem dX8_letBirdsDrop_71 : decode cX8_letBirdsDrop 71 = .ok (.iload 4, 2) := by decide +kernel
theorem dX8_letBirdsDrop_73 : decode cX8_letBirdsDrop 73 = .ok (.invokevirtual 37, 3) := by decide +kernel
theorem dX8_letBirdsDrop_76 : decode cX8_letBirdsDrop 76 = .ok (.ifCond .eq 29, 3) := by decide +kernel
theorem dX8_letBirdsDrop_79 : decode cX8_letBirdsDrop 79 = .ok (.aload_n 1, 1) := by decide +kernel
theorem dX8_letBirdsDrop_80 : decode cX8_letBirdsDrop 80 = .ok (.iload 4, 2) := by decide +kernel
theorem dX8_letBirdsDrop_82 : decode cX8_letBirdsDrop 82 = .ok (.invokevirtual 83, 3) := by decide +kernel
theorem dX8_letBirdsDrop_85 : decode cX8_letBirdsDrop 85 = .ok (.ifCond .ne 20, 3) := by decide +kernel
theorem dX8_letBirdsDrop_88 : decode cX8_letBirdsDrop 88 = .ok (.aload_n 1, 1) := by decide +kernel
theorem dX8_letBirdsDrop_89 : decode cX8_letBirdsDrop 89 = .ok (.iload_n 3, 1) := by decide +kernel
theorem dX8_letBirdsDrop_90 : decode cX8_letBirdsDrop 90 = .ok (.iload 4, 2) := by decide +kernel
theorem dX8_letBirdsDrop_92 : decode cX8_letBirdsDrop 92 = .ok (.invokevirtual 40, 3) := by decide +kernel
theorem dX8_letBirdsDrop_95 : decode cX8_letBirdsDrop 95 = .ok (.aload_n 0, 1) := by decide +kernel
theorem dX8_letBirdsDrop_96 : decode cX8_letBirdsDrop 96 = .ok (.aload_n 1, 1) := by decide +kernel
theorem dX8_letBirdsDrop_97 : decode cX8_letBirdsDrop 97 = .ok (.bipush 6, 2) := by decide +kernel
theorem dX8_letBirdsDrop_99 : decode cX8_letBirdsDrop 99 = .ok (.iload 4, 2) := by decide +kernel
theorem dX8_letBirdsDrop_101 : decode cX8_letBirdsDrop 101 = .ok (.iload_n 3, 1) := by decide +kernel
theorem dX8_letBirdsDrop_102 : decode cX8_letBirdsDrop 102 = .ok (.invokevirtual 44, 3) := by decide +kernel
theorem dX8_letBirdsDrop_105 : decode cX8_letBirdsDrop 105 = .ok (.return_, 1) := by decide +kernel
theorem wX1_draw_X8 : Cond.methodLinkNest RX8 164 yX1_draw "StormSeeds" ∈ NW := nw_of 1072 (by decide +kernel) rfl
theorem vc_X1_draw_X8 {p : Program} {l : Launch} {e : Env} {st : State} {m : MethodId} {args : Array Value} {below : List Frame} {meth : Method} {c : Code} {Q : State → Prop} {nL : Nat} {cc : ByteArray} {s : ST} {pc q : Nat} {lv : List (Nat × Value)} {rest : List Value} {D : va_G} {cA cL : ClassId} {h : Nat → Nat} {Z : State → Heap → Prop} {sa : Nat → Nat} (hZ : ZK h Z sa) {d0 : Nat} (X : Cx (KC D cA cL h Z) p st m args meth c cc nL RX8) {b0 : Nat} {x1 : Int32} (d : decode cc pc = .ok (.invokevirtual 164, 3)) (hq : pc + 3 = q) (hb0 : isK 1 b0) (hd1 : 1 + 1 ≤ d0) (hd2 : 8 + (2 + 11) + 100 * 1 ≤ 100 * d0) (hr : (rest.map fun v => v.category).sum ≤ 8) {B : Type} {f : Int32 × ST → Option B} {r : B} (hs : Bd (C_X1_draw s b0 x1) f = some r) (k : ∀ y, f y = some r → WG (KC D cA cL h Z) p l e (rmD d0) st m args below meth c Q nL y.2 q lv (.int y.1 :: rest)) : WG (KC D cA cL h Z) p l e (rmD d0) st m args below meth c Q nL s pc lv (.int x1 :: .ref (h b0) :: rest) := by
  obtain ⟨v, hv, hs⟩ := Bd_e hs
  exact cVN_I (K := KC D cA cL h Z) X b0 (n := 1) (k_X1_draw hZ l D cA cL s b0 x1 hb0 hv) (gt_c (gt_of 1075 (by decide +kernel) rfl) gt_t) (hZ.1 st st.heap X.2.2.2 _ wX1_draw_X8) (gt_of 197 (by decide +kernel) rfl) (gt_of 1074 (by decide +kernel) rfl) (gt_of 78 (by decide +kernel) rfl) ⟨hd1, hd2⟩ ⟨by decide, by decide, by decide +kernel⟩ (As := [.int x1]) rfl hr (hb0).1 (fs := cF1 h b0 (s.1 b0) (s.2 b0)) (GC_1 (cA := cA) (cL := cL) hb0 _ _) rfl rfl d hq (k _ hs)
def C_X8_letBirdsDrop_r (s : ST) : Option (ST) := if (s.1 1 0) < (2 : Int32) then (some s) else (Bd (C_X1_draw s 1 (1000 : Int32)) fun y1 => if y1.1 < (y1.2.1 1 4) then (Bd (C_X1_draw y1.2 1 ((y1.2.1 1 0) * (y1.2.1 1 1))) fun y2 => Bd (C_X1_draw y2.2 1 (y2.2.1 9 2)) fun y3 => Gz (y3.2.1 1 0) <| Gz (y3.2.1 1 0) <| Lt ((((8 : Int32) * (y2.1 / (y3.2.1 1 0))) + (irm y2.1 (y3.2.1 1 0)))) fun y4 => Lt (C_X1_isSowable y3.2 1 y4) fun y5 => if y5 = 0 then (some y3.2) else (Lt (C_X1_hasStorm y3.2 1 y4) fun y6 => if y6 = 0 then (Bd (C_X1_laySeed y3.2 1 y3.1 y4) fun s1 => Bd (C_X8_note_r s1 (6 : Int32) y4 y3.1) fun s2 => some s2) else (some y3.2))) else (some y1.2))
set_option maxRecDepth 100000 in
set_option maxHeartbeats 4000000 in
theorem k_X8_letBirdsDrop_r {h : Nat → Nat} {Z : State → Heap → Prop} {sa : Nat → Nat} (hZ : ZK h Z sa) (l : Launch) (D : va_G) (cA cL : ClassId) (s : ST) {o : ST} (hs : C_X8_letBirdsDrop_r s = some o) : MV l (KC D cA cL h Z) 3 yX8_letBirdsDrop cX8_letBirdsDrop 5 none s [.ref (h 70), .ref (h 1)] o := by
  refine met_v (by decide) (Nat.le_of_ble_eq_true rfl) ?_
  intro p e st m args below meth c Q X RI
  unfold C_X8_letBirdsDrop_r at hs
  refine g_aload_n X dX8_letBirdsDrop_0 (q := 1) rfl 1 rfl ?_
  refine cgN_1_0 hZ X dX8_letBirdsDrop_1 (q := 4) rfl sh_1 lf_X8_161 ?_
  refine g_iconst X dX8_letBirdsDrop_4 (q := 5) rfl li_i2 ?_
  refine g_icmp_lt X dX8_letBirdsDrop_5 (q := 8) rfl (tgt := 22) (by decide) hs ?_ ?_
  · intro hs
    exact RI _ 22 _ (Option.some.inj hs) dX8_letBirdsDrop_22
  · intro hs
    refine g_aload_n X dX8_letBirdsDrop_8 (q := 9) rfl 1 rfl ?_
    refine g_sipush X dX8_letBirdsDrop_9 (q := 12) rfl li_s1000 ?_
    refine vc_X1_draw_X8 hZ X dX8_letBirdsDrop_12 (q := 15) rfl sh_1 (Nat.le_of_ble_eq_true rfl) (Nat.le_of_ble_eq_true rfl) (Nat.le_of_ble_eq_true rfl) hs (fun y1 hs => ?_)
    refine g_aload_n X dX8_letBirdsDrop_15 (q := 16) rfl 1 rfl ?_
    refine cgN_1_4 hZ X dX8_letBirdsDrop_16 (q := 19) rfl sh_1 lf_X8_99 ?_
    refine g_icmp_lt X dX8_letBirdsDrop_19 (q := 22) rfl (tgt := 23) (by decide) hs ?_ ?_
    · intro hs
      refine g_aload_n X dX8_letBirdsDrop_23 (q := 24) rfl 1 rfl ?_
      refine g_aload_n X dX8_letBirdsDrop_24 (q := 25) rfl 1 rfl ?_
      refine cgN_1_0 hZ X dX8_letBirdsDrop_25 (q := 28) rfl sh_1 lf_X8_161 ?_
      refine g_aload_n X dX8_letBirdsDrop_28 (q := 29) rfl 1 rfl ?_
      refine cgN_1_1 hZ X dX8_letBirdsDrop_29 (q := 32) rfl sh_1 lf_X8_167 ?_
      refine g_imul X dX8_letBirdsDrop_32 (q := 33) rfl ?_
      refine vc_X1_draw_X8 hZ X dX8_letBirdsDrop_33 (q := 36) rfl sh_1 (Nat.le_of_ble_eq_true rfl) (Nat.le_of_ble_eq_true rfl) (Nat.le_of_ble_eq_true rfl) hs (fun y2 hs => ?_)
      refine g_istore_n X dX8_letBirdsDrop_36 (q := 37) rfl (Nat.le_of_ble_eq_true rfl) (lv' := [(2, .int y2.1), (0, .ref (h 70)), (1, .ref (h 1))]) rfl ?_
      refine g_aload_n X dX8_letBirdsDrop_37 (q := 38) rfl 2 rfl ?_
      refine g_aload_n X dX8_letBirdsDrop_38 (q := 39) rfl 1 rfl ?_
      refine cg_8_0 X dX8_letBirdsDrop_39 (q := 42) rfl sh_70 lf_X8_9 ?_
      refine cgN_7_0 hZ X dX8_letBirdsDrop_42 (q := 45) rfl sh_8 lf_X8_69 ?_
      refine cgN_4_2 hZ X dX8_letBirdsDrop_45 (q := 48) rfl sh_9 lf_X8_102 ?_
      refine vc_X1_draw_X8 hZ X dX8_letBirdsDrop_48 (q := 51) rfl sh_1 (Nat.le_of_ble_eq_true rfl) (Nat.le_of_ble_eq_true rfl) (Nat.le_of_ble_eq_true rfl) hs (fun y3 hs => ?_)
      refine g_istore_n X dX8_letBirdsDrop_51 (q := 52) rfl (Nat.le_of_ble_eq_true rfl) (lv' := [(3, .int y3.1), (2, .int y2.1), (0, .ref (h 70)), (1, .ref (h 1))]) rfl ?_
      refine g_bipush X dX8_letBirdsDrop_52 (q := 54) rfl li_b8 ?_
      refine g_iload_n X dX8_letBirdsDrop_54 (q := 55) rfl 1 rfl ?_
      refine g_aload_n X dX8_letBirdsDrop_55 (q := 56) rfl 3 rfl ?_
      refine cgN_1_0 hZ X dX8_letBirdsDrop_56 (q := 59) rfl sh_1 lf_X8_161 ?_
      have hz := (Gz_e hs).1
      replace hs := (Gz_e hs).2
      refine g_idiv X dX8_letBirdsDrop_59 (q := 60) rfl hz ?_
      refine g_imul X dX8_letBirdsDrop_60 (q := 61) rfl ?_
      refine g_iload_n X dX8_letBirdsDrop_61 (q := 62) rfl 1 rfl ?_
      refine g_aload_n X dX8_letBirdsDrop_62 (q := 63) rfl 3 rfl ?_
      refine cgN_1_0 hZ X dX8_letBirdsDrop_63 (q := 66) rfl sh_1 lf_X8_161 ?_
      have hz := (Gz_e hs).1
      replace hs := (Gz_e hs).2
      refine g_irem X dX8_letBirdsDrop_66 (q := 67) rfl hz ?_
      refine g_iadd X dX8_letBirdsDrop_67 (q := 68) rfl ?_
      refine nmI hs (fun y4 hs => ?_)
      refine g_istore X dX8_letBirdsDrop_68 (q := 70) rfl (Nat.le_of_ble_eq_true rfl) (lv' := [(4, .int y4), (3, .int y3.1), (2, .int y2.1), (0, .ref (h 70)), (1, .ref (h 1))]) rfl ?_
      refine g_aload_n X dX8_letBirdsDrop_70 (q := 71) rfl 4 rfl ?_
      refine g_iload X dX8_letBirdsDrop_71 (q := 73) rfl 0 rfl ?_
      refine vc_X1_isSowable_X8 hZ X dX8_letBirdsDrop_73 (q := 76) rfl sh_1 (Nat.le_of_ble_eq_true rfl) (Nat.le_of_ble_eq_true rfl) (Nat.le_of_ble_eq_true rfl) hs (fun y5 hs => ?_)
      refine g_if_eq X dX8_letBirdsDrop_76 (q := 79) rfl (tgt := 105) (by decide) hs ?_ ?_
      · intro hs
        exact RI _ 105 _ (Option.some.inj hs) dX8_letBirdsDrop_105
      · intro hs
        refine g_aload_n X dX8_letBirdsDrop_79 (q := 80) rfl 4 rfl ?_
        refine g_iload X dX8_letBirdsDrop_80 (q := 82) rfl 0 rfl ?_
        refine vc_X1_hasStorm_X8 hZ X dX8_letBirdsDrop_82 (q := 85) rfl sh_1 (Nat.le_of_ble_eq_true rfl) (Nat.le_of_ble_eq_true rfl) (Nat.le_of_ble_eq_true rfl) hs (fun y6 hs => ?_)
        refine g_if_ne X dX8_letBirdsDrop_85 (q := 88) rfl (tgt := 105) (by decide) hs ?_ ?_
        · intro hs
          exact RI _ 105 _ (Option.some.inj hs) dX8_letBirdsDrop_105
        · intro hs
          refine g_aload_n X dX8_letBirdsDrop_88 (q := 89) rfl 4 rfl ?_
          refine g_iload_n X dX8_letBirdsDrop_89 (q := 90) rfl 1 rfl ?_
          refine g_iload X dX8_letBirdsDrop_90 (q := 92) rfl 0 rfl ?_
          refine vc_X1_laySeed_X8 hZ X dX8_letBirdsDrop_92 (q := 95) rfl sh_1 (Nat.le_of_ble_eq_true rfl) (Nat.le_of_ble_eq_true rfl) (Nat.le_of_ble_eq_true rfl) hs (fun s1 hs => ?_)
          refine g_aload_n X dX8_letBirdsDrop_95 (q := 96) rfl 3 rfl ?_
          refine g_aload_n X dX8_letBirdsDrop_96 (q := 97) rfl 4 rfl ?_
          refine g_bipush X dX8_letBirdsDrop_97 (q := 99) rfl li_b6 ?_
          refine g_iload X dX8_letBirdsDrop_99 (q := 101) rfl 0 rfl ?_
          refine g_iload_n X dX8_letBirdsDrop_101 (q := 102) rfl 1 rfl ?_
          refine vc_X8_note_r_X8 hZ X dX8_letBirdsDrop_102 (q := 105) rfl (Nat.le_of_ble_eq_true rfl) (Nat.le_of_ble_eq_true rfl) (Nat.le_of_ble_eq_true rfl) hs (fun s2 hs => ?_)
          exact RI _ 105 _ (Option.some.inj hs) dX8_letBirdsDrop_105
    · intro hs
      exact RI _ 22 _ (Option.some.inj hs) dX8_letBirdsDrop_22
theorem wX8_letBirdsDrop_r_X8 : GoodIn GT (wsV RX8 105 RX8 yX8_letBirdsDrop (.code yX8_letBirdsDrop cX8_letBirdsDrop 5 none :: GT)) := gt_V (gt_of 1068 (by decide +kernel) rfl) (gt_of 1070 (by decide +kernel) rfl) (gt_of 77 (by decide +kernel) rfl) (gt_of 204 (by decide +kernel) rfl) (gt_of 1071 (by decide +kernel) rfl)
theorem vc_X8_letBirdsDrop_r_X8 {p : Program} {l : Launch} {e : Env} {st : State} {m : MethodId} {args : Array Value} {below : List Frame} {meth : Method} {c : Code} {Q : State → Prop} {nL : Nat} {cc : ByteArray} {s : ST} {pc q : Nat} {lv : List (Nat × Value)} {rest : List Value} {D : va_G} {cA cL : ClassId} {h : Nat → Nat} {Z : State → Heap → Prop} {sa : Nat → Nat} (hZ : ZK h Z sa) {d0 : Nat} (X : Cx (KC D cA cL h Z) p st m args meth c cc nL RX8) (d : decode cc pc = .ok (.invokevirtual 105, 3)) (hq : pc + 3 = q) (hd1 : 3 + 1 ≤ d0) (hd2 : 8 + (5 + 11) + 100 * 3 ≤ 100 * d0) (hr : (rest.map fun v => v.category).sum ≤ 8) {B : Type} {f : ST → Option B} {r : B} (hs : Bd (C_X8_letBirdsDrop_r s) f = some r) (k : ∀ y, f y = some r → WG (KC D cA cL h Z) p l e (rmD d0) st m args below meth c Q nL y q lv (rest)) : WG (KC D cA cL h Z) p l e (rmD d0) st m args below meth c Q nL s pc lv (.ref (h 1) :: .ref (h 70) :: rest) := by
  obtain ⟨v, hv, hs⟩ := Bd_e hs
  exact cV_V (K := KC D cA cL h Z) X 70 (n := 1) (k_X8_letBirdsDrop_r hZ l D cA cL s hv) wX8_letBirdsDrop_r_X8 ⟨hd1, hd2⟩ ⟨by decide, by decide, by decide +kernel⟩ (As := [.ref (h 1)]) rfl hr (sh_70).1 (fs := cF8 h 70 (s.1 70) (s.2 70)) (GC_8 (cA := cA) (cL := cL) sh_70 _ _) rfl rfl d hq (k _ hs)
theorem wX8_scatter_r_X8 : GoodIn GT (wsV RX8 95 RX8 yX8_scatter (.code yX8_scatter cX8_scatter 7 none :: GT)) := gt_V (gt_of 1056 (by decide +kernel) rfl) (gt_of 1058 (by decide +kernel) rfl) (gt_of 74 (by decide +kernel) rfl) (gt_of 204 (by decide +kernel) rfl) (gt_of 1059 (by decide +kernel) rfl)
theorem vc_X8_scatter_r_X8 {p : Program} {l : Launch} {e : Env} {st : State} {m : MethodId} {args : Array Value} {below : List Frame} {meth : Method} {c : Code} {Q : State → Prop} {nL : Nat} {cc : ByteArray} {s : ST} {pc q : Nat} {lv : List (Nat × Value)} {rest : List Value} {D : va_G} {cA cL : ClassId} {h : Nat → Nat} {Z : State → Heap → Prop} {sa : Nat → Nat} (hZ : ZK h Z sa) {d0 : Nat} (X : Cx (KC D cA cL h Z) p st m args meth c cc nL RX8) {x2 : Int32} {x3 : Int32} (d : decode cc pc = .ok (.invokevirtual 95, 3)) (hq : pc + 3 = q) (hd1 : 3 + 1 ≤ d0) (hd2 : 8 + (7 + 11) + 100 * 3 ≤ 100 * d0) (hr : (rest.map fun v => v.category).sum ≤ 8) {B : Type} {f : ST → Option B} {r : B} (hs : Bd (C_X8_scatter_r s x2 x3) f = some r) (k : ∀ y, f y = some r → WG (KC D cA cL h Z) p l e (rmD d0) st m args below meth c Q nL y q lv (rest)) : WG (KC D cA cL h Z) p l e (rmD d0) st m args below meth c Q nL s pc lv (.int x3 :: .int x2 :: .ref (h 1) :: .ref (h 70) :: rest) := by
  obtain ⟨v, hv, hs⟩ := Bd_e hs
  exact cV_V (K := KC D cA cL h Z) X 70 (n := 3) (k_X8_scatter_r hZ l D cA cL s x2 x3 hv) wX8_scatter_r_X8 ⟨hd1, hd2⟩ ⟨by decide, by decide, by decide +kernel⟩ (As := [.ref (h 1), .int x2, .int x3]) rfl hr (sh_70).1 (fs := cF8 h 70 (s.1 70) (s.2 70)) (GC_8 (cA := cA) (cL := cL) sh_70 _ _) rfl rfl d hq (k _ hs)
def C_X8_dusk_r (s : ST) : Option (ST) := lpK2 (C := ST) (fun (rec1 : Int32 → ST → Option (ST)) (a1 : Int32) (s1 : ST) => if (64 : Int32) ≤ a1 then (Lt (fun (s2 : ST) => (Lt (ups s2 1 2 ((s2.1 1 2) + (1 : Int32))) fun s3 => some s3 : Option (ST))) fun j1 => if (s1.1 1 4) ≤ 0 then (j1 s1) else (if (s1.1 9 2) ≤ 0 then (j1 s1) else (Bd (C_X8_letBirdsDrop_r s1) fun s4 => j1 s4))) else (Lt (C_X1_hasStorm s1 1 a1) fun y1 => Lt (fun (s5 : ST) => (rec1 (a1 + (1 : Int32)) s5 : Option (ST))) fun j2 => if y1 = 0 then (j2 s1) else (Gl s1 7 64 a1 fun y2 => if (s1.1 1 2) < y2 then (j2 s1) else (Lt (C_X1_endStorm s1 1 a1) fun s6 => Gl s6 5 64 a1 fun y3 => Bd (C_X8_note_r s6 (4 : Int32) a1 y3) fun s7 => Gl s7 5 64 a1 fun y4 => Bd (C_X8_scatter_r s7 y4 a1) fun s8 => j2 s8)))) FU (0 : Int32) s
set_option maxRecDepth 100000 in
set_option maxHeartbeats 4000000 in
theorem k_X8_dusk_r {h : Nat → Nat} {Z : State → Heap → Prop} {sa : Nat → Nat} (hZ : ZK h Z sa) (l : Launch) (D : va_G) (cA cL : ClassId) (s : ST) {o : ST} (hs : C_X8_dusk_r s = some o) : MV l (KC D cA cL h Z) 4 yX8_dusk cX8_dusk 3 none s [.ref (h 70), .ref (h 1)] o := by
  refine met_v (by decide) (Nat.le_of_ble_eq_true rfl) ?_
  intro p e st m args below meth c Q X RI
  unfold C_X8_dusk_r at hs
  refine g_iconst X dX8_dusk_0 (q := 1) rfl li_i0 ?_
  refine g_istore_n X dX8_dusk_1 (q := 2) rfl (Nat.le_of_ble_eq_true rfl) (lv' := [(2, .int (0 : Int32)), (0, .ref (h 70)), (1, .ref (h 1))]) rfl ?_
  refine wg_sub [1, 2, 0] rfl (lpW2 (fun (a1 : Int32) (s1 : ST) => WG (KC D cA cL h Z) p l e (rmD 4) st m args below meth c Q 3 s1 2 [(0, .ref (h 70)), (1, .ref (h 1)), (2, .int a1)] []) (fun rec1 ih1 a1 s1 hs => ?_) _ _ _ hs)
  refine g_iload_n X dX8_dusk_2 (q := 3) rfl 2 rfl ?_
  refine g_bipush X dX8_dusk_3 (q := 5) rfl li_b64 ?_
  refine g_icmp_ge X dX8_dusk_5 (q := 8) rfl (tgt := 65) (by decide) hs ?_ ?_
  · intro hs
    refine g_aload_n X dX8_dusk_65 (q := 66) rfl 0 rfl ?_
    refine cg_8_1 X dX8_dusk_66 (q := 69) rfl sh_70 lf_X8_15 ?_
    refine jnW1 (fun (s2 : ST) => WG (KC D cA cL h Z) p l e (rmD 4) st m args below meth c Q 3 s2 97 [(1, .ref (h 1))] []) hs (fun s2 hs => ?_) (fun j1 ih2 hs => ?_)
    · refine g_aload_n X dX8_dusk_97 (q := 98) rfl 0 rfl ?_
      refine g_dup X dX8_dusk_98 (q := 99) rfl rfl ?_
      refine cgN_1_2 hZ X dX8_dusk_99 (q := 102) rfl sh_1 lf_X8_19 ?_
      refine g_iconst X dX8_dusk_102 (q := 103) rfl li_i1 ?_
      refine g_iadd X dX8_dusk_103 (q := 104) rfl ?_
      refine cpN_1_2 hZ X dX8_dusk_104 (q := 107) rfl sh_1 lf_X8_19 hs (fun s3 hs => ?_)
      exact RI _ 107 _ (Option.some.inj hs) dX8_dusk_107
    refine g_ifnull X dX8_dusk_69 (q := 72) rfl ?_
    refine g_aload_n X dX8_dusk_72 (q := 73) rfl 1 rfl ?_
    refine cgN_1_4 hZ X dX8_dusk_73 (q := 76) rfl sh_1 lf_X8_99 ?_
    refine g_if_le X dX8_dusk_76 (q := 79) rfl (tgt := 97) (by decide) hs ?_ ?_
    · intro hs
      exact wg_sub [1] rfl (ih2 _ hs)
    · intro hs
      refine g_aload_n X dX8_dusk_79 (q := 80) rfl 0 rfl ?_
      refine cg_8_0 X dX8_dusk_80 (q := 83) rfl sh_70 lf_X8_9 ?_
      refine cgN_7_0 hZ X dX8_dusk_83 (q := 86) rfl sh_8 lf_X8_69 ?_
      refine cgN_4_2 hZ X dX8_dusk_86 (q := 89) rfl sh_9 lf_X8_102 ?_
      refine g_if_le X dX8_dusk_89 (q := 92) rfl (tgt := 97) (by decide) hs ?_ ?_
      · intro hs
        exact wg_sub [1] rfl (ih2 _ hs)
      · intro hs
        refine g_aload_n X dX8_dusk_92 (q := 93) rfl 0 rfl ?_
        refine g_aload_n X dX8_dusk_93 (q := 94) rfl 1 rfl ?_
        refine vc_X8_letBirdsDrop_r_X8 hZ X dX8_dusk_94 (q := 97) rfl (Nat.le_of_ble_eq_true rfl) (Nat.le_of_ble_eq_true rfl) (Nat.le_of_ble_eq_true rfl) hs (fun s4 hs => ?_)
        exact wg_sub [1] rfl (ih2 _ hs)
  · intro hs
    refine g_aload_n X dX8_dusk_8 (q := 9) rfl 1 rfl ?_
    refine g_iload_n X dX8_dusk_9 (q := 10) rfl 2 rfl ?_
    refine vc_X1_hasStorm_X8 hZ X dX8_dusk_10 (q := 13) rfl sh_1 (Nat.le_of_ble_eq_true rfl) (Nat.le_of_ble_eq_true rfl) (Nat.le_of_ble_eq_true rfl) hs (fun y1 hs => ?_)
    refine jnW1 (fun (s5 : ST) => WG (KC D cA cL h Z) p l e (rmD 4) st m args below meth c Q 3 s5 59 [(0, .ref (h 70)), (1, .ref (h 1)), (2, .int a1)] []) hs (fun s5 hs => ?_) (fun j2 ih3 hs => ?_)
    · refine g_iinc X dX8_dusk_59 (q := 62) rfl 2 rfl (v := (a1 + (1 : Int32))) (congrArg (HAdd.hAdd a1) li_i1) (Nat.le_of_ble_eq_true rfl) (lv' := [(2, .int (a1 + (1 : Int32))), (0, .ref (h 70)), (1, .ref (h 1))]) rfl ?_
      refine g_goto X dX8_dusk_62 (tgt := 2) (by decide) ?_
      exact wg_sub [1, 2, 0] rfl (ih1 _ _ hs)
    refine g_if_eq X dX8_dusk_13 (q := 16) rfl (tgt := 59) (by decide) hs ?_ ?_
    · intro hs
      exact wg_sub [0, 1, 2] rfl (ih3 _ hs)
    · intro hs
      refine g_aload_n X dX8_dusk_16 (q := 17) rfl 1 rfl ?_
      refine cgN_1_15 hZ X dX8_dusk_17 (q := 20) rfl sh_1 lf_X8_86 ?_
      refine g_iload_n X dX8_dusk_20 (q := 21) rfl 2 rfl ?_
      refine ca_ld X dX8_dusk_21 (q := 22) rfl 7 sh_7 rfl hs (fun y2 hs => ?_)
      refine g_aload_n X dX8_dusk_22 (q := 23) rfl 1 rfl ?_
      refine cgN_1_2 hZ X dX8_dusk_23 (q := 26) rfl sh_1 lf_X8_19 ?_
      refine g_icmp_gt X dX8_dusk_26 (q := 29) rfl (tgt := 59) (by decide) hs ?_ ?_
      · intro hs
        exact wg_sub [0, 1, 2] rfl (ih3 _ hs)
      · intro hs
        refine g_aload_n X dX8_dusk_29 (q := 30) rfl 1 rfl ?_
        refine g_iload_n X dX8_dusk_30 (q := 31) rfl 2 rfl ?_
        refine vc_X1_endStorm_X8 hZ X dX8_dusk_31 (q := 34) rfl sh_1 (Nat.le_of_ble_eq_true rfl) (Nat.le_of_ble_eq_true rfl) (Nat.le_of_ble_eq_true rfl) hs (fun s6 hs => ?_)
        refine g_aload_n X dX8_dusk_34 (q := 35) rfl 0 rfl ?_
        refine g_aload_n X dX8_dusk_35 (q := 36) rfl 1 rfl ?_
        refine g_iconst X dX8_dusk_36 (q := 37) rfl li_i4 ?_
        refine g_iload_n X dX8_dusk_37 (q := 38) rfl 2 rfl ?_
        refine g_aload_n X dX8_dusk_38 (q := 39) rfl 1 rfl ?_
        refine cgN_1_13 hZ X dX8_dusk_39 (q := 42) rfl sh_1 lf_X8_92 ?_
        refine g_iload_n X dX8_dusk_42 (q := 43) rfl 2 rfl ?_
        refine ca_ld X dX8_dusk_43 (q := 44) rfl 5 sh_5 rfl hs (fun y3 hs => ?_)
        refine vc_X8_note_r_X8 hZ X dX8_dusk_44 (q := 47) rfl (Nat.le_of_ble_eq_true rfl) (Nat.le_of_ble_eq_true rfl) (Nat.le_of_ble_eq_true rfl) hs (fun s7 hs => ?_)
        refine g_aload_n X dX8_dusk_47 (q := 48) rfl 0 rfl ?_
        refine g_aload_n X dX8_dusk_48 (q := 49) rfl 1 rfl ?_
        refine g_aload_n X dX8_dusk_49 (q := 50) rfl 1 rfl ?_
        refine cgN_1_13 hZ X dX8_dusk_50 (q := 53) rfl sh_1 lf_X8_92 ?_
        refine g_iload_n X dX8_dusk_53 (q := 54) rfl 2 rfl ?_
        refine ca_ld X dX8_dusk_54 (q := 55) rfl 5 sh_5 rfl hs (fun y4 hs => ?_)
        refine g_iload_n X dX8_dusk_55 (q := 56) rfl 2 rfl ?_
        refine vc_X8_scatter_r_X8 hZ X dX8_dusk_56 (q := 59) rfl (Nat.le_of_ble_eq_true rfl) (Nat.le_of_ble_eq_true rfl) (Nat.le_of_ble_eq_true rfl) hs (fun s8 hs => ?_)
        exact wg_sub [0, 1, 2] rfl (ih3 _ hs)
theorem dX9_state_0 : decode cX9_state 0 = .ok (.aload_n 0, 1) := by decide +kernel
theorem dX9_state_1 : decode cX9_state 1 = .ok (.getfield 12, 3) := by decide +kernel
theorem dX9_state_4 : decode cX9_state 4 = .ok (.getfield 86, 3) := by decide +kernel
theorem dX9_state_7 : decode cX9_state 7 = .ok (.istore_n 2, 1) := by decide +kernel
theorem dX9_state_8 : decode cX9_state 8 = .ok (.aload_n 0, 1) := by decide +kernel
theorem dX9_state_9 : decode cX9_state 9 = .ok (.getfield 12, 3) := by decide +kernel
theorem dX9_state_12 : decode cX9_state 12 = .ok (.iload_n 1, 1) := by decide +kernel
theorem dX9_state_13 : decode cX9_state 13 = .ok (.putfield 86, 3) := by decide +kernel
theorem dX9_state_16 : decode cX9_state 16 = .ok (.aload_n 0, 1) := by decide +kernel
theorem dX9_state_17 : decode cX9_state 17 = .ok (.getfield 78, 3) := by decide +kernel
theorem dX9_state_20 : decode cX9_state 20 = .ok (.invokevirtual 90, 3) := by decide +kernel
theorem dX9_state_23 : decode cX9_state 23 = .ok (.iload_n 2, 1) := by decide +kernel
theorem dX9_state_24 : decode cX9_state 24 = .ok (.ireturn, 1) := by decide +kernel
theorem wX0_forget_X9 : Cond.methodLinkNest RX9 90 yX0_forget "StormSeeds" ∈ NW := nw_of 582 (by decide +kernel) rfl
theorem vc_X0_forget_X9 {p : Program} {l : Launch} {e : Env} {st : State} {m : MethodId} {args : Array Value} {below : List Frame} {meth : Method} {c : Code} {Q : State → Prop} {nL : Nat} {cc : ByteArray} {s : ST} {pc q : Nat} {lv : List (Nat × Value)} {rest : List Value} {D : va_G} {cA cL : ClassId} {h : Nat → Nat} {Z : State → Heap → Prop} {sa : Nat → Nat} (hZ : ZK h Z sa) {d0 : Nat} (X : Cx (KC D cA cL h Z) p st m args meth c cc nL RX9) (d : decode cc pc = .ok (.invokevirtual 90, 3)) (hq : pc + 3 = q) (hd1 : 1 + 1 ≤ d0) (hd2 : 8 + (1 + 11) + 100 * 1 ≤ 100 * d0) (hr : (rest.map fun v => v.category).sum ≤ 8) {B : Type} {f : ST → B} {r : B} (hs : Lt (C_X0_forget s) f = r) (k : ∀ y, f y = r → WG (KC D cA cL h Z) p l e (rmD d0) st m args below meth c Q nL y q lv (rest)) : WG (KC D cA cL h Z) p l e (rmD d0) st m args below meth c Q nL s pc lv (.ref (h 80) :: rest) := by
  exact cVN_V (K := KC D cA cL h Z) X 80 (n := 0) (k_X0_forget hZ l D cA cL s) (gt_c (gt_of 585 (by decide +kernel) rfl) gt_t) (hZ.1 st st.heap X.2.2.2 _ wX0_forget_X9) (gt_of 206 (by decide +kernel) rfl) (gt_of 584 (by decide +kernel) rfl) (gt_of 2 (by decide +kernel) rfl) ⟨hd1, hd2⟩ ⟨by decide, by decide, by decide +kernel⟩ (As := []) rfl hr (sh_80).1 (fs := cF0 h 80 (s.1 80) (s.2 80)) (GC_0 (cA := cA) (cL := cL) sh_80 _ _) rfl rfl d hq (k _ hs)
def C_X9_state (s : ST) (x1 : Int32) : Int32 × ST := Lt ((s.1 1 6)) fun y1 => Lt (ups s 1 6 x1) fun s1 => Lt (C_X0_forget s1) fun s2 => (y1, s2)
set_option maxRecDepth 100000 in
set_option maxHeartbeats 4000000 in
theorem k_X9_state {h : Nat → Nat} {Z : State → Heap → Prop} {sa : Nat → Nat} (hZ : ZK h Z sa) (l : Launch) (D : va_G) (cA cL : ClassId) (s : ST) (x1 : Int32) : MI l (KC D cA cL h Z) 2 yX9_state cX9_state 3 (some .int) s [.ref (h 0), .int x1] (C_X9_state s x1).1 (C_X9_state s x1).2 := by
  refine met_i (by decide) (Nat.le_of_ble_eq_true rfl) ?_
  intro p e st m args below meth c Q X RI
  generalize hs : C_X9_state s x1 = o at RI
  unfold C_X9_state at hs
  refine g_aload_n X dX9_state_0 (q := 1) rfl 0 rfl ?_
  refine cg_9_0 X dX9_state_1 (q := 4) rfl sh_0 lf_X9_12 ?_
  refine cgN_1_6 hZ X dX9_state_4 (q := 7) rfl sh_1 lf_X9_86 ?_
  refine nmI hs (fun y1 hs => ?_)
  refine g_istore_n X dX9_state_7 (q := 8) rfl (Nat.le_of_ble_eq_true rfl) (lv' := [(2, .int y1), (0, .ref (h 0)), (1, .int x1)]) rfl ?_
  refine g_aload_n X dX9_state_8 (q := 9) rfl 1 rfl ?_
  refine cg_9_0 X dX9_state_9 (q := 12) rfl sh_0 lf_X9_12 ?_
  refine g_iload_n X dX9_state_12 (q := 13) rfl 2 rfl ?_
  refine cpN_1_6 hZ X dX9_state_13 (q := 16) rfl sh_1 lf_X9_86 hs (fun s1 hs => ?_)
  refine g_aload_n X dX9_state_16 (q := 17) rfl 1 rfl ?_
  refine cg_9_11 X dX9_state_17 (q := 20) rfl sh_0 lf_X9_78 ?_
  refine vc_X0_forget_X9 hZ X dX9_state_20 (q := 23) rfl (Nat.le_of_ble_eq_true rfl) (Nat.le_of_ble_eq_true rfl) (Nat.le_of_ble_eq_true rfl) hs (fun s2 hs => ?_)
  refine g_iload_n X dX9_state_23 (q := 24) rfl 0 rfl ?_
  exact RI _ 24 _ _ _ (rU0 hs) rfl (rV0 hs) dX9_state_24
theorem dX9_land_0 : decode cX9_land 0 = .ok (.iload_n 1, 1) := by decide +kernel
theorem dX9_land_1 : decode cX9_land 1 = .ok (.iconst 2, 1) := by decide +kernel
theorem dX9_land_2 : decode cX9_land 2 = .ok (.bipush 7, 2) := by decide +kernel
theorem dX9_land_4 : decode cX9_land 4 = .ok (.invokestatic 93, 3) := by decide +kernel
theorem dX9_land_7 : decode cX9_land 7 = .ok (.ifCond .eq 13, 3) := by decide +kernel
theorem dX9_land_10 : decode cX9_land 10 = .ok (.iload_n 2, 1) := by decide +kernel
theorem dX9_land_11 : decode cX9_land 11 = .ok (.iconst 2, 1) := by decide +kernel
theorem dX9_land_12 : decode cX9_land 12 = .ok (.bipush 7, 2) := by decide +kernel
theorem dX9_land_14 : decode cX9_land 14 = .ok (.invokestatic 93, 3) := by decide +kernel
theorem dX9_land_17 : decode cX9_land 17 = .ok (.ifCond .ne 5, 3) := by decide +kernel
theorem dX9_land_20 : decode cX9_land 20 = .ok (.iconst 0, 1) := by decide +kernel
theorem dX9_land_21 : decode cX9_land 21 = .ok (.ireturn, 1) := by decide +kernel
theorem dX9_land_22 : decode cX9_land 22 = .ok (.aload_n 0, 1) := by decide +kernel
theorem dX9_land_23 : decode cX9_land 23 = .ok (.getfield 12, 3) := by decide +kernel
theorem dX9_land_26 : decode cX9_land 26 = .ok (.iload_n 1, 1) := by decide +kernel
theorem dX9_land_27 : decode cX9_land 27 = .ok (.iload_n 2, 1) := by decide +kernel
theorem dX9_land_28 : decode cX9_land 28 = .ok (.invokevirtual 82, 3) := by decide +kernel
theorem dX9_land_31 : decode cX9_land 31 = .ok (.aload_n 0, 1) := by decide +kernel
theorem dX9_land_32 : decode cX9_land 32 = .ok (.getfield 19, 3) := by decide +kernel
theorem dX9_land_35 : decode cX9_land 35 = .ok (.invokevirtual 97, 3) := by decide +kernel
theorem dX9_land_38 : decode cX9_land 38 = .ok (.aload_n 0, 1) := by decide +kernel
theorem dX9_land_39 : decode cX9_land 39 = .ok (.getfield 28, 3) := by decide +kernel
theorem dX9_land_42 : decode cX9_land 42 = .ok (.invokevirtual 98, 3) := by decide +kernel
theorem dX9_land_45 : decode cX9_land 45 = .ok (.aload_n 0, 1) := by decide +kernel
theorem dX9_land_46 : decode cX9_land 46 = .ok (.getfield 78, 3) := by decide +kernel
theorem dX9_land_49 : decode cX9_land 49 = .ok (.invokevirtual 90, 3) := by decide +kernel
theorem dX9_land_52 : decode cX9_land 52 = .ok (.iconst 1, 1) := by decide +kernel
theorem dX9_land_53 : decode cX9_land 53 = .ok (.ireturn, 1) := by decide +kernel
theorem wX1_begin_X9 : Cond.methodLinkNest RX9 82 yX1_begin "StormSeeds" ∈ NW := nw_of 530 (by decide +kernel) rfl
theorem vc_X1_begin_X9 {p : Program} {l : Launch} {e : Env} {st : State} {m : MethodId} {args : Array Value} {below : List Frame} {meth : Method} {c : Code} {Q : State → Prop} {nL : Nat} {cc : ByteArray} {s : ST} {pc q : Nat} {lv : List (Nat × Value)} {rest : List Value} {D : va_G} {cA cL : ClassId} {h : Nat → Nat} {Z : State → Heap → Prop} {sa : Nat → Nat} (hZ : ZK h Z sa) {d0 : Nat} (X : Cx (KC D cA cL h Z) p st m args meth c cc nL RX9) {b0 : Nat} {x1 : Int32} {x2 : Int32} (d : decode cc pc = .ok (.invokevirtual 82, 3)) (hq : pc + 3 = q) (hb0 : isK 1 b0) (hd1 : 2 + 1 ≤ d0) (hd2 : 8 + (3 + 11) + 100 * 2 ≤ 100 * d0) (hr : (rest.map fun v => v.category).sum ≤ 8) {B : Type} {f : ST → Option B} {r : B} (hs : Bd (C_X1_begin s b0 x1 x2) f = some r) (k : ∀ y, f y = some r → WG (KC D cA cL h Z) p l e (rmD d0) st m args below meth c Q nL y q lv (rest)) : WG (KC D cA cL h Z) p l e (rmD d0) st m args below meth c Q nL s pc lv (.int x2 :: .int x1 :: .ref (h b0) :: rest) := by
  obtain ⟨v, hv, hs⟩ := Bd_e hs
  exact cVN_V (K := KC D cA cL h Z) X b0 (n := 2) (k_X1_begin hZ l D cA cL s b0 x1 x2 hb0 hv) (gt_c (gt_of 533 (by decide +kernel) rfl) gt_t) (hZ.1 st st.heap X.2.2.2 _ wX1_begin_X9) (gt_of 197 (by decide +kernel) rfl) (gt_of 532 (by decide +kernel) rfl) (gt_of 0 (by decide +kernel) rfl) ⟨hd1, hd2⟩ ⟨by decide, by decide, by decide +kernel⟩ (As := [.int x1, .int x2]) rfl hr (hb0).1 (fs := cF1 h b0 (s.1 b0) (s.2 b0)) (GC_1 (cA := cA) (cL := cL) hb0 _ _) rfl rfl d hq (k _ hs)
theorem wX4_clear_X9 : Cond.methodLinkNest RX9 98 yX4_clear "StormSeeds" ∈ NW := nw_of 606 (by decide +kernel) rfl
theorem vc_X4_clear_X9 {p : Program} {l : Launch} {e : Env} {st : State} {m : MethodId} {args : Array Value} {below : List Frame} {meth : Method} {c : Code} {Q : State → Prop} {nL : Nat} {cc : ByteArray} {s : ST} {pc q : Nat} {lv : List (Nat × Value)} {rest : List Value} {D : va_G} {cA cL : ClassId} {h : Nat → Nat} {Z : State → Heap → Prop} {sa : Nat → Nat} (hZ : ZK h Z sa) {d0 : Nat} (X : Cx (KC D cA cL h Z) p st m args meth c cc nL RX9) {b0 : Nat} (d : decode cc pc = .ok (.invokevirtual 98, 3)) (hq : pc + 3 = q) (hb0 : isK 4 b0) (hd1 : 1 + 1 ≤ d0) (hd2 : 8 + (1 + 11) + 100 * 1 ≤ 100 * d0) (hr : (rest.map fun v => v.category).sum ≤ 8) {B : Type} {f : ST → B} {r : B} (hs : Lt (C_X4_clear s b0) f = r) (k : ∀ y, f y = r → WG (KC D cA cL h Z) p l e (rmD d0) st m args below meth c Q nL y q lv (rest)) : WG (KC D cA cL h Z) p l e (rmD d0) st m args below meth c Q nL s pc lv (.ref (h b0) :: rest) := by
  exact cVN_V (K := KC D cA cL h Z) X b0 (n := 0) (k_X4_clear hZ l D cA cL s b0 hb0) (gt_c (gt_of 600 (by decide +kernel) rfl) gt_t) (hZ.1 st st.heap X.2.2.2 _ wX4_clear_X9) (gt_of 199 (by decide +kernel) rfl) (gt_of 599 (by decide +kernel) rfl) (gt_of 4 (by decide +kernel) rfl) ⟨hd1, hd2⟩ ⟨by decide, by decide, by decide +kernel⟩ (As := []) rfl hr (hb0).1 (fs := cF4 h b0 (s.1 b0) (s.2 b0)) (GC_4 (cA := cA) (cL := cL) hb0 _ _) rfl rfl d hq (k _ hs)
theorem wX7_forget_X9 : Cond.methodLinkNest RX9 97 yX7_forget "StormSeeds" ∈ NW := nw_of 593 (by decide +kernel) rfl
theorem vc_X7_forget_X9 {p : Program} {l : Launch} {e : Env} {st : State} {m : MethodId} {args : Array Value} {below : List Frame} {meth : Method} {c : Code} {Q : State → Prop} {nL : Nat} {cc : ByteArray} {s : ST} {pc q : Nat} {lv : List (Nat × Value)} {rest : List Value} {D : va_G} {cA cL : ClassId} {h : Nat → Nat} {Z : State → Heap → Prop} {sa : Nat → Nat} (hZ : ZK h Z sa) {d0 : Nat} (X : Cx (KC D cA cL h Z) p st m args meth c cc nL RX9) {b0 : Nat} (d : decode cc pc = .ok (.invokevirtual 97, 3)) (hq : pc + 3 = q) (hb0 : isK 7 b0) (hd1 : 3 + 1 ≤ d0) (hd2 : 8 + (1 + 11) + 100 * 3 ≤ 100 * d0) (hr : (rest.map fun v => v.category).sum ≤ 8) {B : Type} {f : ST → B} {r : B} (hs : Lt (C_X7_forget s b0) f = r) (k : ∀ y, f y = r → WG (KC D cA cL h Z) p l e (rmD d0) st m args below meth c Q nL y q lv (rest)) : WG (KC D cA cL h Z) p l e (rmD d0) st m args below meth c Q nL s pc lv (.ref (h b0) :: rest) := by
  exact cVN_V (K := KC D cA cL h Z) X b0 (n := 0) (k_X7_forget hZ l D cA cL s b0 hb0) (gt_c (gt_of 596 (by decide +kernel) rfl) gt_t) (hZ.1 st st.heap X.2.2.2 _ wX7_forget_X9) (gt_of 198 (by decide +kernel) rfl) (gt_of 595 (by decide +kernel) rfl) (gt_of 3 (by decide +kernel) rfl) ⟨hd1, hd2⟩ ⟨by decide, by decide, by decide +kernel⟩ (As := []) rfl hr (hb0).1 (fs := cF7 h b0 (s.1 b0) (s.2 b0)) (GC_7 (cA := cA) (cL := cL) hb0 _ _) rfl rfl d hq (k _ hs)
theorem wX9_isWithin_X9 : GoodIn GT (va_wsS RX9 93 yX9_isWithin (.code yX9_isWithin cX9_isWithin 3 (some .boolean) :: GT)) := gt_c (gt_of 590 (by decide +kernel) rfl) (gt_c (gt_of 591 (by decide +kernel) rfl) (gt_c (gt_of 196 (by decide +kernel) rfl) (gt_c (gt_of 592 (by decide +kernel) rfl) gt_t)))
theorem vc_X9_isWithin_X9 {p : Program} {l : Launch} {e : Env} {st : State} {m : MethodId} {args : Array Value} {below : List Frame} {meth : Method} {c : Code} {Q : State → Prop} {nL : Nat} {cc : ByteArray} {s : ST} {pc q : Nat} {lv : List (Nat × Value)} {rest : List Value} {D : va_G} {cA cL : ClassId} {h : Nat → Nat} {Z : State → Heap → Prop} {sa : Nat → Nat} (hZ : ZK h Z sa) {d0 : Nat} (X : Cx (KC D cA cL h Z) p st m args meth c cc nL RX9) {x1 : Int32} {x2 : Int32} {x3 : Int32} (d : decode cc pc = .ok (.invokestatic 93, 3)) (hq : pc + 3 = q) (hd1 : 1 + 1 ≤ d0) (hd2 : 8 + (3 + 11) + 100 * 1 ≤ 100 * d0) (hr : (rest.map fun v => v.category).sum ≤ 8) {B : Type} {f : Int32 → B} {r : B} (hs : Lt (C_X9_isWithin s x1 x2 x3) f = r) (k : ∀ y, f y = r → WG (KC D cA cL h Z) p l e (rmD d0) st m args below meth c Q nL s q lv (.int y :: rest)) : WG (KC D cA cL h Z) p l e (rmD d0) st m args below meth c Q nL s pc lv (.int x3 :: .int x2 :: .int x1 :: rest) := by
  exact cS_I (K := KC D cA cL h Z) X (n := 3) (k_X9_isWithin hZ l D cA cL s x1 x2 x3) wX9_isWithin_X9 ⟨hd1, hd2⟩ ⟨by decide, by decide, by decide +kernel⟩ (As := [.int x1, .int x2, .int x3]) rfl hr rfl d hq (k _ hs)
def C_X9_land (s : ST) (x1 : Int32) (x2 : Int32) : Option (Int32 × ST) := Lt (C_X9_isWithin s x1 (2 : Int32) (7 : Int32)) fun y1 => if y1 = 0 then (some ((0 : Int32), s)) else (Lt (C_X9_isWithin s x2 (2 : Int32) (7 : Int32)) fun y2 => if y2 = 0 then (some ((0 : Int32), s)) else (Bd (C_X1_begin s 1 x1 x2) fun s1 => Lt (C_X7_forget s1 8) fun s2 => Lt (C_X4_clear s2 23) fun s3 => Lt (C_X0_forget s3) fun s4 => some ((1 : Int32), s4)))
set_option maxRecDepth 100000 in
set_option maxHeartbeats 4000000 in
theorem k_X9_land {h : Nat → Nat} {Z : State → Heap → Prop} {sa : Nat → Nat} (hZ : ZK h Z sa) (l : Launch) (D : va_G) (cA cL : ClassId) (s : ST) (x1 : Int32) (x2 : Int32) {o : Int32 × ST} (hs : C_X9_land s x1 x2 = some o) : MI l (KC D cA cL h Z) 4 yX9_land cX9_land 3 (some .boolean) s [.ref (h 0), .int x1, .int x2] o.1 o.2 := by
  refine met_i (by decide) (Nat.le_of_ble_eq_true rfl) ?_
  intro p e st m args below meth c Q X RI
  unfold C_X9_land at hs
  refine g_iload_n X dX9_land_0 (q := 1) rfl 1 rfl ?_
  refine g_iconst X dX9_land_1 (q := 2) rfl li_i2 ?_
  refine g_bipush X dX9_land_2 (q := 4) rfl li_b7 ?_
  refine vc_X9_isWithin_X9 hZ X dX9_land_4 (q := 7) rfl (Nat.le_of_ble_eq_true rfl) (Nat.le_of_ble_eq_true rfl) (Nat.le_of_ble_eq_true rfl) hs (fun y1 hs => ?_)
  refine g_if_eq X dX9_land_7 (q := 10) rfl (tgt := 20) (by decide) hs ?_ ?_
  · intro hs
    refine g_iconst X dX9_land_20 (q := 21) rfl li_i0 ?_
    exact RI _ 21 _ _ _ (rU1 hs) rfl (rV1 hs) dX9_land_21
  · intro hs
    refine g_iload_n X dX9_land_10 (q := 11) rfl 2 rfl ?_
    refine g_iconst X dX9_land_11 (q := 12) rfl li_i2 ?_
    refine g_bipush X dX9_land_12 (q := 14) rfl li_b7 ?_
    refine vc_X9_isWithin_X9 hZ X dX9_land_14 (q := 17) rfl (Nat.le_of_ble_eq_true rfl) (Nat.le_of_ble_eq_true rfl) (Nat.le_of_ble_eq_true rfl) hs (fun y2 hs => ?_)
    refine g_if_ne X dX9_land_17 (q := 20) rfl (tgt := 22) (by decide) hs ?_ ?_
    · intro hs
      refine g_aload_n X dX9_land_22 (q := 23) rfl 0 rfl ?_
      refine cg_9_0 X dX9_land_23 (q := 26) rfl sh_0 lf_X9_12 ?_
      refine g_iload_n X dX9_land_26 (q := 27) rfl 1 rfl ?_
      refine g_iload_n X dX9_land_27 (q := 28) rfl 2 rfl ?_
      refine vc_X1_begin_X9 hZ X dX9_land_28 (q := 31) rfl sh_1 (Nat.le_of_ble_eq_true rfl) (Nat.le_of_ble_eq_true rfl) (Nat.le_of_ble_eq_true rfl) hs (fun s1 hs => ?_)
      refine g_aload_n X dX9_land_31 (q := 32) rfl 0 rfl ?_
      refine cg_9_1 X dX9_land_32 (q := 35) rfl sh_0 lf_X9_19 ?_
      refine vc_X7_forget_X9 hZ X dX9_land_35 (q := 38) rfl sh_8 (Nat.le_of_ble_eq_true rfl) (Nat.le_of_ble_eq_true rfl) (Nat.le_of_ble_eq_true rfl) hs (fun s2 hs => ?_)
      refine g_aload_n X dX9_land_38 (q := 39) rfl 0 rfl ?_
      refine cg_9_2 X dX9_land_39 (q := 42) rfl sh_0 lf_X9_28 ?_
      refine vc_X4_clear_X9 hZ X dX9_land_42 (q := 45) rfl sh_23 (Nat.le_of_ble_eq_true rfl) (Nat.le_of_ble_eq_true rfl) (Nat.le_of_ble_eq_true rfl) hs (fun s3 hs => ?_)
      refine g_aload_n X dX9_land_45 (q := 46) rfl 0 rfl ?_
      refine cg_9_11 X dX9_land_46 (q := 49) rfl sh_0 lf_X9_78 ?_
      refine vc_X0_forget_X9 hZ X dX9_land_49 (q := 52) rfl (Nat.le_of_ble_eq_true rfl) (Nat.le_of_ble_eq_true rfl) (Nat.le_of_ble_eq_true rfl) hs (fun s4 hs => ?_)
      refine g_iconst X dX9_land_52 (q := 53) rfl li_i1 ?_
      exact RI _ 53 _ _ _ (rU1 hs) rfl (rV1 hs) dX9_land_53
    · intro hs
      refine g_iconst X dX9_land_20 (q := 21) rfl li_i0 ?_
      exact RI _ 21 _ _ _ (rU1 hs) rfl (rV1 hs) dX9_land_21
theorem dX9_set_0 : decode cX9_set 0 = .ok (.iload_n 1, 1) := by decide +kernel
theorem dX9_set_1 : decode cX9_set 1 = .ok (.ifCond .ne 14, 3) := by decide +kernel
theorem dX9_set_4 : decode cX9_set 4 = .ok (.aload_n 0, 1) := by decide +kernel
theorem dX9_set_5 : decode cX9_set 5 = .ok (.getfield 12, 3) := by decide +kernel
theorem dX9_set_8 : decode cX9_set 8 = .ok (.iload_n 3, 1) := by decide +kernel
theorem dX9_set_9 : decode cX9_set 9 = .ok (.invokevirtual 101, 3) := by decide +kernel
theorem dX9_set_12 : decode cX9_set 12 = .ok (.goto 42, 3) := by decide +kernel
theorem dX9_set_15 : decode cX9_set 15 = .ok (.iload_n 1, 1) := by decide +kernel
theorem dX9_set_16 : decode cX9_set 16 = .ok (.iconst 1, 1) := by decide +kernel
theorem dX9_set_17 : decode cX9_set 17 = .ok (.if_icmp .ne 15, 3) := by decide +kernel
theorem dX9_set_20 : decode cX9_set 20 = .ok (.aload_n 0, 1) := by decide +kernel
theorem dX9_set_21 : decode cX9_set 21 = .ok (.getfield 12, 3) := by decide +kernel
theorem dX9_set_24 : decode cX9_set 24 = .ok (.iload_n 2, 1) := by decide +kernel
theorem dX9_set_25 : decode cX9_set 25 = .ok (.iload_n 3, 1) := by decide +kernel
theorem dX9_set_26 : decode cX9_set 26 = .ok (.invokevirtual 105, 3) := by decide +kernel
theorem dX9_set_29 : decode cX9_set 29 = .ok (.goto 25, 3) := by decide +kernel
theorem dX9_set_32 : decode cX9_set 32 = .ok (.iload_n 1, 1) := by decide +kernel
theorem dX9_set_33 : decode cX9_set 33 = .ok (.iconst 2, 1) := by decide +kernel
theorem dX9_set_34 : decode cX9_set 34 = .ok (.if_icmp .ne 19, 3) := by decide +kernel
theorem dX9_set_37 : decode cX9_set 37 = .ok (.aload_n 0, 1) := by decide +kernel
theorem dX9_set_38 : decode cX9_set 38 = .ok (.getfield 12, 3) := by decide +kernel
theorem dX9_set_41 : decode cX9_set 41 = .ok (.iload_n 2, 1) := by decide +kernel
theorem dX9_set_42 : decode cX9_set 42 = .ok (.iload_n 3, 1) := by decide +kernel
theorem dX9_set_43 : decode cX9_set 43 = .ok (.invokevirtual 109, 3) := by decide +kernel
theorem dX9_set_46 : decode cX9_set 46 = .ok (.ifCond .eq 7, 3) := by decide +kernel
theorem dX9_set_49 : decode cX9_set 49 = .ok (.iconst 1, 1) := by decide +kernel
theorem dX9_set_50 : decode cX9_set 50 = .ok (.goto 4, 3) := by decide +kernel
theorem dX9_set_53 : decode cX9_set 53 = .ok (.iconst 0, 1) := by decide +kernel
theorem dX9_set_54 : decode cX9_set 54 = .ok (.istore 4, 2) := by decide +kernel
theorem dX9_set_56 : decode cX9_set 56 = .ok (.iload 4, 2) := by decide +kernel
theorem dX9_set_58 : decode cX9_set 58 = .ok (.ifCond .eq 10, 3) := by decide +kernel
theorem dX9_set_61 : decode cX9_set 61 = .ok (.aload_n 0, 1) := by decide +kernel
theorem dX9_set_62 : decode cX9_set 62 = .ok (.getfield 78, 3) := by decide +kernel
theorem dX9_set_65 : decode cX9_set 65 = .ok (.invokevirtual 90, 3) := by decide +kernel
theorem dX9_set_68 : decode cX9_set 68 = .ok (.iload 4, 2) := by decide +kernel
theorem dX9_set_70 : decode cX9_set 70 = .ok (.ireturn, 1) := by decide +kernel
theorem wX1_putBirds_X9 : Cond.methodLinkNest RX9 101 yX1_putBirds "StormSeeds" ∈ NW := nw_of 611 (by decide +kernel) rfl
theorem vc_X1_putBirds_X9 {p : Program} {l : Launch} {e : Env} {st : State} {m : MethodId} {args : Array Value} {below : List Frame} {meth : Method} {c : Code} {Q : State → Prop} {nL : Nat} {cc : ByteArray} {s : ST} {pc q : Nat} {lv : List (Nat × Value)} {rest : List Value} {D : va_G} {cA cL : ClassId} {h : Nat → Nat} {Z : State → Heap → Prop} {sa : Nat → Nat} (hZ : ZK h Z sa) {d0 : Nat} (X : Cx (KC D cA cL h Z) p st m args meth c cc nL RX9) {b0 : Nat} {x1 : Int32} (d : decode cc pc = .ok (.invokevirtual 101, 3)) (hq : pc + 3 = q) (hb0 : isK 1 b0) (hd1 : 2 + 1 ≤ d0) (hd2 : 8 + (2 + 11) + 100 * 2 ≤ 100 * d0) (hr : (rest.map fun v => v.category).sum ≤ 8) {B : Type} {f : Int32 × ST → B} {r : B} (hs : Lt (C_X1_putBirds s b0 x1) f = r) (k : ∀ y, f y = r → WG (KC D cA cL h Z) p l e (rmD d0) st m args below meth c Q nL y.2 q lv (.int y.1 :: rest)) : WG (KC D cA cL h Z) p l e (rmD d0) st m args below meth c Q nL s pc lv (.int x1 :: .ref (h b0) :: rest) := by
  exact cVN_I (K := KC D cA cL h Z) X b0 (n := 1) (k_X1_putBirds hZ l D cA cL s b0 x1 hb0) (gt_c (gt_of 614 (by decide +kernel) rfl) gt_t) (hZ.1 st st.heap X.2.2.2 _ wX1_putBirds_X9) (gt_of 197 (by decide +kernel) rfl) (gt_of 613 (by decide +kernel) rfl) (gt_of 6 (by decide +kernel) rfl) ⟨hd1, hd2⟩ ⟨by decide, by decide, by decide +kernel⟩ (As := [.int x1]) rfl hr (hb0).1 (fs := cF1 h b0 (s.1 b0) (s.2 b0)) (GC_1 (cA := cA) (cL := cL) hb0 _ _) rfl rfl d hq (k _ hs)
theorem wX1_putHedge_X9 : Cond.methodLinkNest RX9 109 yX1_putHedge "StormSeeds" ∈ NW := nw_of 624 (by decide +kernel) rfl
theorem vc_X1_putHedge_X9 {p : Program} {l : Launch} {e : Env} {st : State} {m : MethodId} {args : Array Value} {below : List Frame} {meth : Method} {c : Code} {Q : State → Prop} {nL : Nat} {cc : ByteArray} {s : ST} {pc q : Nat} {lv : List (Nat × Value)} {rest : List Value} {D : va_G} {cA cL : ClassId} {h : Nat → Nat} {Z : State → Heap → Prop} {sa : Nat → Nat} (hZ : ZK h Z sa) {d0 : Nat} (X : Cx (KC D cA cL h Z) p st m args meth c cc nL RX9) {b0 : Nat} {x1 : Int32} {x2 : Int32} (d : decode cc pc = .ok (.invokevirtual 109, 3)) (hq : pc + 3 = q) (hb0 : isK 1 b0) (hd1 : 3 + 1 ≤ d0) (hd2 : 8 + (5 + 11) + 100 * 3 ≤ 100 * d0) (hr : (rest.map fun v => v.category).sum ≤ 8) {B : Type} {f : Int32 × ST → B} {r : B} (hs : Lt (C_X1_putHedge s b0 x1 x2) f = r) (k : ∀ y, f y = r → WG (KC D cA cL h Z) p l e (rmD d0) st m args below meth c Q nL y.2 q lv (.int y.1 :: rest)) : WG (KC D cA cL h Z) p l e (rmD d0) st m args below meth c Q nL s pc lv (.int x2 :: .int x1 :: .ref (h b0) :: rest) := by
  exact cVN_I (K := KC D cA cL h Z) X b0 (n := 2) (k_X1_putHedge hZ l D cA cL s b0 x1 x2 hb0) (gt_c (gt_of 627 (by decide +kernel) rfl) gt_t) (hZ.1 st st.heap X.2.2.2 _ wX1_putHedge_X9) (gt_of 197 (by decide +kernel) rfl) (gt_of 626 (by decide +kernel) rfl) (gt_of 9 (by decide +kernel) rfl) ⟨hd1, hd2⟩ ⟨by decide, by decide, by decide +kernel⟩ (As := [.int x1, .int x2]) rfl hr (hb0).1 (fs := cF1 h b0 (s.1 b0) (s.2 b0)) (GC_1 (cA := cA) (cL := cL) hb0 _ _) rfl rfl d hq (k _ hs)
theorem wX1_putWet_X9 : Cond.methodLinkNest RX9 105 yX1_putWet "StormSeeds" ∈ NW := nw_of 616 (by decide +kernel) rfl
theorem vc_X1_putWet_X9 {p : Program} {l : Launch} {e : Env} {st : State} {m : MethodId} {args : Array Value} {below : List Frame} {meth : Method} {c : Code} {Q : State → Prop} {nL : Nat} {cc : ByteArray} {s : ST} {pc q : Nat} {lv : List (Nat × Value)} {rest : List Value} {D : va_G} {cA cL : ClassId} {h : Nat → Nat} {Z : State → Heap → Prop} {sa : Nat → Nat} (hZ : ZK h Z sa) {d0 : Nat} (X : Cx (KC D cA cL h Z) p st m args meth c cc nL RX9) {b0 : Nat} {x1 : Int32} {x2 : Int32} (d : decode cc pc = .ok (.invokevirtual 105, 3)) (hq : pc + 3 = q) (hb0 : isK 1 b0) (hd1 : 2 + 1 ≤ d0) (hd2 : 8 + (3 + 11) + 100 * 2 ≤ 100 * d0) (hr : (rest.map fun v => v.category).sum ≤ 8) {B : Type} {f : Int32 × ST → Option B} {r : B} (hs : Bd (C_X1_putWet s b0 x1 x2) f = some r) (k : ∀ y, f y = some r → WG (KC D cA cL h Z) p l e (rmD d0) st m args below meth c Q nL y.2 q lv (.int y.1 :: rest)) : WG (KC D cA cL h Z) p l e (rmD d0) st m args below meth c Q nL s pc lv (.int x2 :: .int x1 :: .ref (h b0) :: rest) := by
  obtain ⟨v, hv, hs⟩ := Bd_e hs
  exact cVN_I (K := KC D cA cL h Z) X b0 (n := 2) (k_X1_putWet hZ l D cA cL s b0 x1 x2 hb0 hv) (gt_c (gt_of 619 (by decide +kernel) rfl) gt_t) (hZ.1 st st.heap X.2.2.2 _ wX1_putWet_X9) (gt_of 197 (by decide +kernel) rfl) (gt_of 618 (by decide +kernel) rfl) (gt_of 7 (by decide +kernel) rfl) ⟨hd1, hd2⟩ ⟨by decide, by decide, by decide +kernel⟩ (As := [.int x1, .int x2]) rfl hr (hb0).1 (fs := cF1 h b0 (s.1 b0) (s.2 b0)) (GC_1 (cA := cA) (cL := cL) hb0 _ _) rfl rfl d hq (k _ hs)
def C_X9_set (s : ST) (x1 : Int32) (x2 : Int32) (x3 : Int32) : Option (Int32 × ST) := Lt (fun (a1 : Int32) (s1 : ST) => (if a1 = 0 then (some ((a1 &&& 1), s1)) else (Lt (C_X0_forget s1) fun s2 => some ((a1 &&& 1), s2)) : Option (Int32 × ST))) fun j1 => if x1 = 0 then (Lt (C_X1_putBirds s 1 x3) fun y3 => j1 y3.1 y3.2) else (if x1 = (1 : Int32) then (Bd (C_X1_putWet s 1 x2 x3) fun y2 => j1 y2.1 y2.2) else (Lt (fun (s3 : ST) => (j1 (0 : Int32) s3 : Option (Int32 × ST))) fun j2 => if x1 = (2 : Int32) then (Lt (C_X1_putHedge s 1 x2 x3) fun y1 => if y1.1 = 0 then (j2 y1.2) else (j1 (1 : Int32) y1.2)) else (j2 s)))
set_option maxRecDepth 100000 in
set_option maxHeartbeats 4000000 in
theorem k_X9_set {h : Nat → Nat} {Z : State → Heap → Prop} {sa : Nat → Nat} (hZ : ZK h Z sa) (l : Launch) (D : va_G) (cA cL : ClassId) (s : ST) (x1 : Int32) (x2 : Int32) (x3 : Int32) {o : Int32 × ST} (hs : C_X9_set s x1 x2 x3 = some o) : MI l (KC D cA cL h Z) 4 yX9_set cX9_set 5 (some .boolean) s [.ref (h 0), .int x1, .int x2, .int x3] o.1 o.2 := by
  refine met_i (by decide) (Nat.le_of_ble_eq_true rfl) ?_
  intro p e st m args below meth c Q X RI
  unfold C_X9_set at hs
  refine g_iload_n X dX9_set_0 (q := 1) rfl 1 rfl ?_
  refine jnW2 (fun (a1 : Int32) (s1 : ST) => WG (KC D cA cL h Z) p l e (rmD 4) st m args below meth c Q 5 s1 54 [(0, .ref (h 0))] [.int a1]) hs (fun a1 s1 hs => ?_) (fun j1 ih1 hs => ?_)
  · refine g_istore X dX9_set_54 (q := 56) rfl (Nat.le_of_ble_eq_true rfl) (lv' := [(4, .int a1), (0, .ref (h 0))]) rfl ?_
    refine g_iload X dX9_set_56 (q := 58) rfl 0 rfl ?_
    refine g_if_eq X dX9_set_58 (q := 61) rfl (tgt := 68) (by decide) hs ?_ ?_
    · intro hs
      refine g_iload X dX9_set_68 (q := 70) rfl 0 rfl ?_
      exact RI _ 70 _ _ _ (rU1 hs) rfl (rV1 hs) dX9_set_70
    · intro hs
      refine g_aload_n X dX9_set_61 (q := 62) rfl 1 rfl ?_
      refine cg_9_11 X dX9_set_62 (q := 65) rfl sh_0 lf_X9_78 ?_
      refine vc_X0_forget_X9 hZ X dX9_set_65 (q := 68) rfl (Nat.le_of_ble_eq_true rfl) (Nat.le_of_ble_eq_true rfl) (Nat.le_of_ble_eq_true rfl) hs (fun s2 hs => ?_)
      refine g_iload X dX9_set_68 (q := 70) rfl 0 rfl ?_
      exact RI _ 70 _ _ _ (rU1 hs) rfl (rV1 hs) dX9_set_70
  refine g_if_ne X dX9_set_1 (q := 4) rfl (tgt := 15) (by decide) hs ?_ ?_
  · intro hs
    refine g_iload_n X dX9_set_15 (q := 16) rfl 1 rfl ?_
    refine g_iconst X dX9_set_16 (q := 17) rfl li_i1 ?_
    refine g_icmp_ne X dX9_set_17 (q := 20) rfl (tgt := 32) (by decide) hs ?_ ?_
    · intro hs
      refine g_iload_n X dX9_set_32 (q := 33) rfl 1 rfl ?_
      refine g_iconst X dX9_set_33 (q := 34) rfl li_i2 ?_
      refine jnW1 (fun (s3 : ST) => WG (KC D cA cL h Z) p l e (rmD 4) st m args below meth c Q 5 s3 53 [(0, .ref (h 0))] []) hs (fun s3 hs => ?_) (fun j2 ih2 hs => ?_)
      · refine g_iconst X dX9_set_53 (q := 54) rfl li_i0 ?_
        exact wg_sub [0] rfl (ih1 _ _ hs)
      refine g_icmp_ne X dX9_set_34 (q := 37) rfl (tgt := 53) (by decide) hs ?_ ?_
      · intro hs
        exact wg_sub [0] rfl (ih2 _ hs)
      · intro hs
        refine g_aload_n X dX9_set_37 (q := 38) rfl 0 rfl ?_
        refine cg_9_0 X dX9_set_38 (q := 41) rfl sh_0 lf_X9_12 ?_
        refine g_iload_n X dX9_set_41 (q := 42) rfl 2 rfl ?_
        refine g_iload_n X dX9_set_42 (q := 43) rfl 3 rfl ?_
        refine vc_X1_putHedge_X9 hZ X dX9_set_43 (q := 46) rfl sh_1 (Nat.le_of_ble_eq_true rfl) (Nat.le_of_ble_eq_true rfl) (Nat.le_of_ble_eq_true rfl) hs (fun y1 hs => ?_)
        refine g_if_eq X dX9_set_46 (q := 49) rfl (tgt := 53) (by decide) hs ?_ ?_
        · intro hs
          exact wg_sub [0] rfl (ih2 _ hs)
        · intro hs
          refine g_iconst X dX9_set_49 (q := 50) rfl li_i1 ?_
          refine g_goto X dX9_set_50 (tgt := 54) (by decide) ?_
          exact wg_sub [0] rfl (ih1 _ _ hs)
    · intro hs
      refine g_aload_n X dX9_set_20 (q := 21) rfl 0 rfl ?_
      refine cg_9_0 X dX9_set_21 (q := 24) rfl sh_0 lf_X9_12 ?_
      refine g_iload_n X dX9_set_24 (q := 25) rfl 2 rfl ?_
      refine g_iload_n X dX9_set_25 (q := 26) rfl 3 rfl ?_
      refine vc_X1_putWet_X9 hZ X dX9_set_26 (q := 29) rfl sh_1 (Nat.le_of_ble_eq_true rfl) (Nat.le_of_ble_eq_true rfl) (Nat.le_of_ble_eq_true rfl) hs (fun y2 hs => ?_)
      refine g_goto X dX9_set_29 (tgt := 54) (by decide) ?_
      exact wg_sub [0] rfl (ih1 _ _ hs)
  · intro hs
    refine g_aload_n X dX9_set_4 (q := 5) rfl 0 rfl ?_
    refine cg_9_0 X dX9_set_5 (q := 8) rfl sh_0 lf_X9_12 ?_
    refine g_iload_n X dX9_set_8 (q := 9) rfl 3 rfl ?_
    refine vc_X1_putBirds_X9 hZ X dX9_set_9 (q := 12) rfl sh_1 (Nat.le_of_ble_eq_true rfl) (Nat.le_of_ble_eq_true rfl) (Nat.le_of_ble_eq_true rfl) hs (fun y3 hs => ?_)
    refine g_goto X dX9_set_12 (tgt := 54) (by decide) ?_
    exact wg_sub [0] rfl (ih1 _ _ hs)
theorem dX9_feed_0 : decode cX9_feed 0 = .ok (.aload_n 0, 1) := by decide +kernel
theorem dX9_feed_1 : decode cX9_feed 1 = .ok (.getfield 44, 3) := by decide +kernel
theorem dX9_feed_4 : decode cX9_feed 4 = .ok (.bipush 20, 2) := by decide +kernel
theorem dX9_feed_6 : decode cX9_feed 6 = .ok (.invokevirtual 112, 3) := by decide +kernel
theorem dX9_feed_9 : decode cX9_feed 9 = .ok (.ifCond .ne 5, 3) := by decide +kernel
theorem dX9_feed_12 : decode cX9_feed 12 = .ok (.iconst (-1), 1) := by decide +kernel
theorem dX9_feed_13 : decode cX9_feed 13 = .ok (.ireturn, 1) := by decide +kernel
theorem dX9_feed_14 : decode cX9_feed 14 = .ok (.aload_n 0, 1) := by decide +kernel
theorem dX9_feed_15 : decode cX9_feed 15 = .ok (.getfield 44, 3) := by decide +kernel
theorem dX9_feed_18 : decode cX9_feed 18 = .ok (.iload_n 1, 1) := by decide +kernel
theorem dX9_feed_19 : decode cX9_feed 19 = .ok (.invokevirtual 115, 3) := by decide +kernel
theorem dX9_feed_22 : decode cX9_feed 22 = .ok (.aload_n 0, 1) := by decide +kernel
theorem dX9_feed_23 : decode cX9_feed 23 = .ok (.getfield 44, 3) := by decide +kernel
theorem dX9_feed_26 : decode cX9_feed 26 = .ok (.iload_n 2, 1) := by decide +kernel
theorem dX9_feed_27 : decode cX9_feed 27 = .ok (.invokevirtual 115, 3) := by decide +kernel
theorem dX9_feed_30 : decode cX9_feed 30 = .ok (.aload_n 0, 1) := by decide +kernel
theorem dX9_feed_31 : decode cX9_feed 31 = .ok (.getfield 44, 3) := by decide +kernel
theorem dX9_feed_34 : decode cX9_feed 34 = .ok (.iload_n 3, 1) := by decide +kernel
theorem dX9_feed_35 : decode cX9_feed 35 = .ok (.invokevirtual 115, 3) := by decide +kernel
theorem dX9_feed_38 : decode cX9_feed 38 = .ok (.aload_n 0, 1) := by decide +kernel
theorem dX9_feed_39 : decode cX9_feed 39 = .ok (.getfield 44, 3) := by decide +kernel
theorem dX9_feed_42 : decode cX9_feed 42 = .ok (.iload 4, 2) := by decide +kernel
theorem dX9_feed_44 : decode cX9_feed 44 = .ok (.invokevirtual 115, 3) := by decide +kernel
theorem dX9_feed_47 : decode cX9_feed 47 = .ok (.aload_n 0, 1) := by decide +kernel
theorem dX9_feed_48 : decode cX9_feed 48 = .ok (.getfield 44, 3) := by decide +kernel
theorem dX9_feed_51 : decode cX9_feed 51 = .ok (.iload 5, 2) := by decide +kernel
theorem dX9_feed_53 : decode cX9_feed 53 = .ok (.invokevirtual 115, 3) := by decide +kernel
theorem dX9_feed_56 : decode cX9_feed 56 = .ok (.aload_n 0, 1) := by decide +kernel
theorem dX9_feed_57 : decode cX9_feed 57 = .ok (.getfield 44, 3) := by decide +kernel
theorem dX9_feed_60 : decode cX9_feed 60 = .ok (.getfield 118, 3) := by decide +kernel
theorem dX9_feed_63 : decode cX9_feed 63 = .ok (.ireturn, 1) := by decide +kernel
theorem wX5_append_X9 : Cond.methodLinkNest RX9 115 yX5_append "StormSeeds" ∈ NW := nw_of 644 (by decide +kernel) rfl
theorem vc_X5_append_X9 {p : Program} {l : Launch} {e : Env} {st : State} {m : MethodId} {args : Array Value} {below : List Frame} {meth : Method} {c : Code} {Q : State → Prop} {nL : Nat} {cc : ByteArray} {s : ST} {pc q : Nat} {lv : List (Nat × Value)} {rest : List Value} {D : va_G} {cA cL : ClassId} {h : Nat → Nat} {Z : State → Heap → Prop} {sa : Nat → Nat} (hZ : ZK h Z sa) {d0 : Nat} (X : Cx (KC D cA cL h Z) p st m args meth c cc nL RX9) {x1 : Int32} (d : decode cc pc = .ok (.invokevirtual 115, 3)) (hq : pc + 3 = q) (hd1 : 2 + 1 ≤ d0) (hd2 : 8 + (3 + 11) + 100 * 2 ≤ 100 * d0) (hr : (rest.map fun v => v.category).sum ≤ 8) {B : Type} {f : ST → Option B} {r : B} (hs : Bd (C_X5_append s x1) f = some r) (k : ∀ y, f y = some r → WG (KC D cA cL h Z) p l e (rmD d0) st m args below meth c Q nL y q lv (rest)) : WG (KC D cA cL h Z) p l e (rmD d0) st m args below meth c Q nL s pc lv (.int x1 :: .ref (h 49) :: rest) := by
  obtain ⟨v, hv, hs⟩ := Bd_e hs
  exact cVN_V (K := KC D cA cL h Z) X 49 (n := 1) (k_X5_append hZ l D cA cL s x1 hv) (gt_c (gt_of 647 (by decide +kernel) rfl) gt_t) (hZ.1 st st.heap X.2.2.2 _ wX5_append_X9) (gt_of 202 (by decide +kernel) rfl) (gt_of 646 (by decide +kernel) rfl) (gt_of 12 (by decide +kernel) rfl) ⟨hd1, hd2⟩ ⟨by decide, by decide, by decide +kernel⟩ (As := [.int x1]) rfl hr (sh_49).1 (fs := cF5 h 49 (s.1 49) (s.2 49)) (GC_5 (cA := cA) (cL := cL) sh_49 _ _) rfl rfl d hq (k _ hs)
theorem wX5_hasRoom_X9 : Cond.methodLinkNest RX9 112 yX5_hasRoom "StormSeeds" ∈ NW := nw_of 640 (by decide +kernel) rfl
theorem vc_X5_hasRoom_X9 {p : Program} {l : Launch} {e : Env} {st : State} {m : MethodId} {args : Array Value} {below : List Frame} {meth : Method} {c : Code} {Q : State → Prop} {nL : Nat} {cc : ByteArray} {s : ST} {pc q : Nat} {lv : List (Nat × Value)} {rest : List Value} {D : va_G} {cA cL : ClassId} {h : Nat → Nat} {Z : State → Heap → Prop} {sa : Nat → Nat} (hZ : ZK h Z sa) {d0 : Nat} (X : Cx (KC D cA cL h Z) p st m args meth c cc nL RX9) {x1 : Int32} (d : decode cc pc = .ok (.invokevirtual 112, 3)) (hq : pc + 3 = q) (hd1 : 1 + 1 ≤ d0) (hd2 : 8 + (2 + 11) + 100 * 1 ≤ 100 * d0) (hr : (rest.map fun v => v.category).sum ≤ 8) {B : Type} {f : Int32 → B} {r : B} (hs : Lt (C_X5_hasRoom s x1) f = r) (k : ∀ y, f y = r → WG (KC D cA cL h Z) p l e (rmD d0) st m args below meth c Q nL s q lv (.int y :: rest)) : WG (KC D cA cL h Z) p l e (rmD d0) st m args below meth c Q nL s pc lv (.int x1 :: .ref (h 49) :: rest) := by
  exact cVN_I (K := KC D cA cL h Z) X 49 (n := 1) (k_X5_hasRoom hZ l D cA cL s x1) (gt_c (gt_of 643 (by decide +kernel) rfl) gt_t) (hZ.1 st st.heap X.2.2.2 _ wX5_hasRoom_X9) (gt_of 202 (by decide +kernel) rfl) (gt_of 642 (by decide +kernel) rfl) (gt_of 11 (by decide +kernel) rfl) ⟨hd1, hd2⟩ ⟨by decide, by decide, by decide +kernel⟩ (As := [.int x1]) rfl hr (sh_49).1 (fs := cF5 h 49 (s.1 49) (s.2 49)) (GC_5 (cA := cA) (cL := cL) sh_49 _ _) rfl rfl d hq (k _ hs)
def C_X9_feed (s : ST) (x1 : Int32) (x2 : Int32) (x3 : Int32) (x4 : Int32) (x5 : Int32) : Option (Int32 × ST) := Lt (C_X5_hasRoom s (20 : Int32)) fun y1 => if y1 = 0 then (some ((-1 : Int32), s)) else (Bd (C_X5_append s x1) fun s1 => Bd (C_X5_append s1 x2) fun s2 => Bd (C_X5_append s2 x3) fun s3 => Bd (C_X5_append s3 x4) fun s4 => Bd (C_X5_append s4 x5) fun s5 => some ((s5.1 49 1), s5))
set_option maxRecDepth 100000 in
set_option maxHeartbeats 4000000 in
theorem k_X9_feed {h : Nat → Nat} {Z : State → Heap → Prop} {sa : Nat → Nat} (hZ : ZK h Z sa) (l : Launch) (D : va_G) (cA cL : ClassId) (s : ST) (x1 : Int32) (x2 : Int32) (x3 : Int32) (x4 : Int32) (x5 : Int32) {o : Int32 × ST} (hs : C_X9_feed s x1 x2 x3 x4 x5 = some o) : MI l (KC D cA cL h Z) 3 yX9_feed cX9_feed 6 (some .int) s [.ref (h 0), .int x1, .int x2, .int x3, .int x4, .int x5] o.1 o.2 := by
  refine met_i (by decide) (Nat.le_of_ble_eq_true rfl) ?_
  intro p e st m args below meth c Q X RI
  unfold C_X9_feed at hs
  refine g_aload_n X dX9_feed_0 (q := 1) rfl 0 rfl ?_
  refine cg_9_7 X dX9_feed_1 (q := 4) rfl sh_0 lf_X9_44 ?_
  refine g_bipush X dX9_feed_4 (q := 6) rfl li_b20 ?_
  refine vc_X5_hasRoom_X9 hZ X dX9_feed_6 (q := 9) rfl (Nat.le_of_ble_eq_true rfl) (Nat.le_of_ble_eq_true rfl) (Nat.le_of_ble_eq_true rfl) hs (fun y1 hs => ?_)
  refine g_if_ne X dX9_feed_9 (q := 12) rfl (tgt := 14) (by decide) hs ?_ ?_
  · intro hs
    refine g_aload_n X dX9_feed_14 (q := 15) rfl 0 rfl ?_
    refine cg_9_7 X dX9_feed_15 (q := 18) rfl sh_0 lf_X9_44 ?_
    refine g_iload_n X dX9_feed_18 (q := 19) rfl 1 rfl ?_
    refine vc_X5_append_X9 hZ X dX9_feed_19 (q := 22) rfl (Nat.le_of_ble_eq_true rfl) (Nat.le_of_ble_eq_true rfl) (Nat.le_of_ble_eq_true rfl) hs (fun s1 hs => ?_)
    refine g_aload_n X dX9_feed_22 (q := 23) rfl 0 rfl ?_
    refine cg_9_7 X dX9_feed_23 (q := 26) rfl sh_0 lf_X9_44 ?_
    refine g_iload_n X dX9_feed_26 (q := 27) rfl 2 rfl ?_
    refine vc_X5_append_X9 hZ X dX9_feed_27 (q := 30) rfl (Nat.le_of_ble_eq_true rfl) (Nat.le_of_ble_eq_true rfl) (Nat.le_of_ble_eq_true rfl) hs (fun s2 hs => ?_)
    refine g_aload_n X dX9_feed_30 (q := 31) rfl 0 rfl ?_
    refine cg_9_7 X dX9_feed_31 (q := 34) rfl sh_0 lf_X9_44 ?_
    refine g_iload_n X dX9_feed_34 (q := 35) rfl 3 rfl ?_
    refine vc_X5_append_X9 hZ X dX9_feed_35 (q := 38) rfl (Nat.le_of_ble_eq_true rfl) (Nat.le_of_ble_eq_true rfl) (Nat.le_of_ble_eq_true rfl) hs (fun s3 hs => ?_)
    refine g_aload_n X dX9_feed_38 (q := 39) rfl 0 rfl ?_
    refine cg_9_7 X dX9_feed_39 (q := 42) rfl sh_0 lf_X9_44 ?_
    refine g_iload X dX9_feed_42 (q := 44) rfl 4 rfl ?_
    refine vc_X5_append_X9 hZ X dX9_feed_44 (q := 47) rfl (Nat.le_of_ble_eq_true rfl) (Nat.le_of_ble_eq_true rfl) (Nat.le_of_ble_eq_true rfl) hs (fun s4 hs => ?_)
    refine g_aload_n X dX9_feed_47 (q := 48) rfl 0 rfl ?_
    refine cg_9_7 X dX9_feed_48 (q := 51) rfl sh_0 lf_X9_44 ?_
    refine g_iload X dX9_feed_51 (q := 53) rfl 5 rfl ?_
    refine vc_X5_append_X9 hZ X dX9_feed_53 (q := 56) rfl (Nat.le_of_ble_eq_true rfl) (Nat.le_of_ble_eq_true rfl) (Nat.le_of_ble_eq_true rfl) hs (fun s5 hs => ?_)
    refine g_aload_n X dX9_feed_56 (q := 57) rfl 0 rfl ?_
    refine cg_9_7 X dX9_feed_57 (q := 60) rfl sh_0 lf_X9_44 ?_
    refine cgN_5_1 hZ X dX9_feed_60 (q := 63) rfl sh_49 lf_X9_118 ?_
    exact RI _ 63 _ _ _ (rU1 hs) rfl (rV1 hs) dX9_feed_63
  · intro hs
    refine g_iconst X dX9_feed_12 (q := 13) rfl li_im1 ?_
    exact RI _ 13 _ _ _ (rU1 hs) rfl (rV1 hs) dX9_feed_13
theorem dX9_end_0 : decode cX9_end 0 = .ok (.iload_n 1, 1) := by decide +kernel
theorem dX9_end_1 : decode cX9_end 1 = .ok (.ifCond .lt 14, 3) := by decide +kernel
theorem dX9_end_4 : decode cX9_end 4 = .ok (.iload_n 1, 1) := by decide +kernel
theorem dX9_end_5 : decode cX9_end 5 = .ok (.aload_n 0, 1) := by decide +kernel
theorem dX9_end_6 : decode cX9_end 6 = .ok (.getfield 44, 3) := by decide +kernel
theorem dX9_end_9 : decode cX9_end 9 = .ok (.getfield 118, 3) := by decide +kernel
theorem dX9_end_12 : decode cX9_end 12 = .ok (.if_icmp .le 5, 3) := by decide +kernel
theorem dX9_end_15 : decode cX9_end 15 = .ok (.iconst 0, 1) := by decide +kernel
theorem dX9_end_16 : decode cX9_end 16 = .ok (.ireturn, 1) := by decide +kernel
theorem dX9_end_17 : decode cX9_end 17 = .ok (.aload_n 0, 1) := by decide +kernel
theorem dX9_end_18 : decode cX9_end 18 = .ok (.getfield 44, 3) := by decide +kernel
theorem dX9_end_21 : decode cX9_end 21 = .ok (.iload_n 1, 1) := by decide +kernel
theorem dX9_end_22 : decode cX9_end 22 = .ok (.putfield 118, 3) := by decide +kernel
theorem dX9_end_25 : decode cX9_end 25 = .ok (.iconst 1, 1) := by decide +kernel
theorem dX9_end_26 : decode cX9_end 26 = .ok (.ireturn, 1) := by decide +kernel
def C_X9_end (s : ST) (x1 : Int32) : Int32 × ST := if x1 < 0 then (((0 : Int32), s)) else (if x1 ≤ (s.1 49 1) then (Lt (ups s 49 1 x1) fun s1 => ((1 : Int32), s1)) else (((0 : Int32), s)))
set_option maxRecDepth 100000 in
set_option maxHeartbeats 4000000 in
theorem k_X9_end {h : Nat → Nat} {Z : State → Heap → Prop} {sa : Nat → Nat} (hZ : ZK h Z sa) (l : Launch) (D : va_G) (cA cL : ClassId) (s : ST) (x1 : Int32) : MI l (KC D cA cL h Z) 1 yX9_end cX9_end 2 (some .boolean) s [.ref (h 0), .int x1] (C_X9_end s x1).1 (C_X9_end s x1).2 := by
  refine met_i (by decide) (Nat.le_of_ble_eq_true rfl) ?_
  intro p e st m args below meth c Q X RI
  generalize hs : C_X9_end s x1 = o at RI
  unfold C_X9_end at hs
  refine g_iload_n X dX9_end_0 (q := 1) rfl 1 rfl ?_
  refine g_if_lt X dX9_end_1 (q := 4) rfl (tgt := 15) (by decide) hs ?_ ?_
  · intro hs
    refine g_iconst X dX9_end_15 (q := 16) rfl li_i0 ?_
    exact RI _ 16 _ _ _ (rU0 hs) rfl (rV0 hs) dX9_end_16
  · intro hs
    refine g_iload_n X dX9_end_4 (q := 5) rfl 1 rfl ?_
    refine g_aload_n X dX9_end_5 (q := 6) rfl 0 rfl ?_
    refine cg_9_7 X dX9_end_6 (q := 9) rfl sh_0 lf_X9_44 ?_
    refine cgN_5_1 hZ X dX9_end_9 (q := 12) rfl sh_49 lf_X9_118 ?_
    refine g_icmp_le X dX9_end_12 (q := 15) rfl (tgt := 17) (by decide) hs ?_ ?_
    · intro hs
      refine g_aload_n X dX9_end_17 (q := 18) rfl 0 rfl ?_
      refine cg_9_7 X dX9_end_18 (q := 21) rfl sh_0 lf_X9_44 ?_
      refine g_iload_n X dX9_end_21 (q := 22) rfl 1 rfl ?_
      refine cpN_5_1 hZ X dX9_end_22 (q := 25) rfl sh_49 lf_X9_118 hs (fun s1 hs => ?_)
      refine g_iconst X dX9_end_25 (q := 26) rfl li_i1 ?_
      exact RI _ 26 _ _ _ (rU0 hs) rfl (rV0 hs) dX9_end_26
    · intro hs
      refine g_iconst X dX9_end_15 (q := 16) rfl li_i0 ?_
      exact RI _ 16 _ _ _ (rU0 hs) rfl (rV0 hs) dX9_end_16
theorem dX9_fault_0 : decode cX9_fault 0 = .ok (.iload_n 1, 1) := by decide +kernel
theorem dX9_fault_1 : decode cX9_fault 1 = .ok (.ifCond .ne 13, 3) := by decide +kernel
theorem dX9_fault_4 : decode cX9_fault 4 = .ok (.aload_n 0, 1) := by decide +kernel
theorem dX9_fault_5 : decode cX9_fault 5 = .ok (.getfield 44, 3) := by decide +kernel
theorem dX9_fault_8 : decode cX9_fault 8 = .ok (.getfield 145, 3) := by decide +kernel
theorem dX9_fault_11 : decode cX9_fault 11 = .ok (.goto 19, 3) := by decide +kernel
theorem dX9_fault_14 : decode cX9_fault 14 = .ok (.iload_n 1, 1) := by decide +kernel
theorem dX9_fault_15 : decode cX9_fault 15 = .ok (.iconst 1, 1) := by decide +kernel
theorem dX9_fault_16 : decode cX9_fault 16 = .ok (.if_icmp .ne 13, 3) := by decide +kernel
theorem dX9_fault_19 : decode cX9_fault 19 = .ok (.aload_n 0, 1) := by decide +kernel
theorem dX9_fault_20 : decode cX9_fault 20 = .ok (.getfield 44, 3) := by decide +kernel
theorem dX9_fault_23 : decode cX9_fault 23 = .ok (.getfield 148, 3) := by decide +kernel
theorem dX9_fault_26 : decode cX9_fault 26 = .ok (.goto 4, 3) := by decide +kernel
theorem dX9_fault_29 : decode cX9_fault 29 = .ok (.iconst (-1), 1) := by decide +kernel
theorem dX9_fault_30 : decode cX9_fault 30 = .ok (.ireturn, 1) := by decide +kernel
def C_X9_fault (s : ST) (x1 : Int32) : Int32 := if x1 = 0 then ((s.1 49 8)) else (if x1 = (1 : Int32) then ((s.1 49 9)) else ((-1 : Int32)))
set_option maxRecDepth 100000 in
set_option maxHeartbeats 4000000 in
theorem k_X9_fault {h : Nat → Nat} {Z : State → Heap → Prop} {sa : Nat → Nat} (hZ : ZK h Z sa) (l : Launch) (D : va_G) (cA cL : ClassId) (s : ST) (x1 : Int32) : MI l (KC D cA cL h Z) 1 yX9_fault cX9_fault 2 (some .int) s [.ref (h 0), .int x1] (C_X9_fault s x1) s := by
  refine met_i (by decide) (Nat.le_of_ble_eq_true rfl) ?_
  intro p e st m args below meth c Q X RI
  generalize hs : C_X9_fault s x1 = o at RI
  unfold C_X9_fault at hs
  refine g_iload_n X dX9_fault_0 (q := 1) rfl 1 rfl ?_
  refine g_if_ne X dX9_fault_1 (q := 4) rfl (tgt := 14) (by decide) hs ?_ ?_
  · intro hs
    refine g_iload_n X dX9_fault_14 (q := 15) rfl 1 rfl ?_
    refine g_iconst X dX9_fault_15 (q := 16) rfl li_i1 ?_
    refine g_icmp_ne X dX9_fault_16 (q := 19) rfl (tgt := 29) (by decide) hs ?_ ?_
    · intro hs
      refine g_iconst X dX9_fault_29 (q := 30) rfl li_im1 ?_
      exact RI _ 30 _ _ _ rfl rfl hs dX9_fault_30
    · intro hs
      refine g_aload_n X dX9_fault_19 (q := 20) rfl 0 rfl ?_
      refine cg_9_7 X dX9_fault_20 (q := 23) rfl sh_0 lf_X9_44 ?_
      refine cgN_5_9 hZ X dX9_fault_23 (q := 26) rfl sh_49 lf_X9_148 ?_
      refine g_goto X dX9_fault_26 (tgt := 30) (by decide) ?_
      exact RI _ 30 _ _ _ rfl rfl hs dX9_fault_30
  · intro hs
    refine g_aload_n X dX9_fault_4 (q := 5) rfl 0 rfl ?_
    refine cg_9_7 X dX9_fault_5 (q := 8) rfl sh_0 lf_X9_44 ?_
    refine cgN_5_8 hZ X dX9_fault_8 (q := 11) rfl sh_49 lf_X9_145 ?_
    refine g_goto X dX9_fault_11 (tgt := 30) (by decide) ?_
    exact RI _ 30 _ _ _ rfl rfl hs dX9_fault_30
theorem dX9_sow_0 : decode cX9_sow 0 = .ok (.aload_n 0, 1) := by decide +kernel
theorem dX9_sow_1 : decode cX9_sow 1 = .ok (.getfield 19, 3) := by decide +kernel
theorem dX9_sow_4 : decode cX9_sow 4 = .ok (.iload_n 1, 1) := by decide +kernel
theorem dX9_sow_5 : decode cX9_sow 5 = .ok (.invokevirtual 151, 3) := by decide +kernel
theorem dX9_sow_8 : decode cX9_sow 8 = .ok (.ifCond .eq 14, 3) := by decide +kernel
theorem dX9_sow_11 : decode cX9_sow 11 = .ok (.aload_n 0, 1) := by decide +kernel
theorem dX9_sow_12 : decode cX9_sow 12 = .ok (.getfield 12, 3) := by decide +kernel
theorem dX9_sow_15 : decode cX9_sow 15 = .ok (.iload_n 2, 1) := by decide +kernel
theorem dX9_sow_16 : decode cX9_sow 16 = .ok (.invokevirtual 154, 3) := by decide +kernel
theorem dX9_sow_19 : decode cX9_sow 19 = .ok (.ifCond .ne 5, 3) := by decide +kernel
theorem dX9_sow_22 : decode cX9_sow 22 = .ok (.iconst 0, 1) := by decide +kernel
theorem dX9_sow_23 : decode cX9_sow 23 = .ok (.ireturn, 1) := by decide +kernel
theorem dX9_sow_24 : decode cX9_sow 24 = .ok (.aload_n 0, 1) := by decide +kernel
theorem dX9_sow_25 : decode cX9_sow 25 = .ok (.getfield 78, 3) := by decide +kernel
theorem dX9_sow_28 : decode cX9_sow 28 = .ok (.aload_n 0, 1) := by decide +kernel
theorem dX9_sow_29 : decode cX9_sow 29 = .ok (.getfield 12, 3) := by decide +kernel
theorem dX9_sow_32 : decode cX9_sow 32 = .ok (.aload_n 0, 1) := by decide +kernel
theorem dX9_sow_33 : decode cX9_sow 33 = .ok (.getfield 28, 3) := by decide +kernel
theorem dX9_sow_36 : decode cX9_sow 36 = .ok (.invokevirtual 157, 3) := by decide +kernel
theorem dX9_sow_39 : decode cX9_sow 39 = .ok (.aload_n 0, 1) := by decide +kernel
theorem dX9_sow_40 : decode cX9_sow 40 = .ok (.getfield 62, 3) := by decide +kernel
theorem dX9_sow_43 : decode cX9_sow 43 = .ok (.aload_n 0, 1) := by decide +kernel
theorem dX9_sow_44 : decode cX9_sow 44 = .ok (.getfield 12, 3) := by decide +kernel
theorem dX9_sow_47 : decode cX9_sow 47 = .ok (.iload_n 1, 1) := by decide +kernel
theorem dX9_sow_48 : decode cX9_sow 48 = .ok (.iload_n 2, 1) := by decide +kernel
theorem dX9_sow_49 : decode cX9_sow 49 = .ok (.invokevirtual 161, 3) := by decide +kernel
theorem dX9_sow_52 : decode cX9_sow 52 = .ok (.ireturn, 1) := by decide +kernel
theorem wX0_keep_X9 : Cond.methodLinkNest RX9 157 yX0_keep "StormSeeds" ∈ NW := nw_of 920 (by decide +kernel) rfl
theorem vc_X0_keep_X9 {p : Program} {l : Launch} {e : Env} {st : State} {m : MethodId} {args : Array Value} {below : List Frame} {meth : Method} {c : Code} {Q : State → Prop} {nL : Nat} {cc : ByteArray} {s : ST} {pc q : Nat} {lv : List (Nat × Value)} {rest : List Value} {D : va_G} {cA cL : ClassId} {h : Nat → Nat} {Z : State → Heap → Prop} {sa : Nat → Nat} (hZ : ZK h Z sa) {d0 : Nat} (X : Cx (KC D cA cL h Z) p st m args meth c cc nL RX9) (d : decode cc pc = .ok (.invokevirtual 157, 3)) (hq : pc + 3 = q) (hd1 : 3 + 1 ≤ d0) (hd2 : 8 + (5 + 11) + 100 * 3 ≤ 100 * d0) (hr : (rest.map fun v => v.category).sum ≤ 8) {B : Type} {f : ST → Option B} {r : B} (hs : Bd (C_X0_keep s) f = some r) (k : ∀ y, f y = some r → WG (KC D cA cL h Z) p l e (rmD d0) st m args below meth c Q nL y q lv (rest)) : WG (KC D cA cL h Z) p l e (rmD d0) st m args below meth c Q nL s pc lv (.ref (h 23) :: .ref (h 1) :: .ref (h 80) :: rest) := by
  obtain ⟨v, hv, hs⟩ := Bd_e hs
  exact cVN_V (K := KC D cA cL h Z) X 80 (n := 2) (k_X0_keep hZ l D cA cL s hv) (gt_c (gt_of 923 (by decide +kernel) rfl) gt_t) (hZ.1 st st.heap X.2.2.2 _ wX0_keep_X9) (gt_of 206 (by decide +kernel) rfl) (gt_of 922 (by decide +kernel) rfl) (gt_of 51 (by decide +kernel) rfl) ⟨hd1, hd2⟩ ⟨by decide, by decide, by decide +kernel⟩ (As := [.ref (h 1), .ref (h 23)]) rfl hr (sh_80).1 (fs := cF0 h 80 (s.1 80) (s.2 80)) (GC_0 (cA := cA) (cL := cL) sh_80 _ _) rfl rfl d hq (k _ hs)
theorem wX1_isSowable_X9 : Cond.methodLinkNest RX9 154 yX1_isSowable "StormSeeds" ∈ NW := nw_of 916 (by decide +kernel) rfl
theorem vc_X1_isSowable_X9 {p : Program} {l : Launch} {e : Env} {st : State} {m : MethodId} {args : Array Value} {below : List Frame} {meth : Method} {c : Code} {Q : State → Prop} {nL : Nat} {cc : ByteArray} {s : ST} {pc q : Nat} {lv : List (Nat × Value)} {rest : List Value} {D : va_G} {cA cL : ClassId} {h : Nat → Nat} {Z : State → Heap → Prop} {sa : Nat → Nat} (hZ : ZK h Z sa) {d0 : Nat} (X : Cx (KC D cA cL h Z) p st m args meth c cc nL RX9) {b0 : Nat} {x1 : Int32} (d : decode cc pc = .ok (.invokevirtual 154, 3)) (hq : pc + 3 = q) (hb0 : isK 1 b0) (hd1 : 2 + 1 ≤ d0) (hd2 : 8 + (2 + 11) + 100 * 2 ≤ 100 * d0) (hr : (rest.map fun v => v.category).sum ≤ 8) {B : Type} {f : Int32 → B} {r : B} (hs : Lt (C_X1_isSowable s b0 x1) f = r) (k : ∀ y, f y = r → WG (KC D cA cL h Z) p l e (rmD d0) st m args below meth c Q nL s q lv (.int y :: rest)) : WG (KC D cA cL h Z) p l e (rmD d0) st m args below meth c Q nL s pc lv (.int x1 :: .ref (h b0) :: rest) := by
  exact cVN_I (K := KC D cA cL h Z) X b0 (n := 1) (k_X1_isSowable hZ l D cA cL s b0 x1 hb0) (gt_c (gt_of 919 (by decide +kernel) rfl) gt_t) (hZ.1 st st.heap X.2.2.2 _ wX1_isSowable_X9) (gt_of 197 (by decide +kernel) rfl) (gt_of 918 (by decide +kernel) rfl) (gt_of 50 (by decide +kernel) rfl) ⟨hd1, hd2⟩ ⟨by decide, by decide, by decide +kernel⟩ (As := [.int x1]) rfl hr (hb0).1 (fs := cF1 h b0 (s.1 b0) (s.2 b0)) (GC_1 (cA := cA) (cL := cL) hb0 _ _) rfl rfl d hq (k _ hs)
theorem wX7_hasKind_X9 : Cond.methodLinkNest RX9 151 yX7_hasKind "StormSeeds" ∈ NW := nw_of 908 (by decide +kernel) rfl
theorem vc_X7_hasKind_X9 {p : Program} {l : Launch} {e : Env} {st : State} {m : MethodId} {args : Array Value} {below : List Frame} {meth : Method} {c : Code} {Q : State → Prop} {nL : Nat} {cc : ByteArray} {s : ST} {pc q : Nat} {lv : List (Nat × Value)} {rest : List Value} {D : va_G} {cA cL : ClassId} {h : Nat → Nat} {Z : State → Heap → Prop} {sa : Nat → Nat} (hZ : ZK h Z sa) {d0 : Nat} (X : Cx (KC D cA cL h Z) p st m args meth c cc nL RX9) {b0 : Nat} {x1 : Int32} (d : decode cc pc = .ok (.invokevirtual 151, 3)) (hq : pc + 3 = q) (hb0 : isK 7 b0) (hd1 : 2 + 1 ≤ d0) (hd2 : 8 + (2 + 11) + 100 * 2 ≤ 100 * d0) (hr : (rest.map fun v => v.category).sum ≤ 8) {B : Type} {f : Int32 → B} {r : B} (hs : Lt (C_X7_hasKind s b0 x1) f = r) (k : ∀ y, f y = r → WG (KC D cA cL h Z) p l e (rmD d0) st m args below meth c Q nL s q lv (.int y :: rest)) : WG (KC D cA cL h Z) p l e (rmD d0) st m args below meth c Q nL s pc lv (.int x1 :: .ref (h b0) :: rest) := by
  exact cVN_I (K := KC D cA cL h Z) X b0 (n := 1) (k_X7_hasKind hZ l D cA cL s b0 x1 hb0) (gt_c (gt_of 911 (by decide +kernel) rfl) gt_t) (hZ.1 st st.heap X.2.2.2 _ wX7_hasKind_X9) (gt_of 198 (by decide +kernel) rfl) (gt_of 910 (by decide +kernel) rfl) (gt_of 48 (by decide +kernel) rfl) ⟨hd1, hd2⟩ ⟨by decide, by decide, by decide +kernel⟩ (As := [.int x1]) rfl hr (hb0).1 (fs := cF7 h b0 (s.1 b0) (s.2 b0)) (GC_7 (cA := cA) (cL := cL) hb0 _ _) rfl rfl d hq (k _ hs)
theorem wX8_plant_r_X9 : Cond.methodLinkNest RX9 161 yX8_plant "StormSeeds" ∈ NW := nw_of 929 (by decide +kernel) rfl
theorem vc_X8_plant_r_X9 {p : Program} {l : Launch} {e : Env} {st : State} {m : MethodId} {args : Array Value} {below : List Frame} {meth : Method} {c : Code} {Q : State → Prop} {nL : Nat} {cc : ByteArray} {s : ST} {pc q : Nat} {lv : List (Nat × Value)} {rest : List Value} {D : va_G} {cA cL : ClassId} {h : Nat → Nat} {Z : State → Heap → Prop} {sa : Nat → Nat} (hZ : ZK h Z sa) {d0 : Nat} (X : Cx (KC D cA cL h Z) p st m args meth c cc nL RX9) {x2 : Int32} {x3 : Int32} (d : decode cc pc = .ok (.invokevirtual 161, 3)) (hq : pc + 3 = q) (hd1 : 3 + 1 ≤ d0) (hd2 : 8 + (4 + 11) + 100 * 3 ≤ 100 * d0) (hr : (rest.map fun v => v.category).sum ≤ 8) {B : Type} {f : Int32 × ST → Option B} {r : B} (hs : Bd (C_X8_plant_r s x2 x3) f = some r) (k : ∀ y, f y = some r → WG (KC D cA cL h Z) p l e (rmD d0) st m args below meth c Q nL y.2 q lv (.int y.1 :: rest)) : WG (KC D cA cL h Z) p l e (rmD d0) st m args below meth c Q nL s pc lv (.int x3 :: .int x2 :: .ref (h 1) :: .ref (h 70) :: rest) := by
  obtain ⟨v, hv, hs⟩ := Bd_e hs
  exact cVN_I (K := KC D cA cL h Z) X 70 (n := 3) (k_X8_plant_r hZ l D cA cL s x2 x3 hv) (gt_c (gt_of 932 (by decide +kernel) rfl) gt_t) (hZ.1 st st.heap X.2.2.2 _ wX8_plant_r_X9) (gt_of 204 (by decide +kernel) rfl) (gt_of 931 (by decide +kernel) rfl) (gt_of 53 (by decide +kernel) rfl) ⟨hd1, hd2⟩ ⟨by decide, by decide, by decide +kernel⟩ (As := [.ref (h 1), .int x2, .int x3]) rfl hr (sh_70).1 (fs := cF8 h 70 (s.1 70) (s.2 70)) (GC_8 (cA := cA) (cL := cL) sh_70 _ _) rfl rfl d hq (k _ hs)
def C_X9_sow (s : ST) (x1 : Int32) (x2 : Int32) : Option (Int32 × ST) := Lt (C_X7_hasKind s 8 x1) fun y1 => if y1 = 0 then (some ((0 : Int32), s)) else (Lt (C_X1_isSowable s 1 x2) fun y2 => if y2 = 0 then (some ((0 : Int32), s)) else (Bd (C_X0_keep s) fun s1 => Bd (C_X8_plant_r s1 x1 x2) fun y3 => some ((y3.1 &&& 1), y3.2)))
set_option maxRecDepth 100000 in
set_option maxHeartbeats 4000000 in
theorem k_X9_sow {h : Nat → Nat} {Z : State → Heap → Prop} {sa : Nat → Nat} (hZ : ZK h Z sa) (l : Launch) (D : va_G) (cA cL : ClassId) (s : ST) (x1 : Int32) (x2 : Int32) {o : Int32 × ST} (hs : C_X9_sow s x1 x2 = some o) : MI l (KC D cA cL h Z) 4 yX9_sow cX9_sow 3 (some .boolean) s [.ref (h 0), .int x1, .int x2] o.1 o.2 := by
  refine met_i (by decide) (Nat.le_of_ble_eq_true rfl) ?_
  intro p e st m args below meth c Q X RI
  unfold C_X9_sow at hs
  refine g_aload_n X dX9_sow_0 (q := 1) rfl 0 rfl ?_
  refine cg_9_1 X dX9_sow_1 (q := 4) rfl sh_0 lf_X9_19 ?_
  refine g_iload_n X dX9_sow_4 (q := 5) rfl 1 rfl ?_
  refine vc_X7_hasKind_X9 hZ X dX9_sow_5 (q := 8) rfl sh_8 (Nat.le_of_ble_eq_true rfl) (Nat.le_of_ble_eq_true rfl) (Nat.le_of_ble_eq_true rfl) hs (fun y1 hs => ?_)
  refine g_if_eq X dX9_sow_8 (q := 11) rfl (tgt := 22) (by decide) hs ?_ ?_
  · intro hs
    refine g_iconst X dX9_sow_22 (q := 23) rfl li_i0 ?_
    exact RI _ 23 _ _ _ (rU1 hs) rfl (rV1 hs) dX9_sow_23
  · intro hs
    refine g_aload_n X dX9_sow_11 (q := 12) rfl 0 rfl ?_
    refine cg_9_0 X dX9_sow_12 (q := 15) rfl sh_0 lf_X9_12 ?_
    refine g_iload_n X dX9_sow_15 (q := 16) rfl 2 rfl ?_
    refine vc_X1_isSowable_X9 hZ X dX9_sow_16 (q := 19) rfl sh_1 (Nat.le_of_ble_eq_true rfl) (Nat.le_of_ble_eq_true rfl) (Nat.le_of_ble_eq_true rfl) hs (fun y2 hs => ?_)
    refine g_if_ne X dX9_sow_19 (q := 22) rfl (tgt := 24) (by decide) hs ?_ ?_
    · intro hs
      refine g_aload_n X dX9_sow_24 (q := 25) rfl 0 rfl ?_
      refine cg_9_11 X dX9_sow_25 (q := 28) rfl sh_0 lf_X9_78 ?_
      refine g_aload_n X dX9_sow_28 (q := 29) rfl 0 rfl ?_
      refine cg_9_0 X dX9_sow_29 (q := 32) rfl sh_0 lf_X9_12 ?_
      refine g_aload_n X dX9_sow_32 (q := 33) rfl 0 rfl ?_
      refine cg_9_2 X dX9_sow_33 (q := 36) rfl sh_0 lf_X9_28 ?_
      refine vc_X0_keep_X9 hZ X dX9_sow_36 (q := 39) rfl (Nat.le_of_ble_eq_true rfl) (Nat.le_of_ble_eq_true rfl) (Nat.le_of_ble_eq_true rfl) hs (fun s1 hs => ?_)
      refine g_aload_n X dX9_sow_39 (q := 40) rfl 0 rfl ?_
      refine cg_9_9 X dX9_sow_40 (q := 43) rfl sh_0 lf_X9_62 ?_
      refine g_aload_n X dX9_sow_43 (q := 44) rfl 0 rfl ?_
      refine cg_9_0 X dX9_sow_44 (q := 47) rfl sh_0 lf_X9_12 ?_
      refine g_iload_n X dX9_sow_47 (q := 48) rfl 1 rfl ?_
      refine g_iload_n X dX9_sow_48 (q := 49) rfl 2 rfl ?_
      refine vc_X8_plant_r_X9 hZ X dX9_sow_49 (q := 52) rfl (Nat.le_of_ble_eq_true rfl) (Nat.le_of_ble_eq_true rfl) (Nat.le_of_ble_eq_true rfl) hs (fun y3 hs => ?_)
      exact RI _ 52 _ _ _ (rU1 hs) rfl (rV1 hs) dX9_sow_52
    · intro hs
      refine g_iconst X dX9_sow_22 (q := 23) rfl li_i0 ?_
      exact RI _ 23 _ _ _ (rU1 hs) rfl (rV1 hs) dX9_sow_23
theorem dX9_weed_0 : decode cX9_weed 0 = .ok (.aload_n 0, 1) := by decide +kernel
theorem dX9_weed_1 : decode cX9_weed 1 = .ok (.getfield 12, 3) := by decide +kernel
theorem dX9_weed_4 : decode cX9_weed 4 = .ok (.iload_n 1, 1) := by decide +kernel
theorem dX9_weed_5 : decode cX9_weed 5 = .ok (.invokevirtual 165, 3) := by decide +kernel
theorem dX9_weed_8 : decode cX9_weed 8 = .ok (.ifCond .ne 5, 3) := by decide +kernel
theorem dX9_weed_11 : decode cX9_weed 11 = .ok (.iconst 0, 1) := by decide +kernel
theorem dX9_weed_12 : decode cX9_weed 12 = .ok (.ireturn, 1) := by decide +kernel
theorem dX9_weed_13 : decode cX9_weed 13 = .ok (.aload_n 0, 1) := by decide +kernel
theorem dX9_weed_14 : decode cX9_weed 14 = .ok (.getfield 78, 3) := by decide +kernel
theorem dX9_weed_17 : decode cX9_weed 17 = .ok (.aload_n 0, 1) := by decide +kernel
theorem dX9_weed_18 : decode cX9_weed 18 = .ok (.getfield 12, 3) := by decide +kernel
theorem dX9_weed_21 : decode cX9_weed 21 = .ok (.aload_n 0, 1) := by decide +kernel
theorem dX9_weed_22 : decode cX9_weed 22 = .ok (.getfield 28, 3) := by decide +kernel
theorem dX9_weed_25 : decode cX9_weed 25 = .ok (.invokevirtual 157, 3) := by decide +kernel
theorem dX9_weed_28 : decode cX9_weed 28 = .ok (.aload_n 0, 1) := by decide +kernel
theorem dX9_weed_29 : decode cX9_weed 29 = .ok (.getfield 62, 3) := by decide +kernel
theorem dX9_weed_32 : decode cX9_weed 32 = .ok (.aload_n 0, 1) := by decide +kernel
theorem dX9_weed_33 : decode cX9_weed 33 = .ok (.getfield 12, 3) := by decide +kernel
theorem dX9_weed_36 : decode cX9_weed 36 = .ok (.iload_n 1, 1) := by decide +kernel
theorem dX9_weed_37 : decode cX9_weed 37 = .ok (.invokevirtual 168, 3) := by decide +kernel
theorem dX9_weed_40 : decode cX9_weed 40 = .ok (.ireturn, 1) := by decide +kernel
theorem wX1_hasSeed_X9 : Cond.methodLinkNest RX9 165 yX1_hasSeed "StormSeeds" ∈ NW := nw_of 948 (by decide +kernel) rfl
theorem vc_X1_hasSeed_X9 {p : Program} {l : Launch} {e : Env} {st : State} {m : MethodId} {args : Array Value} {below : List Frame} {meth : Method} {c : Code} {Q : State → Prop} {nL : Nat} {cc : ByteArray} {s : ST} {pc q : Nat} {lv : List (Nat × Value)} {rest : List Value} {D : va_G} {cA cL : ClassId} {h : Nat → Nat} {Z : State → Heap → Prop} {sa : Nat → Nat} (hZ : ZK h Z sa) {d0 : Nat} (X : Cx (KC D cA cL h Z) p st m args meth c cc nL RX9) {b0 : Nat} {x1 : Int32} (d : decode cc pc = .ok (.invokevirtual 165, 3)) (hq : pc + 3 = q) (hb0 : isK 1 b0) (hd1 : 2 + 1 ≤ d0) (hd2 : 8 + (2 + 11) + 100 * 2 ≤ 100 * d0) (hr : (rest.map fun v => v.category).sum ≤ 8) {B : Type} {f : Int32 → B} {r : B} (hs : Lt (C_X1_hasSeed s b0 x1) f = r) (k : ∀ y, f y = r → WG (KC D cA cL h Z) p l e (rmD d0) st m args below meth c Q nL s q lv (.int y :: rest)) : WG (KC D cA cL h Z) p l e (rmD d0) st m args below meth c Q nL s pc lv (.int x1 :: .ref (h b0) :: rest) := by
  exact cVN_I (K := KC D cA cL h Z) X b0 (n := 1) (k_X1_hasSeed hZ l D cA cL s b0 x1 hb0) (gt_c (gt_of 631 (by decide +kernel) rfl) gt_t) (hZ.1 st st.heap X.2.2.2 _ wX1_hasSeed_X9) (gt_of 197 (by decide +kernel) rfl) (gt_of 630 (by decide +kernel) rfl) (gt_of 10 (by decide +kernel) rfl) ⟨hd1, hd2⟩ ⟨by decide, by decide, by decide +kernel⟩ (As := [.int x1]) rfl hr (hb0).1 (fs := cF1 h b0 (s.1 b0) (s.2 b0)) (GC_1 (cA := cA) (cL := cL) hb0 _ _) rfl rfl d hq (k _ hs)
theorem wX8_pull_r_X9 : Cond.methodLinkNest RX9 168 yX8_pull "StormSeeds" ∈ NW := nw_of 949 (by decide +kernel) rfl
theorem vc_X8_pull_r_X9 {p : Program} {l : Launch} {e : Env} {st : State} {m : MethodId} {args : Array Value} {below : List Frame} {meth : Method} {c : Code} {Q : State → Prop} {nL : Nat} {cc : ByteArray} {s : ST} {pc q : Nat} {lv : List (Nat × Value)} {rest : List Value} {D : va_G} {cA cL : ClassId} {h : Nat → Nat} {Z : State → Heap → Prop} {sa : Nat → Nat} (hZ : ZK h Z sa) {d0 : Nat} (X : Cx (KC D cA cL h Z) p st m args meth c cc nL RX9) {x2 : Int32} (d : decode cc pc = .ok (.invokevirtual 168, 3)) (hq : pc + 3 = q) (hd1 : 3 + 1 ≤ d0) (hd2 : 8 + (3 + 11) + 100 * 3 ≤ 100 * d0) (hr : (rest.map fun v => v.category).sum ≤ 8) {B : Type} {f : Int32 × ST → Option B} {r : B} (hs : Bd (C_X8_pull_r s x2) f = some r) (k : ∀ y, f y = some r → WG (KC D cA cL h Z) p l e (rmD d0) st m args below meth c Q nL y.2 q lv (.int y.1 :: rest)) : WG (KC D cA cL h Z) p l e (rmD d0) st m args below meth c Q nL s pc lv (.int x2 :: .ref (h 1) :: .ref (h 70) :: rest) := by
  obtain ⟨v, hv, hs⟩ := Bd_e hs
  exact cVN_I (K := KC D cA cL h Z) X 70 (n := 2) (k_X8_pull_r hZ l D cA cL s x2 hv) (gt_c (gt_of 952 (by decide +kernel) rfl) gt_t) (hZ.1 st st.heap X.2.2.2 _ wX8_pull_r_X9) (gt_of 204 (by decide +kernel) rfl) (gt_of 951 (by decide +kernel) rfl) (gt_of 56 (by decide +kernel) rfl) ⟨hd1, hd2⟩ ⟨by decide, by decide, by decide +kernel⟩ (As := [.ref (h 1), .int x2]) rfl hr (sh_70).1 (fs := cF8 h 70 (s.1 70) (s.2 70)) (GC_8 (cA := cA) (cL := cL) sh_70 _ _) rfl rfl d hq (k _ hs)
def C_X9_weed (s : ST) (x1 : Int32) : Option (Int32 × ST) := Lt (C_X1_hasSeed s 1 x1) fun y1 => if y1 = 0 then (some ((0 : Int32), s)) else (Bd (C_X0_keep s) fun s1 => Bd (C_X8_pull_r s1 x1) fun y2 => some ((y2.1 &&& 1), y2.2))
set_option maxRecDepth 100000 in
set_option maxHeartbeats 4000000 in
theorem k_X9_weed {h : Nat → Nat} {Z : State → Heap → Prop} {sa : Nat → Nat} (hZ : ZK h Z sa) (l : Launch) (D : va_G) (cA cL : ClassId) (s : ST) (x1 : Int32) {o : Int32 × ST} (hs : C_X9_weed s x1 = some o) : MI l (KC D cA cL h Z) 4 yX9_weed cX9_weed 2 (some .boolean) s [.ref (h 0), .int x1] o.1 o.2 := by
  refine met_i (by decide) (Nat.le_of_ble_eq_true rfl) ?_
  intro p e st m args below meth c Q X RI
  unfold C_X9_weed at hs
  refine g_aload_n X dX9_weed_0 (q := 1) rfl 0 rfl ?_
  refine cg_9_0 X dX9_weed_1 (q := 4) rfl sh_0 lf_X9_12 ?_
  refine g_iload_n X dX9_weed_4 (q := 5) rfl 1 rfl ?_
  refine vc_X1_hasSeed_X9 hZ X dX9_weed_5 (q := 8) rfl sh_1 (Nat.le_of_ble_eq_true rfl) (Nat.le_of_ble_eq_true rfl) (Nat.le_of_ble_eq_true rfl) hs (fun y1 hs => ?_)
  refine g_if_ne X dX9_weed_8 (q := 11) rfl (tgt := 13) (by decide) hs ?_ ?_
  · intro hs
    refine g_aload_n X dX9_weed_13 (q := 14) rfl 0 rfl ?_
    refine cg_9_11 X dX9_weed_14 (q := 17) rfl sh_0 lf_X9_78 ?_
    refine g_aload_n X dX9_weed_17 (q := 18) rfl 0 rfl ?_
    refine cg_9_0 X dX9_weed_18 (q := 21) rfl sh_0 lf_X9_12 ?_
    refine g_aload_n X dX9_weed_21 (q := 22) rfl 0 rfl ?_
    refine cg_9_2 X dX9_weed_22 (q := 25) rfl sh_0 lf_X9_28 ?_
    refine vc_X0_keep_X9 hZ X dX9_weed_25 (q := 28) rfl (Nat.le_of_ble_eq_true rfl) (Nat.le_of_ble_eq_true rfl) (Nat.le_of_ble_eq_true rfl) hs (fun s1 hs => ?_)
    refine g_aload_n X dX9_weed_28 (q := 29) rfl 0 rfl ?_
    refine cg_9_9 X dX9_weed_29 (q := 32) rfl sh_0 lf_X9_62 ?_
    refine g_aload_n X dX9_weed_32 (q := 33) rfl 0 rfl ?_
    refine cg_9_0 X dX9_weed_33 (q := 36) rfl sh_0 lf_X9_12 ?_
    refine g_iload_n X dX9_weed_36 (q := 37) rfl 1 rfl ?_
    refine vc_X8_pull_r_X9 hZ X dX9_weed_37 (q := 40) rfl (Nat.le_of_ble_eq_true rfl) (Nat.le_of_ble_eq_true rfl) (Nat.le_of_ble_eq_true rfl) hs (fun y2 hs => ?_)
    exact RI _ 40 _ _ _ (rU1 hs) rfl (rV1 hs) dX9_weed_40
  · intro hs
    refine g_iconst X dX9_weed_11 (q := 12) rfl li_i0 ?_
    exact RI _ 12 _ _ _ (rU1 hs) rfl (rV1 hs) dX9_weed_12
theorem dX9_turn_0 : decode cX9_turn 0 = .ok (.aload_n 0, 1) := by decide +kernel
theorem dX9_turn_1 : decode cX9_turn 1 = .ok (.getfield 12, 3) := by decide +kernel
theorem dX9_turn_4 : decode cX9_turn 4 = .ok (.iload_n 1, 1) := by decide +kernel
theorem dX9_turn_5 : decode cX9_turn 5 = .ok (.invokevirtual 172, 3) := by decide +kernel
theorem dX9_turn_8 : decode cX9_turn 8 = .ok (.ifCond .ne 5, 3) := by decide +kernel
theorem dX9_turn_11 : decode cX9_turn 11 = .ok (.iconst 0, 1) := by decide +kernel
theorem dX9_turn_12 : decode cX9_turn 12 = .ok (.ireturn, 1) := by decide +kernel
theorem dX9_turn_13 : decode cX9_turn 13 = .ok (.aload_n 0, 1) := by decide +kernel
theorem dX9_turn_14 : decode cX9_turn 14 = .ok (.getfield 78, 3) := by decide +kernel
theorem dX9_turn_17 : decode cX9_turn 17 = .ok (.aload_n 0, 1) := by decide +kernel
theorem dX9_turn_18 : decode cX9_turn 18 = .ok (.getfield 12, 3) := by decide +kernel
theorem dX9_turn_21 : decode cX9_turn 21 = .ok (.aload_n 0, 1) := by decide +kernel
theorem dX9_turn_22 : decode cX9_turn 22 = .ok (.getfield 28, 3) := by decide +kernel
theorem dX9_turn_25 : decode cX9_turn 25 = .ok (.invokevirtual 157, 3) := by decide +kernel
theorem dX9_turn_28 : decode cX9_turn 28 = .ok (.aload_n 0, 1) := by decide +kernel
theorem dX9_turn_29 : decode cX9_turn 29 = .ok (.getfield 12, 3) := by decide +kernel
theorem dX9_turn_32 : decode cX9_turn 32 = .ok (.iload_n 1, 1) := by decide +kernel
theorem dX9_turn_33 : decode cX9_turn 33 = .ok (.invokevirtual 175, 3) := by decide +kernel
theorem dX9_turn_36 : decode cX9_turn 36 = .ok (.ireturn, 1) := by decide +kernel
theorem wX1_isTurnable_X9 : Cond.methodLinkNest RX9 172 yX1_isTurnable "StormSeeds" ∈ NW := nw_of 963 (by decide +kernel) rfl
theorem vc_X1_isTurnable_X9 {p : Program} {l : Launch} {e : Env} {st : State} {m : MethodId} {args : Array Value} {below : List Frame} {meth : Method} {c : Code} {Q : State → Prop} {nL : Nat} {cc : ByteArray} {s : ST} {pc q : Nat} {lv : List (Nat × Value)} {rest : List Value} {D : va_G} {cA cL : ClassId} {h : Nat → Nat} {Z : State → Heap → Prop} {sa : Nat → Nat} (hZ : ZK h Z sa) {d0 : Nat} (X : Cx (KC D cA cL h Z) p st m args meth c cc nL RX9) {b0 : Nat} {x1 : Int32} (d : decode cc pc = .ok (.invokevirtual 172, 3)) (hq : pc + 3 = q) (hb0 : isK 1 b0) (hd1 : 2 + 1 ≤ d0) (hd2 : 8 + (2 + 11) + 100 * 2 ≤ 100 * d0) (hr : (rest.map fun v => v.category).sum ≤ 8) {B : Type} {f : Int32 → B} {r : B} (hs : Lt (C_X1_isTurnable s b0 x1) f = r) (k : ∀ y, f y = r → WG (KC D cA cL h Z) p l e (rmD d0) st m args below meth c Q nL s q lv (.int y :: rest)) : WG (KC D cA cL h Z) p l e (rmD d0) st m args below meth c Q nL s pc lv (.int x1 :: .ref (h b0) :: rest) := by
  exact cVN_I (K := KC D cA cL h Z) X b0 (n := 1) (k_X1_isTurnable hZ l D cA cL s b0 x1 hb0) (gt_c (gt_of 966 (by decide +kernel) rfl) gt_t) (hZ.1 st st.heap X.2.2.2 _ wX1_isTurnable_X9) (gt_of 197 (by decide +kernel) rfl) (gt_of 965 (by decide +kernel) rfl) (gt_of 58 (by decide +kernel) rfl) ⟨hd1, hd2⟩ ⟨by decide, by decide, by decide +kernel⟩ (As := [.int x1]) rfl hr (hb0).1 (fs := cF1 h b0 (s.1 b0) (s.2 b0)) (GC_1 (cA := cA) (cL := cL) hb0 _ _) rfl rfl d hq (k _ hs)
theorem wX1_veer_X9 : Cond.methodLinkNest RX9 175 yX1_veer "StormSeeds" ∈ NW := nw_of 967 (by decide +kernel) rfl
theorem vc_X1_veer_X9 {p : Program} {l : Launch} {e : Env} {st : State} {m : MethodId} {args : Array Value} {below : List Frame} {meth : Method} {c : Code} {Q : State → Prop} {nL : Nat} {cc : ByteArray} {s : ST} {pc q : Nat} {lv : List (Nat × Value)} {rest : List Value} {D : va_G} {cA cL : ClassId} {h : Nat → Nat} {Z : State → Heap → Prop} {sa : Nat → Nat} (hZ : ZK h Z sa) {d0 : Nat} (X : Cx (KC D cA cL h Z) p st m args meth c cc nL RX9) {b0 : Nat} {x1 : Int32} (d : decode cc pc = .ok (.invokevirtual 175, 3)) (hq : pc + 3 = q) (hb0 : isK 1 b0) (hd1 : 3 + 1 ≤ d0) (hd2 : 8 + (2 + 11) + 100 * 3 ≤ 100 * d0) (hr : (rest.map fun v => v.category).sum ≤ 8) {B : Type} {f : Int32 × ST → B} {r : B} (hs : Lt (C_X1_veer s b0 x1) f = r) (k : ∀ y, f y = r → WG (KC D cA cL h Z) p l e (rmD d0) st m args below meth c Q nL y.2 q lv (.int y.1 :: rest)) : WG (KC D cA cL h Z) p l e (rmD d0) st m args below meth c Q nL s pc lv (.int x1 :: .ref (h b0) :: rest) := by
  exact cVN_I (K := KC D cA cL h Z) X b0 (n := 1) (k_X1_veer hZ l D cA cL s b0 x1 hb0) (gt_c (gt_of 970 (by decide +kernel) rfl) gt_t) (hZ.1 st st.heap X.2.2.2 _ wX1_veer_X9) (gt_of 197 (by decide +kernel) rfl) (gt_of 969 (by decide +kernel) rfl) (gt_of 59 (by decide +kernel) rfl) ⟨hd1, hd2⟩ ⟨by decide, by decide, by decide +kernel⟩ (As := [.int x1]) rfl hr (hb0).1 (fs := cF1 h b0 (s.1 b0) (s.2 b0)) (GC_1 (cA := cA) (cL := cL) hb0 _ _) rfl rfl d hq (k _ hs)
def C_X9_turn (s : ST) (x1 : Int32) : Option (Int32 × ST) := Lt (C_X1_isTurnable s 1 x1) fun y1 => if y1 = 0 then (some ((0 : Int32), s)) else (Bd (C_X0_keep s) fun s1 => Lt (C_X1_veer s1 1 x1) fun y2 => some ((y2.1 &&& 1), y2.2))
set_option maxRecDepth 100000 in
set_option maxHeartbeats 4000000 in
theorem k_X9_turn {h : Nat → Nat} {Z : State → Heap → Prop} {sa : Nat → Nat} (hZ : ZK h Z sa) (l : Launch) (D : va_G) (cA cL : ClassId) (s : ST) (x1 : Int32) {o : Int32 × ST} (hs : C_X9_turn s x1 = some o) : MI l (KC D cA cL h Z) 4 yX9_turn cX9_turn 2 (some .boolean) s [.ref (h 0), .int x1] o.1 o.2 := by
  refine met_i (by decide) (Nat.le_of_ble_eq_true rfl) ?_
  intro p e st m args below meth c Q X RI
  unfold C_X9_turn at hs
  refine g_aload_n X dX9_turn_0 (q := 1) rfl 0 rfl ?_
  refine cg_9_0 X dX9_turn_1 (q := 4) rfl sh_0 lf_X9_12 ?_
  refine g_iload_n X dX9_turn_4 (q := 5) rfl 1 rfl ?_
  refine vc_X1_isTurnable_X9 hZ X dX9_turn_5 (q := 8) rfl sh_1 (Nat.le_of_ble_eq_true rfl) (Nat.le_of_ble_eq_true rfl) (Nat.le_of_ble_eq_true rfl) hs (fun y1 hs => ?_)
  refine g_if_ne X dX9_turn_8 (q := 11) rfl (tgt := 13) (by decide) hs ?_ ?_
  · intro hs
    refine g_aload_n X dX9_turn_13 (q := 14) rfl 0 rfl ?_
    refine cg_9_11 X dX9_turn_14 (q := 17) rfl sh_0 lf_X9_78 ?_
    refine g_aload_n X dX9_turn_17 (q := 18) rfl 0 rfl ?_
    refine cg_9_0 X dX9_turn_18 (q := 21) rfl sh_0 lf_X9_12 ?_
    refine g_aload_n X dX9_turn_21 (q := 22) rfl 0 rfl ?_
    refine cg_9_2 X dX9_turn_22 (q := 25) rfl sh_0 lf_X9_28 ?_
    refine vc_X0_keep_X9 hZ X dX9_turn_25 (q := 28) rfl (Nat.le_of_ble_eq_true rfl) (Nat.le_of_ble_eq_true rfl) (Nat.le_of_ble_eq_true rfl) hs (fun s1 hs => ?_)
    refine g_aload_n X dX9_turn_28 (q := 29) rfl 0 rfl ?_
    refine cg_9_0 X dX9_turn_29 (q := 32) rfl sh_0 lf_X9_12 ?_
    refine g_iload_n X dX9_turn_32 (q := 33) rfl 1 rfl ?_
    refine vc_X1_veer_X9 hZ X dX9_turn_33 (q := 36) rfl sh_1 (Nat.le_of_ble_eq_true rfl) (Nat.le_of_ble_eq_true rfl) (Nat.le_of_ble_eq_true rfl) hs (fun y2 hs => ?_)
    exact RI _ 36 _ _ _ (rU1 hs) rfl (rV1 hs) dX9_turn_36
  · intro hs
    refine g_iconst X dX9_turn_11 (q := 12) rfl li_i0 ?_
    exact RI _ 12 _ _ _ (rU1 hs) rfl (rV1 hs) dX9_turn_12
theorem dX9_days_0 : decode cX9_days 0 = .ok (.iload_n 1, 1) := by decide +kernel
theorem dX9_days_1 : decode cX9_days 1 = .ok (.iconst 1, 1) := by decide +kernel
theorem dX9_days_2 : decode cX9_days 2 = .ok (.bipush 60, 2) := by decide +kernel
theorem dX9_days_4 : decode cX9_days 4 = .ok (.invokestatic 93, 3) := by decide +kernel
theorem dX9_days_7 : decode cX9_days 7 = .ok (.ifCond .eq 18, 3) := by decide +kernel
theorem dX9_days_10 : decode cX9_days 10 = .ok (.aload_n 0, 1) := by decide +kernel
theorem dX9_days_11 : decode cX9_days 11 = .ok (.getfield 12, 3) := by decide +kernel
theorem dX9_days_14 : decode cX9_days 14 = .ok (.getfield 178, 3) := by decide +kernel
theorem dX9_days_17 : decode cX9_days 17 = .ok (.iload_n 1, 1) := by decide +kernel
theorem dX9_days_18 : decode cX9_days 18 = .ok (.iadd, 1) := by decide +kernel
theorem dX9_days_19 : decode cX9_days 19 = .ok (.sipush 999, 3) := by decide +kernel
theorem dX9_days_22 : decode cX9_days 22 = .ok (.if_icmp .le 5, 3) := by decide +kernel
theorem dX9_days_25 : decode cX9_days 25 = .ok (.iconst (-1), 1) := by decide +kernel
theorem dX9_days_26 : decode cX9_days 26 = .ok (.ireturn, 1) := by decide +kernel
theorem dX9_days_27 : decode cX9_days 27 = .ok (.iconst 0, 1) := by decide +kernel
theorem dX9_days_28 : decode cX9_days 28 = .ok (.istore_n 2, 1) := by decide +kernel
theorem dX9_days_29 : decode cX9_days 29 = .ok (.iconst 0, 1) := by decide +kernel
theorem dX9_days_30 : decode cX9_days 30 = .ok (.istore_n 3, 1) := by decide +kernel
theorem dX9_days_31 : decode cX9_days 31 = .ok (.iload_n 3, 1) := by decide +kernel
theorem dX9_days_32 : decode cX9_days 32 = .ok (.iload_n 1, 1) := by decide +kernel
theorem dX9_days_33 : decode cX9_days 33 = .ok (.if_icmp .ge 50, 3) := by decide +kernel
theorem dX9_days_36 : decode cX9_days 36 = .ok (.aload_n 0, 1) := by decide +kernel
theorem dX9_days_37 : decode cX9_days 37 = .ok (.getfield 78, 3) := by decide +kernel
theorem dX9_days_40 : decode cX9_days 40 = .ok (.aload_n 0, 1) := by decide +kernel
theorem dX9_days_41 : decode cX9_days 41 = .ok (.getfield 12, 3) := by decide +kernel
theorem dX9_days_44 : decode cX9_days 44 = .ok (.aload_n 0, 1) := by decide +kernel
theorem dX9_days_45 : decode cX9_days 45 = .ok (.getfield 28, 3) := by decide +kernel
theorem dX9_days_48 : decode cX9_days 48 = .ok (.invokevirtual 157, 3) := by decide +kernel
theorem dX9_days_51 : decode cX9_days 51 = .ok (.iload_n 2, 1) := by decide +kernel
theorem dX9_days_52 : decode cX9_days 52 = .ok (.aload_n 0, 1) := by decide +kernel
theorem dX9_days_53 : decode cX9_days 53 = .ok (.getfield 62, 3) := by decide +kernel
theorem dX9_days_56 : decode cX9_days 56 = .ok (.aload_n 0, 1) := by decide +kernel
theorem dX9_days_57 : decode cX9_days 57 = .ok (.getfield 12, 3) := by decide +kernel
theorem dX9_days_60 : decode cX9_days 60 = .ok (.iconst 1, 1) := by decide +kernel
theorem dX9_days_61 : decode cX9_days 61 = .ok (.invokevirtual 181, 3) := by decide +kernel
theorem dX9_days_64 : decode cX9_days 64 = .ok (.iadd, 1) := by decide +kernel
theorem dX9_days_65 : decode cX9_days 65 = .ok (.istore_n 2, 1) := by decide +kernel
theorem dX9_days_66 : decode cX9_days 66 = .ok (.aload_n 0, 1) := by decide +kernel
theorem dX9_days_67 : decode cX9_days 67 = .ok (.getfield 62, 3) := by decide +kernel
theorem dX9_days_70 : decode cX9_days 70 = .ok (.aload_n 0, 1) := by decide +kernel
theorem dX9_days_71 : decode cX9_days 71 = .ok (.getfield 12, 3) := by decide +kernel
theorem dX9_days_74 : decode cX9_days 74 = .ok (.invokevirtual 185, 3) := by decide +kernel
theorem dX9_days_77 : decode cX9_days 77 = .ok (.iinc 3 1, 3) := by decide +kernel
theorem dX9_days_80 : decode cX9_days 80 = .ok (.goto (-49), 3) := by decide +kernel
theorem dX9_days_83 : decode cX9_days 83 = .ok (.iload_n 2, 1) := by decide +kernel
theorem dX9_days_84 : decode cX9_days 84 = .ok (.ireturn, 1) := by decide +kernel
theorem wX8_dawn_r_X9 : Cond.methodLinkNest RX9 181 yX8_dawn "StormSeeds" ∈ NW := nw_of 976 (by decide +kernel) rfl
theorem vc_X8_dawn_r_X9 {p : Program} {l : Launch} {e : Env} {st : State} {m : MethodId} {args : Array Value} {below : List Frame} {meth : Method} {c : Code} {Q : State → Prop} {nL : Nat} {cc : ByteArray} {s : ST} {pc q : Nat} {lv : List (Nat × Value)} {rest : List Value} {D : va_G} {cA cL : ClassId} {h : Nat → Nat} {Z : State → Heap → Prop} {sa : Nat → Nat} (hZ : ZK h Z sa) {d0 : Nat} (X : Cx (KC D cA cL h Z) p st m args meth c cc nL RX9) {x2 : Int32} (d : decode cc pc = .ok (.invokevirtual 181, 3)) (hq : pc + 3 = q) (hd1 : 6 + 1 ≤ d0) (hd2 : 8 + (5 + 11) + 100 * 6 ≤ 100 * d0) (hr : (rest.map fun v => v.category).sum ≤ 8) {B : Type} {f : Int32 × ST → Option B} {r : B} (hs : Bd (C_X8_dawn_r s x2) f = some r) (k : ∀ y, f y = some r → WG (KC D cA cL h Z) p l e (rmD d0) st m args below meth c Q nL y.2 q lv (.int y.1 :: rest)) : WG (KC D cA cL h Z) p l e (rmD d0) st m args below meth c Q nL s pc lv (.int x2 :: .ref (h 1) :: .ref (h 70) :: rest) := by
  obtain ⟨v, hv, hs⟩ := Bd_e hs
  exact cVN_I (K := KC D cA cL h Z) X 70 (n := 2) (k_X8_dawn_r hZ l D cA cL s x2 hv) (gt_c (gt_of 979 (by decide +kernel) rfl) gt_t) (hZ.1 st st.heap X.2.2.2 _ wX8_dawn_r_X9) (gt_of 204 (by decide +kernel) rfl) (gt_of 978 (by decide +kernel) rfl) (gt_of 60 (by decide +kernel) rfl) ⟨hd1, hd2⟩ ⟨by decide, by decide, by decide +kernel⟩ (As := [.ref (h 1), .int x2]) rfl hr (sh_70).1 (fs := cF8 h 70 (s.1 70) (s.2 70)) (GC_8 (cA := cA) (cL := cL) sh_70 _ _) rfl rfl d hq (k _ hs)
theorem wX8_dusk_r_X9 : Cond.methodLinkNest RX9 185 yX8_dusk "StormSeeds" ∈ NW := nw_of 1048 (by decide +kernel) rfl
theorem vc_X8_dusk_r_X9 {p : Program} {l : Launch} {e : Env} {st : State} {m : MethodId} {args : Array Value} {below : List Frame} {meth : Method} {c : Code} {Q : State → Prop} {nL : Nat} {cc : ByteArray} {s : ST} {pc q : Nat} {lv : List (Nat × Value)} {rest : List Value} {D : va_G} {cA cL : ClassId} {h : Nat → Nat} {Z : State → Heap → Prop} {sa : Nat → Nat} (hZ : ZK h Z sa) {d0 : Nat} (X : Cx (KC D cA cL h Z) p st m args meth c cc nL RX9) (d : decode cc pc = .ok (.invokevirtual 185, 3)) (hq : pc + 3 = q) (hd1 : 4 + 1 ≤ d0) (hd2 : 8 + (3 + 11) + 100 * 4 ≤ 100 * d0) (hr : (rest.map fun v => v.category).sum ≤ 8) {B : Type} {f : ST → Option B} {r : B} (hs : Bd (C_X8_dusk_r s) f = some r) (k : ∀ y, f y = some r → WG (KC D cA cL h Z) p l e (rmD d0) st m args below meth c Q nL y q lv (rest)) : WG (KC D cA cL h Z) p l e (rmD d0) st m args below meth c Q nL s pc lv (.ref (h 1) :: .ref (h 70) :: rest) := by
  obtain ⟨v, hv, hs⟩ := Bd_e hs
  exact cVN_V (K := KC D cA cL h Z) X 70 (n := 1) (k_X8_dusk_r hZ l D cA cL s hv) (gt_c (gt_of 1051 (by decide +kernel) rfl) gt_t) (hZ.1 st st.heap X.2.2.2 _ wX8_dusk_r_X9) (gt_of 204 (by decide +kernel) rfl) (gt_of 1050 (by decide +kernel) rfl) (gt_of 72 (by decide +kernel) rfl) ⟨hd1, hd2⟩ ⟨by decide, by decide, by decide +kernel⟩ (As := [.ref (h 1)]) rfl hr (sh_70).1 (fs := cF8 h 70 (s.1 70) (s.2 70)) (GC_8 (cA := cA) (cL := cL) sh_70 _ _) rfl rfl d hq (k _ hs)
def C_X9_days (s : ST) (x1 : Int32) : Option (Int32 × ST) := Lt (C_X9_isWithin s x1 (1 : Int32) (60 : Int32)) fun y1 => if y1 = 0 then (some ((-1 : Int32), s)) else (if ((s.1 1 2) + x1) ≤ (999 : Int32) then (lpK3 (C := Int32 × ST) (fun (rec1 : Int32 → Int32 → ST → Option (Int32 × ST)) (a1 : Int32) (a2 : Int32) (s1 : ST) => if x1 ≤ a2 then (some (a1, s1)) else (Bd (C_X0_keep s1) fun s2 => Bd (C_X8_dawn_r s2 (1 : Int32)) fun y2 => Lt ((a1 + y2.1)) fun y3 => Bd (C_X8_dusk_r y2.2) fun s3 => rec1 y3 (a2 + (1 : Int32)) s3)) FU (0 : Int32) (0 : Int32) s) else (some ((-1 : Int32), s)))
set_option maxRecDepth 100000 in
set_option maxHeartbeats 4000000 in
theorem k_X9_days {h : Nat → Nat} {Z : State → Heap → Prop} {sa : Nat → Nat} (hZ : ZK h Z sa) (l : Launch) (D : va_G) (cA cL : ClassId) (s : ST) (x1 : Int32) {o : Int32 × ST} (hs : C_X9_days s x1 = some o) : MI l (KC D cA cL h Z) 7 yX9_days cX9_days 4 (some .int) s [.ref (h 0), .int x1] o.1 o.2 := by
  refine met_i (by decide) (Nat.le_of_ble_eq_true rfl) ?_
  intro p e st m args below meth c Q X RI
  unfold C_X9_days at hs
  refine g_iload_n X dX9_days_0 (q := 1) rfl 1 rfl ?_
  refine g_iconst X dX9_days_1 (q := 2) rfl li_i1 ?_
  refine g_bipush X dX9_days_2 (q := 4) rfl li_b60 ?_
  refine vc_X9_isWithin_X9 hZ X dX9_days_4 (q := 7) rfl (Nat.le_of_ble_eq_true rfl) (Nat.le_of_ble_eq_true rfl) (Nat.le_of_ble_eq_true rfl) hs (fun y1 hs => ?_)
  refine g_if_eq X dX9_days_7 (q := 10) rfl (tgt := 25) (by decide) hs ?_ ?_
  · intro hs
    refine g_iconst X dX9_days_25 (q := 26) rfl li_im1 ?_
    exact RI _ 26 _ _ _ (rU1 hs) rfl (rV1 hs) dX9_days_26
  · intro hs
    refine g_aload_n X dX9_days_10 (q := 11) rfl 0 rfl ?_
    refine cg_9_0 X dX9_days_11 (q := 14) rfl sh_0 lf_X9_12 ?_
    refine cgN_1_2 hZ X dX9_days_14 (q := 17) rfl sh_1 lf_X9_178 ?_
    refine g_iload_n X dX9_days_17 (q := 18) rfl 1 rfl ?_
    refine g_iadd X dX9_days_18 (q := 19) rfl ?_
    refine g_sipush X dX9_days_19 (q := 22) rfl li_s999 ?_
    refine g_icmp_le X dX9_days_22 (q := 25) rfl (tgt := 27) (by decide) hs ?_ ?_
    · intro hs
      refine g_iconst X dX9_days_27 (q := 28) rfl li_i0 ?_
      refine g_istore_n X dX9_days_28 (q := 29) rfl (Nat.le_of_ble_eq_true rfl) (lv' := [(2, .int (0 : Int32)), (0, .ref (h 0)), (1, .int x1)]) rfl ?_
      refine g_iconst X dX9_days_29 (q := 30) rfl li_i0 ?_
      refine g_istore_n X dX9_days_30 (q := 31) rfl (Nat.le_of_ble_eq_true rfl) (lv' := [(3, .int (0 : Int32)), (2, .int (0 : Int32)), (0, .ref (h 0)), (1, .int x1)]) rfl ?_
      refine wg_sub [2, 3, 1, 0] rfl (lpW3 (fun (a1 : Int32) (a2 : Int32) (s1 : ST) => WG (KC D cA cL h Z) p l e (rmD 7) st m args below meth c Q 4 s1 31 [(0, .ref (h 0)), (1, .int x1), (2, .int a1), (3, .int a2)] []) (fun rec1 ih1 a1 a2 s1 hs => ?_) _ _ _ _ hs)
      refine g_iload_n X dX9_days_31 (q := 32) rfl 3 rfl ?_
      refine g_iload_n X dX9_days_32 (q := 33) rfl 1 rfl ?_
      refine g_icmp_ge X dX9_days_33 (q := 36) rfl (tgt := 83) (by decide) hs ?_ ?_
      · intro hs
        refine g_iload_n X dX9_days_83 (q := 84) rfl 2 rfl ?_
        exact RI _ 84 _ _ _ (rU1 hs) rfl (rV1 hs) dX9_days_84
      · intro hs
        refine g_aload_n X dX9_days_36 (q := 37) rfl 0 rfl ?_
        refine cg_9_11 X dX9_days_37 (q := 40) rfl sh_0 lf_X9_78 ?_
        refine g_aload_n X dX9_days_40 (q := 41) rfl 0 rfl ?_
        refine cg_9_0 X dX9_days_41 (q := 44) rfl sh_0 lf_X9_12 ?_
        refine g_aload_n X dX9_days_44 (q := 45) rfl 0 rfl ?_
        refine cg_9_2 X dX9_days_45 (q := 48) rfl sh_0 lf_X9_28 ?_
        refine vc_X0_keep_X9 hZ X dX9_days_48 (q := 51) rfl (Nat.le_of_ble_eq_true rfl) (Nat.le_of_ble_eq_true rfl) (Nat.le_of_ble_eq_true rfl) hs (fun s2 hs => ?_)
        refine g_iload_n X dX9_days_51 (q := 52) rfl 2 rfl ?_
        refine g_aload_n X dX9_days_52 (q := 53) rfl 0 rfl ?_
        refine cg_9_9 X dX9_days_53 (q := 56) rfl sh_0 lf_X9_62 ?_
        refine g_aload_n X dX9_days_56 (q := 57) rfl 0 rfl ?_
        refine cg_9_0 X dX9_days_57 (q := 60) rfl sh_0 lf_X9_12 ?_
        refine g_iconst X dX9_days_60 (q := 61) rfl li_i1 ?_
        refine vc_X8_dawn_r_X9 hZ X dX9_days_61 (q := 64) rfl (Nat.le_of_ble_eq_true rfl) (Nat.le_of_ble_eq_true rfl) (Nat.le_of_ble_eq_true rfl) hs (fun y2 hs => ?_)
        refine g_iadd X dX9_days_64 (q := 65) rfl ?_
        refine nmI hs (fun y3 hs => ?_)
        refine g_istore_n X dX9_days_65 (q := 66) rfl (Nat.le_of_ble_eq_true rfl) (lv' := [(2, .int y3), (0, .ref (h 0)), (1, .int x1), (3, .int a2)]) rfl ?_
        refine g_aload_n X dX9_days_66 (q := 67) rfl 1 rfl ?_
        refine cg_9_9 X dX9_days_67 (q := 70) rfl sh_0 lf_X9_62 ?_
        refine g_aload_n X dX9_days_70 (q := 71) rfl 1 rfl ?_
        refine cg_9_0 X dX9_days_71 (q := 74) rfl sh_0 lf_X9_12 ?_
        refine vc_X8_dusk_r_X9 hZ X dX9_days_74 (q := 77) rfl (Nat.le_of_ble_eq_true rfl) (Nat.le_of_ble_eq_true rfl) (Nat.le_of_ble_eq_true rfl) hs (fun s3 hs => ?_)
        refine g_iinc X dX9_days_77 (q := 80) rfl 3 rfl (v := (a2 + (1 : Int32))) (congrArg (HAdd.hAdd a2) li_i1) (Nat.le_of_ble_eq_true rfl) (lv' := [(3, .int (a2 + (1 : Int32))), (2, .int y3), (0, .ref (h 0)), (1, .int x1)]) rfl ?_
        refine g_goto X dX9_days_80 (tgt := 31) (by decide) ?_
        exact wg_sub [2, 3, 1, 0] rfl (ih1 _ _ _ hs)
    · intro hs
      refine g_iconst X dX9_days_25 (q := 26) rfl li_im1 ?_
      exact RI _ 26 _ _ _ (rU1 hs) rfl (rV1 hs) dX9_days_26
theorem dX9_at_0 : decode cX9_at 0 = .ok (.aload_n 0, 1) := by decide +kernel
theorem dX9_at_1 : decode cX9_at 1 = .ok (.getfield 12, 3) := by decide +kernel
theorem dX9_at_4 : decode cX9_at 4 = .ok (.iload_n 1, 1) := by decide +kernel
theorem dX9_at_5 : decode cX9_at 5 = .ok (.invokevirtual 189, 3) := by decide +kernel
theorem dX9_at_8 : decode cX9_at 8 = .ok (.ifCond .ne 6, 3) := by decide +kernel
theorem dX9_at_11 : decode cX9_at 11 = .ok (.bipush (-2), 2) := by decide +kernel
theorem dX9_at_13 : decode cX9_at 13 = .ok (.ireturn, 1) := by decide +kernel
theorem dX9_at_14 : decode cX9_at 14 = .ok (.aload_n 0, 1) := by decide +kernel
theorem dX9_at_15 : decode cX9_at 15 = .ok (.getfield 12, 3) := by decide +kernel
theorem dX9_at_18 : decode cX9_at 18 = .ok (.iload_n 1, 1) := by decide +kernel
theorem dX9_at_19 : decode cX9_at 19 = .ok (.invokevirtual 165, 3) := by decide +kernel
theorem dX9_at_22 : decode cX9_at 22 = .ok (.istore_n 3, 1) := by decide +kernel
theorem dX9_at_23 : decode cX9_at 23 = .ok (.aload_n 0, 1) := by decide +kernel
theorem dX9_at_24 : decode cX9_at 24 = .ok (.getfield 12, 3) := by decide +kernel
theorem dX9_at_27 : decode cX9_at 27 = .ok (.iload_n 1, 1) := by decide +kernel
theorem dX9_at_28 : decode cX9_at 28 = .ok (.invokevirtual 192, 3) := by decide +kernel
theorem dX9_at_31 : decode cX9_at 31 = .ok (.istore 4, 2) := by decide +kernel
theorem dX9_at_33 : decode cX9_at 33 = .ok (.iload_n 2, 1) := by decide +kernel
theorem dX9_at_34 : decode cX9_at 34 = .ok (.tableswitch 234 0 9 #[54, 64, 81, 99, 117, 136, 155, 174, 186, 198], 54) := by decide +kernel
theorem dX9_at_88 : decode cX9_at 88 = .ok (.aload_n 0, 1) := by decide +kernel
theorem dX9_at_89 : decode cX9_at 89 = .ok (.getfield 12, 3) := by decide +kernel
theorem dX9_at_92 : decode cX9_at 92 = .ok (.getfield 195, 3) := by decide +kernel
theorem dX9_at_95 : decode cX9_at 95 = .ok (.iload_n 1, 1) := by decide +kernel
theorem dX9_at_96 : decode cX9_at 96 = .ok (.iaload, 1) := by decide +kernel
theorem dX9_at_97 : decode cX9_at 97 = .ok (.ireturn, 1) := by decide +kernel
theorem dX9_at_98 : decode cX9_at 98 = .ok (.aload_n 0, 1) := by decide +kernel
theorem dX9_at_99 : decode cX9_at 99 = .ok (.getfield 12, 3) := by decide +kernel
theorem dX9_at_102 : decode cX9_at 102 = .ok (.iload_n 1, 1) := by decide +kernel
theorem dX9_at_103 : decode cX9_at 103 = .ok (.invokevirtual 199, 3) := by decide +kernel
theorem dX9_at_106 : decode cX9_at 106 = .ok (.ifCond .eq 7, 3) := by decide +kernel
theorem dX9_at_109 : decode cX9_at 109 = .ok (.iconst 1, 1) := by decide +kernel
theorem dX9_at_110 : decode cX9_at 110 = .ok (.goto 4, 3) := by decide +kernel
theorem dX9_at_113 : decode cX9_at 113 = .ok (.iconst 0, 1) := by decide +kernel
theorem dX9_at_114 : decode cX9_at 114 = .ok (.ireturn, 1) := by decide +kernel
theorem dX9_at_115 : decode cX9_at 115 = .ok (.iload_n 3, 1) := by decide +kernel
theorem dX9_at_116 : decode cX9_at 116 = .ok (.ifCond .eq 15, 3) := by decide +kernel
theorem dX9_at_119 : decode cX9_at 119 = .ok (.aload_n 0, 1) := by decide +kernel
theorem dX9_at_120 : decode cX9_at 120 = .ok (.getfield 12, 3) := by decide +kernel
theorem dX9_at_123 : decode cX9_at 123 = .ok (.getfield 202, 3) := by decide +kernel
theorem dX9_at_126 : decode cX9_at 126 = .ok (.iload_n 1, 1) := by decide +kernel
theorem dX9_at_127 : decode cX9_at 127 = .ok (.iaload, 1) := by decide +kernel
theorem dX9_at_128 : decode cX9_at 128 = .ok (.goto 4, 3) := by decide +kernel
theorem dX9_at_131 : decode cX9_at 131 = .ok (.iconst (-1), 1) := by decide +kernel
theorem dX9_at_132 : decode cX9_at 132 = .ok (.ireturn, 1) := by decide +kernel
theorem dX9_at_133 : decode cX9_at 133 = .ok (.iload_n 3, 1) := by decide +kernel
theorem dX9_at_134 : decode cX9_at 134 = .ok (.ifCond .eq 15, 3) := by decide +kernel
theorem dX9_at_137 : decode cX9_at 137 = .ok (.aload_n 0, 1) := by decide +kernel
theorem dX9_at_138 : decode cX9_at 138 = .ok (.getfield 12, 3) := by decide +kernel
theorem dX9_at_141 : decode cX9_at 141 = .ok (.getfield 205, 3) := by decide +kernel
theorem dX9_at_144 : decode cX9_at 144 = .ok (.iload_n 1, 1) := by decide +kernel
theorem dX9_at_145 : decode cX9_at 145 = .ok (.iaload, 1) := by decide +kernel
theorem dX9_at_146 : decode cX9_at 146 = .ok (.goto 4, 3) := by decide +kernel
theorem dX9_at_149 : decode cX9_at 149 = .ok (.iconst (-1), 1) := by decide +kernel
theorem dX9_at_150 : decode cX9_at 150 = .ok (.ireturn, 1) := by decide +kernel
theorem dX9_at_151 : decode cX9_at 151 = .ok (.iload 4, 2) := by decide +kernel
theorem dX9_at_153 : decode cX9_at 153 = .ok (.ifCond .eq 15, 3) := by decide +kernel
theorem dX9_at_156 : decode cX9_at 156 = .ok (.aload_n 0, 1) := by decide +kernel
theorem dX9_at_157 : decode cX9_at 157 = .ok (.getfield 12, 3) := by decide +kernel
theorem dX9_at_160 : decode cX9_at 160 = .ok (.getfield 208, 3) := by decide +kernel
theorem dX9_at_163 : decode cX9_at 163 = .ok (.iload_n 1, 1) := by decide +kernel
theorem dX9_at_164 : decode cX9_at 164 = .ok (.iaload, 1) := by decide +kernel
theorem dX9_at_165 : decode cX9_at 165 = .ok (.goto 4, 3) := by decide +kernel
theorem dX9_at_168 : decode cX9_at 168 = .ok (.iconst (-1), 1) := by decide +kernel
theorem dX9_at_169 : decode cX9_at 169 = .ok (.ireturn, 1) := by decide +kernel
theorem dX9_at_170 : decode cX9_at 170 = .ok (.iload 4, 2) := by decide +kernel
theorem dX9_at_172 : decode cX9_at 172 = .ok (.ifCond .eq 15, 3) := by decide +kernel
theorem dX9_at_175 : decode cX9_at 175 = .ok (.aload_n 0, 1) := by decide +kernel
theorem dX9_at_176 : decode cX9_at 176 = .ok (.getfield 12, 3) := by decide +kernel
theorem dX9_at_179 : decode cX9_at 179 = .ok (.getfield 211, 3) := by decide +kernel
theorem dX9_at_182 : decode cX9_at 182 = .ok (.iload_n 1, 1) := by decide +kernel
theorem dX9_at_183 : decode cX9_at 183 = .ok (.iaload, 1) := by decide +kernel
theorem dX9_at_184 : decode cX9_at 184 = .ok (.goto 4, 3) := by decide +kernel
theorem dX9_at_187 : decode cX9_at 187 = .ok (.iconst 0, 1) := by decide +kernel
theorem dX9_at_188 : decode cX9_at 188 = .ok (.ireturn, 1) := by decide +kernel
theorem dX9_at_189 : decode cX9_at 189 = .ok (.iload 4, 2) := by decide +kernel
theorem dX9_at_191 : decode cX9_at 191 = .ok (.ifCond .eq 15, 3) := by decide +kernel
theorem dX9_at_194 : decode cX9_at 194 = .ok (.aload_n 0, 1) := by decide +kernel
theorem dX9_at_195 : decode cX9_at 195 = .ok (.getfield 12, 3) := by decide +kernel
theorem dX9_at_198 : decode cX9_at 198 = .ok (.getfield 214, 3) := by decide +kernel
theorem dX9_at_201 : decode cX9_at 201 = .ok (.iload_n 1, 1) := by decide +kernel
theorem dX9_at_202 : decode cX9_at 202 = .ok (.iaload, 1) := by decide +kernel
theorem dX9_at_203 : decode cX9_at 203 = .ok (.goto 4, 3) := by decide +kernel
theorem dX9_at_206 : decode cX9_at 206 = .ok (.iconst (-1), 1) := by decide +kernel
theorem dX9_at_207 : decode cX9_at 207 = .ok (.ireturn, 1) := by decide +kernel
theorem dX9_at_208 : decode cX9_at 208 = .ok (.aload_n 0, 1) := by decide +kernel
theorem dX9_at_209 : decode cX9_at 209 = .ok (.getfield 12, 3) := by decide +kernel
theorem dX9_at_212 : decode cX9_at 212 = .ok (.getfield 217, 3) := by decide +kernel
theorem dX9_at_215 : decode cX9_at 215 = .ok (.iload_n 1, 1) := by decide +kernel
theorem dX9_at_216 : decode cX9_at 216 = .ok (.invokestatic 221, 3) := by decide +kernel
theorem dX9_at_219 : decode cX9_at 219 = .ok (.ireturn, 1) := by decide +kernel
theorem dX9_at_220 : decode cX9_at 220 = .ok (.aload_n 0, 1) := by decide +kernel
theorem dX9_at_221 : decode cX9_at 221 = .ok (.getfield 12, 3) := by decide +kernel
theorem dX9_at_224 : decode cX9_at 224 = .ok (.getfield 225, 3) := by decide +kernel
theorem dX9_at_227 : decode cX9_at 227 = .ok (.iload_n 1, 1) := by decide +kernel
theorem dX9_at_228 : decode cX9_at 228 = .ok (.invokestatic 221, 3) := by decide +kernel
theorem dX9_at_231 : decode cX9_at 231 = .ok (.ireturn, 1) := by decide +kernel
theorem dX9_at_232 : decode cX9_at 232 = .ok (.iload 4, 2) := by decide +kernel
theorem dX9_at_234 : decode cX9_at 234 = .ok (.ifCond .eq 32, 3) := by decide +kernel
theorem dX9_at_237 : decode cX9_at 237 = .ok (.aload_n 0, 1) := by decide +kernel
theorem dX9_at_238 : decode cX9_at 238 = .ok (.getfield 19, 3) := by decide +kernel
theorem dX9_at_241 : decode cX9_at 241 = .ok (.getfield 228, 3) := by decide +kernel
theorem dX9_at_244 : decode cX9_at 244 = .ok (.iconst 1, 1) := by decide +kernel
theorem dX9_at_245 : decode cX9_at 245 = .ok (.aload_n 0, 1) := by decide +kernel
theorem dX9_at_246 : decode cX9_at 246 = .ok (.getfield 12, 3) := by decide +kernel
theorem dX9_at_249 : decode cX9_at 249 = .ok (.aload_n 0, 1) := by decide +kernel
theorem dX9_at_250 : decode cX9_at 250 = .ok (.getfield 12, 3) := by decide +kernel
theorem dX9_at_253 : decode cX9_at 253 = .ok (.getfield 208, 3) := by decide +kernel
theorem dX9_at_256 : decode cX9_at 256 = .ok (.iload_n 1, 1) := by decide +kernel
theorem dX9_at_257 : decode cX9_at 257 = .ok (.iaload, 1) := by decide +kernel
theorem dX9_at_258 : decode cX9_at 258 = .ok (.iload_n 1, 1) := by decide +kernel
theorem dX9_at_259 : decode cX9_at 259 = .ok (.iconst 0, 1) := by decide +kernel
theorem dX9_at_260 : decode cX9_at 260 = .ok (.invokevirtual 232, 3) := by decide +kernel
theorem dX9_at_263 : decode cX9_at 263 = .ok (.goto 4, 3) := by decide +kernel
theorem dX9_at_266 : decode cX9_at 266 = .ok (.iconst 0, 1) := by decide +kernel
theorem dX9_at_267 : decode cX9_at 267 = .ok (.ireturn, 1) := by decide +kernel
theorem dX9_at_268 : decode cX9_at 268 = .ok (.bipush (-2), 2) := by decide +kernel
theorem dX9_at_270 : decode cX9_at 270 = .ok (.ireturn, 1) := by decide +kernel
theorem wX1_hasHedge_X9 : Cond.methodLinkNest RX9 199 yX1_hasHedge "StormSeeds" ∈ NW := nw_of 1084 (by decide +kernel) rfl
theorem vc_X1_hasHedge_X9 {p : Program} {l : Launch} {e : Env} {st : State} {m : MethodId} {args : Array Value} {below : List Frame} {meth : Method} {c : Code} {Q : State → Prop} {nL : Nat} {cc : ByteArray} {s : ST} {pc q : Nat} {lv : List (Nat × Value)} {rest : List Value} {D : va_G} {cA cL : ClassId} {h : Nat → Nat} {Z : State → Heap → Prop} {sa : Nat → Nat} (hZ : ZK h Z sa) {d0 : Nat} (X : Cx (KC D cA cL h Z) p st m args meth c cc nL RX9) {b0 : Nat} {x1 : Int32} (d : decode cc pc = .ok (.invokevirtual 199, 3)) (hq : pc + 3 = q) (hb0 : isK 1 b0) (hd1 : 2 + 1 ≤ d0) (hd2 : 8 + (2 + 11) + 100 * 2 ≤ 100 * d0) (hr : (rest.map fun v => v.category).sum ≤ 8) {B : Type} {f : Int32 → B} {r : B} (hs : Lt (C_X1_hasHedge s b0 x1) f = r) (k : ∀ y, f y = r → WG (KC D cA cL h Z) p l e (rmD d0) st m args below meth c Q nL s q lv (.int y :: rest)) : WG (KC D cA cL h Z) p l e (rmD d0) st m args below meth c Q nL s pc lv (.int x1 :: .ref (h b0) :: rest) := by
  exact cVN_I (K := KC D cA cL h Z) X b0 (n := 1) (k_X1_hasHedge hZ l D cA cL s b0 x1 hb0) (gt_c (gt_of 1067 (by decide +kernel) rfl) gt_t) (hZ.1 st st.heap X.2.2.2 _ wX1_hasHedge_X9) (gt_of 197 (by decide +kernel) rfl) (gt_of 1066 (by decide +kernel) rfl) (gt_of 76 (by decide +kernel) rfl) ⟨hd1, hd2⟩ ⟨by decide, by decide, by decide +kernel⟩ (As := [.int x1]) rfl hr (hb0).1 (fs := cF1 h b0 (s.1 b0) (s.2 b0)) (GC_1 (cA := cA) (cL := cL) hb0 _ _) rfl rfl d hq (k _ hs)
theorem wX1_hasStorm_X9 : Cond.methodLinkNest RX9 192 yX1_hasStorm "StormSeeds" ∈ NW := nw_of 1083 (by decide +kernel) rfl
theorem vc_X1_hasStorm_X9 {p : Program} {l : Launch} {e : Env} {st : State} {m : MethodId} {args : Array Value} {below : List Frame} {meth : Method} {c : Code} {Q : State → Prop} {nL : Nat} {cc : ByteArray} {s : ST} {pc q : Nat} {lv : List (Nat × Value)} {rest : List Value} {D : va_G} {cA cL : ClassId} {h : Nat → Nat} {Z : State → Heap → Prop} {sa : Nat → Nat} (hZ : ZK h Z sa) {d0 : Nat} (X : Cx (KC D cA cL h Z) p st m args meth c cc nL RX9) {b0 : Nat} {x1 : Int32} (d : decode cc pc = .ok (.invokevirtual 192, 3)) (hq : pc + 3 = q) (hb0 : isK 1 b0) (hd1 : 2 + 1 ≤ d0) (hd2 : 8 + (2 + 11) + 100 * 2 ≤ 100 * d0) (hr : (rest.map fun v => v.category).sum ≤ 8) {B : Type} {f : Int32 → B} {r : B} (hs : Lt (C_X1_hasStorm s b0 x1) f = r) (k : ∀ y, f y = r → WG (KC D cA cL h Z) p l e (rmD d0) st m args below meth c Q nL s q lv (.int y :: rest)) : WG (KC D cA cL h Z) p l e (rmD d0) st m args below meth c Q nL s pc lv (.int x1 :: .ref (h b0) :: rest) := by
  exact cVN_I (K := KC D cA cL h Z) X b0 (n := 1) (k_X1_hasStorm hZ l D cA cL s b0 x1 hb0) (gt_c (gt_of 1032 (by decide +kernel) rfl) gt_t) (hZ.1 st st.heap X.2.2.2 _ wX1_hasStorm_X9) (gt_of 197 (by decide +kernel) rfl) (gt_of 1031 (by decide +kernel) rfl) (gt_of 68 (by decide +kernel) rfl) ⟨hd1, hd2⟩ ⟨by decide, by decide, by decide +kernel⟩ (As := [.int x1]) rfl hr (hb0).1 (fs := cF1 h b0 (s.1 b0) (s.2 b0)) (GC_1 (cA := cA) (cL := cL) hb0 _ _) rfl rfl d hq (k _ hs)
theorem wX1_isCell_X9 : Cond.methodLinkNest RX9 189 yX1_isCell "StormSeeds" ∈ NW := nw_of 1082 (by decide +kernel) rfl
theorem vc_X1_isCell_X9 {p : Program} {l : Launch} {e : Env} {st : State} {m : MethodId} {args : Array Value} {below : List Frame} {meth : Method} {c : Code} {Q : State → Prop} {nL : Nat} {cc : ByteArray} {s : ST} {pc q : Nat} {lv : List (Nat × Value)} {rest : List Value} {D : va_G} {cA cL : ClassId} {h : Nat → Nat} {Z : State → Heap → Prop} {sa : Nat → Nat} (hZ : ZK h Z sa) {d0 : Nat} (X : Cx (KC D cA cL h Z) p st m args meth c cc nL RX9) {b0 : Nat} {x1 : Int32} (d : decode cc pc = .ok (.invokevirtual 189, 3)) (hq : pc + 3 = q) (hb0 : isK 1 b0) (hd1 : 1 + 1 ≤ d0) (hd2 : 8 + (2 + 11) + 100 * 1 ≤ 100 * d0) (hr : (rest.map fun v => v.category).sum ≤ 8) {B : Type} {f : Int32 → B} {r : B} (hs : Lt (C_X1_isCell s b0 x1) f = r) (k : ∀ y, f y = r → WG (KC D cA cL h Z) p l e (rmD d0) st m args below meth c Q nL s q lv (.int y :: rest)) : WG (KC D cA cL h Z) p l e (rmD d0) st m args below meth c Q nL s pc lv (.int x1 :: .ref (h b0) :: rest) := by
  exact cVN_I (K := KC D cA cL h Z) X b0 (n := 1) (k_X1_isCell hZ l D cA cL s b0 x1 hb0) (gt_c (gt_of 623 (by decide +kernel) rfl) gt_t) (hZ.1 st st.heap X.2.2.2 _ wX1_isCell_X9) (gt_of 197 (by decide +kernel) rfl) (gt_of 622 (by decide +kernel) rfl) (gt_of 8 (by decide +kernel) rfl) ⟨hd1, hd2⟩ ⟨by decide, by decide, by decide +kernel⟩ (As := [.int x1]) rfl hr (hb0).1 (fs := cF1 h b0 (s.1 b0) (s.2 b0)) (GC_1 (cA := cA) (cL := cL) hb0 _ _) rfl rfl d hq (k _ hs)
theorem wX2_ask_X9 : Cond.methodLinkNest RX9 232 yX2_ask "StormSeeds" ∈ NW := nw_of 1086 (by decide +kernel) rfl
theorem vc_X2_ask_X9 {p : Program} {l : Launch} {e : Env} {st : State} {m : MethodId} {args : Array Value} {below : List Frame} {meth : Method} {c : Code} {Q : State → Prop} {nL : Nat} {cc : ByteArray} {s : ST} {pc q : Nat} {lv : List (Nat × Value)} {rest : List Value} {D : va_G} {cA cL : ClassId} {h : Nat → Nat} {Z : State → Heap → Prop} {sa : Nat → Nat} (hZ : ZK h Z sa) {d0 : Nat} (X : Cx (KC D cA cL h Z) p st m args meth c cc nL RX9) {x1 : Int32} {x2 : Nat} {x3 : Int32} {x4 : Int32} {x5 : Int32} (d : decode cc pc = .ok (.invokevirtual 232, 3)) (hq : pc + 3 = q) (hx2 : isK 1 x2) (hd1 : 4 + 1 ≤ d0) (hd2 : 8 + (10 + 11) + 100 * 4 ≤ 100 * d0) (hr : (rest.map fun v => v.category).sum ≤ 8) {B : Type} {f : Int32 × ST → Option B} {r : B} (hs : Bd (C_X2_ask s x1 x2 x3 x4 x5) f = some r) (k : ∀ y, f y = some r → WG (KC D cA cL h Z) p l e (rmD d0) st m args below meth c Q nL y.2 q lv (.int y.1 :: rest)) : WG (KC D cA cL h Z) p l e (rmD d0) st m args below meth c Q nL s pc lv (.int x5 :: .int x4 :: .int x3 :: .ref (h x2) :: .int x1 :: .ref (h 13) :: rest) := by
  obtain ⟨v, hv, hs⟩ := Bd_e hs
  exact cVN_I (K := KC D cA cL h Z) X 13 (n := 5) (k_X2_ask hZ l D cA cL s x1 x2 x3 x4 x5 hx2 hv) (gt_c (gt_of 999 (by decide +kernel) rfl) gt_t) (hZ.1 st st.heap X.2.2.2 _ wX2_ask_X9) (gt_of 201 (by decide +kernel) rfl) (gt_of 998 (by decide +kernel) rfl) (gt_of 64 (by decide +kernel) rfl) ⟨hd1, hd2⟩ ⟨by decide, by decide, by decide +kernel⟩ (As := [.int x1, .ref (h x2), .int x3, .int x4, .int x5]) rfl hr (sh_13).1 (fs := cF2 h 13 (s.1 13) (s.2 13)) (GC_2 (cA := cA) (cL := cL) sh_13 _ _) rfl rfl d hq (k _ hs)
theorem wX9_beside_X9 : GoodIn GT (va_wsS RX9 221 yX9_beside (.code yX9_beside cX9_beside 5 (some .int) :: GT)) := gt_c (gt_of 1085 (by decide +kernel) rfl) (gt_c (gt_of 1006 (by decide +kernel) rfl) (gt_c (gt_of 196 (by decide +kernel) rfl) (gt_c (gt_of 1007 (by decide +kernel) rfl) gt_t)))
theorem vc_X9_beside_X9 {p : Program} {l : Launch} {e : Env} {st : State} {m : MethodId} {args : Array Value} {below : List Frame} {meth : Method} {c : Code} {Q : State → Prop} {nL : Nat} {cc : ByteArray} {s : ST} {pc q : Nat} {lv : List (Nat × Value)} {rest : List Value} {D : va_G} {cA cL : ClassId} {h : Nat → Nat} {Z : State → Heap → Prop} {sa : Nat → Nat} (hZ : ZK h Z sa) {d0 : Nat} (X : Cx (KC D cA cL h Z) p st m args meth c cc nL RX9) {x1 : Int64} {x2 : Int32} (d : decode cc pc = .ok (.invokestatic 221, 3)) (hq : pc + 3 = q) (hd1 : 2 + 1 ≤ d0) (hd2 : 8 + (5 + 11) + 100 * 2 ≤ 100 * d0) (hr : (rest.map fun v => v.category).sum ≤ 8) {B : Type} {f : Int32 → B} {r : B} (hs : Lt (C_X9_beside s x1 x2) f = r) (k : ∀ y, f y = r → WG (KC D cA cL h Z) p l e (rmD d0) st m args below meth c Q nL s q lv (.int y :: rest)) : WG (KC D cA cL h Z) p l e (rmD d0) st m args below meth c Q nL s pc lv (.int x2 :: .long x1 :: rest) := by
  exact cS_I (K := KC D cA cL h Z) X (n := 2) (k_X9_beside hZ l D cA cL s x1 x2) wX9_beside_X9 ⟨hd1, hd2⟩ ⟨by decide, by decide, by decide +kernel⟩ (As := [.long x1, .int x2]) rfl hr rfl d hq (k _ hs)
def C_X9_at (s : ST) (x1 : Int32) (x2 : Int32) : Option (Int32 × ST) := Lt (C_X1_isCell s 1 x1) fun y1 => if y1 = 0 then (some ((-2 : Int32), s)) else (Lt (C_X1_hasSeed s 1 x1) fun y2 => Lt (C_X1_hasStorm s 1 x1) fun y3 => if x2 = (0 : Int32) then (Gl s 2 64 x1 fun y4 => some (y4, s)) else (if x2 = (1 : Int32) then (Lt (C_X1_hasHedge s 1 x1) fun y5 => if y5 = 0 then (some ((0 : Int32), s)) else (some ((1 : Int32), s))) else (if x2 = (2 : Int32) then (if y2 = 0 then (some ((-1 : Int32), s)) else (Gl s 3 64 x1 fun y6 => some (y6, s))) else (if x2 = (3 : Int32) then (if y2 = 0 then (some ((-1 : Int32), s)) else (Gl s 4 64 x1 fun y7 => some (y7, s))) else (if x2 = (4 : Int32) then (if y3 = 0 then (some ((-1 : Int32), s)) else (Gl s 5 64 x1 fun y8 => some (y8, s))) else (if x2 = (5 : Int32) then (if y3 = 0 then (some ((0 : Int32), s)) else (Gl s 6 64 x1 fun y9 => some (y9, s))) else (if x2 = (6 : Int32) then (if y3 = 0 then (some ((-1 : Int32), s)) else (Gl s 7 64 x1 fun y10 => some (y10, s))) else (if x2 = (7 : Int32) then (Lt (C_X9_beside s (s.2 1 9) x1) fun y11 => some (y11, s)) else (if x2 = (8 : Int32) then (Lt (C_X9_beside s (s.2 1 7) x1) fun y12 => some (y12, s)) else (if x2 = (9 : Int32) then (if y3 = 0 then (some ((0 : Int32), s)) else (Gl s 5 64 x1 fun y13 => Bd (C_X2_ask s (1 : Int32) 1 y13 x1 (0 : Int32)) fun y14 => some (y14.1, y14.2))) else (some ((-2 : Int32), s))))))))))))
set_option maxRecDepth 100000 in
set_option maxHeartbeats 4000000 in
theorem k_X9_at {h : Nat → Nat} {Z : State → Heap → Prop} {sa : Nat → Nat} (hZ : ZK h Z sa) (l : Launch) (D : va_G) (cA cL : ClassId) (s : ST) (x1 : Int32) (x2 : Int32) {o : Int32 × ST} (hs : C_X9_at s x1 x2 = some o) : MI l (KC D cA cL h Z) 5 yX9_at cX9_at 5 (some .int) s [.ref (h 0), .int x1, .int x2] o.1 o.2 := by
  refine met_i (by decide) (Nat.le_of_ble_eq_true rfl) ?_
  intro p e st m args below meth c Q X RI
  unfold C_X9_at at hs
  refine g_aload_n X dX9_at_0 (q := 1) rfl 0 rfl ?_
  refine cg_9_0 X dX9_at_1 (q := 4) rfl sh_0 lf_X9_12 ?_
  refine g_iload_n X dX9_at_4 (q := 5) rfl 1 rfl ?_
  refine vc_X1_isCell_X9 hZ X dX9_at_5 (q := 8) rfl sh_1 (Nat.le_of_ble_eq_true rfl) (Nat.le_of_ble_eq_true rfl) (Nat.le_of_ble_eq_true rfl) hs (fun y1 hs => ?_)
  refine g_if_ne X dX9_at_8 (q := 11) rfl (tgt := 14) (by decide) hs ?_ ?_
  · intro hs
    refine g_aload_n X dX9_at_14 (q := 15) rfl 0 rfl ?_
    refine cg_9_0 X dX9_at_15 (q := 18) rfl sh_0 lf_X9_12 ?_
    refine g_iload_n X dX9_at_18 (q := 19) rfl 1 rfl ?_
    refine vc_X1_hasSeed_X9 hZ X dX9_at_19 (q := 22) rfl sh_1 (Nat.le_of_ble_eq_true rfl) (Nat.le_of_ble_eq_true rfl) (Nat.le_of_ble_eq_true rfl) hs (fun y2 hs => ?_)
    refine g_istore_n X dX9_at_22 (q := 23) rfl (Nat.le_of_ble_eq_true rfl) (lv' := [(3, .int y2), (0, .ref (h 0)), (1, .int x1), (2, .int x2)]) rfl ?_
    refine g_aload_n X dX9_at_23 (q := 24) rfl 1 rfl ?_
    refine cg_9_0 X dX9_at_24 (q := 27) rfl sh_0 lf_X9_12 ?_
    refine g_iload_n X dX9_at_27 (q := 28) rfl 2 rfl ?_
    refine vc_X1_hasStorm_X9 hZ X dX9_at_28 (q := 31) rfl sh_1 (Nat.le_of_ble_eq_true rfl) (Nat.le_of_ble_eq_true rfl) (Nat.le_of_ble_eq_true rfl) hs (fun y3 hs => ?_)
    refine g_istore X dX9_at_31 (q := 33) rfl (Nat.le_of_ble_eq_true rfl) (lv' := [(4, .int y3), (3, .int y2), (0, .ref (h 0)), (1, .int x1), (2, .int x2)]) rfl ?_
    refine g_iload_n X dX9_at_33 (q := 34) rfl 4 rfl ?_
    refine g_tsw X dX9_at_34 (z := (0 : Int32)) (tgt := 88) rfl (by decide) (by decide) (by decide) hs ?_ (fun hn0 hs => ?_)
    · intro hs
      refine g_aload_n X dX9_at_88 (q := 89) rfl 2 rfl ?_
      refine cg_9_0 X dX9_at_89 (q := 92) rfl sh_0 lf_X9_12 ?_
      refine cgN_1_10 hZ X dX9_at_92 (q := 95) rfl sh_1 lf_X9_195 ?_
      refine g_iload_n X dX9_at_95 (q := 96) rfl 3 rfl ?_
      refine ca_ld X dX9_at_96 (q := 97) rfl 2 sh_2 rfl hs (fun y4 hs => ?_)
      exact RI _ 97 _ _ _ (rU1 hs) rfl (rV1 hs) dX9_at_97
    refine g_tsw X dX9_at_34 (z := (1 : Int32)) (tgt := 98) rfl (by decide) (by decide) (by decide) hs ?_ (fun hn1 hs => ?_)
    · intro hs
      refine g_aload_n X dX9_at_98 (q := 99) rfl 2 rfl ?_
      refine cg_9_0 X dX9_at_99 (q := 102) rfl sh_0 lf_X9_12 ?_
      refine g_iload_n X dX9_at_102 (q := 103) rfl 3 rfl ?_
      refine vc_X1_hasHedge_X9 hZ X dX9_at_103 (q := 106) rfl sh_1 (Nat.le_of_ble_eq_true rfl) (Nat.le_of_ble_eq_true rfl) (Nat.le_of_ble_eq_true rfl) hs (fun y5 hs => ?_)
      refine g_if_eq X dX9_at_106 (q := 109) rfl (tgt := 113) (by decide) hs ?_ ?_
      · intro hs
        refine g_iconst X dX9_at_113 (q := 114) rfl li_i0 ?_
        exact RI _ 114 _ _ _ (rU1 hs) rfl (rV1 hs) dX9_at_114
      · intro hs
        refine g_iconst X dX9_at_109 (q := 110) rfl li_i1 ?_
        refine g_goto X dX9_at_110 (tgt := 114) (by decide) ?_
        exact RI _ 114 _ _ _ (rU1 hs) rfl (rV1 hs) dX9_at_114
    refine g_tsw X dX9_at_34 (z := (2 : Int32)) (tgt := 115) rfl (by decide) (by decide) (by decide) hs ?_ (fun hn2 hs => ?_)
    · intro hs
      refine g_iload_n X dX9_at_115 (q := 116) rfl 1 rfl ?_
      refine g_if_eq X dX9_at_116 (q := 119) rfl (tgt := 131) (by decide) hs ?_ ?_
      · intro hs
        refine g_iconst X dX9_at_131 (q := 132) rfl li_im1 ?_
        exact RI _ 132 _ _ _ (rU1 hs) rfl (rV1 hs) dX9_at_132
      · intro hs
        refine g_aload_n X dX9_at_119 (q := 120) rfl 2 rfl ?_
        refine cg_9_0 X dX9_at_120 (q := 123) rfl sh_0 lf_X9_12 ?_
        refine cgN_1_11 hZ X dX9_at_123 (q := 126) rfl sh_1 lf_X9_202 ?_
        refine g_iload_n X dX9_at_126 (q := 127) rfl 3 rfl ?_
        refine ca_ld X dX9_at_127 (q := 128) rfl 3 sh_3 rfl hs (fun y6 hs => ?_)
        refine g_goto X dX9_at_128 (tgt := 132) (by decide) ?_
        exact RI _ 132 _ _ _ (rU1 hs) rfl (rV1 hs) dX9_at_132
    refine g_tsw X dX9_at_34 (z := (3 : Int32)) (tgt := 133) rfl (by decide) (by decide) (by decide) hs ?_ (fun hn3 hs => ?_)
    · intro hs
      refine g_iload_n X dX9_at_133 (q := 134) rfl 1 rfl ?_
      refine g_if_eq X dX9_at_134 (q := 137) rfl (tgt := 149) (by decide) hs ?_ ?_
      · intro hs
        refine g_iconst X dX9_at_149 (q := 150) rfl li_im1 ?_
        exact RI _ 150 _ _ _ (rU1 hs) rfl (rV1 hs) dX9_at_150
      · intro hs
        refine g_aload_n X dX9_at_137 (q := 138) rfl 2 rfl ?_
        refine cg_9_0 X dX9_at_138 (q := 141) rfl sh_0 lf_X9_12 ?_
        refine cgN_1_12 hZ X dX9_at_141 (q := 144) rfl sh_1 lf_X9_205 ?_
        refine g_iload_n X dX9_at_144 (q := 145) rfl 3 rfl ?_
        refine ca_ld X dX9_at_145 (q := 146) rfl 4 sh_4 rfl hs (fun y7 hs => ?_)
        refine g_goto X dX9_at_146 (tgt := 150) (by decide) ?_
        exact RI _ 150 _ _ _ (rU1 hs) rfl (rV1 hs) dX9_at_150
    refine g_tsw X dX9_at_34 (z := (4 : Int32)) (tgt := 151) rfl (by decide) (by decide) (by decide) hs ?_ (fun hn4 hs => ?_)
    · intro hs
      refine g_iload X dX9_at_151 (q := 153) rfl 0 rfl ?_
      refine g_if_eq X dX9_at_153 (q := 156) rfl (tgt := 168) (by decide) hs ?_ ?_
      · intro hs
        refine g_iconst X dX9_at_168 (q := 169) rfl li_im1 ?_
        exact RI _ 169 _ _ _ (rU1 hs) rfl (rV1 hs) dX9_at_169
      · intro hs
        refine g_aload_n X dX9_at_156 (q := 157) rfl 2 rfl ?_
        refine cg_9_0 X dX9_at_157 (q := 160) rfl sh_0 lf_X9_12 ?_
        refine cgN_1_13 hZ X dX9_at_160 (q := 163) rfl sh_1 lf_X9_208 ?_
        refine g_iload_n X dX9_at_163 (q := 164) rfl 3 rfl ?_
        refine ca_ld X dX9_at_164 (q := 165) rfl 5 sh_5 rfl hs (fun y8 hs => ?_)
        refine g_goto X dX9_at_165 (tgt := 169) (by decide) ?_
        exact RI _ 169 _ _ _ (rU1 hs) rfl (rV1 hs) dX9_at_169
    refine g_tsw X dX9_at_34 (z := (5 : Int32)) (tgt := 170) rfl (by decide) (by decide) (by decide) hs ?_ (fun hn5 hs => ?_)
    · intro hs
      refine g_iload X dX9_at_170 (q := 172) rfl 0 rfl ?_
      refine g_if_eq X dX9_at_172 (q := 175) rfl (tgt := 187) (by decide) hs ?_ ?_
      · intro hs
        refine g_iconst X dX9_at_187 (q := 188) rfl li_i0 ?_
        exact RI _ 188 _ _ _ (rU1 hs) rfl (rV1 hs) dX9_at_188
      · intro hs
        refine g_aload_n X dX9_at_175 (q := 176) rfl 2 rfl ?_
        refine cg_9_0 X dX9_at_176 (q := 179) rfl sh_0 lf_X9_12 ?_
        refine cgN_1_14 hZ X dX9_at_179 (q := 182) rfl sh_1 lf_X9_211 ?_
        refine g_iload_n X dX9_at_182 (q := 183) rfl 3 rfl ?_
        refine ca_ld X dX9_at_183 (q := 184) rfl 6 sh_6 rfl hs (fun y9 hs => ?_)
        refine g_goto X dX9_at_184 (tgt := 188) (by decide) ?_
        exact RI _ 188 _ _ _ (rU1 hs) rfl (rV1 hs) dX9_at_188
    refine g_tsw X dX9_at_34 (z := (6 : Int32)) (tgt := 189) rfl (by decide) (by decide) (by decide) hs ?_ (fun hn6 hs => ?_)
    · intro hs
      refine g_iload X dX9_at_189 (q := 191) rfl 0 rfl ?_
      refine g_if_eq X dX9_at_191 (q := 194) rfl (tgt := 206) (by decide) hs ?_ ?_
      · intro hs
        refine g_iconst X dX9_at_206 (q := 207) rfl li_im1 ?_
        exact RI _ 207 _ _ _ (rU1 hs) rfl (rV1 hs) dX9_at_207
      · intro hs
        refine g_aload_n X dX9_at_194 (q := 195) rfl 2 rfl ?_
        refine cg_9_0 X dX9_at_195 (q := 198) rfl sh_0 lf_X9_12 ?_
        refine cgN_1_15 hZ X dX9_at_198 (q := 201) rfl sh_1 lf_X9_214 ?_
        refine g_iload_n X dX9_at_201 (q := 202) rfl 3 rfl ?_
        refine ca_ld X dX9_at_202 (q := 203) rfl 7 sh_7 rfl hs (fun y10 hs => ?_)
        refine g_goto X dX9_at_203 (tgt := 207) (by decide) ?_
        exact RI _ 207 _ _ _ (rU1 hs) rfl (rV1 hs) dX9_at_207
    refine g_tsw X dX9_at_34 (z := (7 : Int32)) (tgt := 208) rfl (by decide) (by decide) (by decide) hs ?_ (fun hn7 hs => ?_)
    · intro hs
      refine g_aload_n X dX9_at_208 (q := 209) rfl 2 rfl ?_
      refine cg_9_0 X dX9_at_209 (q := 212) rfl sh_0 lf_X9_12 ?_
      refine cgN_1_9 hZ X dX9_at_212 (q := 215) rfl sh_1 lf_X9_217 ?_
      refine g_iload_n X dX9_at_215 (q := 216) rfl 3 rfl ?_
      refine vc_X9_beside_X9 hZ X dX9_at_216 (q := 219) rfl (Nat.le_of_ble_eq_true rfl) (Nat.le_of_ble_eq_true rfl) (Nat.le_of_ble_eq_true rfl) hs (fun y11 hs => ?_)
      exact RI _ 219 _ _ _ (rU1 hs) rfl (rV1 hs) dX9_at_219
    refine g_tsw X dX9_at_34 (z := (8 : Int32)) (tgt := 220) rfl (by decide) (by decide) (by decide) hs ?_ (fun hn8 hs => ?_)
    · intro hs
      refine g_aload_n X dX9_at_220 (q := 221) rfl 2 rfl ?_
      refine cg_9_0 X dX9_at_221 (q := 224) rfl sh_0 lf_X9_12 ?_
      refine cgN_1_7 hZ X dX9_at_224 (q := 227) rfl sh_1 lf_X9_225 ?_
      refine g_iload_n X dX9_at_227 (q := 228) rfl 3 rfl ?_
      refine vc_X9_beside_X9 hZ X dX9_at_228 (q := 231) rfl (Nat.le_of_ble_eq_true rfl) (Nat.le_of_ble_eq_true rfl) (Nat.le_of_ble_eq_true rfl) hs (fun y12 hs => ?_)
      exact RI _ 231 _ _ _ (rU1 hs) rfl (rV1 hs) dX9_at_231
    refine g_tsw X dX9_at_34 (z := (9 : Int32)) (tgt := 232) rfl (by decide) (by decide) (by decide) hs ?_ (fun hn9 hs => ?_)
    · intro hs
      refine g_iload X dX9_at_232 (q := 234) rfl 0 rfl ?_
      refine g_if_eq X dX9_at_234 (q := 237) rfl (tgt := 266) (by decide) hs ?_ ?_
      · intro hs
        refine g_iconst X dX9_at_266 (q := 267) rfl li_i0 ?_
        exact RI _ 267 _ _ _ (rU1 hs) rfl (rV1 hs) dX9_at_267
      · intro hs
        refine g_aload_n X dX9_at_237 (q := 238) rfl 2 rfl ?_
        refine cg_9_1 X dX9_at_238 (q := 241) rfl sh_0 lf_X9_19 ?_
        refine cgN_7_2 hZ X dX9_at_241 (q := 244) rfl sh_8 lf_X9_228 ?_
        refine g_iconst X dX9_at_244 (q := 245) rfl li_i1 ?_
        refine g_aload_n X dX9_at_245 (q := 246) rfl 2 rfl ?_
        refine cg_9_0 X dX9_at_246 (q := 249) rfl sh_0 lf_X9_12 ?_
        refine g_aload_n X dX9_at_249 (q := 250) rfl 2 rfl ?_
        refine cg_9_0 X dX9_at_250 (q := 253) rfl sh_0 lf_X9_12 ?_
        refine cgN_1_13 hZ X dX9_at_253 (q := 256) rfl sh_1 lf_X9_208 ?_
        refine g_iload_n X dX9_at_256 (q := 257) rfl 3 rfl ?_
        refine ca_ld X dX9_at_257 (q := 258) rfl 5 sh_5 rfl hs (fun y13 hs => ?_)
        refine g_iload_n X dX9_at_258 (q := 259) rfl 3 rfl ?_
        refine g_iconst X dX9_at_259 (q := 260) rfl li_i0 ?_
        refine vc_X2_ask_X9 hZ X dX9_at_260 (q := 263) rfl sh_1 (Nat.le_of_ble_eq_true rfl) (Nat.le_of_ble_eq_true rfl) (Nat.le_of_ble_eq_true rfl) hs (fun y14 hs => ?_)
        refine g_goto X dX9_at_263 (tgt := 267) (by decide) ?_
        exact RI _ 267 _ _ _ (rU1 hs) rfl (rV1 hs) dX9_at_267
    refine g_tswO X dX9_at_34 (tgt := 268) (by have t0 := tsw_ne hn0 (k := 0) (by decide); have t1 := tsw_ne hn1 (k := 1) (by decide); have t2 := tsw_ne hn2 (k := 2) (by decide); have t3 := tsw_ne hn3 (k := 3) (by decide); have t4 := tsw_ne hn4 (k := 4) (by decide); have t5 := tsw_ne hn5 (k := 5) (by decide); have t6 := tsw_ne hn6 (k := 6) (by decide); have t7 := tsw_ne hn7 (k := 7) (by decide); have t8 := tsw_ne hn8 (k := 8) (by decide); have t9 := tsw_ne hn9 (k := 9) (by decide); omega) (by decide) ?_
    refine g_bipush X dX9_at_268 (q := 270) rfl li_bm2 ?_
    exact RI _ 270 _ _ _ (rU1 hs) rfl (rV1 hs) dX9_at_270
  · intro hs
    refine g_bipush X dX9_at_11 (q := 13) rfl li_bm2 ?_
    exact RI _ 13 _ _ _ (rU1 hs) rfl (rV1 hs) dX9_at_13
theorem dX9_count_0 : decode cX9_count 0 = .ok (.iconst 0, 1) := by decide +kernel
theorem dX9_count_1 : decode cX9_count 1 = .ok (.istore 4, 2) := by decide +kernel
theorem dX9_count_3 : decode cX9_count 3 = .ok (.iconst 0, 1) := by decide +kernel
theorem dX9_count_4 : decode cX9_count 4 = .ok (.istore 5, 2) := by decide +kernel
theorem dX9_count_6 : decode cX9_count 6 = .ok (.iload 5, 2) := by decide +kernel
theorem dX9_count_8 : decode cX9_count 8 = .ok (.bipush 64, 2) := by decide +kernel
theorem dX9_count_10 : decode cX9_count 10 = .ok (.if_icmp .ge 36, 3) := by decide +kernel
theorem dX9_count_13 : decode cX9_count 13 = .ok (.iload 5, 2) := by decide +kernel
theorem dX9_count_15 : decode cX9_count 15 = .ok (.aload_n 2, 1) := by decide +kernel
theorem dX9_count_16 : decode cX9_count 16 = .ok (.arraylength, 1) := by decide +kernel
theorem dX9_count_17 : decode cX9_count 17 = .ok (.if_icmp .ge 29, 3) := by decide +kernel
theorem dX9_count_20 : decode cX9_count 20 = .ok (.lload_n 0, 1) := by decide +kernel
theorem dX9_count_21 : decode cX9_count 21 = .ok (.iload 5, 2) := by decide +kernel
theorem dX9_count_23 : decode cX9_count 23 = .ok (.invokestatic 299, 3) := by decide +kernel
theorem dX9_count_26 : decode cX9_count 26 = .ok (.ifCond .eq 14, 3) := by decide +kernel
theorem dX9_count_29 : decode cX9_count 29 = .ok (.aload_n 2, 1) := by decide +kernel
theorem dX9_count_30 : decode cX9_count 30 = .ok (.iload 5, 2) := by decide +kernel
theorem dX9_count_32 : decode cX9_count 32 = .ok (.iaload, 1) := by decide +kernel
theorem dX9_count_33 : decode cX9_count 33 = .ok (.iload_n 3, 1) := by decide +kernel
theorem dX9_count_34 : decode cX9_count 34 = .ok (.if_icmp .ne 6, 3) := by decide +kernel
theorem dX9_count_37 : decode cX9_count 37 = .ok (.iinc 4 1, 3) := by decide +kernel
theorem dX9_count_40 : decode cX9_count 40 = .ok (.iinc 5 1, 3) := by decide +kernel
theorem dX9_count_43 : decode cX9_count 43 = .ok (.goto (-37), 3) := by decide +kernel
theorem dX9_count_46 : decode cX9_count 46 = .ok (.iload 4, 2) := by decide +kernel
theorem dX9_count_48 : decode cX9_count 48 = .ok (.ireturn, 1) := by decide +kernel
theorem wX9_isIn_X9 : GoodIn GT (va_wsS RX9 299 yX9_isIn (.code yX9_isIn cX9_isIn 3 (some .boolean) :: GT)) := gt_c (gt_of 1095 (by decide +kernel) rfl) (gt_c (gt_of 633 (by decide +kernel) rfl) (gt_c (gt_of 196 (by decide +kernel) rfl) (gt_c (gt_of 634 (by decide +kernel) rfl) gt_t)))
theorem vc_X9_isIn_X9 {p : Program} {l : Launch} {e : Env} {st : State} {m : MethodId} {args : Array Value} {below : List Frame} {meth : Method} {c : Code} {Q : State → Prop} {nL : Nat} {cc : ByteArray} {s : ST} {pc q : Nat} {lv : List (Nat × Value)} {rest : List Value} {D : va_G} {cA cL : ClassId} {h : Nat → Nat} {Z : State → Heap → Prop} {sa : Nat → Nat} (hZ : ZK h Z sa) {d0 : Nat} (X : Cx (KC D cA cL h Z) p st m args meth c cc nL RX9) {x1 : Int64} {x2 : Int32} (d : decode cc pc = .ok (.invokestatic 299, 3)) (hq : pc + 3 = q) (hd1 : 1 + 1 ≤ d0) (hd2 : 8 + (3 + 11) + 100 * 1 ≤ 100 * d0) (hr : (rest.map fun v => v.category).sum ≤ 8) {B : Type} {f : Int32 → B} {r : B} (hs : Lt (C_X9_isIn s x1 x2) f = r) (k : ∀ y, f y = r → WG (KC D cA cL h Z) p l e (rmD d0) st m args below meth c Q nL s q lv (.int y :: rest)) : WG (KC D cA cL h Z) p l e (rmD d0) st m args below meth c Q nL s pc lv (.int x2 :: .long x1 :: rest) := by
  exact cS_I (K := KC D cA cL h Z) X (n := 2) (k_X9_isIn hZ l D cA cL s x1 x2) wX9_isIn_X9 ⟨hd1, hd2⟩ ⟨by decide, by decide, by decide +kernel⟩ (As := [.long x1, .int x2]) rfl hr rfl d hq (k _ hs)
def C_X9_count (s : ST) (x1 : Int64) (x2 : Nat) (x3 : Int32) : Option (Int32) := lpK2 (C := Int32) (fun (rec1 : Int32 → Int32 → Option (Int32)) (a1 : Int32) (a2 : Int32) => if (64 : Int32) ≤ a2 then (some a1) else (if (Int32.ofNat (lc x2)) ≤ a2 then (some a1) else (Lt (C_X9_isIn s x1 a2) fun y1 => Lt (fun (a3 : Int32) => (rec1 a3 (a2 + (1 : Int32)) : Option (Int32))) fun j1 => if y1 = 0 then (j1 a1) else (Gl s x2 (lc x2) a2 fun y2 => if y2 = x3 then (j1 (a1 + (1 : Int32))) else (j1 a1))))) FU (0 : Int32) (0 : Int32)
set_option maxRecDepth 100000 in
set_option maxHeartbeats 4000000 in
theorem k_X9_count {h : Nat → Nat} {Z : State → Heap → Prop} {sa : Nat → Nat} (hZ : ZK h Z sa) (l : Launch) (D : va_G) (cA cL : ClassId) (s : ST) (x1 : Int64) (x2 : Nat) (x3 : Int32) (hx2 : isK 11 x2) {o : Int32} (hs : C_X9_count s x1 x2 x3 = some o) : MI l (KC D cA cL h Z) 2 yX9_count cX9_count 6 (some .int) s [.long x1, .ref (h x2), .int x3] o s := by
  refine met_i (by decide) (Nat.le_of_ble_eq_true rfl) ?_
  intro p e st m args below meth c Q X RI
  unfold C_X9_count at hs
  refine g_iconst X dX9_count_0 (q := 1) rfl li_i0 ?_
  refine g_istore X dX9_count_1 (q := 3) rfl (Nat.le_of_ble_eq_true rfl) (lv' := [(4, .int (0 : Int32)), (0, .long x1), (2, .ref (h x2)), (3, .int x3)]) rfl ?_
  refine g_iconst X dX9_count_3 (q := 4) rfl li_i0 ?_
  refine g_istore X dX9_count_4 (q := 6) rfl (Nat.le_of_ble_eq_true rfl) (lv' := [(5, .int (0 : Int32)), (4, .int (0 : Int32)), (0, .long x1), (2, .ref (h x2)), (3, .int x3)]) rfl ?_
  refine wg_sub [2, 3, 4, 1, 0] rfl (lpW2 (fun (a1 : Int32) (a2 : Int32) => WG (KC D cA cL h Z) p l e (rmD 2) st m args below meth c Q 6 s 6 [(0, .long x1), (2, .ref (h x2)), (3, .int x3), (4, .int a1), (5, .int a2)] []) (fun rec1 ih1 a1 a2 hs => ?_) _ _ _ hs)
  refine g_iload X dX9_count_6 (q := 8) rfl 4 rfl ?_
  refine g_bipush X dX9_count_8 (q := 10) rfl li_b64 ?_
  refine g_icmp_ge X dX9_count_10 (q := 13) rfl (tgt := 46) (by decide) hs ?_ ?_
  · intro hs
    refine g_iload X dX9_count_46 (q := 48) rfl 3 rfl ?_
    exact RI _ 48 _ _ _ rfl rfl (Option.some.inj hs) dX9_count_48
  · intro hs
    refine g_iload X dX9_count_13 (q := 15) rfl 4 rfl ?_
    refine g_aload_n X dX9_count_15 (q := 16) rfl 1 rfl ?_
    refine ca_len X dX9_count_16 (q := 17) rfl x2 hx2 rfl rfl ?_
    refine g_icmp_ge X dX9_count_17 (q := 20) rfl (tgt := 46) (by decide) hs ?_ ?_
    · intro hs
      refine g_iload X dX9_count_46 (q := 48) rfl 3 rfl ?_
      exact RI _ 48 _ _ _ rfl rfl (Option.some.inj hs) dX9_count_48
    · intro hs
      refine g_lload_n X dX9_count_20 (q := 21) rfl 0 rfl ?_
      refine g_iload X dX9_count_21 (q := 23) rfl 4 rfl ?_
      refine vc_X9_isIn_X9 hZ X dX9_count_23 (q := 26) rfl (Nat.le_of_ble_eq_true rfl) (Nat.le_of_ble_eq_true rfl) (Nat.le_of_ble_eq_true rfl) hs (fun y1 hs => ?_)
      refine jnW1 (fun (a3 : Int32) => WG (KC D cA cL h Z) p l e (rmD 2) st m args below meth c Q 6 s 40 [(0, .long x1), (2, .ref (h x2)), (3, .int x3), (4, .int a3), (5, .int a2)] []) hs (fun a3 hs => ?_) (fun j1 ih2 hs => ?_)
      · refine g_iinc X dX9_count_40 (q := 43) rfl 4 rfl (v := (a2 + (1 : Int32))) (congrArg (HAdd.hAdd a2) li_i1) (Nat.le_of_ble_eq_true rfl) (lv' := [(5, .int (a2 + (1 : Int32))), (0, .long x1), (2, .ref (h x2)), (3, .int x3), (4, .int a3)]) rfl ?_
        refine g_goto X dX9_count_43 (tgt := 6) (by decide) ?_
        exact wg_sub [1, 2, 3, 4, 0] rfl (ih1 _ _ hs)
      refine g_if_eq X dX9_count_26 (q := 29) rfl (tgt := 40) (by decide) hs ?_ ?_
      · intro hs
        exact wg_sub [0, 1, 2, 3, 4] rfl (ih2 _ hs)
      · intro hs
        refine g_aload_n X dX9_count_29 (q := 30) rfl 1 rfl ?_
        refine g_iload X dX9_count_30 (q := 32) rfl 4 rfl ?_
        refine ca_ld X dX9_count_32 (q := 33) rfl x2 hx2 rfl hs (fun y2 hs => ?_)
        refine g_iload_n X dX9_count_33 (q := 34) rfl 2 rfl ?_
        refine g_icmp_ne X dX9_count_34 (q := 37) rfl (tgt := 40) (by decide) hs ?_ ?_
        · intro hs
          exact wg_sub [0, 1, 2, 3, 4] rfl (ih2 _ hs)
        · intro hs
          refine g_iinc X dX9_count_37 (q := 40) rfl 3 rfl (v := (a1 + (1 : Int32))) (congrArg (HAdd.hAdd a1) li_i1) (Nat.le_of_ble_eq_true rfl) (lv' := [(4, .int (a1 + (1 : Int32))), (0, .long x1), (2, .ref (h x2)), (3, .int x3), (5, .int a2)]) rfl ?_
          exact wg_sub [1, 2, 3, 0, 4] rfl (ih2 _ hs)
theorem dX9_kind_0 : decode cX9_kind 0 = .ok (.aload_n 0, 1) := by decide +kernel
theorem dX9_kind_1 : decode cX9_kind 1 = .ok (.getfield 19, 3) := by decide +kernel
theorem dX9_kind_4 : decode cX9_kind 4 = .ok (.iload_n 1, 1) := by decide +kernel
theorem dX9_kind_5 : decode cX9_kind 5 = .ok (.invokevirtual 151, 3) := by decide +kernel
theorem dX9_kind_8 : decode cX9_kind 8 = .ok (.ifCond .ne 5, 3) := by decide +kernel
theorem dX9_kind_11 : decode cX9_kind 11 = .ok (.iconst (-1), 1) := by decide +kernel
theorem dX9_kind_12 : decode cX9_kind 12 = .ok (.ireturn, 1) := by decide +kernel
theorem dX9_kind_13 : decode cX9_kind 13 = .ok (.iload_n 2, 1) := by decide +kernel
theorem dX9_kind_14 : decode cX9_kind 14 = .ok (.tableswitch 111 0 4 #[34, 47, 60, 73, 92], 34) := by decide +kernel
theorem dX9_kind_48 : decode cX9_kind 48 = .ok (.aload_n 0, 1) := by decide +kernel
theorem dX9_kind_49 : decode cX9_kind 49 = .ok (.getfield 19, 3) := by decide +kernel
theorem dX9_kind_52 : decode cX9_kind 52 = .ok (.getfield 238, 3) := by decide +kernel
theorem dX9_kind_55 : decode cX9_kind 55 = .ok (.iload_n 1, 1) := by decide +kernel
theorem dX9_kind_56 : decode cX9_kind 56 = .ok (.iconst 0, 1) := by decide +kernel
theorem dX9_kind_57 : decode cX9_kind 57 = .ok (.invokevirtual 241, 3) := by decide +kernel
theorem dX9_kind_60 : decode cX9_kind 60 = .ok (.ireturn, 1) := by decide +kernel
theorem dX9_kind_61 : decode cX9_kind 61 = .ok (.aload_n 0, 1) := by decide +kernel
theorem dX9_kind_62 : decode cX9_kind 62 = .ok (.getfield 19, 3) := by decide +kernel
theorem dX9_kind_65 : decode cX9_kind 65 = .ok (.getfield 238, 3) := by decide +kernel
theorem dX9_kind_68 : decode cX9_kind 68 = .ok (.iload_n 1, 1) := by decide +kernel
theorem dX9_kind_69 : decode cX9_kind 69 = .ok (.iconst 1, 1) := by decide +kernel
theorem dX9_kind_70 : decode cX9_kind 70 = .ok (.invokevirtual 241, 3) := by decide +kernel
theorem dX9_kind_73 : decode cX9_kind 73 = .ok (.ireturn, 1) := by decide +kernel
theorem dX9_kind_74 : decode cX9_kind 74 = .ok (.aload_n 0, 1) := by decide +kernel
theorem dX9_kind_75 : decode cX9_kind 75 = .ok (.getfield 19, 3) := by decide +kernel
theorem dX9_kind_78 : decode cX9_kind 78 = .ok (.getfield 238, 3) := by decide +kernel
theorem dX9_kind_81 : decode cX9_kind 81 = .ok (.iload_n 1, 1) := by decide +kernel
theorem dX9_kind_82 : decode cX9_kind 82 = .ok (.iconst 2, 1) := by decide +kernel
theorem dX9_kind_83 : decode cX9_kind 83 = .ok (.invokevirtual 241, 3) := by decide +kernel
theorem dX9_kind_86 : decode cX9_kind 86 = .ok (.ireturn, 1) := by decide +kernel
theorem dX9_kind_87 : decode cX9_kind 87 = .ok (.aload_n 0, 1) := by decide +kernel
theorem dX9_kind_88 : decode cX9_kind 88 = .ok (.getfield 12, 3) := by decide +kernel
theorem dX9_kind_91 : decode cX9_kind 91 = .ok (.getfield 245, 3) := by decide +kernel
theorem dX9_kind_94 : decode cX9_kind 94 = .ok (.aload_n 0, 1) := by decide +kernel
theorem dX9_kind_95 : decode cX9_kind 95 = .ok (.getfield 12, 3) := by decide +kernel
theorem dX9_kind_98 : decode cX9_kind 98 = .ok (.getfield 202, 3) := by decide +kernel
theorem dX9_kind_101 : decode cX9_kind 101 = .ok (.iload_n 1, 1) := by decide +kernel
theorem dX9_kind_102 : decode cX9_kind 102 = .ok (.invokestatic 248, 3) := by decide +kernel
theorem dX9_kind_105 : decode cX9_kind 105 = .ok (.ireturn, 1) := by decide +kernel
theorem dX9_kind_106 : decode cX9_kind 106 = .ok (.aload_n 0, 1) := by decide +kernel
theorem dX9_kind_107 : decode cX9_kind 107 = .ok (.getfield 12, 3) := by decide +kernel
theorem dX9_kind_110 : decode cX9_kind 110 = .ok (.getfield 217, 3) := by decide +kernel
theorem dX9_kind_113 : decode cX9_kind 113 = .ok (.aload_n 0, 1) := by decide +kernel
theorem dX9_kind_114 : decode cX9_kind 114 = .ok (.getfield 12, 3) := by decide +kernel
theorem dX9_kind_117 : decode cX9_kind 117 = .ok (.getfield 208, 3) := by decide +kernel
theorem dX9_kind_120 : decode cX9_kind 120 = .ok (.iload_n 1, 1) := by decide +kernel
theorem dX9_kind_121 : decode cX9_kind 121 = .ok (.invokestatic 248, 3) := by decide +kernel
theorem dX9_kind_124 : decode cX9_kind 124 = .ok (.ireturn, 1) := by decide +kernel
theorem dX9_kind_125 : decode cX9_kind 125 = .ok (.iconst (-1), 1) := by decide +kernel
theorem dX9_kind_126 : decode cX9_kind 126 = .ok (.ireturn, 1) := by decide +kernel
theorem wX4_of_X9 : Cond.methodLinkNest RX9 241 yX4_of "StormSeeds" ∈ NW := nw_of 1091 (by decide +kernel) rfl
theorem vc_X4_of_X9 {p : Program} {l : Launch} {e : Env} {st : State} {m : MethodId} {args : Array Value} {below : List Frame} {meth : Method} {c : Code} {Q : State → Prop} {nL : Nat} {cc : ByteArray} {s : ST} {pc q : Nat} {lv : List (Nat × Value)} {rest : List Value} {D : va_G} {cA cL : ClassId} {h : Nat → Nat} {Z : State → Heap → Prop} {sa : Nat → Nat} (hZ : ZK h Z sa) {d0 : Nat} (X : Cx (KC D cA cL h Z) p st m args meth c cc nL RX9) {b0 : Nat} {x1 : Int32} {x2 : Int32} (d : decode cc pc = .ok (.invokevirtual 241, 3)) (hq : pc + 3 = q) (hb0 : isK 4 b0) (hd1 : 2 + 1 ≤ d0) (hd2 : 8 + (3 + 11) + 100 * 2 ≤ 100 * d0) (hr : (rest.map fun v => v.category).sum ≤ 8) {B : Type} {f : Int32 → Option B} {r : B} (hs : Bd (C_X4_of s b0 x1 x2) f = some r) (k : ∀ y, f y = some r → WG (KC D cA cL h Z) p l e (rmD d0) st m args below meth c Q nL s q lv (.int y :: rest)) : WG (KC D cA cL h Z) p l e (rmD d0) st m args below meth c Q nL s pc lv (.int x2 :: .int x1 :: .ref (h b0) :: rest) := by
  obtain ⟨v, hv, hs⟩ := Bd_e hs
  exact cVN_I (K := KC D cA cL h Z) X b0 (n := 2) (k_X4_of hZ l D cA cL s b0 x1 x2 hb0 hv) (gt_c (gt_of 987 (by decide +kernel) rfl) gt_t) (hZ.1 st st.heap X.2.2.2 _ wX4_of_X9) (gt_of 199 (by decide +kernel) rfl) (gt_of 986 (by decide +kernel) rfl) (gt_of 62 (by decide +kernel) rfl) ⟨hd1, hd2⟩ ⟨by decide, by decide, by decide +kernel⟩ (As := [.int x1, .int x2]) rfl hr (hb0).1 (fs := cF4 h b0 (s.1 b0) (s.2 b0)) (GC_4 (cA := cA) (cL := cL) hb0 _ _) rfl rfl d hq (k _ hs)
theorem wX9_count_X9 : GoodIn GT (va_wsS RX9 248 yX9_count (.code yX9_count cX9_count 6 (some .int) :: GT)) := gt_c (gt_of 1092 (by decide +kernel) rfl) (gt_c (gt_of 1093 (by decide +kernel) rfl) (gt_c (gt_of 196 (by decide +kernel) rfl) (gt_c (gt_of 1094 (by decide +kernel) rfl) gt_t)))
theorem vc_X9_count_X9 {p : Program} {l : Launch} {e : Env} {st : State} {m : MethodId} {args : Array Value} {below : List Frame} {meth : Method} {c : Code} {Q : State → Prop} {nL : Nat} {cc : ByteArray} {s : ST} {pc q : Nat} {lv : List (Nat × Value)} {rest : List Value} {D : va_G} {cA cL : ClassId} {h : Nat → Nat} {Z : State → Heap → Prop} {sa : Nat → Nat} (hZ : ZK h Z sa) {d0 : Nat} (X : Cx (KC D cA cL h Z) p st m args meth c cc nL RX9) {x1 : Int64} {x2 : Nat} {x3 : Int32} (d : decode cc pc = .ok (.invokestatic 248, 3)) (hq : pc + 3 = q) (hx2 : isK 11 x2) (hd1 : 2 + 1 ≤ d0) (hd2 : 8 + (6 + 11) + 100 * 2 ≤ 100 * d0) (hr : (rest.map fun v => v.category).sum ≤ 8) {B : Type} {f : Int32 → Option B} {r : B} (hs : Bd (C_X9_count s x1 x2 x3) f = some r) (k : ∀ y, f y = some r → WG (KC D cA cL h Z) p l e (rmD d0) st m args below meth c Q nL s q lv (.int y :: rest)) : WG (KC D cA cL h Z) p l e (rmD d0) st m args below meth c Q nL s pc lv (.int x3 :: .ref (h x2) :: .long x1 :: rest) := by
  obtain ⟨v, hv, hs⟩ := Bd_e hs
  exact cS_I (K := KC D cA cL h Z) X (n := 3) (k_X9_count hZ l D cA cL s x1 x2 x3 hx2 hv) wX9_count_X9 ⟨hd1, hd2⟩ ⟨by decide, by decide, by decide +kernel⟩ (As := [.long x1, .ref (h x2), .int x3]) rfl hr rfl d hq (k _ hs)
def C_X9_kind (s : ST) (x1 : Int32) (x2 : Int32) : Option (Int32) := Lt (C_X7_hasKind s 8 x1) fun y1 => if y1 = 0 then (some (-1 : Int32)) else (if x2 = (0 : Int32) then (Bd (C_X4_of s 9 x1 (0 : Int32)) fun y2 => some y2) else (if x2 = (1 : Int32) then (Bd (C_X4_of s 9 x1 (1 : Int32)) fun y3 => some y3) else (if x2 = (2 : Int32) then (Bd (C_X4_of s 9 x1 (2 : Int32)) fun y4 => some y4) else (if x2 = (3 : Int32) then (Bd (C_X9_count s (s.2 1 8) 3 x1) fun y5 => some y5) else (if x2 = (4 : Int32) then (Bd (C_X9_count s (s.2 1 9) 5 x1) fun y6 => some y6) else (some (-1 : Int32)))))))
set_option maxRecDepth 100000 in
set_option maxHeartbeats 4000000 in
theorem k_X9_kind {h : Nat → Nat} {Z : State → Heap → Prop} {sa : Nat → Nat} (hZ : ZK h Z sa) (l : Launch) (D : va_G) (cA cL : ClassId) (s : ST) (x1 : Int32) (x2 : Int32) {o : Int32} (hs : C_X9_kind s x1 x2 = some o) : MI l (KC D cA cL h Z) 3 yX9_kind cX9_kind 3 (some .int) s [.ref (h 0), .int x1, .int x2] o s := by
  refine met_i (by decide) (Nat.le_of_ble_eq_true rfl) ?_
  intro p e st m args below meth c Q X RI
  unfold C_X9_kind at hs
  refine g_aload_n X dX9_kind_0 (q := 1) rfl 0 rfl ?_
  refine cg_9_1 X dX9_kind_1 (q := 4) rfl sh_0 lf_X9_19 ?_
  refine g_iload_n X dX9_kind_4 (q := 5) rfl 1 rfl ?_
  refine vc_X7_hasKind_X9 hZ X dX9_kind_5 (q := 8) rfl sh_8 (Nat.le_of_ble_eq_true rfl) (Nat.le_of_ble_eq_true rfl) (Nat.le_of_ble_eq_true rfl) hs (fun y1 hs => ?_)
  refine g_if_ne X dX9_kind_8 (q := 11) rfl (tgt := 13) (by decide) hs ?_ ?_
  · intro hs
    refine g_iload_n X dX9_kind_13 (q := 14) rfl 2 rfl ?_
    refine g_tsw X dX9_kind_14 (z := (0 : Int32)) (tgt := 48) rfl (by decide) (by decide) (by decide) hs ?_ (fun hn0 hs => ?_)
    · intro hs
      refine g_aload_n X dX9_kind_48 (q := 49) rfl 0 rfl ?_
      refine cg_9_1 X dX9_kind_49 (q := 52) rfl sh_0 lf_X9_19 ?_
      refine cgN_7_0 hZ X dX9_kind_52 (q := 55) rfl sh_8 lf_X9_238 ?_
      refine g_iload_n X dX9_kind_55 (q := 56) rfl 1 rfl ?_
      refine g_iconst X dX9_kind_56 (q := 57) rfl li_i0 ?_
      refine vc_X4_of_X9 hZ X dX9_kind_57 (q := 60) rfl sh_9 (Nat.le_of_ble_eq_true rfl) (Nat.le_of_ble_eq_true rfl) (Nat.le_of_ble_eq_true rfl) hs (fun y2 hs => ?_)
      exact RI _ 60 _ _ _ rfl rfl (Option.some.inj hs) dX9_kind_60
    refine g_tsw X dX9_kind_14 (z := (1 : Int32)) (tgt := 61) rfl (by decide) (by decide) (by decide) hs ?_ (fun hn1 hs => ?_)
    · intro hs
      refine g_aload_n X dX9_kind_61 (q := 62) rfl 0 rfl ?_
      refine cg_9_1 X dX9_kind_62 (q := 65) rfl sh_0 lf_X9_19 ?_
      refine cgN_7_0 hZ X dX9_kind_65 (q := 68) rfl sh_8 lf_X9_238 ?_
      refine g_iload_n X dX9_kind_68 (q := 69) rfl 1 rfl ?_
      refine g_iconst X dX9_kind_69 (q := 70) rfl li_i1 ?_
      refine vc_X4_of_X9 hZ X dX9_kind_70 (q := 73) rfl sh_9 (Nat.le_of_ble_eq_true rfl) (Nat.le_of_ble_eq_true rfl) (Nat.le_of_ble_eq_true rfl) hs (fun y3 hs => ?_)
      exact RI _ 73 _ _ _ rfl rfl (Option.some.inj hs) dX9_kind_73
    refine g_tsw X dX9_kind_14 (z := (2 : Int32)) (tgt := 74) rfl (by decide) (by decide) (by decide) hs ?_ (fun hn2 hs => ?_)
    · intro hs
      refine g_aload_n X dX9_kind_74 (q := 75) rfl 0 rfl ?_
      refine cg_9_1 X dX9_kind_75 (q := 78) rfl sh_0 lf_X9_19 ?_
      refine cgN_7_0 hZ X dX9_kind_78 (q := 81) rfl sh_8 lf_X9_238 ?_
      refine g_iload_n X dX9_kind_81 (q := 82) rfl 1 rfl ?_
      refine g_iconst X dX9_kind_82 (q := 83) rfl li_i2 ?_
      refine vc_X4_of_X9 hZ X dX9_kind_83 (q := 86) rfl sh_9 (Nat.le_of_ble_eq_true rfl) (Nat.le_of_ble_eq_true rfl) (Nat.le_of_ble_eq_true rfl) hs (fun y4 hs => ?_)
      exact RI _ 86 _ _ _ rfl rfl (Option.some.inj hs) dX9_kind_86
    refine g_tsw X dX9_kind_14 (z := (3 : Int32)) (tgt := 87) rfl (by decide) (by decide) (by decide) hs ?_ (fun hn3 hs => ?_)
    · intro hs
      refine g_aload_n X dX9_kind_87 (q := 88) rfl 0 rfl ?_
      refine cg_9_0 X dX9_kind_88 (q := 91) rfl sh_0 lf_X9_12 ?_
      refine cgN_1_8 hZ X dX9_kind_91 (q := 94) rfl sh_1 lf_X9_245 ?_
      refine g_aload_n X dX9_kind_94 (q := 95) rfl 0 rfl ?_
      refine cg_9_0 X dX9_kind_95 (q := 98) rfl sh_0 lf_X9_12 ?_
      refine cgN_1_11 hZ X dX9_kind_98 (q := 101) rfl sh_1 lf_X9_202 ?_
      refine g_iload_n X dX9_kind_101 (q := 102) rfl 1 rfl ?_
      refine vc_X9_count_X9 hZ X dX9_kind_102 (q := 105) rfl sh_3 (Nat.le_of_ble_eq_true rfl) (Nat.le_of_ble_eq_true rfl) (Nat.le_of_ble_eq_true rfl) hs (fun y5 hs => ?_)
      exact RI _ 105 _ _ _ rfl rfl (Option.some.inj hs) dX9_kind_105
    refine g_tsw X dX9_kind_14 (z := (4 : Int32)) (tgt := 106) rfl (by decide) (by decide) (by decide) hs ?_ (fun hn4 hs => ?_)
    · intro hs
      refine g_aload_n X dX9_kind_106 (q := 107) rfl 0 rfl ?_
      refine cg_9_0 X dX9_kind_107 (q := 110) rfl sh_0 lf_X9_12 ?_
      refine cgN_1_9 hZ X dX9_kind_110 (q := 113) rfl sh_1 lf_X9_217 ?_
      refine g_aload_n X dX9_kind_113 (q := 114) rfl 0 rfl ?_
      refine cg_9_0 X dX9_kind_114 (q := 117) rfl sh_0 lf_X9_12 ?_
      refine cgN_1_13 hZ X dX9_kind_117 (q := 120) rfl sh_1 lf_X9_208 ?_
      refine g_iload_n X dX9_kind_120 (q := 121) rfl 1 rfl ?_
      refine vc_X9_count_X9 hZ X dX9_kind_121 (q := 124) rfl sh_5 (Nat.le_of_ble_eq_true rfl) (Nat.le_of_ble_eq_true rfl) (Nat.le_of_ble_eq_true rfl) hs (fun y6 hs => ?_)
      exact RI _ 124 _ _ _ rfl rfl (Option.some.inj hs) dX9_kind_124
    refine g_tswO X dX9_kind_14 (tgt := 125) (by have t0 := tsw_ne hn0 (k := 0) (by decide); have t1 := tsw_ne hn1 (k := 1) (by decide); have t2 := tsw_ne hn2 (k := 2) (by decide); have t3 := tsw_ne hn3 (k := 3) (by decide); have t4 := tsw_ne hn4 (k := 4) (by decide); omega) (by decide) ?_
    refine g_iconst X dX9_kind_125 (q := 126) rfl li_im1 ?_
    exact RI _ 126 _ _ _ rfl rfl (Option.some.inj hs) dX9_kind_126
  · intro hs
    refine g_iconst X dX9_kind_11 (q := 12) rfl li_im1 ?_
    exact RI _ 12 _ _ _ rfl rfl (Option.some.inj hs) dX9_kind_12
theorem dX9_cross_0 : decode cX9_cross 0 = .ok (.aload_n 0, 1) := by decide +kernel
theorem dX9_cross_1 : decode cX9_cross 1 = .ok (.getfield 19, 3) := by decide +kernel
theorem dX9_cross_4 : decode cX9_cross 4 = .ok (.iload_n 1, 1) := by decide +kernel
theorem dX9_cross_5 : decode cX9_cross 5 = .ok (.iload_n 2, 1) := by decide +kernel
theorem dX9_cross_6 : decode cX9_cross 6 = .ok (.invokevirtual 252, 3) := by decide +kernel
theorem dX9_cross_9 : decode cX9_cross 9 = .ok (.ireturn, 1) := by decide +kernel
theorem wX7_crossing_X9 : Cond.methodLinkNest RX9 252 yX7_crossing "StormSeeds" ∈ NW := nw_of 1100 (by decide +kernel) rfl
theorem vc_X7_crossing_X9 {p : Program} {l : Launch} {e : Env} {st : State} {m : MethodId} {args : Array Value} {below : List Frame} {meth : Method} {c : Code} {Q : State → Prop} {nL : Nat} {cc : ByteArray} {s : ST} {pc q : Nat} {lv : List (Nat × Value)} {rest : List Value} {D : va_G} {cA cL : ClassId} {h : Nat → Nat} {Z : State → Heap → Prop} {sa : Nat → Nat} (hZ : ZK h Z sa) {d0 : Nat} (X : Cx (KC D cA cL h Z) p st m args meth c cc nL RX9) {b0 : Nat} {x1 : Int32} {x2 : Int32} (d : decode cc pc = .ok (.invokevirtual 252, 3)) (hq : pc + 3 = q) (hb0 : isK 7 b0) (hd1 : 3 + 1 ≤ d0) (hd2 : 8 + (6 + 11) + 100 * 3 ≤ 100 * d0) (hr : (rest.map fun v => v.category).sum ≤ 8) {B : Type} {f : Int32 → Option B} {r : B} (hs : Bd (C_X7_crossing s b0 x1 x2) f = some r) (k : ∀ y, f y = some r → WG (KC D cA cL h Z) p l e (rmD d0) st m args below meth c Q nL s q lv (.int y :: rest)) : WG (KC D cA cL h Z) p l e (rmD d0) st m args below meth c Q nL s pc lv (.int x2 :: .int x1 :: .ref (h b0) :: rest) := by
  obtain ⟨v, hv, hs⟩ := Bd_e hs
  exact cVN_I (K := KC D cA cL h Z) X b0 (n := 2) (k_X7_crossing hZ l D cA cL s b0 x1 x2 hb0 hv) (gt_c (gt_of 1036 (by decide +kernel) rfl) gt_t) (hZ.1 st st.heap X.2.2.2 _ wX7_crossing_X9) (gt_of 198 (by decide +kernel) rfl) (gt_of 1035 (by decide +kernel) rfl) (gt_of 69 (by decide +kernel) rfl) ⟨hd1, hd2⟩ ⟨by decide, by decide, by decide +kernel⟩ (As := [.int x1, .int x2]) rfl hr (hb0).1 (fs := cF7 h b0 (s.1 b0) (s.2 b0)) (GC_7 (cA := cA) (cL := cL) hb0 _ _) rfl rfl d hq (k _ hs)
def C_X9_cross (s : ST) (x1 : Int32) (x2 : Int32) : Option (Int32) := Bd (C_X7_crossing s 8 x1 x2) fun y1 => some y1
set_option maxRecDepth 100000 in
set_option maxHeartbeats 4000000 in
theorem k_X9_cross {h : Nat → Nat} {Z : State → Heap → Prop} {sa : Nat → Nat} (hZ : ZK h Z sa) (l : Launch) (D : va_G) (cA cL : ClassId) (s : ST) (x1 : Int32) (x2 : Int32) {o : Int32} (hs : C_X9_cross s x1 x2 = some o) : MI l (KC D cA cL h Z) 4 yX9_cross cX9_cross 3 (some .int) s [.ref (h 0), .int x1, .int x2] o s := by
  refine met_i (by decide) (Nat.le_of_ble_eq_true rfl) ?_
  intro p e st m args below meth c Q X RI
  unfold C_X9_cross at hs
  refine g_aload_n X dX9_cross_0 (q := 1) rfl 0 rfl ?_
  refine cg_9_1 X dX9_cross_1 (q := 4) rfl sh_0 lf_X9_19 ?_
  refine g_iload_n X dX9_cross_4 (q := 5) rfl 1 rfl ?_
  refine g_iload_n X dX9_cross_5 (q := 6) rfl 2 rfl ?_
  refine vc_X7_crossing_X9 hZ X dX9_cross_6 (q := 9) rfl sh_8 (Nat.le_of_ble_eq_true rfl) (Nat.le_of_ble_eq_true rfl) (Nat.le_of_ble_eq_true rfl) hs (fun y1 hs => ?_)
  exact RI _ 9 _ _ _ rfl rfl (Option.some.inj hs) dX9_cross_9
theorem dX9_gust_0 : decode cX9_gust 0 = .ok (.aload_n 0, 1) := by decide +kernel
theorem dX9_gust_1 : decode cX9_gust 1 = .ok (.getfield 19, 3) := by decide +kernel
theorem dX9_gust_4 : decode cX9_gust 4 = .ok (.iload_n 1, 1) := by decide +kernel
theorem dX9_gust_5 : decode cX9_gust 5 = .ok (.invokevirtual 151, 3) := by decide +kernel
theorem dX9_gust_8 : decode cX9_gust 8 = .ok (.ifCond .eq 24, 3) := by decide +kernel
theorem dX9_gust_11 : decode cX9_gust 11 = .ok (.aload_n 0, 1) := by decide +kernel
theorem dX9_gust_12 : decode cX9_gust 12 = .ok (.getfield 12, 3) := by decide +kernel
theorem dX9_gust_15 : decode cX9_gust 15 = .ok (.iload_n 2, 1) := by decide +kernel
theorem dX9_gust_16 : decode cX9_gust 16 = .ok (.invokevirtual 189, 3) := by decide +kernel
theorem dX9_gust_19 : decode cX9_gust 19 = .ok (.ifCond .eq 13, 3) := by decide +kernel
theorem dX9_gust_22 : decode cX9_gust 22 = .ok (.iload_n 3, 1) := by decide +kernel
theorem dX9_gust_23 : decode cX9_gust 23 = .ok (.iconst 0, 1) := by decide +kernel
theorem dX9_gust_24 : decode cX9_gust 24 = .ok (.bipush 99, 2) := by decide +kernel
theorem dX9_gust_26 : decode cX9_gust 26 = .ok (.invokestatic 93, 3) := by decide +kernel
theorem dX9_gust_29 : decode cX9_gust 29 = .ok (.ifCond .ne 5, 3) := by decide +kernel
theorem dX9_gust_32 : decode cX9_gust 32 = .ok (.iconst (-1), 1) := by decide +kernel
theorem dX9_gust_33 : decode cX9_gust 33 = .ok (.ireturn, 1) := by decide +kernel
theorem dX9_gust_34 : decode cX9_gust 34 = .ok (.aload_n 0, 1) := by decide +kernel
theorem dX9_gust_35 : decode cX9_gust 35 = .ok (.getfield 19, 3) := by decide +kernel
theorem dX9_gust_38 : decode cX9_gust 38 = .ok (.getfield 228, 3) := by decide +kernel
theorem dX9_gust_41 : decode cX9_gust 41 = .ok (.iconst 0, 1) := by decide +kernel
theorem dX9_gust_42 : decode cX9_gust 42 = .ok (.aload_n 0, 1) := by decide +kernel
theorem dX9_gust_43 : decode cX9_gust 43 = .ok (.getfield 12, 3) := by decide +kernel
theorem dX9_gust_46 : decode cX9_gust 46 = .ok (.iload_n 1, 1) := by decide +kernel
theorem dX9_gust_47 : decode cX9_gust 47 = .ok (.iload_n 2, 1) := by decide +kernel
theorem dX9_gust_48 : decode cX9_gust 48 = .ok (.iload_n 3, 1) := by decide +kernel
theorem dX9_gust_49 : decode cX9_gust 49 = .ok (.invokevirtual 232, 3) := by decide +kernel
theorem dX9_gust_52 : decode cX9_gust 52 = .ok (.ireturn, 1) := by decide +kernel
def C_X9_gust (s : ST) (x1 : Int32) (x2 : Int32) (x3 : Int32) : Option (Int32 × ST) := Lt (C_X7_hasKind s 8 x1) fun y1 => if y1 = 0 then (some ((-1 : Int32), s)) else (Lt (C_X1_isCell s 1 x2) fun y2 => if y2 = 0 then (some ((-1 : Int32), s)) else (Lt (C_X9_isWithin s x3 (0 : Int32) (99 : Int32)) fun y3 => if y3 = 0 then (some ((-1 : Int32), s)) else (Bd (C_X2_ask s (0 : Int32) 1 x1 x2 x3) fun y4 => some (y4.1, y4.2))))
set_option maxRecDepth 100000 in
set_option maxHeartbeats 4000000 in
theorem k_X9_gust {h : Nat → Nat} {Z : State → Heap → Prop} {sa : Nat → Nat} (hZ : ZK h Z sa) (l : Launch) (D : va_G) (cA cL : ClassId) (s : ST) (x1 : Int32) (x2 : Int32) (x3 : Int32) {o : Int32 × ST} (hs : C_X9_gust s x1 x2 x3 = some o) : MI l (KC D cA cL h Z) 5 yX9_gust cX9_gust 4 (some .int) s [.ref (h 0), .int x1, .int x2, .int x3] o.1 o.2 := by
  refine met_i (by decide) (Nat.le_of_ble_eq_true rfl) ?_
  intro p e st m args below meth c Q X RI
  unfold C_X9_gust at hs
  refine g_aload_n X dX9_gust_0 (q := 1) rfl 0 rfl ?_
  refine cg_9_1 X dX9_gust_1 (q := 4) rfl sh_0 lf_X9_19 ?_
  refine g_iload_n X dX9_gust_4 (q := 5) rfl 1 rfl ?_
  refine vc_X7_hasKind_X9 hZ X dX9_gust_5 (q := 8) rfl sh_8 (Nat.le_of_ble_eq_true rfl) (Nat.le_of_ble_eq_true rfl) (Nat.le_of_ble_eq_true rfl) hs (fun y1 hs => ?_)
  refine g_if_eq X dX9_gust_8 (q := 11) rfl (tgt := 32) (by decide) hs ?_ ?_
  · intro hs
    refine g_iconst X dX9_gust_32 (q := 33) rfl li_im1 ?_
    exact RI _ 33 _ _ _ (rU1 hs) rfl (rV1 hs) dX9_gust_33
  · intro hs
    refine g_aload_n X dX9_gust_11 (q := 12) rfl 0 rfl ?_
    refine cg_9_0 X dX9_gust_12 (q := 15) rfl sh_0 lf_X9_12 ?_
    refine g_iload_n X dX9_gust_15 (q := 16) rfl 2 rfl ?_
    refine vc_X1_isCell_X9 hZ X dX9_gust_16 (q := 19) rfl sh_1 (Nat.le_of_ble_eq_true rfl) (Nat.le_of_ble_eq_true rfl) (Nat.le_of_ble_eq_true rfl) hs (fun y2 hs => ?_)
    refine g_if_eq X dX9_gust_19 (q := 22) rfl (tgt := 32) (by decide) hs ?_ ?_
    · intro hs
      refine g_iconst X dX9_gust_32 (q := 33) rfl li_im1 ?_
      exact RI _ 33 _ _ _ (rU1 hs) rfl (rV1 hs) dX9_gust_33
    · intro hs
      refine g_iload_n X dX9_gust_22 (q := 23) rfl 3 rfl ?_
      refine g_iconst X dX9_gust_23 (q := 24) rfl li_i0 ?_
      refine g_bipush X dX9_gust_24 (q := 26) rfl li_b99 ?_
      refine vc_X9_isWithin_X9 hZ X dX9_gust_26 (q := 29) rfl (Nat.le_of_ble_eq_true rfl) (Nat.le_of_ble_eq_true rfl) (Nat.le_of_ble_eq_true rfl) hs (fun y3 hs => ?_)
      refine g_if_ne X dX9_gust_29 (q := 32) rfl (tgt := 34) (by decide) hs ?_ ?_
      · intro hs
        refine g_aload_n X dX9_gust_34 (q := 35) rfl 0 rfl ?_
        refine cg_9_1 X dX9_gust_35 (q := 38) rfl sh_0 lf_X9_19 ?_
        refine cgN_7_2 hZ X dX9_gust_38 (q := 41) rfl sh_8 lf_X9_228 ?_
        refine g_iconst X dX9_gust_41 (q := 42) rfl li_i0 ?_
        refine g_aload_n X dX9_gust_42 (q := 43) rfl 0 rfl ?_
        refine cg_9_0 X dX9_gust_43 (q := 46) rfl sh_0 lf_X9_12 ?_
        refine g_iload_n X dX9_gust_46 (q := 47) rfl 1 rfl ?_
        refine g_iload_n X dX9_gust_47 (q := 48) rfl 2 rfl ?_
        refine g_iload_n X dX9_gust_48 (q := 49) rfl 3 rfl ?_
        refine vc_X2_ask_X9 hZ X dX9_gust_49 (q := 52) rfl sh_1 (Nat.le_of_ble_eq_true rfl) (Nat.le_of_ble_eq_true rfl) (Nat.le_of_ble_eq_true rfl) hs (fun y4 hs => ?_)
        exact RI _ 52 _ _ _ (rU1 hs) rfl (rV1 hs) dX9_gust_52
      · intro hs
        refine g_iconst X dX9_gust_32 (q := 33) rfl li_im1 ?_
        exact RI _ 33 _ _ _ (rU1 hs) rfl (rV1 hs) dX9_gust_33
theorem dX9_book_0 : decode cX9_book 0 = .ok (.aload_n 0, 1) := by decide +kernel
theorem dX9_book_1 : decode cX9_book 1 = .ok (.getfield 28, 3) := by decide +kernel
theorem dX9_book_4 : decode cX9_book 4 = .ok (.iload_n 1, 1) := by decide +kernel
theorem dX9_book_5 : decode cX9_book 5 = .ok (.iload_n 2, 1) := by decide +kernel
theorem dX9_book_6 : decode cX9_book 6 = .ok (.invokevirtual 241, 3) := by decide +kernel
theorem dX9_book_9 : decode cX9_book 9 = .ok (.ireturn, 1) := by decide +kernel
def C_X9_book (s : ST) (x1 : Int32) (x2 : Int32) : Option (Int32) := Bd (C_X4_of s 23 x1 x2) fun y1 => some y1
set_option maxRecDepth 100000 in
set_option maxHeartbeats 4000000 in
theorem k_X9_book {h : Nat → Nat} {Z : State → Heap → Prop} {sa : Nat → Nat} (hZ : ZK h Z sa) (l : Launch) (D : va_G) (cA cL : ClassId) (s : ST) (x1 : Int32) (x2 : Int32) {o : Int32} (hs : C_X9_book s x1 x2 = some o) : MI l (KC D cA cL h Z) 3 yX9_book cX9_book 3 (some .int) s [.ref (h 0), .int x1, .int x2] o s := by
  refine met_i (by decide) (Nat.le_of_ble_eq_true rfl) ?_
  intro p e st m args below meth c Q X RI
  unfold C_X9_book at hs
  refine g_aload_n X dX9_book_0 (q := 1) rfl 0 rfl ?_
  refine cg_9_2 X dX9_book_1 (q := 4) rfl sh_0 lf_X9_28 ?_
  refine g_iload_n X dX9_book_4 (q := 5) rfl 1 rfl ?_
  refine g_iload_n X dX9_book_5 (q := 6) rfl 2 rfl ?_
  refine vc_X4_of_X9 hZ X dX9_book_6 (q := 9) rfl sh_23 (Nat.le_of_ble_eq_true rfl) (Nat.le_of_ble_eq_true rfl) (Nat.le_of_ble_eq_true rfl) hs (fun y1 hs => ?_)
  exact RI _ 9 _ _ _ rfl rfl (Option.some.inj hs) dX9_book_9
theorem dX9_blows_0 : decode cX9_blows 0 = .ok (.iload_n 1, 1) := by decide +kernel
theorem dX9_blows_1 : decode cX9_blows 1 = .ok (.iconst 1, 1) := by decide +kernel
theorem dX9_blows_2 : decode cX9_blows 2 = .ok (.bipush 60, 2) := by decide +kernel
theorem dX9_blows_4 : decode cX9_blows 4 = .ok (.invokestatic 93, 3) := by decide +kernel
theorem dX9_blows_7 : decode cX9_blows 7 = .ok (.ifCond .eq 17, 3) := by decide +kernel
theorem dX9_blows_10 : decode cX9_blows 10 = .ok (.aload_n 0, 1) := by decide +kernel
theorem dX9_blows_11 : decode cX9_blows 11 = .ok (.getfield 71, 3) := by decide +kernel
theorem dX9_blows_14 : decode cX9_blows 14 = .ok (.iload_n 1, 1) := by decide +kernel
theorem dX9_blows_15 : decode cX9_blows 15 = .ok (.invokevirtual 255, 3) := by decide +kernel
theorem dX9_blows_18 : decode cX9_blows 18 = .ok (.getfield 217, 3) := by decide +kernel
theorem dX9_blows_21 : decode cX9_blows 21 = .ok (.goto 6, 3) := by decide +kernel
theorem dX9_blows_24 : decode cX9_blows 24 = .ok (.ldc2_w 259, 3) := by decide +kernel
theorem dX9_blows_27 : decode cX9_blows 27 = .ok (.lreturn, 1) := by decide +kernel
theorem wX6_blowing_X9 : Cond.methodLinkNest RX9 255 yX6_blowing "StormSeeds" ∈ NW := nw_of 1113 (by decide +kernel) rfl
theorem vc_X6_blowing_X9 {p : Program} {l : Launch} {e : Env} {st : State} {m : MethodId} {args : Array Value} {below : List Frame} {meth : Method} {c : Code} {Q : State → Prop} {nL : Nat} {cc : ByteArray} {s : ST} {pc q : Nat} {lv : List (Nat × Value)} {rest : List Value} {D : va_G} {cA cL : ClassId} {h : Nat → Nat} {Z : State → Heap → Prop} {sa : Nat → Nat} (hZ : ZK h Z sa) {d0 : Nat} (X : Cx (KC D cA cL h Z) p st m args meth c cc nL RX9) {x1 : Int32} (d : decode cc pc = .ok (.invokevirtual 255, 3)) (hq : pc + 3 = q) (hd1 : 8 + 1 ≤ d0) (hd2 : 8 + (2 + 11) + 100 * 8 ≤ 100 * d0) (hr : (rest.map fun v => v.category).sum ≤ 8) {B : Type} {f : ST → Option B} {r : B} (hs : Bd (C_X6_blowing s x1) f = some r) (k : ∀ y, f y = some r → WG (KC D cA cL h Z) p l e (rmD d0) st m args below meth c Q nL y q lv (.ref (h 72) :: rest)) : WG (KC D cA cL h Z) p l e (rmD d0) st m args below meth c Q nL s pc lv (.int x1 :: .ref (h 71) :: rest) := by
  obtain ⟨v, hv, hs⟩ := Bd_e hs
  exact cVN_R (K := KC D cA cL h Z) X 71 (n := 1) (k_X6_blowing hZ l D cA cL s x1 hv) (gt_c (gt_of 1116 (by decide +kernel) rfl) gt_t) (hZ.1 st st.heap X.2.2.2 _ wX6_blowing_X9) (gt_of 205 (by decide +kernel) rfl) (gt_of 1115 (by decide +kernel) rfl) (gt_of 79 (by decide +kernel) rfl) ⟨hd1, hd2⟩ ⟨by decide, by decide, by decide +kernel⟩ (As := [.int x1]) rfl hr (sh_71).1 (fs := cF6 h 71 (s.1 71) (s.2 71)) (GC_6 (cA := cA) (cL := cL) sh_71 _ _) rfl rfl d hq (k _ hs)
def C_X9_blows (s : ST) (x1 : Int32) : Option (Int64 × ST) := Lt (C_X9_isWithin s x1 (1 : Int32) (60 : Int32)) fun y1 => if y1 = 0 then (some ((-1 : Int64), s)) else (Bd (C_X6_blowing s x1) fun y2 => some ((y2.2 72 9), y2))
set_option maxRecDepth 100000 in
set_option maxHeartbeats 4000000 in
theorem k_X9_blows {h : Nat → Nat} {Z : State → Heap → Prop} {sa : Nat → Nat} (hZ : ZK h Z sa) (l : Launch) (D : va_G) (cA cL : ClassId) (s : ST) (x1 : Int32) {o : Int64 × ST} (hs : C_X9_blows s x1 = some o) : ML l (KC D cA cL h Z) 9 yX9_blows cX9_blows 2 (some .long) s [.ref (h 0), .int x1] o.1 o.2 := by
  refine met_l (by decide) (Nat.le_of_ble_eq_true rfl) ?_
  intro p e st m args below meth c Q X RI
  unfold C_X9_blows at hs
  refine g_iload_n X dX9_blows_0 (q := 1) rfl 1 rfl ?_
  refine g_iconst X dX9_blows_1 (q := 2) rfl li_i1 ?_
  refine g_bipush X dX9_blows_2 (q := 4) rfl li_b60 ?_
  refine vc_X9_isWithin_X9 hZ X dX9_blows_4 (q := 7) rfl (Nat.le_of_ble_eq_true rfl) (Nat.le_of_ble_eq_true rfl) (Nat.le_of_ble_eq_true rfl) hs (fun y1 hs => ?_)
  refine g_if_eq X dX9_blows_7 (q := 10) rfl (tgt := 24) (by decide) hs ?_ ?_
  · intro hs
    refine g_ldc2_w X dX9_blows_24 (q := 27) rfl kc_X9_259 ?_
    exact RI _ 27 _ _ (rU1 hs) (rV1 hs) dX9_blows_27
  · intro hs
    refine g_aload_n X dX9_blows_10 (q := 11) rfl 0 rfl ?_
    refine cg_9_10 X dX9_blows_11 (q := 14) rfl sh_0 lf_X9_71 ?_
    refine g_iload_n X dX9_blows_14 (q := 15) rfl 1 rfl ?_
    refine vc_X6_blowing_X9 hZ X dX9_blows_15 (q := 18) rfl (Nat.le_of_ble_eq_true rfl) (Nat.le_of_ble_eq_true rfl) (Nat.le_of_ble_eq_true rfl) hs (fun y2 hs => ?_)
    refine cgN_1_9 hZ X dX9_blows_18 (q := 21) rfl sh_72 lf_X9_217 ?_
    refine g_goto X dX9_blows_21 (tgt := 27) (by decide) ?_
    exact RI _ 27 _ _ (rU1 hs) (rV1 hs) dX9_blows_27
theorem dX9_harms_0 : decode cX9_harms 0 = .ok (.iload_n 1, 1) := by decide +kernel
theorem dX9_harms_1 : decode cX9_harms 1 = .ok (.iconst 1, 1) := by decide +kernel
theorem dX9_harms_2 : decode cX9_harms 2 = .ok (.bipush 60, 2) := by decide +kernel
theorem dX9_harms_4 : decode cX9_harms 4 = .ok (.invokestatic 93, 3) := by decide +kernel
theorem dX9_harms_7 : decode cX9_harms 7 = .ok (.ifCond .eq 25, 3) := by decide +kernel
theorem dX9_harms_10 : decode cX9_harms 10 = .ok (.aload_n 0, 1) := by decide +kernel
theorem dX9_harms_11 : decode cX9_harms 11 = .ok (.getfield 71, 3) := by decide +kernel
theorem dX9_harms_14 : decode cX9_harms 14 = .ok (.iload_n 1, 1) := by decide +kernel
theorem dX9_harms_15 : decode cX9_harms 15 = .ok (.invokevirtual 255, 3) := by decide +kernel
theorem dX9_harms_18 : decode cX9_harms 18 = .ok (.getfield 261, 3) := by decide +kernel
theorem dX9_harms_21 : decode cX9_harms 21 = .ok (.aload_n 0, 1) := by decide +kernel
theorem dX9_harms_22 : decode cX9_harms 22 = .ok (.getfield 12, 3) := by decide +kernel
theorem dX9_harms_25 : decode cX9_harms 25 = .ok (.getfield 261, 3) := by decide +kernel
theorem dX9_harms_28 : decode cX9_harms 28 = .ok (.isub, 1) := by decide +kernel
theorem dX9_harms_29 : decode cX9_harms 29 = .ok (.goto 4, 3) := by decide +kernel
theorem dX9_harms_32 : decode cX9_harms 32 = .ok (.iconst (-1), 1) := by decide +kernel
theorem dX9_harms_33 : decode cX9_harms 33 = .ok (.ireturn, 1) := by decide +kernel
def C_X9_harms (s : ST) (x1 : Int32) : Option (Int32 × ST) := Lt (C_X9_isWithin s x1 (1 : Int32) (60 : Int32)) fun y1 => if y1 = 0 then (some ((-1 : Int32), s)) else (Bd (C_X6_blowing s x1) fun y2 => some (((y2.1 72 5) - (y2.1 1 5)), y2))
set_option maxRecDepth 100000 in
set_option maxHeartbeats 4000000 in
theorem k_X9_harms {h : Nat → Nat} {Z : State → Heap → Prop} {sa : Nat → Nat} (hZ : ZK h Z sa) (l : Launch) (D : va_G) (cA cL : ClassId) (s : ST) (x1 : Int32) {o : Int32 × ST} (hs : C_X9_harms s x1 = some o) : MI l (KC D cA cL h Z) 9 yX9_harms cX9_harms 2 (some .int) s [.ref (h 0), .int x1] o.1 o.2 := by
  refine met_i (by decide) (Nat.le_of_ble_eq_true rfl) ?_
  intro p e st m args below meth c Q X RI
  unfold C_X9_harms at hs
  refine g_iload_n X dX9_harms_0 (q := 1) rfl 1 rfl ?_
  refine g_iconst X dX9_harms_1 (q := 2) rfl li_i1 ?_
  refine g_bipush X dX9_harms_2 (q := 4) rfl li_b60 ?_
  refine vc_X9_isWithin_X9 hZ X dX9_harms_4 (q := 7) rfl (Nat.le_of_ble_eq_true rfl) (Nat.le_of_ble_eq_true rfl) (Nat.le_of_ble_eq_true rfl) hs (fun y1 hs => ?_)
  refine g_if_eq X dX9_harms_7 (q := 10) rfl (tgt := 32) (by decide) hs ?_ ?_
  · intro hs
    refine g_iconst X dX9_harms_32 (q := 33) rfl li_im1 ?_
    exact RI _ 33 _ _ _ (rU1 hs) rfl (rV1 hs) dX9_harms_33
  · intro hs
    refine g_aload_n X dX9_harms_10 (q := 11) rfl 0 rfl ?_
    refine cg_9_10 X dX9_harms_11 (q := 14) rfl sh_0 lf_X9_71 ?_
    refine g_iload_n X dX9_harms_14 (q := 15) rfl 1 rfl ?_
    refine vc_X6_blowing_X9 hZ X dX9_harms_15 (q := 18) rfl (Nat.le_of_ble_eq_true rfl) (Nat.le_of_ble_eq_true rfl) (Nat.le_of_ble_eq_true rfl) hs (fun y2 hs => ?_)
    refine cgN_1_5 hZ X dX9_harms_18 (q := 21) rfl sh_72 lf_X9_261 ?_
    refine g_aload_n X dX9_harms_21 (q := 22) rfl 0 rfl ?_
    refine cg_9_0 X dX9_harms_22 (q := 25) rfl sh_0 lf_X9_12 ?_
    refine cgN_1_5 hZ X dX9_harms_25 (q := 28) rfl sh_1 lf_X9_261 ?_
    refine g_isub X dX9_harms_28 (q := 29) rfl ?_
    refine g_goto X dX9_harms_29 (tgt := 33) (by decide) ?_
    exact RI _ 33 _ _ _ (rU1 hs) rfl (rV1 hs) dX9_harms_33
theorem dX9_meets_0 : decode cX9_meets 0 = .ok (.iload_n 1, 1) := by decide +kernel
theorem dX9_meets_1 : decode cX9_meets 1 = .ok (.ifCond .eq 8, 3) := by decide +kernel
theorem dX9_meets_4 : decode cX9_meets 4 = .ok (.iload_n 1, 1) := by decide +kernel
theorem dX9_meets_5 : decode cX9_meets 5 = .ok (.iconst 1, 1) := by decide +kernel
theorem dX9_meets_6 : decode cX9_meets 6 = .ok (.if_icmp .ne 22, 3) := by decide +kernel
theorem dX9_meets_9 : decode cX9_meets 9 = .ok (.aload_n 0, 1) := by decide +kernel
theorem dX9_meets_10 : decode cX9_meets 10 = .ok (.getfield 71, 3) := by decide +kernel
theorem dX9_meets_13 : decode cX9_meets 13 = .ok (.iload_n 1, 1) := by decide +kernel
theorem dX9_meets_14 : decode cX9_meets 14 = .ok (.ifCond .ne 7, 3) := by decide +kernel
theorem dX9_meets_17 : decode cX9_meets 17 = .ok (.iconst 1, 1) := by decide +kernel
theorem dX9_meets_18 : decode cX9_meets 18 = .ok (.goto 4, 3) := by decide +kernel
theorem dX9_meets_21 : decode cX9_meets 21 = .ok (.iconst 0, 1) := by decide +kernel
theorem dX9_meets_22 : decode cX9_meets 22 = .ok (.invokevirtual 264, 3) := by decide +kernel
theorem dX9_meets_25 : decode cX9_meets 25 = .ok (.goto 4, 3) := by decide +kernel
theorem dX9_meets_28 : decode cX9_meets 28 = .ok (.iconst (-1), 1) := by decide +kernel
theorem dX9_meets_29 : decode cX9_meets 29 = .ok (.ireturn, 1) := by decide +kernel
theorem wX6_meeting_X9 : Cond.methodLinkNest RX9 264 yX6_meeting "StormSeeds" ∈ NW := nw_of 1133 (by decide +kernel) rfl
theorem vc_X6_meeting_X9 {p : Program} {l : Launch} {e : Env} {st : State} {m : MethodId} {args : Array Value} {below : List Frame} {meth : Method} {c : Code} {Q : State → Prop} {nL : Nat} {cc : ByteArray} {s : ST} {pc q : Nat} {lv : List (Nat × Value)} {rest : List Value} {D : va_G} {cA cL : ClassId} {h : Nat → Nat} {Z : State → Heap → Prop} {sa : Nat → Nat} (hZ : ZK h Z sa) {d0 : Nat} (X : Cx (KC D cA cL h Z) p st m args meth c cc nL RX9) {x1 : Int32} (d : decode cc pc = .ok (.invokevirtual 264, 3)) (hq : pc + 3 = q) (hd1 : 7 + 1 ≤ d0) (hd2 : 8 + (6 + 11) + 100 * 7 ≤ 100 * d0) (hr : (rest.map fun v => v.category).sum ≤ 8) {B : Type} {f : Int32 × ST → Option B} {r : B} (hs : Bd (C_X6_meeting s x1) f = some r) (k : ∀ y, f y = some r → WG (KC D cA cL h Z) p l e (rmD d0) st m args below meth c Q nL y.2 q lv (.int y.1 :: rest)) : WG (KC D cA cL h Z) p l e (rmD d0) st m args below meth c Q nL s pc lv (.int x1 :: .ref (h 71) :: rest) := by
  obtain ⟨v, hv, hs⟩ := Bd_e hs
  exact cVN_I (K := KC D cA cL h Z) X 71 (n := 1) (k_X6_meeting hZ l D cA cL s x1 hv) (gt_c (gt_of 1136 (by decide +kernel) rfl) gt_t) (hZ.1 st st.heap X.2.2.2 _ wX6_meeting_X9) (gt_of 205 (by decide +kernel) rfl) (gt_of 1135 (by decide +kernel) rfl) (gt_of 81 (by decide +kernel) rfl) ⟨hd1, hd2⟩ ⟨by decide, by decide, by decide +kernel⟩ (As := [.int x1]) rfl hr (sh_71).1 (fs := cF6 h 71 (s.1 71) (s.2 71)) (GC_6 (cA := cA) (cL := cL) sh_71 _ _) rfl rfl d hq (k _ hs)
def C_X9_meets (s : ST) (x1 : Int32) : Option (Int32 × ST) := Lt (Lt (fun (a1 : Int32) => (Bd (C_X6_meeting s a1) fun y1 => some (y1.1, y1.2) : Option (Int32 × ST))) fun j2 => if x1 = 0 then (j2 (1 : Int32)) else (j2 (0 : Int32)) : Option (Int32 × ST)) fun j1 => if x1 = 0 then (j1) else (if x1 = (1 : Int32) then (j1) else (some ((-1 : Int32), s)))
set_option maxRecDepth 100000 in
set_option maxHeartbeats 4000000 in
theorem k_X9_meets {h : Nat → Nat} {Z : State → Heap → Prop} {sa : Nat → Nat} (hZ : ZK h Z sa) (l : Launch) (D : va_G) (cA cL : ClassId) (s : ST) (x1 : Int32) {o : Int32 × ST} (hs : C_X9_meets s x1 = some o) : MI l (KC D cA cL h Z) 8 yX9_meets cX9_meets 2 (some .int) s [.ref (h 0), .int x1] o.1 o.2 := by
  refine met_i (by decide) (Nat.le_of_ble_eq_true rfl) ?_
  intro p e st m args below meth c Q X RI
  unfold C_X9_meets at hs
  refine g_iload_n X dX9_meets_0 (q := 1) rfl 1 rfl ?_
  refine jnW0 (WG (KC D cA cL h Z) p l e (rmD 8) st m args below meth c Q 2 s 9 [(0, .ref (h 0)), (1, .int x1)] []) hs (fun  hs => ?_) (fun j1 ih1 hs => ?_)
  · refine g_aload_n X dX9_meets_9 (q := 10) rfl 0 rfl ?_
    refine cg_9_10 X dX9_meets_10 (q := 13) rfl sh_0 lf_X9_71 ?_
    refine g_iload_n X dX9_meets_13 (q := 14) rfl 1 rfl ?_
    refine jnW1 (fun (a1 : Int32) => WG (KC D cA cL h Z) p l e (rmD 8) st m args below meth c Q 2 s 22 [] [.int a1, .ref (h 71)]) hs (fun a1 hs => ?_) (fun j2 ih2 hs => ?_)
    · refine vc_X6_meeting_X9 hZ X dX9_meets_22 (q := 25) rfl (Nat.le_of_ble_eq_true rfl) (Nat.le_of_ble_eq_true rfl) (Nat.le_of_ble_eq_true rfl) hs (fun y1 hs => ?_)
      refine g_goto X dX9_meets_25 (tgt := 29) (by decide) ?_
      exact RI _ 29 _ _ _ (rU1 hs) rfl (rV1 hs) dX9_meets_29
    refine g_if_ne X dX9_meets_14 (q := 17) rfl (tgt := 21) (by decide) hs ?_ ?_
    · intro hs
      refine g_iconst X dX9_meets_21 (q := 22) rfl li_i0 ?_
      exact wg_sub [] rfl (ih2 _ hs)
    · intro hs
      refine g_iconst X dX9_meets_17 (q := 18) rfl li_i1 ?_
      refine g_goto X dX9_meets_18 (tgt := 22) (by decide) ?_
      exact wg_sub [] rfl (ih2 _ hs)
  refine g_if_eq X dX9_meets_1 (q := 4) rfl (tgt := 9) (by decide) hs ?_ ?_
  · intro hs
    exact wg_sub [0, 1] rfl (ih1 hs)
  · intro hs
    refine g_iload_n X dX9_meets_4 (q := 5) rfl 1 rfl ?_
    refine g_iconst X dX9_meets_5 (q := 6) rfl li_i1 ?_
    refine g_icmp_ne X dX9_meets_6 (q := 9) rfl (tgt := 28) (by decide) hs ?_ ?_
    · intro hs
      refine g_iconst X dX9_meets_28 (q := 29) rfl li_im1 ?_
      exact RI _ 29 _ _ _ (rU1 hs) rfl (rV1 hs) dX9_meets_29
    · intro hs
      exact wg_sub [0, 1] rfl (ih1 hs)
theorem dX9_sows_0 : decode cX9_sows 0 = .ok (.aload_n 0, 1) := by decide +kernel
theorem dX9_sows_1 : decode cX9_sows 1 = .ok (.getfield 19, 3) := by decide +kernel
theorem dX9_sows_4 : decode cX9_sows 4 = .ok (.getfield 139, 3) := by decide +kernel
theorem dX9_sows_7 : decode cX9_sows 7 = .ok (.iload_n 1, 1) := by decide +kernel
theorem dX9_sows_8 : decode cX9_sows 8 = .ok (.iconst 2, 1) := by decide +kernel
theorem dX9_sows_9 : decode cX9_sows 9 = .ok (.invokevirtual 241, 3) := by decide +kernel
theorem dX9_sows_12 : decode cX9_sows 12 = .ok (.aload_n 0, 1) := by decide +kernel
theorem dX9_sows_13 : decode cX9_sows 13 = .ok (.getfield 12, 3) := by decide +kernel
theorem dX9_sows_16 : decode cX9_sows 16 = .ok (.getfield 178, 3) := by decide +kernel
theorem dX9_sows_19 : decode cX9_sows 19 = .ok (.isub, 1) := by decide +kernel
theorem dX9_sows_20 : decode cX9_sows 20 = .ok (.istore_n 3, 1) := by decide +kernel
theorem dX9_sows_21 : decode cX9_sows 21 = .ok (.aload_n 0, 1) := by decide +kernel
theorem dX9_sows_22 : decode cX9_sows 22 = .ok (.getfield 19, 3) := by decide +kernel
theorem dX9_sows_25 : decode cX9_sows 25 = .ok (.getfield 139, 3) := by decide +kernel
theorem dX9_sows_28 : decode cX9_sows 28 = .ok (.iload_n 1, 1) := by decide +kernel
theorem dX9_sows_29 : decode cX9_sows 29 = .ok (.invokevirtual 268, 3) := by decide +kernel
theorem dX9_sows_32 : decode cX9_sows 32 = .ok (.ifCond .eq 22, 3) := by decide +kernel
theorem dX9_sows_35 : decode cX9_sows 35 = .ok (.iload_n 3, 1) := by decide +kernel
theorem dX9_sows_36 : decode cX9_sows 36 = .ok (.iconst 0, 1) := by decide +kernel
theorem dX9_sows_37 : decode cX9_sows 37 = .ok (.bipush 60, 2) := by decide +kernel
theorem dX9_sows_39 : decode cX9_sows 39 = .ok (.invokestatic 93, 3) := by decide +kernel
theorem dX9_sows_42 : decode cX9_sows 42 = .ok (.ifCond .eq 12, 3) := by decide +kernel
theorem dX9_sows_45 : decode cX9_sows 45 = .ok (.iload_n 2, 1) := by decide +kernel
theorem dX9_sows_46 : decode cX9_sows 46 = .ok (.iconst 0, 1) := by decide +kernel
theorem dX9_sows_47 : decode cX9_sows 47 = .ok (.iconst 2, 1) := by decide +kernel
theorem dX9_sows_48 : decode cX9_sows 48 = .ok (.invokestatic 93, 3) := by decide +kernel
theorem dX9_sows_51 : decode cX9_sows 51 = .ok (.ifCond .ne 5, 3) := by decide +kernel
theorem dX9_sows_54 : decode cX9_sows 54 = .ok (.iconst (-1), 1) := by decide +kernel
theorem dX9_sows_55 : decode cX9_sows 55 = .ok (.ireturn, 1) := by decide +kernel
theorem dX9_sows_56 : decode cX9_sows 56 = .ok (.aload_n 0, 1) := by decide +kernel
theorem dX9_sows_57 : decode cX9_sows 57 = .ok (.getfield 71, 3) := by decide +kernel
theorem dX9_sows_60 : decode cX9_sows 60 = .ok (.iload_n 1, 1) := by decide +kernel
theorem dX9_sows_61 : decode cX9_sows 61 = .ok (.iload_n 3, 1) := by decide +kernel
theorem dX9_sows_62 : decode cX9_sows 62 = .ok (.iconst 1, 1) := by decide +kernel
theorem dX9_sows_63 : decode cX9_sows 63 = .ok (.iadd, 1) := by decide +kernel
theorem dX9_sows_64 : decode cX9_sows 64 = .ok (.iload_n 2, 1) := by decide +kernel
theorem dX9_sows_65 : decode cX9_sows 65 = .ok (.invokevirtual 271, 3) := by decide +kernel
theorem dX9_sows_68 : decode cX9_sows 68 = .ok (.ireturn, 1) := by decide +kernel
theorem wX4_hasRow_X9 : Cond.methodLinkNest RX9 268 yX4_hasRow "StormSeeds" ∈ NW := nw_of 1149 (by decide +kernel) rfl
theorem vc_X4_hasRow_X9 {p : Program} {l : Launch} {e : Env} {st : State} {m : MethodId} {args : Array Value} {below : List Frame} {meth : Method} {c : Code} {Q : State → Prop} {nL : Nat} {cc : ByteArray} {s : ST} {pc q : Nat} {lv : List (Nat × Value)} {rest : List Value} {D : va_G} {cA cL : ClassId} {h : Nat → Nat} {Z : State → Heap → Prop} {sa : Nat → Nat} (hZ : ZK h Z sa) {d0 : Nat} (X : Cx (KC D cA cL h Z) p st m args meth c cc nL RX9) {b0 : Nat} {x1 : Int32} (d : decode cc pc = .ok (.invokevirtual 268, 3)) (hq : pc + 3 = q) (hb0 : isK 4 b0) (hd1 : 1 + 1 ≤ d0) (hd2 : 8 + (2 + 11) + 100 * 1 ≤ 100 * d0) (hr : (rest.map fun v => v.category).sum ≤ 8) {B : Type} {f : Int32 → B} {r : B} (hs : Lt (C_X4_hasRow s b0 x1) f = r) (k : ∀ y, f y = r → WG (KC D cA cL h Z) p l e (rmD d0) st m args below meth c Q nL s q lv (.int y :: rest)) : WG (KC D cA cL h Z) p l e (rmD d0) st m args below meth c Q nL s pc lv (.int x1 :: .ref (h b0) :: rest) := by
  exact cVN_I (K := KC D cA cL h Z) X b0 (n := 1) (k_X4_hasRow hZ l D cA cL s b0 x1 hb0) (gt_c (gt_of 915 (by decide +kernel) rfl) gt_t) (hZ.1 st st.heap X.2.2.2 _ wX4_hasRow_X9) (gt_of 199 (by decide +kernel) rfl) (gt_of 914 (by decide +kernel) rfl) (gt_of 49 (by decide +kernel) rfl) ⟨hd1, hd2⟩ ⟨by decide, by decide, by decide +kernel⟩ (As := [.int x1]) rfl hr (hb0).1 (fs := cF4 h b0 (s.1 b0) (s.2 b0)) (GC_4 (cA := cA) (cL := cL) hb0 _ _) rfl rfl d hq (k _ hs)
theorem wX6_bestSeed_X9 : Cond.methodLinkNest RX9 271 yX6_bestSeed "StormSeeds" ∈ NW := nw_of 1150 (by decide +kernel) rfl
theorem vc_X6_bestSeed_X9 {p : Program} {l : Launch} {e : Env} {st : State} {m : MethodId} {args : Array Value} {below : List Frame} {meth : Method} {c : Code} {Q : State → Prop} {nL : Nat} {cc : ByteArray} {s : ST} {pc q : Nat} {lv : List (Nat × Value)} {rest : List Value} {D : va_G} {cA cL : ClassId} {h : Nat → Nat} {Z : State → Heap → Prop} {sa : Nat → Nat} (hZ : ZK h Z sa) {d0 : Nat} (X : Cx (KC D cA cL h Z) p st m args meth c cc nL RX9) {x1 : Int32} {x2 : Int32} {x3 : Int32} (d : decode cc pc = .ok (.invokevirtual 271, 3)) (hq : pc + 3 = q) (hd1 : 8 + 1 ≤ d0) (hd2 : 8 + (10 + 11) + 100 * 8 ≤ 100 * d0) (hr : (rest.map fun v => v.category).sum ≤ 8) {B : Type} {f : Int32 × ST → Option B} {r : B} (hs : Bd (C_X6_bestSeed s x1 x2 x3) f = some r) (k : ∀ y, f y = some r → WG (KC D cA cL h Z) p l e (rmD d0) st m args below meth c Q nL y.2 q lv (.int y.1 :: rest)) : WG (KC D cA cL h Z) p l e (rmD d0) st m args below meth c Q nL s pc lv (.int x3 :: .int x2 :: .int x1 :: .ref (h 71) :: rest) := by
  obtain ⟨v, hv, hs⟩ := Bd_e hs
  exact cVN_I (K := KC D cA cL h Z) X 71 (n := 3) (k_X6_bestSeed hZ l D cA cL s x1 x2 x3 hv) (gt_c (gt_of 1153 (by decide +kernel) rfl) gt_t) (hZ.1 st st.heap X.2.2.2 _ wX6_bestSeed_X9) (gt_of 205 (by decide +kernel) rfl) (gt_of 1152 (by decide +kernel) rfl) (gt_of 83 (by decide +kernel) rfl) ⟨hd1, hd2⟩ ⟨by decide, by decide, by decide +kernel⟩ (As := [.int x1, .int x2, .int x3]) rfl hr (sh_71).1 (fs := cF6 h 71 (s.1 71) (s.2 71)) (GC_6 (cA := cA) (cL := cL) sh_71 _ _) rfl rfl d hq (k _ hs)
def C_X9_sows (s : ST) (x1 : Int32) (x2 : Int32) : Option (Int32 × ST) := Bd (C_X4_of s 19 x1 (2 : Int32)) fun y1 => Lt ((y1 - (s.1 1 2))) fun y2 => Lt (C_X4_hasRow s 19 x1) fun y3 => if y3 = 0 then (some ((-1 : Int32), s)) else (Lt (C_X9_isWithin s y2 (0 : Int32) (60 : Int32)) fun y4 => if y4 = 0 then (some ((-1 : Int32), s)) else (Lt (C_X9_isWithin s x2 (0 : Int32) (2 : Int32)) fun y5 => if y5 = 0 then (some ((-1 : Int32), s)) else (Bd (C_X6_bestSeed s x1 (y2 + (1 : Int32)) x2) fun y6 => some (y6.1, y6.2))))
set_option maxRecDepth 100000 in
set_option maxHeartbeats 4000000 in
theorem k_X9_sows {h : Nat → Nat} {Z : State → Heap → Prop} {sa : Nat → Nat} (hZ : ZK h Z sa) (l : Launch) (D : va_G) (cA cL : ClassId) (s : ST) (x1 : Int32) (x2 : Int32) {o : Int32 × ST} (hs : C_X9_sows s x1 x2 = some o) : MI l (KC D cA cL h Z) 9 yX9_sows cX9_sows 4 (some .int) s [.ref (h 0), .int x1, .int x2] o.1 o.2 := by
  refine met_i (by decide) (Nat.le_of_ble_eq_true rfl) ?_
  intro p e st m args below meth c Q X RI
  unfold C_X9_sows at hs
  refine g_aload_n X dX9_sows_0 (q := 1) rfl 0 rfl ?_
  refine cg_9_1 X dX9_sows_1 (q := 4) rfl sh_0 lf_X9_19 ?_
  refine cgN_7_3 hZ X dX9_sows_4 (q := 7) rfl sh_8 lf_X9_139 ?_
  refine g_iload_n X dX9_sows_7 (q := 8) rfl 1 rfl ?_
  refine g_iconst X dX9_sows_8 (q := 9) rfl li_i2 ?_
  refine vc_X4_of_X9 hZ X dX9_sows_9 (q := 12) rfl sh_19 (Nat.le_of_ble_eq_true rfl) (Nat.le_of_ble_eq_true rfl) (Nat.le_of_ble_eq_true rfl) hs (fun y1 hs => ?_)
  refine g_aload_n X dX9_sows_12 (q := 13) rfl 0 rfl ?_
  refine cg_9_0 X dX9_sows_13 (q := 16) rfl sh_0 lf_X9_12 ?_
  refine cgN_1_2 hZ X dX9_sows_16 (q := 19) rfl sh_1 lf_X9_178 ?_
  refine g_isub X dX9_sows_19 (q := 20) rfl ?_
  refine nmI hs (fun y2 hs => ?_)
  refine g_istore_n X dX9_sows_20 (q := 21) rfl (Nat.le_of_ble_eq_true rfl) (lv' := [(3, .int y2), (0, .ref (h 0)), (1, .int x1), (2, .int x2)]) rfl ?_
  refine g_aload_n X dX9_sows_21 (q := 22) rfl 1 rfl ?_
  refine cg_9_1 X dX9_sows_22 (q := 25) rfl sh_0 lf_X9_19 ?_
  refine cgN_7_3 hZ X dX9_sows_25 (q := 28) rfl sh_8 lf_X9_139 ?_
  refine g_iload_n X dX9_sows_28 (q := 29) rfl 2 rfl ?_
  refine vc_X4_hasRow_X9 hZ X dX9_sows_29 (q := 32) rfl sh_19 (Nat.le_of_ble_eq_true rfl) (Nat.le_of_ble_eq_true rfl) (Nat.le_of_ble_eq_true rfl) hs (fun y3 hs => ?_)
  refine g_if_eq X dX9_sows_32 (q := 35) rfl (tgt := 54) (by decide) hs ?_ ?_
  · intro hs
    refine g_iconst X dX9_sows_54 (q := 55) rfl li_im1 ?_
    exact RI _ 55 _ _ _ (rU1 hs) rfl (rV1 hs) dX9_sows_55
  · intro hs
    refine g_iload_n X dX9_sows_35 (q := 36) rfl 0 rfl ?_
    refine g_iconst X dX9_sows_36 (q := 37) rfl li_i0 ?_
    refine g_bipush X dX9_sows_37 (q := 39) rfl li_b60 ?_
    refine vc_X9_isWithin_X9 hZ X dX9_sows_39 (q := 42) rfl (Nat.le_of_ble_eq_true rfl) (Nat.le_of_ble_eq_true rfl) (Nat.le_of_ble_eq_true rfl) hs (fun y4 hs => ?_)
    refine g_if_eq X dX9_sows_42 (q := 45) rfl (tgt := 54) (by decide) hs ?_ ?_
    · intro hs
      refine g_iconst X dX9_sows_54 (q := 55) rfl li_im1 ?_
      exact RI _ 55 _ _ _ (rU1 hs) rfl (rV1 hs) dX9_sows_55
    · intro hs
      refine g_iload_n X dX9_sows_45 (q := 46) rfl 3 rfl ?_
      refine g_iconst X dX9_sows_46 (q := 47) rfl li_i0 ?_
      refine g_iconst X dX9_sows_47 (q := 48) rfl li_i2 ?_
      refine vc_X9_isWithin_X9 hZ X dX9_sows_48 (q := 51) rfl (Nat.le_of_ble_eq_true rfl) (Nat.le_of_ble_eq_true rfl) (Nat.le_of_ble_eq_true rfl) hs (fun y5 hs => ?_)
      refine g_if_ne X dX9_sows_51 (q := 54) rfl (tgt := 56) (by decide) hs ?_ ?_
      · intro hs
        refine g_aload_n X dX9_sows_56 (q := 57) rfl 1 rfl ?_
        refine cg_9_10 X dX9_sows_57 (q := 60) rfl sh_0 lf_X9_71 ?_
        refine g_iload_n X dX9_sows_60 (q := 61) rfl 2 rfl ?_
        refine g_iload_n X dX9_sows_61 (q := 62) rfl 0 rfl ?_
        refine g_iconst X dX9_sows_62 (q := 63) rfl li_i1 ?_
        refine g_iadd X dX9_sows_63 (q := 64) rfl ?_
        refine g_iload_n X dX9_sows_64 (q := 65) rfl 3 rfl ?_
        refine vc_X6_bestSeed_X9 hZ X dX9_sows_65 (q := 68) rfl (Nat.le_of_ble_eq_true rfl) (Nat.le_of_ble_eq_true rfl) (Nat.le_of_ble_eq_true rfl) hs (fun y6 hs => ?_)
        exact RI _ 68 _ _ _ (rU1 hs) rfl (rV1 hs) dX9_sows_68
      · intro hs
        refine g_iconst X dX9_sows_54 (q := 55) rfl li_im1 ?_
        exact RI _ 55 _ _ _ (rU1 hs) rfl (rV1 hs) dX9_sows_55
theorem dX9_gets_0 : decode cX9_gets 0 = .ok (.aload_n 0, 1) := by decide +kernel
theorem dX9_gets_1 : decode cX9_gets 1 = .ok (.getfield 19, 3) := by decide +kernel
theorem dX9_gets_4 : decode cX9_gets 4 = .ok (.iload_n 1, 1) := by decide +kernel
theorem dX9_gets_5 : decode cX9_gets 5 = .ok (.invokevirtual 151, 3) := by decide +kernel
theorem dX9_gets_8 : decode cX9_gets 8 = .ok (.ifCond .eq 41, 3) := by decide +kernel
theorem dX9_gets_11 : decode cX9_gets 11 = .ok (.aload_n 0, 1) := by decide +kernel
theorem dX9_gets_12 : decode cX9_gets 12 = .ok (.getfield 12, 3) := by decide +kernel
theorem dX9_gets_15 : decode cX9_gets 15 = .ok (.iload_n 2, 1) := by decide +kernel
theorem dX9_gets_16 : decode cX9_gets 16 = .ok (.invokevirtual 189, 3) := by decide +kernel
theorem dX9_gets_19 : decode cX9_gets 19 = .ok (.ifCond .eq 30, 3) := by decide +kernel
theorem dX9_gets_22 : decode cX9_gets 22 = .ok (.aload_n 0, 1) := by decide +kernel
theorem dX9_gets_23 : decode cX9_gets 23 = .ok (.getfield 12, 3) := by decide +kernel
theorem dX9_gets_26 : decode cX9_gets 26 = .ok (.iload_n 2, 1) := by decide +kernel
theorem dX9_gets_27 : decode cX9_gets 27 = .ok (.invokevirtual 199, 3) := by decide +kernel
theorem dX9_gets_30 : decode cX9_gets 30 = .ok (.ifCond .ne 19, 3) := by decide +kernel
theorem dX9_gets_33 : decode cX9_gets 33 = .ok (.aload_n 0, 1) := by decide +kernel
theorem dX9_gets_34 : decode cX9_gets 34 = .ok (.getfield 12, 3) := by decide +kernel
theorem dX9_gets_37 : decode cX9_gets 37 = .ok (.iload_n 3, 1) := by decide +kernel
theorem dX9_gets_38 : decode cX9_gets 38 = .ok (.invokevirtual 189, 3) := by decide +kernel
theorem dX9_gets_41 : decode cX9_gets 41 = .ok (.ifCond .eq 8, 3) := by decide +kernel
theorem dX9_gets_44 : decode cX9_gets 44 = .ok (.iload_n 2, 1) := by decide +kernel
theorem dX9_gets_45 : decode cX9_gets 45 = .ok (.iload_n 3, 1) := by decide +kernel
theorem dX9_gets_46 : decode cX9_gets 46 = .ok (.if_icmp .ne 5, 3) := by decide +kernel
theorem dX9_gets_49 : decode cX9_gets 49 = .ok (.iconst (-1), 1) := by decide +kernel
theorem dX9_gets_50 : decode cX9_gets 50 = .ok (.ireturn, 1) := by decide +kernel
theorem dX9_gets_51 : decode cX9_gets 51 = .ok (.aload_n 0, 1) := by decide +kernel
theorem dX9_gets_52 : decode cX9_gets 52 = .ok (.getfield 71, 3) := by decide +kernel
theorem dX9_gets_55 : decode cX9_gets 55 = .ok (.iload_n 1, 1) := by decide +kernel
theorem dX9_gets_56 : decode cX9_gets 56 = .ok (.iload_n 2, 1) := by decide +kernel
theorem dX9_gets_57 : decode cX9_gets 57 = .ok (.iload_n 3, 1) := by decide +kernel
theorem dX9_gets_58 : decode cX9_gets 58 = .ok (.invokevirtual 275, 3) := by decide +kernel
theorem dX9_gets_61 : decode cX9_gets 61 = .ok (.ireturn, 1) := by decide +kernel
theorem wX6_getting_X9 : Cond.methodLinkNest RX9 275 yX6_getting "StormSeeds" ∈ NW := nw_of 1160 (by decide +kernel) rfl
theorem vc_X6_getting_X9 {p : Program} {l : Launch} {e : Env} {st : State} {m : MethodId} {args : Array Value} {below : List Frame} {meth : Method} {c : Code} {Q : State → Prop} {nL : Nat} {cc : ByteArray} {s : ST} {pc q : Nat} {lv : List (Nat × Value)} {rest : List Value} {D : va_G} {cA cL : ClassId} {h : Nat → Nat} {Z : State → Heap → Prop} {sa : Nat → Nat} (hZ : ZK h Z sa) {d0 : Nat} (X : Cx (KC D cA cL h Z) p st m args meth c cc nL RX9) {x1 : Int32} {x2 : Int32} {x3 : Int32} (d : decode cc pc = .ok (.invokevirtual 275, 3)) (hq : pc + 3 = q) (hd1 : 7 + 1 ≤ d0) (hd2 : 8 + (5 + 11) + 100 * 7 ≤ 100 * d0) (hr : (rest.map fun v => v.category).sum ≤ 8) {B : Type} {f : Int32 × ST → Option B} {r : B} (hs : Bd (C_X6_getting s x1 x2 x3) f = some r) (k : ∀ y, f y = some r → WG (KC D cA cL h Z) p l e (rmD d0) st m args below meth c Q nL y.2 q lv (.int y.1 :: rest)) : WG (KC D cA cL h Z) p l e (rmD d0) st m args below meth c Q nL s pc lv (.int x3 :: .int x2 :: .int x1 :: .ref (h 71) :: rest) := by
  obtain ⟨v, hv, hs⟩ := Bd_e hs
  exact cVN_I (K := KC D cA cL h Z) X 71 (n := 3) (k_X6_getting hZ l D cA cL s x1 x2 x3 hv) (gt_c (gt_of 1163 (by decide +kernel) rfl) gt_t) (hZ.1 st st.heap X.2.2.2 _ wX6_getting_X9) (gt_of 205 (by decide +kernel) rfl) (gt_of 1162 (by decide +kernel) rfl) (gt_of 84 (by decide +kernel) rfl) ⟨hd1, hd2⟩ ⟨by decide, by decide, by decide +kernel⟩ (As := [.int x1, .int x2, .int x3]) rfl hr (sh_71).1 (fs := cF6 h 71 (s.1 71) (s.2 71)) (GC_6 (cA := cA) (cL := cL) sh_71 _ _) rfl rfl d hq (k _ hs)
def C_X9_gets (s : ST) (x1 : Int32) (x2 : Int32) (x3 : Int32) : Option (Int32 × ST) := Lt (C_X7_hasKind s 8 x1) fun y1 => if y1 = 0 then (some ((-1 : Int32), s)) else (Lt (C_X1_isCell s 1 x2) fun y2 => if y2 = 0 then (some ((-1 : Int32), s)) else (Lt (C_X1_hasHedge s 1 x2) fun y3 => if y3 = 0 then (Lt (C_X1_isCell s 1 x3) fun y4 => if y4 = 0 then (some ((-1 : Int32), s)) else (if x2 = x3 then (some ((-1 : Int32), s)) else (Bd (C_X6_getting s x1 x2 x3) fun y5 => some (y5.1, y5.2)))) else (some ((-1 : Int32), s))))
set_option maxRecDepth 100000 in
set_option maxHeartbeats 4000000 in
theorem k_X9_gets {h : Nat → Nat} {Z : State → Heap → Prop} {sa : Nat → Nat} (hZ : ZK h Z sa) (l : Launch) (D : va_G) (cA cL : ClassId) (s : ST) (x1 : Int32) (x2 : Int32) (x3 : Int32) {o : Int32 × ST} (hs : C_X9_gets s x1 x2 x3 = some o) : MI l (KC D cA cL h Z) 8 yX9_gets cX9_gets 4 (some .int) s [.ref (h 0), .int x1, .int x2, .int x3] o.1 o.2 := by
  refine met_i (by decide) (Nat.le_of_ble_eq_true rfl) ?_
  intro p e st m args below meth c Q X RI
  unfold C_X9_gets at hs
  refine g_aload_n X dX9_gets_0 (q := 1) rfl 0 rfl ?_
  refine cg_9_1 X dX9_gets_1 (q := 4) rfl sh_0 lf_X9_19 ?_
  refine g_iload_n X dX9_gets_4 (q := 5) rfl 1 rfl ?_
  refine vc_X7_hasKind_X9 hZ X dX9_gets_5 (q := 8) rfl sh_8 (Nat.le_of_ble_eq_true rfl) (Nat.le_of_ble_eq_true rfl) (Nat.le_of_ble_eq_true rfl) hs (fun y1 hs => ?_)
  refine g_if_eq X dX9_gets_8 (q := 11) rfl (tgt := 49) (by decide) hs ?_ ?_
  · intro hs
    refine g_iconst X dX9_gets_49 (q := 50) rfl li_im1 ?_
    exact RI _ 50 _ _ _ (rU1 hs) rfl (rV1 hs) dX9_gets_50
  · intro hs
    refine g_aload_n X dX9_gets_11 (q := 12) rfl 0 rfl ?_
    refine cg_9_0 X dX9_gets_12 (q := 15) rfl sh_0 lf_X9_12 ?_
    refine g_iload_n X dX9_gets_15 (q := 16) rfl 2 rfl ?_
    refine vc_X1_isCell_X9 hZ X dX9_gets_16 (q := 19) rfl sh_1 (Nat.le_of_ble_eq_true rfl) (Nat.le_of_ble_eq_true rfl) (Nat.le_of_ble_eq_true rfl) hs (fun y2 hs => ?_)
    refine g_if_eq X dX9_gets_19 (q := 22) rfl (tgt := 49) (by decide) hs ?_ ?_
    · intro hs
      refine g_iconst X dX9_gets_49 (q := 50) rfl li_im1 ?_
      exact RI _ 50 _ _ _ (rU1 hs) rfl (rV1 hs) dX9_gets_50
    · intro hs
      refine g_aload_n X dX9_gets_22 (q := 23) rfl 0 rfl ?_
      refine cg_9_0 X dX9_gets_23 (q := 26) rfl sh_0 lf_X9_12 ?_
      refine g_iload_n X dX9_gets_26 (q := 27) rfl 2 rfl ?_
      refine vc_X1_hasHedge_X9 hZ X dX9_gets_27 (q := 30) rfl sh_1 (Nat.le_of_ble_eq_true rfl) (Nat.le_of_ble_eq_true rfl) (Nat.le_of_ble_eq_true rfl) hs (fun y3 hs => ?_)
      refine g_if_ne X dX9_gets_30 (q := 33) rfl (tgt := 49) (by decide) hs ?_ ?_
      · intro hs
        refine g_iconst X dX9_gets_49 (q := 50) rfl li_im1 ?_
        exact RI _ 50 _ _ _ (rU1 hs) rfl (rV1 hs) dX9_gets_50
      · intro hs
        refine g_aload_n X dX9_gets_33 (q := 34) rfl 0 rfl ?_
        refine cg_9_0 X dX9_gets_34 (q := 37) rfl sh_0 lf_X9_12 ?_
        refine g_iload_n X dX9_gets_37 (q := 38) rfl 3 rfl ?_
        refine vc_X1_isCell_X9 hZ X dX9_gets_38 (q := 41) rfl sh_1 (Nat.le_of_ble_eq_true rfl) (Nat.le_of_ble_eq_true rfl) (Nat.le_of_ble_eq_true rfl) hs (fun y4 hs => ?_)
        refine g_if_eq X dX9_gets_41 (q := 44) rfl (tgt := 49) (by decide) hs ?_ ?_
        · intro hs
          refine g_iconst X dX9_gets_49 (q := 50) rfl li_im1 ?_
          exact RI _ 50 _ _ _ (rU1 hs) rfl (rV1 hs) dX9_gets_50
        · intro hs
          refine g_iload_n X dX9_gets_44 (q := 45) rfl 2 rfl ?_
          refine g_iload_n X dX9_gets_45 (q := 46) rfl 3 rfl ?_
          refine g_icmp_ne X dX9_gets_46 (q := 49) rfl (tgt := 51) (by decide) hs ?_ ?_
          · intro hs
            refine g_aload_n X dX9_gets_51 (q := 52) rfl 0 rfl ?_
            refine cg_9_10 X dX9_gets_52 (q := 55) rfl sh_0 lf_X9_71 ?_
            refine g_iload_n X dX9_gets_55 (q := 56) rfl 1 rfl ?_
            refine g_iload_n X dX9_gets_56 (q := 57) rfl 2 rfl ?_
            refine g_iload_n X dX9_gets_57 (q := 58) rfl 3 rfl ?_
            refine vc_X6_getting_X9 hZ X dX9_gets_58 (q := 61) rfl (Nat.le_of_ble_eq_true rfl) (Nat.le_of_ble_eq_true rfl) (Nat.le_of_ble_eq_true rfl) hs (fun y5 hs => ?_)
            exact RI _ 61 _ _ _ (rU1 hs) rfl (rV1 hs) dX9_gets_61
          · intro hs
            refine g_iconst X dX9_gets_49 (q := 50) rfl li_im1 ?_
            exact RI _ 50 _ _ _ (rU1 hs) rfl (rV1 hs) dX9_gets_50
theorem dX9_weeds_0 : decode cX9_weeds 0 = .ok (.lload_n 1, 1) := by decide +kernel
theorem dX9_weeds_1 : decode cX9_weeds 1 = .ok (.aload_n 0, 1) := by decide +kernel
theorem dX9_weeds_2 : decode cX9_weeds 2 = .ok (.getfield 12, 3) := by decide +kernel
theorem dX9_weeds_5 : decode cX9_weeds 5 = .ok (.invokevirtual 278, 3) := by decide +kernel
theorem dX9_weeds_8 : decode cX9_weeds 8 = .ok (.ldc2_w 259, 3) := by decide +kernel
theorem dX9_weeds_11 : decode cX9_weeds 11 = .ok (.lxor, 1) := by decide +kernel
theorem dX9_weeds_12 : decode cX9_weeds 12 = .ok (.land, 1) := by decide +kernel
theorem dX9_weeds_13 : decode cX9_weeds 13 = .ok (.lconst 0, 1) := by decide +kernel
theorem dX9_weeds_14 : decode cX9_weeds 14 = .ok (.lcmp, 1) := by decide +kernel
theorem dX9_weeds_15 : decode cX9_weeds 15 = .ok (.ifCond .ne 38, 3) := by decide +kernel
theorem dX9_weeds_18 : decode cX9_weeds 18 = .ok (.iload_n 3, 1) := by decide +kernel
theorem dX9_weeds_19 : decode cX9_weeds 19 = .ok (.iconst 1, 1) := by decide +kernel
theorem dX9_weeds_20 : decode cX9_weeds 20 = .ok (.bipush 60, 2) := by decide +kernel
theorem dX9_weeds_22 : decode cX9_weeds 22 = .ok (.invokestatic 93, 3) := by decide +kernel
theorem dX9_weeds_25 : decode cX9_weeds 25 = .ok (.ifCond .eq 28, 3) := by decide +kernel
theorem dX9_weeds_28 : decode cX9_weeds 28 = .ok (.iload 4, 2) := by decide +kernel
theorem dX9_weeds_30 : decode cX9_weeds 30 = .ok (.iconst 0, 1) := by decide +kernel
theorem dX9_weeds_31 : decode cX9_weeds 31 = .ok (.iconst 1, 1) := by decide +kernel
theorem dX9_weeds_32 : decode cX9_weeds 32 = .ok (.invokestatic 93, 3) := by decide +kernel
theorem dX9_weeds_35 : decode cX9_weeds 35 = .ok (.ifCond .eq 18, 3) := by decide +kernel
theorem dX9_weeds_38 : decode cX9_weeds 38 = .ok (.aload_n 0, 1) := by decide +kernel
theorem dX9_weeds_39 : decode cX9_weeds 39 = .ok (.getfield 12, 3) := by decide +kernel
theorem dX9_weeds_42 : decode cX9_weeds 42 = .ok (.getfield 245, 3) := by decide +kernel
theorem dX9_weeds_45 : decode cX9_weeds 45 = .ok (.invokestatic 282, 3) := by decide +kernel
theorem dX9_weeds_48 : decode cX9_weeds 48 = .ok (.bipush 10, 2) := by decide +kernel
theorem dX9_weeds_50 : decode cX9_weeds 50 = .ok (.if_icmp .le 7, 3) := by decide +kernel
theorem dX9_weeds_53 : decode cX9_weeds 53 = .ok (.ldc2_w 259, 3) := by decide +kernel
theorem dX9_weeds_56 : decode cX9_weeds 56 = .ok (.lreturn, 1) := by decide +kernel
theorem dX9_weeds_57 : decode cX9_weeds 57 = .ok (.aload_n 0, 1) := by decide +kernel
theorem dX9_weeds_58 : decode cX9_weeds 58 = .ok (.getfield 71, 3) := by decide +kernel
theorem dX9_weeds_61 : decode cX9_weeds 61 = .ok (.lload_n 1, 1) := by decide +kernel
theorem dX9_weeds_62 : decode cX9_weeds 62 = .ok (.iload_n 3, 1) := by decide +kernel
theorem dX9_weeds_63 : decode cX9_weeds 63 = .ok (.invokevirtual 288, 3) := by decide +kernel
theorem dX9_weeds_66 : decode cX9_weeds 66 = .ok (.lstore 5, 2) := by decide +kernel
theorem dX9_weeds_68 : decode cX9_weeds 68 = .ok (.lload 5, 2) := by decide +kernel
theorem dX9_weeds_70 : decode cX9_weeds 70 = .ok (.ldc2_w 259, 3) := by decide +kernel
theorem dX9_weeds_73 : decode cX9_weeds 73 = .ok (.lcmp, 1) := by decide +kernel
theorem dX9_weeds_74 : decode cX9_weeds 74 = .ok (.ifCond .eq 9, 3) := by decide +kernel
theorem dX9_weeds_77 : decode cX9_weeds 77 = .ok (.iload 4, 2) := by decide +kernel
theorem dX9_weeds_79 : decode cX9_weeds 79 = .ok (.iconst 1, 1) := by decide +kernel
theorem dX9_weeds_80 : decode cX9_weeds 80 = .ok (.if_icmp .ne 8, 3) := by decide +kernel
theorem dX9_weeds_83 : decode cX9_weeds 83 = .ok (.lload 5, 2) := by decide +kernel
theorem dX9_weeds_85 : decode cX9_weeds 85 = .ok (.goto 9, 3) := by decide +kernel
theorem dX9_weeds_88 : decode cX9_weeds 88 = .ok (.lload 5, 2) := by decide +kernel
theorem dX9_weeds_90 : decode cX9_weeds 90 = .ok (.invokestatic 282, 3) := by decide +kernel
theorem dX9_weeds_93 : decode cX9_weeds 93 = .ok (.i2l, 1) := by decide +kernel
theorem dX9_weeds_94 : decode cX9_weeds 94 = .ok (.lreturn, 1) := by decide +kernel
theorem wX1_allCells_X9 : Cond.methodLinkNest RX9 278 yX1_allCells "StormSeeds" ∈ NW := nw_of 1169 (by decide +kernel) rfl
theorem vc_X1_allCells_X9 {p : Program} {l : Launch} {e : Env} {st : State} {m : MethodId} {args : Array Value} {below : List Frame} {meth : Method} {c : Code} {Q : State → Prop} {nL : Nat} {cc : ByteArray} {s : ST} {pc q : Nat} {lv : List (Nat × Value)} {rest : List Value} {D : va_G} {cA cL : ClassId} {h : Nat → Nat} {Z : State → Heap → Prop} {sa : Nat → Nat} (hZ : ZK h Z sa) {d0 : Nat} (X : Cx (KC D cA cL h Z) p st m args meth c cc nL RX9) {b0 : Nat} (d : decode cc pc = .ok (.invokevirtual 278, 3)) (hq : pc + 3 = q) (hb0 : isK 1 b0) (hd1 : 2 + 1 ≤ d0) (hd2 : 8 + (4 + 11) + 100 * 2 ≤ 100 * d0) (hr : (rest.map fun v => v.category).sum ≤ 8) {B : Type} {f : Int64 → Option B} {r : B} (hs : Bd (C_X1_allCells s b0) f = some r) (k : ∀ y, f y = some r → WG (KC D cA cL h Z) p l e (rmD d0) st m args below meth c Q nL s q lv (.long y :: rest)) : WG (KC D cA cL h Z) p l e (rmD d0) st m args below meth c Q nL s pc lv (.ref (h b0) :: rest) := by
  obtain ⟨v, hv, hs⟩ := Bd_e hs
  exact cVN_L (K := KC D cA cL h Z) X b0 (n := 0) (k_X1_allCells hZ l D cA cL s b0 hb0 hv) (gt_c (gt_of 1172 (by decide +kernel) rfl) gt_t) (hZ.1 st st.heap X.2.2.2 _ wX1_allCells_X9) (gt_of 197 (by decide +kernel) rfl) (gt_of 1171 (by decide +kernel) rfl) (gt_of 85 (by decide +kernel) rfl) ⟨hd1, hd2⟩ ⟨by decide, by decide, by decide +kernel⟩ (As := []) rfl hr (hb0).1 (fs := cF1 h b0 (s.1 b0) (s.2 b0)) (GC_1 (cA := cA) (cL := cL) hb0 _ _) rfl rfl d hq (k _ hs)
theorem wX6_fewestWeeds_X9 : Cond.methodLinkNest RX9 288 yX6_fewestWeeds "StormSeeds" ∈ NW := nw_of 1173 (by decide +kernel) rfl
theorem vc_X6_fewestWeeds_X9 {p : Program} {l : Launch} {e : Env} {st : State} {m : MethodId} {args : Array Value} {below : List Frame} {meth : Method} {c : Code} {Q : State → Prop} {nL : Nat} {cc : ByteArray} {s : ST} {pc q : Nat} {lv : List (Nat × Value)} {rest : List Value} {D : va_G} {cA cL : ClassId} {h : Nat → Nat} {Z : State → Heap → Prop} {sa : Nat → Nat} (hZ : ZK h Z sa) {d0 : Nat} (X : Cx (KC D cA cL h Z) p st m args meth c cc nL RX9) {x1 : Int64} {x2 : Int32} (d : decode cc pc = .ok (.invokevirtual 288, 3)) (hq : pc + 3 = q) (hd1 : 8 + 1 ≤ d0) (hd2 : 8 + (9 + 11) + 100 * 8 ≤ 100 * d0) (hr : (rest.map fun v => v.category).sum ≤ 8) {B : Type} {f : Int64 × ST → Option B} {r : B} (hs : Bd (C_X6_fewestWeeds s x1 x2) f = some r) (k : ∀ y, f y = some r → WG (KC D cA cL h Z) p l e (rmD d0) st m args below meth c Q nL y.2 q lv (.long y.1 :: rest)) : WG (KC D cA cL h Z) p l e (rmD d0) st m args below meth c Q nL s pc lv (.int x2 :: .long x1 :: .ref (h 71) :: rest) := by
  obtain ⟨v, hv, hs⟩ := Bd_e hs
  exact cVN_L (K := KC D cA cL h Z) X 71 (n := 2) (k_X6_fewestWeeds hZ l D cA cL s x1 x2 hv) (gt_c (gt_of 1176 (by decide +kernel) rfl) gt_t) (hZ.1 st st.heap X.2.2.2 _ wX6_fewestWeeds_X9) (gt_of 205 (by decide +kernel) rfl) (gt_of 1175 (by decide +kernel) rfl) (gt_of 86 (by decide +kernel) rfl) ⟨hd1, hd2⟩ ⟨by decide, by decide, by decide +kernel⟩ (As := [.long x1, .int x2]) rfl hr (sh_71).1 (fs := cF6 h 71 (s.1 71) (s.2 71)) (GC_6 (cA := cA) (cL := cL) sh_71 _ _) rfl rfl d hq (k _ hs)
def C_X9_weeds (s : ST) (x1 : Int64) (x2 : Int32) (x3 : Int32) : Option (Int64 × ST) := Bd (C_X1_allCells s 1) fun y1 => Lt (some ((-1 : Int64), s) : Option (Int64 × ST)) fun j1 => if (lg_cmp (x1 &&& (y1 ^^^ (-1 : Int64))) (0 : Int64)) = 0 then (Lt (C_X9_isWithin s x2 (1 : Int32) (60 : Int32)) fun y2 => if y2 = 0 then (j1) else (Lt (C_X9_isWithin s x3 (0 : Int32) (1 : Int32)) fun y3 => if y3 = 0 then (j1) else (Lt (C_J13_bitCount_95d88 s (s.2 1 8)) fun y4 => if y4 ≤ (10 : Int32) then (Bd (C_X6_fewestWeeds s x1 x2) fun y5 => Lt (some (y5.1, y5.2) : Option (Int64 × ST)) fun j2 => if (lg_cmp y5.1 (-1 : Int64)) = 0 then (j2) else (if x3 = (1 : Int32) then (j2) else (Lt (C_J13_bitCount_95d88 y5.2 y5.1) fun y6 => some (y6.toInt64, y5.2)))) else (j1)))) else (j1)
set_option maxRecDepth 100000 in
set_option maxHeartbeats 4000000 in
theorem k_X9_weeds {h : Nat → Nat} {Z : State → Heap → Prop} {sa : Nat → Nat} (hZ : ZK h Z sa) (l : Launch) (D : va_G) (cA cL : ClassId) (s : ST) (x1 : Int64) (x2 : Int32) (x3 : Int32) {o : Int64 × ST} (hs : C_X9_weeds s x1 x2 x3 = some o) : ML l (KC D cA cL h Z) 9 yX9_weeds cX9_weeds 7 (some .long) s [.ref (h 0), .long x1, .int x2, .int x3] o.1 o.2 := by
  refine met_l (by decide) (Nat.le_of_ble_eq_true rfl) ?_
  intro p e st m args below meth c Q X RI
  unfold C_X9_weeds at hs
  refine g_lload_n X dX9_weeds_0 (q := 1) rfl 1 rfl ?_
  refine g_aload_n X dX9_weeds_1 (q := 2) rfl 0 rfl ?_
  refine cg_9_0 X dX9_weeds_2 (q := 5) rfl sh_0 lf_X9_12 ?_
  refine vc_X1_allCells_X9 hZ X dX9_weeds_5 (q := 8) rfl sh_1 (Nat.le_of_ble_eq_true rfl) (Nat.le_of_ble_eq_true rfl) (Nat.le_of_ble_eq_true rfl) hs (fun y1 hs => ?_)
  refine g_ldc2_w X dX9_weeds_8 (q := 11) rfl kc_X9_259 ?_
  refine g_lxor X dX9_weeds_11 (q := 12) rfl ?_
  refine g_land X dX9_weeds_12 (q := 13) rfl ?_
  refine g_lconst X dX9_weeds_13 (q := 14) rfl li_l0 ?_
  refine g_lcmp X dX9_weeds_14 (q := 15) rfl ?_
  refine jnW0 (WG (KC D cA cL h Z) p l e (rmD 9) st m args below meth c Q 7 s 53 [] []) hs (fun  hs => ?_) (fun j1 ih1 hs => ?_)
  · refine g_ldc2_w X dX9_weeds_53 (q := 56) rfl kc_X9_259 ?_
    exact RI _ 56 _ _ (rU1 hs) (rV1 hs) dX9_weeds_56
  refine g_if_ne X dX9_weeds_15 (q := 18) rfl (tgt := 53) (by decide) hs ?_ ?_
  · intro hs
    exact wg_sub [] rfl (ih1 hs)
  · intro hs
    refine g_iload_n X dX9_weeds_18 (q := 19) rfl 2 rfl ?_
    refine g_iconst X dX9_weeds_19 (q := 20) rfl li_i1 ?_
    refine g_bipush X dX9_weeds_20 (q := 22) rfl li_b60 ?_
    refine vc_X9_isWithin_X9 hZ X dX9_weeds_22 (q := 25) rfl (Nat.le_of_ble_eq_true rfl) (Nat.le_of_ble_eq_true rfl) (Nat.le_of_ble_eq_true rfl) hs (fun y2 hs => ?_)
    refine g_if_eq X dX9_weeds_25 (q := 28) rfl (tgt := 53) (by decide) hs ?_ ?_
    · intro hs
      exact wg_sub [] rfl (ih1 hs)
    · intro hs
      refine g_iload X dX9_weeds_28 (q := 30) rfl 3 rfl ?_
      refine g_iconst X dX9_weeds_30 (q := 31) rfl li_i0 ?_
      refine g_iconst X dX9_weeds_31 (q := 32) rfl li_i1 ?_
      refine vc_X9_isWithin_X9 hZ X dX9_weeds_32 (q := 35) rfl (Nat.le_of_ble_eq_true rfl) (Nat.le_of_ble_eq_true rfl) (Nat.le_of_ble_eq_true rfl) hs (fun y3 hs => ?_)
      refine g_if_eq X dX9_weeds_35 (q := 38) rfl (tgt := 53) (by decide) hs ?_ ?_
      · intro hs
        exact wg_sub [] rfl (ih1 hs)
      · intro hs
        refine g_aload_n X dX9_weeds_38 (q := 39) rfl 0 rfl ?_
        refine cg_9_0 X dX9_weeds_39 (q := 42) rfl sh_0 lf_X9_12 ?_
        refine cgN_1_8 hZ X dX9_weeds_42 (q := 45) rfl sh_1 lf_X9_245 ?_
        refine vc_J13_bitCount_95d88_X9 hZ X dX9_weeds_45 (q := 48) rfl (Nat.le_of_ble_eq_true rfl) (Nat.le_of_ble_eq_true rfl) (Nat.le_of_ble_eq_true rfl) hs (fun y4 hs => ?_)
        refine g_bipush X dX9_weeds_48 (q := 50) rfl li_b10 ?_
        refine g_icmp_le X dX9_weeds_50 (q := 53) rfl (tgt := 57) (by decide) hs ?_ ?_
        · intro hs
          refine g_aload_n X dX9_weeds_57 (q := 58) rfl 0 rfl ?_
          refine cg_9_10 X dX9_weeds_58 (q := 61) rfl sh_0 lf_X9_71 ?_
          refine g_lload_n X dX9_weeds_61 (q := 62) rfl 1 rfl ?_
          refine g_iload_n X dX9_weeds_62 (q := 63) rfl 2 rfl ?_
          refine vc_X6_fewestWeeds_X9 hZ X dX9_weeds_63 (q := 66) rfl (Nat.le_of_ble_eq_true rfl) (Nat.le_of_ble_eq_true rfl) (Nat.le_of_ble_eq_true rfl) hs (fun y5 hs => ?_)
          refine g_lstore X dX9_weeds_66 (q := 68) rfl (Nat.le_of_ble_eq_true rfl) (lv' := [(5, .long y5.1), (0, .ref (h 0)), (1, .long x1), (3, .int x2), (4, .int x3)]) rfl ?_
          refine g_lload X dX9_weeds_68 (q := 70) rfl 0 rfl ?_
          refine g_ldc2_w X dX9_weeds_70 (q := 73) rfl kc_X9_259 ?_
          refine g_lcmp X dX9_weeds_73 (q := 74) rfl ?_
          refine jnW0 (WG (KC D cA cL h Z) p l e (rmD 9) st m args below meth c Q 7 y5.2 83 [(5, .long y5.1)] []) hs (fun  hs => ?_) (fun j2 ih2 hs => ?_)
          · refine g_lload X dX9_weeds_83 (q := 85) rfl 0 rfl ?_
            refine g_goto X dX9_weeds_85 (tgt := 94) (by decide) ?_
            exact RI _ 94 _ _ (rU1 hs) (rV1 hs) dX9_weeds_94
          refine g_if_eq X dX9_weeds_74 (q := 77) rfl (tgt := 83) (by decide) hs ?_ ?_
          · intro hs
            exact wg_sub [0] rfl (ih2 hs)
          · intro hs
            refine g_iload X dX9_weeds_77 (q := 79) rfl 4 rfl ?_
            refine g_iconst X dX9_weeds_79 (q := 80) rfl li_i1 ?_
            refine g_icmp_ne X dX9_weeds_80 (q := 83) rfl (tgt := 88) (by decide) hs ?_ ?_
            · intro hs
              refine g_lload X dX9_weeds_88 (q := 90) rfl 0 rfl ?_
              refine vc_J13_bitCount_95d88_X9 hZ X dX9_weeds_90 (q := 93) rfl (Nat.le_of_ble_eq_true rfl) (Nat.le_of_ble_eq_true rfl) (Nat.le_of_ble_eq_true rfl) hs (fun y6 hs => ?_)
              refine g_i2l X dX9_weeds_93 (q := 94) rfl ?_
              exact RI _ 94 _ _ (rU1 hs) (rV1 hs) dX9_weeds_94
            · intro hs
              exact wg_sub [0] rfl (ih2 hs)
        · intro hs
          exact wg_sub [] rfl (ih1 hs)
