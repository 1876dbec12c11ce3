theorem dX9_have_0 : decode cX9_have 0 = .ok (.aload_n 0, 1) := by decide +kernel
theorem dX9_have_1 : decode cX9_have 1 = .ok (.getfield 19, 3) := by decide +kernel
theorem dX9_have_4 : decode cX9_have 4 = .ok (.iload_n 1, 1) := by decide +kernel
theorem dX9_have_5 : decode cX9_have 5 = .ok (.invokevirtual 292, 3) := by decide +kernel
theorem dX9_have_8 : decode cX9_have 8 = .ok (.ifCond .ne 5, 3) := by decide +kernel
theorem dX9_have_11 : decode cX9_have 11 = .ok (.iconst (-1), 1) := by decide +kernel
theorem dX9_have_12 : decode cX9_have 12 = .ok (.ireturn, 1) := by decide +kernel
theorem dX9_have_13 : decode cX9_have 13 = .ok (.iload_n 1, 1) := by decide +kernel
theorem dX9_have_14 : decode cX9_have 14 = .ok (.istore_n 2, 1) := by decide +kernel
theorem dX9_have_15 : decode cX9_have 15 = .ok (.iconst 0, 1) := by decide +kernel
theorem dX9_have_16 : decode cX9_have 16 = .ok (.istore_n 3, 1) := by decide +kernel
theorem dX9_have_17 : decode cX9_have 17 = .ok (.iload_n 3, 1) := by decide +kernel
theorem dX9_have_18 : decode cX9_have 18 = .ok (.bipush 8, 2) := by decide +kernel
theorem dX9_have_20 : decode cX9_have 20 = .ok (.if_icmp .ge 18, 3) := by decide +kernel
theorem dX9_have_23 : decode cX9_have 23 = .ok (.aload_n 0, 1) := by decide +kernel
theorem dX9_have_24 : decode cX9_have 24 = .ok (.getfield 19, 3) := by decide +kernel
theorem dX9_have_27 : decode cX9_have 27 = .ok (.iload_n 2, 1) := by decide +kernel
theorem dX9_have_28 : decode cX9_have 28 = .ok (.invokevirtual 295, 3) := by decide +kernel
theorem dX9_have_31 : decode cX9_have 31 = .ok (.istore_n 2, 1) := by decide +kernel
theorem dX9_have_32 : decode cX9_have 32 = .ok (.iinc 3 1, 3) := by decide +kernel
theorem dX9_have_35 : decode cX9_have 35 = .ok (.goto (-18), 3) := by decide +kernel
theorem dX9_have_38 : decode cX9_have 38 = .ok (.iload_n 2, 1) := by decide +kernel
theorem dX9_have_39 : decode cX9_have 39 = .ok (.ireturn, 1) := by decide +kernel
theorem wX7_isSetOfKinds_X9 : Cond.methodLinkNest RX9 292 yX7_isSetOfKinds "StormSeeds" ∈ NW := nw_of 1200 (by decide +kernel) rfl
theorem vc_X7_isSetOfKinds_X9 {p : Program} {l : Launch} {e : Env} {st : State} {m : MethodId} {args : Array Value} {below : List Frame} {meth : Method} {c : Code} {Q : State → Prop} {nL : Nat} {cc : ByteArray} {s : ST} {pc q : Nat} {lv : List (Nat × Value)} {rest : List Value} {D : va_G} {cA cL : ClassId} {h : Nat → Nat} {Z : State → Heap → Prop} {sa : Nat → Nat} (hZ : ZK h Z sa) {d0 : Nat} (X : Cx (KC D cA cL h Z) p st m args meth c cc nL RX9) {b0 : Nat} {x1 : Int32} (d : decode cc pc = .ok (.invokevirtual 292, 3)) (hq : pc + 3 = q) (hb0 : isK 7 b0) (hd1 : 1 + 1 ≤ d0) (hd2 : 8 + (2 + 11) + 100 * 1 ≤ 100 * d0) (hr : (rest.map fun v => v.category).sum ≤ 8) {B : Type} {f : Int32 → B} {r : B} (hs : Lt (C_X7_isSetOfKinds s b0 x1) f = r) (k : ∀ y, f y = r → WG (KC D cA cL h Z) p l e (rmD d0) st m args below meth c Q nL s q lv (.int y :: rest)) : WG (KC D cA cL h Z) p l e (rmD d0) st m args below meth c Q nL s pc lv (.int x1 :: .ref (h b0) :: rest) := by
  exact cVN_I (K := KC D cA cL h Z) X b0 (n := 1) (k_X7_isSetOfKinds hZ l D cA cL s b0 x1 hb0) (gt_c (gt_of 1203 (by decide +kernel) rfl) gt_t) (hZ.1 st st.heap X.2.2.2 _ wX7_isSetOfKinds_X9) (gt_of 198 (by decide +kernel) rfl) (gt_of 1202 (by decide +kernel) rfl) (gt_of 89 (by decide +kernel) rfl) ⟨hd1, hd2⟩ ⟨by decide, by decide, by decide +kernel⟩ (As := [.int x1]) rfl hr (hb0).1 (fs := cF7 h b0 (s.1 b0) (s.2 b0)) (GC_7 (cA := cA) (cL := cL) hb0 _ _) rfl rfl d hq (k _ hs)
theorem wX7_nextGeneration_X9 : Cond.methodLinkNest RX9 295 yX7_nextGeneration "StormSeeds" ∈ NW := nw_of 1204 (by decide +kernel) rfl
theorem vc_X7_nextGeneration_X9 {p : Program} {l : Launch} {e : Env} {st : State} {m : MethodId} {args : Array Value} {below : List Frame} {meth : Method} {c : Code} {Q : State → Prop} {nL : Nat} {cc : ByteArray} {s : ST} {pc q : Nat} {lv : List (Nat × Value)} {rest : List Value} {D : va_G} {cA cL : ClassId} {h : Nat → Nat} {Z : State → Heap → Prop} {sa : Nat → Nat} (hZ : ZK h Z sa) {d0 : Nat} (X : Cx (KC D cA cL h Z) p st m args meth c cc nL RX9) {b0 : Nat} {x1 : Int32} (d : decode cc pc = .ok (.invokevirtual 295, 3)) (hq : pc + 3 = q) (hb0 : isK 7 b0) (hd1 : 3 + 1 ≤ d0) (hd2 : 8 + (4 + 11) + 100 * 3 ≤ 100 * d0) (hr : (rest.map fun v => v.category).sum ≤ 8) {B : Type} {f : Int32 → Option B} {r : B} (hs : Bd (C_X7_nextGeneration s b0 x1) f = some r) (k : ∀ y, f y = some r → WG (KC D cA cL h Z) p l e (rmD d0) st m args below meth c Q nL s q lv (.int y :: rest)) : WG (KC D cA cL h Z) p l e (rmD d0) st m args below meth c Q nL s pc lv (.int x1 :: .ref (h b0) :: rest) := by
  obtain ⟨v, hv, hs⟩ := Bd_e hs
  exact cVN_I (K := KC D cA cL h Z) X b0 (n := 1) (k_X7_nextGeneration hZ l D cA cL s b0 x1 hb0 hv) (gt_c (gt_of 1207 (by decide +kernel) rfl) gt_t) (hZ.1 st st.heap X.2.2.2 _ wX7_nextGeneration_X9) (gt_of 198 (by decide +kernel) rfl) (gt_of 1206 (by decide +kernel) rfl) (gt_of 90 (by decide +kernel) rfl) ⟨hd1, hd2⟩ ⟨by decide, by decide, by decide +kernel⟩ (As := [.int x1]) rfl hr (hb0).1 (fs := cF7 h b0 (s.1 b0) (s.2 b0)) (GC_7 (cA := cA) (cL := cL) hb0 _ _) rfl rfl d hq (k _ hs)
def C_X9_have (s : ST) (x1 : Int32) : Option (Int32) := Lt (C_X7_isSetOfKinds s 8 x1) fun y1 => if y1 = 0 then (some (-1 : Int32)) else (lpK2 (C := Int32) (fun (rec1 : Int32 → Int32 → Option (Int32)) (a1 : Int32) (a2 : Int32) => if (8 : Int32) ≤ a2 then (some a1) else (Bd (C_X7_nextGeneration s 8 a1) fun y2 => rec1 y2 (a2 + (1 : Int32)))) FU x1 (0 : Int32))
set_option maxRecDepth 100000 in
set_option maxHeartbeats 4000000 in
theorem k_X9_have {h : Nat → Nat} {Z : State → Heap → Prop} {sa : Nat → Nat} (hZ : ZK h Z sa) (l : Launch) (D : va_G) (cA cL : ClassId) (s : ST) (x1 : Int32) {o : Int32} (hs : C_X9_have s x1 = some o) : MI l (KC D cA cL h Z) 4 yX9_have cX9_have 4 (some .int) s [.ref (h 0), .int x1] o s := by
  refine met_i (by decide) (Nat.le_of_ble_eq_true rfl) ?_
  intro p e st m args below meth c Q X RI
  unfold C_X9_have at hs
  refine g_aload_n X dX9_have_0 (q := 1) rfl 0 rfl ?_
  refine cg_9_1 X dX9_have_1 (q := 4) rfl sh_0 lf_X9_19 ?_
  refine g_iload_n X dX9_have_4 (q := 5) rfl 1 rfl ?_
  refine vc_X7_isSetOfKinds_X9 hZ X dX9_have_5 (q := 8) rfl sh_8 (Nat.le_of_ble_eq_true rfl) (Nat.le_of_ble_eq_true rfl) (Nat.le_of_ble_eq_true rfl) hs (fun y1 hs => ?_)
  refine g_if_ne X dX9_have_8 (q := 11) rfl (tgt := 13) (by decide) hs ?_ ?_
  · intro hs
    refine g_iload_n X dX9_have_13 (q := 14) rfl 1 rfl ?_
    refine g_istore_n X dX9_have_14 (q := 15) rfl (Nat.le_of_ble_eq_true rfl) (lv' := [(2, .int x1), (0, .ref (h 0)), (1, .int x1)]) rfl ?_
    refine g_iconst X dX9_have_15 (q := 16) rfl li_i0 ?_
    refine g_istore_n X dX9_have_16 (q := 17) rfl (Nat.le_of_ble_eq_true rfl) (lv' := [(3, .int (0 : Int32)), (2, .int x1), (0, .ref (h 0)), (1, .int x1)]) rfl ?_
    refine wg_sub [2, 1, 0] rfl (lpW2 (fun (a1 : Int32) (a2 : Int32) => WG (KC D cA cL h Z) p l e (rmD 4) st m args below meth c Q 4 s 17 [(0, .ref (h 0)), (2, .int a1), (3, .int a2)] []) (fun rec1 ih1 a1 a2 hs => ?_) _ _ _ hs)
    refine g_iload_n X dX9_have_17 (q := 18) rfl 2 rfl ?_
    refine g_bipush X dX9_have_18 (q := 20) rfl li_b8 ?_
    refine g_icmp_ge X dX9_have_20 (q := 23) rfl (tgt := 38) (by decide) hs ?_ ?_
    · intro hs
      refine g_iload_n X dX9_have_38 (q := 39) rfl 1 rfl ?_
      exact RI _ 39 _ _ _ rfl rfl (Option.some.inj hs) dX9_have_39
    · intro hs
      refine g_aload_n X dX9_have_23 (q := 24) rfl 0 rfl ?_
      refine cg_9_1 X dX9_have_24 (q := 27) rfl sh_0 lf_X9_19 ?_
      refine g_iload_n X dX9_have_27 (q := 28) rfl 1 rfl ?_
      refine vc_X7_nextGeneration_X9 hZ X dX9_have_28 (q := 31) rfl sh_8 (Nat.le_of_ble_eq_true rfl) (Nat.le_of_ble_eq_true rfl) (Nat.le_of_ble_eq_true rfl) hs (fun y2 hs => ?_)
      refine g_istore_n X dX9_have_31 (q := 32) rfl (Nat.le_of_ble_eq_true rfl) (lv' := [(2, .int y2), (0, .ref (h 0)), (3, .int a2)]) rfl ?_
      refine g_iinc X dX9_have_32 (q := 35) rfl 2 rfl (v := (a2 + (1 : Int32))) (congrArg (HAdd.hAdd a2) li_i1) (Nat.le_of_ble_eq_true rfl) (lv' := [(3, .int (a2 + (1 : Int32))), (2, .int y2), (0, .ref (h 0))]) rfl ?_
      refine g_goto X dX9_have_35 (tgt := 17) (by decide) ?_
      exact wg_sub [2, 1, 0] rfl (ih1 _ _ hs)
  · intro hs
    refine g_iconst X dX9_have_11 (q := 12) rfl li_im1 ?_
    exact RI _ 12 _ _ _ rfl rfl (Option.some.inj hs) dX9_have_12
theorem dX9_generations_0 : decode cX9_generations 0 = .ok (.aload_n 0, 1) := by decide +kernel
theorem dX9_generations_1 : decode cX9_generations 1 = .ok (.getfield 19, 3) := by decide +kernel
theorem dX9_generations_4 : decode cX9_generations 4 = .ok (.iload_n 1, 1) := by decide +kernel
theorem dX9_generations_5 : decode cX9_generations 5 = .ok (.invokevirtual 292, 3) := by decide +kernel
theorem dX9_generations_8 : decode cX9_generations 8 = .ok (.ifCond .eq 14, 3) := by decide +kernel
theorem dX9_generations_11 : decode cX9_generations 11 = .ok (.aload_n 0, 1) := by decide +kernel
theorem dX9_generations_12 : decode cX9_generations 12 = .ok (.getfield 19, 3) := by decide +kernel
theorem dX9_generations_15 : decode cX9_generations 15 = .ok (.iload_n 2, 1) := by decide +kernel
theorem dX9_generations_16 : decode cX9_generations 16 = .ok (.invokevirtual 151, 3) := by decide +kernel
theorem dX9_generations_19 : decode cX9_generations 19 = .ok (.ifCond .ne 5, 3) := by decide +kernel
theorem dX9_generations_22 : decode cX9_generations 22 = .ok (.iconst (-1), 1) := by decide +kernel
theorem dX9_generations_23 : decode cX9_generations 23 = .ok (.ireturn, 1) := by decide +kernel
theorem dX9_generations_24 : decode cX9_generations 24 = .ok (.iload_n 1, 1) := by decide +kernel
theorem dX9_generations_25 : decode cX9_generations 25 = .ok (.istore_n 3, 1) := by decide +kernel
theorem dX9_generations_26 : decode cX9_generations 26 = .ok (.iconst 0, 1) := by decide +kernel
theorem dX9_generations_27 : decode cX9_generations 27 = .ok (.istore 4, 2) := by decide +kernel
theorem dX9_generations_29 : decode cX9_generations 29 = .ok (.iload 4, 2) := by decide +kernel
theorem dX9_generations_31 : decode cX9_generations 31 = .ok (.bipush 8, 2) := by decide +kernel
theorem dX9_generations_33 : decode cX9_generations 33 = .ok (.if_icmp .gt 30, 3) := by decide +kernel
theorem dX9_generations_36 : decode cX9_generations 36 = .ok (.iload_n 3, 1) := by decide +kernel
theorem dX9_generations_37 : decode cX9_generations 37 = .ok (.i2l, 1) := by decide +kernel
theorem dX9_generations_38 : decode cX9_generations 38 = .ok (.iload_n 2, 1) := by decide +kernel
theorem dX9_generations_39 : decode cX9_generations 39 = .ok (.invokestatic 299, 3) := by decide +kernel
theorem dX9_generations_42 : decode cX9_generations 42 = .ok (.ifCond .eq 6, 3) := by decide +kernel
theorem dX9_generations_45 : decode cX9_generations 45 = .ok (.iload 4, 2) := by decide +kernel
theorem dX9_generations_47 : decode cX9_generations 47 = .ok (.ireturn, 1) := by decide +kernel
theorem dX9_generations_48 : decode cX9_generations 48 = .ok (.aload_n 0, 1) := by decide +kernel
theorem dX9_generations_49 : decode cX9_generations 49 = .ok (.getfield 19, 3) := by decide +kernel
theorem dX9_generations_52 : decode cX9_generations 52 = .ok (.iload_n 3, 1) := by decide +kernel
theorem dX9_generations_53 : decode cX9_generations 53 = .ok (.invokevirtual 295, 3) := by decide +kernel
theorem dX9_generations_56 : decode cX9_generations 56 = .ok (.istore_n 3, 1) := by decide +kernel
theorem dX9_generations_57 : decode cX9_generations 57 = .ok (.iinc 4 1, 3) := by decide +kernel
theorem dX9_generations_60 : decode cX9_generations 60 = .ok (.goto (-31), 3) := by decide +kernel
theorem dX9_generations_63 : decode cX9_generations 63 = .ok (.iconst (-1), 1) := by decide +kernel
theorem dX9_generations_64 : decode cX9_generations 64 = .ok (.ireturn, 1) := by decide +kernel
def C_X9_generations (s : ST) (x1 : Int32) (x2 : Int32) : Option (Int32) := Lt (C_X7_isSetOfKinds s 8 x1) fun y1 => if y1 = 0 then (some (-1 : Int32)) else (Lt (C_X7_hasKind s 8 x2) fun y2 => if y2 = 0 then (some (-1 : Int32)) else (lpK2 (C := Int32) (fun (rec1 : Int32 → Int32 → Option (Int32)) (a1 : Int32) (a2 : Int32) => if (8 : Int32) < a2 then (some (-1 : Int32)) else (Lt (C_X9_isIn s a1.toInt64 x2) fun y3 => if y3 = 0 then (Bd (C_X7_nextGeneration s 8 a1) fun y4 => rec1 y4 (a2 + (1 : Int32))) else (some a2))) FU x1 (0 : Int32)))
set_option maxRecDepth 100000 in
set_option maxHeartbeats 4000000 in
theorem k_X9_generations {h : Nat → Nat} {Z : State → Heap → Prop} {sa : Nat → Nat} (hZ : ZK h Z sa) (l : Launch) (D : va_G) (cA cL : ClassId) (s : ST) (x1 : Int32) (x2 : Int32) {o : Int32} (hs : C_X9_generations s x1 x2 = some o) : MI l (KC D cA cL h Z) 4 yX9_generations cX9_generations 5 (some .int) s [.ref (h 0), .int x1, .int x2] o s := by
  refine met_i (by decide) (Nat.le_of_ble_eq_true rfl) ?_
  intro p e st m args below meth c Q X RI
  unfold C_X9_generations at hs
  refine g_aload_n X dX9_generations_0 (q := 1) rfl 0 rfl ?_
  refine cg_9_1 X dX9_generations_1 (q := 4) rfl sh_0 lf_X9_19 ?_
  refine g_iload_n X dX9_generations_4 (q := 5) rfl 1 rfl ?_
  refine vc_X7_isSetOfKinds_X9 hZ X dX9_generations_5 (q := 8) rfl sh_8 (Nat.le_of_ble_eq_true rfl) (Nat.le_of_ble_eq_true rfl) (Nat.le_of_ble_eq_true rfl) hs (fun y1 hs => ?_)
  refine g_if_eq X dX9_generations_8 (q := 11) rfl (tgt := 22) (by decide) hs ?_ ?_
  · intro hs
    refine g_iconst X dX9_generations_22 (q := 23) rfl li_im1 ?_
    exact RI _ 23 _ _ _ rfl rfl (Option.some.inj hs) dX9_generations_23
  · intro hs
    refine g_aload_n X dX9_generations_11 (q := 12) rfl 0 rfl ?_
    refine cg_9_1 X dX9_generations_12 (q := 15) rfl sh_0 lf_X9_19 ?_
    refine g_iload_n X dX9_generations_15 (q := 16) rfl 2 rfl ?_
    refine vc_X7_hasKind_X9 hZ X dX9_generations_16 (q := 19) rfl sh_8 (Nat.le_of_ble_eq_true rfl) (Nat.le_of_ble_eq_true rfl) (Nat.le_of_ble_eq_true rfl) hs (fun y2 hs => ?_)
    refine g_if_ne X dX9_generations_19 (q := 22) rfl (tgt := 24) (by decide) hs ?_ ?_
    · intro hs
      refine g_iload_n X dX9_generations_24 (q := 25) rfl 1 rfl ?_
      refine g_istore_n X dX9_generations_25 (q := 26) rfl (Nat.le_of_ble_eq_true rfl) (lv' := [(3, .int x1), (0, .ref (h 0)), (1, .int x1), (2, .int x2)]) rfl ?_
      refine g_iconst X dX9_generations_26 (q := 27) rfl li_i0 ?_
      refine g_istore X dX9_generations_27 (q := 29) rfl (Nat.le_of_ble_eq_true rfl) (lv' := [(4, .int (0 : Int32)), (3, .int x1), (0, .ref (h 0)), (1, .int x1), (2, .int x2)]) rfl ?_
      refine wg_sub [2, 4, 1, 0] rfl (lpW2 (fun (a1 : Int32) (a2 : Int32) => WG (KC D cA cL h Z) p l e (rmD 4) st m args below meth c Q 5 s 29 [(0, .ref (h 0)), (2, .int x2), (3, .int a1), (4, .int a2)] []) (fun rec1 ih1 a1 a2 hs => ?_) _ _ _ hs)
      refine g_iload X dX9_generations_29 (q := 31) rfl 3 rfl ?_
      refine g_bipush X dX9_generations_31 (q := 33) rfl li_b8 ?_
      refine g_icmp_gt X dX9_generations_33 (q := 36) rfl (tgt := 63) (by decide) hs ?_ ?_
      · intro hs
        refine g_iconst X dX9_generations_63 (q := 64) rfl li_im1 ?_
        exact RI _ 64 _ _ _ rfl rfl (Option.some.inj hs) dX9_generations_64
      · intro hs
        refine g_iload_n X dX9_generations_36 (q := 37) rfl 2 rfl ?_
        refine g_i2l X dX9_generations_37 (q := 38) rfl ?_
        refine g_iload_n X dX9_generations_38 (q := 39) rfl 1 rfl ?_
        refine vc_X9_isIn_X9 hZ X dX9_generations_39 (q := 42) rfl (Nat.le_of_ble_eq_true rfl) (Nat.le_of_ble_eq_true rfl) (Nat.le_of_ble_eq_true rfl) hs (fun y3 hs => ?_)
        refine g_if_eq X dX9_generations_42 (q := 45) rfl (tgt := 48) (by decide) hs ?_ ?_
        · intro hs
          refine g_aload_n X dX9_generations_48 (q := 49) rfl 0 rfl ?_
          refine cg_9_1 X dX9_generations_49 (q := 52) rfl sh_0 lf_X9_19 ?_
          refine g_iload_n X dX9_generations_52 (q := 53) rfl 2 rfl ?_
          refine vc_X7_nextGeneration_X9 hZ X dX9_generations_53 (q := 56) rfl sh_8 (Nat.le_of_ble_eq_true rfl) (Nat.le_of_ble_eq_true rfl) (Nat.le_of_ble_eq_true rfl) hs (fun y4 hs => ?_)
          refine g_istore_n X dX9_generations_56 (q := 57) rfl (Nat.le_of_ble_eq_true rfl) (lv' := [(3, .int y4), (0, .ref (h 0)), (2, .int x2), (4, .int a2)]) rfl ?_
          refine g_iinc X dX9_generations_57 (q := 60) rfl 3 rfl (v := (a2 + (1 : Int32))) (congrArg (HAdd.hAdd a2) li_i1) (Nat.le_of_ble_eq_true rfl) (lv' := [(4, .int (a2 + (1 : Int32))), (3, .int y4), (0, .ref (h 0)), (2, .int x2)]) rfl ?_
          refine g_goto X dX9_generations_60 (tgt := 29) (by decide) ?_
          exact wg_sub [2, 3, 1, 0] rfl (ih1 _ _ hs)
        · intro hs
          refine g_iload X dX9_generations_45 (q := 47) rfl 3 rfl ?_
          exact RI _ 47 _ _ _ rfl rfl (Option.some.inj hs) dX9_generations_47
    · intro hs
      refine g_iconst X dX9_generations_22 (q := 23) rfl li_im1 ?_
      exact RI _ 23 _ _ _ rfl rfl (Option.some.inj hs) dX9_generations_23
theorem dX9_who_0 : decode cX9_who 0 = .ok (.aload_n 0, 1) := by decide +kernel
theorem dX9_who_1 : decode cX9_who 1 = .ok (.getfield 12, 3) := by decide +kernel
theorem dX9_who_4 : decode cX9_who 4 = .ok (.iload_n 1, 1) := by decide +kernel
theorem dX9_who_5 : decode cX9_who 5 = .ok (.invokevirtual 189, 3) := by decide +kernel
theorem dX9_who_8 : decode cX9_who 8 = .ok (.ifCond .eq 22, 3) := by decide +kernel
theorem dX9_who_11 : decode cX9_who 11 = .ok (.iload_n 2, 1) := by decide +kernel
theorem dX9_who_12 : decode cX9_who 12 = .ok (.iconst 1, 1) := by decide +kernel
theorem dX9_who_13 : decode cX9_who 13 = .ok (.bipush 9, 2) := by decide +kernel
theorem dX9_who_15 : decode cX9_who 15 = .ok (.invokestatic 93, 3) := by decide +kernel
theorem dX9_who_18 : decode cX9_who 18 = .ok (.ifCond .eq 12, 3) := by decide +kernel
theorem dX9_who_21 : decode cX9_who 21 = .ok (.iload_n 3, 1) := by decide +kernel
theorem dX9_who_22 : decode cX9_who 22 = .ok (.iconst 0, 1) := by decide +kernel
theorem dX9_who_23 : decode cX9_who 23 = .ok (.iconst 2, 1) := by decide +kernel
theorem dX9_who_24 : decode cX9_who 24 = .ok (.invokestatic 93, 3) := by decide +kernel
theorem dX9_who_27 : decode cX9_who 27 = .ok (.ifCond .ne 5, 3) := by decide +kernel
theorem dX9_who_30 : decode cX9_who 30 = .ok (.iconst (-1), 1) := by decide +kernel
theorem dX9_who_31 : decode cX9_who 31 = .ok (.ireturn, 1) := by decide +kernel
theorem dX9_who_32 : decode cX9_who 32 = .ok (.iconst 0, 1) := by decide +kernel
theorem dX9_who_33 : decode cX9_who 33 = .ok (.istore 4, 2) := by decide +kernel
theorem dX9_who_35 : decode cX9_who 35 = .ok (.iconst 0, 1) := by decide +kernel
theorem dX9_who_36 : decode cX9_who 36 = .ok (.istore 5, 2) := by decide +kernel
theorem dX9_who_38 : decode cX9_who 38 = .ok (.iload 5, 2) := by decide +kernel
theorem dX9_who_40 : decode cX9_who 40 = .ok (.aload_n 0, 1) := by decide +kernel
theorem dX9_who_41 : decode cX9_who 41 = .ok (.getfield 19, 3) := by decide +kernel
theorem dX9_who_44 : decode cX9_who 44 = .ok (.getfield 238, 3) := by decide +kernel
theorem dX9_who_47 : decode cX9_who 47 = .ok (.getfield 303, 3) := by decide +kernel
theorem dX9_who_50 : decode cX9_who 50 = .ok (.if_icmp .ge 84, 3) := by decide +kernel
theorem dX9_who_53 : decode cX9_who 53 = .ok (.aload_n 0, 1) := by decide +kernel
theorem dX9_who_54 : decode cX9_who 54 = .ok (.getfield 19, 3) := by decide +kernel
theorem dX9_who_57 : decode cX9_who 57 = .ok (.getfield 238, 3) := by decide +kernel
theorem dX9_who_60 : decode cX9_who 60 = .ok (.iload 5, 2) := by decide +kernel
theorem dX9_who_62 : decode cX9_who 62 = .ok (.iconst 0, 1) := by decide +kernel
theorem dX9_who_63 : decode cX9_who 63 = .ok (.invokevirtual 241, 3) := by decide +kernel
theorem dX9_who_66 : decode cX9_who 66 = .ok (.istore 6, 2) := by decide +kernel
theorem dX9_who_68 : decode cX9_who 68 = .ok (.iload 6, 2) := by decide +kernel
theorem dX9_who_70 : decode cX9_who 70 = .ok (.bipush 30, 2) := by decide +kernel
theorem dX9_who_72 : decode cX9_who 72 = .ok (.if_icmp .gt 56, 3) := by decide +kernel
theorem dX9_who_75 : decode cX9_who 75 = .ok (.aload_n 0, 1) := by decide +kernel
theorem dX9_who_76 : decode cX9_who 76 = .ok (.getfield 19, 3) := by decide +kernel
theorem dX9_who_79 : decode cX9_who 79 = .ok (.getfield 228, 3) := by decide +kernel
theorem dX9_who_82 : decode cX9_who 82 = .ok (.iconst 0, 1) := by decide +kernel
theorem dX9_who_83 : decode cX9_who 83 = .ok (.aload_n 0, 1) := by decide +kernel
theorem dX9_who_84 : decode cX9_who 84 = .ok (.getfield 12, 3) := by decide +kernel
theorem dX9_who_87 : decode cX9_who 87 = .ok (.iload 5, 2) := by decide +kernel
theorem dX9_who_89 : decode cX9_who 89 = .ok (.iload_n 1, 1) := by decide +kernel
theorem dX9_who_90 : decode cX9_who 90 = .ok (.iload 6, 2) := by decide +kernel
theorem dX9_who_92 : decode cX9_who 92 = .ok (.invokevirtual 232, 3) := by decide +kernel
theorem dX9_who_95 : decode cX9_who 95 = .ok (.iload_n 2, 1) := by decide +kernel
theorem dX9_who_96 : decode cX9_who 96 = .ok (.if_icmp .eq 6, 3) := by decide +kernel
theorem dX9_who_99 : decode cX9_who 99 = .ok (.goto 23, 3) := by decide +kernel
theorem dX9_who_102 : decode cX9_who 102 = .ok (.iload_n 3, 1) := by decide +kernel
theorem dX9_who_103 : decode cX9_who 103 = .ok (.ifCond .eq 16, 3) := by decide +kernel
theorem dX9_who_106 : decode cX9_who 106 = .ok (.iload_n 3, 1) := by decide +kernel
theorem dX9_who_107 : decode cX9_who 107 = .ok (.iconst 1, 1) := by decide +kernel
theorem dX9_who_108 : decode cX9_who 108 = .ok (.if_icmp .ne 8, 3) := by decide +kernel
theorem dX9_who_111 : decode cX9_who 111 = .ok (.iload 5, 2) := by decide +kernel
theorem dX9_who_113 : decode cX9_who 113 = .ok (.goto 5, 3) := by decide +kernel
theorem dX9_who_116 : decode cX9_who 116 = .ok (.iload 6, 2) := by decide +kernel
theorem dX9_who_118 : decode cX9_who 118 = .ok (.ireturn, 1) := by decide +kernel
theorem dX9_who_119 : decode cX9_who 119 = .ok (.iinc 4 1, 3) := by decide +kernel
theorem dX9_who_122 : decode cX9_who 122 = .ok (.iinc 6 1, 3) := by decide +kernel
theorem dX9_who_125 : decode cX9_who 125 = .ok (.goto (-57), 3) := by decide +kernel
theorem dX9_who_128 : decode cX9_who 128 = .ok (.iinc 5 1, 3) := by decide +kernel
theorem dX9_who_131 : decode cX9_who 131 = .ok (.goto (-93), 3) := by decide +kernel
theorem dX9_who_134 : decode cX9_who 134 = .ok (.iload_n 3, 1) := by decide +kernel
theorem dX9_who_135 : decode cX9_who 135 = .ok (.ifCond .ne 8, 3) := by decide +kernel
theorem dX9_who_138 : decode cX9_who 138 = .ok (.iload 4, 2) := by decide +kernel
theorem dX9_who_140 : decode cX9_who 140 = .ok (.goto 4, 3) := by decide +kernel
theorem dX9_who_143 : decode cX9_who 143 = .ok (.iconst (-1), 1) := by decide +kernel
theorem dX9_who_144 : decode cX9_who 144 = .ok (.ireturn, 1) := by decide +kernel
def C_X9_who (s : ST) (x1 : Int32) (x2 : Int32) (x3 : Int32) : Option (Int32 × ST) := Lt (C_X1_isCell s 1 x1) fun y1 => if y1 = 0 then (some ((-1 : Int32), s)) else (Lt (C_X9_isWithin s x2 (1 : Int32) (9 : Int32)) fun y2 => if y2 = 0 then (some ((-1 : Int32), s)) else (Lt (C_X9_isWithin s x3 (0 : Int32) (2 : Int32)) fun y3 => if y3 = 0 then (some ((-1 : Int32), s)) else (lpK3 (C := Int32 × ST) (fun (rec1 : Int32 → Int32 → ST → Option (Int32 × ST)) (a1 : Int32) (a2 : Int32) (s1 : ST) => if (s1.1 9 2) ≤ a2 then (if x3 = 0 then (some (a1, s1)) else (some ((-1 : Int32), s1))) else (Bd (C_X4_of s1 9 a2 (0 : Int32)) fun y4 => lpK3 (C := Int32 × ST) (fun (rec2 : Int32 → Int32 → ST → Option (Int32 × ST)) (a3 : Int32) (a4 : Int32) (s2 : ST) => if (30 : Int32) < a4 then (rec1 a3 (a2 + (1 : Int32)) s2) else (Bd (C_X2_ask s2 (0 : Int32) 1 a2 x1 a4) fun y5 => Lt (fun (a5 : Int32) => (rec2 a5 (a4 + (1 : Int32)) y5.2 : Option (Int32 × ST))) fun j1 => if y5.1 = x2 then (if x3 = 0 then (j1 (a3 + (1 : Int32))) else (if x3 = (1 : Int32) then (some (a2, y5.2)) else (some (a4, y5.2)))) else (j1 a3))) FU a1 y4 s1)) FU (0 : Int32) (0 : Int32) s)))
set_option maxRecDepth 100000 in
set_option maxHeartbeats 4000000 in
theorem k_X9_who {h : Nat → Nat} {Z : State → Heap → Prop} {sa : Nat → Nat} (hZ : ZK h Z sa) (l : Launch) (D : va_G) (cA cL : ClassId) (s : ST) (x1 : Int32) (x2 : Int32) (x3 : Int32) {o : Int32 × ST} (hs : C_X9_who s x1 x2 x3 = some o) : MI l (KC D cA cL h Z) 5 yX9_who cX9_who 7 (some .int) s [.ref (h 0), .int x1, .int x2, .int x3] o.1 o.2 := by
  refine met_i (by decide) (Nat.le_of_ble_eq_true rfl) ?_
  intro p e st m args below meth c Q X RI
  unfold C_X9_who at hs
  refine g_aload_n X dX9_who_0 (q := 1) rfl 0 rfl ?_
  refine cg_9_0 X dX9_who_1 (q := 4) rfl sh_0 lf_X9_12 ?_
  refine g_iload_n X dX9_who_4 (q := 5) rfl 1 rfl ?_
  refine vc_X1_isCell_X9 hZ X dX9_who_5 (q := 8) rfl sh_1 (Nat.le_of_ble_eq_true rfl) (Nat.le_of_ble_eq_true rfl) (Nat.le_of_ble_eq_true rfl) hs (fun y1 hs => ?_)
  refine g_if_eq X dX9_who_8 (q := 11) rfl (tgt := 30) (by decide) hs ?_ ?_
  · intro hs
    refine g_iconst X dX9_who_30 (q := 31) rfl li_im1 ?_
    exact RI _ 31 _ _ _ (rU1 hs) rfl (rV1 hs) dX9_who_31
  · intro hs
    refine g_iload_n X dX9_who_11 (q := 12) rfl 2 rfl ?_
    refine g_iconst X dX9_who_12 (q := 13) rfl li_i1 ?_
    refine g_bipush X dX9_who_13 (q := 15) rfl li_b9 ?_
    refine vc_X9_isWithin_X9 hZ X dX9_who_15 (q := 18) rfl (Nat.le_of_ble_eq_true rfl) (Nat.le_of_ble_eq_true rfl) (Nat.le_of_ble_eq_true rfl) hs (fun y2 hs => ?_)
    refine g_if_eq X dX9_who_18 (q := 21) rfl (tgt := 30) (by decide) hs ?_ ?_
    · intro hs
      refine g_iconst X dX9_who_30 (q := 31) rfl li_im1 ?_
      exact RI _ 31 _ _ _ (rU1 hs) rfl (rV1 hs) dX9_who_31
    · intro hs
      refine g_iload_n X dX9_who_21 (q := 22) rfl 3 rfl ?_
      refine g_iconst X dX9_who_22 (q := 23) rfl li_i0 ?_
      refine g_iconst X dX9_who_23 (q := 24) rfl li_i2 ?_
      refine vc_X9_isWithin_X9 hZ X dX9_who_24 (q := 27) rfl (Nat.le_of_ble_eq_true rfl) (Nat.le_of_ble_eq_true rfl) (Nat.le_of_ble_eq_true rfl) hs (fun y3 hs => ?_)
      refine g_if_ne X dX9_who_27 (q := 30) rfl (tgt := 32) (by decide) hs ?_ ?_
      · intro hs
        refine g_iconst X dX9_who_32 (q := 33) rfl li_i0 ?_
        refine g_istore X dX9_who_33 (q := 35) rfl (Nat.le_of_ble_eq_true rfl) (lv' := [(4, .int (0 : Int32)), (0, .ref (h 0)), (1, .int x1), (2, .int x2), (3, .int x3)]) rfl ?_
        refine g_iconst X dX9_who_35 (q := 36) rfl li_i0 ?_
        refine g_istore X dX9_who_36 (q := 38) rfl (Nat.le_of_ble_eq_true rfl) (lv' := [(5, .int (0 : Int32)), (4, .int (0 : Int32)), (0, .ref (h 0)), (1, .int x1), (2, .int x2), (3, .int x3)]) rfl ?_
        refine wg_sub [2, 3, 4, 5, 1, 0] rfl (lpW3 (fun (a1 : Int32) (a2 : Int32) (s1 : ST) => WG (KC D cA cL h Z) p l e (rmD 5) st m args below meth c Q 7 s1 38 [(0, .ref (h 0)), (1, .int x1), (2, .int x2), (3, .int x3), (4, .int a1), (5, .int a2)] []) (fun rec1 ih1 a1 a2 s1 hs => ?_) _ _ _ _ hs)
        refine g_iload X dX9_who_38 (q := 40) rfl 5 rfl ?_
        refine g_aload_n X dX9_who_40 (q := 41) rfl 0 rfl ?_
        refine cg_9_1 X dX9_who_41 (q := 44) rfl sh_0 lf_X9_19 ?_
        refine cgN_7_0 hZ X dX9_who_44 (q := 47) rfl sh_8 lf_X9_238 ?_
        refine cgN_4_2 hZ X dX9_who_47 (q := 50) rfl sh_9 lf_X9_303 ?_
        refine g_icmp_ge X dX9_who_50 (q := 53) rfl (tgt := 134) (by decide) hs ?_ ?_
        · intro hs
          refine g_iload_n X dX9_who_134 (q := 135) rfl 3 rfl ?_
          refine g_if_ne X dX9_who_135 (q := 138) rfl (tgt := 143) (by decide) hs ?_ ?_
          · intro hs
            refine g_iconst X dX9_who_143 (q := 144) rfl li_im1 ?_
            exact RI _ 144 _ _ _ (rU1 hs) rfl (rV1 hs) dX9_who_144
          · intro hs
            refine g_iload X dX9_who_138 (q := 140) rfl 4 rfl ?_
            refine g_goto X dX9_who_140 (tgt := 144) (by decide) ?_
            exact RI _ 144 _ _ _ (rU1 hs) rfl (rV1 hs) dX9_who_144
        · intro hs
          refine g_aload_n X dX9_who_53 (q := 54) rfl 0 rfl ?_
          refine cg_9_1 X dX9_who_54 (q := 57) rfl sh_0 lf_X9_19 ?_
          refine cgN_7_0 hZ X dX9_who_57 (q := 60) rfl sh_8 lf_X9_238 ?_
          refine g_iload X dX9_who_60 (q := 62) rfl 5 rfl ?_
          refine g_iconst X dX9_who_62 (q := 63) rfl li_i0 ?_
          refine vc_X4_of_X9 hZ X dX9_who_63 (q := 66) rfl sh_9 (Nat.le_of_ble_eq_true rfl) (Nat.le_of_ble_eq_true rfl) (Nat.le_of_ble_eq_true rfl) hs (fun y4 hs => ?_)
          refine g_istore X dX9_who_66 (q := 68) rfl (Nat.le_of_ble_eq_true rfl) (lv' := [(6, .int y4), (0, .ref (h 0)), (1, .int x1), (2, .int x2), (3, .int x3), (4, .int a1), (5, .int a2)]) rfl ?_
          refine wg_sub [1, 2, 3, 4, 5, 6, 0] rfl (lpW3 (fun (a3 : Int32) (a4 : Int32) (s2 : ST) => WG (KC D cA cL h Z) p l e (rmD 5) st m args below meth c Q 7 s2 68 [(0, .ref (h 0)), (1, .int x1), (2, .int x2), (3, .int x3), (4, .int a3), (5, .int a2), (6, .int a4)] []) (fun rec2 ih2 a3 a4 s2 hs => ?_) _ _ _ _ hs)
          refine g_iload X dX9_who_68 (q := 70) rfl 6 rfl ?_
          refine g_bipush X dX9_who_70 (q := 72) rfl li_b30 ?_
          refine g_icmp_gt X dX9_who_72 (q := 75) rfl (tgt := 128) (by decide) hs ?_ ?_
          · intro hs
            refine g_iinc X dX9_who_128 (q := 131) rfl 5 rfl (v := (a2 + (1 : Int32))) (congrArg (HAdd.hAdd a2) li_i1) (Nat.le_of_ble_eq_true rfl) (lv' := [(5, .int (a2 + (1 : Int32))), (0, .ref (h 0)), (1, .int x1), (2, .int x2), (3, .int x3), (4, .int a3), (6, .int a4)]) rfl ?_
            refine g_goto X dX9_who_131 (tgt := 38) (by decide) ?_
            exact wg_sub [1, 2, 3, 4, 5, 0] rfl (ih1 _ _ _ hs)
          · intro hs
            refine g_aload_n X dX9_who_75 (q := 76) rfl 0 rfl ?_
            refine cg_9_1 X dX9_who_76 (q := 79) rfl sh_0 lf_X9_19 ?_
            refine cgN_7_2 hZ X dX9_who_79 (q := 82) rfl sh_8 lf_X9_228 ?_
            refine g_iconst X dX9_who_82 (q := 83) rfl li_i0 ?_
            refine g_aload_n X dX9_who_83 (q := 84) rfl 0 rfl ?_
            refine cg_9_0 X dX9_who_84 (q := 87) rfl sh_0 lf_X9_12 ?_
            refine g_iload X dX9_who_87 (q := 89) rfl 5 rfl ?_
            refine g_iload_n X dX9_who_89 (q := 90) rfl 1 rfl ?_
            refine g_iload X dX9_who_90 (q := 92) rfl 6 rfl ?_
            refine vc_X2_ask_X9 hZ X dX9_who_92 (q := 95) rfl sh_1 (Nat.le_of_ble_eq_true rfl) (Nat.le_of_ble_eq_true rfl) (Nat.le_of_ble_eq_true rfl) hs (fun y5 hs => ?_)
            refine g_iload_n X dX9_who_95 (q := 96) rfl 2 rfl ?_
            refine jnW1 (fun (a5 : Int32) => WG (KC D cA cL h Z) p l e (rmD 5) st m args below meth c Q 7 y5.2 122 [(0, .ref (h 0)), (1, .int x1), (2, .int x2), (3, .int x3), (4, .int a5), (5, .int a2), (6, .int a4)] []) hs (fun a5 hs => ?_) (fun j1 ih3 hs => ?_)
            · refine g_iinc X dX9_who_122 (q := 125) rfl 6 rfl (v := (a4 + (1 : Int32))) (congrArg (HAdd.hAdd a4) li_i1) (Nat.le_of_ble_eq_true rfl) (lv' := [(6, .int (a4 + (1 : Int32))), (0, .ref (h 0)), (1, .int x1), (2, .int x2), (3, .int x3), (4, .int a5), (5, .int a2)]) rfl ?_
              refine g_goto X dX9_who_125 (tgt := 68) (by decide) ?_
              exact wg_sub [1, 2, 3, 4, 5, 6, 0] rfl (ih2 _ _ _ hs)
            refine g_icmp_eq X dX9_who_96 (q := 99) rfl (tgt := 102) (by decide) hs ?_ ?_
            · intro hs
              refine g_iload_n X dX9_who_102 (q := 103) rfl 3 rfl ?_
              refine g_if_eq X dX9_who_103 (q := 106) rfl (tgt := 119) (by decide) hs ?_ ?_
              · intro hs
                refine g_iinc X dX9_who_119 (q := 122) rfl 4 rfl (v := (a3 + (1 : Int32))) (congrArg (HAdd.hAdd a3) li_i1) (Nat.le_of_ble_eq_true rfl) (lv' := [(4, .int (a3 + (1 : Int32))), (0, .ref (h 0)), (1, .int x1), (2, .int x2), (3, .int x3), (5, .int a2), (6, .int a4)]) rfl ?_
                exact wg_sub [1, 2, 3, 4, 0, 5, 6] rfl (ih3 _ hs)
              · intro hs
                refine g_iload_n X dX9_who_106 (q := 107) rfl 3 rfl ?_
                refine g_iconst X dX9_who_107 (q := 108) rfl li_i1 ?_
                refine g_icmp_ne X dX9_who_108 (q := 111) rfl (tgt := 116) (by decide) hs ?_ ?_
                · intro hs
                  refine g_iload X dX9_who_116 (q := 118) rfl 6 rfl ?_
                  exact RI _ 118 _ _ _ (rU1 hs) rfl (rV1 hs) dX9_who_118
                · intro hs
                  refine g_iload X dX9_who_111 (q := 113) rfl 5 rfl ?_
                  refine g_goto X dX9_who_113 (tgt := 118) (by decide) ?_
                  exact RI _ 118 _ _ _ (rU1 hs) rfl (rV1 hs) dX9_who_118
            · intro hs
              refine g_goto X dX9_who_99 (tgt := 122) (by decide) ?_
              exact wg_sub [0, 1, 2, 3, 4, 5, 6] rfl (ih3 _ hs)
      · intro hs
        refine g_iconst X dX9_who_30 (q := 31) rfl li_im1 ?_
        exact RI _ 31 _ _ _ (rU1 hs) rfl (rV1 hs) dX9_who_31
theorem dX9_calm_0 : decode cX9_calm 0 = .ok (.aload_n 0, 1) := by decide +kernel
theorem dX9_calm_1 : decode cX9_calm 1 = .ok (.getfield 12, 3) := by decide +kernel
theorem dX9_calm_4 : decode cX9_calm 4 = .ok (.iload_n 1, 1) := by decide +kernel
theorem dX9_calm_5 : decode cX9_calm 5 = .ok (.invokevirtual 189, 3) := by decide +kernel
theorem dX9_calm_8 : decode cX9_calm 8 = .ok (.ifCond .eq 22, 3) := by decide +kernel
theorem dX9_calm_11 : decode cX9_calm 11 = .ok (.iload_n 2, 1) := by decide +kernel
theorem dX9_calm_12 : decode cX9_calm 12 = .ok (.iconst 1, 1) := by decide +kernel
theorem dX9_calm_13 : decode cX9_calm 13 = .ok (.bipush 60, 2) := by decide +kernel
theorem dX9_calm_15 : decode cX9_calm 15 = .ok (.invokestatic 93, 3) := by decide +kernel
theorem dX9_calm_18 : decode cX9_calm 18 = .ok (.ifCond .eq 12, 3) := by decide +kernel
theorem dX9_calm_21 : decode cX9_calm 21 = .ok (.iload_n 3, 1) := by decide +kernel
theorem dX9_calm_22 : decode cX9_calm 22 = .ok (.iconst 0, 1) := by decide +kernel
theorem dX9_calm_23 : decode cX9_calm 23 = .ok (.iconst 1, 1) := by decide +kernel
theorem dX9_calm_24 : decode cX9_calm 24 = .ok (.invokestatic 93, 3) := by decide +kernel
theorem dX9_calm_27 : decode cX9_calm 27 = .ok (.ifCond .ne 5, 3) := by decide +kernel
theorem dX9_calm_30 : decode cX9_calm 30 = .ok (.iconst (-1), 1) := by decide +kernel
theorem dX9_calm_31 : decode cX9_calm 31 = .ok (.ireturn, 1) := by decide +kernel
theorem dX9_calm_32 : decode cX9_calm 32 = .ok (.aload_n 0, 1) := by decide +kernel
theorem dX9_calm_33 : decode cX9_calm 33 = .ok (.getfield 71, 3) := by decide +kernel
theorem dX9_calm_36 : decode cX9_calm 36 = .ok (.iload_n 1, 1) := by decide +kernel
theorem dX9_calm_37 : decode cX9_calm 37 = .ok (.iload_n 2, 1) := by decide +kernel
theorem dX9_calm_38 : decode cX9_calm 38 = .ok (.iload_n 3, 1) := by decide +kernel
theorem dX9_calm_39 : decode cX9_calm 39 = .ok (.ifCond .ne 7, 3) := by decide +kernel
theorem dX9_calm_42 : decode cX9_calm 42 = .ok (.iconst 1, 1) := by decide +kernel
theorem dX9_calm_43 : decode cX9_calm 43 = .ok (.goto 4, 3) := by decide +kernel
theorem dX9_calm_46 : decode cX9_calm 46 = .ok (.iconst 0, 1) := by decide +kernel
theorem dX9_calm_47 : decode cX9_calm 47 = .ok (.invokevirtual 306, 3) := by decide +kernel
theorem dX9_calm_50 : decode cX9_calm 50 = .ok (.ireturn, 1) := by decide +kernel
theorem wX6_longestCalm_X9 : Cond.methodLinkNest RX9 306 yX6_longestCalm "StormSeeds" ∈ NW := nw_of 1221 (by decide +kernel) rfl
theorem vc_X6_longestCalm_X9 {p : Program} {l : Launch} {e : Env} {st : State} {m : MethodId} {args : Array Value} {below : List Frame} {meth : Method} {c : Code} {Q : State → Prop} {nL : Nat} {cc : ByteArray} {s : ST} {pc q : Nat} {lv : List (Nat × Value)} {rest : List Value} {D : va_G} {cA cL : ClassId} {h : Nat → Nat} {Z : State → Heap → Prop} {sa : Nat → Nat} (hZ : ZK h Z sa) {d0 : Nat} (X : Cx (KC D cA cL h Z) p st m args meth c cc nL RX9) {x1 : Int32} {x2 : Int32} {x3 : Int32} (d : decode cc pc = .ok (.invokevirtual 306, 3)) (hq : pc + 3 = q) (hd1 : 7 + 1 ≤ d0) (hd2 : 8 + (8 + 11) + 100 * 7 ≤ 100 * d0) (hr : (rest.map fun v => v.category).sum ≤ 8) {B : Type} {f : Int32 × ST → Option B} {r : B} (hs : Bd (C_X6_longestCalm s x1 x2 x3) f = some r) (k : ∀ y, f y = some r → WG (KC D cA cL h Z) p l e (rmD d0) st m args below meth c Q nL y.2 q lv (.int y.1 :: rest)) : WG (KC D cA cL h Z) p l e (rmD d0) st m args below meth c Q nL s pc lv (.int x3 :: .int x2 :: .int x1 :: .ref (h 71) :: rest) := by
  obtain ⟨v, hv, hs⟩ := Bd_e hs
  exact cVN_I (K := KC D cA cL h Z) X 71 (n := 3) (k_X6_longestCalm hZ l D cA cL s x1 x2 x3 hv) (gt_c (gt_of 1224 (by decide +kernel) rfl) gt_t) (hZ.1 st st.heap X.2.2.2 _ wX6_longestCalm_X9) (gt_of 205 (by decide +kernel) rfl) (gt_of 1223 (by decide +kernel) rfl) (gt_of 91 (by decide +kernel) rfl) ⟨hd1, hd2⟩ ⟨by decide, by decide, by decide +kernel⟩ (As := [.int x1, .int x2, .int x3]) rfl hr (sh_71).1 (fs := cF6 h 71 (s.1 71) (s.2 71)) (GC_6 (cA := cA) (cL := cL) sh_71 _ _) rfl rfl d hq (k _ hs)
def C_X9_calm (s : ST) (x1 : Int32) (x2 : Int32) (x3 : Int32) : Option (Int32 × ST) := Lt (C_X1_isCell s 1 x1) fun y1 => if y1 = 0 then (some ((-1 : Int32), s)) else (Lt (C_X9_isWithin s x2 (1 : Int32) (60 : Int32)) fun y2 => if y2 = 0 then (some ((-1 : Int32), s)) else (Lt (C_X9_isWithin s x3 (0 : Int32) (1 : Int32)) fun y3 => if y3 = 0 then (some ((-1 : Int32), s)) else (Lt (fun (a1 : Int32) => (Bd (C_X6_longestCalm s x1 x2 a1) fun y4 => some (y4.1, y4.2) : Option (Int32 × ST))) fun j1 => if x3 = 0 then (j1 (1 : Int32)) else (j1 (0 : Int32)))))
set_option maxRecDepth 100000 in
set_option maxHeartbeats 4000000 in
theorem k_X9_calm {h : Nat → Nat} {Z : State → Heap → Prop} {sa : Nat → Nat} (hZ : ZK h Z sa) (l : Launch) (D : va_G) (cA cL : ClassId) (s : ST) (x1 : Int32) (x2 : Int32) (x3 : Int32) {o : Int32 × ST} (hs : C_X9_calm s x1 x2 x3 = some o) : MI l (KC D cA cL h Z) 8 yX9_calm cX9_calm 4 (some .int) s [.ref (h 0), .int x1, .int x2, .int x3] o.1 o.2 := by
  refine met_i (by decide) (Nat.le_of_ble_eq_true rfl) ?_
  intro p e st m args below meth c Q X RI
  unfold C_X9_calm at hs
  refine g_aload_n X dX9_calm_0 (q := 1) rfl 0 rfl ?_
  refine cg_9_0 X dX9_calm_1 (q := 4) rfl sh_0 lf_X9_12 ?_
  refine g_iload_n X dX9_calm_4 (q := 5) rfl 1 rfl ?_
  refine vc_X1_isCell_X9 hZ X dX9_calm_5 (q := 8) rfl sh_1 (Nat.le_of_ble_eq_true rfl) (Nat.le_of_ble_eq_true rfl) (Nat.le_of_ble_eq_true rfl) hs (fun y1 hs => ?_)
  refine g_if_eq X dX9_calm_8 (q := 11) rfl (tgt := 30) (by decide) hs ?_ ?_
  · intro hs
    refine g_iconst X dX9_calm_30 (q := 31) rfl li_im1 ?_
    exact RI _ 31 _ _ _ (rU1 hs) rfl (rV1 hs) dX9_calm_31
  · intro hs
    refine g_iload_n X dX9_calm_11 (q := 12) rfl 2 rfl ?_
    refine g_iconst X dX9_calm_12 (q := 13) rfl li_i1 ?_
    refine g_bipush X dX9_calm_13 (q := 15) rfl li_b60 ?_
    refine vc_X9_isWithin_X9 hZ X dX9_calm_15 (q := 18) rfl (Nat.le_of_ble_eq_true rfl) (Nat.le_of_ble_eq_true rfl) (Nat.le_of_ble_eq_true rfl) hs (fun y2 hs => ?_)
    refine g_if_eq X dX9_calm_18 (q := 21) rfl (tgt := 30) (by decide) hs ?_ ?_
    · intro hs
      refine g_iconst X dX9_calm_30 (q := 31) rfl li_im1 ?_
      exact RI _ 31 _ _ _ (rU1 hs) rfl (rV1 hs) dX9_calm_31
    · intro hs
      refine g_iload_n X dX9_calm_21 (q := 22) rfl 3 rfl ?_
      refine g_iconst X dX9_calm_22 (q := 23) rfl li_i0 ?_
      refine g_iconst X dX9_calm_23 (q := 24) rfl li_i1 ?_
      refine vc_X9_isWithin_X9 hZ X dX9_calm_24 (q := 27) rfl (Nat.le_of_ble_eq_true rfl) (Nat.le_of_ble_eq_true rfl) (Nat.le_of_ble_eq_true rfl) hs (fun y3 hs => ?_)
      refine g_if_ne X dX9_calm_27 (q := 30) rfl (tgt := 32) (by decide) hs ?_ ?_
      · intro hs
        refine g_aload_n X dX9_calm_32 (q := 33) rfl 0 rfl ?_
        refine cg_9_10 X dX9_calm_33 (q := 36) rfl sh_0 lf_X9_71 ?_
        refine g_iload_n X dX9_calm_36 (q := 37) rfl 1 rfl ?_
        refine g_iload_n X dX9_calm_37 (q := 38) rfl 2 rfl ?_
        refine g_iload_n X dX9_calm_38 (q := 39) rfl 3 rfl ?_
        refine jnW1 (fun (a1 : Int32) => WG (KC D cA cL h Z) p l e (rmD 8) st m args below meth c Q 4 s 47 [] [.int a1, .int x2, .int x1, .ref (h 71)]) hs (fun a1 hs => ?_) (fun j1 ih1 hs => ?_)
        · refine vc_X6_longestCalm_X9 hZ X dX9_calm_47 (q := 50) rfl (Nat.le_of_ble_eq_true rfl) (Nat.le_of_ble_eq_true rfl) (Nat.le_of_ble_eq_true rfl) hs (fun y4 hs => ?_)
          exact RI _ 50 _ _ _ (rU1 hs) rfl (rV1 hs) dX9_calm_50
        refine g_if_ne X dX9_calm_39 (q := 42) rfl (tgt := 46) (by decide) hs ?_ ?_
        · intro hs
          refine g_iconst X dX9_calm_46 (q := 47) rfl li_i0 ?_
          exact wg_sub [] rfl (ih1 _ hs)
        · intro hs
          refine g_iconst X dX9_calm_42 (q := 43) rfl li_i1 ?_
          refine g_goto X dX9_calm_43 (tgt := 47) (by decide) ?_
          exact wg_sub [] rfl (ih1 _ hs)
      · intro hs
        refine g_iconst X dX9_calm_30 (q := 31) rfl li_im1 ?_
        exact RI _ 31 _ _ _ (rU1 hs) rfl (rV1 hs) dX9_calm_31
theorem dX9_yearLater_0 : decode cX9_yearLater 0 = .ok (.iload_n 0, 1) := by decide +kernel
theorem dX9_yearLater_1 : decode cX9_yearLater 1 = .ok (.i2l, 1) := by decide +kernel
theorem dX9_yearLater_2 : decode cX9_yearLater 2 = .ok (.sipush 1000, 3) := by decide +kernel
theorem dX9_yearLater_5 : decode cX9_yearLater 5 = .ok (.iload_n 1, 1) := by decide +kernel
theorem dX9_yearLater_6 : decode cX9_yearLater 6 = .ok (.isub, 1) := by decide +kernel
theorem dX9_yearLater_7 : decode cX9_yearLater 7 = .ok (.i2l, 1) := by decide +kernel
theorem dX9_yearLater_8 : decode cX9_yearLater 8 = .ok (.lmul, 1) := by decide +kernel
theorem dX9_yearLater_9 : decode cX9_yearLater 9 = .ok (.ldc2_w 358, 3) := by decide +kernel
theorem dX9_yearLater_12 : decode cX9_yearLater 12 = .ok (.ldiv, 1) := by decide +kernel
theorem dX9_yearLater_13 : decode cX9_yearLater 13 = .ok (.l2i, 1) := by decide +kernel
theorem dX9_yearLater_14 : decode cX9_yearLater 14 = .ok (.ireturn, 1) := by decide +kernel
def C_X9_yearLater (s : ST) (x1 : Int32) (x2 : Int32) : Int32 := ((x1.toInt64 * ((1000 : Int32) - x2).toInt64) / (1000 : Int64)).toInt32
set_option maxRecDepth 100000 in
set_option maxHeartbeats 4000000 in
theorem k_X9_yearLater {h : Nat → Nat} {Z : State → Heap → Prop} {sa : Nat → Nat} (hZ : ZK h Z sa) (l : Launch) (D : va_G) (cA cL : ClassId) (s : ST) (x1 : Int32) (x2 : Int32) : MI l (KC D cA cL h Z) 1 yX9_yearLater cX9_yearLater 2 (some .int) s [.int x1, .int x2] (C_X9_yearLater s x1 x2) s := by
  refine met_i (by decide) (Nat.le_of_ble_eq_true rfl) ?_
  intro p e st m args below meth c Q X RI
  generalize hs : C_X9_yearLater s x1 x2 = o at RI
  unfold C_X9_yearLater at hs
  refine g_iload_n X dX9_yearLater_0 (q := 1) rfl 0 rfl ?_
  refine g_i2l X dX9_yearLater_1 (q := 2) rfl ?_
  refine g_sipush X dX9_yearLater_2 (q := 5) rfl li_s1000 ?_
  refine g_iload_n X dX9_yearLater_5 (q := 6) rfl 1 rfl ?_
  refine g_isub X dX9_yearLater_6 (q := 7) rfl ?_
  refine g_i2l X dX9_yearLater_7 (q := 8) rfl ?_
  refine g_lmul X dX9_yearLater_8 (q := 9) rfl ?_
  refine g_ldc2_w X dX9_yearLater_9 (q := 12) rfl kc_X9_358 ?_
  refine g_ldiv X dX9_yearLater_12 (q := 13) rfl (by decide) ?_
  refine g_l2i X dX9_yearLater_13 (q := 14) rfl ?_
  exact RI _ 14 _ _ _ rfl rfl hs dX9_yearLater_14
theorem dX9_good_0 : decode cX9_good 0 = .ok (.iload_n 1, 1) := by decide +kernel
theorem dX9_good_1 : decode cX9_good 1 = .ok (.iconst 0, 1) := by decide +kernel
theorem dX9_good_2 : decode cX9_good 2 = .ok (.bipush 60, 2) := by decide +kernel
theorem dX9_good_4 : decode cX9_good 4 = .ok (.invokestatic 93, 3) := by decide +kernel
theorem dX9_good_7 : decode cX9_good 7 = .ok (.ifCond .eq 14, 3) := by decide +kernel
theorem dX9_good_10 : decode cX9_good 10 = .ok (.iload_n 2, 1) := by decide +kernel
theorem dX9_good_11 : decode cX9_good 11 = .ok (.iconst 0, 1) := by decide +kernel
theorem dX9_good_12 : decode cX9_good 12 = .ok (.sipush 1000, 3) := by decide +kernel
theorem dX9_good_15 : decode cX9_good 15 = .ok (.invokestatic 93, 3) := by decide +kernel
theorem dX9_good_18 : decode cX9_good 18 = .ok (.ifCond .ne 5, 3) := by decide +kernel
theorem dX9_good_21 : decode cX9_good 21 = .ok (.iconst (-1), 1) := by decide +kernel
theorem dX9_good_22 : decode cX9_good 22 = .ok (.ireturn, 1) := by decide +kernel
theorem dX9_good_23 : decode cX9_good 23 = .ok (.ldc_w 310, 3) := by decide +kernel
theorem dX9_good_26 : decode cX9_good 26 = .ok (.istore_n 3, 1) := by decide +kernel
theorem dX9_good_27 : decode cX9_good 27 = .ok (.iconst 0, 1) := by decide +kernel
theorem dX9_good_28 : decode cX9_good 28 = .ok (.istore 4, 2) := by decide +kernel
theorem dX9_good_30 : decode cX9_good 30 = .ok (.iload 4, 2) := by decide +kernel
theorem dX9_good_32 : decode cX9_good 32 = .ok (.iload_n 1, 1) := by decide +kernel
theorem dX9_good_33 : decode cX9_good 33 = .ok (.if_icmp .ge 15, 3) := by decide +kernel
theorem dX9_good_36 : decode cX9_good 36 = .ok (.iload_n 3, 1) := by decide +kernel
theorem dX9_good_37 : decode cX9_good 37 = .ok (.iload_n 2, 1) := by decide +kernel
theorem dX9_good_38 : decode cX9_good 38 = .ok (.invokestatic 311, 3) := by decide +kernel
theorem dX9_good_41 : decode cX9_good 41 = .ok (.istore_n 3, 1) := by decide +kernel
theorem dX9_good_42 : decode cX9_good 42 = .ok (.iinc 4 1, 3) := by decide +kernel
theorem dX9_good_45 : decode cX9_good 45 = .ok (.goto (-15), 3) := by decide +kernel
theorem dX9_good_48 : decode cX9_good 48 = .ok (.iload_n 3, 1) := by decide +kernel
theorem dX9_good_49 : decode cX9_good 49 = .ok (.ireturn, 1) := by decide +kernel
theorem wX9_yearLater_X9 : GoodIn GT (va_wsS RX9 311 yX9_yearLater (.code yX9_yearLater cX9_yearLater 2 (some .int) :: GT)) := gt_c (gt_of 1230 (by decide +kernel) rfl) (gt_c (gt_of 1231 (by decide +kernel) rfl) (gt_c (gt_of 196 (by decide +kernel) rfl) (gt_c (gt_of 1232 (by decide +kernel) rfl) gt_t)))
theorem vc_X9_yearLater_X9 {p : Program} {l : Launch} {e : Env} {st : State} {m : MethodId} {args : Array Value} {below : List Frame} {meth : Method} {c : Code} {Q : State → Prop} {nL : Nat} {cc : ByteArray} {s : ST} {pc q : Nat} {lv : List (Nat × Value)} {rest : List Value} {D : va_G} {cA cL : ClassId} {h : Nat → Nat} {Z : State → Heap → Prop} {sa : Nat → Nat} (hZ : ZK h Z sa) {d0 : Nat} (X : Cx (KC D cA cL h Z) p st m args meth c cc nL RX9) {x1 : Int32} {x2 : Int32} (d : decode cc pc = .ok (.invokestatic 311, 3)) (hq : pc + 3 = q) (hd1 : 1 + 1 ≤ d0) (hd2 : 8 + (2 + 11) + 100 * 1 ≤ 100 * d0) (hr : (rest.map fun v => v.category).sum ≤ 8) {B : Type} {f : Int32 → B} {r : B} (hs : Lt (C_X9_yearLater s x1 x2) f = r) (k : ∀ y, f y = r → WG (KC D cA cL h Z) p l e (rmD d0) st m args below meth c Q nL s q lv (.int y :: rest)) : WG (KC D cA cL h Z) p l e (rmD d0) st m args below meth c Q nL s pc lv (.int x2 :: .int x1 :: rest) := by
  exact cS_I (K := KC D cA cL h Z) X (n := 2) (k_X9_yearLater hZ l D cA cL s x1 x2) wX9_yearLater_X9 ⟨hd1, hd2⟩ ⟨by decide, by decide, by decide +kernel⟩ (As := [.int x1, .int x2]) rfl hr rfl d hq (k _ hs)
def C_X9_good (s : ST) (x1 : Int32) (x2 : Int32) : Option (Int32) := Lt (C_X9_isWithin s x1 (0 : Int32) (60 : Int32)) fun y1 => if y1 = 0 then (some (-1 : Int32)) else (Lt (C_X9_isWithin s x2 (0 : Int32) (1000 : Int32)) fun y2 => if y2 = 0 then (some (-1 : Int32)) else (lpK2 (C := Int32) (fun (rec1 : Int32 → Int32 → Option (Int32)) (a1 : Int32) (a2 : Int32) => if x1 ≤ a2 then (some a1) else (Lt (C_X9_yearLater s a1 x2) fun y3 => rec1 y3 (a2 + (1 : Int32)))) FU (1000000 : Int32) (0 : Int32)))
set_option maxRecDepth 100000 in
set_option maxHeartbeats 4000000 in
theorem k_X9_good {h : Nat → Nat} {Z : State → Heap → Prop} {sa : Nat → Nat} (hZ : ZK h Z sa) (l : Launch) (D : va_G) (cA cL : ClassId) (s : ST) (x1 : Int32) (x2 : Int32) {o : Int32} (hs : C_X9_good s x1 x2 = some o) : MI l (KC D cA cL h Z) 2 yX9_good cX9_good 5 (some .int) s [.ref (h 0), .int x1, .int x2] o s := by
  refine met_i (by decide) (Nat.le_of_ble_eq_true rfl) ?_
  intro p e st m args below meth c Q X RI
  unfold C_X9_good at hs
  refine g_iload_n X dX9_good_0 (q := 1) rfl 1 rfl ?_
  refine g_iconst X dX9_good_1 (q := 2) rfl li_i0 ?_
  refine g_bipush X dX9_good_2 (q := 4) rfl li_b60 ?_
  refine vc_X9_isWithin_X9 hZ X dX9_good_4 (q := 7) rfl (Nat.le_of_ble_eq_true rfl) (Nat.le_of_ble_eq_true rfl) (Nat.le_of_ble_eq_true rfl) hs (fun y1 hs => ?_)
  refine g_if_eq X dX9_good_7 (q := 10) rfl (tgt := 21) (by decide) hs ?_ ?_
  · intro hs
    refine g_iconst X dX9_good_21 (q := 22) rfl li_im1 ?_
    exact RI _ 22 _ _ _ rfl rfl (Option.some.inj hs) dX9_good_22
  · intro hs
    refine g_iload_n X dX9_good_10 (q := 11) rfl 2 rfl ?_
    refine g_iconst X dX9_good_11 (q := 12) rfl li_i0 ?_
    refine g_sipush X dX9_good_12 (q := 15) rfl li_s1000 ?_
    refine vc_X9_isWithin_X9 hZ X dX9_good_15 (q := 18) rfl (Nat.le_of_ble_eq_true rfl) (Nat.le_of_ble_eq_true rfl) (Nat.le_of_ble_eq_true rfl) hs (fun y2 hs => ?_)
    refine g_if_ne X dX9_good_18 (q := 21) rfl (tgt := 23) (by decide) hs ?_ ?_
    · intro hs
      refine g_ldc_w X dX9_good_23 (q := 26) rfl kc_X9_310 ?_
      refine g_istore_n X dX9_good_26 (q := 27) rfl (Nat.le_of_ble_eq_true rfl) (lv' := [(3, .int (1000000 : Int32)), (0, .ref (h 0)), (1, .int x1), (2, .int x2)]) rfl ?_
      refine g_iconst X dX9_good_27 (q := 28) rfl li_i0 ?_
      refine g_istore X dX9_good_28 (q := 30) rfl (Nat.le_of_ble_eq_true rfl) (lv' := [(4, .int (0 : Int32)), (3, .int (1000000 : Int32)), (0, .ref (h 0)), (1, .int x1), (2, .int x2)]) rfl ?_
      refine wg_sub [3, 4, 1, 0] rfl (lpW2 (fun (a1 : Int32) (a2 : Int32) => WG (KC D cA cL h Z) p l e (rmD 2) st m args below meth c Q 5 s 30 [(1, .int x1), (2, .int x2), (3, .int a1), (4, .int a2)] []) (fun rec1 ih1 a1 a2 hs => ?_) _ _ _ hs)
      refine g_iload X dX9_good_30 (q := 32) rfl 3 rfl ?_
      refine g_iload_n X dX9_good_32 (q := 33) rfl 0 rfl ?_
      refine g_icmp_ge X dX9_good_33 (q := 36) rfl (tgt := 48) (by decide) hs ?_ ?_
      · intro hs
        refine g_iload_n X dX9_good_48 (q := 49) rfl 2 rfl ?_
        exact RI _ 49 _ _ _ rfl rfl (Option.some.inj hs) dX9_good_49
      · intro hs
        refine g_iload_n X dX9_good_36 (q := 37) rfl 2 rfl ?_
        refine g_iload_n X dX9_good_37 (q := 38) rfl 1 rfl ?_
        refine vc_X9_yearLater_X9 hZ X dX9_good_38 (q := 41) rfl (Nat.le_of_ble_eq_true rfl) (Nat.le_of_ble_eq_true rfl) (Nat.le_of_ble_eq_true rfl) hs (fun y3 hs => ?_)
        refine g_istore_n X dX9_good_41 (q := 42) rfl (Nat.le_of_ble_eq_true rfl) (lv' := [(3, .int y3), (1, .int x1), (2, .int x2), (4, .int a2)]) rfl ?_
        refine g_iinc X dX9_good_42 (q := 45) rfl 3 rfl (v := (a2 + (1 : Int32))) (congrArg (HAdd.hAdd a2) li_i1) (Nat.le_of_ble_eq_true rfl) (lv' := [(4, .int (a2 + (1 : Int32))), (3, .int y3), (1, .int x1), (2, .int x2)]) rfl ?_
        refine g_goto X dX9_good_45 (tgt := 30) (by decide) ?_
        exact wg_sub [2, 3, 1, 0] rfl (ih1 _ _ hs)
    · intro hs
      refine g_iconst X dX9_good_21 (q := 22) rfl li_im1 ?_
      exact RI _ 22 _ _ _ rfl rfl (Option.some.inj hs) dX9_good_22
theorem dX9_open_0 : decode cX9_open 0 = .ok (.iload_n 1, 1) := by decide +kernel
theorem dX9_open_1 : decode cX9_open 1 = .ok (.iconst 0, 1) := by decide +kernel
theorem dX9_open_2 : decode cX9_open 2 = .ok (.sipush 1000, 3) := by decide +kernel
theorem dX9_open_5 : decode cX9_open 5 = .ok (.invokestatic 93, 3) := by decide +kernel
theorem dX9_open_8 : decode cX9_open 8 = .ok (.ifCond .eq 13, 3) := by decide +kernel
theorem dX9_open_11 : decode cX9_open 11 = .ok (.iload_n 2, 1) := by decide +kernel
theorem dX9_open_12 : decode cX9_open 12 = .ok (.iconst 0, 1) := by decide +kernel
theorem dX9_open_13 : decode cX9_open 13 = .ok (.bipush 99, 2) := by decide +kernel
theorem dX9_open_15 : decode cX9_open 15 = .ok (.invokestatic 93, 3) := by decide +kernel
theorem dX9_open_18 : decode cX9_open 18 = .ok (.ifCond .ne 5, 3) := by decide +kernel
theorem dX9_open_21 : decode cX9_open 21 = .ok (.iconst (-1), 1) := by decide +kernel
theorem dX9_open_22 : decode cX9_open 22 = .ok (.ireturn, 1) := by decide +kernel
theorem dX9_open_23 : decode cX9_open 23 = .ok (.iconst 0, 1) := by decide +kernel
theorem dX9_open_24 : decode cX9_open 24 = .ok (.istore_n 3, 1) := by decide +kernel
theorem dX9_open_25 : decode cX9_open 25 = .ok (.ldc2_w 259, 3) := by decide +kernel
theorem dX9_open_28 : decode cX9_open 28 = .ok (.lstore 4, 2) := by decide +kernel
theorem dX9_open_30 : decode cX9_open 30 = .ok (.ldc_w 310, 3) := by decide +kernel
theorem dX9_open_33 : decode cX9_open 33 = .ok (.istore 6, 2) := by decide +kernel
theorem dX9_open_35 : decode cX9_open 35 = .ok (.iconst 0, 1) := by decide +kernel
theorem dX9_open_36 : decode cX9_open 36 = .ok (.istore 7, 2) := by decide +kernel
theorem dX9_open_38 : decode cX9_open 38 = .ok (.iload 7, 2) := by decide +kernel
theorem dX9_open_40 : decode cX9_open 40 = .ok (.bipush 60, 2) := by decide +kernel
theorem dX9_open_42 : decode cX9_open 42 = .ok (.if_icmp .gt 50, 3) := by decide +kernel
theorem dX9_open_45 : decode cX9_open 45 = .ok (.iload 6, 2) := by decide +kernel
theorem dX9_open_47 : decode cX9_open 47 = .ok (.i2l, 1) := by decide +kernel
theorem dX9_open_48 : decode cX9_open 48 = .ok (.bipush 100, 2) := by decide +kernel
theorem dX9_open_50 : decode cX9_open 50 = .ok (.iload_n 2, 1) := by decide +kernel
theorem dX9_open_51 : decode cX9_open 51 = .ok (.iload 7, 2) := by decide +kernel
theorem dX9_open_53 : decode cX9_open 53 = .ok (.imul, 1) := by decide +kernel
theorem dX9_open_54 : decode cX9_open 54 = .ok (.iadd, 1) := by decide +kernel
theorem dX9_open_55 : decode cX9_open 55 = .ok (.i2l, 1) := by decide +kernel
theorem dX9_open_56 : decode cX9_open 56 = .ok (.lmul, 1) := by decide +kernel
theorem dX9_open_57 : decode cX9_open 57 = .ok (.ldc2_w 314, 3) := by decide +kernel
theorem dX9_open_60 : decode cX9_open 60 = .ok (.ldiv, 1) := by decide +kernel
theorem dX9_open_61 : decode cX9_open 61 = .ok (.lstore 8, 2) := by decide +kernel
theorem dX9_open_63 : decode cX9_open 63 = .ok (.lload 8, 2) := by decide +kernel
theorem dX9_open_65 : decode cX9_open 65 = .ok (.lload 4, 2) := by decide +kernel
theorem dX9_open_67 : decode cX9_open 67 = .ok (.lcmp, 1) := by decide +kernel
theorem dX9_open_68 : decode cX9_open 68 = .ok (.ifCond .le 10, 3) := by decide +kernel
theorem dX9_open_71 : decode cX9_open 71 = .ok (.lload 8, 2) := by decide +kernel
theorem dX9_open_73 : decode cX9_open 73 = .ok (.lstore 4, 2) := by decide +kernel
theorem dX9_open_75 : decode cX9_open 75 = .ok (.iload 7, 2) := by decide +kernel
theorem dX9_open_77 : decode cX9_open 77 = .ok (.istore_n 3, 1) := by decide +kernel
theorem dX9_open_78 : decode cX9_open 78 = .ok (.iload 6, 2) := by decide +kernel
theorem dX9_open_80 : decode cX9_open 80 = .ok (.iload_n 1, 1) := by decide +kernel
theorem dX9_open_81 : decode cX9_open 81 = .ok (.invokestatic 311, 3) := by decide +kernel
theorem dX9_open_84 : decode cX9_open 84 = .ok (.istore 6, 2) := by decide +kernel
theorem dX9_open_86 : decode cX9_open 86 = .ok (.iinc 7 1, 3) := by decide +kernel
theorem dX9_open_89 : decode cX9_open 89 = .ok (.goto (-51), 3) := by decide +kernel
theorem dX9_open_92 : decode cX9_open 92 = .ok (.iload_n 3, 1) := by decide +kernel
theorem dX9_open_93 : decode cX9_open 93 = .ok (.ireturn, 1) := by decide +kernel
def C_X9_open (s : ST) (x1 : Int32) (x2 : Int32) : Option (Int32) := Lt (C_X9_isWithin s x1 (0 : Int32) (1000 : Int32)) fun y1 => if y1 = 0 then (some (-1 : Int32)) else (Lt (C_X9_isWithin s x2 (0 : Int32) (99 : Int32)) fun y2 => if y2 = 0 then (some (-1 : Int32)) else (lpK4 (C := Int32) (fun (rec1 : Int32 → Int64 → Int32 → Int32 → Option (Int32)) (a1 : Int32) (a2 : Int64) (a3 : Int32) (a4 : Int32) => if (60 : Int32) < a4 then (some a1) else (Lt (((a3.toInt64 * ((100 : Int32) + (x2 * a4)).toInt64) / (100 : Int64))) fun y3 => Lt (fun (a5 : Int32) (a6 : Int64) => (Lt (C_X9_yearLater s a3 x1) fun y4 => rec1 a5 a6 y4 (a4 + (1 : Int32)) : Option (Int32))) fun j1 => if (lg_cmp y3 a2) ≤ 0 then (j1 a1 a2) else (j1 a4 y3))) FU (0 : Int32) (-1 : Int64) (1000000 : Int32) (0 : Int32)))
set_option maxRecDepth 100000 in
set_option maxHeartbeats 4000000 in
theorem k_X9_open {h : Nat → Nat} {Z : State → Heap → Prop} {sa : Nat → Nat} (hZ : ZK h Z sa) (l : Launch) (D : va_G) (cA cL : ClassId) (s : ST) (x1 : Int32) (x2 : Int32) {o : Int32} (hs : C_X9_open s x1 x2 = some o) : MI l (KC D cA cL h Z) 2 yX9_open cX9_open 10 (some .int) s [.ref (h 0), .int x1, .int x2] o s := by
  refine met_i (by decide) (Nat.le_of_ble_eq_true rfl) ?_
  intro p e st m args below meth c Q X RI
  unfold C_X9_open at hs
  refine g_iload_n X dX9_open_0 (q := 1) rfl 1 rfl ?_
  refine g_iconst X dX9_open_1 (q := 2) rfl li_i0 ?_
  refine g_sipush X dX9_open_2 (q := 5) rfl li_s1000 ?_
  refine vc_X9_isWithin_X9 hZ X dX9_open_5 (q := 8) rfl (Nat.le_of_ble_eq_true rfl) (Nat.le_of_ble_eq_true rfl) (Nat.le_of_ble_eq_true rfl) hs (fun y1 hs => ?_)
  refine g_if_eq X dX9_open_8 (q := 11) rfl (tgt := 21) (by decide) hs ?_ ?_
  · intro hs
    refine g_iconst X dX9_open_21 (q := 22) rfl li_im1 ?_
    exact RI _ 22 _ _ _ rfl rfl (Option.some.inj hs) dX9_open_22
  · intro hs
    refine g_iload_n X dX9_open_11 (q := 12) rfl 2 rfl ?_
    refine g_iconst X dX9_open_12 (q := 13) rfl li_i0 ?_
    refine g_bipush X dX9_open_13 (q := 15) rfl li_b99 ?_
    refine vc_X9_isWithin_X9 hZ X dX9_open_15 (q := 18) rfl (Nat.le_of_ble_eq_true rfl) (Nat.le_of_ble_eq_true rfl) (Nat.le_of_ble_eq_true rfl) hs (fun y2 hs => ?_)
    refine g_if_ne X dX9_open_18 (q := 21) rfl (tgt := 23) (by decide) hs ?_ ?_
    · intro hs
      refine g_iconst X dX9_open_23 (q := 24) rfl li_i0 ?_
      refine g_istore_n X dX9_open_24 (q := 25) rfl (Nat.le_of_ble_eq_true rfl) (lv' := [(3, .int (0 : Int32)), (0, .ref (h 0)), (1, .int x1), (2, .int x2)]) rfl ?_
      refine g_ldc2_w X dX9_open_25 (q := 28) rfl kc_X9_259 ?_
      refine g_lstore X dX9_open_28 (q := 30) rfl (Nat.le_of_ble_eq_true rfl) (lv' := [(4, .long (-1 : Int64)), (3, .int (0 : Int32)), (0, .ref (h 0)), (1, .int x1), (2, .int x2)]) rfl ?_
      refine g_ldc_w X dX9_open_30 (q := 33) rfl kc_X9_310 ?_
      refine g_istore X dX9_open_33 (q := 35) rfl (Nat.le_of_ble_eq_true rfl) (lv' := [(6, .int (1000000 : Int32)), (4, .long (-1 : Int64)), (3, .int (0 : Int32)), (0, .ref (h 0)), (1, .int x1), (2, .int x2)]) rfl ?_
      refine g_iconst X dX9_open_35 (q := 36) rfl li_i0 ?_
      refine g_istore X dX9_open_36 (q := 38) rfl (Nat.le_of_ble_eq_true rfl) (lv' := [(7, .int (0 : Int32)), (6, .int (1000000 : Int32)), (4, .long (-1 : Int64)), (3, .int (0 : Int32)), (0, .ref (h 0)), (1, .int x1), (2, .int x2)]) rfl ?_
      refine wg_sub [5, 6, 3, 2, 1, 0] rfl (lpW4 (fun (a1 : Int32) (a2 : Int64) (a3 : Int32) (a4 : Int32) => WG (KC D cA cL h Z) p l e (rmD 2) st m args below meth c Q 10 s 38 [(1, .int x1), (2, .int x2), (3, .int a1), (4, .long a2), (6, .int a3), (7, .int a4)] []) (fun rec1 ih1 a1 a2 a3 a4 hs => ?_) _ _ _ _ _ hs)
      refine g_iload X dX9_open_38 (q := 40) rfl 5 rfl ?_
      refine g_bipush X dX9_open_40 (q := 42) rfl li_b60 ?_
      refine g_icmp_gt X dX9_open_42 (q := 45) rfl (tgt := 92) (by decide) hs ?_ ?_
      · intro hs
        refine g_iload_n X dX9_open_92 (q := 93) rfl 2 rfl ?_
        exact RI _ 93 _ _ _ rfl rfl (Option.some.inj hs) dX9_open_93
      · intro hs
        refine g_iload X dX9_open_45 (q := 47) rfl 4 rfl ?_
        refine g_i2l X dX9_open_47 (q := 48) rfl ?_
        refine g_bipush X dX9_open_48 (q := 50) rfl li_b100 ?_
        refine g_iload_n X dX9_open_50 (q := 51) rfl 1 rfl ?_
        refine g_iload X dX9_open_51 (q := 53) rfl 5 rfl ?_
        refine g_imul X dX9_open_53 (q := 54) rfl ?_
        refine g_iadd X dX9_open_54 (q := 55) rfl ?_
        refine g_i2l X dX9_open_55 (q := 56) rfl ?_
        refine g_lmul X dX9_open_56 (q := 57) rfl ?_
        refine g_ldc2_w X dX9_open_57 (q := 60) rfl kc_X9_314 ?_
        refine g_ldiv X dX9_open_60 (q := 61) rfl (by decide) ?_
        refine nmL hs (fun y3 hs => ?_)
        refine g_lstore X dX9_open_61 (q := 63) rfl (Nat.le_of_ble_eq_true rfl) (lv' := [(8, .long y3), (1, .int x1), (2, .int x2), (3, .int a1), (4, .long a2), (6, .int a3), (7, .int a4)]) rfl ?_
        refine g_lload X dX9_open_63 (q := 65) rfl 0 rfl ?_
        refine g_lload X dX9_open_65 (q := 67) rfl 4 rfl ?_
        refine g_lcmp X dX9_open_67 (q := 68) rfl ?_
        refine jnW2 (fun (a5 : Int32) (a6 : Int64) => WG (KC D cA cL h Z) p l e (rmD 2) st m args below meth c Q 10 s 78 [(1, .int x1), (2, .int x2), (3, .int a5), (4, .long a6), (6, .int a3), (7, .int a4)] []) hs (fun a5 a6 hs => ?_) (fun j1 ih2 hs => ?_)
        · refine g_iload X dX9_open_78 (q := 80) rfl 4 rfl ?_
          refine g_iload_n X dX9_open_80 (q := 81) rfl 0 rfl ?_
          refine vc_X9_yearLater_X9 hZ X dX9_open_81 (q := 84) rfl (Nat.le_of_ble_eq_true rfl) (Nat.le_of_ble_eq_true rfl) (Nat.le_of_ble_eq_true rfl) hs (fun y4 hs => ?_)
          refine g_istore X dX9_open_84 (q := 86) rfl (Nat.le_of_ble_eq_true rfl) (lv' := [(6, .int y4), (1, .int x1), (2, .int x2), (3, .int a5), (4, .long a6), (7, .int a4)]) rfl ?_
          refine g_iinc X dX9_open_86 (q := 89) rfl 5 rfl (v := (a4 + (1 : Int32))) (congrArg (HAdd.hAdd a4) li_i1) (Nat.le_of_ble_eq_true rfl) (lv' := [(7, .int (a4 + (1 : Int32))), (6, .int y4), (1, .int x1), (2, .int x2), (3, .int a5), (4, .long a6)]) rfl ?_
          refine g_goto X dX9_open_89 (tgt := 38) (by decide) ?_
          exact wg_sub [2, 3, 4, 5, 1, 0] rfl (ih1 _ _ _ _ hs)
        refine g_if_le X dX9_open_68 (q := 71) rfl (tgt := 78) (by decide) hs ?_ ?_
        · intro hs
          exact wg_sub [1, 2, 3, 4, 5, 6] rfl (ih2 _ _ hs)
        · intro hs
          refine g_lload X dX9_open_71 (q := 73) rfl 0 rfl ?_
          refine g_lstore X dX9_open_73 (q := 75) rfl (Nat.le_of_ble_eq_true rfl) (lv' := [(4, .long y3), (8, .long y3), (1, .int x1), (2, .int x2), (3, .int a1), (6, .int a3), (7, .int a4)]) rfl ?_
          refine g_iload X dX9_open_75 (q := 77) rfl 6 rfl ?_
          refine g_istore_n X dX9_open_77 (q := 78) rfl (Nat.le_of_ble_eq_true rfl) (lv' := [(3, .int a4), (4, .long y3), (8, .long y3), (1, .int x1), (2, .int x2), (6, .int a3), (7, .int a4)]) rfl ?_
          exact wg_sub [3, 4, 0, 1, 5, 6] rfl (ih2 _ _ hs)
    · intro hs
      refine g_iconst X dX9_open_21 (q := 22) rfl li_im1 ?_
      exact RI _ 22 _ _ _ rfl rfl (Option.some.inj hs) dX9_open_22
theorem dX9_game_0 : decode cX9_game 0 = .ok (.iload_n 1, 1) := by decide +kernel
theorem dX9_game_1 : decode cX9_game 1 = .ok (.iconst 0, 1) := by decide +kernel
theorem dX9_game_2 : decode cX9_game 2 = .ok (.iconst 1, 1) := by decide +kernel
theorem dX9_game_3 : decode cX9_game 3 = .ok (.invokestatic 93, 3) := by decide +kernel
theorem dX9_game_6 : decode cX9_game 6 = .ok (.ifCond .ne 5, 3) := by decide +kernel
theorem dX9_game_9 : decode cX9_game 9 = .ok (.iconst (-1), 1) := by decide +kernel
theorem dX9_game_10 : decode cX9_game 10 = .ok (.ireturn, 1) := by decide +kernel
theorem dX9_game_11 : decode cX9_game 11 = .ok (.iconst 0, 1) := by decide +kernel
theorem dX9_game_12 : decode cX9_game 12 = .ok (.istore_n 2, 1) := by decide +kernel
theorem dX9_game_13 : decode cX9_game 13 = .ok (.iconst 0, 1) := by decide +kernel
theorem dX9_game_14 : decode cX9_game 14 = .ok (.istore_n 3, 1) := by decide +kernel
theorem dX9_game_15 : decode cX9_game 15 = .ok (.iload_n 3, 1) := by decide +kernel
theorem dX9_game_16 : decode cX9_game 16 = .ok (.bipush 7, 2) := by decide +kernel
theorem dX9_game_18 : decode cX9_game 18 = .ok (.if_icmp .ge 20, 3) := by decide +kernel
theorem dX9_game_21 : decode cX9_game 21 = .ok (.iload_n 2, 1) := by decide +kernel
theorem dX9_game_22 : decode cX9_game 22 = .ok (.aload_n 0, 1) := by decide +kernel
theorem dX9_game_23 : decode cX9_game 23 = .ok (.getfield 12, 3) := by decide +kernel
theorem dX9_game_26 : decode cX9_game 26 = .ok (.iload_n 3, 1) := by decide +kernel
theorem dX9_game_27 : decode cX9_game 27 = .ok (.invokevirtual 316, 3) := by decide +kernel
theorem dX9_game_30 : decode cX9_game 30 = .ok (.ixor, 1) := by decide +kernel
theorem dX9_game_31 : decode cX9_game 31 = .ok (.istore_n 2, 1) := by decide +kernel
theorem dX9_game_32 : decode cX9_game 32 = .ok (.iinc 3 1, 3) := by decide +kernel
theorem dX9_game_35 : decode cX9_game 35 = .ok (.goto (-20), 3) := by decide +kernel
theorem dX9_game_38 : decode cX9_game 38 = .ok (.iconst 0, 1) := by decide +kernel
theorem dX9_game_39 : decode cX9_game 39 = .ok (.istore_n 3, 1) := by decide +kernel
theorem dX9_game_40 : decode cX9_game 40 = .ok (.iload_n 3, 1) := by decide +kernel
theorem dX9_game_41 : decode cX9_game 41 = .ok (.bipush 7, 2) := by decide +kernel
theorem dX9_game_43 : decode cX9_game 43 = .ok (.if_icmp .ge 41, 3) := by decide +kernel
theorem dX9_game_46 : decode cX9_game 46 = .ok (.aload_n 0, 1) := by decide +kernel
theorem dX9_game_47 : decode cX9_game 47 = .ok (.getfield 12, 3) := by decide +kernel
theorem dX9_game_50 : decode cX9_game 50 = .ok (.iload_n 3, 1) := by decide +kernel
theorem dX9_game_51 : decode cX9_game 51 = .ok (.invokevirtual 316, 3) := by decide +kernel
theorem dX9_game_54 : decode cX9_game 54 = .ok (.istore 4, 2) := by decide +kernel
theorem dX9_game_56 : decode cX9_game 56 = .ok (.iload 4, 2) := by decide +kernel
theorem dX9_game_58 : decode cX9_game 58 = .ok (.iload_n 2, 1) := by decide +kernel
theorem dX9_game_59 : decode cX9_game 59 = .ok (.ixor, 1) := by decide +kernel
theorem dX9_game_60 : decode cX9_game 60 = .ok (.iload 4, 2) := by decide +kernel
theorem dX9_game_62 : decode cX9_game 62 = .ok (.if_icmp .ge 16, 3) := by decide +kernel
theorem dX9_game_65 : decode cX9_game 65 = .ok (.iload_n 1, 1) := by decide +kernel
theorem dX9_game_66 : decode cX9_game 66 = .ok (.ifCond .ne 7, 3) := by decide +kernel
theorem dX9_game_69 : decode cX9_game 69 = .ok (.iload_n 3, 1) := by decide +kernel
theorem dX9_game_70 : decode cX9_game 70 = .ok (.goto 7, 3) := by decide +kernel
theorem dX9_game_73 : decode cX9_game 73 = .ok (.iload 4, 2) := by decide +kernel
theorem dX9_game_75 : decode cX9_game 75 = .ok (.iload_n 2, 1) := by decide +kernel
theorem dX9_game_76 : decode cX9_game 76 = .ok (.ixor, 1) := by decide +kernel
theorem dX9_game_77 : decode cX9_game 77 = .ok (.ireturn, 1) := by decide +kernel
theorem dX9_game_78 : decode cX9_game 78 = .ok (.iinc 3 1, 3) := by decide +kernel
theorem dX9_game_81 : decode cX9_game 81 = .ok (.goto (-41), 3) := by decide +kernel
theorem dX9_game_84 : decode cX9_game 84 = .ok (.iconst (-1), 1) := by decide +kernel
theorem dX9_game_85 : decode cX9_game 85 = .ok (.ireturn, 1) := by decide +kernel
theorem wX1_seedsInRow_X9 : Cond.methodLinkNest RX9 316 yX1_seedsInRow "StormSeeds" ∈ NW := nw_of 1243 (by decide +kernel) rfl
theorem vc_X1_seedsInRow_X9 {p : Program} {l : Launch} {e : Env} {st : State} {m : MethodId} {args : Array Value} {below : List Frame} {meth : Method} {c : Code} {Q : State → Prop} {nL : Nat} {cc : ByteArray} {s : ST} {pc q : Nat} {lv : List (Nat × Value)} {rest : List Value} {D : va_G} {cA cL : ClassId} {h : Nat → Nat} {Z : State → Heap → Prop} {sa : Nat → Nat} (hZ : ZK h Z sa) {d0 : Nat} (X : Cx (KC D cA cL h Z) p st m args meth c cc nL RX9) {b0 : Nat} {x1 : Int32} (d : decode cc pc = .ok (.invokevirtual 316, 3)) (hq : pc + 3 = q) (hb0 : isK 1 b0) (hd1 : 2 + 1 ≤ d0) (hd2 : 8 + (2 + 11) + 100 * 2 ≤ 100 * d0) (hr : (rest.map fun v => v.category).sum ≤ 8) {B : Type} {f : Int32 → B} {r : B} (hs : Lt (C_X1_seedsInRow s b0 x1) f = r) (k : ∀ y, f y = r → WG (KC D cA cL h Z) p l e (rmD d0) st m args below meth c Q nL s q lv (.int y :: rest)) : WG (KC D cA cL h Z) p l e (rmD d0) st m args below meth c Q nL s pc lv (.int x1 :: .ref (h b0) :: rest) := by
  exact cVN_I (K := KC D cA cL h Z) X b0 (n := 1) (k_X1_seedsInRow hZ l D cA cL s b0 x1 hb0) (gt_c (gt_of 1246 (by decide +kernel) rfl) gt_t) (hZ.1 st st.heap X.2.2.2 _ wX1_seedsInRow_X9) (gt_of 197 (by decide +kernel) rfl) (gt_of 1245 (by decide +kernel) rfl) (gt_of 92 (by decide +kernel) rfl) ⟨hd1, hd2⟩ ⟨by decide, by decide, by decide +kernel⟩ (As := [.int x1]) rfl hr (hb0).1 (fs := cF1 h b0 (s.1 b0) (s.2 b0)) (GC_1 (cA := cA) (cL := cL) hb0 _ _) rfl rfl d hq (k _ hs)
def C_X9_game (s : ST) (x1 : Int32) : Option (Int32) := Lt (C_X9_isWithin s x1 (0 : Int32) (1 : Int32)) fun y1 => if y1 = 0 then (some (-1 : Int32)) else (lpK2 (C := Int32) (fun (rec1 : Int32 → Int32 → Option (Int32)) (a1 : Int32) (a2 : Int32) => if (7 : Int32) ≤ a2 then (lpK1 (C := Int32) (fun (rec2 : Int32 → Option (Int32)) (a3 : Int32) => if (7 : Int32) ≤ a3 then (some (-1 : Int32)) else (Lt (C_X1_seedsInRow s 1 a3) fun y2 => if y2 ≤ (y2 ^^^ a1) then (rec2 (a3 + (1 : Int32))) else (if x1 = 0 then (some a3) else (some (y2 ^^^ a1))))) FU (0 : Int32)) else (Lt (C_X1_seedsInRow s 1 a2) fun y3 => Lt ((a1 ^^^ y3)) fun y4 => rec1 y4 (a2 + (1 : Int32)))) FU (0 : Int32) (0 : Int32))
set_option maxRecDepth 100000 in
set_option maxHeartbeats 4000000 in
theorem k_X9_game {h : Nat → Nat} {Z : State → Heap → Prop} {sa : Nat → Nat} (hZ : ZK h Z sa) (l : Launch) (D : va_G) (cA cL : ClassId) (s : ST) (x1 : Int32) {o : Int32} (hs : C_X9_game s x1 = some o) : MI l (KC D cA cL h Z) 3 yX9_game cX9_game 5 (some .int) s [.ref (h 0), .int x1] o s := by
  refine met_i (by decide) (Nat.le_of_ble_eq_true rfl) ?_
  intro p e st m args below meth c Q X RI
  unfold C_X9_game at hs
  refine g_iload_n X dX9_game_0 (q := 1) rfl 1 rfl ?_
  refine g_iconst X dX9_game_1 (q := 2) rfl li_i0 ?_
  refine g_iconst X dX9_game_2 (q := 3) rfl li_i1 ?_
  refine vc_X9_isWithin_X9 hZ X dX9_game_3 (q := 6) rfl (Nat.le_of_ble_eq_true rfl) (Nat.le_of_ble_eq_true rfl) (Nat.le_of_ble_eq_true rfl) hs (fun y1 hs => ?_)
  refine g_if_ne X dX9_game_6 (q := 9) rfl (tgt := 11) (by decide) hs ?_ ?_
  · intro hs
    refine g_iconst X dX9_game_11 (q := 12) rfl li_i0 ?_
    refine g_istore_n X dX9_game_12 (q := 13) rfl (Nat.le_of_ble_eq_true rfl) (lv' := [(2, .int (0 : Int32)), (0, .ref (h 0)), (1, .int x1)]) rfl ?_
    refine g_iconst X dX9_game_13 (q := 14) rfl li_i0 ?_
    refine g_istore_n X dX9_game_14 (q := 15) rfl (Nat.le_of_ble_eq_true rfl) (lv' := [(3, .int (0 : Int32)), (2, .int (0 : Int32)), (0, .ref (h 0)), (1, .int x1)]) rfl ?_
    refine wg_sub [2, 3, 1, 0] rfl (lpW2 (fun (a1 : Int32) (a2 : Int32) => WG (KC D cA cL h Z) p l e (rmD 3) st m args below meth c Q 5 s 15 [(0, .ref (h 0)), (1, .int x1), (2, .int a1), (3, .int a2)] []) (fun rec1 ih1 a1 a2 hs => ?_) _ _ _ hs)
    refine g_iload_n X dX9_game_15 (q := 16) rfl 3 rfl ?_
    refine g_bipush X dX9_game_16 (q := 18) rfl li_b7 ?_
    refine g_icmp_ge X dX9_game_18 (q := 21) rfl (tgt := 38) (by decide) hs ?_ ?_
    · intro hs
      refine g_iconst X dX9_game_38 (q := 39) rfl li_i0 ?_
      refine g_istore_n X dX9_game_39 (q := 40) rfl (Nat.le_of_ble_eq_true rfl) (lv' := [(3, .int (0 : Int32)), (0, .ref (h 0)), (1, .int x1), (2, .int a1)]) rfl ?_
      refine wg_sub [1, 2, 3, 0] rfl (lpW1 (fun (a3 : Int32) => WG (KC D cA cL h Z) p l e (rmD 3) st m args below meth c Q 5 s 40 [(0, .ref (h 0)), (1, .int x1), (2, .int a1), (3, .int a3)] []) (fun rec2 ih2 a3 hs => ?_) _ _ hs)
      refine g_iload_n X dX9_game_40 (q := 41) rfl 3 rfl ?_
      refine g_bipush X dX9_game_41 (q := 43) rfl li_b7 ?_
      refine g_icmp_ge X dX9_game_43 (q := 46) rfl (tgt := 84) (by decide) hs ?_ ?_
      · intro hs
        refine g_iconst X dX9_game_84 (q := 85) rfl li_im1 ?_
        exact RI _ 85 _ _ _ rfl rfl (Option.some.inj hs) dX9_game_85
      · intro hs
        refine g_aload_n X dX9_game_46 (q := 47) rfl 0 rfl ?_
        refine cg_9_0 X dX9_game_47 (q := 50) rfl sh_0 lf_X9_12 ?_
        refine g_iload_n X dX9_game_50 (q := 51) rfl 3 rfl ?_
        refine vc_X1_seedsInRow_X9 hZ X dX9_game_51 (q := 54) rfl sh_1 (Nat.le_of_ble_eq_true rfl) (Nat.le_of_ble_eq_true rfl) (Nat.le_of_ble_eq_true rfl) hs (fun y2 hs => ?_)
        refine g_istore X dX9_game_54 (q := 56) rfl (Nat.le_of_ble_eq_true rfl) (lv' := [(4, .int y2), (0, .ref (h 0)), (1, .int x1), (2, .int a1), (3, .int a3)]) rfl ?_
        refine g_iload X dX9_game_56 (q := 58) rfl 0 rfl ?_
        refine g_iload_n X dX9_game_58 (q := 59) rfl 3 rfl ?_
        refine g_ixor X dX9_game_59 (q := 60) rfl ?_
        refine g_iload X dX9_game_60 (q := 62) rfl 0 rfl ?_
        refine g_icmp_ge X dX9_game_62 (q := 65) rfl (tgt := 78) (by decide) hs ?_ ?_
        · intro hs
          refine g_iinc X dX9_game_78 (q := 81) rfl 4 rfl (v := (a3 + (1 : Int32))) (congrArg (HAdd.hAdd a3) li_i1) (Nat.le_of_ble_eq_true rfl) (lv' := [(3, .int (a3 + (1 : Int32))), (4, .int y2), (0, .ref (h 0)), (1, .int x1), (2, .int a1)]) rfl ?_
          refine g_goto X dX9_game_81 (tgt := 40) (by decide) ?_
          exact wg_sub [2, 3, 4, 0] rfl (ih2 _ hs)
        · intro hs
          refine g_iload_n X dX9_game_65 (q := 66) rfl 2 rfl ?_
          refine g_if_ne X dX9_game_66 (q := 69) rfl (tgt := 73) (by decide) hs ?_ ?_
          · intro hs
            refine g_iload X dX9_game_73 (q := 75) rfl 0 rfl ?_
            refine g_iload_n X dX9_game_75 (q := 76) rfl 3 rfl ?_
            refine g_ixor X dX9_game_76 (q := 77) rfl ?_
            exact RI _ 77 _ _ _ rfl rfl (Option.some.inj hs) dX9_game_77
          · intro hs
            refine g_iload_n X dX9_game_69 (q := 70) rfl 4 rfl ?_
            refine g_goto X dX9_game_70 (tgt := 77) (by decide) ?_
            exact RI _ 77 _ _ _ rfl rfl (Option.some.inj hs) dX9_game_77
    · intro hs
      refine g_iload_n X dX9_game_21 (q := 22) rfl 2 rfl ?_
      refine g_aload_n X dX9_game_22 (q := 23) rfl 0 rfl ?_
      refine cg_9_0 X dX9_game_23 (q := 26) rfl sh_0 lf_X9_12 ?_
      refine g_iload_n X dX9_game_26 (q := 27) rfl 3 rfl ?_
      refine vc_X1_seedsInRow_X9 hZ X dX9_game_27 (q := 30) rfl sh_1 (Nat.le_of_ble_eq_true rfl) (Nat.le_of_ble_eq_true rfl) (Nat.le_of_ble_eq_true rfl) hs (fun y3 hs => ?_)
      refine g_ixor X dX9_game_30 (q := 31) rfl ?_
      refine nmI hs (fun y4 hs => ?_)
      refine g_istore_n X dX9_game_31 (q := 32) rfl (Nat.le_of_ble_eq_true rfl) (lv' := [(2, .int y4), (0, .ref (h 0)), (1, .int x1), (3, .int a2)]) rfl ?_
      refine g_iinc X dX9_game_32 (q := 35) rfl 3 rfl (v := (a2 + (1 : Int32))) (congrArg (HAdd.hAdd a2) li_i1) (Nat.le_of_ble_eq_true rfl) (lv' := [(3, .int (a2 + (1 : Int32))), (2, .int y4), (0, .ref (h 0)), (1, .int x1)]) rfl ?_
      refine g_goto X dX9_game_35 (tgt := 15) (by decide) ?_
      exact wg_sub [2, 3, 1, 0] rfl (ih1 _ _ hs)
  · intro hs
    refine g_iconst X dX9_game_9 (q := 10) rfl li_im1 ?_
    exact RI _ 10 _ _ _ rfl rfl (Option.some.inj hs) dX9_game_10
theorem dX9_undo_0 : decode cX9_undo 0 = .ok (.aload_n 0, 1) := by decide +kernel
theorem dX9_undo_1 : decode cX9_undo 1 = .ok (.getfield 78, 3) := by decide +kernel
theorem dX9_undo_4 : decode cX9_undo 4 = .ok (.aload_n 0, 1) := by decide +kernel
theorem dX9_undo_5 : decode cX9_undo 5 = .ok (.getfield 12, 3) := by decide +kernel
theorem dX9_undo_8 : decode cX9_undo 8 = .ok (.aload_n 0, 1) := by decide +kernel
theorem dX9_undo_9 : decode cX9_undo 9 = .ok (.getfield 28, 3) := by decide +kernel
theorem dX9_undo_12 : decode cX9_undo 12 = .ok (.invokevirtual 319, 3) := by decide +kernel
theorem dX9_undo_15 : decode cX9_undo 15 = .ok (.ireturn, 1) := by decide +kernel
theorem wX0_goBack_X9 : Cond.methodLinkNest RX9 319 yX0_goBack "StormSeeds" ∈ NW := nw_of 1253 (by decide +kernel) rfl
theorem vc_X0_goBack_X9 {p : Program} {l : Launch} {e : Env} {st : State} {m : MethodId} {args : Array Value} {below : List Frame} {meth : Method} {c : Code} {Q : State → Prop} {nL : Nat} {cc : ByteArray} {s : ST} {pc q : Nat} {lv : List (Nat × Value)} {rest : List Value} {D : va_G} {cA cL : ClassId} {h : Nat → Nat} {Z : State → Heap → Prop} {sa : Nat → Nat} (hZ : ZK h Z sa) {d0 : Nat} (X : Cx (KC D cA cL h Z) p st m args meth c cc nL RX9) (d : decode cc pc = .ok (.invokevirtual 319, 3)) (hq : pc + 3 = q) (hd1 : 3 + 1 ≤ d0) (hd2 : 8 + (5 + 11) + 100 * 3 ≤ 100 * d0) (hr : (rest.map fun v => v.category).sum ≤ 8) {B : Type} {f : Int32 × ST → Option B} {r : B} (hs : Bd (C_X0_goBack s) f = some r) (k : ∀ y, f y = some r → WG (KC D cA cL h Z) p l e (rmD d0) st m args below meth c Q nL y.2 q lv (.int y.1 :: rest)) : WG (KC D cA cL h Z) p l e (rmD d0) st m args below meth c Q nL s pc lv (.ref (h 23) :: .ref (h 1) :: .ref (h 80) :: rest) := by
  obtain ⟨v, hv, hs⟩ := Bd_e hs
  exact cVN_I (K := KC D cA cL h Z) X 80 (n := 2) (k_X0_goBack hZ l D cA cL s hv) (gt_c (gt_of 1256 (by decide +kernel) rfl) gt_t) (hZ.1 st st.heap X.2.2.2 _ wX0_goBack_X9) (gt_of 206 (by decide +kernel) rfl) (gt_of 1255 (by decide +kernel) rfl) (gt_of 93 (by decide +kernel) rfl) ⟨hd1, hd2⟩ ⟨by decide, by decide, by decide +kernel⟩ (As := [.ref (h 1), .ref (h 23)]) rfl hr (sh_80).1 (fs := cF0 h 80 (s.1 80) (s.2 80)) (GC_0 (cA := cA) (cL := cL) sh_80 _ _) rfl rfl d hq (k _ hs)
def C_X9_undo (s : ST) : Option (Int32 × ST) := Bd (C_X0_goBack s) fun y1 => some ((y1.1 &&& 1), y1.2)
set_option maxRecDepth 100000 in
set_option maxHeartbeats 4000000 in
theorem k_X9_undo {h : Nat → Nat} {Z : State → Heap → Prop} {sa : Nat → Nat} (hZ : ZK h Z sa) (l : Launch) (D : va_G) (cA cL : ClassId) (s : ST) {o : Int32 × ST} (hs : C_X9_undo s = some o) : MI l (KC D cA cL h Z) 4 yX9_undo cX9_undo 1 (some .boolean) s [.ref (h 0)] o.1 o.2 := by
  refine met_i (by decide) (Nat.le_of_ble_eq_true rfl) ?_
  intro p e st m args below meth c Q X RI
  unfold C_X9_undo at hs
  refine g_aload_n X dX9_undo_0 (q := 1) rfl 0 rfl ?_
  refine cg_9_11 X dX9_undo_1 (q := 4) rfl sh_0 lf_X9_78 ?_
  refine g_aload_n X dX9_undo_4 (q := 5) rfl 0 rfl ?_
  refine cg_9_0 X dX9_undo_5 (q := 8) rfl sh_0 lf_X9_12 ?_
  refine g_aload_n X dX9_undo_8 (q := 9) rfl 0 rfl ?_
  refine cg_9_2 X dX9_undo_9 (q := 12) rfl sh_0 lf_X9_28 ?_
  refine vc_X0_goBack_X9 hZ X dX9_undo_12 (q := 15) rfl (Nat.le_of_ble_eq_true rfl) (Nat.le_of_ble_eq_true rfl) (Nat.le_of_ble_eq_true rfl) hs (fun y1 hs => ?_)
  exact RI _ 15 _ _ _ (rU1 hs) rfl (rV1 hs) dX9_undo_15
theorem dX9_image_0 : decode cX9_image 0 = .ok (.iload_n 1, 1) := by decide +kernel
theorem dX9_image_1 : decode cX9_image 1 = .ok (.ifCond .eq 43, 3) := by decide +kernel
theorem dX9_image_4 : decode cX9_image 4 = .ok (.aload_n 0, 1) := by decide +kernel
theorem dX9_image_5 : decode cX9_image 5 = .ok (.getfield 32, 3) := by decide +kernel
theorem dX9_image_8 : decode cX9_image 8 = .ok (.aload_n 0, 1) := by decide +kernel
theorem dX9_image_9 : decode cX9_image 9 = .ok (.getfield 12, 3) := by decide +kernel
theorem dX9_image_12 : decode cX9_image 12 = .ok (.invokevirtual 323, 3) := by decide +kernel
theorem dX9_image_15 : decode cX9_image 15 = .ok (.aload_n 0, 1) := by decide +kernel
theorem dX9_image_16 : decode cX9_image 16 = .ok (.getfield 35, 3) := by decide +kernel
theorem dX9_image_19 : decode cX9_image 19 = .ok (.aload_n 0, 1) := by decide +kernel
theorem dX9_image_20 : decode cX9_image 20 = .ok (.getfield 19, 3) := by decide +kernel
theorem dX9_image_23 : decode cX9_image 23 = .ok (.invokevirtual 326, 3) := by decide +kernel
theorem dX9_image_26 : decode cX9_image 26 = .ok (.aload_n 0, 1) := by decide +kernel
theorem dX9_image_27 : decode cX9_image 27 = .ok (.getfield 38, 3) := by decide +kernel
theorem dX9_image_30 : decode cX9_image 30 = .ok (.aload_n 0, 1) := by decide +kernel
theorem dX9_image_31 : decode cX9_image 31 = .ok (.getfield 28, 3) := by decide +kernel
theorem dX9_image_34 : decode cX9_image 34 = .ok (.invokevirtual 329, 3) := by decide +kernel
theorem dX9_image_37 : decode cX9_image 37 = .ok (.aload_n 0, 1) := by decide +kernel
theorem dX9_image_38 : decode cX9_image 38 = .ok (.iconst 1, 1) := by decide +kernel
theorem dX9_image_39 : decode cX9_image 39 = .ok (.putfield 332, 3) := by decide +kernel
theorem dX9_image_42 : decode cX9_image 42 = .ok (.iconst 1, 1) := by decide +kernel
theorem dX9_image_43 : decode cX9_image 43 = .ok (.ireturn, 1) := by decide +kernel
theorem dX9_image_44 : decode cX9_image 44 = .ok (.aload_n 0, 1) := by decide +kernel
theorem dX9_image_45 : decode cX9_image 45 = .ok (.getfield 332, 3) := by decide +kernel
theorem dX9_image_48 : decode cX9_image 48 = .ok (.ifCond .ne 5, 3) := by decide +kernel
theorem dX9_image_51 : decode cX9_image 51 = .ok (.iconst 0, 1) := by decide +kernel
theorem dX9_image_52 : decode cX9_image 52 = .ok (.ireturn, 1) := by decide +kernel
theorem dX9_image_53 : decode cX9_image 53 = .ok (.aload_n 0, 1) := by decide +kernel
theorem dX9_image_54 : decode cX9_image 54 = .ok (.getfield 12, 3) := by decide +kernel
theorem dX9_image_57 : decode cX9_image 57 = .ok (.aload_n 0, 1) := by decide +kernel
theorem dX9_image_58 : decode cX9_image 58 = .ok (.getfield 32, 3) := by decide +kernel
theorem dX9_image_61 : decode cX9_image 61 = .ok (.invokevirtual 323, 3) := by decide +kernel
theorem dX9_image_64 : decode cX9_image 64 = .ok (.aload_n 0, 1) := by decide +kernel
theorem dX9_image_65 : decode cX9_image 65 = .ok (.getfield 19, 3) := by decide +kernel
theorem dX9_image_68 : decode cX9_image 68 = .ok (.aload_n 0, 1) := by decide +kernel
theorem dX9_image_69 : decode cX9_image 69 = .ok (.getfield 35, 3) := by decide +kernel
theorem dX9_image_72 : decode cX9_image 72 = .ok (.invokevirtual 326, 3) := by decide +kernel
theorem dX9_image_75 : decode cX9_image 75 = .ok (.aload_n 0, 1) := by decide +kernel
theorem dX9_image_76 : decode cX9_image 76 = .ok (.getfield 28, 3) := by decide +kernel
theorem dX9_image_79 : decode cX9_image 79 = .ok (.aload_n 0, 1) := by decide +kernel
theorem dX9_image_80 : decode cX9_image 80 = .ok (.getfield 38, 3) := by decide +kernel
theorem dX9_image_83 : decode cX9_image 83 = .ok (.invokevirtual 329, 3) := by decide +kernel
theorem dX9_image_86 : decode cX9_image 86 = .ok (.aload_n 0, 1) := by decide +kernel
theorem dX9_image_87 : decode cX9_image 87 = .ok (.getfield 78, 3) := by decide +kernel
theorem dX9_image_90 : decode cX9_image 90 = .ok (.invokevirtual 90, 3) := by decide +kernel
theorem dX9_image_93 : decode cX9_image 93 = .ok (.iconst 1, 1) := by decide +kernel
theorem dX9_image_94 : decode cX9_image 94 = .ok (.ireturn, 1) := by decide +kernel
theorem wX1_copy_X9 : Cond.methodLinkNest RX9 323 yX1_copy "StormSeeds" ∈ NW := nw_of 1265 (by decide +kernel) rfl
theorem vc_X1_copy_X9 {p : Program} {l : Launch} {e : Env} {st : State} {m : MethodId} {args : Array Value} {below : List Frame} {meth : Method} {c : Code} {Q : State → Prop} {nL : Nat} {cc : ByteArray} {s : ST} {pc q : Nat} {lv : List (Nat × Value)} {rest : List Value} {D : va_G} {cA cL : ClassId} {h : Nat → Nat} {Z : State → Heap → Prop} {sa : Nat → Nat} (hZ : ZK h Z sa) {d0 : Nat} (X : Cx (KC D cA cL h Z) p st m args meth c cc nL RX9) {b0 : Nat} {x1 : Nat} (d : decode cc pc = .ok (.invokevirtual 323, 3)) (hq : pc + 3 = q) (hb0 : isK 1 b0) (hx1 : isK 1 x1) (hd1 : 2 + 1 ≤ d0) (hd2 : 8 + (2 + 11) + 100 * 2 ≤ 100 * d0) (hr : (rest.map fun v => v.category).sum ≤ 8) {B : Type} {f : ST → Option B} {r : B} (hs : Bd (C_X1_copy s b0 x1) f = some r) (k : ∀ y, f y = some r → WG (KC D cA cL h Z) p l e (rmD d0) st m args below meth c Q nL y q lv (rest)) : WG (KC D cA cL h Z) p l e (rmD d0) st m args below meth c Q nL s pc lv (.ref (h x1) :: .ref (h b0) :: rest) := by
  obtain ⟨v, hv, hs⟩ := Bd_e hs
  exact cVN_V (K := KC D cA cL h Z) X b0 (n := 1) (k_X1_copy hZ l D cA cL s b0 x1 hb0 hx1 hv) (gt_c (gt_of 927 (by decide +kernel) rfl) gt_t) (hZ.1 st st.heap X.2.2.2 _ wX1_copy_X9) (gt_of 197 (by decide +kernel) rfl) (gt_of 926 (by decide +kernel) rfl) (gt_of 52 (by decide +kernel) rfl) ⟨hd1, hd2⟩ ⟨by decide, by decide, by decide +kernel⟩ (As := [.ref (h x1)]) rfl hr (hb0).1 (fs := cF1 h b0 (s.1 b0) (s.2 b0)) (GC_1 (cA := cA) (cL := cL) hb0 _ _) rfl rfl d hq (k _ hs)
theorem wX4_copy_X9 : Cond.methodLinkNest RX9 329 yX4_copy "StormSeeds" ∈ NW := nw_of 1272 (by decide +kernel) rfl
theorem vc_X4_copy_X9 {p : Program} {l : Launch} {e : Env} {st : State} {m : MethodId} {args : Array Value} {below : List Frame} {meth : Method} {c : Code} {Q : State → Prop} {nL : Nat} {cc : ByteArray} {s : ST} {pc q : Nat} {lv : List (Nat × Value)} {rest : List Value} {D : va_G} {cA cL : ClassId} {h : Nat → Nat} {Z : State → Heap → Prop} {sa : Nat → Nat} (hZ : ZK h Z sa) {d0 : Nat} (X : Cx (KC D cA cL h Z) p st m args meth c cc nL RX9) {b0 : Nat} {x1 : Nat} (d : decode cc pc = .ok (.invokevirtual 329, 3)) (hq : pc + 3 = q) (hb0 : isK 4 b0) (hx1 : isK 4 x1) (hd1 : 2 + 1 ≤ d0) (hd2 : 8 + (3 + 11) + 100 * 2 ≤ 100 * d0) (hr : (rest.map fun v => v.category).sum ≤ 8) {B : Type} {f : ST → Option B} {r : B} (hs : Bd (C_X4_copy s b0 x1) f = some r) (k : ∀ y, f y = some r → WG (KC D cA cL h Z) p l e (rmD d0) st m args below meth c Q nL y q lv (rest)) : WG (KC D cA cL h Z) p l e (rmD d0) st m args below meth c Q nL s pc lv (.ref (h x1) :: .ref (h b0) :: rest) := by
  obtain ⟨v, hv, hs⟩ := Bd_e hs
  exact cVN_V (K := KC D cA cL h Z) X b0 (n := 1) (k_X4_copy hZ l D cA cL s b0 x1 hb0 hx1 hv) (gt_c (gt_of 803 (by decide +kernel) rfl) gt_t) (hZ.1 st st.heap X.2.2.2 _ wX4_copy_X9) (gt_of 199 (by decide +kernel) rfl) (gt_of 802 (by decide +kernel) rfl) (gt_of 34 (by decide +kernel) rfl) ⟨hd1, hd2⟩ ⟨by decide, by decide, by decide +kernel⟩ (As := [.ref (h x1)]) rfl hr (hb0).1 (fs := cF4 h b0 (s.1 b0) (s.2 b0)) (GC_4 (cA := cA) (cL := cL) hb0 _ _) rfl rfl d hq (k _ hs)
theorem wX7_copy_X9 : Cond.methodLinkNest RX9 326 yX7_copy "StormSeeds" ∈ NW := nw_of 1266 (by decide +kernel) rfl
theorem vc_X7_copy_X9 {p : Program} {l : Launch} {e : Env} {st : State} {m : MethodId} {args : Array Value} {below : List Frame} {meth : Method} {c : Code} {Q : State → Prop} {nL : Nat} {cc : ByteArray} {s : ST} {pc q : Nat} {lv : List (Nat × Value)} {rest : List Value} {D : va_G} {cA cL : ClassId} {h : Nat → Nat} {Z : State → Heap → Prop} {sa : Nat → Nat} (hZ : ZK h Z sa) {d0 : Nat} (X : Cx (KC D cA cL h Z) p st m args meth c cc nL RX9) {b0 : Nat} {x1 : Nat} (d : decode cc pc = .ok (.invokevirtual 326, 3)) (hq : pc + 3 = q) (hb0 : isK 7 b0) (hx1 : isK 7 x1) (hd1 : 4 + 1 ≤ d0) (hd2 : 8 + (2 + 11) + 100 * 4 ≤ 100 * d0) (hr : (rest.map fun v => v.category).sum ≤ 8) {B : Type} {f : ST → Option B} {r : B} (hs : Bd (C_X7_copy s b0 x1) f = some r) (k : ∀ y, f y = some r → WG (KC D cA cL h Z) p l e (rmD d0) st m args below meth c Q nL y q lv (rest)) : WG (KC D cA cL h Z) p l e (rmD d0) st m args below meth c Q nL s pc lv (.ref (h x1) :: .ref (h b0) :: rest) := by
  obtain ⟨v, hv, hs⟩ := Bd_e hs
  exact cVN_V (K := KC D cA cL h Z) X b0 (n := 1) (k_X7_copy hZ l D cA cL s b0 x1 hb0 hx1 hv) (gt_c (gt_of 1269 (by decide +kernel) rfl) gt_t) (hZ.1 st st.heap X.2.2.2 _ wX7_copy_X9) (gt_of 198 (by decide +kernel) rfl) (gt_of 1268 (by decide +kernel) rfl) (gt_of 95 (by decide +kernel) rfl) ⟨hd1, hd2⟩ ⟨by decide, by decide, by decide +kernel⟩ (As := [.ref (h x1)]) rfl hr (hb0).1 (fs := cF7 h b0 (s.1 b0) (s.2 b0)) (GC_7 (cA := cA) (cL := cL) hb0 _ _) rfl rfl d hq (k _ hs)
def C_X9_image (s : ST) (x1 : Int32) : Option (Int32 × ST) := if x1 = 0 then (if (s.1 0 6) = 0 then (some ((0 : Int32), s)) else (Bd (C_X1_copy s 1 25) fun s1 => Bd (C_X7_copy s1 8 32) fun s2 => Bd (C_X4_copy s2 23 47) fun s3 => Lt (C_X0_forget s3) fun s4 => some ((1 : Int32), s4))) else (Bd (C_X1_copy s 25 1) fun s5 => Bd (C_X7_copy s5 32 8) fun s6 => Bd (C_X4_copy s6 47 23) fun s7 => Lt (ups s7 0 6 (1 : Int32)) fun s8 => some ((1 : Int32), s8))
set_option maxRecDepth 100000 in
set_option maxHeartbeats 4000000 in
theorem k_X9_image {h : Nat → Nat} {Z : State → Heap → Prop} {sa : Nat → Nat} (hZ : ZK h Z sa) (l : Launch) (D : va_G) (cA cL : ClassId) (s : ST) (x1 : Int32) {o : Int32 × ST} (hs : C_X9_image s x1 = some o) : MI l (KC D cA cL h Z) 5 yX9_image cX9_image 2 (some .boolean) s [.ref (h 0), .int x1] o.1 o.2 := by
  refine met_i (by decide) (Nat.le_of_ble_eq_true rfl) ?_
  intro p e st m args below meth c Q X RI
  unfold C_X9_image at hs
  refine g_iload_n X dX9_image_0 (q := 1) rfl 1 rfl ?_
  refine g_if_eq X dX9_image_1 (q := 4) rfl (tgt := 44) (by decide) hs ?_ ?_
  · intro hs
    refine g_aload_n X dX9_image_44 (q := 45) rfl 0 rfl ?_
    refine cg_9_6 X dX9_image_45 (q := 48) rfl sh_0 lf_X9_332 ?_
    refine g_if_ne X dX9_image_48 (q := 51) rfl (tgt := 53) (by decide) hs ?_ ?_
    · intro hs
      refine g_aload_n X dX9_image_53 (q := 54) rfl 0 rfl ?_
      refine cg_9_0 X dX9_image_54 (q := 57) rfl sh_0 lf_X9_12 ?_
      refine g_aload_n X dX9_image_57 (q := 58) rfl 0 rfl ?_
      refine cg_9_3 X dX9_image_58 (q := 61) rfl sh_0 lf_X9_32 ?_
      refine vc_X1_copy_X9 hZ X dX9_image_61 (q := 64) rfl sh_1 sh_25 (Nat.le_of_ble_eq_true rfl) (Nat.le_of_ble_eq_true rfl) (Nat.le_of_ble_eq_true rfl) hs (fun s1 hs => ?_)
      refine g_aload_n X dX9_image_64 (q := 65) rfl 0 rfl ?_
      refine cg_9_1 X dX9_image_65 (q := 68) rfl sh_0 lf_X9_19 ?_
      refine g_aload_n X dX9_image_68 (q := 69) rfl 0 rfl ?_
      refine cg_9_4 X dX9_image_69 (q := 72) rfl sh_0 lf_X9_35 ?_
      refine vc_X7_copy_X9 hZ X dX9_image_72 (q := 75) rfl sh_8 sh_32 (Nat.le_of_ble_eq_true rfl) (Nat.le_of_ble_eq_true rfl) (Nat.le_of_ble_eq_true rfl) hs (fun s2 hs => ?_)
      refine g_aload_n X dX9_image_75 (q := 76) rfl 0 rfl ?_
      refine cg_9_2 X dX9_image_76 (q := 79) rfl sh_0 lf_X9_28 ?_
      refine g_aload_n X dX9_image_79 (q := 80) rfl 0 rfl ?_
      refine cg_9_5 X dX9_image_80 (q := 83) rfl sh_0 lf_X9_38 ?_
      refine vc_X4_copy_X9 hZ X dX9_image_83 (q := 86) rfl sh_23 sh_47 (Nat.le_of_ble_eq_true rfl) (Nat.le_of_ble_eq_true rfl) (Nat.le_of_ble_eq_true rfl) hs (fun s3 hs => ?_)
      refine g_aload_n X dX9_image_86 (q := 87) rfl 0 rfl ?_
      refine cg_9_11 X dX9_image_87 (q := 90) rfl sh_0 lf_X9_78 ?_
      refine vc_X0_forget_X9 hZ X dX9_image_90 (q := 93) rfl (Nat.le_of_ble_eq_true rfl) (Nat.le_of_ble_eq_true rfl) (Nat.le_of_ble_eq_true rfl) hs (fun s4 hs => ?_)
      refine g_iconst X dX9_image_93 (q := 94) rfl li_i1 ?_
      exact RI _ 94 _ _ _ (rU1 hs) rfl (rV1 hs) dX9_image_94
    · intro hs
      refine g_iconst X dX9_image_51 (q := 52) rfl li_i0 ?_
      exact RI _ 52 _ _ _ (rU1 hs) rfl (rV1 hs) dX9_image_52
  · intro hs
    refine g_aload_n X dX9_image_4 (q := 5) rfl 0 rfl ?_
    refine cg_9_3 X dX9_image_5 (q := 8) rfl sh_0 lf_X9_32 ?_
    refine g_aload_n X dX9_image_8 (q := 9) rfl 0 rfl ?_
    refine cg_9_0 X dX9_image_9 (q := 12) rfl sh_0 lf_X9_12 ?_
    refine vc_X1_copy_X9 hZ X dX9_image_12 (q := 15) rfl sh_25 sh_1 (Nat.le_of_ble_eq_true rfl) (Nat.le_of_ble_eq_true rfl) (Nat.le_of_ble_eq_true rfl) hs (fun s5 hs => ?_)
    refine g_aload_n X dX9_image_15 (q := 16) rfl 0 rfl ?_
    refine cg_9_4 X dX9_image_16 (q := 19) rfl sh_0 lf_X9_35 ?_
    refine g_aload_n X dX9_image_19 (q := 20) rfl 0 rfl ?_
    refine cg_9_1 X dX9_image_20 (q := 23) rfl sh_0 lf_X9_19 ?_
    refine vc_X7_copy_X9 hZ X dX9_image_23 (q := 26) rfl sh_32 sh_8 (Nat.le_of_ble_eq_true rfl) (Nat.le_of_ble_eq_true rfl) (Nat.le_of_ble_eq_true rfl) hs (fun s6 hs => ?_)
    refine g_aload_n X dX9_image_26 (q := 27) rfl 0 rfl ?_
    refine cg_9_5 X dX9_image_27 (q := 30) rfl sh_0 lf_X9_38 ?_
    refine g_aload_n X dX9_image_30 (q := 31) rfl 0 rfl ?_
    refine cg_9_2 X dX9_image_31 (q := 34) rfl sh_0 lf_X9_28 ?_
    refine vc_X4_copy_X9 hZ X dX9_image_34 (q := 37) rfl sh_47 sh_23 (Nat.le_of_ble_eq_true rfl) (Nat.le_of_ble_eq_true rfl) (Nat.le_of_ble_eq_true rfl) hs (fun s7 hs => ?_)
    refine g_aload_n X dX9_image_37 (q := 38) rfl 0 rfl ?_
    refine g_iconst X dX9_image_38 (q := 39) rfl li_i1 ?_
    refine cp_9_6 X dX9_image_39 (q := 42) rfl sh_0 lf_X9_332 (by decide) hs (fun s8 hs => ?_)
    refine g_iconst X dX9_image_42 (q := 43) rfl li_i1 ?_
    exact RI _ 43 _ _ _ (rU1 hs) rfl (rV1 hs) dX9_image_43
theorem dX9_look_0 : decode cX9_look 0 = .ok (.iload_n 1, 1) := by decide +kernel
theorem dX9_look_1 : decode cX9_look 1 = .ok (.tableswitch 231 0 15 #[79, 87, 95, 103, 111, 119, 127, 138, 149, 160, 171, 179, 187, 201, 212, 223], 79) := by decide +kernel
theorem dX9_look_80 : decode cX9_look 80 = .ok (.aload_n 0, 1) := by decide +kernel
theorem dX9_look_81 : decode cX9_look 81 = .ok (.getfield 12, 3) := by decide +kernel
theorem dX9_look_84 : decode cX9_look 84 = .ok (.getfield 336, 3) := by decide +kernel
theorem dX9_look_87 : decode cX9_look 87 = .ok (.ireturn, 1) := by decide +kernel
theorem dX9_look_88 : decode cX9_look 88 = .ok (.aload_n 0, 1) := by decide +kernel
theorem dX9_look_89 : decode cX9_look 89 = .ok (.getfield 12, 3) := by decide +kernel
theorem dX9_look_92 : decode cX9_look 92 = .ok (.getfield 339, 3) := by decide +kernel
theorem dX9_look_95 : decode cX9_look 95 = .ok (.ireturn, 1) := by decide +kernel
theorem dX9_look_96 : decode cX9_look 96 = .ok (.aload_n 0, 1) := by decide +kernel
theorem dX9_look_97 : decode cX9_look 97 = .ok (.getfield 12, 3) := by decide +kernel
theorem dX9_look_100 : decode cX9_look 100 = .ok (.getfield 178, 3) := by decide +kernel
theorem dX9_look_103 : decode cX9_look 103 = .ok (.ireturn, 1) := by decide +kernel
theorem dX9_look_104 : decode cX9_look 104 = .ok (.aload_n 0, 1) := by decide +kernel
theorem dX9_look_105 : decode cX9_look 105 = .ok (.getfield 12, 3) := by decide +kernel
theorem dX9_look_108 : decode cX9_look 108 = .ok (.getfield 342, 3) := by decide +kernel
theorem dX9_look_111 : decode cX9_look 111 = .ok (.ireturn, 1) := by decide +kernel
theorem dX9_look_112 : decode cX9_look 112 = .ok (.aload_n 0, 1) := by decide +kernel
theorem dX9_look_113 : decode cX9_look 113 = .ok (.getfield 12, 3) := by decide +kernel
theorem dX9_look_116 : decode cX9_look 116 = .ok (.getfield 345, 3) := by decide +kernel
theorem dX9_look_119 : decode cX9_look 119 = .ok (.ireturn, 1) := by decide +kernel
theorem dX9_look_120 : decode cX9_look 120 = .ok (.aload_n 0, 1) := by decide +kernel
theorem dX9_look_121 : decode cX9_look 121 = .ok (.getfield 12, 3) := by decide +kernel
theorem dX9_look_124 : decode cX9_look 124 = .ok (.getfield 261, 3) := by decide +kernel
theorem dX9_look_127 : decode cX9_look 127 = .ok (.ireturn, 1) := by decide +kernel
theorem dX9_look_128 : decode cX9_look 128 = .ok (.aload_n 0, 1) := by decide +kernel
theorem dX9_look_129 : decode cX9_look 129 = .ok (.getfield 19, 3) := by decide +kernel
theorem dX9_look_132 : decode cX9_look 132 = .ok (.getfield 238, 3) := by decide +kernel
theorem dX9_look_135 : decode cX9_look 135 = .ok (.getfield 303, 3) := by decide +kernel
theorem dX9_look_138 : decode cX9_look 138 = .ok (.ireturn, 1) := by decide +kernel
theorem dX9_look_139 : decode cX9_look 139 = .ok (.aload_n 0, 1) := by decide +kernel
theorem dX9_look_140 : decode cX9_look 140 = .ok (.getfield 19, 3) := by decide +kernel
theorem dX9_look_143 : decode cX9_look 143 = .ok (.getfield 348, 3) := by decide +kernel
theorem dX9_look_146 : decode cX9_look 146 = .ok (.getfield 303, 3) := by decide +kernel
theorem dX9_look_149 : decode cX9_look 149 = .ok (.ireturn, 1) := by decide +kernel
theorem dX9_look_150 : decode cX9_look 150 = .ok (.aload_n 0, 1) := by decide +kernel
theorem dX9_look_151 : decode cX9_look 151 = .ok (.getfield 12, 3) := by decide +kernel
theorem dX9_look_154 : decode cX9_look 154 = .ok (.getfield 245, 3) := by decide +kernel
theorem dX9_look_157 : decode cX9_look 157 = .ok (.invokestatic 282, 3) := by decide +kernel
theorem dX9_look_160 : decode cX9_look 160 = .ok (.ireturn, 1) := by decide +kernel
theorem dX9_look_161 : decode cX9_look 161 = .ok (.aload_n 0, 1) := by decide +kernel
theorem dX9_look_162 : decode cX9_look 162 = .ok (.getfield 12, 3) := by decide +kernel
theorem dX9_look_165 : decode cX9_look 165 = .ok (.getfield 217, 3) := by decide +kernel
theorem dX9_look_168 : decode cX9_look 168 = .ok (.invokestatic 282, 3) := by decide +kernel
theorem dX9_look_171 : decode cX9_look 171 = .ok (.ireturn, 1) := by decide +kernel
theorem dX9_look_172 : decode cX9_look 172 = .ok (.aload_n 0, 1) := by decide +kernel
theorem dX9_look_173 : decode cX9_look 173 = .ok (.getfield 28, 3) := by decide +kernel
theorem dX9_look_176 : decode cX9_look 176 = .ok (.getfield 303, 3) := by decide +kernel
theorem dX9_look_179 : decode cX9_look 179 = .ok (.ireturn, 1) := by decide +kernel
theorem dX9_look_180 : decode cX9_look 180 = .ok (.aload_n 0, 1) := by decide +kernel
theorem dX9_look_181 : decode cX9_look 181 = .ok (.getfield 12, 3) := by decide +kernel
theorem dX9_look_184 : decode cX9_look 184 = .ok (.getfield 86, 3) := by decide +kernel
theorem dX9_look_187 : decode cX9_look 187 = .ok (.ireturn, 1) := by decide +kernel
theorem dX9_look_188 : decode cX9_look 188 = .ok (.aload_n 0, 1) := by decide +kernel
theorem dX9_look_189 : decode cX9_look 189 = .ok (.getfield 19, 3) := by decide +kernel
theorem dX9_look_192 : decode cX9_look 192 = .ok (.getfield 228, 3) := by decide +kernel
theorem dX9_look_195 : decode cX9_look 195 = .ok (.getfield 351, 3) := by decide +kernel
theorem dX9_look_198 : decode cX9_look 198 = .ok (.getfield 303, 3) := by decide +kernel
theorem dX9_look_201 : decode cX9_look 201 = .ok (.ireturn, 1) := by decide +kernel
theorem dX9_look_202 : decode cX9_look 202 = .ok (.aload_n 0, 1) := by decide +kernel
theorem dX9_look_203 : decode cX9_look 203 = .ok (.getfield 19, 3) := by decide +kernel
theorem dX9_look_206 : decode cX9_look 206 = .ok (.getfield 139, 3) := by decide +kernel
theorem dX9_look_209 : decode cX9_look 209 = .ok (.getfield 303, 3) := by decide +kernel
theorem dX9_look_212 : decode cX9_look 212 = .ok (.ireturn, 1) := by decide +kernel
theorem dX9_look_213 : decode cX9_look 213 = .ok (.aload_n 0, 1) := by decide +kernel
theorem dX9_look_214 : decode cX9_look 214 = .ok (.getfield 19, 3) := by decide +kernel
theorem dX9_look_217 : decode cX9_look 217 = .ok (.getfield 142, 3) := by decide +kernel
theorem dX9_look_220 : decode cX9_look 220 = .ok (.getfield 303, 3) := by decide +kernel
theorem dX9_look_223 : decode cX9_look 223 = .ok (.ireturn, 1) := by decide +kernel
theorem dX9_look_224 : decode cX9_look 224 = .ok (.aload_n 0, 1) := by decide +kernel
theorem dX9_look_225 : decode cX9_look 225 = .ok (.getfield 78, 3) := by decide +kernel
theorem dX9_look_228 : decode cX9_look 228 = .ok (.getfield 354, 3) := by decide +kernel
theorem dX9_look_231 : decode cX9_look 231 = .ok (.ireturn, 1) := by decide +kernel
theorem dX9_look_232 : decode cX9_look 232 = .ok (.ldc_w 357, 3) := by decide +kernel
theorem dX9_look_235 : decode cX9_look 235 = .ok (.ireturn, 1) := by decide +kernel
def C_X9_look (s : ST) (x1 : Int32) : Int32 := if x1 = (0 : Int32) then ((s.1 1 0)) else (if x1 = (1 : Int32) then ((s.1 1 1)) else (if x1 = (2 : Int32) then ((s.1 1 2)) else (if x1 = (3 : Int32) then ((s.1 1 3)) else (if x1 = (4 : Int32) then ((s.1 1 4)) else (if x1 = (5 : Int32) then ((s.1 1 5)) else (if x1 = (6 : Int32) then ((s.1 9 2)) else (if x1 = (7 : Int32) then ((s.1 11 2)) else (if x1 = (8 : Int32) then (Lt (C_J13_bitCount_95d88 s (s.2 1 8)) fun y1 => y1) else (if x1 = (9 : Int32) then (Lt (C_J13_bitCount_95d88 s (s.2 1 9)) fun y2 => y2) else (if x1 = (10 : Int32) then ((s.1 23 2)) else (if x1 = (11 : Int32) then ((s.1 1 6)) else (if x1 = (12 : Int32) then ((s.1 14 2)) else (if x1 = (13 : Int32) then ((s.1 19 2)) else (if x1 = (14 : Int32) then ((s.1 21 2)) else (if x1 = (15 : Int32) then ((s.1 80 3)) else ((-1000000 : Int32)))))))))))))))))
set_option maxRecDepth 100000 in
set_option maxHeartbeats 4000000 in
theorem k_X9_look {h : Nat → Nat} {Z : State → Heap → Prop} {sa : Nat → Nat} (hZ : ZK h Z sa) (l : Launch) (D : va_G) (cA cL : ClassId) (s : ST) (x1 : Int32) : MI l (KC D cA cL h Z) 2 yX9_look cX9_look 2 (some .int) s [.ref (h 0), .int x1] (C_X9_look s x1) s := by
  refine met_i (by decide) (Nat.le_of_ble_eq_true rfl) ?_
  intro p e st m args below meth c Q X RI
  generalize hs : C_X9_look s x1 = o at RI
  unfold C_X9_look at hs
  refine g_iload_n X dX9_look_0 (q := 1) rfl 1 rfl ?_
  refine g_tsw X dX9_look_1 (z := (0 : Int32)) (tgt := 80) rfl (by decide) (by decide) (by decide) hs ?_ (fun hn0 hs => ?_)
  · intro hs
    refine g_aload_n X dX9_look_80 (q := 81) rfl 0 rfl ?_
    refine cg_9_0 X dX9_look_81 (q := 84) rfl sh_0 lf_X9_12 ?_
    refine cgN_1_0 hZ X dX9_look_84 (q := 87) rfl sh_1 lf_X9_336 ?_
    exact RI _ 87 _ _ _ rfl rfl hs dX9_look_87
  refine g_tsw X dX9_look_1 (z := (1 : Int32)) (tgt := 88) rfl (by decide) (by decide) (by decide) hs ?_ (fun hn1 hs => ?_)
  · intro hs
    refine g_aload_n X dX9_look_88 (q := 89) rfl 0 rfl ?_
    refine cg_9_0 X dX9_look_89 (q := 92) rfl sh_0 lf_X9_12 ?_
    refine cgN_1_1 hZ X dX9_look_92 (q := 95) rfl sh_1 lf_X9_339 ?_
    exact RI _ 95 _ _ _ rfl rfl hs dX9_look_95
  refine g_tsw X dX9_look_1 (z := (2 : Int32)) (tgt := 96) rfl (by decide) (by decide) (by decide) hs ?_ (fun hn2 hs => ?_)
  · intro hs
    refine g_aload_n X dX9_look_96 (q := 97) rfl 0 rfl ?_
    refine cg_9_0 X dX9_look_97 (q := 100) rfl sh_0 lf_X9_12 ?_
    refine cgN_1_2 hZ X dX9_look_100 (q := 103) rfl sh_1 lf_X9_178 ?_
    exact RI _ 103 _ _ _ rfl rfl hs dX9_look_103
  refine g_tsw X dX9_look_1 (z := (3 : Int32)) (tgt := 104) rfl (by decide) (by decide) (by decide) hs ?_ (fun hn3 hs => ?_)
  · intro hs
    refine g_aload_n X dX9_look_104 (q := 105) rfl 0 rfl ?_
    refine cg_9_0 X dX9_look_105 (q := 108) rfl sh_0 lf_X9_12 ?_
    refine cgN_1_3 hZ X dX9_look_108 (q := 111) rfl sh_1 lf_X9_342 ?_
    exact RI _ 111 _ _ _ rfl rfl hs dX9_look_111
  refine g_tsw X dX9_look_1 (z := (4 : Int32)) (tgt := 112) rfl (by decide) (by decide) (by decide) hs ?_ (fun hn4 hs => ?_)
  · intro hs
    refine g_aload_n X dX9_look_112 (q := 113) rfl 0 rfl ?_
    refine cg_9_0 X dX9_look_113 (q := 116) rfl sh_0 lf_X9_12 ?_
    refine cgN_1_4 hZ X dX9_look_116 (q := 119) rfl sh_1 lf_X9_345 ?_
    exact RI _ 119 _ _ _ rfl rfl hs dX9_look_119
  refine g_tsw X dX9_look_1 (z := (5 : Int32)) (tgt := 120) rfl (by decide) (by decide) (by decide) hs ?_ (fun hn5 hs => ?_)
  · intro hs
    refine g_aload_n X dX9_look_120 (q := 121) rfl 0 rfl ?_
    refine cg_9_0 X dX9_look_121 (q := 124) rfl sh_0 lf_X9_12 ?_
    refine cgN_1_5 hZ X dX9_look_124 (q := 127) rfl sh_1 lf_X9_261 ?_
    exact RI _ 127 _ _ _ rfl rfl hs dX9_look_127
  refine g_tsw X dX9_look_1 (z := (6 : Int32)) (tgt := 128) rfl (by decide) (by decide) (by decide) hs ?_ (fun hn6 hs => ?_)
  · intro hs
    refine g_aload_n X dX9_look_128 (q := 129) rfl 0 rfl ?_
    refine cg_9_1 X dX9_look_129 (q := 132) rfl sh_0 lf_X9_19 ?_
    refine cgN_7_0 hZ X dX9_look_132 (q := 135) rfl sh_8 lf_X9_238 ?_
    refine cgN_4_2 hZ X dX9_look_135 (q := 138) rfl sh_9 lf_X9_303 ?_
    exact RI _ 138 _ _ _ rfl rfl hs dX9_look_138
  refine g_tsw X dX9_look_1 (z := (7 : Int32)) (tgt := 139) rfl (by decide) (by decide) (by decide) hs ?_ (fun hn7 hs => ?_)
  · intro hs
    refine g_aload_n X dX9_look_139 (q := 140) rfl 0 rfl ?_
    refine cg_9_1 X dX9_look_140 (q := 143) rfl sh_0 lf_X9_19 ?_
    refine cgN_7_1 hZ X dX9_look_143 (q := 146) rfl sh_8 lf_X9_348 ?_
    refine cgN_4_2 hZ X dX9_look_146 (q := 149) rfl sh_11 lf_X9_303 ?_
    exact RI _ 149 _ _ _ rfl rfl hs dX9_look_149
  refine g_tsw X dX9_look_1 (z := (8 : Int32)) (tgt := 150) rfl (by decide) (by decide) (by decide) hs ?_ (fun hn8 hs => ?_)
  · intro hs
    refine g_aload_n X dX9_look_150 (q := 151) rfl 0 rfl ?_
    refine cg_9_0 X dX9_look_151 (q := 154) rfl sh_0 lf_X9_12 ?_
    refine cgN_1_8 hZ X dX9_look_154 (q := 157) rfl sh_1 lf_X9_245 ?_
    refine vc_J13_bitCount_95d88_X9 hZ X dX9_look_157 (q := 160) rfl (Nat.le_of_ble_eq_true rfl) (Nat.le_of_ble_eq_true rfl) (Nat.le_of_ble_eq_true rfl) hs (fun y1 hs => ?_)
    exact RI _ 160 _ _ _ rfl rfl hs dX9_look_160
  refine g_tsw X dX9_look_1 (z := (9 : Int32)) (tgt := 161) rfl (by decide) (by decide) (by decide) hs ?_ (fun hn9 hs => ?_)
  · intro hs
    refine g_aload_n X dX9_look_161 (q := 162) rfl 0 rfl ?_
    refine cg_9_0 X dX9_look_162 (q := 165) rfl sh_0 lf_X9_12 ?_
    refine cgN_1_9 hZ X dX9_look_165 (q := 168) rfl sh_1 lf_X9_217 ?_
    refine vc_J13_bitCount_95d88_X9 hZ X dX9_look_168 (q := 171) rfl (Nat.le_of_ble_eq_true rfl) (Nat.le_of_ble_eq_true rfl) (Nat.le_of_ble_eq_true rfl) hs (fun y2 hs => ?_)
    exact RI _ 171 _ _ _ rfl rfl hs dX9_look_171
  refine g_tsw X dX9_look_1 (z := (10 : Int32)) (tgt := 172) rfl (by decide) (by decide) (by decide) hs ?_ (fun hn10 hs => ?_)
  · intro hs
    refine g_aload_n X dX9_look_172 (q := 173) rfl 0 rfl ?_
    refine cg_9_2 X dX9_look_173 (q := 176) rfl sh_0 lf_X9_28 ?_
    refine cgN_4_2 hZ X dX9_look_176 (q := 179) rfl sh_23 lf_X9_303 ?_
    exact RI _ 179 _ _ _ rfl rfl hs dX9_look_179
  refine g_tsw X dX9_look_1 (z := (11 : Int32)) (tgt := 180) rfl (by decide) (by decide) (by decide) hs ?_ (fun hn11 hs => ?_)
  · intro hs
    refine g_aload_n X dX9_look_180 (q := 181) rfl 0 rfl ?_
    refine cg_9_0 X dX9_look_181 (q := 184) rfl sh_0 lf_X9_12 ?_
    refine cgN_1_6 hZ X dX9_look_184 (q := 187) rfl sh_1 lf_X9_86 ?_
    exact RI _ 187 _ _ _ rfl rfl hs dX9_look_187
  refine g_tsw X dX9_look_1 (z := (12 : Int32)) (tgt := 188) rfl (by decide) (by decide) (by decide) hs ?_ (fun hn12 hs => ?_)
  · intro hs
    refine g_aload_n X dX9_look_188 (q := 189) rfl 0 rfl ?_
    refine cg_9_1 X dX9_look_189 (q := 192) rfl sh_0 lf_X9_19 ?_
    refine cgN_7_2 hZ X dX9_look_192 (q := 195) rfl sh_8 lf_X9_228 ?_
    refine cgN_2_0 hZ X dX9_look_195 (q := 198) rfl sh_13 lf_X9_351 ?_
    refine cgN_4_2 hZ X dX9_look_198 (q := 201) rfl sh_14 lf_X9_303 ?_
    exact RI _ 201 _ _ _ rfl rfl hs dX9_look_201
  refine g_tsw X dX9_look_1 (z := (13 : Int32)) (tgt := 202) rfl (by decide) (by decide) (by decide) hs ?_ (fun hn13 hs => ?_)
  · intro hs
    refine g_aload_n X dX9_look_202 (q := 203) rfl 0 rfl ?_
    refine cg_9_1 X dX9_look_203 (q := 206) rfl sh_0 lf_X9_19 ?_
    refine cgN_7_3 hZ X dX9_look_206 (q := 209) rfl sh_8 lf_X9_139 ?_
    refine cgN_4_2 hZ X dX9_look_209 (q := 212) rfl sh_19 lf_X9_303 ?_
    exact RI _ 212 _ _ _ rfl rfl hs dX9_look_212
  refine g_tsw X dX9_look_1 (z := (14 : Int32)) (tgt := 213) rfl (by decide) (by decide) (by decide) hs ?_ (fun hn14 hs => ?_)
  · intro hs
    refine g_aload_n X dX9_look_213 (q := 214) rfl 0 rfl ?_
    refine cg_9_1 X dX9_look_214 (q := 217) rfl sh_0 lf_X9_19 ?_
    refine cgN_7_4 hZ X dX9_look_217 (q := 220) rfl sh_8 lf_X9_142 ?_
    refine cgN_4_2 hZ X dX9_look_220 (q := 223) rfl sh_21 lf_X9_303 ?_
    exact RI _ 223 _ _ _ rfl rfl hs dX9_look_223
  refine g_tsw X dX9_look_1 (z := (15 : Int32)) (tgt := 224) rfl (by decide) (by decide) (by decide) hs ?_ (fun hn15 hs => ?_)
  · intro hs
    refine g_aload_n X dX9_look_224 (q := 225) rfl 0 rfl ?_
    refine cg_9_11 X dX9_look_225 (q := 228) rfl sh_0 lf_X9_78 ?_
    refine cgN_0_3 hZ X dX9_look_228 (q := 231) rfl sh_80 lf_X9_354 ?_
    exact RI _ 231 _ _ _ rfl rfl hs dX9_look_231
  refine g_tswO X dX9_look_1 (tgt := 232) (by have t0 := tsw_ne hn0 (k := 0) (by decide); have t1 := tsw_ne hn1 (k := 1) (by decide); have t2 := tsw_ne hn2 (k := 2) (by decide); have t3 := tsw_ne hn3 (k := 3) (by decide); have t4 := tsw_ne hn4 (k := 4) (by decide); have t5 := tsw_ne hn5 (k := 5) (by decide); have t6 := tsw_ne hn6 (k := 6) (by decide); have t7 := tsw_ne hn7 (k := 7) (by decide); have t8 := tsw_ne hn8 (k := 8) (by decide); have t9 := tsw_ne hn9 (k := 9) (by decide); have t10 := tsw_ne hn10 (k := 10) (by decide); have t11 := tsw_ne hn11 (k := 11) (by decide); have t12 := tsw_ne hn12 (k := 12) (by decide); have t13 := tsw_ne hn13 (k := 13) (by decide); have t14 := tsw_ne hn14 (k := 14) (by decide); have t15 := tsw_ne hn15 (k := 15) (by decide); omega) (by decide) ?_
  refine g_ldc_w X dX9_look_232 (q := 235) rfl kc_X9_357 ?_
  exact RI _ 235 _ _ _ rfl rfl hs dX9_look_235
theorem dX3_readPart_0 : decode cX3_readPart 0 = .ok (.aload_n 0, 1) := by decide +kernel
theorem dX3_readPart_1 : decode cX3_readPart 1 = .ok (.getfield 18, 3) := by decide +kernel
theorem dX3_readPart_4 : decode cX3_readPart 4 = .ok (.ldc 218, 2) := by decide +kernel
theorem dX3_readPart_6 : decode cX3_readPart 6 = .ok (.invokevirtual 220, 3) := by decide +kernel
theorem dX3_readPart_9 : decode cX3_readPart 9 = .ok (.istore_n 2, 1) := by decide +kernel
theorem dX3_readPart_10 : decode cX3_readPart 10 = .ok (.iload_n 2, 1) := by decide +kernel
theorem dX3_readPart_11 : decode cX3_readPart 11 = .ok (.ifCond .ne 42, 3) := by decide +kernel
theorem dX3_readPart_14 : decode cX3_readPart 14 = .ok (.aload_n 0, 1) := by decide +kernel
theorem dX3_readPart_15 : decode cX3_readPart 15 = .ok (.getfield 18, 3) := by decide +kernel
theorem dX3_readPart_18 : decode cX3_readPart 18 = .ok (.bipush 40, 2) := by decide +kernel
theorem dX3_readPart_20 : decode cX3_readPart 20 = .ok (.invokevirtual 223, 3) := by decide +kernel
theorem dX3_readPart_23 : decode cX3_readPart 23 = .ok (.ifCond .ne 30, 3) := by decide +kernel
theorem dX3_readPart_26 : decode cX3_readPart 26 = .ok (.aload_n 0, 1) := by decide +kernel
theorem dX3_readPart_27 : decode cX3_readPart 27 = .ok (.invokevirtual 172, 3) := by decide +kernel
theorem dX3_readPart_30 : decode cX3_readPart 30 = .ok (.aload_n 0, 1) := by decide +kernel
theorem dX3_readPart_31 : decode cX3_readPart 31 = .ok (.invokevirtual 226, 3) := by decide +kernel
theorem dX3_readPart_34 : decode cX3_readPart 34 = .ok (.istore_n 3, 1) := by decide +kernel
theorem dX3_readPart_35 : decode cX3_readPart 35 = .ok (.aload_n 0, 1) := by decide +kernel
theorem dX3_readPart_36 : decode cX3_readPart 36 = .ok (.invokevirtual 172, 3) := by decide +kernel
theorem dX3_readPart_39 : decode cX3_readPart 39 = .ok (.aload_n 0, 1) := by decide +kernel
theorem dX3_readPart_40 : decode cX3_readPart 40 = .ok (.getfield 12, 3) := by decide +kernel
theorem dX3_readPart_43 : decode cX3_readPart 43 = .ok (.getfield 155, 3) := by decide +kernel
theorem dX3_readPart_46 : decode cX3_readPart 46 = .ok (.iload_n 3, 1) := by decide +kernel
theorem dX3_readPart_47 : decode cX3_readPart 47 = .ok (.invokevirtual 190, 3) := by decide +kernel
theorem dX3_readPart_50 : decode cX3_readPart 50 = .ok (.goto 80, 3) := by decide +kernel
theorem dX3_readPart_53 : decode cX3_readPart 53 = .ok (.iload_n 1, 1) := by decide +kernel
theorem dX3_readPart_54 : decode cX3_readPart 54 = .ok (.bipush 8, 2) := by decide +kernel
theorem dX3_readPart_56 : decode cX3_readPart 56 = .ok (.if_icmp .lt 14, 3) := by decide +kernel
theorem dX3_readPart_59 : decode cX3_readPart 59 = .ok (.aload_n 0, 1) := by decide +kernel
theorem dX3_readPart_60 : decode cX3_readPart 60 = .ok (.getfield 18, 3) := by decide +kernel
theorem dX3_readPart_63 : decode cX3_readPart 63 = .ok (.iconst 3, 1) := by decide +kernel
theorem dX3_readPart_64 : decode cX3_readPart 64 = .ok (.invokevirtual 61, 3) := by decide +kernel
theorem dX3_readPart_67 : decode cX3_readPart 67 = .ok (.goto 63, 3) := by decide +kernel
theorem dX3_readPart_70 : decode cX3_readPart 70 = .ok (.iload_n 2, 1) := by decide +kernel
theorem dX3_readPart_71 : decode cX3_readPart 71 = .ok (.ifCond .eq 34, 3) := by decide +kernel
theorem dX3_readPart_74 : decode cX3_readPart 74 = .ok (.aload_n 0, 1) := by decide +kernel
theorem dX3_readPart_75 : decode cX3_readPart 75 = .ok (.getfield 18, 3) := by decide +kernel
theorem dX3_readPart_78 : decode cX3_readPart 78 = .ok (.ldc 218, 2) := by decide +kernel
theorem dX3_readPart_80 : decode cX3_readPart 80 = .ok (.invokevirtual 82, 3) := by decide +kernel
theorem dX3_readPart_83 : decode cX3_readPart 83 = .ok (.aload_n 0, 1) := by decide +kernel
theorem dX3_readPart_84 : decode cX3_readPart 84 = .ok (.iload_n 1, 1) := by decide +kernel
theorem dX3_readPart_85 : decode cX3_readPart 85 = .ok (.iconst 1, 1) := by decide +kernel
theorem dX3_readPart_86 : decode cX3_readPart 86 = .ok (.iadd, 1) := by decide +kernel
theorem dX3_readPart_87 : decode cX3_readPart 87 = .ok (.invokevirtual 211, 3) := by decide +kernel
theorem dX3_readPart_90 : decode cX3_readPart 90 = .ok (.aload_n 0, 1) := by decide +kernel
theorem dX3_readPart_91 : decode cX3_readPart 91 = .ok (.getfield 12, 3) := by decide +kernel
theorem dX3_readPart_94 : decode cX3_readPart 94 = .ok (.getfield 155, 3) := by decide +kernel
theorem dX3_readPart_97 : decode cX3_readPart 97 = .ok (.bipush (-18), 2) := by decide +kernel
theorem dX3_readPart_99 : decode cX3_readPart 99 = .ok (.invokevirtual 190, 3) := by decide +kernel
theorem dX3_readPart_102 : decode cX3_readPart 102 = .ok (.goto 28, 3) := by decide +kernel
theorem dX3_readPart_105 : decode cX3_readPart 105 = .ok (.aload_n 0, 1) := by decide +kernel
theorem dX3_readPart_106 : decode cX3_readPart 106 = .ok (.getfield 18, 3) := by decide +kernel
theorem dX3_readPart_109 : decode cX3_readPart 109 = .ok (.bipush 40, 2) := by decide +kernel
theorem dX3_readPart_111 : decode cX3_readPart 111 = .ok (.invokevirtual 88, 3) := by decide +kernel
theorem dX3_readPart_114 : decode cX3_readPart 114 = .ok (.aload_n 0, 1) := by decide +kernel
theorem dX3_readPart_115 : decode cX3_readPart 115 = .ok (.iload_n 1, 1) := by decide +kernel
theorem dX3_readPart_116 : decode cX3_readPart 116 = .ok (.iconst 1, 1) := by decide +kernel
theorem dX3_readPart_117 : decode cX3_readPart 117 = .ok (.iadd, 1) := by decide +kernel
theorem dX3_readPart_118 : decode cX3_readPart 118 = .ok (.invokevirtual 177, 3) := by decide +kernel
theorem dX3_readPart_121 : decode cX3_readPart 121 = .ok (.aload_n 0, 1) := by decide +kernel
theorem dX3_readPart_122 : decode cX3_readPart 122 = .ok (.getfield 18, 3) := by decide +kernel
theorem dX3_readPart_125 : decode cX3_readPart 125 = .ok (.bipush 41, 2) := by decide +kernel
theorem dX3_readPart_127 : decode cX3_readPart 127 = .ok (.invokevirtual 88, 3) := by decide +kernel
theorem dX3_readPart_130 : decode cX3_readPart 130 = .ok (.return_, 1) := by decide +kernel
theorem wX3_readSum_X3 : GoodIn GT (wsV RX3 172 RX3 yX3_readSum (.code yX3_readSum cX3_readSum 3 none :: GT)) := gt_V (gt_of 817 (by decide +kernel) rfl) (gt_of 819 (by decide +kernel) rfl) (gt_of 36 (by decide +kernel) rfl) (gt_of 203 (by decide +kernel) rfl) (gt_of 820 (by decide +kernel) rfl)
theorem vc_X3_readSum_X3 {p : Program} {l : Launch} {e : Env} {st : State} {m : MethodId} {args : Array Value} {below : List Frame} {meth : Method} {c : Code} {Q : State → Prop} {nL : Nat} {cc : ByteArray} {s : ST} {pc q : Nat} {lv : List (Nat × Value)} {rest : List Value} {D : va_G} {cA cL : ClassId} {h : Nat → Nat} {Z : State → Heap → Prop} {sa : Nat → Nat} (hZ : ZK h Z sa) {d0 : Nat} (X : Cx (KC D cA cL h Z) p st m args meth c cc nL RX3) (d : decode cc pc = .ok (.invokevirtual 172, 3)) (hq : pc + 3 = q) (hd1 : 10 + 1 ≤ d0) (hd2 : 8 + (3 + 11) + 100 * 10 ≤ 100 * d0) (hr : (rest.map fun v => v.category).sum ≤ 8) {B : Type} {f : ST → Option B} {r : B} (hs : Bd (C_X3_readSum s) f = some r) (k : ∀ y, f y = some r → WG (KC D cA cL h Z) p l e (rmD d0) st m args below meth c Q nL y q lv (rest)) : WG (KC D cA cL h Z) p l e (rmD d0) st m args below meth c Q nL s pc lv (.ref (h 54) :: rest) := by
  obtain ⟨v, hv, hs⟩ := Bd_e hs
  exact cV_V (K := KC D cA cL h Z) X 54 (n := 0) (k_X3_readSum hZ l D cA cL s hv) wX3_readSum_X3 ⟨hd1, hd2⟩ ⟨by decide, by decide, by decide +kernel⟩ (As := []) rfl hr (sh_54).1 (fs := cF3 h 54 (s.1 54) (s.2 54)) (GC_3 (cA := cA) (cL := cL) sh_54 _ _) rfl rfl d hq (k _ hs)
theorem wX3_takeComparison_X3 : GoodIn GT (wsV RX3 226 RX3 yX3_takeComparison (.code yX3_takeComparison cX3_takeComparison 1 (some .int) :: GT)) := gt_V (gt_of 853 (by decide +kernel) rfl) (gt_of 855 (by decide +kernel) rfl) (gt_of 41 (by decide +kernel) rfl) (gt_of 203 (by decide +kernel) rfl) (gt_of 856 (by decide +kernel) rfl)
theorem vc_X3_takeComparison_X3 {p : Program} {l : Launch} {e : Env} {st : State} {m : MethodId} {args : Array Value} {below : List Frame} {meth : Method} {c : Code} {Q : State → Prop} {nL : Nat} {cc : ByteArray} {s : ST} {pc q : Nat} {lv : List (Nat × Value)} {rest : List Value} {D : va_G} {cA cL : ClassId} {h : Nat → Nat} {Z : State → Heap → Prop} {sa : Nat → Nat} (hZ : ZK h Z sa) {d0 : Nat} (X : Cx (KC D cA cL h Z) p st m args meth c cc nL RX3) (d : decode cc pc = .ok (.invokevirtual 226, 3)) (hq : pc + 3 = q) (hd1 : 4 + 1 ≤ d0) (hd2 : 8 + (1 + 11) + 100 * 4 ≤ 100 * d0) (hr : (rest.map fun v => v.category).sum ≤ 8) {B : Type} {f : Int32 × ST → Option B} {r : B} (hs : Bd (C_X3_takeComparison s) f = some r) (k : ∀ y, f y = some r → WG (KC D cA cL h Z) p l e (rmD d0) st m args below meth c Q nL y.2 q lv (.int y.1 :: rest)) : WG (KC D cA cL h Z) p l e (rmD d0) st m args below meth c Q nL s pc lv (.ref (h 54) :: rest) := by
  obtain ⟨v, hv, hs⟩ := Bd_e hs
  exact cV_I (K := KC D cA cL h Z) X 54 (n := 0) (k_X3_takeComparison hZ l D cA cL s hv) wX3_takeComparison_X3 ⟨hd1, hd2⟩ ⟨by decide, by decide, by decide +kernel⟩ (As := []) rfl hr (sh_54).1 (fs := cF3 h 54 (s.1 54) (s.2 54)) (GC_3 (cA := cA) (cL := cL) sh_54 _ _) rfl rfl d hq (k _ hs)
theorem wX5_hasSign_X3 : Cond.methodLinkNest RX3 223 yX5_hasSign "StormSeeds" ∈ NW := nw_of 852 (by decide +kernel) rfl
theorem vc_X5_hasSign_X3 {p : Program} {l : Launch} {e : Env} {st : State} {m : MethodId} {args : Array Value} {below : List Frame} {meth : Method} {c : Code} {Q : State → Prop} {nL : Nat} {cc : ByteArray} {s : ST} {pc q : Nat} {lv : List (Nat × Value)} {rest : List Value} {D : va_G} {cA cL : ClassId} {h : Nat → Nat} {Z : State → Heap → Prop} {sa : Nat → Nat} (hZ : ZK h Z sa) {d0 : Nat} (X : Cx (KC D cA cL h Z) p st m args meth c cc nL RX3) {x1 : Int32} (d : decode cc pc = .ok (.invokevirtual 223, 3)) (hq : pc + 3 = q) (hd1 : 1 + 1 ≤ d0) (hd2 : 8 + (2 + 11) + 100 * 1 ≤ 100 * d0) (hr : (rest.map fun v => v.category).sum ≤ 8) {B : Type} {f : Int32 → Option B} {r : B} (hs : Bd (C_X5_hasSign s x1) f = some r) (k : ∀ y, f y = some r → WG (KC D cA cL h Z) p l e (rmD d0) st m args below meth c Q nL s q lv (.int y :: rest)) : WG (KC D cA cL h Z) p l e (rmD d0) st m args below meth c Q nL s pc lv (.int x1 :: .ref (h 49) :: rest) := by
  obtain ⟨v, hv, hs⟩ := Bd_e hs
  exact cVN_I (K := KC D cA cL h Z) X 49 (n := 1) (k_X5_hasSign hZ l D cA cL s x1 hv) (gt_c (gt_of 783 (by decide +kernel) rfl) gt_t) (hZ.1 st st.heap X.2.2.2 _ wX5_hasSign_X3) (gt_of 202 (by decide +kernel) rfl) (gt_of 782 (by decide +kernel) rfl) (gt_of 30 (by decide +kernel) rfl) ⟨hd1, hd2⟩ ⟨by decide, by decide, by decide +kernel⟩ (As := [.int x1]) rfl hr (sh_49).1 (fs := cF5 h 49 (s.1 49) (s.2 49)) (GC_5 (cA := cA) (cL := cL) sh_49 _ _) rfl rfl d hq (k _ hs)
theorem wX5_hasWord_X3 : Cond.methodLinkNest RX3 220 yX5_hasWord "StormSeeds" ∈ NW := nw_of 851 (by decide +kernel) rfl
theorem vc_X5_hasWord_X3 {p : Program} {l : Launch} {e : Env} {st : State} {m : MethodId} {args : Array Value} {below : List Frame} {meth : Method} {c : Code} {Q : State → Prop} {nL : Nat} {cc : ByteArray} {s : ST} {pc q : Nat} {lv : List (Nat × Value)} {rest : List Value} {D : va_G} {cA cL : ClassId} {h : Nat → Nat} {Z : State → Heap → Prop} {sa : Nat → Nat} (hZ : ZK h Z sa) {d0 : Nat} (X : Cx (KC D cA cL h Z) p st m args meth c cc nL RX3) {x1 : Nat} (d : decode cc pc = .ok (.invokevirtual 220, 3)) (hq : pc + 3 = q) (hx1 : x1 < 30) (hd1 : 7 + 1 ≤ d0) (hd2 : 8 + (4 + 11) + 100 * 7 ≤ 100 * d0) (hr : (rest.map fun v => v.category).sum ≤ 8) {B : Type} {f : Int32 → Option B} {r : B} (hs : Bd (C_X5_hasWord s x1) f = some r) (k : ∀ y, f y = some r → WG (KC D cA cL h Z) p l e (rmD d0) st m args below meth c Q nL s q lv (.int y :: rest)) : WG (KC D cA cL h Z) p l e (rmD d0) st m args below meth c Q nL s pc lv (.ref (sa x1) :: .ref (h 49) :: rest) := by
  obtain ⟨v, hv, hs⟩ := Bd_e hs
  exact cVN_I (K := KC D cA cL h Z) X 49 (n := 1) (k_X5_hasWord hZ l D cA cL s x1 hx1 hv) (gt_c (gt_of 689 (by decide +kernel) rfl) gt_t) (hZ.1 st st.heap X.2.2.2 _ wX5_hasWord_X3) (gt_of 202 (by decide +kernel) rfl) (gt_of 688 (by decide +kernel) rfl) (gt_of 19 (by decide +kernel) rfl) ⟨hd1, hd2⟩ ⟨by decide, by decide, by decide +kernel⟩ (As := [.ref (sa x1)]) rfl hr (sh_49).1 (fs := cF5 h 49 (s.1 49) (s.2 49)) (GC_5 (cA := cA) (cL := cL) sh_49 _ _) rfl rfl d hq (k _ hs)
theorem dX3_readCondition_0 : decode cX3_readCondition 0 = .ok (.iconst 0, 1) := by decide +kernel
theorem dX3_readCondition_1 : decode cX3_readCondition 1 = .ok (.istore_n 2, 1) := by decide +kernel
theorem dX3_readCondition_2 : decode cX3_readCondition 2 = .ok (.aload_n 0, 1) := by decide +kernel
theorem dX3_readCondition_3 : decode cX3_readCondition 3 = .ok (.iload_n 1, 1) := by decide +kernel
theorem dX3_readCondition_4 : decode cX3_readCondition 4 = .ok (.invokevirtual 211, 3) := by decide +kernel
theorem dX3_readCondition_7 : decode cX3_readCondition 7 = .ok (.iconst 0, 1) := by decide +kernel
theorem dX3_readCondition_8 : decode cX3_readCondition 8 = .ok (.istore_n 3, 1) := by decide +kernel
theorem dX3_readCondition_9 : decode cX3_readCondition 9 = .ok (.iload_n 3, 1) := by decide +kernel
theorem dX3_readCondition_10 : decode cX3_readCondition 10 = .ok (.sipush 400, 3) := by decide +kernel
theorem dX3_readCondition_13 : decode cX3_readCondition 13 = .ok (.if_icmp .ge 77, 3) := by decide +kernel
theorem dX3_readCondition_16 : decode cX3_readCondition 16 = .ok (.aload_n 0, 1) := by decide +kernel
theorem dX3_readCondition_17 : decode cX3_readCondition 17 = .ok (.getfield 18, 3) := by decide +kernel
theorem dX3_readCondition_20 : decode cX3_readCondition 20 = .ok (.ldc 214, 2) := by decide +kernel
theorem dX3_readCondition_22 : decode cX3_readCondition 22 = .ok (.invokevirtual 111, 3) := by decide +kernel
theorem dX3_readCondition_25 : decode cX3_readCondition 25 = .ok (.ifCond .eq 23, 3) := by decide +kernel
theorem dX3_readCondition_28 : decode cX3_readCondition 28 = .ok (.aload_n 0, 1) := by decide +kernel
theorem dX3_readCondition_29 : decode cX3_readCondition 29 = .ok (.iload_n 1, 1) := by decide +kernel
theorem dX3_readCondition_30 : decode cX3_readCondition 30 = .ok (.invokevirtual 211, 3) := by decide +kernel
theorem dX3_readCondition_33 : decode cX3_readCondition 33 = .ok (.aload_n 0, 1) := by decide +kernel
theorem dX3_readCondition_34 : decode cX3_readCondition 34 = .ok (.getfield 12, 3) := by decide +kernel
theorem dX3_readCondition_37 : decode cX3_readCondition 37 = .ok (.getfield 155, 3) := by decide +kernel
theorem dX3_readCondition_40 : decode cX3_readCondition 40 = .ok (.bipush (-16), 2) := by decide +kernel
theorem dX3_readCondition_42 : decode cX3_readCondition 42 = .ok (.invokevirtual 190, 3) := by decide +kernel
theorem dX3_readCondition_45 : decode cX3_readCondition 45 = .ok (.goto 39, 3) := by decide +kernel
theorem dX3_readCondition_48 : decode cX3_readCondition 48 = .ok (.iload_n 2, 1) := by decide +kernel
theorem dX3_readCondition_49 : decode cX3_readCondition 49 = .ok (.ifCond .eq 15, 3) := by decide +kernel
theorem dX3_readCondition_52 : decode cX3_readCondition 52 = .ok (.aload_n 0, 1) := by decide +kernel
theorem dX3_readCondition_53 : decode cX3_readCondition 53 = .ok (.getfield 12, 3) := by decide +kernel
theorem dX3_readCondition_56 : decode cX3_readCondition 56 = .ok (.getfield 155, 3) := by decide +kernel
theorem dX3_readCondition_59 : decode cX3_readCondition 59 = .ok (.bipush (-17), 2) := by decide +kernel
theorem dX3_readCondition_61 : decode cX3_readCondition 61 = .ok (.invokevirtual 190, 3) := by decide +kernel
theorem dX3_readCondition_64 : decode cX3_readCondition 64 = .ok (.aload_n 0, 1) := by decide +kernel
theorem dX3_readCondition_65 : decode cX3_readCondition 65 = .ok (.getfield 18, 3) := by decide +kernel
theorem dX3_readCondition_68 : decode cX3_readCondition 68 = .ok (.ldc 216, 2) := by decide +kernel
theorem dX3_readCondition_70 : decode cX3_readCondition 70 = .ok (.invokevirtual 111, 3) := by decide +kernel
theorem dX3_readCondition_73 : decode cX3_readCondition 73 = .ok (.istore_n 2, 1) := by decide +kernel
theorem dX3_readCondition_74 : decode cX3_readCondition 74 = .ok (.iload_n 2, 1) := by decide +kernel
theorem dX3_readCondition_75 : decode cX3_readCondition 75 = .ok (.ifCond .ne 4, 3) := by decide +kernel
theorem dX3_readCondition_78 : decode cX3_readCondition 78 = .ok (.return_, 1) := by decide +kernel
theorem dX3_readCondition_79 : decode cX3_readCondition 79 = .ok (.aload_n 0, 1) := by decide +kernel
theorem dX3_readCondition_80 : decode cX3_readCondition 80 = .ok (.iload_n 1, 1) := by decide +kernel
theorem dX3_readCondition_81 : decode cX3_readCondition 81 = .ok (.invokevirtual 211, 3) := by decide +kernel
theorem dX3_readCondition_84 : decode cX3_readCondition 84 = .ok (.iinc 3 1, 3) := by decide +kernel
theorem dX3_readCondition_87 : decode cX3_readCondition 87 = .ok (.goto (-78), 3) := by decide +kernel
theorem dX3_readCondition_90 : decode cX3_readCondition 90 = .ok (.return_, 1) := by decide +kernel
theorem wrec_rp : GoodIn GT (wsV RX3 211 RX3 yX3_readPart (.code yX3_readPart cX3_readPart 4 none :: GT)) := gt_V (gt_of 846 (by decide +kernel) rfl) (gt_of 848 (by decide +kernel) rfl) (gt_of 40 (by decide +kernel) rfl) (gt_of 203 (by decide +kernel) rfl) (gt_of 849 (by decide +kernel) rfl)
theorem vrec_rp {p : Program} {l : Launch} {e : Env} {st : State} {m : MethodId} {args : Array Value} {below : List Frame} {meth : Method} {c : Code} {Q : State → Prop} {nL : Nat} {cc : ByteArray} {s : ST} {pc q : Nat} {lv : List (Nat × Value)} {rest : List Value} {D : va_G} {cA cL : ClassId} {h : Nat → Nat} {Z : State → Heap → Prop} {dd d0 : Nat} {rp : ST → Int32 → Option ST} (hrp : ∀ (s : ST) (x : Int32) (o : ST), rp s x = some o → MV l (KC D cA cL h Z) dd yX3_readPart cX3_readPart 4 none s [.ref (h 54), .int x] o) (X : Cx (KC D cA cL h Z) p st m args meth c cc nL RX3) {x1 : Int32} (d : decode cc pc = .ok (.invokevirtual 211, 3)) (hq : pc + 3 = q) (hd1 : dd + 1 ≤ d0) (hd2 : 8 + (4 + 11) + 100 * dd ≤ 100 * d0) (hr : (rest.map fun v => v.category).sum ≤ 8) {B : Type} {f : ST → Option B} {r : B} (hs : Bd (rp s x1) f = some r) (k : ∀ y, f y = some r → WG (KC D cA cL h Z) p l e (rmD d0) st m args below meth c Q nL y q lv (rest)) : WG (KC D cA cL h Z) p l e (rmD d0) st m args below meth c Q nL s pc lv (.int x1 :: .ref (h 54) :: rest) := by
  obtain ⟨v, hv, hs⟩ := Bd_e hs
  exact cV_V (K := KC D cA cL h Z) X 54 (n := 1) (hrp s x1 v hv) wrec_rp ⟨hd1, hd2⟩ ⟨by decide, by decide, by decide +kernel⟩ (As := [.int x1]) rfl hr sh_54.1 (fs := cF3 h 54 (s.1 54) (s.2 54)) (GC_3 (cA := cA) (cL := cL) sh_54 _ _) rfl rfl d hq (k _ hs)
theorem wrec_rc : GoodIn GT (wsV RX3 177 RX3 yX3_readCondition (.code yX3_readCondition cX3_readCondition 4 none :: GT)) := gt_V (gt_of 842 (by decide +kernel) rfl) (gt_of 844 (by decide +kernel) rfl) (gt_of 39 (by decide +kernel) rfl) (gt_of 203 (by decide +kernel) rfl) (gt_of 845 (by decide +kernel) rfl)
theorem vrec_rc {p : Program} {l : Launch} {e : Env} {st : State} {m : MethodId} {args : Array Value} {below : List Frame} {meth : Method} {c : Code} {Q : State → Prop} {nL : Nat} {cc : ByteArray} {s : ST} {pc q : Nat} {lv : List (Nat × Value)} {rest : List Value} {D : va_G} {cA cL : ClassId} {h : Nat → Nat} {Z : State → Heap → Prop} {dd d0 : Nat} {rc : ST → Int32 → Option ST} (hrc : ∀ (s : ST) (x : Int32) (o : ST), rc s x = some o → MV l (KC D cA cL h Z) dd yX3_readCondition cX3_readCondition 4 none s [.ref (h 54), .int x] o) (X : Cx (KC D cA cL h Z) p st m args meth c cc nL RX3) {x1 : Int32} (d : decode cc pc = .ok (.invokevirtual 177, 3)) (hq : pc + 3 = q) (hd1 : dd + 1 ≤ d0) (hd2 : 8 + (4 + 11) + 100 * dd ≤ 100 * d0) (hr : (rest.map fun v => v.category).sum ≤ 8) {B : Type} {f : ST → Option B} {r : B} (hs : Bd (rc s x1) f = some r) (k : ∀ y, f y = some r → WG (KC D cA cL h Z) p l e (rmD d0) st m args below meth c Q nL y q lv (rest)) : WG (KC D cA cL h Z) p l e (rmD d0) st m args below meth c Q nL s pc lv (.int x1 :: .ref (h 54) :: rest) := by
  obtain ⟨v, hv, hs⟩ := Bd_e hs
  exact cV_V (K := KC D cA cL h Z) X 54 (n := 1) (hrc s x1 v hv) wrec_rc ⟨hd1, hd2⟩ ⟨by decide, by decide, by decide +kernel⟩ (As := [.int x1]) rfl hr sh_54.1 (fs := cF3 h 54 (s.1 54) (s.2 54)) (GC_3 (cA := cA) (cL := cL) sh_54 _ _) rfl rfl d hq (k _ hs)
def F_X3_readCondition (rp : ST → Int32 → Option ST) (s : ST) (x1 : Int32) : Option ST := Bd (rp s x1) fun s1 => lpK3 (C := ST) (fun (rec1 : Int32 → Int32 → ST → Option (ST)) (a1 : Int32) (a2 : Int32) (s2 : ST) => if (400 : Int32) ≤ a2 then (some s2) else (Bd (C_X5_takesWord s2 27) fun y1 => Lt (fun (a3 : Int32) (s3 : ST) => (rec1 a3 (a2 + (1 : Int32)) s3 : Option (ST))) fun j1 => if y1.1 = 0 then (Lt (fun (s4 : ST) => (Bd (C_X5_takesWord s4 28) fun y2 => if y2.1 = 0 then (some y2.2) else (Bd (rp y2.2 x1) fun s5 => j1 y2.1 s5) : Option (ST))) fun j2 => if a1 = 0 then (j2 y1.2) else (Bd (C_X2_emit y1.2 (-17 : Int32)) fun s6 => j2 s6)) else (Bd (rp y1.2 x1) fun s7 => Bd (C_X2_emit s7 (-16 : Int32)) fun s8 => j1 a1 s8))) FU (0 : Int32) (0 : Int32) s1
set_option maxRecDepth 100000 in
set_option maxHeartbeats 4000000 in
theorem kF_X3_readCondition {h : Nat → Nat} {Z : State → Heap → Prop} {sa : Nat → Nat} (hZ : ZK h Z sa) (l : Launch) (D : va_G) (cA cL : ClassId) (rp : ST → Int32 → Option ST) (dd : Nat) (hB : 20 ≤ dd) (hrp : ∀ (s : ST) (x : Int32) (o : ST), rp s x = some o → MV l (KC D cA cL h Z) dd yX3_readPart cX3_readPart 4 none s [.ref (h 54), .int x] o) (s : ST) (x1 : Int32) {o : ST} (hs : F_X3_readCondition rp s x1 = some o) : MV l (KC D cA cL h Z) (dd + 1) yX3_readCondition cX3_readCondition 4 none s [.ref (h 54), .int x1] o := by
  refine met_v (by decide) (Nat.le_of_ble_eq_true rfl) ?_
  intro p e st m args below meth c Q X RI
  unfold F_X3_readCondition at hs
  refine g_iconst X dX3_readCondition_0 (q := 1) rfl li_i0 ?_
  refine g_istore_n X dX3_readCondition_1 (q := 2) rfl (Nat.le_of_ble_eq_true rfl) (lv' := [(2, .int (0 : Int32)), (0, .ref (h 54)), (1, .int x1)]) rfl ?_
  refine g_aload_n X dX3_readCondition_2 (q := 3) rfl 1 rfl ?_
  refine g_iload_n X dX3_readCondition_3 (q := 4) rfl 2 rfl ?_
  refine vrec_rp hrp X dX3_readCondition_4 (q := 7) rfl (by omega) (by omega) (Nat.le_of_ble_eq_true rfl) hs (fun s1 hs => ?_)
  refine g_iconst X dX3_readCondition_7 (q := 8) rfl li_i0 ?_
  refine g_istore_n X dX3_readCondition_8 (q := 9) rfl (Nat.le_of_ble_eq_true rfl) (lv' := [(3, .int (0 : Int32)), (2, .int (0 : Int32)), (0, .ref (h 54)), (1, .int x1)]) rfl ?_
  refine wg_sub [2, 3, 1, 0] rfl (lpW3 (fun (a1 : Int32) (a2 : Int32) (s2 : ST) => WG (KC D cA cL h Z) p l e (rmD (dd + 1)) st m args below meth c Q 4 s2 9 [(0, .ref (h 54)), (1, .int x1), (2, .int a1), (3, .int a2)] []) (fun rec1 ih1 a1 a2 s2 hs => ?_) _ _ _ _ hs)
  refine g_iload_n X dX3_readCondition_9 (q := 10) rfl 3 rfl ?_
  refine g_sipush X dX3_readCondition_10 (q := 13) rfl li_s400 ?_
  refine g_icmp_ge X dX3_readCondition_13 (q := 16) rfl (tgt := 90) (by decide) hs ?_ ?_
  · intro hs
    exact RI _ 90 _ (Option.some.inj hs) dX3_readCondition_90
  · intro hs
    refine g_aload_n X dX3_readCondition_16 (q := 17) rfl 0 rfl ?_
    refine cg_3_0 X dX3_readCondition_17 (q := 20) rfl sh_54 lf_X3_18 ?_
    refine cg_ldc hZ X dX3_readCondition_20 (q := 22) rfl 27 (Nat.le_of_ble_eq_true rfl) rfl ?_
    refine vc_X5_takesWord_X3 hZ X dX3_readCondition_22 (q := 25) rfl (Nat.le_of_ble_eq_true rfl) (by omega) (by omega) (Nat.le_of_ble_eq_true rfl) hs (fun y1 hs => ?_)
    refine jnW2 (fun (a3 : Int32) (s3 : ST) => WG (KC D cA cL h Z) p l e (rmD (dd + 1)) st m args below meth c Q 4 s3 84 [(0, .ref (h 54)), (1, .int x1), (2, .int a3), (3, .int a2)] []) hs (fun a3 s3 hs => ?_) (fun j1 ih2 hs => ?_)
    · refine g_iinc X dX3_readCondition_84 (q := 87) rfl 3 rfl (v := (a2 + (1 : Int32))) (congrArg (HAdd.hAdd a2) li_i1) (Nat.le_of_ble_eq_true rfl) (lv' := [(3, .int (a2 + (1 : Int32))), (0, .ref (h 54)), (1, .int x1), (2, .int a3)]) rfl ?_
      refine g_goto X dX3_readCondition_87 (tgt := 9) (by decide) ?_
      exact wg_sub [1, 2, 3, 0] rfl (ih1 _ _ _ hs)
    refine g_if_eq X dX3_readCondition_25 (q := 28) rfl (tgt := 48) (by decide) hs ?_ ?_
    · intro hs
      refine g_iload_n X dX3_readCondition_48 (q := 49) rfl 2 rfl ?_
      refine jnW1 (fun (s4 : ST) => WG (KC D cA cL h Z) p l e (rmD (dd + 1)) st m args below meth c Q 4 s4 64 [(0, .ref (h 54)), (1, .int x1), (3, .int a2)] []) hs (fun s4 hs => ?_) (fun j2 ih3 hs => ?_)
      · refine g_aload_n X dX3_readCondition_64 (q := 65) rfl 0 rfl ?_
        refine cg_3_0 X dX3_readCondition_65 (q := 68) rfl sh_54 lf_X3_18 ?_
        refine cg_ldc hZ X dX3_readCondition_68 (q := 70) rfl 28 (Nat.le_of_ble_eq_true rfl) rfl ?_
        refine vc_X5_takesWord_X3 hZ X dX3_readCondition_70 (q := 73) rfl (Nat.le_of_ble_eq_true rfl) (by omega) (by omega) (Nat.le_of_ble_eq_true rfl) hs (fun y2 hs => ?_)
        refine g_istore_n X dX3_readCondition_73 (q := 74) rfl (Nat.le_of_ble_eq_true rfl) (lv' := [(2, .int y2.1), (0, .ref (h 54)), (1, .int x1), (3, .int a2)]) rfl ?_
        refine g_iload_n X dX3_readCondition_74 (q := 75) rfl 0 rfl ?_
        refine g_if_ne X dX3_readCondition_75 (q := 78) rfl (tgt := 79) (by decide) hs ?_ ?_
        · intro hs
          refine g_aload_n X dX3_readCondition_79 (q := 80) rfl 1 rfl ?_
          refine g_iload_n X dX3_readCondition_80 (q := 81) rfl 2 rfl ?_
          refine vrec_rp hrp X dX3_readCondition_81 (q := 84) rfl (by omega) (by omega) (Nat.le_of_ble_eq_true rfl) hs (fun s5 hs => ?_)
          exact wg_sub [1, 2, 0, 3] rfl (ih2 _ _ hs)
        · intro hs
          exact RI _ 78 _ (Option.some.inj hs) dX3_readCondition_78
      refine g_if_eq X dX3_readCondition_49 (q := 52) rfl (tgt := 64) (by decide) hs ?_ ?_
      · intro hs
        exact wg_sub [0, 1, 3] rfl (ih3 _ hs)
      · intro hs
        refine g_aload_n X dX3_readCondition_52 (q := 53) rfl 0 rfl ?_
        refine cg_3_3 X dX3_readCondition_53 (q := 56) rfl sh_54 lf_X3_12 ?_
        refine cgN_7_2 hZ X dX3_readCondition_56 (q := 59) rfl sh_55 lf_X3_155 ?_
        refine g_bipush X dX3_readCondition_59 (q := 61) rfl li_bm17 ?_
        refine vc_X2_emit_X3 hZ X dX3_readCondition_61 (q := 64) rfl (by omega) (by omega) (Nat.le_of_ble_eq_true rfl) hs (fun s6 hs => ?_)
        exact wg_sub [0, 1, 3] rfl (ih3 _ hs)
    · intro hs
      refine g_aload_n X dX3_readCondition_28 (q := 29) rfl 0 rfl ?_
      refine g_iload_n X dX3_readCondition_29 (q := 30) rfl 1 rfl ?_
      refine vrec_rp hrp X dX3_readCondition_30 (q := 33) rfl (by omega) (by omega) (Nat.le_of_ble_eq_true rfl) hs (fun s7 hs => ?_)
      refine g_aload_n X dX3_readCondition_33 (q := 34) rfl 0 rfl ?_
      refine cg_3_3 X dX3_readCondition_34 (q := 37) rfl sh_54 lf_X3_12 ?_
      refine cgN_7_2 hZ X dX3_readCondition_37 (q := 40) rfl sh_55 lf_X3_155 ?_
      refine g_bipush X dX3_readCondition_40 (q := 42) rfl li_bm16 ?_
      refine vc_X2_emit_X3 hZ X dX3_readCondition_42 (q := 45) rfl (by omega) (by omega) (Nat.le_of_ble_eq_true rfl) hs (fun s8 hs => ?_)
      refine g_goto X dX3_readCondition_45 (tgt := 84) (by decide) ?_
      exact wg_sub [0, 1, 2, 3] rfl (ih2 _ _ hs)
def F_X3_readPart (rp rc : ST → Int32 → Option ST) (s : ST) (x1 : Int32) : Option ST := Bd (C_X5_hasWord s 29) fun y1 => Lt (if x1 < (8 : Int32) then (if y1 = 0 then (Bd (C_X5_needSign s (40 : Int32)) fun s1 => Bd (rc s1 (x1 + (1 : Int32))) fun s2 => Bd (C_X5_needSign s2 (41 : Int32)) fun s3 => some s3) else (Bd (C_X5_needWord s 29) fun s4 => Bd (rp s4 (x1 + (1 : Int32))) fun s5 => Bd (C_X2_emit s5 (-18 : Int32)) fun s6 => some s6)) else (Bd (C_X5_fail s (3 : Int32)) fun s7 => some s7) : Option (ST)) fun j1 => if y1 = 0 then (Bd (C_X5_hasSign s (40 : Int32)) fun y2 => if y2 = 0 then (Bd (C_X3_readSum s) fun s8 => Bd (C_X3_takeComparison s8) fun y3 => Bd (C_X3_readSum y3.2) fun s9 => Bd (C_X2_emit s9 y3.1) fun s10 => some s10) else (j1)) else (j1)
set_option maxRecDepth 100000 in
set_option maxHeartbeats 4000000 in
theorem kF_X3_readPart {h : Nat → Nat} {Z : State → Heap → Prop} {sa : Nat → Nat} (hZ : ZK h Z sa) (l : Launch) (D : va_G) (cA cL : ClassId) (rp rc : ST → Int32 → Option ST) (dd dp : Nat) (hB : 20 ≤ dd) (hdp : dp ≤ dd) (hrp : ∀ (s : ST) (x : Int32) (o : ST), rp s x = some o → MV l (KC D cA cL h Z) dp yX3_readPart cX3_readPart 4 none s [.ref (h 54), .int x] o) (hrc : ∀ (s : ST) (x : Int32) (o : ST), rc s x = some o → MV l (KC D cA cL h Z) dd yX3_readCondition cX3_readCondition 4 none s [.ref (h 54), .int x] o) (s : ST) (x1 : Int32) {o : ST} (hs : F_X3_readPart rp rc s x1 = some o) : MV l (KC D cA cL h Z) (dd + 1) yX3_readPart cX3_readPart 4 none s [.ref (h 54), .int x1] o := by
  refine met_v (by decide) (Nat.le_of_ble_eq_true rfl) ?_
  intro p e st m args below meth c Q X RI
  unfold F_X3_readPart at hs
  refine g_aload_n X dX3_readPart_0 (q := 1) rfl 0 rfl ?_
  refine cg_3_0 X dX3_readPart_1 (q := 4) rfl sh_54 lf_X3_18 ?_
  refine cg_ldc hZ X dX3_readPart_4 (q := 6) rfl 29 (Nat.le_of_ble_eq_true rfl) rfl ?_
  refine vc_X5_hasWord_X3 hZ X dX3_readPart_6 (q := 9) rfl (Nat.le_of_ble_eq_true rfl) (by omega) (by omega) (Nat.le_of_ble_eq_true rfl) hs (fun y1 hs => ?_)
  refine g_istore_n X dX3_readPart_9 (q := 10) rfl (Nat.le_of_ble_eq_true rfl) (lv' := [(2, .int y1), (0, .ref (h 54)), (1, .int x1)]) rfl ?_
  refine g_iload_n X dX3_readPart_10 (q := 11) rfl 0 rfl ?_
  refine jnW0 (WG (KC D cA cL h Z) p l e (rmD (dd + 1)) st m args below meth c Q 4 s 53 [(0, .ref (h 54)), (1, .int x1), (2, .int y1)] []) hs (fun  hs => ?_) (fun j1 ih1 hs => ?_)
  · refine g_iload_n X dX3_readPart_53 (q := 54) rfl 1 rfl ?_
    refine g_bipush X dX3_readPart_54 (q := 56) rfl li_b8 ?_
    refine g_icmp_lt X dX3_readPart_56 (q := 59) rfl (tgt := 70) (by decide) hs ?_ ?_
    · intro hs
      refine g_iload_n X dX3_readPart_70 (q := 71) rfl 2 rfl ?_
      refine g_if_eq X dX3_readPart_71 (q := 74) rfl (tgt := 105) (by decide) hs ?_ ?_
      · intro hs
        refine g_aload_n X dX3_readPart_105 (q := 106) rfl 0 rfl ?_
        refine cg_3_0 X dX3_readPart_106 (q := 109) rfl sh_54 lf_X3_18 ?_
        refine g_bipush X dX3_readPart_109 (q := 111) rfl li_b40 ?_
        refine vc_X5_needSign_X3 hZ X dX3_readPart_111 (q := 114) rfl (by omega) (by omega) (Nat.le_of_ble_eq_true rfl) hs (fun s1 hs => ?_)
        refine g_aload_n X dX3_readPart_114 (q := 115) rfl 0 rfl ?_
        refine g_iload_n X dX3_readPart_115 (q := 116) rfl 1 rfl ?_
        refine g_iconst X dX3_readPart_116 (q := 117) rfl li_i1 ?_
        refine g_iadd X dX3_readPart_117 (q := 118) rfl ?_
        refine vrec_rc hrc X dX3_readPart_118 (q := 121) rfl (by omega) (by omega) (Nat.le_of_ble_eq_true rfl) hs (fun s2 hs => ?_)
        refine g_aload_n X dX3_readPart_121 (q := 122) rfl 0 rfl ?_
        refine cg_3_0 X dX3_readPart_122 (q := 125) rfl sh_54 lf_X3_18 ?_
        refine g_bipush X dX3_readPart_125 (q := 127) rfl li_b41 ?_
        refine vc_X5_needSign_X3 hZ X dX3_readPart_127 (q := 130) rfl (by omega) (by omega) (Nat.le_of_ble_eq_true rfl) hs (fun s3 hs => ?_)
        exact RI _ 130 _ (Option.some.inj hs) dX3_readPart_130
      · intro hs
        refine g_aload_n X dX3_readPart_74 (q := 75) rfl 0 rfl ?_
        refine cg_3_0 X dX3_readPart_75 (q := 78) rfl sh_54 lf_X3_18 ?_
        refine cg_ldc hZ X dX3_readPart_78 (q := 80) rfl 29 (Nat.le_of_ble_eq_true rfl) rfl ?_
        refine vc_X5_needWord_X3 hZ X dX3_readPart_80 (q := 83) rfl (Nat.le_of_ble_eq_true rfl) (by omega) (by omega) (Nat.le_of_ble_eq_true rfl) hs (fun s4 hs => ?_)
        refine g_aload_n X dX3_readPart_83 (q := 84) rfl 0 rfl ?_
        refine g_iload_n X dX3_readPart_84 (q := 85) rfl 1 rfl ?_
        refine g_iconst X dX3_readPart_85 (q := 86) rfl li_i1 ?_
        refine g_iadd X dX3_readPart_86 (q := 87) rfl ?_
        refine vrec_rp hrp X dX3_readPart_87 (q := 90) rfl (by omega) (by omega) (Nat.le_of_ble_eq_true rfl) hs (fun s5 hs => ?_)
        refine g_aload_n X dX3_readPart_90 (q := 91) rfl 0 rfl ?_
        refine cg_3_3 X dX3_readPart_91 (q := 94) rfl sh_54 lf_X3_12 ?_
        refine cgN_7_2 hZ X dX3_readPart_94 (q := 97) rfl sh_55 lf_X3_155 ?_
        refine g_bipush X dX3_readPart_97 (q := 99) rfl li_bm18 ?_
        refine vc_X2_emit_X3 hZ X dX3_readPart_99 (q := 102) rfl (by omega) (by omega) (Nat.le_of_ble_eq_true rfl) hs (fun s6 hs => ?_)
        refine g_goto X dX3_readPart_102 (tgt := 130) (by decide) ?_
        exact RI _ 130 _ (Option.some.inj hs) dX3_readPart_130
    · intro hs
      refine g_aload_n X dX3_readPart_59 (q := 60) rfl 0 rfl ?_
      refine cg_3_0 X dX3_readPart_60 (q := 63) rfl sh_54 lf_X3_18 ?_
      refine g_iconst X dX3_readPart_63 (q := 64) rfl li_i3 ?_
      refine vc_X5_fail_X3 hZ X dX3_readPart_64 (q := 67) rfl (by omega) (by omega) (Nat.le_of_ble_eq_true rfl) hs (fun s7 hs => ?_)
      refine g_goto X dX3_readPart_67 (tgt := 130) (by decide) ?_
      exact RI _ 130 _ (Option.some.inj hs) dX3_readPart_130
  refine g_if_ne X dX3_readPart_11 (q := 14) rfl (tgt := 53) (by decide) hs ?_ ?_
  · intro hs
    exact wg_sub [1, 2, 0] rfl (ih1 hs)
  · intro hs
    refine g_aload_n X dX3_readPart_14 (q := 15) rfl 1 rfl ?_
    refine cg_3_0 X dX3_readPart_15 (q := 18) rfl sh_54 lf_X3_18 ?_
    refine g_bipush X dX3_readPart_18 (q := 20) rfl li_b40 ?_
    refine vc_X5_hasSign_X3 hZ X dX3_readPart_20 (q := 23) rfl (by omega) (by omega) (Nat.le_of_ble_eq_true rfl) hs (fun y2 hs => ?_)
    refine g_if_ne X dX3_readPart_23 (q := 26) rfl (tgt := 53) (by decide) hs ?_ ?_
    · intro hs
      exact wg_sub [1, 2, 0] rfl (ih1 hs)
    · intro hs
      refine g_aload_n X dX3_readPart_26 (q := 27) rfl 1 rfl ?_
      refine vc_X3_readSum_X3 hZ X dX3_readPart_27 (q := 30) rfl (by omega) (by omega) (Nat.le_of_ble_eq_true rfl) hs (fun s8 hs => ?_)
      refine g_aload_n X dX3_readPart_30 (q := 31) rfl 1 rfl ?_
      refine vc_X3_takeComparison_X3 hZ X dX3_readPart_31 (q := 34) rfl (by omega) (by omega) (Nat.le_of_ble_eq_true rfl) hs (fun y3 hs => ?_)
      refine g_istore_n X dX3_readPart_34 (q := 35) rfl (Nat.le_of_ble_eq_true rfl) (lv' := [(3, .int y3.1), (2, .int y1), (0, .ref (h 54)), (1, .int x1)]) rfl ?_
      refine g_aload_n X dX3_readPart_35 (q := 36) rfl 2 rfl ?_
      refine vc_X3_readSum_X3 hZ X dX3_readPart_36 (q := 39) rfl (by omega) (by omega) (Nat.le_of_ble_eq_true rfl) hs (fun s9 hs => ?_)
      refine g_aload_n X dX3_readPart_39 (q := 40) rfl 2 rfl ?_
      refine cg_3_3 X dX3_readPart_40 (q := 43) rfl sh_54 lf_X3_12 ?_
      refine cgN_7_2 hZ X dX3_readPart_43 (q := 46) rfl sh_55 lf_X3_155 ?_
      refine g_iload_n X dX3_readPart_46 (q := 47) rfl 0 rfl ?_
      refine vc_X2_emit_X3 hZ X dX3_readPart_47 (q := 50) rfl (by omega) (by omega) (Nat.le_of_ble_eq_true rfl) hs (fun s10 hs => ?_)
      refine g_goto X dX3_readPart_50 (tgt := 130) (by decide) ?_
      exact RI _ 130 _ (Option.some.inj hs) dX3_readPart_130
def RP : Nat → ST → Int32 → Option ST
  | 0 => fun _ _ => none
  | n + 1 => F_X3_readPart (RP n) (F_X3_readCondition (RP n))
theorem k_RP {h : Nat → Nat} {Z : State → Heap → Prop} {sa : Nat → Nat} (hZ : ZK h Z sa) (l : Launch) (D : va_G) (cA cL : ClassId) : ∀ (n : Nat) (s : ST) (x : Int32) (o : ST), RP n s x = some o → MV l (KC D cA cL h Z) (20 + 2 * n) yX3_readPart cX3_readPart 4 none s [.ref (h 54), .int x] o
  | 0, s, x, o, hs => by cases hs
  | n + 1, s, x, o, hs => by
    have ih := k_RP hZ l D cA cL n
    have e : 20 + 2 * (n + 1) = (20 + 2 * n + 1) + 1 := by omega
    rw [e]
    refine kF_X3_readPart hZ l D cA cL (RP n) (F_X3_readCondition (RP n)) (20 + 2 * n + 1) (20 + 2 * n) (by omega) (by omega) ih (fun s x o q => ?_) s x hs
    exact kF_X3_readCondition hZ l D cA cL (RP n) (20 + 2 * n) (by omega) ih s x q
def C_X3_readCondition (s : ST) (x1 : Int32) : Option ST := F_X3_readCondition (RP 12) s x1
theorem k_X3_readCondition {h : Nat → Nat} {Z : State → Heap → Prop} {sa : Nat → Nat} (hZ : ZK h Z sa) (l : Launch) (D : va_G) (cA cL : ClassId) (s : ST) (x1 : Int32) {o : ST} (hs : C_X3_readCondition s x1 = some o) : MV l (KC D cA cL h Z) 45 yX3_readCondition cX3_readCondition 4 none s [.ref (h 54), .int x1] o :=
  kF_X3_readCondition hZ l D cA cL (RP 12) (20 + 2 * 12) (by omega) (k_RP hZ l D cA cL 12) s x1 hs
theorem dX3_readLaw_0 : decode cX3_readLaw 0 = .ok (.aload_n 0, 1) := by decide +kernel
theorem dX3_readLaw_1 : decode cX3_readLaw 1 = .ok (.getfield 12, 3) := by decide +kernel
theorem dX3_readLaw_4 : decode cX3_readLaw 4 = .ok (.getfield 155, 3) := by decide +kernel
theorem dX3_readLaw_7 : decode cX3_readLaw 7 = .ok (.astore_n 1, 1) := by decide +kernel
theorem dX3_readLaw_8 : decode cX3_readLaw 8 = .ok (.aload_n 1, 1) := by decide +kernel
theorem dX3_readLaw_9 : decode cX3_readLaw 9 = .ok (.invokevirtual 159, 3) := by decide +kernel
theorem dX3_readLaw_12 : decode cX3_readLaw 12 = .ok (.iconst 0, 1) := by decide +kernel
theorem dX3_readLaw_13 : decode cX3_readLaw 13 = .ok (.istore_n 2, 1) := by decide +kernel
theorem dX3_readLaw_14 : decode cX3_readLaw 14 = .ok (.iload_n 2, 1) := by decide +kernel
theorem dX3_readLaw_15 : decode cX3_readLaw 15 = .ok (.sipush 400, 3) := by decide +kernel
theorem dX3_readLaw_18 : decode cX3_readLaw 18 = .ok (.if_icmp .ge 138, 3) := by decide +kernel
theorem dX3_readLaw_21 : decode cX3_readLaw 21 = .ok (.aload_n 0, 1) := by decide +kernel
theorem dX3_readLaw_22 : decode cX3_readLaw 22 = .ok (.getfield 18, 3) := by decide +kernel
theorem dX3_readLaw_25 : decode cX3_readLaw 25 = .ok (.invokevirtual 41, 3) := by decide +kernel
theorem dX3_readLaw_28 : decode cX3_readLaw 28 = .ok (.ifCond .eq 128, 3) := by decide +kernel
theorem dX3_readLaw_31 : decode cX3_readLaw 31 = .ok (.aload_n 0, 1) := by decide +kernel
theorem dX3_readLaw_32 : decode cX3_readLaw 32 = .ok (.getfield 18, 3) := by decide +kernel
theorem dX3_readLaw_35 : decode cX3_readLaw 35 = .ok (.ldc 162, 2) := by decide +kernel
theorem dX3_readLaw_37 : decode cX3_readLaw 37 = .ok (.aload_n 1, 1) := by decide +kernel
theorem dX3_readLaw_38 : decode cX3_readLaw 38 = .ok (.getfield 164, 3) := by decide +kernel
theorem dX3_readLaw_41 : decode cX3_readLaw 41 = .ok (.invokevirtual 49, 3) := by decide +kernel
theorem dX3_readLaw_44 : decode cX3_readLaw 44 = .ok (.ifCond .eq 7, 3) := by decide +kernel
theorem dX3_readLaw_47 : decode cX3_readLaw 47 = .ok (.iconst 0, 1) := by decide +kernel
theorem dX3_readLaw_48 : decode cX3_readLaw 48 = .ok (.goto 4, 3) := by decide +kernel
theorem dX3_readLaw_51 : decode cX3_readLaw 51 = .ok (.iconst 1, 1) := by decide +kernel
theorem dX3_readLaw_52 : decode cX3_readLaw 52 = .ok (.istore_n 3, 1) := by decide +kernel
theorem dX3_readLaw_53 : decode cX3_readLaw 53 = .ok (.iload_n 3, 1) := by decide +kernel
theorem dX3_readLaw_54 : decode cX3_readLaw 54 = .ok (.iconst 1, 1) := by decide +kernel
theorem dX3_readLaw_55 : decode cX3_readLaw 55 = .ok (.if_icmp .ne 27, 3) := by decide +kernel
theorem dX3_readLaw_58 : decode cX3_readLaw 58 = .ok (.aload_n 0, 1) := by decide +kernel
theorem dX3_readLaw_59 : decode cX3_readLaw 59 = .ok (.getfield 18, 3) := by decide +kernel
theorem dX3_readLaw_62 : decode cX3_readLaw 62 = .ok (.ldc 167, 2) := by decide +kernel
theorem dX3_readLaw_64 : decode cX3_readLaw 64 = .ok (.aload_n 1, 1) := by decide +kernel
theorem dX3_readLaw_65 : decode cX3_readLaw 65 = .ok (.getfield 164, 3) := by decide +kernel
theorem dX3_readLaw_68 : decode cX3_readLaw 68 = .ok (.invokevirtual 49, 3) := by decide +kernel
theorem dX3_readLaw_71 : decode cX3_readLaw 71 = .ok (.ifCond .ne 11, 3) := by decide +kernel
theorem dX3_readLaw_74 : decode cX3_readLaw 74 = .ok (.aload_n 0, 1) := by decide +kernel
theorem dX3_readLaw_75 : decode cX3_readLaw 75 = .ok (.getfield 18, 3) := by decide +kernel
theorem dX3_readLaw_78 : decode cX3_readLaw 78 = .ok (.iconst 1, 1) := by decide +kernel
theorem dX3_readLaw_79 : decode cX3_readLaw 79 = .ok (.invokevirtual 61, 3) := by decide +kernel
theorem dX3_readLaw_82 : decode cX3_readLaw 82 = .ok (.aload_n 1, 1) := by decide +kernel
theorem dX3_readLaw_83 : decode cX3_readLaw 83 = .ok (.getfield 169, 3) := by decide +kernel
theorem dX3_readLaw_86 : decode cX3_readLaw 86 = .ok (.istore 4, 2) := by decide +kernel
theorem dX3_readLaw_88 : decode cX3_readLaw 88 = .ok (.aload_n 0, 1) := by decide +kernel
theorem dX3_readLaw_89 : decode cX3_readLaw 89 = .ok (.invokevirtual 172, 3) := by decide +kernel
theorem dX3_readLaw_92 : decode cX3_readLaw 92 = .ok (.aload_n 1, 1) := by decide +kernel
theorem dX3_readLaw_93 : decode cX3_readLaw 93 = .ok (.getfield 169, 3) := by decide +kernel
theorem dX3_readLaw_96 : decode cX3_readLaw 96 = .ok (.istore 5, 2) := by decide +kernel
theorem dX3_readLaw_98 : decode cX3_readLaw 98 = .ok (.aload_n 0, 1) := by decide +kernel
theorem dX3_readLaw_99 : decode cX3_readLaw 99 = .ok (.getfield 18, 3) := by decide +kernel
theorem dX3_readLaw_102 : decode cX3_readLaw 102 = .ok (.ldc 175, 2) := by decide +kernel
theorem dX3_readLaw_104 : decode cX3_readLaw 104 = .ok (.invokevirtual 111, 3) := by decide +kernel
theorem dX3_readLaw_107 : decode cX3_readLaw 107 = .ok (.ifCond .eq 8, 3) := by decide +kernel
theorem dX3_readLaw_110 : decode cX3_readLaw 110 = .ok (.aload_n 0, 1) := by decide +kernel
theorem dX3_readLaw_111 : decode cX3_readLaw 111 = .ok (.iconst 0, 1) := by decide +kernel
theorem dX3_readLaw_112 : decode cX3_readLaw 112 = .ok (.invokevirtual 177, 3) := by decide +kernel
theorem dX3_readLaw_115 : decode cX3_readLaw 115 = .ok (.aload_n 0, 1) := by decide +kernel
theorem dX3_readLaw_116 : decode cX3_readLaw 116 = .ok (.getfield 18, 3) := by decide +kernel
theorem dX3_readLaw_119 : decode cX3_readLaw 119 = .ok (.bipush 59, 2) := by decide +kernel
theorem dX3_readLaw_121 : decode cX3_readLaw 121 = .ok (.invokevirtual 88, 3) := by decide +kernel
theorem dX3_readLaw_124 : decode cX3_readLaw 124 = .ok (.aload_n 0, 1) := by decide +kernel
theorem dX3_readLaw_125 : decode cX3_readLaw 125 = .ok (.getfield 18, 3) := by decide +kernel
theorem dX3_readLaw_128 : decode cX3_readLaw 128 = .ok (.getfield 65, 3) := by decide +kernel
theorem dX3_readLaw_131 : decode cX3_readLaw 131 = .ok (.ifCond .ne 19, 3) := by decide +kernel
theorem dX3_readLaw_134 : decode cX3_readLaw 134 = .ok (.aload_n 1, 1) := by decide +kernel
theorem dX3_readLaw_135 : decode cX3_readLaw 135 = .ok (.getfield 164, 3) := by decide +kernel
theorem dX3_readLaw_138 : decode cX3_readLaw 138 = .ok (.iload_n 3, 1) := by decide +kernel
theorem dX3_readLaw_139 : decode cX3_readLaw 139 = .ok (.iload 4, 2) := by decide +kernel
theorem dX3_readLaw_141 : decode cX3_readLaw 141 = .ok (.iload 5, 2) := by decide +kernel
theorem dX3_readLaw_143 : decode cX3_readLaw 143 = .ok (.aload_n 1, 1) := by decide +kernel
theorem dX3_readLaw_144 : decode cX3_readLaw 144 = .ok (.getfield 169, 3) := by decide +kernel
theorem dX3_readLaw_147 : decode cX3_readLaw 147 = .ok (.invokevirtual 92, 3) := by decide +kernel
theorem dX3_readLaw_150 : decode cX3_readLaw 150 = .ok (.iinc 2 1, 3) := by decide +kernel
theorem dX3_readLaw_153 : decode cX3_readLaw 153 = .ok (.goto (-139), 3) := by decide +kernel
theorem dX3_readLaw_156 : decode cX3_readLaw 156 = .ok (.aload_n 0, 1) := by decide +kernel
theorem dX3_readLaw_157 : decode cX3_readLaw 157 = .ok (.getfield 18, 3) := by decide +kernel
theorem dX3_readLaw_160 : decode cX3_readLaw 160 = .ok (.getfield 65, 3) := by decide +kernel
theorem dX3_readLaw_163 : decode cX3_readLaw 163 = .ok (.ifCond .eq 5, 3) := by decide +kernel
theorem dX3_readLaw_166 : decode cX3_readLaw 166 = .ok (.iconst (-1), 1) := by decide +kernel
theorem dX3_readLaw_167 : decode cX3_readLaw 167 = .ok (.ireturn, 1) := by decide +kernel
theorem dX3_readLaw_168 : decode cX3_readLaw 168 = .ok (.aload_n 0, 1) := by decide +kernel
theorem dX3_readLaw_169 : decode cX3_readLaw 169 = .ok (.getfield 22, 3) := by decide +kernel
theorem dX3_readLaw_172 : decode cX3_readLaw 172 = .ok (.getfield 155, 3) := by decide +kernel
theorem dX3_readLaw_175 : decode cX3_readLaw 175 = .ok (.aload_n 1, 1) := by decide +kernel
theorem dX3_readLaw_176 : decode cX3_readLaw 176 = .ok (.invokevirtual 180, 3) := by decide +kernel
theorem dX3_readLaw_179 : decode cX3_readLaw 179 = .ok (.aload_n 1, 1) := by decide +kernel
theorem dX3_readLaw_180 : decode cX3_readLaw 180 = .ok (.getfield 164, 3) := by decide +kernel
theorem dX3_readLaw_183 : decode cX3_readLaw 183 = .ok (.getfield 73, 3) := by decide +kernel
theorem dX3_readLaw_186 : decode cX3_readLaw 186 = .ok (.ireturn, 1) := by decide +kernel
theorem wX2_clear_X3 : Cond.methodLinkNest RX3 159 yX2_clear "StormSeeds" ∈ NW := nw_of 814 (by decide +kernel) rfl
theorem vc_X2_clear_X3 {p : Program} {l : Launch} {e : Env} {st : State} {m : MethodId} {args : Array Value} {below : List Frame} {meth : Method} {c : Code} {Q : State → Prop} {nL : Nat} {cc : ByteArray} {s : ST} {pc q : Nat} {lv : List (Nat × Value)} {rest : List Value} {D : va_G} {cA cL : ClassId} {h : Nat → Nat} {Z : State → Heap → Prop} {sa : Nat → Nat} (hZ : ZK h Z sa) {d0 : Nat} (X : Cx (KC D cA cL h Z) p st m args meth c cc nL RX3) {b0 : Nat} (d : decode cc pc = .ok (.invokevirtual 159, 3)) (hq : pc + 3 = q) (hb0 : isK 2 b0) (hd1 : 2 + 1 ≤ d0) (hd2 : 8 + (1 + 11) + 100 * 2 ≤ 100 * d0) (hr : (rest.map fun v => v.category).sum ≤ 8) {B : Type} {f : ST → B} {r : B} (hs : Lt (C_X2_clear s b0) f = r) (k : ∀ y, f y = r → WG (KC D cA cL h Z) p l e (rmD d0) st m args below meth c Q nL y q lv (rest)) : WG (KC D cA cL h Z) p l e (rmD d0) st m args below meth c Q nL s pc lv (.ref (h b0) :: rest) := by
  exact cVN_V (K := KC D cA cL h Z) X b0 (n := 0) (k_X2_clear hZ l D cA cL s b0 hb0) (gt_c (gt_of 604 (by decide +kernel) rfl) gt_t) (hZ.1 st st.heap X.2.2.2 _ wX2_clear_X3) (gt_of 201 (by decide +kernel) rfl) (gt_of 603 (by decide +kernel) rfl) (gt_of 5 (by decide +kernel) rfl) ⟨hd1, hd2⟩ ⟨by decide, by decide, by decide +kernel⟩ (As := []) rfl hr (hb0).1 (fs := cF2 h b0 (s.1 b0) (s.2 b0)) (GC_2 (cA := cA) (cL := cL) hb0 _ _) rfl rfl d hq (k _ hs)
theorem wX2_copy_X3 : Cond.methodLinkNest RX3 180 yX2_copy "StormSeeds" ∈ NW := nw_of 859 (by decide +kernel) rfl
theorem vc_X2_copy_X3 {p : Program} {l : Launch} {e : Env} {st : State} {m : MethodId} {args : Array Value} {below : List Frame} {meth : Method} {c : Code} {Q : State → Prop} {nL : Nat} {cc : ByteArray} {s : ST} {pc q : Nat} {lv : List (Nat × Value)} {rest : List Value} {D : va_G} {cA cL : ClassId} {h : Nat → Nat} {Z : State → Heap → Prop} {sa : Nat → Nat} (hZ : ZK h Z sa) {d0 : Nat} (X : Cx (KC D cA cL h Z) p st m args meth c cc nL RX3) {b0 : Nat} {x1 : Nat} (d : decode cc pc = .ok (.invokevirtual 180, 3)) (hq : pc + 3 = q) (hb0 : isK 2 b0) (hx1 : isK 2 x1) (hd1 : 3 + 1 ≤ d0) (hd2 : 8 + (2 + 11) + 100 * 3 ≤ 100 * d0) (hr : (rest.map fun v => v.category).sum ≤ 8) {B : Type} {f : ST → Option B} {r : B} (hs : Bd (C_X2_copy s b0 x1) f = some r) (k : ∀ y, f y = some r → WG (KC D cA cL h Z) p l e (rmD d0) st m args below meth c Q nL y q lv (rest)) : WG (KC D cA cL h Z) p l e (rmD d0) st m args below meth c Q nL s pc lv (.ref (h x1) :: .ref (h b0) :: rest) := by
  obtain ⟨v, hv, hs⟩ := Bd_e hs
  exact cVN_V (K := KC D cA cL h Z) X b0 (n := 1) (k_X2_copy hZ l D cA cL s b0 x1 hb0 hx1 hv) (gt_c (gt_of 862 (by decide +kernel) rfl) gt_t) (hZ.1 st st.heap X.2.2.2 _ wX2_copy_X3) (gt_of 201 (by decide +kernel) rfl) (gt_of 861 (by decide +kernel) rfl) (gt_of 42 (by decide +kernel) rfl) ⟨hd1, hd2⟩ ⟨by decide, by decide, by decide +kernel⟩ (As := [.ref (h x1)]) rfl hr (hb0).1 (fs := cF2 h b0 (s.1 b0) (s.2 b0)) (GC_2 (cA := cA) (cL := cL) hb0 _ _) rfl rfl d hq (k _ hs)
theorem wX3_readCondition_X3 : GoodIn GT (wsV RX3 177 RX3 yX3_readCondition (.code yX3_readCondition cX3_readCondition 4 none :: GT)) := gt_V (gt_of 842 (by decide +kernel) rfl) (gt_of 844 (by decide +kernel) rfl) (gt_of 39 (by decide +kernel) rfl) (gt_of 203 (by decide +kernel) rfl) (gt_of 845 (by decide +kernel) rfl)
theorem vc_X3_readCondition_X3 {p : Program} {l : Launch} {e : Env} {st : State} {m : MethodId} {args : Array Value} {below : List Frame} {meth : Method} {c : Code} {Q : State → Prop} {nL : Nat} {cc : ByteArray} {s : ST} {pc q : Nat} {lv : List (Nat × Value)} {rest : List Value} {D : va_G} {cA cL : ClassId} {h : Nat → Nat} {Z : State → Heap → Prop} {sa : Nat → Nat} (hZ : ZK h Z sa) {d0 : Nat} (X : Cx (KC D cA cL h Z) p st m args meth c cc nL RX3) {x1 : Int32} (d : decode cc pc = .ok (.invokevirtual 177, 3)) (hq : pc + 3 = q) (hd1 : 45 + 1 ≤ d0) (hd2 : 8 + (4 + 11) + 100 * 45 ≤ 100 * d0) (hr : (rest.map fun v => v.category).sum ≤ 8) {B : Type} {f : ST → Option B} {r : B} (hs : Bd (C_X3_readCondition s x1) f = some r) (k : ∀ y, f y = some r → WG (KC D cA cL h Z) p l e (rmD d0) st m args below meth c Q nL y q lv (rest)) : WG (KC D cA cL h Z) p l e (rmD d0) st m args below meth c Q nL s pc lv (.int x1 :: .ref (h 54) :: rest) := by
  obtain ⟨v, hv, hs⟩ := Bd_e hs
  exact cV_V (K := KC D cA cL h Z) X 54 (n := 1) (k_X3_readCondition hZ l D cA cL s x1 hv) wX3_readCondition_X3 ⟨hd1, hd2⟩ ⟨by decide, by decide, by decide +kernel⟩ (As := [.int x1]) rfl hr (sh_54).1 (fs := cF3 h 54 (s.1 54) (s.2 54)) (GC_3 (cA := cA) (cL := cL) sh_54 _ _) rfl rfl d hq (k _ hs)
def C_X3_readLaw (s : ST) : Option (Int32 × ST) := Lt (C_X2_clear s 60) fun s1 => lpK2 (C := Int32 × ST) (fun (rec1 : Int32 → ST → Option (Int32 × ST)) (a1 : Int32) (s2 : ST) => Lt (if (s2.1 49 8) = 0 then (Bd (C_X2_copy s2 13 60) fun s3 => some ((s3.1 61 2), s3)) else (some ((-1 : Int32), s2)) : Option (Int32 × ST)) fun j1 => if (400 : Int32) ≤ a1 then (j1) else (Lt (C_X5_goesOn s2) fun y1 => if y1 = 0 then (j1) else (Bd (C_X5_takesHead s2 17 61) fun y2 => Lt (fun (a2 : Int32) => (Lt (fun (s4 : ST) => (Lt ((s4.1 60 2)) fun y3 => Bd (C_X3_readSum s4) fun s5 => Lt ((s5.1 60 2)) fun y4 => Bd (C_X5_takesWord s5 19) fun y5 => Lt (fun (s6 : ST) => (Bd (C_X5_needSign s6 (59 : Int32)) fun s7 => Lt (fun (s8 : ST) => (rec1 (a1 + (1 : Int32)) s8 : Option (Int32 × ST))) fun j5 => if (s7.1 49 8) = 0 then (Bd (C_X4_add s7 61 a2 y3 y4 (s7.1 60 2)) fun s9 => j5 s9) else (j5 s7) : Option (Int32 × ST))) fun j4 => if y5.1 = 0 then (j4 y5.2) else (Bd (C_X3_readCondition y5.2 (0 : Int32)) fun s10 => j4 s10) : Option (Int32 × ST))) fun j3 => if a2 = (1 : Int32) then (Bd (C_X5_takesHead y2.2 18 61) fun y6 => if y6.1 = 0 then (Bd (C_X5_fail y6.2 (1 : Int32)) fun s11 => j3 s11) else (j3 y6.2)) else (j3 y2.2) : Option (Int32 × ST))) fun j2 => if y2.1 = 0 then (j2 (1 : Int32)) else (j2 (0 : Int32))))) FU (0 : Int32) s1
set_option maxRecDepth 100000 in
set_option maxHeartbeats 4000000 in
theorem k_X3_readLaw {h : Nat → Nat} {Z : State → Heap → Prop} {sa : Nat → Nat} (hZ : ZK h Z sa) (l : Launch) (D : va_G) (cA cL : ClassId) (s : ST) {o : Int32 × ST} (hs : C_X3_readLaw s = some o) : MI l (KC D cA cL h Z) 46 yX3_readLaw cX3_readLaw 6 (some .int) s [.ref (h 54)] o.1 o.2 := by
  refine met_i (by decide) (Nat.le_of_ble_eq_true rfl) ?_
  intro p e st m args below meth c Q X RI
  unfold C_X3_readLaw at hs
  refine g_aload_n X dX3_readLaw_0 (q := 1) rfl 0 rfl ?_
  refine cg_3_3 X dX3_readLaw_1 (q := 4) rfl sh_54 lf_X3_12 ?_
  refine cgN_7_2 hZ X dX3_readLaw_4 (q := 7) rfl sh_55 lf_X3_155 ?_
  refine g_astore_n X dX3_readLaw_7 (q := 8) rfl (Nat.le_of_ble_eq_true rfl) (lv' := [(1, .ref (h 60)), (0, .ref (h 54))]) rfl ?_
  refine g_aload_n X dX3_readLaw_8 (q := 9) rfl 0 rfl ?_
  refine vc_X2_clear_X3 hZ X dX3_readLaw_9 (q := 12) rfl sh_60 (Nat.le_of_ble_eq_true rfl) (Nat.le_of_ble_eq_true rfl) (Nat.le_of_ble_eq_true rfl) hs (fun s1 hs => ?_)
  refine g_iconst X dX3_readLaw_12 (q := 13) rfl li_i0 ?_
  refine g_istore_n X dX3_readLaw_13 (q := 14) rfl (Nat.le_of_ble_eq_true rfl) (lv' := [(2, .int (0 : Int32)), (1, .ref (h 60)), (0, .ref (h 54))]) rfl ?_
  refine wg_sub [2, 1, 0] rfl (lpW2 (fun (a1 : Int32) (s2 : ST) => WG (KC D cA cL h Z) p l e (rmD 46) st m args below meth c Q 6 s2 14 [(0, .ref (h 54)), (1, .ref (h 60)), (2, .int a1)] []) (fun rec1 ih1 a1 s2 hs => ?_) _ _ _ hs)
  refine g_iload_n X dX3_readLaw_14 (q := 15) rfl 2 rfl ?_
  refine g_sipush X dX3_readLaw_15 (q := 18) rfl li_s400 ?_
  refine jnW0 (WG (KC D cA cL h Z) p l e (rmD 46) st m args below meth c Q 6 s2 156 [(0, .ref (h 54)), (1, .ref (h 60))] []) hs (fun  hs => ?_) (fun j1 ih2 hs => ?_)
  · refine g_aload_n X dX3_readLaw_156 (q := 157) rfl 0 rfl ?_
    refine cg_3_0 X dX3_readLaw_157 (q := 160) rfl sh_54 lf_X3_18 ?_
    refine cgN_5_8 hZ X dX3_readLaw_160 (q := 163) rfl sh_49 lf_X3_65 ?_
    refine g_if_eq X dX3_readLaw_163 (q := 166) rfl (tgt := 168) (by decide) hs ?_ ?_
    · intro hs
      refine g_aload_n X dX3_readLaw_168 (q := 169) rfl 0 rfl ?_
      refine cg_3_1 X dX3_readLaw_169 (q := 172) rfl sh_54 lf_X3_22 ?_
      refine cgN_7_2 hZ X dX3_readLaw_172 (q := 175) rfl sh_8 lf_X3_155 ?_
      refine g_aload_n X dX3_readLaw_175 (q := 176) rfl 1 rfl ?_
      refine vc_X2_copy_X3 hZ X dX3_readLaw_176 (q := 179) rfl sh_13 sh_60 (Nat.le_of_ble_eq_true rfl) (Nat.le_of_ble_eq_true rfl) (Nat.le_of_ble_eq_true rfl) hs (fun s3 hs => ?_)
      refine g_aload_n X dX3_readLaw_179 (q := 180) rfl 1 rfl ?_
      refine cgN_2_0 hZ X dX3_readLaw_180 (q := 183) rfl sh_60 lf_X3_164 ?_
      refine cgN_4_2 hZ X dX3_readLaw_183 (q := 186) rfl sh_61 lf_X3_73 ?_
      exact RI _ 186 _ _ _ (rU1 hs) rfl (rV1 hs) dX3_readLaw_186
    · intro hs
      refine g_iconst X dX3_readLaw_166 (q := 167) rfl li_im1 ?_
      exact RI _ 167 _ _ _ (rU1 hs) rfl (rV1 hs) dX3_readLaw_167
  refine g_icmp_ge X dX3_readLaw_18 (q := 21) rfl (tgt := 156) (by decide) hs ?_ ?_
  · intro hs
    exact wg_sub [0, 1] rfl (ih2 hs)
  · intro hs
    refine g_aload_n X dX3_readLaw_21 (q := 22) rfl 0 rfl ?_
    refine cg_3_0 X dX3_readLaw_22 (q := 25) rfl sh_54 lf_X3_18 ?_
    refine vc_X5_goesOn_X3 hZ X dX3_readLaw_25 (q := 28) rfl (Nat.le_of_ble_eq_true rfl) (Nat.le_of_ble_eq_true rfl) (Nat.le_of_ble_eq_true rfl) hs (fun y1 hs => ?_)
    refine g_if_eq X dX3_readLaw_28 (q := 31) rfl (tgt := 156) (by decide) hs ?_ ?_
    · intro hs
      exact wg_sub [0, 1] rfl (ih2 hs)
    · intro hs
      refine g_aload_n X dX3_readLaw_31 (q := 32) rfl 0 rfl ?_
      refine cg_3_0 X dX3_readLaw_32 (q := 35) rfl sh_54 lf_X3_18 ?_
      refine cg_ldc hZ X dX3_readLaw_35 (q := 37) rfl 17 (Nat.le_of_ble_eq_true rfl) rfl ?_
      refine g_aload_n X dX3_readLaw_37 (q := 38) rfl 1 rfl ?_
      refine cgN_2_0 hZ X dX3_readLaw_38 (q := 41) rfl sh_60 lf_X3_164 ?_
      refine vc_X5_takesHead_X3 hZ X dX3_readLaw_41 (q := 44) rfl (Nat.le_of_ble_eq_true rfl) sh_61 (Nat.le_of_ble_eq_true rfl) (Nat.le_of_ble_eq_true rfl) (Nat.le_of_ble_eq_true rfl) hs (fun y2 hs => ?_)
      refine jnW1 (fun (a2 : Int32) => WG (KC D cA cL h Z) p l e (rmD 46) st m args below meth c Q 6 y2.2 52 [(0, .ref (h 54)), (1, .ref (h 60)), (2, .int a1)] [.int a2]) hs (fun a2 hs => ?_) (fun j2 ih3 hs => ?_)
      · refine g_istore_n X dX3_readLaw_52 (q := 53) rfl (Nat.le_of_ble_eq_true rfl) (lv' := [(3, .int a2), (0, .ref (h 54)), (1, .ref (h 60)), (2, .int a1)]) rfl ?_
        refine g_iload_n X dX3_readLaw_53 (q := 54) rfl 0 rfl ?_
        refine g_iconst X dX3_readLaw_54 (q := 55) rfl li_i1 ?_
        refine jnW1 (fun (s4 : ST) => WG (KC D cA cL h Z) p l e (rmD 46) st m args below meth c Q 6 s4 82 [(0, .ref (h 54)), (1, .ref (h 60)), (2, .int a1), (3, .int a2)] []) hs (fun s4 hs => ?_) (fun j3 ih4 hs => ?_)
        · refine g_aload_n X dX3_readLaw_82 (q := 83) rfl 1 rfl ?_
          refine cgN_2_2 hZ X dX3_readLaw_83 (q := 86) rfl sh_60 lf_X3_169 ?_
          refine nmI hs (fun y3 hs => ?_)
          refine g_istore X dX3_readLaw_86 (q := 88) rfl (Nat.le_of_ble_eq_true rfl) (lv' := [(4, .int y3), (0, .ref (h 54)), (1, .ref (h 60)), (2, .int a1), (3, .int a2)]) rfl ?_
          refine g_aload_n X dX3_readLaw_88 (q := 89) rfl 1 rfl ?_
          refine vc_X3_readSum_X3 hZ X dX3_readLaw_89 (q := 92) rfl (Nat.le_of_ble_eq_true rfl) (Nat.le_of_ble_eq_true rfl) (Nat.le_of_ble_eq_true rfl) hs (fun s5 hs => ?_)
          refine g_aload_n X dX3_readLaw_92 (q := 93) rfl 2 rfl ?_
          refine cgN_2_2 hZ X dX3_readLaw_93 (q := 96) rfl sh_60 lf_X3_169 ?_
          refine nmI hs (fun y4 hs => ?_)
          refine g_istore X dX3_readLaw_96 (q := 98) rfl (Nat.le_of_ble_eq_true rfl) (lv' := [(5, .int y4), (4, .int y3), (0, .ref (h 54)), (1, .ref (h 60)), (2, .int a1), (3, .int a2)]) rfl ?_
          refine g_aload_n X dX3_readLaw_98 (q := 99) rfl 2 rfl ?_
          refine cg_3_0 X dX3_readLaw_99 (q := 102) rfl sh_54 lf_X3_18 ?_
          refine cg_ldc hZ X dX3_readLaw_102 (q := 104) rfl 19 (Nat.le_of_ble_eq_true rfl) rfl ?_
          refine vc_X5_takesWord_X3 hZ X dX3_readLaw_104 (q := 107) rfl (Nat.le_of_ble_eq_true rfl) (Nat.le_of_ble_eq_true rfl) (Nat.le_of_ble_eq_true rfl) (Nat.le_of_ble_eq_true rfl) hs (fun y5 hs => ?_)
          refine jnW1 (fun (s6 : ST) => WG (KC D cA cL h Z) p l e (rmD 46) st m args below meth c Q 6 s6 115 [(0, .ref (h 54)), (1, .ref (h 60)), (2, .int a1), (3, .int a2), (4, .int y3), (5, .int y4)] []) hs (fun s6 hs => ?_) (fun j4 ih5 hs => ?_)
          · refine g_aload_n X dX3_readLaw_115 (q := 116) rfl 0 rfl ?_
            refine cg_3_0 X dX3_readLaw_116 (q := 119) rfl sh_54 lf_X3_18 ?_
            refine g_bipush X dX3_readLaw_119 (q := 121) rfl li_b59 ?_
            refine vc_X5_needSign_X3 hZ X dX3_readLaw_121 (q := 124) rfl (Nat.le_of_ble_eq_true rfl) (Nat.le_of_ble_eq_true rfl) (Nat.le_of_ble_eq_true rfl) hs (fun s7 hs => ?_)
            refine g_aload_n X dX3_readLaw_124 (q := 125) rfl 0 rfl ?_
            refine cg_3_0 X dX3_readLaw_125 (q := 128) rfl sh_54 lf_X3_18 ?_
            refine cgN_5_8 hZ X dX3_readLaw_128 (q := 131) rfl sh_49 lf_X3_65 ?_
            refine jnW1 (fun (s8 : ST) => WG (KC D cA cL h Z) p l e (rmD 46) st m args below meth c Q 6 s8 150 [(0, .ref (h 54)), (1, .ref (h 60)), (2, .int a1)] []) hs (fun s8 hs => ?_) (fun j5 ih6 hs => ?_)
            · refine g_iinc X dX3_readLaw_150 (q := 153) rfl 2 rfl (v := (a1 + (1 : Int32))) (congrArg (HAdd.hAdd a1) li_i1) (Nat.le_of_ble_eq_true rfl) (lv' := [(2, .int (a1 + (1 : Int32))), (0, .ref (h 54)), (1, .ref (h 60))]) rfl ?_
              refine g_goto X dX3_readLaw_153 (tgt := 14) (by decide) ?_
              exact wg_sub [1, 2, 0] rfl (ih1 _ _ hs)
            refine g_if_ne X dX3_readLaw_131 (q := 134) rfl (tgt := 150) (by decide) hs ?_ ?_
            · intro hs
              exact wg_sub [0, 1, 2] rfl (ih6 _ hs)
            · intro hs
              refine g_aload_n X dX3_readLaw_134 (q := 135) rfl 1 rfl ?_
              refine cgN_2_0 hZ X dX3_readLaw_135 (q := 138) rfl sh_60 lf_X3_164 ?_
              refine g_iload_n X dX3_readLaw_138 (q := 139) rfl 3 rfl ?_
              refine g_iload X dX3_readLaw_139 (q := 141) rfl 4 rfl ?_
              refine g_iload X dX3_readLaw_141 (q := 143) rfl 5 rfl ?_
              refine g_aload_n X dX3_readLaw_143 (q := 144) rfl 1 rfl ?_
              refine cgN_2_2 hZ X dX3_readLaw_144 (q := 147) rfl sh_60 lf_X3_169 ?_
              refine vc_X4_add_X3 hZ X dX3_readLaw_147 (q := 150) rfl sh_61 (Nat.le_of_ble_eq_true rfl) (Nat.le_of_ble_eq_true rfl) (Nat.le_of_ble_eq_true rfl) hs (fun s9 hs => ?_)
              exact wg_sub [0, 1, 2] rfl (ih6 _ hs)
          refine g_if_eq X dX3_readLaw_107 (q := 110) rfl (tgt := 115) (by decide) hs ?_ ?_
          · intro hs
            exact wg_sub [2, 3, 4, 5, 1, 0] rfl (ih5 _ hs)
          · intro hs
            refine g_aload_n X dX3_readLaw_110 (q := 111) rfl 2 rfl ?_
            refine g_iconst X dX3_readLaw_111 (q := 112) rfl li_i0 ?_
            refine vc_X3_readCondition_X3 hZ X dX3_readLaw_112 (q := 115) rfl (Nat.le_of_ble_eq_true rfl) (Nat.le_of_ble_eq_true rfl) (Nat.le_of_ble_eq_true rfl) hs (fun s10 hs => ?_)
            exact wg_sub [2, 3, 4, 5, 1, 0] rfl (ih5 _ hs)
        refine g_icmp_ne X dX3_readLaw_55 (q := 58) rfl (tgt := 82) (by decide) hs ?_ ?_
        · intro hs
          exact wg_sub [1, 2, 3, 0] rfl (ih4 _ hs)
        · intro hs
          refine g_aload_n X dX3_readLaw_58 (q := 59) rfl 1 rfl ?_
          refine cg_3_0 X dX3_readLaw_59 (q := 62) rfl sh_54 lf_X3_18 ?_
          refine cg_ldc hZ X dX3_readLaw_62 (q := 64) rfl 18 (Nat.le_of_ble_eq_true rfl) rfl ?_
          refine g_aload_n X dX3_readLaw_64 (q := 65) rfl 2 rfl ?_
          refine cgN_2_0 hZ X dX3_readLaw_65 (q := 68) rfl sh_60 lf_X3_164 ?_
          refine vc_X5_takesHead_X3 hZ X dX3_readLaw_68 (q := 71) rfl (Nat.le_of_ble_eq_true rfl) sh_61 (Nat.le_of_ble_eq_true rfl) (Nat.le_of_ble_eq_true rfl) (Nat.le_of_ble_eq_true rfl) hs (fun y6 hs => ?_)
          refine g_if_ne X dX3_readLaw_71 (q := 74) rfl (tgt := 82) (by decide) hs ?_ ?_
          · intro hs
            exact wg_sub [1, 2, 3, 0] rfl (ih4 _ hs)
          · intro hs
            refine g_aload_n X dX3_readLaw_74 (q := 75) rfl 1 rfl ?_
            refine cg_3_0 X dX3_readLaw_75 (q := 78) rfl sh_54 lf_X3_18 ?_
            refine g_iconst X dX3_readLaw_78 (q := 79) rfl li_i1 ?_
            refine vc_X5_fail_X3 hZ X dX3_readLaw_79 (q := 82) rfl (Nat.le_of_ble_eq_true rfl) (Nat.le_of_ble_eq_true rfl) (Nat.le_of_ble_eq_true rfl) hs (fun s11 hs => ?_)
            exact wg_sub [1, 2, 3, 0] rfl (ih4 _ hs)
      refine g_if_eq X dX3_readLaw_44 (q := 47) rfl (tgt := 51) (by decide) hs ?_ ?_
      · intro hs
        refine g_iconst X dX3_readLaw_51 (q := 52) rfl li_i1 ?_
        exact wg_sub [0, 1, 2] rfl (ih3 _ hs)
      · intro hs
        refine g_iconst X dX3_readLaw_47 (q := 48) rfl li_i0 ?_
        refine g_goto X dX3_readLaw_48 (tgt := 52) (by decide) ?_
        exact wg_sub [0, 1, 2] rfl (ih3 _ hs)
theorem dX9_text_0 : decode cX9_text 0 = .ok (.aload_n 0, 1) := by decide +kernel
theorem dX9_text_1 : decode cX9_text 1 = .ok (.getfield 44, 3) := by decide +kernel
theorem dX9_text_4 : decode cX9_text 4 = .ok (.invokevirtual 121, 3) := by decide +kernel
theorem dX9_text_7 : decode cX9_text 7 = .ok (.iload_n 1, 1) := by decide +kernel
theorem dX9_text_8 : decode cX9_text 8 = .ok (.ifCond .ne 13, 3) := by decide +kernel
theorem dX9_text_11 : decode cX9_text 11 = .ok (.aload_n 0, 1) := by decide +kernel
theorem dX9_text_12 : decode cX9_text 12 = .ok (.getfield 53, 3) := by decide +kernel
theorem dX9_text_15 : decode cX9_text 15 = .ok (.invokevirtual 123, 3) := by decide +kernel
theorem dX9_text_18 : decode cX9_text 18 = .ok (.goto 49, 3) := by decide +kernel
theorem dX9_text_21 : decode cX9_text 21 = .ok (.iload_n 1, 1) := by decide +kernel
theorem dX9_text_22 : decode cX9_text 22 = .ok (.iconst 1, 1) := by decide +kernel
theorem dX9_text_23 : decode cX9_text 23 = .ok (.if_icmp .ne 13, 3) := by decide +kernel
theorem dX9_text_26 : decode cX9_text 26 = .ok (.aload_n 0, 1) := by decide +kernel
theorem dX9_text_27 : decode cX9_text 27 = .ok (.getfield 53, 3) := by decide +kernel
theorem dX9_text_30 : decode cX9_text 30 = .ok (.invokevirtual 127, 3) := by decide +kernel
theorem dX9_text_33 : decode cX9_text 33 = .ok (.goto 34, 3) := by decide +kernel
theorem dX9_text_36 : decode cX9_text 36 = .ok (.iload_n 1, 1) := by decide +kernel
theorem dX9_text_37 : decode cX9_text 37 = .ok (.iconst 2, 1) := by decide +kernel
theorem dX9_text_38 : decode cX9_text 38 = .ok (.if_icmp .ne 13, 3) := by decide +kernel
theorem dX9_text_41 : decode cX9_text 41 = .ok (.aload_n 0, 1) := by decide +kernel
theorem dX9_text_42 : decode cX9_text 42 = .ok (.getfield 53, 3) := by decide +kernel
theorem dX9_text_45 : decode cX9_text 45 = .ok (.invokevirtual 130, 3) := by decide +kernel
theorem dX9_text_48 : decode cX9_text 48 = .ok (.goto 19, 3) := by decide +kernel
theorem dX9_text_51 : decode cX9_text 51 = .ok (.iload_n 1, 1) := by decide +kernel
theorem dX9_text_52 : decode cX9_text 52 = .ok (.iconst 3, 1) := by decide +kernel
theorem dX9_text_53 : decode cX9_text 53 = .ok (.if_icmp .ne 13, 3) := by decide +kernel
theorem dX9_text_56 : decode cX9_text 56 = .ok (.aload_n 0, 1) := by decide +kernel
theorem dX9_text_57 : decode cX9_text 57 = .ok (.getfield 53, 3) := by decide +kernel
theorem dX9_text_60 : decode cX9_text 60 = .ok (.invokevirtual 133, 3) := by decide +kernel
theorem dX9_text_63 : decode cX9_text 63 = .ok (.goto 4, 3) := by decide +kernel
theorem dX9_text_66 : decode cX9_text 66 = .ok (.iconst (-1), 1) := by decide +kernel
theorem dX9_text_67 : decode cX9_text 67 = .ok (.istore_n 2, 1) := by decide +kernel
theorem dX9_text_68 : decode cX9_text 68 = .ok (.iload_n 2, 1) := by decide +kernel
theorem dX9_text_69 : decode cX9_text 69 = .ok (.iconst (-1), 1) := by decide +kernel
theorem dX9_text_70 : decode cX9_text 70 = .ok (.if_icmp .eq 34, 3) := by decide +kernel
theorem dX9_text_73 : decode cX9_text 73 = .ok (.iload_n 1, 1) := by decide +kernel
theorem dX9_text_74 : decode cX9_text 74 = .ok (.ifCond .ne 30, 3) := by decide +kernel
theorem dX9_text_77 : decode cX9_text 77 = .ok (.aload_n 0, 1) := by decide +kernel
theorem dX9_text_78 : decode cX9_text 78 = .ok (.getfield 12, 3) := by decide +kernel
theorem dX9_text_81 : decode cX9_text 81 = .ok (.invokevirtual 136, 3) := by decide +kernel
theorem dX9_text_84 : decode cX9_text 84 = .ok (.aload_n 0, 1) := by decide +kernel
theorem dX9_text_85 : decode cX9_text 85 = .ok (.getfield 19, 3) := by decide +kernel
theorem dX9_text_88 : decode cX9_text 88 = .ok (.getfield 139, 3) := by decide +kernel
theorem dX9_text_91 : decode cX9_text 91 = .ok (.invokevirtual 98, 3) := by decide +kernel
theorem dX9_text_94 : decode cX9_text 94 = .ok (.aload_n 0, 1) := by decide +kernel
theorem dX9_text_95 : decode cX9_text 95 = .ok (.getfield 19, 3) := by decide +kernel
theorem dX9_text_98 : decode cX9_text 98 = .ok (.getfield 142, 3) := by decide +kernel
theorem dX9_text_101 : decode cX9_text 101 = .ok (.invokevirtual 98, 3) := by decide +kernel
theorem dX9_text_104 : decode cX9_text 104 = .ok (.iload_n 2, 1) := by decide +kernel
theorem dX9_text_105 : decode cX9_text 105 = .ok (.iconst (-1), 1) := by decide +kernel
theorem dX9_text_106 : decode cX9_text 106 = .ok (.if_icmp .eq 19, 3) := by decide +kernel
theorem dX9_text_109 : decode cX9_text 109 = .ok (.iload_n 1, 1) := by decide +kernel
theorem dX9_text_110 : decode cX9_text 110 = .ok (.ifCond .eq 8, 3) := by decide +kernel
theorem dX9_text_113 : decode cX9_text 113 = .ok (.iload_n 1, 1) := by decide +kernel
theorem dX9_text_114 : decode cX9_text 114 = .ok (.iconst 3, 1) := by decide +kernel
theorem dX9_text_115 : decode cX9_text 115 = .ok (.if_icmp .ne 10, 3) := by decide +kernel
theorem dX9_text_118 : decode cX9_text 118 = .ok (.aload_n 0, 1) := by decide +kernel
theorem dX9_text_119 : decode cX9_text 119 = .ok (.getfield 78, 3) := by decide +kernel
theorem dX9_text_122 : decode cX9_text 122 = .ok (.invokevirtual 90, 3) := by decide +kernel
theorem dX9_text_125 : decode cX9_text 125 = .ok (.aload_n 0, 1) := by decide +kernel
theorem dX9_text_126 : decode cX9_text 126 = .ok (.getfield 44, 3) := by decide +kernel
theorem dX9_text_129 : decode cX9_text 129 = .ok (.iconst 0, 1) := by decide +kernel
theorem dX9_text_130 : decode cX9_text 130 = .ok (.putfield 118, 3) := by decide +kernel
theorem dX9_text_133 : decode cX9_text 133 = .ok (.iload_n 2, 1) := by decide +kernel
theorem dX9_text_134 : decode cX9_text 134 = .ok (.ireturn, 1) := by decide +kernel
theorem wX1_clearSeedsAndStorms_X9 : Cond.methodLinkNest RX9 136 yX1_clearSeedsAndStorms "StormSeeds" ∈ NW := nw_of 898 (by decide +kernel) rfl
theorem vc_X1_clearSeedsAndStorms_X9 {p : Program} {l : Launch} {e : Env} {st : State} {m : MethodId} {args : Array Value} {below : List Frame} {meth : Method} {c : Code} {Q : State → Prop} {nL : Nat} {cc : ByteArray} {s : ST} {pc q : Nat} {lv : List (Nat × Value)} {rest : List Value} {D : va_G} {cA cL : ClassId} {h : Nat → Nat} {Z : State → Heap → Prop} {sa : Nat → Nat} (hZ : ZK h Z sa) {d0 : Nat} (X : Cx (KC D cA cL h Z) p st m args meth c cc nL RX9) {b0 : Nat} (d : decode cc pc = .ok (.invokevirtual 136, 3)) (hq : pc + 3 = q) (hb0 : isK 1 b0) (hd1 : 1 + 1 ≤ d0) (hd2 : 8 + (1 + 11) + 100 * 1 ≤ 100 * d0) (hr : (rest.map fun v => v.category).sum ≤ 8) {B : Type} {f : ST → B} {r : B} (hs : Lt (C_X1_clearSeedsAndStorms s b0) f = r) (k : ∀ y, f y = r → WG (KC D cA cL h Z) p l e (rmD d0) st m args below meth c Q nL y q lv (rest)) : WG (KC D cA cL h Z) p l e (rmD d0) st m args below meth c Q nL s pc lv (.ref (h b0) :: rest) := by
  exact cVN_V (K := KC D cA cL h Z) X b0 (n := 0) (k_X1_clearSeedsAndStorms hZ l D cA cL s b0 hb0) (gt_c (gt_of 537 (by decide +kernel) rfl) gt_t) (hZ.1 st st.heap X.2.2.2 _ wX1_clearSeedsAndStorms_X9) (gt_of 197 (by decide +kernel) rfl) (gt_of 536 (by decide +kernel) rfl) (gt_of 1 (by decide +kernel) rfl) ⟨hd1, hd2⟩ ⟨by decide, by decide, by decide +kernel⟩ (As := []) rfl hr (hb0).1 (fs := cF1 h b0 (s.1 b0) (s.2 b0)) (GC_1 (cA := cA) (cL := cL) hb0 _ _) rfl rfl d hq (k _ hs)
theorem wX3_readKinds_X9 : Cond.methodLinkNest RX9 123 yX3_readKinds "StormSeeds" ∈ NW := nw_of 672 (by decide +kernel) rfl
theorem vc_X3_readKinds_X9 {p : Program} {l : Launch} {e : Env} {st : State} {m : MethodId} {args : Array Value} {below : List Frame} {meth : Method} {c : Code} {Q : State → Prop} {nL : Nat} {cc : ByteArray} {s : ST} {pc q : Nat} {lv : List (Nat × Value)} {rest : List Value} {D : va_G} {cA cL : ClassId} {h : Nat → Nat} {Z : State → Heap → Prop} {sa : Nat → Nat} (hZ : ZK h Z sa) {d0 : Nat} (X : Cx (KC D cA cL h Z) p st m args meth c cc nL RX9) (d : decode cc pc = .ok (.invokevirtual 123, 3)) (hq : pc + 3 = q) (hd1 : 11 + 1 ≤ d0) (hd2 : 8 + (2 + 11) + 100 * 11 ≤ 100 * d0) (hr : (rest.map fun v => v.category).sum ≤ 8) {B : Type} {f : Int32 × ST → Option B} {r : B} (hs : Bd (C_X3_readKinds s) f = some r) (k : ∀ y, f y = some r → WG (KC D cA cL h Z) p l e (rmD d0) st m args below meth c Q nL y.2 q lv (.int y.1 :: rest)) : WG (KC D cA cL h Z) p l e (rmD d0) st m args below meth c Q nL s pc lv (.ref (h 54) :: rest) := by
  obtain ⟨v, hv, hs⟩ := Bd_e hs
  exact cVN_I (K := KC D cA cL h Z) X 54 (n := 0) (k_X3_readKinds hZ l D cA cL s hv) (gt_c (gt_of 675 (by decide +kernel) rfl) gt_t) (hZ.1 st st.heap X.2.2.2 _ wX3_readKinds_X9) (gt_of 203 (by decide +kernel) rfl) (gt_of 674 (by decide +kernel) rfl) (gt_of 16 (by decide +kernel) rfl) ⟨hd1, hd2⟩ ⟨by decide, by decide, by decide +kernel⟩ (As := []) rfl hr (sh_54).1 (fs := cF3 h 54 (s.1 54) (s.2 54)) (GC_3 (cA := cA) (cL := cL) sh_54 _ _) rfl rfl d hq (k _ hs)
theorem wX3_readLaw_X9 : Cond.methodLinkNest RX9 127 yX3_readLaw "StormSeeds" ∈ NW := nw_of 810 (by decide +kernel) rfl
theorem vc_X3_readLaw_X9 {p : Program} {l : Launch} {e : Env} {st : State} {m : MethodId} {args : Array Value} {below : List Frame} {meth : Method} {c : Code} {Q : State → Prop} {nL : Nat} {cc : ByteArray} {s : ST} {pc q : Nat} {lv : List (Nat × Value)} {rest : List Value} {D : va_G} {cA cL : ClassId} {h : Nat → Nat} {Z : State → Heap → Prop} {sa : Nat → Nat} (hZ : ZK h Z sa) {d0 : Nat} (X : Cx (KC D cA cL h Z) p st m args meth c cc nL RX9) (d : decode cc pc = .ok (.invokevirtual 127, 3)) (hq : pc + 3 = q) (hd1 : 46 + 1 ≤ d0) (hd2 : 8 + (6 + 11) + 100 * 46 ≤ 100 * d0) (hr : (rest.map fun v => v.category).sum ≤ 8) {B : Type} {f : Int32 × ST → Option B} {r : B} (hs : Bd (C_X3_readLaw s) f = some r) (k : ∀ y, f y = some r → WG (KC D cA cL h Z) p l e (rmD d0) st m args below meth c Q nL y.2 q lv (.int y.1 :: rest)) : WG (KC D cA cL h Z) p l e (rmD d0) st m args below meth c Q nL s pc lv (.ref (h 54) :: rest) := by
  obtain ⟨v, hv, hs⟩ := Bd_e hs
  exact cVN_I (K := KC D cA cL h Z) X 54 (n := 0) (k_X3_readLaw hZ l D cA cL s hv) (gt_c (gt_of 813 (by decide +kernel) rfl) gt_t) (hZ.1 st st.heap X.2.2.2 _ wX3_readLaw_X9) (gt_of 203 (by decide +kernel) rfl) (gt_of 812 (by decide +kernel) rfl) (gt_of 35 (by decide +kernel) rfl) ⟨hd1, hd2⟩ ⟨by decide, by decide, by decide +kernel⟩ (As := []) rfl hr (sh_54).1 (fs := cF3 h 54 (s.1 54) (s.2 54)) (GC_3 (cA := cA) (cL := cL) sh_54 _ _) rfl rfl d hq (k _ hs)
theorem wX3_readPlan_X9 : Cond.methodLinkNest RX9 133 yX3_readPlan "StormSeeds" ∈ NW := nw_of 880 (by decide +kernel) rfl
theorem vc_X3_readPlan_X9 {p : Program} {l : Launch} {e : Env} {st : State} {m : MethodId} {args : Array Value} {below : List Frame} {meth : Method} {c : Code} {Q : State → Prop} {nL : Nat} {cc : ByteArray} {s : ST} {pc q : Nat} {lv : List (Nat × Value)} {rest : List Value} {D : va_G} {cA cL : ClassId} {h : Nat → Nat} {Z : State → Heap → Prop} {sa : Nat → Nat} (hZ : ZK h Z sa) {d0 : Nat} (X : Cx (KC D cA cL h Z) p st m args meth c cc nL RX9) (d : decode cc pc = .ok (.invokevirtual 133, 3)) (hq : pc + 3 = q) (hd1 : 12 + 1 ≤ d0) (hd2 : 8 + (2 + 11) + 100 * 12 ≤ 100 * d0) (hr : (rest.map fun v => v.category).sum ≤ 8) {B : Type} {f : Int32 × ST → Option B} {r : B} (hs : Bd (C_X3_readPlan s) f = some r) (k : ∀ y, f y = some r → WG (KC D cA cL h Z) p l e (rmD d0) st m args below meth c Q nL y.2 q lv (.int y.1 :: rest)) : WG (KC D cA cL h Z) p l e (rmD d0) st m args below meth c Q nL s pc lv (.ref (h 54) :: rest) := by
  obtain ⟨v, hv, hs⟩ := Bd_e hs
  exact cVN_I (K := KC D cA cL h Z) X 54 (n := 0) (k_X3_readPlan hZ l D cA cL s hv) (gt_c (gt_of 883 (by decide +kernel) rfl) gt_t) (hZ.1 st st.heap X.2.2.2 _ wX3_readPlan_X9) (gt_of 203 (by decide +kernel) rfl) (gt_of 882 (by decide +kernel) rfl) (gt_of 45 (by decide +kernel) rfl) ⟨hd1, hd2⟩ ⟨by decide, by decide, by decide +kernel⟩ (As := []) rfl hr (sh_54).1 (fs := cF3 h 54 (s.1 54) (s.2 54)) (GC_3 (cA := cA) (cL := cL) sh_54 _ _) rfl rfl d hq (k _ hs)
theorem wX3_readWants_X9 : Cond.methodLinkNest RX9 130 yX3_readWants "StormSeeds" ∈ NW := nw_of 865 (by decide +kernel) rfl
theorem vc_X3_readWants_X9 {p : Program} {l : Launch} {e : Env} {st : State} {m : MethodId} {args : Array Value} {below : List Frame} {meth : Method} {c : Code} {Q : State → Prop} {nL : Nat} {cc : ByteArray} {s : ST} {pc q : Nat} {lv : List (Nat × Value)} {rest : List Value} {D : va_G} {cA cL : ClassId} {h : Nat → Nat} {Z : State → Heap → Prop} {sa : Nat → Nat} (hZ : ZK h Z sa) {d0 : Nat} (X : Cx (KC D cA cL h Z) p st m args meth c cc nL RX9) (d : decode cc pc = .ok (.invokevirtual 130, 3)) (hq : pc + 3 = q) (hd1 : 10 + 1 ≤ d0) (hd2 : 8 + (6 + 11) + 100 * 10 ≤ 100 * d0) (hr : (rest.map fun v => v.category).sum ≤ 8) {B : Type} {f : Int32 × ST → Option B} {r : B} (hs : Bd (C_X3_readWants s) f = some r) (k : ∀ y, f y = some r → WG (KC D cA cL h Z) p l e (rmD d0) st m args below meth c Q nL y.2 q lv (.int y.1 :: rest)) : WG (KC D cA cL h Z) p l e (rmD d0) st m args below meth c Q nL s pc lv (.ref (h 54) :: rest) := by
  obtain ⟨v, hv, hs⟩ := Bd_e hs
  exact cVN_I (K := KC D cA cL h Z) X 54 (n := 0) (k_X3_readWants hZ l D cA cL s hv) (gt_c (gt_of 868 (by decide +kernel) rfl) gt_t) (hZ.1 st st.heap X.2.2.2 _ wX3_readWants_X9) (gt_of 203 (by decide +kernel) rfl) (gt_of 867 (by decide +kernel) rfl) (gt_of 43 (by decide +kernel) rfl) ⟨hd1, hd2⟩ ⟨by decide, by decide, by decide +kernel⟩ (As := []) rfl hr (sh_54).1 (fs := cF3 h 54 (s.1 54) (s.2 54)) (GC_3 (cA := cA) (cL := cL) sh_54 _ _) rfl rfl d hq (k _ hs)
theorem wX5_begin_X9 : Cond.methodLinkNest RX9 121 yX5_begin "StormSeeds" ∈ NW := nw_of 657 (by decide +kernel) rfl
theorem vc_X5_begin_X9 {p : Program} {l : Launch} {e : Env} {st : State} {m : MethodId} {args : Array Value} {below : List Frame} {meth : Method} {c : Code} {Q : State → Prop} {nL : Nat} {cc : ByteArray} {s : ST} {pc q : Nat} {lv : List (Nat × Value)} {rest : List Value} {D : va_G} {cA cL : ClassId} {h : Nat → Nat} {Z : State → Heap → Prop} {sa : Nat → Nat} (hZ : ZK h Z sa) {d0 : Nat} (X : Cx (KC D cA cL h Z) p st m args meth c cc nL RX9) (d : decode cc pc = .ok (.invokevirtual 121, 3)) (hq : pc + 3 = q) (hd1 : 2 + 1 ≤ d0) (hd2 : 8 + (5 + 11) + 100 * 2 ≤ 100 * d0) (hr : (rest.map fun v => v.category).sum ≤ 8) {B : Type} {f : ST → Option B} {r : B} (hs : Bd (C_X5_begin s) f = some r) (k : ∀ y, f y = some r → WG (KC D cA cL h Z) p l e (rmD d0) st m args below meth c Q nL y q lv (rest)) : WG (KC D cA cL h Z) p l e (rmD d0) st m args below meth c Q nL s pc lv (.ref (h 49) :: rest) := by
  obtain ⟨v, hv, hs⟩ := Bd_e hs
  exact cVN_V (K := KC D cA cL h Z) X 49 (n := 0) (k_X5_begin hZ l D cA cL s hv) (gt_c (gt_of 660 (by decide +kernel) rfl) gt_t) (hZ.1 st st.heap X.2.2.2 _ wX5_begin_X9) (gt_of 202 (by decide +kernel) rfl) (gt_of 659 (by decide +kernel) rfl) (gt_of 13 (by decide +kernel) rfl) ⟨hd1, hd2⟩ ⟨by decide, by decide, by decide +kernel⟩ (As := []) rfl hr (sh_49).1 (fs := cF5 h 49 (s.1 49) (s.2 49)) (GC_5 (cA := cA) (cL := cL) sh_49 _ _) rfl rfl d hq (k _ hs)
def C_X9_text (s : ST) (x1 : Int32) : Option (Int32 × ST) := Bd (C_X5_begin s) fun s1 => Lt (fun (a1 : Int32) (s2 : ST) => (Lt (fun (s3 : ST) => (Lt (fun (s4 : ST) => (Lt (ups s4 49 1 (0 : Int32)) fun s5 => some (a1, s5) : Option (Int32 × ST))) fun j3 => if a1 = (-1 : Int32) then (j3 s3) else (Lt (Lt (C_X0_forget s3) fun s6 => j3 s6 : Option (Int32 × ST)) fun j4 => if x1 = 0 then (j4) else (if x1 = (3 : Int32) then (j4) else (j3 s3))) : Option (Int32 × ST))) fun j2 => if a1 = (-1 : Int32) then (j2 s2) else (if x1 = 0 then (Lt (C_X1_clearSeedsAndStorms s2 1) fun s7 => Lt (C_X4_clear s7 19) fun s8 => Lt (C_X4_clear s8 21) fun s9 => j2 s9) else (j2 s2)) : Option (Int32 × ST))) fun j1 => if x1 = 0 then (Bd (C_X3_readKinds s1) fun y4 => j1 y4.1 y4.2) else (if x1 = (1 : Int32) then (Bd (C_X3_readLaw s1) fun y3 => j1 y3.1 y3.2) else (if x1 = (2 : Int32) then (Bd (C_X3_readWants s1) fun y2 => j1 y2.1 y2.2) else (if x1 = (3 : Int32) then (Bd (C_X3_readPlan s1) fun y1 => j1 y1.1 y1.2) else (j1 (-1 : Int32) s1))))
set_option maxRecDepth 100000 in
set_option maxHeartbeats 4000000 in
theorem k_X9_text {h : Nat → Nat} {Z : State → Heap → Prop} {sa : Nat → Nat} (hZ : ZK h Z sa) (l : Launch) (D : va_G) (cA cL : ClassId) (s : ST) (x1 : Int32) {o : Int32 × ST} (hs : C_X9_text s x1 = some o) : MI l (KC D cA cL h Z) 47 yX9_text cX9_text 3 (some .int) s [.ref (h 0), .int x1] o.1 o.2 := by
  refine met_i (by decide) (Nat.le_of_ble_eq_true rfl) ?_
  intro p e st m args below meth c Q X RI
  unfold C_X9_text at hs
  refine g_aload_n X dX9_text_0 (q := 1) rfl 0 rfl ?_
  refine cg_9_7 X dX9_text_1 (q := 4) rfl sh_0 lf_X9_44 ?_
  refine vc_X5_begin_X9 hZ X dX9_text_4 (q := 7) rfl (Nat.le_of_ble_eq_true rfl) (Nat.le_of_ble_eq_true rfl) (Nat.le_of_ble_eq_true rfl) hs (fun s1 hs => ?_)
  refine g_iload_n X dX9_text_7 (q := 8) rfl 1 rfl ?_
  refine jnW2 (fun (a1 : Int32) (s2 : ST) => WG (KC D cA cL h Z) p l e (rmD 47) st m args below meth c Q 3 s2 67 [(0, .ref (h 0)), (1, .int x1)] [.int a1]) hs (fun a1 s2 hs => ?_) (fun j1 ih1 hs => ?_)
  · refine g_istore_n X dX9_text_67 (q := 68) rfl (Nat.le_of_ble_eq_true rfl) (lv' := [(2, .int a1), (0, .ref (h 0)), (1, .int x1)]) rfl ?_
    refine g_iload_n X dX9_text_68 (q := 69) rfl 0 rfl ?_
    refine g_iconst X dX9_text_69 (q := 70) rfl li_im1 ?_
    refine jnW1 (fun (s3 : ST) => WG (KC D cA cL h Z) p l e (rmD 47) st m args below meth c Q 3 s3 104 [(0, .ref (h 0)), (1, .int x1), (2, .int a1)] []) hs (fun s3 hs => ?_) (fun j2 ih2 hs => ?_)
    · refine g_iload_n X dX9_text_104 (q := 105) rfl 2 rfl ?_
      refine g_iconst X dX9_text_105 (q := 106) rfl li_im1 ?_
      refine jnW1 (fun (s4 : ST) => WG (KC D cA cL h Z) p l e (rmD 47) st m args below meth c Q 3 s4 125 [(0, .ref (h 0)), (2, .int a1)] []) hs (fun s4 hs => ?_) (fun j3 ih3 hs => ?_)
      · refine g_aload_n X dX9_text_125 (q := 126) rfl 0 rfl ?_
        refine cg_9_7 X dX9_text_126 (q := 129) rfl sh_0 lf_X9_44 ?_
        refine g_iconst X dX9_text_129 (q := 130) rfl li_i0 ?_
        refine cpN_5_1 hZ X dX9_text_130 (q := 133) rfl sh_49 lf_X9_118 hs (fun s5 hs => ?_)
        refine g_iload_n X dX9_text_133 (q := 134) rfl 1 rfl ?_
        exact RI _ 134 _ _ _ (rU1 hs) rfl (rV1 hs) dX9_text_134
      refine g_icmp_eq X dX9_text_106 (q := 109) rfl (tgt := 125) (by decide) hs ?_ ?_
      · intro hs
        exact wg_sub [0, 2] rfl (ih3 _ hs)
      · intro hs
        refine g_iload_n X dX9_text_109 (q := 110) rfl 1 rfl ?_
        refine jnW0 (WG (KC D cA cL h Z) p l e (rmD 47) st m args below meth c Q 3 s3 118 [(0, .ref (h 0)), (2, .int a1)] []) hs (fun  hs => ?_) (fun j4 ih4 hs => ?_)
        · refine g_aload_n X dX9_text_118 (q := 119) rfl 0 rfl ?_
          refine cg_9_11 X dX9_text_119 (q := 122) rfl sh_0 lf_X9_78 ?_
          refine vc_X0_forget_X9 hZ X dX9_text_122 (q := 125) rfl (Nat.le_of_ble_eq_true rfl) (Nat.le_of_ble_eq_true rfl) (Nat.le_of_ble_eq_true rfl) hs (fun s6 hs => ?_)
          exact wg_sub [0, 1] rfl (ih3 _ hs)
        refine g_if_eq X dX9_text_110 (q := 113) rfl (tgt := 118) (by decide) hs ?_ ?_
        · intro hs
          exact wg_sub [0, 2] rfl (ih4 hs)
        · intro hs
          refine g_iload_n X dX9_text_113 (q := 114) rfl 1 rfl ?_
          refine g_iconst X dX9_text_114 (q := 115) rfl li_i3 ?_
          refine g_icmp_ne X dX9_text_115 (q := 118) rfl (tgt := 125) (by decide) hs ?_ ?_
          · intro hs
            exact wg_sub [0, 2] rfl (ih3 _ hs)
          · intro hs
            exact wg_sub [0, 2] rfl (ih4 hs)
    refine g_icmp_eq X dX9_text_70 (q := 73) rfl (tgt := 104) (by decide) hs ?_ ?_
    · intro hs
      exact wg_sub [1, 2, 0] rfl (ih2 _ hs)
    · intro hs
      refine g_iload_n X dX9_text_73 (q := 74) rfl 2 rfl ?_
      refine g_if_ne X dX9_text_74 (q := 77) rfl (tgt := 104) (by decide) hs ?_ ?_
      · intro hs
        exact wg_sub [1, 2, 0] rfl (ih2 _ hs)
      · intro hs
        refine g_aload_n X dX9_text_77 (q := 78) rfl 1 rfl ?_
        refine cg_9_0 X dX9_text_78 (q := 81) rfl sh_0 lf_X9_12 ?_
        refine vc_X1_clearSeedsAndStorms_X9 hZ X dX9_text_81 (q := 84) rfl sh_1 (Nat.le_of_ble_eq_true rfl) (Nat.le_of_ble_eq_true rfl) (Nat.le_of_ble_eq_true rfl) hs (fun s7 hs => ?_)
        refine g_aload_n X dX9_text_84 (q := 85) rfl 1 rfl ?_
        refine cg_9_1 X dX9_text_85 (q := 88) rfl sh_0 lf_X9_19 ?_
        refine cgN_7_3 hZ X dX9_text_88 (q := 91) rfl sh_8 lf_X9_139 ?_
        refine vc_X4_clear_X9 hZ X dX9_text_91 (q := 94) rfl sh_19 (Nat.le_of_ble_eq_true rfl) (Nat.le_of_ble_eq_true rfl) (Nat.le_of_ble_eq_true rfl) hs (fun s8 hs => ?_)
        refine g_aload_n X dX9_text_94 (q := 95) rfl 1 rfl ?_
        refine cg_9_1 X dX9_text_95 (q := 98) rfl sh_0 lf_X9_19 ?_
        refine cgN_7_4 hZ X dX9_text_98 (q := 101) rfl sh_8 lf_X9_142 ?_
        refine vc_X4_clear_X9 hZ X dX9_text_101 (q := 104) rfl sh_21 (Nat.le_of_ble_eq_true rfl) (Nat.le_of_ble_eq_true rfl) (Nat.le_of_ble_eq_true rfl) hs (fun s9 hs => ?_)
        exact wg_sub [1, 2, 0] rfl (ih2 _ hs)
  refine g_if_ne X dX9_text_8 (q := 11) rfl (tgt := 21) (by decide) hs ?_ ?_
  · intro hs
    refine g_iload_n X dX9_text_21 (q := 22) rfl 1 rfl ?_
    refine g_iconst X dX9_text_22 (q := 23) rfl li_i1 ?_
    refine g_icmp_ne X dX9_text_23 (q := 26) rfl (tgt := 36) (by decide) hs ?_ ?_
    · intro hs
      refine g_iload_n X dX9_text_36 (q := 37) rfl 1 rfl ?_
      refine g_iconst X dX9_text_37 (q := 38) rfl li_i2 ?_
      refine g_icmp_ne X dX9_text_38 (q := 41) rfl (tgt := 51) (by decide) hs ?_ ?_
      · intro hs
        refine g_iload_n X dX9_text_51 (q := 52) rfl 1 rfl ?_
        refine g_iconst X dX9_text_52 (q := 53) rfl li_i3 ?_
        refine g_icmp_ne X dX9_text_53 (q := 56) rfl (tgt := 66) (by decide) hs ?_ ?_
        · intro hs
          refine g_iconst X dX9_text_66 (q := 67) rfl li_im1 ?_
          exact wg_sub [0, 1] rfl (ih1 _ _ hs)
        · intro hs
          refine g_aload_n X dX9_text_56 (q := 57) rfl 0 rfl ?_
          refine cg_9_8 X dX9_text_57 (q := 60) rfl sh_0 lf_X9_53 ?_
          refine vc_X3_readPlan_X9 hZ X dX9_text_60 (q := 63) rfl (Nat.le_of_ble_eq_true rfl) (Nat.le_of_ble_eq_true rfl) (Nat.le_of_ble_eq_true rfl) hs (fun y1 hs => ?_)
          refine g_goto X dX9_text_63 (tgt := 67) (by decide) ?_
          exact wg_sub [0, 1] rfl (ih1 _ _ hs)
      · intro hs
        refine g_aload_n X dX9_text_41 (q := 42) rfl 0 rfl ?_
        refine cg_9_8 X dX9_text_42 (q := 45) rfl sh_0 lf_X9_53 ?_
        refine vc_X3_readWants_X9 hZ X dX9_text_45 (q := 48) rfl (Nat.le_of_ble_eq_true rfl) (Nat.le_of_ble_eq_true rfl) (Nat.le_of_ble_eq_true rfl) hs (fun y2 hs => ?_)
        refine g_goto X dX9_text_48 (tgt := 67) (by decide) ?_
        exact wg_sub [0, 1] rfl (ih1 _ _ hs)
    · intro hs
      refine g_aload_n X dX9_text_26 (q := 27) rfl 0 rfl ?_
      refine cg_9_8 X dX9_text_27 (q := 30) rfl sh_0 lf_X9_53 ?_
      refine vc_X3_readLaw_X9 hZ X dX9_text_30 (q := 33) rfl (Nat.le_of_ble_eq_true rfl) (Nat.le_of_ble_eq_true rfl) (Nat.le_of_ble_eq_true rfl) hs (fun y3 hs => ?_)
      refine g_goto X dX9_text_33 (tgt := 67) (by decide) ?_
      exact wg_sub [0, 1] rfl (ih1 _ _ hs)
  · intro hs
    refine g_aload_n X dX9_text_11 (q := 12) rfl 0 rfl ?_
    refine cg_9_8 X dX9_text_12 (q := 15) rfl sh_0 lf_X9_53 ?_
    refine vc_X3_readKinds_X9 hZ X dX9_text_15 (q := 18) rfl (Nat.le_of_ble_eq_true rfl) (Nat.le_of_ble_eq_true rfl) (Nat.le_of_ble_eq_true rfl) hs (fun y4 hs => ?_)
    refine g_goto X dX9_text_18 (tgt := 67) (by decide) ?_
    exact wg_sub [0, 1] rfl (ih1 _ _ hs)
