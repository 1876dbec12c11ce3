theorem dX10_gustOf_0 : decode cX10_gustOf 0 = .ok (.aload_n 0, 1) := by decide +kernel
theorem dX10_gustOf_1 : decode cX10_gustOf 1 = .ok (.iload_n 1, 1) := by decide +kernel
theorem dX10_gustOf_2 : decode cX10_gustOf 2 = .ok (.iload_n 2, 1) := by decide +kernel
theorem dX10_gustOf_3 : decode cX10_gustOf 3 = .ok (.iload_n 3, 1) := by decide +kernel
theorem dX10_gustOf_4 : decode cX10_gustOf 4 = .ok (.invokevirtual 320, 3) := by decide +kernel
theorem dX10_gustOf_7 : decode cX10_gustOf 7 = .ok (.aload_n 0, 1) := by decide +kernel
theorem dX10_gustOf_8 : decode cX10_gustOf 8 = .ok (.iconst 0, 1) := by decide +kernel
theorem dX10_gustOf_9 : decode cX10_gustOf 9 = .ok (.invokevirtual 324, 3) := by decide +kernel
theorem dX10_gustOf_12 : decode cX10_gustOf 12 = .ok (.istore 4, 2) := by decide +kernel
theorem dX10_gustOf_14 : decode cX10_gustOf 14 = .ok (.aload_n 0, 1) := by decide +kernel
theorem dX10_gustOf_15 : decode cX10_gustOf 15 = .ok (.iload 4, 2) := by decide +kernel
theorem dX10_gustOf_17 : decode cX10_gustOf 17 = .ok (.iconst (-1), 1) := by decide +kernel
theorem dX10_gustOf_18 : decode cX10_gustOf 18 = .ok (.if_icmp .ne 16, 3) := by decide +kernel
theorem dX10_gustOf_21 : decode cX10_gustOf 21 = .ok (.iconst 1, 1) := by decide +kernel
theorem dX10_gustOf_22 : decode cX10_gustOf 22 = .ok (.aload_n 0, 1) := by decide +kernel
theorem dX10_gustOf_23 : decode cX10_gustOf 23 = .ok (.getfield 71, 3) := by decide +kernel
theorem dX10_gustOf_26 : decode cX10_gustOf 26 = .ok (.iconst 1, 1) := by decide +kernel
theorem dX10_gustOf_27 : decode cX10_gustOf 27 = .ok (.iaload, 1) := by decide +kernel
theorem dX10_gustOf_28 : decode cX10_gustOf 28 = .ok (.iconst 2, 1) := by decide +kernel
theorem dX10_gustOf_29 : decode cX10_gustOf 29 = .ok (.idiv, 1) := by decide +kernel
theorem dX10_gustOf_30 : decode cX10_gustOf 30 = .ok (.iadd, 1) := by decide +kernel
theorem dX10_gustOf_31 : decode cX10_gustOf 31 = .ok (.goto 22, 3) := by decide +kernel
theorem dX10_gustOf_34 : decode cX10_gustOf 34 = .ok (.aload_n 0, 1) := by decide +kernel
theorem dX10_gustOf_35 : decode cX10_gustOf 35 = .ok (.iconst 1, 1) := by decide +kernel
theorem dX10_gustOf_36 : decode cX10_gustOf 36 = .ok (.aload_n 0, 1) := by decide +kernel
theorem dX10_gustOf_37 : decode cX10_gustOf 37 = .ok (.getfield 37, 3) := by decide +kernel
theorem dX10_gustOf_40 : decode cX10_gustOf 40 = .ok (.iload 4, 2) := by decide +kernel
theorem dX10_gustOf_42 : decode cX10_gustOf 42 = .ok (.iaload, 1) := by decide +kernel
theorem dX10_gustOf_43 : decode cX10_gustOf 43 = .ok (.aload_n 0, 1) := by decide +kernel
theorem dX10_gustOf_44 : decode cX10_gustOf 44 = .ok (.getfield 40, 3) := by decide +kernel
theorem dX10_gustOf_47 : decode cX10_gustOf 47 = .ok (.iload 4, 2) := by decide +kernel
theorem dX10_gustOf_49 : decode cX10_gustOf 49 = .ok (.iaload, 1) := by decide +kernel
theorem dX10_gustOf_50 : decode cX10_gustOf 50 = .ok (.invokevirtual 302, 3) := by decide +kernel
theorem dX10_gustOf_53 : decode cX10_gustOf 53 = .ok (.iconst 0, 1) := by decide +kernel
theorem dX10_gustOf_54 : decode cX10_gustOf 54 = .ok (.bipush 9, 2) := by decide +kernel
theorem dX10_gustOf_56 : decode cX10_gustOf 56 = .ok (.invokevirtual 327, 3) := by decide +kernel
theorem dX10_gustOf_59 : decode cX10_gustOf 59 = .ok (.ireturn, 1) := by decide +kernel
def M_gustOf (s : ST) (x1 : Int32) (x2 : Int32) (x3 : Int32) : Option (Int32 × ST) := Bd (M_asks s x1 x2 x3) fun s1 => Bd (M_lineOf s1 (0 : Int32)) fun y1 => Lt (fun (a1 : Int32) (s2 : ST) => (Lt (M_held s2 a1 (0 : Int32) (9 : Int32)) fun y2 => some (y2, s2) : Option (Int32 × ST))) fun j1 => if y1.1 = (-1 : Int32) then (Lt (y1.2.1 20 1) fun y6 => j1 ((1 : Int32) + (y6 / (2 : Int32))) y1.2) else (Gl y1.2 10 48 y1.1 fun y3 => Gl y1.2 11 48 y1.1 fun y4 => Bd (M_runs y1.2 (1 : Int32) y3 y4) fun y5 => j1 y5.1 y5.2)
set_option maxRecDepth 100000 in
set_option maxHeartbeats 4000000 in
theorem k_gustOf (l : Launch) (D : va_G) (cA : ClassId) (h : Nat → Nat) (s : ST) (x1 : Int32) (x2 : Int32) (x3 : Int32) {o : Int32 × ST} (hs : M_gustOf s x1 x2 x3 = some o) : MI l (KM D cA h) 5 yX10_gustOf cX10_gustOf 5 (some .int) s [.ref (h 0), .int x1, .int x2, .int x3] o.1 o.2 := by
  refine met_i (by decide) (Nat.le_of_ble_eq_true rfl) ?_
  intro p e st m args below meth c Q X RI
  unfold M_gustOf at hs
  refine g_aload_n X dX10_gustOf_0 (q := 1) rfl 0 rfl ?_
  refine g_iload_n X dX10_gustOf_1 (q := 2) rfl 1 rfl ?_
  refine g_iload_n X dX10_gustOf_2 (q := 3) rfl 2 rfl ?_
  refine g_iload_n X dX10_gustOf_3 (q := 4) rfl 3 rfl ?_
  refine v_asks X dX10_gustOf_4 (q := 7) rfl (Nat.le_of_ble_eq_true rfl) (Nat.le_of_ble_eq_true rfl) (Nat.le_of_ble_eq_true rfl) hs (fun s1 hs => ?_)
  refine g_aload_n X dX10_gustOf_7 (q := 8) rfl 0 rfl ?_
  refine g_iconst X dX10_gustOf_8 (q := 9) rfl li_i0 ?_
  refine v_lineOf X dX10_gustOf_9 (q := 12) rfl (Nat.le_of_ble_eq_true rfl) (Nat.le_of_ble_eq_true rfl) (Nat.le_of_ble_eq_true rfl) hs (fun y1 hs => ?_)
  refine g_istore X dX10_gustOf_12 (q := 14) rfl (Nat.le_of_ble_eq_true rfl) (lv' := [(4, .int y1.1), (0, .ref (h 0)), (1, .int x1), (2, .int x2), (3, .int x3)]) rfl ?_
  refine g_aload_n X dX10_gustOf_14 (q := 15) rfl 1 rfl ?_
  refine g_iload X dX10_gustOf_15 (q := 17) rfl 0 rfl ?_
  refine g_iconst X dX10_gustOf_17 (q := 18) rfl li_im1 ?_
  refine jnW2 (fun (a1 : Int32) (s2 : ST) => WG (KM D cA h) p l e (rmD 5) st m args below meth c Q 5 s2 53 [] [.int a1, .ref (h 0)]) hs (fun a1 s2 hs => ?_) (fun j1 ih1 hs => ?_)
  · refine g_iconst X dX10_gustOf_53 (q := 54) rfl li_i0 ?_
    refine g_bipush X dX10_gustOf_54 (q := 56) rfl li_b9 ?_
    refine v_held X dX10_gustOf_56 (q := 59) rfl (Nat.le_of_ble_eq_true rfl) (Nat.le_of_ble_eq_true rfl) (Nat.le_of_ble_eq_true rfl) hs (fun y2 hs => ?_)
    exact RI _ 59 _ _ _ (rU1 hs) rfl (rV1 hs) dX10_gustOf_59
  refine g_icmp_ne X dX10_gustOf_18 (q := 21) rfl (tgt := 34) (by decide) hs ?_ ?_
  · intro hs
    refine g_aload_n X dX10_gustOf_34 (q := 35) rfl 1 rfl ?_
    refine g_iconst X dX10_gustOf_35 (q := 36) rfl li_i1 ?_
    refine g_aload_n X dX10_gustOf_36 (q := 37) rfl 1 rfl ?_
    refine mg_20 X dX10_gustOf_37 (q := 40) rfl ?_
    refine g_iload X dX10_gustOf_40 (q := 42) rfl 0 rfl ?_
    refine ma_10 X dX10_gustOf_42 (q := 43) rfl hs (fun y3 hs => ?_)
    refine g_aload_n X dX10_gustOf_43 (q := 44) rfl 1 rfl ?_
    refine mg_21 X dX10_gustOf_44 (q := 47) rfl ?_
    refine g_iload X dX10_gustOf_47 (q := 49) rfl 0 rfl ?_
    refine ma_11 X dX10_gustOf_49 (q := 50) rfl hs (fun y4 hs => ?_)
    refine v_runs X dX10_gustOf_50 (q := 53) rfl (Nat.le_of_ble_eq_true rfl) (Nat.le_of_ble_eq_true rfl) (Nat.le_of_ble_eq_true rfl) hs (fun y5 hs => ?_)
    exact wg_sub [] rfl (ih1 _ _ hs)
  · intro hs
    refine g_iconst X dX10_gustOf_21 (q := 22) rfl li_i1 ?_
    refine g_aload_n X dX10_gustOf_22 (q := 23) rfl 1 rfl ?_
    refine mg_44 X dX10_gustOf_23 (q := 26) rfl ?_
    refine g_iconst X dX10_gustOf_26 (q := 27) rfl li_i1 ?_
    refine mk_20 X dX10_gustOf_27 (q := 28) rfl (j := 1) (by decide) (by decide) hs (fun y6 hs => ?_)
    refine g_iconst X dX10_gustOf_28 (q := 29) rfl li_i2 ?_
    refine g_idiv X dX10_gustOf_29 (q := 30) rfl (by decide) ?_
    refine g_iadd X dX10_gustOf_30 (q := 31) rfl ?_
    refine g_goto X dX10_gustOf_31 (tgt := 53) (by decide) ?_
    exact wg_sub [] rfl (ih1 _ _ hs)
theorem v_gustOf {p : Program} {l : Launch} {e : Env} {st : State} {m : MethodId} {args : Array Value} {below : List Frame} {meth : Method} {c : Code} {Q : State → Prop} {nL : Nat} {cc : ByteArray} {s : ST} {pc q : Nat} {lv : List (Nat × Value)} {rest : List Value} {D : va_G} {cA : ClassId} {h : Nat → Nat} {d0 : Nat} (X : Cx (KM D cA h) p st m args meth c cc nL RX10) {x1 : Int32} {x2 : Int32} {x3 : Int32} (d : decode cc pc = .ok (.invokevirtual 357, 3)) (hq : pc + 3 = q) (hd1 : 5 + 1 ≤ d0) (hd2 : 8 + (5 + 11) + 100 * 5 ≤ 100 * d0) (hr : (rest.map fun v => v.category).sum ≤ 8) {B : Type} {f : Int32 × ST → Option B} {r : B} (hs : Bd (M_gustOf s x1 x2 x3) f = some r) (k : ∀ y, f y = some r → WG (KM D cA h) p l e (rmD d0) st m args below meth c Q nL y.2 q lv (.int y.1 :: rest)) : WG (KM D cA h) p l e (rmD d0) st m args below meth c Q nL s pc lv (.int x3 :: .int x2 :: .int x1 :: .ref (h 0) :: rest) := by
  obtain ⟨v, hv, hs⟩ := Bd_e hs
  exact cV_I X 0 (n := 3) (k_gustOf l D cA h s x1 x2 x3 hv) gv_X10_gustOf ⟨hd1, hd2⟩ ⟨by decide, by decide, by decide +kernel⟩ (As := [.int x1, .int x2, .int x3]) rfl hr (Nat.le_of_ble_eq_true rfl) (fs := mF h (s.1 0)) rfl rfl rfl d hq (k _ hs)
theorem dX10_harmOf_0 : decode cX10_harmOf 0 = .ok (.aload_n 0, 1) := by decide +kernel
theorem dX10_harmOf_1 : decode cX10_harmOf 1 = .ok (.iload_n 1, 1) := by decide +kernel
theorem dX10_harmOf_2 : decode cX10_harmOf 2 = .ok (.invokevirtual 308, 3) := by decide +kernel
theorem dX10_harmOf_5 : decode cX10_harmOf 5 = .ok (.iconst (-1), 1) := by decide +kernel
theorem dX10_harmOf_6 : decode cX10_harmOf 6 = .ok (.if_icmp .ne 5, 3) := by decide +kernel
theorem dX10_harmOf_9 : decode cX10_harmOf 9 = .ok (.iconst 0, 1) := by decide +kernel
theorem dX10_harmOf_10 : decode cX10_harmOf 10 = .ok (.ireturn, 1) := by decide +kernel
theorem dX10_harmOf_11 : decode cX10_harmOf 11 = .ok (.aload_n 0, 1) := by decide +kernel
theorem dX10_harmOf_12 : decode cX10_harmOf 12 = .ok (.aload_n 0, 1) := by decide +kernel
theorem dX10_harmOf_13 : decode cX10_harmOf 13 = .ok (.iload_n 1, 1) := by decide +kernel
theorem dX10_harmOf_14 : decode cX10_harmOf 14 = .ok (.invokevirtual 308, 3) := by decide +kernel
theorem dX10_harmOf_17 : decode cX10_harmOf 17 = .ok (.iload_n 1, 1) := by decide +kernel
theorem dX10_harmOf_18 : decode cX10_harmOf 18 = .ok (.iconst 0, 1) := by decide +kernel
theorem dX10_harmOf_19 : decode cX10_harmOf 19 = .ok (.invokevirtual 320, 3) := by decide +kernel
theorem dX10_harmOf_22 : decode cX10_harmOf 22 = .ok (.aload_n 0, 1) := by decide +kernel
theorem dX10_harmOf_23 : decode cX10_harmOf 23 = .ok (.iconst 1, 1) := by decide +kernel
theorem dX10_harmOf_24 : decode cX10_harmOf 24 = .ok (.invokevirtual 324, 3) := by decide +kernel
theorem dX10_harmOf_27 : decode cX10_harmOf 27 = .ok (.istore_n 2, 1) := by decide +kernel
theorem dX10_harmOf_28 : decode cX10_harmOf 28 = .ok (.aload_n 0, 1) := by decide +kernel
theorem dX10_harmOf_29 : decode cX10_harmOf 29 = .ok (.iload_n 2, 1) := by decide +kernel
theorem dX10_harmOf_30 : decode cX10_harmOf 30 = .ok (.iconst (-1), 1) := by decide +kernel
theorem dX10_harmOf_31 : decode cX10_harmOf 31 = .ok (.if_icmp .ne 13, 3) := by decide +kernel
theorem dX10_harmOf_34 : decode cX10_harmOf 34 = .ok (.aload_n 0, 1) := by decide +kernel
theorem dX10_harmOf_35 : decode cX10_harmOf 35 = .ok (.getfield 71, 3) := by decide +kernel
theorem dX10_harmOf_38 : decode cX10_harmOf 38 = .ok (.bipush 7, 2) := by decide +kernel
theorem dX10_harmOf_40 : decode cX10_harmOf 40 = .ok (.iaload, 1) := by decide +kernel
theorem dX10_harmOf_41 : decode cX10_harmOf 41 = .ok (.goto 20, 3) := by decide +kernel
theorem dX10_harmOf_44 : decode cX10_harmOf 44 = .ok (.aload_n 0, 1) := by decide +kernel
theorem dX10_harmOf_45 : decode cX10_harmOf 45 = .ok (.iconst 1, 1) := by decide +kernel
theorem dX10_harmOf_46 : decode cX10_harmOf 46 = .ok (.aload_n 0, 1) := by decide +kernel
theorem dX10_harmOf_47 : decode cX10_harmOf 47 = .ok (.getfield 37, 3) := by decide +kernel
theorem dX10_harmOf_50 : decode cX10_harmOf 50 = .ok (.iload_n 2, 1) := by decide +kernel
theorem dX10_harmOf_51 : decode cX10_harmOf 51 = .ok (.iaload, 1) := by decide +kernel
theorem dX10_harmOf_52 : decode cX10_harmOf 52 = .ok (.aload_n 0, 1) := by decide +kernel
theorem dX10_harmOf_53 : decode cX10_harmOf 53 = .ok (.getfield 40, 3) := by decide +kernel
theorem dX10_harmOf_56 : decode cX10_harmOf 56 = .ok (.iload_n 2, 1) := by decide +kernel
theorem dX10_harmOf_57 : decode cX10_harmOf 57 = .ok (.iaload, 1) := by decide +kernel
theorem dX10_harmOf_58 : decode cX10_harmOf 58 = .ok (.invokevirtual 302, 3) := by decide +kernel
theorem dX10_harmOf_61 : decode cX10_harmOf 61 = .ok (.iconst 0, 1) := by decide +kernel
theorem dX10_harmOf_62 : decode cX10_harmOf 62 = .ok (.bipush 99, 2) := by decide +kernel
theorem dX10_harmOf_64 : decode cX10_harmOf 64 = .ok (.invokevirtual 327, 3) := by decide +kernel
theorem dX10_harmOf_67 : decode cX10_harmOf 67 = .ok (.ireturn, 1) := by decide +kernel
def M_harmOf (s : ST) (x1 : Int32) : Option (Int32 × ST) := Bd (M_stormOf s x1) fun y1 => if y1 = (-1 : Int32) then (some ((0 : Int32), s)) else (Bd (M_stormOf s x1) fun y2 => Bd (M_asks s y2 x1 (0 : Int32)) fun s1 => Bd (M_lineOf s1 (1 : Int32)) fun y3 => Lt (fun (a1 : Int32) (s2 : ST) => (Lt (M_held s2 a1 (0 : Int32) (99 : Int32)) fun y4 => some (y4, s2) : Option (Int32 × ST))) fun j1 => if y3.1 = (-1 : Int32) then (Lt (y3.2.1 20 7) fun y8 => j1 y8 y3.2) else (Gl y3.2 10 48 y3.1 fun y5 => Gl y3.2 11 48 y3.1 fun y6 => Bd (M_runs y3.2 (1 : Int32) y5 y6) fun y7 => j1 y7.1 y7.2))
set_option maxRecDepth 100000 in
set_option maxHeartbeats 4000000 in
theorem k_harmOf (l : Launch) (D : va_G) (cA : ClassId) (h : Nat → Nat) (s : ST) (x1 : Int32) {o : Int32 × ST} (hs : M_harmOf s x1 = some o) : MI l (KM D cA h) 5 yX10_harmOf cX10_harmOf 3 (some .int) s [.ref (h 0), .int x1] o.1 o.2 := by
  refine met_i (by decide) (Nat.le_of_ble_eq_true rfl) ?_
  intro p e st m args below meth c Q X RI
  unfold M_harmOf at hs
  refine g_aload_n X dX10_harmOf_0 (q := 1) rfl 0 rfl ?_
  refine g_iload_n X dX10_harmOf_1 (q := 2) rfl 1 rfl ?_
  refine v_stormOf X dX10_harmOf_2 (q := 5) rfl (Nat.le_of_ble_eq_true rfl) (Nat.le_of_ble_eq_true rfl) (Nat.le_of_ble_eq_true rfl) hs (fun y1 hs => ?_)
  refine g_iconst X dX10_harmOf_5 (q := 6) rfl li_im1 ?_
  refine g_icmp_ne X dX10_harmOf_6 (q := 9) rfl (tgt := 11) (by decide) hs ?_ ?_
  · intro hs
    refine g_aload_n X dX10_harmOf_11 (q := 12) rfl 0 rfl ?_
    refine g_aload_n X dX10_harmOf_12 (q := 13) rfl 0 rfl ?_
    refine g_iload_n X dX10_harmOf_13 (q := 14) rfl 1 rfl ?_
    refine v_stormOf X dX10_harmOf_14 (q := 17) rfl (Nat.le_of_ble_eq_true rfl) (Nat.le_of_ble_eq_true rfl) (Nat.le_of_ble_eq_true rfl) hs (fun y2 hs => ?_)
    refine g_iload_n X dX10_harmOf_17 (q := 18) rfl 1 rfl ?_
    refine g_iconst X dX10_harmOf_18 (q := 19) rfl li_i0 ?_
    refine v_asks X dX10_harmOf_19 (q := 22) rfl (Nat.le_of_ble_eq_true rfl) (Nat.le_of_ble_eq_true rfl) (Nat.le_of_ble_eq_true rfl) hs (fun s1 hs => ?_)
    refine g_aload_n X dX10_harmOf_22 (q := 23) rfl 0 rfl ?_
    refine g_iconst X dX10_harmOf_23 (q := 24) rfl li_i1 ?_
    refine v_lineOf X dX10_harmOf_24 (q := 27) rfl (Nat.le_of_ble_eq_true rfl) (Nat.le_of_ble_eq_true rfl) (Nat.le_of_ble_eq_true rfl) hs (fun y3 hs => ?_)
    refine g_istore_n X dX10_harmOf_27 (q := 28) rfl (Nat.le_of_ble_eq_true rfl) (lv' := [(2, .int y3.1), (0, .ref (h 0)), (1, .int x1)]) rfl ?_
    refine g_aload_n X dX10_harmOf_28 (q := 29) rfl 1 rfl ?_
    refine g_iload_n X dX10_harmOf_29 (q := 30) rfl 0 rfl ?_
    refine g_iconst X dX10_harmOf_30 (q := 31) rfl li_im1 ?_
    refine jnW2 (fun (a1 : Int32) (s2 : ST) => WG (KM D cA h) p l e (rmD 5) st m args below meth c Q 3 s2 61 [] [.int a1, .ref (h 0)]) hs (fun a1 s2 hs => ?_) (fun j1 ih1 hs => ?_)
    · refine g_iconst X dX10_harmOf_61 (q := 62) rfl li_i0 ?_
      refine g_bipush X dX10_harmOf_62 (q := 64) rfl li_b99 ?_
      refine v_held X dX10_harmOf_64 (q := 67) rfl (Nat.le_of_ble_eq_true rfl) (Nat.le_of_ble_eq_true rfl) (Nat.le_of_ble_eq_true rfl) hs (fun y4 hs => ?_)
      exact RI _ 67 _ _ _ (rU1 hs) rfl (rV1 hs) dX10_harmOf_67
    refine g_icmp_ne X dX10_harmOf_31 (q := 34) rfl (tgt := 44) (by decide) hs ?_ ?_
    · intro hs
      refine g_aload_n X dX10_harmOf_44 (q := 45) rfl 1 rfl ?_
      refine g_iconst X dX10_harmOf_45 (q := 46) rfl li_i1 ?_
      refine g_aload_n X dX10_harmOf_46 (q := 47) rfl 1 rfl ?_
      refine mg_20 X dX10_harmOf_47 (q := 50) rfl ?_
      refine g_iload_n X dX10_harmOf_50 (q := 51) rfl 0 rfl ?_
      refine ma_10 X dX10_harmOf_51 (q := 52) rfl hs (fun y5 hs => ?_)
      refine g_aload_n X dX10_harmOf_52 (q := 53) rfl 1 rfl ?_
      refine mg_21 X dX10_harmOf_53 (q := 56) rfl ?_
      refine g_iload_n X dX10_harmOf_56 (q := 57) rfl 0 rfl ?_
      refine ma_11 X dX10_harmOf_57 (q := 58) rfl hs (fun y6 hs => ?_)
      refine v_runs X dX10_harmOf_58 (q := 61) rfl (Nat.le_of_ble_eq_true rfl) (Nat.le_of_ble_eq_true rfl) (Nat.le_of_ble_eq_true rfl) hs (fun y7 hs => ?_)
      exact wg_sub [] rfl (ih1 _ _ hs)
    · intro hs
      refine g_aload_n X dX10_harmOf_34 (q := 35) rfl 1 rfl ?_
      refine mg_44 X dX10_harmOf_35 (q := 38) rfl ?_
      refine g_bipush X dX10_harmOf_38 (q := 40) rfl li_b7 ?_
      refine mk_20 X dX10_harmOf_40 (q := 41) rfl (j := 7) (by decide) (by decide) hs (fun y8 hs => ?_)
      refine g_goto X dX10_harmOf_41 (tgt := 61) (by decide) ?_
      exact wg_sub [] rfl (ih1 _ _ hs)
  · intro hs
    refine g_iconst X dX10_harmOf_9 (q := 10) rfl li_i0 ?_
    exact RI _ 10 _ _ _ (rU1 hs) rfl (rV1 hs) dX10_harmOf_10
theorem v_harmOf {p : Program} {l : Launch} {e : Env} {st : State} {m : MethodId} {args : Array Value} {below : List Frame} {meth : Method} {c : Code} {Q : State → Prop} {nL : Nat} {cc : ByteArray} {s : ST} {pc q : Nat} {lv : List (Nat × Value)} {rest : List Value} {D : va_G} {cA : ClassId} {h : Nat → Nat} {d0 : Nat} (X : Cx (KM D cA h) p st m args meth c cc nL RX10) {x1 : Int32} (d : decode cc pc = .ok (.invokevirtual 372, 3)) (hq : pc + 3 = q) (hd1 : 5 + 1 ≤ d0) (hd2 : 8 + (3 + 11) + 100 * 5 ≤ 100 * d0) (hr : (rest.map fun v => v.category).sum ≤ 8) {B : Type} {f : Int32 × ST → Option B} {r : B} (hs : Bd (M_harmOf s x1) f = some r) (k : ∀ y, f y = some r → WG (KM D cA h) p l e (rmD d0) st m args below meth c Q nL y.2 q lv (.int y.1 :: rest)) : WG (KM D cA h) p l e (rmD d0) st m args below meth c Q nL s pc lv (.int x1 :: .ref (h 0) :: rest) := by
  obtain ⟨v, hv, hs⟩ := Bd_e hs
  exact cV_I X 0 (n := 1) (k_harmOf l D cA h s x1 hv) gv_X10_harmOf ⟨hd1, hd2⟩ ⟨by decide, by decide, by decide +kernel⟩ (As := [.int x1]) rfl hr (Nat.le_of_ble_eq_true rfl) (fs := mF h (s.1 0)) rfl rfl rfl d hq (k _ hs)
theorem dX10_ofKind_0 : decode cX10_ofKind 0 = .ok (.aload_n 0, 1) := by decide +kernel
theorem dX10_ofKind_1 : decode cX10_ofKind 1 = .ok (.getfield 59, 3) := by decide +kernel
theorem dX10_ofKind_4 : decode cX10_ofKind 4 = .ok (.iconst 3, 1) := by decide +kernel
theorem dX10_ofKind_5 : decode cX10_ofKind 5 = .ok (.iload_n 1, 1) := by decide +kernel
theorem dX10_ofKind_6 : decode cX10_ofKind 6 = .ok (.imul, 1) := by decide +kernel
theorem dX10_ofKind_7 : decode cX10_ofKind 7 = .ok (.iload_n 2, 1) := by decide +kernel
theorem dX10_ofKind_8 : decode cX10_ofKind 8 = .ok (.iadd, 1) := by decide +kernel
theorem dX10_ofKind_9 : decode cX10_ofKind 9 = .ok (.iaload, 1) := by decide +kernel
theorem dX10_ofKind_10 : decode cX10_ofKind 10 = .ok (.ireturn, 1) := by decide +kernel
def M_ofKind (s : ST) (x1 : Int32) (x2 : Int32) : Option (Int32) := Gl s 16 48 (((3 : Int32) * x1) + x2) fun y1 => some y1
set_option maxRecDepth 100000 in
set_option maxHeartbeats 4000000 in
theorem k_ofKind (l : Launch) (D : va_G) (cA : ClassId) (h : Nat → Nat) (s : ST) (x1 : Int32) (x2 : Int32) {o : Int32} (hs : M_ofKind s x1 x2 = some o) : MI l (KM D cA h) 1 yX10_ofKind cX10_ofKind 3 (some .int) s [.ref (h 0), .int x1, .int x2] o s := by
  refine met_i (by decide) (Nat.le_of_ble_eq_true rfl) ?_
  intro p e st m args below meth c Q X RI
  unfold M_ofKind at hs
  refine g_aload_n X dX10_ofKind_0 (q := 1) rfl 0 rfl ?_
  refine mg_35 X dX10_ofKind_1 (q := 4) rfl ?_
  refine g_iconst X dX10_ofKind_4 (q := 5) rfl li_i3 ?_
  refine g_iload_n X dX10_ofKind_5 (q := 6) rfl 1 rfl ?_
  refine g_imul X dX10_ofKind_6 (q := 7) rfl ?_
  refine g_iload_n X dX10_ofKind_7 (q := 8) rfl 2 rfl ?_
  refine g_iadd X dX10_ofKind_8 (q := 9) rfl ?_
  refine ma_16 X dX10_ofKind_9 (q := 10) rfl hs (fun y1 hs => ?_)
  exact RI _ 10 _ _ _ rfl rfl (Option.some.inj hs) dX10_ofKind_10
theorem v_ofKind {p : Program} {l : Launch} {e : Env} {st : State} {m : MethodId} {args : Array Value} {below : List Frame} {meth : Method} {c : Code} {Q : State → Prop} {nL : Nat} {cc : ByteArray} {s : ST} {pc q : Nat} {lv : List (Nat × Value)} {rest : List Value} {D : va_G} {cA : ClassId} {h : Nat → Nat} {d0 : Nat} (X : Cx (KM D cA h) p st m args meth c cc nL RX10) {x1 : Int32} {x2 : Int32} (d : decode cc pc = .ok (.invokevirtual 354, 3)) (hq : pc + 3 = q) (hd1 : 1 + 1 ≤ d0) (hd2 : 8 + (3 + 11) + 100 * 1 ≤ 100 * d0) (hr : (rest.map fun v => v.category).sum ≤ 8) {B : Type} {f : Int32 → Option B} {r : B} (hs : Bd (M_ofKind s x1 x2) f = some r) (k : ∀ y, f y = some r → WG (KM D cA h) p l e (rmD d0) st m args below meth c Q nL s q lv (.int y :: rest)) : WG (KM D cA h) p l e (rmD d0) st m args below meth c Q nL s pc lv (.int x2 :: .int x1 :: .ref (h 0) :: rest) := by
  obtain ⟨v, hv, hs⟩ := Bd_e hs
  exact cV_I X 0 (n := 2) (k_ofKind l D cA h s x1 x2 hv) gv_X10_ofKind ⟨hd1, hd2⟩ ⟨by decide, by decide, by decide +kernel⟩ (As := [.int x1, .int x2]) rfl hr (Nat.le_of_ble_eq_true rfl) (fs := mF h (s.1 0)) rfl rfl rfl d hq (k _ hs)
theorem dX10_crossOf_0 : decode cX10_crossOf 0 = .ok (.iconst 0, 1) := by decide +kernel
theorem dX10_crossOf_1 : decode cX10_crossOf 1 = .ok (.istore_n 3, 1) := by decide +kernel
theorem dX10_crossOf_2 : decode cX10_crossOf 2 = .ok (.iload_n 3, 1) := by decide +kernel
theorem dX10_crossOf_3 : decode cX10_crossOf 3 = .ok (.aload_n 0, 1) := by decide +kernel
theorem dX10_crossOf_4 : decode cX10_crossOf 4 = .ok (.getfield 121, 3) := by decide +kernel
theorem dX10_crossOf_7 : decode cX10_crossOf 7 = .ok (.if_icmp .ge 66, 3) := by decide +kernel
theorem dX10_crossOf_10 : decode cX10_crossOf 10 = .ok (.aload_n 0, 1) := by decide +kernel
theorem dX10_crossOf_11 : decode cX10_crossOf 11 = .ok (.getfield 62, 3) := by decide +kernel
theorem dX10_crossOf_14 : decode cX10_crossOf 14 = .ok (.iconst 3, 1) := by decide +kernel
theorem dX10_crossOf_15 : decode cX10_crossOf 15 = .ok (.iload_n 3, 1) := by decide +kernel
theorem dX10_crossOf_16 : decode cX10_crossOf 16 = .ok (.imul, 1) := by decide +kernel
theorem dX10_crossOf_17 : decode cX10_crossOf 17 = .ok (.iaload, 1) := by decide +kernel
theorem dX10_crossOf_18 : decode cX10_crossOf 18 = .ok (.istore 4, 2) := by decide +kernel
theorem dX10_crossOf_20 : decode cX10_crossOf 20 = .ok (.aload_n 0, 1) := by decide +kernel
theorem dX10_crossOf_21 : decode cX10_crossOf 21 = .ok (.getfield 62, 3) := by decide +kernel
theorem dX10_crossOf_24 : decode cX10_crossOf 24 = .ok (.iconst 3, 1) := by decide +kernel
theorem dX10_crossOf_25 : decode cX10_crossOf 25 = .ok (.iload_n 3, 1) := by decide +kernel
theorem dX10_crossOf_26 : decode cX10_crossOf 26 = .ok (.imul, 1) := by decide +kernel
theorem dX10_crossOf_27 : decode cX10_crossOf 27 = .ok (.iconst 1, 1) := by decide +kernel
theorem dX10_crossOf_28 : decode cX10_crossOf 28 = .ok (.iadd, 1) := by decide +kernel
theorem dX10_crossOf_29 : decode cX10_crossOf 29 = .ok (.iaload, 1) := by decide +kernel
theorem dX10_crossOf_30 : decode cX10_crossOf 30 = .ok (.istore 5, 2) := by decide +kernel
theorem dX10_crossOf_32 : decode cX10_crossOf 32 = .ok (.iload 4, 2) := by decide +kernel
theorem dX10_crossOf_34 : decode cX10_crossOf 34 = .ok (.iload_n 1, 1) := by decide +kernel
theorem dX10_crossOf_35 : decode cX10_crossOf 35 = .ok (.if_icmp .ne 9, 3) := by decide +kernel
theorem dX10_crossOf_38 : decode cX10_crossOf 38 = .ok (.iload 5, 2) := by decide +kernel
theorem dX10_crossOf_40 : decode cX10_crossOf 40 = .ok (.iload_n 2, 1) := by decide +kernel
theorem dX10_crossOf_41 : decode cX10_crossOf 41 = .ok (.if_icmp .eq 15, 3) := by decide +kernel
theorem dX10_crossOf_44 : decode cX10_crossOf 44 = .ok (.iload 4, 2) := by decide +kernel
theorem dX10_crossOf_46 : decode cX10_crossOf 46 = .ok (.iload_n 2, 1) := by decide +kernel
theorem dX10_crossOf_47 : decode cX10_crossOf 47 = .ok (.if_icmp .ne 20, 3) := by decide +kernel
theorem dX10_crossOf_50 : decode cX10_crossOf 50 = .ok (.iload 5, 2) := by decide +kernel
theorem dX10_crossOf_52 : decode cX10_crossOf 52 = .ok (.iload_n 1, 1) := by decide +kernel
theorem dX10_crossOf_53 : decode cX10_crossOf 53 = .ok (.if_icmp .ne 14, 3) := by decide +kernel
theorem dX10_crossOf_56 : decode cX10_crossOf 56 = .ok (.aload_n 0, 1) := by decide +kernel
theorem dX10_crossOf_57 : decode cX10_crossOf 57 = .ok (.getfield 62, 3) := by decide +kernel
theorem dX10_crossOf_60 : decode cX10_crossOf 60 = .ok (.iconst 3, 1) := by decide +kernel
theorem dX10_crossOf_61 : decode cX10_crossOf 61 = .ok (.iload_n 3, 1) := by decide +kernel
theorem dX10_crossOf_62 : decode cX10_crossOf 62 = .ok (.imul, 1) := by decide +kernel
theorem dX10_crossOf_63 : decode cX10_crossOf 63 = .ok (.iconst 2, 1) := by decide +kernel
theorem dX10_crossOf_64 : decode cX10_crossOf 64 = .ok (.iadd, 1) := by decide +kernel
theorem dX10_crossOf_65 : decode cX10_crossOf 65 = .ok (.iaload, 1) := by decide +kernel
theorem dX10_crossOf_66 : decode cX10_crossOf 66 = .ok (.ireturn, 1) := by decide +kernel
theorem dX10_crossOf_67 : decode cX10_crossOf 67 = .ok (.iinc 3 1, 3) := by decide +kernel
theorem dX10_crossOf_70 : decode cX10_crossOf 70 = .ok (.goto (-68), 3) := by decide +kernel
theorem dX10_crossOf_73 : decode cX10_crossOf 73 = .ok (.iconst (-1), 1) := by decide +kernel
theorem dX10_crossOf_74 : decode cX10_crossOf 74 = .ok (.ireturn, 1) := by decide +kernel
def M_crossOf (s : ST) (x1 : Int32) (x2 : Int32) : Option (Int32) := lpK1 (C := Int32) (fun (rec1 : Int32 → Option (Int32)) (a1 : Int32) => if (s.1 0 36) ≤ a1 then (some (-1 : Int32)) else (Gl s 17 60 ((3 : Int32) * a1) fun y1 => Gl s 17 60 (((3 : Int32) * a1) + (1 : Int32)) fun y2 => Lt (Gl s 17 60 (((3 : Int32) * a1) + (2 : Int32)) fun y3 => some y3 : Option (Int32)) fun j1 => Lt (Lt (rec1 (a1 + (1 : Int32)) : Option (Int32)) fun j3 => if y1 = x2 then (if y2 = x1 then (j1) else (j3)) else (j3) : Option (Int32)) fun j2 => if y1 = x1 then (if y2 = x2 then (j1) else (j2)) else (j2))) FU (0 : Int32)
set_option maxRecDepth 100000 in
set_option maxHeartbeats 4000000 in
theorem k_crossOf (l : Launch) (D : va_G) (cA : ClassId) (h : Nat → Nat) (s : ST) (x1 : Int32) (x2 : Int32) {o : Int32} (hs : M_crossOf s x1 x2 = some o) : MI l (KM D cA h) 1 yX10_crossOf cX10_crossOf 6 (some .int) s [.ref (h 0), .int x1, .int x2] o s := by
  refine met_i (by decide) (Nat.le_of_ble_eq_true rfl) ?_
  intro p e st m args below meth c Q X RI
  unfold M_crossOf at hs
  refine g_iconst X dX10_crossOf_0 (q := 1) rfl li_i0 ?_
  refine g_istore_n X dX10_crossOf_1 (q := 2) rfl (Nat.le_of_ble_eq_true rfl) (lv' := [(3, .int (0 : Int32)), (0, .ref (h 0)), (1, .int x1), (2, .int x2)]) rfl ?_
  refine wg_sub [1, 2, 3, 0] rfl (lpW1 (fun (a1 : Int32) => WG (KM D cA h) p l e (rmD 1) st m args below meth c Q 6 s 2 [(0, .ref (h 0)), (1, .int x1), (2, .int x2), (3, .int a1)] []) (fun rec1 ih1 a1 hs => ?_) _ _ hs)
  refine g_iload_n X dX10_crossOf_2 (q := 3) rfl 3 rfl ?_
  refine g_aload_n X dX10_crossOf_3 (q := 4) rfl 0 rfl ?_
  refine mg_36 X dX10_crossOf_4 (q := 7) rfl ?_
  refine g_icmp_ge X dX10_crossOf_7 (q := 10) rfl (tgt := 73) (by decide) hs ?_ ?_
  · intro hs
    refine g_iconst X dX10_crossOf_73 (q := 74) rfl li_im1 ?_
    exact RI _ 74 _ _ _ rfl rfl (Option.some.inj hs) dX10_crossOf_74
  · intro hs
    refine g_aload_n X dX10_crossOf_10 (q := 11) rfl 0 rfl ?_
    refine mg_37 X dX10_crossOf_11 (q := 14) rfl ?_
    refine g_iconst X dX10_crossOf_14 (q := 15) rfl li_i3 ?_
    refine g_iload_n X dX10_crossOf_15 (q := 16) rfl 3 rfl ?_
    refine g_imul X dX10_crossOf_16 (q := 17) rfl ?_
    refine ma_17 X dX10_crossOf_17 (q := 18) rfl hs (fun y1 hs => ?_)
    refine g_istore X dX10_crossOf_18 (q := 20) rfl (Nat.le_of_ble_eq_true rfl) (lv' := [(4, .int y1), (0, .ref (h 0)), (1, .int x1), (2, .int x2), (3, .int a1)]) rfl ?_
    refine g_aload_n X dX10_crossOf_20 (q := 21) rfl 1 rfl ?_
    refine mg_37 X dX10_crossOf_21 (q := 24) rfl ?_
    refine g_iconst X dX10_crossOf_24 (q := 25) rfl li_i3 ?_
    refine g_iload_n X dX10_crossOf_25 (q := 26) rfl 4 rfl ?_
    refine g_imul X dX10_crossOf_26 (q := 27) rfl ?_
    refine g_iconst X dX10_crossOf_27 (q := 28) rfl li_i1 ?_
    refine g_iadd X dX10_crossOf_28 (q := 29) rfl ?_
    refine ma_17 X dX10_crossOf_29 (q := 30) rfl hs (fun y2 hs => ?_)
    refine g_istore X dX10_crossOf_30 (q := 32) rfl (Nat.le_of_ble_eq_true rfl) (lv' := [(5, .int y2), (4, .int y1), (0, .ref (h 0)), (1, .int x1), (2, .int x2), (3, .int a1)]) rfl ?_
    refine g_iload X dX10_crossOf_32 (q := 34) rfl 1 rfl ?_
    refine g_iload_n X dX10_crossOf_34 (q := 35) rfl 3 rfl ?_
    refine jnW0 (WG (KM D cA h) p l e (rmD 1) st m args below meth c Q 6 s 56 [(0, .ref (h 0)), (3, .int a1)] []) hs (fun  hs => ?_) (fun j1 ih2 hs => ?_)
    · refine g_aload_n X dX10_crossOf_56 (q := 57) rfl 0 rfl ?_
      refine mg_37 X dX10_crossOf_57 (q := 60) rfl ?_
      refine g_iconst X dX10_crossOf_60 (q := 61) rfl li_i3 ?_
      refine g_iload_n X dX10_crossOf_61 (q := 62) rfl 1 rfl ?_
      refine g_imul X dX10_crossOf_62 (q := 63) rfl ?_
      refine g_iconst X dX10_crossOf_63 (q := 64) rfl li_i2 ?_
      refine g_iadd X dX10_crossOf_64 (q := 65) rfl ?_
      refine ma_17 X dX10_crossOf_65 (q := 66) rfl hs (fun y3 hs => ?_)
      exact RI _ 66 _ _ _ rfl rfl (Option.some.inj hs) dX10_crossOf_66
    refine jnW0 (WG (KM D cA h) p l e (rmD 1) st m args below meth c Q 6 s 44 [(0, .ref (h 0)), (1, .int x1), (2, .int x2), (3, .int a1), (4, .int y1), (5, .int y2)] []) hs (fun  hs => ?_) (fun j2 ih3 hs => ?_)
    · refine g_iload X dX10_crossOf_44 (q := 46) rfl 4 rfl ?_
      refine g_iload_n X dX10_crossOf_46 (q := 47) rfl 2 rfl ?_
      refine jnW0 (WG (KM D cA h) p l e (rmD 1) st m args below meth c Q 6 s 67 [(0, .ref (h 0)), (1, .int x1), (2, .int x2), (3, .int a1)] []) hs (fun  hs => ?_) (fun j3 ih4 hs => ?_)
      · refine g_iinc X dX10_crossOf_67 (q := 70) rfl 3 rfl (v := (a1 + (1 : Int32))) (congrArg (HAdd.hAdd a1) li_i1) (Nat.le_of_ble_eq_true rfl) (lv' := [(3, .int (a1 + (1 : Int32))), (0, .ref (h 0)), (1, .int x1), (2, .int x2)]) rfl ?_
        refine g_goto X dX10_crossOf_70 (tgt := 2) (by decide) ?_
        exact wg_sub [1, 2, 3, 0] rfl (ih1 _ hs)
      refine g_icmp_ne X dX10_crossOf_47 (q := 50) rfl (tgt := 67) (by decide) hs ?_ ?_
      · intro hs
        exact wg_sub [0, 1, 2, 3] rfl (ih4 hs)
      · intro hs
        refine g_iload X dX10_crossOf_50 (q := 52) rfl 5 rfl ?_
        refine g_iload_n X dX10_crossOf_52 (q := 53) rfl 1 rfl ?_
        refine g_icmp_ne X dX10_crossOf_53 (q := 56) rfl (tgt := 67) (by decide) hs ?_ ?_
        · intro hs
          exact wg_sub [0, 1, 2, 3] rfl (ih4 hs)
        · intro hs
          exact wg_sub [0, 3] rfl (ih2 hs)
    refine g_icmp_ne X dX10_crossOf_35 (q := 38) rfl (tgt := 44) (by decide) hs ?_ ?_
    · intro hs
      exact wg_sub [2, 3, 4, 5, 1, 0] rfl (ih3 hs)
    · intro hs
      refine g_iload X dX10_crossOf_38 (q := 40) rfl 0 rfl ?_
      refine g_iload_n X dX10_crossOf_40 (q := 41) rfl 4 rfl ?_
      refine g_icmp_eq X dX10_crossOf_41 (q := 44) rfl (tgt := 56) (by decide) hs ?_ ?_
      · intro hs
        exact wg_sub [2, 5] rfl (ih2 hs)
      · intro hs
        exact wg_sub [2, 3, 4, 5, 1, 0] rfl (ih3 hs)
theorem v_crossOf {p : Program} {l : Launch} {e : Env} {st : State} {m : MethodId} {args : Array Value} {below : List Frame} {meth : Method} {c : Code} {Q : State → Prop} {nL : Nat} {cc : ByteArray} {s : ST} {pc q : Nat} {lv : List (Nat × Value)} {rest : List Value} {D : va_G} {cA : ClassId} {h : Nat → Nat} {d0 : Nat} (X : Cx (KM D cA h) p st m args meth c cc nL RX10) {x1 : Int32} {x2 : Int32} (d : decode cc pc = .ok (.invokevirtual 360, 3)) (hq : pc + 3 = q) (hd1 : 1 + 1 ≤ d0) (hd2 : 8 + (6 + 11) + 100 * 1 ≤ 100 * d0) (hr : (rest.map fun v => v.category).sum ≤ 8) {B : Type} {f : Int32 → Option B} {r : B} (hs : Bd (M_crossOf s x1 x2) f = some r) (k : ∀ y, f y = some r → WG (KM D cA h) p l e (rmD d0) st m args below meth c Q nL s q lv (.int y :: rest)) : WG (KM D cA h) p l e (rmD d0) st m args below meth c Q nL s pc lv (.int x2 :: .int x1 :: .ref (h 0) :: rest) := by
  obtain ⟨v, hv, hs⟩ := Bd_e hs
  exact cV_I X 0 (n := 2) (k_crossOf l D cA h s x1 x2 hv) gv_X10_crossOf ⟨hd1, hd2⟩ ⟨by decide, by decide, by decide +kernel⟩ (As := [.int x1, .int x2]) rfl hr (Nat.le_of_ble_eq_true rfl) (fs := mF h (s.1 0)) rfl rfl rfl d hq (k _ hs)
theorem dX10_notes_0 : decode cX10_notes 0 = .ok (.aload_n 0, 1) := by decide +kernel
theorem dX10_notes_1 : decode cX10_notes 1 = .ok (.getfield 89, 3) := by decide +kernel
theorem dX10_notes_4 : decode cX10_notes 4 = .ok (.ifCond .ne 15, 3) := by decide +kernel
theorem dX10_notes_7 : decode cX10_notes 7 = .ok (.aload_n 0, 1) := by decide +kernel
theorem dX10_notes_8 : decode cX10_notes 8 = .ok (.getfield 7, 3) := by decide +kernel
theorem dX10_notes_11 : decode cX10_notes 11 = .ok (.iconst 2, 1) := by decide +kernel
theorem dX10_notes_12 : decode cX10_notes 12 = .ok (.iaload, 1) := by decide +kernel
theorem dX10_notes_13 : decode cX10_notes 13 = .ok (.sipush 150, 3) := by decide +kernel
theorem dX10_notes_16 : decode cX10_notes 16 = .ok (.if_icmp .ne 4, 3) := by decide +kernel
theorem dX10_notes_19 : decode cX10_notes 19 = .ok (.return_, 1) := by decide +kernel
theorem dX10_notes_20 : decode cX10_notes 20 = .ok (.iconst 4, 1) := by decide +kernel
theorem dX10_notes_21 : decode cX10_notes 21 = .ok (.aload_n 0, 1) := by decide +kernel
theorem dX10_notes_22 : decode cX10_notes 22 = .ok (.getfield 7, 3) := by decide +kernel
theorem dX10_notes_25 : decode cX10_notes 25 = .ok (.iconst 2, 1) := by decide +kernel
theorem dX10_notes_26 : decode cX10_notes 26 = .ok (.iaload, 1) := by decide +kernel
theorem dX10_notes_27 : decode cX10_notes 27 = .ok (.imul, 1) := by decide +kernel
theorem dX10_notes_28 : decode cX10_notes 28 = .ok (.istore 4, 2) := by decide +kernel
theorem dX10_notes_30 : decode cX10_notes 30 = .ok (.aload_n 0, 1) := by decide +kernel
theorem dX10_notes_31 : decode cX10_notes 31 = .ok (.getfield 22, 3) := by decide +kernel
theorem dX10_notes_34 : decode cX10_notes 34 = .ok (.iload 4, 2) := by decide +kernel
theorem dX10_notes_36 : decode cX10_notes 36 = .ok (.aload_n 0, 1) := by decide +kernel
theorem dX10_notes_37 : decode cX10_notes 37 = .ok (.getfield 7, 3) := by decide +kernel
theorem dX10_notes_40 : decode cX10_notes 40 = .ok (.iconst 0, 1) := by decide +kernel
theorem dX10_notes_41 : decode cX10_notes 41 = .ok (.iaload, 1) := by decide +kernel
theorem dX10_notes_42 : decode cX10_notes 42 = .ok (.iastore, 1) := by decide +kernel
theorem dX10_notes_43 : decode cX10_notes 43 = .ok (.aload_n 0, 1) := by decide +kernel
theorem dX10_notes_44 : decode cX10_notes 44 = .ok (.getfield 22, 3) := by decide +kernel
theorem dX10_notes_47 : decode cX10_notes 47 = .ok (.iload 4, 2) := by decide +kernel
theorem dX10_notes_49 : decode cX10_notes 49 = .ok (.iconst 1, 1) := by decide +kernel
theorem dX10_notes_50 : decode cX10_notes 50 = .ok (.iadd, 1) := by decide +kernel
theorem dX10_notes_51 : decode cX10_notes 51 = .ok (.iload_n 1, 1) := by decide +kernel
theorem dX10_notes_52 : decode cX10_notes 52 = .ok (.iastore, 1) := by decide +kernel
theorem dX10_notes_53 : decode cX10_notes 53 = .ok (.aload_n 0, 1) := by decide +kernel
theorem dX10_notes_54 : decode cX10_notes 54 = .ok (.getfield 22, 3) := by decide +kernel
theorem dX10_notes_57 : decode cX10_notes 57 = .ok (.iload 4, 2) := by decide +kernel
theorem dX10_notes_59 : decode cX10_notes 59 = .ok (.iconst 2, 1) := by decide +kernel
theorem dX10_notes_60 : decode cX10_notes 60 = .ok (.iadd, 1) := by decide +kernel
theorem dX10_notes_61 : decode cX10_notes 61 = .ok (.iload_n 2, 1) := by decide +kernel
theorem dX10_notes_62 : decode cX10_notes 62 = .ok (.iastore, 1) := by decide +kernel
theorem dX10_notes_63 : decode cX10_notes 63 = .ok (.aload_n 0, 1) := by decide +kernel
theorem dX10_notes_64 : decode cX10_notes 64 = .ok (.getfield 22, 3) := by decide +kernel
theorem dX10_notes_67 : decode cX10_notes 67 = .ok (.iload 4, 2) := by decide +kernel
theorem dX10_notes_69 : decode cX10_notes 69 = .ok (.iconst 3, 1) := by decide +kernel
theorem dX10_notes_70 : decode cX10_notes 70 = .ok (.iadd, 1) := by decide +kernel
theorem dX10_notes_71 : decode cX10_notes 71 = .ok (.iload_n 3, 1) := by decide +kernel
theorem dX10_notes_72 : decode cX10_notes 72 = .ok (.iastore, 1) := by decide +kernel
theorem dX10_notes_73 : decode cX10_notes 73 = .ok (.aload_n 0, 1) := by decide +kernel
theorem dX10_notes_74 : decode cX10_notes 74 = .ok (.getfield 7, 3) := by decide +kernel
theorem dX10_notes_77 : decode cX10_notes 77 = .ok (.iconst 2, 1) := by decide +kernel
theorem dX10_notes_78 : decode cX10_notes 78 = .ok (.aload_n 0, 1) := by decide +kernel
theorem dX10_notes_79 : decode cX10_notes 79 = .ok (.getfield 7, 3) := by decide +kernel
theorem dX10_notes_82 : decode cX10_notes 82 = .ok (.iconst 2, 1) := by decide +kernel
theorem dX10_notes_83 : decode cX10_notes 83 = .ok (.iaload, 1) := by decide +kernel
theorem dX10_notes_84 : decode cX10_notes 84 = .ok (.iconst 1, 1) := by decide +kernel
theorem dX10_notes_85 : decode cX10_notes 85 = .ok (.iadd, 1) := by decide +kernel
theorem dX10_notes_86 : decode cX10_notes 86 = .ok (.iastore, 1) := by decide +kernel
theorem dX10_notes_87 : decode cX10_notes 87 = .ok (.return_, 1) := by decide +kernel
def M_notes (s : ST) (x1 : Int32) (x2 : Int32) (x3 : Int32) : Option (ST) := if (s.1 0 5) = 0 then (Lt (s.1 1 2) fun y1 => if y1 = (150 : Int32) then (some s) else (Lt (s.1 1 2) fun y2 => Lt (((4 : Int32) * y2)) fun y3 => Lt (s.1 1 0) fun y4 => Gs s 5 600 y3 y4 fun s1 => Gs s1 5 600 (y3 + (1 : Int32)) x1 fun s2 => Gs s2 5 600 (y3 + (2 : Int32)) x2 fun s3 => Gs s3 5 600 (y3 + (3 : Int32)) x3 fun s4 => Lt (s4.1 1 2) fun y5 => Lt (ups s4 1 2 (y5 + (1 : Int32))) fun s5 => some s5)) else (some s)
set_option maxRecDepth 100000 in
set_option maxHeartbeats 4000000 in
theorem k_notes (l : Launch) (D : va_G) (cA : ClassId) (h : Nat → Nat) (s : ST) (x1 : Int32) (x2 : Int32) (x3 : Int32) {o : ST} (hs : M_notes s x1 x2 x3 = some o) : MV l (KM D cA h) 1 yX10_notes cX10_notes 5 none s [.ref (h 0), .int x1, .int x2, .int x3] o := by
  refine met_v (by decide) (Nat.le_of_ble_eq_true rfl) ?_
  intro p e st m args below meth c Q X RI
  unfold M_notes at hs
  refine g_aload_n X dX10_notes_0 (q := 1) rfl 0 rfl ?_
  refine mg_5 X dX10_notes_1 (q := 4) rfl ?_
  refine g_if_ne X dX10_notes_4 (q := 7) rfl (tgt := 19) (by decide) hs ?_ ?_
  · intro hs
    exact RI _ 19 _ (Option.some.inj hs) dX10_notes_19
  · intro hs
    refine g_aload_n X dX10_notes_7 (q := 8) rfl 0 rfl ?_
    refine mg_1 X dX10_notes_8 (q := 11) rfl ?_
    refine g_iconst X dX10_notes_11 (q := 12) rfl li_i2 ?_
    refine mk_1 X dX10_notes_12 (q := 13) rfl (j := 2) (by decide) (by decide) hs (fun y1 hs => ?_)
    refine g_sipush X dX10_notes_13 (q := 16) rfl li_s150 ?_
    refine g_icmp_ne X dX10_notes_16 (q := 19) rfl (tgt := 20) (by decide) hs ?_ ?_
    · intro hs
      refine g_iconst X dX10_notes_20 (q := 21) rfl li_i4 ?_
      refine g_aload_n X dX10_notes_21 (q := 22) rfl 0 rfl ?_
      refine mg_1 X dX10_notes_22 (q := 25) rfl ?_
      refine g_iconst X dX10_notes_25 (q := 26) rfl li_i2 ?_
      refine mk_1 X dX10_notes_26 (q := 27) rfl (j := 2) (by decide) (by decide) hs (fun y2 hs => ?_)
      refine g_imul X dX10_notes_27 (q := 28) rfl ?_
      refine nmI hs (fun y3 hs => ?_)
      refine g_istore X dX10_notes_28 (q := 30) rfl (Nat.le_of_ble_eq_true rfl) (lv' := [(4, .int y3), (0, .ref (h 0)), (1, .int x1), (2, .int x2), (3, .int x3)]) rfl ?_
      refine g_aload_n X dX10_notes_30 (q := 31) rfl 1 rfl ?_
      refine mg_10 X dX10_notes_31 (q := 34) rfl ?_
      refine g_iload X dX10_notes_34 (q := 36) rfl 0 rfl ?_
      refine g_aload_n X dX10_notes_36 (q := 37) rfl 1 rfl ?_
      refine mg_1 X dX10_notes_37 (q := 40) rfl ?_
      refine g_iconst X dX10_notes_40 (q := 41) rfl li_i0 ?_
      refine mk_1 X dX10_notes_41 (q := 42) rfl (j := 0) (by decide) (by decide) hs (fun y4 hs => ?_)
      refine ms_5 X dX10_notes_42 (q := 43) rfl hs (fun s1 hs => ?_)
      refine g_aload_n X dX10_notes_43 (q := 44) rfl 1 rfl ?_
      refine mg_10 X dX10_notes_44 (q := 47) rfl ?_
      refine g_iload X dX10_notes_47 (q := 49) rfl 0 rfl ?_
      refine g_iconst X dX10_notes_49 (q := 50) rfl li_i1 ?_
      refine g_iadd X dX10_notes_50 (q := 51) rfl ?_
      refine g_iload_n X dX10_notes_51 (q := 52) rfl 2 rfl ?_
      refine ms_5 X dX10_notes_52 (q := 53) rfl hs (fun s2 hs => ?_)
      refine g_aload_n X dX10_notes_53 (q := 54) rfl 1 rfl ?_
      refine mg_10 X dX10_notes_54 (q := 57) rfl ?_
      refine g_iload X dX10_notes_57 (q := 59) rfl 0 rfl ?_
      refine g_iconst X dX10_notes_59 (q := 60) rfl li_i2 ?_
      refine g_iadd X dX10_notes_60 (q := 61) rfl ?_
      refine g_iload_n X dX10_notes_61 (q := 62) rfl 3 rfl ?_
      refine ms_5 X dX10_notes_62 (q := 63) rfl hs (fun s3 hs => ?_)
      refine g_aload_n X dX10_notes_63 (q := 64) rfl 1 rfl ?_
      refine mg_10 X dX10_notes_64 (q := 67) rfl ?_
      refine g_iload X dX10_notes_67 (q := 69) rfl 0 rfl ?_
      refine g_iconst X dX10_notes_69 (q := 70) rfl li_i3 ?_
      refine g_iadd X dX10_notes_70 (q := 71) rfl ?_
      refine g_iload_n X dX10_notes_71 (q := 72) rfl 4 rfl ?_
      refine ms_5 X dX10_notes_72 (q := 73) rfl hs (fun s4 hs => ?_)
      refine g_aload_n X dX10_notes_73 (q := 74) rfl 1 rfl ?_
      refine mg_1 X dX10_notes_74 (q := 77) rfl ?_
      refine g_iconst X dX10_notes_77 (q := 78) rfl li_i2 ?_
      refine g_aload_n X dX10_notes_78 (q := 79) rfl 1 rfl ?_
      refine mg_1 X dX10_notes_79 (q := 82) rfl ?_
      refine g_iconst X dX10_notes_82 (q := 83) rfl li_i2 ?_
      refine mk_1 X dX10_notes_83 (q := 84) rfl (j := 2) (by decide) (by decide) hs (fun y5 hs => ?_)
      refine g_iconst X dX10_notes_84 (q := 85) rfl li_i1 ?_
      refine g_iadd X dX10_notes_85 (q := 86) rfl ?_
      refine msk_1 X dX10_notes_86 (q := 87) rfl (j := 2) (by decide) (by decide) hs (fun s5 hs => ?_)
      exact RI _ 87 _ (Option.some.inj hs) dX10_notes_87
    · intro hs
      exact RI _ 19 _ (Option.some.inj hs) dX10_notes_19
theorem v_notes {p : Program} {l : Launch} {e : Env} {st : State} {m : MethodId} {args : Array Value} {below : List Frame} {meth : Method} {c : Code} {Q : State → Prop} {nL : Nat} {cc : ByteArray} {s : ST} {pc q : Nat} {lv : List (Nat × Value)} {rest : List Value} {D : va_G} {cA : ClassId} {h : Nat → Nat} {d0 : Nat} (X : Cx (KM D cA h) p st m args meth c cc nL RX10) {x1 : Int32} {x2 : Int32} {x3 : Int32} (d : decode cc pc = .ok (.invokevirtual 330, 3)) (hq : pc + 3 = q) (hd1 : 1 + 1 ≤ d0) (hd2 : 8 + (5 + 11) + 100 * 1 ≤ 100 * d0) (hr : (rest.map fun v => v.category).sum ≤ 8) {B : Type} {f : ST → Option B} {r : B} (hs : Bd (M_notes s x1 x2 x3) f = some r) (k : ∀ y, f y = some r → WG (KM D cA h) p l e (rmD d0) st m args below meth c Q nL y q lv (rest)) : WG (KM D cA h) p l e (rmD d0) st m args below meth c Q nL s pc lv (.int x3 :: .int x2 :: .int x1 :: .ref (h 0) :: rest) := by
  obtain ⟨v, hv, hs⟩ := Bd_e hs
  exact cV_V X 0 (n := 3) (k_notes l D cA h s x1 x2 x3 hv) gv_X10_notes ⟨hd1, hd2⟩ ⟨by decide, by decide, by decide +kernel⟩ (As := [.int x1, .int x2, .int x3]) rfl hr (Nat.le_of_ble_eq_true rfl) (fs := mF h (s.1 0)) rfl rfl rfl d hq (k _ hs)
theorem dX10_canSow_0 : decode cX10_canSow 0 = .ok (.aload_n 0, 1) := by decide +kernel
theorem dX10_canSow_1 : decode cX10_canSow 1 = .ok (.iload_n 1, 1) := by decide +kernel
theorem dX10_canSow_2 : decode cX10_canSow 2 = .ok (.invokevirtual 130, 3) := by decide +kernel
theorem dX10_canSow_5 : decode cX10_canSow 5 = .ok (.ifCond .eq 25, 3) := by decide +kernel
theorem dX10_canSow_8 : decode cX10_canSow 8 = .ok (.aload_n 0, 1) := by decide +kernel
theorem dX10_canSow_9 : decode cX10_canSow 9 = .ok (.iload_n 1, 1) := by decide +kernel
theorem dX10_canSow_10 : decode cX10_canSow 10 = .ok (.invokevirtual 134, 3) := by decide +kernel
theorem dX10_canSow_13 : decode cX10_canSow 13 = .ok (.iconst (-1), 1) := by decide +kernel
theorem dX10_canSow_14 : decode cX10_canSow 14 = .ok (.if_icmp .ne 16, 3) := by decide +kernel
theorem dX10_canSow_17 : decode cX10_canSow 17 = .ok (.aload_n 0, 1) := by decide +kernel
theorem dX10_canSow_18 : decode cX10_canSow 18 = .ok (.getfield 19, 3) := by decide +kernel
theorem dX10_canSow_21 : decode cX10_canSow 21 = .ok (.iload_n 1, 1) := by decide +kernel
theorem dX10_canSow_22 : decode cX10_canSow 22 = .ok (.iaload, 1) := by decide +kernel
theorem dX10_canSow_23 : decode cX10_canSow 23 = .ok (.ifCond .ne 7, 3) := by decide +kernel
theorem dX10_canSow_26 : decode cX10_canSow 26 = .ok (.iconst 1, 1) := by decide +kernel
theorem dX10_canSow_27 : decode cX10_canSow 27 = .ok (.goto 4, 3) := by decide +kernel
theorem dX10_canSow_30 : decode cX10_canSow 30 = .ok (.iconst 0, 1) := by decide +kernel
theorem dX10_canSow_31 : decode cX10_canSow 31 = .ok (.ireturn, 1) := by decide +kernel
def M_canSow (s : ST) (x1 : Int32) : Option (Int32) := Lt (M_isCell s x1) fun y1 => if y1 = 0 then (some (0 : Int32)) else (Bd (M_seedOf s x1) fun y2 => if y2 = (-1 : Int32) then (Gl s 4 64 x1 fun y3 => if y3 = 0 then (some (1 : Int32)) else (some (0 : Int32))) else (some (0 : Int32)))
set_option maxRecDepth 100000 in
set_option maxHeartbeats 4000000 in
theorem k_canSow (l : Launch) (D : va_G) (cA : ClassId) (h : Nat → Nat) (s : ST) (x1 : Int32) {o : Int32} (hs : M_canSow s x1 = some o) : MI l (KM D cA h) 3 yX10_canSow cX10_canSow 2 (some .boolean) s [.ref (h 0), .int x1] o s := by
  refine met_i (by decide) (Nat.le_of_ble_eq_true rfl) ?_
  intro p e st m args below meth c Q X RI
  unfold M_canSow at hs
  refine g_aload_n X dX10_canSow_0 (q := 1) rfl 0 rfl ?_
  refine g_iload_n X dX10_canSow_1 (q := 2) rfl 1 rfl ?_
  refine v_isCell X dX10_canSow_2 (q := 5) rfl (Nat.le_of_ble_eq_true rfl) (Nat.le_of_ble_eq_true rfl) (Nat.le_of_ble_eq_true rfl) hs (fun y1 hs => ?_)
  refine g_if_eq X dX10_canSow_5 (q := 8) rfl (tgt := 30) (by decide) hs ?_ ?_
  · intro hs
    refine g_iconst X dX10_canSow_30 (q := 31) rfl li_i0 ?_
    exact RI _ 31 _ _ _ rfl rfl (Option.some.inj hs) dX10_canSow_31
  · intro hs
    refine g_aload_n X dX10_canSow_8 (q := 9) rfl 0 rfl ?_
    refine g_iload_n X dX10_canSow_9 (q := 10) rfl 1 rfl ?_
    refine v_seedOf X dX10_canSow_10 (q := 13) rfl (Nat.le_of_ble_eq_true rfl) (Nat.le_of_ble_eq_true rfl) (Nat.le_of_ble_eq_true rfl) hs (fun y2 hs => ?_)
    refine g_iconst X dX10_canSow_13 (q := 14) rfl li_im1 ?_
    refine g_icmp_ne X dX10_canSow_14 (q := 17) rfl (tgt := 30) (by decide) hs ?_ ?_
    · intro hs
      refine g_iconst X dX10_canSow_30 (q := 31) rfl li_i0 ?_
      exact RI _ 31 _ _ _ rfl rfl (Option.some.inj hs) dX10_canSow_31
    · intro hs
      refine g_aload_n X dX10_canSow_17 (q := 18) rfl 0 rfl ?_
      refine mg_9 X dX10_canSow_18 (q := 21) rfl ?_
      refine g_iload_n X dX10_canSow_21 (q := 22) rfl 1 rfl ?_
      refine ma_4 X dX10_canSow_22 (q := 23) rfl hs (fun y3 hs => ?_)
      refine g_if_ne X dX10_canSow_23 (q := 26) rfl (tgt := 30) (by decide) hs ?_ ?_
      · intro hs
        refine g_iconst X dX10_canSow_30 (q := 31) rfl li_i0 ?_
        exact RI _ 31 _ _ _ rfl rfl (Option.some.inj hs) dX10_canSow_31
      · intro hs
        refine g_iconst X dX10_canSow_26 (q := 27) rfl li_i1 ?_
        refine g_goto X dX10_canSow_27 (tgt := 31) (by decide) ?_
        exact RI _ 31 _ _ _ rfl rfl (Option.some.inj hs) dX10_canSow_31
theorem v_canSow {p : Program} {l : Launch} {e : Env} {st : State} {m : MethodId} {args : Array Value} {below : List Frame} {meth : Method} {c : Code} {Q : State → Prop} {nL : Nat} {cc : ByteArray} {s : ST} {pc q : Nat} {lv : List (Nat × Value)} {rest : List Value} {D : va_G} {cA : ClassId} {h : Nat → Nat} {d0 : Nat} (X : Cx (KM D cA h) p st m args meth c cc nL RX10) {x1 : Int32} (d : decode cc pc = .ok (.invokevirtual 333, 3)) (hq : pc + 3 = q) (hd1 : 3 + 1 ≤ d0) (hd2 : 8 + (2 + 11) + 100 * 3 ≤ 100 * d0) (hr : (rest.map fun v => v.category).sum ≤ 8) {B : Type} {f : Int32 → Option B} {r : B} (hs : Bd (M_canSow s x1) f = some r) (k : ∀ y, f y = some r → WG (KM D cA h) p l e (rmD d0) st m args below meth c Q nL s q lv (.int y :: rest)) : WG (KM D cA h) p l e (rmD d0) st m args below meth c Q nL s pc lv (.int x1 :: .ref (h 0) :: rest) := by
  obtain ⟨v, hv, hs⟩ := Bd_e hs
  exact cV_I X 0 (n := 1) (k_canSow l D cA h s x1 hv) gv_X10_canSow ⟨hd1, hd2⟩ ⟨by decide, by decide, by decide +kernel⟩ (As := [.int x1]) rfl hr (Nat.le_of_ble_eq_true rfl) (fs := mF h (s.1 0)) rfl rfl rfl d hq (k _ hs)
theorem dX10_falls_0 : decode cX10_falls 0 = .ok (.aload_n 0, 1) := by decide +kernel
theorem dX10_falls_1 : decode cX10_falls 1 = .ok (.getfield 7, 3) := by decide +kernel
theorem dX10_falls_4 : decode cX10_falls 4 = .ok (.bipush 69, 2) := by decide +kernel
theorem dX10_falls_6 : decode cX10_falls 6 = .ok (.iload_n 2, 1) := by decide +kernel
theorem dX10_falls_7 : decode cX10_falls 7 = .ok (.iadd, 1) := by decide +kernel
theorem dX10_falls_8 : decode cX10_falls 8 = .ok (.iload_n 1, 1) := by decide +kernel
theorem dX10_falls_9 : decode cX10_falls 9 = .ok (.iconst 1, 1) := by decide +kernel
theorem dX10_falls_10 : decode cX10_falls 10 = .ok (.iadd, 1) := by decide +kernel
theorem dX10_falls_11 : decode cX10_falls 11 = .ok (.iastore, 1) := by decide +kernel
theorem dX10_falls_12 : decode cX10_falls 12 = .ok (.aload_n 0, 1) := by decide +kernel
theorem dX10_falls_13 : decode cX10_falls 13 = .ok (.getfield 7, 3) := by decide +kernel
theorem dX10_falls_16 : decode cX10_falls 16 = .ok (.sipush 133, 3) := by decide +kernel
theorem dX10_falls_19 : decode cX10_falls 19 = .ok (.iload_n 2, 1) := by decide +kernel
theorem dX10_falls_20 : decode cX10_falls 20 = .ok (.iadd, 1) := by decide +kernel
theorem dX10_falls_21 : decode cX10_falls 21 = .ok (.aload_n 0, 1) := by decide +kernel
theorem dX10_falls_22 : decode cX10_falls 22 = .ok (.getfield 7, 3) := by decide +kernel
theorem dX10_falls_25 : decode cX10_falls 25 = .ok (.iconst 0, 1) := by decide +kernel
theorem dX10_falls_26 : decode cX10_falls 26 = .ok (.iaload, 1) := by decide +kernel
theorem dX10_falls_27 : decode cX10_falls 27 = .ok (.iastore, 1) := by decide +kernel
theorem dX10_falls_28 : decode cX10_falls 28 = .ok (.aload_n 0, 1) := by decide +kernel
theorem dX10_falls_29 : decode cX10_falls 29 = .ok (.iload_n 3, 1) := by decide +kernel
theorem dX10_falls_30 : decode cX10_falls 30 = .ok (.iload_n 2, 1) := by decide +kernel
theorem dX10_falls_31 : decode cX10_falls 31 = .ok (.iload_n 1, 1) := by decide +kernel
theorem dX10_falls_32 : decode cX10_falls 32 = .ok (.invokevirtual 330, 3) := by decide +kernel
theorem dX10_falls_35 : decode cX10_falls 35 = .ok (.return_, 1) := by decide +kernel
def M_falls (s : ST) (x1 : Int32) (x2 : Int32) (x3 : Int32) : Option (ST) := Gs s 1 389 ((69 : Int32) + x2) (x1 + (1 : Int32)) fun s1 => Lt (s1.1 1 0) fun y1 => Gs s1 1 389 ((133 : Int32) + x2) y1 fun s2 => Bd (M_notes s2 x3 x2 x1) fun s3 => some s3
set_option maxRecDepth 100000 in
set_option maxHeartbeats 4000000 in
theorem k_falls (l : Launch) (D : va_G) (cA : ClassId) (h : Nat → Nat) (s : ST) (x1 : Int32) (x2 : Int32) (x3 : Int32) {o : ST} (hs : M_falls s x1 x2 x3 = some o) : MV l (KM D cA h) 2 yX10_falls cX10_falls 4 none s [.ref (h 0), .int x1, .int x2, .int x3] o := by
  refine met_v (by decide) (Nat.le_of_ble_eq_true rfl) ?_
  intro p e st m args below meth c Q X RI
  unfold M_falls at hs
  refine g_aload_n X dX10_falls_0 (q := 1) rfl 0 rfl ?_
  refine mg_1 X dX10_falls_1 (q := 4) rfl ?_
  refine g_bipush X dX10_falls_4 (q := 6) rfl li_b69 ?_
  refine g_iload_n X dX10_falls_6 (q := 7) rfl 2 rfl ?_
  refine g_iadd X dX10_falls_7 (q := 8) rfl ?_
  refine g_iload_n X dX10_falls_8 (q := 9) rfl 1 rfl ?_
  refine g_iconst X dX10_falls_9 (q := 10) rfl li_i1 ?_
  refine g_iadd X dX10_falls_10 (q := 11) rfl ?_
  refine ms_1 X dX10_falls_11 (q := 12) rfl hs (fun s1 hs => ?_)
  refine g_aload_n X dX10_falls_12 (q := 13) rfl 0 rfl ?_
  refine mg_1 X dX10_falls_13 (q := 16) rfl ?_
  refine g_sipush X dX10_falls_16 (q := 19) rfl li_s133 ?_
  refine g_iload_n X dX10_falls_19 (q := 20) rfl 2 rfl ?_
  refine g_iadd X dX10_falls_20 (q := 21) rfl ?_
  refine g_aload_n X dX10_falls_21 (q := 22) rfl 0 rfl ?_
  refine mg_1 X dX10_falls_22 (q := 25) rfl ?_
  refine g_iconst X dX10_falls_25 (q := 26) rfl li_i0 ?_
  refine mk_1 X dX10_falls_26 (q := 27) rfl (j := 0) (by decide) (by decide) hs (fun y1 hs => ?_)
  refine ms_1 X dX10_falls_27 (q := 28) rfl hs (fun s2 hs => ?_)
  refine g_aload_n X dX10_falls_28 (q := 29) rfl 0 rfl ?_
  refine g_iload_n X dX10_falls_29 (q := 30) rfl 3 rfl ?_
  refine g_iload_n X dX10_falls_30 (q := 31) rfl 2 rfl ?_
  refine g_iload_n X dX10_falls_31 (q := 32) rfl 1 rfl ?_
  refine v_notes X dX10_falls_32 (q := 35) rfl (Nat.le_of_ble_eq_true rfl) (Nat.le_of_ble_eq_true rfl) (Nat.le_of_ble_eq_true rfl) hs (fun s3 hs => ?_)
  exact RI _ 35 _ (Option.some.inj hs) dX10_falls_35
theorem v_falls {p : Program} {l : Launch} {e : Env} {st : State} {m : MethodId} {args : Array Value} {below : List Frame} {meth : Method} {c : Code} {Q : State → Prop} {nL : Nat} {cc : ByteArray} {s : ST} {pc q : Nat} {lv : List (Nat × Value)} {rest : List Value} {D : va_G} {cA : ClassId} {h : Nat → Nat} {d0 : Nat} (X : Cx (KM D cA h) p st m args meth c cc nL RX10) {x1 : Int32} {x2 : Int32} {x3 : Int32} (d : decode cc pc = .ok (.invokevirtual 339, 3)) (hq : pc + 3 = q) (hd1 : 2 + 1 ≤ d0) (hd2 : 8 + (4 + 11) + 100 * 2 ≤ 100 * d0) (hr : (rest.map fun v => v.category).sum ≤ 8) {B : Type} {f : ST → Option B} {r : B} (hs : Bd (M_falls s x1 x2 x3) f = some r) (k : ∀ y, f y = some r → WG (KM D cA h) p l e (rmD d0) st m args below meth c Q nL y q lv (rest)) : WG (KM D cA h) p l e (rmD d0) st m args below meth c Q nL s pc lv (.int x3 :: .int x2 :: .int x1 :: .ref (h 0) :: rest) := by
  obtain ⟨v, hv, hs⟩ := Bd_e hs
  exact cV_V X 0 (n := 3) (k_falls l D cA h s x1 x2 x3 hv) gv_X10_falls ⟨hd1, hd2⟩ ⟨by decide, by decide, by decide +kernel⟩ (As := [.int x1, .int x2, .int x3]) rfl hr (Nat.le_of_ble_eq_true rfl) (fs := mF h (s.1 0)) rfl rfl rfl d hq (k _ hs)
theorem dX10_canWeed_0 : decode cX10_canWeed 0 = .ok (.aload_n 0, 1) := by decide +kernel
theorem dX10_canWeed_1 : decode cX10_canWeed 1 = .ok (.iload_n 1, 1) := by decide +kernel
theorem dX10_canWeed_2 : decode cX10_canWeed 2 = .ok (.invokevirtual 130, 3) := by decide +kernel
theorem dX10_canWeed_5 : decode cX10_canWeed 5 = .ok (.ifCond .eq 16, 3) := by decide +kernel
theorem dX10_canWeed_8 : decode cX10_canWeed 8 = .ok (.aload_n 0, 1) := by decide +kernel
theorem dX10_canWeed_9 : decode cX10_canWeed 9 = .ok (.iload_n 1, 1) := by decide +kernel
theorem dX10_canWeed_10 : decode cX10_canWeed 10 = .ok (.invokevirtual 134, 3) := by decide +kernel
theorem dX10_canWeed_13 : decode cX10_canWeed 13 = .ok (.iconst (-1), 1) := by decide +kernel
theorem dX10_canWeed_14 : decode cX10_canWeed 14 = .ok (.if_icmp .eq 7, 3) := by decide +kernel
theorem dX10_canWeed_17 : decode cX10_canWeed 17 = .ok (.iconst 1, 1) := by decide +kernel
theorem dX10_canWeed_18 : decode cX10_canWeed 18 = .ok (.goto 4, 3) := by decide +kernel
theorem dX10_canWeed_21 : decode cX10_canWeed 21 = .ok (.iconst 0, 1) := by decide +kernel
theorem dX10_canWeed_22 : decode cX10_canWeed 22 = .ok (.ireturn, 1) := by decide +kernel
def M_canWeed (s : ST) (x1 : Int32) : Option (Int32) := Lt (M_isCell s x1) fun y1 => if y1 = 0 then (some (0 : Int32)) else (Bd (M_seedOf s x1) fun y2 => if y2 = (-1 : Int32) then (some (0 : Int32)) else (some (1 : Int32)))
set_option maxRecDepth 100000 in
set_option maxHeartbeats 4000000 in
theorem k_canWeed (l : Launch) (D : va_G) (cA : ClassId) (h : Nat → Nat) (s : ST) (x1 : Int32) {o : Int32} (hs : M_canWeed s x1 = some o) : MI l (KM D cA h) 3 yX10_canWeed cX10_canWeed 2 (some .boolean) s [.ref (h 0), .int x1] o s := by
  refine met_i (by decide) (Nat.le_of_ble_eq_true rfl) ?_
  intro p e st m args below meth c Q X RI
  unfold M_canWeed at hs
  refine g_aload_n X dX10_canWeed_0 (q := 1) rfl 0 rfl ?_
  refine g_iload_n X dX10_canWeed_1 (q := 2) rfl 1 rfl ?_
  refine v_isCell X dX10_canWeed_2 (q := 5) rfl (Nat.le_of_ble_eq_true rfl) (Nat.le_of_ble_eq_true rfl) (Nat.le_of_ble_eq_true rfl) hs (fun y1 hs => ?_)
  refine g_if_eq X dX10_canWeed_5 (q := 8) rfl (tgt := 21) (by decide) hs ?_ ?_
  · intro hs
    refine g_iconst X dX10_canWeed_21 (q := 22) rfl li_i0 ?_
    exact RI _ 22 _ _ _ rfl rfl (Option.some.inj hs) dX10_canWeed_22
  · intro hs
    refine g_aload_n X dX10_canWeed_8 (q := 9) rfl 0 rfl ?_
    refine g_iload_n X dX10_canWeed_9 (q := 10) rfl 1 rfl ?_
    refine v_seedOf X dX10_canWeed_10 (q := 13) rfl (Nat.le_of_ble_eq_true rfl) (Nat.le_of_ble_eq_true rfl) (Nat.le_of_ble_eq_true rfl) hs (fun y2 hs => ?_)
    refine g_iconst X dX10_canWeed_13 (q := 14) rfl li_im1 ?_
    refine g_icmp_eq X dX10_canWeed_14 (q := 17) rfl (tgt := 21) (by decide) hs ?_ ?_
    · intro hs
      refine g_iconst X dX10_canWeed_21 (q := 22) rfl li_i0 ?_
      exact RI _ 22 _ _ _ rfl rfl (Option.some.inj hs) dX10_canWeed_22
    · intro hs
      refine g_iconst X dX10_canWeed_17 (q := 18) rfl li_i1 ?_
      refine g_goto X dX10_canWeed_18 (tgt := 22) (by decide) ?_
      exact RI _ 22 _ _ _ rfl rfl (Option.some.inj hs) dX10_canWeed_22
theorem v_canWeed {p : Program} {l : Launch} {e : Env} {st : State} {m : MethodId} {args : Array Value} {below : List Frame} {meth : Method} {c : Code} {Q : State → Prop} {nL : Nat} {cc : ByteArray} {s : ST} {pc q : Nat} {lv : List (Nat × Value)} {rest : List Value} {D : va_G} {cA : ClassId} {h : Nat → Nat} {d0 : Nat} (X : Cx (KM D cA h) p st m args meth c cc nL RX10) {x1 : Int32} (d : decode cc pc = .ok (.invokevirtual 342, 3)) (hq : pc + 3 = q) (hd1 : 3 + 1 ≤ d0) (hd2 : 8 + (2 + 11) + 100 * 3 ≤ 100 * d0) (hr : (rest.map fun v => v.category).sum ≤ 8) {B : Type} {f : Int32 → Option B} {r : B} (hs : Bd (M_canWeed s x1) f = some r) (k : ∀ y, f y = some r → WG (KM D cA h) p l e (rmD d0) st m args below meth c Q nL s q lv (.int y :: rest)) : WG (KM D cA h) p l e (rmD d0) st m args below meth c Q nL s pc lv (.int x1 :: .ref (h 0) :: rest) := by
  obtain ⟨v, hv, hs⟩ := Bd_e hs
  exact cV_I X 0 (n := 1) (k_canWeed l D cA h s x1 hv) gv_X10_canWeed ⟨hd1, hd2⟩ ⟨by decide, by decide, by decide +kernel⟩ (As := [.int x1]) rfl hr (Nat.le_of_ble_eq_true rfl) (fs := mF h (s.1 0)) rfl rfl rfl d hq (k _ hs)
theorem dX10_takesOut_0 : decode cX10_takesOut 0 = .ok (.aload_n 0, 1) := by decide +kernel
theorem dX10_takesOut_1 : decode cX10_takesOut 1 = .ok (.iconst 1, 1) := by decide +kernel
theorem dX10_takesOut_2 : decode cX10_takesOut 2 = .ok (.iload_n 1, 1) := by decide +kernel
theorem dX10_takesOut_3 : decode cX10_takesOut 3 = .ok (.aload_n 0, 1) := by decide +kernel
theorem dX10_takesOut_4 : decode cX10_takesOut 4 = .ok (.iload_n 1, 1) := by decide +kernel
theorem dX10_takesOut_5 : decode cX10_takesOut 5 = .ok (.invokevirtual 134, 3) := by decide +kernel
theorem dX10_takesOut_8 : decode cX10_takesOut 8 = .ok (.invokevirtual 330, 3) := by decide +kernel
theorem dX10_takesOut_11 : decode cX10_takesOut 11 = .ok (.aload_n 0, 1) := by decide +kernel
theorem dX10_takesOut_12 : decode cX10_takesOut 12 = .ok (.getfield 7, 3) := by decide +kernel
theorem dX10_takesOut_15 : decode cX10_takesOut 15 = .ok (.bipush 69, 2) := by decide +kernel
theorem dX10_takesOut_17 : decode cX10_takesOut 17 = .ok (.iload_n 1, 1) := by decide +kernel
theorem dX10_takesOut_18 : decode cX10_takesOut 18 = .ok (.iadd, 1) := by decide +kernel
theorem dX10_takesOut_19 : decode cX10_takesOut 19 = .ok (.iconst 0, 1) := by decide +kernel
theorem dX10_takesOut_20 : decode cX10_takesOut 20 = .ok (.iastore, 1) := by decide +kernel
theorem dX10_takesOut_21 : decode cX10_takesOut 21 = .ok (.return_, 1) := by decide +kernel
def M_takesOut (s : ST) (x1 : Int32) : Option (ST) := Bd (M_seedOf s x1) fun y1 => Bd (M_notes s (1 : Int32) x1 y1) fun s1 => Gs s1 1 389 ((69 : Int32) + x1) (0 : Int32) fun s2 => some s2
set_option maxRecDepth 100000 in
set_option maxHeartbeats 4000000 in
theorem k_takesOut (l : Launch) (D : va_G) (cA : ClassId) (h : Nat → Nat) (s : ST) (x1 : Int32) {o : ST} (hs : M_takesOut s x1 = some o) : MV l (KM D cA h) 2 yX10_takesOut cX10_takesOut 2 none s [.ref (h 0), .int x1] o := by
  refine met_v (by decide) (Nat.le_of_ble_eq_true rfl) ?_
  intro p e st m args below meth c Q X RI
  unfold M_takesOut at hs
  refine g_aload_n X dX10_takesOut_0 (q := 1) rfl 0 rfl ?_
  refine g_iconst X dX10_takesOut_1 (q := 2) rfl li_i1 ?_
  refine g_iload_n X dX10_takesOut_2 (q := 3) rfl 1 rfl ?_
  refine g_aload_n X dX10_takesOut_3 (q := 4) rfl 0 rfl ?_
  refine g_iload_n X dX10_takesOut_4 (q := 5) rfl 1 rfl ?_
  refine v_seedOf X dX10_takesOut_5 (q := 8) rfl (Nat.le_of_ble_eq_true rfl) (Nat.le_of_ble_eq_true rfl) (Nat.le_of_ble_eq_true rfl) hs (fun y1 hs => ?_)
  refine v_notes X dX10_takesOut_8 (q := 11) rfl (Nat.le_of_ble_eq_true rfl) (Nat.le_of_ble_eq_true rfl) (Nat.le_of_ble_eq_true rfl) hs (fun s1 hs => ?_)
  refine g_aload_n X dX10_takesOut_11 (q := 12) rfl 0 rfl ?_
  refine mg_1 X dX10_takesOut_12 (q := 15) rfl ?_
  refine g_bipush X dX10_takesOut_15 (q := 17) rfl li_b69 ?_
  refine g_iload_n X dX10_takesOut_17 (q := 18) rfl 1 rfl ?_
  refine g_iadd X dX10_takesOut_18 (q := 19) rfl ?_
  refine g_iconst X dX10_takesOut_19 (q := 20) rfl li_i0 ?_
  refine ms_1 X dX10_takesOut_20 (q := 21) rfl hs (fun s2 hs => ?_)
  exact RI _ 21 _ (Option.some.inj hs) dX10_takesOut_21
theorem v_takesOut {p : Program} {l : Launch} {e : Env} {st : State} {m : MethodId} {args : Array Value} {below : List Frame} {meth : Method} {c : Code} {Q : State → Prop} {nL : Nat} {cc : ByteArray} {s : ST} {pc q : Nat} {lv : List (Nat × Value)} {rest : List Value} {D : va_G} {cA : ClassId} {h : Nat → Nat} {d0 : Nat} (X : Cx (KM D cA h) p st m args meth c cc nL RX10) {x1 : Int32} (d : decode cc pc = .ok (.invokevirtual 345, 3)) (hq : pc + 3 = q) (hd1 : 2 + 1 ≤ d0) (hd2 : 8 + (2 + 11) + 100 * 2 ≤ 100 * d0) (hr : (rest.map fun v => v.category).sum ≤ 8) {B : Type} {f : ST → Option B} {r : B} (hs : Bd (M_takesOut s x1) f = some r) (k : ∀ y, f y = some r → WG (KM D cA h) p l e (rmD d0) st m args below meth c Q nL y q lv (rest)) : WG (KM D cA h) p l e (rmD d0) st m args below meth c Q nL s pc lv (.int x1 :: .ref (h 0) :: rest) := by
  obtain ⟨v, hv, hs⟩ := Bd_e hs
  exact cV_V X 0 (n := 1) (k_takesOut l D cA h s x1 hv) gv_X10_takesOut ⟨hd1, hd2⟩ ⟨by decide, by decide, by decide +kernel⟩ (As := [.int x1]) rfl hr (Nat.le_of_ble_eq_true rfl) (fs := mF h (s.1 0)) rfl rfl rfl d hq (k _ hs)
theorem dX10_sow_0 : decode cX10_sow 0 = .ok (.aload_n 0, 1) := by decide +kernel
theorem dX10_sow_1 : decode cX10_sow 1 = .ok (.iconst 0, 1) := by decide +kernel
theorem dX10_sow_2 : decode cX10_sow 2 = .ok (.putfield 83, 3) := by decide +kernel
theorem dX10_sow_5 : decode cX10_sow 5 = .ok (.aload_n 0, 1) := by decide +kernel
theorem dX10_sow_6 : decode cX10_sow 6 = .ok (.iload_n 1, 1) := by decide +kernel
theorem dX10_sow_7 : decode cX10_sow 7 = .ok (.iconst 0, 1) := by decide +kernel
theorem dX10_sow_8 : decode cX10_sow 8 = .ok (.aload_n 0, 1) := by decide +kernel
theorem dX10_sow_9 : decode cX10_sow 9 = .ok (.getfield 118, 3) := by decide +kernel
theorem dX10_sow_12 : decode cX10_sow 12 = .ok (.iconst 1, 1) := by decide +kernel
theorem dX10_sow_13 : decode cX10_sow 13 = .ok (.isub, 1) := by decide +kernel
theorem dX10_sow_14 : decode cX10_sow 14 = .ok (.invokevirtual 111, 3) := by decide +kernel
theorem dX10_sow_17 : decode cX10_sow 17 = .ok (.ifCond .eq 11, 3) := by decide +kernel
theorem dX10_sow_20 : decode cX10_sow 20 = .ok (.aload_n 0, 1) := by decide +kernel
theorem dX10_sow_21 : decode cX10_sow 21 = .ok (.iload_n 2, 1) := by decide +kernel
theorem dX10_sow_22 : decode cX10_sow 22 = .ok (.invokevirtual 333, 3) := by decide +kernel
theorem dX10_sow_25 : decode cX10_sow 25 = .ok (.ifCond .ne 5, 3) := by decide +kernel
theorem dX10_sow_28 : decode cX10_sow 28 = .ok (.iconst 0, 1) := by decide +kernel
theorem dX10_sow_29 : decode cX10_sow 29 = .ok (.ireturn, 1) := by decide +kernel
theorem dX10_sow_30 : decode cX10_sow 30 = .ok (.aload_n 0, 1) := by decide +kernel
theorem dX10_sow_31 : decode cX10_sow 31 = .ok (.invokevirtual 336, 3) := by decide +kernel
theorem dX10_sow_34 : decode cX10_sow 34 = .ok (.aload_n 0, 1) := by decide +kernel
theorem dX10_sow_35 : decode cX10_sow 35 = .ok (.iload_n 1, 1) := by decide +kernel
theorem dX10_sow_36 : decode cX10_sow 36 = .ok (.iload_n 2, 1) := by decide +kernel
theorem dX10_sow_37 : decode cX10_sow 37 = .ok (.iconst 0, 1) := by decide +kernel
theorem dX10_sow_38 : decode cX10_sow 38 = .ok (.invokevirtual 339, 3) := by decide +kernel
theorem dX10_sow_41 : decode cX10_sow 41 = .ok (.iconst 1, 1) := by decide +kernel
theorem dX10_sow_42 : decode cX10_sow 42 = .ok (.ireturn, 1) := by decide +kernel
def M_sow (s : ST) (x1 : Int32) (x2 : Int32) : Option (Int32 × ST) := Lt (ups s 0 0 (0 : Int32)) fun s1 => Lt (M_isIn s1 x1 (0 : Int32) ((s1.1 0 34) - (1 : Int32))) fun y1 => if y1 = 0 then (some ((0 : Int32), s1)) else (Bd (M_canSow s1 x2) fun y2 => if y2 = 0 then (some ((0 : Int32), s1)) else (Bd (M_keepsAhead s1) fun s2 => Bd (M_falls s2 x1 x2 (0 : Int32)) fun s3 => some ((1 : Int32), s3)))
set_option maxRecDepth 100000 in
set_option maxHeartbeats 4000000 in
theorem k_sow (l : Launch) (D : va_G) (cA : ClassId) (h : Nat → Nat) (s : ST) (x1 : Int32) (x2 : Int32) {o : Int32 × ST} (hs : M_sow s x1 x2 = some o) : MI l (KM D cA h) 4 yX10_sow cX10_sow 3 (some .boolean) s [.ref (h 0), .int x1, .int x2] o.1 o.2 := by
  refine met_i (by decide) (Nat.le_of_ble_eq_true rfl) ?_
  intro p e st m args below meth c Q X RI
  unfold M_sow at hs
  refine g_aload_n X dX10_sow_0 (q := 1) rfl 0 rfl ?_
  refine g_iconst X dX10_sow_1 (q := 2) rfl li_i0 ?_
  refine mp_0 X dX10_sow_2 (q := 5) rfl hs (fun s1 hs => ?_)
  refine g_aload_n X dX10_sow_5 (q := 6) rfl 0 rfl ?_
  refine g_iload_n X dX10_sow_6 (q := 7) rfl 1 rfl ?_
  refine g_iconst X dX10_sow_7 (q := 8) rfl li_i0 ?_
  refine g_aload_n X dX10_sow_8 (q := 9) rfl 0 rfl ?_
  refine mg_34 X dX10_sow_9 (q := 12) rfl ?_
  refine g_iconst X dX10_sow_12 (q := 13) rfl li_i1 ?_
  refine g_isub X dX10_sow_13 (q := 14) rfl ?_
  refine v_isIn X dX10_sow_14 (q := 17) rfl (Nat.le_of_ble_eq_true rfl) (Nat.le_of_ble_eq_true rfl) (Nat.le_of_ble_eq_true rfl) hs (fun y1 hs => ?_)
  refine g_if_eq X dX10_sow_17 (q := 20) rfl (tgt := 28) (by decide) hs ?_ ?_
  · intro hs
    refine g_iconst X dX10_sow_28 (q := 29) rfl li_i0 ?_
    exact RI _ 29 _ _ _ (rU1 hs) rfl (rV1 hs) dX10_sow_29
  · intro hs
    refine g_aload_n X dX10_sow_20 (q := 21) rfl 0 rfl ?_
    refine g_iload_n X dX10_sow_21 (q := 22) rfl 2 rfl ?_
    refine v_canSow X dX10_sow_22 (q := 25) rfl (Nat.le_of_ble_eq_true rfl) (Nat.le_of_ble_eq_true rfl) (Nat.le_of_ble_eq_true rfl) hs (fun y2 hs => ?_)
    refine g_if_ne X dX10_sow_25 (q := 28) rfl (tgt := 30) (by decide) hs ?_ ?_
    · intro hs
      refine g_aload_n X dX10_sow_30 (q := 31) rfl 0 rfl ?_
      refine v_keepsAhead X dX10_sow_31 (q := 34) rfl (Nat.le_of_ble_eq_true rfl) (Nat.le_of_ble_eq_true rfl) (Nat.le_of_ble_eq_true rfl) hs (fun s2 hs => ?_)
      refine g_aload_n X dX10_sow_34 (q := 35) rfl 0 rfl ?_
      refine g_iload_n X dX10_sow_35 (q := 36) rfl 1 rfl ?_
      refine g_iload_n X dX10_sow_36 (q := 37) rfl 2 rfl ?_
      refine g_iconst X dX10_sow_37 (q := 38) rfl li_i0 ?_
      refine v_falls X dX10_sow_38 (q := 41) rfl (Nat.le_of_ble_eq_true rfl) (Nat.le_of_ble_eq_true rfl) (Nat.le_of_ble_eq_true rfl) hs (fun s3 hs => ?_)
      refine g_iconst X dX10_sow_41 (q := 42) rfl li_i1 ?_
      exact RI _ 42 _ _ _ (rU1 hs) rfl (rV1 hs) dX10_sow_42
    · intro hs
      refine g_iconst X dX10_sow_28 (q := 29) rfl li_i0 ?_
      exact RI _ 29 _ _ _ (rU1 hs) rfl (rV1 hs) dX10_sow_29
theorem dX10_weed_0 : decode cX10_weed 0 = .ok (.aload_n 0, 1) := by decide +kernel
theorem dX10_weed_1 : decode cX10_weed 1 = .ok (.iconst 0, 1) := by decide +kernel
theorem dX10_weed_2 : decode cX10_weed 2 = .ok (.putfield 83, 3) := by decide +kernel
theorem dX10_weed_5 : decode cX10_weed 5 = .ok (.aload_n 0, 1) := by decide +kernel
theorem dX10_weed_6 : decode cX10_weed 6 = .ok (.iload_n 1, 1) := by decide +kernel
theorem dX10_weed_7 : decode cX10_weed 7 = .ok (.invokevirtual 342, 3) := by decide +kernel
theorem dX10_weed_10 : decode cX10_weed 10 = .ok (.ifCond .ne 5, 3) := by decide +kernel
theorem dX10_weed_13 : decode cX10_weed 13 = .ok (.iconst 0, 1) := by decide +kernel
theorem dX10_weed_14 : decode cX10_weed 14 = .ok (.ireturn, 1) := by decide +kernel
theorem dX10_weed_15 : decode cX10_weed 15 = .ok (.aload_n 0, 1) := by decide +kernel
theorem dX10_weed_16 : decode cX10_weed 16 = .ok (.invokevirtual 336, 3) := by decide +kernel
theorem dX10_weed_19 : decode cX10_weed 19 = .ok (.aload_n 0, 1) := by decide +kernel
theorem dX10_weed_20 : decode cX10_weed 20 = .ok (.iload_n 1, 1) := by decide +kernel
theorem dX10_weed_21 : decode cX10_weed 21 = .ok (.invokevirtual 345, 3) := by decide +kernel
theorem dX10_weed_24 : decode cX10_weed 24 = .ok (.iconst 1, 1) := by decide +kernel
theorem dX10_weed_25 : decode cX10_weed 25 = .ok (.ireturn, 1) := by decide +kernel
def M_weed (s : ST) (x1 : Int32) : Option (Int32 × ST) := Lt (ups s 0 0 (0 : Int32)) fun s1 => Bd (M_canWeed s1 x1) fun y1 => if y1 = 0 then (some ((0 : Int32), s1)) else (Bd (M_keepsAhead s1) fun s2 => Bd (M_takesOut s2 x1) fun s3 => some ((1 : Int32), s3))
set_option maxRecDepth 100000 in
set_option maxHeartbeats 4000000 in
theorem k_weed (l : Launch) (D : va_G) (cA : ClassId) (h : Nat → Nat) (s : ST) (x1 : Int32) {o : Int32 × ST} (hs : M_weed s x1 = some o) : MI l (KM D cA h) 4 yX10_weed cX10_weed 2 (some .boolean) s [.ref (h 0), .int x1] o.1 o.2 := by
  refine met_i (by decide) (Nat.le_of_ble_eq_true rfl) ?_
  intro p e st m args below meth c Q X RI
  unfold M_weed at hs
  refine g_aload_n X dX10_weed_0 (q := 1) rfl 0 rfl ?_
  refine g_iconst X dX10_weed_1 (q := 2) rfl li_i0 ?_
  refine mp_0 X dX10_weed_2 (q := 5) rfl hs (fun s1 hs => ?_)
  refine g_aload_n X dX10_weed_5 (q := 6) rfl 0 rfl ?_
  refine g_iload_n X dX10_weed_6 (q := 7) rfl 1 rfl ?_
  refine v_canWeed X dX10_weed_7 (q := 10) rfl (Nat.le_of_ble_eq_true rfl) (Nat.le_of_ble_eq_true rfl) (Nat.le_of_ble_eq_true rfl) hs (fun y1 hs => ?_)
  refine g_if_ne X dX10_weed_10 (q := 13) rfl (tgt := 15) (by decide) hs ?_ ?_
  · intro hs
    refine g_aload_n X dX10_weed_15 (q := 16) rfl 0 rfl ?_
    refine v_keepsAhead X dX10_weed_16 (q := 19) rfl (Nat.le_of_ble_eq_true rfl) (Nat.le_of_ble_eq_true rfl) (Nat.le_of_ble_eq_true rfl) hs (fun s2 hs => ?_)
    refine g_aload_n X dX10_weed_19 (q := 20) rfl 0 rfl ?_
    refine g_iload_n X dX10_weed_20 (q := 21) rfl 1 rfl ?_
    refine v_takesOut X dX10_weed_21 (q := 24) rfl (Nat.le_of_ble_eq_true rfl) (Nat.le_of_ble_eq_true rfl) (Nat.le_of_ble_eq_true rfl) hs (fun s3 hs => ?_)
    refine g_iconst X dX10_weed_24 (q := 25) rfl li_i1 ?_
    exact RI _ 25 _ _ _ (rU1 hs) rfl (rV1 hs) dX10_weed_25
  · intro hs
    refine g_iconst X dX10_weed_13 (q := 14) rfl li_i0 ?_
    exact RI _ 14 _ _ _ (rU1 hs) rfl (rV1 hs) dX10_weed_14
theorem dX10_turn_0 : decode cX10_turn 0 = .ok (.aload_n 0, 1) := by decide +kernel
theorem dX10_turn_1 : decode cX10_turn 1 = .ok (.iconst 0, 1) := by decide +kernel
theorem dX10_turn_2 : decode cX10_turn 2 = .ok (.putfield 83, 3) := by decide +kernel
theorem dX10_turn_5 : decode cX10_turn 5 = .ok (.aload_n 0, 1) := by decide +kernel
theorem dX10_turn_6 : decode cX10_turn 6 = .ok (.iload_n 1, 1) := by decide +kernel
theorem dX10_turn_7 : decode cX10_turn 7 = .ok (.iconst 0, 1) := by decide +kernel
theorem dX10_turn_8 : decode cX10_turn 8 = .ok (.iconst 3, 1) := by decide +kernel
theorem dX10_turn_9 : decode cX10_turn 9 = .ok (.invokevirtual 111, 3) := by decide +kernel
theorem dX10_turn_12 : decode cX10_turn 12 = .ok (.ifCond .eq 11, 3) := by decide +kernel
theorem dX10_turn_15 : decode cX10_turn 15 = .ok (.iload_n 1, 1) := by decide +kernel
theorem dX10_turn_16 : decode cX10_turn 16 = .ok (.aload_n 0, 1) := by decide +kernel
theorem dX10_turn_17 : decode cX10_turn 17 = .ok (.invokevirtual 348, 3) := by decide +kernel
theorem dX10_turn_20 : decode cX10_turn 20 = .ok (.if_icmp .ne 5, 3) := by decide +kernel
theorem dX10_turn_23 : decode cX10_turn 23 = .ok (.iconst 0, 1) := by decide +kernel
theorem dX10_turn_24 : decode cX10_turn 24 = .ok (.ireturn, 1) := by decide +kernel
theorem dX10_turn_25 : decode cX10_turn 25 = .ok (.aload_n 0, 1) := by decide +kernel
theorem dX10_turn_26 : decode cX10_turn 26 = .ok (.invokevirtual 336, 3) := by decide +kernel
theorem dX10_turn_29 : decode cX10_turn 29 = .ok (.aload_n 0, 1) := by decide +kernel
theorem dX10_turn_30 : decode cX10_turn 30 = .ok (.iload_n 1, 1) := by decide +kernel
theorem dX10_turn_31 : decode cX10_turn 31 = .ok (.invokevirtual 351, 3) := by decide +kernel
theorem dX10_turn_34 : decode cX10_turn 34 = .ok (.iconst 1, 1) := by decide +kernel
theorem dX10_turn_35 : decode cX10_turn 35 = .ok (.ireturn, 1) := by decide +kernel
def M_turn (s : ST) (x1 : Int32) : Option (Int32 × ST) := Lt (ups s 0 0 (0 : Int32)) fun s1 => Lt (M_isIn s1 x1 (0 : Int32) (3 : Int32)) fun y1 => if y1 = 0 then (some ((0 : Int32), s1)) else (Lt (M_wind s1) fun y2 => if x1 = y2 then (some ((0 : Int32), s1)) else (Bd (M_keepsAhead s1) fun s2 => Lt (M_turnsTo s2 x1) fun s3 => some ((1 : Int32), s3)))
set_option maxRecDepth 100000 in
set_option maxHeartbeats 4000000 in
theorem k_turn (l : Launch) (D : va_G) (cA : ClassId) (h : Nat → Nat) (s : ST) (x1 : Int32) {o : Int32 × ST} (hs : M_turn s x1 = some o) : MI l (KM D cA h) 2 yX10_turn cX10_turn 2 (some .boolean) s [.ref (h 0), .int x1] o.1 o.2 := by
  refine met_i (by decide) (Nat.le_of_ble_eq_true rfl) ?_
  intro p e st m args below meth c Q X RI
  unfold M_turn at hs
  refine g_aload_n X dX10_turn_0 (q := 1) rfl 0 rfl ?_
  refine g_iconst X dX10_turn_1 (q := 2) rfl li_i0 ?_
  refine mp_0 X dX10_turn_2 (q := 5) rfl hs (fun s1 hs => ?_)
  refine g_aload_n X dX10_turn_5 (q := 6) rfl 0 rfl ?_
  refine g_iload_n X dX10_turn_6 (q := 7) rfl 1 rfl ?_
  refine g_iconst X dX10_turn_7 (q := 8) rfl li_i0 ?_
  refine g_iconst X dX10_turn_8 (q := 9) rfl li_i3 ?_
  refine v_isIn X dX10_turn_9 (q := 12) rfl (Nat.le_of_ble_eq_true rfl) (Nat.le_of_ble_eq_true rfl) (Nat.le_of_ble_eq_true rfl) hs (fun y1 hs => ?_)
  refine g_if_eq X dX10_turn_12 (q := 15) rfl (tgt := 23) (by decide) hs ?_ ?_
  · intro hs
    refine g_iconst X dX10_turn_23 (q := 24) rfl li_i0 ?_
    exact RI _ 24 _ _ _ (rU1 hs) rfl (rV1 hs) dX10_turn_24
  · intro hs
    refine g_iload_n X dX10_turn_15 (q := 16) rfl 1 rfl ?_
    refine g_aload_n X dX10_turn_16 (q := 17) rfl 0 rfl ?_
    refine v_wind X dX10_turn_17 (q := 20) rfl (Nat.le_of_ble_eq_true rfl) (Nat.le_of_ble_eq_true rfl) (Nat.le_of_ble_eq_true rfl) hs (fun y2 hs => ?_)
    refine g_icmp_ne X dX10_turn_20 (q := 23) rfl (tgt := 25) (by decide) hs ?_ ?_
    · intro hs
      refine g_aload_n X dX10_turn_25 (q := 26) rfl 0 rfl ?_
      refine v_keepsAhead X dX10_turn_26 (q := 29) rfl (Nat.le_of_ble_eq_true rfl) (Nat.le_of_ble_eq_true rfl) (Nat.le_of_ble_eq_true rfl) hs (fun s2 hs => ?_)
      refine g_aload_n X dX10_turn_29 (q := 30) rfl 0 rfl ?_
      refine g_iload_n X dX10_turn_30 (q := 31) rfl 1 rfl ?_
      refine v_turnsTo X dX10_turn_31 (q := 34) rfl (Nat.le_of_ble_eq_true rfl) (Nat.le_of_ble_eq_true rfl) (Nat.le_of_ble_eq_true rfl) hs (fun s3 hs => ?_)
      refine g_iconst X dX10_turn_34 (q := 35) rfl li_i1 ?_
      exact RI _ 35 _ _ _ (rU1 hs) rfl (rV1 hs) dX10_turn_35
    · intro hs
      refine g_iconst X dX10_turn_23 (q := 24) rfl li_i0 ?_
      exact RI _ 24 _ _ _ (rU1 hs) rfl (rV1 hs) dX10_turn_24
theorem dX10_does_0 : decode cX10_does 0 = .ok (.aload_n 0, 1) := by decide +kernel
theorem dX10_does_1 : decode cX10_does 1 = .ok (.getfield 68, 3) := by decide +kernel
theorem dX10_does_4 : decode cX10_does 4 = .ok (.iload_n 1, 1) := by decide +kernel
theorem dX10_does_5 : decode cX10_does 5 = .ok (.iconst 3, 1) := by decide +kernel
theorem dX10_does_6 : decode cX10_does 6 = .ok (.iadd, 1) := by decide +kernel
theorem dX10_does_7 : decode cX10_does 7 = .ok (.iaload, 1) := by decide +kernel
theorem dX10_does_8 : decode cX10_does 8 = .ok (.istore_n 2, 1) := by decide +kernel
theorem dX10_does_9 : decode cX10_does 9 = .ok (.aload_n 0, 1) := by decide +kernel
theorem dX10_does_10 : decode cX10_does 10 = .ok (.getfield 68, 3) := by decide +kernel
theorem dX10_does_13 : decode cX10_does 13 = .ok (.iload_n 1, 1) := by decide +kernel
theorem dX10_does_14 : decode cX10_does 14 = .ok (.iconst 1, 1) := by decide +kernel
theorem dX10_does_15 : decode cX10_does 15 = .ok (.iadd, 1) := by decide +kernel
theorem dX10_does_16 : decode cX10_does 16 = .ok (.iaload, 1) := by decide +kernel
theorem dX10_does_17 : decode cX10_does 17 = .ok (.iconst 2, 1) := by decide +kernel
theorem dX10_does_18 : decode cX10_does 18 = .ok (.if_icmp .ne 8, 3) := by decide +kernel
theorem dX10_does_21 : decode cX10_does 21 = .ok (.aload_n 0, 1) := by decide +kernel
theorem dX10_does_22 : decode cX10_does 22 = .ok (.iload_n 2, 1) := by decide +kernel
theorem dX10_does_23 : decode cX10_does 23 = .ok (.invokevirtual 351, 3) := by decide +kernel
theorem dX10_does_26 : decode cX10_does 26 = .ok (.aload_n 0, 1) := by decide +kernel
theorem dX10_does_27 : decode cX10_does 27 = .ok (.getfield 68, 3) := by decide +kernel
theorem dX10_does_30 : decode cX10_does 30 = .ok (.iload_n 1, 1) := by decide +kernel
theorem dX10_does_31 : decode cX10_does 31 = .ok (.iconst 1, 1) := by decide +kernel
theorem dX10_does_32 : decode cX10_does 32 = .ok (.iadd, 1) := by decide +kernel
theorem dX10_does_33 : decode cX10_does 33 = .ok (.iaload, 1) := by decide +kernel
theorem dX10_does_34 : decode cX10_does 34 = .ok (.ifCond .ne 25, 3) := by decide +kernel
theorem dX10_does_37 : decode cX10_does 37 = .ok (.aload_n 0, 1) := by decide +kernel
theorem dX10_does_38 : decode cX10_does 38 = .ok (.iload_n 2, 1) := by decide +kernel
theorem dX10_does_39 : decode cX10_does 39 = .ok (.invokevirtual 333, 3) := by decide +kernel
theorem dX10_does_42 : decode cX10_does 42 = .ok (.ifCond .eq 17, 3) := by decide +kernel
theorem dX10_does_45 : decode cX10_does 45 = .ok (.aload_n 0, 1) := by decide +kernel
theorem dX10_does_46 : decode cX10_does 46 = .ok (.aload_n 0, 1) := by decide +kernel
theorem dX10_does_47 : decode cX10_does 47 = .ok (.getfield 68, 3) := by decide +kernel
theorem dX10_does_50 : decode cX10_does 50 = .ok (.iload_n 1, 1) := by decide +kernel
theorem dX10_does_51 : decode cX10_does 51 = .ok (.iconst 2, 1) := by decide +kernel
theorem dX10_does_52 : decode cX10_does 52 = .ok (.iadd, 1) := by decide +kernel
theorem dX10_does_53 : decode cX10_does 53 = .ok (.iaload, 1) := by decide +kernel
theorem dX10_does_54 : decode cX10_does 54 = .ok (.iload_n 2, 1) := by decide +kernel
theorem dX10_does_55 : decode cX10_does 55 = .ok (.iconst 0, 1) := by decide +kernel
theorem dX10_does_56 : decode cX10_does 56 = .ok (.invokevirtual 339, 3) := by decide +kernel
theorem dX10_does_59 : decode cX10_does 59 = .ok (.aload_n 0, 1) := by decide +kernel
theorem dX10_does_60 : decode cX10_does 60 = .ok (.getfield 68, 3) := by decide +kernel
theorem dX10_does_63 : decode cX10_does 63 = .ok (.iload_n 1, 1) := by decide +kernel
theorem dX10_does_64 : decode cX10_does 64 = .ok (.iconst 1, 1) := by decide +kernel
theorem dX10_does_65 : decode cX10_does 65 = .ok (.iadd, 1) := by decide +kernel
theorem dX10_does_66 : decode cX10_does 66 = .ok (.iaload, 1) := by decide +kernel
theorem dX10_does_67 : decode cX10_does 67 = .ok (.iconst 1, 1) := by decide +kernel
theorem dX10_does_68 : decode cX10_does 68 = .ok (.if_icmp .ne 16, 3) := by decide +kernel
theorem dX10_does_71 : decode cX10_does 71 = .ok (.aload_n 0, 1) := by decide +kernel
theorem dX10_does_72 : decode cX10_does 72 = .ok (.iload_n 2, 1) := by decide +kernel
theorem dX10_does_73 : decode cX10_does 73 = .ok (.invokevirtual 342, 3) := by decide +kernel
theorem dX10_does_76 : decode cX10_does 76 = .ok (.ifCond .eq 8, 3) := by decide +kernel
theorem dX10_does_79 : decode cX10_does 79 = .ok (.aload_n 0, 1) := by decide +kernel
theorem dX10_does_80 : decode cX10_does 80 = .ok (.iload_n 2, 1) := by decide +kernel
theorem dX10_does_81 : decode cX10_does 81 = .ok (.invokevirtual 345, 3) := by decide +kernel
theorem dX10_does_84 : decode cX10_does 84 = .ok (.return_, 1) := by decide +kernel
def M_does (s : ST) (x1 : Int32) : Option (ST) := Gl s 19 128 (x1 + (3 : Int32)) fun y1 => Gl s 19 128 (x1 + (1 : Int32)) fun y2 => Lt (fun (s1 : ST) => (Gl s1 19 128 (x1 + (1 : Int32)) fun y3 => Lt (fun (s2 : ST) => (Gl s2 19 128 (x1 + (1 : Int32)) fun y4 => if y4 = (1 : Int32) then (Bd (M_canWeed s2 y1) fun y5 => if y5 = 0 then (some s2) else (Bd (M_takesOut s2 y1) fun s3 => some s3)) else (some s2) : Option (ST))) fun j2 => if y3 = 0 then (Bd (M_canSow s1 y1) fun y6 => if y6 = 0 then (j2 s1) else (Gl s1 19 128 (x1 + (2 : Int32)) fun y7 => Bd (M_falls s1 y7 y1 (0 : Int32)) fun s4 => j2 s4)) else (j2 s1) : Option (ST))) fun j1 => if y2 = (2 : Int32) then (Lt (M_turnsTo s y1) fun s5 => j1 s5) else (j1 s)
set_option maxRecDepth 100000 in
set_option maxHeartbeats 4000000 in
theorem k_does (l : Launch) (D : va_G) (cA : ClassId) (h : Nat → Nat) (s : ST) (x1 : Int32) {o : ST} (hs : M_does s x1 = some o) : MV l (KM D cA h) 4 yX10_does cX10_does 3 none s [.ref (h 0), .int x1] o := by
  refine met_v (by decide) (Nat.le_of_ble_eq_true rfl) ?_
  intro p e st m args below meth c Q X RI
  unfold M_does at hs
  refine g_aload_n X dX10_does_0 (q := 1) rfl 0 rfl ?_
  refine mg_43 X dX10_does_1 (q := 4) rfl ?_
  refine g_iload_n X dX10_does_4 (q := 5) rfl 1 rfl ?_
  refine g_iconst X dX10_does_5 (q := 6) rfl li_i3 ?_
  refine g_iadd X dX10_does_6 (q := 7) rfl ?_
  refine ma_19 X dX10_does_7 (q := 8) rfl hs (fun y1 hs => ?_)
  refine g_istore_n X dX10_does_8 (q := 9) rfl (Nat.le_of_ble_eq_true rfl) (lv' := [(2, .int y1), (0, .ref (h 0)), (1, .int x1)]) rfl ?_
  refine g_aload_n X dX10_does_9 (q := 10) rfl 1 rfl ?_
  refine mg_43 X dX10_does_10 (q := 13) rfl ?_
  refine g_iload_n X dX10_does_13 (q := 14) rfl 2 rfl ?_
  refine g_iconst X dX10_does_14 (q := 15) rfl li_i1 ?_
  refine g_iadd X dX10_does_15 (q := 16) rfl ?_
  refine ma_19 X dX10_does_16 (q := 17) rfl hs (fun y2 hs => ?_)
  refine g_iconst X dX10_does_17 (q := 18) rfl li_i2 ?_
  refine jnW1 (fun (s1 : ST) => WG (KM D cA h) p l e (rmD 4) st m args below meth c Q 3 s1 26 [(0, .ref (h 0)), (1, .int x1), (2, .int y1)] []) hs (fun s1 hs => ?_) (fun j1 ih1 hs => ?_)
  · refine g_aload_n X dX10_does_26 (q := 27) rfl 0 rfl ?_
    refine mg_43 X dX10_does_27 (q := 30) rfl ?_
    refine g_iload_n X dX10_does_30 (q := 31) rfl 1 rfl ?_
    refine g_iconst X dX10_does_31 (q := 32) rfl li_i1 ?_
    refine g_iadd X dX10_does_32 (q := 33) rfl ?_
    refine ma_19 X dX10_does_33 (q := 34) rfl hs (fun y3 hs => ?_)
    refine jnW1 (fun (s2 : ST) => WG (KM D cA h) p l e (rmD 4) st m args below meth c Q 3 s2 59 [(0, .ref (h 0)), (1, .int x1), (2, .int y1)] []) hs (fun s2 hs => ?_) (fun j2 ih2 hs => ?_)
    · refine g_aload_n X dX10_does_59 (q := 60) rfl 0 rfl ?_
      refine mg_43 X dX10_does_60 (q := 63) rfl ?_
      refine g_iload_n X dX10_does_63 (q := 64) rfl 1 rfl ?_
      refine g_iconst X dX10_does_64 (q := 65) rfl li_i1 ?_
      refine g_iadd X dX10_does_65 (q := 66) rfl ?_
      refine ma_19 X dX10_does_66 (q := 67) rfl hs (fun y4 hs => ?_)
      refine g_iconst X dX10_does_67 (q := 68) rfl li_i1 ?_
      refine g_icmp_ne X dX10_does_68 (q := 71) rfl (tgt := 84) (by decide) hs ?_ ?_
      · intro hs
        exact RI _ 84 _ (Option.some.inj hs) dX10_does_84
      · intro hs
        refine g_aload_n X dX10_does_71 (q := 72) rfl 0 rfl ?_
        refine g_iload_n X dX10_does_72 (q := 73) rfl 2 rfl ?_
        refine v_canWeed X dX10_does_73 (q := 76) rfl (Nat.le_of_ble_eq_true rfl) (Nat.le_of_ble_eq_true rfl) (Nat.le_of_ble_eq_true rfl) hs (fun y5 hs => ?_)
        refine g_if_eq X dX10_does_76 (q := 79) rfl (tgt := 84) (by decide) hs ?_ ?_
        · intro hs
          exact RI _ 84 _ (Option.some.inj hs) dX10_does_84
        · intro hs
          refine g_aload_n X dX10_does_79 (q := 80) rfl 0 rfl ?_
          refine g_iload_n X dX10_does_80 (q := 81) rfl 2 rfl ?_
          refine v_takesOut X dX10_does_81 (q := 84) rfl (Nat.le_of_ble_eq_true rfl) (Nat.le_of_ble_eq_true rfl) (Nat.le_of_ble_eq_true rfl) hs (fun s3 hs => ?_)
          exact RI _ 84 _ (Option.some.inj hs) dX10_does_84
    refine g_if_ne X dX10_does_34 (q := 37) rfl (tgt := 59) (by decide) hs ?_ ?_
    · intro hs
      exact wg_sub [0, 1, 2] rfl (ih2 _ hs)
    · intro hs
      refine g_aload_n X dX10_does_37 (q := 38) rfl 0 rfl ?_
      refine g_iload_n X dX10_does_38 (q := 39) rfl 2 rfl ?_
      refine v_canSow X dX10_does_39 (q := 42) rfl (Nat.le_of_ble_eq_true rfl) (Nat.le_of_ble_eq_true rfl) (Nat.le_of_ble_eq_true rfl) hs (fun y6 hs => ?_)
      refine g_if_eq X dX10_does_42 (q := 45) rfl (tgt := 59) (by decide) hs ?_ ?_
      · intro hs
        exact wg_sub [0, 1, 2] rfl (ih2 _ hs)
      · intro hs
        refine g_aload_n X dX10_does_45 (q := 46) rfl 0 rfl ?_
        refine g_aload_n X dX10_does_46 (q := 47) rfl 0 rfl ?_
        refine mg_43 X dX10_does_47 (q := 50) rfl ?_
        refine g_iload_n X dX10_does_50 (q := 51) rfl 1 rfl ?_
        refine g_iconst X dX10_does_51 (q := 52) rfl li_i2 ?_
        refine g_iadd X dX10_does_52 (q := 53) rfl ?_
        refine ma_19 X dX10_does_53 (q := 54) rfl hs (fun y7 hs => ?_)
        refine g_iload_n X dX10_does_54 (q := 55) rfl 2 rfl ?_
        refine g_iconst X dX10_does_55 (q := 56) rfl li_i0 ?_
        refine v_falls X dX10_does_56 (q := 59) rfl (Nat.le_of_ble_eq_true rfl) (Nat.le_of_ble_eq_true rfl) (Nat.le_of_ble_eq_true rfl) hs (fun s4 hs => ?_)
        exact wg_sub [0, 1, 2] rfl (ih2 _ hs)
  refine g_icmp_ne X dX10_does_18 (q := 21) rfl (tgt := 26) (by decide) hs ?_ ?_
  · intro hs
    exact wg_sub [1, 2, 0] rfl (ih1 _ hs)
  · intro hs
    refine g_aload_n X dX10_does_21 (q := 22) rfl 1 rfl ?_
    refine g_iload_n X dX10_does_22 (q := 23) rfl 0 rfl ?_
    refine v_turnsTo X dX10_does_23 (q := 26) rfl (Nat.le_of_ble_eq_true rfl) (Nat.le_of_ble_eq_true rfl) (Nat.le_of_ble_eq_true rfl) hs (fun s5 hs => ?_)
    exact wg_sub [1, 2, 0] rfl (ih1 _ hs)
theorem v_does {p : Program} {l : Launch} {e : Env} {st : State} {m : MethodId} {args : Array Value} {below : List Frame} {meth : Method} {c : Code} {Q : State → Prop} {nL : Nat} {cc : ByteArray} {s : ST} {pc q : Nat} {lv : List (Nat × Value)} {rest : List Value} {D : va_G} {cA : ClassId} {h : Nat → Nat} {d0 : Nat} (X : Cx (KM D cA h) p st m args meth c cc nL RX10) {x1 : Int32} (d : decode cc pc = .ok (.invokevirtual 381, 3)) (hq : pc + 3 = q) (hd1 : 4 + 1 ≤ d0) (hd2 : 8 + (3 + 11) + 100 * 4 ≤ 100 * d0) (hr : (rest.map fun v => v.category).sum ≤ 8) {B : Type} {f : ST → Option B} {r : B} (hs : Bd (M_does s x1) f = some r) (k : ∀ y, f y = some r → WG (KM D cA h) p l e (rmD d0) st m args below meth c Q nL y q lv (rest)) : WG (KM D cA h) p l e (rmD d0) st m args below meth c Q nL s pc lv (.int x1 :: .ref (h 0) :: rest) := by
  obtain ⟨v, hv, hs⟩ := Bd_e hs
  exact cV_V X 0 (n := 1) (k_does l D cA h s x1 hv) gv_X10_does ⟨hd1, hd2⟩ ⟨by decide, by decide, by decide +kernel⟩ (As := [.int x1]) rfl hr (Nat.le_of_ble_eq_true rfl) (fs := mF h (s.1 0)) rfl rfl rfl d hq (k _ hs)
theorem dX10_storms_0 : decode cX10_storms 0 = .ok (.aload_n 0, 1) := by decide +kernel
theorem dX10_storms_1 : decode cX10_storms 1 = .ok (.getfield 7, 3) := by decide +kernel
theorem dX10_storms_4 : decode cX10_storms 4 = .ok (.sipush 197, 3) := by decide +kernel
theorem dX10_storms_7 : decode cX10_storms 7 = .ok (.iload_n 1, 1) := by decide +kernel
theorem dX10_storms_8 : decode cX10_storms 8 = .ok (.iadd, 1) := by decide +kernel
theorem dX10_storms_9 : decode cX10_storms 9 = .ok (.iload_n 2, 1) := by decide +kernel
theorem dX10_storms_10 : decode cX10_storms 10 = .ok (.iconst 1, 1) := by decide +kernel
theorem dX10_storms_11 : decode cX10_storms 11 = .ok (.iadd, 1) := by decide +kernel
theorem dX10_storms_12 : decode cX10_storms 12 = .ok (.iastore, 1) := by decide +kernel
theorem dX10_storms_13 : decode cX10_storms 13 = .ok (.aload_n 0, 1) := by decide +kernel
theorem dX10_storms_14 : decode cX10_storms 14 = .ok (.getfield 7, 3) := by decide +kernel
theorem dX10_storms_17 : decode cX10_storms 17 = .ok (.sipush 261, 3) := by decide +kernel
theorem dX10_storms_20 : decode cX10_storms 20 = .ok (.iload_n 1, 1) := by decide +kernel
theorem dX10_storms_21 : decode cX10_storms 21 = .ok (.iadd, 1) := by decide +kernel
theorem dX10_storms_22 : decode cX10_storms 22 = .ok (.iload_n 3, 1) := by decide +kernel
theorem dX10_storms_23 : decode cX10_storms 23 = .ok (.iastore, 1) := by decide +kernel
theorem dX10_storms_24 : decode cX10_storms 24 = .ok (.aload_n 0, 1) := by decide +kernel
theorem dX10_storms_25 : decode cX10_storms 25 = .ok (.getfield 7, 3) := by decide +kernel
theorem dX10_storms_28 : decode cX10_storms 28 = .ok (.sipush 325, 3) := by decide +kernel
theorem dX10_storms_31 : decode cX10_storms 31 = .ok (.iload_n 1, 1) := by decide +kernel
theorem dX10_storms_32 : decode cX10_storms 32 = .ok (.iadd, 1) := by decide +kernel
theorem dX10_storms_33 : decode cX10_storms 33 = .ok (.aload_n 0, 1) := by decide +kernel
theorem dX10_storms_34 : decode cX10_storms 34 = .ok (.getfield 7, 3) := by decide +kernel
theorem dX10_storms_37 : decode cX10_storms 37 = .ok (.iconst 0, 1) := by decide +kernel
theorem dX10_storms_38 : decode cX10_storms 38 = .ok (.iaload, 1) := by decide +kernel
theorem dX10_storms_39 : decode cX10_storms 39 = .ok (.aload_n 0, 1) := by decide +kernel
theorem dX10_storms_40 : decode cX10_storms 40 = .ok (.iload_n 2, 1) := by decide +kernel
theorem dX10_storms_41 : decode cX10_storms 41 = .ok (.iconst 1, 1) := by decide +kernel
theorem dX10_storms_42 : decode cX10_storms 42 = .ok (.invokevirtual 354, 3) := by decide +kernel
theorem dX10_storms_45 : decode cX10_storms 45 = .ok (.iadd, 1) := by decide +kernel
theorem dX10_storms_46 : decode cX10_storms 46 = .ok (.iconst 1, 1) := by decide +kernel
theorem dX10_storms_47 : decode cX10_storms 47 = .ok (.isub, 1) := by decide +kernel
theorem dX10_storms_48 : decode cX10_storms 48 = .ok (.iastore, 1) := by decide +kernel
theorem dX10_storms_49 : decode cX10_storms 49 = .ok (.aload_n 0, 1) := by decide +kernel
theorem dX10_storms_50 : decode cX10_storms 50 = .ok (.iconst 2, 1) := by decide +kernel
theorem dX10_storms_51 : decode cX10_storms 51 = .ok (.iload_n 1, 1) := by decide +kernel
theorem dX10_storms_52 : decode cX10_storms 52 = .ok (.iload_n 2, 1) := by decide +kernel
theorem dX10_storms_53 : decode cX10_storms 53 = .ok (.invokevirtual 330, 3) := by decide +kernel
theorem dX10_storms_56 : decode cX10_storms 56 = .ok (.return_, 1) := by decide +kernel
def M_storms (s : ST) (x1 : Int32) (x2 : Int32) (x3 : Int32) : Option (ST) := Gs s 1 389 ((197 : Int32) + x1) (x2 + (1 : Int32)) fun s1 => Gs s1 1 389 ((261 : Int32) + x1) x3 fun s2 => Lt (s2.1 1 0) fun y1 => Bd (M_ofKind s2 x2 (1 : Int32)) fun y2 => Gs s2 1 389 ((325 : Int32) + x1) ((y1 + y2) - (1 : Int32)) fun s3 => Bd (M_notes s3 (2 : Int32) x1 x2) fun s4 => some s4
set_option maxRecDepth 100000 in
set_option maxHeartbeats 4000000 in
theorem k_storms (l : Launch) (D : va_G) (cA : ClassId) (h : Nat → Nat) (s : ST) (x1 : Int32) (x2 : Int32) (x3 : Int32) {o : ST} (hs : M_storms s x1 x2 x3 = some o) : MV l (KM D cA h) 2 yX10_storms cX10_storms 4 none s [.ref (h 0), .int x1, .int x2, .int x3] o := by
  refine met_v (by decide) (Nat.le_of_ble_eq_true rfl) ?_
  intro p e st m args below meth c Q X RI
  unfold M_storms at hs
  refine g_aload_n X dX10_storms_0 (q := 1) rfl 0 rfl ?_
  refine mg_1 X dX10_storms_1 (q := 4) rfl ?_
  refine g_sipush X dX10_storms_4 (q := 7) rfl li_s197 ?_
  refine g_iload_n X dX10_storms_7 (q := 8) rfl 1 rfl ?_
  refine g_iadd X dX10_storms_8 (q := 9) rfl ?_
  refine g_iload_n X dX10_storms_9 (q := 10) rfl 2 rfl ?_
  refine g_iconst X dX10_storms_10 (q := 11) rfl li_i1 ?_
  refine g_iadd X dX10_storms_11 (q := 12) rfl ?_
  refine ms_1 X dX10_storms_12 (q := 13) rfl hs (fun s1 hs => ?_)
  refine g_aload_n X dX10_storms_13 (q := 14) rfl 0 rfl ?_
  refine mg_1 X dX10_storms_14 (q := 17) rfl ?_
  refine g_sipush X dX10_storms_17 (q := 20) rfl li_s261 ?_
  refine g_iload_n X dX10_storms_20 (q := 21) rfl 1 rfl ?_
  refine g_iadd X dX10_storms_21 (q := 22) rfl ?_
  refine g_iload_n X dX10_storms_22 (q := 23) rfl 3 rfl ?_
  refine ms_1 X dX10_storms_23 (q := 24) rfl hs (fun s2 hs => ?_)
  refine g_aload_n X dX10_storms_24 (q := 25) rfl 0 rfl ?_
  refine mg_1 X dX10_storms_25 (q := 28) rfl ?_
  refine g_sipush X dX10_storms_28 (q := 31) rfl li_s325 ?_
  refine g_iload_n X dX10_storms_31 (q := 32) rfl 1 rfl ?_
  refine g_iadd X dX10_storms_32 (q := 33) rfl ?_
  refine g_aload_n X dX10_storms_33 (q := 34) rfl 0 rfl ?_
  refine mg_1 X dX10_storms_34 (q := 37) rfl ?_
  refine g_iconst X dX10_storms_37 (q := 38) rfl li_i0 ?_
  refine mk_1 X dX10_storms_38 (q := 39) rfl (j := 0) (by decide) (by decide) hs (fun y1 hs => ?_)
  refine g_aload_n X dX10_storms_39 (q := 40) rfl 0 rfl ?_
  refine g_iload_n X dX10_storms_40 (q := 41) rfl 2 rfl ?_
  refine g_iconst X dX10_storms_41 (q := 42) rfl li_i1 ?_
  refine v_ofKind X dX10_storms_42 (q := 45) rfl (Nat.le_of_ble_eq_true rfl) (Nat.le_of_ble_eq_true rfl) (Nat.le_of_ble_eq_true rfl) hs (fun y2 hs => ?_)
  refine g_iadd X dX10_storms_45 (q := 46) rfl ?_
  refine g_iconst X dX10_storms_46 (q := 47) rfl li_i1 ?_
  refine g_isub X dX10_storms_47 (q := 48) rfl ?_
  refine ms_1 X dX10_storms_48 (q := 49) rfl hs (fun s3 hs => ?_)
  refine g_aload_n X dX10_storms_49 (q := 50) rfl 0 rfl ?_
  refine g_iconst X dX10_storms_50 (q := 51) rfl li_i2 ?_
  refine g_iload_n X dX10_storms_51 (q := 52) rfl 1 rfl ?_
  refine g_iload_n X dX10_storms_52 (q := 53) rfl 2 rfl ?_
  refine v_notes X dX10_storms_53 (q := 56) rfl (Nat.le_of_ble_eq_true rfl) (Nat.le_of_ble_eq_true rfl) (Nat.le_of_ble_eq_true rfl) hs (fun s4 hs => ?_)
  exact RI _ 56 _ (Option.some.inj hs) dX10_storms_56
theorem v_storms {p : Program} {l : Launch} {e : Env} {st : State} {m : MethodId} {args : Array Value} {below : List Frame} {meth : Method} {c : Code} {Q : State → Prop} {nL : Nat} {cc : ByteArray} {s : ST} {pc q : Nat} {lv : List (Nat × Value)} {rest : List Value} {D : va_G} {cA : ClassId} {h : Nat → Nat} {d0 : Nat} (X : Cx (KM D cA h) p st m args meth c cc nL RX10) {x1 : Int32} {x2 : Int32} {x3 : Int32} (d : decode cc pc = .ok (.invokevirtual 366, 3)) (hq : pc + 3 = q) (hd1 : 2 + 1 ≤ d0) (hd2 : 8 + (4 + 11) + 100 * 2 ≤ 100 * d0) (hr : (rest.map fun v => v.category).sum ≤ 8) {B : Type} {f : ST → Option B} {r : B} (hs : Bd (M_storms s x1 x2 x3) f = some r) (k : ∀ y, f y = some r → WG (KM D cA h) p l e (rmD d0) st m args below meth c Q nL y q lv (rest)) : WG (KM D cA h) p l e (rmD d0) st m args below meth c Q nL s pc lv (.int x3 :: .int x2 :: .int x1 :: .ref (h 0) :: rest) := by
  obtain ⟨v, hv, hs⟩ := Bd_e hs
  exact cV_V X 0 (n := 3) (k_storms l D cA h s x1 x2 x3 hv) gv_X10_storms ⟨hd1, hd2⟩ ⟨by decide, by decide, by decide +kernel⟩ (As := [.int x1, .int x2, .int x3]) rfl hr (Nat.le_of_ble_eq_true rfl) (fs := mF h (s.1 0)) rfl rfl rfl d hq (k _ hs)
theorem dX10_comesUp_0 : decode cX10_comesUp 0 = .ok (.aload_n 0, 1) := by decide +kernel
theorem dX10_comesUp_1 : decode cX10_comesUp 1 = .ok (.iload_n 1, 1) := by decide +kernel
theorem dX10_comesUp_2 : decode cX10_comesUp 2 = .ok (.invokevirtual 134, 3) := by decide +kernel
theorem dX10_comesUp_5 : decode cX10_comesUp 5 = .ok (.istore_n 2, 1) := by decide +kernel
theorem dX10_comesUp_6 : decode cX10_comesUp 6 = .ok (.aload_n 0, 1) := by decide +kernel
theorem dX10_comesUp_7 : decode cX10_comesUp 7 = .ok (.iload_n 2, 1) := by decide +kernel
theorem dX10_comesUp_8 : decode cX10_comesUp 8 = .ok (.iload_n 1, 1) := by decide +kernel
theorem dX10_comesUp_9 : decode cX10_comesUp 9 = .ok (.aload_n 0, 1) := by decide +kernel
theorem dX10_comesUp_10 : decode cX10_comesUp 10 = .ok (.getfield 7, 3) := by decide +kernel
theorem dX10_comesUp_13 : decode cX10_comesUp 13 = .ok (.iconst 0, 1) := by decide +kernel
theorem dX10_comesUp_14 : decode cX10_comesUp 14 = .ok (.iaload, 1) := by decide +kernel
theorem dX10_comesUp_15 : decode cX10_comesUp 15 = .ok (.aload_n 0, 1) := by decide +kernel
theorem dX10_comesUp_16 : decode cX10_comesUp 16 = .ok (.getfield 7, 3) := by decide +kernel
theorem dX10_comesUp_19 : decode cX10_comesUp 19 = .ok (.sipush 133, 3) := by decide +kernel
theorem dX10_comesUp_22 : decode cX10_comesUp 22 = .ok (.iload_n 1, 1) := by decide +kernel
theorem dX10_comesUp_23 : decode cX10_comesUp 23 = .ok (.iadd, 1) := by decide +kernel
theorem dX10_comesUp_24 : decode cX10_comesUp 24 = .ok (.iaload, 1) := by decide +kernel
theorem dX10_comesUp_25 : decode cX10_comesUp 25 = .ok (.isub, 1) := by decide +kernel
theorem dX10_comesUp_26 : decode cX10_comesUp 26 = .ok (.invokevirtual 357, 3) := by decide +kernel
theorem dX10_comesUp_29 : decode cX10_comesUp 29 = .ok (.istore_n 3, 1) := by decide +kernel
theorem dX10_comesUp_30 : decode cX10_comesUp 30 = .ok (.aload_n 0, 1) := by decide +kernel
theorem dX10_comesUp_31 : decode cX10_comesUp 31 = .ok (.getfield 7, 3) := by decide +kernel
theorem dX10_comesUp_34 : decode cX10_comesUp 34 = .ok (.bipush 69, 2) := by decide +kernel
theorem dX10_comesUp_36 : decode cX10_comesUp 36 = .ok (.iload_n 1, 1) := by decide +kernel
theorem dX10_comesUp_37 : decode cX10_comesUp 37 = .ok (.iadd, 1) := by decide +kernel
theorem dX10_comesUp_38 : decode cX10_comesUp 38 = .ok (.iconst 0, 1) := by decide +kernel
theorem dX10_comesUp_39 : decode cX10_comesUp 39 = .ok (.iastore, 1) := by decide +kernel
theorem dX10_comesUp_40 : decode cX10_comesUp 40 = .ok (.aload_n 0, 1) := by decide +kernel
theorem dX10_comesUp_41 : decode cX10_comesUp 41 = .ok (.iload_n 1, 1) := by decide +kernel
theorem dX10_comesUp_42 : decode cX10_comesUp 42 = .ok (.invokevirtual 308, 3) := by decide +kernel
theorem dX10_comesUp_45 : decode cX10_comesUp 45 = .ok (.istore 4, 2) := by decide +kernel
theorem dX10_comesUp_47 : decode cX10_comesUp 47 = .ok (.iload 4, 2) := by decide +kernel
theorem dX10_comesUp_49 : decode cX10_comesUp 49 = .ok (.iconst (-1), 1) := by decide +kernel
theorem dX10_comesUp_50 : decode cX10_comesUp 50 = .ok (.if_icmp .ne 7, 3) := by decide +kernel
theorem dX10_comesUp_53 : decode cX10_comesUp 53 = .ok (.iconst (-1), 1) := by decide +kernel
theorem dX10_comesUp_54 : decode cX10_comesUp 54 = .ok (.goto 10, 3) := by decide +kernel
theorem dX10_comesUp_57 : decode cX10_comesUp 57 = .ok (.aload_n 0, 1) := by decide +kernel
theorem dX10_comesUp_58 : decode cX10_comesUp 58 = .ok (.iload_n 2, 1) := by decide +kernel
theorem dX10_comesUp_59 : decode cX10_comesUp 59 = .ok (.iload 4, 2) := by decide +kernel
theorem dX10_comesUp_61 : decode cX10_comesUp 61 = .ok (.invokevirtual 360, 3) := by decide +kernel
theorem dX10_comesUp_64 : decode cX10_comesUp 64 = .ok (.istore 5, 2) := by decide +kernel
theorem dX10_comesUp_66 : decode cX10_comesUp 66 = .ok (.iload_n 3, 1) := by decide +kernel
theorem dX10_comesUp_67 : decode cX10_comesUp 67 = .ok (.ifCond .eq 29, 3) := by decide +kernel
theorem dX10_comesUp_70 : decode cX10_comesUp 70 = .ok (.iload 4, 2) := by decide +kernel
theorem dX10_comesUp_72 : decode cX10_comesUp 72 = .ok (.iconst (-1), 1) := by decide +kernel
theorem dX10_comesUp_73 : decode cX10_comesUp 73 = .ok (.if_icmp .eq 32, 3) := by decide +kernel
theorem dX10_comesUp_76 : decode cX10_comesUp 76 = .ok (.iload 5, 2) := by decide +kernel
theorem dX10_comesUp_78 : decode cX10_comesUp 78 = .ok (.iconst (-1), 1) := by decide +kernel
theorem dX10_comesUp_79 : decode cX10_comesUp 79 = .ok (.if_icmp .ne 26, 3) := by decide +kernel
theorem dX10_comesUp_82 : decode cX10_comesUp 82 = .ok (.iload_n 3, 1) := by decide +kernel
theorem dX10_comesUp_83 : decode cX10_comesUp 83 = .ok (.aload_n 0, 1) := by decide +kernel
theorem dX10_comesUp_84 : decode cX10_comesUp 84 = .ok (.getfield 7, 3) := by decide +kernel
theorem dX10_comesUp_87 : decode cX10_comesUp 87 = .ok (.sipush 261, 3) := by decide +kernel
theorem dX10_comesUp_90 : decode cX10_comesUp 90 = .ok (.iload_n 1, 1) := by decide +kernel
theorem dX10_comesUp_91 : decode cX10_comesUp 91 = .ok (.iadd, 1) := by decide +kernel
theorem dX10_comesUp_92 : decode cX10_comesUp 92 = .ok (.iaload, 1) := by decide +kernel
theorem dX10_comesUp_93 : decode cX10_comesUp 93 = .ok (.if_icmp .ge 12, 3) := by decide +kernel
theorem dX10_comesUp_96 : decode cX10_comesUp 96 = .ok (.aload_n 0, 1) := by decide +kernel
theorem dX10_comesUp_97 : decode cX10_comesUp 97 = .ok (.iconst 3, 1) := by decide +kernel
theorem dX10_comesUp_98 : decode cX10_comesUp 98 = .ok (.iload_n 1, 1) := by decide +kernel
theorem dX10_comesUp_99 : decode cX10_comesUp 99 = .ok (.iload_n 2, 1) := by decide +kernel
theorem dX10_comesUp_100 : decode cX10_comesUp 100 = .ok (.invokevirtual 330, 3) := by decide +kernel
theorem dX10_comesUp_103 : decode cX10_comesUp 103 = .ok (.iconst 0, 1) := by decide +kernel
theorem dX10_comesUp_104 : decode cX10_comesUp 104 = .ok (.ireturn, 1) := by decide +kernel
theorem dX10_comesUp_105 : decode cX10_comesUp 105 = .ok (.iload 5, 2) := by decide +kernel
theorem dX10_comesUp_107 : decode cX10_comesUp 107 = .ok (.iconst (-1), 1) := by decide +kernel
theorem dX10_comesUp_108 : decode cX10_comesUp 108 = .ok (.if_icmp .eq 37, 3) := by decide +kernel
theorem dX10_comesUp_111 : decode cX10_comesUp 111 = .ok (.aload_n 0, 1) := by decide +kernel
theorem dX10_comesUp_112 : decode cX10_comesUp 112 = .ok (.iload_n 1, 1) := by decide +kernel
theorem dX10_comesUp_113 : decode cX10_comesUp 113 = .ok (.iload 5, 2) := by decide +kernel
theorem dX10_comesUp_115 : decode cX10_comesUp 115 = .ok (.aload_n 0, 1) := by decide +kernel
theorem dX10_comesUp_116 : decode cX10_comesUp 116 = .ok (.aload_n 0, 1) := by decide +kernel
theorem dX10_comesUp_117 : decode cX10_comesUp 117 = .ok (.iload_n 3, 1) := by decide +kernel
theorem dX10_comesUp_118 : decode cX10_comesUp 118 = .ok (.aload_n 0, 1) := by decide +kernel
theorem dX10_comesUp_119 : decode cX10_comesUp 119 = .ok (.getfield 7, 3) := by decide +kernel
theorem dX10_comesUp_122 : decode cX10_comesUp 122 = .ok (.sipush 261, 3) := by decide +kernel
theorem dX10_comesUp_125 : decode cX10_comesUp 125 = .ok (.iload_n 1, 1) := by decide +kernel
theorem dX10_comesUp_126 : decode cX10_comesUp 126 = .ok (.iadd, 1) := by decide +kernel
theorem dX10_comesUp_127 : decode cX10_comesUp 127 = .ok (.iaload, 1) := by decide +kernel
theorem dX10_comesUp_128 : decode cX10_comesUp 128 = .ok (.invokevirtual 363, 3) := by decide +kernel
theorem dX10_comesUp_131 : decode cX10_comesUp 131 = .ok (.iconst 1, 1) := by decide +kernel
theorem dX10_comesUp_132 : decode cX10_comesUp 132 = .ok (.iadd, 1) := by decide +kernel
theorem dX10_comesUp_133 : decode cX10_comesUp 133 = .ok (.iconst 0, 1) := by decide +kernel
theorem dX10_comesUp_134 : decode cX10_comesUp 134 = .ok (.bipush 9, 2) := by decide +kernel
theorem dX10_comesUp_136 : decode cX10_comesUp 136 = .ok (.invokevirtual 327, 3) := by decide +kernel
theorem dX10_comesUp_139 : decode cX10_comesUp 139 = .ok (.invokevirtual 366, 3) := by decide +kernel
theorem dX10_comesUp_142 : decode cX10_comesUp 142 = .ok (.goto 10, 3) := by decide +kernel
theorem dX10_comesUp_145 : decode cX10_comesUp 145 = .ok (.aload_n 0, 1) := by decide +kernel
theorem dX10_comesUp_146 : decode cX10_comesUp 146 = .ok (.iload_n 1, 1) := by decide +kernel
theorem dX10_comesUp_147 : decode cX10_comesUp 147 = .ok (.iload_n 2, 1) := by decide +kernel
theorem dX10_comesUp_148 : decode cX10_comesUp 148 = .ok (.iload_n 3, 1) := by decide +kernel
theorem dX10_comesUp_149 : decode cX10_comesUp 149 = .ok (.invokevirtual 366, 3) := by decide +kernel
theorem dX10_comesUp_152 : decode cX10_comesUp 152 = .ok (.iconst 1, 1) := by decide +kernel
theorem dX10_comesUp_153 : decode cX10_comesUp 153 = .ok (.ireturn, 1) := by decide +kernel
def M_comesUp (s : ST) (x1 : Int32) : Option (Int32 × ST) := Bd (M_seedOf s x1) fun y1 => Lt (s.1 1 0) fun y2 => Gl s 1 389 ((133 : Int32) + x1) fun y3 => Bd (M_gustOf s y1 x1 (y2 - y3)) fun y4 => Gs y4.2 1 389 ((69 : Int32) + x1) (0 : Int32) fun s1 => Bd (M_stormOf s1 x1) fun y5 => Lt (fun (a1 : Int32) => (Lt (Bd (M_notes s1 (3 : Int32) x1 y1) fun s2 => some ((0 : Int32), s2) : Option (Int32 × ST)) fun j2 => if y4.1 = 0 then (j2) else (Lt (if a1 = (-1 : Int32) then (Bd (M_storms s1 x1 y1 y4.1) fun s3 => some ((1 : Int32), s3)) else (Gl s1 1 389 ((261 : Int32) + x1) fun y6 => Lt (M_greater s1 y4.1 y6) fun y7 => Lt (M_held s1 (y7 + (1 : Int32)) (0 : Int32) (9 : Int32)) fun y8 => Bd (M_storms s1 x1 a1 y8) fun s4 => some ((1 : Int32), s4)) : Option (Int32 × ST)) fun j3 => if y5 = (-1 : Int32) then (j3) else (if a1 = (-1 : Int32) then (Gl s1 1 389 ((261 : Int32) + x1) fun y9 => if y9 ≤ y4.1 then (j3) else (j2)) else (j3))) : Option (Int32 × ST))) fun j1 => if y5 = (-1 : Int32) then (j1 (-1 : Int32)) else (Bd (M_crossOf s1 y1 y5) fun y10 => j1 y10)
set_option maxRecDepth 100000 in
set_option maxHeartbeats 4000000 in
theorem k_comesUp (l : Launch) (D : va_G) (cA : ClassId) (h : Nat → Nat) (s : ST) (x1 : Int32) {o : Int32 × ST} (hs : M_comesUp s x1 = some o) : MI l (KM D cA h) 6 yX10_comesUp cX10_comesUp 6 (some .int) s [.ref (h 0), .int x1] o.1 o.2 := by
  refine met_i (by decide) (Nat.le_of_ble_eq_true rfl) ?_
  intro p e st m args below meth c Q X RI
  unfold M_comesUp at hs
  refine g_aload_n X dX10_comesUp_0 (q := 1) rfl 0 rfl ?_
  refine g_iload_n X dX10_comesUp_1 (q := 2) rfl 1 rfl ?_
  refine v_seedOf X dX10_comesUp_2 (q := 5) rfl (Nat.le_of_ble_eq_true rfl) (Nat.le_of_ble_eq_true rfl) (Nat.le_of_ble_eq_true rfl) hs (fun y1 hs => ?_)
  refine g_istore_n X dX10_comesUp_5 (q := 6) rfl (Nat.le_of_ble_eq_true rfl) (lv' := [(2, .int y1), (0, .ref (h 0)), (1, .int x1)]) rfl ?_
  refine g_aload_n X dX10_comesUp_6 (q := 7) rfl 1 rfl ?_
  refine g_iload_n X dX10_comesUp_7 (q := 8) rfl 0 rfl ?_
  refine g_iload_n X dX10_comesUp_8 (q := 9) rfl 2 rfl ?_
  refine g_aload_n X dX10_comesUp_9 (q := 10) rfl 1 rfl ?_
  refine mg_1 X dX10_comesUp_10 (q := 13) rfl ?_
  refine g_iconst X dX10_comesUp_13 (q := 14) rfl li_i0 ?_
  refine mk_1 X dX10_comesUp_14 (q := 15) rfl (j := 0) (by decide) (by decide) hs (fun y2 hs => ?_)
  refine g_aload_n X dX10_comesUp_15 (q := 16) rfl 1 rfl ?_
  refine mg_1 X dX10_comesUp_16 (q := 19) rfl ?_
  refine g_sipush X dX10_comesUp_19 (q := 22) rfl li_s133 ?_
  refine g_iload_n X dX10_comesUp_22 (q := 23) rfl 2 rfl ?_
  refine g_iadd X dX10_comesUp_23 (q := 24) rfl ?_
  refine ma_1 X dX10_comesUp_24 (q := 25) rfl hs (fun y3 hs => ?_)
  refine g_isub X dX10_comesUp_25 (q := 26) rfl ?_
  refine v_gustOf X dX10_comesUp_26 (q := 29) rfl (Nat.le_of_ble_eq_true rfl) (Nat.le_of_ble_eq_true rfl) (Nat.le_of_ble_eq_true rfl) hs (fun y4 hs => ?_)
  refine g_istore_n X dX10_comesUp_29 (q := 30) rfl (Nat.le_of_ble_eq_true rfl) (lv' := [(3, .int y4.1), (2, .int y1), (0, .ref (h 0)), (1, .int x1)]) rfl ?_
  refine g_aload_n X dX10_comesUp_30 (q := 31) rfl 2 rfl ?_
  refine mg_1 X dX10_comesUp_31 (q := 34) rfl ?_
  refine g_bipush X dX10_comesUp_34 (q := 36) rfl li_b69 ?_
  refine g_iload_n X dX10_comesUp_36 (q := 37) rfl 3 rfl ?_
  refine g_iadd X dX10_comesUp_37 (q := 38) rfl ?_
  refine g_iconst X dX10_comesUp_38 (q := 39) rfl li_i0 ?_
  refine ms_1 X dX10_comesUp_39 (q := 40) rfl hs (fun s1 hs => ?_)
  refine g_aload_n X dX10_comesUp_40 (q := 41) rfl 2 rfl ?_
  refine g_iload_n X dX10_comesUp_41 (q := 42) rfl 3 rfl ?_
  refine v_stormOf X dX10_comesUp_42 (q := 45) rfl (Nat.le_of_ble_eq_true rfl) (Nat.le_of_ble_eq_true rfl) (Nat.le_of_ble_eq_true rfl) hs (fun y5 hs => ?_)
  refine g_istore X dX10_comesUp_45 (q := 47) rfl (Nat.le_of_ble_eq_true rfl) (lv' := [(4, .int y5), (3, .int y4.1), (2, .int y1), (0, .ref (h 0)), (1, .int x1)]) rfl ?_
  refine g_iload X dX10_comesUp_47 (q := 49) rfl 0 rfl ?_
  refine g_iconst X dX10_comesUp_49 (q := 50) rfl li_im1 ?_
  refine jnW1 (fun (a1 : Int32) => WG (KM D cA h) p l e (rmD 6) st m args below meth c Q 6 s1 64 [(0, .ref (h 0)), (1, .int x1), (2, .int y1), (3, .int y4.1), (4, .int y5)] [.int a1]) hs (fun a1 hs => ?_) (fun j1 ih1 hs => ?_)
  · refine g_istore X dX10_comesUp_64 (q := 66) rfl (Nat.le_of_ble_eq_true rfl) (lv' := [(5, .int a1), (0, .ref (h 0)), (1, .int x1), (2, .int y1), (3, .int y4.1), (4, .int y5)]) rfl ?_
    refine g_iload_n X dX10_comesUp_66 (q := 67) rfl 4 rfl ?_
    refine jnW0 (WG (KM D cA h) p l e (rmD 6) st m args below meth c Q 6 s1 96 [(0, .ref (h 0)), (1, .int x1), (2, .int y1)] []) hs (fun  hs => ?_) (fun j2 ih2 hs => ?_)
    · refine g_aload_n X dX10_comesUp_96 (q := 97) rfl 0 rfl ?_
      refine g_iconst X dX10_comesUp_97 (q := 98) rfl li_i3 ?_
      refine g_iload_n X dX10_comesUp_98 (q := 99) rfl 1 rfl ?_
      refine g_iload_n X dX10_comesUp_99 (q := 100) rfl 2 rfl ?_
      refine v_notes X dX10_comesUp_100 (q := 103) rfl (Nat.le_of_ble_eq_true rfl) (Nat.le_of_ble_eq_true rfl) (Nat.le_of_ble_eq_true rfl) hs (fun s2 hs => ?_)
      refine g_iconst X dX10_comesUp_103 (q := 104) rfl li_i0 ?_
      exact RI _ 104 _ _ _ (rU1 hs) rfl (rV1 hs) dX10_comesUp_104
    refine g_if_eq X dX10_comesUp_67 (q := 70) rfl (tgt := 96) (by decide) hs ?_ ?_
    · intro hs
      exact wg_sub [1, 2, 3] rfl (ih2 hs)
    · intro hs
      refine g_iload X dX10_comesUp_70 (q := 72) rfl 5 rfl ?_
      refine g_iconst X dX10_comesUp_72 (q := 73) rfl li_im1 ?_
      refine jnW0 (WG (KM D cA h) p l e (rmD 6) st m args below meth c Q 6 s1 105 [(0, .ref (h 0)), (1, .int x1), (2, .int y1), (3, .int y4.1), (5, .int a1)] []) hs (fun  hs => ?_) (fun j3 ih3 hs => ?_)
      · refine g_iload X dX10_comesUp_105 (q := 107) rfl 4 rfl ?_
        refine g_iconst X dX10_comesUp_107 (q := 108) rfl li_im1 ?_
        refine g_icmp_eq X dX10_comesUp_108 (q := 111) rfl (tgt := 145) (by decide) hs ?_ ?_
        · intro hs
          refine g_aload_n X dX10_comesUp_145 (q := 146) rfl 0 rfl ?_
          refine g_iload_n X dX10_comesUp_146 (q := 147) rfl 1 rfl ?_
          refine g_iload_n X dX10_comesUp_147 (q := 148) rfl 2 rfl ?_
          refine g_iload_n X dX10_comesUp_148 (q := 149) rfl 3 rfl ?_
          refine v_storms X dX10_comesUp_149 (q := 152) rfl (Nat.le_of_ble_eq_true rfl) (Nat.le_of_ble_eq_true rfl) (Nat.le_of_ble_eq_true rfl) hs (fun s3 hs => ?_)
          refine g_iconst X dX10_comesUp_152 (q := 153) rfl li_i1 ?_
          exact RI _ 153 _ _ _ (rU1 hs) rfl (rV1 hs) dX10_comesUp_153
        · intro hs
          refine g_aload_n X dX10_comesUp_111 (q := 112) rfl 0 rfl ?_
          refine g_iload_n X dX10_comesUp_112 (q := 113) rfl 1 rfl ?_
          refine g_iload X dX10_comesUp_113 (q := 115) rfl 4 rfl ?_
          refine g_aload_n X dX10_comesUp_115 (q := 116) rfl 0 rfl ?_
          refine g_aload_n X dX10_comesUp_116 (q := 117) rfl 0 rfl ?_
          refine g_iload_n X dX10_comesUp_117 (q := 118) rfl 3 rfl ?_
          refine g_aload_n X dX10_comesUp_118 (q := 119) rfl 0 rfl ?_
          refine mg_1 X dX10_comesUp_119 (q := 122) rfl ?_
          refine g_sipush X dX10_comesUp_122 (q := 125) rfl li_s261 ?_
          refine g_iload_n X dX10_comesUp_125 (q := 126) rfl 1 rfl ?_
          refine g_iadd X dX10_comesUp_126 (q := 127) rfl ?_
          refine ma_1 X dX10_comesUp_127 (q := 128) rfl hs (fun y6 hs => ?_)
          refine v_greater X dX10_comesUp_128 (q := 131) rfl (Nat.le_of_ble_eq_true rfl) (Nat.le_of_ble_eq_true rfl) (Nat.le_of_ble_eq_true rfl) hs (fun y7 hs => ?_)
          refine g_iconst X dX10_comesUp_131 (q := 132) rfl li_i1 ?_
          refine g_iadd X dX10_comesUp_132 (q := 133) rfl ?_
          refine g_iconst X dX10_comesUp_133 (q := 134) rfl li_i0 ?_
          refine g_bipush X dX10_comesUp_134 (q := 136) rfl li_b9 ?_
          refine v_held X dX10_comesUp_136 (q := 139) rfl (Nat.le_of_ble_eq_true rfl) (Nat.le_of_ble_eq_true rfl) (Nat.le_of_ble_eq_true rfl) hs (fun y8 hs => ?_)
          refine v_storms X dX10_comesUp_139 (q := 142) rfl (Nat.le_of_ble_eq_true rfl) (Nat.le_of_ble_eq_true rfl) (Nat.le_of_ble_eq_true rfl) hs (fun s4 hs => ?_)
          refine g_goto X dX10_comesUp_142 (tgt := 152) (by decide) ?_
          refine g_iconst X dX10_comesUp_152 (q := 153) rfl li_i1 ?_
          exact RI _ 153 _ _ _ (rU1 hs) rfl (rV1 hs) dX10_comesUp_153
      refine g_icmp_eq X dX10_comesUp_73 (q := 76) rfl (tgt := 105) (by decide) hs ?_ ?_
      · intro hs
        exact wg_sub [1, 2, 3, 4, 0] rfl (ih3 hs)
      · intro hs
        refine g_iload X dX10_comesUp_76 (q := 78) rfl 0 rfl ?_
        refine g_iconst X dX10_comesUp_78 (q := 79) rfl li_im1 ?_
        refine g_icmp_ne X dX10_comesUp_79 (q := 82) rfl (tgt := 105) (by decide) hs ?_ ?_
        · intro hs
          exact wg_sub [1, 2, 3, 4, 0] rfl (ih3 hs)
        · intro hs
          refine g_iload_n X dX10_comesUp_82 (q := 83) rfl 4 rfl ?_
          refine g_aload_n X dX10_comesUp_83 (q := 84) rfl 1 rfl ?_
          refine mg_1 X dX10_comesUp_84 (q := 87) rfl ?_
          refine g_sipush X dX10_comesUp_87 (q := 90) rfl li_s261 ?_
          refine g_iload_n X dX10_comesUp_90 (q := 91) rfl 2 rfl ?_
          refine g_iadd X dX10_comesUp_91 (q := 92) rfl ?_
          refine ma_1 X dX10_comesUp_92 (q := 93) rfl hs (fun y9 hs => ?_)
          refine g_icmp_ge X dX10_comesUp_93 (q := 96) rfl (tgt := 105) (by decide) hs ?_ ?_
          · intro hs
            exact wg_sub [1, 2, 3, 4, 0] rfl (ih3 hs)
          · intro hs
            exact wg_sub [1, 2, 3] rfl (ih2 hs)
  refine g_icmp_ne X dX10_comesUp_50 (q := 53) rfl (tgt := 57) (by decide) hs ?_ ?_
  · intro hs
    refine g_aload_n X dX10_comesUp_57 (q := 58) rfl 3 rfl ?_
    refine g_iload_n X dX10_comesUp_58 (q := 59) rfl 2 rfl ?_
    refine g_iload X dX10_comesUp_59 (q := 61) rfl 0 rfl ?_
    refine v_crossOf X dX10_comesUp_61 (q := 64) rfl (Nat.le_of_ble_eq_true rfl) (Nat.le_of_ble_eq_true rfl) (Nat.le_of_ble_eq_true rfl) hs (fun y10 hs => ?_)
    exact wg_sub [3, 4, 2, 1, 0] rfl (ih1 _ hs)
  · intro hs
    refine g_iconst X dX10_comesUp_53 (q := 54) rfl li_im1 ?_
    refine g_goto X dX10_comesUp_54 (tgt := 64) (by decide) ?_
    exact wg_sub [3, 4, 2, 1, 0] rfl (ih1 _ hs)
theorem v_comesUp {p : Program} {l : Launch} {e : Env} {st : State} {m : MethodId} {args : Array Value} {below : List Frame} {meth : Method} {c : Code} {Q : State → Prop} {nL : Nat} {cc : ByteArray} {s : ST} {pc q : Nat} {lv : List (Nat × Value)} {rest : List Value} {D : va_G} {cA : ClassId} {h : Nat → Nat} {d0 : Nat} (X : Cx (KM D cA h) p st m args meth c cc nL RX10) {x1 : Int32} (d : decode cc pc = .ok (.invokevirtual 369, 3)) (hq : pc + 3 = q) (hd1 : 6 + 1 ≤ d0) (hd2 : 8 + (6 + 11) + 100 * 6 ≤ 100 * d0) (hr : (rest.map fun v => v.category).sum ≤ 8) {B : Type} {f : Int32 × ST → Option B} {r : B} (hs : Bd (M_comesUp s x1) f = some r) (k : ∀ y, f y = some r → WG (KM D cA h) p l e (rmD d0) st m args below meth c Q nL y.2 q lv (.int y.1 :: rest)) : WG (KM D cA h) p l e (rmD d0) st m args below meth c Q nL s pc lv (.int x1 :: .ref (h 0) :: rest) := by
  obtain ⟨v, hv, hs⟩ := Bd_e hs
  exact cV_I X 0 (n := 1) (k_comesUp l D cA h s x1 hv) gv_X10_comesUp ⟨hd1, hd2⟩ ⟨by decide, by decide, by decide +kernel⟩ (As := [.int x1]) rfl hr (Nat.le_of_ble_eq_true rfl) (fs := mF h (s.1 0)) rfl rfl rfl d hq (k _ hs)
theorem dX10_comeUp_0 : decode cX10_comeUp 0 = .ok (.iconst 0, 1) := by decide +kernel
theorem dX10_comeUp_1 : decode cX10_comeUp 1 = .ok (.istore_n 1, 1) := by decide +kernel
theorem dX10_comeUp_2 : decode cX10_comeUp 2 = .ok (.iconst 0, 1) := by decide +kernel
theorem dX10_comeUp_3 : decode cX10_comeUp 3 = .ok (.istore_n 2, 1) := by decide +kernel
theorem dX10_comeUp_4 : decode cX10_comeUp 4 = .ok (.iload_n 2, 1) := by decide +kernel
theorem dX10_comeUp_5 : decode cX10_comeUp 5 = .ok (.bipush 64, 2) := by decide +kernel
theorem dX10_comeUp_7 : decode cX10_comeUp 7 = .ok (.if_icmp .ge 64, 3) := by decide +kernel
theorem dX10_comeUp_10 : decode cX10_comeUp 10 = .ok (.aload_n 0, 1) := by decide +kernel
theorem dX10_comeUp_11 : decode cX10_comeUp 11 = .ok (.iload_n 2, 1) := by decide +kernel
theorem dX10_comeUp_12 : decode cX10_comeUp 12 = .ok (.invokevirtual 130, 3) := by decide +kernel
theorem dX10_comeUp_15 : decode cX10_comeUp 15 = .ok (.ifCond .eq 50, 3) := by decide +kernel
theorem dX10_comeUp_18 : decode cX10_comeUp 18 = .ok (.aload_n 0, 1) := by decide +kernel
theorem dX10_comeUp_19 : decode cX10_comeUp 19 = .ok (.iload_n 2, 1) := by decide +kernel
theorem dX10_comeUp_20 : decode cX10_comeUp 20 = .ok (.invokevirtual 134, 3) := by decide +kernel
theorem dX10_comeUp_23 : decode cX10_comeUp 23 = .ok (.iconst (-1), 1) := by decide +kernel
theorem dX10_comeUp_24 : decode cX10_comeUp 24 = .ok (.if_icmp .eq 41, 3) := by decide +kernel
theorem dX10_comeUp_27 : decode cX10_comeUp 27 = .ok (.aload_n 0, 1) := by decide +kernel
theorem dX10_comeUp_28 : decode cX10_comeUp 28 = .ok (.getfield 7, 3) := by decide +kernel
theorem dX10_comeUp_31 : decode cX10_comeUp 31 = .ok (.iconst 0, 1) := by decide +kernel
theorem dX10_comeUp_32 : decode cX10_comeUp 32 = .ok (.iaload, 1) := by decide +kernel
theorem dX10_comeUp_33 : decode cX10_comeUp 33 = .ok (.aload_n 0, 1) := by decide +kernel
theorem dX10_comeUp_34 : decode cX10_comeUp 34 = .ok (.getfield 7, 3) := by decide +kernel
theorem dX10_comeUp_37 : decode cX10_comeUp 37 = .ok (.sipush 133, 3) := by decide +kernel
theorem dX10_comeUp_40 : decode cX10_comeUp 40 = .ok (.iload_n 2, 1) := by decide +kernel
theorem dX10_comeUp_41 : decode cX10_comeUp 41 = .ok (.iadd, 1) := by decide +kernel
theorem dX10_comeUp_42 : decode cX10_comeUp 42 = .ok (.iaload, 1) := by decide +kernel
theorem dX10_comeUp_43 : decode cX10_comeUp 43 = .ok (.isub, 1) := by decide +kernel
theorem dX10_comeUp_44 : decode cX10_comeUp 44 = .ok (.aload_n 0, 1) := by decide +kernel
theorem dX10_comeUp_45 : decode cX10_comeUp 45 = .ok (.aload_n 0, 1) := by decide +kernel
theorem dX10_comeUp_46 : decode cX10_comeUp 46 = .ok (.iload_n 2, 1) := by decide +kernel
theorem dX10_comeUp_47 : decode cX10_comeUp 47 = .ok (.invokevirtual 134, 3) := by decide +kernel
theorem dX10_comeUp_50 : decode cX10_comeUp 50 = .ok (.iconst 0, 1) := by decide +kernel
theorem dX10_comeUp_51 : decode cX10_comeUp 51 = .ok (.invokevirtual 354, 3) := by decide +kernel
theorem dX10_comeUp_54 : decode cX10_comeUp 54 = .ok (.if_icmp .lt 11, 3) := by decide +kernel
theorem dX10_comeUp_57 : decode cX10_comeUp 57 = .ok (.iload_n 1, 1) := by decide +kernel
theorem dX10_comeUp_58 : decode cX10_comeUp 58 = .ok (.aload_n 0, 1) := by decide +kernel
theorem dX10_comeUp_59 : decode cX10_comeUp 59 = .ok (.iload_n 2, 1) := by decide +kernel
theorem dX10_comeUp_60 : decode cX10_comeUp 60 = .ok (.invokevirtual 369, 3) := by decide +kernel
theorem dX10_comeUp_63 : decode cX10_comeUp 63 = .ok (.iadd, 1) := by decide +kernel
theorem dX10_comeUp_64 : decode cX10_comeUp 64 = .ok (.istore_n 1, 1) := by decide +kernel
theorem dX10_comeUp_65 : decode cX10_comeUp 65 = .ok (.iinc 2 1, 3) := by decide +kernel
theorem dX10_comeUp_68 : decode cX10_comeUp 68 = .ok (.goto (-64), 3) := by decide +kernel
theorem dX10_comeUp_71 : decode cX10_comeUp 71 = .ok (.iload_n 1, 1) := by decide +kernel
theorem dX10_comeUp_72 : decode cX10_comeUp 72 = .ok (.ireturn, 1) := by decide +kernel
def M_comeUp (s : ST) : Option (Int32 × ST) := lpK3 (C := Int32 × ST) (fun (rec1 : Int32 → Int32 → ST → Option (Int32 × ST)) (a1 : Int32) (a2 : Int32) (s1 : ST) => if (64 : Int32) ≤ a2 then (some (a1, s1)) else (Lt (M_isCell s1 a2) fun y1 => Lt (fun (a3 : Int32) (s2 : ST) => (rec1 a3 (a2 + (1 : Int32)) s2 : Option (Int32 × ST))) fun j1 => if y1 = 0 then (j1 a1 s1) else (Bd (M_seedOf s1 a2) fun y2 => if y2 = (-1 : Int32) then (j1 a1 s1) else (Lt (s1.1 1 0) fun y3 => Gl s1 1 389 ((133 : Int32) + a2) fun y4 => Bd (M_seedOf s1 a2) fun y5 => Bd (M_ofKind s1 y5 (0 : Int32)) fun y6 => if (y3 - y4) < y6 then (j1 a1 s1) else (Bd (M_comesUp s1 a2) fun y7 => Lt ((a1 + y7.1)) fun y8 => j1 y8 y7.2))))) FU (0 : Int32) (0 : Int32) s
set_option maxRecDepth 100000 in
set_option maxHeartbeats 4000000 in
theorem k_comeUp (l : Launch) (D : va_G) (cA : ClassId) (h : Nat → Nat) (s : ST) {o : Int32 × ST} (hs : M_comeUp s = some o) : MI l (KM D cA h) 7 yX10_comeUp cX10_comeUp 3 (some .int) s [.ref (h 0)] o.1 o.2 := by
  refine met_i (by decide) (Nat.le_of_ble_eq_true rfl) ?_
  intro p e st m args below meth c Q X RI
  unfold M_comeUp at hs
  refine g_iconst X dX10_comeUp_0 (q := 1) rfl li_i0 ?_
  refine g_istore_n X dX10_comeUp_1 (q := 2) rfl (Nat.le_of_ble_eq_true rfl) (lv' := [(1, .int (0 : Int32)), (0, .ref (h 0))]) rfl ?_
  refine g_iconst X dX10_comeUp_2 (q := 3) rfl li_i0 ?_
  refine g_istore_n X dX10_comeUp_3 (q := 4) rfl (Nat.le_of_ble_eq_true rfl) (lv' := [(2, .int (0 : Int32)), (1, .int (0 : Int32)), (0, .ref (h 0))]) rfl ?_
  refine wg_sub [2, 1, 0] rfl (lpW3 (fun (a1 : Int32) (a2 : Int32) (s1 : ST) => WG (KM D cA h) p l e (rmD 7) st m args below meth c Q 3 s1 4 [(0, .ref (h 0)), (1, .int a1), (2, .int a2)] []) (fun rec1 ih1 a1 a2 s1 hs => ?_) _ _ _ _ hs)
  refine g_iload_n X dX10_comeUp_4 (q := 5) rfl 2 rfl ?_
  refine g_bipush X dX10_comeUp_5 (q := 7) rfl li_b64 ?_
  refine g_icmp_ge X dX10_comeUp_7 (q := 10) rfl (tgt := 71) (by decide) hs ?_ ?_
  · intro hs
    refine g_iload_n X dX10_comeUp_71 (q := 72) rfl 1 rfl ?_
    exact RI _ 72 _ _ _ (rU1 hs) rfl (rV1 hs) dX10_comeUp_72
  · intro hs
    refine g_aload_n X dX10_comeUp_10 (q := 11) rfl 0 rfl ?_
    refine g_iload_n X dX10_comeUp_11 (q := 12) rfl 2 rfl ?_
    refine v_isCell X dX10_comeUp_12 (q := 15) rfl (Nat.le_of_ble_eq_true rfl) (Nat.le_of_ble_eq_true rfl) (Nat.le_of_ble_eq_true rfl) hs (fun y1 hs => ?_)
    refine jnW2 (fun (a3 : Int32) (s2 : ST) => WG (KM D cA h) p l e (rmD 7) st m args below meth c Q 3 s2 65 [(0, .ref (h 0)), (1, .int a3), (2, .int a2)] []) hs (fun a3 s2 hs => ?_) (fun j1 ih2 hs => ?_)
    · refine g_iinc X dX10_comeUp_65 (q := 68) rfl 2 rfl (v := (a2 + (1 : Int32))) (congrArg (HAdd.hAdd a2) li_i1) (Nat.le_of_ble_eq_true rfl) (lv' := [(2, .int (a2 + (1 : Int32))), (0, .ref (h 0)), (1, .int a3)]) rfl ?_
      refine g_goto X dX10_comeUp_68 (tgt := 4) (by decide) ?_
      exact wg_sub [1, 2, 0] rfl (ih1 _ _ _ hs)
    refine g_if_eq X dX10_comeUp_15 (q := 18) rfl (tgt := 65) (by decide) hs ?_ ?_
    · intro hs
      exact wg_sub [0, 1, 2] rfl (ih2 _ _ hs)
    · intro hs
      refine g_aload_n X dX10_comeUp_18 (q := 19) rfl 0 rfl ?_
      refine g_iload_n X dX10_comeUp_19 (q := 20) rfl 2 rfl ?_
      refine v_seedOf X dX10_comeUp_20 (q := 23) rfl (Nat.le_of_ble_eq_true rfl) (Nat.le_of_ble_eq_true rfl) (Nat.le_of_ble_eq_true rfl) hs (fun y2 hs => ?_)
      refine g_iconst X dX10_comeUp_23 (q := 24) rfl li_im1 ?_
      refine g_icmp_eq X dX10_comeUp_24 (q := 27) rfl (tgt := 65) (by decide) hs ?_ ?_
      · intro hs
        exact wg_sub [0, 1, 2] rfl (ih2 _ _ hs)
      · intro hs
        refine g_aload_n X dX10_comeUp_27 (q := 28) rfl 0 rfl ?_
        refine mg_1 X dX10_comeUp_28 (q := 31) rfl ?_
        refine g_iconst X dX10_comeUp_31 (q := 32) rfl li_i0 ?_
        refine mk_1 X dX10_comeUp_32 (q := 33) rfl (j := 0) (by decide) (by decide) hs (fun y3 hs => ?_)
        refine g_aload_n X dX10_comeUp_33 (q := 34) rfl 0 rfl ?_
        refine mg_1 X dX10_comeUp_34 (q := 37) rfl ?_
        refine g_sipush X dX10_comeUp_37 (q := 40) rfl li_s133 ?_
        refine g_iload_n X dX10_comeUp_40 (q := 41) rfl 2 rfl ?_
        refine g_iadd X dX10_comeUp_41 (q := 42) rfl ?_
        refine ma_1 X dX10_comeUp_42 (q := 43) rfl hs (fun y4 hs => ?_)
        refine g_isub X dX10_comeUp_43 (q := 44) rfl ?_
        refine g_aload_n X dX10_comeUp_44 (q := 45) rfl 0 rfl ?_
        refine g_aload_n X dX10_comeUp_45 (q := 46) rfl 0 rfl ?_
        refine g_iload_n X dX10_comeUp_46 (q := 47) rfl 2 rfl ?_
        refine v_seedOf X dX10_comeUp_47 (q := 50) rfl (Nat.le_of_ble_eq_true rfl) (Nat.le_of_ble_eq_true rfl) (Nat.le_of_ble_eq_true rfl) hs (fun y5 hs => ?_)
        refine g_iconst X dX10_comeUp_50 (q := 51) rfl li_i0 ?_
        refine v_ofKind X dX10_comeUp_51 (q := 54) rfl (Nat.le_of_ble_eq_true rfl) (Nat.le_of_ble_eq_true rfl) (Nat.le_of_ble_eq_true rfl) hs (fun y6 hs => ?_)
        refine g_icmp_lt X dX10_comeUp_54 (q := 57) rfl (tgt := 65) (by decide) hs ?_ ?_
        · intro hs
          exact wg_sub [0, 1, 2] rfl (ih2 _ _ hs)
        · intro hs
          refine g_iload_n X dX10_comeUp_57 (q := 58) rfl 1 rfl ?_
          refine g_aload_n X dX10_comeUp_58 (q := 59) rfl 0 rfl ?_
          refine g_iload_n X dX10_comeUp_59 (q := 60) rfl 2 rfl ?_
          refine v_comesUp X dX10_comeUp_60 (q := 63) rfl (Nat.le_of_ble_eq_true rfl) (Nat.le_of_ble_eq_true rfl) (Nat.le_of_ble_eq_true rfl) hs (fun y7 hs => ?_)
          refine g_iadd X dX10_comeUp_63 (q := 64) rfl ?_
          refine nmI hs (fun y8 hs => ?_)
          refine g_istore_n X dX10_comeUp_64 (q := 65) rfl (Nat.le_of_ble_eq_true rfl) (lv' := [(1, .int y8), (0, .ref (h 0)), (2, .int a2)]) rfl ?_
          exact wg_sub [1, 0, 2] rfl (ih2 _ _ hs)
theorem v_comeUp {p : Program} {l : Launch} {e : Env} {st : State} {m : MethodId} {args : Array Value} {below : List Frame} {meth : Method} {c : Code} {Q : State → Prop} {nL : Nat} {cc : ByteArray} {s : ST} {pc q : Nat} {lv : List (Nat × Value)} {rest : List Value} {D : va_G} {cA : ClassId} {h : Nat → Nat} {d0 : Nat} (X : Cx (KM D cA h) p st m args meth c cc nL RX10) (d : decode cc pc = .ok (.invokevirtual 384, 3)) (hq : pc + 3 = q) (hd1 : 7 + 1 ≤ d0) (hd2 : 8 + (3 + 11) + 100 * 7 ≤ 100 * d0) (hr : (rest.map fun v => v.category).sum ≤ 8) {B : Type} {f : Int32 × ST → Option B} {r : B} (hs : Bd (M_comeUp s) f = some r) (k : ∀ y, f y = some r → WG (KM D cA h) p l e (rmD d0) st m args below meth c Q nL y.2 q lv (.int y.1 :: rest)) : WG (KM D cA h) p l e (rmD d0) st m args below meth c Q nL s pc lv (.ref (h 0) :: rest) := by
  obtain ⟨v, hv, hs⟩ := Bd_e hs
  exact cV_I X 0 (n := 0) (k_comeUp l D cA h s hv) gv_X10_comeUp ⟨hd1, hd2⟩ ⟨by decide, by decide, by decide +kernel⟩ (As := []) rfl hr (Nat.le_of_ble_eq_true rfl) (fs := mF h (s.1 0)) rfl rfl rfl d hq (k _ hs)
theorem dX10_doesHarm_0 : decode cX10_doesHarm 0 = .ok (.iconst 0, 1) := by decide +kernel
theorem dX10_doesHarm_1 : decode cX10_doesHarm 1 = .ok (.istore_n 1, 1) := by decide +kernel
theorem dX10_doesHarm_2 : decode cX10_doesHarm 2 = .ok (.iconst 0, 1) := by decide +kernel
theorem dX10_doesHarm_3 : decode cX10_doesHarm 3 = .ok (.istore_n 2, 1) := by decide +kernel
theorem dX10_doesHarm_4 : decode cX10_doesHarm 4 = .ok (.iload_n 2, 1) := by decide +kernel
theorem dX10_doesHarm_5 : decode cX10_doesHarm 5 = .ok (.bipush 64, 2) := by decide +kernel
theorem dX10_doesHarm_7 : decode cX10_doesHarm 7 = .ok (.if_icmp .ge 25, 3) := by decide +kernel
theorem dX10_doesHarm_10 : decode cX10_doesHarm 10 = .ok (.aload_n 0, 1) := by decide +kernel
theorem dX10_doesHarm_11 : decode cX10_doesHarm 11 = .ok (.iload_n 2, 1) := by decide +kernel
theorem dX10_doesHarm_12 : decode cX10_doesHarm 12 = .ok (.invokevirtual 130, 3) := by decide +kernel
theorem dX10_doesHarm_15 : decode cX10_doesHarm 15 = .ok (.ifCond .eq 11, 3) := by decide +kernel
theorem dX10_doesHarm_18 : decode cX10_doesHarm 18 = .ok (.iload_n 1, 1) := by decide +kernel
theorem dX10_doesHarm_19 : decode cX10_doesHarm 19 = .ok (.aload_n 0, 1) := by decide +kernel
theorem dX10_doesHarm_20 : decode cX10_doesHarm 20 = .ok (.iload_n 2, 1) := by decide +kernel
theorem dX10_doesHarm_21 : decode cX10_doesHarm 21 = .ok (.invokevirtual 372, 3) := by decide +kernel
theorem dX10_doesHarm_24 : decode cX10_doesHarm 24 = .ok (.iadd, 1) := by decide +kernel
theorem dX10_doesHarm_25 : decode cX10_doesHarm 25 = .ok (.istore_n 1, 1) := by decide +kernel
theorem dX10_doesHarm_26 : decode cX10_doesHarm 26 = .ok (.iinc 2 1, 3) := by decide +kernel
theorem dX10_doesHarm_29 : decode cX10_doesHarm 29 = .ok (.goto (-25), 3) := by decide +kernel
theorem dX10_doesHarm_32 : decode cX10_doesHarm 32 = .ok (.aload_n 0, 1) := by decide +kernel
theorem dX10_doesHarm_33 : decode cX10_doesHarm 33 = .ok (.getfield 7, 3) := by decide +kernel
theorem dX10_doesHarm_36 : decode cX10_doesHarm 36 = .ok (.iconst 4, 1) := by decide +kernel
theorem dX10_doesHarm_37 : decode cX10_doesHarm 37 = .ok (.aload_n 0, 1) := by decide +kernel
theorem dX10_doesHarm_38 : decode cX10_doesHarm 38 = .ok (.getfield 7, 3) := by decide +kernel
theorem dX10_doesHarm_41 : decode cX10_doesHarm 41 = .ok (.iconst 4, 1) := by decide +kernel
theorem dX10_doesHarm_42 : decode cX10_doesHarm 42 = .ok (.iaload, 1) := by decide +kernel
theorem dX10_doesHarm_43 : decode cX10_doesHarm 43 = .ok (.iload_n 1, 1) := by decide +kernel
theorem dX10_doesHarm_44 : decode cX10_doesHarm 44 = .ok (.iadd, 1) := by decide +kernel
theorem dX10_doesHarm_45 : decode cX10_doesHarm 45 = .ok (.iastore, 1) := by decide +kernel
theorem dX10_doesHarm_46 : decode cX10_doesHarm 46 = .ok (.iconst 0, 1) := by decide +kernel
theorem dX10_doesHarm_47 : decode cX10_doesHarm 47 = .ok (.istore_n 2, 1) := by decide +kernel
theorem dX10_doesHarm_48 : decode cX10_doesHarm 48 = .ok (.iload_n 2, 1) := by decide +kernel
theorem dX10_doesHarm_49 : decode cX10_doesHarm 49 = .ok (.bipush 64, 2) := by decide +kernel
theorem dX10_doesHarm_51 : decode cX10_doesHarm 51 = .ok (.if_icmp .ge 90, 3) := by decide +kernel
theorem dX10_doesHarm_54 : decode cX10_doesHarm 54 = .ok (.aload_n 0, 1) := by decide +kernel
theorem dX10_doesHarm_55 : decode cX10_doesHarm 55 = .ok (.iload_n 2, 1) := by decide +kernel
theorem dX10_doesHarm_56 : decode cX10_doesHarm 56 = .ok (.invokevirtual 130, 3) := by decide +kernel
theorem dX10_doesHarm_59 : decode cX10_doesHarm 59 = .ok (.ifCond .ne 6, 3) := by decide +kernel
theorem dX10_doesHarm_62 : decode cX10_doesHarm 62 = .ok (.goto 73, 3) := by decide +kernel
theorem dX10_doesHarm_65 : decode cX10_doesHarm 65 = .ok (.aload_n 0, 1) := by decide +kernel
theorem dX10_doesHarm_66 : decode cX10_doesHarm 66 = .ok (.iload_n 2, 1) := by decide +kernel
theorem dX10_doesHarm_67 : decode cX10_doesHarm 67 = .ok (.invokevirtual 308, 3) := by decide +kernel
theorem dX10_doesHarm_70 : decode cX10_doesHarm 70 = .ok (.iconst (-1), 1) := by decide +kernel
theorem dX10_doesHarm_71 : decode cX10_doesHarm 71 = .ok (.if_icmp .eq 23, 3) := by decide +kernel
theorem dX10_doesHarm_74 : decode cX10_doesHarm 74 = .ok (.aload_n 0, 1) := by decide +kernel
theorem dX10_doesHarm_75 : decode cX10_doesHarm 75 = .ok (.iconst 1, 1) := by decide +kernel
theorem dX10_doesHarm_76 : decode cX10_doesHarm 76 = .ok (.aload_n 0, 1) := by decide +kernel
theorem dX10_doesHarm_77 : decode cX10_doesHarm 77 = .ok (.getfield 7, 3) := by decide +kernel
theorem dX10_doesHarm_80 : decode cX10_doesHarm 80 = .ok (.sipush 261, 3) := by decide +kernel
theorem dX10_doesHarm_83 : decode cX10_doesHarm 83 = .ok (.iload_n 2, 1) := by decide +kernel
theorem dX10_doesHarm_84 : decode cX10_doesHarm 84 = .ok (.iadd, 1) := by decide +kernel
theorem dX10_doesHarm_85 : decode cX10_doesHarm 85 = .ok (.iaload, 1) := by decide +kernel
theorem dX10_doesHarm_86 : decode cX10_doesHarm 86 = .ok (.iconst 3, 1) := by decide +kernel
theorem dX10_doesHarm_87 : decode cX10_doesHarm 87 = .ok (.idiv, 1) := by decide +kernel
theorem dX10_doesHarm_88 : decode cX10_doesHarm 88 = .ok (.invokevirtual 363, 3) := by decide +kernel
theorem dX10_doesHarm_91 : decode cX10_doesHarm 91 = .ok (.goto 19, 3) := by decide +kernel
theorem dX10_doesHarm_94 : decode cX10_doesHarm 94 = .ok (.aload_n 0, 1) := by decide +kernel
theorem dX10_doesHarm_95 : decode cX10_doesHarm 95 = .ok (.getfield 7, 3) := by decide +kernel
theorem dX10_doesHarm_98 : decode cX10_doesHarm 98 = .ok (.iconst 0, 1) := by decide +kernel
theorem dX10_doesHarm_99 : decode cX10_doesHarm 99 = .ok (.iaload, 1) := by decide +kernel
theorem dX10_doesHarm_100 : decode cX10_doesHarm 100 = .ok (.iconst 2, 1) := by decide +kernel
theorem dX10_doesHarm_101 : decode cX10_doesHarm 101 = .ok (.irem, 1) := by decide +kernel
theorem dX10_doesHarm_102 : decode cX10_doesHarm 102 = .ok (.ifCond .ne 7, 3) := by decide +kernel
theorem dX10_doesHarm_105 : decode cX10_doesHarm 105 = .ok (.iconst (-1), 1) := by decide +kernel
theorem dX10_doesHarm_106 : decode cX10_doesHarm 106 = .ok (.goto 4, 3) := by decide +kernel
theorem dX10_doesHarm_109 : decode cX10_doesHarm 109 = .ok (.iconst 0, 1) := by decide +kernel
theorem dX10_doesHarm_110 : decode cX10_doesHarm 110 = .ok (.istore_n 3, 1) := by decide +kernel
theorem dX10_doesHarm_111 : decode cX10_doesHarm 111 = .ok (.aload_n 0, 1) := by decide +kernel
theorem dX10_doesHarm_112 : decode cX10_doesHarm 112 = .ok (.getfield 7, 3) := by decide +kernel
theorem dX10_doesHarm_115 : decode cX10_doesHarm 115 = .ok (.iconst 5, 1) := by decide +kernel
theorem dX10_doesHarm_116 : decode cX10_doesHarm 116 = .ok (.iload_n 2, 1) := by decide +kernel
theorem dX10_doesHarm_117 : decode cX10_doesHarm 117 = .ok (.iadd, 1) := by decide +kernel
theorem dX10_doesHarm_118 : decode cX10_doesHarm 118 = .ok (.aload_n 0, 1) := by decide +kernel
theorem dX10_doesHarm_119 : decode cX10_doesHarm 119 = .ok (.aload_n 0, 1) := by decide +kernel
theorem dX10_doesHarm_120 : decode cX10_doesHarm 120 = .ok (.iload_n 2, 1) := by decide +kernel
theorem dX10_doesHarm_121 : decode cX10_doesHarm 121 = .ok (.invokevirtual 311, 3) := by decide +kernel
theorem dX10_doesHarm_124 : decode cX10_doesHarm 124 = .ok (.iload_n 3, 1) := by decide +kernel
theorem dX10_doesHarm_125 : decode cX10_doesHarm 125 = .ok (.iadd, 1) := by decide +kernel
theorem dX10_doesHarm_126 : decode cX10_doesHarm 126 = .ok (.iconst 0, 1) := by decide +kernel
theorem dX10_doesHarm_127 : decode cX10_doesHarm 127 = .ok (.bipush 9, 2) := by decide +kernel
theorem dX10_doesHarm_129 : decode cX10_doesHarm 129 = .ok (.invokevirtual 327, 3) := by decide +kernel
theorem dX10_doesHarm_132 : decode cX10_doesHarm 132 = .ok (.iconst 3, 1) := by decide +kernel
theorem dX10_doesHarm_133 : decode cX10_doesHarm 133 = .ok (.isub, 1) := by decide +kernel
theorem dX10_doesHarm_134 : decode cX10_doesHarm 134 = .ok (.iastore, 1) := by decide +kernel
theorem dX10_doesHarm_135 : decode cX10_doesHarm 135 = .ok (.iinc 2 1, 3) := by decide +kernel
theorem dX10_doesHarm_138 : decode cX10_doesHarm 138 = .ok (.goto (-90), 3) := by decide +kernel
theorem dX10_doesHarm_141 : decode cX10_doesHarm 141 = .ok (.return_, 1) := by decide +kernel
def M_doesHarm (s : ST) : Option (ST) := lpK3 (C := ST) (fun (rec1 : Int32 → Int32 → ST → Option (ST)) (a1 : Int32) (a2 : Int32) (s1 : ST) => if (64 : Int32) ≤ a2 then (Lt (s1.1 1 4) fun y1 => Lt (ups s1 1 4 (y1 + a1)) fun s2 => lpK2 (C := ST) (fun (rec2 : Int32 → ST → Option (ST)) (a3 : Int32) (s3 : ST) => if (64 : Int32) ≤ a3 then (some s3) else (Lt (M_isCell s3 a3) fun y2 => Lt (fun (s4 : ST) => (rec2 (a3 + (1 : Int32)) s4 : Option (ST))) fun j1 => if y2 = 0 then (j1 s3) else (Bd (M_stormOf s3 a3) fun y3 => Lt (fun (a4 : Int32) => (Bd (M_wetOf s3 a3) fun y4 => Lt (M_held s3 (y4 + a4) (0 : Int32) (9 : Int32)) fun y5 => Gs s3 1 389 ((5 : Int32) + a3) (y5 - (3 : Int32)) fun s5 => j1 s5 : Option (ST))) fun j2 => if y3 = (-1 : Int32) then (Lt (s3.1 1 0) fun y6 => if (irm y6 (2 : Int32)) = 0 then (j2 (-1 : Int32)) else (j2 (0 : Int32))) else (Gl s3 1 389 ((261 : Int32) + a3) fun y7 => Lt (M_greater s3 (1 : Int32) (y7 / (3 : Int32))) fun y8 => j2 y8)))) FU (0 : Int32) s2) else (Lt (M_isCell s1 a2) fun y9 => Lt (fun (a5 : Int32) (s6 : ST) => (rec1 a5 (a2 + (1 : Int32)) s6 : Option (ST))) fun j3 => if y9 = 0 then (j3 a1 s1) else (Bd (M_harmOf s1 a2) fun y10 => Lt ((a1 + y10.1)) fun y11 => j3 y11 y10.2))) FU (0 : Int32) (0 : Int32) s
set_option maxRecDepth 100000 in
set_option maxHeartbeats 4000000 in
theorem k_doesHarm (l : Launch) (D : va_G) (cA : ClassId) (h : Nat → Nat) (s : ST) {o : ST} (hs : M_doesHarm s = some o) : MV l (KM D cA h) 6 yX10_doesHarm cX10_doesHarm 4 none s [.ref (h 0)] o := by
  refine met_v (by decide) (Nat.le_of_ble_eq_true rfl) ?_
  intro p e st m args below meth c Q X RI
  unfold M_doesHarm at hs
  refine g_iconst X dX10_doesHarm_0 (q := 1) rfl li_i0 ?_
  refine g_istore_n X dX10_doesHarm_1 (q := 2) rfl (Nat.le_of_ble_eq_true rfl) (lv' := [(1, .int (0 : Int32)), (0, .ref (h 0))]) rfl ?_
  refine g_iconst X dX10_doesHarm_2 (q := 3) rfl li_i0 ?_
  refine g_istore_n X dX10_doesHarm_3 (q := 4) rfl (Nat.le_of_ble_eq_true rfl) (lv' := [(2, .int (0 : Int32)), (1, .int (0 : Int32)), (0, .ref (h 0))]) rfl ?_
  refine wg_sub [2, 1, 0] rfl (lpW3 (fun (a1 : Int32) (a2 : Int32) (s1 : ST) => WG (KM D cA h) p l e (rmD 6) st m args below meth c Q 4 s1 4 [(0, .ref (h 0)), (1, .int a1), (2, .int a2)] []) (fun rec1 ih1 a1 a2 s1 hs => ?_) _ _ _ _ hs)
  refine g_iload_n X dX10_doesHarm_4 (q := 5) rfl 2 rfl ?_
  refine g_bipush X dX10_doesHarm_5 (q := 7) rfl li_b64 ?_
  refine g_icmp_ge X dX10_doesHarm_7 (q := 10) rfl (tgt := 32) (by decide) hs ?_ ?_
  · intro hs
    refine g_aload_n X dX10_doesHarm_32 (q := 33) rfl 0 rfl ?_
    refine mg_1 X dX10_doesHarm_33 (q := 36) rfl ?_
    refine g_iconst X dX10_doesHarm_36 (q := 37) rfl li_i4 ?_
    refine g_aload_n X dX10_doesHarm_37 (q := 38) rfl 0 rfl ?_
    refine mg_1 X dX10_doesHarm_38 (q := 41) rfl ?_
    refine g_iconst X dX10_doesHarm_41 (q := 42) rfl li_i4 ?_
    refine mk_1 X dX10_doesHarm_42 (q := 43) rfl (j := 4) (by decide) (by decide) hs (fun y1 hs => ?_)
    refine g_iload_n X dX10_doesHarm_43 (q := 44) rfl 1 rfl ?_
    refine g_iadd X dX10_doesHarm_44 (q := 45) rfl ?_
    refine msk_1 X dX10_doesHarm_45 (q := 46) rfl (j := 4) (by decide) (by decide) hs (fun s2 hs => ?_)
    refine g_iconst X dX10_doesHarm_46 (q := 47) rfl li_i0 ?_
    refine g_istore_n X dX10_doesHarm_47 (q := 48) rfl (Nat.le_of_ble_eq_true rfl) (lv' := [(2, .int (0 : Int32)), (0, .ref (h 0)), (1, .int a1)]) rfl ?_
    refine wg_sub [1, 0] rfl (lpW2 (fun (a3 : Int32) (s3 : ST) => WG (KM D cA h) p l e (rmD 6) st m args below meth c Q 4 s3 48 [(0, .ref (h 0)), (2, .int a3)] []) (fun rec2 ih2 a3 s3 hs => ?_) _ _ _ hs)
    refine g_iload_n X dX10_doesHarm_48 (q := 49) rfl 1 rfl ?_
    refine g_bipush X dX10_doesHarm_49 (q := 51) rfl li_b64 ?_
    refine g_icmp_ge X dX10_doesHarm_51 (q := 54) rfl (tgt := 141) (by decide) hs ?_ ?_
    · intro hs
      exact RI _ 141 _ (Option.some.inj hs) dX10_doesHarm_141
    · intro hs
      refine g_aload_n X dX10_doesHarm_54 (q := 55) rfl 0 rfl ?_
      refine g_iload_n X dX10_doesHarm_55 (q := 56) rfl 1 rfl ?_
      refine v_isCell X dX10_doesHarm_56 (q := 59) rfl (Nat.le_of_ble_eq_true rfl) (Nat.le_of_ble_eq_true rfl) (Nat.le_of_ble_eq_true rfl) hs (fun y2 hs => ?_)
      refine jnW1 (fun (s4 : ST) => WG (KM D cA h) p l e (rmD 6) st m args below meth c Q 4 s4 135 [(0, .ref (h 0)), (2, .int a3)] []) hs (fun s4 hs => ?_) (fun j1 ih3 hs => ?_)
      · refine g_iinc X dX10_doesHarm_135 (q := 138) rfl 1 rfl (v := (a3 + (1 : Int32))) (congrArg (HAdd.hAdd a3) li_i1) (Nat.le_of_ble_eq_true rfl) (lv' := [(2, .int (a3 + (1 : Int32))), (0, .ref (h 0))]) rfl ?_
        refine g_goto X dX10_doesHarm_138 (tgt := 48) (by decide) ?_
        exact wg_sub [1, 0] rfl (ih2 _ _ hs)
      refine g_if_ne X dX10_doesHarm_59 (q := 62) rfl (tgt := 65) (by decide) hs ?_ ?_
      · intro hs
        refine g_aload_n X dX10_doesHarm_65 (q := 66) rfl 0 rfl ?_
        refine g_iload_n X dX10_doesHarm_66 (q := 67) rfl 1 rfl ?_
        refine v_stormOf X dX10_doesHarm_67 (q := 70) rfl (Nat.le_of_ble_eq_true rfl) (Nat.le_of_ble_eq_true rfl) (Nat.le_of_ble_eq_true rfl) hs (fun y3 hs => ?_)
        refine g_iconst X dX10_doesHarm_70 (q := 71) rfl li_im1 ?_
        refine jnW1 (fun (a4 : Int32) => WG (KM D cA h) p l e (rmD 6) st m args below meth c Q 4 s3 110 [(0, .ref (h 0)), (2, .int a3)] [.int a4]) hs (fun a4 hs => ?_) (fun j2 ih4 hs => ?_)
        · refine g_istore_n X dX10_doesHarm_110 (q := 111) rfl (Nat.le_of_ble_eq_true rfl) (lv' := [(3, .int a4), (0, .ref (h 0)), (2, .int a3)]) rfl ?_
          refine g_aload_n X dX10_doesHarm_111 (q := 112) rfl 1 rfl ?_
          refine mg_1 X dX10_doesHarm_112 (q := 115) rfl ?_
          refine g_iconst X dX10_doesHarm_115 (q := 116) rfl li_i5 ?_
          refine g_iload_n X dX10_doesHarm_116 (q := 117) rfl 2 rfl ?_
          refine g_iadd X dX10_doesHarm_117 (q := 118) rfl ?_
          refine g_aload_n X dX10_doesHarm_118 (q := 119) rfl 1 rfl ?_
          refine g_aload_n X dX10_doesHarm_119 (q := 120) rfl 1 rfl ?_
          refine g_iload_n X dX10_doesHarm_120 (q := 121) rfl 2 rfl ?_
          refine v_wetOf X dX10_doesHarm_121 (q := 124) rfl (Nat.le_of_ble_eq_true rfl) (Nat.le_of_ble_eq_true rfl) (Nat.le_of_ble_eq_true rfl) hs (fun y4 hs => ?_)
          refine g_iload_n X dX10_doesHarm_124 (q := 125) rfl 0 rfl ?_
          refine g_iadd X dX10_doesHarm_125 (q := 126) rfl ?_
          refine g_iconst X dX10_doesHarm_126 (q := 127) rfl li_i0 ?_
          refine g_bipush X dX10_doesHarm_127 (q := 129) rfl li_b9 ?_
          refine v_held X dX10_doesHarm_129 (q := 132) rfl (Nat.le_of_ble_eq_true rfl) (Nat.le_of_ble_eq_true rfl) (Nat.le_of_ble_eq_true rfl) hs (fun y5 hs => ?_)
          refine g_iconst X dX10_doesHarm_132 (q := 133) rfl li_i3 ?_
          refine g_isub X dX10_doesHarm_133 (q := 134) rfl ?_
          refine ms_1 X dX10_doesHarm_134 (q := 135) rfl hs (fun s5 hs => ?_)
          exact wg_sub [1, 2] rfl (ih3 _ hs)
        refine g_icmp_eq X dX10_doesHarm_71 (q := 74) rfl (tgt := 94) (by decide) hs ?_ ?_
        · intro hs
          refine g_aload_n X dX10_doesHarm_94 (q := 95) rfl 0 rfl ?_
          refine mg_1 X dX10_doesHarm_95 (q := 98) rfl ?_
          refine g_iconst X dX10_doesHarm_98 (q := 99) rfl li_i0 ?_
          refine mk_1 X dX10_doesHarm_99 (q := 100) rfl (j := 0) (by decide) (by decide) hs (fun y6 hs => ?_)
          refine g_iconst X dX10_doesHarm_100 (q := 101) rfl li_i2 ?_
          refine g_irem X dX10_doesHarm_101 (q := 102) rfl (by decide) ?_
          refine g_if_ne X dX10_doesHarm_102 (q := 105) rfl (tgt := 109) (by decide) hs ?_ ?_
          · intro hs
            refine g_iconst X dX10_doesHarm_109 (q := 110) rfl li_i0 ?_
            exact wg_sub [0, 1] rfl (ih4 _ hs)
          · intro hs
            refine g_iconst X dX10_doesHarm_105 (q := 106) rfl li_im1 ?_
            refine g_goto X dX10_doesHarm_106 (tgt := 110) (by decide) ?_
            exact wg_sub [0, 1] rfl (ih4 _ hs)
        · intro hs
          refine g_aload_n X dX10_doesHarm_74 (q := 75) rfl 0 rfl ?_
          refine g_iconst X dX10_doesHarm_75 (q := 76) rfl li_i1 ?_
          refine g_aload_n X dX10_doesHarm_76 (q := 77) rfl 0 rfl ?_
          refine mg_1 X dX10_doesHarm_77 (q := 80) rfl ?_
          refine g_sipush X dX10_doesHarm_80 (q := 83) rfl li_s261 ?_
          refine g_iload_n X dX10_doesHarm_83 (q := 84) rfl 1 rfl ?_
          refine g_iadd X dX10_doesHarm_84 (q := 85) rfl ?_
          refine ma_1 X dX10_doesHarm_85 (q := 86) rfl hs (fun y7 hs => ?_)
          refine g_iconst X dX10_doesHarm_86 (q := 87) rfl li_i3 ?_
          refine g_idiv X dX10_doesHarm_87 (q := 88) rfl (by decide) ?_
          refine v_greater X dX10_doesHarm_88 (q := 91) rfl (Nat.le_of_ble_eq_true rfl) (Nat.le_of_ble_eq_true rfl) (Nat.le_of_ble_eq_true rfl) hs (fun y8 hs => ?_)
          refine g_goto X dX10_doesHarm_91 (tgt := 110) (by decide) ?_
          exact wg_sub [0, 1] rfl (ih4 _ hs)
      · intro hs
        refine g_goto X dX10_doesHarm_62 (tgt := 135) (by decide) ?_
        exact wg_sub [0, 1] rfl (ih3 _ hs)
  · intro hs
    refine g_aload_n X dX10_doesHarm_10 (q := 11) rfl 0 rfl ?_
    refine g_iload_n X dX10_doesHarm_11 (q := 12) rfl 2 rfl ?_
    refine v_isCell X dX10_doesHarm_12 (q := 15) rfl (Nat.le_of_ble_eq_true rfl) (Nat.le_of_ble_eq_true rfl) (Nat.le_of_ble_eq_true rfl) hs (fun y9 hs => ?_)
    refine jnW2 (fun (a5 : Int32) (s6 : ST) => WG (KM D cA h) p l e (rmD 6) st m args below meth c Q 4 s6 26 [(0, .ref (h 0)), (1, .int a5), (2, .int a2)] []) hs (fun a5 s6 hs => ?_) (fun j3 ih5 hs => ?_)
    · refine g_iinc X dX10_doesHarm_26 (q := 29) rfl 2 rfl (v := (a2 + (1 : Int32))) (congrArg (HAdd.hAdd a2) li_i1) (Nat.le_of_ble_eq_true rfl) (lv' := [(2, .int (a2 + (1 : Int32))), (0, .ref (h 0)), (1, .int a5)]) rfl ?_
      refine g_goto X dX10_doesHarm_29 (tgt := 4) (by decide) ?_
      exact wg_sub [1, 2, 0] rfl (ih1 _ _ _ hs)
    refine g_if_eq X dX10_doesHarm_15 (q := 18) rfl (tgt := 26) (by decide) hs ?_ ?_
    · intro hs
      exact wg_sub [0, 1, 2] rfl (ih5 _ _ hs)
    · intro hs
      refine g_iload_n X dX10_doesHarm_18 (q := 19) rfl 1 rfl ?_
      refine g_aload_n X dX10_doesHarm_19 (q := 20) rfl 0 rfl ?_
      refine g_iload_n X dX10_doesHarm_20 (q := 21) rfl 2 rfl ?_
      refine v_harmOf X dX10_doesHarm_21 (q := 24) rfl (Nat.le_of_ble_eq_true rfl) (Nat.le_of_ble_eq_true rfl) (Nat.le_of_ble_eq_true rfl) hs (fun y10 hs => ?_)
      refine g_iadd X dX10_doesHarm_24 (q := 25) rfl ?_
      refine nmI hs (fun y11 hs => ?_)
      refine g_istore_n X dX10_doesHarm_25 (q := 26) rfl (Nat.le_of_ble_eq_true rfl) (lv' := [(1, .int y11), (0, .ref (h 0)), (2, .int a2)]) rfl ?_
      exact wg_sub [1, 0, 2] rfl (ih5 _ _ hs)
theorem v_doesHarm {p : Program} {l : Launch} {e : Env} {st : State} {m : MethodId} {args : Array Value} {below : List Frame} {meth : Method} {c : Code} {Q : State → Prop} {nL : Nat} {cc : ByteArray} {s : ST} {pc q : Nat} {lv : List (Nat × Value)} {rest : List Value} {D : va_G} {cA : ClassId} {h : Nat → Nat} {d0 : Nat} (X : Cx (KM D cA h) p st m args meth c cc nL RX10) (d : decode cc pc = .ok (.invokevirtual 387, 3)) (hq : pc + 3 = q) (hd1 : 6 + 1 ≤ d0) (hd2 : 8 + (4 + 11) + 100 * 6 ≤ 100 * d0) (hr : (rest.map fun v => v.category).sum ≤ 8) {B : Type} {f : ST → Option B} {r : B} (hs : Bd (M_doesHarm s) f = some r) (k : ∀ y, f y = some r → WG (KM D cA h) p l e (rmD d0) st m args below meth c Q nL y q lv (rest)) : WG (KM D cA h) p l e (rmD d0) st m args below meth c Q nL s pc lv (.ref (h 0) :: rest) := by
  obtain ⟨v, hv, hs⟩ := Bd_e hs
  exact cV_V X 0 (n := 0) (k_doesHarm l D cA h s hv) gv_X10_doesHarm ⟨hd1, hd2⟩ ⟨by decide, by decide, by decide +kernel⟩ (As := []) rfl hr (Nat.le_of_ble_eq_true rfl) (fs := mF h (s.1 0)) rfl rfl rfl d hq (k _ hs)
theorem dX10_spreads_0 : decode cX10_spreads 0 = .ok (.aload_n 0, 1) := by decide +kernel
theorem dX10_spreads_1 : decode cX10_spreads 1 = .ok (.iload_n 1, 1) := by decide +kernel
theorem dX10_spreads_2 : decode cX10_spreads 2 = .ok (.aload_n 0, 1) := by decide +kernel
theorem dX10_spreads_3 : decode cX10_spreads 3 = .ok (.invokevirtual 348, 3) := by decide +kernel
theorem dX10_spreads_6 : decode cX10_spreads 6 = .ok (.invokevirtual 305, 3) := by decide +kernel
theorem dX10_spreads_9 : decode cX10_spreads 9 = .ok (.istore_n 3, 1) := by decide +kernel
theorem dX10_spreads_10 : decode cX10_spreads 10 = .ok (.iconst 0, 1) := by decide +kernel
theorem dX10_spreads_11 : decode cX10_spreads 11 = .ok (.istore 4, 2) := by decide +kernel
theorem dX10_spreads_13 : decode cX10_spreads 13 = .ok (.iload 4, 2) := by decide +kernel
theorem dX10_spreads_15 : decode cX10_spreads 15 = .ok (.aload_n 0, 1) := by decide +kernel
theorem dX10_spreads_16 : decode cX10_spreads 16 = .ok (.iload_n 2, 1) := by decide +kernel
theorem dX10_spreads_17 : decode cX10_spreads 17 = .ok (.iconst 2, 1) := by decide +kernel
theorem dX10_spreads_18 : decode cX10_spreads 18 = .ok (.invokevirtual 354, 3) := by decide +kernel
theorem dX10_spreads_21 : decode cX10_spreads 21 = .ok (.if_icmp .ge 58, 3) := by decide +kernel
theorem dX10_spreads_24 : decode cX10_spreads 24 = .ok (.iload_n 3, 1) := by decide +kernel
theorem dX10_spreads_25 : decode cX10_spreads 25 = .ok (.iconst (-1), 1) := by decide +kernel
theorem dX10_spreads_26 : decode cX10_spreads 26 = .ok (.if_icmp .eq 53, 3) := by decide +kernel
theorem dX10_spreads_29 : decode cX10_spreads 29 = .ok (.aload_n 0, 1) := by decide +kernel
theorem dX10_spreads_30 : decode cX10_spreads 30 = .ok (.getfield 19, 3) := by decide +kernel
theorem dX10_spreads_33 : decode cX10_spreads 33 = .ok (.iload_n 3, 1) := by decide +kernel
theorem dX10_spreads_34 : decode cX10_spreads 34 = .ok (.iaload, 1) := by decide +kernel
theorem dX10_spreads_35 : decode cX10_spreads 35 = .ok (.ifCond .ne 44, 3) := by decide +kernel
theorem dX10_spreads_38 : decode cX10_spreads 38 = .ok (.aload_n 0, 1) := by decide +kernel
theorem dX10_spreads_39 : decode cX10_spreads 39 = .ok (.iload_n 3, 1) := by decide +kernel
theorem dX10_spreads_40 : decode cX10_spreads 40 = .ok (.invokevirtual 134, 3) := by decide +kernel
theorem dX10_spreads_43 : decode cX10_spreads 43 = .ok (.iconst (-1), 1) := by decide +kernel
theorem dX10_spreads_44 : decode cX10_spreads 44 = .ok (.if_icmp .ne 19, 3) := by decide +kernel
theorem dX10_spreads_47 : decode cX10_spreads 47 = .ok (.aload_n 0, 1) := by decide +kernel
theorem dX10_spreads_48 : decode cX10_spreads 48 = .ok (.iload_n 3, 1) := by decide +kernel
theorem dX10_spreads_49 : decode cX10_spreads 49 = .ok (.invokevirtual 308, 3) := by decide +kernel
theorem dX10_spreads_52 : decode cX10_spreads 52 = .ok (.iconst (-1), 1) := by decide +kernel
theorem dX10_spreads_53 : decode cX10_spreads 53 = .ok (.if_icmp .ne 10, 3) := by decide +kernel
theorem dX10_spreads_56 : decode cX10_spreads 56 = .ok (.aload_n 0, 1) := by decide +kernel
theorem dX10_spreads_57 : decode cX10_spreads 57 = .ok (.iload_n 2, 1) := by decide +kernel
theorem dX10_spreads_58 : decode cX10_spreads 58 = .ok (.iload_n 3, 1) := by decide +kernel
theorem dX10_spreads_59 : decode cX10_spreads 59 = .ok (.iconst 5, 1) := by decide +kernel
theorem dX10_spreads_60 : decode cX10_spreads 60 = .ok (.invokevirtual 339, 3) := by decide +kernel
theorem dX10_spreads_63 : decode cX10_spreads 63 = .ok (.aload_n 0, 1) := by decide +kernel
theorem dX10_spreads_64 : decode cX10_spreads 64 = .ok (.iload_n 3, 1) := by decide +kernel
theorem dX10_spreads_65 : decode cX10_spreads 65 = .ok (.aload_n 0, 1) := by decide +kernel
theorem dX10_spreads_66 : decode cX10_spreads 66 = .ok (.invokevirtual 348, 3) := by decide +kernel
theorem dX10_spreads_69 : decode cX10_spreads 69 = .ok (.invokevirtual 305, 3) := by decide +kernel
theorem dX10_spreads_72 : decode cX10_spreads 72 = .ok (.istore_n 3, 1) := by decide +kernel
theorem dX10_spreads_73 : decode cX10_spreads 73 = .ok (.iinc 4 1, 3) := by decide +kernel
theorem dX10_spreads_76 : decode cX10_spreads 76 = .ok (.goto (-63), 3) := by decide +kernel
theorem dX10_spreads_79 : decode cX10_spreads 79 = .ok (.return_, 1) := by decide +kernel
def M_spreads (s : ST) (x1 : Int32) (x2 : Int32) : Option (ST) := Lt (M_wind s) fun y1 => Lt (M_cellBy s x1 y1) fun y2 => lpK3 (C := ST) (fun (rec1 : Int32 → Int32 → ST → Option (ST)) (a1 : Int32) (a2 : Int32) (s1 : ST) => Bd (M_ofKind s1 x2 (2 : Int32)) fun y3 => if y3 ≤ a2 then (some s1) else (if a1 = (-1 : Int32) then (some s1) else (Gl s1 4 64 a1 fun y4 => if y4 = 0 then (Bd (M_seedOf s1 a1) fun y5 => Lt (fun (s2 : ST) => (Lt (M_wind s2) fun y6 => Lt (M_cellBy s2 a1 y6) fun y7 => rec1 y7 (a2 + (1 : Int32)) s2 : Option (ST))) fun j1 => if y5 = (-1 : Int32) then (Bd (M_stormOf s1 a1) fun y8 => if y8 = (-1 : Int32) then (Bd (M_falls s1 x2 a1 (5 : Int32)) fun s3 => j1 s3) else (j1 s1)) else (j1 s1)) else (some s1)))) FU y2 (0 : Int32) s
set_option maxRecDepth 100000 in
set_option maxHeartbeats 4000000 in
theorem k_spreads (l : Launch) (D : va_G) (cA : ClassId) (h : Nat → Nat) (s : ST) (x1 : Int32) (x2 : Int32) {o : ST} (hs : M_spreads s x1 x2 = some o) : MV l (KM D cA h) 3 yX10_spreads cX10_spreads 5 none s [.ref (h 0), .int x1, .int x2] o := by
  refine met_v (by decide) (Nat.le_of_ble_eq_true rfl) ?_
  intro p e st m args below meth c Q X RI
  unfold M_spreads at hs
  refine g_aload_n X dX10_spreads_0 (q := 1) rfl 0 rfl ?_
  refine g_iload_n X dX10_spreads_1 (q := 2) rfl 1 rfl ?_
  refine g_aload_n X dX10_spreads_2 (q := 3) rfl 0 rfl ?_
  refine v_wind X dX10_spreads_3 (q := 6) rfl (Nat.le_of_ble_eq_true rfl) (Nat.le_of_ble_eq_true rfl) (Nat.le_of_ble_eq_true rfl) hs (fun y1 hs => ?_)
  refine v_cellBy X dX10_spreads_6 (q := 9) rfl (Nat.le_of_ble_eq_true rfl) (Nat.le_of_ble_eq_true rfl) (Nat.le_of_ble_eq_true rfl) hs (fun y2 hs => ?_)
  refine g_istore_n X dX10_spreads_9 (q := 10) rfl (Nat.le_of_ble_eq_true rfl) (lv' := [(3, .int y2), (0, .ref (h 0)), (1, .int x1), (2, .int x2)]) rfl ?_
  refine g_iconst X dX10_spreads_10 (q := 11) rfl li_i0 ?_
  refine g_istore X dX10_spreads_11 (q := 13) rfl (Nat.le_of_ble_eq_true rfl) (lv' := [(4, .int (0 : Int32)), (3, .int y2), (0, .ref (h 0)), (1, .int x1), (2, .int x2)]) rfl ?_
  refine wg_sub [2, 4, 1, 0] rfl (lpW3 (fun (a1 : Int32) (a2 : Int32) (s1 : ST) => WG (KM D cA h) p l e (rmD 3) st m args below meth c Q 5 s1 13 [(0, .ref (h 0)), (2, .int x2), (3, .int a1), (4, .int a2)] []) (fun rec1 ih1 a1 a2 s1 hs => ?_) _ _ _ _ hs)
  refine g_iload X dX10_spreads_13 (q := 15) rfl 3 rfl ?_
  refine g_aload_n X dX10_spreads_15 (q := 16) rfl 0 rfl ?_
  refine g_iload_n X dX10_spreads_16 (q := 17) rfl 1 rfl ?_
  refine g_iconst X dX10_spreads_17 (q := 18) rfl li_i2 ?_
  refine v_ofKind X dX10_spreads_18 (q := 21) rfl (Nat.le_of_ble_eq_true rfl) (Nat.le_of_ble_eq_true rfl) (Nat.le_of_ble_eq_true rfl) hs (fun y3 hs => ?_)
  refine g_icmp_ge X dX10_spreads_21 (q := 24) rfl (tgt := 79) (by decide) hs ?_ ?_
  · intro hs
    exact RI _ 79 _ (Option.some.inj hs) dX10_spreads_79
  · intro hs
    refine g_iload_n X dX10_spreads_24 (q := 25) rfl 2 rfl ?_
    refine g_iconst X dX10_spreads_25 (q := 26) rfl li_im1 ?_
    refine g_icmp_eq X dX10_spreads_26 (q := 29) rfl (tgt := 79) (by decide) hs ?_ ?_
    · intro hs
      exact RI _ 79 _ (Option.some.inj hs) dX10_spreads_79
    · intro hs
      refine g_aload_n X dX10_spreads_29 (q := 30) rfl 0 rfl ?_
      refine mg_9 X dX10_spreads_30 (q := 33) rfl ?_
      refine g_iload_n X dX10_spreads_33 (q := 34) rfl 2 rfl ?_
      refine ma_4 X dX10_spreads_34 (q := 35) rfl hs (fun y4 hs => ?_)
      refine g_if_ne X dX10_spreads_35 (q := 38) rfl (tgt := 79) (by decide) hs ?_ ?_
      · intro hs
        exact RI _ 79 _ (Option.some.inj hs) dX10_spreads_79
      · intro hs
        refine g_aload_n X dX10_spreads_38 (q := 39) rfl 0 rfl ?_
        refine g_iload_n X dX10_spreads_39 (q := 40) rfl 2 rfl ?_
        refine v_seedOf X dX10_spreads_40 (q := 43) rfl (Nat.le_of_ble_eq_true rfl) (Nat.le_of_ble_eq_true rfl) (Nat.le_of_ble_eq_true rfl) hs (fun y5 hs => ?_)
        refine g_iconst X dX10_spreads_43 (q := 44) rfl li_im1 ?_
        refine jnW1 (fun (s2 : ST) => WG (KM D cA h) p l e (rmD 3) st m args below meth c Q 5 s2 63 [(0, .ref (h 0)), (2, .int x2), (3, .int a1), (4, .int a2)] []) hs (fun s2 hs => ?_) (fun j1 ih2 hs => ?_)
        · refine g_aload_n X dX10_spreads_63 (q := 64) rfl 0 rfl ?_
          refine g_iload_n X dX10_spreads_64 (q := 65) rfl 2 rfl ?_
          refine g_aload_n X dX10_spreads_65 (q := 66) rfl 0 rfl ?_
          refine v_wind X dX10_spreads_66 (q := 69) rfl (Nat.le_of_ble_eq_true rfl) (Nat.le_of_ble_eq_true rfl) (Nat.le_of_ble_eq_true rfl) hs (fun y6 hs => ?_)
          refine v_cellBy X dX10_spreads_69 (q := 72) rfl (Nat.le_of_ble_eq_true rfl) (Nat.le_of_ble_eq_true rfl) (Nat.le_of_ble_eq_true rfl) hs (fun y7 hs => ?_)
          refine g_istore_n X dX10_spreads_72 (q := 73) rfl (Nat.le_of_ble_eq_true rfl) (lv' := [(3, .int y7), (0, .ref (h 0)), (2, .int x2), (4, .int a2)]) rfl ?_
          refine g_iinc X dX10_spreads_73 (q := 76) rfl 3 rfl (v := (a2 + (1 : Int32))) (congrArg (HAdd.hAdd a2) li_i1) (Nat.le_of_ble_eq_true rfl) (lv' := [(4, .int (a2 + (1 : Int32))), (3, .int y7), (0, .ref (h 0)), (2, .int x2)]) rfl ?_
          refine g_goto X dX10_spreads_76 (tgt := 13) (by decide) ?_
          exact wg_sub [2, 3, 1, 0] rfl (ih1 _ _ _ hs)
        refine g_icmp_ne X dX10_spreads_44 (q := 47) rfl (tgt := 63) (by decide) hs ?_ ?_
        · intro hs
          exact wg_sub [0, 1, 2, 3] rfl (ih2 _ hs)
        · intro hs
          refine g_aload_n X dX10_spreads_47 (q := 48) rfl 0 rfl ?_
          refine g_iload_n X dX10_spreads_48 (q := 49) rfl 2 rfl ?_
          refine v_stormOf X dX10_spreads_49 (q := 52) rfl (Nat.le_of_ble_eq_true rfl) (Nat.le_of_ble_eq_true rfl) (Nat.le_of_ble_eq_true rfl) hs (fun y8 hs => ?_)
          refine g_iconst X dX10_spreads_52 (q := 53) rfl li_im1 ?_
          refine g_icmp_ne X dX10_spreads_53 (q := 56) rfl (tgt := 63) (by decide) hs ?_ ?_
          · intro hs
            exact wg_sub [0, 1, 2, 3] rfl (ih2 _ hs)
          · intro hs
            refine g_aload_n X dX10_spreads_56 (q := 57) rfl 0 rfl ?_
            refine g_iload_n X dX10_spreads_57 (q := 58) rfl 1 rfl ?_
            refine g_iload_n X dX10_spreads_58 (q := 59) rfl 2 rfl ?_
            refine g_iconst X dX10_spreads_59 (q := 60) rfl li_i5 ?_
            refine v_falls X dX10_spreads_60 (q := 63) rfl (Nat.le_of_ble_eq_true rfl) (Nat.le_of_ble_eq_true rfl) (Nat.le_of_ble_eq_true rfl) hs (fun s3 hs => ?_)
            exact wg_sub [0, 1, 2, 3] rfl (ih2 _ hs)
theorem v_spreads {p : Program} {l : Launch} {e : Env} {st : State} {m : MethodId} {args : Array Value} {below : List Frame} {meth : Method} {c : Code} {Q : State → Prop} {nL : Nat} {cc : ByteArray} {s : ST} {pc q : Nat} {lv : List (Nat × Value)} {rest : List Value} {D : va_G} {cA : ClassId} {h : Nat → Nat} {d0 : Nat} (X : Cx (KM D cA h) p st m args meth c cc nL RX10) {x1 : Int32} {x2 : Int32} (d : decode cc pc = .ok (.invokevirtual 375, 3)) (hq : pc + 3 = q) (hd1 : 3 + 1 ≤ d0) (hd2 : 8 + (5 + 11) + 100 * 3 ≤ 100 * d0) (hr : (rest.map fun v => v.category).sum ≤ 8) {B : Type} {f : ST → Option B} {r : B} (hs : Bd (M_spreads s x1 x2) f = some r) (k : ∀ y, f y = some r → WG (KM D cA h) p l e (rmD d0) st m args below meth c Q nL y q lv (rest)) : WG (KM D cA h) p l e (rmD d0) st m args below meth c Q nL s pc lv (.int x2 :: .int x1 :: .ref (h 0) :: rest) := by
  obtain ⟨v, hv, hs⟩ := Bd_e hs
  exact cV_V X 0 (n := 2) (k_spreads l D cA h s x1 x2 hv) gv_X10_spreads ⟨hd1, hd2⟩ ⟨by decide, by decide, by decide +kernel⟩ (As := [.int x1, .int x2]) rfl hr (Nat.le_of_ble_eq_true rfl) (fs := mF h (s.1 0)) rfl rfl rfl d hq (k _ hs)
theorem dX10_goAway_0 : decode cX10_goAway 0 = .ok (.iconst 0, 1) := by decide +kernel
theorem dX10_goAway_1 : decode cX10_goAway 1 = .ok (.istore_n 1, 1) := by decide +kernel
theorem dX10_goAway_2 : decode cX10_goAway 2 = .ok (.iload_n 1, 1) := by decide +kernel
theorem dX10_goAway_3 : decode cX10_goAway 3 = .ok (.bipush 64, 2) := by decide +kernel
theorem dX10_goAway_5 : decode cX10_goAway 5 = .ok (.if_icmp .ge 89, 3) := by decide +kernel
theorem dX10_goAway_8 : decode cX10_goAway 8 = .ok (.aload_n 0, 1) := by decide +kernel
theorem dX10_goAway_9 : decode cX10_goAway 9 = .ok (.iload_n 1, 1) := by decide +kernel
theorem dX10_goAway_10 : decode cX10_goAway 10 = .ok (.invokevirtual 130, 3) := by decide +kernel
theorem dX10_goAway_13 : decode cX10_goAway 13 = .ok (.ifCond .eq 75, 3) := by decide +kernel
theorem dX10_goAway_16 : decode cX10_goAway 16 = .ok (.aload_n 0, 1) := by decide +kernel
theorem dX10_goAway_17 : decode cX10_goAway 17 = .ok (.iload_n 1, 1) := by decide +kernel
theorem dX10_goAway_18 : decode cX10_goAway 18 = .ok (.invokevirtual 308, 3) := by decide +kernel
theorem dX10_goAway_21 : decode cX10_goAway 21 = .ok (.iconst (-1), 1) := by decide +kernel
theorem dX10_goAway_22 : decode cX10_goAway 22 = .ok (.if_icmp .eq 66, 3) := by decide +kernel
theorem dX10_goAway_25 : decode cX10_goAway 25 = .ok (.aload_n 0, 1) := by decide +kernel
theorem dX10_goAway_26 : decode cX10_goAway 26 = .ok (.getfield 7, 3) := by decide +kernel
theorem dX10_goAway_29 : decode cX10_goAway 29 = .ok (.sipush 325, 3) := by decide +kernel
theorem dX10_goAway_32 : decode cX10_goAway 32 = .ok (.iload_n 1, 1) := by decide +kernel
theorem dX10_goAway_33 : decode cX10_goAway 33 = .ok (.iadd, 1) := by decide +kernel
theorem dX10_goAway_34 : decode cX10_goAway 34 = .ok (.iaload, 1) := by decide +kernel
theorem dX10_goAway_35 : decode cX10_goAway 35 = .ok (.aload_n 0, 1) := by decide +kernel
theorem dX10_goAway_36 : decode cX10_goAway 36 = .ok (.getfield 7, 3) := by decide +kernel
theorem dX10_goAway_39 : decode cX10_goAway 39 = .ok (.iconst 0, 1) := by decide +kernel
theorem dX10_goAway_40 : decode cX10_goAway 40 = .ok (.iaload, 1) := by decide +kernel
theorem dX10_goAway_41 : decode cX10_goAway 41 = .ok (.if_icmp .le 6, 3) := by decide +kernel
theorem dX10_goAway_44 : decode cX10_goAway 44 = .ok (.goto 44, 3) := by decide +kernel
theorem dX10_goAway_47 : decode cX10_goAway 47 = .ok (.aload_n 0, 1) := by decide +kernel
theorem dX10_goAway_48 : decode cX10_goAway 48 = .ok (.iload_n 1, 1) := by decide +kernel
theorem dX10_goAway_49 : decode cX10_goAway 49 = .ok (.invokevirtual 308, 3) := by decide +kernel
theorem dX10_goAway_52 : decode cX10_goAway 52 = .ok (.istore_n 2, 1) := by decide +kernel
theorem dX10_goAway_53 : decode cX10_goAway 53 = .ok (.aload_n 0, 1) := by decide +kernel
theorem dX10_goAway_54 : decode cX10_goAway 54 = .ok (.iconst 4, 1) := by decide +kernel
theorem dX10_goAway_55 : decode cX10_goAway 55 = .ok (.iload_n 1, 1) := by decide +kernel
theorem dX10_goAway_56 : decode cX10_goAway 56 = .ok (.iload_n 2, 1) := by decide +kernel
theorem dX10_goAway_57 : decode cX10_goAway 57 = .ok (.invokevirtual 330, 3) := by decide +kernel
theorem dX10_goAway_60 : decode cX10_goAway 60 = .ok (.aload_n 0, 1) := by decide +kernel
theorem dX10_goAway_61 : decode cX10_goAway 61 = .ok (.getfield 7, 3) := by decide +kernel
theorem dX10_goAway_64 : decode cX10_goAway 64 = .ok (.sipush 197, 3) := by decide +kernel
theorem dX10_goAway_67 : decode cX10_goAway 67 = .ok (.iload_n 1, 1) := by decide +kernel
theorem dX10_goAway_68 : decode cX10_goAway 68 = .ok (.iadd, 1) := by decide +kernel
theorem dX10_goAway_69 : decode cX10_goAway 69 = .ok (.iconst 0, 1) := by decide +kernel
theorem dX10_goAway_70 : decode cX10_goAway 70 = .ok (.iastore, 1) := by decide +kernel
theorem dX10_goAway_71 : decode cX10_goAway 71 = .ok (.aload_n 0, 1) := by decide +kernel
theorem dX10_goAway_72 : decode cX10_goAway 72 = .ok (.getfield 7, 3) := by decide +kernel
theorem dX10_goAway_75 : decode cX10_goAway 75 = .ok (.sipush 261, 3) := by decide +kernel
theorem dX10_goAway_78 : decode cX10_goAway 78 = .ok (.iload_n 1, 1) := by decide +kernel
theorem dX10_goAway_79 : decode cX10_goAway 79 = .ok (.iadd, 1) := by decide +kernel
theorem dX10_goAway_80 : decode cX10_goAway 80 = .ok (.iconst 0, 1) := by decide +kernel
theorem dX10_goAway_81 : decode cX10_goAway 81 = .ok (.iastore, 1) := by decide +kernel
theorem dX10_goAway_82 : decode cX10_goAway 82 = .ok (.aload_n 0, 1) := by decide +kernel
theorem dX10_goAway_83 : decode cX10_goAway 83 = .ok (.iload_n 1, 1) := by decide +kernel
theorem dX10_goAway_84 : decode cX10_goAway 84 = .ok (.iload_n 2, 1) := by decide +kernel
theorem dX10_goAway_85 : decode cX10_goAway 85 = .ok (.invokevirtual 375, 3) := by decide +kernel
theorem dX10_goAway_88 : decode cX10_goAway 88 = .ok (.iinc 1 1, 3) := by decide +kernel
theorem dX10_goAway_91 : decode cX10_goAway 91 = .ok (.goto (-89), 3) := by decide +kernel
theorem dX10_goAway_94 : decode cX10_goAway 94 = .ok (.return_, 1) := by decide +kernel
def M_goAway (s : ST) : Option (ST) := lpK2 (C := ST) (fun (rec1 : Int32 → ST → Option (ST)) (a1 : Int32) (s1 : ST) => if (64 : Int32) ≤ a1 then (some s1) else (Lt (M_isCell s1 a1) fun y1 => Lt (fun (s2 : ST) => (rec1 (a1 + (1 : Int32)) s2 : Option (ST))) fun j1 => if y1 = 0 then (j1 s1) else (Bd (M_stormOf s1 a1) fun y2 => if y2 = (-1 : Int32) then (j1 s1) else (Gl s1 1 389 ((325 : Int32) + a1) fun y3 => Lt (s1.1 1 0) fun y4 => if y3 ≤ y4 then (Bd (M_stormOf s1 a1) fun y5 => Bd (M_notes s1 (4 : Int32) a1 y5) fun s3 => Gs s3 1 389 ((197 : Int32) + a1) (0 : Int32) fun s4 => Gs s4 1 389 ((261 : Int32) + a1) (0 : Int32) fun s5 => Bd (M_spreads s5 a1 y5) fun s6 => j1 s6) else (j1 s1))))) FU (0 : Int32) s
set_option maxRecDepth 100000 in
set_option maxHeartbeats 4000000 in
theorem k_goAway (l : Launch) (D : va_G) (cA : ClassId) (h : Nat → Nat) (s : ST) {o : ST} (hs : M_goAway s = some o) : MV l (KM D cA h) 4 yX10_goAway cX10_goAway 3 none s [.ref (h 0)] o := by
  refine met_v (by decide) (Nat.le_of_ble_eq_true rfl) ?_
  intro p e st m args below meth c Q X RI
  unfold M_goAway at hs
  refine g_iconst X dX10_goAway_0 (q := 1) rfl li_i0 ?_
  refine g_istore_n X dX10_goAway_1 (q := 2) rfl (Nat.le_of_ble_eq_true rfl) (lv' := [(1, .int (0 : Int32)), (0, .ref (h 0))]) rfl ?_
  refine wg_sub [1, 0] rfl (lpW2 (fun (a1 : Int32) (s1 : ST) => WG (KM D cA h) p l e (rmD 4) st m args below meth c Q 3 s1 2 [(0, .ref (h 0)), (1, .int a1)] []) (fun rec1 ih1 a1 s1 hs => ?_) _ _ _ hs)
  refine g_iload_n X dX10_goAway_2 (q := 3) rfl 1 rfl ?_
  refine g_bipush X dX10_goAway_3 (q := 5) rfl li_b64 ?_
  refine g_icmp_ge X dX10_goAway_5 (q := 8) rfl (tgt := 94) (by decide) hs ?_ ?_
  · intro hs
    exact RI _ 94 _ (Option.some.inj hs) dX10_goAway_94
  · intro hs
    refine g_aload_n X dX10_goAway_8 (q := 9) rfl 0 rfl ?_
    refine g_iload_n X dX10_goAway_9 (q := 10) rfl 1 rfl ?_
    refine v_isCell X dX10_goAway_10 (q := 13) rfl (Nat.le_of_ble_eq_true rfl) (Nat.le_of_ble_eq_true rfl) (Nat.le_of_ble_eq_true rfl) hs (fun y1 hs => ?_)
    refine jnW1 (fun (s2 : ST) => WG (KM D cA h) p l e (rmD 4) st m args below meth c Q 3 s2 88 [(0, .ref (h 0)), (1, .int a1)] []) hs (fun s2 hs => ?_) (fun j1 ih2 hs => ?_)
    · refine g_iinc X dX10_goAway_88 (q := 91) rfl 1 rfl (v := (a1 + (1 : Int32))) (congrArg (HAdd.hAdd a1) li_i1) (Nat.le_of_ble_eq_true rfl) (lv' := [(1, .int (a1 + (1 : Int32))), (0, .ref (h 0))]) rfl ?_
      refine g_goto X dX10_goAway_91 (tgt := 2) (by decide) ?_
      exact wg_sub [1, 0] rfl (ih1 _ _ hs)
    refine g_if_eq X dX10_goAway_13 (q := 16) rfl (tgt := 88) (by decide) hs ?_ ?_
    · intro hs
      exact wg_sub [0, 1] rfl (ih2 _ hs)
    · intro hs
      refine g_aload_n X dX10_goAway_16 (q := 17) rfl 0 rfl ?_
      refine g_iload_n X dX10_goAway_17 (q := 18) rfl 1 rfl ?_
      refine v_stormOf X dX10_goAway_18 (q := 21) rfl (Nat.le_of_ble_eq_true rfl) (Nat.le_of_ble_eq_true rfl) (Nat.le_of_ble_eq_true rfl) hs (fun y2 hs => ?_)
      refine g_iconst X dX10_goAway_21 (q := 22) rfl li_im1 ?_
      refine g_icmp_eq X dX10_goAway_22 (q := 25) rfl (tgt := 88) (by decide) hs ?_ ?_
      · intro hs
        exact wg_sub [0, 1] rfl (ih2 _ hs)
      · intro hs
        refine g_aload_n X dX10_goAway_25 (q := 26) rfl 0 rfl ?_
        refine mg_1 X dX10_goAway_26 (q := 29) rfl ?_
        refine g_sipush X dX10_goAway_29 (q := 32) rfl li_s325 ?_
        refine g_iload_n X dX10_goAway_32 (q := 33) rfl 1 rfl ?_
        refine g_iadd X dX10_goAway_33 (q := 34) rfl ?_
        refine ma_1 X dX10_goAway_34 (q := 35) rfl hs (fun y3 hs => ?_)
        refine g_aload_n X dX10_goAway_35 (q := 36) rfl 0 rfl ?_
        refine mg_1 X dX10_goAway_36 (q := 39) rfl ?_
        refine g_iconst X dX10_goAway_39 (q := 40) rfl li_i0 ?_
        refine mk_1 X dX10_goAway_40 (q := 41) rfl (j := 0) (by decide) (by decide) hs (fun y4 hs => ?_)
        refine g_icmp_le X dX10_goAway_41 (q := 44) rfl (tgt := 47) (by decide) hs ?_ ?_
        · intro hs
          refine g_aload_n X dX10_goAway_47 (q := 48) rfl 0 rfl ?_
          refine g_iload_n X dX10_goAway_48 (q := 49) rfl 1 rfl ?_
          refine v_stormOf X dX10_goAway_49 (q := 52) rfl (Nat.le_of_ble_eq_true rfl) (Nat.le_of_ble_eq_true rfl) (Nat.le_of_ble_eq_true rfl) hs (fun y5 hs => ?_)
          refine g_istore_n X dX10_goAway_52 (q := 53) rfl (Nat.le_of_ble_eq_true rfl) (lv' := [(2, .int y5), (0, .ref (h 0)), (1, .int a1)]) rfl ?_
          refine g_aload_n X dX10_goAway_53 (q := 54) rfl 1 rfl ?_
          refine g_iconst X dX10_goAway_54 (q := 55) rfl li_i4 ?_
          refine g_iload_n X dX10_goAway_55 (q := 56) rfl 2 rfl ?_
          refine g_iload_n X dX10_goAway_56 (q := 57) rfl 0 rfl ?_
          refine v_notes X dX10_goAway_57 (q := 60) rfl (Nat.le_of_ble_eq_true rfl) (Nat.le_of_ble_eq_true rfl) (Nat.le_of_ble_eq_true rfl) hs (fun s3 hs => ?_)
          refine g_aload_n X dX10_goAway_60 (q := 61) rfl 1 rfl ?_
          refine mg_1 X dX10_goAway_61 (q := 64) rfl ?_
          refine g_sipush X dX10_goAway_64 (q := 67) rfl li_s197 ?_
          refine g_iload_n X dX10_goAway_67 (q := 68) rfl 2 rfl ?_
          refine g_iadd X dX10_goAway_68 (q := 69) rfl ?_
          refine g_iconst X dX10_goAway_69 (q := 70) rfl li_i0 ?_
          refine ms_1 X dX10_goAway_70 (q := 71) rfl hs (fun s4 hs => ?_)
          refine g_aload_n X dX10_goAway_71 (q := 72) rfl 1 rfl ?_
          refine mg_1 X dX10_goAway_72 (q := 75) rfl ?_
          refine g_sipush X dX10_goAway_75 (q := 78) rfl li_s261 ?_
          refine g_iload_n X dX10_goAway_78 (q := 79) rfl 2 rfl ?_
          refine g_iadd X dX10_goAway_79 (q := 80) rfl ?_
          refine g_iconst X dX10_goAway_80 (q := 81) rfl li_i0 ?_
          refine ms_1 X dX10_goAway_81 (q := 82) rfl hs (fun s5 hs => ?_)
          refine g_aload_n X dX10_goAway_82 (q := 83) rfl 1 rfl ?_
          refine g_iload_n X dX10_goAway_83 (q := 84) rfl 2 rfl ?_
          refine g_iload_n X dX10_goAway_84 (q := 85) rfl 0 rfl ?_
          refine v_spreads X dX10_goAway_85 (q := 88) rfl (Nat.le_of_ble_eq_true rfl) (Nat.le_of_ble_eq_true rfl) (Nat.le_of_ble_eq_true rfl) hs (fun s6 hs => ?_)
          exact wg_sub [1, 2] rfl (ih2 _ hs)
        · intro hs
          refine g_goto X dX10_goAway_44 (tgt := 88) (by decide) ?_
          exact wg_sub [0, 1] rfl (ih2 _ hs)
theorem v_goAway {p : Program} {l : Launch} {e : Env} {st : State} {m : MethodId} {args : Array Value} {below : List Frame} {meth : Method} {c : Code} {Q : State → Prop} {nL : Nat} {cc : ByteArray} {s : ST} {pc q : Nat} {lv : List (Nat × Value)} {rest : List Value} {D : va_G} {cA : ClassId} {h : Nat → Nat} {d0 : Nat} (X : Cx (KM D cA h) p st m args meth c cc nL RX10) (d : decode cc pc = .ok (.invokevirtual 390, 3)) (hq : pc + 3 = q) (hd1 : 4 + 1 ≤ d0) (hd2 : 8 + (3 + 11) + 100 * 4 ≤ 100 * d0) (hr : (rest.map fun v => v.category).sum ≤ 8) {B : Type} {f : ST → Option B} {r : B} (hs : Bd (M_goAway s) f = some r) (k : ∀ y, f y = some r → WG (KM D cA h) p l e (rmD d0) st m args below meth c Q nL y q lv (rest)) : WG (KM D cA h) p l e (rmD d0) st m args below meth c Q nL s pc lv (.ref (h 0) :: rest) := by
  obtain ⟨v, hv, hs⟩ := Bd_e hs
  exact cV_V X 0 (n := 0) (k_goAway l D cA h s hv) gv_X10_goAway ⟨hd1, hd2⟩ ⟨by decide, by decide, by decide +kernel⟩ (As := []) rfl hr (Nat.le_of_ble_eq_true rfl) (fs := mF h (s.1 0)) rfl rfl rfl d hq (k _ hs)
theorem dX10_bringsBirds_0 : decode cX10_bringsBirds 0 = .ok (.aload_n 0, 1) := by decide +kernel
theorem dX10_bringsBirds_1 : decode cX10_bringsBirds 1 = .ok (.getfield 89, 3) := by decide +kernel
theorem dX10_bringsBirds_4 : decode cX10_bringsBirds 4 = .ok (.ifCond .ne 31, 3) := by decide +kernel
theorem dX10_bringsBirds_7 : decode cX10_bringsBirds 7 = .ok (.aload_n 0, 1) := by decide +kernel
theorem dX10_bringsBirds_8 : decode cX10_bringsBirds 8 = .ok (.getfield 115, 3) := by decide +kernel
theorem dX10_bringsBirds_11 : decode cX10_bringsBirds 11 = .ok (.ifCond .eq 24, 3) := by decide +kernel
theorem dX10_bringsBirds_14 : decode cX10_bringsBirds 14 = .ok (.aload_n 0, 1) := by decide +kernel
theorem dX10_bringsBirds_15 : decode cX10_bringsBirds 15 = .ok (.getfield 118, 3) := by decide +kernel
theorem dX10_bringsBirds_18 : decode cX10_bringsBirds 18 = .ok (.ifCond .eq 17, 3) := by decide +kernel
theorem dX10_bringsBirds_21 : decode cX10_bringsBirds 21 = .ok (.aload_n 0, 1) := by decide +kernel
theorem dX10_bringsBirds_22 : decode cX10_bringsBirds 22 = .ok (.sipush 1000, 3) := by decide +kernel
theorem dX10_bringsBirds_25 : decode cX10_bringsBirds 25 = .ok (.invokevirtual 378, 3) := by decide +kernel
theorem dX10_bringsBirds_28 : decode cX10_bringsBirds 28 = .ok (.aload_n 0, 1) := by decide +kernel
theorem dX10_bringsBirds_29 : decode cX10_bringsBirds 29 = .ok (.getfield 115, 3) := by decide +kernel
theorem dX10_bringsBirds_32 : decode cX10_bringsBirds 32 = .ok (.if_icmp .lt 4, 3) := by decide +kernel
theorem dX10_bringsBirds_35 : decode cX10_bringsBirds 35 = .ok (.return_, 1) := by decide +kernel
theorem dX10_bringsBirds_36 : decode cX10_bringsBirds 36 = .ok (.aload_n 0, 1) := by decide +kernel
theorem dX10_bringsBirds_37 : decode cX10_bringsBirds 37 = .ok (.aload_n 0, 1) := by decide +kernel
theorem dX10_bringsBirds_38 : decode cX10_bringsBirds 38 = .ok (.invokevirtual 104, 3) := by decide +kernel
theorem dX10_bringsBirds_41 : decode cX10_bringsBirds 41 = .ok (.aload_n 0, 1) := by decide +kernel
theorem dX10_bringsBirds_42 : decode cX10_bringsBirds 42 = .ok (.invokevirtual 108, 3) := by decide +kernel
theorem dX10_bringsBirds_45 : decode cX10_bringsBirds 45 = .ok (.imul, 1) := by decide +kernel
theorem dX10_bringsBirds_46 : decode cX10_bringsBirds 46 = .ok (.invokevirtual 378, 3) := by decide +kernel
theorem dX10_bringsBirds_49 : decode cX10_bringsBirds 49 = .ok (.istore_n 1, 1) := by decide +kernel
theorem dX10_bringsBirds_50 : decode cX10_bringsBirds 50 = .ok (.bipush 8, 2) := by decide +kernel
theorem dX10_bringsBirds_52 : decode cX10_bringsBirds 52 = .ok (.iload_n 1, 1) := by decide +kernel
theorem dX10_bringsBirds_53 : decode cX10_bringsBirds 53 = .ok (.aload_n 0, 1) := by decide +kernel
theorem dX10_bringsBirds_54 : decode cX10_bringsBirds 54 = .ok (.invokevirtual 104, 3) := by decide +kernel
theorem dX10_bringsBirds_57 : decode cX10_bringsBirds 57 = .ok (.idiv, 1) := by decide +kernel
theorem dX10_bringsBirds_58 : decode cX10_bringsBirds 58 = .ok (.imul, 1) := by decide +kernel
theorem dX10_bringsBirds_59 : decode cX10_bringsBirds 59 = .ok (.iload_n 1, 1) := by decide +kernel
theorem dX10_bringsBirds_60 : decode cX10_bringsBirds 60 = .ok (.aload_n 0, 1) := by decide +kernel
theorem dX10_bringsBirds_61 : decode cX10_bringsBirds 61 = .ok (.invokevirtual 104, 3) := by decide +kernel
theorem dX10_bringsBirds_64 : decode cX10_bringsBirds 64 = .ok (.irem, 1) := by decide +kernel
theorem dX10_bringsBirds_65 : decode cX10_bringsBirds 65 = .ok (.iadd, 1) := by decide +kernel
theorem dX10_bringsBirds_66 : decode cX10_bringsBirds 66 = .ok (.istore_n 2, 1) := by decide +kernel
theorem dX10_bringsBirds_67 : decode cX10_bringsBirds 67 = .ok (.aload_n 0, 1) := by decide +kernel
theorem dX10_bringsBirds_68 : decode cX10_bringsBirds 68 = .ok (.aload_n 0, 1) := by decide +kernel
theorem dX10_bringsBirds_69 : decode cX10_bringsBirds 69 = .ok (.getfield 118, 3) := by decide +kernel
theorem dX10_bringsBirds_72 : decode cX10_bringsBirds 72 = .ok (.invokevirtual 378, 3) := by decide +kernel
theorem dX10_bringsBirds_75 : decode cX10_bringsBirds 75 = .ok (.istore_n 3, 1) := by decide +kernel
theorem dX10_bringsBirds_76 : decode cX10_bringsBirds 76 = .ok (.aload_n 0, 1) := by decide +kernel
theorem dX10_bringsBirds_77 : decode cX10_bringsBirds 77 = .ok (.iload_n 2, 1) := by decide +kernel
theorem dX10_bringsBirds_78 : decode cX10_bringsBirds 78 = .ok (.invokevirtual 134, 3) := by decide +kernel
theorem dX10_bringsBirds_81 : decode cX10_bringsBirds 81 = .ok (.iconst (-1), 1) := by decide +kernel
theorem dX10_bringsBirds_82 : decode cX10_bringsBirds 82 = .ok (.if_icmp .ne 29, 3) := by decide +kernel
theorem dX10_bringsBirds_85 : decode cX10_bringsBirds 85 = .ok (.aload_n 0, 1) := by decide +kernel
theorem dX10_bringsBirds_86 : decode cX10_bringsBirds 86 = .ok (.iload_n 2, 1) := by decide +kernel
theorem dX10_bringsBirds_87 : decode cX10_bringsBirds 87 = .ok (.invokevirtual 308, 3) := by decide +kernel
theorem dX10_bringsBirds_90 : decode cX10_bringsBirds 90 = .ok (.iconst (-1), 1) := by decide +kernel
theorem dX10_bringsBirds_91 : decode cX10_bringsBirds 91 = .ok (.if_icmp .ne 20, 3) := by decide +kernel
theorem dX10_bringsBirds_94 : decode cX10_bringsBirds 94 = .ok (.aload_n 0, 1) := by decide +kernel
theorem dX10_bringsBirds_95 : decode cX10_bringsBirds 95 = .ok (.getfield 19, 3) := by decide +kernel
theorem dX10_bringsBirds_98 : decode cX10_bringsBirds 98 = .ok (.iload_n 2, 1) := by decide +kernel
theorem dX10_bringsBirds_99 : decode cX10_bringsBirds 99 = .ok (.iaload, 1) := by decide +kernel
theorem dX10_bringsBirds_100 : decode cX10_bringsBirds 100 = .ok (.ifCond .ne 11, 3) := by decide +kernel
theorem dX10_bringsBirds_103 : decode cX10_bringsBirds 103 = .ok (.aload_n 0, 1) := by decide +kernel
theorem dX10_bringsBirds_104 : decode cX10_bringsBirds 104 = .ok (.iload_n 3, 1) := by decide +kernel
theorem dX10_bringsBirds_105 : decode cX10_bringsBirds 105 = .ok (.iload_n 2, 1) := by decide +kernel
theorem dX10_bringsBirds_106 : decode cX10_bringsBirds 106 = .ok (.bipush 6, 2) := by decide +kernel
theorem dX10_bringsBirds_108 : decode cX10_bringsBirds 108 = .ok (.invokevirtual 339, 3) := by decide +kernel
theorem dX10_bringsBirds_111 : decode cX10_bringsBirds 111 = .ok (.return_, 1) := by decide +kernel
def M_bringsBirds (s : ST) : Option (ST) := if (s.1 0 5) = 0 then (if (s.1 0 8) = 0 then (some s) else (if (s.1 0 34) = 0 then (some s) else (Bd (M_draw s (1000 : Int32)) fun y1 => if y1.1 < (y1.2.1 0 8) then (Lt (M_wide y1.2) fun y2 => Lt (M_high y1.2) fun y3 => Bd (M_draw y1.2 (y2 * y3)) fun y4 => Lt (M_wide y4.2) fun y5 => Gz y5 <| Lt (M_wide y4.2) fun y6 => Gz y6 <| Lt ((((8 : Int32) * (y4.1 / y5)) + (irm y4.1 y6))) fun y7 => Bd (M_draw y4.2 (y4.2.1 0 34)) fun y8 => Bd (M_seedOf y8.2 y7) fun y9 => if y9 = (-1 : Int32) then (Bd (M_stormOf y8.2 y7) fun y10 => if y10 = (-1 : Int32) then (Gl y8.2 4 64 y7 fun y11 => if y11 = 0 then (Bd (M_falls y8.2 y8.1 y7 (6 : Int32)) fun s1 => some s1) else (some y8.2)) else (some y8.2)) else (some y8.2)) else (some y1.2)))) else (some s)
set_option maxRecDepth 100000 in
set_option maxHeartbeats 4000000 in
theorem k_bringsBirds (l : Launch) (D : va_G) (cA : ClassId) (h : Nat → Nat) (s : ST) {o : ST} (hs : M_bringsBirds s = some o) : MV l (KM D cA h) 3 yX10_bringsBirds cX10_bringsBirds 4 none s [.ref (h 0)] o := by
  refine met_v (by decide) (Nat.le_of_ble_eq_true rfl) ?_
  intro p e st m args below meth c Q X RI
  unfold M_bringsBirds at hs
  refine g_aload_n X dX10_bringsBirds_0 (q := 1) rfl 0 rfl ?_
  refine mg_5 X dX10_bringsBirds_1 (q := 4) rfl ?_
  refine g_if_ne X dX10_bringsBirds_4 (q := 7) rfl (tgt := 35) (by decide) hs ?_ ?_
  · intro hs
    exact RI _ 35 _ (Option.some.inj hs) dX10_bringsBirds_35
  · intro hs
    refine g_aload_n X dX10_bringsBirds_7 (q := 8) rfl 0 rfl ?_
    refine mg_8 X dX10_bringsBirds_8 (q := 11) rfl ?_
    refine g_if_eq X dX10_bringsBirds_11 (q := 14) rfl (tgt := 35) (by decide) hs ?_ ?_
    · intro hs
      exact RI _ 35 _ (Option.some.inj hs) dX10_bringsBirds_35
    · intro hs
      refine g_aload_n X dX10_bringsBirds_14 (q := 15) rfl 0 rfl ?_
      refine mg_34 X dX10_bringsBirds_15 (q := 18) rfl ?_
      refine g_if_eq X dX10_bringsBirds_18 (q := 21) rfl (tgt := 35) (by decide) hs ?_ ?_
      · intro hs
        exact RI _ 35 _ (Option.some.inj hs) dX10_bringsBirds_35
      · intro hs
        refine g_aload_n X dX10_bringsBirds_21 (q := 22) rfl 0 rfl ?_
        refine g_sipush X dX10_bringsBirds_22 (q := 25) rfl li_s1000 ?_
        refine v_draw X dX10_bringsBirds_25 (q := 28) rfl (Nat.le_of_ble_eq_true rfl) (Nat.le_of_ble_eq_true rfl) (Nat.le_of_ble_eq_true rfl) hs (fun y1 hs => ?_)
        refine g_aload_n X dX10_bringsBirds_28 (q := 29) rfl 0 rfl ?_
        refine mg_8 X dX10_bringsBirds_29 (q := 32) rfl ?_
        refine g_icmp_lt X dX10_bringsBirds_32 (q := 35) rfl (tgt := 36) (by decide) hs ?_ ?_
        · intro hs
          refine g_aload_n X dX10_bringsBirds_36 (q := 37) rfl 0 rfl ?_
          refine g_aload_n X dX10_bringsBirds_37 (q := 38) rfl 0 rfl ?_
          refine v_wide X dX10_bringsBirds_38 (q := 41) rfl (Nat.le_of_ble_eq_true rfl) (Nat.le_of_ble_eq_true rfl) (Nat.le_of_ble_eq_true rfl) hs (fun y2 hs => ?_)
          refine g_aload_n X dX10_bringsBirds_41 (q := 42) rfl 0 rfl ?_
          refine v_high X dX10_bringsBirds_42 (q := 45) rfl (Nat.le_of_ble_eq_true rfl) (Nat.le_of_ble_eq_true rfl) (Nat.le_of_ble_eq_true rfl) hs (fun y3 hs => ?_)
          refine g_imul X dX10_bringsBirds_45 (q := 46) rfl ?_
          refine v_draw X dX10_bringsBirds_46 (q := 49) rfl (Nat.le_of_ble_eq_true rfl) (Nat.le_of_ble_eq_true rfl) (Nat.le_of_ble_eq_true rfl) hs (fun y4 hs => ?_)
          refine g_istore_n X dX10_bringsBirds_49 (q := 50) rfl (Nat.le_of_ble_eq_true rfl) (lv' := [(1, .int y4.1), (0, .ref (h 0))]) rfl ?_
          refine g_bipush X dX10_bringsBirds_50 (q := 52) rfl li_b8 ?_
          refine g_iload_n X dX10_bringsBirds_52 (q := 53) rfl 0 rfl ?_
          refine g_aload_n X dX10_bringsBirds_53 (q := 54) rfl 1 rfl ?_
          refine v_wide X dX10_bringsBirds_54 (q := 57) rfl (Nat.le_of_ble_eq_true rfl) (Nat.le_of_ble_eq_true rfl) (Nat.le_of_ble_eq_true rfl) hs (fun y5 hs => ?_)
          have hz := (Gz_e hs).1
          replace hs := (Gz_e hs).2
          refine g_idiv X dX10_bringsBirds_57 (q := 58) rfl hz ?_
          refine g_imul X dX10_bringsBirds_58 (q := 59) rfl ?_
          refine g_iload_n X dX10_bringsBirds_59 (q := 60) rfl 0 rfl ?_
          refine g_aload_n X dX10_bringsBirds_60 (q := 61) rfl 1 rfl ?_
          refine v_wide X dX10_bringsBirds_61 (q := 64) rfl (Nat.le_of_ble_eq_true rfl) (Nat.le_of_ble_eq_true rfl) (Nat.le_of_ble_eq_true rfl) hs (fun y6 hs => ?_)
          have hz := (Gz_e hs).1
          replace hs := (Gz_e hs).2
          refine g_irem X dX10_bringsBirds_64 (q := 65) rfl hz ?_
          refine g_iadd X dX10_bringsBirds_65 (q := 66) rfl ?_
          refine nmI hs (fun y7 hs => ?_)
          refine g_istore_n X dX10_bringsBirds_66 (q := 67) rfl (Nat.le_of_ble_eq_true rfl) (lv' := [(2, .int y7), (1, .int y4.1), (0, .ref (h 0))]) rfl ?_
          refine g_aload_n X dX10_bringsBirds_67 (q := 68) rfl 2 rfl ?_
          refine g_aload_n X dX10_bringsBirds_68 (q := 69) rfl 2 rfl ?_
          refine mg_34 X dX10_bringsBirds_69 (q := 72) rfl ?_
          refine v_draw X dX10_bringsBirds_72 (q := 75) rfl (Nat.le_of_ble_eq_true rfl) (Nat.le_of_ble_eq_true rfl) (Nat.le_of_ble_eq_true rfl) hs (fun y8 hs => ?_)
          refine g_istore_n X dX10_bringsBirds_75 (q := 76) rfl (Nat.le_of_ble_eq_true rfl) (lv' := [(3, .int y8.1), (2, .int y7), (1, .int y4.1), (0, .ref (h 0))]) rfl ?_
          refine g_aload_n X dX10_bringsBirds_76 (q := 77) rfl 3 rfl ?_
          refine g_iload_n X dX10_bringsBirds_77 (q := 78) rfl 1 rfl ?_
          refine v_seedOf X dX10_bringsBirds_78 (q := 81) rfl (Nat.le_of_ble_eq_true rfl) (Nat.le_of_ble_eq_true rfl) (Nat.le_of_ble_eq_true rfl) hs (fun y9 hs => ?_)
          refine g_iconst X dX10_bringsBirds_81 (q := 82) rfl li_im1 ?_
          refine g_icmp_ne X dX10_bringsBirds_82 (q := 85) rfl (tgt := 111) (by decide) hs ?_ ?_
          · intro hs
            exact RI _ 111 _ (Option.some.inj hs) dX10_bringsBirds_111
          · intro hs
            refine g_aload_n X dX10_bringsBirds_85 (q := 86) rfl 3 rfl ?_
            refine g_iload_n X dX10_bringsBirds_86 (q := 87) rfl 1 rfl ?_
            refine v_stormOf X dX10_bringsBirds_87 (q := 90) rfl (Nat.le_of_ble_eq_true rfl) (Nat.le_of_ble_eq_true rfl) (Nat.le_of_ble_eq_true rfl) hs (fun y10 hs => ?_)
            refine g_iconst X dX10_bringsBirds_90 (q := 91) rfl li_im1 ?_
            refine g_icmp_ne X dX10_bringsBirds_91 (q := 94) rfl (tgt := 111) (by decide) hs ?_ ?_
            · intro hs
              exact RI _ 111 _ (Option.some.inj hs) dX10_bringsBirds_111
            · intro hs
              refine g_aload_n X dX10_bringsBirds_94 (q := 95) rfl 3 rfl ?_
              refine mg_9 X dX10_bringsBirds_95 (q := 98) rfl ?_
              refine g_iload_n X dX10_bringsBirds_98 (q := 99) rfl 1 rfl ?_
              refine ma_4 X dX10_bringsBirds_99 (q := 100) rfl hs (fun y11 hs => ?_)
              refine g_if_ne X dX10_bringsBirds_100 (q := 103) rfl (tgt := 111) (by decide) hs ?_ ?_
              · intro hs
                exact RI _ 111 _ (Option.some.inj hs) dX10_bringsBirds_111
              · intro hs
                refine g_aload_n X dX10_bringsBirds_103 (q := 104) rfl 3 rfl ?_
                refine g_iload_n X dX10_bringsBirds_104 (q := 105) rfl 0 rfl ?_
                refine g_iload_n X dX10_bringsBirds_105 (q := 106) rfl 1 rfl ?_
                refine g_bipush X dX10_bringsBirds_106 (q := 108) rfl li_b6 ?_
                refine v_falls X dX10_bringsBirds_108 (q := 111) rfl (Nat.le_of_ble_eq_true rfl) (Nat.le_of_ble_eq_true rfl) (Nat.le_of_ble_eq_true rfl) hs (fun s1 hs => ?_)
                exact RI _ 111 _ (Option.some.inj hs) dX10_bringsBirds_111
        · intro hs
          exact RI _ 35 _ (Option.some.inj hs) dX10_bringsBirds_35
theorem v_bringsBirds {p : Program} {l : Launch} {e : Env} {st : State} {m : MethodId} {args : Array Value} {below : List Frame} {meth : Method} {c : Code} {Q : State → Prop} {nL : Nat} {cc : ByteArray} {s : ST} {pc q : Nat} {lv : List (Nat × Value)} {rest : List Value} {D : va_G} {cA : ClassId} {h : Nat → Nat} {d0 : Nat} (X : Cx (KM D cA h) p st m args meth c cc nL RX10) (d : decode cc pc = .ok (.invokevirtual 393, 3)) (hq : pc + 3 = q) (hd1 : 3 + 1 ≤ d0) (hd2 : 8 + (4 + 11) + 100 * 3 ≤ 100 * d0) (hr : (rest.map fun v => v.category).sum ≤ 8) {B : Type} {f : ST → Option B} {r : B} (hs : Bd (M_bringsBirds s) f = some r) (k : ∀ y, f y = some r → WG (KM D cA h) p l e (rmD d0) st m args below meth c Q nL y q lv (rest)) : WG (KM D cA h) p l e (rmD d0) st m args below meth c Q nL s pc lv (.ref (h 0) :: rest) := by
  obtain ⟨v, hv, hs⟩ := Bd_e hs
  exact cV_V X 0 (n := 0) (k_bringsBirds l D cA h s hv) gv_X10_bringsBirds ⟨hd1, hd2⟩ ⟨by decide, by decide, by decide +kernel⟩ (As := []) rfl hr (Nat.le_of_ble_eq_true rfl) (fs := mF h (s.1 0)) rfl rfl rfl d hq (k _ hs)
theorem dX10_goesIn_0 : decode cX10_goesIn 0 = .ok (.iconst 0, 1) := by decide +kernel
theorem dX10_goesIn_1 : decode cX10_goesIn 1 = .ok (.istore_n 2, 1) := by decide +kernel
theorem dX10_goesIn_2 : decode cX10_goesIn 2 = .ok (.iload_n 2, 1) := by decide +kernel
theorem dX10_goesIn_3 : decode cX10_goesIn 3 = .ok (.aload_n 0, 1) := by decide +kernel
theorem dX10_goesIn_4 : decode cX10_goesIn 4 = .ok (.getfield 127, 3) := by decide +kernel
theorem dX10_goesIn_7 : decode cX10_goesIn 7 = .ok (.if_icmp .ge 37, 3) := by decide +kernel
theorem dX10_goesIn_10 : decode cX10_goesIn 10 = .ok (.iload_n 1, 1) := by decide +kernel
theorem dX10_goesIn_11 : decode cX10_goesIn 11 = .ok (.ifCond .eq 33, 3) := by decide +kernel
theorem dX10_goesIn_14 : decode cX10_goesIn 14 = .ok (.aload_n 0, 1) := by decide +kernel
theorem dX10_goesIn_15 : decode cX10_goesIn 15 = .ok (.getfield 68, 3) := by decide +kernel
theorem dX10_goesIn_18 : decode cX10_goesIn 18 = .ok (.iconst 4, 1) := by decide +kernel
theorem dX10_goesIn_19 : decode cX10_goesIn 19 = .ok (.iload_n 2, 1) := by decide +kernel
theorem dX10_goesIn_20 : decode cX10_goesIn 20 = .ok (.imul, 1) := by decide +kernel
theorem dX10_goesIn_21 : decode cX10_goesIn 21 = .ok (.iaload, 1) := by decide +kernel
theorem dX10_goesIn_22 : decode cX10_goesIn 22 = .ok (.aload_n 0, 1) := by decide +kernel
theorem dX10_goesIn_23 : decode cX10_goesIn 23 = .ok (.getfield 7, 3) := by decide +kernel
theorem dX10_goesIn_26 : decode cX10_goesIn 26 = .ok (.iconst 0, 1) := by decide +kernel
theorem dX10_goesIn_27 : decode cX10_goesIn 27 = .ok (.iaload, 1) := by decide +kernel
theorem dX10_goesIn_28 : decode cX10_goesIn 28 = .ok (.if_icmp .ne 10, 3) := by decide +kernel
theorem dX10_goesIn_31 : decode cX10_goesIn 31 = .ok (.aload_n 0, 1) := by decide +kernel
theorem dX10_goesIn_32 : decode cX10_goesIn 32 = .ok (.iconst 4, 1) := by decide +kernel
theorem dX10_goesIn_33 : decode cX10_goesIn 33 = .ok (.iload_n 2, 1) := by decide +kernel
theorem dX10_goesIn_34 : decode cX10_goesIn 34 = .ok (.imul, 1) := by decide +kernel
theorem dX10_goesIn_35 : decode cX10_goesIn 35 = .ok (.invokevirtual 381, 3) := by decide +kernel
theorem dX10_goesIn_38 : decode cX10_goesIn 38 = .ok (.iinc 2 1, 3) := by decide +kernel
theorem dX10_goesIn_41 : decode cX10_goesIn 41 = .ok (.goto (-39), 3) := by decide +kernel
theorem dX10_goesIn_44 : decode cX10_goesIn 44 = .ok (.aload_n 0, 1) := by decide +kernel
theorem dX10_goesIn_45 : decode cX10_goesIn 45 = .ok (.invokevirtual 384, 3) := by decide +kernel
theorem dX10_goesIn_48 : decode cX10_goesIn 48 = .ok (.istore_n 2, 1) := by decide +kernel
theorem dX10_goesIn_49 : decode cX10_goesIn 49 = .ok (.aload_n 0, 1) := by decide +kernel
theorem dX10_goesIn_50 : decode cX10_goesIn 50 = .ok (.invokevirtual 387, 3) := by decide +kernel
theorem dX10_goesIn_53 : decode cX10_goesIn 53 = .ok (.iload_n 2, 1) := by decide +kernel
theorem dX10_goesIn_54 : decode cX10_goesIn 54 = .ok (.ireturn, 1) := by decide +kernel
def M_goesIn (s : ST) (x1 : Int32) : Option (Int32 × ST) := lpK2 (C := Int32 × ST) (fun (rec1 : Int32 → ST → Option (Int32 × ST)) (a1 : Int32) (s1 : ST) => Lt (Bd (M_comeUp s1) fun y1 => Bd (M_doesHarm y1.2) fun s2 => some (y1.1, s2) : Option (Int32 × ST)) fun j1 => if (s1.1 0 42) ≤ a1 then (j1) else (if x1 = 0 then (j1) else (Gl s1 19 128 ((4 : Int32) * a1) fun y2 => Lt (s1.1 1 0) fun y3 => Lt (fun (s3 : ST) => (rec1 (a1 + (1 : Int32)) s3 : Option (Int32 × ST))) fun j2 => if y2 = y3 then (Bd (M_does s1 ((4 : Int32) * a1)) fun s4 => j2 s4) else (j2 s1)))) FU (0 : Int32) s
set_option maxRecDepth 100000 in
set_option maxHeartbeats 4000000 in
theorem k_goesIn (l : Launch) (D : va_G) (cA : ClassId) (h : Nat → Nat) (s : ST) (x1 : Int32) {o : Int32 × ST} (hs : M_goesIn s x1 = some o) : MI l (KM D cA h) 8 yX10_goesIn cX10_goesIn 3 (some .int) s [.ref (h 0), .int x1] o.1 o.2 := by
  refine met_i (by decide) (Nat.le_of_ble_eq_true rfl) ?_
  intro p e st m args below meth c Q X RI
  unfold M_goesIn at hs
  refine g_iconst X dX10_goesIn_0 (q := 1) rfl li_i0 ?_
  refine g_istore_n X dX10_goesIn_1 (q := 2) rfl (Nat.le_of_ble_eq_true rfl) (lv' := [(2, .int (0 : Int32)), (0, .ref (h 0)), (1, .int x1)]) rfl ?_
  refine wg_sub [1, 2, 0] rfl (lpW2 (fun (a1 : Int32) (s1 : ST) => WG (KM D cA h) p l e (rmD 8) st m args below meth c Q 3 s1 2 [(0, .ref (h 0)), (1, .int x1), (2, .int a1)] []) (fun rec1 ih1 a1 s1 hs => ?_) _ _ _ hs)
  refine g_iload_n X dX10_goesIn_2 (q := 3) rfl 2 rfl ?_
  refine g_aload_n X dX10_goesIn_3 (q := 4) rfl 0 rfl ?_
  refine mg_42 X dX10_goesIn_4 (q := 7) rfl ?_
  refine jnW0 (WG (KM D cA h) p l e (rmD 8) st m args below meth c Q 3 s1 44 [(0, .ref (h 0))] []) hs (fun  hs => ?_) (fun j1 ih2 hs => ?_)
  · refine g_aload_n X dX10_goesIn_44 (q := 45) rfl 0 rfl ?_
    refine v_comeUp X dX10_goesIn_45 (q := 48) rfl (Nat.le_of_ble_eq_true rfl) (Nat.le_of_ble_eq_true rfl) (Nat.le_of_ble_eq_true rfl) hs (fun y1 hs => ?_)
    refine g_istore_n X dX10_goesIn_48 (q := 49) rfl (Nat.le_of_ble_eq_true rfl) (lv' := [(2, .int y1.1), (0, .ref (h 0))]) rfl ?_
    refine g_aload_n X dX10_goesIn_49 (q := 50) rfl 1 rfl ?_
    refine v_doesHarm X dX10_goesIn_50 (q := 53) rfl (Nat.le_of_ble_eq_true rfl) (Nat.le_of_ble_eq_true rfl) (Nat.le_of_ble_eq_true rfl) hs (fun s2 hs => ?_)
    refine g_iload_n X dX10_goesIn_53 (q := 54) rfl 0 rfl ?_
    exact RI _ 54 _ _ _ (rU1 hs) rfl (rV1 hs) dX10_goesIn_54
  refine g_icmp_ge X dX10_goesIn_7 (q := 10) rfl (tgt := 44) (by decide) hs ?_ ?_
  · intro hs
    exact wg_sub [0] rfl (ih2 hs)
  · intro hs
    refine g_iload_n X dX10_goesIn_10 (q := 11) rfl 1 rfl ?_
    refine g_if_eq X dX10_goesIn_11 (q := 14) rfl (tgt := 44) (by decide) hs ?_ ?_
    · intro hs
      exact wg_sub [0] rfl (ih2 hs)
    · intro hs
      refine g_aload_n X dX10_goesIn_14 (q := 15) rfl 0 rfl ?_
      refine mg_43 X dX10_goesIn_15 (q := 18) rfl ?_
      refine g_iconst X dX10_goesIn_18 (q := 19) rfl li_i4 ?_
      refine g_iload_n X dX10_goesIn_19 (q := 20) rfl 2 rfl ?_
      refine g_imul X dX10_goesIn_20 (q := 21) rfl ?_
      refine ma_19 X dX10_goesIn_21 (q := 22) rfl hs (fun y2 hs => ?_)
      refine g_aload_n X dX10_goesIn_22 (q := 23) rfl 0 rfl ?_
      refine mg_1 X dX10_goesIn_23 (q := 26) rfl ?_
      refine g_iconst X dX10_goesIn_26 (q := 27) rfl li_i0 ?_
      refine mk_1 X dX10_goesIn_27 (q := 28) rfl (j := 0) (by decide) (by decide) hs (fun y3 hs => ?_)
      refine jnW1 (fun (s3 : ST) => WG (KM D cA h) p l e (rmD 8) st m args below meth c Q 3 s3 38 [(0, .ref (h 0)), (1, .int x1), (2, .int a1)] []) hs (fun s3 hs => ?_) (fun j2 ih3 hs => ?_)
      · refine g_iinc X dX10_goesIn_38 (q := 41) rfl 2 rfl (v := (a1 + (1 : Int32))) (congrArg (HAdd.hAdd a1) li_i1) (Nat.le_of_ble_eq_true rfl) (lv' := [(2, .int (a1 + (1 : Int32))), (0, .ref (h 0)), (1, .int x1)]) rfl ?_
        refine g_goto X dX10_goesIn_41 (tgt := 2) (by decide) ?_
        exact wg_sub [1, 2, 0] rfl (ih1 _ _ hs)
      refine g_icmp_ne X dX10_goesIn_28 (q := 31) rfl (tgt := 38) (by decide) hs ?_ ?_
      · intro hs
        exact wg_sub [0, 1, 2] rfl (ih3 _ hs)
      · intro hs
        refine g_aload_n X dX10_goesIn_31 (q := 32) rfl 0 rfl ?_
        refine g_iconst X dX10_goesIn_32 (q := 33) rfl li_i4 ?_
        refine g_iload_n X dX10_goesIn_33 (q := 34) rfl 2 rfl ?_
        refine g_imul X dX10_goesIn_34 (q := 35) rfl ?_
        refine v_does X dX10_goesIn_35 (q := 38) rfl (Nat.le_of_ble_eq_true rfl) (Nat.le_of_ble_eq_true rfl) (Nat.le_of_ble_eq_true rfl) hs (fun s4 hs => ?_)
        exact wg_sub [0, 1, 2] rfl (ih3 _ hs)
theorem v_goesIn {p : Program} {l : Launch} {e : Env} {st : State} {m : MethodId} {args : Array Value} {below : List Frame} {meth : Method} {c : Code} {Q : State → Prop} {nL : Nat} {cc : ByteArray} {s : ST} {pc q : Nat} {lv : List (Nat × Value)} {rest : List Value} {D : va_G} {cA : ClassId} {h : Nat → Nat} {d0 : Nat} (X : Cx (KM D cA h) p st m args meth c cc nL RX10) {x1 : Int32} (d : decode cc pc = .ok (.invokevirtual 396, 3)) (hq : pc + 3 = q) (hd1 : 8 + 1 ≤ d0) (hd2 : 8 + (3 + 11) + 100 * 8 ≤ 100 * d0) (hr : (rest.map fun v => v.category).sum ≤ 8) {B : Type} {f : Int32 × ST → Option B} {r : B} (hs : Bd (M_goesIn s x1) f = some r) (k : ∀ y, f y = some r → WG (KM D cA h) p l e (rmD d0) st m args below meth c Q nL y.2 q lv (.int y.1 :: rest)) : WG (KM D cA h) p l e (rmD d0) st m args below meth c Q nL s pc lv (.int x1 :: .ref (h 0) :: rest) := by
  obtain ⟨v, hv, hs⟩ := Bd_e hs
  exact cV_I X 0 (n := 1) (k_goesIn l D cA h s x1 hv) gv_X10_goesIn ⟨hd1, hd2⟩ ⟨by decide, by decide, by decide +kernel⟩ (As := [.int x1]) rfl hr (Nat.le_of_ble_eq_true rfl) (fs := mF h (s.1 0)) rfl rfl rfl d hq (k _ hs)
theorem dX10_goesOut_0 : decode cX10_goesOut 0 = .ok (.aload_n 0, 1) := by decide +kernel
theorem dX10_goesOut_1 : decode cX10_goesOut 1 = .ok (.invokevirtual 390, 3) := by decide +kernel
theorem dX10_goesOut_4 : decode cX10_goesOut 4 = .ok (.aload_n 0, 1) := by decide +kernel
theorem dX10_goesOut_5 : decode cX10_goesOut 5 = .ok (.invokevirtual 393, 3) := by decide +kernel
theorem dX10_goesOut_8 : decode cX10_goesOut 8 = .ok (.aload_n 0, 1) := by decide +kernel
theorem dX10_goesOut_9 : decode cX10_goesOut 9 = .ok (.getfield 7, 3) := by decide +kernel
theorem dX10_goesOut_12 : decode cX10_goesOut 12 = .ok (.iconst 0, 1) := by decide +kernel
theorem dX10_goesOut_13 : decode cX10_goesOut 13 = .ok (.aload_n 0, 1) := by decide +kernel
theorem dX10_goesOut_14 : decode cX10_goesOut 14 = .ok (.getfield 7, 3) := by decide +kernel
theorem dX10_goesOut_17 : decode cX10_goesOut 17 = .ok (.iconst 0, 1) := by decide +kernel
theorem dX10_goesOut_18 : decode cX10_goesOut 18 = .ok (.iaload, 1) := by decide +kernel
theorem dX10_goesOut_19 : decode cX10_goesOut 19 = .ok (.iconst 1, 1) := by decide +kernel
theorem dX10_goesOut_20 : decode cX10_goesOut 20 = .ok (.iadd, 1) := by decide +kernel
theorem dX10_goesOut_21 : decode cX10_goesOut 21 = .ok (.iastore, 1) := by decide +kernel
theorem dX10_goesOut_22 : decode cX10_goesOut 22 = .ok (.return_, 1) := by decide +kernel
def M_goesOut (s : ST) : Option (ST) := Bd (M_goAway s) fun s1 => Bd (M_bringsBirds s1) fun s2 => Lt (s2.1 1 0) fun y1 => Lt (ups s2 1 0 (y1 + (1 : Int32))) fun s3 => some s3
set_option maxRecDepth 100000 in
set_option maxHeartbeats 4000000 in
theorem k_goesOut (l : Launch) (D : va_G) (cA : ClassId) (h : Nat → Nat) (s : ST) {o : ST} (hs : M_goesOut s = some o) : MV l (KM D cA h) 5 yX10_goesOut cX10_goesOut 1 none s [.ref (h 0)] o := by
  refine met_v (by decide) (Nat.le_of_ble_eq_true rfl) ?_
  intro p e st m args below meth c Q X RI
  unfold M_goesOut at hs
  refine g_aload_n X dX10_goesOut_0 (q := 1) rfl 0 rfl ?_
  refine v_goAway X dX10_goesOut_1 (q := 4) rfl (Nat.le_of_ble_eq_true rfl) (Nat.le_of_ble_eq_true rfl) (Nat.le_of_ble_eq_true rfl) hs (fun s1 hs => ?_)
  refine g_aload_n X dX10_goesOut_4 (q := 5) rfl 0 rfl ?_
  refine v_bringsBirds X dX10_goesOut_5 (q := 8) rfl (Nat.le_of_ble_eq_true rfl) (Nat.le_of_ble_eq_true rfl) (Nat.le_of_ble_eq_true rfl) hs (fun s2 hs => ?_)
  refine g_aload_n X dX10_goesOut_8 (q := 9) rfl 0 rfl ?_
  refine mg_1 X dX10_goesOut_9 (q := 12) rfl ?_
  refine g_iconst X dX10_goesOut_12 (q := 13) rfl li_i0 ?_
  refine g_aload_n X dX10_goesOut_13 (q := 14) rfl 0 rfl ?_
  refine mg_1 X dX10_goesOut_14 (q := 17) rfl ?_
  refine g_iconst X dX10_goesOut_17 (q := 18) rfl li_i0 ?_
  refine mk_1 X dX10_goesOut_18 (q := 19) rfl (j := 0) (by decide) (by decide) hs (fun y1 hs => ?_)
  refine g_iconst X dX10_goesOut_19 (q := 20) rfl li_i1 ?_
  refine g_iadd X dX10_goesOut_20 (q := 21) rfl ?_
  refine msk_1 X dX10_goesOut_21 (q := 22) rfl (j := 0) (by decide) (by decide) hs (fun s3 hs => ?_)
  exact RI _ 22 _ (Option.some.inj hs) dX10_goesOut_22
theorem v_goesOut {p : Program} {l : Launch} {e : Env} {st : State} {m : MethodId} {args : Array Value} {below : List Frame} {meth : Method} {c : Code} {Q : State → Prop} {nL : Nat} {cc : ByteArray} {s : ST} {pc q : Nat} {lv : List (Nat × Value)} {rest : List Value} {D : va_G} {cA : ClassId} {h : Nat → Nat} {d0 : Nat} (X : Cx (KM D cA h) p st m args meth c cc nL RX10) (d : decode cc pc = .ok (.invokevirtual 400, 3)) (hq : pc + 3 = q) (hd1 : 5 + 1 ≤ d0) (hd2 : 8 + (1 + 11) + 100 * 5 ≤ 100 * d0) (hr : (rest.map fun v => v.category).sum ≤ 8) {B : Type} {f : ST → Option B} {r : B} (hs : Bd (M_goesOut s) f = some r) (k : ∀ y, f y = some r → WG (KM D cA h) p l e (rmD d0) st m args below meth c Q nL y q lv (rest)) : WG (KM D cA h) p l e (rmD d0) st m args below meth c Q nL s pc lv (.ref (h 0) :: rest) := by
  obtain ⟨v, hv, hs⟩ := Bd_e hs
  exact cV_V X 0 (n := 0) (k_goesOut l D cA h s hv) gv_X10_goesOut ⟨hd1, hd2⟩ ⟨by decide, by decide, by decide +kernel⟩ (As := []) rfl hr (Nat.le_of_ble_eq_true rfl) (fs := mF h (s.1 0)) rfl rfl rfl d hq (k _ hs)
theorem dX10_days_0 : decode cX10_days 0 = .ok (.aload_n 0, 1) := by decide +kernel
theorem dX10_days_1 : decode cX10_days 1 = .ok (.iconst 0, 1) := by decide +kernel
theorem dX10_days_2 : decode cX10_days 2 = .ok (.putfield 83, 3) := by decide +kernel
theorem dX10_days_5 : decode cX10_days 5 = .ok (.aload_n 0, 1) := by decide +kernel
theorem dX10_days_6 : decode cX10_days 6 = .ok (.iload_n 1, 1) := by decide +kernel
theorem dX10_days_7 : decode cX10_days 7 = .ok (.iconst 1, 1) := by decide +kernel
theorem dX10_days_8 : decode cX10_days 8 = .ok (.bipush 60, 2) := by decide +kernel
theorem dX10_days_10 : decode cX10_days 10 = .ok (.invokevirtual 111, 3) := by decide +kernel
theorem dX10_days_13 : decode cX10_days 13 = .ok (.ifCond .eq 17, 3) := by decide +kernel
theorem dX10_days_16 : decode cX10_days 16 = .ok (.aload_n 0, 1) := by decide +kernel
theorem dX10_days_17 : decode cX10_days 17 = .ok (.getfield 7, 3) := by decide +kernel
theorem dX10_days_20 : decode cX10_days 20 = .ok (.iconst 0, 1) := by decide +kernel
theorem dX10_days_21 : decode cX10_days 21 = .ok (.iaload, 1) := by decide +kernel
theorem dX10_days_22 : decode cX10_days 22 = .ok (.iload_n 1, 1) := by decide +kernel
theorem dX10_days_23 : decode cX10_days 23 = .ok (.iadd, 1) := by decide +kernel
theorem dX10_days_24 : decode cX10_days 24 = .ok (.sipush 999, 3) := by decide +kernel
theorem dX10_days_27 : decode cX10_days 27 = .ok (.if_icmp .le 5, 3) := by decide +kernel
theorem dX10_days_30 : decode cX10_days 30 = .ok (.iconst (-1), 1) := by decide +kernel
theorem dX10_days_31 : decode cX10_days 31 = .ok (.ireturn, 1) := by decide +kernel
theorem dX10_days_32 : decode cX10_days 32 = .ok (.iconst 0, 1) := by decide +kernel
theorem dX10_days_33 : decode cX10_days 33 = .ok (.istore_n 2, 1) := by decide +kernel
theorem dX10_days_34 : decode cX10_days 34 = .ok (.iconst 0, 1) := by decide +kernel
theorem dX10_days_35 : decode cX10_days 35 = .ok (.istore_n 3, 1) := by decide +kernel
theorem dX10_days_36 : decode cX10_days 36 = .ok (.iload_n 3, 1) := by decide +kernel
theorem dX10_days_37 : decode cX10_days 37 = .ok (.iload_n 1, 1) := by decide +kernel
theorem dX10_days_38 : decode cX10_days 38 = .ok (.if_icmp .ge 25, 3) := by decide +kernel
theorem dX10_days_41 : decode cX10_days 41 = .ok (.aload_n 0, 1) := by decide +kernel
theorem dX10_days_42 : decode cX10_days 42 = .ok (.invokevirtual 336, 3) := by decide +kernel
theorem dX10_days_45 : decode cX10_days 45 = .ok (.iload_n 2, 1) := by decide +kernel
theorem dX10_days_46 : decode cX10_days 46 = .ok (.aload_n 0, 1) := by decide +kernel
theorem dX10_days_47 : decode cX10_days 47 = .ok (.iconst 1, 1) := by decide +kernel
theorem dX10_days_48 : decode cX10_days 48 = .ok (.invokevirtual 396, 3) := by decide +kernel
theorem dX10_days_51 : decode cX10_days 51 = .ok (.iadd, 1) := by decide +kernel
theorem dX10_days_52 : decode cX10_days 52 = .ok (.istore_n 2, 1) := by decide +kernel
theorem dX10_days_53 : decode cX10_days 53 = .ok (.aload_n 0, 1) := by decide +kernel
theorem dX10_days_54 : decode cX10_days 54 = .ok (.invokevirtual 400, 3) := by decide +kernel
theorem dX10_days_57 : decode cX10_days 57 = .ok (.iinc 3 1, 3) := by decide +kernel
theorem dX10_days_60 : decode cX10_days 60 = .ok (.goto (-24), 3) := by decide +kernel
theorem dX10_days_63 : decode cX10_days 63 = .ok (.iload_n 2, 1) := by decide +kernel
theorem dX10_days_64 : decode cX10_days 64 = .ok (.ireturn, 1) := by decide +kernel
def M_days (s : ST) (x1 : Int32) : Option (Int32 × ST) := Lt (ups s 0 0 (0 : Int32)) fun s1 => Lt (M_isIn s1 x1 (1 : Int32) (60 : Int32)) fun y1 => if y1 = 0 then (some ((-1 : Int32), s1)) else (Lt (s1.1 1 0) fun y2 => if (y2 + x1) ≤ (999 : Int32) then (lpK3 (C := Int32 × ST) (fun (rec1 : Int32 → Int32 → ST → Option (Int32 × ST)) (a1 : Int32) (a2 : Int32) (s2 : ST) => if x1 ≤ a2 then (some (a1, s2)) else (Bd (M_keepsAhead s2) fun s3 => Bd (M_goesIn s3 (1 : Int32)) fun y3 => Lt ((a1 + y3.1)) fun y4 => Bd (M_goesOut y3.2) fun s4 => rec1 y4 (a2 + (1 : Int32)) s4)) FU (0 : Int32) (0 : Int32) s1) else (some ((-1 : Int32), s1)))
set_option maxRecDepth 100000 in
set_option maxHeartbeats 4000000 in
theorem k_days (l : Launch) (D : va_G) (cA : ClassId) (h : Nat → Nat) (s : ST) (x1 : Int32) {o : Int32 × ST} (hs : M_days s x1 = some o) : MI l (KM D cA h) 9 yX10_days cX10_days 4 (some .int) s [.ref (h 0), .int x1] o.1 o.2 := by
  refine met_i (by decide) (Nat.le_of_ble_eq_true rfl) ?_
  intro p e st m args below meth c Q X RI
  unfold M_days at hs
  refine g_aload_n X dX10_days_0 (q := 1) rfl 0 rfl ?_
  refine g_iconst X dX10_days_1 (q := 2) rfl li_i0 ?_
  refine mp_0 X dX10_days_2 (q := 5) rfl hs (fun s1 hs => ?_)
  refine g_aload_n X dX10_days_5 (q := 6) rfl 0 rfl ?_
  refine g_iload_n X dX10_days_6 (q := 7) rfl 1 rfl ?_
  refine g_iconst X dX10_days_7 (q := 8) rfl li_i1 ?_
  refine g_bipush X dX10_days_8 (q := 10) rfl li_b60 ?_
  refine v_isIn X dX10_days_10 (q := 13) rfl (Nat.le_of_ble_eq_true rfl) (Nat.le_of_ble_eq_true rfl) (Nat.le_of_ble_eq_true rfl) hs (fun y1 hs => ?_)
  refine g_if_eq X dX10_days_13 (q := 16) rfl (tgt := 30) (by decide) hs ?_ ?_
  · intro hs
    refine g_iconst X dX10_days_30 (q := 31) rfl li_im1 ?_
    exact RI _ 31 _ _ _ (rU1 hs) rfl (rV1 hs) dX10_days_31
  · intro hs
    refine g_aload_n X dX10_days_16 (q := 17) rfl 0 rfl ?_
    refine mg_1 X dX10_days_17 (q := 20) rfl ?_
    refine g_iconst X dX10_days_20 (q := 21) rfl li_i0 ?_
    refine mk_1 X dX10_days_21 (q := 22) rfl (j := 0) (by decide) (by decide) hs (fun y2 hs => ?_)
    refine g_iload_n X dX10_days_22 (q := 23) rfl 1 rfl ?_
    refine g_iadd X dX10_days_23 (q := 24) rfl ?_
    refine g_sipush X dX10_days_24 (q := 27) rfl li_s999 ?_
    refine g_icmp_le X dX10_days_27 (q := 30) rfl (tgt := 32) (by decide) hs ?_ ?_
    · intro hs
      refine g_iconst X dX10_days_32 (q := 33) rfl li_i0 ?_
      refine g_istore_n X dX10_days_33 (q := 34) rfl (Nat.le_of_ble_eq_true rfl) (lv' := [(2, .int (0 : Int32)), (0, .ref (h 0)), (1, .int x1)]) rfl ?_
      refine g_iconst X dX10_days_34 (q := 35) rfl li_i0 ?_
      refine g_istore_n X dX10_days_35 (q := 36) rfl (Nat.le_of_ble_eq_true rfl) (lv' := [(3, .int (0 : Int32)), (2, .int (0 : Int32)), (0, .ref (h 0)), (1, .int x1)]) rfl ?_
      refine wg_sub [2, 3, 1, 0] rfl (lpW3 (fun (a1 : Int32) (a2 : Int32) (s2 : ST) => WG (KM D cA h) p l e (rmD 9) st m args below meth c Q 4 s2 36 [(0, .ref (h 0)), (1, .int x1), (2, .int a1), (3, .int a2)] []) (fun rec1 ih1 a1 a2 s2 hs => ?_) _ _ _ _ hs)
      refine g_iload_n X dX10_days_36 (q := 37) rfl 3 rfl ?_
      refine g_iload_n X dX10_days_37 (q := 38) rfl 1 rfl ?_
      refine g_icmp_ge X dX10_days_38 (q := 41) rfl (tgt := 63) (by decide) hs ?_ ?_
      · intro hs
        refine g_iload_n X dX10_days_63 (q := 64) rfl 2 rfl ?_
        exact RI _ 64 _ _ _ (rU1 hs) rfl (rV1 hs) dX10_days_64
      · intro hs
        refine g_aload_n X dX10_days_41 (q := 42) rfl 0 rfl ?_
        refine v_keepsAhead X dX10_days_42 (q := 45) rfl (Nat.le_of_ble_eq_true rfl) (Nat.le_of_ble_eq_true rfl) (Nat.le_of_ble_eq_true rfl) hs (fun s3 hs => ?_)
        refine g_iload_n X dX10_days_45 (q := 46) rfl 2 rfl ?_
        refine g_aload_n X dX10_days_46 (q := 47) rfl 0 rfl ?_
        refine g_iconst X dX10_days_47 (q := 48) rfl li_i1 ?_
        refine v_goesIn X dX10_days_48 (q := 51) rfl (Nat.le_of_ble_eq_true rfl) (Nat.le_of_ble_eq_true rfl) (Nat.le_of_ble_eq_true rfl) hs (fun y3 hs => ?_)
        refine g_iadd X dX10_days_51 (q := 52) rfl ?_
        refine nmI hs (fun y4 hs => ?_)
        refine g_istore_n X dX10_days_52 (q := 53) rfl (Nat.le_of_ble_eq_true rfl) (lv' := [(2, .int y4), (0, .ref (h 0)), (1, .int x1), (3, .int a2)]) rfl ?_
        refine g_aload_n X dX10_days_53 (q := 54) rfl 1 rfl ?_
        refine v_goesOut X dX10_days_54 (q := 57) rfl (Nat.le_of_ble_eq_true rfl) (Nat.le_of_ble_eq_true rfl) (Nat.le_of_ble_eq_true rfl) hs (fun s4 hs => ?_)
        refine g_iinc X dX10_days_57 (q := 60) rfl 3 rfl (v := (a2 + (1 : Int32))) (congrArg (HAdd.hAdd a2) li_i1) (Nat.le_of_ble_eq_true rfl) (lv' := [(3, .int (a2 + (1 : Int32))), (2, .int y4), (0, .ref (h 0)), (1, .int x1)]) rfl ?_
        refine g_goto X dX10_days_60 (tgt := 36) (by decide) ?_
        exact wg_sub [2, 3, 1, 0] rfl (ih1 _ _ _ hs)
    · intro hs
      refine g_iconst X dX10_days_30 (q := 31) rfl li_im1 ?_
      exact RI _ 31 _ _ _ (rU1 hs) rfl (rV1 hs) dX10_days_31
theorem dX10_at_0 : decode cX10_at 0 = .ok (.aload_n 0, 1) := by decide +kernel
theorem dX10_at_1 : decode cX10_at 1 = .ok (.iconst 0, 1) := by decide +kernel
theorem dX10_at_2 : decode cX10_at 2 = .ok (.putfield 83, 3) := by decide +kernel
theorem dX10_at_5 : decode cX10_at 5 = .ok (.aload_n 0, 1) := by decide +kernel
theorem dX10_at_6 : decode cX10_at 6 = .ok (.iload_n 1, 1) := by decide +kernel
theorem dX10_at_7 : decode cX10_at 7 = .ok (.invokevirtual 130, 3) := by decide +kernel
theorem dX10_at_10 : decode cX10_at 10 = .ok (.ifCond .ne 6, 3) := by decide +kernel
theorem dX10_at_13 : decode cX10_at 13 = .ok (.bipush (-2), 2) := by decide +kernel
theorem dX10_at_15 : decode cX10_at 15 = .ok (.ireturn, 1) := by decide +kernel
theorem dX10_at_16 : decode cX10_at 16 = .ok (.iload_n 2, 1) := by decide +kernel
theorem dX10_at_17 : decode cX10_at 17 = .ok (.ifCond .ne 9, 3) := by decide +kernel
theorem dX10_at_20 : decode cX10_at 20 = .ok (.aload_n 0, 1) := by decide +kernel
theorem dX10_at_21 : decode cX10_at 21 = .ok (.iload_n 1, 1) := by decide +kernel
theorem dX10_at_22 : decode cX10_at 22 = .ok (.invokevirtual 311, 3) := by decide +kernel
theorem dX10_at_25 : decode cX10_at 25 = .ok (.ireturn, 1) := by decide +kernel
theorem dX10_at_26 : decode cX10_at 26 = .ok (.iload_n 2, 1) := by decide +kernel
theorem dX10_at_27 : decode cX10_at 27 = .ok (.iconst 1, 1) := by decide +kernel
theorem dX10_at_28 : decode cX10_at 28 = .ok (.if_icmp .ne 10, 3) := by decide +kernel
theorem dX10_at_31 : decode cX10_at 31 = .ok (.aload_n 0, 1) := by decide +kernel
theorem dX10_at_32 : decode cX10_at 32 = .ok (.getfield 19, 3) := by decide +kernel
theorem dX10_at_35 : decode cX10_at 35 = .ok (.iload_n 1, 1) := by decide +kernel
theorem dX10_at_36 : decode cX10_at 36 = .ok (.iaload, 1) := by decide +kernel
theorem dX10_at_37 : decode cX10_at 37 = .ok (.ireturn, 1) := by decide +kernel
theorem dX10_at_38 : decode cX10_at 38 = .ok (.iload_n 2, 1) := by decide +kernel
theorem dX10_at_39 : decode cX10_at 39 = .ok (.iconst 2, 1) := by decide +kernel
theorem dX10_at_40 : decode cX10_at 40 = .ok (.if_icmp .ne 9, 3) := by decide +kernel
theorem dX10_at_43 : decode cX10_at 43 = .ok (.aload_n 0, 1) := by decide +kernel
theorem dX10_at_44 : decode cX10_at 44 = .ok (.iload_n 1, 1) := by decide +kernel
theorem dX10_at_45 : decode cX10_at 45 = .ok (.invokevirtual 134, 3) := by decide +kernel
theorem dX10_at_48 : decode cX10_at 48 = .ok (.ireturn, 1) := by decide +kernel
theorem dX10_at_49 : decode cX10_at 49 = .ok (.iload_n 2, 1) := by decide +kernel
theorem dX10_at_50 : decode cX10_at 50 = .ok (.iconst 3, 1) := by decide +kernel
theorem dX10_at_51 : decode cX10_at 51 = .ok (.if_icmp .ne 27, 3) := by decide +kernel
theorem dX10_at_54 : decode cX10_at 54 = .ok (.aload_n 0, 1) := by decide +kernel
theorem dX10_at_55 : decode cX10_at 55 = .ok (.iload_n 1, 1) := by decide +kernel
theorem dX10_at_56 : decode cX10_at 56 = .ok (.invokevirtual 134, 3) := by decide +kernel
theorem dX10_at_59 : decode cX10_at 59 = .ok (.iconst (-1), 1) := by decide +kernel
theorem dX10_at_60 : decode cX10_at 60 = .ok (.if_icmp .ne 7, 3) := by decide +kernel
theorem dX10_at_63 : decode cX10_at 63 = .ok (.iconst (-1), 1) := by decide +kernel
theorem dX10_at_64 : decode cX10_at 64 = .ok (.goto 13, 3) := by decide +kernel
theorem dX10_at_67 : decode cX10_at 67 = .ok (.aload_n 0, 1) := by decide +kernel
theorem dX10_at_68 : decode cX10_at 68 = .ok (.getfield 7, 3) := by decide +kernel
theorem dX10_at_71 : decode cX10_at 71 = .ok (.sipush 133, 3) := by decide +kernel
theorem dX10_at_74 : decode cX10_at 74 = .ok (.iload_n 1, 1) := by decide +kernel
theorem dX10_at_75 : decode cX10_at 75 = .ok (.iadd, 1) := by decide +kernel
theorem dX10_at_76 : decode cX10_at 76 = .ok (.iaload, 1) := by decide +kernel
theorem dX10_at_77 : decode cX10_at 77 = .ok (.ireturn, 1) := by decide +kernel
theorem dX10_at_78 : decode cX10_at 78 = .ok (.iload_n 2, 1) := by decide +kernel
theorem dX10_at_79 : decode cX10_at 79 = .ok (.iconst 4, 1) := by decide +kernel
theorem dX10_at_80 : decode cX10_at 80 = .ok (.if_icmp .ne 9, 3) := by decide +kernel
theorem dX10_at_83 : decode cX10_at 83 = .ok (.aload_n 0, 1) := by decide +kernel
theorem dX10_at_84 : decode cX10_at 84 = .ok (.iload_n 1, 1) := by decide +kernel
theorem dX10_at_85 : decode cX10_at 85 = .ok (.invokevirtual 308, 3) := by decide +kernel
theorem dX10_at_88 : decode cX10_at 88 = .ok (.ireturn, 1) := by decide +kernel
theorem dX10_at_89 : decode cX10_at 89 = .ok (.iload_n 2, 1) := by decide +kernel
theorem dX10_at_90 : decode cX10_at 90 = .ok (.iconst 5, 1) := by decide +kernel
theorem dX10_at_91 : decode cX10_at 91 = .ok (.if_icmp .ne 27, 3) := by decide +kernel
theorem dX10_at_94 : decode cX10_at 94 = .ok (.aload_n 0, 1) := by decide +kernel
theorem dX10_at_95 : decode cX10_at 95 = .ok (.iload_n 1, 1) := by decide +kernel
theorem dX10_at_96 : decode cX10_at 96 = .ok (.invokevirtual 308, 3) := by decide +kernel
theorem dX10_at_99 : decode cX10_at 99 = .ok (.iconst (-1), 1) := by decide +kernel
theorem dX10_at_100 : decode cX10_at 100 = .ok (.if_icmp .ne 7, 3) := by decide +kernel
theorem dX10_at_103 : decode cX10_at 103 = .ok (.iconst 0, 1) := by decide +kernel
theorem dX10_at_104 : decode cX10_at 104 = .ok (.goto 13, 3) := by decide +kernel
theorem dX10_at_107 : decode cX10_at 107 = .ok (.aload_n 0, 1) := by decide +kernel
theorem dX10_at_108 : decode cX10_at 108 = .ok (.getfield 7, 3) := by decide +kernel
theorem dX10_at_111 : decode cX10_at 111 = .ok (.sipush 261, 3) := by decide +kernel
theorem dX10_at_114 : decode cX10_at 114 = .ok (.iload_n 1, 1) := by decide +kernel
theorem dX10_at_115 : decode cX10_at 115 = .ok (.iadd, 1) := by decide +kernel
theorem dX10_at_116 : decode cX10_at 116 = .ok (.iaload, 1) := by decide +kernel
theorem dX10_at_117 : decode cX10_at 117 = .ok (.ireturn, 1) := by decide +kernel
theorem dX10_at_118 : decode cX10_at 118 = .ok (.iload_n 2, 1) := by decide +kernel
theorem dX10_at_119 : decode cX10_at 119 = .ok (.bipush 6, 2) := by decide +kernel
theorem dX10_at_121 : decode cX10_at 121 = .ok (.if_icmp .ne 27, 3) := by decide +kernel
theorem dX10_at_124 : decode cX10_at 124 = .ok (.aload_n 0, 1) := by decide +kernel
theorem dX10_at_125 : decode cX10_at 125 = .ok (.iload_n 1, 1) := by decide +kernel
theorem dX10_at_126 : decode cX10_at 126 = .ok (.invokevirtual 308, 3) := by decide +kernel
theorem dX10_at_129 : decode cX10_at 129 = .ok (.iconst (-1), 1) := by decide +kernel
theorem dX10_at_130 : decode cX10_at 130 = .ok (.if_icmp .ne 7, 3) := by decide +kernel
theorem dX10_at_133 : decode cX10_at 133 = .ok (.iconst (-1), 1) := by decide +kernel
theorem dX10_at_134 : decode cX10_at 134 = .ok (.goto 13, 3) := by decide +kernel
theorem dX10_at_137 : decode cX10_at 137 = .ok (.aload_n 0, 1) := by decide +kernel
theorem dX10_at_138 : decode cX10_at 138 = .ok (.getfield 7, 3) := by decide +kernel
theorem dX10_at_141 : decode cX10_at 141 = .ok (.sipush 325, 3) := by decide +kernel
theorem dX10_at_144 : decode cX10_at 144 = .ok (.iload_n 1, 1) := by decide +kernel
theorem dX10_at_145 : decode cX10_at 145 = .ok (.iadd, 1) := by decide +kernel
theorem dX10_at_146 : decode cX10_at 146 = .ok (.iaload, 1) := by decide +kernel
theorem dX10_at_147 : decode cX10_at 147 = .ok (.ireturn, 1) := by decide +kernel
theorem dX10_at_148 : decode cX10_at 148 = .ok (.iload_n 2, 1) := by decide +kernel
theorem dX10_at_149 : decode cX10_at 149 = .ok (.bipush 7, 2) := by decide +kernel
theorem dX10_at_151 : decode cX10_at 151 = .ok (.if_icmp .ne 9, 3) := by decide +kernel
theorem dX10_at_154 : decode cX10_at 154 = .ok (.aload_n 0, 1) := by decide +kernel
theorem dX10_at_155 : decode cX10_at 155 = .ok (.iload_n 1, 1) := by decide +kernel
theorem dX10_at_156 : decode cX10_at 156 = .ok (.invokevirtual 314, 3) := by decide +kernel
theorem dX10_at_159 : decode cX10_at 159 = .ok (.ireturn, 1) := by decide +kernel
theorem dX10_at_160 : decode cX10_at 160 = .ok (.iload_n 2, 1) := by decide +kernel
theorem dX10_at_161 : decode cX10_at 161 = .ok (.bipush 8, 2) := by decide +kernel
theorem dX10_at_163 : decode cX10_at 163 = .ok (.if_icmp .ne 11, 3) := by decide +kernel
theorem dX10_at_166 : decode cX10_at 166 = .ok (.aload_n 0, 1) := by decide +kernel
theorem dX10_at_167 : decode cX10_at 167 = .ok (.iload_n 1, 1) := by decide +kernel
theorem dX10_at_168 : decode cX10_at 168 = .ok (.invokevirtual 317, 3) := by decide +kernel
theorem dX10_at_171 : decode cX10_at 171 = .ok (.goto 19, 3) := by decide +kernel
theorem dX10_at_174 : decode cX10_at 174 = .ok (.iload_n 2, 1) := by decide +kernel
theorem dX10_at_175 : decode cX10_at 175 = .ok (.bipush 9, 2) := by decide +kernel
theorem dX10_at_177 : decode cX10_at 177 = .ok (.if_icmp .ne 11, 3) := by decide +kernel
theorem dX10_at_180 : decode cX10_at 180 = .ok (.aload_n 0, 1) := by decide +kernel
theorem dX10_at_181 : decode cX10_at 181 = .ok (.iload_n 1, 1) := by decide +kernel
theorem dX10_at_182 : decode cX10_at 182 = .ok (.invokevirtual 372, 3) := by decide +kernel
theorem dX10_at_185 : decode cX10_at 185 = .ok (.goto 5, 3) := by decide +kernel
theorem dX10_at_188 : decode cX10_at 188 = .ok (.bipush (-2), 2) := by decide +kernel
theorem dX10_at_190 : decode cX10_at 190 = .ok (.ireturn, 1) := by decide +kernel
def M_at (s : ST) (x1 : Int32) (x2 : Int32) : Option (Int32 × ST) := Lt (ups s 0 0 (0 : Int32)) fun s1 => Lt (M_isCell s1 x1) fun y1 => if y1 = 0 then (some ((-2 : Int32), s1)) else (if x2 = 0 then (Bd (M_wetOf s1 x1) fun y14 => some (y14, s1)) else (if x2 = (1 : Int32) then (Gl s1 4 64 x1 fun y13 => some (y13, s1)) else (if x2 = (2 : Int32) then (Bd (M_seedOf s1 x1) fun y12 => some (y12, s1)) else (if x2 = (3 : Int32) then (Bd (M_seedOf s1 x1) fun y10 => if y10 = (-1 : Int32) then (some ((-1 : Int32), s1)) else (Gl s1 1 389 ((133 : Int32) + x1) fun y11 => some (y11, s1))) else (if x2 = (4 : Int32) then (Bd (M_stormOf s1 x1) fun y9 => some (y9, s1)) else (if x2 = (5 : Int32) then (Bd (M_stormOf s1 x1) fun y7 => if y7 = (-1 : Int32) then (some ((0 : Int32), s1)) else (Gl s1 1 389 ((261 : Int32) + x1) fun y8 => some (y8, s1))) else (if x2 = (6 : Int32) then (Bd (M_stormOf s1 x1) fun y5 => if y5 = (-1 : Int32) then (some ((-1 : Int32), s1)) else (Gl s1 1 389 ((325 : Int32) + x1) fun y6 => some (y6, s1))) else (if x2 = (7 : Int32) then (Bd (M_besideOf s1 x1) fun y4 => some (y4, s1)) else (if x2 = (8 : Int32) then (Bd (M_hedgesOf s1 x1) fun y3 => some (y3, s1)) else (if x2 = (9 : Int32) then (Bd (M_harmOf s1 x1) fun y2 => some (y2.1, y2.2)) else (some ((-2 : Int32), s1))))))))))))
set_option maxRecDepth 100000 in
set_option maxHeartbeats 4000000 in
theorem k_at (l : Launch) (D : va_G) (cA : ClassId) (h : Nat → Nat) (s : ST) (x1 : Int32) (x2 : Int32) {o : Int32 × ST} (hs : M_at s x1 x2 = some o) : MI l (KM D cA h) 6 yX10_at cX10_at 3 (some .int) s [.ref (h 0), .int x1, .int x2] o.1 o.2 := by
  refine met_i (by decide) (Nat.le_of_ble_eq_true rfl) ?_
  intro p e st m args below meth c Q X RI
  unfold M_at at hs
  refine g_aload_n X dX10_at_0 (q := 1) rfl 0 rfl ?_
  refine g_iconst X dX10_at_1 (q := 2) rfl li_i0 ?_
  refine mp_0 X dX10_at_2 (q := 5) rfl hs (fun s1 hs => ?_)
  refine g_aload_n X dX10_at_5 (q := 6) rfl 0 rfl ?_
  refine g_iload_n X dX10_at_6 (q := 7) rfl 1 rfl ?_
  refine v_isCell X dX10_at_7 (q := 10) rfl (Nat.le_of_ble_eq_true rfl) (Nat.le_of_ble_eq_true rfl) (Nat.le_of_ble_eq_true rfl) hs (fun y1 hs => ?_)
  refine g_if_ne X dX10_at_10 (q := 13) rfl (tgt := 16) (by decide) hs ?_ ?_
  · intro hs
    refine g_iload_n X dX10_at_16 (q := 17) rfl 2 rfl ?_
    refine g_if_ne X dX10_at_17 (q := 20) rfl (tgt := 26) (by decide) hs ?_ ?_
    · intro hs
      refine g_iload_n X dX10_at_26 (q := 27) rfl 2 rfl ?_
      refine g_iconst X dX10_at_27 (q := 28) rfl li_i1 ?_
      refine g_icmp_ne X dX10_at_28 (q := 31) rfl (tgt := 38) (by decide) hs ?_ ?_
      · intro hs
        refine g_iload_n X dX10_at_38 (q := 39) rfl 2 rfl ?_
        refine g_iconst X dX10_at_39 (q := 40) rfl li_i2 ?_
        refine g_icmp_ne X dX10_at_40 (q := 43) rfl (tgt := 49) (by decide) hs ?_ ?_
        · intro hs
          refine g_iload_n X dX10_at_49 (q := 50) rfl 2 rfl ?_
          refine g_iconst X dX10_at_50 (q := 51) rfl li_i3 ?_
          refine g_icmp_ne X dX10_at_51 (q := 54) rfl (tgt := 78) (by decide) hs ?_ ?_
          · intro hs
            refine g_iload_n X dX10_at_78 (q := 79) rfl 2 rfl ?_
            refine g_iconst X dX10_at_79 (q := 80) rfl li_i4 ?_
            refine g_icmp_ne X dX10_at_80 (q := 83) rfl (tgt := 89) (by decide) hs ?_ ?_
            · intro hs
              refine g_iload_n X dX10_at_89 (q := 90) rfl 2 rfl ?_
              refine g_iconst X dX10_at_90 (q := 91) rfl li_i5 ?_
              refine g_icmp_ne X dX10_at_91 (q := 94) rfl (tgt := 118) (by decide) hs ?_ ?_
              · intro hs
                refine g_iload_n X dX10_at_118 (q := 119) rfl 2 rfl ?_
                refine g_bipush X dX10_at_119 (q := 121) rfl li_b6 ?_
                refine g_icmp_ne X dX10_at_121 (q := 124) rfl (tgt := 148) (by decide) hs ?_ ?_
                · intro hs
                  refine g_iload_n X dX10_at_148 (q := 149) rfl 2 rfl ?_
                  refine g_bipush X dX10_at_149 (q := 151) rfl li_b7 ?_
                  refine g_icmp_ne X dX10_at_151 (q := 154) rfl (tgt := 160) (by decide) hs ?_ ?_
                  · intro hs
                    refine g_iload_n X dX10_at_160 (q := 161) rfl 2 rfl ?_
                    refine g_bipush X dX10_at_161 (q := 163) rfl li_b8 ?_
                    refine g_icmp_ne X dX10_at_163 (q := 166) rfl (tgt := 174) (by decide) hs ?_ ?_
                    · intro hs
                      refine g_iload_n X dX10_at_174 (q := 175) rfl 2 rfl ?_
                      refine g_bipush X dX10_at_175 (q := 177) rfl li_b9 ?_
                      refine g_icmp_ne X dX10_at_177 (q := 180) rfl (tgt := 188) (by decide) hs ?_ ?_
                      · intro hs
                        refine g_bipush X dX10_at_188 (q := 190) rfl li_bm2 ?_
                        exact RI _ 190 _ _ _ (rU1 hs) rfl (rV1 hs) dX10_at_190
                      · intro hs
                        refine g_aload_n X dX10_at_180 (q := 181) rfl 0 rfl ?_
                        refine g_iload_n X dX10_at_181 (q := 182) rfl 1 rfl ?_
                        refine v_harmOf X dX10_at_182 (q := 185) rfl (Nat.le_of_ble_eq_true rfl) (Nat.le_of_ble_eq_true rfl) (Nat.le_of_ble_eq_true rfl) hs (fun y2 hs => ?_)
                        refine g_goto X dX10_at_185 (tgt := 190) (by decide) ?_
                        exact RI _ 190 _ _ _ (rU1 hs) rfl (rV1 hs) dX10_at_190
                    · intro hs
                      refine g_aload_n X dX10_at_166 (q := 167) rfl 0 rfl ?_
                      refine g_iload_n X dX10_at_167 (q := 168) rfl 1 rfl ?_
                      refine v_hedgesOf X dX10_at_168 (q := 171) rfl (Nat.le_of_ble_eq_true rfl) (Nat.le_of_ble_eq_true rfl) (Nat.le_of_ble_eq_true rfl) hs (fun y3 hs => ?_)
                      refine g_goto X dX10_at_171 (tgt := 190) (by decide) ?_
                      exact RI _ 190 _ _ _ (rU1 hs) rfl (rV1 hs) dX10_at_190
                  · intro hs
                    refine g_aload_n X dX10_at_154 (q := 155) rfl 0 rfl ?_
                    refine g_iload_n X dX10_at_155 (q := 156) rfl 1 rfl ?_
                    refine v_besideOf X dX10_at_156 (q := 159) rfl (Nat.le_of_ble_eq_true rfl) (Nat.le_of_ble_eq_true rfl) (Nat.le_of_ble_eq_true rfl) hs (fun y4 hs => ?_)
                    exact RI _ 159 _ _ _ (rU1 hs) rfl (rV1 hs) dX10_at_159
                · intro hs
                  refine g_aload_n X dX10_at_124 (q := 125) rfl 0 rfl ?_
                  refine g_iload_n X dX10_at_125 (q := 126) rfl 1 rfl ?_
                  refine v_stormOf X dX10_at_126 (q := 129) rfl (Nat.le_of_ble_eq_true rfl) (Nat.le_of_ble_eq_true rfl) (Nat.le_of_ble_eq_true rfl) hs (fun y5 hs => ?_)
                  refine g_iconst X dX10_at_129 (q := 130) rfl li_im1 ?_
                  refine g_icmp_ne X dX10_at_130 (q := 133) rfl (tgt := 137) (by decide) hs ?_ ?_
                  · intro hs
                    refine g_aload_n X dX10_at_137 (q := 138) rfl 0 rfl ?_
                    refine mg_1 X dX10_at_138 (q := 141) rfl ?_
                    refine g_sipush X dX10_at_141 (q := 144) rfl li_s325 ?_
                    refine g_iload_n X dX10_at_144 (q := 145) rfl 1 rfl ?_
                    refine g_iadd X dX10_at_145 (q := 146) rfl ?_
                    refine ma_1 X dX10_at_146 (q := 147) rfl hs (fun y6 hs => ?_)
                    exact RI _ 147 _ _ _ (rU1 hs) rfl (rV1 hs) dX10_at_147
                  · intro hs
                    refine g_iconst X dX10_at_133 (q := 134) rfl li_im1 ?_
                    refine g_goto X dX10_at_134 (tgt := 147) (by decide) ?_
                    exact RI _ 147 _ _ _ (rU1 hs) rfl (rV1 hs) dX10_at_147
              · intro hs
                refine g_aload_n X dX10_at_94 (q := 95) rfl 0 rfl ?_
                refine g_iload_n X dX10_at_95 (q := 96) rfl 1 rfl ?_
                refine v_stormOf X dX10_at_96 (q := 99) rfl (Nat.le_of_ble_eq_true rfl) (Nat.le_of_ble_eq_true rfl) (Nat.le_of_ble_eq_true rfl) hs (fun y7 hs => ?_)
                refine g_iconst X dX10_at_99 (q := 100) rfl li_im1 ?_
                refine g_icmp_ne X dX10_at_100 (q := 103) rfl (tgt := 107) (by decide) hs ?_ ?_
                · intro hs
                  refine g_aload_n X dX10_at_107 (q := 108) rfl 0 rfl ?_
                  refine mg_1 X dX10_at_108 (q := 111) rfl ?_
                  refine g_sipush X dX10_at_111 (q := 114) rfl li_s261 ?_
                  refine g_iload_n X dX10_at_114 (q := 115) rfl 1 rfl ?_
                  refine g_iadd X dX10_at_115 (q := 116) rfl ?_
                  refine ma_1 X dX10_at_116 (q := 117) rfl hs (fun y8 hs => ?_)
                  exact RI _ 117 _ _ _ (rU1 hs) rfl (rV1 hs) dX10_at_117
                · intro hs
                  refine g_iconst X dX10_at_103 (q := 104) rfl li_i0 ?_
                  refine g_goto X dX10_at_104 (tgt := 117) (by decide) ?_
                  exact RI _ 117 _ _ _ (rU1 hs) rfl (rV1 hs) dX10_at_117
            · intro hs
              refine g_aload_n X dX10_at_83 (q := 84) rfl 0 rfl ?_
              refine g_iload_n X dX10_at_84 (q := 85) rfl 1 rfl ?_
              refine v_stormOf X dX10_at_85 (q := 88) rfl (Nat.le_of_ble_eq_true rfl) (Nat.le_of_ble_eq_true rfl) (Nat.le_of_ble_eq_true rfl) hs (fun y9 hs => ?_)
              exact RI _ 88 _ _ _ (rU1 hs) rfl (rV1 hs) dX10_at_88
          · intro hs
            refine g_aload_n X dX10_at_54 (q := 55) rfl 0 rfl ?_
            refine g_iload_n X dX10_at_55 (q := 56) rfl 1 rfl ?_
            refine v_seedOf X dX10_at_56 (q := 59) rfl (Nat.le_of_ble_eq_true rfl) (Nat.le_of_ble_eq_true rfl) (Nat.le_of_ble_eq_true rfl) hs (fun y10 hs => ?_)
            refine g_iconst X dX10_at_59 (q := 60) rfl li_im1 ?_
            refine g_icmp_ne X dX10_at_60 (q := 63) rfl (tgt := 67) (by decide) hs ?_ ?_
            · intro hs
              refine g_aload_n X dX10_at_67 (q := 68) rfl 0 rfl ?_
              refine mg_1 X dX10_at_68 (q := 71) rfl ?_
              refine g_sipush X dX10_at_71 (q := 74) rfl li_s133 ?_
              refine g_iload_n X dX10_at_74 (q := 75) rfl 1 rfl ?_
              refine g_iadd X dX10_at_75 (q := 76) rfl ?_
              refine ma_1 X dX10_at_76 (q := 77) rfl hs (fun y11 hs => ?_)
              exact RI _ 77 _ _ _ (rU1 hs) rfl (rV1 hs) dX10_at_77
            · intro hs
              refine g_iconst X dX10_at_63 (q := 64) rfl li_im1 ?_
              refine g_goto X dX10_at_64 (tgt := 77) (by decide) ?_
              exact RI _ 77 _ _ _ (rU1 hs) rfl (rV1 hs) dX10_at_77
        · intro hs
          refine g_aload_n X dX10_at_43 (q := 44) rfl 0 rfl ?_
          refine g_iload_n X dX10_at_44 (q := 45) rfl 1 rfl ?_
          refine v_seedOf X dX10_at_45 (q := 48) rfl (Nat.le_of_ble_eq_true rfl) (Nat.le_of_ble_eq_true rfl) (Nat.le_of_ble_eq_true rfl) hs (fun y12 hs => ?_)
          exact RI _ 48 _ _ _ (rU1 hs) rfl (rV1 hs) dX10_at_48
      · intro hs
        refine g_aload_n X dX10_at_31 (q := 32) rfl 0 rfl ?_
        refine mg_9 X dX10_at_32 (q := 35) rfl ?_
        refine g_iload_n X dX10_at_35 (q := 36) rfl 1 rfl ?_
        refine ma_4 X dX10_at_36 (q := 37) rfl hs (fun y13 hs => ?_)
        exact RI _ 37 _ _ _ (rU1 hs) rfl (rV1 hs) dX10_at_37
    · intro hs
      refine g_aload_n X dX10_at_20 (q := 21) rfl 0 rfl ?_
      refine g_iload_n X dX10_at_21 (q := 22) rfl 1 rfl ?_
      refine v_wetOf X dX10_at_22 (q := 25) rfl (Nat.le_of_ble_eq_true rfl) (Nat.le_of_ble_eq_true rfl) (Nat.le_of_ble_eq_true rfl) hs (fun y14 hs => ?_)
      exact RI _ 25 _ _ _ (rU1 hs) rfl (rV1 hs) dX10_at_25
  · intro hs
    refine g_bipush X dX10_at_13 (q := 15) rfl li_bm2 ?_
    exact RI _ 15 _ _ _ (rU1 hs) rfl (rV1 hs) dX10_at_15
theorem dX10_manyOf_0 : decode cX10_manyOf 0 = .ok (.iconst 0, 1) := by decide +kernel
theorem dX10_manyOf_1 : decode cX10_manyOf 1 = .ok (.istore_n 3, 1) := by decide +kernel
theorem dX10_manyOf_2 : decode cX10_manyOf 2 = .ok (.iconst 0, 1) := by decide +kernel
theorem dX10_manyOf_3 : decode cX10_manyOf 3 = .ok (.istore 4, 2) := by decide +kernel
theorem dX10_manyOf_5 : decode cX10_manyOf 5 = .ok (.iload 4, 2) := by decide +kernel
theorem dX10_manyOf_7 : decode cX10_manyOf 7 = .ok (.bipush 64, 2) := by decide +kernel
theorem dX10_manyOf_9 : decode cX10_manyOf 9 = .ok (.if_icmp .ge 48, 3) := by decide +kernel
theorem dX10_manyOf_12 : decode cX10_manyOf 12 = .ok (.iload_n 2, 1) := by decide +kernel
theorem dX10_manyOf_13 : decode cX10_manyOf 13 = .ok (.iconst (-1), 1) := by decide +kernel
theorem dX10_manyOf_14 : decode cX10_manyOf 14 = .ok (.if_icmp .ne 18, 3) := by decide +kernel
theorem dX10_manyOf_17 : decode cX10_manyOf 17 = .ok (.aload_n 0, 1) := by decide +kernel
theorem dX10_manyOf_18 : decode cX10_manyOf 18 = .ok (.getfield 7, 3) := by decide +kernel
theorem dX10_manyOf_21 : decode cX10_manyOf 21 = .ok (.iload_n 1, 1) := by decide +kernel
theorem dX10_manyOf_22 : decode cX10_manyOf 22 = .ok (.iload 4, 2) := by decide +kernel
theorem dX10_manyOf_24 : decode cX10_manyOf 24 = .ok (.iadd, 1) := by decide +kernel
theorem dX10_manyOf_25 : decode cX10_manyOf 25 = .ok (.iaload, 1) := by decide +kernel
theorem dX10_manyOf_26 : decode cX10_manyOf 26 = .ok (.ifCond .le 25, 3) := by decide +kernel
theorem dX10_manyOf_29 : decode cX10_manyOf 29 = .ok (.goto 18, 3) := by decide +kernel
theorem dX10_manyOf_32 : decode cX10_manyOf 32 = .ok (.aload_n 0, 1) := by decide +kernel
theorem dX10_manyOf_33 : decode cX10_manyOf 33 = .ok (.getfield 7, 3) := by decide +kernel
theorem dX10_manyOf_36 : decode cX10_manyOf 36 = .ok (.iload_n 1, 1) := by decide +kernel
theorem dX10_manyOf_37 : decode cX10_manyOf 37 = .ok (.iload 4, 2) := by decide +kernel
theorem dX10_manyOf_39 : decode cX10_manyOf 39 = .ok (.iadd, 1) := by decide +kernel
theorem dX10_manyOf_40 : decode cX10_manyOf 40 = .ok (.iaload, 1) := by decide +kernel
theorem dX10_manyOf_41 : decode cX10_manyOf 41 = .ok (.iload_n 2, 1) := by decide +kernel
theorem dX10_manyOf_42 : decode cX10_manyOf 42 = .ok (.iconst 1, 1) := by decide +kernel
theorem dX10_manyOf_43 : decode cX10_manyOf 43 = .ok (.iadd, 1) := by decide +kernel
theorem dX10_manyOf_44 : decode cX10_manyOf 44 = .ok (.if_icmp .ne 7, 3) := by decide +kernel
theorem dX10_manyOf_47 : decode cX10_manyOf 47 = .ok (.iload_n 3, 1) := by decide +kernel
theorem dX10_manyOf_48 : decode cX10_manyOf 48 = .ok (.iconst 1, 1) := by decide +kernel
theorem dX10_manyOf_49 : decode cX10_manyOf 49 = .ok (.iadd, 1) := by decide +kernel
theorem dX10_manyOf_50 : decode cX10_manyOf 50 = .ok (.istore_n 3, 1) := by decide +kernel
theorem dX10_manyOf_51 : decode cX10_manyOf 51 = .ok (.iinc 4 1, 3) := by decide +kernel
theorem dX10_manyOf_54 : decode cX10_manyOf 54 = .ok (.goto (-49), 3) := by decide +kernel
theorem dX10_manyOf_57 : decode cX10_manyOf 57 = .ok (.iload_n 3, 1) := by decide +kernel
theorem dX10_manyOf_58 : decode cX10_manyOf 58 = .ok (.ireturn, 1) := by decide +kernel
def M_manyOf (s : ST) (x1 : Int32) (x2 : Int32) : Option (Int32) := lpK2 (C := Int32) (fun (rec1 : Int32 → Int32 → Option (Int32)) (a1 : Int32) (a2 : Int32) => if (64 : Int32) ≤ a2 then (some a1) else (Lt (fun (a3 : Int32) => (rec1 a3 (a2 + (1 : Int32)) : Option (Int32))) fun j1 => Lt (Lt ((a1 + (1 : Int32))) fun y1 => j1 y1 : Option (Int32)) fun j2 => if x2 = (-1 : Int32) then (Gl s 1 389 (x1 + a2) fun y3 => if y3 ≤ 0 then (j1 a1) else (j2)) else (Gl s 1 389 (x1 + a2) fun y2 => if y2 = (x2 + (1 : Int32)) then (j2) else (j1 a1)))) FU (0 : Int32) (0 : Int32)
set_option maxRecDepth 100000 in
set_option maxHeartbeats 4000000 in
theorem k_manyOf (l : Launch) (D : va_G) (cA : ClassId) (h : Nat → Nat) (s : ST) (x1 : Int32) (x2 : Int32) {o : Int32} (hs : M_manyOf s x1 x2 = some o) : MI l (KM D cA h) 1 yX10_manyOf cX10_manyOf 5 (some .int) s [.ref (h 0), .int x1, .int x2] o s := by
  refine met_i (by decide) (Nat.le_of_ble_eq_true rfl) ?_
  intro p e st m args below meth c Q X RI
  unfold M_manyOf at hs
  refine g_iconst X dX10_manyOf_0 (q := 1) rfl li_i0 ?_
  refine g_istore_n X dX10_manyOf_1 (q := 2) rfl (Nat.le_of_ble_eq_true rfl) (lv' := [(3, .int (0 : Int32)), (0, .ref (h 0)), (1, .int x1), (2, .int x2)]) rfl ?_
  refine g_iconst X dX10_manyOf_2 (q := 3) rfl li_i0 ?_
  refine g_istore X dX10_manyOf_3 (q := 5) rfl (Nat.le_of_ble_eq_true rfl) (lv' := [(4, .int (0 : Int32)), (3, .int (0 : Int32)), (0, .ref (h 0)), (1, .int x1), (2, .int x2)]) rfl ?_
  refine wg_sub [2, 3, 4, 1, 0] rfl (lpW2 (fun (a1 : Int32) (a2 : Int32) => WG (KM D cA h) p l e (rmD 1) st m args below meth c Q 5 s 5 [(0, .ref (h 0)), (1, .int x1), (2, .int x2), (3, .int a1), (4, .int a2)] []) (fun rec1 ih1 a1 a2 hs => ?_) _ _ _ hs)
  refine g_iload X dX10_manyOf_5 (q := 7) rfl 4 rfl ?_
  refine g_bipush X dX10_manyOf_7 (q := 9) rfl li_b64 ?_
  refine g_icmp_ge X dX10_manyOf_9 (q := 12) rfl (tgt := 57) (by decide) hs ?_ ?_
  · intro hs
    refine g_iload_n X dX10_manyOf_57 (q := 58) rfl 3 rfl ?_
    exact RI _ 58 _ _ _ rfl rfl (Option.some.inj hs) dX10_manyOf_58
  · intro hs
    refine g_iload_n X dX10_manyOf_12 (q := 13) rfl 2 rfl ?_
    refine g_iconst X dX10_manyOf_13 (q := 14) rfl li_im1 ?_
    refine jnW1 (fun (a3 : Int32) => WG (KM D cA h) p l e (rmD 1) st m args below meth c Q 5 s 51 [(0, .ref (h 0)), (1, .int x1), (2, .int x2), (3, .int a3), (4, .int a2)] []) hs (fun a3 hs => ?_) (fun j1 ih2 hs => ?_)
    · refine g_iinc X dX10_manyOf_51 (q := 54) rfl 4 rfl (v := (a2 + (1 : Int32))) (congrArg (HAdd.hAdd a2) li_i1) (Nat.le_of_ble_eq_true rfl) (lv' := [(4, .int (a2 + (1 : Int32))), (0, .ref (h 0)), (1, .int x1), (2, .int x2), (3, .int a3)]) rfl ?_
      refine g_goto X dX10_manyOf_54 (tgt := 5) (by decide) ?_
      exact wg_sub [1, 2, 3, 4, 0] rfl (ih1 _ _ hs)
    refine jnW0 (WG (KM D cA h) p l e (rmD 1) st m args below meth c Q 5 s 47 [(0, .ref (h 0)), (1, .int x1), (2, .int x2), (3, .int a1), (4, .int a2)] []) hs (fun  hs => ?_) (fun j2 ih3 hs => ?_)
    · refine g_iload_n X dX10_manyOf_47 (q := 48) rfl 3 rfl ?_
      refine g_iconst X dX10_manyOf_48 (q := 49) rfl li_i1 ?_
      refine g_iadd X dX10_manyOf_49 (q := 50) rfl ?_
      refine nmI hs (fun y1 hs => ?_)
      refine g_istore_n X dX10_manyOf_50 (q := 51) rfl (Nat.le_of_ble_eq_true rfl) (lv' := [(3, .int y1), (0, .ref (h 0)), (1, .int x1), (2, .int x2), (4, .int a2)]) rfl ?_
      exact wg_sub [1, 2, 3, 0, 4] rfl (ih2 _ hs)
    refine g_icmp_ne X dX10_manyOf_14 (q := 17) rfl (tgt := 32) (by decide) hs ?_ ?_
    · intro hs
      refine g_aload_n X dX10_manyOf_32 (q := 33) rfl 0 rfl ?_
      refine mg_1 X dX10_manyOf_33 (q := 36) rfl ?_
      refine g_iload_n X dX10_manyOf_36 (q := 37) rfl 1 rfl ?_
      refine g_iload X dX10_manyOf_37 (q := 39) rfl 4 rfl ?_
      refine g_iadd X dX10_manyOf_39 (q := 40) rfl ?_
      refine ma_1 X dX10_manyOf_40 (q := 41) rfl hs (fun y2 hs => ?_)
      refine g_iload_n X dX10_manyOf_41 (q := 42) rfl 2 rfl ?_
      refine g_iconst X dX10_manyOf_42 (q := 43) rfl li_i1 ?_
      refine g_iadd X dX10_manyOf_43 (q := 44) rfl ?_
      refine g_icmp_ne X dX10_manyOf_44 (q := 47) rfl (tgt := 51) (by decide) hs ?_ ?_
      · intro hs
        exact wg_sub [0, 1, 2, 3, 4] rfl (ih2 _ hs)
      · intro hs
        exact wg_sub [0, 1, 2, 3, 4] rfl (ih3 hs)
    · intro hs
      refine g_aload_n X dX10_manyOf_17 (q := 18) rfl 0 rfl ?_
      refine mg_1 X dX10_manyOf_18 (q := 21) rfl ?_
      refine g_iload_n X dX10_manyOf_21 (q := 22) rfl 1 rfl ?_
      refine g_iload X dX10_manyOf_22 (q := 24) rfl 4 rfl ?_
      refine g_iadd X dX10_manyOf_24 (q := 25) rfl ?_
      refine ma_1 X dX10_manyOf_25 (q := 26) rfl hs (fun y3 hs => ?_)
      refine g_if_le X dX10_manyOf_26 (q := 29) rfl (tgt := 51) (by decide) hs ?_ ?_
      · intro hs
        exact wg_sub [0, 1, 2, 3, 4] rfl (ih2 _ hs)
      · intro hs
        refine g_goto X dX10_manyOf_29 (tgt := 47) (by decide) ?_
        exact wg_sub [0, 1, 2, 3, 4] rfl (ih3 hs)
theorem v_manyOf {p : Program} {l : Launch} {e : Env} {st : State} {m : MethodId} {args : Array Value} {below : List Frame} {meth : Method} {c : Code} {Q : State → Prop} {nL : Nat} {cc : ByteArray} {s : ST} {pc q : Nat} {lv : List (Nat × Value)} {rest : List Value} {D : va_G} {cA : ClassId} {h : Nat → Nat} {d0 : Nat} (X : Cx (KM D cA h) p st m args meth c cc nL RX10) {x1 : Int32} {x2 : Int32} (d : decode cc pc = .ok (.invokevirtual 403, 3)) (hq : pc + 3 = q) (hd1 : 1 + 1 ≤ d0) (hd2 : 8 + (5 + 11) + 100 * 1 ≤ 100 * d0) (hr : (rest.map fun v => v.category).sum ≤ 8) {B : Type} {f : Int32 → Option B} {r : B} (hs : Bd (M_manyOf s x1 x2) f = some r) (k : ∀ y, f y = some r → WG (KM D cA h) p l e (rmD d0) st m args below meth c Q nL s q lv (.int y :: rest)) : WG (KM D cA h) p l e (rmD d0) st m args below meth c Q nL s pc lv (.int x2 :: .int x1 :: .ref (h 0) :: rest) := by
  obtain ⟨v, hv, hs⟩ := Bd_e hs
  exact cV_I X 0 (n := 2) (k_manyOf l D cA h s x1 x2 hv) gv_X10_manyOf ⟨hd1, hd2⟩ ⟨by decide, by decide, by decide +kernel⟩ (As := [.int x1, .int x2]) rfl hr (Nat.le_of_ble_eq_true rfl) (fs := mF h (s.1 0)) rfl rfl rfl d hq (k _ hs)
theorem dX10_kind_0 : decode cX10_kind 0 = .ok (.aload_n 0, 1) := by decide +kernel
theorem dX10_kind_1 : decode cX10_kind 1 = .ok (.iconst 0, 1) := by decide +kernel
theorem dX10_kind_2 : decode cX10_kind 2 = .ok (.putfield 83, 3) := by decide +kernel
theorem dX10_kind_5 : decode cX10_kind 5 = .ok (.aload_n 0, 1) := by decide +kernel
theorem dX10_kind_6 : decode cX10_kind 6 = .ok (.iload_n 1, 1) := by decide +kernel
theorem dX10_kind_7 : decode cX10_kind 7 = .ok (.iconst 0, 1) := by decide +kernel
theorem dX10_kind_8 : decode cX10_kind 8 = .ok (.aload_n 0, 1) := by decide +kernel
theorem dX10_kind_9 : decode cX10_kind 9 = .ok (.getfield 118, 3) := by decide +kernel
theorem dX10_kind_12 : decode cX10_kind 12 = .ok (.iconst 1, 1) := by decide +kernel
theorem dX10_kind_13 : decode cX10_kind 13 = .ok (.isub, 1) := by decide +kernel
theorem dX10_kind_14 : decode cX10_kind 14 = .ok (.invokevirtual 111, 3) := by decide +kernel
theorem dX10_kind_17 : decode cX10_kind 17 = .ok (.ifCond .eq 13, 3) := by decide +kernel
theorem dX10_kind_20 : decode cX10_kind 20 = .ok (.aload_n 0, 1) := by decide +kernel
theorem dX10_kind_21 : decode cX10_kind 21 = .ok (.iload_n 2, 1) := by decide +kernel
theorem dX10_kind_22 : decode cX10_kind 22 = .ok (.iconst 0, 1) := by decide +kernel
theorem dX10_kind_23 : decode cX10_kind 23 = .ok (.iconst 4, 1) := by decide +kernel
theorem dX10_kind_24 : decode cX10_kind 24 = .ok (.invokevirtual 111, 3) := by decide +kernel
theorem dX10_kind_27 : decode cX10_kind 27 = .ok (.ifCond .ne 5, 3) := by decide +kernel
theorem dX10_kind_30 : decode cX10_kind 30 = .ok (.iconst (-1), 1) := by decide +kernel
theorem dX10_kind_31 : decode cX10_kind 31 = .ok (.ireturn, 1) := by decide +kernel
theorem dX10_kind_32 : decode cX10_kind 32 = .ok (.iload_n 2, 1) := by decide +kernel
theorem dX10_kind_33 : decode cX10_kind 33 = .ok (.iconst 3, 1) := by decide +kernel
theorem dX10_kind_34 : decode cX10_kind 34 = .ok (.if_icmp .ge 12, 3) := by decide +kernel
theorem dX10_kind_37 : decode cX10_kind 37 = .ok (.aload_n 0, 1) := by decide +kernel
theorem dX10_kind_38 : decode cX10_kind 38 = .ok (.iload_n 1, 1) := by decide +kernel
theorem dX10_kind_39 : decode cX10_kind 39 = .ok (.iload_n 2, 1) := by decide +kernel
theorem dX10_kind_40 : decode cX10_kind 40 = .ok (.invokevirtual 354, 3) := by decide +kernel
theorem dX10_kind_43 : decode cX10_kind 43 = .ok (.goto 21, 3) := by decide +kernel
theorem dX10_kind_46 : decode cX10_kind 46 = .ok (.aload_n 0, 1) := by decide +kernel
theorem dX10_kind_47 : decode cX10_kind 47 = .ok (.iload_n 2, 1) := by decide +kernel
theorem dX10_kind_48 : decode cX10_kind 48 = .ok (.iconst 3, 1) := by decide +kernel
theorem dX10_kind_49 : decode cX10_kind 49 = .ok (.if_icmp .ne 8, 3) := by decide +kernel
theorem dX10_kind_52 : decode cX10_kind 52 = .ok (.bipush 69, 2) := by decide +kernel
theorem dX10_kind_54 : decode cX10_kind 54 = .ok (.goto 6, 3) := by decide +kernel
theorem dX10_kind_57 : decode cX10_kind 57 = .ok (.sipush 197, 3) := by decide +kernel
theorem dX10_kind_60 : decode cX10_kind 60 = .ok (.iload_n 1, 1) := by decide +kernel
theorem dX10_kind_61 : decode cX10_kind 61 = .ok (.invokevirtual 403, 3) := by decide +kernel
theorem dX10_kind_64 : decode cX10_kind 64 = .ok (.ireturn, 1) := by decide +kernel
def M_kind (s : ST) (x1 : Int32) (x2 : Int32) : Option (Int32 × ST) := Lt (ups s 0 0 (0 : Int32)) fun s1 => Lt (M_isIn s1 x1 (0 : Int32) ((s1.1 0 34) - (1 : Int32))) fun y1 => if y1 = 0 then (some ((-1 : Int32), s1)) else (Lt (M_isIn s1 x2 (0 : Int32) (4 : Int32)) fun y2 => if y2 = 0 then (some ((-1 : Int32), s1)) else (if (3 : Int32) ≤ x2 then (Lt (fun (a1 : Int32) => (Bd (M_manyOf s1 a1 x1) fun y3 => some (y3, s1) : Option (Int32 × ST))) fun j1 => if x2 = (3 : Int32) then (j1 (69 : Int32)) else (j1 (197 : Int32))) else (Bd (M_ofKind s1 x1 x2) fun y4 => some (y4, s1))))
set_option maxRecDepth 100000 in
set_option maxHeartbeats 4000000 in
theorem k_kind (l : Launch) (D : va_G) (cA : ClassId) (h : Nat → Nat) (s : ST) (x1 : Int32) (x2 : Int32) {o : Int32 × ST} (hs : M_kind s x1 x2 = some o) : MI l (KM D cA h) 2 yX10_kind cX10_kind 3 (some .int) s [.ref (h 0), .int x1, .int x2] o.1 o.2 := by
  refine met_i (by decide) (Nat.le_of_ble_eq_true rfl) ?_
  intro p e st m args below meth c Q X RI
  unfold M_kind at hs
  refine g_aload_n X dX10_kind_0 (q := 1) rfl 0 rfl ?_
  refine g_iconst X dX10_kind_1 (q := 2) rfl li_i0 ?_
  refine mp_0 X dX10_kind_2 (q := 5) rfl hs (fun s1 hs => ?_)
  refine g_aload_n X dX10_kind_5 (q := 6) rfl 0 rfl ?_
  refine g_iload_n X dX10_kind_6 (q := 7) rfl 1 rfl ?_
  refine g_iconst X dX10_kind_7 (q := 8) rfl li_i0 ?_
  refine g_aload_n X dX10_kind_8 (q := 9) rfl 0 rfl ?_
  refine mg_34 X dX10_kind_9 (q := 12) rfl ?_
  refine g_iconst X dX10_kind_12 (q := 13) rfl li_i1 ?_
  refine g_isub X dX10_kind_13 (q := 14) rfl ?_
  refine v_isIn X dX10_kind_14 (q := 17) rfl (Nat.le_of_ble_eq_true rfl) (Nat.le_of_ble_eq_true rfl) (Nat.le_of_ble_eq_true rfl) hs (fun y1 hs => ?_)
  refine g_if_eq X dX10_kind_17 (q := 20) rfl (tgt := 30) (by decide) hs ?_ ?_
  · intro hs
    refine g_iconst X dX10_kind_30 (q := 31) rfl li_im1 ?_
    exact RI _ 31 _ _ _ (rU1 hs) rfl (rV1 hs) dX10_kind_31
  · intro hs
    refine g_aload_n X dX10_kind_20 (q := 21) rfl 0 rfl ?_
    refine g_iload_n X dX10_kind_21 (q := 22) rfl 2 rfl ?_
    refine g_iconst X dX10_kind_22 (q := 23) rfl li_i0 ?_
    refine g_iconst X dX10_kind_23 (q := 24) rfl li_i4 ?_
    refine v_isIn X dX10_kind_24 (q := 27) rfl (Nat.le_of_ble_eq_true rfl) (Nat.le_of_ble_eq_true rfl) (Nat.le_of_ble_eq_true rfl) hs (fun y2 hs => ?_)
    refine g_if_ne X dX10_kind_27 (q := 30) rfl (tgt := 32) (by decide) hs ?_ ?_
    · intro hs
      refine g_iload_n X dX10_kind_32 (q := 33) rfl 2 rfl ?_
      refine g_iconst X dX10_kind_33 (q := 34) rfl li_i3 ?_
      refine g_icmp_ge X dX10_kind_34 (q := 37) rfl (tgt := 46) (by decide) hs ?_ ?_
      · intro hs
        refine g_aload_n X dX10_kind_46 (q := 47) rfl 0 rfl ?_
        refine g_iload_n X dX10_kind_47 (q := 48) rfl 2 rfl ?_
        refine g_iconst X dX10_kind_48 (q := 49) rfl li_i3 ?_
        refine jnW1 (fun (a1 : Int32) => WG (KM D cA h) p l e (rmD 2) st m args below meth c Q 3 s1 60 [(1, .int x1)] [.int a1, .ref (h 0)]) hs (fun a1 hs => ?_) (fun j1 ih1 hs => ?_)
        · refine g_iload_n X dX10_kind_60 (q := 61) rfl 0 rfl ?_
          refine v_manyOf X dX10_kind_61 (q := 64) rfl (Nat.le_of_ble_eq_true rfl) (Nat.le_of_ble_eq_true rfl) (Nat.le_of_ble_eq_true rfl) hs (fun y3 hs => ?_)
          exact RI _ 64 _ _ _ (rU1 hs) rfl (rV1 hs) dX10_kind_64
        refine g_icmp_ne X dX10_kind_49 (q := 52) rfl (tgt := 57) (by decide) hs ?_ ?_
        · intro hs
          refine g_sipush X dX10_kind_57 (q := 60) rfl li_s197 ?_
          exact wg_sub [1] rfl (ih1 _ hs)
        · intro hs
          refine g_bipush X dX10_kind_52 (q := 54) rfl li_b69 ?_
          refine g_goto X dX10_kind_54 (tgt := 60) (by decide) ?_
          exact wg_sub [1] rfl (ih1 _ hs)
      · intro hs
        refine g_aload_n X dX10_kind_37 (q := 38) rfl 0 rfl ?_
        refine g_iload_n X dX10_kind_38 (q := 39) rfl 1 rfl ?_
        refine g_iload_n X dX10_kind_39 (q := 40) rfl 2 rfl ?_
        refine v_ofKind X dX10_kind_40 (q := 43) rfl (Nat.le_of_ble_eq_true rfl) (Nat.le_of_ble_eq_true rfl) (Nat.le_of_ble_eq_true rfl) hs (fun y4 hs => ?_)
        refine g_goto X dX10_kind_43 (tgt := 64) (by decide) ?_
        exact RI _ 64 _ _ _ (rU1 hs) rfl (rV1 hs) dX10_kind_64
    · intro hs
      refine g_iconst X dX10_kind_30 (q := 31) rfl li_im1 ?_
      exact RI _ 31 _ _ _ (rU1 hs) rfl (rV1 hs) dX10_kind_31
theorem dX10_cross_0 : decode cX10_cross 0 = .ok (.aload_n 0, 1) := by decide +kernel
theorem dX10_cross_1 : decode cX10_cross 1 = .ok (.iconst 0, 1) := by decide +kernel
theorem dX10_cross_2 : decode cX10_cross 2 = .ok (.putfield 83, 3) := by decide +kernel
theorem dX10_cross_5 : decode cX10_cross 5 = .ok (.aload_n 0, 1) := by decide +kernel
theorem dX10_cross_6 : decode cX10_cross 6 = .ok (.iload_n 1, 1) := by decide +kernel
theorem dX10_cross_7 : decode cX10_cross 7 = .ok (.iconst 0, 1) := by decide +kernel
theorem dX10_cross_8 : decode cX10_cross 8 = .ok (.aload_n 0, 1) := by decide +kernel
theorem dX10_cross_9 : decode cX10_cross 9 = .ok (.getfield 118, 3) := by decide +kernel
theorem dX10_cross_12 : decode cX10_cross 12 = .ok (.iconst 1, 1) := by decide +kernel
theorem dX10_cross_13 : decode cX10_cross 13 = .ok (.isub, 1) := by decide +kernel
theorem dX10_cross_14 : decode cX10_cross 14 = .ok (.invokevirtual 111, 3) := by decide +kernel
theorem dX10_cross_17 : decode cX10_cross 17 = .ok (.ifCond .eq 27, 3) := by decide +kernel
theorem dX10_cross_20 : decode cX10_cross 20 = .ok (.aload_n 0, 1) := by decide +kernel
theorem dX10_cross_21 : decode cX10_cross 21 = .ok (.iload_n 2, 1) := by decide +kernel
theorem dX10_cross_22 : decode cX10_cross 22 = .ok (.iconst 0, 1) := by decide +kernel
theorem dX10_cross_23 : decode cX10_cross 23 = .ok (.aload_n 0, 1) := by decide +kernel
theorem dX10_cross_24 : decode cX10_cross 24 = .ok (.getfield 118, 3) := by decide +kernel
theorem dX10_cross_27 : decode cX10_cross 27 = .ok (.iconst 1, 1) := by decide +kernel
theorem dX10_cross_28 : decode cX10_cross 28 = .ok (.isub, 1) := by decide +kernel
theorem dX10_cross_29 : decode cX10_cross 29 = .ok (.invokevirtual 111, 3) := by decide +kernel
theorem dX10_cross_32 : decode cX10_cross 32 = .ok (.ifCond .eq 12, 3) := by decide +kernel
theorem dX10_cross_35 : decode cX10_cross 35 = .ok (.aload_n 0, 1) := by decide +kernel
theorem dX10_cross_36 : decode cX10_cross 36 = .ok (.iload_n 1, 1) := by decide +kernel
theorem dX10_cross_37 : decode cX10_cross 37 = .ok (.iload_n 2, 1) := by decide +kernel
theorem dX10_cross_38 : decode cX10_cross 38 = .ok (.invokevirtual 360, 3) := by decide +kernel
theorem dX10_cross_41 : decode cX10_cross 41 = .ok (.goto 4, 3) := by decide +kernel
theorem dX10_cross_44 : decode cX10_cross 44 = .ok (.iconst (-1), 1) := by decide +kernel
theorem dX10_cross_45 : decode cX10_cross 45 = .ok (.ireturn, 1) := by decide +kernel
def M_cross (s : ST) (x1 : Int32) (x2 : Int32) : Option (Int32 × ST) := Lt (ups s 0 0 (0 : Int32)) fun s1 => Lt (M_isIn s1 x1 (0 : Int32) ((s1.1 0 34) - (1 : Int32))) fun y1 => if y1 = 0 then (some ((-1 : Int32), s1)) else (Lt (M_isIn s1 x2 (0 : Int32) ((s1.1 0 34) - (1 : Int32))) fun y2 => if y2 = 0 then (some ((-1 : Int32), s1)) else (Bd (M_crossOf s1 x1 x2) fun y3 => some (y3, s1)))
set_option maxRecDepth 100000 in
set_option maxHeartbeats 4000000 in
theorem k_cross (l : Launch) (D : va_G) (cA : ClassId) (h : Nat → Nat) (s : ST) (x1 : Int32) (x2 : Int32) {o : Int32 × ST} (hs : M_cross s x1 x2 = some o) : MI l (KM D cA h) 2 yX10_cross cX10_cross 3 (some .int) s [.ref (h 0), .int x1, .int x2] o.1 o.2 := by
  refine met_i (by decide) (Nat.le_of_ble_eq_true rfl) ?_
  intro p e st m args below meth c Q X RI
  unfold M_cross at hs
  refine g_aload_n X dX10_cross_0 (q := 1) rfl 0 rfl ?_
  refine g_iconst X dX10_cross_1 (q := 2) rfl li_i0 ?_
  refine mp_0 X dX10_cross_2 (q := 5) rfl hs (fun s1 hs => ?_)
  refine g_aload_n X dX10_cross_5 (q := 6) rfl 0 rfl ?_
  refine g_iload_n X dX10_cross_6 (q := 7) rfl 1 rfl ?_
  refine g_iconst X dX10_cross_7 (q := 8) rfl li_i0 ?_
  refine g_aload_n X dX10_cross_8 (q := 9) rfl 0 rfl ?_
  refine mg_34 X dX10_cross_9 (q := 12) rfl ?_
  refine g_iconst X dX10_cross_12 (q := 13) rfl li_i1 ?_
  refine g_isub X dX10_cross_13 (q := 14) rfl ?_
  refine v_isIn X dX10_cross_14 (q := 17) rfl (Nat.le_of_ble_eq_true rfl) (Nat.le_of_ble_eq_true rfl) (Nat.le_of_ble_eq_true rfl) hs (fun y1 hs => ?_)
  refine g_if_eq X dX10_cross_17 (q := 20) rfl (tgt := 44) (by decide) hs ?_ ?_
  · intro hs
    refine g_iconst X dX10_cross_44 (q := 45) rfl li_im1 ?_
    exact RI _ 45 _ _ _ (rU1 hs) rfl (rV1 hs) dX10_cross_45
  · intro hs
    refine g_aload_n X dX10_cross_20 (q := 21) rfl 0 rfl ?_
    refine g_iload_n X dX10_cross_21 (q := 22) rfl 2 rfl ?_
    refine g_iconst X dX10_cross_22 (q := 23) rfl li_i0 ?_
    refine g_aload_n X dX10_cross_23 (q := 24) rfl 0 rfl ?_
    refine mg_34 X dX10_cross_24 (q := 27) rfl ?_
    refine g_iconst X dX10_cross_27 (q := 28) rfl li_i1 ?_
    refine g_isub X dX10_cross_28 (q := 29) rfl ?_
    refine v_isIn X dX10_cross_29 (q := 32) rfl (Nat.le_of_ble_eq_true rfl) (Nat.le_of_ble_eq_true rfl) (Nat.le_of_ble_eq_true rfl) hs (fun y2 hs => ?_)
    refine g_if_eq X dX10_cross_32 (q := 35) rfl (tgt := 44) (by decide) hs ?_ ?_
    · intro hs
      refine g_iconst X dX10_cross_44 (q := 45) rfl li_im1 ?_
      exact RI _ 45 _ _ _ (rU1 hs) rfl (rV1 hs) dX10_cross_45
    · intro hs
      refine g_aload_n X dX10_cross_35 (q := 36) rfl 0 rfl ?_
      refine g_iload_n X dX10_cross_36 (q := 37) rfl 1 rfl ?_
      refine g_iload_n X dX10_cross_37 (q := 38) rfl 2 rfl ?_
      refine v_crossOf X dX10_cross_38 (q := 41) rfl (Nat.le_of_ble_eq_true rfl) (Nat.le_of_ble_eq_true rfl) (Nat.le_of_ble_eq_true rfl) hs (fun y3 hs => ?_)
      refine g_goto X dX10_cross_41 (tgt := 45) (by decide) ?_
      exact RI _ 45 _ _ _ (rU1 hs) rfl (rV1 hs) dX10_cross_45
theorem dX10_gust_0 : decode cX10_gust 0 = .ok (.aload_n 0, 1) := by decide +kernel
theorem dX10_gust_1 : decode cX10_gust 1 = .ok (.iconst 0, 1) := by decide +kernel
theorem dX10_gust_2 : decode cX10_gust 2 = .ok (.putfield 83, 3) := by decide +kernel
theorem dX10_gust_5 : decode cX10_gust 5 = .ok (.aload_n 0, 1) := by decide +kernel
theorem dX10_gust_6 : decode cX10_gust 6 = .ok (.iload_n 1, 1) := by decide +kernel
theorem dX10_gust_7 : decode cX10_gust 7 = .ok (.iconst 0, 1) := by decide +kernel
theorem dX10_gust_8 : decode cX10_gust 8 = .ok (.aload_n 0, 1) := by decide +kernel
theorem dX10_gust_9 : decode cX10_gust 9 = .ok (.getfield 118, 3) := by decide +kernel
theorem dX10_gust_12 : decode cX10_gust 12 = .ok (.iconst 1, 1) := by decide +kernel
theorem dX10_gust_13 : decode cX10_gust 13 = .ok (.isub, 1) := by decide +kernel
theorem dX10_gust_14 : decode cX10_gust 14 = .ok (.invokevirtual 111, 3) := by decide +kernel
theorem dX10_gust_17 : decode cX10_gust 17 = .ok (.ifCond .eq 32, 3) := by decide +kernel
theorem dX10_gust_20 : decode cX10_gust 20 = .ok (.aload_n 0, 1) := by decide +kernel
theorem dX10_gust_21 : decode cX10_gust 21 = .ok (.iload_n 2, 1) := by decide +kernel
theorem dX10_gust_22 : decode cX10_gust 22 = .ok (.invokevirtual 130, 3) := by decide +kernel
theorem dX10_gust_25 : decode cX10_gust 25 = .ok (.ifCond .eq 24, 3) := by decide +kernel
theorem dX10_gust_28 : decode cX10_gust 28 = .ok (.aload_n 0, 1) := by decide +kernel
theorem dX10_gust_29 : decode cX10_gust 29 = .ok (.iload_n 3, 1) := by decide +kernel
theorem dX10_gust_30 : decode cX10_gust 30 = .ok (.iconst 0, 1) := by decide +kernel
theorem dX10_gust_31 : decode cX10_gust 31 = .ok (.bipush 99, 2) := by decide +kernel
theorem dX10_gust_33 : decode cX10_gust 33 = .ok (.invokevirtual 111, 3) := by decide +kernel
theorem dX10_gust_36 : decode cX10_gust 36 = .ok (.ifCond .eq 13, 3) := by decide +kernel
theorem dX10_gust_39 : decode cX10_gust 39 = .ok (.aload_n 0, 1) := by decide +kernel
theorem dX10_gust_40 : decode cX10_gust 40 = .ok (.iload_n 1, 1) := by decide +kernel
theorem dX10_gust_41 : decode cX10_gust 41 = .ok (.iload_n 2, 1) := by decide +kernel
theorem dX10_gust_42 : decode cX10_gust 42 = .ok (.iload_n 3, 1) := by decide +kernel
theorem dX10_gust_43 : decode cX10_gust 43 = .ok (.invokevirtual 357, 3) := by decide +kernel
theorem dX10_gust_46 : decode cX10_gust 46 = .ok (.goto 4, 3) := by decide +kernel
theorem dX10_gust_49 : decode cX10_gust 49 = .ok (.iconst (-1), 1) := by decide +kernel
theorem dX10_gust_50 : decode cX10_gust 50 = .ok (.ireturn, 1) := by decide +kernel
def M_gust (s : ST) (x1 : Int32) (x2 : Int32) (x3 : Int32) : Option (Int32 × ST) := Lt (ups s 0 0 (0 : Int32)) fun s1 => Lt (M_isIn s1 x1 (0 : Int32) ((s1.1 0 34) - (1 : Int32))) fun y1 => if y1 = 0 then (some ((-1 : Int32), s1)) else (Lt (M_isCell s1 x2) fun y2 => if y2 = 0 then (some ((-1 : Int32), s1)) else (Lt (M_isIn s1 x3 (0 : Int32) (99 : Int32)) fun y3 => if y3 = 0 then (some ((-1 : Int32), s1)) else (Bd (M_gustOf s1 x1 x2 x3) fun y4 => some (y4.1, y4.2))))
set_option maxRecDepth 100000 in
set_option maxHeartbeats 4000000 in
theorem k_gust (l : Launch) (D : va_G) (cA : ClassId) (h : Nat → Nat) (s : ST) (x1 : Int32) (x2 : Int32) (x3 : Int32) {o : Int32 × ST} (hs : M_gust s x1 x2 x3 = some o) : MI l (KM D cA h) 6 yX10_gust cX10_gust 4 (some .int) s [.ref (h 0), .int x1, .int x2, .int x3] o.1 o.2 := by
  refine met_i (by decide) (Nat.le_of_ble_eq_true rfl) ?_
  intro p e st m args below meth c Q X RI
  unfold M_gust at hs
  refine g_aload_n X dX10_gust_0 (q := 1) rfl 0 rfl ?_
  refine g_iconst X dX10_gust_1 (q := 2) rfl li_i0 ?_
  refine mp_0 X dX10_gust_2 (q := 5) rfl hs (fun s1 hs => ?_)
  refine g_aload_n X dX10_gust_5 (q := 6) rfl 0 rfl ?_
  refine g_iload_n X dX10_gust_6 (q := 7) rfl 1 rfl ?_
  refine g_iconst X dX10_gust_7 (q := 8) rfl li_i0 ?_
  refine g_aload_n X dX10_gust_8 (q := 9) rfl 0 rfl ?_
  refine mg_34 X dX10_gust_9 (q := 12) rfl ?_
  refine g_iconst X dX10_gust_12 (q := 13) rfl li_i1 ?_
  refine g_isub X dX10_gust_13 (q := 14) rfl ?_
  refine v_isIn X dX10_gust_14 (q := 17) rfl (Nat.le_of_ble_eq_true rfl) (Nat.le_of_ble_eq_true rfl) (Nat.le_of_ble_eq_true rfl) hs (fun y1 hs => ?_)
  refine g_if_eq X dX10_gust_17 (q := 20) rfl (tgt := 49) (by decide) hs ?_ ?_
  · intro hs
    refine g_iconst X dX10_gust_49 (q := 50) rfl li_im1 ?_
    exact RI _ 50 _ _ _ (rU1 hs) rfl (rV1 hs) dX10_gust_50
  · intro hs
    refine g_aload_n X dX10_gust_20 (q := 21) rfl 0 rfl ?_
    refine g_iload_n X dX10_gust_21 (q := 22) rfl 2 rfl ?_
    refine v_isCell X dX10_gust_22 (q := 25) rfl (Nat.le_of_ble_eq_true rfl) (Nat.le_of_ble_eq_true rfl) (Nat.le_of_ble_eq_true rfl) hs (fun y2 hs => ?_)
    refine g_if_eq X dX10_gust_25 (q := 28) rfl (tgt := 49) (by decide) hs ?_ ?_
    · intro hs
      refine g_iconst X dX10_gust_49 (q := 50) rfl li_im1 ?_
      exact RI _ 50 _ _ _ (rU1 hs) rfl (rV1 hs) dX10_gust_50
    · intro hs
      refine g_aload_n X dX10_gust_28 (q := 29) rfl 0 rfl ?_
      refine g_iload_n X dX10_gust_29 (q := 30) rfl 3 rfl ?_
      refine g_iconst X dX10_gust_30 (q := 31) rfl li_i0 ?_
      refine g_bipush X dX10_gust_31 (q := 33) rfl li_b99 ?_
      refine v_isIn X dX10_gust_33 (q := 36) rfl (Nat.le_of_ble_eq_true rfl) (Nat.le_of_ble_eq_true rfl) (Nat.le_of_ble_eq_true rfl) hs (fun y3 hs => ?_)
      refine g_if_eq X dX10_gust_36 (q := 39) rfl (tgt := 49) (by decide) hs ?_ ?_
      · intro hs
        refine g_iconst X dX10_gust_49 (q := 50) rfl li_im1 ?_
        exact RI _ 50 _ _ _ (rU1 hs) rfl (rV1 hs) dX10_gust_50
      · intro hs
        refine g_aload_n X dX10_gust_39 (q := 40) rfl 0 rfl ?_
        refine g_iload_n X dX10_gust_40 (q := 41) rfl 1 rfl ?_
        refine g_iload_n X dX10_gust_41 (q := 42) rfl 2 rfl ?_
        refine g_iload_n X dX10_gust_42 (q := 43) rfl 3 rfl ?_
        refine v_gustOf X dX10_gust_43 (q := 46) rfl (Nat.le_of_ble_eq_true rfl) (Nat.le_of_ble_eq_true rfl) (Nat.le_of_ble_eq_true rfl) hs (fun y4 hs => ?_)
        refine g_goto X dX10_gust_46 (tgt := 50) (by decide) ?_
        exact RI _ 50 _ _ _ (rU1 hs) rfl (rV1 hs) dX10_gust_50
theorem dX10_book_0 : decode cX10_book 0 = .ok (.aload_n 0, 1) := by decide +kernel
theorem dX10_book_1 : decode cX10_book 1 = .ok (.iconst 0, 1) := by decide +kernel
theorem dX10_book_2 : decode cX10_book 2 = .ok (.putfield 83, 3) := by decide +kernel
theorem dX10_book_5 : decode cX10_book 5 = .ok (.aload_n 0, 1) := by decide +kernel
theorem dX10_book_6 : decode cX10_book 6 = .ok (.iload_n 1, 1) := by decide +kernel
theorem dX10_book_7 : decode cX10_book 7 = .ok (.iconst 0, 1) := by decide +kernel
theorem dX10_book_8 : decode cX10_book 8 = .ok (.aload_n 0, 1) := by decide +kernel
theorem dX10_book_9 : decode cX10_book 9 = .ok (.getfield 7, 3) := by decide +kernel
theorem dX10_book_12 : decode cX10_book 12 = .ok (.iconst 2, 1) := by decide +kernel
theorem dX10_book_13 : decode cX10_book 13 = .ok (.iaload, 1) := by decide +kernel
theorem dX10_book_14 : decode cX10_book 14 = .ok (.iconst 1, 1) := by decide +kernel
theorem dX10_book_15 : decode cX10_book 15 = .ok (.isub, 1) := by decide +kernel
theorem dX10_book_16 : decode cX10_book 16 = .ok (.invokevirtual 111, 3) := by decide +kernel
theorem dX10_book_19 : decode cX10_book 19 = .ok (.ifCond .eq 26, 3) := by decide +kernel
theorem dX10_book_22 : decode cX10_book 22 = .ok (.aload_n 0, 1) := by decide +kernel
theorem dX10_book_23 : decode cX10_book 23 = .ok (.iload_n 2, 1) := by decide +kernel
theorem dX10_book_24 : decode cX10_book 24 = .ok (.iconst 0, 1) := by decide +kernel
theorem dX10_book_25 : decode cX10_book 25 = .ok (.iconst 3, 1) := by decide +kernel
theorem dX10_book_26 : decode cX10_book 26 = .ok (.invokevirtual 111, 3) := by decide +kernel
theorem dX10_book_29 : decode cX10_book 29 = .ok (.ifCond .eq 16, 3) := by decide +kernel
theorem dX10_book_32 : decode cX10_book 32 = .ok (.aload_n 0, 1) := by decide +kernel
theorem dX10_book_33 : decode cX10_book 33 = .ok (.getfield 22, 3) := by decide +kernel
theorem dX10_book_36 : decode cX10_book 36 = .ok (.iconst 4, 1) := by decide +kernel
theorem dX10_book_37 : decode cX10_book 37 = .ok (.iload_n 1, 1) := by decide +kernel
theorem dX10_book_38 : decode cX10_book 38 = .ok (.imul, 1) := by decide +kernel
theorem dX10_book_39 : decode cX10_book 39 = .ok (.iload_n 2, 1) := by decide +kernel
theorem dX10_book_40 : decode cX10_book 40 = .ok (.iadd, 1) := by decide +kernel
theorem dX10_book_41 : decode cX10_book 41 = .ok (.iaload, 1) := by decide +kernel
theorem dX10_book_42 : decode cX10_book 42 = .ok (.goto 4, 3) := by decide +kernel
theorem dX10_book_45 : decode cX10_book 45 = .ok (.iconst (-1), 1) := by decide +kernel
theorem dX10_book_46 : decode cX10_book 46 = .ok (.ireturn, 1) := by decide +kernel
def M_book (s : ST) (x1 : Int32) (x2 : Int32) : Option (Int32 × ST) := Lt (ups s 0 0 (0 : Int32)) fun s1 => Lt (s1.1 1 2) fun y1 => Lt (M_isIn s1 x1 (0 : Int32) (y1 - (1 : Int32))) fun y2 => if y2 = 0 then (some ((-1 : Int32), s1)) else (Lt (M_isIn s1 x2 (0 : Int32) (3 : Int32)) fun y3 => if y3 = 0 then (some ((-1 : Int32), s1)) else (Gl s1 5 600 (((4 : Int32) * x1) + x2) fun y4 => some (y4, s1)))
set_option maxRecDepth 100000 in
set_option maxHeartbeats 4000000 in
theorem k_book (l : Launch) (D : va_G) (cA : ClassId) (h : Nat → Nat) (s : ST) (x1 : Int32) (x2 : Int32) {o : Int32 × ST} (hs : M_book s x1 x2 = some o) : MI l (KM D cA h) 2 yX10_book cX10_book 3 (some .int) s [.ref (h 0), .int x1, .int x2] o.1 o.2 := by
  refine met_i (by decide) (Nat.le_of_ble_eq_true rfl) ?_
  intro p e st m args below meth c Q X RI
  unfold M_book at hs
  refine g_aload_n X dX10_book_0 (q := 1) rfl 0 rfl ?_
  refine g_iconst X dX10_book_1 (q := 2) rfl li_i0 ?_
  refine mp_0 X dX10_book_2 (q := 5) rfl hs (fun s1 hs => ?_)
  refine g_aload_n X dX10_book_5 (q := 6) rfl 0 rfl ?_
  refine g_iload_n X dX10_book_6 (q := 7) rfl 1 rfl ?_
  refine g_iconst X dX10_book_7 (q := 8) rfl li_i0 ?_
  refine g_aload_n X dX10_book_8 (q := 9) rfl 0 rfl ?_
  refine mg_1 X dX10_book_9 (q := 12) rfl ?_
  refine g_iconst X dX10_book_12 (q := 13) rfl li_i2 ?_
  refine mk_1 X dX10_book_13 (q := 14) rfl (j := 2) (by decide) (by decide) hs (fun y1 hs => ?_)
  refine g_iconst X dX10_book_14 (q := 15) rfl li_i1 ?_
  refine g_isub X dX10_book_15 (q := 16) rfl ?_
  refine v_isIn X dX10_book_16 (q := 19) rfl (Nat.le_of_ble_eq_true rfl) (Nat.le_of_ble_eq_true rfl) (Nat.le_of_ble_eq_true rfl) hs (fun y2 hs => ?_)
  refine g_if_eq X dX10_book_19 (q := 22) rfl (tgt := 45) (by decide) hs ?_ ?_
  · intro hs
    refine g_iconst X dX10_book_45 (q := 46) rfl li_im1 ?_
    exact RI _ 46 _ _ _ (rU1 hs) rfl (rV1 hs) dX10_book_46
  · intro hs
    refine g_aload_n X dX10_book_22 (q := 23) rfl 0 rfl ?_
    refine g_iload_n X dX10_book_23 (q := 24) rfl 2 rfl ?_
    refine g_iconst X dX10_book_24 (q := 25) rfl li_i0 ?_
    refine g_iconst X dX10_book_25 (q := 26) rfl li_i3 ?_
    refine v_isIn X dX10_book_26 (q := 29) rfl (Nat.le_of_ble_eq_true rfl) (Nat.le_of_ble_eq_true rfl) (Nat.le_of_ble_eq_true rfl) hs (fun y3 hs => ?_)
    refine g_if_eq X dX10_book_29 (q := 32) rfl (tgt := 45) (by decide) hs ?_ ?_
    · intro hs
      refine g_iconst X dX10_book_45 (q := 46) rfl li_im1 ?_
      exact RI _ 46 _ _ _ (rU1 hs) rfl (rV1 hs) dX10_book_46
    · intro hs
      refine g_aload_n X dX10_book_32 (q := 33) rfl 0 rfl ?_
      refine mg_10 X dX10_book_33 (q := 36) rfl ?_
      refine g_iconst X dX10_book_36 (q := 37) rfl li_i4 ?_
      refine g_iload_n X dX10_book_37 (q := 38) rfl 1 rfl ?_
      refine g_imul X dX10_book_38 (q := 39) rfl ?_
      refine g_iload_n X dX10_book_39 (q := 40) rfl 2 rfl ?_
      refine g_iadd X dX10_book_40 (q := 41) rfl ?_
      refine ma_5 X dX10_book_41 (q := 42) rfl hs (fun y4 hs => ?_)
      refine g_goto X dX10_book_42 (tgt := 46) (by decide) ?_
      exact RI _ 46 _ _ _ (rU1 hs) rfl (rV1 hs) dX10_book_46
theorem dX10_stormSet_0 : decode cX10_stormSet 0 = .ok (.lconst 0, 1) := by decide +kernel
theorem dX10_stormSet_1 : decode cX10_stormSet 1 = .ok (.lstore_n 1, 1) := by decide +kernel
theorem dX10_stormSet_2 : decode cX10_stormSet 2 = .ok (.iconst 0, 1) := by decide +kernel
theorem dX10_stormSet_3 : decode cX10_stormSet 3 = .ok (.istore_n 3, 1) := by decide +kernel
theorem dX10_stormSet_4 : decode cX10_stormSet 4 = .ok (.iload_n 3, 1) := by decide +kernel
theorem dX10_stormSet_5 : decode cX10_stormSet 5 = .ok (.bipush 64, 2) := by decide +kernel
theorem dX10_stormSet_7 : decode cX10_stormSet 7 = .ok (.if_icmp .ge 26, 3) := by decide +kernel
theorem dX10_stormSet_10 : decode cX10_stormSet 10 = .ok (.aload_n 0, 1) := by decide +kernel
theorem dX10_stormSet_11 : decode cX10_stormSet 11 = .ok (.iload_n 3, 1) := by decide +kernel
theorem dX10_stormSet_12 : decode cX10_stormSet 12 = .ok (.invokevirtual 308, 3) := by decide +kernel
theorem dX10_stormSet_15 : decode cX10_stormSet 15 = .ok (.iconst (-1), 1) := by decide +kernel
theorem dX10_stormSet_16 : decode cX10_stormSet 16 = .ok (.if_icmp .eq 11, 3) := by decide +kernel
theorem dX10_stormSet_19 : decode cX10_stormSet 19 = .ok (.lload_n 1, 1) := by decide +kernel
theorem dX10_stormSet_20 : decode cX10_stormSet 20 = .ok (.aload_n 0, 1) := by decide +kernel
theorem dX10_stormSet_21 : decode cX10_stormSet 21 = .ok (.iload_n 3, 1) := by decide +kernel
theorem dX10_stormSet_22 : decode cX10_stormSet 22 = .ok (.invokevirtual 406, 3) := by decide +kernel
theorem dX10_stormSet_25 : decode cX10_stormSet 25 = .ok (.lor, 1) := by decide +kernel
theorem dX10_stormSet_26 : decode cX10_stormSet 26 = .ok (.lstore_n 1, 1) := by decide +kernel
theorem dX10_stormSet_27 : decode cX10_stormSet 27 = .ok (.iinc 3 1, 3) := by decide +kernel
theorem dX10_stormSet_30 : decode cX10_stormSet 30 = .ok (.goto (-26), 3) := by decide +kernel
theorem dX10_stormSet_33 : decode cX10_stormSet 33 = .ok (.lload_n 1, 1) := by decide +kernel
theorem dX10_stormSet_34 : decode cX10_stormSet 34 = .ok (.lreturn, 1) := by decide +kernel
def M_stormSet (s : ST) : Option (Int64) := lpK2 (C := Int64) (fun (rec1 : Int64 → Int32 → Option (Int64)) (a1 : Int64) (a2 : Int32) => if (64 : Int32) ≤ a2 then (some a1) else (Bd (M_stormOf s a2) fun y1 => Lt (fun (a3 : Int64) => (rec1 a3 (a2 + (1 : Int32)) : Option (Int64))) fun j1 => if y1 = (-1 : Int32) then (j1 a1) else (Lt (M_bit s a2) fun y2 => Lt ((a1 ||| y2)) fun y3 => j1 y3))) FU (0 : Int64) (0 : Int32)
set_option maxRecDepth 100000 in
set_option maxHeartbeats 4000000 in
theorem k_stormSet (l : Launch) (D : va_G) (cA : ClassId) (h : Nat → Nat) (s : ST) {o : Int64} (hs : M_stormSet s = some o) : ML l (KM D cA h) 2 yX10_stormSet cX10_stormSet 4 (some .long) s [.ref (h 0)] o s := by
  refine met_l (by decide) (Nat.le_of_ble_eq_true rfl) ?_
  intro p e st m args below meth c Q X RI
  unfold M_stormSet at hs
  refine g_lconst X dX10_stormSet_0 (q := 1) rfl li_l0 ?_
  refine g_lstore_n X dX10_stormSet_1 (q := 2) rfl (Nat.le_of_ble_eq_true rfl) (lv' := [(1, .long (0 : Int64)), (0, .ref (h 0))]) rfl ?_
  refine g_iconst X dX10_stormSet_2 (q := 3) rfl li_i0 ?_
  refine g_istore_n X dX10_stormSet_3 (q := 4) rfl (Nat.le_of_ble_eq_true rfl) (lv' := [(3, .int (0 : Int32)), (1, .long (0 : Int64)), (0, .ref (h 0))]) rfl ?_
  refine wg_sub [2, 1, 0] rfl (lpW2 (fun (a1 : Int64) (a2 : Int32) => WG (KM D cA h) p l e (rmD 2) st m args below meth c Q 4 s 4 [(0, .ref (h 0)), (1, .long a1), (3, .int a2)] []) (fun rec1 ih1 a1 a2 hs => ?_) _ _ _ hs)
  refine g_iload_n X dX10_stormSet_4 (q := 5) rfl 2 rfl ?_
  refine g_bipush X dX10_stormSet_5 (q := 7) rfl li_b64 ?_
  refine g_icmp_ge X dX10_stormSet_7 (q := 10) rfl (tgt := 33) (by decide) hs ?_ ?_
  · intro hs
    refine g_lload_n X dX10_stormSet_33 (q := 34) rfl 1 rfl ?_
    exact RI _ 34 _ _ rfl (Option.some.inj hs) dX10_stormSet_34
  · intro hs
    refine g_aload_n X dX10_stormSet_10 (q := 11) rfl 0 rfl ?_
    refine g_iload_n X dX10_stormSet_11 (q := 12) rfl 2 rfl ?_
    refine v_stormOf X dX10_stormSet_12 (q := 15) rfl (Nat.le_of_ble_eq_true rfl) (Nat.le_of_ble_eq_true rfl) (Nat.le_of_ble_eq_true rfl) hs (fun y1 hs => ?_)
    refine g_iconst X dX10_stormSet_15 (q := 16) rfl li_im1 ?_
    refine jnW1 (fun (a3 : Int64) => WG (KM D cA h) p l e (rmD 2) st m args below meth c Q 4 s 27 [(0, .ref (h 0)), (1, .long a3), (3, .int a2)] []) hs (fun a3 hs => ?_) (fun j1 ih2 hs => ?_)
    · refine g_iinc X dX10_stormSet_27 (q := 30) rfl 2 rfl (v := (a2 + (1 : Int32))) (congrArg (HAdd.hAdd a2) li_i1) (Nat.le_of_ble_eq_true rfl) (lv' := [(3, .int (a2 + (1 : Int32))), (0, .ref (h 0)), (1, .long a3)]) rfl ?_
      refine g_goto X dX10_stormSet_30 (tgt := 4) (by decide) ?_
      exact wg_sub [1, 2, 0] rfl (ih1 _ _ hs)
    refine g_icmp_eq X dX10_stormSet_16 (q := 19) rfl (tgt := 27) (by decide) hs ?_ ?_
    · intro hs
      exact wg_sub [0, 1, 2] rfl (ih2 _ hs)
    · intro hs
      refine g_lload_n X dX10_stormSet_19 (q := 20) rfl 1 rfl ?_
      refine g_aload_n X dX10_stormSet_20 (q := 21) rfl 0 rfl ?_
      refine g_iload_n X dX10_stormSet_21 (q := 22) rfl 2 rfl ?_
      refine v_bit X dX10_stormSet_22 (q := 25) rfl (Nat.le_of_ble_eq_true rfl) (Nat.le_of_ble_eq_true rfl) (Nat.le_of_ble_eq_true rfl) hs (fun y2 hs => ?_)
      refine g_lor X dX10_stormSet_25 (q := 26) rfl ?_
      refine nmL hs (fun y3 hs => ?_)
      refine g_lstore_n X dX10_stormSet_26 (q := 27) rfl (Nat.le_of_ble_eq_true rfl) (lv' := [(1, .long y3), (0, .ref (h 0)), (3, .int a2)]) rfl ?_
      exact wg_sub [1, 0, 2] rfl (ih2 _ hs)
theorem v_stormSet {p : Program} {l : Launch} {e : Env} {st : State} {m : MethodId} {args : Array Value} {below : List Frame} {meth : Method} {c : Code} {Q : State → Prop} {nL : Nat} {cc : ByteArray} {s : ST} {pc q : Nat} {lv : List (Nat × Value)} {rest : List Value} {D : va_G} {cA : ClassId} {h : Nat → Nat} {d0 : Nat} (X : Cx (KM D cA h) p st m args meth c cc nL RX10) (d : decode cc pc = .ok (.invokevirtual 418, 3)) (hq : pc + 3 = q) (hd1 : 2 + 1 ≤ d0) (hd2 : 8 + (4 + 11) + 100 * 2 ≤ 100 * d0) (hr : (rest.map fun v => v.category).sum ≤ 8) {B : Type} {f : Int64 → Option B} {r : B} (hs : Bd (M_stormSet s) f = some r) (k : ∀ y, f y = some r → WG (KM D cA h) p l e (rmD d0) st m args below meth c Q nL s q lv (.long y :: rest)) : WG (KM D cA h) p l e (rmD d0) st m args below meth c Q nL s pc lv (.ref (h 0) :: rest) := by
  obtain ⟨v, hv, hs⟩ := Bd_e hs
  exact cV_L X 0 (n := 0) (k_stormSet l D cA h s hv) gv_X10_stormSet ⟨hd1, hd2⟩ ⟨by decide, by decide, by decide +kernel⟩ (As := []) rfl hr (Nat.le_of_ble_eq_true rfl) (fs := mF h (s.1 0)) rfl rfl rfl d hq (k _ hs)
theorem dX10_goesTo_0 : decode cX10_goesTo 0 = .ok (.iconst 1, 1) := by decide +kernel
theorem dX10_goesTo_1 : decode cX10_goesTo 1 = .ok (.istore_n 2, 1) := by decide +kernel
theorem dX10_goesTo_2 : decode cX10_goesTo 2 = .ok (.iload_n 2, 1) := by decide +kernel
theorem dX10_goesTo_3 : decode cX10_goesTo 3 = .ok (.iload_n 1, 1) := by decide +kernel
theorem dX10_goesTo_4 : decode cX10_goesTo 4 = .ok (.if_icmp .ge 19, 3) := by decide +kernel
theorem dX10_goesTo_7 : decode cX10_goesTo 7 = .ok (.aload_n 0, 1) := by decide +kernel
theorem dX10_goesTo_8 : decode cX10_goesTo 8 = .ok (.iconst 1, 1) := by decide +kernel
theorem dX10_goesTo_9 : decode cX10_goesTo 9 = .ok (.invokevirtual 396, 3) := by decide +kernel
theorem dX10_goesTo_12 : decode cX10_goesTo 12 = .ok (.pop, 1) := by decide +kernel
theorem dX10_goesTo_13 : decode cX10_goesTo 13 = .ok (.aload_n 0, 1) := by decide +kernel
theorem dX10_goesTo_14 : decode cX10_goesTo 14 = .ok (.invokevirtual 400, 3) := by decide +kernel
theorem dX10_goesTo_17 : decode cX10_goesTo 17 = .ok (.iinc 2 1, 3) := by decide +kernel
theorem dX10_goesTo_20 : decode cX10_goesTo 20 = .ok (.goto (-18), 3) := by decide +kernel
theorem dX10_goesTo_23 : decode cX10_goesTo 23 = .ok (.aload_n 0, 1) := by decide +kernel
theorem dX10_goesTo_24 : decode cX10_goesTo 24 = .ok (.iconst 1, 1) := by decide +kernel
theorem dX10_goesTo_25 : decode cX10_goesTo 25 = .ok (.invokevirtual 396, 3) := by decide +kernel
theorem dX10_goesTo_28 : decode cX10_goesTo 28 = .ok (.pop, 1) := by decide +kernel
theorem dX10_goesTo_29 : decode cX10_goesTo 29 = .ok (.return_, 1) := by decide +kernel
def M_goesTo (s : ST) (x1 : Int32) : Option (ST) := lpK2 (C := ST) (fun (rec1 : Int32 → ST → Option (ST)) (a1 : Int32) (s1 : ST) => if x1 ≤ a1 then (Bd (M_goesIn s1 (1 : Int32)) fun y1 => some y1.2) else (Bd (M_goesIn s1 (1 : Int32)) fun y2 => Bd (M_goesOut y2.2) fun s2 => rec1 (a1 + (1 : Int32)) s2)) FU (1 : Int32) s
set_option maxRecDepth 100000 in
set_option maxHeartbeats 4000000 in
theorem k_goesTo (l : Launch) (D : va_G) (cA : ClassId) (h : Nat → Nat) (s : ST) (x1 : Int32) {o : ST} (hs : M_goesTo s x1 = some o) : MV l (KM D cA h) 9 yX10_goesTo cX10_goesTo 3 none s [.ref (h 0), .int x1] o := by
  refine met_v (by decide) (Nat.le_of_ble_eq_true rfl) ?_
  intro p e st m args below meth c Q X RI
  unfold M_goesTo at hs
  refine g_iconst X dX10_goesTo_0 (q := 1) rfl li_i1 ?_
  refine g_istore_n X dX10_goesTo_1 (q := 2) rfl (Nat.le_of_ble_eq_true rfl) (lv' := [(2, .int (1 : Int32)), (0, .ref (h 0)), (1, .int x1)]) rfl ?_
  refine wg_sub [1, 2, 0] rfl (lpW2 (fun (a1 : Int32) (s1 : ST) => WG (KM D cA h) p l e (rmD 9) st m args below meth c Q 3 s1 2 [(0, .ref (h 0)), (1, .int x1), (2, .int a1)] []) (fun rec1 ih1 a1 s1 hs => ?_) _ _ _ hs)
  refine g_iload_n X dX10_goesTo_2 (q := 3) rfl 2 rfl ?_
  refine g_iload_n X dX10_goesTo_3 (q := 4) rfl 1 rfl ?_
  refine g_icmp_ge X dX10_goesTo_4 (q := 7) rfl (tgt := 23) (by decide) hs ?_ ?_
  · intro hs
    refine g_aload_n X dX10_goesTo_23 (q := 24) rfl 0 rfl ?_
    refine g_iconst X dX10_goesTo_24 (q := 25) rfl li_i1 ?_
    refine v_goesIn X dX10_goesTo_25 (q := 28) rfl (Nat.le_of_ble_eq_true rfl) (Nat.le_of_ble_eq_true rfl) (Nat.le_of_ble_eq_true rfl) hs (fun y1 hs => ?_)
    refine g_pop X dX10_goesTo_28 (q := 29) rfl rfl ?_
    exact RI _ 29 _ (Option.some.inj hs) dX10_goesTo_29
  · intro hs
    refine g_aload_n X dX10_goesTo_7 (q := 8) rfl 0 rfl ?_
    refine g_iconst X dX10_goesTo_8 (q := 9) rfl li_i1 ?_
    refine v_goesIn X dX10_goesTo_9 (q := 12) rfl (Nat.le_of_ble_eq_true rfl) (Nat.le_of_ble_eq_true rfl) (Nat.le_of_ble_eq_true rfl) hs (fun y2 hs => ?_)
    refine g_pop X dX10_goesTo_12 (q := 13) rfl rfl ?_
    refine g_aload_n X dX10_goesTo_13 (q := 14) rfl 0 rfl ?_
    refine v_goesOut X dX10_goesTo_14 (q := 17) rfl (Nat.le_of_ble_eq_true rfl) (Nat.le_of_ble_eq_true rfl) (Nat.le_of_ble_eq_true rfl) hs (fun s2 hs => ?_)
    refine g_iinc X dX10_goesTo_17 (q := 20) rfl 2 rfl (v := (a1 + (1 : Int32))) (congrArg (HAdd.hAdd a1) li_i1) (Nat.le_of_ble_eq_true rfl) (lv' := [(2, .int (a1 + (1 : Int32))), (0, .ref (h 0)), (1, .int x1)]) rfl ?_
    refine g_goto X dX10_goesTo_20 (tgt := 2) (by decide) ?_
    exact wg_sub [1, 2, 0] rfl (ih1 _ _ hs)
theorem v_goesTo {p : Program} {l : Launch} {e : Env} {st : State} {m : MethodId} {args : Array Value} {below : List Frame} {meth : Method} {c : Code} {Q : State → Prop} {nL : Nat} {cc : ByteArray} {s : ST} {pc q : Nat} {lv : List (Nat × Value)} {rest : List Value} {D : va_G} {cA : ClassId} {h : Nat → Nat} {d0 : Nat} (X : Cx (KM D cA h) p st m args meth c cc nL RX10) {x1 : Int32} (d : decode cc pc = .ok (.invokevirtual 415, 3)) (hq : pc + 3 = q) (hd1 : 9 + 1 ≤ d0) (hd2 : 8 + (3 + 11) + 100 * 9 ≤ 100 * d0) (hr : (rest.map fun v => v.category).sum ≤ 8) {B : Type} {f : ST → Option B} {r : B} (hs : Bd (M_goesTo s x1) f = some r) (k : ∀ y, f y = some r → WG (KM D cA h) p l e (rmD d0) st m args below meth c Q nL y q lv (rest)) : WG (KM D cA h) p l e (rmD d0) st m args below meth c Q nL s pc lv (.int x1 :: .ref (h 0) :: rest) := by
  obtain ⟨v, hv, hs⟩ := Bd_e hs
  exact cV_V X 0 (n := 1) (k_goesTo l D cA h s x1 hv) gv_X10_goesTo ⟨hd1, hd2⟩ ⟨by decide, by decide, by decide +kernel⟩ (As := [.int x1]) rfl hr (Nat.le_of_ble_eq_true rfl) (fs := mF h (s.1 0)) rfl rfl rfl d hq (k _ hs)
theorem dX10_blows_0 : decode cX10_blows 0 = .ok (.aload_n 0, 1) := by decide +kernel
theorem dX10_blows_1 : decode cX10_blows 1 = .ok (.iconst 0, 1) := by decide +kernel
theorem dX10_blows_2 : decode cX10_blows 2 = .ok (.putfield 83, 3) := by decide +kernel
theorem dX10_blows_5 : decode cX10_blows 5 = .ok (.aload_n 0, 1) := by decide +kernel
theorem dX10_blows_6 : decode cX10_blows 6 = .ok (.iload_n 1, 1) := by decide +kernel
theorem dX10_blows_7 : decode cX10_blows 7 = .ok (.iconst 1, 1) := by decide +kernel
theorem dX10_blows_8 : decode cX10_blows 8 = .ok (.bipush 60, 2) := by decide +kernel
theorem dX10_blows_10 : decode cX10_blows 10 = .ok (.invokevirtual 111, 3) := by decide +kernel
theorem dX10_blows_13 : decode cX10_blows 13 = .ok (.ifCond .ne 7, 3) := by decide +kernel
theorem dX10_blows_16 : decode cX10_blows 16 = .ok (.ldc2_w 410, 3) := by decide +kernel
theorem dX10_blows_19 : decode cX10_blows 19 = .ok (.lreturn, 1) := by decide +kernel
theorem dX10_blows_20 : decode cX10_blows 20 = .ok (.aload_n 0, 1) := by decide +kernel
theorem dX10_blows_21 : decode cX10_blows 21 = .ok (.invokevirtual 412, 3) := by decide +kernel
theorem dX10_blows_24 : decode cX10_blows 24 = .ok (.aload_n 0, 1) := by decide +kernel
theorem dX10_blows_25 : decode cX10_blows 25 = .ok (.iload_n 1, 1) := by decide +kernel
theorem dX10_blows_26 : decode cX10_blows 26 = .ok (.invokevirtual 415, 3) := by decide +kernel
theorem dX10_blows_29 : decode cX10_blows 29 = .ok (.aload_n 0, 1) := by decide +kernel
theorem dX10_blows_30 : decode cX10_blows 30 = .ok (.invokevirtual 418, 3) := by decide +kernel
theorem dX10_blows_33 : decode cX10_blows 33 = .ok (.lstore_n 2, 1) := by decide +kernel
theorem dX10_blows_34 : decode cX10_blows 34 = .ok (.aload_n 0, 1) := by decide +kernel
theorem dX10_blows_35 : decode cX10_blows 35 = .ok (.invokevirtual 422, 3) := by decide +kernel
theorem dX10_blows_38 : decode cX10_blows 38 = .ok (.lload_n 2, 1) := by decide +kernel
theorem dX10_blows_39 : decode cX10_blows 39 = .ok (.lreturn, 1) := by decide +kernel
def M_blows (s : ST) (x1 : Int32) : Option (Int64 × ST) := Lt (ups s 0 0 (0 : Int32)) fun s1 => Lt (M_isIn s1 x1 (1 : Int32) (60 : Int32)) fun y1 => if y1 = 0 then (some ((-1 : Int64), s1)) else (Bd (M_thinks s1) fun s2 => Bd (M_goesTo s2 x1) fun s3 => Bd (M_stormSet s3) fun y2 => Bd (M_endsThought s3) fun s4 => some (y2, s4))
set_option maxRecDepth 100000 in
set_option maxHeartbeats 4000000 in
theorem k_blows (l : Launch) (D : va_G) (cA : ClassId) (h : Nat → Nat) (s : ST) (x1 : Int32) {o : Int64 × ST} (hs : M_blows s x1 = some o) : ML l (KM D cA h) 10 yX10_blows cX10_blows 4 (some .long) s [.ref (h 0), .int x1] o.1 o.2 := by
  refine met_l (by decide) (Nat.le_of_ble_eq_true rfl) ?_
  intro p e st m args below meth c Q X RI
  unfold M_blows at hs
  refine g_aload_n X dX10_blows_0 (q := 1) rfl 0 rfl ?_
  refine g_iconst X dX10_blows_1 (q := 2) rfl li_i0 ?_
  refine mp_0 X dX10_blows_2 (q := 5) rfl hs (fun s1 hs => ?_)
  refine g_aload_n X dX10_blows_5 (q := 6) rfl 0 rfl ?_
  refine g_iload_n X dX10_blows_6 (q := 7) rfl 1 rfl ?_
  refine g_iconst X dX10_blows_7 (q := 8) rfl li_i1 ?_
  refine g_bipush X dX10_blows_8 (q := 10) rfl li_b60 ?_
  refine v_isIn X dX10_blows_10 (q := 13) rfl (Nat.le_of_ble_eq_true rfl) (Nat.le_of_ble_eq_true rfl) (Nat.le_of_ble_eq_true rfl) hs (fun y1 hs => ?_)
  refine g_if_ne X dX10_blows_13 (q := 16) rfl (tgt := 20) (by decide) hs ?_ ?_
  · intro hs
    refine g_aload_n X dX10_blows_20 (q := 21) rfl 0 rfl ?_
    refine v_thinks X dX10_blows_21 (q := 24) rfl (Nat.le_of_ble_eq_true rfl) (Nat.le_of_ble_eq_true rfl) (Nat.le_of_ble_eq_true rfl) hs (fun s2 hs => ?_)
    refine g_aload_n X dX10_blows_24 (q := 25) rfl 0 rfl ?_
    refine g_iload_n X dX10_blows_25 (q := 26) rfl 1 rfl ?_
    refine v_goesTo X dX10_blows_26 (q := 29) rfl (Nat.le_of_ble_eq_true rfl) (Nat.le_of_ble_eq_true rfl) (Nat.le_of_ble_eq_true rfl) hs (fun s3 hs => ?_)
    refine g_aload_n X dX10_blows_29 (q := 30) rfl 0 rfl ?_
    refine v_stormSet X dX10_blows_30 (q := 33) rfl (Nat.le_of_ble_eq_true rfl) (Nat.le_of_ble_eq_true rfl) (Nat.le_of_ble_eq_true rfl) hs (fun y2 hs => ?_)
    refine g_lstore_n X dX10_blows_33 (q := 34) rfl (Nat.le_of_ble_eq_true rfl) (lv' := [(2, .long y2), (0, .ref (h 0)), (1, .int x1)]) rfl ?_
    refine g_aload_n X dX10_blows_34 (q := 35) rfl 1 rfl ?_
    refine v_endsThought X dX10_blows_35 (q := 38) rfl (Nat.le_of_ble_eq_true rfl) (Nat.le_of_ble_eq_true rfl) (Nat.le_of_ble_eq_true rfl) hs (fun s4 hs => ?_)
    refine g_lload_n X dX10_blows_38 (q := 39) rfl 0 rfl ?_
    exact RI _ 39 _ _ (rU1 hs) (rV1 hs) dX10_blows_39
  · intro hs
    refine g_ldc2_w X dX10_blows_16 (q := 19) rfl kc_X10_410 ?_
    exact RI _ 19 _ _ (rU1 hs) (rV1 hs) dX10_blows_19
theorem dX10_harms_0 : decode cX10_harms 0 = .ok (.aload_n 0, 1) := by decide +kernel
theorem dX10_harms_1 : decode cX10_harms 1 = .ok (.iconst 0, 1) := by decide +kernel
theorem dX10_harms_2 : decode cX10_harms 2 = .ok (.putfield 83, 3) := by decide +kernel
theorem dX10_harms_5 : decode cX10_harms 5 = .ok (.aload_n 0, 1) := by decide +kernel
theorem dX10_harms_6 : decode cX10_harms 6 = .ok (.iload_n 1, 1) := by decide +kernel
theorem dX10_harms_7 : decode cX10_harms 7 = .ok (.iconst 1, 1) := by decide +kernel
theorem dX10_harms_8 : decode cX10_harms 8 = .ok (.bipush 60, 2) := by decide +kernel
theorem dX10_harms_10 : decode cX10_harms 10 = .ok (.invokevirtual 111, 3) := by decide +kernel
theorem dX10_harms_13 : decode cX10_harms 13 = .ok (.ifCond .ne 5, 3) := by decide +kernel
theorem dX10_harms_16 : decode cX10_harms 16 = .ok (.iconst (-1), 1) := by decide +kernel
theorem dX10_harms_17 : decode cX10_harms 17 = .ok (.ireturn, 1) := by decide +kernel
theorem dX10_harms_18 : decode cX10_harms 18 = .ok (.aload_n 0, 1) := by decide +kernel
theorem dX10_harms_19 : decode cX10_harms 19 = .ok (.invokevirtual 412, 3) := by decide +kernel
theorem dX10_harms_22 : decode cX10_harms 22 = .ok (.aload_n 0, 1) := by decide +kernel
theorem dX10_harms_23 : decode cX10_harms 23 = .ok (.iload_n 1, 1) := by decide +kernel
theorem dX10_harms_24 : decode cX10_harms 24 = .ok (.invokevirtual 415, 3) := by decide +kernel
theorem dX10_harms_27 : decode cX10_harms 27 = .ok (.aload_n 0, 1) := by decide +kernel
theorem dX10_harms_28 : decode cX10_harms 28 = .ok (.getfield 7, 3) := by decide +kernel
theorem dX10_harms_31 : decode cX10_harms 31 = .ok (.iconst 4, 1) := by decide +kernel
theorem dX10_harms_32 : decode cX10_harms 32 = .ok (.iaload, 1) := by decide +kernel
theorem dX10_harms_33 : decode cX10_harms 33 = .ok (.aload_n 0, 1) := by decide +kernel
theorem dX10_harms_34 : decode cX10_harms 34 = .ok (.getfield 16, 3) := by decide +kernel
theorem dX10_harms_37 : decode cX10_harms 37 = .ok (.iconst 4, 1) := by decide +kernel
theorem dX10_harms_38 : decode cX10_harms 38 = .ok (.iaload, 1) := by decide +kernel
theorem dX10_harms_39 : decode cX10_harms 39 = .ok (.isub, 1) := by decide +kernel
theorem dX10_harms_40 : decode cX10_harms 40 = .ok (.istore_n 2, 1) := by decide +kernel
theorem dX10_harms_41 : decode cX10_harms 41 = .ok (.aload_n 0, 1) := by decide +kernel
theorem dX10_harms_42 : decode cX10_harms 42 = .ok (.invokevirtual 422, 3) := by decide +kernel
theorem dX10_harms_45 : decode cX10_harms 45 = .ok (.iload_n 2, 1) := by decide +kernel
theorem dX10_harms_46 : decode cX10_harms 46 = .ok (.ireturn, 1) := by decide +kernel
def M_harms (s : ST) (x1 : Int32) : Option (Int32 × ST) := Lt (ups s 0 0 (0 : Int32)) fun s1 => Lt (M_isIn s1 x1 (1 : Int32) (60 : Int32)) fun y1 => if y1 = 0 then (some ((-1 : Int32), s1)) else (Bd (M_thinks s1) fun s2 => Bd (M_goesTo s2 x1) fun s3 => Lt (s3.1 1 4) fun y2 => Lt (s3.1 3 4) fun y3 => Lt ((y2 - y3)) fun y4 => Bd (M_endsThought s3) fun s4 => some (y4, s4))
set_option maxRecDepth 100000 in
set_option maxHeartbeats 4000000 in
theorem k_harms (l : Launch) (D : va_G) (cA : ClassId) (h : Nat → Nat) (s : ST) (x1 : Int32) {o : Int32 × ST} (hs : M_harms s x1 = some o) : MI l (KM D cA h) 10 yX10_harms cX10_harms 3 (some .int) s [.ref (h 0), .int x1] o.1 o.2 := by
  refine met_i (by decide) (Nat.le_of_ble_eq_true rfl) ?_
  intro p e st m args below meth c Q X RI
  unfold M_harms at hs
  refine g_aload_n X dX10_harms_0 (q := 1) rfl 0 rfl ?_
  refine g_iconst X dX10_harms_1 (q := 2) rfl li_i0 ?_
  refine mp_0 X dX10_harms_2 (q := 5) rfl hs (fun s1 hs => ?_)
  refine g_aload_n X dX10_harms_5 (q := 6) rfl 0 rfl ?_
  refine g_iload_n X dX10_harms_6 (q := 7) rfl 1 rfl ?_
  refine g_iconst X dX10_harms_7 (q := 8) rfl li_i1 ?_
  refine g_bipush X dX10_harms_8 (q := 10) rfl li_b60 ?_
  refine v_isIn X dX10_harms_10 (q := 13) rfl (Nat.le_of_ble_eq_true rfl) (Nat.le_of_ble_eq_true rfl) (Nat.le_of_ble_eq_true rfl) hs (fun y1 hs => ?_)
  refine g_if_ne X dX10_harms_13 (q := 16) rfl (tgt := 18) (by decide) hs ?_ ?_
  · intro hs
    refine g_aload_n X dX10_harms_18 (q := 19) rfl 0 rfl ?_
    refine v_thinks X dX10_harms_19 (q := 22) rfl (Nat.le_of_ble_eq_true rfl) (Nat.le_of_ble_eq_true rfl) (Nat.le_of_ble_eq_true rfl) hs (fun s2 hs => ?_)
    refine g_aload_n X dX10_harms_22 (q := 23) rfl 0 rfl ?_
    refine g_iload_n X dX10_harms_23 (q := 24) rfl 1 rfl ?_
    refine v_goesTo X dX10_harms_24 (q := 27) rfl (Nat.le_of_ble_eq_true rfl) (Nat.le_of_ble_eq_true rfl) (Nat.le_of_ble_eq_true rfl) hs (fun s3 hs => ?_)
    refine g_aload_n X dX10_harms_27 (q := 28) rfl 0 rfl ?_
    refine mg_1 X dX10_harms_28 (q := 31) rfl ?_
    refine g_iconst X dX10_harms_31 (q := 32) rfl li_i4 ?_
    refine mk_1 X dX10_harms_32 (q := 33) rfl (j := 4) (by decide) (by decide) hs (fun y2 hs => ?_)
    refine g_aload_n X dX10_harms_33 (q := 34) rfl 0 rfl ?_
    refine mg_4 X dX10_harms_34 (q := 37) rfl ?_
    refine g_iconst X dX10_harms_37 (q := 38) rfl li_i4 ?_
    refine mk_3 X dX10_harms_38 (q := 39) rfl (j := 4) (by decide) (by decide) hs (fun y3 hs => ?_)
    refine g_isub X dX10_harms_39 (q := 40) rfl ?_
    refine nmI hs (fun y4 hs => ?_)
    refine g_istore_n X dX10_harms_40 (q := 41) rfl (Nat.le_of_ble_eq_true rfl) (lv' := [(2, .int y4), (0, .ref (h 0)), (1, .int x1)]) rfl ?_
    refine g_aload_n X dX10_harms_41 (q := 42) rfl 1 rfl ?_
    refine v_endsThought X dX10_harms_42 (q := 45) rfl (Nat.le_of_ble_eq_true rfl) (Nat.le_of_ble_eq_true rfl) (Nat.le_of_ble_eq_true rfl) hs (fun s4 hs => ?_)
    refine g_iload_n X dX10_harms_45 (q := 46) rfl 0 rfl ?_
    exact RI _ 46 _ _ _ (rU1 hs) rfl (rV1 hs) dX10_harms_46
  · intro hs
    refine g_iconst X dX10_harms_16 (q := 17) rfl li_im1 ?_
    exact RI _ 17 _ _ _ (rU1 hs) rfl (rV1 hs) dX10_harms_17
theorem dX10_ofWant_0 : decode cX10_ofWant 0 = .ok (.aload_n 0, 1) := by decide +kernel
theorem dX10_ofWant_1 : decode cX10_ofWant 1 = .ok (.getfield 65, 3) := by decide +kernel
theorem dX10_ofWant_4 : decode cX10_ofWant 4 = .ok (.iconst 4, 1) := by decide +kernel
theorem dX10_ofWant_5 : decode cX10_ofWant 5 = .ok (.iload_n 1, 1) := by decide +kernel
theorem dX10_ofWant_6 : decode cX10_ofWant 6 = .ok (.imul, 1) := by decide +kernel
theorem dX10_ofWant_7 : decode cX10_ofWant 7 = .ok (.iload_n 2, 1) := by decide +kernel
theorem dX10_ofWant_8 : decode cX10_ofWant 8 = .ok (.iadd, 1) := by decide +kernel
theorem dX10_ofWant_9 : decode cX10_ofWant 9 = .ok (.iaload, 1) := by decide +kernel
theorem dX10_ofWant_10 : decode cX10_ofWant 10 = .ok (.ireturn, 1) := by decide +kernel
def M_ofWant (s : ST) (x1 : Int32) (x2 : Int32) : Option (Int32) := Gl s 18 80 (((4 : Int32) * x1) + x2) fun y1 => some y1
set_option maxRecDepth 100000 in
set_option maxHeartbeats 4000000 in
theorem k_ofWant (l : Launch) (D : va_G) (cA : ClassId) (h : Nat → Nat) (s : ST) (x1 : Int32) (x2 : Int32) {o : Int32} (hs : M_ofWant s x1 x2 = some o) : MI l (KM D cA h) 1 yX10_ofWant cX10_ofWant 3 (some .int) s [.ref (h 0), .int x1, .int x2] o s := by
  refine met_i (by decide) (Nat.le_of_ble_eq_true rfl) ?_
  intro p e st m args below meth c Q X RI
  unfold M_ofWant at hs
  refine g_aload_n X dX10_ofWant_0 (q := 1) rfl 0 rfl ?_
  refine mg_41 X dX10_ofWant_1 (q := 4) rfl ?_
  refine g_iconst X dX10_ofWant_4 (q := 5) rfl li_i4 ?_
  refine g_iload_n X dX10_ofWant_5 (q := 6) rfl 1 rfl ?_
  refine g_imul X dX10_ofWant_6 (q := 7) rfl ?_
  refine g_iload_n X dX10_ofWant_7 (q := 8) rfl 2 rfl ?_
  refine g_iadd X dX10_ofWant_8 (q := 9) rfl ?_
  refine ma_18 X dX10_ofWant_9 (q := 10) rfl hs (fun y1 hs => ?_)
  exact RI _ 10 _ _ _ rfl rfl (Option.some.inj hs) dX10_ofWant_10
theorem v_ofWant {p : Program} {l : Launch} {e : Env} {st : State} {m : MethodId} {args : Array Value} {below : List Frame} {meth : Method} {c : Code} {Q : State → Prop} {nL : Nat} {cc : ByteArray} {s : ST} {pc q : Nat} {lv : List (Nat × Value)} {rest : List Value} {D : va_G} {cA : ClassId} {h : Nat → Nat} {d0 : Nat} (X : Cx (KM D cA h) p st m args meth c cc nL RX10) {x1 : Int32} {x2 : Int32} (d : decode cc pc = .ok (.invokevirtual 425, 3)) (hq : pc + 3 = q) (hd1 : 1 + 1 ≤ d0) (hd2 : 8 + (3 + 11) + 100 * 1 ≤ 100 * d0) (hr : (rest.map fun v => v.category).sum ≤ 8) {B : Type} {f : Int32 → Option B} {r : B} (hs : Bd (M_ofWant s x1 x2) f = some r) (k : ∀ y, f y = some r → WG (KM D cA h) p l e (rmD d0) st m args below meth c Q nL s q lv (.int y :: rest)) : WG (KM D cA h) p l e (rmD d0) st m args below meth c Q nL s pc lv (.int x2 :: .int x1 :: .ref (h 0) :: rest) := by
  obtain ⟨v, hv, hs⟩ := Bd_e hs
  exact cV_I X 0 (n := 2) (k_ofWant l D cA h s x1 x2 hv) gv_X10_ofWant ⟨hd1, hd2⟩ ⟨by decide, by decide, by decide +kernel⟩ (As := [.int x1, .int x2]) rfl hr (Nat.le_of_ble_eq_true rfl) (fs := mF h (s.1 0)) rfl rfl rfl d hq (k _ hs)
theorem dX10_isMet_0 : decode cX10_isMet 0 = .ok (.aload_n 0, 1) := by decide +kernel
theorem dX10_isMet_1 : decode cX10_isMet 1 = .ok (.iload_n 1, 1) := by decide +kernel
theorem dX10_isMet_2 : decode cX10_isMet 2 = .ok (.iconst 0, 1) := by decide +kernel
theorem dX10_isMet_3 : decode cX10_isMet 3 = .ok (.invokevirtual 425, 3) := by decide +kernel
theorem dX10_isMet_6 : decode cX10_isMet 6 = .ok (.bipush 8, 2) := by decide +kernel
theorem dX10_isMet_8 : decode cX10_isMet 8 = .ok (.if_icmp .ne 25, 3) := by decide +kernel
theorem dX10_isMet_11 : decode cX10_isMet 11 = .ok (.aload_n 0, 1) := by decide +kernel
theorem dX10_isMet_12 : decode cX10_isMet 12 = .ok (.aload_n 0, 1) := by decide +kernel
theorem dX10_isMet_13 : decode cX10_isMet 13 = .ok (.iload_n 1, 1) := by decide +kernel
theorem dX10_isMet_14 : decode cX10_isMet 14 = .ok (.iconst 1, 1) := by decide +kernel
theorem dX10_isMet_15 : decode cX10_isMet 15 = .ok (.invokevirtual 425, 3) := by decide +kernel
theorem dX10_isMet_18 : decode cX10_isMet 18 = .ok (.invokevirtual 308, 3) := by decide +kernel
theorem dX10_isMet_21 : decode cX10_isMet 21 = .ok (.iconst (-1), 1) := by decide +kernel
theorem dX10_isMet_22 : decode cX10_isMet 22 = .ok (.if_icmp .ne 7, 3) := by decide +kernel
theorem dX10_isMet_25 : decode cX10_isMet 25 = .ok (.iconst 1, 1) := by decide +kernel
theorem dX10_isMet_26 : decode cX10_isMet 26 = .ok (.goto 31, 3) := by decide +kernel
theorem dX10_isMet_29 : decode cX10_isMet 29 = .ok (.iconst 0, 1) := by decide +kernel
theorem dX10_isMet_30 : decode cX10_isMet 30 = .ok (.goto 27, 3) := by decide +kernel
theorem dX10_isMet_33 : decode cX10_isMet 33 = .ok (.aload_n 0, 1) := by decide +kernel
theorem dX10_isMet_34 : decode cX10_isMet 34 = .ok (.aload_n 0, 1) := by decide +kernel
theorem dX10_isMet_35 : decode cX10_isMet 35 = .ok (.iload_n 1, 1) := by decide +kernel
theorem dX10_isMet_36 : decode cX10_isMet 36 = .ok (.iconst 1, 1) := by decide +kernel
theorem dX10_isMet_37 : decode cX10_isMet 37 = .ok (.invokevirtual 425, 3) := by decide +kernel
theorem dX10_isMet_40 : decode cX10_isMet 40 = .ok (.invokevirtual 308, 3) := by decide +kernel
theorem dX10_isMet_43 : decode cX10_isMet 43 = .ok (.aload_n 0, 1) := by decide +kernel
theorem dX10_isMet_44 : decode cX10_isMet 44 = .ok (.iload_n 1, 1) := by decide +kernel
theorem dX10_isMet_45 : decode cX10_isMet 45 = .ok (.iconst 0, 1) := by decide +kernel
theorem dX10_isMet_46 : decode cX10_isMet 46 = .ok (.invokevirtual 425, 3) := by decide +kernel
theorem dX10_isMet_49 : decode cX10_isMet 49 = .ok (.if_icmp .ne 7, 3) := by decide +kernel
theorem dX10_isMet_52 : decode cX10_isMet 52 = .ok (.iconst 1, 1) := by decide +kernel
theorem dX10_isMet_53 : decode cX10_isMet 53 = .ok (.goto 4, 3) := by decide +kernel
theorem dX10_isMet_56 : decode cX10_isMet 56 = .ok (.iconst 0, 1) := by decide +kernel
theorem dX10_isMet_57 : decode cX10_isMet 57 = .ok (.ireturn, 1) := by decide +kernel
def M_isMet (s : ST) (x1 : Int32) : Option (Int32) := Bd (M_ofWant s x1 (0 : Int32)) fun y1 => if y1 = (8 : Int32) then (Bd (M_ofWant s x1 (1 : Int32)) fun y5 => Bd (M_stormOf s y5) fun y6 => if y6 = (-1 : Int32) then (some (1 : Int32)) else (some (0 : Int32))) else (Bd (M_ofWant s x1 (1 : Int32)) fun y2 => Bd (M_stormOf s y2) fun y3 => Bd (M_ofWant s x1 (0 : Int32)) fun y4 => if y3 = y4 then (some (1 : Int32)) else (some (0 : Int32)))
set_option maxRecDepth 100000 in
set_option maxHeartbeats 4000000 in
theorem k_isMet (l : Launch) (D : va_G) (cA : ClassId) (h : Nat → Nat) (s : ST) (x1 : Int32) {o : Int32} (hs : M_isMet s x1 = some o) : MI l (KM D cA h) 2 yX10_isMet cX10_isMet 2 (some .boolean) s [.ref (h 0), .int x1] o s := by
  refine met_i (by decide) (Nat.le_of_ble_eq_true rfl) ?_
  intro p e st m args below meth c Q X RI
  unfold M_isMet at hs
  refine g_aload_n X dX10_isMet_0 (q := 1) rfl 0 rfl ?_
  refine g_iload_n X dX10_isMet_1 (q := 2) rfl 1 rfl ?_
  refine g_iconst X dX10_isMet_2 (q := 3) rfl li_i0 ?_
  refine v_ofWant X dX10_isMet_3 (q := 6) rfl (Nat.le_of_ble_eq_true rfl) (Nat.le_of_ble_eq_true rfl) (Nat.le_of_ble_eq_true rfl) hs (fun y1 hs => ?_)
  refine g_bipush X dX10_isMet_6 (q := 8) rfl li_b8 ?_
  refine g_icmp_ne X dX10_isMet_8 (q := 11) rfl (tgt := 33) (by decide) hs ?_ ?_
  · intro hs
    refine g_aload_n X dX10_isMet_33 (q := 34) rfl 0 rfl ?_
    refine g_aload_n X dX10_isMet_34 (q := 35) rfl 0 rfl ?_
    refine g_iload_n X dX10_isMet_35 (q := 36) rfl 1 rfl ?_
    refine g_iconst X dX10_isMet_36 (q := 37) rfl li_i1 ?_
    refine v_ofWant X dX10_isMet_37 (q := 40) rfl (Nat.le_of_ble_eq_true rfl) (Nat.le_of_ble_eq_true rfl) (Nat.le_of_ble_eq_true rfl) hs (fun y2 hs => ?_)
    refine v_stormOf X dX10_isMet_40 (q := 43) rfl (Nat.le_of_ble_eq_true rfl) (Nat.le_of_ble_eq_true rfl) (Nat.le_of_ble_eq_true rfl) hs (fun y3 hs => ?_)
    refine g_aload_n X dX10_isMet_43 (q := 44) rfl 0 rfl ?_
    refine g_iload_n X dX10_isMet_44 (q := 45) rfl 1 rfl ?_
    refine g_iconst X dX10_isMet_45 (q := 46) rfl li_i0 ?_
    refine v_ofWant X dX10_isMet_46 (q := 49) rfl (Nat.le_of_ble_eq_true rfl) (Nat.le_of_ble_eq_true rfl) (Nat.le_of_ble_eq_true rfl) hs (fun y4 hs => ?_)
    refine g_icmp_ne X dX10_isMet_49 (q := 52) rfl (tgt := 56) (by decide) hs ?_ ?_
    · intro hs
      refine g_iconst X dX10_isMet_56 (q := 57) rfl li_i0 ?_
      exact RI _ 57 _ _ _ rfl rfl (Option.some.inj hs) dX10_isMet_57
    · intro hs
      refine g_iconst X dX10_isMet_52 (q := 53) rfl li_i1 ?_
      refine g_goto X dX10_isMet_53 (tgt := 57) (by decide) ?_
      exact RI _ 57 _ _ _ rfl rfl (Option.some.inj hs) dX10_isMet_57
  · intro hs
    refine g_aload_n X dX10_isMet_11 (q := 12) rfl 0 rfl ?_
    refine g_aload_n X dX10_isMet_12 (q := 13) rfl 0 rfl ?_
    refine g_iload_n X dX10_isMet_13 (q := 14) rfl 1 rfl ?_
    refine g_iconst X dX10_isMet_14 (q := 15) rfl li_i1 ?_
    refine v_ofWant X dX10_isMet_15 (q := 18) rfl (Nat.le_of_ble_eq_true rfl) (Nat.le_of_ble_eq_true rfl) (Nat.le_of_ble_eq_true rfl) hs (fun y5 hs => ?_)
    refine v_stormOf X dX10_isMet_18 (q := 21) rfl (Nat.le_of_ble_eq_true rfl) (Nat.le_of_ble_eq_true rfl) (Nat.le_of_ble_eq_true rfl) hs (fun y6 hs => ?_)
    refine g_iconst X dX10_isMet_21 (q := 22) rfl li_im1 ?_
    refine g_icmp_ne X dX10_isMet_22 (q := 25) rfl (tgt := 29) (by decide) hs ?_ ?_
    · intro hs
      refine g_iconst X dX10_isMet_29 (q := 30) rfl li_i0 ?_
      refine g_goto X dX10_isMet_30 (tgt := 57) (by decide) ?_
      exact RI _ 57 _ _ _ rfl rfl (Option.some.inj hs) dX10_isMet_57
    · intro hs
      refine g_iconst X dX10_isMet_25 (q := 26) rfl li_i1 ?_
      refine g_goto X dX10_isMet_26 (tgt := 57) (by decide) ?_
      exact RI _ 57 _ _ _ rfl rfl (Option.some.inj hs) dX10_isMet_57
theorem v_isMet {p : Program} {l : Launch} {e : Env} {st : State} {m : MethodId} {args : Array Value} {below : List Frame} {meth : Method} {c : Code} {Q : State → Prop} {nL : Nat} {cc : ByteArray} {s : ST} {pc q : Nat} {lv : List (Nat × Value)} {rest : List Value} {D : va_G} {cA : ClassId} {h : Nat → Nat} {d0 : Nat} (X : Cx (KM D cA h) p st m args meth c cc nL RX10) {x1 : Int32} (d : decode cc pc = .ok (.invokevirtual 431, 3)) (hq : pc + 3 = q) (hd1 : 2 + 1 ≤ d0) (hd2 : 8 + (2 + 11) + 100 * 2 ≤ 100 * d0) (hr : (rest.map fun v => v.category).sum ≤ 8) {B : Type} {f : Int32 → Option B} {r : B} (hs : Bd (M_isMet s x1) f = some r) (k : ∀ y, f y = some r → WG (KM D cA h) p l e (rmD d0) st m args below meth c Q nL s q lv (.int y :: rest)) : WG (KM D cA h) p l e (rmD d0) st m args below meth c Q nL s pc lv (.int x1 :: .ref (h 0) :: rest) := by
  obtain ⟨v, hv, hs⟩ := Bd_e hs
  exact cV_I X 0 (n := 1) (k_isMet l D cA h s x1 hv) gv_X10_isMet ⟨hd1, hd2⟩ ⟨by decide, by decide, by decide +kernel⟩ (As := [.int x1]) rfl hr (Nat.le_of_ble_eq_true rfl) (fs := mF h (s.1 0)) rfl rfl rfl d hq (k _ hs)
theorem dX10_lastWanted_0 : decode cX10_lastWanted 0 = .ok (.iconst (-1), 1) := by decide +kernel
theorem dX10_lastWanted_1 : decode cX10_lastWanted 1 = .ok (.istore_n 1, 1) := by decide +kernel
theorem dX10_lastWanted_2 : decode cX10_lastWanted 2 = .ok (.iconst 0, 1) := by decide +kernel
theorem dX10_lastWanted_3 : decode cX10_lastWanted 3 = .ok (.istore_n 2, 1) := by decide +kernel
theorem dX10_lastWanted_4 : decode cX10_lastWanted 4 = .ok (.iload_n 2, 1) := by decide +kernel
theorem dX10_lastWanted_5 : decode cX10_lastWanted 5 = .ok (.aload_n 0, 1) := by decide +kernel
theorem dX10_lastWanted_6 : decode cX10_lastWanted 6 = .ok (.getfield 124, 3) := by decide +kernel
theorem dX10_lastWanted_9 : decode cX10_lastWanted 9 = .ok (.if_icmp .ge 21, 3) := by decide +kernel
theorem dX10_lastWanted_12 : decode cX10_lastWanted 12 = .ok (.aload_n 0, 1) := by decide +kernel
theorem dX10_lastWanted_13 : decode cX10_lastWanted 13 = .ok (.iload_n 1, 1) := by decide +kernel
theorem dX10_lastWanted_14 : decode cX10_lastWanted 14 = .ok (.aload_n 0, 1) := by decide +kernel
theorem dX10_lastWanted_15 : decode cX10_lastWanted 15 = .ok (.iload_n 2, 1) := by decide +kernel
theorem dX10_lastWanted_16 : decode cX10_lastWanted 16 = .ok (.iconst 2, 1) := by decide +kernel
theorem dX10_lastWanted_17 : decode cX10_lastWanted 17 = .ok (.invokevirtual 425, 3) := by decide +kernel
theorem dX10_lastWanted_20 : decode cX10_lastWanted 20 = .ok (.invokevirtual 363, 3) := by decide +kernel
theorem dX10_lastWanted_23 : decode cX10_lastWanted 23 = .ok (.istore_n 1, 1) := by decide +kernel
theorem dX10_lastWanted_24 : decode cX10_lastWanted 24 = .ok (.iinc 2 1, 3) := by decide +kernel
theorem dX10_lastWanted_27 : decode cX10_lastWanted 27 = .ok (.goto (-23), 3) := by decide +kernel
theorem dX10_lastWanted_30 : decode cX10_lastWanted 30 = .ok (.iload_n 1, 1) := by decide +kernel
theorem dX10_lastWanted_31 : decode cX10_lastWanted 31 = .ok (.ireturn, 1) := by decide +kernel
def M_lastWanted (s : ST) : Option (Int32) := lpK2 (C := Int32) (fun (rec1 : Int32 → Int32 → Option (Int32)) (a1 : Int32) (a2 : Int32) => if (s.1 0 40) ≤ a2 then (some a1) else (Bd (M_ofWant s a2 (2 : Int32)) fun y1 => Lt (M_greater s a1 y1) fun y2 => rec1 y2 (a2 + (1 : Int32)))) FU (-1 : Int32) (0 : Int32)
set_option maxRecDepth 100000 in
set_option maxHeartbeats 4000000 in
theorem k_lastWanted (l : Launch) (D : va_G) (cA : ClassId) (h : Nat → Nat) (s : ST) {o : Int32} (hs : M_lastWanted s = some o) : MI l (KM D cA h) 2 yX10_lastWanted cX10_lastWanted 3 (some .int) s [.ref (h 0)] o s := by
  refine met_i (by decide) (Nat.le_of_ble_eq_true rfl) ?_
  intro p e st m args below meth c Q X RI
  unfold M_lastWanted at hs
  refine g_iconst X dX10_lastWanted_0 (q := 1) rfl li_im1 ?_
  refine g_istore_n X dX10_lastWanted_1 (q := 2) rfl (Nat.le_of_ble_eq_true rfl) (lv' := [(1, .int (-1 : Int32)), (0, .ref (h 0))]) rfl ?_
  refine g_iconst X dX10_lastWanted_2 (q := 3) rfl li_i0 ?_
  refine g_istore_n X dX10_lastWanted_3 (q := 4) rfl (Nat.le_of_ble_eq_true rfl) (lv' := [(2, .int (0 : Int32)), (1, .int (-1 : Int32)), (0, .ref (h 0))]) rfl ?_
  refine wg_sub [2, 1, 0] rfl (lpW2 (fun (a1 : Int32) (a2 : Int32) => WG (KM D cA h) p l e (rmD 2) st m args below meth c Q 3 s 4 [(0, .ref (h 0)), (1, .int a1), (2, .int a2)] []) (fun rec1 ih1 a1 a2 hs => ?_) _ _ _ hs)
  refine g_iload_n X dX10_lastWanted_4 (q := 5) rfl 2 rfl ?_
  refine g_aload_n X dX10_lastWanted_5 (q := 6) rfl 0 rfl ?_
  refine mg_40 X dX10_lastWanted_6 (q := 9) rfl ?_
  refine g_icmp_ge X dX10_lastWanted_9 (q := 12) rfl (tgt := 30) (by decide) hs ?_ ?_
  · intro hs
    refine g_iload_n X dX10_lastWanted_30 (q := 31) rfl 1 rfl ?_
    exact RI _ 31 _ _ _ rfl rfl (Option.some.inj hs) dX10_lastWanted_31
  · intro hs
    refine g_aload_n X dX10_lastWanted_12 (q := 13) rfl 0 rfl ?_
    refine g_iload_n X dX10_lastWanted_13 (q := 14) rfl 1 rfl ?_
    refine g_aload_n X dX10_lastWanted_14 (q := 15) rfl 0 rfl ?_
    refine g_iload_n X dX10_lastWanted_15 (q := 16) rfl 2 rfl ?_
    refine g_iconst X dX10_lastWanted_16 (q := 17) rfl li_i2 ?_
    refine v_ofWant X dX10_lastWanted_17 (q := 20) rfl (Nat.le_of_ble_eq_true rfl) (Nat.le_of_ble_eq_true rfl) (Nat.le_of_ble_eq_true rfl) hs (fun y1 hs => ?_)
    refine v_greater X dX10_lastWanted_20 (q := 23) rfl (Nat.le_of_ble_eq_true rfl) (Nat.le_of_ble_eq_true rfl) (Nat.le_of_ble_eq_true rfl) hs (fun y2 hs => ?_)
    refine g_istore_n X dX10_lastWanted_23 (q := 24) rfl (Nat.le_of_ble_eq_true rfl) (lv' := [(1, .int y2), (0, .ref (h 0)), (2, .int a2)]) rfl ?_
    refine g_iinc X dX10_lastWanted_24 (q := 27) rfl 2 rfl (v := (a2 + (1 : Int32))) (congrArg (HAdd.hAdd a2) li_i1) (Nat.le_of_ble_eq_true rfl) (lv' := [(2, .int (a2 + (1 : Int32))), (1, .int y2), (0, .ref (h 0))]) rfl ?_
    refine g_goto X dX10_lastWanted_27 (tgt := 4) (by decide) ?_
    exact wg_sub [2, 1, 0] rfl (ih1 _ _ hs)
theorem v_lastWanted {p : Program} {l : Launch} {e : Env} {st : State} {m : MethodId} {args : Array Value} {below : List Frame} {meth : Method} {c : Code} {Q : State → Prop} {nL : Nat} {cc : ByteArray} {s : ST} {pc q : Nat} {lv : List (Nat × Value)} {rest : List Value} {D : va_G} {cA : ClassId} {h : Nat → Nat} {d0 : Nat} (X : Cx (KM D cA h) p st m args meth c cc nL RX10) (d : decode cc pc = .ok (.invokevirtual 428, 3)) (hq : pc + 3 = q) (hd1 : 2 + 1 ≤ d0) (hd2 : 8 + (3 + 11) + 100 * 2 ≤ 100 * d0) (hr : (rest.map fun v => v.category).sum ≤ 8) {B : Type} {f : Int32 → Option B} {r : B} (hs : Bd (M_lastWanted s) f = some r) (k : ∀ y, f y = some r → WG (KM D cA h) p l e (rmD d0) st m args below meth c Q nL s q lv (.int y :: rest)) : WG (KM D cA h) p l e (rmD d0) st m args below meth c Q nL s pc lv (.ref (h 0) :: rest) := by
  obtain ⟨v, hv, hs⟩ := Bd_e hs
  exact cV_I X 0 (n := 0) (k_lastWanted l D cA h s hv) gv_X10_lastWanted ⟨hd1, hd2⟩ ⟨by decide, by decide, by decide +kernel⟩ (As := []) rfl hr (Nat.le_of_ble_eq_true rfl) (fs := mF h (s.1 0)) rfl rfl rfl d hq (k _ hs)
