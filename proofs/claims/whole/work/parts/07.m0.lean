theorem dX10_isIn_0 : decode cX10_isIn 0 = .ok (.iload_n 1, 1) := by decide +kernel
theorem dX10_isIn_1 : decode cX10_isIn 1 = .ok (.iload_n 2, 1) := by decide +kernel
theorem dX10_isIn_2 : decode cX10_isIn 2 = .ok (.if_icmp .lt 12, 3) := by decide +kernel
theorem dX10_isIn_5 : decode cX10_isIn 5 = .ok (.iload_n 1, 1) := by decide +kernel
theorem dX10_isIn_6 : decode cX10_isIn 6 = .ok (.iload_n 3, 1) := by decide +kernel
theorem dX10_isIn_7 : decode cX10_isIn 7 = .ok (.if_icmp .gt 7, 3) := by decide +kernel
theorem dX10_isIn_10 : decode cX10_isIn 10 = .ok (.iconst 1, 1) := by decide +kernel
theorem dX10_isIn_11 : decode cX10_isIn 11 = .ok (.goto 4, 3) := by decide +kernel
theorem dX10_isIn_14 : decode cX10_isIn 14 = .ok (.iconst 0, 1) := by decide +kernel
theorem dX10_isIn_15 : decode cX10_isIn 15 = .ok (.ireturn, 1) := by decide +kernel
def M_isIn (s : ST) (x1 : Int32) (x2 : Int32) (x3 : Int32) : Int32 := if x1 < x2 then ((0 : Int32)) else (if x3 < x1 then ((0 : Int32)) else ((1 : Int32)))
set_option maxRecDepth 100000 in
set_option maxHeartbeats 4000000 in
theorem k_isIn (l : Launch) (D : va_G) (cA : ClassId) (h : Nat → Nat) (s : ST) (x1 : Int32) (x2 : Int32) (x3 : Int32) : MI l (KM D cA h) 1 yX10_isIn cX10_isIn 4 (some .boolean) s [.ref (h 0), .int x1, .int x2, .int x3] (M_isIn s x1 x2 x3) s := by
  refine met_i (by decide) (Nat.le_of_ble_eq_true rfl) ?_
  intro p e st m args below meth c Q X RI
  generalize hs : M_isIn s x1 x2 x3 = o at RI
  unfold M_isIn at hs
  refine g_iload_n X dX10_isIn_0 (q := 1) rfl 1 rfl ?_
  refine g_iload_n X dX10_isIn_1 (q := 2) rfl 2 rfl ?_
  refine g_icmp_lt X dX10_isIn_2 (q := 5) rfl (tgt := 14) (by decide) hs ?_ ?_
  · intro hs
    refine g_iconst X dX10_isIn_14 (q := 15) rfl li_i0 ?_
    exact RI _ 15 _ _ _ rfl rfl hs dX10_isIn_15
  · intro hs
    refine g_iload_n X dX10_isIn_5 (q := 6) rfl 1 rfl ?_
    refine g_iload_n X dX10_isIn_6 (q := 7) rfl 3 rfl ?_
    refine g_icmp_gt X dX10_isIn_7 (q := 10) rfl (tgt := 14) (by decide) hs ?_ ?_
    · intro hs
      refine g_iconst X dX10_isIn_14 (q := 15) rfl li_i0 ?_
      exact RI _ 15 _ _ _ rfl rfl hs dX10_isIn_15
    · intro hs
      refine g_iconst X dX10_isIn_10 (q := 11) rfl li_i1 ?_
      refine g_goto X dX10_isIn_11 (tgt := 15) (by decide) ?_
      exact RI _ 15 _ _ _ rfl rfl hs dX10_isIn_15
theorem v_isIn {p : Program} {l : Launch} {e : Env} {st : State} {m : MethodId} {args : Array Value} {below : List Frame} {meth : Method} {c : Code} {Q : State → Prop} {nL : Nat} {cc : ByteArray} {s : ST} {pc q : Nat} {lv : List (Nat × Value)} {rest : List Value} {D : va_G} {cA : ClassId} {h : Nat → Nat} {d0 : Nat} (X : Cx (KM D cA h) p st m args meth c cc nL RX10) {x1 : Int32} {x2 : Int32} {x3 : Int32} (d : decode cc pc = .ok (.invokevirtual 111, 3)) (hq : pc + 3 = q) (hd1 : 1 + 1 ≤ d0) (hd2 : 8 + (4 + 11) + 100 * 1 ≤ 100 * d0) (hr : (rest.map fun v => v.category).sum ≤ 8) {B : Type} {f : Int32 → B} {r : B} (hs : Lt (M_isIn s x1 x2 x3) f = r) (k : ∀ y, f y = r → WG (KM D cA h) p l e (rmD d0) st m args below meth c Q nL s q lv (.int y :: rest)) : WG (KM D cA h) p l e (rmD d0) st m args below meth c Q nL s pc lv (.int x3 :: .int x2 :: .int x1 :: .ref (h 0) :: rest) := by
  exact cV_I X 0 (n := 3) (k_isIn l D cA h s x1 x2 x3) gv_X10_isIn ⟨hd1, hd2⟩ ⟨by decide, by decide, by decide +kernel⟩ (As := [.int x1, .int x2, .int x3]) rfl hr (Nat.le_of_ble_eq_true rfl) (fs := mF h (s.1 0)) rfl rfl rfl d hq (k _ hs)
theorem dX10_held_0 : decode cX10_held 0 = .ok (.iload_n 1, 1) := by decide +kernel
theorem dX10_held_1 : decode cX10_held 1 = .ok (.iload_n 2, 1) := by decide +kernel
theorem dX10_held_2 : decode cX10_held 2 = .ok (.if_icmp .ge 7, 3) := by decide +kernel
theorem dX10_held_5 : decode cX10_held 5 = .ok (.iload_n 2, 1) := by decide +kernel
theorem dX10_held_6 : decode cX10_held 6 = .ok (.goto 13, 3) := by decide +kernel
theorem dX10_held_9 : decode cX10_held 9 = .ok (.iload_n 1, 1) := by decide +kernel
theorem dX10_held_10 : decode cX10_held 10 = .ok (.iload_n 3, 1) := by decide +kernel
theorem dX10_held_11 : decode cX10_held 11 = .ok (.if_icmp .le 7, 3) := by decide +kernel
theorem dX10_held_14 : decode cX10_held 14 = .ok (.iload_n 3, 1) := by decide +kernel
theorem dX10_held_15 : decode cX10_held 15 = .ok (.goto 4, 3) := by decide +kernel
theorem dX10_held_18 : decode cX10_held 18 = .ok (.iload_n 1, 1) := by decide +kernel
theorem dX10_held_19 : decode cX10_held 19 = .ok (.ireturn, 1) := by decide +kernel
def M_held (s : ST) (x1 : Int32) (x2 : Int32) (x3 : Int32) : Int32 := if x2 ≤ x1 then (if x1 ≤ x3 then (x1) else (x3)) else (x2)
set_option maxRecDepth 100000 in
set_option maxHeartbeats 4000000 in
theorem k_held (l : Launch) (D : va_G) (cA : ClassId) (h : Nat → Nat) (s : ST) (x1 : Int32) (x2 : Int32) (x3 : Int32) : MI l (KM D cA h) 1 yX10_held cX10_held 4 (some .int) s [.ref (h 0), .int x1, .int x2, .int x3] (M_held s x1 x2 x3) s := by
  refine met_i (by decide) (Nat.le_of_ble_eq_true rfl) ?_
  intro p e st m args below meth c Q X RI
  generalize hs : M_held s x1 x2 x3 = o at RI
  unfold M_held at hs
  refine g_iload_n X dX10_held_0 (q := 1) rfl 1 rfl ?_
  refine g_iload_n X dX10_held_1 (q := 2) rfl 2 rfl ?_
  refine g_icmp_ge X dX10_held_2 (q := 5) rfl (tgt := 9) (by decide) hs ?_ ?_
  · intro hs
    refine g_iload_n X dX10_held_9 (q := 10) rfl 1 rfl ?_
    refine g_iload_n X dX10_held_10 (q := 11) rfl 3 rfl ?_
    refine g_icmp_le X dX10_held_11 (q := 14) rfl (tgt := 18) (by decide) hs ?_ ?_
    · intro hs
      refine g_iload_n X dX10_held_18 (q := 19) rfl 1 rfl ?_
      exact RI _ 19 _ _ _ rfl rfl hs dX10_held_19
    · intro hs
      refine g_iload_n X dX10_held_14 (q := 15) rfl 3 rfl ?_
      refine g_goto X dX10_held_15 (tgt := 19) (by decide) ?_
      exact RI _ 19 _ _ _ rfl rfl hs dX10_held_19
  · intro hs
    refine g_iload_n X dX10_held_5 (q := 6) rfl 2 rfl ?_
    refine g_goto X dX10_held_6 (tgt := 19) (by decide) ?_
    exact RI _ 19 _ _ _ rfl rfl hs dX10_held_19
theorem v_held {p : Program} {l : Launch} {e : Env} {st : State} {m : MethodId} {args : Array Value} {below : List Frame} {meth : Method} {c : Code} {Q : State → Prop} {nL : Nat} {cc : ByteArray} {s : ST} {pc q : Nat} {lv : List (Nat × Value)} {rest : List Value} {D : va_G} {cA : ClassId} {h : Nat → Nat} {d0 : Nat} (X : Cx (KM D cA h) p st m args meth c cc nL RX10) {x1 : Int32} {x2 : Int32} {x3 : Int32} (d : decode cc pc = .ok (.invokevirtual 327, 3)) (hq : pc + 3 = q) (hd1 : 1 + 1 ≤ d0) (hd2 : 8 + (4 + 11) + 100 * 1 ≤ 100 * d0) (hr : (rest.map fun v => v.category).sum ≤ 8) {B : Type} {f : Int32 → B} {r : B} (hs : Lt (M_held s x1 x2 x3) f = r) (k : ∀ y, f y = r → WG (KM D cA h) p l e (rmD d0) st m args below meth c Q nL s q lv (.int y :: rest)) : WG (KM D cA h) p l e (rmD d0) st m args below meth c Q nL s pc lv (.int x3 :: .int x2 :: .int x1 :: .ref (h 0) :: rest) := by
  exact cV_I X 0 (n := 3) (k_held l D cA h s x1 x2 x3) gv_X10_held ⟨hd1, hd2⟩ ⟨by decide, by decide, by decide +kernel⟩ (As := [.int x1, .int x2, .int x3]) rfl hr (Nat.le_of_ble_eq_true rfl) (fs := mF h (s.1 0)) rfl rfl rfl d hq (k _ hs)
theorem dX10_greater_0 : decode cX10_greater 0 = .ok (.iload_n 1, 1) := by decide +kernel
theorem dX10_greater_1 : decode cX10_greater 1 = .ok (.iload_n 2, 1) := by decide +kernel
theorem dX10_greater_2 : decode cX10_greater 2 = .ok (.if_icmp .le 7, 3) := by decide +kernel
theorem dX10_greater_5 : decode cX10_greater 5 = .ok (.iload_n 1, 1) := by decide +kernel
theorem dX10_greater_6 : decode cX10_greater 6 = .ok (.goto 4, 3) := by decide +kernel
theorem dX10_greater_9 : decode cX10_greater 9 = .ok (.iload_n 2, 1) := by decide +kernel
theorem dX10_greater_10 : decode cX10_greater 10 = .ok (.ireturn, 1) := by decide +kernel
def M_greater (s : ST) (x1 : Int32) (x2 : Int32) : Int32 := if x1 ≤ x2 then (x2) else (x1)
set_option maxRecDepth 100000 in
set_option maxHeartbeats 4000000 in
theorem k_greater (l : Launch) (D : va_G) (cA : ClassId) (h : Nat → Nat) (s : ST) (x1 : Int32) (x2 : Int32) : MI l (KM D cA h) 1 yX10_greater cX10_greater 3 (some .int) s [.ref (h 0), .int x1, .int x2] (M_greater s x1 x2) s := by
  refine met_i (by decide) (Nat.le_of_ble_eq_true rfl) ?_
  intro p e st m args below meth c Q X RI
  generalize hs : M_greater s x1 x2 = o at RI
  unfold M_greater at hs
  refine g_iload_n X dX10_greater_0 (q := 1) rfl 1 rfl ?_
  refine g_iload_n X dX10_greater_1 (q := 2) rfl 2 rfl ?_
  refine g_icmp_le X dX10_greater_2 (q := 5) rfl (tgt := 9) (by decide) hs ?_ ?_
  · intro hs
    refine g_iload_n X dX10_greater_9 (q := 10) rfl 2 rfl ?_
    exact RI _ 10 _ _ _ rfl rfl hs dX10_greater_10
  · intro hs
    refine g_iload_n X dX10_greater_5 (q := 6) rfl 1 rfl ?_
    refine g_goto X dX10_greater_6 (tgt := 10) (by decide) ?_
    exact RI _ 10 _ _ _ rfl rfl hs dX10_greater_10
theorem v_greater {p : Program} {l : Launch} {e : Env} {st : State} {m : MethodId} {args : Array Value} {below : List Frame} {meth : Method} {c : Code} {Q : State → Prop} {nL : Nat} {cc : ByteArray} {s : ST} {pc q : Nat} {lv : List (Nat × Value)} {rest : List Value} {D : va_G} {cA : ClassId} {h : Nat → Nat} {d0 : Nat} (X : Cx (KM D cA h) p st m args meth c cc nL RX10) {x1 : Int32} {x2 : Int32} (d : decode cc pc = .ok (.invokevirtual 363, 3)) (hq : pc + 3 = q) (hd1 : 1 + 1 ≤ d0) (hd2 : 8 + (3 + 11) + 100 * 1 ≤ 100 * d0) (hr : (rest.map fun v => v.category).sum ≤ 8) {B : Type} {f : Int32 → B} {r : B} (hs : Lt (M_greater s x1 x2) f = r) (k : ∀ y, f y = r → WG (KM D cA h) p l e (rmD d0) st m args below meth c Q nL s q lv (.int y :: rest)) : WG (KM D cA h) p l e (rmD d0) st m args below meth c Q nL s pc lv (.int x2 :: .int x1 :: .ref (h 0) :: rest) := by
  exact cV_I X 0 (n := 2) (k_greater l D cA h s x1 x2) gv_X10_greater ⟨hd1, hd2⟩ ⟨by decide, by decide, by decide +kernel⟩ (As := [.int x1, .int x2]) rfl hr (Nat.le_of_ble_eq_true rfl) (fs := mF h (s.1 0)) rfl rfl rfl d hq (k _ hs)
theorem dX10_onesOf_0 : decode cX10_onesOf 0 = .ok (.iconst 0, 1) := by decide +kernel
theorem dX10_onesOf_1 : decode cX10_onesOf 1 = .ok (.istore_n 2, 1) := by decide +kernel
theorem dX10_onesOf_2 : decode cX10_onesOf 2 = .ok (.iload_n 1, 1) := by decide +kernel
theorem dX10_onesOf_3 : decode cX10_onesOf 3 = .ok (.istore_n 3, 1) := by decide +kernel
theorem dX10_onesOf_4 : decode cX10_onesOf 4 = .ok (.iload_n 3, 1) := by decide +kernel
theorem dX10_onesOf_5 : decode cX10_onesOf 5 = .ok (.ifCond .eq 16, 3) := by decide +kernel
theorem dX10_onesOf_8 : decode cX10_onesOf 8 = .ok (.iload_n 2, 1) := by decide +kernel
theorem dX10_onesOf_9 : decode cX10_onesOf 9 = .ok (.iconst 1, 1) := by decide +kernel
theorem dX10_onesOf_10 : decode cX10_onesOf 10 = .ok (.iadd, 1) := by decide +kernel
theorem dX10_onesOf_11 : decode cX10_onesOf 11 = .ok (.istore_n 2, 1) := by decide +kernel
theorem dX10_onesOf_12 : decode cX10_onesOf 12 = .ok (.iload_n 3, 1) := by decide +kernel
theorem dX10_onesOf_13 : decode cX10_onesOf 13 = .ok (.iload_n 3, 1) := by decide +kernel
theorem dX10_onesOf_14 : decode cX10_onesOf 14 = .ok (.iconst 1, 1) := by decide +kernel
theorem dX10_onesOf_15 : decode cX10_onesOf 15 = .ok (.isub, 1) := by decide +kernel
theorem dX10_onesOf_16 : decode cX10_onesOf 16 = .ok (.iand, 1) := by decide +kernel
theorem dX10_onesOf_17 : decode cX10_onesOf 17 = .ok (.istore_n 3, 1) := by decide +kernel
theorem dX10_onesOf_18 : decode cX10_onesOf 18 = .ok (.goto (-14), 3) := by decide +kernel
theorem dX10_onesOf_21 : decode cX10_onesOf 21 = .ok (.iload_n 2, 1) := by decide +kernel
theorem dX10_onesOf_22 : decode cX10_onesOf 22 = .ok (.ireturn, 1) := by decide +kernel
def M_onesOf (s : ST) (x1 : Int32) : Option (Int32) := lpK2 (C := Int32) (fun (rec1 : Int32 → Int32 → Option (Int32)) (a1 : Int32) (a2 : Int32) => if a2 = 0 then (some a1) else (Lt ((a1 + (1 : Int32))) fun y1 => Lt ((a2 &&& (a2 - (1 : Int32)))) fun y2 => rec1 y1 y2)) FU (0 : Int32) x1
set_option maxRecDepth 100000 in
set_option maxHeartbeats 4000000 in
theorem k_onesOf (l : Launch) (D : va_G) (cA : ClassId) (h : Nat → Nat) (s : ST) (x1 : Int32) {o : Int32} (hs : M_onesOf s x1 = some o) : MI l (KM D cA h) 1 yX10_onesOf cX10_onesOf 4 (some .int) s [.ref (h 0), .int x1] o s := by
  refine met_i (by decide) (Nat.le_of_ble_eq_true rfl) ?_
  intro p e st m args below meth c Q X RI
  unfold M_onesOf at hs
  refine g_iconst X dX10_onesOf_0 (q := 1) rfl li_i0 ?_
  refine g_istore_n X dX10_onesOf_1 (q := 2) rfl (Nat.le_of_ble_eq_true rfl) (lv' := [(2, .int (0 : Int32)), (0, .ref (h 0)), (1, .int x1)]) rfl ?_
  refine g_iload_n X dX10_onesOf_2 (q := 3) rfl 2 rfl ?_
  refine g_istore_n X dX10_onesOf_3 (q := 4) rfl (Nat.le_of_ble_eq_true rfl) (lv' := [(3, .int x1), (2, .int (0 : Int32)), (0, .ref (h 0)), (1, .int x1)]) rfl ?_
  refine wg_sub [1, 0] rfl (lpW2 (fun (a1 : Int32) (a2 : Int32) => WG (KM D cA h) p l e (rmD 1) st m args below meth c Q 4 s 4 [(2, .int a1), (3, .int a2)] []) (fun rec1 ih1 a1 a2 hs => ?_) _ _ _ hs)
  refine g_iload_n X dX10_onesOf_4 (q := 5) rfl 1 rfl ?_
  refine g_if_eq X dX10_onesOf_5 (q := 8) rfl (tgt := 21) (by decide) hs ?_ ?_
  · intro hs
    refine g_iload_n X dX10_onesOf_21 (q := 22) rfl 0 rfl ?_
    exact RI _ 22 _ _ _ rfl rfl (Option.some.inj hs) dX10_onesOf_22
  · intro hs
    refine g_iload_n X dX10_onesOf_8 (q := 9) rfl 0 rfl ?_
    refine g_iconst X dX10_onesOf_9 (q := 10) rfl li_i1 ?_
    refine g_iadd X dX10_onesOf_10 (q := 11) rfl ?_
    refine nmI hs (fun y1 hs => ?_)
    refine g_istore_n X dX10_onesOf_11 (q := 12) rfl (Nat.le_of_ble_eq_true rfl) (lv' := [(2, .int y1), (3, .int a2)]) rfl ?_
    refine g_iload_n X dX10_onesOf_12 (q := 13) rfl 1 rfl ?_
    refine g_iload_n X dX10_onesOf_13 (q := 14) rfl 1 rfl ?_
    refine g_iconst X dX10_onesOf_14 (q := 15) rfl li_i1 ?_
    refine g_isub X dX10_onesOf_15 (q := 16) rfl ?_
    refine g_iand X dX10_onesOf_16 (q := 17) rfl ?_
    refine nmI hs (fun y2 hs => ?_)
    refine g_istore_n X dX10_onesOf_17 (q := 18) rfl (Nat.le_of_ble_eq_true rfl) (lv' := [(3, .int y2), (2, .int y1)]) rfl ?_
    refine g_goto X dX10_onesOf_18 (tgt := 4) (by decide) ?_
    exact wg_sub [1, 0] rfl (ih1 _ _ hs)
theorem v_onesOf {p : Program} {l : Launch} {e : Env} {st : State} {m : MethodId} {args : Array Value} {below : List Frame} {meth : Method} {c : Code} {Q : State → Prop} {nL : Nat} {cc : ByteArray} {s : ST} {pc q : Nat} {lv : List (Nat × Value)} {rest : List Value} {D : va_G} {cA : ClassId} {h : Nat → Nat} {d0 : Nat} (X : Cx (KM D cA h) p st m args meth c cc nL RX10) {x1 : Int32} (d : decode cc pc = .ok (.invokevirtual 444, 3)) (hq : pc + 3 = q) (hd1 : 1 + 1 ≤ d0) (hd2 : 8 + (4 + 11) + 100 * 1 ≤ 100 * d0) (hr : (rest.map fun v => v.category).sum ≤ 8) {B : Type} {f : Int32 → Option B} {r : B} (hs : Bd (M_onesOf s x1) f = some r) (k : ∀ y, f y = some r → WG (KM D cA h) p l e (rmD d0) st m args below meth c Q nL s q lv (.int y :: rest)) : WG (KM D cA h) p l e (rmD d0) st m args below meth c Q nL s pc lv (.int x1 :: .ref (h 0) :: rest) := by
  obtain ⟨v, hv, hs⟩ := Bd_e hs
  exact cV_I X 0 (n := 1) (k_onesOf l D cA h s x1 hv) gv_X10_onesOf ⟨hd1, hd2⟩ ⟨by decide, by decide, by decide +kernel⟩ (As := [.int x1]) rfl hr (Nat.le_of_ble_eq_true rfl) (fs := mF h (s.1 0)) rfl rfl rfl d hq (k _ hs)
theorem dX10_bit_0 : decode cX10_bit 0 = .ok (.lconst 1, 1) := by decide +kernel
theorem dX10_bit_1 : decode cX10_bit 1 = .ok (.iload_n 1, 1) := by decide +kernel
theorem dX10_bit_2 : decode cX10_bit 2 = .ok (.lshl, 1) := by decide +kernel
theorem dX10_bit_3 : decode cX10_bit 3 = .ok (.lreturn, 1) := by decide +kernel
def M_bit (s : ST) (x1 : Int32) : Int64 := ((1 : Int64) <<< (x1.toInt64 &&& 63))
set_option maxRecDepth 100000 in
set_option maxHeartbeats 4000000 in
theorem k_bit (l : Launch) (D : va_G) (cA : ClassId) (h : Nat → Nat) (s : ST) (x1 : Int32) : ML l (KM D cA h) 1 yX10_bit cX10_bit 2 (some .long) s [.ref (h 0), .int x1] (M_bit s x1) s := by
  refine met_l (by decide) (Nat.le_of_ble_eq_true rfl) ?_
  intro p e st m args below meth c Q X RI
  generalize hs : M_bit s x1 = o at RI
  unfold M_bit at hs
  refine g_lconst X dX10_bit_0 (q := 1) rfl li_l1 ?_
  refine g_iload_n X dX10_bit_1 (q := 2) rfl 1 rfl ?_
  refine g_lshl X dX10_bit_2 (q := 3) rfl ?_
  exact RI _ 3 _ _ rfl hs dX10_bit_3
theorem v_bit {p : Program} {l : Launch} {e : Env} {st : State} {m : MethodId} {args : Array Value} {below : List Frame} {meth : Method} {c : Code} {Q : State → Prop} {nL : Nat} {cc : ByteArray} {s : ST} {pc q : Nat} {lv : List (Nat × Value)} {rest : List Value} {D : va_G} {cA : ClassId} {h : Nat → Nat} {d0 : Nat} (X : Cx (KM D cA h) p st m args meth c cc nL RX10) {x1 : Int32} (d : decode cc pc = .ok (.invokevirtual 406, 3)) (hq : pc + 3 = q) (hd1 : 1 + 1 ≤ d0) (hd2 : 8 + (2 + 11) + 100 * 1 ≤ 100 * d0) (hr : (rest.map fun v => v.category).sum ≤ 8) {B : Type} {f : Int64 → B} {r : B} (hs : Lt (M_bit s x1) f = r) (k : ∀ y, f y = r → WG (KM D cA h) p l e (rmD d0) st m args below meth c Q nL s q lv (.long y :: rest)) : WG (KM D cA h) p l e (rmD d0) st m args below meth c Q nL s pc lv (.int x1 :: .ref (h 0) :: rest) := by
  exact cV_L X 0 (n := 1) (k_bit l D cA h s x1) gv_X10_bit ⟨hd1, hd2⟩ ⟨by decide, by decide, by decide +kernel⟩ (As := [.int x1]) rfl hr (Nat.le_of_ble_eq_true rfl) (fs := mF h (s.1 0)) rfl rfl rfl d hq (k _ hs)
theorem dX10_keepsAhead_0 : decode cX10_keepsAhead 0 = .ok (.aload_n 0, 1) := by decide +kernel
theorem dX10_keepsAhead_1 : decode cX10_keepsAhead 1 = .ok (.getfield 86, 3) := by decide +kernel
theorem dX10_keepsAhead_4 : decode cX10_keepsAhead 4 = .ok (.bipush 6, 2) := by decide +kernel
theorem dX10_keepsAhead_6 : decode cX10_keepsAhead 6 = .ok (.if_icmp .ne 49, 3) := by decide +kernel
theorem dX10_keepsAhead_9 : decode cX10_keepsAhead 9 = .ok (.aload_n 0, 1) := by decide +kernel
theorem dX10_keepsAhead_10 : decode cX10_keepsAhead 10 = .ok (.aload_n 0, 1) := by decide +kernel
theorem dX10_keepsAhead_11 : decode cX10_keepsAhead 11 = .ok (.getfield 86, 3) := by decide +kernel
theorem dX10_keepsAhead_14 : decode cX10_keepsAhead 14 = .ok (.iconst 1, 1) := by decide +kernel
theorem dX10_keepsAhead_15 : decode cX10_keepsAhead 15 = .ok (.isub, 1) := by decide +kernel
theorem dX10_keepsAhead_16 : decode cX10_keepsAhead 16 = .ok (.putfield 86, 3) := by decide +kernel
theorem dX10_keepsAhead_19 : decode cX10_keepsAhead 19 = .ok (.iconst 0, 1) := by decide +kernel
theorem dX10_keepsAhead_20 : decode cX10_keepsAhead 20 = .ok (.istore_n 1, 1) := by decide +kernel
theorem dX10_keepsAhead_21 : decode cX10_keepsAhead 21 = .ok (.iload_n 1, 1) := by decide +kernel
theorem dX10_keepsAhead_22 : decode cX10_keepsAhead 22 = .ok (.sipush 389, 3) := by decide +kernel
theorem dX10_keepsAhead_25 : decode cX10_keepsAhead 25 = .ok (.aload_n 0, 1) := by decide +kernel
theorem dX10_keepsAhead_26 : decode cX10_keepsAhead 26 = .ok (.getfield 86, 3) := by decide +kernel
theorem dX10_keepsAhead_29 : decode cX10_keepsAhead 29 = .ok (.imul, 1) := by decide +kernel
theorem dX10_keepsAhead_30 : decode cX10_keepsAhead 30 = .ok (.if_icmp .ge 25, 3) := by decide +kernel
theorem dX10_keepsAhead_33 : decode cX10_keepsAhead 33 = .ok (.aload_n 0, 1) := by decide +kernel
theorem dX10_keepsAhead_34 : decode cX10_keepsAhead 34 = .ok (.getfield 13, 3) := by decide +kernel
theorem dX10_keepsAhead_37 : decode cX10_keepsAhead 37 = .ok (.iload_n 1, 1) := by decide +kernel
theorem dX10_keepsAhead_38 : decode cX10_keepsAhead 38 = .ok (.aload_n 0, 1) := by decide +kernel
theorem dX10_keepsAhead_39 : decode cX10_keepsAhead 39 = .ok (.getfield 13, 3) := by decide +kernel
theorem dX10_keepsAhead_42 : decode cX10_keepsAhead 42 = .ok (.iload_n 1, 1) := by decide +kernel
theorem dX10_keepsAhead_43 : decode cX10_keepsAhead 43 = .ok (.sipush 389, 3) := by decide +kernel
theorem dX10_keepsAhead_46 : decode cX10_keepsAhead 46 = .ok (.iadd, 1) := by decide +kernel
theorem dX10_keepsAhead_47 : decode cX10_keepsAhead 47 = .ok (.iaload, 1) := by decide +kernel
theorem dX10_keepsAhead_48 : decode cX10_keepsAhead 48 = .ok (.iastore, 1) := by decide +kernel
theorem dX10_keepsAhead_49 : decode cX10_keepsAhead 49 = .ok (.iinc 1 1, 3) := by decide +kernel
theorem dX10_keepsAhead_52 : decode cX10_keepsAhead 52 = .ok (.goto (-31), 3) := by decide +kernel
theorem dX10_keepsAhead_55 : decode cX10_keepsAhead 55 = .ok (.iconst 0, 1) := by decide +kernel
theorem dX10_keepsAhead_56 : decode cX10_keepsAhead 56 = .ok (.istore_n 1, 1) := by decide +kernel
theorem dX10_keepsAhead_57 : decode cX10_keepsAhead 57 = .ok (.iload_n 1, 1) := by decide +kernel
theorem dX10_keepsAhead_58 : decode cX10_keepsAhead 58 = .ok (.sipush 389, 3) := by decide +kernel
theorem dX10_keepsAhead_61 : decode cX10_keepsAhead 61 = .ok (.if_icmp .ge 30, 3) := by decide +kernel
theorem dX10_keepsAhead_64 : decode cX10_keepsAhead 64 = .ok (.aload_n 0, 1) := by decide +kernel
theorem dX10_keepsAhead_65 : decode cX10_keepsAhead 65 = .ok (.getfield 13, 3) := by decide +kernel
theorem dX10_keepsAhead_68 : decode cX10_keepsAhead 68 = .ok (.sipush 389, 3) := by decide +kernel
theorem dX10_keepsAhead_71 : decode cX10_keepsAhead 71 = .ok (.aload_n 0, 1) := by decide +kernel
theorem dX10_keepsAhead_72 : decode cX10_keepsAhead 72 = .ok (.getfield 86, 3) := by decide +kernel
theorem dX10_keepsAhead_75 : decode cX10_keepsAhead 75 = .ok (.imul, 1) := by decide +kernel
theorem dX10_keepsAhead_76 : decode cX10_keepsAhead 76 = .ok (.iload_n 1, 1) := by decide +kernel
theorem dX10_keepsAhead_77 : decode cX10_keepsAhead 77 = .ok (.iadd, 1) := by decide +kernel
theorem dX10_keepsAhead_78 : decode cX10_keepsAhead 78 = .ok (.aload_n 0, 1) := by decide +kernel
theorem dX10_keepsAhead_79 : decode cX10_keepsAhead 79 = .ok (.getfield 7, 3) := by decide +kernel
theorem dX10_keepsAhead_82 : decode cX10_keepsAhead 82 = .ok (.iload_n 1, 1) := by decide +kernel
theorem dX10_keepsAhead_83 : decode cX10_keepsAhead 83 = .ok (.iaload, 1) := by decide +kernel
theorem dX10_keepsAhead_84 : decode cX10_keepsAhead 84 = .ok (.iastore, 1) := by decide +kernel
theorem dX10_keepsAhead_85 : decode cX10_keepsAhead 85 = .ok (.iinc 1 1, 3) := by decide +kernel
theorem dX10_keepsAhead_88 : decode cX10_keepsAhead 88 = .ok (.goto (-31), 3) := by decide +kernel
theorem dX10_keepsAhead_91 : decode cX10_keepsAhead 91 = .ok (.aload_n 0, 1) := by decide +kernel
theorem dX10_keepsAhead_92 : decode cX10_keepsAhead 92 = .ok (.aload_n 0, 1) := by decide +kernel
theorem dX10_keepsAhead_93 : decode cX10_keepsAhead 93 = .ok (.getfield 86, 3) := by decide +kernel
theorem dX10_keepsAhead_96 : decode cX10_keepsAhead 96 = .ok (.iconst 1, 1) := by decide +kernel
theorem dX10_keepsAhead_97 : decode cX10_keepsAhead 97 = .ok (.iadd, 1) := by decide +kernel
theorem dX10_keepsAhead_98 : decode cX10_keepsAhead 98 = .ok (.putfield 86, 3) := by decide +kernel
theorem dX10_keepsAhead_101 : decode cX10_keepsAhead 101 = .ok (.return_, 1) := by decide +kernel
def M_keepsAhead (s : ST) : Option (ST) := Lt (fun (s1 : ST) => (lpK2 (C := ST) (fun (rec1 : Int32 → ST → Option (ST)) (a1 : Int32) (s2 : ST) => if (389 : Int32) ≤ a1 then (Lt (ups s2 0 3 ((s2.1 0 3) + (1 : Int32))) fun s3 => some s3) else (Gl s2 1 389 a1 fun y1 => Gs s2 2 2334 (((389 : Int32) * (s2.1 0 3)) + a1) y1 fun s4 => rec1 (a1 + (1 : Int32)) s4)) FU (0 : Int32) s1 : Option (ST))) fun j1 => if (s.1 0 3) = (6 : Int32) then (Lt (ups s 0 3 ((s.1 0 3) - (1 : Int32))) fun s5 => lpK2 (C := ST) (fun (rec2 : Int32 → ST → Option (ST)) (a2 : Int32) (s6 : ST) => if ((389 : Int32) * (s6.1 0 3)) ≤ a2 then (j1 s6) else (Gl s6 2 2334 (a2 + (389 : Int32)) fun y2 => Gs s6 2 2334 a2 y2 fun s7 => rec2 (a2 + (1 : Int32)) s7)) FU (0 : Int32) s5) else (j1 s)
set_option maxRecDepth 100000 in
set_option maxHeartbeats 4000000 in
theorem k_keepsAhead (l : Launch) (D : va_G) (cA : ClassId) (h : Nat → Nat) (s : ST) {o : ST} (hs : M_keepsAhead s = some o) : MV l (KM D cA h) 1 yX10_keepsAhead cX10_keepsAhead 2 none s [.ref (h 0)] o := by
  refine met_v (by decide) (Nat.le_of_ble_eq_true rfl) ?_
  intro p e st m args below meth c Q X RI
  unfold M_keepsAhead at hs
  refine g_aload_n X dX10_keepsAhead_0 (q := 1) rfl 0 rfl ?_
  refine mg_3 X dX10_keepsAhead_1 (q := 4) rfl ?_
  refine g_bipush X dX10_keepsAhead_4 (q := 6) rfl li_b6 ?_
  refine jnW1 (fun (s1 : ST) => WG (KM D cA h) p l e (rmD 1) st m args below meth c Q 2 s1 55 [(0, .ref (h 0))] []) hs (fun s1 hs => ?_) (fun j1 ih1 hs => ?_)
  · refine g_iconst X dX10_keepsAhead_55 (q := 56) rfl li_i0 ?_
    refine g_istore_n X dX10_keepsAhead_56 (q := 57) rfl (Nat.le_of_ble_eq_true rfl) (lv' := [(1, .int (0 : Int32)), (0, .ref (h 0))]) rfl ?_
    refine wg_sub [1, 0] rfl (lpW2 (fun (a1 : Int32) (s2 : ST) => WG (KM D cA h) p l e (rmD 1) st m args below meth c Q 2 s2 57 [(0, .ref (h 0)), (1, .int a1)] []) (fun rec1 ih2 a1 s2 hs => ?_) _ _ _ hs)
    refine g_iload_n X dX10_keepsAhead_57 (q := 58) rfl 1 rfl ?_
    refine g_sipush X dX10_keepsAhead_58 (q := 61) rfl li_s389 ?_
    refine g_icmp_ge X dX10_keepsAhead_61 (q := 64) rfl (tgt := 91) (by decide) hs ?_ ?_
    · intro hs
      refine g_aload_n X dX10_keepsAhead_91 (q := 92) rfl 0 rfl ?_
      refine g_aload_n X dX10_keepsAhead_92 (q := 93) rfl 0 rfl ?_
      refine mg_3 X dX10_keepsAhead_93 (q := 96) rfl ?_
      refine g_iconst X dX10_keepsAhead_96 (q := 97) rfl li_i1 ?_
      refine g_iadd X dX10_keepsAhead_97 (q := 98) rfl ?_
      refine mp_3 X dX10_keepsAhead_98 (q := 101) rfl hs (fun s3 hs => ?_)
      exact RI _ 101 _ (Option.some.inj hs) dX10_keepsAhead_101
    · intro hs
      refine g_aload_n X dX10_keepsAhead_64 (q := 65) rfl 0 rfl ?_
      refine mg_2 X dX10_keepsAhead_65 (q := 68) rfl ?_
      refine g_sipush X dX10_keepsAhead_68 (q := 71) rfl li_s389 ?_
      refine g_aload_n X dX10_keepsAhead_71 (q := 72) rfl 0 rfl ?_
      refine mg_3 X dX10_keepsAhead_72 (q := 75) rfl ?_
      refine g_imul X dX10_keepsAhead_75 (q := 76) rfl ?_
      refine g_iload_n X dX10_keepsAhead_76 (q := 77) rfl 1 rfl ?_
      refine g_iadd X dX10_keepsAhead_77 (q := 78) rfl ?_
      refine g_aload_n X dX10_keepsAhead_78 (q := 79) rfl 0 rfl ?_
      refine mg_1 X dX10_keepsAhead_79 (q := 82) rfl ?_
      refine g_iload_n X dX10_keepsAhead_82 (q := 83) rfl 1 rfl ?_
      refine ma_1 X dX10_keepsAhead_83 (q := 84) rfl hs (fun y1 hs => ?_)
      refine ms_2 X dX10_keepsAhead_84 (q := 85) rfl hs (fun s4 hs => ?_)
      refine g_iinc X dX10_keepsAhead_85 (q := 88) rfl 1 rfl (v := (a1 + (1 : Int32))) (congrArg (HAdd.hAdd a1) li_i1) (Nat.le_of_ble_eq_true rfl) (lv' := [(1, .int (a1 + (1 : Int32))), (0, .ref (h 0))]) rfl ?_
      refine g_goto X dX10_keepsAhead_88 (tgt := 57) (by decide) ?_
      exact wg_sub [1, 0] rfl (ih2 _ _ hs)
  refine g_icmp_ne X dX10_keepsAhead_6 (q := 9) rfl (tgt := 55) (by decide) hs ?_ ?_
  · intro hs
    exact wg_sub [0] rfl (ih1 _ hs)
  · intro hs
    refine g_aload_n X dX10_keepsAhead_9 (q := 10) rfl 0 rfl ?_
    refine g_aload_n X dX10_keepsAhead_10 (q := 11) rfl 0 rfl ?_
    refine mg_3 X dX10_keepsAhead_11 (q := 14) rfl ?_
    refine g_iconst X dX10_keepsAhead_14 (q := 15) rfl li_i1 ?_
    refine g_isub X dX10_keepsAhead_15 (q := 16) rfl ?_
    refine mp_3 X dX10_keepsAhead_16 (q := 19) rfl hs (fun s5 hs => ?_)
    refine g_iconst X dX10_keepsAhead_19 (q := 20) rfl li_i0 ?_
    refine g_istore_n X dX10_keepsAhead_20 (q := 21) rfl (Nat.le_of_ble_eq_true rfl) (lv' := [(1, .int (0 : Int32)), (0, .ref (h 0))]) rfl ?_
    refine wg_sub [1, 0] rfl (lpW2 (fun (a2 : Int32) (s6 : ST) => WG (KM D cA h) p l e (rmD 1) st m args below meth c Q 2 s6 21 [(0, .ref (h 0)), (1, .int a2)] []) (fun rec2 ih3 a2 s6 hs => ?_) _ _ _ hs)
    refine g_iload_n X dX10_keepsAhead_21 (q := 22) rfl 1 rfl ?_
    refine g_sipush X dX10_keepsAhead_22 (q := 25) rfl li_s389 ?_
    refine g_aload_n X dX10_keepsAhead_25 (q := 26) rfl 0 rfl ?_
    refine mg_3 X dX10_keepsAhead_26 (q := 29) rfl ?_
    refine g_imul X dX10_keepsAhead_29 (q := 30) rfl ?_
    refine g_icmp_ge X dX10_keepsAhead_30 (q := 33) rfl (tgt := 55) (by decide) hs ?_ ?_
    · intro hs
      exact wg_sub [0] rfl (ih1 _ hs)
    · intro hs
      refine g_aload_n X dX10_keepsAhead_33 (q := 34) rfl 0 rfl ?_
      refine mg_2 X dX10_keepsAhead_34 (q := 37) rfl ?_
      refine g_iload_n X dX10_keepsAhead_37 (q := 38) rfl 1 rfl ?_
      refine g_aload_n X dX10_keepsAhead_38 (q := 39) rfl 0 rfl ?_
      refine mg_2 X dX10_keepsAhead_39 (q := 42) rfl ?_
      refine g_iload_n X dX10_keepsAhead_42 (q := 43) rfl 1 rfl ?_
      refine g_sipush X dX10_keepsAhead_43 (q := 46) rfl li_s389 ?_
      refine g_iadd X dX10_keepsAhead_46 (q := 47) rfl ?_
      refine ma_2 X dX10_keepsAhead_47 (q := 48) rfl hs (fun y2 hs => ?_)
      refine ms_2 X dX10_keepsAhead_48 (q := 49) rfl hs (fun s7 hs => ?_)
      refine g_iinc X dX10_keepsAhead_49 (q := 52) rfl 1 rfl (v := (a2 + (1 : Int32))) (congrArg (HAdd.hAdd a2) li_i1) (Nat.le_of_ble_eq_true rfl) (lv' := [(1, .int (a2 + (1 : Int32))), (0, .ref (h 0))]) rfl ?_
      refine g_goto X dX10_keepsAhead_52 (tgt := 21) (by decide) ?_
      exact wg_sub [1, 0] rfl (ih3 _ _ hs)
theorem v_keepsAhead {p : Program} {l : Launch} {e : Env} {st : State} {m : MethodId} {args : Array Value} {below : List Frame} {meth : Method} {c : Code} {Q : State → Prop} {nL : Nat} {cc : ByteArray} {s : ST} {pc q : Nat} {lv : List (Nat × Value)} {rest : List Value} {D : va_G} {cA : ClassId} {h : Nat → Nat} {d0 : Nat} (X : Cx (KM D cA h) p st m args meth c cc nL RX10) (d : decode cc pc = .ok (.invokevirtual 336, 3)) (hq : pc + 3 = q) (hd1 : 1 + 1 ≤ d0) (hd2 : 8 + (2 + 11) + 100 * 1 ≤ 100 * d0) (hr : (rest.map fun v => v.category).sum ≤ 8) {B : Type} {f : ST → Option B} {r : B} (hs : Bd (M_keepsAhead s) f = some r) (k : ∀ y, f y = some r → WG (KM D cA h) p l e (rmD d0) st m args below meth c Q nL y q lv (rest)) : WG (KM D cA h) p l e (rmD d0) st m args below meth c Q nL s pc lv (.ref (h 0) :: rest) := by
  obtain ⟨v, hv, hs⟩ := Bd_e hs
  exact cV_V X 0 (n := 0) (k_keepsAhead l D cA h s hv) gv_X10_keepsAhead ⟨hd1, hd2⟩ ⟨by decide, by decide, by decide +kernel⟩ (As := []) rfl hr (Nat.le_of_ble_eq_true rfl) (fs := mF h (s.1 0)) rfl rfl rfl d hq (k _ hs)
theorem dX10_undo_0 : decode cX10_undo 0 = .ok (.aload_n 0, 1) := by decide +kernel
theorem dX10_undo_1 : decode cX10_undo 1 = .ok (.iconst 0, 1) := by decide +kernel
theorem dX10_undo_2 : decode cX10_undo 2 = .ok (.putfield 83, 3) := by decide +kernel
theorem dX10_undo_5 : decode cX10_undo 5 = .ok (.aload_n 0, 1) := by decide +kernel
theorem dX10_undo_6 : decode cX10_undo 6 = .ok (.getfield 86, 3) := by decide +kernel
theorem dX10_undo_9 : decode cX10_undo 9 = .ok (.ifCond .ne 5, 3) := by decide +kernel
theorem dX10_undo_12 : decode cX10_undo 12 = .ok (.iconst 0, 1) := by decide +kernel
theorem dX10_undo_13 : decode cX10_undo 13 = .ok (.ireturn, 1) := by decide +kernel
theorem dX10_undo_14 : decode cX10_undo 14 = .ok (.aload_n 0, 1) := by decide +kernel
theorem dX10_undo_15 : decode cX10_undo 15 = .ok (.aload_n 0, 1) := by decide +kernel
theorem dX10_undo_16 : decode cX10_undo 16 = .ok (.getfield 86, 3) := by decide +kernel
theorem dX10_undo_19 : decode cX10_undo 19 = .ok (.iconst 1, 1) := by decide +kernel
theorem dX10_undo_20 : decode cX10_undo 20 = .ok (.isub, 1) := by decide +kernel
theorem dX10_undo_21 : decode cX10_undo 21 = .ok (.putfield 86, 3) := by decide +kernel
theorem dX10_undo_24 : decode cX10_undo 24 = .ok (.iconst 0, 1) := by decide +kernel
theorem dX10_undo_25 : decode cX10_undo 25 = .ok (.istore_n 1, 1) := by decide +kernel
theorem dX10_undo_26 : decode cX10_undo 26 = .ok (.iload_n 1, 1) := by decide +kernel
theorem dX10_undo_27 : decode cX10_undo 27 = .ok (.sipush 389, 3) := by decide +kernel
theorem dX10_undo_30 : decode cX10_undo 30 = .ok (.if_icmp .ge 30, 3) := by decide +kernel
theorem dX10_undo_33 : decode cX10_undo 33 = .ok (.aload_n 0, 1) := by decide +kernel
theorem dX10_undo_34 : decode cX10_undo 34 = .ok (.getfield 7, 3) := by decide +kernel
theorem dX10_undo_37 : decode cX10_undo 37 = .ok (.iload_n 1, 1) := by decide +kernel
theorem dX10_undo_38 : decode cX10_undo 38 = .ok (.aload_n 0, 1) := by decide +kernel
theorem dX10_undo_39 : decode cX10_undo 39 = .ok (.getfield 13, 3) := by decide +kernel
theorem dX10_undo_42 : decode cX10_undo 42 = .ok (.sipush 389, 3) := by decide +kernel
theorem dX10_undo_45 : decode cX10_undo 45 = .ok (.aload_n 0, 1) := by decide +kernel
theorem dX10_undo_46 : decode cX10_undo 46 = .ok (.getfield 86, 3) := by decide +kernel
theorem dX10_undo_49 : decode cX10_undo 49 = .ok (.imul, 1) := by decide +kernel
theorem dX10_undo_50 : decode cX10_undo 50 = .ok (.iload_n 1, 1) := by decide +kernel
theorem dX10_undo_51 : decode cX10_undo 51 = .ok (.iadd, 1) := by decide +kernel
theorem dX10_undo_52 : decode cX10_undo 52 = .ok (.iaload, 1) := by decide +kernel
theorem dX10_undo_53 : decode cX10_undo 53 = .ok (.iastore, 1) := by decide +kernel
theorem dX10_undo_54 : decode cX10_undo 54 = .ok (.iinc 1 1, 3) := by decide +kernel
theorem dX10_undo_57 : decode cX10_undo 57 = .ok (.goto (-31), 3) := by decide +kernel
theorem dX10_undo_60 : decode cX10_undo 60 = .ok (.iconst 1, 1) := by decide +kernel
theorem dX10_undo_61 : decode cX10_undo 61 = .ok (.ireturn, 1) := by decide +kernel
def M_undo (s : ST) : Option (Int32 × ST) := Lt (ups s 0 0 (0 : Int32)) fun s1 => if (s1.1 0 3) = 0 then (some ((0 : Int32), s1)) else (Lt (ups s1 0 3 ((s1.1 0 3) - (1 : Int32))) fun s2 => lpK2 (C := Int32 × ST) (fun (rec1 : Int32 → ST → Option (Int32 × ST)) (a1 : Int32) (s3 : ST) => if (389 : Int32) ≤ a1 then (some ((1 : Int32), s3)) else (Gl s3 2 2334 (((389 : Int32) * (s3.1 0 3)) + a1) fun y1 => Gs s3 1 389 a1 y1 fun s4 => rec1 (a1 + (1 : Int32)) s4)) FU (0 : Int32) s2)
set_option maxRecDepth 100000 in
set_option maxHeartbeats 4000000 in
theorem k_undo (l : Launch) (D : va_G) (cA : ClassId) (h : Nat → Nat) (s : ST) {o : Int32 × ST} (hs : M_undo s = some o) : MI l (KM D cA h) 1 yX10_undo cX10_undo 2 (some .boolean) s [.ref (h 0)] o.1 o.2 := by
  refine met_i (by decide) (Nat.le_of_ble_eq_true rfl) ?_
  intro p e st m args below meth c Q X RI
  unfold M_undo at hs
  refine g_aload_n X dX10_undo_0 (q := 1) rfl 0 rfl ?_
  refine g_iconst X dX10_undo_1 (q := 2) rfl li_i0 ?_
  refine mp_0 X dX10_undo_2 (q := 5) rfl hs (fun s1 hs => ?_)
  refine g_aload_n X dX10_undo_5 (q := 6) rfl 0 rfl ?_
  refine mg_3 X dX10_undo_6 (q := 9) rfl ?_
  refine g_if_ne X dX10_undo_9 (q := 12) rfl (tgt := 14) (by decide) hs ?_ ?_
  · intro hs
    refine g_aload_n X dX10_undo_14 (q := 15) rfl 0 rfl ?_
    refine g_aload_n X dX10_undo_15 (q := 16) rfl 0 rfl ?_
    refine mg_3 X dX10_undo_16 (q := 19) rfl ?_
    refine g_iconst X dX10_undo_19 (q := 20) rfl li_i1 ?_
    refine g_isub X dX10_undo_20 (q := 21) rfl ?_
    refine mp_3 X dX10_undo_21 (q := 24) rfl hs (fun s2 hs => ?_)
    refine g_iconst X dX10_undo_24 (q := 25) rfl li_i0 ?_
    refine g_istore_n X dX10_undo_25 (q := 26) rfl (Nat.le_of_ble_eq_true rfl) (lv' := [(1, .int (0 : Int32)), (0, .ref (h 0))]) rfl ?_
    refine wg_sub [1, 0] rfl (lpW2 (fun (a1 : Int32) (s3 : ST) => WG (KM D cA h) p l e (rmD 1) st m args below meth c Q 2 s3 26 [(0, .ref (h 0)), (1, .int a1)] []) (fun rec1 ih1 a1 s3 hs => ?_) _ _ _ hs)
    refine g_iload_n X dX10_undo_26 (q := 27) rfl 1 rfl ?_
    refine g_sipush X dX10_undo_27 (q := 30) rfl li_s389 ?_
    refine g_icmp_ge X dX10_undo_30 (q := 33) rfl (tgt := 60) (by decide) hs ?_ ?_
    · intro hs
      refine g_iconst X dX10_undo_60 (q := 61) rfl li_i1 ?_
      exact RI _ 61 _ _ _ (rU1 hs) rfl (rV1 hs) dX10_undo_61
    · intro hs
      refine g_aload_n X dX10_undo_33 (q := 34) rfl 0 rfl ?_
      refine mg_1 X dX10_undo_34 (q := 37) rfl ?_
      refine g_iload_n X dX10_undo_37 (q := 38) rfl 1 rfl ?_
      refine g_aload_n X dX10_undo_38 (q := 39) rfl 0 rfl ?_
      refine mg_2 X dX10_undo_39 (q := 42) rfl ?_
      refine g_sipush X dX10_undo_42 (q := 45) rfl li_s389 ?_
      refine g_aload_n X dX10_undo_45 (q := 46) rfl 0 rfl ?_
      refine mg_3 X dX10_undo_46 (q := 49) rfl ?_
      refine g_imul X dX10_undo_49 (q := 50) rfl ?_
      refine g_iload_n X dX10_undo_50 (q := 51) rfl 1 rfl ?_
      refine g_iadd X dX10_undo_51 (q := 52) rfl ?_
      refine ma_2 X dX10_undo_52 (q := 53) rfl hs (fun y1 hs => ?_)
      refine ms_1 X dX10_undo_53 (q := 54) rfl hs (fun s4 hs => ?_)
      refine g_iinc X dX10_undo_54 (q := 57) rfl 1 rfl (v := (a1 + (1 : Int32))) (congrArg (HAdd.hAdd a1) li_i1) (Nat.le_of_ble_eq_true rfl) (lv' := [(1, .int (a1 + (1 : Int32))), (0, .ref (h 0))]) rfl ?_
      refine g_goto X dX10_undo_57 (tgt := 26) (by decide) ?_
      exact wg_sub [1, 0] rfl (ih1 _ _ hs)
  · intro hs
    refine g_iconst X dX10_undo_12 (q := 13) rfl li_i0 ?_
    exact RI _ 13 _ _ _ (rU1 hs) rfl (rV1 hs) dX10_undo_13
theorem dX10_thinks_0 : decode cX10_thinks 0 = .ok (.iconst 0, 1) := by decide +kernel
theorem dX10_thinks_1 : decode cX10_thinks 1 = .ok (.istore_n 1, 1) := by decide +kernel
theorem dX10_thinks_2 : decode cX10_thinks 2 = .ok (.iload_n 1, 1) := by decide +kernel
theorem dX10_thinks_3 : decode cX10_thinks 3 = .ok (.sipush 389, 3) := by decide +kernel
theorem dX10_thinks_6 : decode cX10_thinks 6 = .ok (.if_icmp .ge 21, 3) := by decide +kernel
theorem dX10_thinks_9 : decode cX10_thinks 9 = .ok (.aload_n 0, 1) := by decide +kernel
theorem dX10_thinks_10 : decode cX10_thinks 10 = .ok (.getfield 16, 3) := by decide +kernel
theorem dX10_thinks_13 : decode cX10_thinks 13 = .ok (.iload_n 1, 1) := by decide +kernel
theorem dX10_thinks_14 : decode cX10_thinks 14 = .ok (.aload_n 0, 1) := by decide +kernel
theorem dX10_thinks_15 : decode cX10_thinks 15 = .ok (.getfield 7, 3) := by decide +kernel
theorem dX10_thinks_18 : decode cX10_thinks 18 = .ok (.iload_n 1, 1) := by decide +kernel
theorem dX10_thinks_19 : decode cX10_thinks 19 = .ok (.iaload, 1) := by decide +kernel
theorem dX10_thinks_20 : decode cX10_thinks 20 = .ok (.iastore, 1) := by decide +kernel
theorem dX10_thinks_21 : decode cX10_thinks 21 = .ok (.iinc 1 1, 3) := by decide +kernel
theorem dX10_thinks_24 : decode cX10_thinks 24 = .ok (.goto (-22), 3) := by decide +kernel
theorem dX10_thinks_27 : decode cX10_thinks 27 = .ok (.aload_n 0, 1) := by decide +kernel
theorem dX10_thinks_28 : decode cX10_thinks 28 = .ok (.iconst 1, 1) := by decide +kernel
theorem dX10_thinks_29 : decode cX10_thinks 29 = .ok (.putfield 89, 3) := by decide +kernel
theorem dX10_thinks_32 : decode cX10_thinks 32 = .ok (.return_, 1) := by decide +kernel
def M_thinks (s : ST) : Option (ST) := lpK2 (C := ST) (fun (rec1 : Int32 → ST → Option (ST)) (a1 : Int32) (s1 : ST) => if (389 : Int32) ≤ a1 then (Lt (ups s1 0 5 (1 : Int32)) fun s2 => some s2) else (Gl s1 1 389 a1 fun y1 => Gs s1 3 389 a1 y1 fun s3 => rec1 (a1 + (1 : Int32)) s3)) FU (0 : Int32) s
set_option maxRecDepth 100000 in
set_option maxHeartbeats 4000000 in
theorem k_thinks (l : Launch) (D : va_G) (cA : ClassId) (h : Nat → Nat) (s : ST) {o : ST} (hs : M_thinks s = some o) : MV l (KM D cA h) 1 yX10_thinks cX10_thinks 2 none s [.ref (h 0)] o := by
  refine met_v (by decide) (Nat.le_of_ble_eq_true rfl) ?_
  intro p e st m args below meth c Q X RI
  unfold M_thinks at hs
  refine g_iconst X dX10_thinks_0 (q := 1) rfl li_i0 ?_
  refine g_istore_n X dX10_thinks_1 (q := 2) rfl (Nat.le_of_ble_eq_true rfl) (lv' := [(1, .int (0 : Int32)), (0, .ref (h 0))]) rfl ?_
  refine wg_sub [1, 0] rfl (lpW2 (fun (a1 : Int32) (s1 : ST) => WG (KM D cA h) p l e (rmD 1) st m args below meth c Q 2 s1 2 [(0, .ref (h 0)), (1, .int a1)] []) (fun rec1 ih1 a1 s1 hs => ?_) _ _ _ hs)
  refine g_iload_n X dX10_thinks_2 (q := 3) rfl 1 rfl ?_
  refine g_sipush X dX10_thinks_3 (q := 6) rfl li_s389 ?_
  refine g_icmp_ge X dX10_thinks_6 (q := 9) rfl (tgt := 27) (by decide) hs ?_ ?_
  · intro hs
    refine g_aload_n X dX10_thinks_27 (q := 28) rfl 0 rfl ?_
    refine g_iconst X dX10_thinks_28 (q := 29) rfl li_i1 ?_
    refine mp_5 X dX10_thinks_29 (q := 32) rfl (by decide) hs (fun s2 hs => ?_)
    exact RI _ 32 _ (Option.some.inj hs) dX10_thinks_32
  · intro hs
    refine g_aload_n X dX10_thinks_9 (q := 10) rfl 0 rfl ?_
    refine mg_4 X dX10_thinks_10 (q := 13) rfl ?_
    refine g_iload_n X dX10_thinks_13 (q := 14) rfl 1 rfl ?_
    refine g_aload_n X dX10_thinks_14 (q := 15) rfl 0 rfl ?_
    refine mg_1 X dX10_thinks_15 (q := 18) rfl ?_
    refine g_iload_n X dX10_thinks_18 (q := 19) rfl 1 rfl ?_
    refine ma_1 X dX10_thinks_19 (q := 20) rfl hs (fun y1 hs => ?_)
    refine ms_3 X dX10_thinks_20 (q := 21) rfl hs (fun s3 hs => ?_)
    refine g_iinc X dX10_thinks_21 (q := 24) rfl 1 rfl (v := (a1 + (1 : Int32))) (congrArg (HAdd.hAdd a1) li_i1) (Nat.le_of_ble_eq_true rfl) (lv' := [(1, .int (a1 + (1 : Int32))), (0, .ref (h 0))]) rfl ?_
    refine g_goto X dX10_thinks_24 (tgt := 2) (by decide) ?_
    exact wg_sub [1, 0] rfl (ih1 _ _ hs)
theorem v_thinks {p : Program} {l : Launch} {e : Env} {st : State} {m : MethodId} {args : Array Value} {below : List Frame} {meth : Method} {c : Code} {Q : State → Prop} {nL : Nat} {cc : ByteArray} {s : ST} {pc q : Nat} {lv : List (Nat × Value)} {rest : List Value} {D : va_G} {cA : ClassId} {h : Nat → Nat} {d0 : Nat} (X : Cx (KM D cA h) p st m args meth c cc nL RX10) (d : decode cc pc = .ok (.invokevirtual 412, 3)) (hq : pc + 3 = q) (hd1 : 1 + 1 ≤ d0) (hd2 : 8 + (2 + 11) + 100 * 1 ≤ 100 * d0) (hr : (rest.map fun v => v.category).sum ≤ 8) {B : Type} {f : ST → Option B} {r : B} (hs : Bd (M_thinks s) f = some r) (k : ∀ y, f y = some r → WG (KM D cA h) p l e (rmD d0) st m args below meth c Q nL y q lv (rest)) : WG (KM D cA h) p l e (rmD d0) st m args below meth c Q nL s pc lv (.ref (h 0) :: rest) := by
  obtain ⟨v, hv, hs⟩ := Bd_e hs
  exact cV_V X 0 (n := 0) (k_thinks l D cA h s hv) gv_X10_thinks ⟨hd1, hd2⟩ ⟨by decide, by decide, by decide +kernel⟩ (As := []) rfl hr (Nat.le_of_ble_eq_true rfl) (fs := mF h (s.1 0)) rfl rfl rfl d hq (k _ hs)
theorem dX10_thinksAnew_0 : decode cX10_thinksAnew 0 = .ok (.iconst 0, 1) := by decide +kernel
theorem dX10_thinksAnew_1 : decode cX10_thinksAnew 1 = .ok (.istore_n 1, 1) := by decide +kernel
theorem dX10_thinksAnew_2 : decode cX10_thinksAnew 2 = .ok (.iload_n 1, 1) := by decide +kernel
theorem dX10_thinksAnew_3 : decode cX10_thinksAnew 3 = .ok (.sipush 389, 3) := by decide +kernel
theorem dX10_thinksAnew_6 : decode cX10_thinksAnew 6 = .ok (.if_icmp .ge 21, 3) := by decide +kernel
theorem dX10_thinksAnew_9 : decode cX10_thinksAnew 9 = .ok (.aload_n 0, 1) := by decide +kernel
theorem dX10_thinksAnew_10 : decode cX10_thinksAnew 10 = .ok (.getfield 7, 3) := by decide +kernel
theorem dX10_thinksAnew_13 : decode cX10_thinksAnew 13 = .ok (.iload_n 1, 1) := by decide +kernel
theorem dX10_thinksAnew_14 : decode cX10_thinksAnew 14 = .ok (.aload_n 0, 1) := by decide +kernel
theorem dX10_thinksAnew_15 : decode cX10_thinksAnew 15 = .ok (.getfield 16, 3) := by decide +kernel
theorem dX10_thinksAnew_18 : decode cX10_thinksAnew 18 = .ok (.iload_n 1, 1) := by decide +kernel
theorem dX10_thinksAnew_19 : decode cX10_thinksAnew 19 = .ok (.iaload, 1) := by decide +kernel
theorem dX10_thinksAnew_20 : decode cX10_thinksAnew 20 = .ok (.iastore, 1) := by decide +kernel
theorem dX10_thinksAnew_21 : decode cX10_thinksAnew 21 = .ok (.iinc 1 1, 3) := by decide +kernel
theorem dX10_thinksAnew_24 : decode cX10_thinksAnew 24 = .ok (.goto (-22), 3) := by decide +kernel
theorem dX10_thinksAnew_27 : decode cX10_thinksAnew 27 = .ok (.return_, 1) := by decide +kernel
def M_thinksAnew (s : ST) : Option (ST) := lpK2 (C := ST) (fun (rec1 : Int32 → ST → Option (ST)) (a1 : Int32) (s1 : ST) => if (389 : Int32) ≤ a1 then (some s1) else (Gl s1 3 389 a1 fun y1 => Gs s1 1 389 a1 y1 fun s2 => rec1 (a1 + (1 : Int32)) s2)) FU (0 : Int32) s
set_option maxRecDepth 100000 in
set_option maxHeartbeats 4000000 in
theorem k_thinksAnew (l : Launch) (D : va_G) (cA : ClassId) (h : Nat → Nat) (s : ST) {o : ST} (hs : M_thinksAnew s = some o) : MV l (KM D cA h) 1 yX10_thinksAnew cX10_thinksAnew 2 none s [.ref (h 0)] o := by
  refine met_v (by decide) (Nat.le_of_ble_eq_true rfl) ?_
  intro p e st m args below meth c Q X RI
  unfold M_thinksAnew at hs
  refine g_iconst X dX10_thinksAnew_0 (q := 1) rfl li_i0 ?_
  refine g_istore_n X dX10_thinksAnew_1 (q := 2) rfl (Nat.le_of_ble_eq_true rfl) (lv' := [(1, .int (0 : Int32)), (0, .ref (h 0))]) rfl ?_
  refine wg_sub [1, 0] rfl (lpW2 (fun (a1 : Int32) (s1 : ST) => WG (KM D cA h) p l e (rmD 1) st m args below meth c Q 2 s1 2 [(0, .ref (h 0)), (1, .int a1)] []) (fun rec1 ih1 a1 s1 hs => ?_) _ _ _ hs)
  refine g_iload_n X dX10_thinksAnew_2 (q := 3) rfl 1 rfl ?_
  refine g_sipush X dX10_thinksAnew_3 (q := 6) rfl li_s389 ?_
  refine g_icmp_ge X dX10_thinksAnew_6 (q := 9) rfl (tgt := 27) (by decide) hs ?_ ?_
  · intro hs
    exact RI _ 27 _ (Option.some.inj hs) dX10_thinksAnew_27
  · intro hs
    refine g_aload_n X dX10_thinksAnew_9 (q := 10) rfl 0 rfl ?_
    refine mg_1 X dX10_thinksAnew_10 (q := 13) rfl ?_
    refine g_iload_n X dX10_thinksAnew_13 (q := 14) rfl 1 rfl ?_
    refine g_aload_n X dX10_thinksAnew_14 (q := 15) rfl 0 rfl ?_
    refine mg_4 X dX10_thinksAnew_15 (q := 18) rfl ?_
    refine g_iload_n X dX10_thinksAnew_18 (q := 19) rfl 1 rfl ?_
    refine ma_3 X dX10_thinksAnew_19 (q := 20) rfl hs (fun y1 hs => ?_)
    refine ms_1 X dX10_thinksAnew_20 (q := 21) rfl hs (fun s2 hs => ?_)
    refine g_iinc X dX10_thinksAnew_21 (q := 24) rfl 1 rfl (v := (a1 + (1 : Int32))) (congrArg (HAdd.hAdd a1) li_i1) (Nat.le_of_ble_eq_true rfl) (lv' := [(1, .int (a1 + (1 : Int32))), (0, .ref (h 0))]) rfl ?_
    refine g_goto X dX10_thinksAnew_24 (tgt := 2) (by decide) ?_
    exact wg_sub [1, 0] rfl (ih1 _ _ hs)
theorem v_thinksAnew {p : Program} {l : Launch} {e : Env} {st : State} {m : MethodId} {args : Array Value} {below : List Frame} {meth : Method} {c : Code} {Q : State → Prop} {nL : Nat} {cc : ByteArray} {s : ST} {pc q : Nat} {lv : List (Nat × Value)} {rest : List Value} {D : va_G} {cA : ClassId} {h : Nat → Nat} {d0 : Nat} (X : Cx (KM D cA h) p st m args meth c cc nL RX10) (d : decode cc pc = .ok (.invokevirtual 93, 3)) (hq : pc + 3 = q) (hd1 : 1 + 1 ≤ d0) (hd2 : 8 + (2 + 11) + 100 * 1 ≤ 100 * d0) (hr : (rest.map fun v => v.category).sum ≤ 8) {B : Type} {f : ST → Option B} {r : B} (hs : Bd (M_thinksAnew s) f = some r) (k : ∀ y, f y = some r → WG (KM D cA h) p l e (rmD d0) st m args below meth c Q nL y q lv (rest)) : WG (KM D cA h) p l e (rmD d0) st m args below meth c Q nL s pc lv (.ref (h 0) :: rest) := by
  obtain ⟨v, hv, hs⟩ := Bd_e hs
  exact cV_V X 0 (n := 0) (k_thinksAnew l D cA h s hv) gv_X10_thinksAnew ⟨hd1, hd2⟩ ⟨by decide, by decide, by decide +kernel⟩ (As := []) rfl hr (Nat.le_of_ble_eq_true rfl) (fs := mF h (s.1 0)) rfl rfl rfl d hq (k _ hs)
theorem dX10_endsThought_0 : decode cX10_endsThought 0 = .ok (.aload_n 0, 1) := by decide +kernel
theorem dX10_endsThought_1 : decode cX10_endsThought 1 = .ok (.invokevirtual 93, 3) := by decide +kernel
theorem dX10_endsThought_4 : decode cX10_endsThought 4 = .ok (.aload_n 0, 1) := by decide +kernel
theorem dX10_endsThought_5 : decode cX10_endsThought 5 = .ok (.iconst 0, 1) := by decide +kernel
theorem dX10_endsThought_6 : decode cX10_endsThought 6 = .ok (.putfield 89, 3) := by decide +kernel
theorem dX10_endsThought_9 : decode cX10_endsThought 9 = .ok (.return_, 1) := by decide +kernel
def M_endsThought (s : ST) : Option (ST) := Bd (M_thinksAnew s) fun s1 => Lt (ups s1 0 5 (0 : Int32)) fun s2 => some s2
set_option maxRecDepth 100000 in
set_option maxHeartbeats 4000000 in
theorem k_endsThought (l : Launch) (D : va_G) (cA : ClassId) (h : Nat → Nat) (s : ST) {o : ST} (hs : M_endsThought s = some o) : MV l (KM D cA h) 2 yX10_endsThought cX10_endsThought 1 none s [.ref (h 0)] o := by
  refine met_v (by decide) (Nat.le_of_ble_eq_true rfl) ?_
  intro p e st m args below meth c Q X RI
  unfold M_endsThought at hs
  refine g_aload_n X dX10_endsThought_0 (q := 1) rfl 0 rfl ?_
  refine v_thinksAnew X dX10_endsThought_1 (q := 4) rfl (Nat.le_of_ble_eq_true rfl) (Nat.le_of_ble_eq_true rfl) (Nat.le_of_ble_eq_true rfl) hs (fun s1 hs => ?_)
  refine g_aload_n X dX10_endsThought_4 (q := 5) rfl 0 rfl ?_
  refine g_iconst X dX10_endsThought_5 (q := 6) rfl li_i0 ?_
  refine mp_5 X dX10_endsThought_6 (q := 9) rfl (by decide) hs (fun s2 hs => ?_)
  exact RI _ 9 _ (Option.some.inj hs) dX10_endsThought_9
theorem v_endsThought {p : Program} {l : Launch} {e : Env} {st : State} {m : MethodId} {args : Array Value} {below : List Frame} {meth : Method} {c : Code} {Q : State → Prop} {nL : Nat} {cc : ByteArray} {s : ST} {pc q : Nat} {lv : List (Nat × Value)} {rest : List Value} {D : va_G} {cA : ClassId} {h : Nat → Nat} {d0 : Nat} (X : Cx (KM D cA h) p st m args meth c cc nL RX10) (d : decode cc pc = .ok (.invokevirtual 422, 3)) (hq : pc + 3 = q) (hd1 : 2 + 1 ≤ d0) (hd2 : 8 + (1 + 11) + 100 * 2 ≤ 100 * d0) (hr : (rest.map fun v => v.category).sum ≤ 8) {B : Type} {f : ST → Option B} {r : B} (hs : Bd (M_endsThought s) f = some r) (k : ∀ y, f y = some r → WG (KM D cA h) p l e (rmD d0) st m args below meth c Q nL y q lv (rest)) : WG (KM D cA h) p l e (rmD d0) st m args below meth c Q nL s pc lv (.ref (h 0) :: rest) := by
  obtain ⟨v, hv, hs⟩ := Bd_e hs
  exact cV_V X 0 (n := 0) (k_endsThought l D cA h s hv) gv_X10_endsThought ⟨hd1, hd2⟩ ⟨by decide, by decide, by decide +kernel⟩ (As := []) rfl hr (Nat.le_of_ble_eq_true rfl) (fs := mF h (s.1 0)) rfl rfl rfl d hq (k _ hs)
theorem dX10_state_0 : decode cX10_state 0 = .ok (.aload_n 0, 1) := by decide +kernel
theorem dX10_state_1 : decode cX10_state 1 = .ok (.iconst 0, 1) := by decide +kernel
theorem dX10_state_2 : decode cX10_state 2 = .ok (.putfield 83, 3) := by decide +kernel
theorem dX10_state_5 : decode cX10_state 5 = .ok (.aload_n 0, 1) := by decide +kernel
theorem dX10_state_6 : decode cX10_state 6 = .ok (.getfield 7, 3) := by decide +kernel
theorem dX10_state_9 : decode cX10_state 9 = .ok (.iconst 1, 1) := by decide +kernel
theorem dX10_state_10 : decode cX10_state 10 = .ok (.iaload, 1) := by decide +kernel
theorem dX10_state_11 : decode cX10_state 11 = .ok (.istore_n 2, 1) := by decide +kernel
theorem dX10_state_12 : decode cX10_state 12 = .ok (.aload_n 0, 1) := by decide +kernel
theorem dX10_state_13 : decode cX10_state 13 = .ok (.getfield 7, 3) := by decide +kernel
theorem dX10_state_16 : decode cX10_state 16 = .ok (.iconst 1, 1) := by decide +kernel
theorem dX10_state_17 : decode cX10_state 17 = .ok (.iload_n 1, 1) := by decide +kernel
theorem dX10_state_18 : decode cX10_state 18 = .ok (.iastore, 1) := by decide +kernel
theorem dX10_state_19 : decode cX10_state 19 = .ok (.aload_n 0, 1) := by decide +kernel
theorem dX10_state_20 : decode cX10_state 20 = .ok (.iconst 0, 1) := by decide +kernel
theorem dX10_state_21 : decode cX10_state 21 = .ok (.putfield 86, 3) := by decide +kernel
theorem dX10_state_24 : decode cX10_state 24 = .ok (.iload_n 2, 1) := by decide +kernel
theorem dX10_state_25 : decode cX10_state 25 = .ok (.ireturn, 1) := by decide +kernel
def M_state (s : ST) (x1 : Int32) : Int32 × ST := Lt (ups s 0 0 (0 : Int32)) fun s1 => Lt (s1.1 1 1) fun y1 => Lt (ups s1 1 1 x1) fun s2 => Lt (ups s2 0 3 (0 : Int32)) fun s3 => (y1, s3)
set_option maxRecDepth 100000 in
set_option maxHeartbeats 4000000 in
theorem k_state (l : Launch) (D : va_G) (cA : ClassId) (h : Nat → Nat) (s : ST) (x1 : Int32) : MI l (KM D cA h) 1 yX10_state cX10_state 3 (some .int) s [.ref (h 0), .int x1] (M_state s x1).1 (M_state s x1).2 := by
  refine met_i (by decide) (Nat.le_of_ble_eq_true rfl) ?_
  intro p e st m args below meth c Q X RI
  generalize hs : M_state s x1 = o at RI
  unfold M_state at hs
  refine g_aload_n X dX10_state_0 (q := 1) rfl 0 rfl ?_
  refine g_iconst X dX10_state_1 (q := 2) rfl li_i0 ?_
  refine mp_0 X dX10_state_2 (q := 5) rfl hs (fun s1 hs => ?_)
  refine g_aload_n X dX10_state_5 (q := 6) rfl 0 rfl ?_
  refine mg_1 X dX10_state_6 (q := 9) rfl ?_
  refine g_iconst X dX10_state_9 (q := 10) rfl li_i1 ?_
  refine mk_1 X dX10_state_10 (q := 11) rfl (j := 1) (by decide) (by decide) hs (fun y1 hs => ?_)
  refine g_istore_n X dX10_state_11 (q := 12) rfl (Nat.le_of_ble_eq_true rfl) (lv' := [(2, .int y1), (0, .ref (h 0)), (1, .int x1)]) rfl ?_
  refine g_aload_n X dX10_state_12 (q := 13) rfl 1 rfl ?_
  refine mg_1 X dX10_state_13 (q := 16) rfl ?_
  refine g_iconst X dX10_state_16 (q := 17) rfl li_i1 ?_
  refine g_iload_n X dX10_state_17 (q := 18) rfl 2 rfl ?_
  refine msk_1 X dX10_state_18 (q := 19) rfl (j := 1) (by decide) (by decide) hs (fun s2 hs => ?_)
  refine g_aload_n X dX10_state_19 (q := 20) rfl 1 rfl ?_
  refine g_iconst X dX10_state_20 (q := 21) rfl li_i0 ?_
  refine mp_3 X dX10_state_21 (q := 24) rfl hs (fun s3 hs => ?_)
  refine g_iload_n X dX10_state_24 (q := 25) rfl 0 rfl ?_
  exact RI _ 25 _ _ _ (rU0 hs) rfl (rV0 hs) dX10_state_25
theorem dX10_draw_0 : decode cX10_draw 0 = .ok (.aload_n 0, 1) := by decide +kernel
theorem dX10_draw_1 : decode cX10_draw 1 = .ok (.getfield 7, 3) := by decide +kernel
theorem dX10_draw_4 : decode cX10_draw 4 = .ok (.iconst 1, 1) := by decide +kernel
theorem dX10_draw_5 : decode cX10_draw 5 = .ok (.ldc 96, 2) := by decide +kernel
theorem dX10_draw_7 : decode cX10_draw 7 = .ok (.aload_n 0, 1) := by decide +kernel
theorem dX10_draw_8 : decode cX10_draw 8 = .ok (.getfield 7, 3) := by decide +kernel
theorem dX10_draw_11 : decode cX10_draw 11 = .ok (.iconst 1, 1) := by decide +kernel
theorem dX10_draw_12 : decode cX10_draw 12 = .ok (.iaload, 1) := by decide +kernel
theorem dX10_draw_13 : decode cX10_draw 13 = .ok (.imul, 1) := by decide +kernel
theorem dX10_draw_14 : decode cX10_draw 14 = .ok (.ldc 97, 2) := by decide +kernel
theorem dX10_draw_16 : decode cX10_draw 16 = .ok (.iadd, 1) := by decide +kernel
theorem dX10_draw_17 : decode cX10_draw 17 = .ok (.iastore, 1) := by decide +kernel
theorem dX10_draw_18 : decode cX10_draw 18 = .ok (.aload_n 0, 1) := by decide +kernel
theorem dX10_draw_19 : decode cX10_draw 19 = .ok (.getfield 7, 3) := by decide +kernel
theorem dX10_draw_22 : decode cX10_draw 22 = .ok (.iconst 1, 1) := by decide +kernel
theorem dX10_draw_23 : decode cX10_draw 23 = .ok (.iaload, 1) := by decide +kernel
theorem dX10_draw_24 : decode cX10_draw 24 = .ok (.bipush 8, 2) := by decide +kernel
theorem dX10_draw_26 : decode cX10_draw 26 = .ok (.iushr, 1) := by decide +kernel
theorem dX10_draw_27 : decode cX10_draw 27 = .ok (.iload_n 1, 1) := by decide +kernel
theorem dX10_draw_28 : decode cX10_draw 28 = .ok (.irem, 1) := by decide +kernel
theorem dX10_draw_29 : decode cX10_draw 29 = .ok (.ireturn, 1) := by decide +kernel
def M_draw (s : ST) (x1 : Int32) : Option (Int32 × ST) := Lt (s.1 1 1) fun y1 => Lt (ups s 1 1 (((1664525 : Int32) * y1) + (1013904223 : Int32))) fun s1 => Lt (s1.1 1 1) fun y2 => Gz x1 <| some ((irm (iush y2 (8 : Int32)) x1), s1)
set_option maxRecDepth 100000 in
set_option maxHeartbeats 4000000 in
theorem k_draw (l : Launch) (D : va_G) (cA : ClassId) (h : Nat → Nat) (s : ST) (x1 : Int32) {o : Int32 × ST} (hs : M_draw s x1 = some o) : MI l (KM D cA h) 1 yX10_draw cX10_draw 2 (some .int) s [.ref (h 0), .int x1] o.1 o.2 := by
  refine met_i (by decide) (Nat.le_of_ble_eq_true rfl) ?_
  intro p e st m args below meth c Q X RI
  unfold M_draw at hs
  refine g_aload_n X dX10_draw_0 (q := 1) rfl 0 rfl ?_
  refine mg_1 X dX10_draw_1 (q := 4) rfl ?_
  refine g_iconst X dX10_draw_4 (q := 5) rfl li_i1 ?_
  refine g_ldc X dX10_draw_5 (q := 7) rfl kc_X10_96 ?_
  refine g_aload_n X dX10_draw_7 (q := 8) rfl 0 rfl ?_
  refine mg_1 X dX10_draw_8 (q := 11) rfl ?_
  refine g_iconst X dX10_draw_11 (q := 12) rfl li_i1 ?_
  refine mk_1 X dX10_draw_12 (q := 13) rfl (j := 1) (by decide) (by decide) hs (fun y1 hs => ?_)
  refine g_imul X dX10_draw_13 (q := 14) rfl ?_
  refine g_ldc X dX10_draw_14 (q := 16) rfl kc_X10_97 ?_
  refine g_iadd X dX10_draw_16 (q := 17) rfl ?_
  refine msk_1 X dX10_draw_17 (q := 18) rfl (j := 1) (by decide) (by decide) hs (fun s1 hs => ?_)
  refine g_aload_n X dX10_draw_18 (q := 19) rfl 0 rfl ?_
  refine mg_1 X dX10_draw_19 (q := 22) rfl ?_
  refine g_iconst X dX10_draw_22 (q := 23) rfl li_i1 ?_
  refine mk_1 X dX10_draw_23 (q := 24) rfl (j := 1) (by decide) (by decide) hs (fun y2 hs => ?_)
  refine g_bipush X dX10_draw_24 (q := 26) rfl li_b8 ?_
  refine g_iushr X dX10_draw_26 (q := 27) rfl ?_
  refine g_iload_n X dX10_draw_27 (q := 28) rfl 1 rfl ?_
  have hz := (Gz_e hs).1
  replace hs := (Gz_e hs).2
  refine g_irem X dX10_draw_28 (q := 29) rfl hz ?_
  exact RI _ 29 _ _ _ (rU1 hs) rfl (rV1 hs) dX10_draw_29
theorem v_draw {p : Program} {l : Launch} {e : Env} {st : State} {m : MethodId} {args : Array Value} {below : List Frame} {meth : Method} {c : Code} {Q : State → Prop} {nL : Nat} {cc : ByteArray} {s : ST} {pc q : Nat} {lv : List (Nat × Value)} {rest : List Value} {D : va_G} {cA : ClassId} {h : Nat → Nat} {d0 : Nat} (X : Cx (KM D cA h) p st m args meth c cc nL RX10) {x1 : Int32} (d : decode cc pc = .ok (.invokevirtual 378, 3)) (hq : pc + 3 = q) (hd1 : 1 + 1 ≤ d0) (hd2 : 8 + (2 + 11) + 100 * 1 ≤ 100 * d0) (hr : (rest.map fun v => v.category).sum ≤ 8) {B : Type} {f : Int32 × ST → Option B} {r : B} (hs : Bd (M_draw s x1) f = some r) (k : ∀ y, f y = some r → WG (KM D cA h) p l e (rmD d0) st m args below meth c Q nL y.2 q lv (.int y.1 :: rest)) : WG (KM D cA h) p l e (rmD d0) st m args below meth c Q nL s pc lv (.int x1 :: .ref (h 0) :: rest) := by
  obtain ⟨v, hv, hs⟩ := Bd_e hs
  exact cV_I X 0 (n := 1) (k_draw l D cA h s x1 hv) gv_X10_draw ⟨hd1, hd2⟩ ⟨by decide, by decide, by decide +kernel⟩ (As := [.int x1]) rfl hr (Nat.le_of_ble_eq_true rfl) (fs := mF h (s.1 0)) rfl rfl rfl d hq (k _ hs)
theorem dX10_wide_0 : decode cX10_wide 0 = .ok (.aload_n 0, 1) := by decide +kernel
theorem dX10_wide_1 : decode cX10_wide 1 = .ok (.getfield 98, 3) := by decide +kernel
theorem dX10_wide_4 : decode cX10_wide 4 = .ok (.iconst 5, 1) := by decide +kernel
theorem dX10_wide_5 : decode cX10_wide 5 = .ok (.iadd, 1) := by decide +kernel
theorem dX10_wide_6 : decode cX10_wide 6 = .ok (.ireturn, 1) := by decide +kernel
def M_wide (s : ST) : Int32 := ((s.1 0 6) + (5 : Int32))
set_option maxRecDepth 100000 in
set_option maxHeartbeats 4000000 in
theorem k_wide (l : Launch) (D : va_G) (cA : ClassId) (h : Nat → Nat) (s : ST) : MI l (KM D cA h) 1 yX10_wide cX10_wide 1 (some .int) s [.ref (h 0)] (M_wide s) s := by
  refine met_i (by decide) (Nat.le_of_ble_eq_true rfl) ?_
  intro p e st m args below meth c Q X RI
  generalize hs : M_wide s = o at RI
  unfold M_wide at hs
  refine g_aload_n X dX10_wide_0 (q := 1) rfl 0 rfl ?_
  refine mg_6 X dX10_wide_1 (q := 4) rfl ?_
  refine g_iconst X dX10_wide_4 (q := 5) rfl li_i5 ?_
  refine g_iadd X dX10_wide_5 (q := 6) rfl ?_
  exact RI _ 6 _ _ _ rfl rfl hs dX10_wide_6
theorem v_wide {p : Program} {l : Launch} {e : Env} {st : State} {m : MethodId} {args : Array Value} {below : List Frame} {meth : Method} {c : Code} {Q : State → Prop} {nL : Nat} {cc : ByteArray} {s : ST} {pc q : Nat} {lv : List (Nat × Value)} {rest : List Value} {D : va_G} {cA : ClassId} {h : Nat → Nat} {d0 : Nat} (X : Cx (KM D cA h) p st m args meth c cc nL RX10) (d : decode cc pc = .ok (.invokevirtual 104, 3)) (hq : pc + 3 = q) (hd1 : 1 + 1 ≤ d0) (hd2 : 8 + (1 + 11) + 100 * 1 ≤ 100 * d0) (hr : (rest.map fun v => v.category).sum ≤ 8) {B : Type} {f : Int32 → B} {r : B} (hs : Lt (M_wide s) f = r) (k : ∀ y, f y = r → WG (KM D cA h) p l e (rmD d0) st m args below meth c Q nL s q lv (.int y :: rest)) : WG (KM D cA h) p l e (rmD d0) st m args below meth c Q nL s pc lv (.ref (h 0) :: rest) := by
  exact cV_I X 0 (n := 0) (k_wide l D cA h s) gv_X10_wide ⟨hd1, hd2⟩ ⟨by decide, by decide, by decide +kernel⟩ (As := []) rfl hr (Nat.le_of_ble_eq_true rfl) (fs := mF h (s.1 0)) rfl rfl rfl d hq (k _ hs)
theorem dX10_high_0 : decode cX10_high 0 = .ok (.aload_n 0, 1) := by decide +kernel
theorem dX10_high_1 : decode cX10_high 1 = .ok (.getfield 101, 3) := by decide +kernel
theorem dX10_high_4 : decode cX10_high 4 = .ok (.iconst 4, 1) := by decide +kernel
theorem dX10_high_5 : decode cX10_high 5 = .ok (.iadd, 1) := by decide +kernel
theorem dX10_high_6 : decode cX10_high 6 = .ok (.ireturn, 1) := by decide +kernel
def M_high (s : ST) : Int32 := ((s.1 0 7) + (4 : Int32))
set_option maxRecDepth 100000 in
set_option maxHeartbeats 4000000 in
theorem k_high (l : Launch) (D : va_G) (cA : ClassId) (h : Nat → Nat) (s : ST) : MI l (KM D cA h) 1 yX10_high cX10_high 1 (some .int) s [.ref (h 0)] (M_high s) s := by
  refine met_i (by decide) (Nat.le_of_ble_eq_true rfl) ?_
  intro p e st m args below meth c Q X RI
  generalize hs : M_high s = o at RI
  unfold M_high at hs
  refine g_aload_n X dX10_high_0 (q := 1) rfl 0 rfl ?_
  refine mg_7 X dX10_high_1 (q := 4) rfl ?_
  refine g_iconst X dX10_high_4 (q := 5) rfl li_i4 ?_
  refine g_iadd X dX10_high_5 (q := 6) rfl ?_
  exact RI _ 6 _ _ _ rfl rfl hs dX10_high_6
theorem v_high {p : Program} {l : Launch} {e : Env} {st : State} {m : MethodId} {args : Array Value} {below : List Frame} {meth : Method} {c : Code} {Q : State → Prop} {nL : Nat} {cc : ByteArray} {s : ST} {pc q : Nat} {lv : List (Nat × Value)} {rest : List Value} {D : va_G} {cA : ClassId} {h : Nat → Nat} {d0 : Nat} (X : Cx (KM D cA h) p st m args meth c cc nL RX10) (d : decode cc pc = .ok (.invokevirtual 108, 3)) (hq : pc + 3 = q) (hd1 : 1 + 1 ≤ d0) (hd2 : 8 + (1 + 11) + 100 * 1 ≤ 100 * d0) (hr : (rest.map fun v => v.category).sum ≤ 8) {B : Type} {f : Int32 → B} {r : B} (hs : Lt (M_high s) f = r) (k : ∀ y, f y = r → WG (KM D cA h) p l e (rmD d0) st m args below meth c Q nL s q lv (.int y :: rest)) : WG (KM D cA h) p l e (rmD d0) st m args below meth c Q nL s pc lv (.ref (h 0) :: rest) := by
  exact cV_I X 0 (n := 0) (k_high l D cA h s) gv_X10_high ⟨hd1, hd2⟩ ⟨by decide, by decide, by decide +kernel⟩ (As := []) rfl hr (Nat.le_of_ble_eq_true rfl) (fs := mF h (s.1 0)) rfl rfl rfl d hq (k _ hs)
theorem dX10_isCell_0 : decode cX10_isCell 0 = .ok (.iload_n 1, 1) := by decide +kernel
theorem dX10_isCell_1 : decode cX10_isCell 1 = .ok (.ifCond .lt 35, 3) := by decide +kernel
theorem dX10_isCell_4 : decode cX10_isCell 4 = .ok (.iload_n 1, 1) := by decide +kernel
theorem dX10_isCell_5 : decode cX10_isCell 5 = .ok (.bipush 64, 2) := by decide +kernel
theorem dX10_isCell_7 : decode cX10_isCell 7 = .ok (.if_icmp .ge 29, 3) := by decide +kernel
theorem dX10_isCell_10 : decode cX10_isCell 10 = .ok (.iload_n 1, 1) := by decide +kernel
theorem dX10_isCell_11 : decode cX10_isCell 11 = .ok (.bipush 8, 2) := by decide +kernel
theorem dX10_isCell_13 : decode cX10_isCell 13 = .ok (.irem, 1) := by decide +kernel
theorem dX10_isCell_14 : decode cX10_isCell 14 = .ok (.aload_n 0, 1) := by decide +kernel
theorem dX10_isCell_15 : decode cX10_isCell 15 = .ok (.invokevirtual 104, 3) := by decide +kernel
theorem dX10_isCell_18 : decode cX10_isCell 18 = .ok (.if_icmp .ge 18, 3) := by decide +kernel
theorem dX10_isCell_21 : decode cX10_isCell 21 = .ok (.iload_n 1, 1) := by decide +kernel
theorem dX10_isCell_22 : decode cX10_isCell 22 = .ok (.bipush 8, 2) := by decide +kernel
theorem dX10_isCell_24 : decode cX10_isCell 24 = .ok (.idiv, 1) := by decide +kernel
theorem dX10_isCell_25 : decode cX10_isCell 25 = .ok (.aload_n 0, 1) := by decide +kernel
theorem dX10_isCell_26 : decode cX10_isCell 26 = .ok (.invokevirtual 108, 3) := by decide +kernel
theorem dX10_isCell_29 : decode cX10_isCell 29 = .ok (.if_icmp .ge 7, 3) := by decide +kernel
theorem dX10_isCell_32 : decode cX10_isCell 32 = .ok (.iconst 1, 1) := by decide +kernel
theorem dX10_isCell_33 : decode cX10_isCell 33 = .ok (.goto 4, 3) := by decide +kernel
theorem dX10_isCell_36 : decode cX10_isCell 36 = .ok (.iconst 0, 1) := by decide +kernel
theorem dX10_isCell_37 : decode cX10_isCell 37 = .ok (.ireturn, 1) := by decide +kernel
def M_isCell (s : ST) (x1 : Int32) : Int32 := if x1 < 0 then ((0 : Int32)) else (if (64 : Int32) ≤ x1 then ((0 : Int32)) else (Lt (M_wide s) fun y1 => if y1 ≤ (irm x1 (8 : Int32)) then ((0 : Int32)) else (Lt (M_high s) fun y2 => if y2 ≤ (x1 / (8 : Int32)) then ((0 : Int32)) else ((1 : Int32)))))
set_option maxRecDepth 100000 in
set_option maxHeartbeats 4000000 in
theorem k_isCell (l : Launch) (D : va_G) (cA : ClassId) (h : Nat → Nat) (s : ST) (x1 : Int32) : MI l (KM D cA h) 2 yX10_isCell cX10_isCell 2 (some .boolean) s [.ref (h 0), .int x1] (M_isCell s x1) s := by
  refine met_i (by decide) (Nat.le_of_ble_eq_true rfl) ?_
  intro p e st m args below meth c Q X RI
  generalize hs : M_isCell s x1 = o at RI
  unfold M_isCell at hs
  refine g_iload_n X dX10_isCell_0 (q := 1) rfl 1 rfl ?_
  refine g_if_lt X dX10_isCell_1 (q := 4) rfl (tgt := 36) (by decide) hs ?_ ?_
  · intro hs
    refine g_iconst X dX10_isCell_36 (q := 37) rfl li_i0 ?_
    exact RI _ 37 _ _ _ rfl rfl hs dX10_isCell_37
  · intro hs
    refine g_iload_n X dX10_isCell_4 (q := 5) rfl 1 rfl ?_
    refine g_bipush X dX10_isCell_5 (q := 7) rfl li_b64 ?_
    refine g_icmp_ge X dX10_isCell_7 (q := 10) rfl (tgt := 36) (by decide) hs ?_ ?_
    · intro hs
      refine g_iconst X dX10_isCell_36 (q := 37) rfl li_i0 ?_
      exact RI _ 37 _ _ _ rfl rfl hs dX10_isCell_37
    · intro hs
      refine g_iload_n X dX10_isCell_10 (q := 11) rfl 1 rfl ?_
      refine g_bipush X dX10_isCell_11 (q := 13) rfl li_b8 ?_
      refine g_irem X dX10_isCell_13 (q := 14) rfl (by decide) ?_
      refine g_aload_n X dX10_isCell_14 (q := 15) rfl 0 rfl ?_
      refine v_wide X dX10_isCell_15 (q := 18) rfl (Nat.le_of_ble_eq_true rfl) (Nat.le_of_ble_eq_true rfl) (Nat.le_of_ble_eq_true rfl) hs (fun y1 hs => ?_)
      refine g_icmp_ge X dX10_isCell_18 (q := 21) rfl (tgt := 36) (by decide) hs ?_ ?_
      · intro hs
        refine g_iconst X dX10_isCell_36 (q := 37) rfl li_i0 ?_
        exact RI _ 37 _ _ _ rfl rfl hs dX10_isCell_37
      · intro hs
        refine g_iload_n X dX10_isCell_21 (q := 22) rfl 1 rfl ?_
        refine g_bipush X dX10_isCell_22 (q := 24) rfl li_b8 ?_
        refine g_idiv X dX10_isCell_24 (q := 25) rfl (by decide) ?_
        refine g_aload_n X dX10_isCell_25 (q := 26) rfl 0 rfl ?_
        refine v_high X dX10_isCell_26 (q := 29) rfl (Nat.le_of_ble_eq_true rfl) (Nat.le_of_ble_eq_true rfl) (Nat.le_of_ble_eq_true rfl) hs (fun y2 hs => ?_)
        refine g_icmp_ge X dX10_isCell_29 (q := 32) rfl (tgt := 36) (by decide) hs ?_ ?_
        · intro hs
          refine g_iconst X dX10_isCell_36 (q := 37) rfl li_i0 ?_
          exact RI _ 37 _ _ _ rfl rfl hs dX10_isCell_37
        · intro hs
          refine g_iconst X dX10_isCell_32 (q := 33) rfl li_i1 ?_
          refine g_goto X dX10_isCell_33 (tgt := 37) (by decide) ?_
          exact RI _ 37 _ _ _ rfl rfl hs dX10_isCell_37
theorem v_isCell {p : Program} {l : Launch} {e : Env} {st : State} {m : MethodId} {args : Array Value} {below : List Frame} {meth : Method} {c : Code} {Q : State → Prop} {nL : Nat} {cc : ByteArray} {s : ST} {pc q : Nat} {lv : List (Nat × Value)} {rest : List Value} {D : va_G} {cA : ClassId} {h : Nat → Nat} {d0 : Nat} (X : Cx (KM D cA h) p st m args meth c cc nL RX10) {x1 : Int32} (d : decode cc pc = .ok (.invokevirtual 130, 3)) (hq : pc + 3 = q) (hd1 : 2 + 1 ≤ d0) (hd2 : 8 + (2 + 11) + 100 * 2 ≤ 100 * d0) (hr : (rest.map fun v => v.category).sum ≤ 8) {B : Type} {f : Int32 → B} {r : B} (hs : Lt (M_isCell s x1) f = r) (k : ∀ y, f y = r → WG (KM D cA h) p l e (rmD d0) st m args below meth c Q nL s q lv (.int y :: rest)) : WG (KM D cA h) p l e (rmD d0) st m args below meth c Q nL s pc lv (.int x1 :: .ref (h 0) :: rest) := by
  exact cV_I X 0 (n := 1) (k_isCell l D cA h s x1) gv_X10_isCell ⟨hd1, hd2⟩ ⟨by decide, by decide, by decide +kernel⟩ (As := [.int x1]) rfl hr (Nat.le_of_ble_eq_true rfl) (fs := mF h (s.1 0)) rfl rfl rfl d hq (k _ hs)
theorem dX10_wetOf_0 : decode cX10_wetOf 0 = .ok (.aload_n 0, 1) := by decide +kernel
theorem dX10_wetOf_1 : decode cX10_wetOf 1 = .ok (.getfield 7, 3) := by decide +kernel
theorem dX10_wetOf_4 : decode cX10_wetOf 4 = .ok (.iconst 5, 1) := by decide +kernel
theorem dX10_wetOf_5 : decode cX10_wetOf 5 = .ok (.iload_n 1, 1) := by decide +kernel
theorem dX10_wetOf_6 : decode cX10_wetOf 6 = .ok (.iadd, 1) := by decide +kernel
theorem dX10_wetOf_7 : decode cX10_wetOf 7 = .ok (.iaload, 1) := by decide +kernel
theorem dX10_wetOf_8 : decode cX10_wetOf 8 = .ok (.iconst 3, 1) := by decide +kernel
theorem dX10_wetOf_9 : decode cX10_wetOf 9 = .ok (.iadd, 1) := by decide +kernel
theorem dX10_wetOf_10 : decode cX10_wetOf 10 = .ok (.ireturn, 1) := by decide +kernel
def M_wetOf (s : ST) (x1 : Int32) : Option (Int32) := Gl s 1 389 ((5 : Int32) + x1) fun y1 => some (y1 + (3 : Int32))
set_option maxRecDepth 100000 in
set_option maxHeartbeats 4000000 in
theorem k_wetOf (l : Launch) (D : va_G) (cA : ClassId) (h : Nat → Nat) (s : ST) (x1 : Int32) {o : Int32} (hs : M_wetOf s x1 = some o) : MI l (KM D cA h) 1 yX10_wetOf cX10_wetOf 2 (some .int) s [.ref (h 0), .int x1] o s := by
  refine met_i (by decide) (Nat.le_of_ble_eq_true rfl) ?_
  intro p e st m args below meth c Q X RI
  unfold M_wetOf at hs
  refine g_aload_n X dX10_wetOf_0 (q := 1) rfl 0 rfl ?_
  refine mg_1 X dX10_wetOf_1 (q := 4) rfl ?_
  refine g_iconst X dX10_wetOf_4 (q := 5) rfl li_i5 ?_
  refine g_iload_n X dX10_wetOf_5 (q := 6) rfl 1 rfl ?_
  refine g_iadd X dX10_wetOf_6 (q := 7) rfl ?_
  refine ma_1 X dX10_wetOf_7 (q := 8) rfl hs (fun y1 hs => ?_)
  refine g_iconst X dX10_wetOf_8 (q := 9) rfl li_i3 ?_
  refine g_iadd X dX10_wetOf_9 (q := 10) rfl ?_
  exact RI _ 10 _ _ _ rfl rfl (Option.some.inj hs) dX10_wetOf_10
theorem v_wetOf {p : Program} {l : Launch} {e : Env} {st : State} {m : MethodId} {args : Array Value} {below : List Frame} {meth : Method} {c : Code} {Q : State → Prop} {nL : Nat} {cc : ByteArray} {s : ST} {pc q : Nat} {lv : List (Nat × Value)} {rest : List Value} {D : va_G} {cA : ClassId} {h : Nat → Nat} {d0 : Nat} (X : Cx (KM D cA h) p st m args meth c cc nL RX10) {x1 : Int32} (d : decode cc pc = .ok (.invokevirtual 311, 3)) (hq : pc + 3 = q) (hd1 : 1 + 1 ≤ d0) (hd2 : 8 + (2 + 11) + 100 * 1 ≤ 100 * d0) (hr : (rest.map fun v => v.category).sum ≤ 8) {B : Type} {f : Int32 → Option B} {r : B} (hs : Bd (M_wetOf s x1) f = some r) (k : ∀ y, f y = some r → WG (KM D cA h) p l e (rmD d0) st m args below meth c Q nL s q lv (.int y :: rest)) : WG (KM D cA h) p l e (rmD d0) st m args below meth c Q nL s pc lv (.int x1 :: .ref (h 0) :: rest) := by
  obtain ⟨v, hv, hs⟩ := Bd_e hs
  exact cV_I X 0 (n := 1) (k_wetOf l D cA h s x1 hv) gv_X10_wetOf ⟨hd1, hd2⟩ ⟨by decide, by decide, by decide +kernel⟩ (As := [.int x1]) rfl hr (Nat.le_of_ble_eq_true rfl) (fs := mF h (s.1 0)) rfl rfl rfl d hq (k _ hs)
theorem dX10_seedOf_0 : decode cX10_seedOf 0 = .ok (.aload_n 0, 1) := by decide +kernel
theorem dX10_seedOf_1 : decode cX10_seedOf 1 = .ok (.getfield 7, 3) := by decide +kernel
theorem dX10_seedOf_4 : decode cX10_seedOf 4 = .ok (.bipush 69, 2) := by decide +kernel
theorem dX10_seedOf_6 : decode cX10_seedOf 6 = .ok (.iload_n 1, 1) := by decide +kernel
theorem dX10_seedOf_7 : decode cX10_seedOf 7 = .ok (.iadd, 1) := by decide +kernel
theorem dX10_seedOf_8 : decode cX10_seedOf 8 = .ok (.iaload, 1) := by decide +kernel
theorem dX10_seedOf_9 : decode cX10_seedOf 9 = .ok (.iconst 1, 1) := by decide +kernel
theorem dX10_seedOf_10 : decode cX10_seedOf 10 = .ok (.isub, 1) := by decide +kernel
theorem dX10_seedOf_11 : decode cX10_seedOf 11 = .ok (.ireturn, 1) := by decide +kernel
def M_seedOf (s : ST) (x1 : Int32) : Option (Int32) := Gl s 1 389 ((69 : Int32) + x1) fun y1 => some (y1 - (1 : Int32))
set_option maxRecDepth 100000 in
set_option maxHeartbeats 4000000 in
theorem k_seedOf (l : Launch) (D : va_G) (cA : ClassId) (h : Nat → Nat) (s : ST) (x1 : Int32) {o : Int32} (hs : M_seedOf s x1 = some o) : MI l (KM D cA h) 1 yX10_seedOf cX10_seedOf 2 (some .int) s [.ref (h 0), .int x1] o s := by
  refine met_i (by decide) (Nat.le_of_ble_eq_true rfl) ?_
  intro p e st m args below meth c Q X RI
  unfold M_seedOf at hs
  refine g_aload_n X dX10_seedOf_0 (q := 1) rfl 0 rfl ?_
  refine mg_1 X dX10_seedOf_1 (q := 4) rfl ?_
  refine g_bipush X dX10_seedOf_4 (q := 6) rfl li_b69 ?_
  refine g_iload_n X dX10_seedOf_6 (q := 7) rfl 1 rfl ?_
  refine g_iadd X dX10_seedOf_7 (q := 8) rfl ?_
  refine ma_1 X dX10_seedOf_8 (q := 9) rfl hs (fun y1 hs => ?_)
  refine g_iconst X dX10_seedOf_9 (q := 10) rfl li_i1 ?_
  refine g_isub X dX10_seedOf_10 (q := 11) rfl ?_
  exact RI _ 11 _ _ _ rfl rfl (Option.some.inj hs) dX10_seedOf_11
theorem v_seedOf {p : Program} {l : Launch} {e : Env} {st : State} {m : MethodId} {args : Array Value} {below : List Frame} {meth : Method} {c : Code} {Q : State → Prop} {nL : Nat} {cc : ByteArray} {s : ST} {pc q : Nat} {lv : List (Nat × Value)} {rest : List Value} {D : va_G} {cA : ClassId} {h : Nat → Nat} {d0 : Nat} (X : Cx (KM D cA h) p st m args meth c cc nL RX10) {x1 : Int32} (d : decode cc pc = .ok (.invokevirtual 134, 3)) (hq : pc + 3 = q) (hd1 : 1 + 1 ≤ d0) (hd2 : 8 + (2 + 11) + 100 * 1 ≤ 100 * d0) (hr : (rest.map fun v => v.category).sum ≤ 8) {B : Type} {f : Int32 → Option B} {r : B} (hs : Bd (M_seedOf s x1) f = some r) (k : ∀ y, f y = some r → WG (KM D cA h) p l e (rmD d0) st m args below meth c Q nL s q lv (.int y :: rest)) : WG (KM D cA h) p l e (rmD d0) st m args below meth c Q nL s pc lv (.int x1 :: .ref (h 0) :: rest) := by
  obtain ⟨v, hv, hs⟩ := Bd_e hs
  exact cV_I X 0 (n := 1) (k_seedOf l D cA h s x1 hv) gv_X10_seedOf ⟨hd1, hd2⟩ ⟨by decide, by decide, by decide +kernel⟩ (As := [.int x1]) rfl hr (Nat.le_of_ble_eq_true rfl) (fs := mF h (s.1 0)) rfl rfl rfl d hq (k _ hs)
theorem dX10_stormOf_0 : decode cX10_stormOf 0 = .ok (.aload_n 0, 1) := by decide +kernel
theorem dX10_stormOf_1 : decode cX10_stormOf 1 = .ok (.getfield 7, 3) := by decide +kernel
theorem dX10_stormOf_4 : decode cX10_stormOf 4 = .ok (.sipush 197, 3) := by decide +kernel
theorem dX10_stormOf_7 : decode cX10_stormOf 7 = .ok (.iload_n 1, 1) := by decide +kernel
theorem dX10_stormOf_8 : decode cX10_stormOf 8 = .ok (.iadd, 1) := by decide +kernel
theorem dX10_stormOf_9 : decode cX10_stormOf 9 = .ok (.iaload, 1) := by decide +kernel
theorem dX10_stormOf_10 : decode cX10_stormOf 10 = .ok (.iconst 1, 1) := by decide +kernel
theorem dX10_stormOf_11 : decode cX10_stormOf 11 = .ok (.isub, 1) := by decide +kernel
theorem dX10_stormOf_12 : decode cX10_stormOf 12 = .ok (.ireturn, 1) := by decide +kernel
def M_stormOf (s : ST) (x1 : Int32) : Option (Int32) := Gl s 1 389 ((197 : Int32) + x1) fun y1 => some (y1 - (1 : Int32))
set_option maxRecDepth 100000 in
set_option maxHeartbeats 4000000 in
theorem k_stormOf (l : Launch) (D : va_G) (cA : ClassId) (h : Nat → Nat) (s : ST) (x1 : Int32) {o : Int32} (hs : M_stormOf s x1 = some o) : MI l (KM D cA h) 1 yX10_stormOf cX10_stormOf 2 (some .int) s [.ref (h 0), .int x1] o s := by
  refine met_i (by decide) (Nat.le_of_ble_eq_true rfl) ?_
  intro p e st m args below meth c Q X RI
  unfold M_stormOf at hs
  refine g_aload_n X dX10_stormOf_0 (q := 1) rfl 0 rfl ?_
  refine mg_1 X dX10_stormOf_1 (q := 4) rfl ?_
  refine g_sipush X dX10_stormOf_4 (q := 7) rfl li_s197 ?_
  refine g_iload_n X dX10_stormOf_7 (q := 8) rfl 1 rfl ?_
  refine g_iadd X dX10_stormOf_8 (q := 9) rfl ?_
  refine ma_1 X dX10_stormOf_9 (q := 10) rfl hs (fun y1 hs => ?_)
  refine g_iconst X dX10_stormOf_10 (q := 11) rfl li_i1 ?_
  refine g_isub X dX10_stormOf_11 (q := 12) rfl ?_
  exact RI _ 12 _ _ _ rfl rfl (Option.some.inj hs) dX10_stormOf_12
theorem v_stormOf {p : Program} {l : Launch} {e : Env} {st : State} {m : MethodId} {args : Array Value} {below : List Frame} {meth : Method} {c : Code} {Q : State → Prop} {nL : Nat} {cc : ByteArray} {s : ST} {pc q : Nat} {lv : List (Nat × Value)} {rest : List Value} {D : va_G} {cA : ClassId} {h : Nat → Nat} {d0 : Nat} (X : Cx (KM D cA h) p st m args meth c cc nL RX10) {x1 : Int32} (d : decode cc pc = .ok (.invokevirtual 308, 3)) (hq : pc + 3 = q) (hd1 : 1 + 1 ≤ d0) (hd2 : 8 + (2 + 11) + 100 * 1 ≤ 100 * d0) (hr : (rest.map fun v => v.category).sum ≤ 8) {B : Type} {f : Int32 → Option B} {r : B} (hs : Bd (M_stormOf s x1) f = some r) (k : ∀ y, f y = some r → WG (KM D cA h) p l e (rmD d0) st m args below meth c Q nL s q lv (.int y :: rest)) : WG (KM D cA h) p l e (rmD d0) st m args below meth c Q nL s pc lv (.int x1 :: .ref (h 0) :: rest) := by
  obtain ⟨v, hv, hs⟩ := Bd_e hs
  exact cV_I X 0 (n := 1) (k_stormOf l D cA h s x1 hv) gv_X10_stormOf ⟨hd1, hd2⟩ ⟨by decide, by decide, by decide +kernel⟩ (As := [.int x1]) rfl hr (Nat.le_of_ble_eq_true rfl) (fs := mF h (s.1 0)) rfl rfl rfl d hq (k _ hs)
theorem dX10_wind_0 : decode cX10_wind 0 = .ok (.aload_n 0, 1) := by decide +kernel
theorem dX10_wind_1 : decode cX10_wind 1 = .ok (.getfield 7, 3) := by decide +kernel
theorem dX10_wind_4 : decode cX10_wind 4 = .ok (.iconst 3, 1) := by decide +kernel
theorem dX10_wind_5 : decode cX10_wind 5 = .ok (.iaload, 1) := by decide +kernel
theorem dX10_wind_6 : decode cX10_wind 6 = .ok (.iconst 1, 1) := by decide +kernel
theorem dX10_wind_7 : decode cX10_wind 7 = .ok (.iadd, 1) := by decide +kernel
theorem dX10_wind_8 : decode cX10_wind 8 = .ok (.iconst 4, 1) := by decide +kernel
theorem dX10_wind_9 : decode cX10_wind 9 = .ok (.irem, 1) := by decide +kernel
theorem dX10_wind_10 : decode cX10_wind 10 = .ok (.ireturn, 1) := by decide +kernel
def M_wind (s : ST) : Int32 := Lt (s.1 1 3) fun y1 => (irm (y1 + (1 : Int32)) (4 : Int32))
set_option maxRecDepth 100000 in
set_option maxHeartbeats 4000000 in
theorem k_wind (l : Launch) (D : va_G) (cA : ClassId) (h : Nat → Nat) (s : ST) : MI l (KM D cA h) 1 yX10_wind cX10_wind 1 (some .int) s [.ref (h 0)] (M_wind s) s := by
  refine met_i (by decide) (Nat.le_of_ble_eq_true rfl) ?_
  intro p e st m args below meth c Q X RI
  generalize hs : M_wind s = o at RI
  unfold M_wind at hs
  refine g_aload_n X dX10_wind_0 (q := 1) rfl 0 rfl ?_
  refine mg_1 X dX10_wind_1 (q := 4) rfl ?_
  refine g_iconst X dX10_wind_4 (q := 5) rfl li_i3 ?_
  refine mk_1 X dX10_wind_5 (q := 6) rfl (j := 3) (by decide) (by decide) hs (fun y1 hs => ?_)
  refine g_iconst X dX10_wind_6 (q := 7) rfl li_i1 ?_
  refine g_iadd X dX10_wind_7 (q := 8) rfl ?_
  refine g_iconst X dX10_wind_8 (q := 9) rfl li_i4 ?_
  refine g_irem X dX10_wind_9 (q := 10) rfl (by decide) ?_
  exact RI _ 10 _ _ _ rfl rfl hs dX10_wind_10
theorem v_wind {p : Program} {l : Launch} {e : Env} {st : State} {m : MethodId} {args : Array Value} {below : List Frame} {meth : Method} {c : Code} {Q : State → Prop} {nL : Nat} {cc : ByteArray} {s : ST} {pc q : Nat} {lv : List (Nat × Value)} {rest : List Value} {D : va_G} {cA : ClassId} {h : Nat → Nat} {d0 : Nat} (X : Cx (KM D cA h) p st m args meth c cc nL RX10) (d : decode cc pc = .ok (.invokevirtual 348, 3)) (hq : pc + 3 = q) (hd1 : 1 + 1 ≤ d0) (hd2 : 8 + (1 + 11) + 100 * 1 ≤ 100 * d0) (hr : (rest.map fun v => v.category).sum ≤ 8) {B : Type} {f : Int32 → B} {r : B} (hs : Lt (M_wind s) f = r) (k : ∀ y, f y = r → WG (KM D cA h) p l e (rmD d0) st m args below meth c Q nL s q lv (.int y :: rest)) : WG (KM D cA h) p l e (rmD d0) st m args below meth c Q nL s pc lv (.ref (h 0) :: rest) := by
  exact cV_I X 0 (n := 0) (k_wind l D cA h s) gv_X10_wind ⟨hd1, hd2⟩ ⟨by decide, by decide, by decide +kernel⟩ (As := []) rfl hr (Nat.le_of_ble_eq_true rfl) (fs := mF h (s.1 0)) rfl rfl rfl d hq (k _ hs)
theorem dX10_turnsTo_0 : decode cX10_turnsTo 0 = .ok (.aload_n 0, 1) := by decide +kernel
theorem dX10_turnsTo_1 : decode cX10_turnsTo 1 = .ok (.getfield 7, 3) := by decide +kernel
theorem dX10_turnsTo_4 : decode cX10_turnsTo 4 = .ok (.iconst 3, 1) := by decide +kernel
theorem dX10_turnsTo_5 : decode cX10_turnsTo 5 = .ok (.iload_n 1, 1) := by decide +kernel
theorem dX10_turnsTo_6 : decode cX10_turnsTo 6 = .ok (.iconst 3, 1) := by decide +kernel
theorem dX10_turnsTo_7 : decode cX10_turnsTo 7 = .ok (.iadd, 1) := by decide +kernel
theorem dX10_turnsTo_8 : decode cX10_turnsTo 8 = .ok (.iconst 4, 1) := by decide +kernel
theorem dX10_turnsTo_9 : decode cX10_turnsTo 9 = .ok (.irem, 1) := by decide +kernel
theorem dX10_turnsTo_10 : decode cX10_turnsTo 10 = .ok (.iastore, 1) := by decide +kernel
theorem dX10_turnsTo_11 : decode cX10_turnsTo 11 = .ok (.return_, 1) := by decide +kernel
def M_turnsTo (s : ST) (x1 : Int32) : ST := Lt (ups s 1 3 (irm (x1 + (3 : Int32)) (4 : Int32))) fun s1 => s1
set_option maxRecDepth 100000 in
set_option maxHeartbeats 4000000 in
theorem k_turnsTo (l : Launch) (D : va_G) (cA : ClassId) (h : Nat → Nat) (s : ST) (x1 : Int32) : MV l (KM D cA h) 1 yX10_turnsTo cX10_turnsTo 2 none s [.ref (h 0), .int x1] (M_turnsTo s x1) := by
  refine met_v (by decide) (Nat.le_of_ble_eq_true rfl) ?_
  intro p e st m args below meth c Q X RI
  generalize hs : M_turnsTo s x1 = o at RI
  unfold M_turnsTo at hs
  refine g_aload_n X dX10_turnsTo_0 (q := 1) rfl 0 rfl ?_
  refine mg_1 X dX10_turnsTo_1 (q := 4) rfl ?_
  refine g_iconst X dX10_turnsTo_4 (q := 5) rfl li_i3 ?_
  refine g_iload_n X dX10_turnsTo_5 (q := 6) rfl 1 rfl ?_
  refine g_iconst X dX10_turnsTo_6 (q := 7) rfl li_i3 ?_
  refine g_iadd X dX10_turnsTo_7 (q := 8) rfl ?_
  refine g_iconst X dX10_turnsTo_8 (q := 9) rfl li_i4 ?_
  refine g_irem X dX10_turnsTo_9 (q := 10) rfl (by decide) ?_
  refine msk_1 X dX10_turnsTo_10 (q := 11) rfl (j := 3) (by decide) (by decide) hs (fun s1 hs => ?_)
  exact RI _ 11 _ hs dX10_turnsTo_11
theorem v_turnsTo {p : Program} {l : Launch} {e : Env} {st : State} {m : MethodId} {args : Array Value} {below : List Frame} {meth : Method} {c : Code} {Q : State → Prop} {nL : Nat} {cc : ByteArray} {s : ST} {pc q : Nat} {lv : List (Nat × Value)} {rest : List Value} {D : va_G} {cA : ClassId} {h : Nat → Nat} {d0 : Nat} (X : Cx (KM D cA h) p st m args meth c cc nL RX10) {x1 : Int32} (d : decode cc pc = .ok (.invokevirtual 351, 3)) (hq : pc + 3 = q) (hd1 : 1 + 1 ≤ d0) (hd2 : 8 + (2 + 11) + 100 * 1 ≤ 100 * d0) (hr : (rest.map fun v => v.category).sum ≤ 8) {B : Type} {f : ST → B} {r : B} (hs : Lt (M_turnsTo s x1) f = r) (k : ∀ y, f y = r → WG (KM D cA h) p l e (rmD d0) st m args below meth c Q nL y q lv (rest)) : WG (KM D cA h) p l e (rmD d0) st m args below meth c Q nL s pc lv (.int x1 :: .ref (h 0) :: rest) := by
  exact cV_V X 0 (n := 1) (k_turnsTo l D cA h s x1) gv_X10_turnsTo ⟨hd1, hd2⟩ ⟨by decide, by decide, by decide +kernel⟩ (As := [.int x1]) rfl hr (Nat.le_of_ble_eq_true rfl) (fs := mF h (s.1 0)) rfl rfl rfl d hq (k _ hs)
theorem dX10_land_0 : decode cX10_land 0 = .ok (.aload_n 0, 1) := by decide +kernel
theorem dX10_land_1 : decode cX10_land 1 = .ok (.iconst 0, 1) := by decide +kernel
theorem dX10_land_2 : decode cX10_land 2 = .ok (.putfield 83, 3) := by decide +kernel
theorem dX10_land_5 : decode cX10_land 5 = .ok (.aload_n 0, 1) := by decide +kernel
theorem dX10_land_6 : decode cX10_land 6 = .ok (.iload_n 1, 1) := by decide +kernel
theorem dX10_land_7 : decode cX10_land 7 = .ok (.iconst 2, 1) := by decide +kernel
theorem dX10_land_8 : decode cX10_land 8 = .ok (.bipush 7, 2) := by decide +kernel
theorem dX10_land_10 : decode cX10_land 10 = .ok (.invokevirtual 111, 3) := by decide +kernel
theorem dX10_land_13 : decode cX10_land 13 = .ok (.ifCond .eq 14, 3) := by decide +kernel
theorem dX10_land_16 : decode cX10_land 16 = .ok (.aload_n 0, 1) := by decide +kernel
theorem dX10_land_17 : decode cX10_land 17 = .ok (.iload_n 2, 1) := by decide +kernel
theorem dX10_land_18 : decode cX10_land 18 = .ok (.iconst 2, 1) := by decide +kernel
theorem dX10_land_19 : decode cX10_land 19 = .ok (.bipush 7, 2) := by decide +kernel
theorem dX10_land_21 : decode cX10_land 21 = .ok (.invokevirtual 111, 3) := by decide +kernel
theorem dX10_land_24 : decode cX10_land 24 = .ok (.ifCond .ne 5, 3) := by decide +kernel
theorem dX10_land_27 : decode cX10_land 27 = .ok (.iconst 0, 1) := by decide +kernel
theorem dX10_land_28 : decode cX10_land 28 = .ok (.ireturn, 1) := by decide +kernel
theorem dX10_land_29 : decode cX10_land 29 = .ok (.aload_n 0, 1) := by decide +kernel
theorem dX10_land_30 : decode cX10_land 30 = .ok (.iload_n 1, 1) := by decide +kernel
theorem dX10_land_31 : decode cX10_land 31 = .ok (.iconst 5, 1) := by decide +kernel
theorem dX10_land_32 : decode cX10_land 32 = .ok (.isub, 1) := by decide +kernel
theorem dX10_land_33 : decode cX10_land 33 = .ok (.putfield 98, 3) := by decide +kernel
theorem dX10_land_36 : decode cX10_land 36 = .ok (.aload_n 0, 1) := by decide +kernel
theorem dX10_land_37 : decode cX10_land 37 = .ok (.iload_n 2, 1) := by decide +kernel
theorem dX10_land_38 : decode cX10_land 38 = .ok (.iconst 4, 1) := by decide +kernel
theorem dX10_land_39 : decode cX10_land 39 = .ok (.isub, 1) := by decide +kernel
theorem dX10_land_40 : decode cX10_land 40 = .ok (.putfield 101, 3) := by decide +kernel
theorem dX10_land_43 : decode cX10_land 43 = .ok (.aload_n 0, 1) := by decide +kernel
theorem dX10_land_44 : decode cX10_land 44 = .ok (.getfield 7, 3) := by decide +kernel
theorem dX10_land_47 : decode cX10_land 47 = .ok (.iconst 1, 1) := by decide +kernel
theorem dX10_land_48 : decode cX10_land 48 = .ok (.iaload, 1) := by decide +kernel
theorem dX10_land_49 : decode cX10_land 49 = .ok (.istore_n 3, 1) := by decide +kernel
theorem dX10_land_50 : decode cX10_land 50 = .ok (.iconst 0, 1) := by decide +kernel
theorem dX10_land_51 : decode cX10_land 51 = .ok (.istore 4, 2) := by decide +kernel
theorem dX10_land_53 : decode cX10_land 53 = .ok (.iload 4, 2) := by decide +kernel
theorem dX10_land_55 : decode cX10_land 55 = .ok (.sipush 389, 3) := by decide +kernel
theorem dX10_land_58 : decode cX10_land 58 = .ok (.if_icmp .ge 17, 3) := by decide +kernel
theorem dX10_land_61 : decode cX10_land 61 = .ok (.aload_n 0, 1) := by decide +kernel
theorem dX10_land_62 : decode cX10_land 62 = .ok (.getfield 7, 3) := by decide +kernel
theorem dX10_land_65 : decode cX10_land 65 = .ok (.iload 4, 2) := by decide +kernel
theorem dX10_land_67 : decode cX10_land 67 = .ok (.iconst 0, 1) := by decide +kernel
theorem dX10_land_68 : decode cX10_land 68 = .ok (.iastore, 1) := by decide +kernel
theorem dX10_land_69 : decode cX10_land 69 = .ok (.iinc 4 1, 3) := by decide +kernel
theorem dX10_land_72 : decode cX10_land 72 = .ok (.goto (-19), 3) := by decide +kernel
theorem dX10_land_75 : decode cX10_land 75 = .ok (.aload_n 0, 1) := by decide +kernel
theorem dX10_land_76 : decode cX10_land 76 = .ok (.getfield 7, 3) := by decide +kernel
theorem dX10_land_79 : decode cX10_land 79 = .ok (.iconst 1, 1) := by decide +kernel
theorem dX10_land_80 : decode cX10_land 80 = .ok (.iload_n 3, 1) := by decide +kernel
theorem dX10_land_81 : decode cX10_land 81 = .ok (.iastore, 1) := by decide +kernel
theorem dX10_land_82 : decode cX10_land 82 = .ok (.iconst 0, 1) := by decide +kernel
theorem dX10_land_83 : decode cX10_land 83 = .ok (.istore 4, 2) := by decide +kernel
theorem dX10_land_85 : decode cX10_land 85 = .ok (.iload 4, 2) := by decide +kernel
theorem dX10_land_87 : decode cX10_land 87 = .ok (.bipush 64, 2) := by decide +kernel
theorem dX10_land_89 : decode cX10_land 89 = .ok (.if_icmp .ge 17, 3) := by decide +kernel
theorem dX10_land_92 : decode cX10_land 92 = .ok (.aload_n 0, 1) := by decide +kernel
theorem dX10_land_93 : decode cX10_land 93 = .ok (.getfield 19, 3) := by decide +kernel
theorem dX10_land_96 : decode cX10_land 96 = .ok (.iload 4, 2) := by decide +kernel
theorem dX10_land_98 : decode cX10_land 98 = .ok (.iconst 0, 1) := by decide +kernel
theorem dX10_land_99 : decode cX10_land 99 = .ok (.iastore, 1) := by decide +kernel
theorem dX10_land_100 : decode cX10_land 100 = .ok (.iinc 4 1, 3) := by decide +kernel
theorem dX10_land_103 : decode cX10_land 103 = .ok (.goto (-18), 3) := by decide +kernel
theorem dX10_land_106 : decode cX10_land 106 = .ok (.aload_n 0, 1) := by decide +kernel
theorem dX10_land_107 : decode cX10_land 107 = .ok (.iconst 0, 1) := by decide +kernel
theorem dX10_land_108 : decode cX10_land 108 = .ok (.putfield 115, 3) := by decide +kernel
theorem dX10_land_111 : decode cX10_land 111 = .ok (.aload_n 0, 1) := by decide +kernel
theorem dX10_land_112 : decode cX10_land 112 = .ok (.iconst 0, 1) := by decide +kernel
theorem dX10_land_113 : decode cX10_land 113 = .ok (.putfield 118, 3) := by decide +kernel
theorem dX10_land_116 : decode cX10_land 116 = .ok (.aload_n 0, 1) := by decide +kernel
theorem dX10_land_117 : decode cX10_land 117 = .ok (.iconst 0, 1) := by decide +kernel
theorem dX10_land_118 : decode cX10_land 118 = .ok (.putfield 121, 3) := by decide +kernel
theorem dX10_land_121 : decode cX10_land 121 = .ok (.aload_n 0, 1) := by decide +kernel
theorem dX10_land_122 : decode cX10_land 122 = .ok (.iconst 0, 1) := by decide +kernel
theorem dX10_land_123 : decode cX10_land 123 = .ok (.putfield 124, 3) := by decide +kernel
theorem dX10_land_126 : decode cX10_land 126 = .ok (.aload_n 0, 1) := by decide +kernel
theorem dX10_land_127 : decode cX10_land 127 = .ok (.iconst 0, 1) := by decide +kernel
theorem dX10_land_128 : decode cX10_land 128 = .ok (.putfield 127, 3) := by decide +kernel
theorem dX10_land_131 : decode cX10_land 131 = .ok (.aload_n 0, 1) := by decide +kernel
theorem dX10_land_132 : decode cX10_land 132 = .ok (.getfield 31, 3) := by decide +kernel
theorem dX10_land_135 : decode cX10_land 135 = .ok (.iconst 1, 1) := by decide +kernel
theorem dX10_land_136 : decode cX10_land 136 = .ok (.iconst 0, 1) := by decide +kernel
theorem dX10_land_137 : decode cX10_land 137 = .ok (.iastore, 1) := by decide +kernel
theorem dX10_land_138 : decode cX10_land 138 = .ok (.aload_n 0, 1) := by decide +kernel
theorem dX10_land_139 : decode cX10_land 139 = .ok (.iconst 0, 1) := by decide +kernel
theorem dX10_land_140 : decode cX10_land 140 = .ok (.putfield 86, 3) := by decide +kernel
theorem dX10_land_143 : decode cX10_land 143 = .ok (.iconst 1, 1) := by decide +kernel
theorem dX10_land_144 : decode cX10_land 144 = .ok (.ireturn, 1) := by decide +kernel
def M_land (s : ST) (x1 : Int32) (x2 : Int32) : Option (Int32 × ST) := Lt (ups s 0 0 (0 : Int32)) fun s1 => Lt (M_isIn s1 x1 (2 : Int32) (7 : Int32)) fun y1 => if y1 = 0 then (some ((0 : Int32), s1)) else (Lt (M_isIn s1 x2 (2 : Int32) (7 : Int32)) fun y2 => if y2 = 0 then (some ((0 : Int32), s1)) else (Lt (ups s1 0 6 (x1 - (5 : Int32))) fun s2 => Lt (ups s2 0 7 (x2 - (4 : Int32))) fun s3 => Lt (s3.1 1 1) fun y3 => lpK2 (C := Int32 × ST) (fun (rec1 : Int32 → ST → Option (Int32 × ST)) (a1 : Int32) (s4 : ST) => if (389 : Int32) ≤ a1 then (Lt (ups s4 1 1 y3) fun s5 => lpK2 (C := Int32 × ST) (fun (rec2 : Int32 → ST → Option (Int32 × ST)) (a2 : Int32) (s6 : ST) => if (64 : Int32) ≤ a2 then (Lt (ups s6 0 8 (0 : Int32)) fun s7 => Lt (ups s7 0 34 (0 : Int32)) fun s8 => Lt (ups s8 0 36 (0 : Int32)) fun s9 => Lt (ups s9 0 40 (0 : Int32)) fun s10 => Lt (ups s10 0 42 (0 : Int32)) fun s11 => Lt (ups s11 8 1 (0 : Int32)) fun s12 => Lt (ups s12 0 3 (0 : Int32)) fun s13 => some ((1 : Int32), s13)) else (Gs s6 4 64 a2 (0 : Int32) fun s14 => rec2 (a2 + (1 : Int32)) s14)) FU (0 : Int32) s5) else (Gs s4 1 389 a1 (0 : Int32) fun s15 => rec1 (a1 + (1 : Int32)) s15)) FU (0 : Int32) s3))
set_option maxRecDepth 100000 in
set_option maxHeartbeats 4000000 in
theorem k_land (l : Launch) (D : va_G) (cA : ClassId) (h : Nat → Nat) (s : ST) (x1 : Int32) (x2 : Int32) {o : Int32 × ST} (hs : M_land s x1 x2 = some o) : MI l (KM D cA h) 2 yX10_land cX10_land 5 (some .boolean) s [.ref (h 0), .int x1, .int x2] o.1 o.2 := by
  refine met_i (by decide) (Nat.le_of_ble_eq_true rfl) ?_
  intro p e st m args below meth c Q X RI
  unfold M_land at hs
  refine g_aload_n X dX10_land_0 (q := 1) rfl 0 rfl ?_
  refine g_iconst X dX10_land_1 (q := 2) rfl li_i0 ?_
  refine mp_0 X dX10_land_2 (q := 5) rfl hs (fun s1 hs => ?_)
  refine g_aload_n X dX10_land_5 (q := 6) rfl 0 rfl ?_
  refine g_iload_n X dX10_land_6 (q := 7) rfl 1 rfl ?_
  refine g_iconst X dX10_land_7 (q := 8) rfl li_i2 ?_
  refine g_bipush X dX10_land_8 (q := 10) rfl li_b7 ?_
  refine v_isIn X dX10_land_10 (q := 13) rfl (Nat.le_of_ble_eq_true rfl) (Nat.le_of_ble_eq_true rfl) (Nat.le_of_ble_eq_true rfl) hs (fun y1 hs => ?_)
  refine g_if_eq X dX10_land_13 (q := 16) rfl (tgt := 27) (by decide) hs ?_ ?_
  · intro hs
    refine g_iconst X dX10_land_27 (q := 28) rfl li_i0 ?_
    exact RI _ 28 _ _ _ (rU1 hs) rfl (rV1 hs) dX10_land_28
  · intro hs
    refine g_aload_n X dX10_land_16 (q := 17) rfl 0 rfl ?_
    refine g_iload_n X dX10_land_17 (q := 18) rfl 2 rfl ?_
    refine g_iconst X dX10_land_18 (q := 19) rfl li_i2 ?_
    refine g_bipush X dX10_land_19 (q := 21) rfl li_b7 ?_
    refine v_isIn X dX10_land_21 (q := 24) rfl (Nat.le_of_ble_eq_true rfl) (Nat.le_of_ble_eq_true rfl) (Nat.le_of_ble_eq_true rfl) hs (fun y2 hs => ?_)
    refine g_if_ne X dX10_land_24 (q := 27) rfl (tgt := 29) (by decide) hs ?_ ?_
    · intro hs
      refine g_aload_n X dX10_land_29 (q := 30) rfl 0 rfl ?_
      refine g_iload_n X dX10_land_30 (q := 31) rfl 1 rfl ?_
      refine g_iconst X dX10_land_31 (q := 32) rfl li_i5 ?_
      refine g_isub X dX10_land_32 (q := 33) rfl ?_
      refine mp_6 X dX10_land_33 (q := 36) rfl hs (fun s2 hs => ?_)
      refine g_aload_n X dX10_land_36 (q := 37) rfl 0 rfl ?_
      refine g_iload_n X dX10_land_37 (q := 38) rfl 2 rfl ?_
      refine g_iconst X dX10_land_38 (q := 39) rfl li_i4 ?_
      refine g_isub X dX10_land_39 (q := 40) rfl ?_
      refine mp_7 X dX10_land_40 (q := 43) rfl hs (fun s3 hs => ?_)
      refine g_aload_n X dX10_land_43 (q := 44) rfl 0 rfl ?_
      refine mg_1 X dX10_land_44 (q := 47) rfl ?_
      refine g_iconst X dX10_land_47 (q := 48) rfl li_i1 ?_
      refine mk_1 X dX10_land_48 (q := 49) rfl (j := 1) (by decide) (by decide) hs (fun y3 hs => ?_)
      refine g_istore_n X dX10_land_49 (q := 50) rfl (Nat.le_of_ble_eq_true rfl) (lv' := [(3, .int y3), (0, .ref (h 0)), (1, .int x1), (2, .int x2)]) rfl ?_
      refine g_iconst X dX10_land_50 (q := 51) rfl li_i0 ?_
      refine g_istore X dX10_land_51 (q := 53) rfl (Nat.le_of_ble_eq_true rfl) (lv' := [(4, .int (0 : Int32)), (3, .int y3), (0, .ref (h 0)), (1, .int x1), (2, .int x2)]) rfl ?_
      refine wg_sub [2, 1, 0] rfl (lpW2 (fun (a1 : Int32) (s4 : ST) => WG (KM D cA h) p l e (rmD 2) st m args below meth c Q 5 s4 53 [(0, .ref (h 0)), (3, .int y3), (4, .int a1)] []) (fun rec1 ih1 a1 s4 hs => ?_) _ _ _ hs)
      refine g_iload X dX10_land_53 (q := 55) rfl 2 rfl ?_
      refine g_sipush X dX10_land_55 (q := 58) rfl li_s389 ?_
      refine g_icmp_ge X dX10_land_58 (q := 61) rfl (tgt := 75) (by decide) hs ?_ ?_
      · intro hs
        refine g_aload_n X dX10_land_75 (q := 76) rfl 0 rfl ?_
        refine mg_1 X dX10_land_76 (q := 79) rfl ?_
        refine g_iconst X dX10_land_79 (q := 80) rfl li_i1 ?_
        refine g_iload_n X dX10_land_80 (q := 81) rfl 1 rfl ?_
        refine msk_1 X dX10_land_81 (q := 82) rfl (j := 1) (by decide) (by decide) hs (fun s5 hs => ?_)
        refine g_iconst X dX10_land_82 (q := 83) rfl li_i0 ?_
        refine g_istore X dX10_land_83 (q := 85) rfl (Nat.le_of_ble_eq_true rfl) (lv' := [(4, .int (0 : Int32)), (0, .ref (h 0)), (3, .int y3)]) rfl ?_
        refine wg_sub [1, 0] rfl (lpW2 (fun (a2 : Int32) (s6 : ST) => WG (KM D cA h) p l e (rmD 2) st m args below meth c Q 5 s6 85 [(0, .ref (h 0)), (4, .int a2)] []) (fun rec2 ih2 a2 s6 hs => ?_) _ _ _ hs)
        refine g_iload X dX10_land_85 (q := 87) rfl 1 rfl ?_
        refine g_bipush X dX10_land_87 (q := 89) rfl li_b64 ?_
        refine g_icmp_ge X dX10_land_89 (q := 92) rfl (tgt := 106) (by decide) hs ?_ ?_
        · intro hs
          refine g_aload_n X dX10_land_106 (q := 107) rfl 0 rfl ?_
          refine g_iconst X dX10_land_107 (q := 108) rfl li_i0 ?_
          refine mp_8 X dX10_land_108 (q := 111) rfl hs (fun s7 hs => ?_)
          refine g_aload_n X dX10_land_111 (q := 112) rfl 0 rfl ?_
          refine g_iconst X dX10_land_112 (q := 113) rfl li_i0 ?_
          refine mp_34 X dX10_land_113 (q := 116) rfl hs (fun s8 hs => ?_)
          refine g_aload_n X dX10_land_116 (q := 117) rfl 0 rfl ?_
          refine g_iconst X dX10_land_117 (q := 118) rfl li_i0 ?_
          refine mp_36 X dX10_land_118 (q := 121) rfl hs (fun s9 hs => ?_)
          refine g_aload_n X dX10_land_121 (q := 122) rfl 0 rfl ?_
          refine g_iconst X dX10_land_122 (q := 123) rfl li_i0 ?_
          refine mp_40 X dX10_land_123 (q := 126) rfl hs (fun s10 hs => ?_)
          refine g_aload_n X dX10_land_126 (q := 127) rfl 0 rfl ?_
          refine g_iconst X dX10_land_127 (q := 128) rfl li_i0 ?_
          refine mp_42 X dX10_land_128 (q := 131) rfl hs (fun s11 hs => ?_)
          refine g_aload_n X dX10_land_131 (q := 132) rfl 0 rfl ?_
          refine mg_18 X dX10_land_132 (q := 135) rfl ?_
          refine g_iconst X dX10_land_135 (q := 136) rfl li_i1 ?_
          refine g_iconst X dX10_land_136 (q := 137) rfl li_i0 ?_
          refine msk_8 X dX10_land_137 (q := 138) rfl (j := 1) (by decide) (by decide) hs (fun s12 hs => ?_)
          refine g_aload_n X dX10_land_138 (q := 139) rfl 0 rfl ?_
          refine g_iconst X dX10_land_139 (q := 140) rfl li_i0 ?_
          refine mp_3 X dX10_land_140 (q := 143) rfl hs (fun s13 hs => ?_)
          refine g_iconst X dX10_land_143 (q := 144) rfl li_i1 ?_
          exact RI _ 144 _ _ _ (rU1 hs) rfl (rV1 hs) dX10_land_144
        · intro hs
          refine g_aload_n X dX10_land_92 (q := 93) rfl 0 rfl ?_
          refine mg_9 X dX10_land_93 (q := 96) rfl ?_
          refine g_iload X dX10_land_96 (q := 98) rfl 1 rfl ?_
          refine g_iconst X dX10_land_98 (q := 99) rfl li_i0 ?_
          refine ms_4 X dX10_land_99 (q := 100) rfl hs (fun s14 hs => ?_)
          refine g_iinc X dX10_land_100 (q := 103) rfl 1 rfl (v := (a2 + (1 : Int32))) (congrArg (HAdd.hAdd a2) li_i1) (Nat.le_of_ble_eq_true rfl) (lv' := [(4, .int (a2 + (1 : Int32))), (0, .ref (h 0))]) rfl ?_
          refine g_goto X dX10_land_103 (tgt := 85) (by decide) ?_
          exact wg_sub [1, 0] rfl (ih2 _ _ hs)
      · intro hs
        refine g_aload_n X dX10_land_61 (q := 62) rfl 0 rfl ?_
        refine mg_1 X dX10_land_62 (q := 65) rfl ?_
        refine g_iload X dX10_land_65 (q := 67) rfl 2 rfl ?_
        refine g_iconst X dX10_land_67 (q := 68) rfl li_i0 ?_
        refine ms_1 X dX10_land_68 (q := 69) rfl hs (fun s15 hs => ?_)
        refine g_iinc X dX10_land_69 (q := 72) rfl 2 rfl (v := (a1 + (1 : Int32))) (congrArg (HAdd.hAdd a1) li_i1) (Nat.le_of_ble_eq_true rfl) (lv' := [(4, .int (a1 + (1 : Int32))), (0, .ref (h 0)), (3, .int y3)]) rfl ?_
        refine g_goto X dX10_land_72 (tgt := 53) (by decide) ?_
        exact wg_sub [1, 2, 0] rfl (ih1 _ _ hs)
    · intro hs
      refine g_iconst X dX10_land_27 (q := 28) rfl li_i0 ?_
      exact RI _ 28 _ _ _ (rU1 hs) rfl (rV1 hs) dX10_land_28
theorem dX10_canSet_0 : decode cX10_canSet 0 = .ok (.iload_n 1, 1) := by decide +kernel
theorem dX10_canSet_1 : decode cX10_canSet 1 = .ok (.ifCond .ne 13, 3) := by decide +kernel
theorem dX10_canSet_4 : decode cX10_canSet 4 = .ok (.aload_n 0, 1) := by decide +kernel
theorem dX10_canSet_5 : decode cX10_canSet 5 = .ok (.iload_n 3, 1) := by decide +kernel
theorem dX10_canSet_6 : decode cX10_canSet 6 = .ok (.iconst 0, 1) := by decide +kernel
theorem dX10_canSet_7 : decode cX10_canSet 7 = .ok (.sipush 1000, 3) := by decide +kernel
theorem dX10_canSet_10 : decode cX10_canSet 10 = .ok (.invokevirtual 111, 3) := by decide +kernel
theorem dX10_canSet_13 : decode cX10_canSet 13 = .ok (.ireturn, 1) := by decide +kernel
theorem dX10_canSet_14 : decode cX10_canSet 14 = .ok (.aload_n 0, 1) := by decide +kernel
theorem dX10_canSet_15 : decode cX10_canSet 15 = .ok (.iload_n 1, 1) := by decide +kernel
theorem dX10_canSet_16 : decode cX10_canSet 16 = .ok (.iconst 1, 1) := by decide +kernel
theorem dX10_canSet_17 : decode cX10_canSet 17 = .ok (.iconst 2, 1) := by decide +kernel
theorem dX10_canSet_18 : decode cX10_canSet 18 = .ok (.invokevirtual 111, 3) := by decide +kernel
theorem dX10_canSet_21 : decode cX10_canSet 21 = .ok (.ifCond .eq 11, 3) := by decide +kernel
theorem dX10_canSet_24 : decode cX10_canSet 24 = .ok (.aload_n 0, 1) := by decide +kernel
theorem dX10_canSet_25 : decode cX10_canSet 25 = .ok (.iload_n 2, 1) := by decide +kernel
theorem dX10_canSet_26 : decode cX10_canSet 26 = .ok (.invokevirtual 130, 3) := by decide +kernel
theorem dX10_canSet_29 : decode cX10_canSet 29 = .ok (.ifCond .ne 5, 3) := by decide +kernel
theorem dX10_canSet_32 : decode cX10_canSet 32 = .ok (.iconst 0, 1) := by decide +kernel
theorem dX10_canSet_33 : decode cX10_canSet 33 = .ok (.ireturn, 1) := by decide +kernel
theorem dX10_canSet_34 : decode cX10_canSet 34 = .ok (.iload_n 1, 1) := by decide +kernel
theorem dX10_canSet_35 : decode cX10_canSet 35 = .ok (.iconst 1, 1) := by decide +kernel
theorem dX10_canSet_36 : decode cX10_canSet 36 = .ok (.if_icmp .ne 14, 3) := by decide +kernel
theorem dX10_canSet_39 : decode cX10_canSet 39 = .ok (.aload_n 0, 1) := by decide +kernel
theorem dX10_canSet_40 : decode cX10_canSet 40 = .ok (.iload_n 3, 1) := by decide +kernel
theorem dX10_canSet_41 : decode cX10_canSet 41 = .ok (.iconst 0, 1) := by decide +kernel
theorem dX10_canSet_42 : decode cX10_canSet 42 = .ok (.bipush 9, 2) := by decide +kernel
theorem dX10_canSet_44 : decode cX10_canSet 44 = .ok (.invokevirtual 111, 3) := by decide +kernel
theorem dX10_canSet_47 : decode cX10_canSet 47 = .ok (.goto 27, 3) := by decide +kernel
theorem dX10_canSet_50 : decode cX10_canSet 50 = .ok (.aload_n 0, 1) := by decide +kernel
theorem dX10_canSet_51 : decode cX10_canSet 51 = .ok (.iload_n 3, 1) := by decide +kernel
theorem dX10_canSet_52 : decode cX10_canSet 52 = .ok (.iconst 0, 1) := by decide +kernel
theorem dX10_canSet_53 : decode cX10_canSet 53 = .ok (.iconst 1, 1) := by decide +kernel
theorem dX10_canSet_54 : decode cX10_canSet 54 = .ok (.invokevirtual 111, 3) := by decide +kernel
theorem dX10_canSet_57 : decode cX10_canSet 57 = .ok (.ifCond .eq 16, 3) := by decide +kernel
theorem dX10_canSet_60 : decode cX10_canSet 60 = .ok (.aload_n 0, 1) := by decide +kernel
theorem dX10_canSet_61 : decode cX10_canSet 61 = .ok (.iload_n 2, 1) := by decide +kernel
theorem dX10_canSet_62 : decode cX10_canSet 62 = .ok (.invokevirtual 134, 3) := by decide +kernel
theorem dX10_canSet_65 : decode cX10_canSet 65 = .ok (.iconst (-1), 1) := by decide +kernel
theorem dX10_canSet_66 : decode cX10_canSet 66 = .ok (.if_icmp .ne 7, 3) := by decide +kernel
theorem dX10_canSet_69 : decode cX10_canSet 69 = .ok (.iconst 1, 1) := by decide +kernel
theorem dX10_canSet_70 : decode cX10_canSet 70 = .ok (.goto 4, 3) := by decide +kernel
theorem dX10_canSet_73 : decode cX10_canSet 73 = .ok (.iconst 0, 1) := by decide +kernel
theorem dX10_canSet_74 : decode cX10_canSet 74 = .ok (.ireturn, 1) := by decide +kernel
def M_canSet (s : ST) (x1 : Int32) (x2 : Int32) (x3 : Int32) : Option (Int32) := if x1 = 0 then (Lt (M_isIn s x3 (0 : Int32) (1000 : Int32)) fun y6 => some (y6 &&& 1)) else (Lt (M_isIn s x1 (1 : Int32) (2 : Int32)) fun y1 => if y1 = 0 then (some (0 : Int32)) else (Lt (M_isCell s x2) fun y2 => if y2 = 0 then (some (0 : Int32)) else (if x1 = (1 : Int32) then (Lt (M_isIn s x3 (0 : Int32) (9 : Int32)) fun y5 => some (y5 &&& 1)) else (Lt (M_isIn s x3 (0 : Int32) (1 : Int32)) fun y3 => if y3 = 0 then (some (0 : Int32)) else (Bd (M_seedOf s x2) fun y4 => if y4 = (-1 : Int32) then (some (1 : Int32)) else (some (0 : Int32)))))))
set_option maxRecDepth 100000 in
set_option maxHeartbeats 4000000 in
theorem k_canSet (l : Launch) (D : va_G) (cA : ClassId) (h : Nat → Nat) (s : ST) (x1 : Int32) (x2 : Int32) (x3 : Int32) {o : Int32} (hs : M_canSet s x1 x2 x3 = some o) : MI l (KM D cA h) 3 yX10_canSet cX10_canSet 4 (some .boolean) s [.ref (h 0), .int x1, .int x2, .int x3] o s := by
  refine met_i (by decide) (Nat.le_of_ble_eq_true rfl) ?_
  intro p e st m args below meth c Q X RI
  unfold M_canSet at hs
  refine g_iload_n X dX10_canSet_0 (q := 1) rfl 1 rfl ?_
  refine g_if_ne X dX10_canSet_1 (q := 4) rfl (tgt := 14) (by decide) hs ?_ ?_
  · intro hs
    refine g_aload_n X dX10_canSet_14 (q := 15) rfl 0 rfl ?_
    refine g_iload_n X dX10_canSet_15 (q := 16) rfl 1 rfl ?_
    refine g_iconst X dX10_canSet_16 (q := 17) rfl li_i1 ?_
    refine g_iconst X dX10_canSet_17 (q := 18) rfl li_i2 ?_
    refine v_isIn X dX10_canSet_18 (q := 21) rfl (Nat.le_of_ble_eq_true rfl) (Nat.le_of_ble_eq_true rfl) (Nat.le_of_ble_eq_true rfl) hs (fun y1 hs => ?_)
    refine g_if_eq X dX10_canSet_21 (q := 24) rfl (tgt := 32) (by decide) hs ?_ ?_
    · intro hs
      refine g_iconst X dX10_canSet_32 (q := 33) rfl li_i0 ?_
      exact RI _ 33 _ _ _ rfl rfl (Option.some.inj hs) dX10_canSet_33
    · intro hs
      refine g_aload_n X dX10_canSet_24 (q := 25) rfl 0 rfl ?_
      refine g_iload_n X dX10_canSet_25 (q := 26) rfl 2 rfl ?_
      refine v_isCell X dX10_canSet_26 (q := 29) rfl (Nat.le_of_ble_eq_true rfl) (Nat.le_of_ble_eq_true rfl) (Nat.le_of_ble_eq_true rfl) hs (fun y2 hs => ?_)
      refine g_if_ne X dX10_canSet_29 (q := 32) rfl (tgt := 34) (by decide) hs ?_ ?_
      · intro hs
        refine g_iload_n X dX10_canSet_34 (q := 35) rfl 1 rfl ?_
        refine g_iconst X dX10_canSet_35 (q := 36) rfl li_i1 ?_
        refine g_icmp_ne X dX10_canSet_36 (q := 39) rfl (tgt := 50) (by decide) hs ?_ ?_
        · intro hs
          refine g_aload_n X dX10_canSet_50 (q := 51) rfl 0 rfl ?_
          refine g_iload_n X dX10_canSet_51 (q := 52) rfl 3 rfl ?_
          refine g_iconst X dX10_canSet_52 (q := 53) rfl li_i0 ?_
          refine g_iconst X dX10_canSet_53 (q := 54) rfl li_i1 ?_
          refine v_isIn X dX10_canSet_54 (q := 57) rfl (Nat.le_of_ble_eq_true rfl) (Nat.le_of_ble_eq_true rfl) (Nat.le_of_ble_eq_true rfl) hs (fun y3 hs => ?_)
          refine g_if_eq X dX10_canSet_57 (q := 60) rfl (tgt := 73) (by decide) hs ?_ ?_
          · intro hs
            refine g_iconst X dX10_canSet_73 (q := 74) rfl li_i0 ?_
            exact RI _ 74 _ _ _ rfl rfl (Option.some.inj hs) dX10_canSet_74
          · intro hs
            refine g_aload_n X dX10_canSet_60 (q := 61) rfl 0 rfl ?_
            refine g_iload_n X dX10_canSet_61 (q := 62) rfl 2 rfl ?_
            refine v_seedOf X dX10_canSet_62 (q := 65) rfl (Nat.le_of_ble_eq_true rfl) (Nat.le_of_ble_eq_true rfl) (Nat.le_of_ble_eq_true rfl) hs (fun y4 hs => ?_)
            refine g_iconst X dX10_canSet_65 (q := 66) rfl li_im1 ?_
            refine g_icmp_ne X dX10_canSet_66 (q := 69) rfl (tgt := 73) (by decide) hs ?_ ?_
            · intro hs
              refine g_iconst X dX10_canSet_73 (q := 74) rfl li_i0 ?_
              exact RI _ 74 _ _ _ rfl rfl (Option.some.inj hs) dX10_canSet_74
            · intro hs
              refine g_iconst X dX10_canSet_69 (q := 70) rfl li_i1 ?_
              refine g_goto X dX10_canSet_70 (tgt := 74) (by decide) ?_
              exact RI _ 74 _ _ _ rfl rfl (Option.some.inj hs) dX10_canSet_74
        · intro hs
          refine g_aload_n X dX10_canSet_39 (q := 40) rfl 0 rfl ?_
          refine g_iload_n X dX10_canSet_40 (q := 41) rfl 3 rfl ?_
          refine g_iconst X dX10_canSet_41 (q := 42) rfl li_i0 ?_
          refine g_bipush X dX10_canSet_42 (q := 44) rfl li_b9 ?_
          refine v_isIn X dX10_canSet_44 (q := 47) rfl (Nat.le_of_ble_eq_true rfl) (Nat.le_of_ble_eq_true rfl) (Nat.le_of_ble_eq_true rfl) hs (fun y5 hs => ?_)
          refine g_goto X dX10_canSet_47 (tgt := 74) (by decide) ?_
          exact RI _ 74 _ _ _ rfl rfl (Option.some.inj hs) dX10_canSet_74
      · intro hs
        refine g_iconst X dX10_canSet_32 (q := 33) rfl li_i0 ?_
        exact RI _ 33 _ _ _ rfl rfl (Option.some.inj hs) dX10_canSet_33
  · intro hs
    refine g_aload_n X dX10_canSet_4 (q := 5) rfl 0 rfl ?_
    refine g_iload_n X dX10_canSet_5 (q := 6) rfl 3 rfl ?_
    refine g_iconst X dX10_canSet_6 (q := 7) rfl li_i0 ?_
    refine g_sipush X dX10_canSet_7 (q := 10) rfl li_s1000 ?_
    refine v_isIn X dX10_canSet_10 (q := 13) rfl (Nat.le_of_ble_eq_true rfl) (Nat.le_of_ble_eq_true rfl) (Nat.le_of_ble_eq_true rfl) hs (fun y6 hs => ?_)
    exact RI _ 13 _ _ _ rfl rfl (Option.some.inj hs) dX10_canSet_13
theorem v_canSet {p : Program} {l : Launch} {e : Env} {st : State} {m : MethodId} {args : Array Value} {below : List Frame} {meth : Method} {c : Code} {Q : State → Prop} {nL : Nat} {cc : ByteArray} {s : ST} {pc q : Nat} {lv : List (Nat × Value)} {rest : List Value} {D : va_G} {cA : ClassId} {h : Nat → Nat} {d0 : Nat} (X : Cx (KM D cA h) p st m args meth c cc nL RX10) {x1 : Int32} {x2 : Int32} {x3 : Int32} (d : decode cc pc = .ok (.invokevirtual 138, 3)) (hq : pc + 3 = q) (hd1 : 3 + 1 ≤ d0) (hd2 : 8 + (4 + 11) + 100 * 3 ≤ 100 * d0) (hr : (rest.map fun v => v.category).sum ≤ 8) {B : Type} {f : Int32 → Option B} {r : B} (hs : Bd (M_canSet s x1 x2 x3) f = some r) (k : ∀ y, f y = some r → WG (KM D cA h) p l e (rmD d0) st m args below meth c Q nL s q lv (.int y :: rest)) : WG (KM D cA h) p l e (rmD d0) st m args below meth c Q nL s pc lv (.int x3 :: .int x2 :: .int x1 :: .ref (h 0) :: rest) := by
  obtain ⟨v, hv, hs⟩ := Bd_e hs
  exact cV_I X 0 (n := 3) (k_canSet l D cA h s x1 x2 x3 hv) gv_X10_canSet ⟨hd1, hd2⟩ ⟨by decide, by decide, by decide +kernel⟩ (As := [.int x1, .int x2, .int x3]) rfl hr (Nat.le_of_ble_eq_true rfl) (fs := mF h (s.1 0)) rfl rfl rfl d hq (k _ hs)
theorem dX10_set_0 : decode cX10_set 0 = .ok (.aload_n 0, 1) := by decide +kernel
theorem dX10_set_1 : decode cX10_set 1 = .ok (.iconst 0, 1) := by decide +kernel
theorem dX10_set_2 : decode cX10_set 2 = .ok (.putfield 83, 3) := by decide +kernel
theorem dX10_set_5 : decode cX10_set 5 = .ok (.aload_n 0, 1) := by decide +kernel
theorem dX10_set_6 : decode cX10_set 6 = .ok (.iload_n 1, 1) := by decide +kernel
theorem dX10_set_7 : decode cX10_set 7 = .ok (.iload_n 2, 1) := by decide +kernel
theorem dX10_set_8 : decode cX10_set 8 = .ok (.iload_n 3, 1) := by decide +kernel
theorem dX10_set_9 : decode cX10_set 9 = .ok (.invokevirtual 138, 3) := by decide +kernel
theorem dX10_set_12 : decode cX10_set 12 = .ok (.ifCond .ne 5, 3) := by decide +kernel
theorem dX10_set_15 : decode cX10_set 15 = .ok (.iconst 0, 1) := by decide +kernel
theorem dX10_set_16 : decode cX10_set 16 = .ok (.ireturn, 1) := by decide +kernel
theorem dX10_set_17 : decode cX10_set 17 = .ok (.iload_n 1, 1) := by decide +kernel
theorem dX10_set_18 : decode cX10_set 18 = .ok (.ifCond .ne 8, 3) := by decide +kernel
theorem dX10_set_21 : decode cX10_set 21 = .ok (.aload_n 0, 1) := by decide +kernel
theorem dX10_set_22 : decode cX10_set 22 = .ok (.iload_n 3, 1) := by decide +kernel
theorem dX10_set_23 : decode cX10_set 23 = .ok (.putfield 115, 3) := by decide +kernel
theorem dX10_set_26 : decode cX10_set 26 = .ok (.iload_n 1, 1) := by decide +kernel
theorem dX10_set_27 : decode cX10_set 27 = .ok (.iconst 1, 1) := by decide +kernel
theorem dX10_set_28 : decode cX10_set 28 = .ok (.if_icmp .ne 14, 3) := by decide +kernel
theorem dX10_set_31 : decode cX10_set 31 = .ok (.aload_n 0, 1) := by decide +kernel
theorem dX10_set_32 : decode cX10_set 32 = .ok (.getfield 7, 3) := by decide +kernel
theorem dX10_set_35 : decode cX10_set 35 = .ok (.iconst 5, 1) := by decide +kernel
theorem dX10_set_36 : decode cX10_set 36 = .ok (.iload_n 2, 1) := by decide +kernel
theorem dX10_set_37 : decode cX10_set 37 = .ok (.iadd, 1) := by decide +kernel
theorem dX10_set_38 : decode cX10_set 38 = .ok (.iload_n 3, 1) := by decide +kernel
theorem dX10_set_39 : decode cX10_set 39 = .ok (.iconst 3, 1) := by decide +kernel
theorem dX10_set_40 : decode cX10_set 40 = .ok (.isub, 1) := by decide +kernel
theorem dX10_set_41 : decode cX10_set 41 = .ok (.iastore, 1) := by decide +kernel
theorem dX10_set_42 : decode cX10_set 42 = .ok (.iload_n 1, 1) := by decide +kernel
theorem dX10_set_43 : decode cX10_set 43 = .ok (.iconst 2, 1) := by decide +kernel
theorem dX10_set_44 : decode cX10_set 44 = .ok (.if_icmp .ne 10, 3) := by decide +kernel
theorem dX10_set_47 : decode cX10_set 47 = .ok (.aload_n 0, 1) := by decide +kernel
theorem dX10_set_48 : decode cX10_set 48 = .ok (.getfield 19, 3) := by decide +kernel
theorem dX10_set_51 : decode cX10_set 51 = .ok (.iload_n 2, 1) := by decide +kernel
theorem dX10_set_52 : decode cX10_set 52 = .ok (.iload_n 3, 1) := by decide +kernel
theorem dX10_set_53 : decode cX10_set 53 = .ok (.iastore, 1) := by decide +kernel
theorem dX10_set_54 : decode cX10_set 54 = .ok (.aload_n 0, 1) := by decide +kernel
theorem dX10_set_55 : decode cX10_set 55 = .ok (.iconst 0, 1) := by decide +kernel
theorem dX10_set_56 : decode cX10_set 56 = .ok (.putfield 86, 3) := by decide +kernel
theorem dX10_set_59 : decode cX10_set 59 = .ok (.iconst 1, 1) := by decide +kernel
theorem dX10_set_60 : decode cX10_set 60 = .ok (.ireturn, 1) := by decide +kernel
def M_set (s : ST) (x1 : Int32) (x2 : Int32) (x3 : Int32) : Option (Int32 × ST) := Lt (ups s 0 0 (0 : Int32)) fun s1 => Bd (M_canSet s1 x1 x2 x3) fun y1 => if y1 = 0 then (some ((0 : Int32), s1)) else (Lt (fun (s2 : ST) => (Lt (fun (s3 : ST) => (Lt (fun (s4 : ST) => (Lt (ups s4 0 3 (0 : Int32)) fun s5 => some ((1 : Int32), s5) : Option (Int32 × ST))) fun j3 => if x1 = (2 : Int32) then (Gs s3 4 64 x2 x3 fun s6 => j3 s6) else (j3 s3) : Option (Int32 × ST))) fun j2 => if x1 = (1 : Int32) then (Gs s2 1 389 ((5 : Int32) + x2) (x3 - (3 : Int32)) fun s7 => j2 s7) else (j2 s2) : Option (Int32 × ST))) fun j1 => if x1 = 0 then (Lt (ups s1 0 8 x3) fun s8 => j1 s8) else (j1 s1))
set_option maxRecDepth 100000 in
set_option maxHeartbeats 4000000 in
theorem k_set (l : Launch) (D : va_G) (cA : ClassId) (h : Nat → Nat) (s : ST) (x1 : Int32) (x2 : Int32) (x3 : Int32) {o : Int32 × ST} (hs : M_set s x1 x2 x3 = some o) : MI l (KM D cA h) 4 yX10_set cX10_set 4 (some .boolean) s [.ref (h 0), .int x1, .int x2, .int x3] o.1 o.2 := by
  refine met_i (by decide) (Nat.le_of_ble_eq_true rfl) ?_
  intro p e st m args below meth c Q X RI
  unfold M_set at hs
  refine g_aload_n X dX10_set_0 (q := 1) rfl 0 rfl ?_
  refine g_iconst X dX10_set_1 (q := 2) rfl li_i0 ?_
  refine mp_0 X dX10_set_2 (q := 5) rfl hs (fun s1 hs => ?_)
  refine g_aload_n X dX10_set_5 (q := 6) rfl 0 rfl ?_
  refine g_iload_n X dX10_set_6 (q := 7) rfl 1 rfl ?_
  refine g_iload_n X dX10_set_7 (q := 8) rfl 2 rfl ?_
  refine g_iload_n X dX10_set_8 (q := 9) rfl 3 rfl ?_
  refine v_canSet X dX10_set_9 (q := 12) rfl (Nat.le_of_ble_eq_true rfl) (Nat.le_of_ble_eq_true rfl) (Nat.le_of_ble_eq_true rfl) hs (fun y1 hs => ?_)
  refine g_if_ne X dX10_set_12 (q := 15) rfl (tgt := 17) (by decide) hs ?_ ?_
  · intro hs
    refine g_iload_n X dX10_set_17 (q := 18) rfl 1 rfl ?_
    refine jnW1 (fun (s2 : ST) => WG (KM D cA h) p l e (rmD 4) st m args below meth c Q 4 s2 26 [(0, .ref (h 0)), (1, .int x1), (2, .int x2), (3, .int x3)] []) hs (fun s2 hs => ?_) (fun j1 ih1 hs => ?_)
    · refine g_iload_n X dX10_set_26 (q := 27) rfl 1 rfl ?_
      refine g_iconst X dX10_set_27 (q := 28) rfl li_i1 ?_
      refine jnW1 (fun (s3 : ST) => WG (KM D cA h) p l e (rmD 4) st m args below meth c Q 4 s3 42 [(0, .ref (h 0)), (1, .int x1), (2, .int x2), (3, .int x3)] []) hs (fun s3 hs => ?_) (fun j2 ih2 hs => ?_)
      · refine g_iload_n X dX10_set_42 (q := 43) rfl 1 rfl ?_
        refine g_iconst X dX10_set_43 (q := 44) rfl li_i2 ?_
        refine jnW1 (fun (s4 : ST) => WG (KM D cA h) p l e (rmD 4) st m args below meth c Q 4 s4 54 [(0, .ref (h 0))] []) hs (fun s4 hs => ?_) (fun j3 ih3 hs => ?_)
        · refine g_aload_n X dX10_set_54 (q := 55) rfl 0 rfl ?_
          refine g_iconst X dX10_set_55 (q := 56) rfl li_i0 ?_
          refine mp_3 X dX10_set_56 (q := 59) rfl hs (fun s5 hs => ?_)
          refine g_iconst X dX10_set_59 (q := 60) rfl li_i1 ?_
          exact RI _ 60 _ _ _ (rU1 hs) rfl (rV1 hs) dX10_set_60
        refine g_icmp_ne X dX10_set_44 (q := 47) rfl (tgt := 54) (by decide) hs ?_ ?_
        · intro hs
          exact wg_sub [0] rfl (ih3 _ hs)
        · intro hs
          refine g_aload_n X dX10_set_47 (q := 48) rfl 0 rfl ?_
          refine mg_9 X dX10_set_48 (q := 51) rfl ?_
          refine g_iload_n X dX10_set_51 (q := 52) rfl 2 rfl ?_
          refine g_iload_n X dX10_set_52 (q := 53) rfl 3 rfl ?_
          refine ms_4 X dX10_set_53 (q := 54) rfl hs (fun s6 hs => ?_)
          exact wg_sub [0] rfl (ih3 _ hs)
      refine g_icmp_ne X dX10_set_28 (q := 31) rfl (tgt := 42) (by decide) hs ?_ ?_
      · intro hs
        exact wg_sub [0, 1, 2, 3] rfl (ih2 _ hs)
      · intro hs
        refine g_aload_n X dX10_set_31 (q := 32) rfl 0 rfl ?_
        refine mg_1 X dX10_set_32 (q := 35) rfl ?_
        refine g_iconst X dX10_set_35 (q := 36) rfl li_i5 ?_
        refine g_iload_n X dX10_set_36 (q := 37) rfl 2 rfl ?_
        refine g_iadd X dX10_set_37 (q := 38) rfl ?_
        refine g_iload_n X dX10_set_38 (q := 39) rfl 3 rfl ?_
        refine g_iconst X dX10_set_39 (q := 40) rfl li_i3 ?_
        refine g_isub X dX10_set_40 (q := 41) rfl ?_
        refine ms_1 X dX10_set_41 (q := 42) rfl hs (fun s7 hs => ?_)
        exact wg_sub [0, 1, 2, 3] rfl (ih2 _ hs)
    refine g_if_ne X dX10_set_18 (q := 21) rfl (tgt := 26) (by decide) hs ?_ ?_
    · intro hs
      exact wg_sub [0, 1, 2, 3] rfl (ih1 _ hs)
    · intro hs
      refine g_aload_n X dX10_set_21 (q := 22) rfl 0 rfl ?_
      refine g_iload_n X dX10_set_22 (q := 23) rfl 3 rfl ?_
      refine mp_8 X dX10_set_23 (q := 26) rfl hs (fun s8 hs => ?_)
      exact wg_sub [0, 1, 2, 3] rfl (ih1 _ hs)
  · intro hs
    refine g_iconst X dX10_set_15 (q := 16) rfl li_i0 ?_
    exact RI _ 16 _ _ _ (rU1 hs) rfl (rV1 hs) dX10_set_16
theorem dX10_types_0 : decode cX10_types 0 = .ok (.bipush 24, 2) := by decide +kernel
theorem dX10_types_2 : decode cX10_types 2 = .ok (.istore_n 2, 1) := by decide +kernel
theorem dX10_types_3 : decode cX10_types 3 = .ok (.iload_n 2, 1) := by decide +kernel
theorem dX10_types_4 : decode cX10_types 4 = .ok (.ifCond .lt 35, 3) := by decide +kernel
theorem dX10_types_7 : decode cX10_types 7 = .ok (.aload_n 0, 1) := by decide +kernel
theorem dX10_types_8 : decode cX10_types 8 = .ok (.getfield 25, 3) := by decide +kernel
theorem dX10_types_11 : decode cX10_types 11 = .ok (.aload_n 0, 1) := by decide +kernel
theorem dX10_types_12 : decode cX10_types 12 = .ok (.getfield 141, 3) := by decide +kernel
theorem dX10_types_15 : decode cX10_types 15 = .ok (.iload_n 1, 1) := by decide +kernel
theorem dX10_types_16 : decode cX10_types 16 = .ok (.iload_n 2, 1) := by decide +kernel
theorem dX10_types_17 : decode cX10_types 17 = .ok (.ishr, 1) := by decide +kernel
theorem dX10_types_18 : decode cX10_types 18 = .ok (.sipush 255, 3) := by decide +kernel
theorem dX10_types_21 : decode cX10_types 21 = .ok (.iand, 1) := by decide +kernel
theorem dX10_types_22 : decode cX10_types 22 = .ok (.iastore, 1) := by decide +kernel
theorem dX10_types_23 : decode cX10_types 23 = .ok (.aload_n 0, 1) := by decide +kernel
theorem dX10_types_24 : decode cX10_types 24 = .ok (.aload_n 0, 1) := by decide +kernel
theorem dX10_types_25 : decode cX10_types 25 = .ok (.getfield 141, 3) := by decide +kernel
theorem dX10_types_28 : decode cX10_types 28 = .ok (.iconst 1, 1) := by decide +kernel
theorem dX10_types_29 : decode cX10_types 29 = .ok (.iadd, 1) := by decide +kernel
theorem dX10_types_30 : decode cX10_types 30 = .ok (.putfield 141, 3) := by decide +kernel
theorem dX10_types_33 : decode cX10_types 33 = .ok (.iinc 2 (-8), 3) := by decide +kernel
theorem dX10_types_36 : decode cX10_types 36 = .ok (.goto (-33), 3) := by decide +kernel
theorem dX10_types_39 : decode cX10_types 39 = .ok (.return_, 1) := by decide +kernel
def M_types (s : ST) (x1 : Int32) : Option (ST) := lpK2 (C := ST) (fun (rec1 : Int32 → ST → Option (ST)) (a1 : Int32) (s1 : ST) => if a1 < 0 then (some s1) else (Gs s1 6 400 (s1.1 0 12) ((x1 >>> (a1 &&& 31)) &&& (255 : Int32)) fun s2 => Lt (ups s2 0 12 ((s2.1 0 12) + (1 : Int32))) fun s3 => rec1 (a1 + (-8 : Int32)) s3)) FU (24 : Int32) s
set_option maxRecDepth 100000 in
set_option maxHeartbeats 4000000 in
theorem k_types (l : Launch) (D : va_G) (cA : ClassId) (h : Nat → Nat) (s : ST) (x1 : Int32) {o : ST} (hs : M_types s x1 = some o) : MV l (KM D cA h) 1 yX10_types cX10_types 3 none s [.ref (h 0), .int x1] o := by
  refine met_v (by decide) (Nat.le_of_ble_eq_true rfl) ?_
  intro p e st m args below meth c Q X RI
  unfold M_types at hs
  refine g_bipush X dX10_types_0 (q := 2) rfl li_b24 ?_
  refine g_istore_n X dX10_types_2 (q := 3) rfl (Nat.le_of_ble_eq_true rfl) (lv' := [(2, .int (24 : Int32)), (0, .ref (h 0)), (1, .int x1)]) rfl ?_
  refine wg_sub [1, 2, 0] rfl (lpW2 (fun (a1 : Int32) (s1 : ST) => WG (KM D cA h) p l e (rmD 1) st m args below meth c Q 3 s1 3 [(0, .ref (h 0)), (1, .int x1), (2, .int a1)] []) (fun rec1 ih1 a1 s1 hs => ?_) _ _ _ hs)
  refine g_iload_n X dX10_types_3 (q := 4) rfl 2 rfl ?_
  refine g_if_lt X dX10_types_4 (q := 7) rfl (tgt := 39) (by decide) hs ?_ ?_
  · intro hs
    exact RI _ 39 _ (Option.some.inj hs) dX10_types_39
  · intro hs
    refine g_aload_n X dX10_types_7 (q := 8) rfl 0 rfl ?_
    refine mg_11 X dX10_types_8 (q := 11) rfl ?_
    refine g_aload_n X dX10_types_11 (q := 12) rfl 0 rfl ?_
    refine mg_12 X dX10_types_12 (q := 15) rfl ?_
    refine g_iload_n X dX10_types_15 (q := 16) rfl 1 rfl ?_
    refine g_iload_n X dX10_types_16 (q := 17) rfl 2 rfl ?_
    refine g_ishr X dX10_types_17 (q := 18) rfl ?_
    refine g_sipush X dX10_types_18 (q := 21) rfl li_s255 ?_
    refine g_iand X dX10_types_21 (q := 22) rfl ?_
    refine ms_6 X dX10_types_22 (q := 23) rfl hs (fun s2 hs => ?_)
    refine g_aload_n X dX10_types_23 (q := 24) rfl 0 rfl ?_
    refine g_aload_n X dX10_types_24 (q := 25) rfl 0 rfl ?_
    refine mg_12 X dX10_types_25 (q := 28) rfl ?_
    refine g_iconst X dX10_types_28 (q := 29) rfl li_i1 ?_
    refine g_iadd X dX10_types_29 (q := 30) rfl ?_
    refine mp_12 X dX10_types_30 (q := 33) rfl hs (fun s3 hs => ?_)
    refine g_iinc X dX10_types_33 (q := 36) rfl 2 rfl (v := (a1 + (-8 : Int32))) (congrArg (HAdd.hAdd a1) li_im8) (Nat.le_of_ble_eq_true rfl) (lv' := [(2, .int (a1 + (-8 : Int32))), (0, .ref (h 0)), (1, .int x1)]) rfl ?_
    refine g_goto X dX10_types_36 (tgt := 3) (by decide) ?_
    exact wg_sub [1, 2, 0] rfl (ih1 _ _ hs)
theorem v_types {p : Program} {l : Launch} {e : Env} {st : State} {m : MethodId} {args : Array Value} {below : List Frame} {meth : Method} {c : Code} {Q : State → Prop} {nL : Nat} {cc : ByteArray} {s : ST} {pc q : Nat} {lv : List (Nat × Value)} {rest : List Value} {D : va_G} {cA : ClassId} {h : Nat → Nat} {d0 : Nat} (X : Cx (KM D cA h) p st m args meth c cc nL RX10) {x1 : Int32} (d : decode cc pc = .ok (.invokevirtual 144, 3)) (hq : pc + 3 = q) (hd1 : 1 + 1 ≤ d0) (hd2 : 8 + (3 + 11) + 100 * 1 ≤ 100 * d0) (hr : (rest.map fun v => v.category).sum ≤ 8) {B : Type} {f : ST → Option B} {r : B} (hs : Bd (M_types s x1) f = some r) (k : ∀ y, f y = some r → WG (KM D cA h) p l e (rmD d0) st m args below meth c Q nL y q lv (rest)) : WG (KM D cA h) p l e (rmD d0) st m args below meth c Q nL s pc lv (.int x1 :: .ref (h 0) :: rest) := by
  obtain ⟨v, hv, hs⟩ := Bd_e hs
  exact cV_V X 0 (n := 1) (k_types l D cA h s x1 hv) gv_X10_types ⟨hd1, hd2⟩ ⟨by decide, by decide, by decide +kernel⟩ (As := [.int x1]) rfl hr (Nat.le_of_ble_eq_true rfl) (fs := mF h (s.1 0)) rfl rfl rfl d hq (k _ hs)
theorem dX10_feed_0 : decode cX10_feed 0 = .ok (.aload_n 0, 1) := by decide +kernel
theorem dX10_feed_1 : decode cX10_feed 1 = .ok (.iconst 0, 1) := by decide +kernel
theorem dX10_feed_2 : decode cX10_feed 2 = .ok (.putfield 83, 3) := by decide +kernel
theorem dX10_feed_5 : decode cX10_feed 5 = .ok (.aload_n 0, 1) := by decide +kernel
theorem dX10_feed_6 : decode cX10_feed 6 = .ok (.getfield 141, 3) := by decide +kernel
theorem dX10_feed_9 : decode cX10_feed 9 = .ok (.sipush 380, 3) := by decide +kernel
theorem dX10_feed_12 : decode cX10_feed 12 = .ok (.if_icmp .le 5, 3) := by decide +kernel
theorem dX10_feed_15 : decode cX10_feed 15 = .ok (.iconst (-1), 1) := by decide +kernel
theorem dX10_feed_16 : decode cX10_feed 16 = .ok (.ireturn, 1) := by decide +kernel
theorem dX10_feed_17 : decode cX10_feed 17 = .ok (.aload_n 0, 1) := by decide +kernel
theorem dX10_feed_18 : decode cX10_feed 18 = .ok (.iload_n 1, 1) := by decide +kernel
theorem dX10_feed_19 : decode cX10_feed 19 = .ok (.invokevirtual 144, 3) := by decide +kernel
theorem dX10_feed_22 : decode cX10_feed 22 = .ok (.aload_n 0, 1) := by decide +kernel
theorem dX10_feed_23 : decode cX10_feed 23 = .ok (.iload_n 2, 1) := by decide +kernel
theorem dX10_feed_24 : decode cX10_feed 24 = .ok (.invokevirtual 144, 3) := by decide +kernel
theorem dX10_feed_27 : decode cX10_feed 27 = .ok (.aload_n 0, 1) := by decide +kernel
theorem dX10_feed_28 : decode cX10_feed 28 = .ok (.iload_n 3, 1) := by decide +kernel
theorem dX10_feed_29 : decode cX10_feed 29 = .ok (.invokevirtual 144, 3) := by decide +kernel
theorem dX10_feed_32 : decode cX10_feed 32 = .ok (.aload_n 0, 1) := by decide +kernel
theorem dX10_feed_33 : decode cX10_feed 33 = .ok (.iload 4, 2) := by decide +kernel
theorem dX10_feed_35 : decode cX10_feed 35 = .ok (.invokevirtual 144, 3) := by decide +kernel
theorem dX10_feed_38 : decode cX10_feed 38 = .ok (.aload_n 0, 1) := by decide +kernel
theorem dX10_feed_39 : decode cX10_feed 39 = .ok (.iload 5, 2) := by decide +kernel
theorem dX10_feed_41 : decode cX10_feed 41 = .ok (.invokevirtual 144, 3) := by decide +kernel
theorem dX10_feed_44 : decode cX10_feed 44 = .ok (.aload_n 0, 1) := by decide +kernel
theorem dX10_feed_45 : decode cX10_feed 45 = .ok (.getfield 141, 3) := by decide +kernel
theorem dX10_feed_48 : decode cX10_feed 48 = .ok (.ireturn, 1) := by decide +kernel
def M_feed (s : ST) (x1 : Int32) (x2 : Int32) (x3 : Int32) (x4 : Int32) (x5 : Int32) : Option (Int32 × ST) := Lt (ups s 0 0 (0 : Int32)) fun s1 => if (s1.1 0 12) ≤ (380 : Int32) then (Bd (M_types s1 x1) fun s2 => Bd (M_types s2 x2) fun s3 => Bd (M_types s3 x3) fun s4 => Bd (M_types s4 x4) fun s5 => Bd (M_types s5 x5) fun s6 => some ((s6.1 0 12), s6)) else (some ((-1 : Int32), s1))
set_option maxRecDepth 100000 in
set_option maxHeartbeats 4000000 in
theorem k_feed (l : Launch) (D : va_G) (cA : ClassId) (h : Nat → Nat) (s : ST) (x1 : Int32) (x2 : Int32) (x3 : Int32) (x4 : Int32) (x5 : Int32) {o : Int32 × ST} (hs : M_feed s x1 x2 x3 x4 x5 = some o) : MI l (KM D cA h) 2 yX10_feed cX10_feed 6 (some .int) s [.ref (h 0), .int x1, .int x2, .int x3, .int x4, .int x5] o.1 o.2 := by
  refine met_i (by decide) (Nat.le_of_ble_eq_true rfl) ?_
  intro p e st m args below meth c Q X RI
  unfold M_feed at hs
  refine g_aload_n X dX10_feed_0 (q := 1) rfl 0 rfl ?_
  refine g_iconst X dX10_feed_1 (q := 2) rfl li_i0 ?_
  refine mp_0 X dX10_feed_2 (q := 5) rfl hs (fun s1 hs => ?_)
  refine g_aload_n X dX10_feed_5 (q := 6) rfl 0 rfl ?_
  refine mg_12 X dX10_feed_6 (q := 9) rfl ?_
  refine g_sipush X dX10_feed_9 (q := 12) rfl li_s380 ?_
  refine g_icmp_le X dX10_feed_12 (q := 15) rfl (tgt := 17) (by decide) hs ?_ ?_
  · intro hs
    refine g_aload_n X dX10_feed_17 (q := 18) rfl 0 rfl ?_
    refine g_iload_n X dX10_feed_18 (q := 19) rfl 1 rfl ?_
    refine v_types X dX10_feed_19 (q := 22) rfl (Nat.le_of_ble_eq_true rfl) (Nat.le_of_ble_eq_true rfl) (Nat.le_of_ble_eq_true rfl) hs (fun s2 hs => ?_)
    refine g_aload_n X dX10_feed_22 (q := 23) rfl 0 rfl ?_
    refine g_iload_n X dX10_feed_23 (q := 24) rfl 2 rfl ?_
    refine v_types X dX10_feed_24 (q := 27) rfl (Nat.le_of_ble_eq_true rfl) (Nat.le_of_ble_eq_true rfl) (Nat.le_of_ble_eq_true rfl) hs (fun s3 hs => ?_)
    refine g_aload_n X dX10_feed_27 (q := 28) rfl 0 rfl ?_
    refine g_iload_n X dX10_feed_28 (q := 29) rfl 3 rfl ?_
    refine v_types X dX10_feed_29 (q := 32) rfl (Nat.le_of_ble_eq_true rfl) (Nat.le_of_ble_eq_true rfl) (Nat.le_of_ble_eq_true rfl) hs (fun s4 hs => ?_)
    refine g_aload_n X dX10_feed_32 (q := 33) rfl 0 rfl ?_
    refine g_iload X dX10_feed_33 (q := 35) rfl 4 rfl ?_
    refine v_types X dX10_feed_35 (q := 38) rfl (Nat.le_of_ble_eq_true rfl) (Nat.le_of_ble_eq_true rfl) (Nat.le_of_ble_eq_true rfl) hs (fun s5 hs => ?_)
    refine g_aload_n X dX10_feed_38 (q := 39) rfl 0 rfl ?_
    refine g_iload X dX10_feed_39 (q := 41) rfl 5 rfl ?_
    refine v_types X dX10_feed_41 (q := 44) rfl (Nat.le_of_ble_eq_true rfl) (Nat.le_of_ble_eq_true rfl) (Nat.le_of_ble_eq_true rfl) hs (fun s6 hs => ?_)
    refine g_aload_n X dX10_feed_44 (q := 45) rfl 0 rfl ?_
    refine mg_12 X dX10_feed_45 (q := 48) rfl ?_
    exact RI _ 48 _ _ _ (rU1 hs) rfl (rV1 hs) dX10_feed_48
  · intro hs
    refine g_iconst X dX10_feed_15 (q := 16) rfl li_im1 ?_
    exact RI _ 16 _ _ _ (rU1 hs) rfl (rV1 hs) dX10_feed_16
theorem dX10_end_0 : decode cX10_end 0 = .ok (.aload_n 0, 1) := by decide +kernel
theorem dX10_end_1 : decode cX10_end 1 = .ok (.iconst 0, 1) := by decide +kernel
theorem dX10_end_2 : decode cX10_end 2 = .ok (.putfield 83, 3) := by decide +kernel
theorem dX10_end_5 : decode cX10_end 5 = .ok (.aload_n 0, 1) := by decide +kernel
theorem dX10_end_6 : decode cX10_end 6 = .ok (.iload_n 1, 1) := by decide +kernel
theorem dX10_end_7 : decode cX10_end 7 = .ok (.iconst 0, 1) := by decide +kernel
theorem dX10_end_8 : decode cX10_end 8 = .ok (.aload_n 0, 1) := by decide +kernel
theorem dX10_end_9 : decode cX10_end 9 = .ok (.getfield 141, 3) := by decide +kernel
theorem dX10_end_12 : decode cX10_end 12 = .ok (.invokevirtual 111, 3) := by decide +kernel
theorem dX10_end_15 : decode cX10_end 15 = .ok (.ifCond .ne 5, 3) := by decide +kernel
theorem dX10_end_18 : decode cX10_end 18 = .ok (.iconst 0, 1) := by decide +kernel
theorem dX10_end_19 : decode cX10_end 19 = .ok (.ireturn, 1) := by decide +kernel
theorem dX10_end_20 : decode cX10_end 20 = .ok (.aload_n 0, 1) := by decide +kernel
theorem dX10_end_21 : decode cX10_end 21 = .ok (.iload_n 1, 1) := by decide +kernel
theorem dX10_end_22 : decode cX10_end 22 = .ok (.putfield 141, 3) := by decide +kernel
theorem dX10_end_25 : decode cX10_end 25 = .ok (.iconst 1, 1) := by decide +kernel
theorem dX10_end_26 : decode cX10_end 26 = .ok (.ireturn, 1) := by decide +kernel
def M_end (s : ST) (x1 : Int32) : Int32 × ST := Lt (ups s 0 0 (0 : Int32)) fun s1 => Lt (M_isIn s1 x1 (0 : Int32) (s1.1 0 12)) fun y1 => if y1 = 0 then (((0 : Int32), s1)) else (Lt (ups s1 0 12 x1) fun s2 => ((1 : Int32), s2))
set_option maxRecDepth 100000 in
set_option maxHeartbeats 4000000 in
theorem k_end (l : Launch) (D : va_G) (cA : ClassId) (h : Nat → Nat) (s : ST) (x1 : Int32) : MI l (KM D cA h) 2 yX10_end cX10_end 2 (some .boolean) s [.ref (h 0), .int x1] (M_end s x1).1 (M_end s x1).2 := by
  refine met_i (by decide) (Nat.le_of_ble_eq_true rfl) ?_
  intro p e st m args below meth c Q X RI
  generalize hs : M_end s x1 = o at RI
  unfold M_end at hs
  refine g_aload_n X dX10_end_0 (q := 1) rfl 0 rfl ?_
  refine g_iconst X dX10_end_1 (q := 2) rfl li_i0 ?_
  refine mp_0 X dX10_end_2 (q := 5) rfl hs (fun s1 hs => ?_)
  refine g_aload_n X dX10_end_5 (q := 6) rfl 0 rfl ?_
  refine g_iload_n X dX10_end_6 (q := 7) rfl 1 rfl ?_
  refine g_iconst X dX10_end_7 (q := 8) rfl li_i0 ?_
  refine g_aload_n X dX10_end_8 (q := 9) rfl 0 rfl ?_
  refine mg_12 X dX10_end_9 (q := 12) rfl ?_
  refine v_isIn X dX10_end_12 (q := 15) rfl (Nat.le_of_ble_eq_true rfl) (Nat.le_of_ble_eq_true rfl) (Nat.le_of_ble_eq_true rfl) hs (fun y1 hs => ?_)
  refine g_if_ne X dX10_end_15 (q := 18) rfl (tgt := 20) (by decide) hs ?_ ?_
  · intro hs
    refine g_aload_n X dX10_end_20 (q := 21) rfl 0 rfl ?_
    refine g_iload_n X dX10_end_21 (q := 22) rfl 1 rfl ?_
    refine mp_12 X dX10_end_22 (q := 25) rfl hs (fun s2 hs => ?_)
    refine g_iconst X dX10_end_25 (q := 26) rfl li_i1 ?_
    exact RI _ 26 _ _ _ (rU0 hs) rfl (rV0 hs) dX10_end_26
  · intro hs
    refine g_iconst X dX10_end_18 (q := 19) rfl li_i0 ?_
    exact RI _ 19 _ _ _ (rU0 hs) rfl (rV0 hs) dX10_end_19
theorem dX10_raw_0 : decode cX10_raw 0 = .ok (.iload_n 1, 1) := by decide +kernel
theorem dX10_raw_1 : decode cX10_raw 1 = .ok (.aload_n 0, 1) := by decide +kernel
theorem dX10_raw_2 : decode cX10_raw 2 = .ok (.getfield 141, 3) := by decide +kernel
theorem dX10_raw_5 : decode cX10_raw 5 = .ok (.if_icmp .ge 12, 3) := by decide +kernel
theorem dX10_raw_8 : decode cX10_raw 8 = .ok (.aload_n 0, 1) := by decide +kernel
theorem dX10_raw_9 : decode cX10_raw 9 = .ok (.getfield 25, 3) := by decide +kernel
theorem dX10_raw_12 : decode cX10_raw 12 = .ok (.iload_n 1, 1) := by decide +kernel
theorem dX10_raw_13 : decode cX10_raw 13 = .ok (.iaload, 1) := by decide +kernel
theorem dX10_raw_14 : decode cX10_raw 14 = .ok (.goto 4, 3) := by decide +kernel
theorem dX10_raw_17 : decode cX10_raw 17 = .ok (.iconst (-1), 1) := by decide +kernel
theorem dX10_raw_18 : decode cX10_raw 18 = .ok (.ireturn, 1) := by decide +kernel
def M_raw (s : ST) (x1 : Int32) : Option (Int32) := if (s.1 0 12) ≤ x1 then (some (-1 : Int32)) else (Gl s 6 400 x1 fun y1 => some y1)
set_option maxRecDepth 100000 in
set_option maxHeartbeats 4000000 in
theorem k_raw (l : Launch) (D : va_G) (cA : ClassId) (h : Nat → Nat) (s : ST) (x1 : Int32) {o : Int32} (hs : M_raw s x1 = some o) : MI l (KM D cA h) 1 yX10_raw cX10_raw 2 (some .int) s [.ref (h 0), .int x1] o s := by
  refine met_i (by decide) (Nat.le_of_ble_eq_true rfl) ?_
  intro p e st m args below meth c Q X RI
  unfold M_raw at hs
  refine g_iload_n X dX10_raw_0 (q := 1) rfl 1 rfl ?_
  refine g_aload_n X dX10_raw_1 (q := 2) rfl 0 rfl ?_
  refine mg_12 X dX10_raw_2 (q := 5) rfl ?_
  refine g_icmp_ge X dX10_raw_5 (q := 8) rfl (tgt := 17) (by decide) hs ?_ ?_
  · intro hs
    refine g_iconst X dX10_raw_17 (q := 18) rfl li_im1 ?_
    exact RI _ 18 _ _ _ rfl rfl (Option.some.inj hs) dX10_raw_18
  · intro hs
    refine g_aload_n X dX10_raw_8 (q := 9) rfl 0 rfl ?_
    refine mg_11 X dX10_raw_9 (q := 12) rfl ?_
    refine g_iload_n X dX10_raw_12 (q := 13) rfl 1 rfl ?_
    refine ma_6 X dX10_raw_13 (q := 14) rfl hs (fun y1 hs => ?_)
    refine g_goto X dX10_raw_14 (tgt := 18) (by decide) ?_
    exact RI _ 18 _ _ _ rfl rfl (Option.some.inj hs) dX10_raw_18
theorem v_raw {p : Program} {l : Launch} {e : Env} {st : State} {m : MethodId} {args : Array Value} {below : List Frame} {meth : Method} {c : Code} {Q : State → Prop} {nL : Nat} {cc : ByteArray} {s : ST} {pc q : Nat} {lv : List (Nat × Value)} {rest : List Value} {D : va_G} {cA : ClassId} {h : Nat → Nat} {d0 : Nat} (X : Cx (KM D cA h) p st m args meth c cc nL RX10) {x1 : Int32} (d : decode cc pc = .ok (.invokevirtual 151, 3)) (hq : pc + 3 = q) (hd1 : 1 + 1 ≤ d0) (hd2 : 8 + (2 + 11) + 100 * 1 ≤ 100 * d0) (hr : (rest.map fun v => v.category).sum ≤ 8) {B : Type} {f : Int32 → Option B} {r : B} (hs : Bd (M_raw s x1) f = some r) (k : ∀ y, f y = some r → WG (KM D cA h) p l e (rmD d0) st m args below meth c Q nL s q lv (.int y :: rest)) : WG (KM D cA h) p l e (rmD d0) st m args below meth c Q nL s pc lv (.int x1 :: .ref (h 0) :: rest) := by
  obtain ⟨v, hv, hs⟩ := Bd_e hs
  exact cV_I X 0 (n := 1) (k_raw l D cA h s x1 hv) gv_X10_raw ⟨hd1, hd2⟩ ⟨by decide, by decide, by decide +kernel⟩ (As := [.int x1]) rfl hr (Nat.le_of_ble_eq_true rfl) (fs := mF h (s.1 0)) rfl rfl rfl d hq (k _ hs)
theorem dX10_isLetter_0 : decode cX10_isLetter 0 = .ok (.aload_n 0, 1) := by decide +kernel
theorem dX10_isLetter_1 : decode cX10_isLetter 1 = .ok (.iload_n 1, 1) := by decide +kernel
theorem dX10_isLetter_2 : decode cX10_isLetter 2 = .ok (.bipush 97, 2) := by decide +kernel
theorem dX10_isLetter_4 : decode cX10_isLetter 4 = .ok (.bipush 122, 2) := by decide +kernel
theorem dX10_isLetter_6 : decode cX10_isLetter 6 = .ok (.invokevirtual 111, 3) := by decide +kernel
theorem dX10_isLetter_9 : decode cX10_isLetter 9 = .ok (.ifCond .ne 15, 3) := by decide +kernel
theorem dX10_isLetter_12 : decode cX10_isLetter 12 = .ok (.aload_n 0, 1) := by decide +kernel
theorem dX10_isLetter_13 : decode cX10_isLetter 13 = .ok (.iload_n 1, 1) := by decide +kernel
theorem dX10_isLetter_14 : decode cX10_isLetter 14 = .ok (.bipush 65, 2) := by decide +kernel
theorem dX10_isLetter_16 : decode cX10_isLetter 16 = .ok (.bipush 90, 2) := by decide +kernel
theorem dX10_isLetter_18 : decode cX10_isLetter 18 = .ok (.invokevirtual 111, 3) := by decide +kernel
theorem dX10_isLetter_21 : decode cX10_isLetter 21 = .ok (.ifCond .eq 7, 3) := by decide +kernel
theorem dX10_isLetter_24 : decode cX10_isLetter 24 = .ok (.iconst 1, 1) := by decide +kernel
theorem dX10_isLetter_25 : decode cX10_isLetter 25 = .ok (.goto 4, 3) := by decide +kernel
theorem dX10_isLetter_28 : decode cX10_isLetter 28 = .ok (.iconst 0, 1) := by decide +kernel
theorem dX10_isLetter_29 : decode cX10_isLetter 29 = .ok (.ireturn, 1) := by decide +kernel
def M_isLetter (s : ST) (x1 : Int32) : Int32 := Lt (M_isIn s x1 (97 : Int32) (122 : Int32)) fun y1 => Lt ((1 : Int32) : Int32) fun j1 => if y1 = 0 then (Lt (M_isIn s x1 (65 : Int32) (90 : Int32)) fun y2 => if y2 = 0 then ((0 : Int32)) else (j1)) else (j1)
set_option maxRecDepth 100000 in
set_option maxHeartbeats 4000000 in
theorem k_isLetter (l : Launch) (D : va_G) (cA : ClassId) (h : Nat → Nat) (s : ST) (x1 : Int32) : MI l (KM D cA h) 2 yX10_isLetter cX10_isLetter 2 (some .boolean) s [.ref (h 0), .int x1] (M_isLetter s x1) s := by
  refine met_i (by decide) (Nat.le_of_ble_eq_true rfl) ?_
  intro p e st m args below meth c Q X RI
  generalize hs : M_isLetter s x1 = o at RI
  unfold M_isLetter at hs
  refine g_aload_n X dX10_isLetter_0 (q := 1) rfl 0 rfl ?_
  refine g_iload_n X dX10_isLetter_1 (q := 2) rfl 1 rfl ?_
  refine g_bipush X dX10_isLetter_2 (q := 4) rfl li_b97 ?_
  refine g_bipush X dX10_isLetter_4 (q := 6) rfl li_b122 ?_
  refine v_isIn X dX10_isLetter_6 (q := 9) rfl (Nat.le_of_ble_eq_true rfl) (Nat.le_of_ble_eq_true rfl) (Nat.le_of_ble_eq_true rfl) hs (fun y1 hs => ?_)
  refine jnW0 (WG (KM D cA h) p l e (rmD 2) st m args below meth c Q 2 s 24 [] []) hs (fun  hs => ?_) (fun j1 ih1 hs => ?_)
  · refine g_iconst X dX10_isLetter_24 (q := 25) rfl li_i1 ?_
    refine g_goto X dX10_isLetter_25 (tgt := 29) (by decide) ?_
    exact RI _ 29 _ _ _ rfl rfl hs dX10_isLetter_29
  refine g_if_ne X dX10_isLetter_9 (q := 12) rfl (tgt := 24) (by decide) hs ?_ ?_
  · intro hs
    exact wg_sub [] rfl (ih1 hs)
  · intro hs
    refine g_aload_n X dX10_isLetter_12 (q := 13) rfl 0 rfl ?_
    refine g_iload_n X dX10_isLetter_13 (q := 14) rfl 1 rfl ?_
    refine g_bipush X dX10_isLetter_14 (q := 16) rfl li_b65 ?_
    refine g_bipush X dX10_isLetter_16 (q := 18) rfl li_b90 ?_
    refine v_isIn X dX10_isLetter_18 (q := 21) rfl (Nat.le_of_ble_eq_true rfl) (Nat.le_of_ble_eq_true rfl) (Nat.le_of_ble_eq_true rfl) hs (fun y2 hs => ?_)
    refine g_if_eq X dX10_isLetter_21 (q := 24) rfl (tgt := 28) (by decide) hs ?_ ?_
    · intro hs
      refine g_iconst X dX10_isLetter_28 (q := 29) rfl li_i0 ?_
      exact RI _ 29 _ _ _ rfl rfl hs dX10_isLetter_29
    · intro hs
      exact wg_sub [] rfl (ih1 hs)
theorem v_isLetter {p : Program} {l : Launch} {e : Env} {st : State} {m : MethodId} {args : Array Value} {below : List Frame} {meth : Method} {c : Code} {Q : State → Prop} {nL : Nat} {cc : ByteArray} {s : ST} {pc q : Nat} {lv : List (Nat × Value)} {rest : List Value} {D : va_G} {cA : ClassId} {h : Nat → Nat} {d0 : Nat} (X : Cx (KM D cA h) p st m args meth c cc nL RX10) {x1 : Int32} (d : decode cc pc = .ok (.invokevirtual 163, 3)) (hq : pc + 3 = q) (hd1 : 2 + 1 ≤ d0) (hd2 : 8 + (2 + 11) + 100 * 2 ≤ 100 * d0) (hr : (rest.map fun v => v.category).sum ≤ 8) {B : Type} {f : Int32 → B} {r : B} (hs : Lt (M_isLetter s x1) f = r) (k : ∀ y, f y = r → WG (KM D cA h) p l e (rmD d0) st m args below meth c Q nL s q lv (.int y :: rest)) : WG (KM D cA h) p l e (rmD d0) st m args below meth c Q nL s pc lv (.int x1 :: .ref (h 0) :: rest) := by
  exact cV_I X 0 (n := 1) (k_isLetter l D cA h s x1) gv_X10_isLetter ⟨hd1, hd2⟩ ⟨by decide, by decide, by decide +kernel⟩ (As := [.int x1]) rfl hr (Nat.le_of_ble_eq_true rfl) (fs := mF h (s.1 0)) rfl rfl rfl d hq (k _ hs)
theorem dX10_isDigit_0 : decode cX10_isDigit 0 = .ok (.aload_n 0, 1) := by decide +kernel
theorem dX10_isDigit_1 : decode cX10_isDigit 1 = .ok (.iload_n 1, 1) := by decide +kernel
theorem dX10_isDigit_2 : decode cX10_isDigit 2 = .ok (.bipush 48, 2) := by decide +kernel
theorem dX10_isDigit_4 : decode cX10_isDigit 4 = .ok (.bipush 57, 2) := by decide +kernel
theorem dX10_isDigit_6 : decode cX10_isDigit 6 = .ok (.invokevirtual 111, 3) := by decide +kernel
theorem dX10_isDigit_9 : decode cX10_isDigit 9 = .ok (.ireturn, 1) := by decide +kernel
def M_isDigit (s : ST) (x1 : Int32) : Int32 := Lt (M_isIn s x1 (48 : Int32) (57 : Int32)) fun y1 => (y1 &&& 1)
set_option maxRecDepth 100000 in
set_option maxHeartbeats 4000000 in
theorem k_isDigit (l : Launch) (D : va_G) (cA : ClassId) (h : Nat → Nat) (s : ST) (x1 : Int32) : MI l (KM D cA h) 2 yX10_isDigit cX10_isDigit 2 (some .boolean) s [.ref (h 0), .int x1] (M_isDigit s x1) s := by
  refine met_i (by decide) (Nat.le_of_ble_eq_true rfl) ?_
  intro p e st m args below meth c Q X RI
  generalize hs : M_isDigit s x1 = o at RI
  unfold M_isDigit at hs
  refine g_aload_n X dX10_isDigit_0 (q := 1) rfl 0 rfl ?_
  refine g_iload_n X dX10_isDigit_1 (q := 2) rfl 1 rfl ?_
  refine g_bipush X dX10_isDigit_2 (q := 4) rfl li_b48 ?_
  refine g_bipush X dX10_isDigit_4 (q := 6) rfl li_b57 ?_
  refine v_isIn X dX10_isDigit_6 (q := 9) rfl (Nat.le_of_ble_eq_true rfl) (Nat.le_of_ble_eq_true rfl) (Nat.le_of_ble_eq_true rfl) hs (fun y1 hs => ?_)
  exact RI _ 9 _ _ _ rfl rfl hs dX10_isDigit_9
theorem v_isDigit {p : Program} {l : Launch} {e : Env} {st : State} {m : MethodId} {args : Array Value} {below : List Frame} {meth : Method} {c : Code} {Q : State → Prop} {nL : Nat} {cc : ByteArray} {s : ST} {pc q : Nat} {lv : List (Nat × Value)} {rest : List Value} {D : va_G} {cA : ClassId} {h : Nat → Nat} {d0 : Nat} (X : Cx (KM D cA h) p st m args meth c cc nL RX10) {x1 : Int32} (d : decode cc pc = .ok (.invokevirtual 170, 3)) (hq : pc + 3 = q) (hd1 : 2 + 1 ≤ d0) (hd2 : 8 + (2 + 11) + 100 * 2 ≤ 100 * d0) (hr : (rest.map fun v => v.category).sum ≤ 8) {B : Type} {f : Int32 → B} {r : B} (hs : Lt (M_isDigit s x1) f = r) (k : ∀ y, f y = r → WG (KM D cA h) p l e (rmD d0) st m args below meth c Q nL s q lv (.int y :: rest)) : WG (KM D cA h) p l e (rmD d0) st m args below meth c Q nL s pc lv (.int x1 :: .ref (h 0) :: rest) := by
  exact cV_I X 0 (n := 1) (k_isDigit l D cA h s x1) gv_X10_isDigit ⟨hd1, hd2⟩ ⟨by decide, by decide, by decide +kernel⟩ (As := [.int x1]) rfl hr (Nat.le_of_ble_eq_true rfl) (fs := mF h (s.1 0)) rfl rfl rfl d hq (k _ hs)
theorem dX10_isMarkSign_0 : decode cX10_isMarkSign 0 = .ok (.iload_n 1, 1) := by decide +kernel
theorem dX10_isMarkSign_1 : decode cX10_isMarkSign 1 = .ok (.bipush 59, 2) := by decide +kernel
theorem dX10_isMarkSign_3 : decode cX10_isMarkSign 3 = .ok (.if_icmp .eq 57, 3) := by decide +kernel
theorem dX10_isMarkSign_6 : decode cX10_isMarkSign 6 = .ok (.iload_n 1, 1) := by decide +kernel
theorem dX10_isMarkSign_7 : decode cX10_isMarkSign 7 = .ok (.bipush 43, 2) := by decide +kernel
theorem dX10_isMarkSign_9 : decode cX10_isMarkSign 9 = .ok (.if_icmp .eq 51, 3) := by decide +kernel
theorem dX10_isMarkSign_12 : decode cX10_isMarkSign 12 = .ok (.iload_n 1, 1) := by decide +kernel
theorem dX10_isMarkSign_13 : decode cX10_isMarkSign 13 = .ok (.bipush 45, 2) := by decide +kernel
theorem dX10_isMarkSign_15 : decode cX10_isMarkSign 15 = .ok (.if_icmp .eq 45, 3) := by decide +kernel
theorem dX10_isMarkSign_18 : decode cX10_isMarkSign 18 = .ok (.iload_n 1, 1) := by decide +kernel
theorem dX10_isMarkSign_19 : decode cX10_isMarkSign 19 = .ok (.bipush 42, 2) := by decide +kernel
theorem dX10_isMarkSign_21 : decode cX10_isMarkSign 21 = .ok (.if_icmp .eq 39, 3) := by decide +kernel
theorem dX10_isMarkSign_24 : decode cX10_isMarkSign 24 = .ok (.iload_n 1, 1) := by decide +kernel
theorem dX10_isMarkSign_25 : decode cX10_isMarkSign 25 = .ok (.bipush 47, 2) := by decide +kernel
theorem dX10_isMarkSign_27 : decode cX10_isMarkSign 27 = .ok (.if_icmp .eq 33, 3) := by decide +kernel
theorem dX10_isMarkSign_30 : decode cX10_isMarkSign 30 = .ok (.iload_n 1, 1) := by decide +kernel
theorem dX10_isMarkSign_31 : decode cX10_isMarkSign 31 = .ok (.bipush 40, 2) := by decide +kernel
theorem dX10_isMarkSign_33 : decode cX10_isMarkSign 33 = .ok (.if_icmp .eq 27, 3) := by decide +kernel
theorem dX10_isMarkSign_36 : decode cX10_isMarkSign 36 = .ok (.iload_n 1, 1) := by decide +kernel
theorem dX10_isMarkSign_37 : decode cX10_isMarkSign 37 = .ok (.bipush 41, 2) := by decide +kernel
theorem dX10_isMarkSign_39 : decode cX10_isMarkSign 39 = .ok (.if_icmp .eq 21, 3) := by decide +kernel
theorem dX10_isMarkSign_42 : decode cX10_isMarkSign 42 = .ok (.iload_n 1, 1) := by decide +kernel
theorem dX10_isMarkSign_43 : decode cX10_isMarkSign 43 = .ok (.bipush 60, 2) := by decide +kernel
theorem dX10_isMarkSign_45 : decode cX10_isMarkSign 45 = .ok (.if_icmp .eq 15, 3) := by decide +kernel
theorem dX10_isMarkSign_48 : decode cX10_isMarkSign 48 = .ok (.iload_n 1, 1) := by decide +kernel
theorem dX10_isMarkSign_49 : decode cX10_isMarkSign 49 = .ok (.bipush 61, 2) := by decide +kernel
theorem dX10_isMarkSign_51 : decode cX10_isMarkSign 51 = .ok (.if_icmp .eq 9, 3) := by decide +kernel
theorem dX10_isMarkSign_54 : decode cX10_isMarkSign 54 = .ok (.iload_n 1, 1) := by decide +kernel
theorem dX10_isMarkSign_55 : decode cX10_isMarkSign 55 = .ok (.bipush 62, 2) := by decide +kernel
theorem dX10_isMarkSign_57 : decode cX10_isMarkSign 57 = .ok (.if_icmp .ne 7, 3) := by decide +kernel
theorem dX10_isMarkSign_60 : decode cX10_isMarkSign 60 = .ok (.iconst 1, 1) := by decide +kernel
theorem dX10_isMarkSign_61 : decode cX10_isMarkSign 61 = .ok (.goto 4, 3) := by decide +kernel
theorem dX10_isMarkSign_64 : decode cX10_isMarkSign 64 = .ok (.iconst 0, 1) := by decide +kernel
theorem dX10_isMarkSign_65 : decode cX10_isMarkSign 65 = .ok (.ireturn, 1) := by decide +kernel
def M_isMarkSign (s : ST) (x1 : Int32) : Int32 := Lt ((1 : Int32) : Int32) fun j1 => if x1 = (59 : Int32) then (j1) else (if x1 = (43 : Int32) then (j1) else (if x1 = (45 : Int32) then (j1) else (if x1 = (42 : Int32) then (j1) else (if x1 = (47 : Int32) then (j1) else (if x1 = (40 : Int32) then (j1) else (if x1 = (41 : Int32) then (j1) else (if x1 = (60 : Int32) then (j1) else (if x1 = (61 : Int32) then (j1) else (if x1 = (62 : Int32) then (j1) else ((0 : Int32)))))))))))
set_option maxRecDepth 100000 in
set_option maxHeartbeats 4000000 in
theorem k_isMarkSign (l : Launch) (D : va_G) (cA : ClassId) (h : Nat → Nat) (s : ST) (x1 : Int32) : MI l (KM D cA h) 1 yX10_isMarkSign cX10_isMarkSign 2 (some .boolean) s [.ref (h 0), .int x1] (M_isMarkSign s x1) s := by
  refine met_i (by decide) (Nat.le_of_ble_eq_true rfl) ?_
  intro p e st m args below meth c Q X RI
  generalize hs : M_isMarkSign s x1 = o at RI
  unfold M_isMarkSign at hs
  refine g_iload_n X dX10_isMarkSign_0 (q := 1) rfl 1 rfl ?_
  refine g_bipush X dX10_isMarkSign_1 (q := 3) rfl li_b59 ?_
  refine jnW0 (WG (KM D cA h) p l e (rmD 1) st m args below meth c Q 2 s 60 [] []) hs (fun  hs => ?_) (fun j1 ih1 hs => ?_)
  · refine g_iconst X dX10_isMarkSign_60 (q := 61) rfl li_i1 ?_
    refine g_goto X dX10_isMarkSign_61 (tgt := 65) (by decide) ?_
    exact RI _ 65 _ _ _ rfl rfl hs dX10_isMarkSign_65
  refine g_icmp_eq X dX10_isMarkSign_3 (q := 6) rfl (tgt := 60) (by decide) hs ?_ ?_
  · intro hs
    exact wg_sub [] rfl (ih1 hs)
  · intro hs
    refine g_iload_n X dX10_isMarkSign_6 (q := 7) rfl 1 rfl ?_
    refine g_bipush X dX10_isMarkSign_7 (q := 9) rfl li_b43 ?_
    refine g_icmp_eq X dX10_isMarkSign_9 (q := 12) rfl (tgt := 60) (by decide) hs ?_ ?_
    · intro hs
      exact wg_sub [] rfl (ih1 hs)
    · intro hs
      refine g_iload_n X dX10_isMarkSign_12 (q := 13) rfl 1 rfl ?_
      refine g_bipush X dX10_isMarkSign_13 (q := 15) rfl li_b45 ?_
      refine g_icmp_eq X dX10_isMarkSign_15 (q := 18) rfl (tgt := 60) (by decide) hs ?_ ?_
      · intro hs
        exact wg_sub [] rfl (ih1 hs)
      · intro hs
        refine g_iload_n X dX10_isMarkSign_18 (q := 19) rfl 1 rfl ?_
        refine g_bipush X dX10_isMarkSign_19 (q := 21) rfl li_b42 ?_
        refine g_icmp_eq X dX10_isMarkSign_21 (q := 24) rfl (tgt := 60) (by decide) hs ?_ ?_
        · intro hs
          exact wg_sub [] rfl (ih1 hs)
        · intro hs
          refine g_iload_n X dX10_isMarkSign_24 (q := 25) rfl 1 rfl ?_
          refine g_bipush X dX10_isMarkSign_25 (q := 27) rfl li_b47 ?_
          refine g_icmp_eq X dX10_isMarkSign_27 (q := 30) rfl (tgt := 60) (by decide) hs ?_ ?_
          · intro hs
            exact wg_sub [] rfl (ih1 hs)
          · intro hs
            refine g_iload_n X dX10_isMarkSign_30 (q := 31) rfl 1 rfl ?_
            refine g_bipush X dX10_isMarkSign_31 (q := 33) rfl li_b40 ?_
            refine g_icmp_eq X dX10_isMarkSign_33 (q := 36) rfl (tgt := 60) (by decide) hs ?_ ?_
            · intro hs
              exact wg_sub [] rfl (ih1 hs)
            · intro hs
              refine g_iload_n X dX10_isMarkSign_36 (q := 37) rfl 1 rfl ?_
              refine g_bipush X dX10_isMarkSign_37 (q := 39) rfl li_b41 ?_
              refine g_icmp_eq X dX10_isMarkSign_39 (q := 42) rfl (tgt := 60) (by decide) hs ?_ ?_
              · intro hs
                exact wg_sub [] rfl (ih1 hs)
              · intro hs
                refine g_iload_n X dX10_isMarkSign_42 (q := 43) rfl 1 rfl ?_
                refine g_bipush X dX10_isMarkSign_43 (q := 45) rfl li_b60 ?_
                refine g_icmp_eq X dX10_isMarkSign_45 (q := 48) rfl (tgt := 60) (by decide) hs ?_ ?_
                · intro hs
                  exact wg_sub [] rfl (ih1 hs)
                · intro hs
                  refine g_iload_n X dX10_isMarkSign_48 (q := 49) rfl 1 rfl ?_
                  refine g_bipush X dX10_isMarkSign_49 (q := 51) rfl li_b61 ?_
                  refine g_icmp_eq X dX10_isMarkSign_51 (q := 54) rfl (tgt := 60) (by decide) hs ?_ ?_
                  · intro hs
                    exact wg_sub [] rfl (ih1 hs)
                  · intro hs
                    refine g_iload_n X dX10_isMarkSign_54 (q := 55) rfl 1 rfl ?_
                    refine g_bipush X dX10_isMarkSign_55 (q := 57) rfl li_b62 ?_
                    refine g_icmp_ne X dX10_isMarkSign_57 (q := 60) rfl (tgt := 64) (by decide) hs ?_ ?_
                    · intro hs
                      refine g_iconst X dX10_isMarkSign_64 (q := 65) rfl li_i0 ?_
                      exact RI _ 65 _ _ _ rfl rfl hs dX10_isMarkSign_65
                    · intro hs
                      exact wg_sub [] rfl (ih1 hs)
theorem v_isMarkSign {p : Program} {l : Launch} {e : Env} {st : State} {m : MethodId} {args : Array Value} {below : List Frame} {meth : Method} {c : Code} {Q : State → Prop} {nL : Nat} {cc : ByteArray} {s : ST} {pc q : Nat} {lv : List (Nat × Value)} {rest : List Value} {D : va_G} {cA : ClassId} {h : Nat → Nat} {d0 : Nat} (X : Cx (KM D cA h) p st m args meth c cc nL RX10) {x1 : Int32} (d : decode cc pc = .ok (.invokevirtual 173, 3)) (hq : pc + 3 = q) (hd1 : 1 + 1 ≤ d0) (hd2 : 8 + (2 + 11) + 100 * 1 ≤ 100 * d0) (hr : (rest.map fun v => v.category).sum ≤ 8) {B : Type} {f : Int32 → B} {r : B} (hs : Lt (M_isMarkSign s x1) f = r) (k : ∀ y, f y = r → WG (KM D cA h) p l e (rmD d0) st m args below meth c Q nL s q lv (.int y :: rest)) : WG (KM D cA h) p l e (rmD d0) st m args below meth c Q nL s pc lv (.int x1 :: .ref (h 0) :: rest) := by
  exact cV_I X 0 (n := 1) (k_isMarkSign l D cA h s x1) gv_X10_isMarkSign ⟨hd1, hd2⟩ ⟨by decide, by decide, by decide +kernel⟩ (As := [.int x1]) rfl hr (Nat.le_of_ble_eq_true rfl) (fs := mF h (s.1 0)) rfl rfl rfl d hq (k _ hs)
theorem dX10_wordAt_0 : decode cX10_wordAt 0 = .ok (.iconst (-1), 1) := by decide +kernel
theorem dX10_wordAt_1 : decode cX10_wordAt 1 = .ok (.istore_n 3, 1) := by decide +kernel
theorem dX10_wordAt_2 : decode cX10_wordAt 2 = .ok (.iconst 0, 1) := by decide +kernel
theorem dX10_wordAt_3 : decode cX10_wordAt 3 = .ok (.istore 4, 2) := by decide +kernel
theorem dX10_wordAt_5 : decode cX10_wordAt 5 = .ok (.iload 4, 2) := by decide +kernel
theorem dX10_wordAt_7 : decode cX10_wordAt 7 = .ok (.sipush 149, 3) := by decide +kernel
theorem dX10_wordAt_10 : decode cX10_wordAt 10 = .ok (.if_icmp .ge 108, 3) := by decide +kernel
theorem dX10_wordAt_13 : decode cX10_wordAt 13 = .ok (.iconst 0, 1) := by decide +kernel
theorem dX10_wordAt_14 : decode cX10_wordAt 14 = .ok (.istore 5, 2) := by decide +kernel
theorem dX10_wordAt_16 : decode cX10_wordAt 16 = .ok (.iload_n 3, 1) := by decide +kernel
theorem dX10_wordAt_17 : decode cX10_wordAt 17 = .ok (.iconst 1, 1) := by decide +kernel
theorem dX10_wordAt_18 : decode cX10_wordAt 18 = .ok (.iadd, 1) := by decide +kernel
theorem dX10_wordAt_19 : decode cX10_wordAt 19 = .ok (.istore_n 3, 1) := by decide +kernel
theorem dX10_wordAt_20 : decode cX10_wordAt 20 = .ok (.iload_n 1, 1) := by decide +kernel
theorem dX10_wordAt_21 : decode cX10_wordAt 21 = .ok (.iload 5, 2) := by decide +kernel
theorem dX10_wordAt_23 : decode cX10_wordAt 23 = .ok (.iadd, 1) := by decide +kernel
theorem dX10_wordAt_24 : decode cX10_wordAt 24 = .ok (.iload_n 2, 1) := by decide +kernel
theorem dX10_wordAt_25 : decode cX10_wordAt 25 = .ok (.if_icmp .ge 36, 3) := by decide +kernel
theorem dX10_wordAt_28 : decode cX10_wordAt 28 = .ok (.aload_n 0, 1) := by decide +kernel
theorem dX10_wordAt_29 : decode cX10_wordAt 29 = .ok (.getfield 28, 3) := by decide +kernel
theorem dX10_wordAt_32 : decode cX10_wordAt 32 = .ok (.iload 4, 2) := by decide +kernel
theorem dX10_wordAt_34 : decode cX10_wordAt 34 = .ok (.iconst 1, 1) := by decide +kernel
theorem dX10_wordAt_35 : decode cX10_wordAt 35 = .ok (.iadd, 1) := by decide +kernel
theorem dX10_wordAt_36 : decode cX10_wordAt 36 = .ok (.iload 5, 2) := by decide +kernel
theorem dX10_wordAt_38 : decode cX10_wordAt 38 = .ok (.iadd, 1) := by decide +kernel
theorem dX10_wordAt_39 : decode cX10_wordAt 39 = .ok (.iaload, 1) := by decide +kernel
theorem dX10_wordAt_40 : decode cX10_wordAt 40 = .ok (.aload_n 0, 1) := by decide +kernel
theorem dX10_wordAt_41 : decode cX10_wordAt 41 = .ok (.getfield 25, 3) := by decide +kernel
theorem dX10_wordAt_44 : decode cX10_wordAt 44 = .ok (.iload_n 1, 1) := by decide +kernel
theorem dX10_wordAt_45 : decode cX10_wordAt 45 = .ok (.iload 5, 2) := by decide +kernel
theorem dX10_wordAt_47 : decode cX10_wordAt 47 = .ok (.iadd, 1) := by decide +kernel
theorem dX10_wordAt_48 : decode cX10_wordAt 48 = .ok (.iaload, 1) := by decide +kernel
theorem dX10_wordAt_49 : decode cX10_wordAt 49 = .ok (.if_icmp .ne 12, 3) := by decide +kernel
theorem dX10_wordAt_52 : decode cX10_wordAt 52 = .ok (.iload 5, 2) := by decide +kernel
theorem dX10_wordAt_54 : decode cX10_wordAt 54 = .ok (.iconst 1, 1) := by decide +kernel
theorem dX10_wordAt_55 : decode cX10_wordAt 55 = .ok (.iadd, 1) := by decide +kernel
theorem dX10_wordAt_56 : decode cX10_wordAt 56 = .ok (.istore 5, 2) := by decide +kernel
theorem dX10_wordAt_58 : decode cX10_wordAt 58 = .ok (.goto (-38), 3) := by decide +kernel
theorem dX10_wordAt_61 : decode cX10_wordAt 61 = .ok (.iload_n 1, 1) := by decide +kernel
theorem dX10_wordAt_62 : decode cX10_wordAt 62 = .ok (.iload 5, 2) := by decide +kernel
theorem dX10_wordAt_64 : decode cX10_wordAt 64 = .ok (.iadd, 1) := by decide +kernel
theorem dX10_wordAt_65 : decode cX10_wordAt 65 = .ok (.iload_n 2, 1) := by decide +kernel
theorem dX10_wordAt_66 : decode cX10_wordAt 66 = .ok (.if_icmp .ne 22, 3) := by decide +kernel
theorem dX10_wordAt_69 : decode cX10_wordAt 69 = .ok (.aload_n 0, 1) := by decide +kernel
theorem dX10_wordAt_70 : decode cX10_wordAt 70 = .ok (.getfield 28, 3) := by decide +kernel
theorem dX10_wordAt_73 : decode cX10_wordAt 73 = .ok (.iload 4, 2) := by decide +kernel
theorem dX10_wordAt_75 : decode cX10_wordAt 75 = .ok (.iconst 1, 1) := by decide +kernel
theorem dX10_wordAt_76 : decode cX10_wordAt 76 = .ok (.iadd, 1) := by decide +kernel
theorem dX10_wordAt_77 : decode cX10_wordAt 77 = .ok (.iload 5, 2) := by decide +kernel
theorem dX10_wordAt_79 : decode cX10_wordAt 79 = .ok (.iadd, 1) := by decide +kernel
theorem dX10_wordAt_80 : decode cX10_wordAt 80 = .ok (.iaload, 1) := by decide +kernel
theorem dX10_wordAt_81 : decode cX10_wordAt 81 = .ok (.bipush 32, 2) := by decide +kernel
theorem dX10_wordAt_83 : decode cX10_wordAt 83 = .ok (.if_icmp .ne 5, 3) := by decide +kernel
theorem dX10_wordAt_86 : decode cX10_wordAt 86 = .ok (.iload_n 3, 1) := by decide +kernel
theorem dX10_wordAt_87 : decode cX10_wordAt 87 = .ok (.ireturn, 1) := by decide +kernel
theorem dX10_wordAt_88 : decode cX10_wordAt 88 = .ok (.iload 4, 2) := by decide +kernel
theorem dX10_wordAt_90 : decode cX10_wordAt 90 = .ok (.iconst 1, 1) := by decide +kernel
theorem dX10_wordAt_91 : decode cX10_wordAt 91 = .ok (.iadd, 1) := by decide +kernel
theorem dX10_wordAt_92 : decode cX10_wordAt 92 = .ok (.istore 4, 2) := by decide +kernel
theorem dX10_wordAt_94 : decode cX10_wordAt 94 = .ok (.aload_n 0, 1) := by decide +kernel
theorem dX10_wordAt_95 : decode cX10_wordAt 95 = .ok (.getfield 28, 3) := by decide +kernel
theorem dX10_wordAt_98 : decode cX10_wordAt 98 = .ok (.iload 4, 2) := by decide +kernel
theorem dX10_wordAt_100 : decode cX10_wordAt 100 = .ok (.iaload, 1) := by decide +kernel
theorem dX10_wordAt_101 : decode cX10_wordAt 101 = .ok (.bipush 32, 2) := by decide +kernel
theorem dX10_wordAt_103 : decode cX10_wordAt 103 = .ok (.if_icmp .eq 12, 3) := by decide +kernel
theorem dX10_wordAt_106 : decode cX10_wordAt 106 = .ok (.iload 4, 2) := by decide +kernel
theorem dX10_wordAt_108 : decode cX10_wordAt 108 = .ok (.iconst 1, 1) := by decide +kernel
theorem dX10_wordAt_109 : decode cX10_wordAt 109 = .ok (.iadd, 1) := by decide +kernel
theorem dX10_wordAt_110 : decode cX10_wordAt 110 = .ok (.istore 4, 2) := by decide +kernel
theorem dX10_wordAt_112 : decode cX10_wordAt 112 = .ok (.goto (-18), 3) := by decide +kernel
theorem dX10_wordAt_115 : decode cX10_wordAt 115 = .ok (.goto (-110), 3) := by decide +kernel
theorem dX10_wordAt_118 : decode cX10_wordAt 118 = .ok (.iconst (-1), 1) := by decide +kernel
theorem dX10_wordAt_119 : decode cX10_wordAt 119 = .ok (.ireturn, 1) := by decide +kernel
def M_wordAt (s : ST) (x1 : Int32) (x2 : Int32) : Option (Int32) := lpK2 (C := Int32) (fun (rec1 : Int32 → Int32 → Option (Int32)) (a1 : Int32) (a2 : Int32) => if (149 : Int32) ≤ a2 then (some (-1 : Int32)) else (Lt ((a1 + (1 : Int32))) fun y1 => lpK1 (C := Int32) (fun (rec2 : Int32 → Option (Int32)) (a3 : Int32) => Lt (Lt (Lt ((a2 + (1 : Int32))) fun y2 => lpK1 (C := Int32) (fun (rec3 : Int32 → Option (Int32)) (a4 : Int32) => Gl s 7 150 a4 fun y3 => if y3 = (32 : Int32) then (rec1 y1 a4) else (Lt ((a4 + (1 : Int32))) fun y4 => rec3 y4)) FU y2 : Option (Int32)) fun j2 => if (x1 + a3) = x2 then (Gl s 7 150 ((a2 + (1 : Int32)) + a3) fun y5 => if y5 = (32 : Int32) then (some y1) else (j2)) else (j2) : Option (Int32)) fun j1 => if x2 ≤ (x1 + a3) then (j1) else (Gl s 7 150 ((a2 + (1 : Int32)) + a3) fun y6 => Gl s 6 400 (x1 + a3) fun y7 => if y6 = y7 then (Lt ((a3 + (1 : Int32))) fun y8 => rec2 y8) else (j1))) FU (0 : Int32))) FU (-1 : Int32) (0 : Int32)
set_option maxRecDepth 100000 in
set_option maxHeartbeats 4000000 in
theorem k_wordAt (l : Launch) (D : va_G) (cA : ClassId) (h : Nat → Nat) (s : ST) (x1 : Int32) (x2 : Int32) {o : Int32} (hs : M_wordAt s x1 x2 = some o) : MI l (KM D cA h) 1 yX10_wordAt cX10_wordAt 6 (some .int) s [.ref (h 0), .int x1, .int x2] o s := by
  refine met_i (by decide) (Nat.le_of_ble_eq_true rfl) ?_
  intro p e st m args below meth c Q X RI
  unfold M_wordAt at hs
  refine g_iconst X dX10_wordAt_0 (q := 1) rfl li_im1 ?_
  refine g_istore_n X dX10_wordAt_1 (q := 2) rfl (Nat.le_of_ble_eq_true rfl) (lv' := [(3, .int (-1 : Int32)), (0, .ref (h 0)), (1, .int x1), (2, .int x2)]) rfl ?_
  refine g_iconst X dX10_wordAt_2 (q := 3) rfl li_i0 ?_
  refine g_istore X dX10_wordAt_3 (q := 5) rfl (Nat.le_of_ble_eq_true rfl) (lv' := [(4, .int (0 : Int32)), (3, .int (-1 : Int32)), (0, .ref (h 0)), (1, .int x1), (2, .int x2)]) rfl ?_
  refine wg_sub [2, 3, 4, 1, 0] rfl (lpW2 (fun (a1 : Int32) (a2 : Int32) => WG (KM D cA h) p l e (rmD 1) st m args below meth c Q 6 s 5 [(0, .ref (h 0)), (1, .int x1), (2, .int x2), (3, .int a1), (4, .int a2)] []) (fun rec1 ih1 a1 a2 hs => ?_) _ _ _ hs)
  refine g_iload X dX10_wordAt_5 (q := 7) rfl 4 rfl ?_
  refine g_sipush X dX10_wordAt_7 (q := 10) rfl li_s149 ?_
  refine g_icmp_ge X dX10_wordAt_10 (q := 13) rfl (tgt := 118) (by decide) hs ?_ ?_
  · intro hs
    refine g_iconst X dX10_wordAt_118 (q := 119) rfl li_im1 ?_
    exact RI _ 119 _ _ _ rfl rfl (Option.some.inj hs) dX10_wordAt_119
  · intro hs
    refine g_iconst X dX10_wordAt_13 (q := 14) rfl li_i0 ?_
    refine g_istore X dX10_wordAt_14 (q := 16) rfl (Nat.le_of_ble_eq_true rfl) (lv' := [(5, .int (0 : Int32)), (0, .ref (h 0)), (1, .int x1), (2, .int x2), (3, .int a1), (4, .int a2)]) rfl ?_
    refine g_iload_n X dX10_wordAt_16 (q := 17) rfl 4 rfl ?_
    refine g_iconst X dX10_wordAt_17 (q := 18) rfl li_i1 ?_
    refine g_iadd X dX10_wordAt_18 (q := 19) rfl ?_
    refine nmI hs (fun y1 hs => ?_)
    refine g_istore_n X dX10_wordAt_19 (q := 20) rfl (Nat.le_of_ble_eq_true rfl) (lv' := [(3, .int y1), (5, .int (0 : Int32)), (0, .ref (h 0)), (1, .int x1), (2, .int x2), (4, .int a2)]) rfl ?_
    refine wg_sub [2, 3, 4, 0, 5, 1] rfl (lpW1 (fun (a3 : Int32) => WG (KM D cA h) p l e (rmD 1) st m args below meth c Q 6 s 20 [(0, .ref (h 0)), (1, .int x1), (2, .int x2), (3, .int y1), (4, .int a2), (5, .int a3)] []) (fun rec2 ih2 a3 hs => ?_) _ _ hs)
    refine g_iload_n X dX10_wordAt_20 (q := 21) rfl 1 rfl ?_
    refine g_iload X dX10_wordAt_21 (q := 23) rfl 5 rfl ?_
    refine g_iadd X dX10_wordAt_23 (q := 24) rfl ?_
    refine g_iload_n X dX10_wordAt_24 (q := 25) rfl 2 rfl ?_
    refine jnW0 (WG (KM D cA h) p l e (rmD 1) st m args below meth c Q 6 s 61 [(0, .ref (h 0)), (1, .int x1), (2, .int x2), (3, .int y1), (4, .int a2), (5, .int a3)] []) hs (fun  hs => ?_) (fun j1 ih3 hs => ?_)
    · refine g_iload_n X dX10_wordAt_61 (q := 62) rfl 1 rfl ?_
      refine g_iload X dX10_wordAt_62 (q := 64) rfl 5 rfl ?_
      refine g_iadd X dX10_wordAt_64 (q := 65) rfl ?_
      refine g_iload_n X dX10_wordAt_65 (q := 66) rfl 2 rfl ?_
      refine jnW0 (WG (KM D cA h) p l e (rmD 1) st m args below meth c Q 6 s 88 [(0, .ref (h 0)), (1, .int x1), (2, .int x2), (3, .int y1), (4, .int a2)] []) hs (fun  hs => ?_) (fun j2 ih4 hs => ?_)
      · refine g_iload X dX10_wordAt_88 (q := 90) rfl 4 rfl ?_
        refine g_iconst X dX10_wordAt_90 (q := 91) rfl li_i1 ?_
        refine g_iadd X dX10_wordAt_91 (q := 92) rfl ?_
        refine nmI hs (fun y2 hs => ?_)
        refine g_istore X dX10_wordAt_92 (q := 94) rfl (Nat.le_of_ble_eq_true rfl) (lv' := [(4, .int y2), (0, .ref (h 0)), (1, .int x1), (2, .int x2), (3, .int y1)]) rfl ?_
        refine wg_sub [1, 2, 3, 4, 0] rfl (lpW1 (fun (a4 : Int32) => WG (KM D cA h) p l e (rmD 1) st m args below meth c Q 6 s 94 [(0, .ref (h 0)), (1, .int x1), (2, .int x2), (3, .int y1), (4, .int a4)] []) (fun rec3 ih5 a4 hs => ?_) _ _ hs)
        refine g_aload_n X dX10_wordAt_94 (q := 95) rfl 0 rfl ?_
        refine mg_17 X dX10_wordAt_95 (q := 98) rfl ?_
        refine g_iload X dX10_wordAt_98 (q := 100) rfl 4 rfl ?_
        refine ma_7 X dX10_wordAt_100 (q := 101) rfl hs (fun y3 hs => ?_)
        refine g_bipush X dX10_wordAt_101 (q := 103) rfl li_b32 ?_
        refine g_icmp_eq X dX10_wordAt_103 (q := 106) rfl (tgt := 115) (by decide) hs ?_ ?_
        · intro hs
          refine g_goto X dX10_wordAt_115 (tgt := 5) (by decide) ?_
          exact wg_sub [0, 1, 2, 3, 4] rfl (ih1 _ _ hs)
        · intro hs
          refine g_iload X dX10_wordAt_106 (q := 108) rfl 4 rfl ?_
          refine g_iconst X dX10_wordAt_108 (q := 109) rfl li_i1 ?_
          refine g_iadd X dX10_wordAt_109 (q := 110) rfl ?_
          refine nmI hs (fun y4 hs => ?_)
          refine g_istore X dX10_wordAt_110 (q := 112) rfl (Nat.le_of_ble_eq_true rfl) (lv' := [(4, .int y4), (0, .ref (h 0)), (1, .int x1), (2, .int x2), (3, .int y1)]) rfl ?_
          refine g_goto X dX10_wordAt_112 (tgt := 94) (by decide) ?_
          exact wg_sub [1, 2, 3, 4, 0] rfl (ih5 _ hs)
      refine g_icmp_ne X dX10_wordAt_66 (q := 69) rfl (tgt := 88) (by decide) hs ?_ ?_
      · intro hs
        exact wg_sub [0, 1, 2, 3, 4] rfl (ih4 hs)
      · intro hs
        refine g_aload_n X dX10_wordAt_69 (q := 70) rfl 0 rfl ?_
        refine mg_17 X dX10_wordAt_70 (q := 73) rfl ?_
        refine g_iload X dX10_wordAt_73 (q := 75) rfl 4 rfl ?_
        refine g_iconst X dX10_wordAt_75 (q := 76) rfl li_i1 ?_
        refine g_iadd X dX10_wordAt_76 (q := 77) rfl ?_
        refine g_iload X dX10_wordAt_77 (q := 79) rfl 5 rfl ?_
        refine g_iadd X dX10_wordAt_79 (q := 80) rfl ?_
        refine ma_7 X dX10_wordAt_80 (q := 81) rfl hs (fun y5 hs => ?_)
        refine g_bipush X dX10_wordAt_81 (q := 83) rfl li_b32 ?_
        refine g_icmp_ne X dX10_wordAt_83 (q := 86) rfl (tgt := 88) (by decide) hs ?_ ?_
        · intro hs
          exact wg_sub [0, 1, 2, 3, 4] rfl (ih4 hs)
        · intro hs
          refine g_iload_n X dX10_wordAt_86 (q := 87) rfl 3 rfl ?_
          exact RI _ 87 _ _ _ rfl rfl (Option.some.inj hs) dX10_wordAt_87
    refine g_icmp_ge X dX10_wordAt_25 (q := 28) rfl (tgt := 61) (by decide) hs ?_ ?_
    · intro hs
      exact wg_sub [0, 1, 2, 3, 4, 5] rfl (ih3 hs)
    · intro hs
      refine g_aload_n X dX10_wordAt_28 (q := 29) rfl 0 rfl ?_
      refine mg_17 X dX10_wordAt_29 (q := 32) rfl ?_
      refine g_iload X dX10_wordAt_32 (q := 34) rfl 4 rfl ?_
      refine g_iconst X dX10_wordAt_34 (q := 35) rfl li_i1 ?_
      refine g_iadd X dX10_wordAt_35 (q := 36) rfl ?_
      refine g_iload X dX10_wordAt_36 (q := 38) rfl 5 rfl ?_
      refine g_iadd X dX10_wordAt_38 (q := 39) rfl ?_
      refine ma_7 X dX10_wordAt_39 (q := 40) rfl hs (fun y6 hs => ?_)
      refine g_aload_n X dX10_wordAt_40 (q := 41) rfl 0 rfl ?_
      refine mg_11 X dX10_wordAt_41 (q := 44) rfl ?_
      refine g_iload_n X dX10_wordAt_44 (q := 45) rfl 1 rfl ?_
      refine g_iload X dX10_wordAt_45 (q := 47) rfl 5 rfl ?_
      refine g_iadd X dX10_wordAt_47 (q := 48) rfl ?_
      refine ma_6 X dX10_wordAt_48 (q := 49) rfl hs (fun y7 hs => ?_)
      refine g_icmp_ne X dX10_wordAt_49 (q := 52) rfl (tgt := 61) (by decide) hs ?_ ?_
      · intro hs
        exact wg_sub [0, 1, 2, 3, 4, 5] rfl (ih3 hs)
      · intro hs
        refine g_iload X dX10_wordAt_52 (q := 54) rfl 5 rfl ?_
        refine g_iconst X dX10_wordAt_54 (q := 55) rfl li_i1 ?_
        refine g_iadd X dX10_wordAt_55 (q := 56) rfl ?_
        refine nmI hs (fun y8 hs => ?_)
        refine g_istore X dX10_wordAt_56 (q := 58) rfl (Nat.le_of_ble_eq_true rfl) (lv' := [(5, .int y8), (0, .ref (h 0)), (1, .int x1), (2, .int x2), (3, .int y1), (4, .int a2)]) rfl ?_
        refine g_goto X dX10_wordAt_58 (tgt := 20) (by decide) ?_
        exact wg_sub [1, 2, 3, 4, 5, 0] rfl (ih2 _ hs)
theorem v_wordAt {p : Program} {l : Launch} {e : Env} {st : State} {m : MethodId} {args : Array Value} {below : List Frame} {meth : Method} {c : Code} {Q : State → Prop} {nL : Nat} {cc : ByteArray} {s : ST} {pc q : Nat} {lv : List (Nat × Value)} {rest : List Value} {D : va_G} {cA : ClassId} {h : Nat → Nat} {d0 : Nat} (X : Cx (KM D cA h) p st m args meth c cc nL RX10) {x1 : Int32} {x2 : Int32} (d : decode cc pc = .ok (.invokevirtual 166, 3)) (hq : pc + 3 = q) (hd1 : 1 + 1 ≤ d0) (hd2 : 8 + (6 + 11) + 100 * 1 ≤ 100 * d0) (hr : (rest.map fun v => v.category).sum ≤ 8) {B : Type} {f : Int32 → Option B} {r : B} (hs : Bd (M_wordAt s x1 x2) f = some r) (k : ∀ y, f y = some r → WG (KM D cA h) p l e (rmD d0) st m args below meth c Q nL s q lv (.int y :: rest)) : WG (KM D cA h) p l e (rmD d0) st m args below meth c Q nL s pc lv (.int x2 :: .int x1 :: .ref (h 0) :: rest) := by
  obtain ⟨v, hv, hs⟩ := Bd_e hs
  exact cV_I X 0 (n := 2) (k_wordAt l D cA h s x1 x2 hv) gv_X10_wordAt ⟨hd1, hd2⟩ ⟨by decide, by decide, by decide +kernel⟩ (As := [.int x1, .int x2]) rfl hr (Nat.le_of_ble_eq_true rfl) (fs := mF h (s.1 0)) rfl rfl rfl d hq (k _ hs)
theorem dX10_reads_0 : decode cX10_reads 0 = .ok (.aload_n 0, 1) := by decide +kernel
theorem dX10_reads_1 : decode cX10_reads 1 = .ok (.aload_n 0, 1) := by decide +kernel
theorem dX10_reads_2 : decode cX10_reads 2 = .ok (.getfield 148, 3) := by decide +kernel
theorem dX10_reads_5 : decode cX10_reads 5 = .ok (.invokevirtual 151, 3) := by decide +kernel
theorem dX10_reads_8 : decode cX10_reads 8 = .ok (.bipush 32, 2) := by decide +kernel
theorem dX10_reads_10 : decode cX10_reads 10 = .ok (.if_icmp .eq 16, 3) := by decide +kernel
theorem dX10_reads_13 : decode cX10_reads 13 = .ok (.aload_n 0, 1) := by decide +kernel
theorem dX10_reads_14 : decode cX10_reads 14 = .ok (.aload_n 0, 1) := by decide +kernel
theorem dX10_reads_15 : decode cX10_reads 15 = .ok (.getfield 148, 3) := by decide +kernel
theorem dX10_reads_18 : decode cX10_reads 18 = .ok (.invokevirtual 151, 3) := by decide +kernel
theorem dX10_reads_21 : decode cX10_reads 21 = .ok (.bipush 10, 2) := by decide +kernel
theorem dX10_reads_23 : decode cX10_reads 23 = .ok (.if_icmp .ne 16, 3) := by decide +kernel
theorem dX10_reads_26 : decode cX10_reads 26 = .ok (.aload_n 0, 1) := by decide +kernel
theorem dX10_reads_27 : decode cX10_reads 27 = .ok (.aload_n 0, 1) := by decide +kernel
theorem dX10_reads_28 : decode cX10_reads 28 = .ok (.getfield 148, 3) := by decide +kernel
theorem dX10_reads_31 : decode cX10_reads 31 = .ok (.iconst 1, 1) := by decide +kernel
theorem dX10_reads_32 : decode cX10_reads 32 = .ok (.iadd, 1) := by decide +kernel
theorem dX10_reads_33 : decode cX10_reads 33 = .ok (.putfield 148, 3) := by decide +kernel
theorem dX10_reads_36 : decode cX10_reads 36 = .ok (.goto (-36), 3) := by decide +kernel
theorem dX10_reads_39 : decode cX10_reads 39 = .ok (.aload_n 0, 1) := by decide +kernel
theorem dX10_reads_40 : decode cX10_reads 40 = .ok (.aload_n 0, 1) := by decide +kernel
theorem dX10_reads_41 : decode cX10_reads 41 = .ok (.getfield 148, 3) := by decide +kernel
theorem dX10_reads_44 : decode cX10_reads 44 = .ok (.putfield 154, 3) := by decide +kernel
theorem dX10_reads_47 : decode cX10_reads 47 = .ok (.aload_n 0, 1) := by decide +kernel
theorem dX10_reads_48 : decode cX10_reads 48 = .ok (.iconst 1, 1) := by decide +kernel
theorem dX10_reads_49 : decode cX10_reads 49 = .ok (.putfield 157, 3) := by decide +kernel
theorem dX10_reads_52 : decode cX10_reads 52 = .ok (.aload_n 0, 1) := by decide +kernel
theorem dX10_reads_53 : decode cX10_reads 53 = .ok (.aload_n 0, 1) := by decide +kernel
theorem dX10_reads_54 : decode cX10_reads 54 = .ok (.getfield 148, 3) := by decide +kernel
theorem dX10_reads_57 : decode cX10_reads 57 = .ok (.invokevirtual 151, 3) := by decide +kernel
theorem dX10_reads_60 : decode cX10_reads 60 = .ok (.istore_n 1, 1) := by decide +kernel
theorem dX10_reads_61 : decode cX10_reads 61 = .ok (.iload_n 1, 1) := by decide +kernel
theorem dX10_reads_62 : decode cX10_reads 62 = .ok (.iconst (-1), 1) := by decide +kernel
theorem dX10_reads_63 : decode cX10_reads 63 = .ok (.if_icmp .ne 9, 3) := by decide +kernel
theorem dX10_reads_66 : decode cX10_reads 66 = .ok (.aload_n 0, 1) := by decide +kernel
theorem dX10_reads_67 : decode cX10_reads 67 = .ok (.iconst 0, 1) := by decide +kernel
theorem dX10_reads_68 : decode cX10_reads 68 = .ok (.putfield 157, 3) := by decide +kernel
theorem dX10_reads_71 : decode cX10_reads 71 = .ok (.return_, 1) := by decide +kernel
theorem dX10_reads_72 : decode cX10_reads 72 = .ok (.aload_n 0, 1) := by decide +kernel
theorem dX10_reads_73 : decode cX10_reads 73 = .ok (.aload_n 0, 1) := by decide +kernel
theorem dX10_reads_74 : decode cX10_reads 74 = .ok (.getfield 148, 3) := by decide +kernel
theorem dX10_reads_77 : decode cX10_reads 77 = .ok (.iconst 1, 1) := by decide +kernel
theorem dX10_reads_78 : decode cX10_reads 78 = .ok (.iadd, 1) := by decide +kernel
theorem dX10_reads_79 : decode cX10_reads 79 = .ok (.putfield 148, 3) := by decide +kernel
theorem dX10_reads_82 : decode cX10_reads 82 = .ok (.aload_n 0, 1) := by decide +kernel
theorem dX10_reads_83 : decode cX10_reads 83 = .ok (.iload_n 1, 1) := by decide +kernel
theorem dX10_reads_84 : decode cX10_reads 84 = .ok (.putfield 160, 3) := by decide +kernel
theorem dX10_reads_87 : decode cX10_reads 87 = .ok (.aload_n 0, 1) := by decide +kernel
theorem dX10_reads_88 : decode cX10_reads 88 = .ok (.iload_n 1, 1) := by decide +kernel
theorem dX10_reads_89 : decode cX10_reads 89 = .ok (.invokevirtual 163, 3) := by decide +kernel
theorem dX10_reads_92 : decode cX10_reads 92 = .ok (.ifCond .eq 63, 3) := by decide +kernel
theorem dX10_reads_95 : decode cX10_reads 95 = .ok (.aload_n 0, 1) := by decide +kernel
theorem dX10_reads_96 : decode cX10_reads 96 = .ok (.aload_n 0, 1) := by decide +kernel
theorem dX10_reads_97 : decode cX10_reads 97 = .ok (.aload_n 0, 1) := by decide +kernel
theorem dX10_reads_98 : decode cX10_reads 98 = .ok (.getfield 148, 3) := by decide +kernel
theorem dX10_reads_101 : decode cX10_reads 101 = .ok (.invokevirtual 151, 3) := by decide +kernel
theorem dX10_reads_104 : decode cX10_reads 104 = .ok (.invokevirtual 163, 3) := by decide +kernel
theorem dX10_reads_107 : decode cX10_reads 107 = .ok (.ifCond .eq 16, 3) := by decide +kernel
theorem dX10_reads_110 : decode cX10_reads 110 = .ok (.aload_n 0, 1) := by decide +kernel
theorem dX10_reads_111 : decode cX10_reads 111 = .ok (.aload_n 0, 1) := by decide +kernel
theorem dX10_reads_112 : decode cX10_reads 112 = .ok (.getfield 148, 3) := by decide +kernel
theorem dX10_reads_115 : decode cX10_reads 115 = .ok (.iconst 1, 1) := by decide +kernel
theorem dX10_reads_116 : decode cX10_reads 116 = .ok (.iadd, 1) := by decide +kernel
theorem dX10_reads_117 : decode cX10_reads 117 = .ok (.putfield 148, 3) := by decide +kernel
theorem dX10_reads_120 : decode cX10_reads 120 = .ok (.goto (-25), 3) := by decide +kernel
theorem dX10_reads_123 : decode cX10_reads 123 = .ok (.aload_n 0, 1) := by decide +kernel
theorem dX10_reads_124 : decode cX10_reads 124 = .ok (.aload_n 0, 1) := by decide +kernel
theorem dX10_reads_125 : decode cX10_reads 125 = .ok (.aload_n 0, 1) := by decide +kernel
theorem dX10_reads_126 : decode cX10_reads 126 = .ok (.getfield 154, 3) := by decide +kernel
theorem dX10_reads_129 : decode cX10_reads 129 = .ok (.aload_n 0, 1) := by decide +kernel
theorem dX10_reads_130 : decode cX10_reads 130 = .ok (.getfield 148, 3) := by decide +kernel
theorem dX10_reads_133 : decode cX10_reads 133 = .ok (.invokevirtual 166, 3) := by decide +kernel
theorem dX10_reads_136 : decode cX10_reads 136 = .ok (.putfield 160, 3) := by decide +kernel
theorem dX10_reads_139 : decode cX10_reads 139 = .ok (.aload_n 0, 1) := by decide +kernel
theorem dX10_reads_140 : decode cX10_reads 140 = .ok (.getfield 160, 3) := by decide +kernel
theorem dX10_reads_143 : decode cX10_reads 143 = .ok (.iconst (-1), 1) := by decide +kernel
theorem dX10_reads_144 : decode cX10_reads 144 = .ok (.if_icmp .eq 129, 3) := by decide +kernel
theorem dX10_reads_147 : decode cX10_reads 147 = .ok (.aload_n 0, 1) := by decide +kernel
theorem dX10_reads_148 : decode cX10_reads 148 = .ok (.iconst 2, 1) := by decide +kernel
theorem dX10_reads_149 : decode cX10_reads 149 = .ok (.putfield 157, 3) := by decide +kernel
theorem dX10_reads_152 : decode cX10_reads 152 = .ok (.goto 121, 3) := by decide +kernel
theorem dX10_reads_155 : decode cX10_reads 155 = .ok (.aload_n 0, 1) := by decide +kernel
theorem dX10_reads_156 : decode cX10_reads 156 = .ok (.iload_n 1, 1) := by decide +kernel
theorem dX10_reads_157 : decode cX10_reads 157 = .ok (.invokevirtual 170, 3) := by decide +kernel
theorem dX10_reads_160 : decode cX10_reads 160 = .ok (.ifCond .eq 100, 3) := by decide +kernel
theorem dX10_reads_163 : decode cX10_reads 163 = .ok (.aload_n 0, 1) := by decide +kernel
theorem dX10_reads_164 : decode cX10_reads 164 = .ok (.iload_n 1, 1) := by decide +kernel
theorem dX10_reads_165 : decode cX10_reads 165 = .ok (.bipush 48, 2) := by decide +kernel
theorem dX10_reads_167 : decode cX10_reads 167 = .ok (.isub, 1) := by decide +kernel
theorem dX10_reads_168 : decode cX10_reads 168 = .ok (.putfield 160, 3) := by decide +kernel
theorem dX10_reads_171 : decode cX10_reads 171 = .ok (.aload_n 0, 1) := by decide +kernel
theorem dX10_reads_172 : decode cX10_reads 172 = .ok (.aload_n 0, 1) := by decide +kernel
theorem dX10_reads_173 : decode cX10_reads 173 = .ok (.aload_n 0, 1) := by decide +kernel
theorem dX10_reads_174 : decode cX10_reads 174 = .ok (.getfield 148, 3) := by decide +kernel
theorem dX10_reads_177 : decode cX10_reads 177 = .ok (.invokevirtual 151, 3) := by decide +kernel
theorem dX10_reads_180 : decode cX10_reads 180 = .ok (.invokevirtual 170, 3) := by decide +kernel
theorem dX10_reads_183 : decode cX10_reads 183 = .ok (.ifCond .eq 56, 3) := by decide +kernel
theorem dX10_reads_186 : decode cX10_reads 186 = .ok (.aload_n 0, 1) := by decide +kernel
theorem dX10_reads_187 : decode cX10_reads 187 = .ok (.aload_n 0, 1) := by decide +kernel
theorem dX10_reads_188 : decode cX10_reads 188 = .ok (.getfield 160, 3) := by decide +kernel
theorem dX10_reads_191 : decode cX10_reads 191 = .ok (.sipush 10000, 3) := by decide +kernel
theorem dX10_reads_194 : decode cX10_reads 194 = .ok (.if_icmp .ge 25, 3) := by decide +kernel
theorem dX10_reads_197 : decode cX10_reads 197 = .ok (.bipush 10, 2) := by decide +kernel
theorem dX10_reads_199 : decode cX10_reads 199 = .ok (.aload_n 0, 1) := by decide +kernel
theorem dX10_reads_200 : decode cX10_reads 200 = .ok (.getfield 160, 3) := by decide +kernel
theorem dX10_reads_203 : decode cX10_reads 203 = .ok (.imul, 1) := by decide +kernel
theorem dX10_reads_204 : decode cX10_reads 204 = .ok (.aload_n 0, 1) := by decide +kernel
theorem dX10_reads_205 : decode cX10_reads 205 = .ok (.aload_n 0, 1) := by decide +kernel
theorem dX10_reads_206 : decode cX10_reads 206 = .ok (.getfield 148, 3) := by decide +kernel
theorem dX10_reads_209 : decode cX10_reads 209 = .ok (.invokevirtual 151, 3) := by decide +kernel
theorem dX10_reads_212 : decode cX10_reads 212 = .ok (.iadd, 1) := by decide +kernel
theorem dX10_reads_213 : decode cX10_reads 213 = .ok (.bipush 48, 2) := by decide +kernel
theorem dX10_reads_215 : decode cX10_reads 215 = .ok (.isub, 1) := by decide +kernel
theorem dX10_reads_216 : decode cX10_reads 216 = .ok (.goto 7, 3) := by decide +kernel
theorem dX10_reads_219 : decode cX10_reads 219 = .ok (.aload_n 0, 1) := by decide +kernel
theorem dX10_reads_220 : decode cX10_reads 220 = .ok (.getfield 160, 3) := by decide +kernel
theorem dX10_reads_223 : decode cX10_reads 223 = .ok (.putfield 160, 3) := by decide +kernel
theorem dX10_reads_226 : decode cX10_reads 226 = .ok (.aload_n 0, 1) := by decide +kernel
theorem dX10_reads_227 : decode cX10_reads 227 = .ok (.aload_n 0, 1) := by decide +kernel
theorem dX10_reads_228 : decode cX10_reads 228 = .ok (.getfield 148, 3) := by decide +kernel
theorem dX10_reads_231 : decode cX10_reads 231 = .ok (.iconst 1, 1) := by decide +kernel
theorem dX10_reads_232 : decode cX10_reads 232 = .ok (.iadd, 1) := by decide +kernel
theorem dX10_reads_233 : decode cX10_reads 233 = .ok (.putfield 148, 3) := by decide +kernel
theorem dX10_reads_236 : decode cX10_reads 236 = .ok (.goto (-65), 3) := by decide +kernel
theorem dX10_reads_239 : decode cX10_reads 239 = .ok (.aload_n 0, 1) := by decide +kernel
theorem dX10_reads_240 : decode cX10_reads 240 = .ok (.getfield 148, 3) := by decide +kernel
theorem dX10_reads_243 : decode cX10_reads 243 = .ok (.aload_n 0, 1) := by decide +kernel
theorem dX10_reads_244 : decode cX10_reads 244 = .ok (.getfield 154, 3) := by decide +kernel
theorem dX10_reads_247 : decode cX10_reads 247 = .ok (.isub, 1) := by decide +kernel
theorem dX10_reads_248 : decode cX10_reads 248 = .ok (.iconst 5, 1) := by decide +kernel
theorem dX10_reads_249 : decode cX10_reads 249 = .ok (.if_icmp .ge 24, 3) := by decide +kernel
theorem dX10_reads_252 : decode cX10_reads 252 = .ok (.aload_n 0, 1) := by decide +kernel
theorem dX10_reads_253 : decode cX10_reads 253 = .ok (.iconst 3, 1) := by decide +kernel
theorem dX10_reads_254 : decode cX10_reads 254 = .ok (.putfield 157, 3) := by decide +kernel
theorem dX10_reads_257 : decode cX10_reads 257 = .ok (.goto 16, 3) := by decide +kernel
theorem dX10_reads_260 : decode cX10_reads 260 = .ok (.aload_n 0, 1) := by decide +kernel
theorem dX10_reads_261 : decode cX10_reads 261 = .ok (.iload_n 1, 1) := by decide +kernel
theorem dX10_reads_262 : decode cX10_reads 262 = .ok (.invokevirtual 173, 3) := by decide +kernel
theorem dX10_reads_265 : decode cX10_reads 265 = .ok (.ifCond .eq 8, 3) := by decide +kernel
theorem dX10_reads_268 : decode cX10_reads 268 = .ok (.aload_n 0, 1) := by decide +kernel
theorem dX10_reads_269 : decode cX10_reads 269 = .ok (.iconst 4, 1) := by decide +kernel
theorem dX10_reads_270 : decode cX10_reads 270 = .ok (.putfield 157, 3) := by decide +kernel
theorem dX10_reads_273 : decode cX10_reads 273 = .ok (.return_, 1) := by decide +kernel
def M_reads (s : ST) : Option (ST) := lpK1 (C := ST) (fun (rec1 : ST → Option (ST)) (s1 : ST) => Bd (M_raw s1 (s1.1 0 13)) fun y1 => Lt (Lt (ups s1 0 13 ((s1.1 0 13) + (1 : Int32))) fun s2 => rec1 s2 : Option (ST)) fun j1 => if y1 = (32 : Int32) then (j1) else (Bd (M_raw s1 (s1.1 0 13)) fun y2 => if y2 = (10 : Int32) then (j1) else (Lt (ups s1 0 14 (s1.1 0 13)) fun s3 => Lt (ups s3 0 15 (1 : Int32)) fun s4 => Bd (M_raw s4 (s4.1 0 13)) fun y3 => if y3 = (-1 : Int32) then (Lt (ups s4 0 15 (0 : Int32)) fun s17 => some s17) else (Lt (ups s4 0 13 ((s4.1 0 13) + (1 : Int32))) fun s5 => Lt (ups s5 0 16 y3) fun s6 => Lt (M_isLetter s6 y3) fun y4 => if y4 = 0 then (Lt (M_isDigit s6 y3) fun y5 => if y5 = 0 then (Lt (M_isMarkSign s6 y3) fun y6 => if y6 = 0 then (some s6) else (Lt (ups s6 0 15 (4 : Int32)) fun s7 => some s7)) else (Lt (ups s6 0 16 (y3 - (48 : Int32))) fun s8 => lpK1 (C := ST) (fun (rec2 : ST → Option (ST)) (s9 : ST) => Bd (M_raw s9 (s9.1 0 13)) fun y7 => Lt (M_isDigit s9 y7) fun y8 => if y8 = 0 then (if (5 : Int32) ≤ ((s9.1 0 13) - (s9.1 0 14)) then (some s9) else (Lt (ups s9 0 15 (3 : Int32)) fun s10 => some s10)) else (Lt (fun (a1 : Int32) => (Lt (ups s9 0 16 a1) fun s11 => Lt (ups s11 0 13 ((s11.1 0 13) + (1 : Int32))) fun s12 => rec2 s12 : Option (ST))) fun j2 => if (10000 : Int32) ≤ (s9.1 0 16) then (j2 (s9.1 0 16)) else (Bd (M_raw s9 (s9.1 0 13)) fun y9 => j2 ((((10 : Int32) * (s9.1 0 16)) + y9) - (48 : Int32))))) FU s8)) else (lpK1 (C := ST) (fun (rec3 : ST → Option (ST)) (s13 : ST) => Bd (M_raw s13 (s13.1 0 13)) fun y10 => Lt (M_isLetter s13 y10) fun y11 => if y11 = 0 then (Bd (M_wordAt s13 (s13.1 0 14) (s13.1 0 13)) fun y12 => Lt (ups s13 0 16 y12) fun s14 => if (s14.1 0 16) = (-1 : Int32) then (some s14) else (Lt (ups s14 0 15 (2 : Int32)) fun s15 => some s15)) else (Lt (ups s13 0 13 ((s13.1 0 13) + (1 : Int32))) fun s16 => rec3 s16)) FU s6))))) FU s
set_option maxRecDepth 100000 in
set_option maxHeartbeats 4000000 in
theorem k_reads (l : Launch) (D : va_G) (cA : ClassId) (h : Nat → Nat) (s : ST) {o : ST} (hs : M_reads s = some o) : MV l (KM D cA h) 3 yX10_reads cX10_reads 2 none s [.ref (h 0)] o := by
  refine met_v (by decide) (Nat.le_of_ble_eq_true rfl) ?_
  intro p e st m args below meth c Q X RI
  unfold M_reads at hs
  refine wg_sub [0] rfl (lpW1 (fun (s1 : ST) => WG (KM D cA h) p l e (rmD 3) st m args below meth c Q 2 s1 0 [(0, .ref (h 0))] []) (fun rec1 ih1 s1 hs => ?_) _ _ hs)
  refine g_aload_n X dX10_reads_0 (q := 1) rfl 0 rfl ?_
  refine g_aload_n X dX10_reads_1 (q := 2) rfl 0 rfl ?_
  refine mg_13 X dX10_reads_2 (q := 5) rfl ?_
  refine v_raw X dX10_reads_5 (q := 8) rfl (Nat.le_of_ble_eq_true rfl) (Nat.le_of_ble_eq_true rfl) (Nat.le_of_ble_eq_true rfl) hs (fun y1 hs => ?_)
  refine g_bipush X dX10_reads_8 (q := 10) rfl li_b32 ?_
  refine jnW0 (WG (KM D cA h) p l e (rmD 3) st m args below meth c Q 2 s1 26 [(0, .ref (h 0))] []) hs (fun  hs => ?_) (fun j1 ih2 hs => ?_)
  · refine g_aload_n X dX10_reads_26 (q := 27) rfl 0 rfl ?_
    refine g_aload_n X dX10_reads_27 (q := 28) rfl 0 rfl ?_
    refine mg_13 X dX10_reads_28 (q := 31) rfl ?_
    refine g_iconst X dX10_reads_31 (q := 32) rfl li_i1 ?_
    refine g_iadd X dX10_reads_32 (q := 33) rfl ?_
    refine mp_13 X dX10_reads_33 (q := 36) rfl hs (fun s2 hs => ?_)
    refine g_goto X dX10_reads_36 (tgt := 0) (by decide) ?_
    exact wg_sub [0] rfl (ih1 _ hs)
  refine g_icmp_eq X dX10_reads_10 (q := 13) rfl (tgt := 26) (by decide) hs ?_ ?_
  · intro hs
    exact wg_sub [0] rfl (ih2 hs)
  · intro hs
    refine g_aload_n X dX10_reads_13 (q := 14) rfl 0 rfl ?_
    refine g_aload_n X dX10_reads_14 (q := 15) rfl 0 rfl ?_
    refine mg_13 X dX10_reads_15 (q := 18) rfl ?_
    refine v_raw X dX10_reads_18 (q := 21) rfl (Nat.le_of_ble_eq_true rfl) (Nat.le_of_ble_eq_true rfl) (Nat.le_of_ble_eq_true rfl) hs (fun y2 hs => ?_)
    refine g_bipush X dX10_reads_21 (q := 23) rfl li_b10 ?_
    refine g_icmp_ne X dX10_reads_23 (q := 26) rfl (tgt := 39) (by decide) hs ?_ ?_
    · intro hs
      refine g_aload_n X dX10_reads_39 (q := 40) rfl 0 rfl ?_
      refine g_aload_n X dX10_reads_40 (q := 41) rfl 0 rfl ?_
      refine mg_13 X dX10_reads_41 (q := 44) rfl ?_
      refine mp_14 X dX10_reads_44 (q := 47) rfl hs (fun s3 hs => ?_)
      refine g_aload_n X dX10_reads_47 (q := 48) rfl 0 rfl ?_
      refine g_iconst X dX10_reads_48 (q := 49) rfl li_i1 ?_
      refine mp_15 X dX10_reads_49 (q := 52) rfl hs (fun s4 hs => ?_)
      refine g_aload_n X dX10_reads_52 (q := 53) rfl 0 rfl ?_
      refine g_aload_n X dX10_reads_53 (q := 54) rfl 0 rfl ?_
      refine mg_13 X dX10_reads_54 (q := 57) rfl ?_
      refine v_raw X dX10_reads_57 (q := 60) rfl (Nat.le_of_ble_eq_true rfl) (Nat.le_of_ble_eq_true rfl) (Nat.le_of_ble_eq_true rfl) hs (fun y3 hs => ?_)
      refine g_istore_n X dX10_reads_60 (q := 61) rfl (Nat.le_of_ble_eq_true rfl) (lv' := [(1, .int y3), (0, .ref (h 0))]) rfl ?_
      refine g_iload_n X dX10_reads_61 (q := 62) rfl 0 rfl ?_
      refine g_iconst X dX10_reads_62 (q := 63) rfl li_im1 ?_
      refine g_icmp_ne X dX10_reads_63 (q := 66) rfl (tgt := 72) (by decide) hs ?_ ?_
      · intro hs
        refine g_aload_n X dX10_reads_72 (q := 73) rfl 1 rfl ?_
        refine g_aload_n X dX10_reads_73 (q := 74) rfl 1 rfl ?_
        refine mg_13 X dX10_reads_74 (q := 77) rfl ?_
        refine g_iconst X dX10_reads_77 (q := 78) rfl li_i1 ?_
        refine g_iadd X dX10_reads_78 (q := 79) rfl ?_
        refine mp_13 X dX10_reads_79 (q := 82) rfl hs (fun s5 hs => ?_)
        refine g_aload_n X dX10_reads_82 (q := 83) rfl 1 rfl ?_
        refine g_iload_n X dX10_reads_83 (q := 84) rfl 0 rfl ?_
        refine mp_16 X dX10_reads_84 (q := 87) rfl hs (fun s6 hs => ?_)
        refine g_aload_n X dX10_reads_87 (q := 88) rfl 1 rfl ?_
        refine g_iload_n X dX10_reads_88 (q := 89) rfl 0 rfl ?_
        refine v_isLetter X dX10_reads_89 (q := 92) rfl (Nat.le_of_ble_eq_true rfl) (Nat.le_of_ble_eq_true rfl) (Nat.le_of_ble_eq_true rfl) hs (fun y4 hs => ?_)
        refine g_if_eq X dX10_reads_92 (q := 95) rfl (tgt := 155) (by decide) hs ?_ ?_
        · intro hs
          refine g_aload_n X dX10_reads_155 (q := 156) rfl 1 rfl ?_
          refine g_iload_n X dX10_reads_156 (q := 157) rfl 0 rfl ?_
          refine v_isDigit X dX10_reads_157 (q := 160) rfl (Nat.le_of_ble_eq_true rfl) (Nat.le_of_ble_eq_true rfl) (Nat.le_of_ble_eq_true rfl) hs (fun y5 hs => ?_)
          refine g_if_eq X dX10_reads_160 (q := 163) rfl (tgt := 260) (by decide) hs ?_ ?_
          · intro hs
            refine g_aload_n X dX10_reads_260 (q := 261) rfl 1 rfl ?_
            refine g_iload_n X dX10_reads_261 (q := 262) rfl 0 rfl ?_
            refine v_isMarkSign X dX10_reads_262 (q := 265) rfl (Nat.le_of_ble_eq_true rfl) (Nat.le_of_ble_eq_true rfl) (Nat.le_of_ble_eq_true rfl) hs (fun y6 hs => ?_)
            refine g_if_eq X dX10_reads_265 (q := 268) rfl (tgt := 273) (by decide) hs ?_ ?_
            · intro hs
              exact RI _ 273 _ (Option.some.inj hs) dX10_reads_273
            · intro hs
              refine g_aload_n X dX10_reads_268 (q := 269) rfl 1 rfl ?_
              refine g_iconst X dX10_reads_269 (q := 270) rfl li_i4 ?_
              refine mp_15 X dX10_reads_270 (q := 273) rfl hs (fun s7 hs => ?_)
              exact RI _ 273 _ (Option.some.inj hs) dX10_reads_273
          · intro hs
            refine g_aload_n X dX10_reads_163 (q := 164) rfl 1 rfl ?_
            refine g_iload_n X dX10_reads_164 (q := 165) rfl 0 rfl ?_
            refine g_bipush X dX10_reads_165 (q := 167) rfl li_b48 ?_
            refine g_isub X dX10_reads_167 (q := 168) rfl ?_
            refine mp_16 X dX10_reads_168 (q := 171) rfl hs (fun s8 hs => ?_)
            refine wg_sub [1] rfl (lpW1 (fun (s9 : ST) => WG (KM D cA h) p l e (rmD 3) st m args below meth c Q 2 s9 171 [(0, .ref (h 0))] []) (fun rec2 ih3 s9 hs => ?_) _ _ hs)
            refine g_aload_n X dX10_reads_171 (q := 172) rfl 0 rfl ?_
            refine g_aload_n X dX10_reads_172 (q := 173) rfl 0 rfl ?_
            refine g_aload_n X dX10_reads_173 (q := 174) rfl 0 rfl ?_
            refine mg_13 X dX10_reads_174 (q := 177) rfl ?_
            refine v_raw X dX10_reads_177 (q := 180) rfl (Nat.le_of_ble_eq_true rfl) (Nat.le_of_ble_eq_true rfl) (Nat.le_of_ble_eq_true rfl) hs (fun y7 hs => ?_)
            refine v_isDigit X dX10_reads_180 (q := 183) rfl (Nat.le_of_ble_eq_true rfl) (Nat.le_of_ble_eq_true rfl) (Nat.le_of_ble_eq_true rfl) hs (fun y8 hs => ?_)
            refine g_if_eq X dX10_reads_183 (q := 186) rfl (tgt := 239) (by decide) hs ?_ ?_
            · intro hs
              refine g_aload_n X dX10_reads_239 (q := 240) rfl 0 rfl ?_
              refine mg_13 X dX10_reads_240 (q := 243) rfl ?_
              refine g_aload_n X dX10_reads_243 (q := 244) rfl 0 rfl ?_
              refine mg_14 X dX10_reads_244 (q := 247) rfl ?_
              refine g_isub X dX10_reads_247 (q := 248) rfl ?_
              refine g_iconst X dX10_reads_248 (q := 249) rfl li_i5 ?_
              refine g_icmp_ge X dX10_reads_249 (q := 252) rfl (tgt := 273) (by decide) hs ?_ ?_
              · intro hs
                exact RI _ 273 _ (Option.some.inj hs) dX10_reads_273
              · intro hs
                refine g_aload_n X dX10_reads_252 (q := 253) rfl 0 rfl ?_
                refine g_iconst X dX10_reads_253 (q := 254) rfl li_i3 ?_
                refine mp_15 X dX10_reads_254 (q := 257) rfl hs (fun s10 hs => ?_)
                refine g_goto X dX10_reads_257 (tgt := 273) (by decide) ?_
                exact RI _ 273 _ (Option.some.inj hs) dX10_reads_273
            · intro hs
              refine g_aload_n X dX10_reads_186 (q := 187) rfl 0 rfl ?_
              refine g_aload_n X dX10_reads_187 (q := 188) rfl 0 rfl ?_
              refine mg_16 X dX10_reads_188 (q := 191) rfl ?_
              refine g_sipush X dX10_reads_191 (q := 194) rfl li_s10000 ?_
              refine jnW1 (fun (a1 : Int32) => WG (KM D cA h) p l e (rmD 3) st m args below meth c Q 2 s9 223 [(0, .ref (h 0))] [.int a1, .ref (h 0)]) hs (fun a1 hs => ?_) (fun j2 ih4 hs => ?_)
              · refine mp_16 X dX10_reads_223 (q := 226) rfl hs (fun s11 hs => ?_)
                refine g_aload_n X dX10_reads_226 (q := 227) rfl 0 rfl ?_
                refine g_aload_n X dX10_reads_227 (q := 228) rfl 0 rfl ?_
                refine mg_13 X dX10_reads_228 (q := 231) rfl ?_
                refine g_iconst X dX10_reads_231 (q := 232) rfl li_i1 ?_
                refine g_iadd X dX10_reads_232 (q := 233) rfl ?_
                refine mp_13 X dX10_reads_233 (q := 236) rfl hs (fun s12 hs => ?_)
                refine g_goto X dX10_reads_236 (tgt := 171) (by decide) ?_
                exact wg_sub [0] rfl (ih3 _ hs)
              refine g_icmp_ge X dX10_reads_194 (q := 197) rfl (tgt := 219) (by decide) hs ?_ ?_
              · intro hs
                refine g_aload_n X dX10_reads_219 (q := 220) rfl 0 rfl ?_
                refine mg_16 X dX10_reads_220 (q := 223) rfl ?_
                exact wg_sub [0] rfl (ih4 _ hs)
              · intro hs
                refine g_bipush X dX10_reads_197 (q := 199) rfl li_b10 ?_
                refine g_aload_n X dX10_reads_199 (q := 200) rfl 0 rfl ?_
                refine mg_16 X dX10_reads_200 (q := 203) rfl ?_
                refine g_imul X dX10_reads_203 (q := 204) rfl ?_
                refine g_aload_n X dX10_reads_204 (q := 205) rfl 0 rfl ?_
                refine g_aload_n X dX10_reads_205 (q := 206) rfl 0 rfl ?_
                refine mg_13 X dX10_reads_206 (q := 209) rfl ?_
                refine v_raw X dX10_reads_209 (q := 212) rfl (Nat.le_of_ble_eq_true rfl) (Nat.le_of_ble_eq_true rfl) (Nat.le_of_ble_eq_true rfl) hs (fun y9 hs => ?_)
                refine g_iadd X dX10_reads_212 (q := 213) rfl ?_
                refine g_bipush X dX10_reads_213 (q := 215) rfl li_b48 ?_
                refine g_isub X dX10_reads_215 (q := 216) rfl ?_
                refine g_goto X dX10_reads_216 (tgt := 223) (by decide) ?_
                exact wg_sub [0] rfl (ih4 _ hs)
        · intro hs
          refine wg_sub [1] rfl (lpW1 (fun (s13 : ST) => WG (KM D cA h) p l e (rmD 3) st m args below meth c Q 2 s13 95 [(0, .ref (h 0))] []) (fun rec3 ih5 s13 hs => ?_) _ _ hs)
          refine g_aload_n X dX10_reads_95 (q := 96) rfl 0 rfl ?_
          refine g_aload_n X dX10_reads_96 (q := 97) rfl 0 rfl ?_
          refine g_aload_n X dX10_reads_97 (q := 98) rfl 0 rfl ?_
          refine mg_13 X dX10_reads_98 (q := 101) rfl ?_
          refine v_raw X dX10_reads_101 (q := 104) rfl (Nat.le_of_ble_eq_true rfl) (Nat.le_of_ble_eq_true rfl) (Nat.le_of_ble_eq_true rfl) hs (fun y10 hs => ?_)
          refine v_isLetter X dX10_reads_104 (q := 107) rfl (Nat.le_of_ble_eq_true rfl) (Nat.le_of_ble_eq_true rfl) (Nat.le_of_ble_eq_true rfl) hs (fun y11 hs => ?_)
          refine g_if_eq X dX10_reads_107 (q := 110) rfl (tgt := 123) (by decide) hs ?_ ?_
          · intro hs
            refine g_aload_n X dX10_reads_123 (q := 124) rfl 0 rfl ?_
            refine g_aload_n X dX10_reads_124 (q := 125) rfl 0 rfl ?_
            refine g_aload_n X dX10_reads_125 (q := 126) rfl 0 rfl ?_
            refine mg_14 X dX10_reads_126 (q := 129) rfl ?_
            refine g_aload_n X dX10_reads_129 (q := 130) rfl 0 rfl ?_
            refine mg_13 X dX10_reads_130 (q := 133) rfl ?_
            refine v_wordAt X dX10_reads_133 (q := 136) rfl (Nat.le_of_ble_eq_true rfl) (Nat.le_of_ble_eq_true rfl) (Nat.le_of_ble_eq_true rfl) hs (fun y12 hs => ?_)
            refine mp_16 X dX10_reads_136 (q := 139) rfl hs (fun s14 hs => ?_)
            refine g_aload_n X dX10_reads_139 (q := 140) rfl 0 rfl ?_
            refine mg_16 X dX10_reads_140 (q := 143) rfl ?_
            refine g_iconst X dX10_reads_143 (q := 144) rfl li_im1 ?_
            refine g_icmp_eq X dX10_reads_144 (q := 147) rfl (tgt := 273) (by decide) hs ?_ ?_
            · intro hs
              exact RI _ 273 _ (Option.some.inj hs) dX10_reads_273
            · intro hs
              refine g_aload_n X dX10_reads_147 (q := 148) rfl 0 rfl ?_
              refine g_iconst X dX10_reads_148 (q := 149) rfl li_i2 ?_
              refine mp_15 X dX10_reads_149 (q := 152) rfl hs (fun s15 hs => ?_)
              refine g_goto X dX10_reads_152 (tgt := 273) (by decide) ?_
              exact RI _ 273 _ (Option.some.inj hs) dX10_reads_273
          · intro hs
            refine g_aload_n X dX10_reads_110 (q := 111) rfl 0 rfl ?_
            refine g_aload_n X dX10_reads_111 (q := 112) rfl 0 rfl ?_
            refine mg_13 X dX10_reads_112 (q := 115) rfl ?_
            refine g_iconst X dX10_reads_115 (q := 116) rfl li_i1 ?_
            refine g_iadd X dX10_reads_116 (q := 117) rfl ?_
            refine mp_13 X dX10_reads_117 (q := 120) rfl hs (fun s16 hs => ?_)
            refine g_goto X dX10_reads_120 (tgt := 95) (by decide) ?_
            exact wg_sub [0] rfl (ih5 _ hs)
      · intro hs
        refine g_aload_n X dX10_reads_66 (q := 67) rfl 1 rfl ?_
        refine g_iconst X dX10_reads_67 (q := 68) rfl li_i0 ?_
        refine mp_15 X dX10_reads_68 (q := 71) rfl hs (fun s17 hs => ?_)
        exact RI _ 71 _ (Option.some.inj hs) dX10_reads_71
    · intro hs
      exact wg_sub [0] rfl (ih2 hs)
theorem v_reads {p : Program} {l : Launch} {e : Env} {st : State} {m : MethodId} {args : Array Value} {below : List Frame} {meth : Method} {c : Code} {Q : State → Prop} {nL : Nat} {cc : ByteArray} {s : ST} {pc q : Nat} {lv : List (Nat × Value)} {rest : List Value} {D : va_G} {cA : ClassId} {h : Nat → Nat} {d0 : Nat} (X : Cx (KM D cA h) p st m args meth c cc nL RX10) (d : decode cc pc = .ok (.invokevirtual 195, 3)) (hq : pc + 3 = q) (hd1 : 3 + 1 ≤ d0) (hd2 : 8 + (2 + 11) + 100 * 3 ≤ 100 * d0) (hr : (rest.map fun v => v.category).sum ≤ 8) {B : Type} {f : ST → Option B} {r : B} (hs : Bd (M_reads s) f = some r) (k : ∀ y, f y = some r → WG (KM D cA h) p l e (rmD d0) st m args below meth c Q nL y q lv (rest)) : WG (KM D cA h) p l e (rmD d0) st m args below meth c Q nL s pc lv (.ref (h 0) :: rest) := by
  obtain ⟨v, hv, hs⟩ := Bd_e hs
  exact cV_V X 0 (n := 0) (k_reads l D cA h s hv) gv_X10_reads ⟨hd1, hd2⟩ ⟨by decide, by decide, by decide +kernel⟩ (As := []) rfl hr (Nat.le_of_ble_eq_true rfl) (fs := mF h (s.1 0)) rfl rfl rfl d hq (k _ hs)
theorem dX10_errs_0 : decode cX10_errs 0 = .ok (.aload_n 0, 1) := by decide +kernel
theorem dX10_errs_1 : decode cX10_errs 1 = .ok (.iload_n 1, 1) := by decide +kernel
theorem dX10_errs_2 : decode cX10_errs 2 = .ok (.putfield 176, 3) := by decide +kernel
theorem dX10_errs_5 : decode cX10_errs 5 = .ok (.aload_n 0, 1) := by decide +kernel
theorem dX10_errs_6 : decode cX10_errs 6 = .ok (.aload_n 0, 1) := by decide +kernel
theorem dX10_errs_7 : decode cX10_errs 7 = .ok (.getfield 154, 3) := by decide +kernel
theorem dX10_errs_10 : decode cX10_errs 10 = .ok (.putfield 179, 3) := by decide +kernel
theorem dX10_errs_13 : decode cX10_errs 13 = .ok (.iconst (-1), 1) := by decide +kernel
theorem dX10_errs_14 : decode cX10_errs 14 = .ok (.ireturn, 1) := by decide +kernel
def M_errs (s : ST) (x1 : Int32) : Int32 × ST := Lt (ups s 0 30 x1) fun s1 => Lt (ups s1 0 31 (s1.1 0 14)) fun s2 => ((-1 : Int32), s2)
set_option maxRecDepth 100000 in
set_option maxHeartbeats 4000000 in
theorem k_errs (l : Launch) (D : va_G) (cA : ClassId) (h : Nat → Nat) (s : ST) (x1 : Int32) : MI l (KM D cA h) 1 yX10_errs cX10_errs 2 (some .int) s [.ref (h 0), .int x1] (M_errs s x1).1 (M_errs s x1).2 := by
  refine met_i (by decide) (Nat.le_of_ble_eq_true rfl) ?_
  intro p e st m args below meth c Q X RI
  generalize hs : M_errs s x1 = o at RI
  unfold M_errs at hs
  refine g_aload_n X dX10_errs_0 (q := 1) rfl 0 rfl ?_
  refine g_iload_n X dX10_errs_1 (q := 2) rfl 1 rfl ?_
  refine mp_30 X dX10_errs_2 (q := 5) rfl hs (fun s1 hs => ?_)
  refine g_aload_n X dX10_errs_5 (q := 6) rfl 0 rfl ?_
  refine g_aload_n X dX10_errs_6 (q := 7) rfl 0 rfl ?_
  refine mg_14 X dX10_errs_7 (q := 10) rfl ?_
  refine mp_31 X dX10_errs_10 (q := 13) rfl hs (fun s2 hs => ?_)
  refine g_iconst X dX10_errs_13 (q := 14) rfl li_im1 ?_
  exact RI _ 14 _ _ _ (rU0 hs) rfl (rV0 hs) dX10_errs_14
theorem v_errs {p : Program} {l : Launch} {e : Env} {st : State} {m : MethodId} {args : Array Value} {below : List Frame} {meth : Method} {c : Code} {Q : State → Prop} {nL : Nat} {cc : ByteArray} {s : ST} {pc q : Nat} {lv : List (Nat × Value)} {rest : List Value} {D : va_G} {cA : ClassId} {h : Nat → Nat} {d0 : Nat} (X : Cx (KM D cA h) p st m args meth c cc nL RX10) {x1 : Int32} (d : decode cc pc = .ok (.invokevirtual 188, 3)) (hq : pc + 3 = q) (hd1 : 1 + 1 ≤ d0) (hd2 : 8 + (2 + 11) + 100 * 1 ≤ 100 * d0) (hr : (rest.map fun v => v.category).sum ≤ 8) {B : Type} {f : Int32 × ST → B} {r : B} (hs : Lt (M_errs s x1) f = r) (k : ∀ y, f y = r → WG (KM D cA h) p l e (rmD d0) st m args below meth c Q nL y.2 q lv (.int y.1 :: rest)) : WG (KM D cA h) p l e (rmD d0) st m args below meth c Q nL s pc lv (.int x1 :: .ref (h 0) :: rest) := by
  exact cV_I X 0 (n := 1) (k_errs l D cA h s x1) gv_X10_errs ⟨hd1, hd2⟩ ⟨by decide, by decide, by decide +kernel⟩ (As := [.int x1]) rfl hr (Nat.le_of_ble_eq_true rfl) (fs := mF h (s.1 0)) rfl rfl rfl d hq (k _ hs)
theorem dX10_isWord_0 : decode cX10_isWord 0 = .ok (.aload_n 0, 1) := by decide +kernel
theorem dX10_isWord_1 : decode cX10_isWord 1 = .ok (.getfield 157, 3) := by decide +kernel
theorem dX10_isWord_4 : decode cX10_isWord 4 = .ok (.iconst 2, 1) := by decide +kernel
theorem dX10_isWord_5 : decode cX10_isWord 5 = .ok (.if_icmp .ne 15, 3) := by decide +kernel
theorem dX10_isWord_8 : decode cX10_isWord 8 = .ok (.aload_n 0, 1) := by decide +kernel
theorem dX10_isWord_9 : decode cX10_isWord 9 = .ok (.getfield 160, 3) := by decide +kernel
theorem dX10_isWord_12 : decode cX10_isWord 12 = .ok (.iload_n 1, 1) := by decide +kernel
theorem dX10_isWord_13 : decode cX10_isWord 13 = .ok (.if_icmp .ne 7, 3) := by decide +kernel
theorem dX10_isWord_16 : decode cX10_isWord 16 = .ok (.iconst 1, 1) := by decide +kernel
theorem dX10_isWord_17 : decode cX10_isWord 17 = .ok (.goto 4, 3) := by decide +kernel
theorem dX10_isWord_20 : decode cX10_isWord 20 = .ok (.iconst 0, 1) := by decide +kernel
theorem dX10_isWord_21 : decode cX10_isWord 21 = .ok (.ireturn, 1) := by decide +kernel
def M_isWord (s : ST) (x1 : Int32) : Int32 := if (s.1 0 15) = (2 : Int32) then (if (s.1 0 16) = x1 then ((1 : Int32)) else ((0 : Int32))) else ((0 : Int32))
set_option maxRecDepth 100000 in
set_option maxHeartbeats 4000000 in
theorem k_isWord (l : Launch) (D : va_G) (cA : ClassId) (h : Nat → Nat) (s : ST) (x1 : Int32) : MI l (KM D cA h) 1 yX10_isWord cX10_isWord 2 (some .boolean) s [.ref (h 0), .int x1] (M_isWord s x1) s := by
  refine met_i (by decide) (Nat.le_of_ble_eq_true rfl) ?_
  intro p e st m args below meth c Q X RI
  generalize hs : M_isWord s x1 = o at RI
  unfold M_isWord at hs
  refine g_aload_n X dX10_isWord_0 (q := 1) rfl 0 rfl ?_
  refine mg_15 X dX10_isWord_1 (q := 4) rfl ?_
  refine g_iconst X dX10_isWord_4 (q := 5) rfl li_i2 ?_
  refine g_icmp_ne X dX10_isWord_5 (q := 8) rfl (tgt := 20) (by decide) hs ?_ ?_
  · intro hs
    refine g_iconst X dX10_isWord_20 (q := 21) rfl li_i0 ?_
    exact RI _ 21 _ _ _ rfl rfl hs dX10_isWord_21
  · intro hs
    refine g_aload_n X dX10_isWord_8 (q := 9) rfl 0 rfl ?_
    refine mg_16 X dX10_isWord_9 (q := 12) rfl ?_
    refine g_iload_n X dX10_isWord_12 (q := 13) rfl 1 rfl ?_
    refine g_icmp_ne X dX10_isWord_13 (q := 16) rfl (tgt := 20) (by decide) hs ?_ ?_
    · intro hs
      refine g_iconst X dX10_isWord_20 (q := 21) rfl li_i0 ?_
      exact RI _ 21 _ _ _ rfl rfl hs dX10_isWord_21
    · intro hs
      refine g_iconst X dX10_isWord_16 (q := 17) rfl li_i1 ?_
      refine g_goto X dX10_isWord_17 (tgt := 21) (by decide) ?_
      exact RI _ 21 _ _ _ rfl rfl hs dX10_isWord_21
theorem v_isWord {p : Program} {l : Launch} {e : Env} {st : State} {m : MethodId} {args : Array Value} {below : List Frame} {meth : Method} {c : Code} {Q : State → Prop} {nL : Nat} {cc : ByteArray} {s : ST} {pc q : Nat} {lv : List (Nat × Value)} {rest : List Value} {D : va_G} {cA : ClassId} {h : Nat → Nat} {d0 : Nat} (X : Cx (KM D cA h) p st m args meth c cc nL RX10) {x1 : Int32} (d : decode cc pc = .ok (.invokevirtual 216, 3)) (hq : pc + 3 = q) (hd1 : 1 + 1 ≤ d0) (hd2 : 8 + (2 + 11) + 100 * 1 ≤ 100 * d0) (hr : (rest.map fun v => v.category).sum ≤ 8) {B : Type} {f : Int32 → B} {r : B} (hs : Lt (M_isWord s x1) f = r) (k : ∀ y, f y = r → WG (KM D cA h) p l e (rmD d0) st m args below meth c Q nL s q lv (.int y :: rest)) : WG (KM D cA h) p l e (rmD d0) st m args below meth c Q nL s pc lv (.int x1 :: .ref (h 0) :: rest) := by
  exact cV_I X 0 (n := 1) (k_isWord l D cA h s x1) gv_X10_isWord ⟨hd1, hd2⟩ ⟨by decide, by decide, by decide +kernel⟩ (As := [.int x1]) rfl hr (Nat.le_of_ble_eq_true rfl) (fs := mF h (s.1 0)) rfl rfl rfl d hq (k _ hs)
theorem dX10_isSign_0 : decode cX10_isSign 0 = .ok (.aload_n 0, 1) := by decide +kernel
theorem dX10_isSign_1 : decode cX10_isSign 1 = .ok (.getfield 157, 3) := by decide +kernel
theorem dX10_isSign_4 : decode cX10_isSign 4 = .ok (.iconst 4, 1) := by decide +kernel
theorem dX10_isSign_5 : decode cX10_isSign 5 = .ok (.if_icmp .ne 15, 3) := by decide +kernel
theorem dX10_isSign_8 : decode cX10_isSign 8 = .ok (.aload_n 0, 1) := by decide +kernel
theorem dX10_isSign_9 : decode cX10_isSign 9 = .ok (.getfield 160, 3) := by decide +kernel
theorem dX10_isSign_12 : decode cX10_isSign 12 = .ok (.iload_n 1, 1) := by decide +kernel
theorem dX10_isSign_13 : decode cX10_isSign 13 = .ok (.if_icmp .ne 7, 3) := by decide +kernel
theorem dX10_isSign_16 : decode cX10_isSign 16 = .ok (.iconst 1, 1) := by decide +kernel
theorem dX10_isSign_17 : decode cX10_isSign 17 = .ok (.goto 4, 3) := by decide +kernel
theorem dX10_isSign_20 : decode cX10_isSign 20 = .ok (.iconst 0, 1) := by decide +kernel
theorem dX10_isSign_21 : decode cX10_isSign 21 = .ok (.ireturn, 1) := by decide +kernel
def M_isSign (s : ST) (x1 : Int32) : Int32 := if (s.1 0 15) = (4 : Int32) then (if (s.1 0 16) = x1 then ((1 : Int32)) else ((0 : Int32))) else ((0 : Int32))
set_option maxRecDepth 100000 in
set_option maxHeartbeats 4000000 in
theorem k_isSign (l : Launch) (D : va_G) (cA : ClassId) (h : Nat → Nat) (s : ST) (x1 : Int32) : MI l (KM D cA h) 1 yX10_isSign cX10_isSign 2 (some .boolean) s [.ref (h 0), .int x1] (M_isSign s x1) s := by
  refine met_i (by decide) (Nat.le_of_ble_eq_true rfl) ?_
  intro p e st m args below meth c Q X RI
  generalize hs : M_isSign s x1 = o at RI
  unfold M_isSign at hs
  refine g_aload_n X dX10_isSign_0 (q := 1) rfl 0 rfl ?_
  refine mg_15 X dX10_isSign_1 (q := 4) rfl ?_
  refine g_iconst X dX10_isSign_4 (q := 5) rfl li_i4 ?_
  refine g_icmp_ne X dX10_isSign_5 (q := 8) rfl (tgt := 20) (by decide) hs ?_ ?_
  · intro hs
    refine g_iconst X dX10_isSign_20 (q := 21) rfl li_i0 ?_
    exact RI _ 21 _ _ _ rfl rfl hs dX10_isSign_21
  · intro hs
    refine g_aload_n X dX10_isSign_8 (q := 9) rfl 0 rfl ?_
    refine mg_16 X dX10_isSign_9 (q := 12) rfl ?_
    refine g_iload_n X dX10_isSign_12 (q := 13) rfl 1 rfl ?_
    refine g_icmp_ne X dX10_isSign_13 (q := 16) rfl (tgt := 20) (by decide) hs ?_ ?_
    · intro hs
      refine g_iconst X dX10_isSign_20 (q := 21) rfl li_i0 ?_
      exact RI _ 21 _ _ _ rfl rfl hs dX10_isSign_21
    · intro hs
      refine g_iconst X dX10_isSign_16 (q := 17) rfl li_i1 ?_
      refine g_goto X dX10_isSign_17 (tgt := 21) (by decide) ?_
      exact RI _ 21 _ _ _ rfl rfl hs dX10_isSign_21
theorem v_isSign {p : Program} {l : Launch} {e : Env} {st : State} {m : MethodId} {args : Array Value} {below : List Frame} {meth : Method} {c : Code} {Q : State → Prop} {nL : Nat} {cc : ByteArray} {s : ST} {pc q : Nat} {lv : List (Nat × Value)} {rest : List Value} {D : va_G} {cA : ClassId} {h : Nat → Nat} {d0 : Nat} (X : Cx (KM D cA h) p st m args meth c cc nL RX10) {x1 : Int32} (d : decode cc pc = .ok (.invokevirtual 201, 3)) (hq : pc + 3 = q) (hd1 : 1 + 1 ≤ d0) (hd2 : 8 + (2 + 11) + 100 * 1 ≤ 100 * d0) (hr : (rest.map fun v => v.category).sum ≤ 8) {B : Type} {f : Int32 → B} {r : B} (hs : Lt (M_isSign s x1) f = r) (k : ∀ y, f y = r → WG (KM D cA h) p l e (rmD d0) st m args below meth c Q nL s q lv (.int y :: rest)) : WG (KM D cA h) p l e (rmD d0) st m args below meth c Q nL s pc lv (.int x1 :: .ref (h 0) :: rest) := by
  exact cV_I X 0 (n := 1) (k_isSign l D cA h s x1) gv_X10_isSign ⟨hd1, hd2⟩ ⟨by decide, by decide, by decide +kernel⟩ (As := [.int x1]) rfl hr (Nat.le_of_ble_eq_true rfl) (fs := mF h (s.1 0)) rfl rfl rfl d hq (k _ hs)
theorem dX10_emits_0 : decode cX10_emits 0 = .ok (.aload_n 0, 1) := by decide +kernel
theorem dX10_emits_1 : decode cX10_emits 1 = .ok (.getfield 46, 3) := by decide +kernel
theorem dX10_emits_4 : decode cX10_emits 4 = .ok (.sipush 800, 3) := by decide +kernel
theorem dX10_emits_7 : decode cX10_emits 7 = .ok (.aload_n 0, 1) := by decide +kernel
theorem dX10_emits_8 : decode cX10_emits 8 = .ok (.getfield 182, 3) := by decide +kernel
theorem dX10_emits_11 : decode cX10_emits 11 = .ok (.iadd, 1) := by decide +kernel
theorem dX10_emits_12 : decode cX10_emits 12 = .ok (.iload_n 1, 1) := by decide +kernel
theorem dX10_emits_13 : decode cX10_emits 13 = .ok (.iastore, 1) := by decide +kernel
theorem dX10_emits_14 : decode cX10_emits 14 = .ok (.aload_n 0, 1) := by decide +kernel
theorem dX10_emits_15 : decode cX10_emits 15 = .ok (.getfield 49, 3) := by decide +kernel
theorem dX10_emits_18 : decode cX10_emits 18 = .ok (.sipush 800, 3) := by decide +kernel
theorem dX10_emits_21 : decode cX10_emits 21 = .ok (.aload_n 0, 1) := by decide +kernel
theorem dX10_emits_22 : decode cX10_emits 22 = .ok (.getfield 182, 3) := by decide +kernel
theorem dX10_emits_25 : decode cX10_emits 25 = .ok (.iadd, 1) := by decide +kernel
theorem dX10_emits_26 : decode cX10_emits 26 = .ok (.iload_n 2, 1) := by decide +kernel
theorem dX10_emits_27 : decode cX10_emits 27 = .ok (.iastore, 1) := by decide +kernel
theorem dX10_emits_28 : decode cX10_emits 28 = .ok (.aload_n 0, 1) := by decide +kernel
theorem dX10_emits_29 : decode cX10_emits 29 = .ok (.aload_n 0, 1) := by decide +kernel
theorem dX10_emits_30 : decode cX10_emits 30 = .ok (.getfield 182, 3) := by decide +kernel
theorem dX10_emits_33 : decode cX10_emits 33 = .ok (.iconst 1, 1) := by decide +kernel
theorem dX10_emits_34 : decode cX10_emits 34 = .ok (.iadd, 1) := by decide +kernel
theorem dX10_emits_35 : decode cX10_emits 35 = .ok (.putfield 182, 3) := by decide +kernel
theorem dX10_emits_38 : decode cX10_emits 38 = .ok (.return_, 1) := by decide +kernel
def M_emits (s : ST) (x1 : Int32) (x2 : Int32) : Option (ST) := Gs s 13 1200 ((800 : Int32) + (s.1 0 26)) x1 fun s1 => Gs s1 14 1200 ((800 : Int32) + (s1.1 0 26)) x2 fun s2 => Lt (ups s2 0 26 ((s2.1 0 26) + (1 : Int32))) fun s3 => some s3
set_option maxRecDepth 100000 in
set_option maxHeartbeats 4000000 in
theorem k_emits (l : Launch) (D : va_G) (cA : ClassId) (h : Nat → Nat) (s : ST) (x1 : Int32) (x2 : Int32) {o : ST} (hs : M_emits s x1 x2 = some o) : MV l (KM D cA h) 1 yX10_emits cX10_emits 3 none s [.ref (h 0), .int x1, .int x2] o := by
  refine met_v (by decide) (Nat.le_of_ble_eq_true rfl) ?_
  intro p e st m args below meth c Q X RI
  unfold M_emits at hs
  refine g_aload_n X dX10_emits_0 (q := 1) rfl 0 rfl ?_
  refine mg_23 X dX10_emits_1 (q := 4) rfl ?_
  refine g_sipush X dX10_emits_4 (q := 7) rfl li_s800 ?_
  refine g_aload_n X dX10_emits_7 (q := 8) rfl 0 rfl ?_
  refine mg_26 X dX10_emits_8 (q := 11) rfl ?_
  refine g_iadd X dX10_emits_11 (q := 12) rfl ?_
  refine g_iload_n X dX10_emits_12 (q := 13) rfl 1 rfl ?_
  refine ms_13 X dX10_emits_13 (q := 14) rfl hs (fun s1 hs => ?_)
  refine g_aload_n X dX10_emits_14 (q := 15) rfl 0 rfl ?_
  refine mg_24 X dX10_emits_15 (q := 18) rfl ?_
  refine g_sipush X dX10_emits_18 (q := 21) rfl li_s800 ?_
  refine g_aload_n X dX10_emits_21 (q := 22) rfl 0 rfl ?_
  refine mg_26 X dX10_emits_22 (q := 25) rfl ?_
  refine g_iadd X dX10_emits_25 (q := 26) rfl ?_
  refine g_iload_n X dX10_emits_26 (q := 27) rfl 2 rfl ?_
  refine ms_14 X dX10_emits_27 (q := 28) rfl hs (fun s2 hs => ?_)
  refine g_aload_n X dX10_emits_28 (q := 29) rfl 0 rfl ?_
  refine g_aload_n X dX10_emits_29 (q := 30) rfl 0 rfl ?_
  refine mg_26 X dX10_emits_30 (q := 33) rfl ?_
  refine g_iconst X dX10_emits_33 (q := 34) rfl li_i1 ?_
  refine g_iadd X dX10_emits_34 (q := 35) rfl ?_
  refine mp_26 X dX10_emits_35 (q := 38) rfl hs (fun s3 hs => ?_)
  exact RI _ 38 _ (Option.some.inj hs) dX10_emits_38
theorem v_emits {p : Program} {l : Launch} {e : Env} {st : State} {m : MethodId} {args : Array Value} {below : List Frame} {meth : Method} {c : Code} {Q : State → Prop} {nL : Nat} {cc : ByteArray} {s : ST} {pc q : Nat} {lv : List (Nat × Value)} {rest : List Value} {D : va_G} {cA : ClassId} {h : Nat → Nat} {d0 : Nat} (X : Cx (KM D cA h) p st m args meth c cc nL RX10) {x1 : Int32} {x2 : Int32} (d : decode cc pc = .ok (.invokevirtual 191, 3)) (hq : pc + 3 = q) (hd1 : 1 + 1 ≤ d0) (hd2 : 8 + (3 + 11) + 100 * 1 ≤ 100 * d0) (hr : (rest.map fun v => v.category).sum ≤ 8) {B : Type} {f : ST → Option B} {r : B} (hs : Bd (M_emits s x1 x2) f = some r) (k : ∀ y, f y = some r → WG (KM D cA h) p l e (rmD d0) st m args below meth c Q nL y q lv (rest)) : WG (KM D cA h) p l e (rmD d0) st m args below meth c Q nL s pc lv (.int x2 :: .int x1 :: .ref (h 0) :: rest) := by
  obtain ⟨v, hv, hs⟩ := Bd_e hs
  exact cV_V X 0 (n := 2) (k_emits l D cA h s x1 x2 hv) gv_X10_emits ⟨hd1, hd2⟩ ⟨by decide, by decide, by decide +kernel⟩ (As := [.int x1, .int x2]) rfl hr (Nat.le_of_ble_eq_true rfl) (fs := mF h (s.1 0)) rfl rfl rfl d hq (k _ hs)
theorem dX10_canAsk_0 : decode cX10_canAsk 0 = .ok (.aload_n 0, 1) := by decide +kernel
theorem dX10_canAsk_1 : decode cX10_canAsk 1 = .ok (.iload_n 1, 1) := by decide +kernel
theorem dX10_canAsk_2 : decode cX10_canAsk 2 = .ok (.bipush 6, 2) := by decide +kernel
theorem dX10_canAsk_4 : decode cX10_canAsk 4 = .ok (.bipush 13, 2) := by decide +kernel
theorem dX10_canAsk_6 : decode cX10_canAsk 6 = .ok (.invokevirtual 111, 3) := by decide +kernel
theorem dX10_canAsk_9 : decode cX10_canAsk 9 = .ok (.ireturn, 1) := by decide +kernel
def M_canAsk (s : ST) (x1 : Int32) : Int32 := Lt (M_isIn s x1 (6 : Int32) (13 : Int32)) fun y1 => (y1 &&& 1)
set_option maxRecDepth 100000 in
set_option maxHeartbeats 4000000 in
theorem k_canAsk (l : Launch) (D : va_G) (cA : ClassId) (h : Nat → Nat) (s : ST) (x1 : Int32) : MI l (KM D cA h) 2 yX10_canAsk cX10_canAsk 2 (some .boolean) s [.ref (h 0), .int x1] (M_canAsk s x1) s := by
  refine met_i (by decide) (Nat.le_of_ble_eq_true rfl) ?_
  intro p e st m args below meth c Q X RI
  generalize hs : M_canAsk s x1 = o at RI
  unfold M_canAsk at hs
  refine g_aload_n X dX10_canAsk_0 (q := 1) rfl 0 rfl ?_
  refine g_iload_n X dX10_canAsk_1 (q := 2) rfl 1 rfl ?_
  refine g_bipush X dX10_canAsk_2 (q := 4) rfl li_b6 ?_
  refine g_bipush X dX10_canAsk_4 (q := 6) rfl li_b13 ?_
  refine v_isIn X dX10_canAsk_6 (q := 9) rfl (Nat.le_of_ble_eq_true rfl) (Nat.le_of_ble_eq_true rfl) (Nat.le_of_ble_eq_true rfl) hs (fun y1 hs => ?_)
  exact RI _ 9 _ _ _ rfl rfl hs dX10_canAsk_9
theorem v_canAsk {p : Program} {l : Launch} {e : Env} {st : State} {m : MethodId} {args : Array Value} {below : List Frame} {meth : Method} {c : Code} {Q : State → Prop} {nL : Nat} {cc : ByteArray} {s : ST} {pc q : Nat} {lv : List (Nat × Value)} {rest : List Value} {D : va_G} {cA : ClassId} {h : Nat → Nat} {d0 : Nat} (X : Cx (KM D cA h) p st m args meth c cc nL RX10) {x1 : Int32} (d : decode cc pc = .ok (.invokevirtual 185, 3)) (hq : pc + 3 = q) (hd1 : 2 + 1 ≤ d0) (hd2 : 8 + (2 + 11) + 100 * 2 ≤ 100 * d0) (hr : (rest.map fun v => v.category).sum ≤ 8) {B : Type} {f : Int32 → B} {r : B} (hs : Lt (M_canAsk s x1) f = r) (k : ∀ y, f y = r → WG (KM D cA h) p l e (rmD d0) st m args below meth c Q nL s q lv (.int y :: rest)) : WG (KM D cA h) p l e (rmD d0) st m args below meth c Q nL s pc lv (.int x1 :: .ref (h 0) :: rest) := by
  exact cV_I X 0 (n := 1) (k_canAsk l D cA h s x1) gv_X10_canAsk ⟨hd1, hd2⟩ ⟨by decide, by decide, by decide +kernel⟩ (As := [.int x1]) rfl hr (Nat.le_of_ble_eq_true rfl) (fs := mF h (s.1 0)) rfl rfl rfl d hq (k _ hs)
theorem dX10_readUnit_0 : decode cX10_readUnit 0 = .ok (.aload_n 0, 1) := by decide +kernel
theorem dX10_readUnit_1 : decode cX10_readUnit 1 = .ok (.getfield 157, 3) := by decide +kernel
theorem dX10_readUnit_4 : decode cX10_readUnit 4 = .ok (.iconst 2, 1) := by decide +kernel
theorem dX10_readUnit_5 : decode cX10_readUnit 5 = .ok (.if_icmp .ne 18, 3) := by decide +kernel
theorem dX10_readUnit_8 : decode cX10_readUnit 8 = .ok (.aload_n 0, 1) := by decide +kernel
theorem dX10_readUnit_9 : decode cX10_readUnit 9 = .ok (.aload_n 0, 1) := by decide +kernel
theorem dX10_readUnit_10 : decode cX10_readUnit 10 = .ok (.getfield 160, 3) := by decide +kernel
theorem dX10_readUnit_13 : decode cX10_readUnit 13 = .ok (.invokevirtual 185, 3) := by decide +kernel
theorem dX10_readUnit_16 : decode cX10_readUnit 16 = .ok (.ifCond .eq 7, 3) := by decide +kernel
theorem dX10_readUnit_19 : decode cX10_readUnit 19 = .ok (.iconst 1, 1) := by decide +kernel
theorem dX10_readUnit_20 : decode cX10_readUnit 20 = .ok (.goto 4, 3) := by decide +kernel
theorem dX10_readUnit_23 : decode cX10_readUnit 23 = .ok (.iconst 0, 1) := by decide +kernel
theorem dX10_readUnit_24 : decode cX10_readUnit 24 = .ok (.istore_n 1, 1) := by decide +kernel
theorem dX10_readUnit_25 : decode cX10_readUnit 25 = .ok (.iload_n 1, 1) := by decide +kernel
theorem dX10_readUnit_26 : decode cX10_readUnit 26 = .ok (.ifCond .ne 17, 3) := by decide +kernel
theorem dX10_readUnit_29 : decode cX10_readUnit 29 = .ok (.aload_n 0, 1) := by decide +kernel
theorem dX10_readUnit_30 : decode cX10_readUnit 30 = .ok (.getfield 157, 3) := by decide +kernel
theorem dX10_readUnit_33 : decode cX10_readUnit 33 = .ok (.iconst 3, 1) := by decide +kernel
theorem dX10_readUnit_34 : decode cX10_readUnit 34 = .ok (.if_icmp .eq 9, 3) := by decide +kernel
theorem dX10_readUnit_37 : decode cX10_readUnit 37 = .ok (.aload_n 0, 1) := by decide +kernel
theorem dX10_readUnit_38 : decode cX10_readUnit 38 = .ok (.iconst 1, 1) := by decide +kernel
theorem dX10_readUnit_39 : decode cX10_readUnit 39 = .ok (.invokevirtual 188, 3) := by decide +kernel
theorem dX10_readUnit_42 : decode cX10_readUnit 42 = .ok (.ireturn, 1) := by decide +kernel
theorem dX10_readUnit_43 : decode cX10_readUnit 43 = .ok (.aload_n 0, 1) := by decide +kernel
theorem dX10_readUnit_44 : decode cX10_readUnit 44 = .ok (.iload_n 1, 1) := by decide +kernel
theorem dX10_readUnit_45 : decode cX10_readUnit 45 = .ok (.ifCond .eq 7, 3) := by decide +kernel
theorem dX10_readUnit_48 : decode cX10_readUnit 48 = .ok (.iconst 1, 1) := by decide +kernel
theorem dX10_readUnit_49 : decode cX10_readUnit 49 = .ok (.goto 4, 3) := by decide +kernel
theorem dX10_readUnit_52 : decode cX10_readUnit 52 = .ok (.iconst 0, 1) := by decide +kernel
theorem dX10_readUnit_53 : decode cX10_readUnit 53 = .ok (.iload_n 1, 1) := by decide +kernel
theorem dX10_readUnit_54 : decode cX10_readUnit 54 = .ok (.ifCond .eq 13, 3) := by decide +kernel
theorem dX10_readUnit_57 : decode cX10_readUnit 57 = .ok (.aload_n 0, 1) := by decide +kernel
theorem dX10_readUnit_58 : decode cX10_readUnit 58 = .ok (.getfield 160, 3) := by decide +kernel
theorem dX10_readUnit_61 : decode cX10_readUnit 61 = .ok (.bipush 6, 2) := by decide +kernel
theorem dX10_readUnit_63 : decode cX10_readUnit 63 = .ok (.isub, 1) := by decide +kernel
theorem dX10_readUnit_64 : decode cX10_readUnit 64 = .ok (.goto 7, 3) := by decide +kernel
theorem dX10_readUnit_67 : decode cX10_readUnit 67 = .ok (.aload_n 0, 1) := by decide +kernel
theorem dX10_readUnit_68 : decode cX10_readUnit 68 = .ok (.getfield 160, 3) := by decide +kernel
theorem dX10_readUnit_71 : decode cX10_readUnit 71 = .ok (.invokevirtual 191, 3) := by decide +kernel
theorem dX10_readUnit_74 : decode cX10_readUnit 74 = .ok (.aload_n 0, 1) := by decide +kernel
theorem dX10_readUnit_75 : decode cX10_readUnit 75 = .ok (.invokevirtual 195, 3) := by decide +kernel
theorem dX10_readUnit_78 : decode cX10_readUnit 78 = .ok (.iconst 0, 1) := by decide +kernel
theorem dX10_readUnit_79 : decode cX10_readUnit 79 = .ok (.ireturn, 1) := by decide +kernel
def M_readUnit (s : ST) : Option (Int32 × ST) := Lt (fun (a1 : Int32) => (Lt (Lt (fun (a2 : Int32) => (Lt (fun (a3 : Int32) => (Bd (M_emits s a2 a3) fun s1 => Bd (M_reads s1) fun s2 => some ((0 : Int32), s2) : Option (Int32 × ST))) fun j4 => if a1 = 0 then (j4 (s.1 0 16)) else (j4 ((s.1 0 16) - (6 : Int32))) : Option (Int32 × ST))) fun j3 => if a1 = 0 then (j3 (0 : Int32)) else (j3 (1 : Int32)) : Option (Int32 × ST)) fun j2 => if a1 = 0 then (if (s.1 0 15) = (3 : Int32) then (j2) else (Lt (M_errs s (1 : Int32)) fun y1 => some (y1.1, y1.2))) else (j2) : Option (Int32 × ST))) fun j1 => Lt (j1 (0 : Int32) : Option (Int32 × ST)) fun j5 => if (s.1 0 15) = (2 : Int32) then (Lt (M_canAsk s (s.1 0 16)) fun y2 => if y2 = 0 then (j5) else (j1 (1 : Int32))) else (j5)
set_option maxRecDepth 100000 in
set_option maxHeartbeats 4000000 in
theorem k_readUnit (l : Launch) (D : va_G) (cA : ClassId) (h : Nat → Nat) (s : ST) {o : Int32 × ST} (hs : M_readUnit s = some o) : MI l (KM D cA h) 4 yX10_readUnit cX10_readUnit 2 (some .int) s [.ref (h 0)] o.1 o.2 := by
  refine met_i (by decide) (Nat.le_of_ble_eq_true rfl) ?_
  intro p e st m args below meth c Q X RI
  unfold M_readUnit at hs
  refine g_aload_n X dX10_readUnit_0 (q := 1) rfl 0 rfl ?_
  refine mg_15 X dX10_readUnit_1 (q := 4) rfl ?_
  refine g_iconst X dX10_readUnit_4 (q := 5) rfl li_i2 ?_
  refine jnW1 (fun (a1 : Int32) => WG (KM D cA h) p l e (rmD 4) st m args below meth c Q 2 s 24 [(0, .ref (h 0))] [.int a1]) hs (fun a1 hs => ?_) (fun j1 ih1 hs => ?_)
  · refine g_istore_n X dX10_readUnit_24 (q := 25) rfl (Nat.le_of_ble_eq_true rfl) (lv' := [(1, .int a1), (0, .ref (h 0))]) rfl ?_
    refine g_iload_n X dX10_readUnit_25 (q := 26) rfl 0 rfl ?_
    refine jnW0 (WG (KM D cA h) p l e (rmD 4) st m args below meth c Q 2 s 43 [(0, .ref (h 0)), (1, .int a1)] []) hs (fun  hs => ?_) (fun j2 ih2 hs => ?_)
    · refine g_aload_n X dX10_readUnit_43 (q := 44) rfl 0 rfl ?_
      refine g_iload_n X dX10_readUnit_44 (q := 45) rfl 1 rfl ?_
      refine jnW1 (fun (a2 : Int32) => WG (KM D cA h) p l e (rmD 4) st m args below meth c Q 2 s 53 [(0, .ref (h 0)), (1, .int a1)] [.int a2, .ref (h 0)]) hs (fun a2 hs => ?_) (fun j3 ih3 hs => ?_)
      · refine g_iload_n X dX10_readUnit_53 (q := 54) rfl 1 rfl ?_
        refine jnW1 (fun (a3 : Int32) => WG (KM D cA h) p l e (rmD 4) st m args below meth c Q 2 s 71 [(0, .ref (h 0))] [.int a3, .int a2, .ref (h 0)]) hs (fun a3 hs => ?_) (fun j4 ih4 hs => ?_)
        · refine v_emits X dX10_readUnit_71 (q := 74) rfl (Nat.le_of_ble_eq_true rfl) (Nat.le_of_ble_eq_true rfl) (Nat.le_of_ble_eq_true rfl) hs (fun s1 hs => ?_)
          refine g_aload_n X dX10_readUnit_74 (q := 75) rfl 0 rfl ?_
          refine v_reads X dX10_readUnit_75 (q := 78) rfl (Nat.le_of_ble_eq_true rfl) (Nat.le_of_ble_eq_true rfl) (Nat.le_of_ble_eq_true rfl) hs (fun s2 hs => ?_)
          refine g_iconst X dX10_readUnit_78 (q := 79) rfl li_i0 ?_
          exact RI _ 79 _ _ _ (rU1 hs) rfl (rV1 hs) dX10_readUnit_79
        refine g_if_eq X dX10_readUnit_54 (q := 57) rfl (tgt := 67) (by decide) hs ?_ ?_
        · intro hs
          refine g_aload_n X dX10_readUnit_67 (q := 68) rfl 0 rfl ?_
          refine mg_16 X dX10_readUnit_68 (q := 71) rfl ?_
          exact wg_sub [0] rfl (ih4 _ hs)
        · intro hs
          refine g_aload_n X dX10_readUnit_57 (q := 58) rfl 0 rfl ?_
          refine mg_16 X dX10_readUnit_58 (q := 61) rfl ?_
          refine g_bipush X dX10_readUnit_61 (q := 63) rfl li_b6 ?_
          refine g_isub X dX10_readUnit_63 (q := 64) rfl ?_
          refine g_goto X dX10_readUnit_64 (tgt := 71) (by decide) ?_
          exact wg_sub [0] rfl (ih4 _ hs)
      refine g_if_eq X dX10_readUnit_45 (q := 48) rfl (tgt := 52) (by decide) hs ?_ ?_
      · intro hs
        refine g_iconst X dX10_readUnit_52 (q := 53) rfl li_i0 ?_
        exact wg_sub [0, 1] rfl (ih3 _ hs)
      · intro hs
        refine g_iconst X dX10_readUnit_48 (q := 49) rfl li_i1 ?_
        refine g_goto X dX10_readUnit_49 (tgt := 53) (by decide) ?_
        exact wg_sub [0, 1] rfl (ih3 _ hs)
    refine g_if_ne X dX10_readUnit_26 (q := 29) rfl (tgt := 43) (by decide) hs ?_ ?_
    · intro hs
      exact wg_sub [1, 0] rfl (ih2 hs)
    · intro hs
      refine g_aload_n X dX10_readUnit_29 (q := 30) rfl 1 rfl ?_
      refine mg_15 X dX10_readUnit_30 (q := 33) rfl ?_
      refine g_iconst X dX10_readUnit_33 (q := 34) rfl li_i3 ?_
      refine g_icmp_eq X dX10_readUnit_34 (q := 37) rfl (tgt := 43) (by decide) hs ?_ ?_
      · intro hs
        exact wg_sub [1, 0] rfl (ih2 hs)
      · intro hs
        refine g_aload_n X dX10_readUnit_37 (q := 38) rfl 1 rfl ?_
        refine g_iconst X dX10_readUnit_38 (q := 39) rfl li_i1 ?_
        refine v_errs X dX10_readUnit_39 (q := 42) rfl (Nat.le_of_ble_eq_true rfl) (Nat.le_of_ble_eq_true rfl) (Nat.le_of_ble_eq_true rfl) hs (fun y1 hs => ?_)
        exact RI _ 42 _ _ _ (rU1 hs) rfl (rV1 hs) dX10_readUnit_42
  refine jnW0 (WG (KM D cA h) p l e (rmD 4) st m args below meth c Q 2 s 23 [(0, .ref (h 0))] []) hs (fun  hs => ?_) (fun j5 ih5 hs => ?_)
  · refine g_iconst X dX10_readUnit_23 (q := 24) rfl li_i0 ?_
    exact wg_sub [0] rfl (ih1 _ hs)
  refine g_icmp_ne X dX10_readUnit_5 (q := 8) rfl (tgt := 23) (by decide) hs ?_ ?_
  · intro hs
    exact wg_sub [0] rfl (ih5 hs)
  · intro hs
    refine g_aload_n X dX10_readUnit_8 (q := 9) rfl 0 rfl ?_
    refine g_aload_n X dX10_readUnit_9 (q := 10) rfl 0 rfl ?_
    refine mg_16 X dX10_readUnit_10 (q := 13) rfl ?_
    refine v_canAsk X dX10_readUnit_13 (q := 16) rfl (Nat.le_of_ble_eq_true rfl) (Nat.le_of_ble_eq_true rfl) (Nat.le_of_ble_eq_true rfl) hs (fun y2 hs => ?_)
    refine g_if_eq X dX10_readUnit_16 (q := 19) rfl (tgt := 23) (by decide) hs ?_ ?_
    · intro hs
      exact wg_sub [0] rfl (ih5 hs)
    · intro hs
      refine g_iconst X dX10_readUnit_19 (q := 20) rfl li_i1 ?_
      refine g_goto X dX10_readUnit_20 (tgt := 24) (by decide) ?_
      exact wg_sub [0] rfl (ih1 _ hs)
theorem v_readUnit {p : Program} {l : Launch} {e : Env} {st : State} {m : MethodId} {args : Array Value} {below : List Frame} {meth : Method} {c : Code} {Q : State → Prop} {nL : Nat} {cc : ByteArray} {s : ST} {pc q : Nat} {lv : List (Nat × Value)} {rest : List Value} {D : va_G} {cA : ClassId} {h : Nat → Nat} {d0 : Nat} (X : Cx (KM D cA h) p st m args meth c cc nL RX10) (d : decode cc pc = .ok (.invokevirtual 198, 3)) (hq : pc + 3 = q) (hd1 : 4 + 1 ≤ d0) (hd2 : 8 + (2 + 11) + 100 * 4 ≤ 100 * d0) (hr : (rest.map fun v => v.category).sum ≤ 8) {B : Type} {f : Int32 × ST → Option B} {r : B} (hs : Bd (M_readUnit s) f = some r) (k : ∀ y, f y = some r → WG (KM D cA h) p l e (rmD d0) st m args below meth c Q nL y.2 q lv (.int y.1 :: rest)) : WG (KM D cA h) p l e (rmD d0) st m args below meth c Q nL s pc lv (.ref (h 0) :: rest) := by
  obtain ⟨v, hv, hs⟩ := Bd_e hs
  exact cV_I X 0 (n := 0) (k_readUnit l D cA h s hv) gv_X10_readUnit ⟨hd1, hd2⟩ ⟨by decide, by decide, by decide +kernel⟩ (As := []) rfl hr (Nat.le_of_ble_eq_true rfl) (fs := mF h (s.1 0)) rfl rfl rfl d hq (k _ hs)
theorem dX10_readProduct_0 : decode cX10_readProduct 0 = .ok (.aload_n 0, 1) := by decide +kernel
theorem dX10_readProduct_1 : decode cX10_readProduct 1 = .ok (.invokevirtual 198, 3) := by decide +kernel
theorem dX10_readProduct_4 : decode cX10_readProduct 4 = .ok (.iconst (-1), 1) := by decide +kernel
theorem dX10_readProduct_5 : decode cX10_readProduct 5 = .ok (.if_icmp .ne 5, 3) := by decide +kernel
theorem dX10_readProduct_8 : decode cX10_readProduct 8 = .ok (.iconst (-1), 1) := by decide +kernel
theorem dX10_readProduct_9 : decode cX10_readProduct 9 = .ok (.ireturn, 1) := by decide +kernel
theorem dX10_readProduct_10 : decode cX10_readProduct 10 = .ok (.aload_n 0, 1) := by decide +kernel
theorem dX10_readProduct_11 : decode cX10_readProduct 11 = .ok (.bipush 42, 2) := by decide +kernel
theorem dX10_readProduct_13 : decode cX10_readProduct 13 = .ok (.invokevirtual 201, 3) := by decide +kernel
theorem dX10_readProduct_16 : decode cX10_readProduct 16 = .ok (.ifCond .ne 12, 3) := by decide +kernel
theorem dX10_readProduct_19 : decode cX10_readProduct 19 = .ok (.aload_n 0, 1) := by decide +kernel
theorem dX10_readProduct_20 : decode cX10_readProduct 20 = .ok (.bipush 47, 2) := by decide +kernel
theorem dX10_readProduct_22 : decode cX10_readProduct 22 = .ok (.invokevirtual 201, 3) := by decide +kernel
theorem dX10_readProduct_25 : decode cX10_readProduct 25 = .ok (.ifCond .eq 76, 3) := by decide +kernel
theorem dX10_readProduct_28 : decode cX10_readProduct 28 = .ok (.aload_n 0, 1) := by decide +kernel
theorem dX10_readProduct_29 : decode cX10_readProduct 29 = .ok (.bipush 42, 2) := by decide +kernel
theorem dX10_readProduct_31 : decode cX10_readProduct 31 = .ok (.invokevirtual 201, 3) := by decide +kernel
theorem dX10_readProduct_34 : decode cX10_readProduct 34 = .ok (.istore_n 1, 1) := by decide +kernel
theorem dX10_readProduct_35 : decode cX10_readProduct 35 = .ok (.aload_n 0, 1) := by decide +kernel
theorem dX10_readProduct_36 : decode cX10_readProduct 36 = .ok (.invokevirtual 195, 3) := by decide +kernel
theorem dX10_readProduct_39 : decode cX10_readProduct 39 = .ok (.iload_n 1, 1) := by decide +kernel
theorem dX10_readProduct_40 : decode cX10_readProduct 40 = .ok (.ifCond .ne 17, 3) := by decide +kernel
theorem dX10_readProduct_43 : decode cX10_readProduct 43 = .ok (.aload_n 0, 1) := by decide +kernel
theorem dX10_readProduct_44 : decode cX10_readProduct 44 = .ok (.getfield 157, 3) := by decide +kernel
theorem dX10_readProduct_47 : decode cX10_readProduct 47 = .ok (.iconst 3, 1) := by decide +kernel
theorem dX10_readProduct_48 : decode cX10_readProduct 48 = .ok (.if_icmp .eq 9, 3) := by decide +kernel
theorem dX10_readProduct_51 : decode cX10_readProduct 51 = .ok (.aload_n 0, 1) := by decide +kernel
theorem dX10_readProduct_52 : decode cX10_readProduct 52 = .ok (.iconst 1, 1) := by decide +kernel
theorem dX10_readProduct_53 : decode cX10_readProduct 53 = .ok (.invokevirtual 188, 3) := by decide +kernel
theorem dX10_readProduct_56 : decode cX10_readProduct 56 = .ok (.ireturn, 1) := by decide +kernel
theorem dX10_readProduct_57 : decode cX10_readProduct 57 = .ok (.iload_n 1, 1) := by decide +kernel
theorem dX10_readProduct_58 : decode cX10_readProduct 58 = .ok (.ifCond .ne 16, 3) := by decide +kernel
theorem dX10_readProduct_61 : decode cX10_readProduct 61 = .ok (.aload_n 0, 1) := by decide +kernel
theorem dX10_readProduct_62 : decode cX10_readProduct 62 = .ok (.getfield 160, 3) := by decide +kernel
theorem dX10_readProduct_65 : decode cX10_readProduct 65 = .ok (.ifCond .ne 9, 3) := by decide +kernel
theorem dX10_readProduct_68 : decode cX10_readProduct 68 = .ok (.aload_n 0, 1) := by decide +kernel
theorem dX10_readProduct_69 : decode cX10_readProduct 69 = .ok (.iconst 2, 1) := by decide +kernel
theorem dX10_readProduct_70 : decode cX10_readProduct 70 = .ok (.invokevirtual 188, 3) := by decide +kernel
theorem dX10_readProduct_73 : decode cX10_readProduct 73 = .ok (.ireturn, 1) := by decide +kernel
theorem dX10_readProduct_74 : decode cX10_readProduct 74 = .ok (.aload_n 0, 1) := by decide +kernel
theorem dX10_readProduct_75 : decode cX10_readProduct 75 = .ok (.invokevirtual 198, 3) := by decide +kernel
theorem dX10_readProduct_78 : decode cX10_readProduct 78 = .ok (.iconst (-1), 1) := by decide +kernel
theorem dX10_readProduct_79 : decode cX10_readProduct 79 = .ok (.if_icmp .ne 5, 3) := by decide +kernel
theorem dX10_readProduct_82 : decode cX10_readProduct 82 = .ok (.iconst (-1), 1) := by decide +kernel
theorem dX10_readProduct_83 : decode cX10_readProduct 83 = .ok (.ireturn, 1) := by decide +kernel
theorem dX10_readProduct_84 : decode cX10_readProduct 84 = .ok (.aload_n 0, 1) := by decide +kernel
theorem dX10_readProduct_85 : decode cX10_readProduct 85 = .ok (.iload_n 1, 1) := by decide +kernel
theorem dX10_readProduct_86 : decode cX10_readProduct 86 = .ok (.ifCond .eq 7, 3) := by decide +kernel
theorem dX10_readProduct_89 : decode cX10_readProduct 89 = .ok (.iconst 4, 1) := by decide +kernel
theorem dX10_readProduct_90 : decode cX10_readProduct 90 = .ok (.goto 4, 3) := by decide +kernel
theorem dX10_readProduct_93 : decode cX10_readProduct 93 = .ok (.iconst 5, 1) := by decide +kernel
theorem dX10_readProduct_94 : decode cX10_readProduct 94 = .ok (.iconst 0, 1) := by decide +kernel
theorem dX10_readProduct_95 : decode cX10_readProduct 95 = .ok (.invokevirtual 191, 3) := by decide +kernel
theorem dX10_readProduct_98 : decode cX10_readProduct 98 = .ok (.goto (-88), 3) := by decide +kernel
theorem dX10_readProduct_101 : decode cX10_readProduct 101 = .ok (.iconst 0, 1) := by decide +kernel
theorem dX10_readProduct_102 : decode cX10_readProduct 102 = .ok (.ireturn, 1) := by decide +kernel
def M_readProduct (s : ST) : Option (Int32 × ST) := Bd (M_readUnit s) fun y1 => if y1.1 = (-1 : Int32) then (some ((-1 : Int32), y1.2)) else (lpK1 (C := Int32 × ST) (fun (rec1 : ST → Option (Int32 × ST)) (s1 : ST) => Lt (M_isSign s1 (42 : Int32)) fun y2 => Lt (Lt (M_isSign s1 (42 : Int32)) fun y3 => Bd (M_reads s1) fun s2 => Lt (Lt (Bd (M_readUnit s2) fun y4 => if y4.1 = (-1 : Int32) then (some ((-1 : Int32), y4.2)) else (Lt (fun (a1 : Int32) => (Bd (M_emits y4.2 a1 (0 : Int32)) fun s3 => rec1 s3 : Option (Int32 × ST))) fun j4 => if y3 = 0 then (j4 (5 : Int32)) else (j4 (4 : Int32))) : Option (Int32 × ST)) fun j3 => if y3 = 0 then (if (s2.1 0 16) = 0 then (Lt (M_errs s2 (2 : Int32)) fun y5 => some (y5.1, y5.2)) else (j3)) else (j3) : Option (Int32 × ST)) fun j2 => if y3 = 0 then (if (s2.1 0 15) = (3 : Int32) then (j2) else (Lt (M_errs s2 (1 : Int32)) fun y6 => some (y6.1, y6.2))) else (j2) : Option (Int32 × ST)) fun j1 => if y2 = 0 then (Lt (M_isSign s1 (47 : Int32)) fun y7 => if y7 = 0 then (some ((0 : Int32), s1)) else (j1)) else (j1)) FU y1.2)
set_option maxRecDepth 100000 in
set_option maxHeartbeats 4000000 in
theorem k_readProduct (l : Launch) (D : va_G) (cA : ClassId) (h : Nat → Nat) (s : ST) {o : Int32 × ST} (hs : M_readProduct s = some o) : MI l (KM D cA h) 5 yX10_readProduct cX10_readProduct 2 (some .int) s [.ref (h 0)] o.1 o.2 := by
  refine met_i (by decide) (Nat.le_of_ble_eq_true rfl) ?_
  intro p e st m args below meth c Q X RI
  unfold M_readProduct at hs
  refine g_aload_n X dX10_readProduct_0 (q := 1) rfl 0 rfl ?_
  refine v_readUnit X dX10_readProduct_1 (q := 4) rfl (Nat.le_of_ble_eq_true rfl) (Nat.le_of_ble_eq_true rfl) (Nat.le_of_ble_eq_true rfl) hs (fun y1 hs => ?_)
  refine g_iconst X dX10_readProduct_4 (q := 5) rfl li_im1 ?_
  refine g_icmp_ne X dX10_readProduct_5 (q := 8) rfl (tgt := 10) (by decide) hs ?_ ?_
  · intro hs
    refine wg_sub [0] rfl (lpW1 (fun (s1 : ST) => WG (KM D cA h) p l e (rmD 5) st m args below meth c Q 2 s1 10 [(0, .ref (h 0))] []) (fun rec1 ih1 s1 hs => ?_) _ _ hs)
    refine g_aload_n X dX10_readProduct_10 (q := 11) rfl 0 rfl ?_
    refine g_bipush X dX10_readProduct_11 (q := 13) rfl li_b42 ?_
    refine v_isSign X dX10_readProduct_13 (q := 16) rfl (Nat.le_of_ble_eq_true rfl) (Nat.le_of_ble_eq_true rfl) (Nat.le_of_ble_eq_true rfl) hs (fun y2 hs => ?_)
    refine jnW0 (WG (KM D cA h) p l e (rmD 5) st m args below meth c Q 2 s1 28 [(0, .ref (h 0))] []) hs (fun  hs => ?_) (fun j1 ih2 hs => ?_)
    · refine g_aload_n X dX10_readProduct_28 (q := 29) rfl 0 rfl ?_
      refine g_bipush X dX10_readProduct_29 (q := 31) rfl li_b42 ?_
      refine v_isSign X dX10_readProduct_31 (q := 34) rfl (Nat.le_of_ble_eq_true rfl) (Nat.le_of_ble_eq_true rfl) (Nat.le_of_ble_eq_true rfl) hs (fun y3 hs => ?_)
      refine g_istore_n X dX10_readProduct_34 (q := 35) rfl (Nat.le_of_ble_eq_true rfl) (lv' := [(1, .int y3), (0, .ref (h 0))]) rfl ?_
      refine g_aload_n X dX10_readProduct_35 (q := 36) rfl 1 rfl ?_
      refine v_reads X dX10_readProduct_36 (q := 39) rfl (Nat.le_of_ble_eq_true rfl) (Nat.le_of_ble_eq_true rfl) (Nat.le_of_ble_eq_true rfl) hs (fun s2 hs => ?_)
      refine g_iload_n X dX10_readProduct_39 (q := 40) rfl 0 rfl ?_
      refine jnW0 (WG (KM D cA h) p l e (rmD 5) st m args below meth c Q 2 s2 57 [(0, .ref (h 0)), (1, .int y3)] []) hs (fun  hs => ?_) (fun j2 ih3 hs => ?_)
      · refine g_iload_n X dX10_readProduct_57 (q := 58) rfl 1 rfl ?_
        refine jnW0 (WG (KM D cA h) p l e (rmD 5) st m args below meth c Q 2 s2 74 [(0, .ref (h 0)), (1, .int y3)] []) hs (fun  hs => ?_) (fun j3 ih4 hs => ?_)
        · refine g_aload_n X dX10_readProduct_74 (q := 75) rfl 0 rfl ?_
          refine v_readUnit X dX10_readProduct_75 (q := 78) rfl (Nat.le_of_ble_eq_true rfl) (Nat.le_of_ble_eq_true rfl) (Nat.le_of_ble_eq_true rfl) hs (fun y4 hs => ?_)
          refine g_iconst X dX10_readProduct_78 (q := 79) rfl li_im1 ?_
          refine g_icmp_ne X dX10_readProduct_79 (q := 82) rfl (tgt := 84) (by decide) hs ?_ ?_
          · intro hs
            refine g_aload_n X dX10_readProduct_84 (q := 85) rfl 0 rfl ?_
            refine g_iload_n X dX10_readProduct_85 (q := 86) rfl 1 rfl ?_
            refine jnW1 (fun (a1 : Int32) => WG (KM D cA h) p l e (rmD 5) st m args below meth c Q 2 y4.2 94 [(0, .ref (h 0))] [.int a1, .ref (h 0)]) hs (fun a1 hs => ?_) (fun j4 ih5 hs => ?_)
            · refine g_iconst X dX10_readProduct_94 (q := 95) rfl li_i0 ?_
              refine v_emits X dX10_readProduct_95 (q := 98) rfl (Nat.le_of_ble_eq_true rfl) (Nat.le_of_ble_eq_true rfl) (Nat.le_of_ble_eq_true rfl) hs (fun s3 hs => ?_)
              refine g_goto X dX10_readProduct_98 (tgt := 10) (by decide) ?_
              exact wg_sub [0] rfl (ih1 _ hs)
            refine g_if_eq X dX10_readProduct_86 (q := 89) rfl (tgt := 93) (by decide) hs ?_ ?_
            · intro hs
              refine g_iconst X dX10_readProduct_93 (q := 94) rfl li_i5 ?_
              exact wg_sub [0] rfl (ih5 _ hs)
            · intro hs
              refine g_iconst X dX10_readProduct_89 (q := 90) rfl li_i4 ?_
              refine g_goto X dX10_readProduct_90 (tgt := 94) (by decide) ?_
              exact wg_sub [0] rfl (ih5 _ hs)
          · intro hs
            refine g_iconst X dX10_readProduct_82 (q := 83) rfl li_im1 ?_
            exact RI _ 83 _ _ _ (rU1 hs) rfl (rV1 hs) dX10_readProduct_83
        refine g_if_ne X dX10_readProduct_58 (q := 61) rfl (tgt := 74) (by decide) hs ?_ ?_
        · intro hs
          exact wg_sub [0, 1] rfl (ih4 hs)
        · intro hs
          refine g_aload_n X dX10_readProduct_61 (q := 62) rfl 0 rfl ?_
          refine mg_16 X dX10_readProduct_62 (q := 65) rfl ?_
          refine g_if_ne X dX10_readProduct_65 (q := 68) rfl (tgt := 74) (by decide) hs ?_ ?_
          · intro hs
            exact wg_sub [0, 1] rfl (ih4 hs)
          · intro hs
            refine g_aload_n X dX10_readProduct_68 (q := 69) rfl 0 rfl ?_
            refine g_iconst X dX10_readProduct_69 (q := 70) rfl li_i2 ?_
            refine v_errs X dX10_readProduct_70 (q := 73) rfl (Nat.le_of_ble_eq_true rfl) (Nat.le_of_ble_eq_true rfl) (Nat.le_of_ble_eq_true rfl) hs (fun y5 hs => ?_)
            exact RI _ 73 _ _ _ (rU1 hs) rfl (rV1 hs) dX10_readProduct_73
      refine g_if_ne X dX10_readProduct_40 (q := 43) rfl (tgt := 57) (by decide) hs ?_ ?_
      · intro hs
        exact wg_sub [1, 0] rfl (ih3 hs)
      · intro hs
        refine g_aload_n X dX10_readProduct_43 (q := 44) rfl 1 rfl ?_
        refine mg_15 X dX10_readProduct_44 (q := 47) rfl ?_
        refine g_iconst X dX10_readProduct_47 (q := 48) rfl li_i3 ?_
        refine g_icmp_eq X dX10_readProduct_48 (q := 51) rfl (tgt := 57) (by decide) hs ?_ ?_
        · intro hs
          exact wg_sub [1, 0] rfl (ih3 hs)
        · intro hs
          refine g_aload_n X dX10_readProduct_51 (q := 52) rfl 1 rfl ?_
          refine g_iconst X dX10_readProduct_52 (q := 53) rfl li_i1 ?_
          refine v_errs X dX10_readProduct_53 (q := 56) rfl (Nat.le_of_ble_eq_true rfl) (Nat.le_of_ble_eq_true rfl) (Nat.le_of_ble_eq_true rfl) hs (fun y6 hs => ?_)
          exact RI _ 56 _ _ _ (rU1 hs) rfl (rV1 hs) dX10_readProduct_56
    refine g_if_ne X dX10_readProduct_16 (q := 19) rfl (tgt := 28) (by decide) hs ?_ ?_
    · intro hs
      exact wg_sub [0] rfl (ih2 hs)
    · intro hs
      refine g_aload_n X dX10_readProduct_19 (q := 20) rfl 0 rfl ?_
      refine g_bipush X dX10_readProduct_20 (q := 22) rfl li_b47 ?_
      refine v_isSign X dX10_readProduct_22 (q := 25) rfl (Nat.le_of_ble_eq_true rfl) (Nat.le_of_ble_eq_true rfl) (Nat.le_of_ble_eq_true rfl) hs (fun y7 hs => ?_)
      refine g_if_eq X dX10_readProduct_25 (q := 28) rfl (tgt := 101) (by decide) hs ?_ ?_
      · intro hs
        refine g_iconst X dX10_readProduct_101 (q := 102) rfl li_i0 ?_
        exact RI _ 102 _ _ _ (rU1 hs) rfl (rV1 hs) dX10_readProduct_102
      · intro hs
        exact wg_sub [0] rfl (ih2 hs)
  · intro hs
    refine g_iconst X dX10_readProduct_8 (q := 9) rfl li_im1 ?_
    exact RI _ 9 _ _ _ (rU1 hs) rfl (rV1 hs) dX10_readProduct_9
theorem v_readProduct {p : Program} {l : Launch} {e : Env} {st : State} {m : MethodId} {args : Array Value} {below : List Frame} {meth : Method} {c : Code} {Q : State → Prop} {nL : Nat} {cc : ByteArray} {s : ST} {pc q : Nat} {lv : List (Nat × Value)} {rest : List Value} {D : va_G} {cA : ClassId} {h : Nat → Nat} {d0 : Nat} (X : Cx (KM D cA h) p st m args meth c cc nL RX10) (d : decode cc pc = .ok (.invokevirtual 204, 3)) (hq : pc + 3 = q) (hd1 : 5 + 1 ≤ d0) (hd2 : 8 + (2 + 11) + 100 * 5 ≤ 100 * d0) (hr : (rest.map fun v => v.category).sum ≤ 8) {B : Type} {f : Int32 × ST → Option B} {r : B} (hs : Bd (M_readProduct s) f = some r) (k : ∀ y, f y = some r → WG (KM D cA h) p l e (rmD d0) st m args below meth c Q nL y.2 q lv (.int y.1 :: rest)) : WG (KM D cA h) p l e (rmD d0) st m args below meth c Q nL s pc lv (.ref (h 0) :: rest) := by
  obtain ⟨v, hv, hs⟩ := Bd_e hs
  exact cV_I X 0 (n := 0) (k_readProduct l D cA h s hv) gv_X10_readProduct ⟨hd1, hd2⟩ ⟨by decide, by decide, by decide +kernel⟩ (As := []) rfl hr (Nat.le_of_ble_eq_true rfl) (fs := mF h (s.1 0)) rfl rfl rfl d hq (k _ hs)
theorem dX10_readSum_0 : decode cX10_readSum 0 = .ok (.aload_n 0, 1) := by decide +kernel
theorem dX10_readSum_1 : decode cX10_readSum 1 = .ok (.invokevirtual 204, 3) := by decide +kernel
theorem dX10_readSum_4 : decode cX10_readSum 4 = .ok (.iconst (-1), 1) := by decide +kernel
theorem dX10_readSum_5 : decode cX10_readSum 5 = .ok (.if_icmp .ne 5, 3) := by decide +kernel
theorem dX10_readSum_8 : decode cX10_readSum 8 = .ok (.iconst (-1), 1) := by decide +kernel
theorem dX10_readSum_9 : decode cX10_readSum 9 = .ok (.ireturn, 1) := by decide +kernel
theorem dX10_readSum_10 : decode cX10_readSum 10 = .ok (.aload_n 0, 1) := by decide +kernel
theorem dX10_readSum_11 : decode cX10_readSum 11 = .ok (.bipush 43, 2) := by decide +kernel
theorem dX10_readSum_13 : decode cX10_readSum 13 = .ok (.invokevirtual 201, 3) := by decide +kernel
theorem dX10_readSum_16 : decode cX10_readSum 16 = .ok (.ifCond .ne 12, 3) := by decide +kernel
theorem dX10_readSum_19 : decode cX10_readSum 19 = .ok (.aload_n 0, 1) := by decide +kernel
theorem dX10_readSum_20 : decode cX10_readSum 20 = .ok (.bipush 45, 2) := by decide +kernel
theorem dX10_readSum_22 : decode cX10_readSum 22 = .ok (.invokevirtual 201, 3) := by decide +kernel
theorem dX10_readSum_25 : decode cX10_readSum 25 = .ok (.ifCond .eq 41, 3) := by decide +kernel
theorem dX10_readSum_28 : decode cX10_readSum 28 = .ok (.aload_n 0, 1) := by decide +kernel
theorem dX10_readSum_29 : decode cX10_readSum 29 = .ok (.getfield 160, 3) := by decide +kernel
theorem dX10_readSum_32 : decode cX10_readSum 32 = .ok (.bipush 43, 2) := by decide +kernel
theorem dX10_readSum_34 : decode cX10_readSum 34 = .ok (.if_icmp .ne 7, 3) := by decide +kernel
theorem dX10_readSum_37 : decode cX10_readSum 37 = .ok (.iconst 2, 1) := by decide +kernel
theorem dX10_readSum_38 : decode cX10_readSum 38 = .ok (.goto 4, 3) := by decide +kernel
theorem dX10_readSum_41 : decode cX10_readSum 41 = .ok (.iconst 3, 1) := by decide +kernel
theorem dX10_readSum_42 : decode cX10_readSum 42 = .ok (.istore_n 1, 1) := by decide +kernel
theorem dX10_readSum_43 : decode cX10_readSum 43 = .ok (.aload_n 0, 1) := by decide +kernel
theorem dX10_readSum_44 : decode cX10_readSum 44 = .ok (.invokevirtual 195, 3) := by decide +kernel
theorem dX10_readSum_47 : decode cX10_readSum 47 = .ok (.aload_n 0, 1) := by decide +kernel
theorem dX10_readSum_48 : decode cX10_readSum 48 = .ok (.invokevirtual 204, 3) := by decide +kernel
theorem dX10_readSum_51 : decode cX10_readSum 51 = .ok (.iconst (-1), 1) := by decide +kernel
theorem dX10_readSum_52 : decode cX10_readSum 52 = .ok (.if_icmp .ne 5, 3) := by decide +kernel
theorem dX10_readSum_55 : decode cX10_readSum 55 = .ok (.iconst (-1), 1) := by decide +kernel
theorem dX10_readSum_56 : decode cX10_readSum 56 = .ok (.ireturn, 1) := by decide +kernel
theorem dX10_readSum_57 : decode cX10_readSum 57 = .ok (.aload_n 0, 1) := by decide +kernel
theorem dX10_readSum_58 : decode cX10_readSum 58 = .ok (.iload_n 1, 1) := by decide +kernel
theorem dX10_readSum_59 : decode cX10_readSum 59 = .ok (.iconst 0, 1) := by decide +kernel
theorem dX10_readSum_60 : decode cX10_readSum 60 = .ok (.invokevirtual 191, 3) := by decide +kernel
theorem dX10_readSum_63 : decode cX10_readSum 63 = .ok (.goto (-53), 3) := by decide +kernel
theorem dX10_readSum_66 : decode cX10_readSum 66 = .ok (.iconst 0, 1) := by decide +kernel
theorem dX10_readSum_67 : decode cX10_readSum 67 = .ok (.ireturn, 1) := by decide +kernel
def M_readSum (s : ST) : Option (Int32 × ST) := Bd (M_readProduct s) fun y1 => if y1.1 = (-1 : Int32) then (some ((-1 : Int32), y1.2)) else (lpK1 (C := Int32 × ST) (fun (rec1 : ST → Option (Int32 × ST)) (s1 : ST) => Lt (M_isSign s1 (43 : Int32)) fun y2 => Lt (Lt (fun (a1 : Int32) => (Bd (M_reads s1) fun s2 => Bd (M_readProduct s2) fun y3 => if y3.1 = (-1 : Int32) then (some ((-1 : Int32), y3.2)) else (Bd (M_emits y3.2 a1 (0 : Int32)) fun s3 => rec1 s3) : Option (Int32 × ST))) fun j2 => if (s1.1 0 16) = (43 : Int32) then (j2 (2 : Int32)) else (j2 (3 : Int32)) : Option (Int32 × ST)) fun j1 => if y2 = 0 then (Lt (M_isSign s1 (45 : Int32)) fun y4 => if y4 = 0 then (some ((0 : Int32), s1)) else (j1)) else (j1)) FU y1.2)
set_option maxRecDepth 100000 in
set_option maxHeartbeats 4000000 in
theorem k_readSum (l : Launch) (D : va_G) (cA : ClassId) (h : Nat → Nat) (s : ST) {o : Int32 × ST} (hs : M_readSum s = some o) : MI l (KM D cA h) 6 yX10_readSum cX10_readSum 2 (some .int) s [.ref (h 0)] o.1 o.2 := by
  refine met_i (by decide) (Nat.le_of_ble_eq_true rfl) ?_
  intro p e st m args below meth c Q X RI
  unfold M_readSum at hs
  refine g_aload_n X dX10_readSum_0 (q := 1) rfl 0 rfl ?_
  refine v_readProduct X dX10_readSum_1 (q := 4) rfl (Nat.le_of_ble_eq_true rfl) (Nat.le_of_ble_eq_true rfl) (Nat.le_of_ble_eq_true rfl) hs (fun y1 hs => ?_)
  refine g_iconst X dX10_readSum_4 (q := 5) rfl li_im1 ?_
  refine g_icmp_ne X dX10_readSum_5 (q := 8) rfl (tgt := 10) (by decide) hs ?_ ?_
  · intro hs
    refine wg_sub [0] rfl (lpW1 (fun (s1 : ST) => WG (KM D cA h) p l e (rmD 6) st m args below meth c Q 2 s1 10 [(0, .ref (h 0))] []) (fun rec1 ih1 s1 hs => ?_) _ _ hs)
    refine g_aload_n X dX10_readSum_10 (q := 11) rfl 0 rfl ?_
    refine g_bipush X dX10_readSum_11 (q := 13) rfl li_b43 ?_
    refine v_isSign X dX10_readSum_13 (q := 16) rfl (Nat.le_of_ble_eq_true rfl) (Nat.le_of_ble_eq_true rfl) (Nat.le_of_ble_eq_true rfl) hs (fun y2 hs => ?_)
    refine jnW0 (WG (KM D cA h) p l e (rmD 6) st m args below meth c Q 2 s1 28 [(0, .ref (h 0))] []) hs (fun  hs => ?_) (fun j1 ih2 hs => ?_)
    · refine g_aload_n X dX10_readSum_28 (q := 29) rfl 0 rfl ?_
      refine mg_16 X dX10_readSum_29 (q := 32) rfl ?_
      refine g_bipush X dX10_readSum_32 (q := 34) rfl li_b43 ?_
      refine jnW1 (fun (a1 : Int32) => WG (KM D cA h) p l e (rmD 6) st m args below meth c Q 2 s1 42 [(0, .ref (h 0))] [.int a1]) hs (fun a1 hs => ?_) (fun j2 ih3 hs => ?_)
      · refine g_istore_n X dX10_readSum_42 (q := 43) rfl (Nat.le_of_ble_eq_true rfl) (lv' := [(1, .int a1), (0, .ref (h 0))]) rfl ?_
        refine g_aload_n X dX10_readSum_43 (q := 44) rfl 1 rfl ?_
        refine v_reads X dX10_readSum_44 (q := 47) rfl (Nat.le_of_ble_eq_true rfl) (Nat.le_of_ble_eq_true rfl) (Nat.le_of_ble_eq_true rfl) hs (fun s2 hs => ?_)
        refine g_aload_n X dX10_readSum_47 (q := 48) rfl 1 rfl ?_
        refine v_readProduct X dX10_readSum_48 (q := 51) rfl (Nat.le_of_ble_eq_true rfl) (Nat.le_of_ble_eq_true rfl) (Nat.le_of_ble_eq_true rfl) hs (fun y3 hs => ?_)
        refine g_iconst X dX10_readSum_51 (q := 52) rfl li_im1 ?_
        refine g_icmp_ne X dX10_readSum_52 (q := 55) rfl (tgt := 57) (by decide) hs ?_ ?_
        · intro hs
          refine g_aload_n X dX10_readSum_57 (q := 58) rfl 1 rfl ?_
          refine g_iload_n X dX10_readSum_58 (q := 59) rfl 0 rfl ?_
          refine g_iconst X dX10_readSum_59 (q := 60) rfl li_i0 ?_
          refine v_emits X dX10_readSum_60 (q := 63) rfl (Nat.le_of_ble_eq_true rfl) (Nat.le_of_ble_eq_true rfl) (Nat.le_of_ble_eq_true rfl) hs (fun s3 hs => ?_)
          refine g_goto X dX10_readSum_63 (tgt := 10) (by decide) ?_
          exact wg_sub [1] rfl (ih1 _ hs)
        · intro hs
          refine g_iconst X dX10_readSum_55 (q := 56) rfl li_im1 ?_
          exact RI _ 56 _ _ _ (rU1 hs) rfl (rV1 hs) dX10_readSum_56
      refine g_icmp_ne X dX10_readSum_34 (q := 37) rfl (tgt := 41) (by decide) hs ?_ ?_
      · intro hs
        refine g_iconst X dX10_readSum_41 (q := 42) rfl li_i3 ?_
        exact wg_sub [0] rfl (ih3 _ hs)
      · intro hs
        refine g_iconst X dX10_readSum_37 (q := 38) rfl li_i2 ?_
        refine g_goto X dX10_readSum_38 (tgt := 42) (by decide) ?_
        exact wg_sub [0] rfl (ih3 _ hs)
    refine g_if_ne X dX10_readSum_16 (q := 19) rfl (tgt := 28) (by decide) hs ?_ ?_
    · intro hs
      exact wg_sub [0] rfl (ih2 hs)
    · intro hs
      refine g_aload_n X dX10_readSum_19 (q := 20) rfl 0 rfl ?_
      refine g_bipush X dX10_readSum_20 (q := 22) rfl li_b45 ?_
      refine v_isSign X dX10_readSum_22 (q := 25) rfl (Nat.le_of_ble_eq_true rfl) (Nat.le_of_ble_eq_true rfl) (Nat.le_of_ble_eq_true rfl) hs (fun y4 hs => ?_)
      refine g_if_eq X dX10_readSum_25 (q := 28) rfl (tgt := 66) (by decide) hs ?_ ?_
      · intro hs
        refine g_iconst X dX10_readSum_66 (q := 67) rfl li_i0 ?_
        exact RI _ 67 _ _ _ (rU1 hs) rfl (rV1 hs) dX10_readSum_67
      · intro hs
        exact wg_sub [0] rfl (ih2 hs)
  · intro hs
    refine g_iconst X dX10_readSum_8 (q := 9) rfl li_im1 ?_
    exact RI _ 9 _ _ _ (rU1 hs) rfl (rV1 hs) dX10_readSum_9
theorem v_readSum {p : Program} {l : Launch} {e : Env} {st : State} {m : MethodId} {args : Array Value} {below : List Frame} {meth : Method} {c : Code} {Q : State → Prop} {nL : Nat} {cc : ByteArray} {s : ST} {pc q : Nat} {lv : List (Nat × Value)} {rest : List Value} {D : va_G} {cA : ClassId} {h : Nat → Nat} {d0 : Nat} (X : Cx (KM D cA h) p st m args meth c cc nL RX10) (d : decode cc pc = .ok (.invokevirtual 207, 3)) (hq : pc + 3 = q) (hd1 : 6 + 1 ≤ d0) (hd2 : 8 + (2 + 11) + 100 * 6 ≤ 100 * d0) (hr : (rest.map fun v => v.category).sum ≤ 8) {B : Type} {f : Int32 × ST → Option B} {r : B} (hs : Bd (M_readSum s) f = some r) (k : ∀ y, f y = some r → WG (KM D cA h) p l e (rmD d0) st m args below meth c Q nL y.2 q lv (.int y.1 :: rest)) : WG (KM D cA h) p l e (rmD d0) st m args below meth c Q nL s pc lv (.ref (h 0) :: rest) := by
  obtain ⟨v, hv, hs⟩ := Bd_e hs
  exact cV_I X 0 (n := 0) (k_readSum l D cA h s hv) gv_X10_readSum ⟨hd1, hd2⟩ ⟨by decide, by decide, by decide +kernel⟩ (As := []) rfl hr (Nat.le_of_ble_eq_true rfl) (fs := mF h (s.1 0)) rfl rfl rfl d hq (k _ hs)
theorem dX10_readCompared_0 : decode cX10_readCompared 0 = .ok (.aload_n 0, 1) := by decide +kernel
theorem dX10_readCompared_1 : decode cX10_readCompared 1 = .ok (.invokevirtual 207, 3) := by decide +kernel
theorem dX10_readCompared_4 : decode cX10_readCompared 4 = .ok (.iconst (-1), 1) := by decide +kernel
theorem dX10_readCompared_5 : decode cX10_readCompared 5 = .ok (.if_icmp .ne 5, 3) := by decide +kernel
theorem dX10_readCompared_8 : decode cX10_readCompared 8 = .ok (.iconst (-1), 1) := by decide +kernel
theorem dX10_readCompared_9 : decode cX10_readCompared 9 = .ok (.ireturn, 1) := by decide +kernel
theorem dX10_readCompared_10 : decode cX10_readCompared 10 = .ok (.aload_n 0, 1) := by decide +kernel
theorem dX10_readCompared_11 : decode cX10_readCompared 11 = .ok (.bipush 60, 2) := by decide +kernel
theorem dX10_readCompared_13 : decode cX10_readCompared 13 = .ok (.invokevirtual 201, 3) := by decide +kernel
theorem dX10_readCompared_16 : decode cX10_readCompared 16 = .ok (.ifCond .ne 27, 3) := by decide +kernel
theorem dX10_readCompared_19 : decode cX10_readCompared 19 = .ok (.aload_n 0, 1) := by decide +kernel
theorem dX10_readCompared_20 : decode cX10_readCompared 20 = .ok (.bipush 61, 2) := by decide +kernel
theorem dX10_readCompared_22 : decode cX10_readCompared 22 = .ok (.invokevirtual 201, 3) := by decide +kernel
theorem dX10_readCompared_25 : decode cX10_readCompared 25 = .ok (.ifCond .ne 18, 3) := by decide +kernel
theorem dX10_readCompared_28 : decode cX10_readCompared 28 = .ok (.aload_n 0, 1) := by decide +kernel
theorem dX10_readCompared_29 : decode cX10_readCompared 29 = .ok (.bipush 62, 2) := by decide +kernel
theorem dX10_readCompared_31 : decode cX10_readCompared 31 = .ok (.invokevirtual 201, 3) := by decide +kernel
theorem dX10_readCompared_34 : decode cX10_readCompared 34 = .ok (.ifCond .ne 9, 3) := by decide +kernel
theorem dX10_readCompared_37 : decode cX10_readCompared 37 = .ok (.aload_n 0, 1) := by decide +kernel
theorem dX10_readCompared_38 : decode cX10_readCompared 38 = .ok (.iconst 1, 1) := by decide +kernel
theorem dX10_readCompared_39 : decode cX10_readCompared 39 = .ok (.invokevirtual 188, 3) := by decide +kernel
theorem dX10_readCompared_42 : decode cX10_readCompared 42 = .ok (.ireturn, 1) := by decide +kernel
theorem dX10_readCompared_43 : decode cX10_readCompared 43 = .ok (.aload_n 0, 1) := by decide +kernel
theorem dX10_readCompared_44 : decode cX10_readCompared 44 = .ok (.getfield 160, 3) := by decide +kernel
theorem dX10_readCompared_47 : decode cX10_readCompared 47 = .ok (.bipush 60, 2) := by decide +kernel
theorem dX10_readCompared_49 : decode cX10_readCompared 49 = .ok (.if_icmp .ne 8, 3) := by decide +kernel
theorem dX10_readCompared_52 : decode cX10_readCompared 52 = .ok (.bipush 6, 2) := by decide +kernel
theorem dX10_readCompared_54 : decode cX10_readCompared 54 = .ok (.goto 19, 3) := by decide +kernel
theorem dX10_readCompared_57 : decode cX10_readCompared 57 = .ok (.aload_n 0, 1) := by decide +kernel
theorem dX10_readCompared_58 : decode cX10_readCompared 58 = .ok (.getfield 160, 3) := by decide +kernel
theorem dX10_readCompared_61 : decode cX10_readCompared 61 = .ok (.bipush 61, 2) := by decide +kernel
theorem dX10_readCompared_63 : decode cX10_readCompared 63 = .ok (.if_icmp .ne 8, 3) := by decide +kernel
theorem dX10_readCompared_66 : decode cX10_readCompared 66 = .ok (.bipush 7, 2) := by decide +kernel
theorem dX10_readCompared_68 : decode cX10_readCompared 68 = .ok (.goto 5, 3) := by decide +kernel
theorem dX10_readCompared_71 : decode cX10_readCompared 71 = .ok (.bipush 8, 2) := by decide +kernel
theorem dX10_readCompared_73 : decode cX10_readCompared 73 = .ok (.istore_n 1, 1) := by decide +kernel
theorem dX10_readCompared_74 : decode cX10_readCompared 74 = .ok (.aload_n 0, 1) := by decide +kernel
theorem dX10_readCompared_75 : decode cX10_readCompared 75 = .ok (.invokevirtual 195, 3) := by decide +kernel
theorem dX10_readCompared_78 : decode cX10_readCompared 78 = .ok (.aload_n 0, 1) := by decide +kernel
theorem dX10_readCompared_79 : decode cX10_readCompared 79 = .ok (.invokevirtual 207, 3) := by decide +kernel
theorem dX10_readCompared_82 : decode cX10_readCompared 82 = .ok (.iconst (-1), 1) := by decide +kernel
theorem dX10_readCompared_83 : decode cX10_readCompared 83 = .ok (.if_icmp .ne 5, 3) := by decide +kernel
theorem dX10_readCompared_86 : decode cX10_readCompared 86 = .ok (.iconst (-1), 1) := by decide +kernel
theorem dX10_readCompared_87 : decode cX10_readCompared 87 = .ok (.ireturn, 1) := by decide +kernel
theorem dX10_readCompared_88 : decode cX10_readCompared 88 = .ok (.aload_n 0, 1) := by decide +kernel
theorem dX10_readCompared_89 : decode cX10_readCompared 89 = .ok (.iload_n 1, 1) := by decide +kernel
theorem dX10_readCompared_90 : decode cX10_readCompared 90 = .ok (.iconst 0, 1) := by decide +kernel
theorem dX10_readCompared_91 : decode cX10_readCompared 91 = .ok (.invokevirtual 191, 3) := by decide +kernel
theorem dX10_readCompared_94 : decode cX10_readCompared 94 = .ok (.iconst 0, 1) := by decide +kernel
theorem dX10_readCompared_95 : decode cX10_readCompared 95 = .ok (.ireturn, 1) := by decide +kernel
def M_readCompared (s : ST) : Option (Int32 × ST) := Bd (M_readSum s) fun y1 => if y1.1 = (-1 : Int32) then (some ((-1 : Int32), y1.2)) else (Lt (M_isSign y1.2 (60 : Int32)) fun y2 => Lt (Lt (fun (a1 : Int32) => (Bd (M_reads y1.2) fun s1 => Bd (M_readSum s1) fun y3 => if y3.1 = (-1 : Int32) then (some ((-1 : Int32), y3.2)) else (Bd (M_emits y3.2 a1 (0 : Int32)) fun s2 => some ((0 : Int32), s2)) : Option (Int32 × ST))) fun j2 => if (y1.2.1 0 16) = (60 : Int32) then (j2 (6 : Int32)) else (if (y1.2.1 0 16) = (61 : Int32) then (j2 (7 : Int32)) else (j2 (8 : Int32))) : Option (Int32 × ST)) fun j1 => if y2 = 0 then (Lt (M_isSign y1.2 (61 : Int32)) fun y4 => if y4 = 0 then (Lt (M_isSign y1.2 (62 : Int32)) fun y5 => if y5 = 0 then (Lt (M_errs y1.2 (1 : Int32)) fun y6 => some (y6.1, y6.2)) else (j1)) else (j1)) else (j1))
set_option maxRecDepth 100000 in
set_option maxHeartbeats 4000000 in
theorem k_readCompared (l : Launch) (D : va_G) (cA : ClassId) (h : Nat → Nat) (s : ST) {o : Int32 × ST} (hs : M_readCompared s = some o) : MI l (KM D cA h) 7 yX10_readCompared cX10_readCompared 2 (some .int) s [.ref (h 0)] o.1 o.2 := by
  refine met_i (by decide) (Nat.le_of_ble_eq_true rfl) ?_
  intro p e st m args below meth c Q X RI
  unfold M_readCompared at hs
  refine g_aload_n X dX10_readCompared_0 (q := 1) rfl 0 rfl ?_
  refine v_readSum X dX10_readCompared_1 (q := 4) rfl (Nat.le_of_ble_eq_true rfl) (Nat.le_of_ble_eq_true rfl) (Nat.le_of_ble_eq_true rfl) hs (fun y1 hs => ?_)
  refine g_iconst X dX10_readCompared_4 (q := 5) rfl li_im1 ?_
  refine g_icmp_ne X dX10_readCompared_5 (q := 8) rfl (tgt := 10) (by decide) hs ?_ ?_
  · intro hs
    refine g_aload_n X dX10_readCompared_10 (q := 11) rfl 0 rfl ?_
    refine g_bipush X dX10_readCompared_11 (q := 13) rfl li_b60 ?_
    refine v_isSign X dX10_readCompared_13 (q := 16) rfl (Nat.le_of_ble_eq_true rfl) (Nat.le_of_ble_eq_true rfl) (Nat.le_of_ble_eq_true rfl) hs (fun y2 hs => ?_)
    refine jnW0 (WG (KM D cA h) p l e (rmD 7) st m args below meth c Q 2 y1.2 43 [(0, .ref (h 0))] []) hs (fun  hs => ?_) (fun j1 ih1 hs => ?_)
    · refine g_aload_n X dX10_readCompared_43 (q := 44) rfl 0 rfl ?_
      refine mg_16 X dX10_readCompared_44 (q := 47) rfl ?_
      refine g_bipush X dX10_readCompared_47 (q := 49) rfl li_b60 ?_
      refine jnW1 (fun (a1 : Int32) => WG (KM D cA h) p l e (rmD 7) st m args below meth c Q 2 y1.2 73 [(0, .ref (h 0))] [.int a1]) hs (fun a1 hs => ?_) (fun j2 ih2 hs => ?_)
      · refine g_istore_n X dX10_readCompared_73 (q := 74) rfl (Nat.le_of_ble_eq_true rfl) (lv' := [(1, .int a1), (0, .ref (h 0))]) rfl ?_
        refine g_aload_n X dX10_readCompared_74 (q := 75) rfl 1 rfl ?_
        refine v_reads X dX10_readCompared_75 (q := 78) rfl (Nat.le_of_ble_eq_true rfl) (Nat.le_of_ble_eq_true rfl) (Nat.le_of_ble_eq_true rfl) hs (fun s1 hs => ?_)
        refine g_aload_n X dX10_readCompared_78 (q := 79) rfl 1 rfl ?_
        refine v_readSum X dX10_readCompared_79 (q := 82) rfl (Nat.le_of_ble_eq_true rfl) (Nat.le_of_ble_eq_true rfl) (Nat.le_of_ble_eq_true rfl) hs (fun y3 hs => ?_)
        refine g_iconst X dX10_readCompared_82 (q := 83) rfl li_im1 ?_
        refine g_icmp_ne X dX10_readCompared_83 (q := 86) rfl (tgt := 88) (by decide) hs ?_ ?_
        · intro hs
          refine g_aload_n X dX10_readCompared_88 (q := 89) rfl 1 rfl ?_
          refine g_iload_n X dX10_readCompared_89 (q := 90) rfl 0 rfl ?_
          refine g_iconst X dX10_readCompared_90 (q := 91) rfl li_i0 ?_
          refine v_emits X dX10_readCompared_91 (q := 94) rfl (Nat.le_of_ble_eq_true rfl) (Nat.le_of_ble_eq_true rfl) (Nat.le_of_ble_eq_true rfl) hs (fun s2 hs => ?_)
          refine g_iconst X dX10_readCompared_94 (q := 95) rfl li_i0 ?_
          exact RI _ 95 _ _ _ (rU1 hs) rfl (rV1 hs) dX10_readCompared_95
        · intro hs
          refine g_iconst X dX10_readCompared_86 (q := 87) rfl li_im1 ?_
          exact RI _ 87 _ _ _ (rU1 hs) rfl (rV1 hs) dX10_readCompared_87
      refine g_icmp_ne X dX10_readCompared_49 (q := 52) rfl (tgt := 57) (by decide) hs ?_ ?_
      · intro hs
        refine g_aload_n X dX10_readCompared_57 (q := 58) rfl 0 rfl ?_
        refine mg_16 X dX10_readCompared_58 (q := 61) rfl ?_
        refine g_bipush X dX10_readCompared_61 (q := 63) rfl li_b61 ?_
        refine g_icmp_ne X dX10_readCompared_63 (q := 66) rfl (tgt := 71) (by decide) hs ?_ ?_
        · intro hs
          refine g_bipush X dX10_readCompared_71 (q := 73) rfl li_b8 ?_
          exact wg_sub [0] rfl (ih2 _ hs)
        · intro hs
          refine g_bipush X dX10_readCompared_66 (q := 68) rfl li_b7 ?_
          refine g_goto X dX10_readCompared_68 (tgt := 73) (by decide) ?_
          exact wg_sub [0] rfl (ih2 _ hs)
      · intro hs
        refine g_bipush X dX10_readCompared_52 (q := 54) rfl li_b6 ?_
        refine g_goto X dX10_readCompared_54 (tgt := 73) (by decide) ?_
        exact wg_sub [0] rfl (ih2 _ hs)
    refine g_if_ne X dX10_readCompared_16 (q := 19) rfl (tgt := 43) (by decide) hs ?_ ?_
    · intro hs
      exact wg_sub [0] rfl (ih1 hs)
    · intro hs
      refine g_aload_n X dX10_readCompared_19 (q := 20) rfl 0 rfl ?_
      refine g_bipush X dX10_readCompared_20 (q := 22) rfl li_b61 ?_
      refine v_isSign X dX10_readCompared_22 (q := 25) rfl (Nat.le_of_ble_eq_true rfl) (Nat.le_of_ble_eq_true rfl) (Nat.le_of_ble_eq_true rfl) hs (fun y4 hs => ?_)
      refine g_if_ne X dX10_readCompared_25 (q := 28) rfl (tgt := 43) (by decide) hs ?_ ?_
      · intro hs
        exact wg_sub [0] rfl (ih1 hs)
      · intro hs
        refine g_aload_n X dX10_readCompared_28 (q := 29) rfl 0 rfl ?_
        refine g_bipush X dX10_readCompared_29 (q := 31) rfl li_b62 ?_
        refine v_isSign X dX10_readCompared_31 (q := 34) rfl (Nat.le_of_ble_eq_true rfl) (Nat.le_of_ble_eq_true rfl) (Nat.le_of_ble_eq_true rfl) hs (fun y5 hs => ?_)
        refine g_if_ne X dX10_readCompared_34 (q := 37) rfl (tgt := 43) (by decide) hs ?_ ?_
        · intro hs
          exact wg_sub [0] rfl (ih1 hs)
        · intro hs
          refine g_aload_n X dX10_readCompared_37 (q := 38) rfl 0 rfl ?_
          refine g_iconst X dX10_readCompared_38 (q := 39) rfl li_i1 ?_
          refine v_errs X dX10_readCompared_39 (q := 42) rfl (Nat.le_of_ble_eq_true rfl) (Nat.le_of_ble_eq_true rfl) (Nat.le_of_ble_eq_true rfl) hs (fun y6 hs => ?_)
          exact RI _ 42 _ _ _ (rU1 hs) rfl (rV1 hs) dX10_readCompared_42
  · intro hs
    refine g_iconst X dX10_readCompared_8 (q := 9) rfl li_im1 ?_
    exact RI _ 9 _ _ _ (rU1 hs) rfl (rV1 hs) dX10_readCompared_9
theorem v_readCompared {p : Program} {l : Launch} {e : Env} {st : State} {m : MethodId} {args : Array Value} {below : List Frame} {meth : Method} {c : Code} {Q : State → Prop} {nL : Nat} {cc : ByteArray} {s : ST} {pc q : Nat} {lv : List (Nat × Value)} {rest : List Value} {D : va_G} {cA : ClassId} {h : Nat → Nat} {d0 : Nat} (X : Cx (KM D cA h) p st m args meth c cc nL RX10) (d : decode cc pc = .ok (.invokevirtual 222, 3)) (hq : pc + 3 = q) (hd1 : 7 + 1 ≤ d0) (hd2 : 8 + (2 + 11) + 100 * 7 ≤ 100 * d0) (hr : (rest.map fun v => v.category).sum ≤ 8) {B : Type} {f : Int32 × ST → Option B} {r : B} (hs : Bd (M_readCompared s) f = some r) (k : ∀ y, f y = some r → WG (KM D cA h) p l e (rmD d0) st m args below meth c Q nL y.2 q lv (.int y.1 :: rest)) : WG (KM D cA h) p l e (rmD d0) st m args below meth c Q nL s pc lv (.ref (h 0) :: rest) := by
  obtain ⟨v, hv, hs⟩ := Bd_e hs
  exact cV_I X 0 (n := 0) (k_readCompared l D cA h s hv) gv_X10_readCompared ⟨hd1, hd2⟩ ⟨by decide, by decide, by decide +kernel⟩ (As := []) rfl hr (Nat.le_of_ble_eq_true rfl) (fs := mF h (s.1 0)) rfl rfl rfl d hq (k _ hs)
theorem dX10_waits_0 : decode cX10_waits 0 = .ok (.aload_n 0, 1) := by decide +kernel
theorem dX10_waits_1 : decode cX10_waits 1 = .ok (.getfield 52, 3) := by decide +kernel
theorem dX10_waits_4 : decode cX10_waits 4 = .ok (.aload_n 0, 1) := by decide +kernel
theorem dX10_waits_5 : decode cX10_waits 5 = .ok (.getfield 210, 3) := by decide +kernel
theorem dX10_waits_8 : decode cX10_waits 8 = .ok (.iload_n 1, 1) := by decide +kernel
theorem dX10_waits_9 : decode cX10_waits 9 = .ok (.iastore, 1) := by decide +kernel
theorem dX10_waits_10 : decode cX10_waits 10 = .ok (.aload_n 0, 1) := by decide +kernel
theorem dX10_waits_11 : decode cX10_waits 11 = .ok (.aload_n 0, 1) := by decide +kernel
theorem dX10_waits_12 : decode cX10_waits 12 = .ok (.getfield 210, 3) := by decide +kernel
theorem dX10_waits_15 : decode cX10_waits 15 = .ok (.iconst 1, 1) := by decide +kernel
theorem dX10_waits_16 : decode cX10_waits 16 = .ok (.iadd, 1) := by decide +kernel
theorem dX10_waits_17 : decode cX10_waits 17 = .ok (.putfield 210, 3) := by decide +kernel
theorem dX10_waits_20 : decode cX10_waits 20 = .ok (.return_, 1) := by decide +kernel
def M_waits (s : ST) (x1 : Int32) : Option (ST) := Gs s 15 40 (s.1 0 29) x1 fun s1 => Lt (ups s1 0 29 ((s1.1 0 29) + (1 : Int32))) fun s2 => some s2
set_option maxRecDepth 100000 in
set_option maxHeartbeats 4000000 in
theorem k_waits (l : Launch) (D : va_G) (cA : ClassId) (h : Nat → Nat) (s : ST) (x1 : Int32) {o : ST} (hs : M_waits s x1 = some o) : MV l (KM D cA h) 1 yX10_waits cX10_waits 2 none s [.ref (h 0), .int x1] o := by
  refine met_v (by decide) (Nat.le_of_ble_eq_true rfl) ?_
  intro p e st m args below meth c Q X RI
  unfold M_waits at hs
  refine g_aload_n X dX10_waits_0 (q := 1) rfl 0 rfl ?_
  refine mg_28 X dX10_waits_1 (q := 4) rfl ?_
  refine g_aload_n X dX10_waits_4 (q := 5) rfl 0 rfl ?_
  refine mg_29 X dX10_waits_5 (q := 8) rfl ?_
  refine g_iload_n X dX10_waits_8 (q := 9) rfl 1 rfl ?_
  refine ms_15 X dX10_waits_9 (q := 10) rfl hs (fun s1 hs => ?_)
  refine g_aload_n X dX10_waits_10 (q := 11) rfl 0 rfl ?_
  refine g_aload_n X dX10_waits_11 (q := 12) rfl 0 rfl ?_
  refine mg_29 X dX10_waits_12 (q := 15) rfl ?_
  refine g_iconst X dX10_waits_15 (q := 16) rfl li_i1 ?_
  refine g_iadd X dX10_waits_16 (q := 17) rfl ?_
  refine mp_29 X dX10_waits_17 (q := 20) rfl hs (fun s2 hs => ?_)
  exact RI _ 20 _ (Option.some.inj hs) dX10_waits_20
theorem v_waits {p : Program} {l : Launch} {e : Env} {st : State} {m : MethodId} {args : Array Value} {below : List Frame} {meth : Method} {c : Code} {Q : State → Prop} {nL : Nat} {cc : ByteArray} {s : ST} {pc q : Nat} {lv : List (Nat × Value)} {rest : List Value} {D : va_G} {cA : ClassId} {h : Nat → Nat} {d0 : Nat} (X : Cx (KM D cA h) p st m args meth c cc nL RX10) {x1 : Int32} (d : decode cc pc = .ok (.invokevirtual 219, 3)) (hq : pc + 3 = q) (hd1 : 1 + 1 ≤ d0) (hd2 : 8 + (2 + 11) + 100 * 1 ≤ 100 * d0) (hr : (rest.map fun v => v.category).sum ≤ 8) {B : Type} {f : ST → Option B} {r : B} (hs : Bd (M_waits s x1) f = some r) (k : ∀ y, f y = some r → WG (KM D cA h) p l e (rmD d0) st m args below meth c Q nL y q lv (rest)) : WG (KM D cA h) p l e (rmD d0) st m args below meth c Q nL s pc lv (.int x1 :: .ref (h 0) :: rest) := by
  obtain ⟨v, hv, hs⟩ := Bd_e hs
  exact cV_V X 0 (n := 1) (k_waits l D cA h s x1 hv) gv_X10_waits ⟨hd1, hd2⟩ ⟨by decide, by decide, by decide +kernel⟩ (As := [.int x1]) rfl hr (Nat.le_of_ble_eq_true rfl) (fs := mF h (s.1 0)) rfl rfl rfl d hq (k _ hs)
theorem dX10_settles_0 : decode cX10_settles 0 = .ok (.aload_n 0, 1) := by decide +kernel
theorem dX10_settles_1 : decode cX10_settles 1 = .ok (.getfield 210, 3) := by decide +kernel
theorem dX10_settles_4 : decode cX10_settles 4 = .ok (.ifCond .le 53, 3) := by decide +kernel
theorem dX10_settles_7 : decode cX10_settles 7 = .ok (.aload_n 0, 1) := by decide +kernel
theorem dX10_settles_8 : decode cX10_settles 8 = .ok (.getfield 52, 3) := by decide +kernel
theorem dX10_settles_11 : decode cX10_settles 11 = .ok (.aload_n 0, 1) := by decide +kernel
theorem dX10_settles_12 : decode cX10_settles 12 = .ok (.getfield 210, 3) := by decide +kernel
theorem dX10_settles_15 : decode cX10_settles 15 = .ok (.iconst 1, 1) := by decide +kernel
theorem dX10_settles_16 : decode cX10_settles 16 = .ok (.isub, 1) := by decide +kernel
theorem dX10_settles_17 : decode cX10_settles 17 = .ok (.iaload, 1) := by decide +kernel
theorem dX10_settles_18 : decode cX10_settles 18 = .ok (.iload_n 1, 1) := by decide +kernel
theorem dX10_settles_19 : decode cX10_settles 19 = .ok (.if_icmp .ne 38, 3) := by decide +kernel
theorem dX10_settles_22 : decode cX10_settles 22 = .ok (.aload_n 0, 1) := by decide +kernel
theorem dX10_settles_23 : decode cX10_settles 23 = .ok (.aload_n 0, 1) := by decide +kernel
theorem dX10_settles_24 : decode cX10_settles 24 = .ok (.getfield 210, 3) := by decide +kernel
theorem dX10_settles_27 : decode cX10_settles 27 = .ok (.iconst 1, 1) := by decide +kernel
theorem dX10_settles_28 : decode cX10_settles 28 = .ok (.isub, 1) := by decide +kernel
theorem dX10_settles_29 : decode cX10_settles 29 = .ok (.putfield 210, 3) := by decide +kernel
theorem dX10_settles_32 : decode cX10_settles 32 = .ok (.aload_n 0, 1) := by decide +kernel
theorem dX10_settles_33 : decode cX10_settles 33 = .ok (.iload_n 1, 1) := by decide +kernel
theorem dX10_settles_34 : decode cX10_settles 34 = .ok (.iconst 0, 1) := by decide +kernel
theorem dX10_settles_35 : decode cX10_settles 35 = .ok (.invokevirtual 191, 3) := by decide +kernel
theorem dX10_settles_38 : decode cX10_settles 38 = .ok (.iload_n 1, 1) := by decide +kernel
theorem dX10_settles_39 : decode cX10_settles 39 = .ok (.bipush 9, 2) := by decide +kernel
theorem dX10_settles_41 : decode cX10_settles 41 = .ok (.if_icmp .ne (-41), 3) := by decide +kernel
theorem dX10_settles_44 : decode cX10_settles 44 = .ok (.aload_n 0, 1) := by decide +kernel
theorem dX10_settles_45 : decode cX10_settles 45 = .ok (.aload_n 0, 1) := by decide +kernel
theorem dX10_settles_46 : decode cX10_settles 46 = .ok (.getfield 213, 3) := by decide +kernel
theorem dX10_settles_49 : decode cX10_settles 49 = .ok (.iconst 1, 1) := by decide +kernel
theorem dX10_settles_50 : decode cX10_settles 50 = .ok (.isub, 1) := by decide +kernel
theorem dX10_settles_51 : decode cX10_settles 51 = .ok (.putfield 213, 3) := by decide +kernel
theorem dX10_settles_54 : decode cX10_settles 54 = .ok (.goto (-54), 3) := by decide +kernel
theorem dX10_settles_57 : decode cX10_settles 57 = .ok (.return_, 1) := by decide +kernel
def M_settles (s : ST) (x1 : Int32) : Option (ST) := lpK1 (C := ST) (fun (rec1 : ST → Option (ST)) (s1 : ST) => if (s1.1 0 29) ≤ 0 then (some s1) else (Gl s1 15 40 ((s1.1 0 29) - (1 : Int32)) fun y1 => if y1 = x1 then (Lt (ups s1 0 29 ((s1.1 0 29) - (1 : Int32))) fun s2 => Bd (M_emits s2 x1 (0 : Int32)) fun s3 => if x1 = (9 : Int32) then (Lt (ups s3 0 27 ((s3.1 0 27) - (1 : Int32))) fun s4 => rec1 s4) else (rec1 s3)) else (some s1))) FU s
set_option maxRecDepth 100000 in
set_option maxHeartbeats 4000000 in
theorem k_settles (l : Launch) (D : va_G) (cA : ClassId) (h : Nat → Nat) (s : ST) (x1 : Int32) {o : ST} (hs : M_settles s x1 = some o) : MV l (KM D cA h) 2 yX10_settles cX10_settles 2 none s [.ref (h 0), .int x1] o := by
  refine met_v (by decide) (Nat.le_of_ble_eq_true rfl) ?_
  intro p e st m args below meth c Q X RI
  unfold M_settles at hs
  refine wg_sub [0, 1] rfl (lpW1 (fun (s1 : ST) => WG (KM D cA h) p l e (rmD 2) st m args below meth c Q 2 s1 0 [(0, .ref (h 0)), (1, .int x1)] []) (fun rec1 ih1 s1 hs => ?_) _ _ hs)
  refine g_aload_n X dX10_settles_0 (q := 1) rfl 0 rfl ?_
  refine mg_29 X dX10_settles_1 (q := 4) rfl ?_
  refine g_if_le X dX10_settles_4 (q := 7) rfl (tgt := 57) (by decide) hs ?_ ?_
  · intro hs
    exact RI _ 57 _ (Option.some.inj hs) dX10_settles_57
  · intro hs
    refine g_aload_n X dX10_settles_7 (q := 8) rfl 0 rfl ?_
    refine mg_28 X dX10_settles_8 (q := 11) rfl ?_
    refine g_aload_n X dX10_settles_11 (q := 12) rfl 0 rfl ?_
    refine mg_29 X dX10_settles_12 (q := 15) rfl ?_
    refine g_iconst X dX10_settles_15 (q := 16) rfl li_i1 ?_
    refine g_isub X dX10_settles_16 (q := 17) rfl ?_
    refine ma_15 X dX10_settles_17 (q := 18) rfl hs (fun y1 hs => ?_)
    refine g_iload_n X dX10_settles_18 (q := 19) rfl 1 rfl ?_
    refine g_icmp_ne X dX10_settles_19 (q := 22) rfl (tgt := 57) (by decide) hs ?_ ?_
    · intro hs
      exact RI _ 57 _ (Option.some.inj hs) dX10_settles_57
    · intro hs
      refine g_aload_n X dX10_settles_22 (q := 23) rfl 0 rfl ?_
      refine g_aload_n X dX10_settles_23 (q := 24) rfl 0 rfl ?_
      refine mg_29 X dX10_settles_24 (q := 27) rfl ?_
      refine g_iconst X dX10_settles_27 (q := 28) rfl li_i1 ?_
      refine g_isub X dX10_settles_28 (q := 29) rfl ?_
      refine mp_29 X dX10_settles_29 (q := 32) rfl hs (fun s2 hs => ?_)
      refine g_aload_n X dX10_settles_32 (q := 33) rfl 0 rfl ?_
      refine g_iload_n X dX10_settles_33 (q := 34) rfl 1 rfl ?_
      refine g_iconst X dX10_settles_34 (q := 35) rfl li_i0 ?_
      refine v_emits X dX10_settles_35 (q := 38) rfl (Nat.le_of_ble_eq_true rfl) (Nat.le_of_ble_eq_true rfl) (Nat.le_of_ble_eq_true rfl) hs (fun s3 hs => ?_)
      refine g_iload_n X dX10_settles_38 (q := 39) rfl 1 rfl ?_
      refine g_bipush X dX10_settles_39 (q := 41) rfl li_b9 ?_
      refine g_icmp_ne X dX10_settles_41 (q := 44) rfl (tgt := 0) (by decide) hs ?_ ?_
      · intro hs
        exact wg_sub [0, 1] rfl (ih1 _ hs)
      · intro hs
        refine g_aload_n X dX10_settles_44 (q := 45) rfl 0 rfl ?_
        refine g_aload_n X dX10_settles_45 (q := 46) rfl 0 rfl ?_
        refine mg_27 X dX10_settles_46 (q := 49) rfl ?_
        refine g_iconst X dX10_settles_49 (q := 50) rfl li_i1 ?_
        refine g_isub X dX10_settles_50 (q := 51) rfl ?_
        refine mp_27 X dX10_settles_51 (q := 54) rfl hs (fun s4 hs => ?_)
        refine g_goto X dX10_settles_54 (tgt := 0) (by decide) ?_
        exact wg_sub [0, 1] rfl (ih1 _ hs)
theorem v_settles {p : Program} {l : Launch} {e : Env} {st : State} {m : MethodId} {args : Array Value} {below : List Frame} {meth : Method} {c : Code} {Q : State → Prop} {nL : Nat} {cc : ByteArray} {s : ST} {pc q : Nat} {lv : List (Nat × Value)} {rest : List Value} {D : va_G} {cA : ClassId} {h : Nat → Nat} {d0 : Nat} (X : Cx (KM D cA h) p st m args meth c cc nL RX10) {x1 : Int32} (d : decode cc pc = .ok (.invokevirtual 225, 3)) (hq : pc + 3 = q) (hd1 : 2 + 1 ≤ d0) (hd2 : 8 + (2 + 11) + 100 * 2 ≤ 100 * d0) (hr : (rest.map fun v => v.category).sum ≤ 8) {B : Type} {f : ST → Option B} {r : B} (hs : Bd (M_settles s x1) f = some r) (k : ∀ y, f y = some r → WG (KM D cA h) p l e (rmD d0) st m args below meth c Q nL y q lv (rest)) : WG (KM D cA h) p l e (rmD d0) st m args below meth c Q nL s pc lv (.int x1 :: .ref (h 0) :: rest) := by
  obtain ⟨v, hv, hs⟩ := Bd_e hs
  exact cV_V X 0 (n := 1) (k_settles l D cA h s x1 hv) gv_X10_settles ⟨hd1, hd2⟩ ⟨by decide, by decide, by decide +kernel⟩ (As := [.int x1]) rfl hr (Nat.le_of_ble_eq_true rfl) (fs := mF h (s.1 0)) rfl rfl rfl d hq (k _ hs)
theorem dX10_readAny_0 : decode cX10_readAny 0 = .ok (.iconst 0, 1) := by decide +kernel
theorem dX10_readAny_1 : decode cX10_readAny 1 = .ok (.istore_n 1, 1) := by decide +kernel
theorem dX10_readAny_2 : decode cX10_readAny 2 = .ok (.aload_n 0, 1) := by decide +kernel
theorem dX10_readAny_3 : decode cX10_readAny 3 = .ok (.iconst 0, 1) := by decide +kernel
theorem dX10_readAny_4 : decode cX10_readAny 4 = .ok (.putfield 210, 3) := by decide +kernel
theorem dX10_readAny_7 : decode cX10_readAny 7 = .ok (.iconst 1, 1) := by decide +kernel
theorem dX10_readAny_8 : decode cX10_readAny 8 = .ok (.istore_n 2, 1) := by decide +kernel
theorem dX10_readAny_9 : decode cX10_readAny 9 = .ok (.iload_n 2, 1) := by decide +kernel
theorem dX10_readAny_10 : decode cX10_readAny 10 = .ok (.ifCond .eq 98, 3) := by decide +kernel
theorem dX10_readAny_13 : decode cX10_readAny 13 = .ok (.aload_n 0, 1) := by decide +kernel
theorem dX10_readAny_14 : decode cX10_readAny 14 = .ok (.iconst 5, 1) := by decide +kernel
theorem dX10_readAny_15 : decode cX10_readAny 15 = .ok (.invokevirtual 216, 3) := by decide +kernel
theorem dX10_readAny_18 : decode cX10_readAny 18 = .ok (.istore_n 3, 1) := by decide +kernel
theorem dX10_readAny_19 : decode cX10_readAny 19 = .ok (.iload_n 3, 1) := by decide +kernel
theorem dX10_readAny_20 : decode cX10_readAny 20 = .ok (.ifCond .ne 12, 3) := by decide +kernel
theorem dX10_readAny_23 : decode cX10_readAny 23 = .ok (.aload_n 0, 1) := by decide +kernel
theorem dX10_readAny_24 : decode cX10_readAny 24 = .ok (.bipush 40, 2) := by decide +kernel
theorem dX10_readAny_26 : decode cX10_readAny 26 = .ok (.invokevirtual 201, 3) := by decide +kernel
theorem dX10_readAny_29 : decode cX10_readAny 29 = .ok (.ifCond .eq 58, 3) := by decide +kernel
theorem dX10_readAny_32 : decode cX10_readAny 32 = .ok (.aload_n 0, 1) := by decide +kernel
theorem dX10_readAny_33 : decode cX10_readAny 33 = .ok (.getfield 213, 3) := by decide +kernel
theorem dX10_readAny_36 : decode cX10_readAny 36 = .ok (.bipush 8, 2) := by decide +kernel
theorem dX10_readAny_38 : decode cX10_readAny 38 = .ok (.if_icmp .ne 9, 3) := by decide +kernel
theorem dX10_readAny_41 : decode cX10_readAny 41 = .ok (.aload_n 0, 1) := by decide +kernel
theorem dX10_readAny_42 : decode cX10_readAny 42 = .ok (.iconst 3, 1) := by decide +kernel
theorem dX10_readAny_43 : decode cX10_readAny 43 = .ok (.invokevirtual 188, 3) := by decide +kernel
theorem dX10_readAny_46 : decode cX10_readAny 46 = .ok (.ireturn, 1) := by decide +kernel
theorem dX10_readAny_47 : decode cX10_readAny 47 = .ok (.aload_n 0, 1) := by decide +kernel
theorem dX10_readAny_48 : decode cX10_readAny 48 = .ok (.aload_n 0, 1) := by decide +kernel
theorem dX10_readAny_49 : decode cX10_readAny 49 = .ok (.getfield 213, 3) := by decide +kernel
theorem dX10_readAny_52 : decode cX10_readAny 52 = .ok (.iconst 1, 1) := by decide +kernel
theorem dX10_readAny_53 : decode cX10_readAny 53 = .ok (.iadd, 1) := by decide +kernel
theorem dX10_readAny_54 : decode cX10_readAny 54 = .ok (.putfield 213, 3) := by decide +kernel
theorem dX10_readAny_57 : decode cX10_readAny 57 = .ok (.iload_n 3, 1) := by decide +kernel
theorem dX10_readAny_58 : decode cX10_readAny 58 = .ok (.ifCond .ne 7, 3) := by decide +kernel
theorem dX10_readAny_61 : decode cX10_readAny 61 = .ok (.iload_n 1, 1) := by decide +kernel
theorem dX10_readAny_62 : decode cX10_readAny 62 = .ok (.iconst 1, 1) := by decide +kernel
theorem dX10_readAny_63 : decode cX10_readAny 63 = .ok (.iadd, 1) := by decide +kernel
theorem dX10_readAny_64 : decode cX10_readAny 64 = .ok (.istore_n 1, 1) := by decide +kernel
theorem dX10_readAny_65 : decode cX10_readAny 65 = .ok (.aload_n 0, 1) := by decide +kernel
theorem dX10_readAny_66 : decode cX10_readAny 66 = .ok (.iload_n 3, 1) := by decide +kernel
theorem dX10_readAny_67 : decode cX10_readAny 67 = .ok (.ifCond .eq 8, 3) := by decide +kernel
theorem dX10_readAny_70 : decode cX10_readAny 70 = .ok (.bipush 9, 2) := by decide +kernel
theorem dX10_readAny_72 : decode cX10_readAny 72 = .ok (.goto 5, 3) := by decide +kernel
theorem dX10_readAny_75 : decode cX10_readAny 75 = .ok (.bipush 12, 2) := by decide +kernel
theorem dX10_readAny_77 : decode cX10_readAny 77 = .ok (.invokevirtual 219, 3) := by decide +kernel
theorem dX10_readAny_80 : decode cX10_readAny 80 = .ok (.aload_n 0, 1) := by decide +kernel
theorem dX10_readAny_81 : decode cX10_readAny 81 = .ok (.invokevirtual 195, 3) := by decide +kernel
theorem dX10_readAny_84 : decode cX10_readAny 84 = .ok (.goto (-75), 3) := by decide +kernel
theorem dX10_readAny_87 : decode cX10_readAny 87 = .ok (.aload_n 0, 1) := by decide +kernel
theorem dX10_readAny_88 : decode cX10_readAny 88 = .ok (.invokevirtual 222, 3) := by decide +kernel
theorem dX10_readAny_91 : decode cX10_readAny 91 = .ok (.iconst (-1), 1) := by decide +kernel
theorem dX10_readAny_92 : decode cX10_readAny 92 = .ok (.if_icmp .ne 5, 3) := by decide +kernel
theorem dX10_readAny_95 : decode cX10_readAny 95 = .ok (.iconst (-1), 1) := by decide +kernel
theorem dX10_readAny_96 : decode cX10_readAny 96 = .ok (.ireturn, 1) := by decide +kernel
theorem dX10_readAny_97 : decode cX10_readAny 97 = .ok (.aload_n 0, 1) := by decide +kernel
theorem dX10_readAny_98 : decode cX10_readAny 98 = .ok (.bipush 9, 2) := by decide +kernel
theorem dX10_readAny_100 : decode cX10_readAny 100 = .ok (.invokevirtual 225, 3) := by decide +kernel
theorem dX10_readAny_103 : decode cX10_readAny 103 = .ok (.iconst 0, 1) := by decide +kernel
theorem dX10_readAny_104 : decode cX10_readAny 104 = .ok (.istore_n 2, 1) := by decide +kernel
theorem dX10_readAny_105 : decode cX10_readAny 105 = .ok (.goto (-96), 3) := by decide +kernel
theorem dX10_readAny_108 : decode cX10_readAny 108 = .ok (.aload_n 0, 1) := by decide +kernel
theorem dX10_readAny_109 : decode cX10_readAny 109 = .ok (.iconst 4, 1) := by decide +kernel
theorem dX10_readAny_110 : decode cX10_readAny 110 = .ok (.invokevirtual 216, 3) := by decide +kernel
theorem dX10_readAny_113 : decode cX10_readAny 113 = .ok (.ifCond .eq 24, 3) := by decide +kernel
theorem dX10_readAny_116 : decode cX10_readAny 116 = .ok (.aload_n 0, 1) := by decide +kernel
theorem dX10_readAny_117 : decode cX10_readAny 117 = .ok (.bipush 10, 2) := by decide +kernel
theorem dX10_readAny_119 : decode cX10_readAny 119 = .ok (.invokevirtual 225, 3) := by decide +kernel
theorem dX10_readAny_122 : decode cX10_readAny 122 = .ok (.aload_n 0, 1) := by decide +kernel
theorem dX10_readAny_123 : decode cX10_readAny 123 = .ok (.bipush 10, 2) := by decide +kernel
theorem dX10_readAny_125 : decode cX10_readAny 125 = .ok (.invokevirtual 219, 3) := by decide +kernel
theorem dX10_readAny_128 : decode cX10_readAny 128 = .ok (.aload_n 0, 1) := by decide +kernel
theorem dX10_readAny_129 : decode cX10_readAny 129 = .ok (.invokevirtual 195, 3) := by decide +kernel
theorem dX10_readAny_132 : decode cX10_readAny 132 = .ok (.iconst 1, 1) := by decide +kernel
theorem dX10_readAny_133 : decode cX10_readAny 133 = .ok (.istore_n 2, 1) := by decide +kernel
theorem dX10_readAny_134 : decode cX10_readAny 134 = .ok (.goto (-125), 3) := by decide +kernel
theorem dX10_readAny_137 : decode cX10_readAny 137 = .ok (.aload_n 0, 1) := by decide +kernel
theorem dX10_readAny_138 : decode cX10_readAny 138 = .ok (.iconst 3, 1) := by decide +kernel
theorem dX10_readAny_139 : decode cX10_readAny 139 = .ok (.invokevirtual 216, 3) := by decide +kernel
theorem dX10_readAny_142 : decode cX10_readAny 142 = .ok (.ifCond .eq 30, 3) := by decide +kernel
theorem dX10_readAny_145 : decode cX10_readAny 145 = .ok (.aload_n 0, 1) := by decide +kernel
theorem dX10_readAny_146 : decode cX10_readAny 146 = .ok (.bipush 10, 2) := by decide +kernel
theorem dX10_readAny_148 : decode cX10_readAny 148 = .ok (.invokevirtual 225, 3) := by decide +kernel
theorem dX10_readAny_151 : decode cX10_readAny 151 = .ok (.aload_n 0, 1) := by decide +kernel
theorem dX10_readAny_152 : decode cX10_readAny 152 = .ok (.bipush 11, 2) := by decide +kernel
theorem dX10_readAny_154 : decode cX10_readAny 154 = .ok (.invokevirtual 225, 3) := by decide +kernel
theorem dX10_readAny_157 : decode cX10_readAny 157 = .ok (.aload_n 0, 1) := by decide +kernel
theorem dX10_readAny_158 : decode cX10_readAny 158 = .ok (.bipush 11, 2) := by decide +kernel
theorem dX10_readAny_160 : decode cX10_readAny 160 = .ok (.invokevirtual 219, 3) := by decide +kernel
theorem dX10_readAny_163 : decode cX10_readAny 163 = .ok (.aload_n 0, 1) := by decide +kernel
theorem dX10_readAny_164 : decode cX10_readAny 164 = .ok (.invokevirtual 195, 3) := by decide +kernel
theorem dX10_readAny_167 : decode cX10_readAny 167 = .ok (.iconst 1, 1) := by decide +kernel
theorem dX10_readAny_168 : decode cX10_readAny 168 = .ok (.istore_n 2, 1) := by decide +kernel
theorem dX10_readAny_169 : decode cX10_readAny 169 = .ok (.goto (-160), 3) := by decide +kernel
theorem dX10_readAny_172 : decode cX10_readAny 172 = .ok (.aload_n 0, 1) := by decide +kernel
theorem dX10_readAny_173 : decode cX10_readAny 173 = .ok (.bipush 10, 2) := by decide +kernel
theorem dX10_readAny_175 : decode cX10_readAny 175 = .ok (.invokevirtual 225, 3) := by decide +kernel
theorem dX10_readAny_178 : decode cX10_readAny 178 = .ok (.aload_n 0, 1) := by decide +kernel
theorem dX10_readAny_179 : decode cX10_readAny 179 = .ok (.bipush 11, 2) := by decide +kernel
theorem dX10_readAny_181 : decode cX10_readAny 181 = .ok (.invokevirtual 225, 3) := by decide +kernel
theorem dX10_readAny_184 : decode cX10_readAny 184 = .ok (.iload_n 1, 1) := by decide +kernel
theorem dX10_readAny_185 : decode cX10_readAny 185 = .ok (.ifCond .ne 5, 3) := by decide +kernel
theorem dX10_readAny_188 : decode cX10_readAny 188 = .ok (.iconst 0, 1) := by decide +kernel
theorem dX10_readAny_189 : decode cX10_readAny 189 = .ok (.ireturn, 1) := by decide +kernel
theorem dX10_readAny_190 : decode cX10_readAny 190 = .ok (.aload_n 0, 1) := by decide +kernel
theorem dX10_readAny_191 : decode cX10_readAny 191 = .ok (.bipush 41, 2) := by decide +kernel
theorem dX10_readAny_193 : decode cX10_readAny 193 = .ok (.invokevirtual 201, 3) := by decide +kernel
theorem dX10_readAny_196 : decode cX10_readAny 196 = .ok (.ifCond .ne 9, 3) := by decide +kernel
theorem dX10_readAny_199 : decode cX10_readAny 199 = .ok (.aload_n 0, 1) := by decide +kernel
theorem dX10_readAny_200 : decode cX10_readAny 200 = .ok (.iconst 1, 1) := by decide +kernel
theorem dX10_readAny_201 : decode cX10_readAny 201 = .ok (.invokevirtual 188, 3) := by decide +kernel
theorem dX10_readAny_204 : decode cX10_readAny 204 = .ok (.ireturn, 1) := by decide +kernel
theorem dX10_readAny_205 : decode cX10_readAny 205 = .ok (.aload_n 0, 1) := by decide +kernel
theorem dX10_readAny_206 : decode cX10_readAny 206 = .ok (.aload_n 0, 1) := by decide +kernel
theorem dX10_readAny_207 : decode cX10_readAny 207 = .ok (.getfield 210, 3) := by decide +kernel
theorem dX10_readAny_210 : decode cX10_readAny 210 = .ok (.iconst 1, 1) := by decide +kernel
theorem dX10_readAny_211 : decode cX10_readAny 211 = .ok (.isub, 1) := by decide +kernel
theorem dX10_readAny_212 : decode cX10_readAny 212 = .ok (.putfield 210, 3) := by decide +kernel
theorem dX10_readAny_215 : decode cX10_readAny 215 = .ok (.iload_n 1, 1) := by decide +kernel
theorem dX10_readAny_216 : decode cX10_readAny 216 = .ok (.iconst 1, 1) := by decide +kernel
theorem dX10_readAny_217 : decode cX10_readAny 217 = .ok (.isub, 1) := by decide +kernel
theorem dX10_readAny_218 : decode cX10_readAny 218 = .ok (.istore_n 1, 1) := by decide +kernel
theorem dX10_readAny_219 : decode cX10_readAny 219 = .ok (.aload_n 0, 1) := by decide +kernel
theorem dX10_readAny_220 : decode cX10_readAny 220 = .ok (.aload_n 0, 1) := by decide +kernel
theorem dX10_readAny_221 : decode cX10_readAny 221 = .ok (.getfield 213, 3) := by decide +kernel
theorem dX10_readAny_224 : decode cX10_readAny 224 = .ok (.iconst 1, 1) := by decide +kernel
theorem dX10_readAny_225 : decode cX10_readAny 225 = .ok (.isub, 1) := by decide +kernel
theorem dX10_readAny_226 : decode cX10_readAny 226 = .ok (.putfield 213, 3) := by decide +kernel
theorem dX10_readAny_229 : decode cX10_readAny 229 = .ok (.aload_n 0, 1) := by decide +kernel
theorem dX10_readAny_230 : decode cX10_readAny 230 = .ok (.bipush 9, 2) := by decide +kernel
theorem dX10_readAny_232 : decode cX10_readAny 232 = .ok (.invokevirtual 225, 3) := by decide +kernel
theorem dX10_readAny_235 : decode cX10_readAny 235 = .ok (.aload_n 0, 1) := by decide +kernel
theorem dX10_readAny_236 : decode cX10_readAny 236 = .ok (.invokevirtual 195, 3) := by decide +kernel
theorem dX10_readAny_239 : decode cX10_readAny 239 = .ok (.goto (-230), 3) := by decide +kernel
def M_readAny (s : ST) : Option (Int32 × ST) := Lt (ups s 0 29 (0 : Int32)) fun s1 => lpK3 (C := Int32 × ST) (fun (rec1 : Int32 → Int32 → ST → Option (Int32 × ST)) (a1 : Int32) (a2 : Int32) (s2 : ST) => if a2 = 0 then (Lt (M_isWord s2 (4 : Int32)) fun y1 => if y1 = 0 then (Lt (M_isWord s2 (3 : Int32)) fun y2 => if y2 = 0 then (Bd (M_settles s2 (10 : Int32)) fun s3 => Bd (M_settles s3 (11 : Int32)) fun s4 => if a1 = 0 then (some ((0 : Int32), s4)) else (Lt (M_isSign s4 (41 : Int32)) fun y3 => if y3 = 0 then (Lt (M_errs s4 (1 : Int32)) fun y5 => some (y5.1, y5.2)) else (Lt (ups s4 0 29 ((s4.1 0 29) - (1 : Int32))) fun s5 => Lt ((a1 - (1 : Int32))) fun y4 => Lt (ups s5 0 27 ((s5.1 0 27) - (1 : Int32))) fun s6 => Bd (M_settles s6 (9 : Int32)) fun s7 => Bd (M_reads s7) fun s8 => rec1 y4 a2 s8))) else (Bd (M_settles s2 (10 : Int32)) fun s9 => Bd (M_settles s9 (11 : Int32)) fun s10 => Bd (M_waits s10 (11 : Int32)) fun s11 => Bd (M_reads s11) fun s12 => rec1 a1 (1 : Int32) s12)) else (Bd (M_settles s2 (10 : Int32)) fun s13 => Bd (M_waits s13 (10 : Int32)) fun s14 => Bd (M_reads s14) fun s15 => rec1 a1 (1 : Int32) s15)) else (Lt (M_isWord s2 (5 : Int32)) fun y6 => Lt (if (s2.1 0 27) = (8 : Int32) then (Lt (M_errs s2 (3 : Int32)) fun y8 => some (y8.1, y8.2)) else (Lt (ups s2 0 27 ((s2.1 0 27) + (1 : Int32))) fun s16 => Lt (fun (a3 : Int32) => (Lt (fun (a4 : Int32) => (Bd (M_waits s16 a4) fun s17 => Bd (M_reads s17) fun s18 => rec1 a3 a2 s18 : Option (Int32 × ST))) fun j3 => if y6 = 0 then (j3 (12 : Int32)) else (j3 (9 : Int32)) : Option (Int32 × ST))) fun j2 => if y6 = 0 then (Lt ((a1 + (1 : Int32))) fun y7 => j2 y7) else (j2 a1)) : Option (Int32 × ST)) fun j1 => if y6 = 0 then (Lt (M_isSign s2 (40 : Int32)) fun y9 => if y9 = 0 then (Bd (M_readCompared s2) fun y10 => if y10.1 = (-1 : Int32) then (some ((-1 : Int32), y10.2)) else (Bd (M_settles y10.2 (9 : Int32)) fun s19 => rec1 a1 (0 : Int32) s19)) else (j1)) else (j1))) FU (0 : Int32) (1 : Int32) s1
set_option maxRecDepth 100000 in
set_option maxHeartbeats 4000000 in
theorem k_readAny (l : Launch) (D : va_G) (cA : ClassId) (h : Nat → Nat) (s : ST) {o : Int32 × ST} (hs : M_readAny s = some o) : MI l (KM D cA h) 8 yX10_readAny cX10_readAny 4 (some .int) s [.ref (h 0)] o.1 o.2 := by
  refine met_i (by decide) (Nat.le_of_ble_eq_true rfl) ?_
  intro p e st m args below meth c Q X RI
  unfold M_readAny at hs
  refine g_iconst X dX10_readAny_0 (q := 1) rfl li_i0 ?_
  refine g_istore_n X dX10_readAny_1 (q := 2) rfl (Nat.le_of_ble_eq_true rfl) (lv' := [(1, .int (0 : Int32)), (0, .ref (h 0))]) rfl ?_
  refine g_aload_n X dX10_readAny_2 (q := 3) rfl 1 rfl ?_
  refine g_iconst X dX10_readAny_3 (q := 4) rfl li_i0 ?_
  refine mp_29 X dX10_readAny_4 (q := 7) rfl hs (fun s1 hs => ?_)
  refine g_iconst X dX10_readAny_7 (q := 8) rfl li_i1 ?_
  refine g_istore_n X dX10_readAny_8 (q := 9) rfl (Nat.le_of_ble_eq_true rfl) (lv' := [(2, .int (1 : Int32)), (1, .int (0 : Int32)), (0, .ref (h 0))]) rfl ?_
  refine wg_sub [2, 1, 0] rfl (lpW3 (fun (a1 : Int32) (a2 : Int32) (s2 : ST) => WG (KM D cA h) p l e (rmD 8) st m args below meth c Q 4 s2 9 [(0, .ref (h 0)), (1, .int a1), (2, .int a2)] []) (fun rec1 ih1 a1 a2 s2 hs => ?_) _ _ _ _ hs)
  refine g_iload_n X dX10_readAny_9 (q := 10) rfl 2 rfl ?_
  refine g_if_eq X dX10_readAny_10 (q := 13) rfl (tgt := 108) (by decide) hs ?_ ?_
  · intro hs
    refine g_aload_n X dX10_readAny_108 (q := 109) rfl 0 rfl ?_
    refine g_iconst X dX10_readAny_109 (q := 110) rfl li_i4 ?_
    refine v_isWord X dX10_readAny_110 (q := 113) rfl (Nat.le_of_ble_eq_true rfl) (Nat.le_of_ble_eq_true rfl) (Nat.le_of_ble_eq_true rfl) hs (fun y1 hs => ?_)
    refine g_if_eq X dX10_readAny_113 (q := 116) rfl (tgt := 137) (by decide) hs ?_ ?_
    · intro hs
      refine g_aload_n X dX10_readAny_137 (q := 138) rfl 0 rfl ?_
      refine g_iconst X dX10_readAny_138 (q := 139) rfl li_i3 ?_
      refine v_isWord X dX10_readAny_139 (q := 142) rfl (Nat.le_of_ble_eq_true rfl) (Nat.le_of_ble_eq_true rfl) (Nat.le_of_ble_eq_true rfl) hs (fun y2 hs => ?_)
      refine g_if_eq X dX10_readAny_142 (q := 145) rfl (tgt := 172) (by decide) hs ?_ ?_
      · intro hs
        refine g_aload_n X dX10_readAny_172 (q := 173) rfl 0 rfl ?_
        refine g_bipush X dX10_readAny_173 (q := 175) rfl li_b10 ?_
        refine v_settles X dX10_readAny_175 (q := 178) rfl (Nat.le_of_ble_eq_true rfl) (Nat.le_of_ble_eq_true rfl) (Nat.le_of_ble_eq_true rfl) hs (fun s3 hs => ?_)
        refine g_aload_n X dX10_readAny_178 (q := 179) rfl 0 rfl ?_
        refine g_bipush X dX10_readAny_179 (q := 181) rfl li_b11 ?_
        refine v_settles X dX10_readAny_181 (q := 184) rfl (Nat.le_of_ble_eq_true rfl) (Nat.le_of_ble_eq_true rfl) (Nat.le_of_ble_eq_true rfl) hs (fun s4 hs => ?_)
        refine g_iload_n X dX10_readAny_184 (q := 185) rfl 1 rfl ?_
        refine g_if_ne X dX10_readAny_185 (q := 188) rfl (tgt := 190) (by decide) hs ?_ ?_
        · intro hs
          refine g_aload_n X dX10_readAny_190 (q := 191) rfl 0 rfl ?_
          refine g_bipush X dX10_readAny_191 (q := 193) rfl li_b41 ?_
          refine v_isSign X dX10_readAny_193 (q := 196) rfl (Nat.le_of_ble_eq_true rfl) (Nat.le_of_ble_eq_true rfl) (Nat.le_of_ble_eq_true rfl) hs (fun y3 hs => ?_)
          refine g_if_ne X dX10_readAny_196 (q := 199) rfl (tgt := 205) (by decide) hs ?_ ?_
          · intro hs
            refine g_aload_n X dX10_readAny_205 (q := 206) rfl 0 rfl ?_
            refine g_aload_n X dX10_readAny_206 (q := 207) rfl 0 rfl ?_
            refine mg_29 X dX10_readAny_207 (q := 210) rfl ?_
            refine g_iconst X dX10_readAny_210 (q := 211) rfl li_i1 ?_
            refine g_isub X dX10_readAny_211 (q := 212) rfl ?_
            refine mp_29 X dX10_readAny_212 (q := 215) rfl hs (fun s5 hs => ?_)
            refine g_iload_n X dX10_readAny_215 (q := 216) rfl 1 rfl ?_
            refine g_iconst X dX10_readAny_216 (q := 217) rfl li_i1 ?_
            refine g_isub X dX10_readAny_217 (q := 218) rfl ?_
            refine nmI hs (fun y4 hs => ?_)
            refine g_istore_n X dX10_readAny_218 (q := 219) rfl (Nat.le_of_ble_eq_true rfl) (lv' := [(1, .int y4), (0, .ref (h 0)), (2, .int a2)]) rfl ?_
            refine g_aload_n X dX10_readAny_219 (q := 220) rfl 1 rfl ?_
            refine g_aload_n X dX10_readAny_220 (q := 221) rfl 1 rfl ?_
            refine mg_27 X dX10_readAny_221 (q := 224) rfl ?_
            refine g_iconst X dX10_readAny_224 (q := 225) rfl li_i1 ?_
            refine g_isub X dX10_readAny_225 (q := 226) rfl ?_
            refine mp_27 X dX10_readAny_226 (q := 229) rfl hs (fun s6 hs => ?_)
            refine g_aload_n X dX10_readAny_229 (q := 230) rfl 1 rfl ?_
            refine g_bipush X dX10_readAny_230 (q := 232) rfl li_b9 ?_
            refine v_settles X dX10_readAny_232 (q := 235) rfl (Nat.le_of_ble_eq_true rfl) (Nat.le_of_ble_eq_true rfl) (Nat.le_of_ble_eq_true rfl) hs (fun s7 hs => ?_)
            refine g_aload_n X dX10_readAny_235 (q := 236) rfl 1 rfl ?_
            refine v_reads X dX10_readAny_236 (q := 239) rfl (Nat.le_of_ble_eq_true rfl) (Nat.le_of_ble_eq_true rfl) (Nat.le_of_ble_eq_true rfl) hs (fun s8 hs => ?_)
            refine g_goto X dX10_readAny_239 (tgt := 9) (by decide) ?_
            exact wg_sub [1, 0, 2] rfl (ih1 _ _ _ hs)
          · intro hs
            refine g_aload_n X dX10_readAny_199 (q := 200) rfl 0 rfl ?_
            refine g_iconst X dX10_readAny_200 (q := 201) rfl li_i1 ?_
            refine v_errs X dX10_readAny_201 (q := 204) rfl (Nat.le_of_ble_eq_true rfl) (Nat.le_of_ble_eq_true rfl) (Nat.le_of_ble_eq_true rfl) hs (fun y5 hs => ?_)
            exact RI _ 204 _ _ _ (rU1 hs) rfl (rV1 hs) dX10_readAny_204
        · intro hs
          refine g_iconst X dX10_readAny_188 (q := 189) rfl li_i0 ?_
          exact RI _ 189 _ _ _ (rU1 hs) rfl (rV1 hs) dX10_readAny_189
      · intro hs
        refine g_aload_n X dX10_readAny_145 (q := 146) rfl 0 rfl ?_
        refine g_bipush X dX10_readAny_146 (q := 148) rfl li_b10 ?_
        refine v_settles X dX10_readAny_148 (q := 151) rfl (Nat.le_of_ble_eq_true rfl) (Nat.le_of_ble_eq_true rfl) (Nat.le_of_ble_eq_true rfl) hs (fun s9 hs => ?_)
        refine g_aload_n X dX10_readAny_151 (q := 152) rfl 0 rfl ?_
        refine g_bipush X dX10_readAny_152 (q := 154) rfl li_b11 ?_
        refine v_settles X dX10_readAny_154 (q := 157) rfl (Nat.le_of_ble_eq_true rfl) (Nat.le_of_ble_eq_true rfl) (Nat.le_of_ble_eq_true rfl) hs (fun s10 hs => ?_)
        refine g_aload_n X dX10_readAny_157 (q := 158) rfl 0 rfl ?_
        refine g_bipush X dX10_readAny_158 (q := 160) rfl li_b11 ?_
        refine v_waits X dX10_readAny_160 (q := 163) rfl (Nat.le_of_ble_eq_true rfl) (Nat.le_of_ble_eq_true rfl) (Nat.le_of_ble_eq_true rfl) hs (fun s11 hs => ?_)
        refine g_aload_n X dX10_readAny_163 (q := 164) rfl 0 rfl ?_
        refine v_reads X dX10_readAny_164 (q := 167) rfl (Nat.le_of_ble_eq_true rfl) (Nat.le_of_ble_eq_true rfl) (Nat.le_of_ble_eq_true rfl) hs (fun s12 hs => ?_)
        refine g_iconst X dX10_readAny_167 (q := 168) rfl li_i1 ?_
        refine g_istore_n X dX10_readAny_168 (q := 169) rfl (Nat.le_of_ble_eq_true rfl) (lv' := [(2, .int (1 : Int32)), (0, .ref (h 0)), (1, .int a1)]) rfl ?_
        refine g_goto X dX10_readAny_169 (tgt := 9) (by decide) ?_
        exact wg_sub [1, 2, 0] rfl (ih1 _ _ _ hs)
    · intro hs
      refine g_aload_n X dX10_readAny_116 (q := 117) rfl 0 rfl ?_
      refine g_bipush X dX10_readAny_117 (q := 119) rfl li_b10 ?_
      refine v_settles X dX10_readAny_119 (q := 122) rfl (Nat.le_of_ble_eq_true rfl) (Nat.le_of_ble_eq_true rfl) (Nat.le_of_ble_eq_true rfl) hs (fun s13 hs => ?_)
      refine g_aload_n X dX10_readAny_122 (q := 123) rfl 0 rfl ?_
      refine g_bipush X dX10_readAny_123 (q := 125) rfl li_b10 ?_
      refine v_waits X dX10_readAny_125 (q := 128) rfl (Nat.le_of_ble_eq_true rfl) (Nat.le_of_ble_eq_true rfl) (Nat.le_of_ble_eq_true rfl) hs (fun s14 hs => ?_)
      refine g_aload_n X dX10_readAny_128 (q := 129) rfl 0 rfl ?_
      refine v_reads X dX10_readAny_129 (q := 132) rfl (Nat.le_of_ble_eq_true rfl) (Nat.le_of_ble_eq_true rfl) (Nat.le_of_ble_eq_true rfl) hs (fun s15 hs => ?_)
      refine g_iconst X dX10_readAny_132 (q := 133) rfl li_i1 ?_
      refine g_istore_n X dX10_readAny_133 (q := 134) rfl (Nat.le_of_ble_eq_true rfl) (lv' := [(2, .int (1 : Int32)), (0, .ref (h 0)), (1, .int a1)]) rfl ?_
      refine g_goto X dX10_readAny_134 (tgt := 9) (by decide) ?_
      exact wg_sub [1, 2, 0] rfl (ih1 _ _ _ hs)
  · intro hs
    refine g_aload_n X dX10_readAny_13 (q := 14) rfl 0 rfl ?_
    refine g_iconst X dX10_readAny_14 (q := 15) rfl li_i5 ?_
    refine v_isWord X dX10_readAny_15 (q := 18) rfl (Nat.le_of_ble_eq_true rfl) (Nat.le_of_ble_eq_true rfl) (Nat.le_of_ble_eq_true rfl) hs (fun y6 hs => ?_)
    refine g_istore_n X dX10_readAny_18 (q := 19) rfl (Nat.le_of_ble_eq_true rfl) (lv' := [(3, .int y6), (0, .ref (h 0)), (1, .int a1), (2, .int a2)]) rfl ?_
    refine g_iload_n X dX10_readAny_19 (q := 20) rfl 0 rfl ?_
    refine jnW0 (WG (KM D cA h) p l e (rmD 8) st m args below meth c Q 4 s2 32 [(0, .ref (h 0)), (1, .int a1), (2, .int a2), (3, .int y6)] []) hs (fun  hs => ?_) (fun j1 ih2 hs => ?_)
    · refine g_aload_n X dX10_readAny_32 (q := 33) rfl 0 rfl ?_
      refine mg_27 X dX10_readAny_33 (q := 36) rfl ?_
      refine g_bipush X dX10_readAny_36 (q := 38) rfl li_b8 ?_
      refine g_icmp_ne X dX10_readAny_38 (q := 41) rfl (tgt := 47) (by decide) hs ?_ ?_
      · intro hs
        refine g_aload_n X dX10_readAny_47 (q := 48) rfl 0 rfl ?_
        refine g_aload_n X dX10_readAny_48 (q := 49) rfl 0 rfl ?_
        refine mg_27 X dX10_readAny_49 (q := 52) rfl ?_
        refine g_iconst X dX10_readAny_52 (q := 53) rfl li_i1 ?_
        refine g_iadd X dX10_readAny_53 (q := 54) rfl ?_
        refine mp_27 X dX10_readAny_54 (q := 57) rfl hs (fun s16 hs => ?_)
        refine g_iload_n X dX10_readAny_57 (q := 58) rfl 3 rfl ?_
        refine jnW1 (fun (a3 : Int32) => WG (KM D cA h) p l e (rmD 8) st m args below meth c Q 4 s16 65 [(0, .ref (h 0)), (1, .int a3), (2, .int a2), (3, .int y6)] []) hs (fun a3 hs => ?_) (fun j2 ih3 hs => ?_)
        · refine g_aload_n X dX10_readAny_65 (q := 66) rfl 0 rfl ?_
          refine g_iload_n X dX10_readAny_66 (q := 67) rfl 3 rfl ?_
          refine jnW1 (fun (a4 : Int32) => WG (KM D cA h) p l e (rmD 8) st m args below meth c Q 4 s16 77 [(0, .ref (h 0)), (1, .int a3), (2, .int a2)] [.int a4, .ref (h 0)]) hs (fun a4 hs => ?_) (fun j3 ih4 hs => ?_)
          · refine v_waits X dX10_readAny_77 (q := 80) rfl (Nat.le_of_ble_eq_true rfl) (Nat.le_of_ble_eq_true rfl) (Nat.le_of_ble_eq_true rfl) hs (fun s17 hs => ?_)
            refine g_aload_n X dX10_readAny_80 (q := 81) rfl 0 rfl ?_
            refine v_reads X dX10_readAny_81 (q := 84) rfl (Nat.le_of_ble_eq_true rfl) (Nat.le_of_ble_eq_true rfl) (Nat.le_of_ble_eq_true rfl) hs (fun s18 hs => ?_)
            refine g_goto X dX10_readAny_84 (tgt := 9) (by decide) ?_
            exact wg_sub [0, 1, 2] rfl (ih1 _ _ _ hs)
          refine g_if_eq X dX10_readAny_67 (q := 70) rfl (tgt := 75) (by decide) hs ?_ ?_
          · intro hs
            refine g_bipush X dX10_readAny_75 (q := 77) rfl li_b12 ?_
            exact wg_sub [0, 1, 2] rfl (ih4 _ hs)
          · intro hs
            refine g_bipush X dX10_readAny_70 (q := 72) rfl li_b9 ?_
            refine g_goto X dX10_readAny_72 (tgt := 77) (by decide) ?_
            exact wg_sub [0, 1, 2] rfl (ih4 _ hs)
        refine g_if_ne X dX10_readAny_58 (q := 61) rfl (tgt := 65) (by decide) hs ?_ ?_
        · intro hs
          exact wg_sub [0, 1, 2, 3] rfl (ih3 _ hs)
        · intro hs
          refine g_iload_n X dX10_readAny_61 (q := 62) rfl 1 rfl ?_
          refine g_iconst X dX10_readAny_62 (q := 63) rfl li_i1 ?_
          refine g_iadd X dX10_readAny_63 (q := 64) rfl ?_
          refine nmI hs (fun y7 hs => ?_)
          refine g_istore_n X dX10_readAny_64 (q := 65) rfl (Nat.le_of_ble_eq_true rfl) (lv' := [(1, .int y7), (0, .ref (h 0)), (2, .int a2), (3, .int y6)]) rfl ?_
          exact wg_sub [1, 0, 2, 3] rfl (ih3 _ hs)
      · intro hs
        refine g_aload_n X dX10_readAny_41 (q := 42) rfl 0 rfl ?_
        refine g_iconst X dX10_readAny_42 (q := 43) rfl li_i3 ?_
        refine v_errs X dX10_readAny_43 (q := 46) rfl (Nat.le_of_ble_eq_true rfl) (Nat.le_of_ble_eq_true rfl) (Nat.le_of_ble_eq_true rfl) hs (fun y8 hs => ?_)
        exact RI _ 46 _ _ _ (rU1 hs) rfl (rV1 hs) dX10_readAny_46
    refine g_if_ne X dX10_readAny_20 (q := 23) rfl (tgt := 32) (by decide) hs ?_ ?_
    · intro hs
      exact wg_sub [1, 2, 3, 0] rfl (ih2 hs)
    · intro hs
      refine g_aload_n X dX10_readAny_23 (q := 24) rfl 1 rfl ?_
      refine g_bipush X dX10_readAny_24 (q := 26) rfl li_b40 ?_
      refine v_isSign X dX10_readAny_26 (q := 29) rfl (Nat.le_of_ble_eq_true rfl) (Nat.le_of_ble_eq_true rfl) (Nat.le_of_ble_eq_true rfl) hs (fun y9 hs => ?_)
      refine g_if_eq X dX10_readAny_29 (q := 32) rfl (tgt := 87) (by decide) hs ?_ ?_
      · intro hs
        refine g_aload_n X dX10_readAny_87 (q := 88) rfl 1 rfl ?_
        refine v_readCompared X dX10_readAny_88 (q := 91) rfl (Nat.le_of_ble_eq_true rfl) (Nat.le_of_ble_eq_true rfl) (Nat.le_of_ble_eq_true rfl) hs (fun y10 hs => ?_)
        refine g_iconst X dX10_readAny_91 (q := 92) rfl li_im1 ?_
        refine g_icmp_ne X dX10_readAny_92 (q := 95) rfl (tgt := 97) (by decide) hs ?_ ?_
        · intro hs
          refine g_aload_n X dX10_readAny_97 (q := 98) rfl 1 rfl ?_
          refine g_bipush X dX10_readAny_98 (q := 100) rfl li_b9 ?_
          refine v_settles X dX10_readAny_100 (q := 103) rfl (Nat.le_of_ble_eq_true rfl) (Nat.le_of_ble_eq_true rfl) (Nat.le_of_ble_eq_true rfl) hs (fun s19 hs => ?_)
          refine g_iconst X dX10_readAny_103 (q := 104) rfl li_i0 ?_
          refine g_istore_n X dX10_readAny_104 (q := 105) rfl (Nat.le_of_ble_eq_true rfl) (lv' := [(2, .int (0 : Int32)), (3, .int y6), (0, .ref (h 0)), (1, .int a1)]) rfl ?_
          refine g_goto X dX10_readAny_105 (tgt := 9) (by decide) ?_
          exact wg_sub [2, 3, 0] rfl (ih1 _ _ _ hs)
        · intro hs
          refine g_iconst X dX10_readAny_95 (q := 96) rfl li_im1 ?_
          exact RI _ 96 _ _ _ (rU1 hs) rfl (rV1 hs) dX10_readAny_96
      · intro hs
        exact wg_sub [1, 2, 3, 0] rfl (ih2 hs)
theorem v_readAny {p : Program} {l : Launch} {e : Env} {st : State} {m : MethodId} {args : Array Value} {below : List Frame} {meth : Method} {c : Code} {Q : State → Prop} {nL : Nat} {cc : ByteArray} {s : ST} {pc q : Nat} {lv : List (Nat × Value)} {rest : List Value} {D : va_G} {cA : ClassId} {h : Nat → Nat} {d0 : Nat} (X : Cx (KM D cA h) p st m args meth c cc nL RX10) (d : decode cc pc = .ok (.invokevirtual 232, 3)) (hq : pc + 3 = q) (hd1 : 8 + 1 ≤ d0) (hd2 : 8 + (4 + 11) + 100 * 8 ≤ 100 * d0) (hr : (rest.map fun v => v.category).sum ≤ 8) {B : Type} {f : Int32 × ST → Option B} {r : B} (hs : Bd (M_readAny s) f = some r) (k : ∀ y, f y = some r → WG (KM D cA h) p l e (rmD d0) st m args below meth c Q nL y.2 q lv (.int y.1 :: rest)) : WG (KM D cA h) p l e (rmD d0) st m args below meth c Q nL s pc lv (.ref (h 0) :: rest) := by
  obtain ⟨v, hv, hs⟩ := Bd_e hs
  exact cV_I X 0 (n := 0) (k_readAny l D cA h s hv) gv_X10_readAny ⟨hd1, hd2⟩ ⟨by decide, by decide, by decide +kernel⟩ (As := []) rfl hr (Nat.le_of_ble_eq_true rfl) (fs := mF h (s.1 0)) rfl rfl rfl d hq (k _ hs)
theorem dX10_isLineWord_0 : decode cX10_isLineWord 0 = .ok (.aload_n 0, 1) := by decide +kernel
theorem dX10_isLineWord_1 : decode cX10_isLineWord 1 = .ok (.iconst 0, 1) := by decide +kernel
theorem dX10_isLineWord_2 : decode cX10_isLineWord 2 = .ok (.invokevirtual 216, 3) := by decide +kernel
theorem dX10_isLineWord_5 : decode cX10_isLineWord 5 = .ok (.ifCond .ne 11, 3) := by decide +kernel
theorem dX10_isLineWord_8 : decode cX10_isLineWord 8 = .ok (.aload_n 0, 1) := by decide +kernel
theorem dX10_isLineWord_9 : decode cX10_isLineWord 9 = .ok (.iconst 1, 1) := by decide +kernel
theorem dX10_isLineWord_10 : decode cX10_isLineWord 10 = .ok (.invokevirtual 216, 3) := by decide +kernel
theorem dX10_isLineWord_13 : decode cX10_isLineWord 13 = .ok (.ifCond .eq 7, 3) := by decide +kernel
theorem dX10_isLineWord_16 : decode cX10_isLineWord 16 = .ok (.iconst 1, 1) := by decide +kernel
theorem dX10_isLineWord_17 : decode cX10_isLineWord 17 = .ok (.goto 4, 3) := by decide +kernel
theorem dX10_isLineWord_20 : decode cX10_isLineWord 20 = .ok (.iconst 0, 1) := by decide +kernel
theorem dX10_isLineWord_21 : decode cX10_isLineWord 21 = .ok (.ireturn, 1) := by decide +kernel
def M_isLineWord (s : ST) : Int32 := Lt (M_isWord s (0 : Int32)) fun y1 => Lt ((1 : Int32) : Int32) fun j1 => if y1 = 0 then (Lt (M_isWord s (1 : Int32)) fun y2 => if y2 = 0 then ((0 : Int32)) else (j1)) else (j1)
set_option maxRecDepth 100000 in
set_option maxHeartbeats 4000000 in
theorem k_isLineWord (l : Launch) (D : va_G) (cA : ClassId) (h : Nat → Nat) (s : ST) : MI l (KM D cA h) 2 yX10_isLineWord cX10_isLineWord 1 (some .boolean) s [.ref (h 0)] (M_isLineWord s) s := by
  refine met_i (by decide) (Nat.le_of_ble_eq_true rfl) ?_
  intro p e st m args below meth c Q X RI
  generalize hs : M_isLineWord s = o at RI
  unfold M_isLineWord at hs
  refine g_aload_n X dX10_isLineWord_0 (q := 1) rfl 0 rfl ?_
  refine g_iconst X dX10_isLineWord_1 (q := 2) rfl li_i0 ?_
  refine v_isWord X dX10_isLineWord_2 (q := 5) rfl (Nat.le_of_ble_eq_true rfl) (Nat.le_of_ble_eq_true rfl) (Nat.le_of_ble_eq_true rfl) hs (fun y1 hs => ?_)
  refine jnW0 (WG (KM D cA h) p l e (rmD 2) st m args below meth c Q 1 s 16 [] []) hs (fun  hs => ?_) (fun j1 ih1 hs => ?_)
  · refine g_iconst X dX10_isLineWord_16 (q := 17) rfl li_i1 ?_
    refine g_goto X dX10_isLineWord_17 (tgt := 21) (by decide) ?_
    exact RI _ 21 _ _ _ rfl rfl hs dX10_isLineWord_21
  refine g_if_ne X dX10_isLineWord_5 (q := 8) rfl (tgt := 16) (by decide) hs ?_ ?_
  · intro hs
    exact wg_sub [] rfl (ih1 hs)
  · intro hs
    refine g_aload_n X dX10_isLineWord_8 (q := 9) rfl 0 rfl ?_
    refine g_iconst X dX10_isLineWord_9 (q := 10) rfl li_i1 ?_
    refine v_isWord X dX10_isLineWord_10 (q := 13) rfl (Nat.le_of_ble_eq_true rfl) (Nat.le_of_ble_eq_true rfl) (Nat.le_of_ble_eq_true rfl) hs (fun y2 hs => ?_)
    refine g_if_eq X dX10_isLineWord_13 (q := 16) rfl (tgt := 20) (by decide) hs ?_ ?_
    · intro hs
      refine g_iconst X dX10_isLineWord_20 (q := 21) rfl li_i0 ?_
      exact RI _ 21 _ _ _ rfl rfl hs dX10_isLineWord_21
    · intro hs
      exact wg_sub [] rfl (ih1 hs)
theorem v_isLineWord {p : Program} {l : Launch} {e : Env} {st : State} {m : MethodId} {args : Array Value} {below : List Frame} {meth : Method} {c : Code} {Q : State → Prop} {nL : Nat} {cc : ByteArray} {s : ST} {pc q : Nat} {lv : List (Nat × Value)} {rest : List Value} {D : va_G} {cA : ClassId} {h : Nat → Nat} {d0 : Nat} (X : Cx (KM D cA h) p st m args meth c cc nL RX10) (d : decode cc pc = .ok (.invokevirtual 228, 3)) (hq : pc + 3 = q) (hd1 : 2 + 1 ≤ d0) (hd2 : 8 + (1 + 11) + 100 * 2 ≤ 100 * d0) (hr : (rest.map fun v => v.category).sum ≤ 8) {B : Type} {f : Int32 → B} {r : B} (hs : Lt (M_isLineWord s) f = r) (k : ∀ y, f y = r → WG (KM D cA h) p l e (rmD d0) st m args below meth c Q nL s q lv (.int y :: rest)) : WG (KM D cA h) p l e (rmD d0) st m args below meth c Q nL s pc lv (.ref (h 0) :: rest) := by
  exact cV_I X 0 (n := 0) (k_isLineWord l D cA h s) gv_X10_isLineWord ⟨hd1, hd2⟩ ⟨by decide, by decide, by decide +kernel⟩ (As := []) rfl hr (Nat.le_of_ble_eq_true rfl) (fs := mF h (s.1 0)) rfl rfl rfl d hq (k _ hs)
theorem dX10_readLaw_0 : decode cX10_readLaw 0 = .ok (.iconst 0, 1) := by decide +kernel
theorem dX10_readLaw_1 : decode cX10_readLaw 1 = .ok (.istore_n 1, 1) := by decide +kernel
theorem dX10_readLaw_2 : decode cX10_readLaw 2 = .ok (.aload_n 0, 1) := by decide +kernel
theorem dX10_readLaw_3 : decode cX10_readLaw 3 = .ok (.invokevirtual 228, 3) := by decide +kernel
theorem dX10_readLaw_6 : decode cX10_readLaw 6 = .ok (.ifCond .eq 122, 3) := by decide +kernel
theorem dX10_readLaw_9 : decode cX10_readLaw 9 = .ok (.iload_n 1, 1) := by decide +kernel
theorem dX10_readLaw_10 : decode cX10_readLaw 10 = .ok (.bipush 16, 2) := by decide +kernel
theorem dX10_readLaw_12 : decode cX10_readLaw 12 = .ok (.if_icmp .ne 9, 3) := by decide +kernel
theorem dX10_readLaw_15 : decode cX10_readLaw 15 = .ok (.aload_n 0, 1) := by decide +kernel
theorem dX10_readLaw_16 : decode cX10_readLaw 16 = .ok (.iconst 3, 1) := by decide +kernel
theorem dX10_readLaw_17 : decode cX10_readLaw 17 = .ok (.invokevirtual 188, 3) := by decide +kernel
theorem dX10_readLaw_20 : decode cX10_readLaw 20 = .ok (.ireturn, 1) := by decide +kernel
theorem dX10_readLaw_21 : decode cX10_readLaw 21 = .ok (.bipush 32, 2) := by decide +kernel
theorem dX10_readLaw_23 : decode cX10_readLaw 23 = .ok (.iload_n 1, 1) := by decide +kernel
theorem dX10_readLaw_24 : decode cX10_readLaw 24 = .ok (.iadd, 1) := by decide +kernel
theorem dX10_readLaw_25 : decode cX10_readLaw 25 = .ok (.istore_n 2, 1) := by decide +kernel
theorem dX10_readLaw_26 : decode cX10_readLaw 26 = .ok (.aload_n 0, 1) := by decide +kernel
theorem dX10_readLaw_27 : decode cX10_readLaw 27 = .ok (.getfield 34, 3) := by decide +kernel
theorem dX10_readLaw_30 : decode cX10_readLaw 30 = .ok (.iload_n 2, 1) := by decide +kernel
theorem dX10_readLaw_31 : decode cX10_readLaw 31 = .ok (.aload_n 0, 1) := by decide +kernel
theorem dX10_readLaw_32 : decode cX10_readLaw 32 = .ok (.getfield 160, 3) := by decide +kernel
theorem dX10_readLaw_35 : decode cX10_readLaw 35 = .ok (.iastore, 1) := by decide +kernel
theorem dX10_readLaw_36 : decode cX10_readLaw 36 = .ok (.aload_n 0, 1) := by decide +kernel
theorem dX10_readLaw_37 : decode cX10_readLaw 37 = .ok (.invokevirtual 195, 3) := by decide +kernel
theorem dX10_readLaw_40 : decode cX10_readLaw 40 = .ok (.aload_n 0, 1) := by decide +kernel
theorem dX10_readLaw_41 : decode cX10_readLaw 41 = .ok (.getfield 37, 3) := by decide +kernel
theorem dX10_readLaw_44 : decode cX10_readLaw 44 = .ok (.iload_n 2, 1) := by decide +kernel
theorem dX10_readLaw_45 : decode cX10_readLaw 45 = .ok (.aload_n 0, 1) := by decide +kernel
theorem dX10_readLaw_46 : decode cX10_readLaw 46 = .ok (.getfield 182, 3) := by decide +kernel
theorem dX10_readLaw_49 : decode cX10_readLaw 49 = .ok (.iastore, 1) := by decide +kernel
theorem dX10_readLaw_50 : decode cX10_readLaw 50 = .ok (.aload_n 0, 1) := by decide +kernel
theorem dX10_readLaw_51 : decode cX10_readLaw 51 = .ok (.invokevirtual 207, 3) := by decide +kernel
theorem dX10_readLaw_54 : decode cX10_readLaw 54 = .ok (.iconst (-1), 1) := by decide +kernel
theorem dX10_readLaw_55 : decode cX10_readLaw 55 = .ok (.if_icmp .ne 5, 3) := by decide +kernel
theorem dX10_readLaw_58 : decode cX10_readLaw 58 = .ok (.iconst (-1), 1) := by decide +kernel
theorem dX10_readLaw_59 : decode cX10_readLaw 59 = .ok (.ireturn, 1) := by decide +kernel
theorem dX10_readLaw_60 : decode cX10_readLaw 60 = .ok (.aload_n 0, 1) := by decide +kernel
theorem dX10_readLaw_61 : decode cX10_readLaw 61 = .ok (.getfield 40, 3) := by decide +kernel
theorem dX10_readLaw_64 : decode cX10_readLaw 64 = .ok (.iload_n 2, 1) := by decide +kernel
theorem dX10_readLaw_65 : decode cX10_readLaw 65 = .ok (.aload_n 0, 1) := by decide +kernel
theorem dX10_readLaw_66 : decode cX10_readLaw 66 = .ok (.getfield 182, 3) := by decide +kernel
theorem dX10_readLaw_69 : decode cX10_readLaw 69 = .ok (.iastore, 1) := by decide +kernel
theorem dX10_readLaw_70 : decode cX10_readLaw 70 = .ok (.aload_n 0, 1) := by decide +kernel
theorem dX10_readLaw_71 : decode cX10_readLaw 71 = .ok (.iconst 2, 1) := by decide +kernel
theorem dX10_readLaw_72 : decode cX10_readLaw 72 = .ok (.invokevirtual 216, 3) := by decide +kernel
theorem dX10_readLaw_75 : decode cX10_readLaw 75 = .ok (.ifCond .eq 17, 3) := by decide +kernel
theorem dX10_readLaw_78 : decode cX10_readLaw 78 = .ok (.aload_n 0, 1) := by decide +kernel
theorem dX10_readLaw_79 : decode cX10_readLaw 79 = .ok (.invokevirtual 195, 3) := by decide +kernel
theorem dX10_readLaw_82 : decode cX10_readLaw 82 = .ok (.aload_n 0, 1) := by decide +kernel
theorem dX10_readLaw_83 : decode cX10_readLaw 83 = .ok (.invokevirtual 232, 3) := by decide +kernel
theorem dX10_readLaw_86 : decode cX10_readLaw 86 = .ok (.iconst (-1), 1) := by decide +kernel
theorem dX10_readLaw_87 : decode cX10_readLaw 87 = .ok (.if_icmp .ne 5, 3) := by decide +kernel
theorem dX10_readLaw_90 : decode cX10_readLaw 90 = .ok (.iconst (-1), 1) := by decide +kernel
theorem dX10_readLaw_91 : decode cX10_readLaw 91 = .ok (.ireturn, 1) := by decide +kernel
theorem dX10_readLaw_92 : decode cX10_readLaw 92 = .ok (.aload_n 0, 1) := by decide +kernel
theorem dX10_readLaw_93 : decode cX10_readLaw 93 = .ok (.getfield 43, 3) := by decide +kernel
theorem dX10_readLaw_96 : decode cX10_readLaw 96 = .ok (.iload_n 2, 1) := by decide +kernel
theorem dX10_readLaw_97 : decode cX10_readLaw 97 = .ok (.aload_n 0, 1) := by decide +kernel
theorem dX10_readLaw_98 : decode cX10_readLaw 98 = .ok (.getfield 182, 3) := by decide +kernel
theorem dX10_readLaw_101 : decode cX10_readLaw 101 = .ok (.iastore, 1) := by decide +kernel
theorem dX10_readLaw_102 : decode cX10_readLaw 102 = .ok (.aload_n 0, 1) := by decide +kernel
theorem dX10_readLaw_103 : decode cX10_readLaw 103 = .ok (.bipush 59, 2) := by decide +kernel
theorem dX10_readLaw_105 : decode cX10_readLaw 105 = .ok (.invokevirtual 201, 3) := by decide +kernel
theorem dX10_readLaw_108 : decode cX10_readLaw 108 = .ok (.ifCond .ne 9, 3) := by decide +kernel
theorem dX10_readLaw_111 : decode cX10_readLaw 111 = .ok (.aload_n 0, 1) := by decide +kernel
theorem dX10_readLaw_112 : decode cX10_readLaw 112 = .ok (.iconst 1, 1) := by decide +kernel
theorem dX10_readLaw_113 : decode cX10_readLaw 113 = .ok (.invokevirtual 188, 3) := by decide +kernel
theorem dX10_readLaw_116 : decode cX10_readLaw 116 = .ok (.ireturn, 1) := by decide +kernel
theorem dX10_readLaw_117 : decode cX10_readLaw 117 = .ok (.aload_n 0, 1) := by decide +kernel
theorem dX10_readLaw_118 : decode cX10_readLaw 118 = .ok (.invokevirtual 195, 3) := by decide +kernel
theorem dX10_readLaw_121 : decode cX10_readLaw 121 = .ok (.iload_n 1, 1) := by decide +kernel
theorem dX10_readLaw_122 : decode cX10_readLaw 122 = .ok (.iconst 1, 1) := by decide +kernel
theorem dX10_readLaw_123 : decode cX10_readLaw 123 = .ok (.iadd, 1) := by decide +kernel
theorem dX10_readLaw_124 : decode cX10_readLaw 124 = .ok (.istore_n 1, 1) := by decide +kernel
theorem dX10_readLaw_125 : decode cX10_readLaw 125 = .ok (.goto (-123), 3) := by decide +kernel
theorem dX10_readLaw_128 : decode cX10_readLaw 128 = .ok (.aload_n 0, 1) := by decide +kernel
theorem dX10_readLaw_129 : decode cX10_readLaw 129 = .ok (.getfield 157, 3) := by decide +kernel
theorem dX10_readLaw_132 : decode cX10_readLaw 132 = .ok (.ifCond .ne 7, 3) := by decide +kernel
theorem dX10_readLaw_135 : decode cX10_readLaw 135 = .ok (.iload_n 1, 1) := by decide +kernel
theorem dX10_readLaw_136 : decode cX10_readLaw 136 = .ok (.goto 8, 3) := by decide +kernel
theorem dX10_readLaw_139 : decode cX10_readLaw 139 = .ok (.aload_n 0, 1) := by decide +kernel
theorem dX10_readLaw_140 : decode cX10_readLaw 140 = .ok (.iconst 1, 1) := by decide +kernel
theorem dX10_readLaw_141 : decode cX10_readLaw 141 = .ok (.invokevirtual 188, 3) := by decide +kernel
theorem dX10_readLaw_144 : decode cX10_readLaw 144 = .ok (.ireturn, 1) := by decide +kernel
def M_readLaw (s : ST) : Option (Int32 × ST) := lpK2 (C := Int32 × ST) (fun (rec1 : Int32 → ST → Option (Int32 × ST)) (a1 : Int32) (s1 : ST) => Lt (M_isLineWord s1) fun y1 => if y1 = 0 then (if (s1.1 0 15) = 0 then (some (a1, s1)) else (Lt (M_errs s1 (1 : Int32)) fun y2 => some (y2.1, y2.2))) else (if a1 = (16 : Int32) then (Lt (M_errs s1 (3 : Int32)) fun y10 => some (y10.1, y10.2)) else (Lt (((32 : Int32) + a1)) fun y3 => Gs s1 9 48 y3 (s1.1 0 16) fun s2 => Bd (M_reads s2) fun s3 => Gs s3 10 48 y3 (s3.1 0 26) fun s4 => Bd (M_readSum s4) fun y4 => if y4.1 = (-1 : Int32) then (some ((-1 : Int32), y4.2)) else (Gs y4.2 11 48 y3 (y4.2.1 0 26) fun s5 => Lt (M_isWord s5 (2 : Int32)) fun y5 => Lt (fun (s6 : ST) => (Gs s6 12 48 y3 (s6.1 0 26) fun s7 => Lt (M_isSign s7 (59 : Int32)) fun y6 => if y6 = 0 then (Lt (M_errs s7 (1 : Int32)) fun y8 => some (y8.1, y8.2)) else (Bd (M_reads s7) fun s8 => Lt ((a1 + (1 : Int32))) fun y7 => rec1 y7 s8) : Option (Int32 × ST))) fun j1 => if y5 = 0 then (j1 s5) else (Bd (M_reads s5) fun s9 => Bd (M_readAny s9) fun y9 => if y9.1 = (-1 : Int32) then (some ((-1 : Int32), y9.2)) else (j1 y9.2)))))) FU (0 : Int32) s
set_option maxRecDepth 100000 in
set_option maxHeartbeats 4000000 in
theorem k_readLaw (l : Launch) (D : va_G) (cA : ClassId) (h : Nat → Nat) (s : ST) {o : Int32 × ST} (hs : M_readLaw s = some o) : MI l (KM D cA h) 9 yX10_readLaw cX10_readLaw 3 (some .int) s [.ref (h 0)] o.1 o.2 := by
  refine met_i (by decide) (Nat.le_of_ble_eq_true rfl) ?_
  intro p e st m args below meth c Q X RI
  unfold M_readLaw at hs
  refine g_iconst X dX10_readLaw_0 (q := 1) rfl li_i0 ?_
  refine g_istore_n X dX10_readLaw_1 (q := 2) rfl (Nat.le_of_ble_eq_true rfl) (lv' := [(1, .int (0 : Int32)), (0, .ref (h 0))]) rfl ?_
  refine wg_sub [1, 0] rfl (lpW2 (fun (a1 : Int32) (s1 : ST) => WG (KM D cA h) p l e (rmD 9) st m args below meth c Q 3 s1 2 [(0, .ref (h 0)), (1, .int a1)] []) (fun rec1 ih1 a1 s1 hs => ?_) _ _ _ hs)
  refine g_aload_n X dX10_readLaw_2 (q := 3) rfl 0 rfl ?_
  refine v_isLineWord X dX10_readLaw_3 (q := 6) rfl (Nat.le_of_ble_eq_true rfl) (Nat.le_of_ble_eq_true rfl) (Nat.le_of_ble_eq_true rfl) hs (fun y1 hs => ?_)
  refine g_if_eq X dX10_readLaw_6 (q := 9) rfl (tgt := 128) (by decide) hs ?_ ?_
  · intro hs
    refine g_aload_n X dX10_readLaw_128 (q := 129) rfl 0 rfl ?_
    refine mg_15 X dX10_readLaw_129 (q := 132) rfl ?_
    refine g_if_ne X dX10_readLaw_132 (q := 135) rfl (tgt := 139) (by decide) hs ?_ ?_
    · intro hs
      refine g_aload_n X dX10_readLaw_139 (q := 140) rfl 0 rfl ?_
      refine g_iconst X dX10_readLaw_140 (q := 141) rfl li_i1 ?_
      refine v_errs X dX10_readLaw_141 (q := 144) rfl (Nat.le_of_ble_eq_true rfl) (Nat.le_of_ble_eq_true rfl) (Nat.le_of_ble_eq_true rfl) hs (fun y2 hs => ?_)
      exact RI _ 144 _ _ _ (rU1 hs) rfl (rV1 hs) dX10_readLaw_144
    · intro hs
      refine g_iload_n X dX10_readLaw_135 (q := 136) rfl 1 rfl ?_
      refine g_goto X dX10_readLaw_136 (tgt := 144) (by decide) ?_
      exact RI _ 144 _ _ _ (rU1 hs) rfl (rV1 hs) dX10_readLaw_144
  · intro hs
    refine g_iload_n X dX10_readLaw_9 (q := 10) rfl 1 rfl ?_
    refine g_bipush X dX10_readLaw_10 (q := 12) rfl li_b16 ?_
    refine g_icmp_ne X dX10_readLaw_12 (q := 15) rfl (tgt := 21) (by decide) hs ?_ ?_
    · intro hs
      refine g_bipush X dX10_readLaw_21 (q := 23) rfl li_b32 ?_
      refine g_iload_n X dX10_readLaw_23 (q := 24) rfl 1 rfl ?_
      refine g_iadd X dX10_readLaw_24 (q := 25) rfl ?_
      refine nmI hs (fun y3 hs => ?_)
      refine g_istore_n X dX10_readLaw_25 (q := 26) rfl (Nat.le_of_ble_eq_true rfl) (lv' := [(2, .int y3), (0, .ref (h 0)), (1, .int a1)]) rfl ?_
      refine g_aload_n X dX10_readLaw_26 (q := 27) rfl 1 rfl ?_
      refine mg_19 X dX10_readLaw_27 (q := 30) rfl ?_
      refine g_iload_n X dX10_readLaw_30 (q := 31) rfl 0 rfl ?_
      refine g_aload_n X dX10_readLaw_31 (q := 32) rfl 1 rfl ?_
      refine mg_16 X dX10_readLaw_32 (q := 35) rfl ?_
      refine ms_9 X dX10_readLaw_35 (q := 36) rfl hs (fun s2 hs => ?_)
      refine g_aload_n X dX10_readLaw_36 (q := 37) rfl 1 rfl ?_
      refine v_reads X dX10_readLaw_37 (q := 40) rfl (Nat.le_of_ble_eq_true rfl) (Nat.le_of_ble_eq_true rfl) (Nat.le_of_ble_eq_true rfl) hs (fun s3 hs => ?_)
      refine g_aload_n X dX10_readLaw_40 (q := 41) rfl 1 rfl ?_
      refine mg_20 X dX10_readLaw_41 (q := 44) rfl ?_
      refine g_iload_n X dX10_readLaw_44 (q := 45) rfl 0 rfl ?_
      refine g_aload_n X dX10_readLaw_45 (q := 46) rfl 1 rfl ?_
      refine mg_26 X dX10_readLaw_46 (q := 49) rfl ?_
      refine ms_10 X dX10_readLaw_49 (q := 50) rfl hs (fun s4 hs => ?_)
      refine g_aload_n X dX10_readLaw_50 (q := 51) rfl 1 rfl ?_
      refine v_readSum X dX10_readLaw_51 (q := 54) rfl (Nat.le_of_ble_eq_true rfl) (Nat.le_of_ble_eq_true rfl) (Nat.le_of_ble_eq_true rfl) hs (fun y4 hs => ?_)
      refine g_iconst X dX10_readLaw_54 (q := 55) rfl li_im1 ?_
      refine g_icmp_ne X dX10_readLaw_55 (q := 58) rfl (tgt := 60) (by decide) hs ?_ ?_
      · intro hs
        refine g_aload_n X dX10_readLaw_60 (q := 61) rfl 1 rfl ?_
        refine mg_21 X dX10_readLaw_61 (q := 64) rfl ?_
        refine g_iload_n X dX10_readLaw_64 (q := 65) rfl 0 rfl ?_
        refine g_aload_n X dX10_readLaw_65 (q := 66) rfl 1 rfl ?_
        refine mg_26 X dX10_readLaw_66 (q := 69) rfl ?_
        refine ms_11 X dX10_readLaw_69 (q := 70) rfl hs (fun s5 hs => ?_)
        refine g_aload_n X dX10_readLaw_70 (q := 71) rfl 1 rfl ?_
        refine g_iconst X dX10_readLaw_71 (q := 72) rfl li_i2 ?_
        refine v_isWord X dX10_readLaw_72 (q := 75) rfl (Nat.le_of_ble_eq_true rfl) (Nat.le_of_ble_eq_true rfl) (Nat.le_of_ble_eq_true rfl) hs (fun y5 hs => ?_)
        refine jnW1 (fun (s6 : ST) => WG (KM D cA h) p l e (rmD 9) st m args below meth c Q 3 s6 92 [(0, .ref (h 0)), (1, .int a1), (2, .int y3)] []) hs (fun s6 hs => ?_) (fun j1 ih2 hs => ?_)
        · refine g_aload_n X dX10_readLaw_92 (q := 93) rfl 0 rfl ?_
          refine mg_22 X dX10_readLaw_93 (q := 96) rfl ?_
          refine g_iload_n X dX10_readLaw_96 (q := 97) rfl 2 rfl ?_
          refine g_aload_n X dX10_readLaw_97 (q := 98) rfl 0 rfl ?_
          refine mg_26 X dX10_readLaw_98 (q := 101) rfl ?_
          refine ms_12 X dX10_readLaw_101 (q := 102) rfl hs (fun s7 hs => ?_)
          refine g_aload_n X dX10_readLaw_102 (q := 103) rfl 0 rfl ?_
          refine g_bipush X dX10_readLaw_103 (q := 105) rfl li_b59 ?_
          refine v_isSign X dX10_readLaw_105 (q := 108) rfl (Nat.le_of_ble_eq_true rfl) (Nat.le_of_ble_eq_true rfl) (Nat.le_of_ble_eq_true rfl) hs (fun y6 hs => ?_)
          refine g_if_ne X dX10_readLaw_108 (q := 111) rfl (tgt := 117) (by decide) hs ?_ ?_
          · intro hs
            refine g_aload_n X dX10_readLaw_117 (q := 118) rfl 0 rfl ?_
            refine v_reads X dX10_readLaw_118 (q := 121) rfl (Nat.le_of_ble_eq_true rfl) (Nat.le_of_ble_eq_true rfl) (Nat.le_of_ble_eq_true rfl) hs (fun s8 hs => ?_)
            refine g_iload_n X dX10_readLaw_121 (q := 122) rfl 1 rfl ?_
            refine g_iconst X dX10_readLaw_122 (q := 123) rfl li_i1 ?_
            refine g_iadd X dX10_readLaw_123 (q := 124) rfl ?_
            refine nmI hs (fun y7 hs => ?_)
            refine g_istore_n X dX10_readLaw_124 (q := 125) rfl (Nat.le_of_ble_eq_true rfl) (lv' := [(1, .int y7), (0, .ref (h 0)), (2, .int y3)]) rfl ?_
            refine g_goto X dX10_readLaw_125 (tgt := 2) (by decide) ?_
            exact wg_sub [1, 0] rfl (ih1 _ _ hs)
          · intro hs
            refine g_aload_n X dX10_readLaw_111 (q := 112) rfl 0 rfl ?_
            refine g_iconst X dX10_readLaw_112 (q := 113) rfl li_i1 ?_
            refine v_errs X dX10_readLaw_113 (q := 116) rfl (Nat.le_of_ble_eq_true rfl) (Nat.le_of_ble_eq_true rfl) (Nat.le_of_ble_eq_true rfl) hs (fun y8 hs => ?_)
            exact RI _ 116 _ _ _ (rU1 hs) rfl (rV1 hs) dX10_readLaw_116
        refine g_if_eq X dX10_readLaw_75 (q := 78) rfl (tgt := 92) (by decide) hs ?_ ?_
        · intro hs
          exact wg_sub [1, 2, 0] rfl (ih2 _ hs)
        · intro hs
          refine g_aload_n X dX10_readLaw_78 (q := 79) rfl 1 rfl ?_
          refine v_reads X dX10_readLaw_79 (q := 82) rfl (Nat.le_of_ble_eq_true rfl) (Nat.le_of_ble_eq_true rfl) (Nat.le_of_ble_eq_true rfl) hs (fun s9 hs => ?_)
          refine g_aload_n X dX10_readLaw_82 (q := 83) rfl 1 rfl ?_
          refine v_readAny X dX10_readLaw_83 (q := 86) rfl (Nat.le_of_ble_eq_true rfl) (Nat.le_of_ble_eq_true rfl) (Nat.le_of_ble_eq_true rfl) hs (fun y9 hs => ?_)
          refine g_iconst X dX10_readLaw_86 (q := 87) rfl li_im1 ?_
          refine g_icmp_ne X dX10_readLaw_87 (q := 90) rfl (tgt := 92) (by decide) hs ?_ ?_
          · intro hs
            exact wg_sub [1, 2, 0] rfl (ih2 _ hs)
          · intro hs
            refine g_iconst X dX10_readLaw_90 (q := 91) rfl li_im1 ?_
            exact RI _ 91 _ _ _ (rU1 hs) rfl (rV1 hs) dX10_readLaw_91
      · intro hs
        refine g_iconst X dX10_readLaw_58 (q := 59) rfl li_im1 ?_
        exact RI _ 59 _ _ _ (rU1 hs) rfl (rV1 hs) dX10_readLaw_59
    · intro hs
      refine g_aload_n X dX10_readLaw_15 (q := 16) rfl 0 rfl ?_
      refine g_iconst X dX10_readLaw_16 (q := 17) rfl li_i3 ?_
      refine v_errs X dX10_readLaw_17 (q := 20) rfl (Nat.le_of_ble_eq_true rfl) (Nat.le_of_ble_eq_true rfl) (Nat.le_of_ble_eq_true rfl) hs (fun y10 hs => ?_)
      exact RI _ 20 _ _ _ (rU1 hs) rfl (rV1 hs) dX10_readLaw_20
theorem v_readLaw {p : Program} {l : Launch} {e : Env} {st : State} {m : MethodId} {args : Array Value} {below : List Frame} {meth : Method} {c : Code} {Q : State → Prop} {nL : Nat} {cc : ByteArray} {s : ST} {pc q : Nat} {lv : List (Nat × Value)} {rest : List Value} {D : va_G} {cA : ClassId} {h : Nat → Nat} {d0 : Nat} (X : Cx (KM D cA h) p st m args meth c cc nL RX10) (d : decode cc pc = .ok (.invokevirtual 281, 3)) (hq : pc + 3 = q) (hd1 : 9 + 1 ≤ d0) (hd2 : 8 + (3 + 11) + 100 * 9 ≤ 100 * d0) (hr : (rest.map fun v => v.category).sum ≤ 8) {B : Type} {f : Int32 × ST → Option B} {r : B} (hs : Bd (M_readLaw s) f = some r) (k : ∀ y, f y = some r → WG (KM D cA h) p l e (rmD d0) st m args below meth c Q nL y.2 q lv (.int y.1 :: rest)) : WG (KM D cA h) p l e (rmD d0) st m args below meth c Q nL s pc lv (.ref (h 0) :: rest) := by
  obtain ⟨v, hv, hs⟩ := Bd_e hs
  exact cV_I X 0 (n := 0) (k_readLaw l D cA h s hv) gv_X10_readLaw ⟨hd1, hd2⟩ ⟨by decide, by decide, by decide +kernel⟩ (As := []) rfl hr (Nat.le_of_ble_eq_true rfl) (fs := mF h (s.1 0)) rfl rfl rfl d hq (k _ hs)
