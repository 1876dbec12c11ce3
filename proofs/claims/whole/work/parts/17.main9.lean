def wX4_init150 (cA cL : ClassId) (a : Nat) (u : Nat → Nat) : va_W := [(a, .inr (4, [.int (150 : Int32), .ref (u 0), .int 0]))] ++ [((u 0), .inl (cA, 600, .inl (fun _ => 0)))]
set_option maxRecDepth 100000 in
set_option maxHeartbeats 8000000 in
theorem k_X4_init150 (l : Launch) (D : va_G) (cA cL : ClassId) (a : Nat) : MC l yX4_init cX4_init 2 D cA cL 2 1 600 [(a, .inr (4, [.int 0, .null, .int 0]))] [.ref a, .int (150 : Int32)] (wX4_init150 cA cL a) := by
  refine met_c (by decide) rfl (Nat.le_of_ble_eq_true rfl) ?_
  intro p e st m args below meth c Q A X RI
  refine h_aload_n X dX4_init_0 (q := 1) rfl 0 rfl ?_
  refine h_objInit X dX4_init_1 (q := 4) rfl (gt_of 328 (by decide +kernel) rfl) ⟨(Nat.le_of_ble_eq_true rfl), (Nat.le_of_ble_eq_true rfl)⟩ (Nat.le_of_ble_eq_true rfl) ?_
  refine h_aload_n X dX4_init_4 (q := 5) rfl 0 rfl ?_
  refine h_iconst X dX4_init_5 (q := 6) rfl li_i0 ?_
  refine h_iload_n X dX4_init_6 (q := 7) rfl 1 rfl ?_
  refine h_max X dX4_init_7 (q := 10) rfl (gt_of 329 (by decide +kernel) rfl) ⟨(Nat.le_of_ble_eq_true rfl), (Nat.le_of_ble_eq_true rfl)⟩ (Nat.le_of_ble_eq_true rfl) ⟨(Nat.le_of_ble_eq_true rfl), (Nat.le_of_ble_eq_true rfl)⟩ (v := (150 : Int32)) (by decide) ?_
  refine h_putF X 0 4 rfl rfl inX4 0 (Nat.le_of_ble_eq_true rfl) rfl (gt_of 332 (by decide +kernel) rfl) tyX4 tyX4_ok nmX4 rfl rfl (ty := .int) rfl rfl rfl (Nat.le_of_ble_eq_true rfl) (ws' := [(a, .inr (4, [.int (150 : Int32), .null, .int 0]))]) rfl dX4_init_10 (q := 13) rfl ?_
  refine h_aload_n X dX4_init_13 (q := 14) rfl 0 rfl ?_
  refine h_aload_n X dX4_init_14 (q := 15) rfl 0 rfl ?_
  refine h_get X 0 4 rfl rfl inX4 0 (Nat.le_of_ble_eq_true rfl) rfl (gt_of 332 (by decide +kernel) rfl) rfl dX4_init_15 (q := 18) rfl ?_
  refine h_iconst X dX4_init_18 (q := 19) rfl li_i4 ?_
  refine h_imul X dX4_init_19 (q := 20) rfl (v := (600 : Int32)) (by decide) ?_
  refine h_newa X (by decide) (N := 600) (by decide) (Nat.le_of_ble_eq_true rfl) (Nat.le_of_ble_eq_true rfl) (Nat.le_of_ble_eq_true rfl) (ce2 := 1) (sl2 := 600) rfl rfl dX4_init_20 (q := 22) rfl (fun q1 => ?_)
  refine h_putF X 0 4 rfl rfl inX4 1 (Nat.le_of_ble_eq_true rfl) rfl (gt_of 333 (by decide +kernel) rfl) tyX4 tyX4_ok nmX4 rfl rfl (ty := (.array .int)) rfl rfl rfl (Nat.le_of_ble_eq_true rfl) (ws' := [(a, .inr (4, [.int (150 : Int32), .ref q1, .int 0]))] ++ [(q1, .inl (cA, 600, .inl (fun _ => 0)))]) rfl dX4_init_22 (q := 25) rfl ?_
  exact RI 25 _ (fun i => ([q1] : List Nat).getD i 0) dX4_init_25
theorem dX9_init_0 : decode cX9_init 0 = .ok (.aload_n 0, 1) := by decide +kernel
theorem dX9_init_1 : decode cX9_init 1 = .ok (.invokespecial 3, 3) := by decide +kernel
theorem dX9_init_4 : decode cX9_init 4 = .ok (.aload_n 0, 1) := by decide +kernel
theorem dX9_init_5 : decode cX9_init 5 = .ok (.new 9, 3) := by decide +kernel
theorem dX9_init_8 : decode cX9_init 8 = .ok (.dup, 1) := by decide +kernel
theorem dX9_init_9 : decode cX9_init 9 = .ok (.invokespecial 11, 3) := by decide +kernel
theorem dX9_init_12 : decode cX9_init 12 = .ok (.putfield 12, 3) := by decide +kernel
theorem dX9_init_15 : decode cX9_init 15 = .ok (.aload_n 0, 1) := by decide +kernel
theorem dX9_init_16 : decode cX9_init 16 = .ok (.new 16, 3) := by decide +kernel
theorem dX9_init_19 : decode cX9_init 19 = .ok (.dup, 1) := by decide +kernel
theorem dX9_init_20 : decode cX9_init 20 = .ok (.invokespecial 18, 3) := by decide +kernel
theorem dX9_init_23 : decode cX9_init 23 = .ok (.putfield 19, 3) := by decide +kernel
theorem dX9_init_26 : decode cX9_init 26 = .ok (.aload_n 0, 1) := by decide +kernel
theorem dX9_init_27 : decode cX9_init 27 = .ok (.new 23, 3) := by decide +kernel
theorem dX9_init_30 : decode cX9_init 30 = .ok (.dup, 1) := by decide +kernel
theorem dX9_init_31 : decode cX9_init 31 = .ok (.sipush 150, 3) := by decide +kernel
theorem dX9_init_34 : decode cX9_init 34 = .ok (.invokespecial 25, 3) := by decide +kernel
theorem dX9_init_37 : decode cX9_init 37 = .ok (.putfield 28, 3) := by decide +kernel
theorem dX9_init_40 : decode cX9_init 40 = .ok (.aload_n 0, 1) := by decide +kernel
theorem dX9_init_41 : decode cX9_init 41 = .ok (.new 9, 3) := by decide +kernel
theorem dX9_init_44 : decode cX9_init 44 = .ok (.dup, 1) := by decide +kernel
theorem dX9_init_45 : decode cX9_init 45 = .ok (.invokespecial 11, 3) := by decide +kernel
theorem dX9_init_48 : decode cX9_init 48 = .ok (.putfield 32, 3) := by decide +kernel
theorem dX9_init_51 : decode cX9_init 51 = .ok (.aload_n 0, 1) := by decide +kernel
theorem dX9_init_52 : decode cX9_init 52 = .ok (.new 16, 3) := by decide +kernel
theorem dX9_init_55 : decode cX9_init 55 = .ok (.dup, 1) := by decide +kernel
theorem dX9_init_56 : decode cX9_init 56 = .ok (.invokespecial 18, 3) := by decide +kernel
theorem dX9_init_59 : decode cX9_init 59 = .ok (.putfield 35, 3) := by decide +kernel
theorem dX9_init_62 : decode cX9_init 62 = .ok (.aload_n 0, 1) := by decide +kernel
theorem dX9_init_63 : decode cX9_init 63 = .ok (.new 23, 3) := by decide +kernel
theorem dX9_init_66 : decode cX9_init 66 = .ok (.dup, 1) := by decide +kernel
theorem dX9_init_67 : decode cX9_init 67 = .ok (.sipush 150, 3) := by decide +kernel
theorem dX9_init_70 : decode cX9_init 70 = .ok (.invokespecial 25, 3) := by decide +kernel
theorem dX9_init_73 : decode cX9_init 73 = .ok (.putfield 38, 3) := by decide +kernel
theorem dX9_init_76 : decode cX9_init 76 = .ok (.aload_n 0, 1) := by decide +kernel
theorem dX9_init_77 : decode cX9_init 77 = .ok (.new 41, 3) := by decide +kernel
theorem dX9_init_80 : decode cX9_init 80 = .ok (.dup, 1) := by decide +kernel
theorem dX9_init_81 : decode cX9_init 81 = .ok (.invokespecial 43, 3) := by decide +kernel
theorem dX9_init_84 : decode cX9_init 84 = .ok (.putfield 44, 3) := by decide +kernel
theorem dX9_init_87 : decode cX9_init 87 = .ok (.aload_n 0, 1) := by decide +kernel
theorem dX9_init_88 : decode cX9_init 88 = .ok (.new 48, 3) := by decide +kernel
theorem dX9_init_91 : decode cX9_init 91 = .ok (.dup, 1) := by decide +kernel
theorem dX9_init_92 : decode cX9_init 92 = .ok (.aload_n 0, 1) := by decide +kernel
theorem dX9_init_93 : decode cX9_init 93 = .ok (.getfield 44, 3) := by decide +kernel
theorem dX9_init_96 : decode cX9_init 96 = .ok (.aload_n 0, 1) := by decide +kernel
theorem dX9_init_97 : decode cX9_init 97 = .ok (.getfield 19, 3) := by decide +kernel
theorem dX9_init_100 : decode cX9_init 100 = .ok (.aload_n 0, 1) := by decide +kernel
theorem dX9_init_101 : decode cX9_init 101 = .ok (.getfield 12, 3) := by decide +kernel
theorem dX9_init_104 : decode cX9_init 104 = .ok (.invokespecial 50, 3) := by decide +kernel
theorem dX9_init_107 : decode cX9_init 107 = .ok (.putfield 53, 3) := by decide +kernel
theorem dX9_init_110 : decode cX9_init 110 = .ok (.aload_n 0, 1) := by decide +kernel
theorem dX9_init_111 : decode cX9_init 111 = .ok (.new 57, 3) := by decide +kernel
theorem dX9_init_114 : decode cX9_init 114 = .ok (.dup, 1) := by decide +kernel
theorem dX9_init_115 : decode cX9_init 115 = .ok (.aload_n 0, 1) := by decide +kernel
theorem dX9_init_116 : decode cX9_init 116 = .ok (.getfield 19, 3) := by decide +kernel
theorem dX9_init_119 : decode cX9_init 119 = .ok (.aload_n 0, 1) := by decide +kernel
theorem dX9_init_120 : decode cX9_init 120 = .ok (.getfield 28, 3) := by decide +kernel
theorem dX9_init_123 : decode cX9_init 123 = .ok (.invokespecial 59, 3) := by decide +kernel
theorem dX9_init_126 : decode cX9_init 126 = .ok (.putfield 62, 3) := by decide +kernel
theorem dX9_init_129 : decode cX9_init 129 = .ok (.aload_n 0, 1) := by decide +kernel
theorem dX9_init_130 : decode cX9_init 130 = .ok (.new 66, 3) := by decide +kernel
theorem dX9_init_133 : decode cX9_init 133 = .ok (.dup, 1) := by decide +kernel
theorem dX9_init_134 : decode cX9_init 134 = .ok (.aload_n 0, 1) := by decide +kernel
theorem dX9_init_135 : decode cX9_init 135 = .ok (.getfield 19, 3) := by decide +kernel
theorem dX9_init_138 : decode cX9_init 138 = .ok (.aload_n 0, 1) := by decide +kernel
theorem dX9_init_139 : decode cX9_init 139 = .ok (.getfield 12, 3) := by decide +kernel
theorem dX9_init_142 : decode cX9_init 142 = .ok (.invokespecial 68, 3) := by decide +kernel
theorem dX9_init_145 : decode cX9_init 145 = .ok (.putfield 71, 3) := by decide +kernel
theorem dX9_init_148 : decode cX9_init 148 = .ok (.aload_n 0, 1) := by decide +kernel
theorem dX9_init_149 : decode cX9_init 149 = .ok (.new 75, 3) := by decide +kernel
theorem dX9_init_152 : decode cX9_init 152 = .ok (.dup, 1) := by decide +kernel
theorem dX9_init_153 : decode cX9_init 153 = .ok (.invokespecial 77, 3) := by decide +kernel
theorem dX9_init_156 : decode cX9_init 156 = .ok (.putfield 78, 3) := by decide +kernel
theorem dX9_init_159 : decode cX9_init 159 = .ok (.aload_n 0, 1) := by decide +kernel
theorem dX9_init_160 : decode cX9_init 160 = .ok (.getfield 12, 3) := by decide +kernel
theorem dX9_init_163 : decode cX9_init 163 = .ok (.iconst 5, 1) := by decide +kernel
theorem dX9_init_164 : decode cX9_init 164 = .ok (.iconst 4, 1) := by decide +kernel
theorem dX9_init_165 : decode cX9_init 165 = .ok (.invokevirtual 82, 3) := by decide +kernel
theorem dX9_init_168 : decode cX9_init 168 = .ok (.return_, 1) := by decide +kernel
def w9 (cA cL : ClassId) (a : Nat) (u : Nat → Nat) : va_W := [(a, .inr (9, [.ref (u 0), .ref (u 7), .ref (u 22), .ref (u 24), .ref (u 31), .ref (u 46), .int 0, .ref (u 48), .ref (u 53), .ref (u 69), .ref (u 70), .ref (u 79)]))] ++ wX1_init cA cL (u 0) (fun i => u (i + 1)) ++ wX7_init cA cL (u 7) (fun i => u (i + 8)) ++ wX4_init150 cA cL (u 22) (fun i => u (i + 23)) ++ wX1_init cA cL (u 24) (fun i => u (i + 25)) ++ wX7_init cA cL (u 31) (fun i => u (i + 32)) ++ wX4_init150 cA cL (u 46) (fun i => u (i + 47)) ++ wX5_init cA cL (u 48) (fun i => u (i + 49)) ++ wX3_init cA cL (u 53) (u 48) (u 7) (u 0) (fun i => u (i + 54)) ++ wX8_init cA cL (u 69) (u 7) (u 22) (fun i => u (i + 70)) ++ wX6_init cA cL (u 70) (u 7) (u 0) (fun i => u (i + 71)) ++ wX0_init cA cL (u 79) (fun i => u (i + 80))
set_option maxRecDepth 100000 in
set_option maxHeartbeats 8000000 in
theorem walk9 {D : va_G} {cA cL : ClassId} {A : Nat → Prop} {p : Program} {l : Launch} {e : Env} {st : State} {m : MethodId} {args : Array Value} {below : List Frame} {meth : Method} {c : Code} {Q : State → Prop} {a : Nat} (X : CX D cA cL A p st m args meth c cX9_init 1 RX9) (fin : ∀ u : Nat → Nat, CG D A p l e (rmC 70 124 8658) st m args below meth c Q 1 (w9 cA cL a u) 124 8658 165 [(0, .ref a)] [.int 4, .int 5, .ref (u 0)]) : CG D A p l e (rmC 70 124 8658) st m args below meth c Q 1 [(a, .inr (9, [.null, .null, .null, .null, .null, .null, .int 0, .null, .null, .null, .null, .null]))] 0 0 0 [(0, .ref a)] [] := by
  refine h_aload_n X dX9_init_0 (q := 1) rfl 0 rfl ?_
  refine h_objInit X dX9_init_1 (q := 4) rfl (gt_of 221 (by decide +kernel) rfl) ⟨(Nat.le_of_ble_eq_true rfl), (Nat.le_of_ble_eq_true rfl)⟩ (Nat.le_of_ble_eq_true rfl) ?_
  refine h_aload_n X dX9_init_4 (q := 5) rfl 0 rfl ?_
  refine h_new X inX1 tyX1 tyX1_ok (gt_of 224 (by decide +kernel) rfl) (gt_of 225 (by decide +kernel) rfl) (gt_of 197 (by decide +kernel) rfl) (ci := 1) rfl (fs := [.int 0, .int 0, .int 0, .int 0, .int 0, .int 0, .int 0, .long 0, .long 0, .long 0, .null, .null, .null, .null, .null, .null]) (by intro j hj; exact (by decide : ∀ j, j < 16 → defaultValue (tyX1 j) = vp_V [.int 0, .int 0, .int 0, .int 0, .int 0, .int 0, .int 0, .long 0, .long 0, .long 0, .null, .null, .null, .null, .null, .null] j) j hj) (Nat.le_of_ble_eq_true rfl) (Nat.le_of_ble_eq_true rfl) (ce2 := 1) (sl2 := 16) rfl rfl dX9_init_5 (q := 8) rfl (fun q1 => ?_)
  refine h_dup X dX9_init_8 (q := 9) rfl rfl ?_
  refine h_ctorN X (host := "StormSeeds") (W1 := (wX1_init cA cL q1)) (X0 := [(a, .inr (9, [.null, .null, .null, .null, .null, .null, .int 0, .null, .null, .null, .null, .null]))]) (ce2 := 7) (sl2 := 400) (n := 0) (k_X1_init l D cA cL q1) rfl (gt_of 228 (by decide +kernel) rfl) (gt_of 197 (by decide +kernel) rfl) (gt_of 227 (by decide +kernel) rfl) (nw_of 226 (by decide +kernel) rfl) rfl ⟨by decide, by decide, by decide +kernel⟩ (As := []) rfl ⟨(Nat.le_of_ble_eq_true rfl), (Nat.le_of_ble_eq_true rfl)⟩ ⟨(Nat.le_of_ble_eq_true rfl), (Nat.le_of_ble_eq_true rfl)⟩ rfl rfl (Nat.le_of_ble_eq_true rfl) rfl dX9_init_9 (q := 12) rfl (fun u1 => ?_)
  refine h_putF X 0 9 rfl rfl inX9 0 (Nat.le_of_ble_eq_true rfl) rfl (gt_of 541 (by decide +kernel) rfl) tyX9 tyX9_ok nmX9 rfl rfl (ty := (.object "StormSeeds$Land")) rfl rfl rfl (Nat.le_of_ble_eq_true rfl) (ws' := [(a, .inr (9, [.ref q1, .null, .null, .null, .null, .null, .int 0, .null, .null, .null, .null, .null]))] ++ wX1_init cA cL q1 u1) rfl dX9_init_12 (q := 15) rfl ?_
  refine h_aload_n X dX9_init_15 (q := 16) rfl 0 rfl ?_
  refine h_new X inX7 tyX7 tyX7_ok (gt_of 317 (by decide +kernel) rfl) (gt_of 318 (by decide +kernel) rfl) (gt_of 198 (by decide +kernel) rfl) (ci := 7) rfl (fs := [.null, .null, .null, .null, .null]) (by intro j hj; exact (by decide : ∀ j, j < 5 → defaultValue (tyX7 j) = vp_V [.null, .null, .null, .null, .null] j) j hj) (Nat.le_of_ble_eq_true rfl) (Nat.le_of_ble_eq_true rfl) (ce2 := 8) (sl2 := 405) rfl rfl dX9_init_16 (q := 19) rfl (fun q2 => ?_)
  refine h_dup X dX9_init_19 (q := 20) rfl rfl ?_
  refine h_ctorN X (host := "StormSeeds") (W1 := (wX7_init cA cL q2)) (X0 := [(a, .inr (9, [.ref q1, .null, .null, .null, .null, .null, .int 0, .null, .null, .null, .null, .null]))] ++ wX1_init cA cL q1 u1) (ce2 := 22) (sl2 := 1137) (n := 0) (k_X7_init l D cA cL q2) rfl (gt_of 321 (by decide +kernel) rfl) (gt_of 198 (by decide +kernel) rfl) (gt_of 320 (by decide +kernel) rfl) (nw_of 319 (by decide +kernel) rfl) rfl ⟨by decide, by decide, by decide +kernel⟩ (As := []) rfl ⟨(Nat.le_of_ble_eq_true rfl), (Nat.le_of_ble_eq_true rfl)⟩ ⟨(Nat.le_of_ble_eq_true rfl), (Nat.le_of_ble_eq_true rfl)⟩ rfl rfl (Nat.le_of_ble_eq_true rfl) rfl dX9_init_20 (q := 23) rfl (fun u2 => ?_)
  refine h_putF X 0 9 rfl rfl inX9 1 (Nat.le_of_ble_eq_true rfl) rfl (gt_of 542 (by decide +kernel) rfl) tyX9 tyX9_ok nmX9 rfl rfl (ty := (.object "StormSeeds$Told")) rfl rfl rfl (Nat.le_of_ble_eq_true rfl) (ws' := [(a, .inr (9, [.ref q1, .ref q2, .null, .null, .null, .null, .int 0, .null, .null, .null, .null, .null]))] ++ wX1_init cA cL q1 u1 ++ wX7_init cA cL q2 u2) rfl dX9_init_23 (q := 26) rfl ?_
  refine h_aload_n X dX9_init_26 (q := 27) rfl 0 rfl ?_
  refine h_new X inX4 tyX4 tyX4_ok (gt_of 407 (by decide +kernel) rfl) (gt_of 324 (by decide +kernel) rfl) (gt_of 199 (by decide +kernel) rfl) (ci := 4) rfl (fs := [.int 0, .null, .int 0]) (by intro j hj; exact (by decide : ∀ j, j < 3 → defaultValue (tyX4 j) = vp_V [.int 0, .null, .int 0] j) j hj) (Nat.le_of_ble_eq_true rfl) (Nat.le_of_ble_eq_true rfl) (ce2 := 23) (sl2 := 1140) rfl rfl dX9_init_27 (q := 30) rfl (fun q3 => ?_)
  refine h_dup X dX9_init_30 (q := 31) rfl rfl ?_
  refine h_sipush X dX9_init_31 (q := 34) rfl li_s150 ?_
  refine h_ctorN X (host := "StormSeeds") (W1 := (wX4_init150 cA cL q3)) (X0 := [(a, .inr (9, [.ref q1, .ref q2, .null, .null, .null, .null, .int 0, .null, .null, .null, .null, .null]))] ++ wX1_init cA cL q1 u1 ++ wX7_init cA cL q2 u2) (ce2 := 24) (sl2 := 1740) (n := 1) (k_X4_init150 l D cA cL q3) rfl (gt_of 327 (by decide +kernel) rfl) (gt_of 199 (by decide +kernel) rfl) (gt_of 326 (by decide +kernel) rfl) (nw_of 408 (by decide +kernel) rfl) rfl ⟨by decide, by decide, by decide +kernel⟩ (As := [.int (150 : Int32)]) rfl ⟨(Nat.le_of_ble_eq_true rfl), (Nat.le_of_ble_eq_true rfl)⟩ ⟨(Nat.le_of_ble_eq_true rfl), (Nat.le_of_ble_eq_true rfl)⟩ rfl rfl (Nat.le_of_ble_eq_true rfl) rfl dX9_init_34 (q := 37) rfl (fun u3 => ?_)
  refine h_putF X 0 9 rfl rfl inX9 2 (Nat.le_of_ble_eq_true rfl) rfl (gt_of 543 (by decide +kernel) rfl) tyX9 tyX9_ok nmX9 rfl rfl (ty := (.object "StormSeeds$Table")) rfl rfl rfl (Nat.le_of_ble_eq_true rfl) (ws' := [(a, .inr (9, [.ref q1, .ref q2, .ref q3, .null, .null, .null, .int 0, .null, .null, .null, .null, .null]))] ++ wX1_init cA cL q1 u1 ++ wX7_init cA cL q2 u2 ++ wX4_init150 cA cL q3 u3) rfl dX9_init_37 (q := 40) rfl ?_
  refine h_aload_n X dX9_init_40 (q := 41) rfl 0 rfl ?_
  refine h_new X inX1 tyX1 tyX1_ok (gt_of 224 (by decide +kernel) rfl) (gt_of 225 (by decide +kernel) rfl) (gt_of 197 (by decide +kernel) rfl) (ci := 1) rfl (fs := [.int 0, .int 0, .int 0, .int 0, .int 0, .int 0, .int 0, .long 0, .long 0, .long 0, .null, .null, .null, .null, .null, .null]) (by intro j hj; exact (by decide : ∀ j, j < 16 → defaultValue (tyX1 j) = vp_V [.int 0, .int 0, .int 0, .int 0, .int 0, .int 0, .int 0, .long 0, .long 0, .long 0, .null, .null, .null, .null, .null, .null] j) j hj) (Nat.le_of_ble_eq_true rfl) (Nat.le_of_ble_eq_true rfl) (ce2 := 25) (sl2 := 1756) rfl rfl dX9_init_41 (q := 44) rfl (fun q4 => ?_)
  refine h_dup X dX9_init_44 (q := 45) rfl rfl ?_
  refine h_ctorN X (host := "StormSeeds") (W1 := (wX1_init cA cL q4)) (X0 := [(a, .inr (9, [.ref q1, .ref q2, .ref q3, .null, .null, .null, .int 0, .null, .null, .null, .null, .null]))] ++ wX1_init cA cL q1 u1 ++ wX7_init cA cL q2 u2 ++ wX4_init150 cA cL q3 u3) (ce2 := 31) (sl2 := 2140) (n := 0) (k_X1_init l D cA cL q4) rfl (gt_of 228 (by decide +kernel) rfl) (gt_of 197 (by decide +kernel) rfl) (gt_of 227 (by decide +kernel) rfl) (nw_of 226 (by decide +kernel) rfl) rfl ⟨by decide, by decide, by decide +kernel⟩ (As := []) rfl ⟨(Nat.le_of_ble_eq_true rfl), (Nat.le_of_ble_eq_true rfl)⟩ ⟨(Nat.le_of_ble_eq_true rfl), (Nat.le_of_ble_eq_true rfl)⟩ rfl rfl (Nat.le_of_ble_eq_true rfl) rfl dX9_init_45 (q := 48) rfl (fun u4 => ?_)
  refine h_putF X 0 9 rfl rfl inX9 3 (Nat.le_of_ble_eq_true rfl) rfl (gt_of 544 (by decide +kernel) rfl) tyX9 tyX9_ok nmX9 rfl rfl (ty := (.object "StormSeeds$Land")) rfl rfl rfl (Nat.le_of_ble_eq_true rfl) (ws' := [(a, .inr (9, [.ref q1, .ref q2, .ref q3, .ref q4, .null, .null, .int 0, .null, .null, .null, .null, .null]))] ++ wX1_init cA cL q1 u1 ++ wX7_init cA cL q2 u2 ++ wX4_init150 cA cL q3 u3 ++ wX1_init cA cL q4 u4) rfl dX9_init_48 (q := 51) rfl ?_
  refine h_aload_n X dX9_init_51 (q := 52) rfl 0 rfl ?_
  refine h_new X inX7 tyX7 tyX7_ok (gt_of 317 (by decide +kernel) rfl) (gt_of 318 (by decide +kernel) rfl) (gt_of 198 (by decide +kernel) rfl) (ci := 7) rfl (fs := [.null, .null, .null, .null, .null]) (by intro j hj; exact (by decide : ∀ j, j < 5 → defaultValue (tyX7 j) = vp_V [.null, .null, .null, .null, .null] j) j hj) (Nat.le_of_ble_eq_true rfl) (Nat.le_of_ble_eq_true rfl) (ce2 := 32) (sl2 := 2145) rfl rfl dX9_init_52 (q := 55) rfl (fun q5 => ?_)
  refine h_dup X dX9_init_55 (q := 56) rfl rfl ?_
  refine h_ctorN X (host := "StormSeeds") (W1 := (wX7_init cA cL q5)) (X0 := [(a, .inr (9, [.ref q1, .ref q2, .ref q3, .ref q4, .null, .null, .int 0, .null, .null, .null, .null, .null]))] ++ wX1_init cA cL q1 u1 ++ wX7_init cA cL q2 u2 ++ wX4_init150 cA cL q3 u3 ++ wX1_init cA cL q4 u4) (ce2 := 46) (sl2 := 2877) (n := 0) (k_X7_init l D cA cL q5) rfl (gt_of 321 (by decide +kernel) rfl) (gt_of 198 (by decide +kernel) rfl) (gt_of 320 (by decide +kernel) rfl) (nw_of 319 (by decide +kernel) rfl) rfl ⟨by decide, by decide, by decide +kernel⟩ (As := []) rfl ⟨(Nat.le_of_ble_eq_true rfl), (Nat.le_of_ble_eq_true rfl)⟩ ⟨(Nat.le_of_ble_eq_true rfl), (Nat.le_of_ble_eq_true rfl)⟩ rfl rfl (Nat.le_of_ble_eq_true rfl) rfl dX9_init_56 (q := 59) rfl (fun u5 => ?_)
  refine h_putF X 0 9 rfl rfl inX9 4 (Nat.le_of_ble_eq_true rfl) rfl (gt_of 545 (by decide +kernel) rfl) tyX9 tyX9_ok nmX9 rfl rfl (ty := (.object "StormSeeds$Told")) rfl rfl rfl (Nat.le_of_ble_eq_true rfl) (ws' := [(a, .inr (9, [.ref q1, .ref q2, .ref q3, .ref q4, .ref q5, .null, .int 0, .null, .null, .null, .null, .null]))] ++ wX1_init cA cL q1 u1 ++ wX7_init cA cL q2 u2 ++ wX4_init150 cA cL q3 u3 ++ wX1_init cA cL q4 u4 ++ wX7_init cA cL q5 u5) rfl dX9_init_59 (q := 62) rfl ?_
  refine h_aload_n X dX9_init_62 (q := 63) rfl 0 rfl ?_
  refine h_new X inX4 tyX4 tyX4_ok (gt_of 407 (by decide +kernel) rfl) (gt_of 324 (by decide +kernel) rfl) (gt_of 199 (by decide +kernel) rfl) (ci := 4) rfl (fs := [.int 0, .null, .int 0]) (by intro j hj; exact (by decide : ∀ j, j < 3 → defaultValue (tyX4 j) = vp_V [.int 0, .null, .int 0] j) j hj) (Nat.le_of_ble_eq_true rfl) (Nat.le_of_ble_eq_true rfl) (ce2 := 47) (sl2 := 2880) rfl rfl dX9_init_63 (q := 66) rfl (fun q6 => ?_)
  refine h_dup X dX9_init_66 (q := 67) rfl rfl ?_
  refine h_sipush X dX9_init_67 (q := 70) rfl li_s150 ?_
  refine h_ctorN X (host := "StormSeeds") (W1 := (wX4_init150 cA cL q6)) (X0 := [(a, .inr (9, [.ref q1, .ref q2, .ref q3, .ref q4, .ref q5, .null, .int 0, .null, .null, .null, .null, .null]))] ++ wX1_init cA cL q1 u1 ++ wX7_init cA cL q2 u2 ++ wX4_init150 cA cL q3 u3 ++ wX1_init cA cL q4 u4 ++ wX7_init cA cL q5 u5) (ce2 := 48) (sl2 := 3480) (n := 1) (k_X4_init150 l D cA cL q6) rfl (gt_of 327 (by decide +kernel) rfl) (gt_of 199 (by decide +kernel) rfl) (gt_of 326 (by decide +kernel) rfl) (nw_of 408 (by decide +kernel) rfl) rfl ⟨by decide, by decide, by decide +kernel⟩ (As := [.int (150 : Int32)]) rfl ⟨(Nat.le_of_ble_eq_true rfl), (Nat.le_of_ble_eq_true rfl)⟩ ⟨(Nat.le_of_ble_eq_true rfl), (Nat.le_of_ble_eq_true rfl)⟩ rfl rfl (Nat.le_of_ble_eq_true rfl) rfl dX9_init_70 (q := 73) rfl (fun u6 => ?_)
  refine h_putF X 0 9 rfl rfl inX9 5 (Nat.le_of_ble_eq_true rfl) rfl (gt_of 546 (by decide +kernel) rfl) tyX9 tyX9_ok nmX9 rfl rfl (ty := (.object "StormSeeds$Table")) rfl rfl rfl (Nat.le_of_ble_eq_true rfl) (ws' := [(a, .inr (9, [.ref q1, .ref q2, .ref q3, .ref q4, .ref q5, .ref q6, .int 0, .null, .null, .null, .null, .null]))] ++ wX1_init cA cL q1 u1 ++ wX7_init cA cL q2 u2 ++ wX4_init150 cA cL q3 u3 ++ wX1_init cA cL q4 u4 ++ wX7_init cA cL q5 u5 ++ wX4_init150 cA cL q6 u6) rfl dX9_init_73 (q := 76) rfl ?_
  refine h_aload_n X dX9_init_76 (q := 77) rfl 0 rfl ?_
  refine h_new X inX5 tyX5 tyX5_ok (gt_of 409 (by decide +kernel) rfl) (gt_of 410 (by decide +kernel) rfl) (gt_of 202 (by decide +kernel) rfl) (ci := 5) rfl (fs := [.null, .int 0, .null, .null, .null, .int 0, .int 0, .int 0, .int 0, .int 0]) (by intro j hj; exact (by decide : ∀ j, j < 10 → defaultValue (tyX5 j) = vp_V [.null, .int 0, .null, .null, .null, .int 0, .int 0, .int 0, .int 0, .int 0] j) j hj) (Nat.le_of_ble_eq_true rfl) (Nat.le_of_ble_eq_true rfl) (ce2 := 49) (sl2 := 3490) rfl rfl dX9_init_77 (q := 80) rfl (fun q7 => ?_)
  refine h_dup X dX9_init_80 (q := 81) rfl rfl ?_
  refine h_ctorN X (host := "StormSeeds") (W1 := (wX5_init cA cL q7)) (X0 := [(a, .inr (9, [.ref q1, .ref q2, .ref q3, .ref q4, .ref q5, .ref q6, .int 0, .null, .null, .null, .null, .null]))] ++ wX1_init cA cL q1 u1 ++ wX7_init cA cL q2 u2 ++ wX4_init150 cA cL q3 u3 ++ wX1_init cA cL q4 u4 ++ wX7_init cA cL q5 u5 ++ wX4_init150 cA cL q6 u6) (ce2 := 53) (sl2 := 5093) (n := 0) (k_X5_init l D cA cL q7) rfl (gt_of 413 (by decide +kernel) rfl) (gt_of 202 (by decide +kernel) rfl) (gt_of 412 (by decide +kernel) rfl) (nw_of 411 (by decide +kernel) rfl) rfl ⟨by decide, by decide, by decide +kernel⟩ (As := []) rfl ⟨(Nat.le_of_ble_eq_true rfl), (Nat.le_of_ble_eq_true rfl)⟩ ⟨(Nat.le_of_ble_eq_true rfl), (Nat.le_of_ble_eq_true rfl)⟩ rfl rfl (Nat.le_of_ble_eq_true rfl) rfl dX9_init_81 (q := 84) rfl (fun u7 => ?_)
  refine h_putF X 0 9 rfl rfl inX9 7 (Nat.le_of_ble_eq_true rfl) rfl (gt_of 548 (by decide +kernel) rfl) tyX9 tyX9_ok nmX9 rfl rfl (ty := (.object "StormSeeds$Tape")) rfl rfl rfl (Nat.le_of_ble_eq_true rfl) (ws' := [(a, .inr (9, [.ref q1, .ref q2, .ref q3, .ref q4, .ref q5, .ref q6, .int 0, .ref q7, .null, .null, .null, .null]))] ++ wX1_init cA cL q1 u1 ++ wX7_init cA cL q2 u2 ++ wX4_init150 cA cL q3 u3 ++ wX1_init cA cL q4 u4 ++ wX7_init cA cL q5 u5 ++ wX4_init150 cA cL q6 u6 ++ wX5_init cA cL q7 u7) rfl dX9_init_84 (q := 87) rfl ?_
  refine h_aload_n X dX9_init_87 (q := 88) rfl 0 rfl ?_
  refine h_new X inX3 tyX3 tyX3_ok (gt_of 450 (by decide +kernel) rfl) (gt_of 451 (by decide +kernel) rfl) (gt_of 203 (by decide +kernel) rfl) (ci := 3) rfl (fs := [.null, .null, .null, .null]) (by intro j hj; exact (by decide : ∀ j, j < 4 → defaultValue (tyX3 j) = vp_V [.null, .null, .null, .null] j) j hj) (Nat.le_of_ble_eq_true rfl) (Nat.le_of_ble_eq_true rfl) (ce2 := 54) (sl2 := 5097) rfl rfl dX9_init_88 (q := 91) rfl (fun q8 => ?_)
  refine h_dup X dX9_init_91 (q := 92) rfl rfl ?_
  refine h_aload_n X dX9_init_92 (q := 93) rfl 0 rfl ?_
  refine h_get X 0 9 rfl rfl inX9 7 (Nat.le_of_ble_eq_true rfl) rfl (gt_of 548 (by decide +kernel) rfl) rfl dX9_init_93 (q := 96) rfl ?_
  refine h_aload_n X dX9_init_96 (q := 97) rfl 0 rfl ?_
  refine h_get X 0 9 rfl rfl inX9 1 (Nat.le_of_ble_eq_true rfl) rfl (gt_of 542 (by decide +kernel) rfl) rfl dX9_init_97 (q := 100) rfl ?_
  refine h_aload_n X dX9_init_100 (q := 101) rfl 0 rfl ?_
  refine h_get X 0 9 rfl rfl inX9 0 (Nat.le_of_ble_eq_true rfl) rfl (gt_of 541 (by decide +kernel) rfl) rfl dX9_init_101 (q := 104) rfl ?_
  refine h_ctorN X (host := "StormSeeds") (W1 := (wX3_init cA cL q8 q7 q2 q1)) (X0 := [(a, .inr (9, [.ref q1, .ref q2, .ref q3, .ref q4, .ref q5, .ref q6, .int 0, .ref q7, .null, .null, .null, .null]))] ++ wX1_init cA cL q1 u1 ++ wX7_init cA cL q2 u2 ++ wX4_init150 cA cL q3 u3 ++ wX1_init cA cL q4 u4 ++ wX7_init cA cL q5 u5 ++ wX4_init150 cA cL q6 u6 ++ wX5_init cA cL q7 u7) (ce2 := 69) (sl2 := 5834) (n := 3) (k_X3_init l D cA cL q8 q7 q2 q1) rfl (gt_of 454 (by decide +kernel) rfl) (gt_of 203 (by decide +kernel) rfl) (gt_of 453 (by decide +kernel) rfl) (nw_of 452 (by decide +kernel) rfl) rfl ⟨by decide, by decide, by decide +kernel⟩ (As := [.ref q7, .ref q2, .ref q1]) rfl ⟨(Nat.le_of_ble_eq_true rfl), (Nat.le_of_ble_eq_true rfl)⟩ ⟨(Nat.le_of_ble_eq_true rfl), (Nat.le_of_ble_eq_true rfl)⟩ rfl rfl (Nat.le_of_ble_eq_true rfl) rfl dX9_init_104 (q := 107) rfl (fun u8 => ?_)
  refine h_putF X 0 9 rfl rfl inX9 8 (Nat.le_of_ble_eq_true rfl) rfl (gt_of 549 (by decide +kernel) rfl) tyX9 tyX9_ok nmX9 rfl rfl (ty := (.object "StormSeeds$Reader")) rfl rfl rfl (Nat.le_of_ble_eq_true rfl) (ws' := [(a, .inr (9, [.ref q1, .ref q2, .ref q3, .ref q4, .ref q5, .ref q6, .int 0, .ref q7, .ref q8, .null, .null, .null]))] ++ wX1_init cA cL q1 u1 ++ wX7_init cA cL q2 u2 ++ wX4_init150 cA cL q3 u3 ++ wX1_init cA cL q4 u4 ++ wX7_init cA cL q5 u5 ++ wX4_init150 cA cL q6 u6 ++ wX5_init cA cL q7 u7 ++ wX3_init cA cL q8 q7 q2 q1 u8) rfl dX9_init_107 (q := 110) rfl ?_
  refine h_aload_n X dX9_init_110 (q := 111) rfl 0 rfl ?_
  refine h_new X inX8 tyX8 tyX8_ok (gt_of 471 (by decide +kernel) rfl) (gt_of 472 (by decide +kernel) rfl) (gt_of 204 (by decide +kernel) rfl) (ci := 8) rfl (fs := [.null, .null]) (by intro j hj; exact (by decide : ∀ j, j < 2 → defaultValue (tyX8 j) = vp_V [.null, .null] j) j hj) (Nat.le_of_ble_eq_true rfl) (Nat.le_of_ble_eq_true rfl) (ce2 := 70) (sl2 := 5836) rfl rfl dX9_init_111 (q := 114) rfl (fun q9 => ?_)
  refine h_dup X dX9_init_114 (q := 115) rfl rfl ?_
  refine h_aload_n X dX9_init_115 (q := 116) rfl 0 rfl ?_
  refine h_get X 0 9 rfl rfl inX9 1 (Nat.le_of_ble_eq_true rfl) rfl (gt_of 542 (by decide +kernel) rfl) rfl dX9_init_116 (q := 119) rfl ?_
  refine h_aload_n X dX9_init_119 (q := 120) rfl 0 rfl ?_
  refine h_get X 0 9 rfl rfl inX9 2 (Nat.le_of_ble_eq_true rfl) rfl (gt_of 543 (by decide +kernel) rfl) rfl dX9_init_120 (q := 123) rfl ?_
  refine h_ctorN X (host := "StormSeeds") (W1 := (wX8_init cA cL q9 q2 q3)) (X0 := [(a, .inr (9, [.ref q1, .ref q2, .ref q3, .ref q4, .ref q5, .ref q6, .int 0, .ref q7, .ref q8, .null, .null, .null]))] ++ wX1_init cA cL q1 u1 ++ wX7_init cA cL q2 u2 ++ wX4_init150 cA cL q3 u3 ++ wX1_init cA cL q4 u4 ++ wX7_init cA cL q5 u5 ++ wX4_init150 cA cL q6 u6 ++ wX5_init cA cL q7 u7 ++ wX3_init cA cL q8 q7 q2 q1 u8) (ce2 := 70) (sl2 := 5836) (n := 2) (k_X8_init l D cA cL q9 q2 q3) rfl (gt_of 475 (by decide +kernel) rfl) (gt_of 204 (by decide +kernel) rfl) (gt_of 474 (by decide +kernel) rfl) (nw_of 473 (by decide +kernel) rfl) rfl ⟨by decide, by decide, by decide +kernel⟩ (As := [.ref q2, .ref q3]) rfl ⟨(Nat.le_of_ble_eq_true rfl), (Nat.le_of_ble_eq_true rfl)⟩ ⟨(Nat.le_of_ble_eq_true rfl), (Nat.le_of_ble_eq_true rfl)⟩ rfl rfl (Nat.le_of_ble_eq_true rfl) rfl dX9_init_123 (q := 126) rfl (fun u9 => ?_)
  refine h_putF X 0 9 rfl rfl inX9 9 (Nat.le_of_ble_eq_true rfl) rfl (gt_of 550 (by decide +kernel) rfl) tyX9 tyX9_ok nmX9 rfl rfl (ty := (.object "StormSeeds$Weather")) rfl rfl rfl (Nat.le_of_ble_eq_true rfl) (ws' := [(a, .inr (9, [.ref q1, .ref q2, .ref q3, .ref q4, .ref q5, .ref q6, .int 0, .ref q7, .ref q8, .ref q9, .null, .null]))] ++ wX1_init cA cL q1 u1 ++ wX7_init cA cL q2 u2 ++ wX4_init150 cA cL q3 u3 ++ wX1_init cA cL q4 u4 ++ wX7_init cA cL q5 u5 ++ wX4_init150 cA cL q6 u6 ++ wX5_init cA cL q7 u7 ++ wX3_init cA cL q8 q7 q2 q1 u8 ++ wX8_init cA cL q9 q2 q3 u9) rfl dX9_init_126 (q := 129) rfl ?_
  refine h_aload_n X dX9_init_129 (q := 130) rfl 0 rfl ?_
  refine h_new X inX6 tyX6 tyX6_ok (gt_of 484 (by decide +kernel) rfl) (gt_of 485 (by decide +kernel) rfl) (gt_of 205 (by decide +kernel) rfl) (ci := 6) rfl (fs := [.null, .null, .null, .null]) (by intro j hj; exact (by decide : ∀ j, j < 4 → defaultValue (tyX6 j) = vp_V [.null, .null, .null, .null] j) j hj) (Nat.le_of_ble_eq_true rfl) (Nat.le_of_ble_eq_true rfl) (ce2 := 71) (sl2 := 5840) rfl rfl dX9_init_130 (q := 133) rfl (fun q10 => ?_)
  refine h_dup X dX9_init_133 (q := 134) rfl rfl ?_
  refine h_aload_n X dX9_init_134 (q := 135) rfl 0 rfl ?_
  refine h_get X 0 9 rfl rfl inX9 1 (Nat.le_of_ble_eq_true rfl) rfl (gt_of 542 (by decide +kernel) rfl) rfl dX9_init_135 (q := 138) rfl ?_
  refine h_aload_n X dX9_init_138 (q := 139) rfl 0 rfl ?_
  refine h_get X 0 9 rfl rfl inX9 0 (Nat.le_of_ble_eq_true rfl) rfl (gt_of 541 (by decide +kernel) rfl) rfl dX9_init_139 (q := 142) rfl ?_
  refine h_ctorN X (host := "StormSeeds") (W1 := (wX6_init cA cL q10 q2 q1)) (X0 := [(a, .inr (9, [.ref q1, .ref q2, .ref q3, .ref q4, .ref q5, .ref q6, .int 0, .ref q7, .ref q8, .ref q9, .null, .null]))] ++ wX1_init cA cL q1 u1 ++ wX7_init cA cL q2 u2 ++ wX4_init150 cA cL q3 u3 ++ wX1_init cA cL q4 u4 ++ wX7_init cA cL q5 u5 ++ wX4_init150 cA cL q6 u6 ++ wX5_init cA cL q7 u7 ++ wX3_init cA cL q8 q7 q2 q1 u8 ++ wX8_init cA cL q9 q2 q3 u9) (ce2 := 79) (sl2 := 6242) (n := 2) (k_X6_init l D cA cL q10 q2 q1) rfl (gt_of 488 (by decide +kernel) rfl) (gt_of 205 (by decide +kernel) rfl) (gt_of 487 (by decide +kernel) rfl) (nw_of 486 (by decide +kernel) rfl) rfl ⟨by decide, by decide, by decide +kernel⟩ (As := [.ref q2, .ref q1]) rfl ⟨(Nat.le_of_ble_eq_true rfl), (Nat.le_of_ble_eq_true rfl)⟩ ⟨(Nat.le_of_ble_eq_true rfl), (Nat.le_of_ble_eq_true rfl)⟩ rfl rfl (Nat.le_of_ble_eq_true rfl) rfl dX9_init_142 (q := 145) rfl (fun u10 => ?_)
  refine h_putF X 0 9 rfl rfl inX9 10 (Nat.le_of_ble_eq_true rfl) rfl (gt_of 551 (by decide +kernel) rfl) tyX9 tyX9_ok nmX9 rfl rfl (ty := (.object "StormSeeds$Thought")) rfl rfl rfl (Nat.le_of_ble_eq_true rfl) (ws' := [(a, .inr (9, [.ref q1, .ref q2, .ref q3, .ref q4, .ref q5, .ref q6, .int 0, .ref q7, .ref q8, .ref q9, .ref q10, .null]))] ++ wX1_init cA cL q1 u1 ++ wX7_init cA cL q2 u2 ++ wX4_init150 cA cL q3 u3 ++ wX1_init cA cL q4 u4 ++ wX7_init cA cL q5 u5 ++ wX4_init150 cA cL q6 u6 ++ wX5_init cA cL q7 u7 ++ wX3_init cA cL q8 q7 q2 q1 u8 ++ wX8_init cA cL q9 q2 q3 u9 ++ wX6_init cA cL q10 q2 q1 u10) rfl dX9_init_145 (q := 148) rfl ?_
  refine h_aload_n X dX9_init_148 (q := 149) rfl 0 rfl ?_
  refine h_new X inX0 tyX0 tyX0_ok (gt_of 507 (by decide +kernel) rfl) (gt_of 508 (by decide +kernel) rfl) (gt_of 206 (by decide +kernel) rfl) (ci := 0) rfl (fs := [.null, .null, .int 0, .int 0]) (by intro j hj; exact (by decide : ∀ j, j < 4 → defaultValue (tyX0 j) = vp_V [.null, .null, .int 0, .int 0] j) j hj) (Nat.le_of_ble_eq_true rfl) (Nat.le_of_ble_eq_true rfl) (ce2 := 80) (sl2 := 6246) rfl rfl dX9_init_149 (q := 152) rfl (fun q11 => ?_)
  refine h_dup X dX9_init_152 (q := 153) rfl rfl ?_
  refine h_ctorN X (host := "StormSeeds") (W1 := (wX0_init cA cL q11)) (X0 := [(a, .inr (9, [.ref q1, .ref q2, .ref q3, .ref q4, .ref q5, .ref q6, .int 0, .ref q7, .ref q8, .ref q9, .ref q10, .null]))] ++ wX1_init cA cL q1 u1 ++ wX7_init cA cL q2 u2 ++ wX4_init150 cA cL q3 u3 ++ wX1_init cA cL q4 u4 ++ wX7_init cA cL q5 u5 ++ wX4_init150 cA cL q6 u6 ++ wX5_init cA cL q7 u7 ++ wX3_init cA cL q8 q7 q2 q1 u8 ++ wX8_init cA cL q9 q2 q3 u9 ++ wX6_init cA cL q10 q2 q1 u10) (ce2 := 124) (sl2 := 8658) (n := 0) (k_X0_init l D cA cL q11) rfl (gt_of 511 (by decide +kernel) rfl) (gt_of 206 (by decide +kernel) rfl) (gt_of 510 (by decide +kernel) rfl) (nw_of 509 (by decide +kernel) rfl) rfl ⟨by decide, by decide, by decide +kernel⟩ (As := []) rfl ⟨(Nat.le_of_ble_eq_true rfl), (Nat.le_of_ble_eq_true rfl)⟩ ⟨(Nat.le_of_ble_eq_true rfl), (Nat.le_of_ble_eq_true rfl)⟩ rfl rfl (Nat.le_of_ble_eq_true rfl) rfl dX9_init_153 (q := 156) rfl (fun u11 => ?_)
  refine h_putF X 0 9 rfl rfl inX9 11 (Nat.le_of_ble_eq_true rfl) rfl (gt_of 552 (by decide +kernel) rfl) tyX9 tyX9_ok nmX9 rfl rfl (ty := (.object "StormSeeds$History")) rfl rfl rfl (Nat.le_of_ble_eq_true rfl) (ws' := [(a, .inr (9, [.ref q1, .ref q2, .ref q3, .ref q4, .ref q5, .ref q6, .int 0, .ref q7, .ref q8, .ref q9, .ref q10, .ref q11]))] ++ wX1_init cA cL q1 u1 ++ wX7_init cA cL q2 u2 ++ wX4_init150 cA cL q3 u3 ++ wX1_init cA cL q4 u4 ++ wX7_init cA cL q5 u5 ++ wX4_init150 cA cL q6 u6 ++ wX5_init cA cL q7 u7 ++ wX3_init cA cL q8 q7 q2 q1 u8 ++ wX8_init cA cL q9 q2 q3 u9 ++ wX6_init cA cL q10 q2 q1 u10 ++ wX0_init cA cL q11 u11) rfl dX9_init_156 (q := 159) rfl ?_
  refine h_aload_n X dX9_init_159 (q := 160) rfl 0 rfl ?_
  refine h_get X 0 9 rfl rfl inX9 0 (Nat.le_of_ble_eq_true rfl) rfl (gt_of 541 (by decide +kernel) rfl) rfl dX9_init_160 (q := 163) rfl ?_
  refine h_iconst X dX9_init_163 (q := 164) rfl li_i5 ?_
  refine h_iconst X dX9_init_164 (q := 165) rfl li_i4 ?_
  exact fin (fun i => ([q1, (u1 0), (u1 1), (u1 2), (u1 3), (u1 4), (u1 5), q2, (u2 0), (u2 1), (u2 2), (u2 3), (u2 4), (u2 5), (u2 6), (u2 7), (u2 8), (u2 9), (u2 10), (u2 11), (u2 12), (u2 13), q3, (u3 0), q4, (u4 0), (u4 1), (u4 2), (u4 3), (u4 4), (u4 5), q5, (u5 0), (u5 1), (u5 2), (u5 3), (u5 4), (u5 5), (u5 6), (u5 7), (u5 8), (u5 9), (u5 10), (u5 11), (u5 12), (u5 13), q6, (u6 0), q7, (u7 0), (u7 1), (u7 2), (u7 3), q8, (u8 0), (u8 1), (u8 2), (u8 3), (u8 4), (u8 5), (u8 6), (u8 7), (u8 8), (u8 9), (u8 10), (u8 11), (u8 12), (u8 13), (u8 14), q9, q10, (u10 0), (u10 1), (u10 2), (u10 3), (u10 4), (u10 5), (u10 6), (u10 7), q11, (u11 0), (u11 1), (u11 2), (u11 3), (u11 4), (u11 5), (u11 6), (u11 7), (u11 8), (u11 9), (u11 10), (u11 11), (u11 12), (u11 13), (u11 14), (u11 15), (u11 16), (u11 17), (u11 18), (u11 19), (u11 20), (u11 21), (u11 22), (u11 23), (u11 24), (u11 25), (u11 26), (u11 27), (u11 28), (u11 29), (u11 30), (u11 31), (u11 32), (u11 33), (u11 34), (u11 35), (u11 36), (u11 37), (u11 38), (u11 39), (u11 40), (u11 41), (u11 42), (u11 43)] : List Nat).getD i 0)
def hm (a : Nat) (u : Nat → Nat) : Nat → Nat
  | 0 => a
  | k + 1 => u k
def mostL : List Int32 := [0, 0, 0, 0, 0, 0, 0, 0, 0, 8, 0, 10, 0, 0, 16, 0, 0, 0, 0, 10, 0, 16, 0, 150, 0, 0, 0, 0, 0, 0, 0, 0, 0, 8, 0, 10, 0, 0, 16, 0, 0, 0, 0, 10, 0, 16, 0, 150, 0, 0, 0, 0, 0, 0, 0, 0, 8, 0, 10, 0, 0, 16, 0, 0, 0, 0, 10, 0, 16, 0, 0, 0, 0, 0, 0, 0, 0, 0, 0, 0, 0, 0, 0, 0, 0, 0, 0, 0, 0, 0, 0, 0, 0, 0, 0, 0, 0, 0, 0, 0, 0, 0, 0, 0, 0, 0, 0, 0, 0, 0, 0, 0, 0, 0, 0, 0, 0, 0, 0, 0, 0, 0, 0, 0, 0]
def tapeF : Nat → Int32 := fun i => if i = 7 then 5 else if i = 9 then -1 else 0
def tabF (n : Int32) : Nat → Int32 := fun i => if i = 0 then n else 0
def sc00 : ST := (fun b => if b = 49 then tapeF else if kc b = 4 then tabF (mostL.getD b 0) else fun _ => 0, fun _ _ => 0)
set_option maxRecDepth 20000 in
theorem we_0 (cA cL : ClassId) (a : Nat) (u : Nat → Nat) : (w9 cA cL a u)[0]? = some (hm a u 0, GC cA cL (hm a u) 0 (sc00.1 0) (sc00.2 0)) := rfl
set_option maxRecDepth 20000 in
theorem we_1 (cA cL : ClassId) (a : Nat) (u : Nat → Nat) : (w9 cA cL a u)[1]? = some (hm a u 1, GC cA cL (hm a u) 1 (sc00.1 1) (sc00.2 1)) := rfl
set_option maxRecDepth 20000 in
theorem we_2 (cA cL : ClassId) (a : Nat) (u : Nat → Nat) : (w9 cA cL a u)[2]? = some (hm a u 2, GC cA cL (hm a u) 2 (sc00.1 2) (sc00.2 2)) := rfl
set_option maxRecDepth 20000 in
theorem we_3 (cA cL : ClassId) (a : Nat) (u : Nat → Nat) : (w9 cA cL a u)[3]? = some (hm a u 3, GC cA cL (hm a u) 3 (sc00.1 3) (sc00.2 3)) := rfl
set_option maxRecDepth 20000 in
theorem we_4 (cA cL : ClassId) (a : Nat) (u : Nat → Nat) : (w9 cA cL a u)[4]? = some (hm a u 4, GC cA cL (hm a u) 4 (sc00.1 4) (sc00.2 4)) := rfl
set_option maxRecDepth 20000 in
theorem we_5 (cA cL : ClassId) (a : Nat) (u : Nat → Nat) : (w9 cA cL a u)[5]? = some (hm a u 5, GC cA cL (hm a u) 5 (sc00.1 5) (sc00.2 5)) := rfl
set_option maxRecDepth 20000 in
theorem we_6 (cA cL : ClassId) (a : Nat) (u : Nat → Nat) : (w9 cA cL a u)[6]? = some (hm a u 6, GC cA cL (hm a u) 6 (sc00.1 6) (sc00.2 6)) := rfl
set_option maxRecDepth 20000 in
theorem we_7 (cA cL : ClassId) (a : Nat) (u : Nat → Nat) : (w9 cA cL a u)[7]? = some (hm a u 7, GC cA cL (hm a u) 7 (sc00.1 7) (sc00.2 7)) := rfl
set_option maxRecDepth 20000 in
theorem we_8 (cA cL : ClassId) (a : Nat) (u : Nat → Nat) : (w9 cA cL a u)[8]? = some (hm a u 8, GC cA cL (hm a u) 8 (sc00.1 8) (sc00.2 8)) := rfl
set_option maxRecDepth 20000 in
theorem we_9 (cA cL : ClassId) (a : Nat) (u : Nat → Nat) : (w9 cA cL a u)[9]? = some (hm a u 9, GC cA cL (hm a u) 9 (sc00.1 9) (sc00.2 9)) := rfl
set_option maxRecDepth 20000 in
theorem we_10 (cA cL : ClassId) (a : Nat) (u : Nat → Nat) : (w9 cA cL a u)[10]? = some (hm a u 10, GC cA cL (hm a u) 10 (sc00.1 10) (sc00.2 10)) := rfl
set_option maxRecDepth 20000 in
theorem we_11 (cA cL : ClassId) (a : Nat) (u : Nat → Nat) : (w9 cA cL a u)[11]? = some (hm a u 11, GC cA cL (hm a u) 11 (sc00.1 11) (sc00.2 11)) := rfl
set_option maxRecDepth 20000 in
theorem we_12 (cA cL : ClassId) (a : Nat) (u : Nat → Nat) : (w9 cA cL a u)[12]? = some (hm a u 12, GC cA cL (hm a u) 12 (sc00.1 12) (sc00.2 12)) := rfl
set_option maxRecDepth 20000 in
theorem we_13 (cA cL : ClassId) (a : Nat) (u : Nat → Nat) : (w9 cA cL a u)[13]? = some (hm a u 13, GC cA cL (hm a u) 13 (sc00.1 13) (sc00.2 13)) := rfl
set_option maxRecDepth 20000 in
theorem we_14 (cA cL : ClassId) (a : Nat) (u : Nat → Nat) : (w9 cA cL a u)[14]? = some (hm a u 14, GC cA cL (hm a u) 14 (sc00.1 14) (sc00.2 14)) := rfl
set_option maxRecDepth 20000 in
theorem we_15 (cA cL : ClassId) (a : Nat) (u : Nat → Nat) : (w9 cA cL a u)[15]? = some (hm a u 15, GC cA cL (hm a u) 15 (sc00.1 15) (sc00.2 15)) := rfl
set_option maxRecDepth 20000 in
theorem we_16 (cA cL : ClassId) (a : Nat) (u : Nat → Nat) : (w9 cA cL a u)[16]? = some (hm a u 16, GC cA cL (hm a u) 16 (sc00.1 16) (sc00.2 16)) := rfl
set_option maxRecDepth 20000 in
theorem we_17 (cA cL : ClassId) (a : Nat) (u : Nat → Nat) : (w9 cA cL a u)[17]? = some (hm a u 17, GC cA cL (hm a u) 17 (sc00.1 17) (sc00.2 17)) := rfl
set_option maxRecDepth 20000 in
theorem we_18 (cA cL : ClassId) (a : Nat) (u : Nat → Nat) : (w9 cA cL a u)[18]? = some (hm a u 18, GC cA cL (hm a u) 18 (sc00.1 18) (sc00.2 18)) := rfl
set_option maxRecDepth 20000 in
theorem we_19 (cA cL : ClassId) (a : Nat) (u : Nat → Nat) : (w9 cA cL a u)[19]? = some (hm a u 19, GC cA cL (hm a u) 19 (sc00.1 19) (sc00.2 19)) := rfl
set_option maxRecDepth 20000 in
theorem we_20 (cA cL : ClassId) (a : Nat) (u : Nat → Nat) : (w9 cA cL a u)[20]? = some (hm a u 20, GC cA cL (hm a u) 20 (sc00.1 20) (sc00.2 20)) := rfl
set_option maxRecDepth 20000 in
theorem we_21 (cA cL : ClassId) (a : Nat) (u : Nat → Nat) : (w9 cA cL a u)[21]? = some (hm a u 21, GC cA cL (hm a u) 21 (sc00.1 21) (sc00.2 21)) := rfl
set_option maxRecDepth 20000 in
theorem we_22 (cA cL : ClassId) (a : Nat) (u : Nat → Nat) : (w9 cA cL a u)[22]? = some (hm a u 22, GC cA cL (hm a u) 22 (sc00.1 22) (sc00.2 22)) := rfl
set_option maxRecDepth 20000 in
theorem we_23 (cA cL : ClassId) (a : Nat) (u : Nat → Nat) : (w9 cA cL a u)[23]? = some (hm a u 23, GC cA cL (hm a u) 23 (sc00.1 23) (sc00.2 23)) := rfl
set_option maxRecDepth 20000 in
theorem we_24 (cA cL : ClassId) (a : Nat) (u : Nat → Nat) : (w9 cA cL a u)[24]? = some (hm a u 24, GC cA cL (hm a u) 24 (sc00.1 24) (sc00.2 24)) := rfl
set_option maxRecDepth 20000 in
theorem we_25 (cA cL : ClassId) (a : Nat) (u : Nat → Nat) : (w9 cA cL a u)[25]? = some (hm a u 25, GC cA cL (hm a u) 25 (sc00.1 25) (sc00.2 25)) := rfl
set_option maxRecDepth 20000 in
theorem we_26 (cA cL : ClassId) (a : Nat) (u : Nat → Nat) : (w9 cA cL a u)[26]? = some (hm a u 26, GC cA cL (hm a u) 26 (sc00.1 26) (sc00.2 26)) := rfl
set_option maxRecDepth 20000 in
theorem we_27 (cA cL : ClassId) (a : Nat) (u : Nat → Nat) : (w9 cA cL a u)[27]? = some (hm a u 27, GC cA cL (hm a u) 27 (sc00.1 27) (sc00.2 27)) := rfl
set_option maxRecDepth 20000 in
theorem we_28 (cA cL : ClassId) (a : Nat) (u : Nat → Nat) : (w9 cA cL a u)[28]? = some (hm a u 28, GC cA cL (hm a u) 28 (sc00.1 28) (sc00.2 28)) := rfl
set_option maxRecDepth 20000 in
theorem we_29 (cA cL : ClassId) (a : Nat) (u : Nat → Nat) : (w9 cA cL a u)[29]? = some (hm a u 29, GC cA cL (hm a u) 29 (sc00.1 29) (sc00.2 29)) := rfl
set_option maxRecDepth 20000 in
theorem we_30 (cA cL : ClassId) (a : Nat) (u : Nat → Nat) : (w9 cA cL a u)[30]? = some (hm a u 30, GC cA cL (hm a u) 30 (sc00.1 30) (sc00.2 30)) := rfl
set_option maxRecDepth 20000 in
theorem we_31 (cA cL : ClassId) (a : Nat) (u : Nat → Nat) : (w9 cA cL a u)[31]? = some (hm a u 31, GC cA cL (hm a u) 31 (sc00.1 31) (sc00.2 31)) := rfl
set_option maxRecDepth 20000 in
theorem we_32 (cA cL : ClassId) (a : Nat) (u : Nat → Nat) : (w9 cA cL a u)[32]? = some (hm a u 32, GC cA cL (hm a u) 32 (sc00.1 32) (sc00.2 32)) := rfl
set_option maxRecDepth 20000 in
theorem we_33 (cA cL : ClassId) (a : Nat) (u : Nat → Nat) : (w9 cA cL a u)[33]? = some (hm a u 33, GC cA cL (hm a u) 33 (sc00.1 33) (sc00.2 33)) := rfl
set_option maxRecDepth 20000 in
theorem we_34 (cA cL : ClassId) (a : Nat) (u : Nat → Nat) : (w9 cA cL a u)[34]? = some (hm a u 34, GC cA cL (hm a u) 34 (sc00.1 34) (sc00.2 34)) := rfl
set_option maxRecDepth 20000 in
theorem we_35 (cA cL : ClassId) (a : Nat) (u : Nat → Nat) : (w9 cA cL a u)[35]? = some (hm a u 35, GC cA cL (hm a u) 35 (sc00.1 35) (sc00.2 35)) := rfl
set_option maxRecDepth 20000 in
theorem we_36 (cA cL : ClassId) (a : Nat) (u : Nat → Nat) : (w9 cA cL a u)[36]? = some (hm a u 36, GC cA cL (hm a u) 36 (sc00.1 36) (sc00.2 36)) := rfl
set_option maxRecDepth 20000 in
theorem we_37 (cA cL : ClassId) (a : Nat) (u : Nat → Nat) : (w9 cA cL a u)[37]? = some (hm a u 37, GC cA cL (hm a u) 37 (sc00.1 37) (sc00.2 37)) := rfl
set_option maxRecDepth 20000 in
theorem we_38 (cA cL : ClassId) (a : Nat) (u : Nat → Nat) : (w9 cA cL a u)[38]? = some (hm a u 38, GC cA cL (hm a u) 38 (sc00.1 38) (sc00.2 38)) := rfl
set_option maxRecDepth 20000 in
theorem we_39 (cA cL : ClassId) (a : Nat) (u : Nat → Nat) : (w9 cA cL a u)[39]? = some (hm a u 39, GC cA cL (hm a u) 39 (sc00.1 39) (sc00.2 39)) := rfl
set_option maxRecDepth 20000 in
theorem we_40 (cA cL : ClassId) (a : Nat) (u : Nat → Nat) : (w9 cA cL a u)[40]? = some (hm a u 40, GC cA cL (hm a u) 40 (sc00.1 40) (sc00.2 40)) := rfl
set_option maxRecDepth 20000 in
theorem we_41 (cA cL : ClassId) (a : Nat) (u : Nat → Nat) : (w9 cA cL a u)[41]? = some (hm a u 41, GC cA cL (hm a u) 41 (sc00.1 41) (sc00.2 41)) := rfl
set_option maxRecDepth 20000 in
theorem we_42 (cA cL : ClassId) (a : Nat) (u : Nat → Nat) : (w9 cA cL a u)[42]? = some (hm a u 42, GC cA cL (hm a u) 42 (sc00.1 42) (sc00.2 42)) := rfl
set_option maxRecDepth 20000 in
theorem we_43 (cA cL : ClassId) (a : Nat) (u : Nat → Nat) : (w9 cA cL a u)[43]? = some (hm a u 43, GC cA cL (hm a u) 43 (sc00.1 43) (sc00.2 43)) := rfl
set_option maxRecDepth 20000 in
theorem we_44 (cA cL : ClassId) (a : Nat) (u : Nat → Nat) : (w9 cA cL a u)[44]? = some (hm a u 44, GC cA cL (hm a u) 44 (sc00.1 44) (sc00.2 44)) := rfl
set_option maxRecDepth 20000 in
theorem we_45 (cA cL : ClassId) (a : Nat) (u : Nat → Nat) : (w9 cA cL a u)[45]? = some (hm a u 45, GC cA cL (hm a u) 45 (sc00.1 45) (sc00.2 45)) := rfl
set_option maxRecDepth 20000 in
theorem we_46 (cA cL : ClassId) (a : Nat) (u : Nat → Nat) : (w9 cA cL a u)[46]? = some (hm a u 46, GC cA cL (hm a u) 46 (sc00.1 46) (sc00.2 46)) := rfl
set_option maxRecDepth 20000 in
theorem we_47 (cA cL : ClassId) (a : Nat) (u : Nat → Nat) : (w9 cA cL a u)[47]? = some (hm a u 47, GC cA cL (hm a u) 47 (sc00.1 47) (sc00.2 47)) := rfl
set_option maxRecDepth 20000 in
theorem we_48 (cA cL : ClassId) (a : Nat) (u : Nat → Nat) : (w9 cA cL a u)[48]? = some (hm a u 48, GC cA cL (hm a u) 48 (sc00.1 48) (sc00.2 48)) := rfl
set_option maxRecDepth 20000 in
theorem we_49 (cA cL : ClassId) (a : Nat) (u : Nat → Nat) : (w9 cA cL a u)[49]? = some (hm a u 49, GC cA cL (hm a u) 49 (sc00.1 49) (sc00.2 49)) := rfl
set_option maxRecDepth 20000 in
theorem we_50 (cA cL : ClassId) (a : Nat) (u : Nat → Nat) : (w9 cA cL a u)[50]? = some (hm a u 50, GC cA cL (hm a u) 50 (sc00.1 50) (sc00.2 50)) := rfl
set_option maxRecDepth 20000 in
theorem we_51 (cA cL : ClassId) (a : Nat) (u : Nat → Nat) : (w9 cA cL a u)[51]? = some (hm a u 51, GC cA cL (hm a u) 51 (sc00.1 51) (sc00.2 51)) := rfl
set_option maxRecDepth 20000 in
theorem we_52 (cA cL : ClassId) (a : Nat) (u : Nat → Nat) : (w9 cA cL a u)[52]? = some (hm a u 52, GC cA cL (hm a u) 52 (sc00.1 52) (sc00.2 52)) := rfl
set_option maxRecDepth 20000 in
theorem we_53 (cA cL : ClassId) (a : Nat) (u : Nat → Nat) : (w9 cA cL a u)[53]? = some (hm a u 53, GC cA cL (hm a u) 53 (sc00.1 53) (sc00.2 53)) := rfl
set_option maxRecDepth 20000 in
theorem we_54 (cA cL : ClassId) (a : Nat) (u : Nat → Nat) : (w9 cA cL a u)[54]? = some (hm a u 54, GC cA cL (hm a u) 54 (sc00.1 54) (sc00.2 54)) := rfl
set_option maxRecDepth 20000 in
theorem we_55 (cA cL : ClassId) (a : Nat) (u : Nat → Nat) : (w9 cA cL a u)[55]? = some (hm a u 55, GC cA cL (hm a u) 55 (sc00.1 55) (sc00.2 55)) := rfl
set_option maxRecDepth 20000 in
theorem we_56 (cA cL : ClassId) (a : Nat) (u : Nat → Nat) : (w9 cA cL a u)[56]? = some (hm a u 56, GC cA cL (hm a u) 56 (sc00.1 56) (sc00.2 56)) := rfl
set_option maxRecDepth 20000 in
theorem we_57 (cA cL : ClassId) (a : Nat) (u : Nat → Nat) : (w9 cA cL a u)[57]? = some (hm a u 57, GC cA cL (hm a u) 57 (sc00.1 57) (sc00.2 57)) := rfl
set_option maxRecDepth 20000 in
theorem we_58 (cA cL : ClassId) (a : Nat) (u : Nat → Nat) : (w9 cA cL a u)[58]? = some (hm a u 58, GC cA cL (hm a u) 58 (sc00.1 58) (sc00.2 58)) := rfl
set_option maxRecDepth 20000 in
theorem we_59 (cA cL : ClassId) (a : Nat) (u : Nat → Nat) : (w9 cA cL a u)[59]? = some (hm a u 59, GC cA cL (hm a u) 59 (sc00.1 59) (sc00.2 59)) := rfl
set_option maxRecDepth 20000 in
theorem we_60 (cA cL : ClassId) (a : Nat) (u : Nat → Nat) : (w9 cA cL a u)[60]? = some (hm a u 60, GC cA cL (hm a u) 60 (sc00.1 60) (sc00.2 60)) := rfl
set_option maxRecDepth 20000 in
theorem we_61 (cA cL : ClassId) (a : Nat) (u : Nat → Nat) : (w9 cA cL a u)[61]? = some (hm a u 61, GC cA cL (hm a u) 61 (sc00.1 61) (sc00.2 61)) := rfl
set_option maxRecDepth 20000 in
theorem we_62 (cA cL : ClassId) (a : Nat) (u : Nat → Nat) : (w9 cA cL a u)[62]? = some (hm a u 62, GC cA cL (hm a u) 62 (sc00.1 62) (sc00.2 62)) := rfl
set_option maxRecDepth 20000 in
theorem we_63 (cA cL : ClassId) (a : Nat) (u : Nat → Nat) : (w9 cA cL a u)[63]? = some (hm a u 63, GC cA cL (hm a u) 63 (sc00.1 63) (sc00.2 63)) := rfl
set_option maxRecDepth 20000 in
theorem we_64 (cA cL : ClassId) (a : Nat) (u : Nat → Nat) : (w9 cA cL a u)[64]? = some (hm a u 64, GC cA cL (hm a u) 64 (sc00.1 64) (sc00.2 64)) := rfl
set_option maxRecDepth 20000 in
theorem we_65 (cA cL : ClassId) (a : Nat) (u : Nat → Nat) : (w9 cA cL a u)[65]? = some (hm a u 65, GC cA cL (hm a u) 65 (sc00.1 65) (sc00.2 65)) := rfl
set_option maxRecDepth 20000 in
theorem we_66 (cA cL : ClassId) (a : Nat) (u : Nat → Nat) : (w9 cA cL a u)[66]? = some (hm a u 66, GC cA cL (hm a u) 66 (sc00.1 66) (sc00.2 66)) := rfl
set_option maxRecDepth 20000 in
theorem we_67 (cA cL : ClassId) (a : Nat) (u : Nat → Nat) : (w9 cA cL a u)[67]? = some (hm a u 67, GC cA cL (hm a u) 67 (sc00.1 67) (sc00.2 67)) := rfl
set_option maxRecDepth 20000 in
theorem we_68 (cA cL : ClassId) (a : Nat) (u : Nat → Nat) : (w9 cA cL a u)[68]? = some (hm a u 68, GC cA cL (hm a u) 68 (sc00.1 68) (sc00.2 68)) := rfl
set_option maxRecDepth 20000 in
theorem we_69 (cA cL : ClassId) (a : Nat) (u : Nat → Nat) : (w9 cA cL a u)[69]? = some (hm a u 69, GC cA cL (hm a u) 69 (sc00.1 69) (sc00.2 69)) := rfl
set_option maxRecDepth 20000 in
theorem we_70 (cA cL : ClassId) (a : Nat) (u : Nat → Nat) : (w9 cA cL a u)[70]? = some (hm a u 70, GC cA cL (hm a u) 70 (sc00.1 70) (sc00.2 70)) := rfl
set_option maxRecDepth 20000 in
theorem we_71 (cA cL : ClassId) (a : Nat) (u : Nat → Nat) : (w9 cA cL a u)[71]? = some (hm a u 71, GC cA cL (hm a u) 71 (sc00.1 71) (sc00.2 71)) := rfl
set_option maxRecDepth 20000 in
theorem we_72 (cA cL : ClassId) (a : Nat) (u : Nat → Nat) : (w9 cA cL a u)[72]? = some (hm a u 72, GC cA cL (hm a u) 72 (sc00.1 72) (sc00.2 72)) := rfl
set_option maxRecDepth 20000 in
theorem we_73 (cA cL : ClassId) (a : Nat) (u : Nat → Nat) : (w9 cA cL a u)[73]? = some (hm a u 73, GC cA cL (hm a u) 73 (sc00.1 73) (sc00.2 73)) := rfl
set_option maxRecDepth 20000 in
theorem we_74 (cA cL : ClassId) (a : Nat) (u : Nat → Nat) : (w9 cA cL a u)[74]? = some (hm a u 74, GC cA cL (hm a u) 74 (sc00.1 74) (sc00.2 74)) := rfl
set_option maxRecDepth 20000 in
theorem we_75 (cA cL : ClassId) (a : Nat) (u : Nat → Nat) : (w9 cA cL a u)[75]? = some (hm a u 75, GC cA cL (hm a u) 75 (sc00.1 75) (sc00.2 75)) := rfl
set_option maxRecDepth 20000 in
theorem we_76 (cA cL : ClassId) (a : Nat) (u : Nat → Nat) : (w9 cA cL a u)[76]? = some (hm a u 76, GC cA cL (hm a u) 76 (sc00.1 76) (sc00.2 76)) := rfl
set_option maxRecDepth 20000 in
theorem we_77 (cA cL : ClassId) (a : Nat) (u : Nat → Nat) : (w9 cA cL a u)[77]? = some (hm a u 77, GC cA cL (hm a u) 77 (sc00.1 77) (sc00.2 77)) := rfl
set_option maxRecDepth 20000 in
theorem we_78 (cA cL : ClassId) (a : Nat) (u : Nat → Nat) : (w9 cA cL a u)[78]? = some (hm a u 78, GC cA cL (hm a u) 78 (sc00.1 78) (sc00.2 78)) := rfl
set_option maxRecDepth 20000 in
theorem we_79 (cA cL : ClassId) (a : Nat) (u : Nat → Nat) : (w9 cA cL a u)[79]? = some (hm a u 79, GC cA cL (hm a u) 79 (sc00.1 79) (sc00.2 79)) := rfl
set_option maxRecDepth 20000 in
theorem we_80 (cA cL : ClassId) (a : Nat) (u : Nat → Nat) : (w9 cA cL a u)[80]? = some (hm a u 80, GC cA cL (hm a u) 80 (sc00.1 80) (sc00.2 80)) := rfl
set_option maxRecDepth 20000 in
theorem we_82 (cA cL : ClassId) (a : Nat) (u : Nat → Nat) : (w9 cA cL a u)[82]? = some (hm a u 82, GC cA cL (hm a u) 82 (sc00.1 82) (sc00.2 82)) := rfl
set_option maxRecDepth 20000 in
theorem we_83 (cA cL : ClassId) (a : Nat) (u : Nat → Nat) : (w9 cA cL a u)[83]? = some (hm a u 83, GC cA cL (hm a u) 83 (sc00.1 83) (sc00.2 83)) := rfl
set_option maxRecDepth 20000 in
theorem we_84 (cA cL : ClassId) (a : Nat) (u : Nat → Nat) : (w9 cA cL a u)[84]? = some (hm a u 84, GC cA cL (hm a u) 84 (sc00.1 84) (sc00.2 84)) := rfl
set_option maxRecDepth 20000 in
theorem we_85 (cA cL : ClassId) (a : Nat) (u : Nat → Nat) : (w9 cA cL a u)[85]? = some (hm a u 85, GC cA cL (hm a u) 85 (sc00.1 85) (sc00.2 85)) := rfl
set_option maxRecDepth 20000 in
theorem we_86 (cA cL : ClassId) (a : Nat) (u : Nat → Nat) : (w9 cA cL a u)[86]? = some (hm a u 86, GC cA cL (hm a u) 86 (sc00.1 86) (sc00.2 86)) := rfl
set_option maxRecDepth 20000 in
theorem we_87 (cA cL : ClassId) (a : Nat) (u : Nat → Nat) : (w9 cA cL a u)[87]? = some (hm a u 87, GC cA cL (hm a u) 87 (sc00.1 87) (sc00.2 87)) := rfl
set_option maxRecDepth 20000 in
theorem we_88 (cA cL : ClassId) (a : Nat) (u : Nat → Nat) : (w9 cA cL a u)[88]? = some (hm a u 88, GC cA cL (hm a u) 88 (sc00.1 88) (sc00.2 88)) := rfl
set_option maxRecDepth 20000 in
theorem we_89 (cA cL : ClassId) (a : Nat) (u : Nat → Nat) : (w9 cA cL a u)[89]? = some (hm a u 89, GC cA cL (hm a u) 89 (sc00.1 89) (sc00.2 89)) := rfl
set_option maxRecDepth 20000 in
theorem we_90 (cA cL : ClassId) (a : Nat) (u : Nat → Nat) : (w9 cA cL a u)[90]? = some (hm a u 90, GC cA cL (hm a u) 90 (sc00.1 90) (sc00.2 90)) := rfl
set_option maxRecDepth 20000 in
theorem we_91 (cA cL : ClassId) (a : Nat) (u : Nat → Nat) : (w9 cA cL a u)[91]? = some (hm a u 91, GC cA cL (hm a u) 91 (sc00.1 91) (sc00.2 91)) := rfl
set_option maxRecDepth 20000 in
theorem we_92 (cA cL : ClassId) (a : Nat) (u : Nat → Nat) : (w9 cA cL a u)[92]? = some (hm a u 92, GC cA cL (hm a u) 92 (sc00.1 92) (sc00.2 92)) := rfl
set_option maxRecDepth 20000 in
theorem we_93 (cA cL : ClassId) (a : Nat) (u : Nat → Nat) : (w9 cA cL a u)[93]? = some (hm a u 93, GC cA cL (hm a u) 93 (sc00.1 93) (sc00.2 93)) := rfl
set_option maxRecDepth 20000 in
theorem we_94 (cA cL : ClassId) (a : Nat) (u : Nat → Nat) : (w9 cA cL a u)[94]? = some (hm a u 94, GC cA cL (hm a u) 94 (sc00.1 94) (sc00.2 94)) := rfl
set_option maxRecDepth 20000 in
theorem we_95 (cA cL : ClassId) (a : Nat) (u : Nat → Nat) : (w9 cA cL a u)[95]? = some (hm a u 95, GC cA cL (hm a u) 95 (sc00.1 95) (sc00.2 95)) := rfl
set_option maxRecDepth 20000 in
theorem we_96 (cA cL : ClassId) (a : Nat) (u : Nat → Nat) : (w9 cA cL a u)[96]? = some (hm a u 96, GC cA cL (hm a u) 96 (sc00.1 96) (sc00.2 96)) := rfl
set_option maxRecDepth 20000 in
theorem we_97 (cA cL : ClassId) (a : Nat) (u : Nat → Nat) : (w9 cA cL a u)[97]? = some (hm a u 97, GC cA cL (hm a u) 97 (sc00.1 97) (sc00.2 97)) := rfl
set_option maxRecDepth 20000 in
theorem we_98 (cA cL : ClassId) (a : Nat) (u : Nat → Nat) : (w9 cA cL a u)[98]? = some (hm a u 98, GC cA cL (hm a u) 98 (sc00.1 98) (sc00.2 98)) := rfl
set_option maxRecDepth 20000 in
theorem we_99 (cA cL : ClassId) (a : Nat) (u : Nat → Nat) : (w9 cA cL a u)[99]? = some (hm a u 99, GC cA cL (hm a u) 99 (sc00.1 99) (sc00.2 99)) := rfl
set_option maxRecDepth 20000 in
theorem we_100 (cA cL : ClassId) (a : Nat) (u : Nat → Nat) : (w9 cA cL a u)[100]? = some (hm a u 100, GC cA cL (hm a u) 100 (sc00.1 100) (sc00.2 100)) := rfl
set_option maxRecDepth 20000 in
theorem we_101 (cA cL : ClassId) (a : Nat) (u : Nat → Nat) : (w9 cA cL a u)[101]? = some (hm a u 101, GC cA cL (hm a u) 101 (sc00.1 101) (sc00.2 101)) := rfl
set_option maxRecDepth 20000 in
theorem we_102 (cA cL : ClassId) (a : Nat) (u : Nat → Nat) : (w9 cA cL a u)[102]? = some (hm a u 102, GC cA cL (hm a u) 102 (sc00.1 102) (sc00.2 102)) := rfl
set_option maxRecDepth 20000 in
theorem we_103 (cA cL : ClassId) (a : Nat) (u : Nat → Nat) : (w9 cA cL a u)[103]? = some (hm a u 103, GC cA cL (hm a u) 103 (sc00.1 103) (sc00.2 103)) := rfl
set_option maxRecDepth 20000 in
theorem we_104 (cA cL : ClassId) (a : Nat) (u : Nat → Nat) : (w9 cA cL a u)[104]? = some (hm a u 104, GC cA cL (hm a u) 104 (sc00.1 104) (sc00.2 104)) := rfl
set_option maxRecDepth 20000 in
theorem we_105 (cA cL : ClassId) (a : Nat) (u : Nat → Nat) : (w9 cA cL a u)[105]? = some (hm a u 105, GC cA cL (hm a u) 105 (sc00.1 105) (sc00.2 105)) := rfl
set_option maxRecDepth 20000 in
theorem we_106 (cA cL : ClassId) (a : Nat) (u : Nat → Nat) : (w9 cA cL a u)[106]? = some (hm a u 106, GC cA cL (hm a u) 106 (sc00.1 106) (sc00.2 106)) := rfl
set_option maxRecDepth 20000 in
theorem we_107 (cA cL : ClassId) (a : Nat) (u : Nat → Nat) : (w9 cA cL a u)[107]? = some (hm a u 107, GC cA cL (hm a u) 107 (sc00.1 107) (sc00.2 107)) := rfl
set_option maxRecDepth 20000 in
theorem we_108 (cA cL : ClassId) (a : Nat) (u : Nat → Nat) : (w9 cA cL a u)[108]? = some (hm a u 108, GC cA cL (hm a u) 108 (sc00.1 108) (sc00.2 108)) := rfl
set_option maxRecDepth 20000 in
theorem we_109 (cA cL : ClassId) (a : Nat) (u : Nat → Nat) : (w9 cA cL a u)[109]? = some (hm a u 109, GC cA cL (hm a u) 109 (sc00.1 109) (sc00.2 109)) := rfl
set_option maxRecDepth 20000 in
theorem we_110 (cA cL : ClassId) (a : Nat) (u : Nat → Nat) : (w9 cA cL a u)[110]? = some (hm a u 110, GC cA cL (hm a u) 110 (sc00.1 110) (sc00.2 110)) := rfl
set_option maxRecDepth 20000 in
theorem we_111 (cA cL : ClassId) (a : Nat) (u : Nat → Nat) : (w9 cA cL a u)[111]? = some (hm a u 111, GC cA cL (hm a u) 111 (sc00.1 111) (sc00.2 111)) := rfl
set_option maxRecDepth 20000 in
theorem we_112 (cA cL : ClassId) (a : Nat) (u : Nat → Nat) : (w9 cA cL a u)[112]? = some (hm a u 112, GC cA cL (hm a u) 112 (sc00.1 112) (sc00.2 112)) := rfl
set_option maxRecDepth 20000 in
theorem we_113 (cA cL : ClassId) (a : Nat) (u : Nat → Nat) : (w9 cA cL a u)[113]? = some (hm a u 113, GC cA cL (hm a u) 113 (sc00.1 113) (sc00.2 113)) := rfl
set_option maxRecDepth 20000 in
theorem we_114 (cA cL : ClassId) (a : Nat) (u : Nat → Nat) : (w9 cA cL a u)[114]? = some (hm a u 114, GC cA cL (hm a u) 114 (sc00.1 114) (sc00.2 114)) := rfl
set_option maxRecDepth 20000 in
theorem we_115 (cA cL : ClassId) (a : Nat) (u : Nat → Nat) : (w9 cA cL a u)[115]? = some (hm a u 115, GC cA cL (hm a u) 115 (sc00.1 115) (sc00.2 115)) := rfl
set_option maxRecDepth 20000 in
theorem we_116 (cA cL : ClassId) (a : Nat) (u : Nat → Nat) : (w9 cA cL a u)[116]? = some (hm a u 116, GC cA cL (hm a u) 116 (sc00.1 116) (sc00.2 116)) := rfl
set_option maxRecDepth 20000 in
theorem we_117 (cA cL : ClassId) (a : Nat) (u : Nat → Nat) : (w9 cA cL a u)[117]? = some (hm a u 117, GC cA cL (hm a u) 117 (sc00.1 117) (sc00.2 117)) := rfl
set_option maxRecDepth 20000 in
theorem we_118 (cA cL : ClassId) (a : Nat) (u : Nat → Nat) : (w9 cA cL a u)[118]? = some (hm a u 118, GC cA cL (hm a u) 118 (sc00.1 118) (sc00.2 118)) := rfl
set_option maxRecDepth 20000 in
theorem we_119 (cA cL : ClassId) (a : Nat) (u : Nat → Nat) : (w9 cA cL a u)[119]? = some (hm a u 119, GC cA cL (hm a u) 119 (sc00.1 119) (sc00.2 119)) := rfl
set_option maxRecDepth 20000 in
theorem we_120 (cA cL : ClassId) (a : Nat) (u : Nat → Nat) : (w9 cA cL a u)[120]? = some (hm a u 120, GC cA cL (hm a u) 120 (sc00.1 120) (sc00.2 120)) := rfl
set_option maxRecDepth 20000 in
theorem we_121 (cA cL : ClassId) (a : Nat) (u : Nat → Nat) : (w9 cA cL a u)[121]? = some (hm a u 121, GC cA cL (hm a u) 121 (sc00.1 121) (sc00.2 121)) := rfl
set_option maxRecDepth 20000 in
theorem we_122 (cA cL : ClassId) (a : Nat) (u : Nat → Nat) : (w9 cA cL a u)[122]? = some (hm a u 122, GC cA cL (hm a u) 122 (sc00.1 122) (sc00.2 122)) := rfl
set_option maxRecDepth 20000 in
theorem we_123 (cA cL : ClassId) (a : Nat) (u : Nat → Nat) : (w9 cA cL a u)[123]? = some (hm a u 123, GC cA cL (hm a u) 123 (sc00.1 123) (sc00.2 123)) := rfl
set_option maxRecDepth 20000 in
theorem we_124 (cA cL : ClassId) (a : Nat) (u : Nat → Nat) : (w9 cA cL a u)[124]? = some (hm a u 124, GC cA cL (hm a u) 124 (sc00.1 124) (sc00.2 124)) := rfl
set_option maxRecDepth 20000 in
theorem we_81 (cA cL : ClassId) (a : Nat) (u : Nat → Nat) : (w9 cA cL a u)[81]? = some (hm a u 81, .inl (cL, 6, .inr (.inr (.inr (.inr (va_up (va_up (va_up (va_up (va_up (va_up (fun _ => none) 0 (some (u 82))) 1 (some (u 89))) 2 (some (u 96))) 3 (some (u 103))) 4 (some (u 110))) 5 (some (u 117)))))))) := rfl
theorem arrV_ext {cA : ClassId} {n : Nat} {f g : Nat → Value} (h : ∀ j, j < n → f j = g j) : arrV cA n f = arrV cA n g := by
  have e : (fun j : Fin n => f j.val) = fun j : Fin n => g j.val := funext fun j => h j.val j.isLt
  unfold arrV
  rw [e]
theorem lands_eq (cL : ClassId) (u : Nat → Nat) (a : Nat) : vp_cell cL (6, .inr (.inr (.inr (.inr (va_up (va_up (va_up (va_up (va_up (va_up (fun _ => none) 0 (some (u 82))) 1 (some (u 89))) 2 (some (u 96))) 3 (some (u 103))) 4 (some (u 110))) 5 (some (u 117))))))) = vp_cell cL (6, .inr (.inr (.inr (.inr (fun i => some (hm a u (83 + 7 * i))))))) := by
  rw [vp_cell_q, vp_cell_q]
  apply arrV_ext
  intro j hj
  have hj2 : j = 0 ∨ j = 1 ∨ j = 2 ∨ j = 3 ∨ j = 4 ∨ j = 5 := by omega
  rcases hj2 with rfl | rfl | rfl | rfl | rfl | rfl <;> rfl
theorem we_at {D : va_G} {cA cL : ClassId} {a : Nat} {u : Nat → Nat} {H : Heap} (hP : va_P D vwCl (w9 cA cL a u) H) : ∀ k, k < 125 → va_at D vwCl (hm a u k, GC cA cL (hm a u) k (sc00.1 k) (sc00.2 k)) H := by
  have h81 : va_at D vwCl (hm a u 81, GC cA cL (hm a u) 81 (sc00.1 81) (sc00.2 81)) H := by
    have q := hP 81 _ (we_81 cA cL a u)
    show H[hm a u 81]? = some _
    exact (q : H[hm a u 81]? = some _).trans (congrArg some (lands_eq cL u a))
  exact lt_s (lt_s (lt_s (lt_s (lt_s (lt_s (lt_s (lt_s (lt_s (lt_s (lt_s (lt_s (lt_s (lt_s (lt_s (lt_s (lt_s (lt_s (lt_s (lt_s (lt_s (lt_s (lt_s (lt_s (lt_s (lt_s (lt_s (lt_s (lt_s (lt_s (lt_s (lt_s (lt_s (lt_s (lt_s (lt_s (lt_s (lt_s (lt_s (lt_s (lt_s (lt_s (lt_s (lt_s (lt_s (lt_s (lt_s (lt_s (lt_s (lt_s (lt_s (lt_s (lt_s (lt_s (lt_s (lt_s (lt_s (lt_s (lt_s (lt_s (lt_s (lt_s (lt_s (lt_s (lt_s (lt_s (lt_s (lt_s (lt_s (lt_s (lt_s (lt_s (lt_s (lt_s (lt_s (lt_s (lt_s (lt_s (lt_s (lt_s (lt_s (lt_s (lt_s (lt_s (lt_s (lt_s (lt_s (lt_s (lt_s (lt_s (lt_s (lt_s (lt_s (lt_s (lt_s (lt_s (lt_s (lt_s (lt_s (lt_s (lt_s (lt_s (lt_s (lt_s (lt_s (lt_s (lt_s (lt_s (lt_s (lt_s (lt_s (lt_s (lt_s (lt_s (lt_s (lt_s (lt_s (lt_s (lt_s (lt_s (lt_s (lt_s (lt_s (lt_s (lt_s (lt_0) (hP 0 _ (we_0 cA cL a u))) (hP 1 _ (we_1 cA cL a u))) (hP 2 _ (we_2 cA cL a u))) (hP 3 _ (we_3 cA cL a u))) (hP 4 _ (we_4 cA cL a u))) (hP 5 _ (we_5 cA cL a u))) (hP 6 _ (we_6 cA cL a u))) (hP 7 _ (we_7 cA cL a u))) (hP 8 _ (we_8 cA cL a u))) (hP 9 _ (we_9 cA cL a u))) (hP 10 _ (we_10 cA cL a u))) (hP 11 _ (we_11 cA cL a u))) (hP 12 _ (we_12 cA cL a u))) (hP 13 _ (we_13 cA cL a u))) (hP 14 _ (we_14 cA cL a u))) (hP 15 _ (we_15 cA cL a u))) (hP 16 _ (we_16 cA cL a u))) (hP 17 _ (we_17 cA cL a u))) (hP 18 _ (we_18 cA cL a u))) (hP 19 _ (we_19 cA cL a u))) (hP 20 _ (we_20 cA cL a u))) (hP 21 _ (we_21 cA cL a u))) (hP 22 _ (we_22 cA cL a u))) (hP 23 _ (we_23 cA cL a u))) (hP 24 _ (we_24 cA cL a u))) (hP 25 _ (we_25 cA cL a u))) (hP 26 _ (we_26 cA cL a u))) (hP 27 _ (we_27 cA cL a u))) (hP 28 _ (we_28 cA cL a u))) (hP 29 _ (we_29 cA cL a u))) (hP 30 _ (we_30 cA cL a u))) (hP 31 _ (we_31 cA cL a u))) (hP 32 _ (we_32 cA cL a u))) (hP 33 _ (we_33 cA cL a u))) (hP 34 _ (we_34 cA cL a u))) (hP 35 _ (we_35 cA cL a u))) (hP 36 _ (we_36 cA cL a u))) (hP 37 _ (we_37 cA cL a u))) (hP 38 _ (we_38 cA cL a u))) (hP 39 _ (we_39 cA cL a u))) (hP 40 _ (we_40 cA cL a u))) (hP 41 _ (we_41 cA cL a u))) (hP 42 _ (we_42 cA cL a u))) (hP 43 _ (we_43 cA cL a u))) (hP 44 _ (we_44 cA cL a u))) (hP 45 _ (we_45 cA cL a u))) (hP 46 _ (we_46 cA cL a u))) (hP 47 _ (we_47 cA cL a u))) (hP 48 _ (we_48 cA cL a u))) (hP 49 _ (we_49 cA cL a u))) (hP 50 _ (we_50 cA cL a u))) (hP 51 _ (we_51 cA cL a u))) (hP 52 _ (we_52 cA cL a u))) (hP 53 _ (we_53 cA cL a u))) (hP 54 _ (we_54 cA cL a u))) (hP 55 _ (we_55 cA cL a u))) (hP 56 _ (we_56 cA cL a u))) (hP 57 _ (we_57 cA cL a u))) (hP 58 _ (we_58 cA cL a u))) (hP 59 _ (we_59 cA cL a u))) (hP 60 _ (we_60 cA cL a u))) (hP 61 _ (we_61 cA cL a u))) (hP 62 _ (we_62 cA cL a u))) (hP 63 _ (we_63 cA cL a u))) (hP 64 _ (we_64 cA cL a u))) (hP 65 _ (we_65 cA cL a u))) (hP 66 _ (we_66 cA cL a u))) (hP 67 _ (we_67 cA cL a u))) (hP 68 _ (we_68 cA cL a u))) (hP 69 _ (we_69 cA cL a u))) (hP 70 _ (we_70 cA cL a u))) (hP 71 _ (we_71 cA cL a u))) (hP 72 _ (we_72 cA cL a u))) (hP 73 _ (we_73 cA cL a u))) (hP 74 _ (we_74 cA cL a u))) (hP 75 _ (we_75 cA cL a u))) (hP 76 _ (we_76 cA cL a u))) (hP 77 _ (we_77 cA cL a u))) (hP 78 _ (we_78 cA cL a u))) (hP 79 _ (we_79 cA cL a u))) (hP 80 _ (we_80 cA cL a u))) h81) (hP 82 _ (we_82 cA cL a u))) (hP 83 _ (we_83 cA cL a u))) (hP 84 _ (we_84 cA cL a u))) (hP 85 _ (we_85 cA cL a u))) (hP 86 _ (we_86 cA cL a u))) (hP 87 _ (we_87 cA cL a u))) (hP 88 _ (we_88 cA cL a u))) (hP 89 _ (we_89 cA cL a u))) (hP 90 _ (we_90 cA cL a u))) (hP 91 _ (we_91 cA cL a u))) (hP 92 _ (we_92 cA cL a u))) (hP 93 _ (we_93 cA cL a u))) (hP 94 _ (we_94 cA cL a u))) (hP 95 _ (we_95 cA cL a u))) (hP 96 _ (we_96 cA cL a u))) (hP 97 _ (we_97 cA cL a u))) (hP 98 _ (we_98 cA cL a u))) (hP 99 _ (we_99 cA cL a u))) (hP 100 _ (we_100 cA cL a u))) (hP 101 _ (we_101 cA cL a u))) (hP 102 _ (we_102 cA cL a u))) (hP 103 _ (we_103 cA cL a u))) (hP 104 _ (we_104 cA cL a u))) (hP 105 _ (we_105 cA cL a u))) (hP 106 _ (we_106 cA cL a u))) (hP 107 _ (we_107 cA cL a u))) (hP 108 _ (we_108 cA cL a u))) (hP 109 _ (we_109 cA cL a u))) (hP 110 _ (we_110 cA cL a u))) (hP 111 _ (we_111 cA cL a u))) (hP 112 _ (we_112 cA cL a u))) (hP 113 _ (we_113 cA cL a u))) (hP 114 _ (we_114 cA cL a u))) (hP 115 _ (we_115 cA cL a u))) (hP 116 _ (we_116 cA cL a u))) (hP 117 _ (we_117 cA cL a u))) (hP 118 _ (we_118 cA cL a u))) (hP 119 _ (we_119 cA cL a u))) (hP 120 _ (we_120 cA cL a u))) (hP 121 _ (we_121 cA cL a u))) (hP 122 _ (we_122 cA cL a u))) (hP 123 _ (we_123 cA cL a u))) (hP 124 _ (we_124 cA cL a u))
theorem we_ad (cA cL : ClassId) (a : Nat) (u : Nat → Nat) : ∀ k, k < 125 → ∃ ee : va_E, (w9 cA cL a u)[k]? = some (hm a u k, ee) := lt_s (lt_s (lt_s (lt_s (lt_s (lt_s (lt_s (lt_s (lt_s (lt_s (lt_s (lt_s (lt_s (lt_s (lt_s (lt_s (lt_s (lt_s (lt_s (lt_s (lt_s (lt_s (lt_s (lt_s (lt_s (lt_s (lt_s (lt_s (lt_s (lt_s (lt_s (lt_s (lt_s (lt_s (lt_s (lt_s (lt_s (lt_s (lt_s (lt_s (lt_s (lt_s (lt_s (lt_s (lt_s (lt_s (lt_s (lt_s (lt_s (lt_s (lt_s (lt_s (lt_s (lt_s (lt_s (lt_s (lt_s (lt_s (lt_s (lt_s (lt_s (lt_s (lt_s (lt_s (lt_s (lt_s (lt_s (lt_s (lt_s (lt_s (lt_s (lt_s (lt_s (lt_s (lt_s (lt_s (lt_s (lt_s (lt_s (lt_s (lt_s (lt_s (lt_s (lt_s (lt_s (lt_s (lt_s (lt_s (lt_s (lt_s (lt_s (lt_s (lt_s (lt_s (lt_s (lt_s (lt_s (lt_s (lt_s (lt_s (lt_s (lt_s (lt_s (lt_s (lt_s (lt_s (lt_s (lt_s (lt_s (lt_s (lt_s (lt_s (lt_s (lt_s (lt_s (lt_s (lt_s (lt_s (lt_s (lt_s (lt_s (lt_s (lt_s (lt_s (lt_s (lt_0) ⟨_, we_0 cA cL a u⟩) ⟨_, we_1 cA cL a u⟩) ⟨_, we_2 cA cL a u⟩) ⟨_, we_3 cA cL a u⟩) ⟨_, we_4 cA cL a u⟩) ⟨_, we_5 cA cL a u⟩) ⟨_, we_6 cA cL a u⟩) ⟨_, we_7 cA cL a u⟩) ⟨_, we_8 cA cL a u⟩) ⟨_, we_9 cA cL a u⟩) ⟨_, we_10 cA cL a u⟩) ⟨_, we_11 cA cL a u⟩) ⟨_, we_12 cA cL a u⟩) ⟨_, we_13 cA cL a u⟩) ⟨_, we_14 cA cL a u⟩) ⟨_, we_15 cA cL a u⟩) ⟨_, we_16 cA cL a u⟩) ⟨_, we_17 cA cL a u⟩) ⟨_, we_18 cA cL a u⟩) ⟨_, we_19 cA cL a u⟩) ⟨_, we_20 cA cL a u⟩) ⟨_, we_21 cA cL a u⟩) ⟨_, we_22 cA cL a u⟩) ⟨_, we_23 cA cL a u⟩) ⟨_, we_24 cA cL a u⟩) ⟨_, we_25 cA cL a u⟩) ⟨_, we_26 cA cL a u⟩) ⟨_, we_27 cA cL a u⟩) ⟨_, we_28 cA cL a u⟩) ⟨_, we_29 cA cL a u⟩) ⟨_, we_30 cA cL a u⟩) ⟨_, we_31 cA cL a u⟩) ⟨_, we_32 cA cL a u⟩) ⟨_, we_33 cA cL a u⟩) ⟨_, we_34 cA cL a u⟩) ⟨_, we_35 cA cL a u⟩) ⟨_, we_36 cA cL a u⟩) ⟨_, we_37 cA cL a u⟩) ⟨_, we_38 cA cL a u⟩) ⟨_, we_39 cA cL a u⟩) ⟨_, we_40 cA cL a u⟩) ⟨_, we_41 cA cL a u⟩) ⟨_, we_42 cA cL a u⟩) ⟨_, we_43 cA cL a u⟩) ⟨_, we_44 cA cL a u⟩) ⟨_, we_45 cA cL a u⟩) ⟨_, we_46 cA cL a u⟩) ⟨_, we_47 cA cL a u⟩) ⟨_, we_48 cA cL a u⟩) ⟨_, we_49 cA cL a u⟩) ⟨_, we_50 cA cL a u⟩) ⟨_, we_51 cA cL a u⟩) ⟨_, we_52 cA cL a u⟩) ⟨_, we_53 cA cL a u⟩) ⟨_, we_54 cA cL a u⟩) ⟨_, we_55 cA cL a u⟩) ⟨_, we_56 cA cL a u⟩) ⟨_, we_57 cA cL a u⟩) ⟨_, we_58 cA cL a u⟩) ⟨_, we_59 cA cL a u⟩) ⟨_, we_60 cA cL a u⟩) ⟨_, we_61 cA cL a u⟩) ⟨_, we_62 cA cL a u⟩) ⟨_, we_63 cA cL a u⟩) ⟨_, we_64 cA cL a u⟩) ⟨_, we_65 cA cL a u⟩) ⟨_, we_66 cA cL a u⟩) ⟨_, we_67 cA cL a u⟩) ⟨_, we_68 cA cL a u⟩) ⟨_, we_69 cA cL a u⟩) ⟨_, we_70 cA cL a u⟩) ⟨_, we_71 cA cL a u⟩) ⟨_, we_72 cA cL a u⟩) ⟨_, we_73 cA cL a u⟩) ⟨_, we_74 cA cL a u⟩) ⟨_, we_75 cA cL a u⟩) ⟨_, we_76 cA cL a u⟩) ⟨_, we_77 cA cL a u⟩) ⟨_, we_78 cA cL a u⟩) ⟨_, we_79 cA cL a u⟩) ⟨_, we_80 cA cL a u⟩) ⟨_, we_81 cA cL a u⟩) ⟨_, we_82 cA cL a u⟩) ⟨_, we_83 cA cL a u⟩) ⟨_, we_84 cA cL a u⟩) ⟨_, we_85 cA cL a u⟩) ⟨_, we_86 cA cL a u⟩) ⟨_, we_87 cA cL a u⟩) ⟨_, we_88 cA cL a u⟩) ⟨_, we_89 cA cL a u⟩) ⟨_, we_90 cA cL a u⟩) ⟨_, we_91 cA cL a u⟩) ⟨_, we_92 cA cL a u⟩) ⟨_, we_93 cA cL a u⟩) ⟨_, we_94 cA cL a u⟩) ⟨_, we_95 cA cL a u⟩) ⟨_, we_96 cA cL a u⟩) ⟨_, we_97 cA cL a u⟩) ⟨_, we_98 cA cL a u⟩) ⟨_, we_99 cA cL a u⟩) ⟨_, we_100 cA cL a u⟩) ⟨_, we_101 cA cL a u⟩) ⟨_, we_102 cA cL a u⟩) ⟨_, we_103 cA cL a u⟩) ⟨_, we_104 cA cL a u⟩) ⟨_, we_105 cA cL a u⟩) ⟨_, we_106 cA cL a u⟩) ⟨_, we_107 cA cL a u⟩) ⟨_, we_108 cA cL a u⟩) ⟨_, we_109 cA cL a u⟩) ⟨_, we_110 cA cL a u⟩) ⟨_, we_111 cA cL a u⟩) ⟨_, we_112 cA cL a u⟩) ⟨_, we_113 cA cL a u⟩) ⟨_, we_114 cA cL a u⟩) ⟨_, we_115 cA cL a u⟩) ⟨_, we_116 cA cL a u⟩) ⟨_, we_117 cA cL a u⟩) ⟨_, we_118 cA cL a u⟩) ⟨_, we_119 cA cL a u⟩) ⟨_, we_120 cA cL a u⟩) ⟨_, we_121 cA cL a u⟩) ⟨_, we_122 cA cL a u⟩) ⟨_, we_123 cA cL a u⟩) ⟨_, we_124 cA cL a u⟩
def Pre9 (D : va_G) (cA cL : ClassId) (z0 sz : Nat) (sa sv : Nat → Nat) (a : Nat) : Array Value → State → Prop := va_Pc [.ref a] (fun U => U.heap.size = sz ∧ va_P D vwCl [(a, .inr (9, [.null, .null, .null, .null, .null, .null, .int 0, .null, .null, .null, .null, .null]))] U.heap ∧ va_K D vwCl [(cA, .int), (cL, .object "StormSeeds$Land")] U ∧ (∀ w ∈ NW, va_Nw w U) ∧ va_AO "StormSeeds$Land" U ∧ z0 ≤ a ∧ z0 ≤ sz ∧ SZA (fun q => z0 ≤ q) sa sv U U.heap)
def Post9 (D : va_G) (cA cL : ClassId) (sz : Nat) (sa sv : Nat → Nat) (a : Nat) (sc0 : ST) : (Nat → Nat) → State → Prop := fun u U => va_P D vwCl (kW (KC D cA cL (hm a u) (ZC (hm a u) sa sv)) sc0) U.heap ∧ (∀ i j, i < 125 → j < 125 → hm a u i = hm a u j → i = j) ∧ ∀ k, k < 125 → va_A [(a, .inr (9, [.null, .null, .null, .null, .null, .null, .int 0, .null, .null, .null, .null, .null]))] sz (hm a u k)
theorem blind9 {D : va_G} {cA cL : ClassId} {z0 sz : Nat} {sa sv : Nat → Nat} {a : Nat} : FrameBlind (Pre9 D cA cL z0 sz sa sv a) := by
  intro v U g mk q
  obtain ⟨h1, h2, h3, h4, h5, h6, h7, h8, h9⟩ := q
  exact ⟨h1, h2, h3, va_K.moved (u := U) (U := U.calling g mk v) (Vm.Alike.refl U.vm) h4, nw_same (s := U) (U := U.calling g mk v) rfl h5, va_AO.moved (u := U) (U := U.calling g mk v) (Vm.Alike.refl U.vm) h6, h7, h8, SZA_same (u := U) (U := U.calling g mk v) rfl h9⟩
set_option maxRecDepth 100000 in
set_option maxHeartbeats 8000000 in
theorem k_X9_init (l : Launch) (D : va_G) (cA cL : ClassId) (z0 sz : Nat) (sa sv : Nat → Nat) (a : Nat) {sc0 : ST} (hb0 : C_X1_begin sc00 1 5 4 = some sc0) : Met l yX9_init (.code yX9_init cX9_init 1 none :: GT) (rmC 70 124 8658) (Pre9 D cA cL z0 sz sa sv a) (va_Qv (fun _ : Nat → Nat => True) (Post9 D cA cL sz sa sv a sc0) (va_A [(a, .inr (9, [.null, .null, .null, .null, .null, .null, .int 0, .null, .null, .null, .null, .null]))] sz)) 124 8658 (va_A [(a, .inr (9, [.null, .null, .null, .null, .null, .null, .int 0, .null, .null, .null, .null, .null]))] sz) := by
  refine Met.ofW (cc := cX9_init) (maxL := 1) (ret := none) (by decide) rfl ?_
  intro p e st m args below meth c s₁ B hml hv
  have hr := B.returns
  have hlocks := B.notSynchronized
  obtain ⟨rfl, hz, hP0, hK, hN, hO, hza, hzs, hSt⟩ := hv
  have hts := atoms_spec (ws := .code yX9_init cX9_init 1 none :: GT) B.pre
  have hown : st.vm.findClass RX9 = some m.cls := findClass_of_methodNamed B.named
  have hin : meth.name = "<init>" := (name_of_methodNamed B.named B.method).1
  have hD0 : va_D (va_A [(a, .inr (9, [.null, .null, .null, .null, .null, .null, .int 0, .null, .null, .null, .null, .null]))] sz) [(a, .inr (9, [.null, .null, .null, .null, .null, .null, .int 0, .null, .null, .null, .null, .null]))] := ⟨fun i j x y hx hy _ => by
    have h1 := (List.getElem?_eq_some_iff.mp hx).1
    have h2 := (List.getElem?_eq_some_iff.mp hy).1
    simp at h1 h2
    omega, fun _ _ hk => va_A.in hk⟩
  have X : CX D cA cL (va_A [(a, .inr (9, [.null, .null, .null, .null, .null, .null, .int 0, .null, .null, .null, .null, .null]))] sz) p st m [Value.ref a].toArray meth c cX9_init 1 RX9 := ⟨⟨B.exec, B.bytes, hml, hown, fun w hw => hts w (List.mem_cons_of_mem _ hw)⟩, hK, fun q hq => Or.inr (by rw [← hz]; exact hq), hN, hO, hin⟩
  rw [lg_entry_eq]
  refine walk9 (Q := _) X (fun u => ?_) _ _ _ ⟨hP0, hD0, va_S.rf⟩ (lv_entry [.ref a] (Nat.le_of_ble_eq_true rfl))
  intro H locs ls w hl
  have hat := we_at w.1
  have hP : va_P D vwCl (kW (KC D cA cL (hm a u) (ZC (hm a u) sa sv)) sc00) H := by
    intro k q hq
    have hk : k < 125 := by rw [← kW_len (K := KC D cA cL (hm a u) (ZC (hm a u) sa sv)) (s := sc00)]; exact (List.getElem?_eq_some_iff.mp hq).1
    rw [kW_get (K := KC D cA cL (hm a u) (ZC (hm a u) sa sv)) hk] at hq
    cases hq
    exact hat k hk
  have hinj : ∀ i j, i < 125 → j < 125 → hm a u i = hm a u j → i = j := by
    intro i j hi hj hij
    obtain ⟨e1, q1⟩ := we_ad cA cL a u i hi
    obtain ⟨e2, q2⟩ := we_ad cA cL a u j hj
    exact w.2.1.1 i j _ _ q1 q2 hij
  have hAd : ∀ k, k < 125 → va_A [(a, .inr (9, [.null, .null, .null, .null, .null, .null, .int 0, .null, .null, .null, .null, .null]))] sz (hm a u k) := by
    intro k hk
    obtain ⟨e1, q1⟩ := we_ad cA cL a u k hk
    exact w.2.1.2 k _ q1
  have hge : ∀ q, va_A [(a, .inr (9, [.null, .null, .null, .null, .null, .null, .int 0, .null, .null, .null, .null, .null]))] sz q → z0 ≤ q := by
    intro q hq
    rcases hq with ⟨k, ee, hk⟩ | hq
    · have hk0 : k = 0 := by have := (List.getElem?_eq_some_iff.mp hk).1; simpa using this
      subst hk0
      cases hk
      exact hza
    · omega
  have hJ := kJ_C (D := D) (cA := cA) (cL := cL) (sa := sa) (sv := sv) hinj
  have hZs : ZC (hm a u) sa sv st st.heap := ⟨hN, SZA_narrow (fun q hq => by obtain ⟨k, hk, rfl⟩ := hq; exact hge _ (hAd k hk)) hSt⟩
  have hkeep : ∀ q : Nat, q < st.heap.size → ¬ AH (hm a u) q → H[q]? = st.heap[q]? := by
    intro q hq hn
    refine w.2.2.2.1 q hq (fun hA => ?_)
    rcases hA with ⟨k, ee, hk⟩ | hA
    · have hk0 : k = 0 := by have := (List.getElem?_eq_some_iff.mp hk).1; simpa using this
      subst hk0
      cases hk
      exact hn ⟨0, by omega, rfl⟩
    · omega
  have hZH : ZC (hm a u) sa sv st H := hJ.2.2.1 st st.heap H w.2.2.1 hkeep hZs
  have hA1 : ∀ q, kA (KC D cA cL (hm a u) (ZC (hm a u) sa sv)) q → va_A [(a, .inr (9, [.null, .null, .null, .null, .null, .null, .int 0, .null, .null, .null, .null, .null]))] sz q := by
    intro q hq
    obtain ⟨k, hk, rfl⟩ := hq
    exact hAd k hk
  refine va_callv (va_runVN (As := [.int 5, .int 4]) (rest := []) X.1 (k_X1_begin (ZK_C (h := hm a u) (sa := sa) (sv := sv)) l D cA cL sc00 1 5 4 sh_1 hb0) ⟨va_cnB 2 X.1.2.2.2.2 (gt_c (gt_of 533 (by decide +kernel) rfl) gt_t) rfl rfl rfl (hN _ (nw_of 530 (by decide +kernel) rfl : Cond.methodLinkNest RX9 82 yX1_begin "StormSeeds" ∈ NW)) (X.1.2.2.2.2 _ (gt_of 197 (by decide +kernel) rfl)) ⟨by decide, by decide, by decide +kernel⟩ ⟨(Nat.le_of_ble_eq_true rfl), (Nat.le_of_ble_eq_true rfl)⟩, X.1.2.2.2.2 _ (gt_of 532 (by decide +kernel) rfl), X.1.2.2.2.2 _ (gt_of 0 (by decide +kernel) rfl)⟩ ⟨blind_of, va_recv (ci := 1) (q := (RX1, TX1, 16)) hK hP rfl (by rw [kW_get (K := KC D cA cL (hm a u) (ZC (hm a u) sa sv)) (k := 1) (Nat.le_of_ble_eq_true rfl)]; exact congrArg (fun z => some (hm a u 1, z)) (GC_1 sh_1 _ _)), fun U hU hW => ⟨rfl, by rw [hU]; exact hP, va_K.moved hW.alike hK, hJ, by rw [hU]; exact hJ.2.1 st U H hW hZH⟩⟩ rfl rfl hl.1 rfl (lv_room (Nat.le_of_ble_eq_true rfl)) dX9_init_165 ⟨(Nat.le_of_ble_eq_true rfl), (Nat.le_of_ble_eq_true rfl)⟩) w.2.2 (fun q _ h => hA1 q h) hA1 (fun u2 t H1 locs1 ht hvm hw hB hz1 hk1 hS => ?_)
  subst hw
  exact W.vret B.exec B.bytes hr (fun t2 ht2 _ => ⟨⟨u, rfl, trivial, by rw [ht2, ← ht]; exact hB, hinj, hAd⟩, hS.F ht2⟩) hS.2.2 dX9_init_168 hlocks
