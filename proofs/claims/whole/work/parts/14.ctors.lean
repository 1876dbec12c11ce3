theorem li_b27 : (Int8.ofInt (27)).toInt32 = (27 : Int32) := by decide
theorem li_b28 : (Int8.ofInt (28)).toInt32 = (28 : Int32) := by decide
theorem li_b31 : (Int8.ofInt (31)).toInt32 = (31 : Int32) := by decide
theorem li_b33 : (Int8.ofInt (33)).toInt32 = (33 : Int32) := by decide
theorem li_b34 : (Int8.ofInt (34)).toInt32 = (34 : Int32) := by decide
theorem li_b35 : (Int8.ofInt (35)).toInt32 = (35 : Int32) := by decide
theorem li_b36 : (Int8.ofInt (36)).toInt32 = (36 : Int32) := by decide
theorem li_b37 : (Int8.ofInt (37)).toInt32 = (37 : Int32) := by decide
theorem li_b38 : (Int8.ofInt (38)).toInt32 = (38 : Int32) := by decide
theorem li_b39 : (Int8.ofInt (39)).toInt32 = (39 : Int32) := by decide
theorem li_b44 : (Int8.ofInt (44)).toInt32 = (44 : Int32) := by decide
theorem li_b46 : (Int8.ofInt (46)).toInt32 = (46 : Int32) := by decide
theorem li_b49 : (Int8.ofInt (49)).toInt32 = (49 : Int32) := by decide
theorem li_b50 : (Int8.ofInt (50)).toInt32 = (50 : Int32) := by decide
theorem li_b51 : (Int8.ofInt (51)).toInt32 = (51 : Int32) := by decide
theorem li_b52 : (Int8.ofInt (52)).toInt32 = (52 : Int32) := by decide
theorem li_b53 : (Int8.ofInt (53)).toInt32 = (53 : Int32) := by decide
theorem li_b54 : (Int8.ofInt (54)).toInt32 = (54 : Int32) := by decide
theorem li_b55 : (Int8.ofInt (55)).toInt32 = (55 : Int32) := by decide
theorem li_b56 : (Int8.ofInt (56)).toInt32 = (56 : Int32) := by decide
theorem li_b58 : (Int8.ofInt (58)).toInt32 = (58 : Int32) := by decide
theorem li_b66 : (Int8.ofInt (66)).toInt32 = (66 : Int32) := by decide
theorem li_b67 : (Int8.ofInt (67)).toInt32 = (67 : Int32) := by decide
theorem li_b68 : (Int8.ofInt (68)).toInt32 = (68 : Int32) := by decide
theorem li_b70 : (Int8.ofInt (70)).toInt32 = (70 : Int32) := by decide
theorem li_b71 : (Int8.ofInt (71)).toInt32 = (71 : Int32) := by decide
theorem li_b72 : (Int8.ofInt (72)).toInt32 = (72 : Int32) := by decide
theorem li_b73 : (Int8.ofInt (73)).toInt32 = (73 : Int32) := by decide
theorem li_b74 : (Int8.ofInt (74)).toInt32 = (74 : Int32) := by decide
theorem li_b75 : (Int8.ofInt (75)).toInt32 = (75 : Int32) := by decide
theorem li_b76 : (Int8.ofInt (76)).toInt32 = (76 : Int32) := by decide
theorem li_b77 : (Int8.ofInt (77)).toInt32 = (77 : Int32) := by decide
theorem li_b78 : (Int8.ofInt (78)).toInt32 = (78 : Int32) := by decide
theorem li_b79 : (Int8.ofInt (79)).toInt32 = (79 : Int32) := by decide
theorem li_b80 : (Int8.ofInt (80)).toInt32 = (80 : Int32) := by decide
theorem li_b81 : (Int8.ofInt (81)).toInt32 = (81 : Int32) := by decide
theorem li_b82 : (Int8.ofInt (82)).toInt32 = (82 : Int32) := by decide
theorem li_b83 : (Int8.ofInt (83)).toInt32 = (83 : Int32) := by decide
theorem li_b84 : (Int8.ofInt (84)).toInt32 = (84 : Int32) := by decide
theorem li_b85 : (Int8.ofInt (85)).toInt32 = (85 : Int32) := by decide
theorem li_b86 : (Int8.ofInt (86)).toInt32 = (86 : Int32) := by decide
theorem li_b87 : (Int8.ofInt (87)).toInt32 = (87 : Int32) := by decide
theorem li_b88 : (Int8.ofInt (88)).toInt32 = (88 : Int32) := by decide
theorem li_b89 : (Int8.ofInt (89)).toInt32 = (89 : Int32) := by decide
theorem li_b91 : (Int8.ofInt (91)).toInt32 = (91 : Int32) := by decide
theorem li_b92 : (Int8.ofInt (92)).toInt32 = (92 : Int32) := by decide
theorem li_b93 : (Int8.ofInt (93)).toInt32 = (93 : Int32) := by decide
theorem li_b94 : (Int8.ofInt (94)).toInt32 = (94 : Int32) := by decide
theorem li_b95 : (Int8.ofInt (95)).toInt32 = (95 : Int32) := by decide
theorem li_b96 : (Int8.ofInt (96)).toInt32 = (96 : Int32) := by decide
theorem li_b98 : (Int8.ofInt (98)).toInt32 = (98 : Int32) := by decide
theorem li_b101 : (Int8.ofInt (101)).toInt32 = (101 : Int32) := by decide
theorem li_b102 : (Int8.ofInt (102)).toInt32 = (102 : Int32) := by decide
theorem li_b103 : (Int8.ofInt (103)).toInt32 = (103 : Int32) := by decide
theorem li_b104 : (Int8.ofInt (104)).toInt32 = (104 : Int32) := by decide
theorem li_b105 : (Int8.ofInt (105)).toInt32 = (105 : Int32) := by decide
theorem li_b106 : (Int8.ofInt (106)).toInt32 = (106 : Int32) := by decide
theorem li_b107 : (Int8.ofInt (107)).toInt32 = (107 : Int32) := by decide
theorem li_b108 : (Int8.ofInt (108)).toInt32 = (108 : Int32) := by decide
theorem li_b109 : (Int8.ofInt (109)).toInt32 = (109 : Int32) := by decide
theorem li_b110 : (Int8.ofInt (110)).toInt32 = (110 : Int32) := by decide
theorem li_b111 : (Int8.ofInt (111)).toInt32 = (111 : Int32) := by decide
theorem li_b112 : (Int8.ofInt (112)).toInt32 = (112 : Int32) := by decide
theorem li_b113 : (Int8.ofInt (113)).toInt32 = (113 : Int32) := by decide
theorem li_b114 : (Int8.ofInt (114)).toInt32 = (114 : Int32) := by decide
theorem li_b115 : (Int8.ofInt (115)).toInt32 = (115 : Int32) := by decide
theorem li_b116 : (Int8.ofInt (116)).toInt32 = (116 : Int32) := by decide
theorem li_b117 : (Int8.ofInt (117)).toInt32 = (117 : Int32) := by decide
theorem li_b118 : (Int8.ofInt (118)).toInt32 = (118 : Int32) := by decide
theorem li_b119 : (Int8.ofInt (119)).toInt32 = (119 : Int32) := by decide
theorem li_b120 : (Int8.ofInt (120)).toInt32 = (120 : Int32) := by decide
theorem li_b121 : (Int8.ofInt (121)).toInt32 = (121 : Int32) := by decide
theorem li_b123 : (Int8.ofInt (123)).toInt32 = (123 : Int32) := by decide
theorem li_b124 : (Int8.ofInt (124)).toInt32 = (124 : Int32) := by decide
theorem li_b125 : (Int8.ofInt (125)).toInt32 = (125 : Int32) := by decide
theorem li_b126 : (Int8.ofInt (126)).toInt32 = (126 : Int32) := by decide
theorem li_s128 : (Int16.ofInt (128)).toInt32 = (128 : Int32) := by decide
theorem li_s129 : (Int16.ofInt (129)).toInt32 = (129 : Int32) := by decide
theorem li_s130 : (Int16.ofInt (130)).toInt32 = (130 : Int32) := by decide
theorem li_s131 : (Int16.ofInt (131)).toInt32 = (131 : Int32) := by decide
theorem li_s132 : (Int16.ofInt (132)).toInt32 = (132 : Int32) := by decide
theorem li_s134 : (Int16.ofInt (134)).toInt32 = (134 : Int32) := by decide
theorem li_s135 : (Int16.ofInt (135)).toInt32 = (135 : Int32) := by decide
theorem li_s136 : (Int16.ofInt (136)).toInt32 = (136 : Int32) := by decide
theorem li_s137 : (Int16.ofInt (137)).toInt32 = (137 : Int32) := by decide
theorem li_s138 : (Int16.ofInt (138)).toInt32 = (138 : Int32) := by decide
theorem li_s139 : (Int16.ofInt (139)).toInt32 = (139 : Int32) := by decide
theorem li_s140 : (Int16.ofInt (140)).toInt32 = (140 : Int32) := by decide
theorem li_s141 : (Int16.ofInt (141)).toInt32 = (141 : Int32) := by decide
theorem li_s142 : (Int16.ofInt (142)).toInt32 = (142 : Int32) := by decide
theorem li_s143 : (Int16.ofInt (143)).toInt32 = (143 : Int32) := by decide
theorem li_s144 : (Int16.ofInt (144)).toInt32 = (144 : Int32) := by decide
theorem li_s145 : (Int16.ofInt (145)).toInt32 = (145 : Int32) := by decide
theorem li_s146 : (Int16.ofInt (146)).toInt32 = (146 : Int32) := by decide
theorem li_s147 : (Int16.ofInt (147)).toInt32 = (147 : Int32) := by decide
theorem li_s148 : (Int16.ofInt (148)).toInt32 = (148 : Int32) := by decide
theorem li_s401 : (Int16.ofInt (401)).toInt32 = (401 : Int32) := by decide
theorem li_s420 : (Int16.ofInt (420)).toInt32 = (420 : Int32) := by decide
theorem li_s1200 : (Int16.ofInt (1200)).toInt32 = (1200 : Int32) := by decide
theorem li_s2300 : (Int16.ofInt (2300)).toInt32 = (2300 : Int32) := by decide
theorem li_s2334 : (Int16.ofInt (2334)).toInt32 = (2334 : Int32) := by decide
def wordsL : List Int32 := [32, 103, 117, 115, 116, 32, 104, 97, 114, 109, 32, 119, 104, 101, 110, 32, 111, 114, 32, 97, 110, 100, 32, 110, 111, 116, 32, 107, 105, 110, 100, 32, 119, 101, 116, 32, 115, 111, 105, 108, 32, 98, 101, 115, 105, 100, 101, 32, 100, 97, 121, 32, 101, 100, 103, 101, 32, 104, 101, 100, 103, 101, 115, 32, 115, 116, 111, 114, 109, 32, 108, 97, 115, 116, 115, 32, 115, 112, 114, 101, 97, 100, 32, 99, 114, 111, 115, 115, 32, 119, 105, 116, 104, 32, 116, 111, 32, 119, 97, 110, 116, 32, 99, 97, 108, 109, 32, 97, 116, 32, 111, 110, 32, 119, 111, 114, 116, 104, 32, 115, 111, 119, 32, 119, 101, 101, 100, 32, 110, 111, 114, 116, 104, 32, 101, 97, 115, 116, 32, 115, 111, 117, 116, 104, 32, 119, 101, 115, 116, 32]
def wf (k : Nat) : Nat → Int32 := fun j => if j < k then wordsL.getD j 0 else 0
theorem wf_0 : wf 0 = fun _ => 0 := by
  funext j
  simp [wf]
theorem wf_s (k : Nat) {x : Int32} (h : wordsL.getD k 0 = x) : upd (wf k) k x = wf (k + 1) := by
  subst h
  funext j
  by_cases hj : j = k
  · subst hj; simp [upd, wf]
  · have e : (j < k + 1) = (j < k) := propext (by omega)
    simp [upd, wf, hj, e]
theorem wf_first : upd (fun _ => 0) 0 (32 : Int32) = wf 1 := by
  rw [← wf_0]
  exact wf_s 0 (by decide)
theorem dX1_init_0 : decode cX1_init 0 = .ok (.aload_n 0, 1) := by decide +kernel
theorem dX1_init_1 : decode cX1_init 1 = .ok (.invokespecial 3, 3) := by decide +kernel
theorem dX1_init_4 : decode cX1_init 4 = .ok (.aload_n 0, 1) := by decide +kernel
theorem dX1_init_5 : decode cX1_init 5 = .ok (.bipush 64, 2) := by decide +kernel
theorem dX1_init_7 : decode cX1_init 7 = .ok (.newarray .int, 2) := by decide +kernel
theorem dX1_init_9 : decode cX1_init 9 = .ok (.putfield 9, 3) := by decide +kernel
theorem dX1_init_12 : decode cX1_init 12 = .ok (.aload_n 0, 1) := by decide +kernel
theorem dX1_init_13 : decode cX1_init 13 = .ok (.bipush 64, 2) := by decide +kernel
theorem dX1_init_15 : decode cX1_init 15 = .ok (.newarray .int, 2) := by decide +kernel
theorem dX1_init_17 : decode cX1_init 17 = .ok (.putfield 15, 3) := by decide +kernel
theorem dX1_init_20 : decode cX1_init 20 = .ok (.aload_n 0, 1) := by decide +kernel
theorem dX1_init_21 : decode cX1_init 21 = .ok (.bipush 64, 2) := by decide +kernel
theorem dX1_init_23 : decode cX1_init 23 = .ok (.newarray .int, 2) := by decide +kernel
theorem dX1_init_25 : decode cX1_init 25 = .ok (.putfield 18, 3) := by decide +kernel
theorem dX1_init_28 : decode cX1_init 28 = .ok (.aload_n 0, 1) := by decide +kernel
theorem dX1_init_29 : decode cX1_init 29 = .ok (.bipush 64, 2) := by decide +kernel
theorem dX1_init_31 : decode cX1_init 31 = .ok (.newarray .int, 2) := by decide +kernel
theorem dX1_init_33 : decode cX1_init 33 = .ok (.putfield 21, 3) := by decide +kernel
theorem dX1_init_36 : decode cX1_init 36 = .ok (.aload_n 0, 1) := by decide +kernel
theorem dX1_init_37 : decode cX1_init 37 = .ok (.bipush 64, 2) := by decide +kernel
theorem dX1_init_39 : decode cX1_init 39 = .ok (.newarray .int, 2) := by decide +kernel
theorem dX1_init_41 : decode cX1_init 41 = .ok (.putfield 24, 3) := by decide +kernel
theorem dX1_init_44 : decode cX1_init 44 = .ok (.aload_n 0, 1) := by decide +kernel
theorem dX1_init_45 : decode cX1_init 45 = .ok (.bipush 64, 2) := by decide +kernel
theorem dX1_init_47 : decode cX1_init 47 = .ok (.newarray .int, 2) := by decide +kernel
theorem dX1_init_49 : decode cX1_init 49 = .ok (.putfield 27, 3) := by decide +kernel
theorem dX1_init_52 : decode cX1_init 52 = .ok (.return_, 1) := by decide +kernel
def wX1_init (cA cL : ClassId) (a : Nat) (u : Nat → Nat) : va_W := [(a, .inr (1, [.int 0, .int 0, .int 0, .int 0, .int 0, .int 0, .int 0, .long 0, .long 0, .long 0, .ref (u 0), .ref (u 1), .ref (u 2), .ref (u 3), .ref (u 4), .ref (u 5)]))] ++ [((u 0), .inl (cA, 64, .inl (fun _ => 0)))] ++ [((u 1), .inl (cA, 64, .inl (fun _ => 0)))] ++ [((u 2), .inl (cA, 64, .inl (fun _ => 0)))] ++ [((u 3), .inl (cA, 64, .inl (fun _ => 0)))] ++ [((u 4), .inl (cA, 64, .inl (fun _ => 0)))] ++ [((u 5), .inl (cA, 64, .inl (fun _ => 0)))]
set_option maxRecDepth 100000 in
set_option maxHeartbeats 8000000 in
theorem k_X1_init (l : Launch) (D : va_G) (cA cL : ClassId) (a : Nat) : MC l yX1_init cX1_init 1 D cA cL 2 6 384 [(a, .inr (1, [.int 0, .int 0, .int 0, .int 0, .int 0, .int 0, .int 0, .long 0, .long 0, .long 0, .null, .null, .null, .null, .null, .null]))] [.ref a] (wX1_init cA cL a) := by
  refine met_c (by decide) rfl (Nat.le_of_ble_eq_true rfl) ?_
  intro p e st m args below meth c Q A X RI
  refine h_aload_n X dX1_init_0 (q := 1) rfl 0 rfl ?_
  refine h_objInit X dX1_init_1 (q := 4) rfl (gt_of 229 (by decide +kernel) rfl) ⟨(Nat.le_of_ble_eq_true rfl), (Nat.le_of_ble_eq_true rfl)⟩ (Nat.le_of_ble_eq_true rfl) ?_
  refine h_aload_n X dX1_init_4 (q := 5) rfl 0 rfl ?_
  refine h_bipush X dX1_init_5 (q := 7) rfl li_b64 ?_
  refine h_newa X (by decide) (N := 64) (by decide) (Nat.le_of_ble_eq_true rfl) (Nat.le_of_ble_eq_true rfl) (Nat.le_of_ble_eq_true rfl) (ce2 := 1) (sl2 := 64) rfl rfl dX1_init_7 (q := 9) rfl (fun q1 => ?_)
  refine h_putF X 0 1 rfl rfl inX1 10 (Nat.le_of_ble_eq_true rfl) rfl (gt_of 262 (by decide +kernel) rfl) tyX1 tyX1_ok nmX1 rfl rfl (ty := (.array .int)) rfl rfl rfl (Nat.le_of_ble_eq_true rfl) (ws' := [(a, .inr (1, [.int 0, .int 0, .int 0, .int 0, .int 0, .int 0, .int 0, .long 0, .long 0, .long 0, .ref q1, .null, .null, .null, .null, .null]))] ++ [(q1, .inl (cA, 64, .inl (fun _ => 0)))]) rfl dX1_init_9 (q := 12) rfl ?_
  refine h_aload_n X dX1_init_12 (q := 13) rfl 0 rfl ?_
  refine h_bipush X dX1_init_13 (q := 15) rfl li_b64 ?_
  refine h_newa X (by decide) (N := 64) (by decide) (Nat.le_of_ble_eq_true rfl) (Nat.le_of_ble_eq_true rfl) (Nat.le_of_ble_eq_true rfl) (ce2 := 2) (sl2 := 128) rfl rfl dX1_init_15 (q := 17) rfl (fun q2 => ?_)
  refine h_putF X 0 1 rfl rfl inX1 11 (Nat.le_of_ble_eq_true rfl) rfl (gt_of 266 (by decide +kernel) rfl) tyX1 tyX1_ok nmX1 rfl rfl (ty := (.array .int)) rfl rfl rfl (Nat.le_of_ble_eq_true rfl) (ws' := [(a, .inr (1, [.int 0, .int 0, .int 0, .int 0, .int 0, .int 0, .int 0, .long 0, .long 0, .long 0, .ref q1, .ref q2, .null, .null, .null, .null]))] ++ [(q1, .inl (cA, 64, .inl (fun _ => 0)))] ++ [(q2, .inl (cA, 64, .inl (fun _ => 0)))]) rfl dX1_init_17 (q := 20) rfl ?_
  refine h_aload_n X dX1_init_20 (q := 21) rfl 0 rfl ?_
  refine h_bipush X dX1_init_21 (q := 23) rfl li_b64 ?_
  refine h_newa X (by decide) (N := 64) (by decide) (Nat.le_of_ble_eq_true rfl) (Nat.le_of_ble_eq_true rfl) (Nat.le_of_ble_eq_true rfl) (ce2 := 3) (sl2 := 192) rfl rfl dX1_init_23 (q := 25) rfl (fun q3 => ?_)
  refine h_putF X 0 1 rfl rfl inX1 12 (Nat.le_of_ble_eq_true rfl) rfl (gt_of 269 (by decide +kernel) rfl) tyX1 tyX1_ok nmX1 rfl rfl (ty := (.array .int)) rfl rfl rfl (Nat.le_of_ble_eq_true rfl) (ws' := [(a, .inr (1, [.int 0, .int 0, .int 0, .int 0, .int 0, .int 0, .int 0, .long 0, .long 0, .long 0, .ref q1, .ref q2, .ref q3, .null, .null, .null]))] ++ [(q1, .inl (cA, 64, .inl (fun _ => 0)))] ++ [(q2, .inl (cA, 64, .inl (fun _ => 0)))] ++ [(q3, .inl (cA, 64, .inl (fun _ => 0)))]) rfl dX1_init_25 (q := 28) rfl ?_
  refine h_aload_n X dX1_init_28 (q := 29) rfl 0 rfl ?_
  refine h_bipush X dX1_init_29 (q := 31) rfl li_b64 ?_
  refine h_newa X (by decide) (N := 64) (by decide) (Nat.le_of_ble_eq_true rfl) (Nat.le_of_ble_eq_true rfl) (Nat.le_of_ble_eq_true rfl) (ce2 := 4) (sl2 := 256) rfl rfl dX1_init_31 (q := 33) rfl (fun q4 => ?_)
  refine h_putF X 0 1 rfl rfl inX1 13 (Nat.le_of_ble_eq_true rfl) rfl (gt_of 272 (by decide +kernel) rfl) tyX1 tyX1_ok nmX1 rfl rfl (ty := (.array .int)) rfl rfl rfl (Nat.le_of_ble_eq_true rfl) (ws' := [(a, .inr (1, [.int 0, .int 0, .int 0, .int 0, .int 0, .int 0, .int 0, .long 0, .long 0, .long 0, .ref q1, .ref q2, .ref q3, .ref q4, .null, .null]))] ++ [(q1, .inl (cA, 64, .inl (fun _ => 0)))] ++ [(q2, .inl (cA, 64, .inl (fun _ => 0)))] ++ [(q3, .inl (cA, 64, .inl (fun _ => 0)))] ++ [(q4, .inl (cA, 64, .inl (fun _ => 0)))]) rfl dX1_init_33 (q := 36) rfl ?_
  refine h_aload_n X dX1_init_36 (q := 37) rfl 0 rfl ?_
  refine h_bipush X dX1_init_37 (q := 39) rfl li_b64 ?_
  refine h_newa X (by decide) (N := 64) (by decide) (Nat.le_of_ble_eq_true rfl) (Nat.le_of_ble_eq_true rfl) (Nat.le_of_ble_eq_true rfl) (ce2 := 5) (sl2 := 320) rfl rfl dX1_init_39 (q := 41) rfl (fun q5 => ?_)
  refine h_putF X 0 1 rfl rfl inX1 14 (Nat.le_of_ble_eq_true rfl) rfl (gt_of 276 (by decide +kernel) rfl) tyX1 tyX1_ok nmX1 rfl rfl (ty := (.array .int)) rfl rfl rfl (Nat.le_of_ble_eq_true rfl) (ws' := [(a, .inr (1, [.int 0, .int 0, .int 0, .int 0, .int 0, .int 0, .int 0, .long 0, .long 0, .long 0, .ref q1, .ref q2, .ref q3, .ref q4, .ref q5, .null]))] ++ [(q1, .inl (cA, 64, .inl (fun _ => 0)))] ++ [(q2, .inl (cA, 64, .inl (fun _ => 0)))] ++ [(q3, .inl (cA, 64, .inl (fun _ => 0)))] ++ [(q4, .inl (cA, 64, .inl (fun _ => 0)))] ++ [(q5, .inl (cA, 64, .inl (fun _ => 0)))]) rfl dX1_init_41 (q := 44) rfl ?_
  refine h_aload_n X dX1_init_44 (q := 45) rfl 0 rfl ?_
  refine h_bipush X dX1_init_45 (q := 47) rfl li_b64 ?_
  refine h_newa X (by decide) (N := 64) (by decide) (Nat.le_of_ble_eq_true rfl) (Nat.le_of_ble_eq_true rfl) (Nat.le_of_ble_eq_true rfl) (ce2 := 6) (sl2 := 384) rfl rfl dX1_init_47 (q := 49) rfl (fun q6 => ?_)
  refine h_putF X 0 1 rfl rfl inX1 15 (Nat.le_of_ble_eq_true rfl) rfl (gt_of 280 (by decide +kernel) rfl) tyX1 tyX1_ok nmX1 rfl rfl (ty := (.array .int)) rfl rfl rfl (Nat.le_of_ble_eq_true rfl) (ws' := [(a, .inr (1, [.int 0, .int 0, .int 0, .int 0, .int 0, .int 0, .int 0, .long 0, .long 0, .long 0, .ref q1, .ref q2, .ref q3, .ref q4, .ref q5, .ref q6]))] ++ [(q1, .inl (cA, 64, .inl (fun _ => 0)))] ++ [(q2, .inl (cA, 64, .inl (fun _ => 0)))] ++ [(q3, .inl (cA, 64, .inl (fun _ => 0)))] ++ [(q4, .inl (cA, 64, .inl (fun _ => 0)))] ++ [(q5, .inl (cA, 64, .inl (fun _ => 0)))] ++ [(q6, .inl (cA, 64, .inl (fun _ => 0)))]) rfl dX1_init_49 (q := 52) rfl ?_
  exact RI 52 _ (fun i => ([q1, q2, q3, q4, q5, q6] : List Nat).getD i 0) dX1_init_52
theorem dX5_init_0 : decode cX5_init 0 = .ok (.aload_n 0, 1) := by decide +kernel
theorem dX5_init_1 : decode cX5_init 1 = .ok (.invokespecial 3, 3) := by decide +kernel
theorem dX5_init_4 : decode cX5_init 4 = .ok (.aload_n 0, 1) := by decide +kernel
theorem dX5_init_5 : decode cX5_init 5 = .ok (.sipush 400, 3) := by decide +kernel
theorem dX5_init_8 : decode cX5_init 8 = .ok (.newarray .int, 2) := by decide +kernel
theorem dX5_init_10 : decode cX5_init 10 = .ok (.putfield 9, 3) := by decide +kernel
theorem dX5_init_13 : decode cX5_init 13 = .ok (.aload_n 0, 1) := by decide +kernel
theorem dX5_init_14 : decode cX5_init 14 = .ok (.sipush 401, 3) := by decide +kernel
theorem dX5_init_17 : decode cX5_init 17 = .ok (.newarray .int, 2) := by decide +kernel
theorem dX5_init_19 : decode cX5_init 19 = .ok (.putfield 15, 3) := by decide +kernel
theorem dX5_init_22 : decode cX5_init 22 = .ok (.aload_n 0, 1) := by decide +kernel
theorem dX5_init_23 : decode cX5_init 23 = .ok (.sipush 401, 3) := by decide +kernel
theorem dX5_init_26 : decode cX5_init 26 = .ok (.newarray .int, 2) := by decide +kernel
theorem dX5_init_28 : decode cX5_init 28 = .ok (.putfield 18, 3) := by decide +kernel
theorem dX5_init_31 : decode cX5_init 31 = .ok (.aload_n 0, 1) := by decide +kernel
theorem dX5_init_32 : decode cX5_init 32 = .ok (.sipush 401, 3) := by decide +kernel
theorem dX5_init_35 : decode cX5_init 35 = .ok (.newarray .int, 2) := by decide +kernel
theorem dX5_init_37 : decode cX5_init 37 = .ok (.putfield 21, 3) := by decide +kernel
theorem dX5_init_40 : decode cX5_init 40 = .ok (.aload_n 0, 1) := by decide +kernel
theorem dX5_init_41 : decode cX5_init 41 = .ok (.iconst 5, 1) := by decide +kernel
theorem dX5_init_42 : decode cX5_init 42 = .ok (.putfield 24, 3) := by decide +kernel
theorem dX5_init_45 : decode cX5_init 45 = .ok (.aload_n 0, 1) := by decide +kernel
theorem dX5_init_46 : decode cX5_init 46 = .ok (.iconst (-1), 1) := by decide +kernel
theorem dX5_init_47 : decode cX5_init 47 = .ok (.putfield 28, 3) := by decide +kernel
theorem dX5_init_50 : decode cX5_init 50 = .ok (.return_, 1) := by decide +kernel
def wX5_init (cA cL : ClassId) (a : Nat) (u : Nat → Nat) : va_W := [(a, .inr (5, [.ref (u 0), .int 0, .ref (u 1), .ref (u 2), .ref (u 3), .int 0, .int 0, .int (5 : Int32), .int 0, .int (-1 : Int32)]))] ++ [((u 0), .inl (cA, 400, .inl (fun _ => 0)))] ++ [((u 1), .inl (cA, 401, .inl (fun _ => 0)))] ++ [((u 2), .inl (cA, 401, .inl (fun _ => 0)))] ++ [((u 3), .inl (cA, 401, .inl (fun _ => 0)))]
set_option maxRecDepth 100000 in
set_option maxHeartbeats 8000000 in
theorem k_X5_init (l : Launch) (D : va_G) (cA cL : ClassId) (a : Nat) : MC l yX5_init cX5_init 1 D cA cL 2 4 1603 [(a, .inr (5, [.null, .int 0, .null, .null, .null, .int 0, .int 0, .int 0, .int 0, .int 0]))] [.ref a] (wX5_init cA cL a) := by
  refine met_c (by decide) rfl (Nat.le_of_ble_eq_true rfl) ?_
  intro p e st m args below meth c Q A X RI
  refine h_aload_n X dX5_init_0 (q := 1) rfl 0 rfl ?_
  refine h_objInit X dX5_init_1 (q := 4) rfl (gt_of 414 (by decide +kernel) rfl) ⟨(Nat.le_of_ble_eq_true rfl), (Nat.le_of_ble_eq_true rfl)⟩ (Nat.le_of_ble_eq_true rfl) ?_
  refine h_aload_n X dX5_init_4 (q := 5) rfl 0 rfl ?_
  refine h_sipush X dX5_init_5 (q := 8) rfl li_s400 ?_
  refine h_newa X (by decide) (N := 400) (by decide) (Nat.le_of_ble_eq_true rfl) (Nat.le_of_ble_eq_true rfl) (Nat.le_of_ble_eq_true rfl) (ce2 := 1) (sl2 := 400) rfl rfl dX5_init_8 (q := 10) rfl (fun q1 => ?_)
  refine h_putF X 0 5 rfl rfl inX5 0 (Nat.le_of_ble_eq_true rfl) rfl (gt_of 415 (by decide +kernel) rfl) tyX5 tyX5_ok nmX5 rfl rfl (ty := (.array .int)) rfl rfl rfl (Nat.le_of_ble_eq_true rfl) (ws' := [(a, .inr (5, [.ref q1, .int 0, .null, .null, .null, .int 0, .int 0, .int 0, .int 0, .int 0]))] ++ [(q1, .inl (cA, 400, .inl (fun _ => 0)))]) rfl dX5_init_10 (q := 13) rfl ?_
  refine h_aload_n X dX5_init_13 (q := 14) rfl 0 rfl ?_
  refine h_sipush X dX5_init_14 (q := 17) rfl li_s401 ?_
  refine h_newa X (by decide) (N := 401) (by decide) (Nat.le_of_ble_eq_true rfl) (Nat.le_of_ble_eq_true rfl) (Nat.le_of_ble_eq_true rfl) (ce2 := 2) (sl2 := 801) rfl rfl dX5_init_17 (q := 19) rfl (fun q2 => ?_)
  refine h_putF X 0 5 rfl rfl inX5 2 (Nat.le_of_ble_eq_true rfl) rfl (gt_of 418 (by decide +kernel) rfl) tyX5 tyX5_ok nmX5 rfl rfl (ty := (.array .int)) rfl rfl rfl (Nat.le_of_ble_eq_true rfl) (ws' := [(a, .inr (5, [.ref q1, .int 0, .ref q2, .null, .null, .int 0, .int 0, .int 0, .int 0, .int 0]))] ++ [(q1, .inl (cA, 400, .inl (fun _ => 0)))] ++ [(q2, .inl (cA, 401, .inl (fun _ => 0)))]) rfl dX5_init_19 (q := 22) rfl ?_
  refine h_aload_n X dX5_init_22 (q := 23) rfl 0 rfl ?_
  refine h_sipush X dX5_init_23 (q := 26) rfl li_s401 ?_
  refine h_newa X (by decide) (N := 401) (by decide) (Nat.le_of_ble_eq_true rfl) (Nat.le_of_ble_eq_true rfl) (Nat.le_of_ble_eq_true rfl) (ce2 := 3) (sl2 := 1202) rfl rfl dX5_init_26 (q := 28) rfl (fun q3 => ?_)
  refine h_putF X 0 5 rfl rfl inX5 3 (Nat.le_of_ble_eq_true rfl) rfl (gt_of 419 (by decide +kernel) rfl) tyX5 tyX5_ok nmX5 rfl rfl (ty := (.array .int)) rfl rfl rfl (Nat.le_of_ble_eq_true rfl) (ws' := [(a, .inr (5, [.ref q1, .int 0, .ref q2, .ref q3, .null, .int 0, .int 0, .int 0, .int 0, .int 0]))] ++ [(q1, .inl (cA, 400, .inl (fun _ => 0)))] ++ [(q2, .inl (cA, 401, .inl (fun _ => 0)))] ++ [(q3, .inl (cA, 401, .inl (fun _ => 0)))]) rfl dX5_init_28 (q := 31) rfl ?_
  refine h_aload_n X dX5_init_31 (q := 32) rfl 0 rfl ?_
  refine h_sipush X dX5_init_32 (q := 35) rfl li_s401 ?_
  refine h_newa X (by decide) (N := 401) (by decide) (Nat.le_of_ble_eq_true rfl) (Nat.le_of_ble_eq_true rfl) (Nat.le_of_ble_eq_true rfl) (ce2 := 4) (sl2 := 1603) rfl rfl dX5_init_35 (q := 37) rfl (fun q4 => ?_)
  refine h_putF X 0 5 rfl rfl inX5 4 (Nat.le_of_ble_eq_true rfl) rfl (gt_of 420 (by decide +kernel) rfl) tyX5 tyX5_ok nmX5 rfl rfl (ty := (.array .int)) rfl rfl rfl (Nat.le_of_ble_eq_true rfl) (ws' := [(a, .inr (5, [.ref q1, .int 0, .ref q2, .ref q3, .ref q4, .int 0, .int 0, .int 0, .int 0, .int 0]))] ++ [(q1, .inl (cA, 400, .inl (fun _ => 0)))] ++ [(q2, .inl (cA, 401, .inl (fun _ => 0)))] ++ [(q3, .inl (cA, 401, .inl (fun _ => 0)))] ++ [(q4, .inl (cA, 401, .inl (fun _ => 0)))]) rfl dX5_init_37 (q := 40) rfl ?_
  refine h_aload_n X dX5_init_40 (q := 41) rfl 0 rfl ?_
  refine h_iconst X dX5_init_41 (q := 42) rfl li_i5 ?_
  refine h_put X 0 5 rfl rfl inX5 7 (Nat.le_of_ble_eq_true rfl) rfl (gt_of 423 (by decide +kernel) rfl) tyX5 tyX5_ok nmX5 rfl (ty := .int) rfl rfl rfl (Nat.le_of_ble_eq_true rfl) (ws' := [(a, .inr (5, [.ref q1, .int 0, .ref q2, .ref q3, .ref q4, .int 0, .int 0, .int (5 : Int32), .int 0, .int 0]))] ++ [(q1, .inl (cA, 400, .inl (fun _ => 0)))] ++ [(q2, .inl (cA, 401, .inl (fun _ => 0)))] ++ [(q3, .inl (cA, 401, .inl (fun _ => 0)))] ++ [(q4, .inl (cA, 401, .inl (fun _ => 0)))]) rfl dX5_init_42 (q := 45) rfl ?_
  refine h_aload_n X dX5_init_45 (q := 46) rfl 0 rfl ?_
  refine h_iconst X dX5_init_46 (q := 47) rfl li_im1 ?_
  refine h_put X 0 5 rfl rfl inX5 9 (Nat.le_of_ble_eq_true rfl) rfl (gt_of 427 (by decide +kernel) rfl) tyX5 tyX5_ok nmX5 rfl (ty := .int) rfl rfl rfl (Nat.le_of_ble_eq_true rfl) (ws' := [(a, .inr (5, [.ref q1, .int 0, .ref q2, .ref q3, .ref q4, .int 0, .int 0, .int (5 : Int32), .int 0, .int (-1 : Int32)]))] ++ [(q1, .inl (cA, 400, .inl (fun _ => 0)))] ++ [(q2, .inl (cA, 401, .inl (fun _ => 0)))] ++ [(q3, .inl (cA, 401, .inl (fun _ => 0)))] ++ [(q4, .inl (cA, 401, .inl (fun _ => 0)))]) rfl dX5_init_47 (q := 50) rfl ?_
  exact RI 50 _ (fun i => ([q1, q2, q3, q4] : List Nat).getD i 0) dX5_init_50
theorem dX4_init_0 : decode cX4_init 0 = .ok (.aload_n 0, 1) := by decide +kernel
theorem dX4_init_1 : decode cX4_init 1 = .ok (.invokespecial 3, 3) := by decide +kernel
theorem dX4_init_4 : decode cX4_init 4 = .ok (.aload_n 0, 1) := by decide +kernel
theorem dX4_init_5 : decode cX4_init 5 = .ok (.iconst 0, 1) := by decide +kernel
theorem dX4_init_6 : decode cX4_init 6 = .ok (.iload_n 1, 1) := by decide +kernel
theorem dX4_init_7 : decode cX4_init 7 = .ok (.invokestatic 9, 3) := by decide +kernel
theorem dX4_init_10 : decode cX4_init 10 = .ok (.putfield 15, 3) := by decide +kernel
theorem dX4_init_13 : decode cX4_init 13 = .ok (.aload_n 0, 1) := by decide +kernel
theorem dX4_init_14 : decode cX4_init 14 = .ok (.aload_n 0, 1) := by decide +kernel
theorem dX4_init_15 : decode cX4_init 15 = .ok (.getfield 15, 3) := by decide +kernel
theorem dX4_init_18 : decode cX4_init 18 = .ok (.iconst 4, 1) := by decide +kernel
theorem dX4_init_19 : decode cX4_init 19 = .ok (.imul, 1) := by decide +kernel
theorem dX4_init_20 : decode cX4_init 20 = .ok (.newarray .int, 2) := by decide +kernel
theorem dX4_init_22 : decode cX4_init 22 = .ok (.putfield 21, 3) := by decide +kernel
theorem dX4_init_25 : decode cX4_init 25 = .ok (.return_, 1) := by decide +kernel
def wX4_init8 (cA cL : ClassId) (a : Nat) (u : Nat → Nat) : va_W := [(a, .inr (4, [.int (8 : Int32), .ref (u 0), .int 0]))] ++ [((u 0), .inl (cA, 32, .inl (fun _ => 0)))]
set_option maxRecDepth 100000 in
set_option maxHeartbeats 8000000 in
theorem k_X4_init8 (l : Launch) (D : va_G) (cA cL : ClassId) (a : Nat) : MC l yX4_init cX4_init 2 D cA cL 2 1 32 [(a, .inr (4, [.int 0, .null, .int 0]))] [.ref a, .int (8 : Int32)] (wX4_init8 cA cL a) := by
  refine met_c (by decide) rfl (Nat.le_of_ble_eq_true rfl) ?_
  intro p e st m args below meth c Q A X RI
  refine h_aload_n X dX4_init_0 (q := 1) rfl 0 rfl ?_
  refine h_objInit X dX4_init_1 (q := 4) rfl (gt_of 328 (by decide +kernel) rfl) ⟨(Nat.le_of_ble_eq_true rfl), (Nat.le_of_ble_eq_true rfl)⟩ (Nat.le_of_ble_eq_true rfl) ?_
  refine h_aload_n X dX4_init_4 (q := 5) rfl 0 rfl ?_
  refine h_iconst X dX4_init_5 (q := 6) rfl li_i0 ?_
  refine h_iload_n X dX4_init_6 (q := 7) rfl 1 rfl ?_
  refine h_max X dX4_init_7 (q := 10) rfl (gt_of 329 (by decide +kernel) rfl) ⟨(Nat.le_of_ble_eq_true rfl), (Nat.le_of_ble_eq_true rfl)⟩ (Nat.le_of_ble_eq_true rfl) ⟨(Nat.le_of_ble_eq_true rfl), (Nat.le_of_ble_eq_true rfl)⟩ (v := (8 : Int32)) (by decide) ?_
  refine h_putF X 0 4 rfl rfl inX4 0 (Nat.le_of_ble_eq_true rfl) rfl (gt_of 332 (by decide +kernel) rfl) tyX4 tyX4_ok nmX4 rfl rfl (ty := .int) rfl rfl rfl (Nat.le_of_ble_eq_true rfl) (ws' := [(a, .inr (4, [.int (8 : Int32), .null, .int 0]))]) rfl dX4_init_10 (q := 13) rfl ?_
  refine h_aload_n X dX4_init_13 (q := 14) rfl 0 rfl ?_
  refine h_aload_n X dX4_init_14 (q := 15) rfl 0 rfl ?_
  refine h_get X 0 4 rfl rfl inX4 0 (Nat.le_of_ble_eq_true rfl) rfl (gt_of 332 (by decide +kernel) rfl) rfl dX4_init_15 (q := 18) rfl ?_
  refine h_iconst X dX4_init_18 (q := 19) rfl li_i4 ?_
  refine h_imul X dX4_init_19 (q := 20) rfl (v := (32 : Int32)) (by decide) ?_
  refine h_newa X (by decide) (N := 32) (by decide) (Nat.le_of_ble_eq_true rfl) (Nat.le_of_ble_eq_true rfl) (Nat.le_of_ble_eq_true rfl) (ce2 := 1) (sl2 := 32) rfl rfl dX4_init_20 (q := 22) rfl (fun q1 => ?_)
  refine h_putF X 0 4 rfl rfl inX4 1 (Nat.le_of_ble_eq_true rfl) rfl (gt_of 333 (by decide +kernel) rfl) tyX4 tyX4_ok nmX4 rfl rfl (ty := (.array .int)) rfl rfl rfl (Nat.le_of_ble_eq_true rfl) (ws' := [(a, .inr (4, [.int (8 : Int32), .ref q1, .int 0]))] ++ [(q1, .inl (cA, 32, .inl (fun _ => 0)))]) rfl dX4_init_22 (q := 25) rfl ?_
  exact RI 25 _ (fun i => ([q1] : List Nat).getD i 0) dX4_init_25
def wX4_init10 (cA cL : ClassId) (a : Nat) (u : Nat → Nat) : va_W := [(a, .inr (4, [.int (10 : Int32), .ref (u 0), .int 0]))] ++ [((u 0), .inl (cA, 40, .inl (fun _ => 0)))]
set_option maxRecDepth 100000 in
set_option maxHeartbeats 8000000 in
theorem k_X4_init10 (l : Launch) (D : va_G) (cA cL : ClassId) (a : Nat) : MC l yX4_init cX4_init 2 D cA cL 2 1 40 [(a, .inr (4, [.int 0, .null, .int 0]))] [.ref a, .int (10 : Int32)] (wX4_init10 cA cL a) := by
  refine met_c (by decide) rfl (Nat.le_of_ble_eq_true rfl) ?_
  intro p e st m args below meth c Q A X RI
  refine h_aload_n X dX4_init_0 (q := 1) rfl 0 rfl ?_
  refine h_objInit X dX4_init_1 (q := 4) rfl (gt_of 328 (by decide +kernel) rfl) ⟨(Nat.le_of_ble_eq_true rfl), (Nat.le_of_ble_eq_true rfl)⟩ (Nat.le_of_ble_eq_true rfl) ?_
  refine h_aload_n X dX4_init_4 (q := 5) rfl 0 rfl ?_
  refine h_iconst X dX4_init_5 (q := 6) rfl li_i0 ?_
  refine h_iload_n X dX4_init_6 (q := 7) rfl 1 rfl ?_
  refine h_max X dX4_init_7 (q := 10) rfl (gt_of 329 (by decide +kernel) rfl) ⟨(Nat.le_of_ble_eq_true rfl), (Nat.le_of_ble_eq_true rfl)⟩ (Nat.le_of_ble_eq_true rfl) ⟨(Nat.le_of_ble_eq_true rfl), (Nat.le_of_ble_eq_true rfl)⟩ (v := (10 : Int32)) (by decide) ?_
  refine h_putF X 0 4 rfl rfl inX4 0 (Nat.le_of_ble_eq_true rfl) rfl (gt_of 332 (by decide +kernel) rfl) tyX4 tyX4_ok nmX4 rfl rfl (ty := .int) rfl rfl rfl (Nat.le_of_ble_eq_true rfl) (ws' := [(a, .inr (4, [.int (10 : Int32), .null, .int 0]))]) rfl dX4_init_10 (q := 13) rfl ?_
  refine h_aload_n X dX4_init_13 (q := 14) rfl 0 rfl ?_
  refine h_aload_n X dX4_init_14 (q := 15) rfl 0 rfl ?_
  refine h_get X 0 4 rfl rfl inX4 0 (Nat.le_of_ble_eq_true rfl) rfl (gt_of 332 (by decide +kernel) rfl) rfl dX4_init_15 (q := 18) rfl ?_
  refine h_iconst X dX4_init_18 (q := 19) rfl li_i4 ?_
  refine h_imul X dX4_init_19 (q := 20) rfl (v := (40 : Int32)) (by decide) ?_
  refine h_newa X (by decide) (N := 40) (by decide) (Nat.le_of_ble_eq_true rfl) (Nat.le_of_ble_eq_true rfl) (Nat.le_of_ble_eq_true rfl) (ce2 := 1) (sl2 := 40) rfl rfl dX4_init_20 (q := 22) rfl (fun q1 => ?_)
  refine h_putF X 0 4 rfl rfl inX4 1 (Nat.le_of_ble_eq_true rfl) rfl (gt_of 333 (by decide +kernel) rfl) tyX4 tyX4_ok nmX4 rfl rfl (ty := (.array .int)) rfl rfl rfl (Nat.le_of_ble_eq_true rfl) (ws' := [(a, .inr (4, [.int (10 : Int32), .ref q1, .int 0]))] ++ [(q1, .inl (cA, 40, .inl (fun _ => 0)))]) rfl dX4_init_22 (q := 25) rfl ?_
  exact RI 25 _ (fun i => ([q1] : List Nat).getD i 0) dX4_init_25
def wX4_init16 (cA cL : ClassId) (a : Nat) (u : Nat → Nat) : va_W := [(a, .inr (4, [.int (16 : Int32), .ref (u 0), .int 0]))] ++ [((u 0), .inl (cA, 64, .inl (fun _ => 0)))]
set_option maxRecDepth 100000 in
set_option maxHeartbeats 8000000 in
theorem k_X4_init16 (l : Launch) (D : va_G) (cA cL : ClassId) (a : Nat) : MC l yX4_init cX4_init 2 D cA cL 2 1 64 [(a, .inr (4, [.int 0, .null, .int 0]))] [.ref a, .int (16 : Int32)] (wX4_init16 cA cL a) := by
  refine met_c (by decide) rfl (Nat.le_of_ble_eq_true rfl) ?_
  intro p e st m args below meth c Q A X RI
  refine h_aload_n X dX4_init_0 (q := 1) rfl 0 rfl ?_
  refine h_objInit X dX4_init_1 (q := 4) rfl (gt_of 328 (by decide +kernel) rfl) ⟨(Nat.le_of_ble_eq_true rfl), (Nat.le_of_ble_eq_true rfl)⟩ (Nat.le_of_ble_eq_true rfl) ?_
  refine h_aload_n X dX4_init_4 (q := 5) rfl 0 rfl ?_
  refine h_iconst X dX4_init_5 (q := 6) rfl li_i0 ?_
  refine h_iload_n X dX4_init_6 (q := 7) rfl 1 rfl ?_
  refine h_max X dX4_init_7 (q := 10) rfl (gt_of 329 (by decide +kernel) rfl) ⟨(Nat.le_of_ble_eq_true rfl), (Nat.le_of_ble_eq_true rfl)⟩ (Nat.le_of_ble_eq_true rfl) ⟨(Nat.le_of_ble_eq_true rfl), (Nat.le_of_ble_eq_true rfl)⟩ (v := (16 : Int32)) (by decide) ?_
  refine h_putF X 0 4 rfl rfl inX4 0 (Nat.le_of_ble_eq_true rfl) rfl (gt_of 332 (by decide +kernel) rfl) tyX4 tyX4_ok nmX4 rfl rfl (ty := .int) rfl rfl rfl (Nat.le_of_ble_eq_true rfl) (ws' := [(a, .inr (4, [.int (16 : Int32), .null, .int 0]))]) rfl dX4_init_10 (q := 13) rfl ?_
  refine h_aload_n X dX4_init_13 (q := 14) rfl 0 rfl ?_
  refine h_aload_n X dX4_init_14 (q := 15) rfl 0 rfl ?_
  refine h_get X 0 4 rfl rfl inX4 0 (Nat.le_of_ble_eq_true rfl) rfl (gt_of 332 (by decide +kernel) rfl) rfl dX4_init_15 (q := 18) rfl ?_
  refine h_iconst X dX4_init_18 (q := 19) rfl li_i4 ?_
  refine h_imul X dX4_init_19 (q := 20) rfl (v := (64 : Int32)) (by decide) ?_
  refine h_newa X (by decide) (N := 64) (by decide) (Nat.le_of_ble_eq_true rfl) (Nat.le_of_ble_eq_true rfl) (Nat.le_of_ble_eq_true rfl) (ce2 := 1) (sl2 := 64) rfl rfl dX4_init_20 (q := 22) rfl (fun q1 => ?_)
  refine h_putF X 0 4 rfl rfl inX4 1 (Nat.le_of_ble_eq_true rfl) rfl (gt_of 333 (by decide +kernel) rfl) tyX4 tyX4_ok nmX4 rfl rfl (ty := (.array .int)) rfl rfl rfl (Nat.le_of_ble_eq_true rfl) (ws' := [(a, .inr (4, [.int (16 : Int32), .ref q1, .int 0]))] ++ [(q1, .inl (cA, 64, .inl (fun _ => 0)))]) rfl dX4_init_22 (q := 25) rfl ?_
  exact RI 25 _ (fun i => ([q1] : List Nat).getD i 0) dX4_init_25
theorem dX2_init_0 : decode cX2_init 0 = .ok (.aload_n 0, 1) := by decide +kernel
theorem dX2_init_1 : decode cX2_init 1 = .ok (.invokespecial 3, 3) := by decide +kernel
theorem dX2_init_4 : decode cX2_init 4 = .ok (.aload_n 0, 1) := by decide +kernel
theorem dX2_init_5 : decode cX2_init 5 = .ok (.new 9, 3) := by decide +kernel
theorem dX2_init_8 : decode cX2_init 8 = .ok (.dup, 1) := by decide +kernel
theorem dX2_init_9 : decode cX2_init 9 = .ok (.bipush 16, 2) := by decide +kernel
theorem dX2_init_11 : decode cX2_init 11 = .ok (.invokespecial 11, 3) := by decide +kernel
theorem dX2_init_14 : decode cX2_init 14 = .ok (.putfield 14, 3) := by decide +kernel
theorem dX2_init_17 : decode cX2_init 17 = .ok (.aload_n 0, 1) := by decide +kernel
theorem dX2_init_18 : decode cX2_init 18 = .ok (.sipush 400, 3) := by decide +kernel
theorem dX2_init_21 : decode cX2_init 21 = .ok (.newarray .int, 2) := by decide +kernel
theorem dX2_init_23 : decode cX2_init 23 = .ok (.putfield 20, 3) := by decide +kernel
theorem dX2_init_26 : decode cX2_init 26 = .ok (.aload_n 0, 1) := by decide +kernel
theorem dX2_init_27 : decode cX2_init 27 = .ok (.bipush 8, 2) := by decide +kernel
theorem dX2_init_29 : decode cX2_init 29 = .ok (.newarray .int, 2) := by decide +kernel
theorem dX2_init_31 : decode cX2_init 31 = .ok (.putfield 24, 3) := by decide +kernel
theorem dX2_init_34 : decode cX2_init 34 = .ok (.aload_n 0, 1) := by decide +kernel
theorem dX2_init_35 : decode cX2_init 35 = .ok (.bipush 64, 2) := by decide +kernel
theorem dX2_init_37 : decode cX2_init 37 = .ok (.newarray .int, 2) := by decide +kernel
theorem dX2_init_39 : decode cX2_init 39 = .ok (.putfield 27, 3) := by decide +kernel
theorem dX2_init_42 : decode cX2_init 42 = .ok (.return_, 1) := by decide +kernel
def wX2_init (cA cL : ClassId) (a : Nat) (u : Nat → Nat) : va_W := [(a, .inr (2, [.ref (u 0), .ref (u 2), .int 0, .ref (u 3), .ref (u 4)]))] ++ wX4_init16 cA cL (u 0) (fun i => u (i + 1)) ++ [((u 2), .inl (cA, 400, .inl (fun _ => 0)))] ++ [((u 3), .inl (cA, 8, .inl (fun _ => 0)))] ++ [((u 4), .inl (cA, 64, .inl (fun _ => 0)))]
set_option maxRecDepth 100000 in
set_option maxHeartbeats 8000000 in
theorem k_X2_init (l : Launch) (D : va_G) (cA cL : ClassId) (a : Nat) : MC l yX2_init cX2_init 1 D cA cL 3 5 539 [(a, .inr (2, [.null, .null, .int 0, .null, .null]))] [.ref a] (wX2_init cA cL a) := by
  refine met_c (by decide) rfl (Nat.le_of_ble_eq_true rfl) ?_
  intro p e st m args below meth c Q A X RI
  refine h_aload_n X dX2_init_0 (q := 1) rfl 0 rfl ?_
  refine h_objInit X dX2_init_1 (q := 4) rfl (gt_of 354 (by decide +kernel) rfl) ⟨(Nat.le_of_ble_eq_true rfl), (Nat.le_of_ble_eq_true rfl)⟩ (Nat.le_of_ble_eq_true rfl) ?_
  refine h_aload_n X dX2_init_4 (q := 5) rfl 0 rfl ?_
  refine h_new X inX4 tyX4 tyX4_ok (gt_of 355 (by decide +kernel) rfl) (gt_of 324 (by decide +kernel) rfl) (gt_of 199 (by decide +kernel) rfl) (ci := 4) rfl (fs := [.int 0, .null, .int 0]) (by intro j hj; exact (by decide : ∀ j, j < 3 → defaultValue (tyX4 j) = vp_V [.int 0, .null, .int 0] j) j hj) (Nat.le_of_ble_eq_true rfl) (Nat.le_of_ble_eq_true rfl) (ce2 := 1) (sl2 := 3) rfl rfl dX2_init_5 (q := 8) rfl (fun q1 => ?_)
  refine h_dup X dX2_init_8 (q := 9) rfl rfl ?_
  refine h_bipush X dX2_init_9 (q := 11) rfl li_b16 ?_
  refine h_ctorN X (host := "StormSeeds") (W1 := (wX4_init16 cA cL q1)) (X0 := [(a, .inr (2, [.null, .null, .int 0, .null, .null]))]) (ce2 := 2) (sl2 := 67) (n := 1) (k_X4_init16 l D cA cL q1) rfl (gt_of 327 (by decide +kernel) rfl) (gt_of 199 (by decide +kernel) rfl) (gt_of 326 (by decide +kernel) rfl) (nw_of 356 (by decide +kernel) rfl) rfl ⟨by decide, by decide, by decide +kernel⟩ (As := [.int (16 : Int32)]) rfl ⟨(Nat.le_of_ble_eq_true rfl), (Nat.le_of_ble_eq_true rfl)⟩ ⟨(Nat.le_of_ble_eq_true rfl), (Nat.le_of_ble_eq_true rfl)⟩ rfl rfl (Nat.le_of_ble_eq_true rfl) rfl dX2_init_11 (q := 14) rfl (fun u1 => ?_)
  refine h_putF X 0 2 rfl rfl inX2 0 (Nat.le_of_ble_eq_true rfl) rfl (gt_of 357 (by decide +kernel) rfl) tyX2 tyX2_ok nmX2 rfl rfl (ty := (.object "StormSeeds$Table")) rfl rfl rfl (Nat.le_of_ble_eq_true rfl) (ws' := [(a, .inr (2, [.ref q1, .null, .int 0, .null, .null]))] ++ wX4_init16 cA cL q1 u1) rfl dX2_init_14 (q := 17) rfl ?_
  refine h_aload_n X dX2_init_17 (q := 18) rfl 0 rfl ?_
  refine h_sipush X dX2_init_18 (q := 21) rfl li_s400 ?_
  refine h_newa X (by decide) (N := 400) (by decide) (Nat.le_of_ble_eq_true rfl) (Nat.le_of_ble_eq_true rfl) (Nat.le_of_ble_eq_true rfl) (ce2 := 3) (sl2 := 467) rfl rfl dX2_init_21 (q := 23) rfl (fun q2 => ?_)
  refine h_putF X 0 2 rfl rfl inX2 1 (Nat.le_of_ble_eq_true rfl) rfl (gt_of 360 (by decide +kernel) rfl) tyX2 tyX2_ok nmX2 rfl rfl (ty := (.array .int)) rfl rfl rfl (Nat.le_of_ble_eq_true rfl) (ws' := [(a, .inr (2, [.ref q1, .ref q2, .int 0, .null, .null]))] ++ wX4_init16 cA cL q1 u1 ++ [(q2, .inl (cA, 400, .inl (fun _ => 0)))]) rfl dX2_init_23 (q := 26) rfl ?_
  refine h_aload_n X dX2_init_26 (q := 27) rfl 0 rfl ?_
  refine h_bipush X dX2_init_27 (q := 29) rfl li_b8 ?_
  refine h_newa X (by decide) (N := 8) (by decide) (Nat.le_of_ble_eq_true rfl) (Nat.le_of_ble_eq_true rfl) (Nat.le_of_ble_eq_true rfl) (ce2 := 4) (sl2 := 475) rfl rfl dX2_init_29 (q := 31) rfl (fun q3 => ?_)
  refine h_putF X 0 2 rfl rfl inX2 3 (Nat.le_of_ble_eq_true rfl) rfl (gt_of 363 (by decide +kernel) rfl) tyX2 tyX2_ok nmX2 rfl rfl (ty := (.array .int)) rfl rfl rfl (Nat.le_of_ble_eq_true rfl) (ws' := [(a, .inr (2, [.ref q1, .ref q2, .int 0, .ref q3, .null]))] ++ wX4_init16 cA cL q1 u1 ++ [(q2, .inl (cA, 400, .inl (fun _ => 0)))] ++ [(q3, .inl (cA, 8, .inl (fun _ => 0)))]) rfl dX2_init_31 (q := 34) rfl ?_
  refine h_aload_n X dX2_init_34 (q := 35) rfl 0 rfl ?_
  refine h_bipush X dX2_init_35 (q := 37) rfl li_b64 ?_
  refine h_newa X (by decide) (N := 64) (by decide) (Nat.le_of_ble_eq_true rfl) (Nat.le_of_ble_eq_true rfl) (Nat.le_of_ble_eq_true rfl) (ce2 := 5) (sl2 := 539) rfl rfl dX2_init_37 (q := 39) rfl (fun q4 => ?_)
  refine h_putF X 0 2 rfl rfl inX2 4 (Nat.le_of_ble_eq_true rfl) rfl (gt_of 364 (by decide +kernel) rfl) tyX2 tyX2_ok nmX2 rfl rfl (ty := (.array .int)) rfl rfl rfl (Nat.le_of_ble_eq_true rfl) (ws' := [(a, .inr (2, [.ref q1, .ref q2, .int 0, .ref q3, .ref q4]))] ++ wX4_init16 cA cL q1 u1 ++ [(q2, .inl (cA, 400, .inl (fun _ => 0)))] ++ [(q3, .inl (cA, 8, .inl (fun _ => 0)))] ++ [(q4, .inl (cA, 64, .inl (fun _ => 0)))]) rfl dX2_init_39 (q := 42) rfl ?_
  exact RI 42 _ (fun i => ([q1, (u1 0), q2, q3, q4] : List Nat).getD i 0) dX2_init_42
theorem dX7_init_0 : decode cX7_init 0 = .ok (.aload_n 0, 1) := by decide +kernel
theorem dX7_init_1 : decode cX7_init 1 = .ok (.invokespecial 3, 3) := by decide +kernel
theorem dX7_init_4 : decode cX7_init 4 = .ok (.aload_n 0, 1) := by decide +kernel
theorem dX7_init_5 : decode cX7_init 5 = .ok (.new 9, 3) := by decide +kernel
theorem dX7_init_8 : decode cX7_init 8 = .ok (.dup, 1) := by decide +kernel
theorem dX7_init_9 : decode cX7_init 9 = .ok (.bipush 8, 2) := by decide +kernel
theorem dX7_init_11 : decode cX7_init 11 = .ok (.invokespecial 11, 3) := by decide +kernel
theorem dX7_init_14 : decode cX7_init 14 = .ok (.putfield 14, 3) := by decide +kernel
theorem dX7_init_17 : decode cX7_init 17 = .ok (.aload_n 0, 1) := by decide +kernel
theorem dX7_init_18 : decode cX7_init 18 = .ok (.new 9, 3) := by decide +kernel
theorem dX7_init_21 : decode cX7_init 21 = .ok (.dup, 1) := by decide +kernel
theorem dX7_init_22 : decode cX7_init 22 = .ok (.bipush 10, 2) := by decide +kernel
theorem dX7_init_24 : decode cX7_init 24 = .ok (.invokespecial 11, 3) := by decide +kernel
theorem dX7_init_27 : decode cX7_init 27 = .ok (.putfield 20, 3) := by decide +kernel
theorem dX7_init_30 : decode cX7_init 30 = .ok (.aload_n 0, 1) := by decide +kernel
theorem dX7_init_31 : decode cX7_init 31 = .ok (.new 23, 3) := by decide +kernel
theorem dX7_init_34 : decode cX7_init 34 = .ok (.dup, 1) := by decide +kernel
theorem dX7_init_35 : decode cX7_init 35 = .ok (.invokespecial 25, 3) := by decide +kernel
theorem dX7_init_38 : decode cX7_init 38 = .ok (.putfield 26, 3) := by decide +kernel
theorem dX7_init_41 : decode cX7_init 41 = .ok (.aload_n 0, 1) := by decide +kernel
theorem dX7_init_42 : decode cX7_init 42 = .ok (.new 9, 3) := by decide +kernel
theorem dX7_init_45 : decode cX7_init 45 = .ok (.dup, 1) := by decide +kernel
theorem dX7_init_46 : decode cX7_init 46 = .ok (.bipush 10, 2) := by decide +kernel
theorem dX7_init_48 : decode cX7_init 48 = .ok (.invokespecial 11, 3) := by decide +kernel
theorem dX7_init_51 : decode cX7_init 51 = .ok (.putfield 30, 3) := by decide +kernel
theorem dX7_init_54 : decode cX7_init 54 = .ok (.aload_n 0, 1) := by decide +kernel
theorem dX7_init_55 : decode cX7_init 55 = .ok (.new 9, 3) := by decide +kernel
theorem dX7_init_58 : decode cX7_init 58 = .ok (.dup, 1) := by decide +kernel
theorem dX7_init_59 : decode cX7_init 59 = .ok (.bipush 16, 2) := by decide +kernel
theorem dX7_init_61 : decode cX7_init 61 = .ok (.invokespecial 11, 3) := by decide +kernel
theorem dX7_init_64 : decode cX7_init 64 = .ok (.putfield 33, 3) := by decide +kernel
theorem dX7_init_67 : decode cX7_init 67 = .ok (.return_, 1) := by decide +kernel
def wX7_init (cA cL : ClassId) (a : Nat) (u : Nat → Nat) : va_W := [(a, .inr (7, [.ref (u 0), .ref (u 2), .ref (u 4), .ref (u 10), .ref (u 12)]))] ++ wX4_init8 cA cL (u 0) (fun i => u (i + 1)) ++ wX4_init10 cA cL (u 2) (fun i => u (i + 3)) ++ wX2_init cA cL (u 4) (fun i => u (i + 5)) ++ wX4_init10 cA cL (u 10) (fun i => u (i + 11)) ++ wX4_init16 cA cL (u 12) (fun i => u (i + 13))
set_option maxRecDepth 100000 in
set_option maxHeartbeats 8000000 in
theorem k_X7_init (l : Launch) (D : va_G) (cA cL : ClassId) (a : Nat) : MC l yX7_init cX7_init 1 D cA cL 4 14 732 [(a, .inr (7, [.null, .null, .null, .null, .null]))] [.ref a] (wX7_init cA cL a) := by
  refine met_c (by decide) rfl (Nat.le_of_ble_eq_true rfl) ?_
  intro p e st m args below meth c Q A X RI
  refine h_aload_n X dX7_init_0 (q := 1) rfl 0 rfl ?_
  refine h_objInit X dX7_init_1 (q := 4) rfl (gt_of 322 (by decide +kernel) rfl) ⟨(Nat.le_of_ble_eq_true rfl), (Nat.le_of_ble_eq_true rfl)⟩ (Nat.le_of_ble_eq_true rfl) ?_
  refine h_aload_n X dX7_init_4 (q := 5) rfl 0 rfl ?_
  refine h_new X inX4 tyX4 tyX4_ok (gt_of 323 (by decide +kernel) rfl) (gt_of 324 (by decide +kernel) rfl) (gt_of 199 (by decide +kernel) rfl) (ci := 4) rfl (fs := [.int 0, .null, .int 0]) (by intro j hj; exact (by decide : ∀ j, j < 3 → defaultValue (tyX4 j) = vp_V [.int 0, .null, .int 0] j) j hj) (Nat.le_of_ble_eq_true rfl) (Nat.le_of_ble_eq_true rfl) (ce2 := 1) (sl2 := 3) rfl rfl dX7_init_5 (q := 8) rfl (fun q1 => ?_)
  refine h_dup X dX7_init_8 (q := 9) rfl rfl ?_
  refine h_bipush X dX7_init_9 (q := 11) rfl li_b8 ?_
  refine h_ctorN X (host := "StormSeeds") (W1 := (wX4_init8 cA cL q1)) (X0 := [(a, .inr (7, [.null, .null, .null, .null, .null]))]) (ce2 := 2) (sl2 := 35) (n := 1) (k_X4_init8 l D cA cL q1) rfl (gt_of 327 (by decide +kernel) rfl) (gt_of 199 (by decide +kernel) rfl) (gt_of 326 (by decide +kernel) rfl) (nw_of 325 (by decide +kernel) rfl) rfl ⟨by decide, by decide, by decide +kernel⟩ (As := [.int (8 : Int32)]) rfl ⟨(Nat.le_of_ble_eq_true rfl), (Nat.le_of_ble_eq_true rfl)⟩ ⟨(Nat.le_of_ble_eq_true rfl), (Nat.le_of_ble_eq_true rfl)⟩ rfl rfl (Nat.le_of_ble_eq_true rfl) rfl dX7_init_11 (q := 14) rfl (fun u1 => ?_)
  refine h_putF X 0 7 rfl rfl inX7 0 (Nat.le_of_ble_eq_true rfl) rfl (gt_of 376 (by decide +kernel) rfl) tyX7 tyX7_ok nmX7 rfl rfl (ty := (.object "StormSeeds$Table")) rfl rfl rfl (Nat.le_of_ble_eq_true rfl) (ws' := [(a, .inr (7, [.ref q1, .null, .null, .null, .null]))] ++ wX4_init8 cA cL q1 u1) rfl dX7_init_14 (q := 17) rfl ?_
  refine h_aload_n X dX7_init_17 (q := 18) rfl 0 rfl ?_
  refine h_new X inX4 tyX4 tyX4_ok (gt_of 323 (by decide +kernel) rfl) (gt_of 324 (by decide +kernel) rfl) (gt_of 199 (by decide +kernel) rfl) (ci := 4) rfl (fs := [.int 0, .null, .int 0]) (by intro j hj; exact (by decide : ∀ j, j < 3 → defaultValue (tyX4 j) = vp_V [.int 0, .null, .int 0] j) j hj) (Nat.le_of_ble_eq_true rfl) (Nat.le_of_ble_eq_true rfl) (ce2 := 3) (sl2 := 38) rfl rfl dX7_init_18 (q := 21) rfl (fun q2 => ?_)
  refine h_dup X dX7_init_21 (q := 22) rfl rfl ?_
  refine h_bipush X dX7_init_22 (q := 24) rfl li_b10 ?_
  refine h_ctorN X (host := "StormSeeds") (W1 := (wX4_init10 cA cL q2)) (X0 := [(a, .inr (7, [.ref q1, .null, .null, .null, .null]))] ++ wX4_init8 cA cL q1 u1) (ce2 := 4) (sl2 := 78) (n := 1) (k_X4_init10 l D cA cL q2) rfl (gt_of 327 (by decide +kernel) rfl) (gt_of 199 (by decide +kernel) rfl) (gt_of 326 (by decide +kernel) rfl) (nw_of 325 (by decide +kernel) rfl) rfl ⟨by decide, by decide, by decide +kernel⟩ (As := [.int (10 : Int32)]) rfl ⟨(Nat.le_of_ble_eq_true rfl), (Nat.le_of_ble_eq_true rfl)⟩ ⟨(Nat.le_of_ble_eq_true rfl), (Nat.le_of_ble_eq_true rfl)⟩ rfl rfl (Nat.le_of_ble_eq_true rfl) rfl dX7_init_24 (q := 27) rfl (fun u2 => ?_)
  refine h_putF X 0 7 rfl rfl inX7 1 (Nat.le_of_ble_eq_true rfl) rfl (gt_of 381 (by decide +kernel) rfl) tyX7 tyX7_ok nmX7 rfl rfl (ty := (.object "StormSeeds$Table")) rfl rfl rfl (Nat.le_of_ble_eq_true rfl) (ws' := [(a, .inr (7, [.ref q1, .ref q2, .null, .null, .null]))] ++ wX4_init8 cA cL q1 u1 ++ wX4_init10 cA cL q2 u2) rfl dX7_init_27 (q := 30) rfl ?_
  refine h_aload_n X dX7_init_30 (q := 31) rfl 0 rfl ?_
  refine h_new X inX2 tyX2 tyX2_ok (gt_of 349 (by decide +kernel) rfl) (gt_of 350 (by decide +kernel) rfl) (gt_of 201 (by decide +kernel) rfl) (ci := 2) rfl (fs := [.null, .null, .int 0, .null, .null]) (by intro j hj; exact (by decide : ∀ j, j < 5 → defaultValue (tyX2 j) = vp_V [.null, .null, .int 0, .null, .null] j) j hj) (Nat.le_of_ble_eq_true rfl) (Nat.le_of_ble_eq_true rfl) (ce2 := 5) (sl2 := 83) rfl rfl dX7_init_31 (q := 34) rfl (fun q3 => ?_)
  refine h_dup X dX7_init_34 (q := 35) rfl rfl ?_
  refine h_ctorN X (host := "StormSeeds") (W1 := (wX2_init cA cL q3)) (X0 := [(a, .inr (7, [.ref q1, .ref q2, .null, .null, .null]))] ++ wX4_init8 cA cL q1 u1 ++ wX4_init10 cA cL q2 u2) (ce2 := 10) (sl2 := 622) (n := 0) (k_X2_init l D cA cL q3) rfl (gt_of 353 (by decide +kernel) rfl) (gt_of 201 (by decide +kernel) rfl) (gt_of 352 (by decide +kernel) rfl) (nw_of 351 (by decide +kernel) rfl) rfl ⟨by decide, by decide, by decide +kernel⟩ (As := []) rfl ⟨(Nat.le_of_ble_eq_true rfl), (Nat.le_of_ble_eq_true rfl)⟩ ⟨(Nat.le_of_ble_eq_true rfl), (Nat.le_of_ble_eq_true rfl)⟩ rfl rfl (Nat.le_of_ble_eq_true rfl) rfl dX7_init_35 (q := 38) rfl (fun u3 => ?_)
  refine h_putF X 0 7 rfl rfl inX7 2 (Nat.le_of_ble_eq_true rfl) rfl (gt_of 384 (by decide +kernel) rfl) tyX7 tyX7_ok nmX7 rfl rfl (ty := (.object "StormSeeds$Law")) rfl rfl rfl (Nat.le_of_ble_eq_true rfl) (ws' := [(a, .inr (7, [.ref q1, .ref q2, .ref q3, .null, .null]))] ++ wX4_init8 cA cL q1 u1 ++ wX4_init10 cA cL q2 u2 ++ wX2_init cA cL q3 u3) rfl dX7_init_38 (q := 41) rfl ?_
  refine h_aload_n X dX7_init_41 (q := 42) rfl 0 rfl ?_
  refine h_new X inX4 tyX4 tyX4_ok (gt_of 323 (by decide +kernel) rfl) (gt_of 324 (by decide +kernel) rfl) (gt_of 199 (by decide +kernel) rfl) (ci := 4) rfl (fs := [.int 0, .null, .int 0]) (by intro j hj; exact (by decide : ∀ j, j < 3 → defaultValue (tyX4 j) = vp_V [.int 0, .null, .int 0] j) j hj) (Nat.le_of_ble_eq_true rfl) (Nat.le_of_ble_eq_true rfl) (ce2 := 11) (sl2 := 625) rfl rfl dX7_init_42 (q := 45) rfl (fun q4 => ?_)
  refine h_dup X dX7_init_45 (q := 46) rfl rfl ?_
  refine h_bipush X dX7_init_46 (q := 48) rfl li_b10 ?_
  refine h_ctorN X (host := "StormSeeds") (W1 := (wX4_init10 cA cL q4)) (X0 := [(a, .inr (7, [.ref q1, .ref q2, .ref q3, .null, .null]))] ++ wX4_init8 cA cL q1 u1 ++ wX4_init10 cA cL q2 u2 ++ wX2_init cA cL q3 u3) (ce2 := 12) (sl2 := 665) (n := 1) (k_X4_init10 l D cA cL q4) rfl (gt_of 327 (by decide +kernel) rfl) (gt_of 199 (by decide +kernel) rfl) (gt_of 326 (by decide +kernel) rfl) (nw_of 325 (by decide +kernel) rfl) rfl ⟨by decide, by decide, by decide +kernel⟩ (As := [.int (10 : Int32)]) rfl ⟨(Nat.le_of_ble_eq_true rfl), (Nat.le_of_ble_eq_true rfl)⟩ ⟨(Nat.le_of_ble_eq_true rfl), (Nat.le_of_ble_eq_true rfl)⟩ rfl rfl (Nat.le_of_ble_eq_true rfl) rfl dX7_init_48 (q := 51) rfl (fun u4 => ?_)
  refine h_putF X 0 7 rfl rfl inX7 3 (Nat.le_of_ble_eq_true rfl) rfl (gt_of 388 (by decide +kernel) rfl) tyX7 tyX7_ok nmX7 rfl rfl (ty := (.object "StormSeeds$Table")) rfl rfl rfl (Nat.le_of_ble_eq_true rfl) (ws' := [(a, .inr (7, [.ref q1, .ref q2, .ref q3, .ref q4, .null]))] ++ wX4_init8 cA cL q1 u1 ++ wX4_init10 cA cL q2 u2 ++ wX2_init cA cL q3 u3 ++ wX4_init10 cA cL q4 u4) rfl dX7_init_51 (q := 54) rfl ?_
  refine h_aload_n X dX7_init_54 (q := 55) rfl 0 rfl ?_
  refine h_new X inX4 tyX4 tyX4_ok (gt_of 323 (by decide +kernel) rfl) (gt_of 324 (by decide +kernel) rfl) (gt_of 199 (by decide +kernel) rfl) (ci := 4) rfl (fs := [.int 0, .null, .int 0]) (by intro j hj; exact (by decide : ∀ j, j < 3 → defaultValue (tyX4 j) = vp_V [.int 0, .null, .int 0] j) j hj) (Nat.le_of_ble_eq_true rfl) (Nat.le_of_ble_eq_true rfl) (ce2 := 13) (sl2 := 668) rfl rfl dX7_init_55 (q := 58) rfl (fun q5 => ?_)
  refine h_dup X dX7_init_58 (q := 59) rfl rfl ?_
  refine h_bipush X dX7_init_59 (q := 61) rfl li_b16 ?_
  refine h_ctorN X (host := "StormSeeds") (W1 := (wX4_init16 cA cL q5)) (X0 := [(a, .inr (7, [.ref q1, .ref q2, .ref q3, .ref q4, .null]))] ++ wX4_init8 cA cL q1 u1 ++ wX4_init10 cA cL q2 u2 ++ wX2_init cA cL q3 u3 ++ wX4_init10 cA cL q4 u4) (ce2 := 14) (sl2 := 732) (n := 1) (k_X4_init16 l D cA cL q5) rfl (gt_of 327 (by decide +kernel) rfl) (gt_of 199 (by decide +kernel) rfl) (gt_of 326 (by decide +kernel) rfl) (nw_of 325 (by decide +kernel) rfl) rfl ⟨by decide, by decide, by decide +kernel⟩ (As := [.int (16 : Int32)]) rfl ⟨(Nat.le_of_ble_eq_true rfl), (Nat.le_of_ble_eq_true rfl)⟩ ⟨(Nat.le_of_ble_eq_true rfl), (Nat.le_of_ble_eq_true rfl)⟩ rfl rfl (Nat.le_of_ble_eq_true rfl) rfl dX7_init_61 (q := 64) rfl (fun u5 => ?_)
  refine h_putF X 0 7 rfl rfl inX7 4 (Nat.le_of_ble_eq_true rfl) rfl (gt_of 392 (by decide +kernel) rfl) tyX7 tyX7_ok nmX7 rfl rfl (ty := (.object "StormSeeds$Table")) rfl rfl rfl (Nat.le_of_ble_eq_true rfl) (ws' := [(a, .inr (7, [.ref q1, .ref q2, .ref q3, .ref q4, .ref q5]))] ++ wX4_init8 cA cL q1 u1 ++ wX4_init10 cA cL q2 u2 ++ wX2_init cA cL q3 u3 ++ wX4_init10 cA cL q4 u4 ++ wX4_init16 cA cL q5 u5) rfl dX7_init_64 (q := 67) rfl ?_
  exact RI 67 _ (fun i => ([q1, (u1 0), q2, (u2 0), q3, (u3 0), (u3 1), (u3 2), (u3 3), (u3 4), q4, (u4 0), q5, (u5 0)] : List Nat).getD i 0) dX7_init_67
theorem dX3_init_0 : decode cX3_init 0 = .ok (.aload_n 0, 1) := by decide +kernel
theorem dX3_init_1 : decode cX3_init 1 = .ok (.invokespecial 3, 3) := by decide +kernel
theorem dX3_init_4 : decode cX3_init 4 = .ok (.aload_n 0, 1) := by decide +kernel
theorem dX3_init_5 : decode cX3_init 5 = .ok (.new 9, 3) := by decide +kernel
theorem dX3_init_8 : decode cX3_init 8 = .ok (.dup, 1) := by decide +kernel
theorem dX3_init_9 : decode cX3_init 9 = .ok (.invokespecial 11, 3) := by decide +kernel
theorem dX3_init_12 : decode cX3_init 12 = .ok (.putfield 12, 3) := by decide +kernel
theorem dX3_init_15 : decode cX3_init 15 = .ok (.aload_n 0, 1) := by decide +kernel
theorem dX3_init_16 : decode cX3_init 16 = .ok (.aload_n 1, 1) := by decide +kernel
theorem dX3_init_17 : decode cX3_init 17 = .ok (.putfield 18, 3) := by decide +kernel
theorem dX3_init_20 : decode cX3_init 20 = .ok (.aload_n 0, 1) := by decide +kernel
theorem dX3_init_21 : decode cX3_init 21 = .ok (.aload_n 2, 1) := by decide +kernel
theorem dX3_init_22 : decode cX3_init 22 = .ok (.putfield 22, 3) := by decide +kernel
theorem dX3_init_25 : decode cX3_init 25 = .ok (.aload_n 0, 1) := by decide +kernel
theorem dX3_init_26 : decode cX3_init 26 = .ok (.aload_n 3, 1) := by decide +kernel
theorem dX3_init_27 : decode cX3_init 27 = .ok (.putfield 25, 3) := by decide +kernel
theorem dX3_init_30 : decode cX3_init 30 = .ok (.return_, 1) := by decide +kernel
def wX3_init (cA cL : ClassId) (a : Nat) (r1 : Nat) (r2 : Nat) (r3 : Nat) (u : Nat → Nat) : va_W := [(a, .inr (3, [.ref r1, .ref r2, .ref r3, .ref (u 0)]))] ++ wX7_init cA cL (u 0) (fun i => u (i + 1))
set_option maxRecDepth 100000 in
set_option maxHeartbeats 8000000 in
theorem k_X3_init (l : Launch) (D : va_G) (cA cL : ClassId) (a : Nat) (r1 : Nat) (r2 : Nat) (r3 : Nat) : MC l yX3_init cX3_init 4 D cA cL 5 15 737 [(a, .inr (3, [.null, .null, .null, .null]))] [.ref a, .ref r1, .ref r2, .ref r3] (wX3_init cA cL a r1 r2 r3) := by
  refine met_c (by decide) rfl (Nat.le_of_ble_eq_true rfl) ?_
  intro p e st m args below meth c Q A X RI
  refine h_aload_n X dX3_init_0 (q := 1) rfl 0 rfl ?_
  refine h_objInit X dX3_init_1 (q := 4) rfl (gt_of 455 (by decide +kernel) rfl) ⟨(Nat.le_of_ble_eq_true rfl), (Nat.le_of_ble_eq_true rfl)⟩ (Nat.le_of_ble_eq_true rfl) ?_
  refine h_aload_n X dX3_init_4 (q := 5) rfl 0 rfl ?_
  refine h_new X inX7 tyX7 tyX7_ok (gt_of 456 (by decide +kernel) rfl) (gt_of 318 (by decide +kernel) rfl) (gt_of 198 (by decide +kernel) rfl) (ci := 7) rfl (fs := [.null, .null, .null, .null, .null]) (by intro j hj; exact (by decide : ∀ j, j < 5 → defaultValue (tyX7 j) = vp_V [.null, .null, .null, .null, .null] j) j hj) (Nat.le_of_ble_eq_true rfl) (Nat.le_of_ble_eq_true rfl) (ce2 := 1) (sl2 := 5) rfl rfl dX3_init_5 (q := 8) rfl (fun q1 => ?_)
  refine h_dup X dX3_init_8 (q := 9) rfl rfl ?_
  refine h_ctorN X (host := "StormSeeds") (W1 := (wX7_init cA cL q1)) (X0 := [(a, .inr (3, [.null, .null, .null, .null]))]) (ce2 := 15) (sl2 := 737) (n := 0) (k_X7_init l D cA cL q1) rfl (gt_of 321 (by decide +kernel) rfl) (gt_of 198 (by decide +kernel) rfl) (gt_of 320 (by decide +kernel) rfl) (nw_of 457 (by decide +kernel) rfl) rfl ⟨by decide, by decide, by decide +kernel⟩ (As := []) rfl ⟨(Nat.le_of_ble_eq_true rfl), (Nat.le_of_ble_eq_true rfl)⟩ ⟨(Nat.le_of_ble_eq_true rfl), (Nat.le_of_ble_eq_true rfl)⟩ rfl rfl (Nat.le_of_ble_eq_true rfl) rfl dX3_init_9 (q := 12) rfl (fun u1 => ?_)
  refine h_putF X 0 3 rfl rfl inX3 3 (Nat.le_of_ble_eq_true rfl) rfl (gt_of 461 (by decide +kernel) rfl) tyX3 tyX3_ok nmX3 rfl rfl (ty := (.object "StormSeeds$Told")) rfl rfl rfl (Nat.le_of_ble_eq_true rfl) (ws' := [(a, .inr (3, [.null, .null, .null, .ref q1]))] ++ wX7_init cA cL q1 u1) rfl dX3_init_12 (q := 15) rfl ?_
  refine h_aload_n X dX3_init_15 (q := 16) rfl 0 rfl ?_
  refine h_aload_n X dX3_init_16 (q := 17) rfl 1 rfl ?_
  refine h_putF X 0 3 rfl rfl inX3 0 (Nat.le_of_ble_eq_true rfl) rfl (gt_of 458 (by decide +kernel) rfl) tyX3 tyX3_ok nmX3 rfl rfl (ty := (.object "StormSeeds$Tape")) rfl rfl rfl (Nat.le_of_ble_eq_true rfl) (ws' := [(a, .inr (3, [.ref r1, .null, .null, .ref q1]))] ++ wX7_init cA cL q1 u1) rfl dX3_init_17 (q := 20) rfl ?_
  refine h_aload_n X dX3_init_20 (q := 21) rfl 0 rfl ?_
  refine h_aload_n X dX3_init_21 (q := 22) rfl 2 rfl ?_
  refine h_putF X 0 3 rfl rfl inX3 1 (Nat.le_of_ble_eq_true rfl) rfl (gt_of 459 (by decide +kernel) rfl) tyX3 tyX3_ok nmX3 rfl rfl (ty := (.object "StormSeeds$Told")) rfl rfl rfl (Nat.le_of_ble_eq_true rfl) (ws' := [(a, .inr (3, [.ref r1, .ref r2, .null, .ref q1]))] ++ wX7_init cA cL q1 u1) rfl dX3_init_22 (q := 25) rfl ?_
  refine h_aload_n X dX3_init_25 (q := 26) rfl 0 rfl ?_
  refine h_aload_n X dX3_init_26 (q := 27) rfl 3 rfl ?_
  refine h_putF X 0 3 rfl rfl inX3 2 (Nat.le_of_ble_eq_true rfl) rfl (gt_of 460 (by decide +kernel) rfl) tyX3 tyX3_ok nmX3 rfl rfl (ty := (.object "StormSeeds$Land")) rfl rfl rfl (Nat.le_of_ble_eq_true rfl) (ws' := [(a, .inr (3, [.ref r1, .ref r2, .ref r3, .ref q1]))] ++ wX7_init cA cL q1 u1) rfl dX3_init_27 (q := 30) rfl ?_
  exact RI 30 _ (fun i => ([q1, (u1 0), (u1 1), (u1 2), (u1 3), (u1 4), (u1 5), (u1 6), (u1 7), (u1 8), (u1 9), (u1 10), (u1 11), (u1 12), (u1 13)] : List Nat).getD i 0) dX3_init_30
theorem dX0_init_0 : decode cX0_init 0 = .ok (.aload_n 0, 1) := by decide +kernel
theorem dX0_init_1 : decode cX0_init 1 = .ok (.invokespecial 3, 3) := by decide +kernel
theorem dX0_init_4 : decode cX0_init 4 = .ok (.aload_n 0, 1) := by decide +kernel
theorem dX0_init_5 : decode cX0_init 5 = .ok (.bipush 6, 2) := by decide +kernel
theorem dX0_init_7 : decode cX0_init 7 = .ok (.anewarray 9, 3) := by decide +kernel
theorem dX0_init_10 : decode cX0_init 10 = .ok (.putfield 11, 3) := by decide +kernel
theorem dX0_init_13 : decode cX0_init 13 = .ok (.aload_n 0, 1) := by decide +kernel
theorem dX0_init_14 : decode cX0_init 14 = .ok (.bipush 6, 2) := by decide +kernel
theorem dX0_init_16 : decode cX0_init 16 = .ok (.newarray .int, 2) := by decide +kernel
theorem dX0_init_18 : decode cX0_init 18 = .ok (.putfield 17, 3) := by decide +kernel
theorem dX0_init_21 : decode cX0_init 21 = .ok (.iconst 0, 1) := by decide +kernel
theorem dX0_init_22 : decode cX0_init 22 = .ok (.istore_n 1, 1) := by decide +kernel
theorem dX0_init_23 : decode cX0_init 23 = .ok (.iload_n 1, 1) := by decide +kernel
theorem dX0_init_24 : decode cX0_init 24 = .ok (.bipush 6, 2) := by decide +kernel
theorem dX0_init_26 : decode cX0_init 26 = .ok (.if_icmp .ge 22, 3) := by decide +kernel
theorem dX0_init_29 : decode cX0_init 29 = .ok (.aload_n 0, 1) := by decide +kernel
theorem dX0_init_30 : decode cX0_init 30 = .ok (.getfield 11, 3) := by decide +kernel
theorem dX0_init_33 : decode cX0_init 33 = .ok (.iload_n 1, 1) := by decide +kernel
theorem dX0_init_34 : decode cX0_init 34 = .ok (.new 9, 3) := by decide +kernel
theorem dX0_init_37 : decode cX0_init 37 = .ok (.dup, 1) := by decide +kernel
theorem dX0_init_38 : decode cX0_init 38 = .ok (.invokespecial 21, 3) := by decide +kernel
theorem dX0_init_41 : decode cX0_init 41 = .ok (.aastore, 1) := by decide +kernel
theorem dX0_init_42 : decode cX0_init 42 = .ok (.iinc 1 1, 3) := by decide +kernel
theorem dX0_init_45 : decode cX0_init 45 = .ok (.goto (-22), 3) := by decide +kernel
theorem dX0_init_48 : decode cX0_init 48 = .ok (.return_, 1) := by decide +kernel
def wX0_init (cA cL : ClassId) (a : Nat) (u : Nat → Nat) : va_W := [(a, .inr (0, [.ref (u 0), .ref (u 1), .int 0, .int 0]))] ++ [((u 0), .inl (cL, 6, .inr (.inr (.inr (.inr (va_up (va_up (va_up (va_up (va_up (va_up (fun _ => none) 0 (some (u 2))) 1 (some (u 9))) 2 (some (u 16))) 3 (some (u 23))) 4 (some (u 30))) 5 (some (u 37))))))))] ++ [((u 1), .inl (cA, 6, .inl (fun _ => 0)))] ++ wX1_init cA cL (u 2) (fun i => u (i + 3)) ++ wX1_init cA cL (u 9) (fun i => u (i + 10)) ++ wX1_init cA cL (u 16) (fun i => u (i + 17)) ++ wX1_init cA cL (u 23) (fun i => u (i + 24)) ++ wX1_init cA cL (u 30) (fun i => u (i + 31)) ++ wX1_init cA cL (u 37) (fun i => u (i + 38))
set_option maxRecDepth 100000 in
set_option maxHeartbeats 8000000 in
theorem k_X0_init (l : Launch) (D : va_G) (cA cL : ClassId) (a : Nat) : MC l yX0_init cX0_init 2 D cA cL 3 44 2412 [(a, .inr (0, [.null, .null, .int 0, .int 0]))] [.ref a] (wX0_init cA cL a) := by
  refine met_c (by decide) rfl (Nat.le_of_ble_eq_true rfl) ?_
  intro p e st m args below meth c Q A X RI
  refine h_aload_n X dX0_init_0 (q := 1) rfl 0 rfl ?_
  refine h_objInit X dX0_init_1 (q := 4) rfl (gt_of 512 (by decide +kernel) rfl) ⟨(Nat.le_of_ble_eq_true rfl), (Nat.le_of_ble_eq_true rfl)⟩ (Nat.le_of_ble_eq_true rfl) ?_
  refine h_aload_n X dX0_init_4 (q := 5) rfl 0 rfl ?_
  refine h_bipush X dX0_init_5 (q := 7) rfl li_b6 ?_
  refine h_newq X (gt_of 513 (by decide +kernel) rfl) (by decide) (N := 6) (by decide) (Nat.le_of_ble_eq_true rfl) (Nat.le_of_ble_eq_true rfl) (Nat.le_of_ble_eq_true rfl) (ce2 := 1) (sl2 := 6) rfl rfl dX0_init_7 (q := 10) rfl (fun q1 => ?_)
  refine h_putF X 0 0 rfl rfl inX0 0 (Nat.le_of_ble_eq_true rfl) rfl (gt_of 516 (by decide +kernel) rfl) tyX0 tyX0_ok nmX0 rfl rfl (ty := (.array (.object "StormSeeds$Land"))) rfl rfl rfl (Nat.le_of_ble_eq_true rfl) (ws' := [(a, .inr (0, [.ref q1, .null, .int 0, .int 0]))] ++ [(q1, .inl (cL, 6, .inr (.inr (.inr (.inr (fun _ => none))))))]) rfl dX0_init_10 (q := 13) rfl ?_
  refine h_aload_n X dX0_init_13 (q := 14) rfl 0 rfl ?_
  refine h_bipush X dX0_init_14 (q := 16) rfl li_b6 ?_
  refine h_newa X (by decide) (N := 6) (by decide) (Nat.le_of_ble_eq_true rfl) (Nat.le_of_ble_eq_true rfl) (Nat.le_of_ble_eq_true rfl) (ce2 := 2) (sl2 := 12) rfl rfl dX0_init_16 (q := 18) rfl (fun q2 => ?_)
  refine h_putF X 0 0 rfl rfl inX0 1 (Nat.le_of_ble_eq_true rfl) rfl (gt_of 517 (by decide +kernel) rfl) tyX0 tyX0_ok nmX0 rfl rfl (ty := (.array .int)) rfl rfl rfl (Nat.le_of_ble_eq_true rfl) (ws' := [(a, .inr (0, [.ref q1, .ref q2, .int 0, .int 0]))] ++ [(q1, .inl (cL, 6, .inr (.inr (.inr (.inr (fun _ => none))))))] ++ [(q2, .inl (cA, 6, .inl (fun _ => 0)))]) rfl dX0_init_18 (q := 21) rfl ?_
  refine h_iconst X dX0_init_21 (q := 22) rfl li_i0 ?_
  refine h_istore_n X dX0_init_22 (q := 23) rfl (Nat.le_of_ble_eq_true rfl) (lv' := [(1, .int (0 : Int32)), (0, .ref a)]) rfl ?_
  refine h_iload_n X dX0_init_23 (q := 24) rfl 0 rfl ?_
  refine h_bipush X dX0_init_24 (q := 26) rfl li_b6 ?_
  refine h_geF X dX0_init_26 (q := 29) rfl (tgt := 48) (by decide) (by decide) ?_
  refine h_aload_n X dX0_init_29 (q := 30) rfl 1 rfl ?_
  refine h_get X 0 0 rfl rfl inX0 0 (Nat.le_of_ble_eq_true rfl) rfl (gt_of 516 (by decide +kernel) rfl) rfl dX0_init_30 (q := 33) rfl ?_
  refine h_iload_n X dX0_init_33 (q := 34) rfl 0 rfl ?_
  refine h_new X inX1 tyX1 tyX1_ok (gt_of 513 (by decide +kernel) rfl) (gt_of 225 (by decide +kernel) rfl) (gt_of 197 (by decide +kernel) rfl) (ci := 1) rfl (fs := [.int 0, .int 0, .int 0, .int 0, .int 0, .int 0, .int 0, .long 0, .long 0, .long 0, .null, .null, .null, .null, .null, .null]) (by intro j hj; exact (by decide : ∀ j, j < 16 → defaultValue (tyX1 j) = vp_V [.int 0, .int 0, .int 0, .int 0, .int 0, .int 0, .int 0, .long 0, .long 0, .long 0, .null, .null, .null, .null, .null, .null] j) j hj) (Nat.le_of_ble_eq_true rfl) (Nat.le_of_ble_eq_true rfl) (ce2 := 3) (sl2 := 28) rfl rfl dX0_init_34 (q := 37) rfl (fun q3 => ?_)
  refine h_dup X dX0_init_37 (q := 38) rfl rfl ?_
  refine h_ctorN X (host := "StormSeeds") (W1 := (wX1_init cA cL q3)) (X0 := [(a, .inr (0, [.ref q1, .ref q2, .int 0, .int 0]))] ++ [(q1, .inl (cL, 6, .inr (.inr (.inr (.inr (fun _ => none))))))] ++ [(q2, .inl (cA, 6, .inl (fun _ => 0)))]) (ce2 := 9) (sl2 := 412) (n := 0) (k_X1_init l D cA cL q3) rfl (gt_of 228 (by decide +kernel) rfl) (gt_of 197 (by decide +kernel) rfl) (gt_of 227 (by decide +kernel) rfl) (nw_of 515 (by decide +kernel) rfl) rfl ⟨by decide, by decide, by decide +kernel⟩ (As := []) rfl ⟨(Nat.le_of_ble_eq_true rfl), (Nat.le_of_ble_eq_true rfl)⟩ ⟨(Nat.le_of_ble_eq_true rfl), (Nat.le_of_ble_eq_true rfl)⟩ rfl rfl (Nat.le_of_ble_eq_true rfl) rfl dX0_init_38 (q := 41) rfl (fun u1 => ?_)
  refine h_aast X 1 3 1 rfl rfl rfl (i := (0 : Int32)) (j := 0) (by decide) (by decide) dX0_init_41 (q := 42) rfl (ws' := [(a, .inr (0, [.ref q1, .ref q2, .int 0, .int 0]))] ++ [(q1, .inl (cL, 6, .inr (.inr (.inr (.inr (va_up (fun _ => none) 0 (some q3)))))))] ++ [(q2, .inl (cA, 6, .inl (fun _ => 0)))] ++ wX1_init cA cL q3 u1) rfl ?_
  refine h_iinc X dX0_init_42 (q := 45) rfl 0 rfl (v := (1 : Int32)) (by decide) (Nat.le_of_ble_eq_true rfl) (lv' := [(1, .int (1 : Int32)), (0, .ref a)]) rfl ?_
  refine h_goto X dX0_init_45 (tgt := 23) (by decide) ?_
  refine h_iload_n X dX0_init_23 (q := 24) rfl 0 rfl ?_
  refine h_bipush X dX0_init_24 (q := 26) rfl li_b6 ?_
  refine h_geF X dX0_init_26 (q := 29) rfl (tgt := 48) (by decide) (by decide) ?_
  refine h_aload_n X dX0_init_29 (q := 30) rfl 1 rfl ?_
  refine h_get X 0 0 rfl rfl inX0 0 (Nat.le_of_ble_eq_true rfl) rfl (gt_of 516 (by decide +kernel) rfl) rfl dX0_init_30 (q := 33) rfl ?_
  refine h_iload_n X dX0_init_33 (q := 34) rfl 0 rfl ?_
  refine h_new X inX1 tyX1 tyX1_ok (gt_of 513 (by decide +kernel) rfl) (gt_of 225 (by decide +kernel) rfl) (gt_of 197 (by decide +kernel) rfl) (ci := 1) rfl (fs := [.int 0, .int 0, .int 0, .int 0, .int 0, .int 0, .int 0, .long 0, .long 0, .long 0, .null, .null, .null, .null, .null, .null]) (by intro j hj; exact (by decide : ∀ j, j < 16 → defaultValue (tyX1 j) = vp_V [.int 0, .int 0, .int 0, .int 0, .int 0, .int 0, .int 0, .long 0, .long 0, .long 0, .null, .null, .null, .null, .null, .null] j) j hj) (Nat.le_of_ble_eq_true rfl) (Nat.le_of_ble_eq_true rfl) (ce2 := 10) (sl2 := 428) rfl rfl dX0_init_34 (q := 37) rfl (fun q4 => ?_)
  refine h_dup X dX0_init_37 (q := 38) rfl rfl ?_
  refine h_ctorN X (host := "StormSeeds") (W1 := (wX1_init cA cL q4)) (X0 := [(a, .inr (0, [.ref q1, .ref q2, .int 0, .int 0]))] ++ [(q1, .inl (cL, 6, .inr (.inr (.inr (.inr (va_up (fun _ => none) 0 (some q3)))))))] ++ [(q2, .inl (cA, 6, .inl (fun _ => 0)))] ++ wX1_init cA cL q3 u1) (ce2 := 16) (sl2 := 812) (n := 0) (k_X1_init l D cA cL q4) rfl (gt_of 228 (by decide +kernel) rfl) (gt_of 197 (by decide +kernel) rfl) (gt_of 227 (by decide +kernel) rfl) (nw_of 515 (by decide +kernel) rfl) rfl ⟨by decide, by decide, by decide +kernel⟩ (As := []) rfl ⟨(Nat.le_of_ble_eq_true rfl), (Nat.le_of_ble_eq_true rfl)⟩ ⟨(Nat.le_of_ble_eq_true rfl), (Nat.le_of_ble_eq_true rfl)⟩ rfl rfl (Nat.le_of_ble_eq_true rfl) rfl dX0_init_38 (q := 41) rfl (fun u2 => ?_)
  refine h_aast X 1 10 1 rfl rfl rfl (i := (1 : Int32)) (j := 1) (by decide) (by decide) dX0_init_41 (q := 42) rfl (ws' := [(a, .inr (0, [.ref q1, .ref q2, .int 0, .int 0]))] ++ [(q1, .inl (cL, 6, .inr (.inr (.inr (.inr (va_up (va_up (fun _ => none) 0 (some q3)) 1 (some q4)))))))] ++ [(q2, .inl (cA, 6, .inl (fun _ => 0)))] ++ wX1_init cA cL q3 u1 ++ wX1_init cA cL q4 u2) rfl ?_
  refine h_iinc X dX0_init_42 (q := 45) rfl 0 rfl (v := (2 : Int32)) (by decide) (Nat.le_of_ble_eq_true rfl) (lv' := [(1, .int (2 : Int32)), (0, .ref a)]) rfl ?_
  refine h_goto X dX0_init_45 (tgt := 23) (by decide) ?_
  refine h_iload_n X dX0_init_23 (q := 24) rfl 0 rfl ?_
  refine h_bipush X dX0_init_24 (q := 26) rfl li_b6 ?_
  refine h_geF X dX0_init_26 (q := 29) rfl (tgt := 48) (by decide) (by decide) ?_
  refine h_aload_n X dX0_init_29 (q := 30) rfl 1 rfl ?_
  refine h_get X 0 0 rfl rfl inX0 0 (Nat.le_of_ble_eq_true rfl) rfl (gt_of 516 (by decide +kernel) rfl) rfl dX0_init_30 (q := 33) rfl ?_
  refine h_iload_n X dX0_init_33 (q := 34) rfl 0 rfl ?_
  refine h_new X inX1 tyX1 tyX1_ok (gt_of 513 (by decide +kernel) rfl) (gt_of 225 (by decide +kernel) rfl) (gt_of 197 (by decide +kernel) rfl) (ci := 1) rfl (fs := [.int 0, .int 0, .int 0, .int 0, .int 0, .int 0, .int 0, .long 0, .long 0, .long 0, .null, .null, .null, .null, .null, .null]) (by intro j hj; exact (by decide : ∀ j, j < 16 → defaultValue (tyX1 j) = vp_V [.int 0, .int 0, .int 0, .int 0, .int 0, .int 0, .int 0, .long 0, .long 0, .long 0, .null, .null, .null, .null, .null, .null] j) j hj) (Nat.le_of_ble_eq_true rfl) (Nat.le_of_ble_eq_true rfl) (ce2 := 17) (sl2 := 828) rfl rfl dX0_init_34 (q := 37) rfl (fun q5 => ?_)
  refine h_dup X dX0_init_37 (q := 38) rfl rfl ?_
  refine h_ctorN X (host := "StormSeeds") (W1 := (wX1_init cA cL q5)) (X0 := [(a, .inr (0, [.ref q1, .ref q2, .int 0, .int 0]))] ++ [(q1, .inl (cL, 6, .inr (.inr (.inr (.inr (va_up (va_up (fun _ => none) 0 (some q3)) 1 (some q4)))))))] ++ [(q2, .inl (cA, 6, .inl (fun _ => 0)))] ++ wX1_init cA cL q3 u1 ++ wX1_init cA cL q4 u2) (ce2 := 23) (sl2 := 1212) (n := 0) (k_X1_init l D cA cL q5) rfl (gt_of 228 (by decide +kernel) rfl) (gt_of 197 (by decide +kernel) rfl) (gt_of 227 (by decide +kernel) rfl) (nw_of 515 (by decide +kernel) rfl) rfl ⟨by decide, by decide, by decide +kernel⟩ (As := []) rfl ⟨(Nat.le_of_ble_eq_true rfl), (Nat.le_of_ble_eq_true rfl)⟩ ⟨(Nat.le_of_ble_eq_true rfl), (Nat.le_of_ble_eq_true rfl)⟩ rfl rfl (Nat.le_of_ble_eq_true rfl) rfl dX0_init_38 (q := 41) rfl (fun u3 => ?_)
  refine h_aast X 1 17 1 rfl rfl rfl (i := (2 : Int32)) (j := 2) (by decide) (by decide) dX0_init_41 (q := 42) rfl (ws' := [(a, .inr (0, [.ref q1, .ref q2, .int 0, .int 0]))] ++ [(q1, .inl (cL, 6, .inr (.inr (.inr (.inr (va_up (va_up (va_up (fun _ => none) 0 (some q3)) 1 (some q4)) 2 (some q5)))))))] ++ [(q2, .inl (cA, 6, .inl (fun _ => 0)))] ++ wX1_init cA cL q3 u1 ++ wX1_init cA cL q4 u2 ++ wX1_init cA cL q5 u3) rfl ?_
  refine h_iinc X dX0_init_42 (q := 45) rfl 0 rfl (v := (3 : Int32)) (by decide) (Nat.le_of_ble_eq_true rfl) (lv' := [(1, .int (3 : Int32)), (0, .ref a)]) rfl ?_
  refine h_goto X dX0_init_45 (tgt := 23) (by decide) ?_
  refine h_iload_n X dX0_init_23 (q := 24) rfl 0 rfl ?_
  refine h_bipush X dX0_init_24 (q := 26) rfl li_b6 ?_
  refine h_geF X dX0_init_26 (q := 29) rfl (tgt := 48) (by decide) (by decide) ?_
  refine h_aload_n X dX0_init_29 (q := 30) rfl 1 rfl ?_
  refine h_get X 0 0 rfl rfl inX0 0 (Nat.le_of_ble_eq_true rfl) rfl (gt_of 516 (by decide +kernel) rfl) rfl dX0_init_30 (q := 33) rfl ?_
  refine h_iload_n X dX0_init_33 (q := 34) rfl 0 rfl ?_
  refine h_new X inX1 tyX1 tyX1_ok (gt_of 513 (by decide +kernel) rfl) (gt_of 225 (by decide +kernel) rfl) (gt_of 197 (by decide +kernel) rfl) (ci := 1) rfl (fs := [.int 0, .int 0, .int 0, .int 0, .int 0, .int 0, .int 0, .long 0, .long 0, .long 0, .null, .null, .null, .null, .null, .null]) (by intro j hj; exact (by decide : ∀ j, j < 16 → defaultValue (tyX1 j) = vp_V [.int 0, .int 0, .int 0, .int 0, .int 0, .int 0, .int 0, .long 0, .long 0, .long 0, .null, .null, .null, .null, .null, .null] j) j hj) (Nat.le_of_ble_eq_true rfl) (Nat.le_of_ble_eq_true rfl) (ce2 := 24) (sl2 := 1228) rfl rfl dX0_init_34 (q := 37) rfl (fun q6 => ?_)
  refine h_dup X dX0_init_37 (q := 38) rfl rfl ?_
  refine h_ctorN X (host := "StormSeeds") (W1 := (wX1_init cA cL q6)) (X0 := [(a, .inr (0, [.ref q1, .ref q2, .int 0, .int 0]))] ++ [(q1, .inl (cL, 6, .inr (.inr (.inr (.inr (va_up (va_up (va_up (fun _ => none) 0 (some q3)) 1 (some q4)) 2 (some q5)))))))] ++ [(q2, .inl (cA, 6, .inl (fun _ => 0)))] ++ wX1_init cA cL q3 u1 ++ wX1_init cA cL q4 u2 ++ wX1_init cA cL q5 u3) (ce2 := 30) (sl2 := 1612) (n := 0) (k_X1_init l D cA cL q6) rfl (gt_of 228 (by decide +kernel) rfl) (gt_of 197 (by decide +kernel) rfl) (gt_of 227 (by decide +kernel) rfl) (nw_of 515 (by decide +kernel) rfl) rfl ⟨by decide, by decide, by decide +kernel⟩ (As := []) rfl ⟨(Nat.le_of_ble_eq_true rfl), (Nat.le_of_ble_eq_true rfl)⟩ ⟨(Nat.le_of_ble_eq_true rfl), (Nat.le_of_ble_eq_true rfl)⟩ rfl rfl (Nat.le_of_ble_eq_true rfl) rfl dX0_init_38 (q := 41) rfl (fun u4 => ?_)
  refine h_aast X 1 24 1 rfl rfl rfl (i := (3 : Int32)) (j := 3) (by decide) (by decide) dX0_init_41 (q := 42) rfl (ws' := [(a, .inr (0, [.ref q1, .ref q2, .int 0, .int 0]))] ++ [(q1, .inl (cL, 6, .inr (.inr (.inr (.inr (va_up (va_up (va_up (va_up (fun _ => none) 0 (some q3)) 1 (some q4)) 2 (some q5)) 3 (some q6)))))))] ++ [(q2, .inl (cA, 6, .inl (fun _ => 0)))] ++ wX1_init cA cL q3 u1 ++ wX1_init cA cL q4 u2 ++ wX1_init cA cL q5 u3 ++ wX1_init cA cL q6 u4) rfl ?_
  refine h_iinc X dX0_init_42 (q := 45) rfl 0 rfl (v := (4 : Int32)) (by decide) (Nat.le_of_ble_eq_true rfl) (lv' := [(1, .int (4 : Int32)), (0, .ref a)]) rfl ?_
  refine h_goto X dX0_init_45 (tgt := 23) (by decide) ?_
  refine h_iload_n X dX0_init_23 (q := 24) rfl 0 rfl ?_
  refine h_bipush X dX0_init_24 (q := 26) rfl li_b6 ?_
  refine h_geF X dX0_init_26 (q := 29) rfl (tgt := 48) (by decide) (by decide) ?_
  refine h_aload_n X dX0_init_29 (q := 30) rfl 1 rfl ?_
  refine h_get X 0 0 rfl rfl inX0 0 (Nat.le_of_ble_eq_true rfl) rfl (gt_of 516 (by decide +kernel) rfl) rfl dX0_init_30 (q := 33) rfl ?_
  refine h_iload_n X dX0_init_33 (q := 34) rfl 0 rfl ?_
  refine h_new X inX1 tyX1 tyX1_ok (gt_of 513 (by decide +kernel) rfl) (gt_of 225 (by decide +kernel) rfl) (gt_of 197 (by decide +kernel) rfl) (ci := 1) rfl (fs := [.int 0, .int 0, .int 0, .int 0, .int 0, .int 0, .int 0, .long 0, .long 0, .long 0, .null, .null, .null, .null, .null, .null]) (by intro j hj; exact (by decide : ∀ j, j < 16 → defaultValue (tyX1 j) = vp_V [.int 0, .int 0, .int 0, .int 0, .int 0, .int 0, .int 0, .long 0, .long 0, .long 0, .null, .null, .null, .null, .null, .null] j) j hj) (Nat.le_of_ble_eq_true rfl) (Nat.le_of_ble_eq_true rfl) (ce2 := 31) (sl2 := 1628) rfl rfl dX0_init_34 (q := 37) rfl (fun q7 => ?_)
  refine h_dup X dX0_init_37 (q := 38) rfl rfl ?_
  refine h_ctorN X (host := "StormSeeds") (W1 := (wX1_init cA cL q7)) (X0 := [(a, .inr (0, [.ref q1, .ref q2, .int 0, .int 0]))] ++ [(q1, .inl (cL, 6, .inr (.inr (.inr (.inr (va_up (va_up (va_up (va_up (fun _ => none) 0 (some q3)) 1 (some q4)) 2 (some q5)) 3 (some q6)))))))] ++ [(q2, .inl (cA, 6, .inl (fun _ => 0)))] ++ wX1_init cA cL q3 u1 ++ wX1_init cA cL q4 u2 ++ wX1_init cA cL q5 u3 ++ wX1_init cA cL q6 u4) (ce2 := 37) (sl2 := 2012) (n := 0) (k_X1_init l D cA cL q7) rfl (gt_of 228 (by decide +kernel) rfl) (gt_of 197 (by decide +kernel) rfl) (gt_of 227 (by decide +kernel) rfl) (nw_of 515 (by decide +kernel) rfl) rfl ⟨by decide, by decide, by decide +kernel⟩ (As := []) rfl ⟨(Nat.le_of_ble_eq_true rfl), (Nat.le_of_ble_eq_true rfl)⟩ ⟨(Nat.le_of_ble_eq_true rfl), (Nat.le_of_ble_eq_true rfl)⟩ rfl rfl (Nat.le_of_ble_eq_true rfl) rfl dX0_init_38 (q := 41) rfl (fun u5 => ?_)
  refine h_aast X 1 31 1 rfl rfl rfl (i := (4 : Int32)) (j := 4) (by decide) (by decide) dX0_init_41 (q := 42) rfl (ws' := [(a, .inr (0, [.ref q1, .ref q2, .int 0, .int 0]))] ++ [(q1, .inl (cL, 6, .inr (.inr (.inr (.inr (va_up (va_up (va_up (va_up (va_up (fun _ => none) 0 (some q3)) 1 (some q4)) 2 (some q5)) 3 (some q6)) 4 (some q7)))))))] ++ [(q2, .inl (cA, 6, .inl (fun _ => 0)))] ++ wX1_init cA cL q3 u1 ++ wX1_init cA cL q4 u2 ++ wX1_init cA cL q5 u3 ++ wX1_init cA cL q6 u4 ++ wX1_init cA cL q7 u5) rfl ?_
  refine h_iinc X dX0_init_42 (q := 45) rfl 0 rfl (v := (5 : Int32)) (by decide) (Nat.le_of_ble_eq_true rfl) (lv' := [(1, .int (5 : Int32)), (0, .ref a)]) rfl ?_
  refine h_goto X dX0_init_45 (tgt := 23) (by decide) ?_
  refine h_iload_n X dX0_init_23 (q := 24) rfl 0 rfl ?_
  refine h_bipush X dX0_init_24 (q := 26) rfl li_b6 ?_
  refine h_geF X dX0_init_26 (q := 29) rfl (tgt := 48) (by decide) (by decide) ?_
  refine h_aload_n X dX0_init_29 (q := 30) rfl 1 rfl ?_
  refine h_get X 0 0 rfl rfl inX0 0 (Nat.le_of_ble_eq_true rfl) rfl (gt_of 516 (by decide +kernel) rfl) rfl dX0_init_30 (q := 33) rfl ?_
  refine h_iload_n X dX0_init_33 (q := 34) rfl 0 rfl ?_
  refine h_new X inX1 tyX1 tyX1_ok (gt_of 513 (by decide +kernel) rfl) (gt_of 225 (by decide +kernel) rfl) (gt_of 197 (by decide +kernel) rfl) (ci := 1) rfl (fs := [.int 0, .int 0, .int 0, .int 0, .int 0, .int 0, .int 0, .long 0, .long 0, .long 0, .null, .null, .null, .null, .null, .null]) (by intro j hj; exact (by decide : ∀ j, j < 16 → defaultValue (tyX1 j) = vp_V [.int 0, .int 0, .int 0, .int 0, .int 0, .int 0, .int 0, .long 0, .long 0, .long 0, .null, .null, .null, .null, .null, .null] j) j hj) (Nat.le_of_ble_eq_true rfl) (Nat.le_of_ble_eq_true rfl) (ce2 := 38) (sl2 := 2028) rfl rfl dX0_init_34 (q := 37) rfl (fun q8 => ?_)
  refine h_dup X dX0_init_37 (q := 38) rfl rfl ?_
  refine h_ctorN X (host := "StormSeeds") (W1 := (wX1_init cA cL q8)) (X0 := [(a, .inr (0, [.ref q1, .ref q2, .int 0, .int 0]))] ++ [(q1, .inl (cL, 6, .inr (.inr (.inr (.inr (va_up (va_up (va_up (va_up (va_up (fun _ => none) 0 (some q3)) 1 (some q4)) 2 (some q5)) 3 (some q6)) 4 (some q7)))))))] ++ [(q2, .inl (cA, 6, .inl (fun _ => 0)))] ++ wX1_init cA cL q3 u1 ++ wX1_init cA cL q4 u2 ++ wX1_init cA cL q5 u3 ++ wX1_init cA cL q6 u4 ++ wX1_init cA cL q7 u5) (ce2 := 44) (sl2 := 2412) (n := 0) (k_X1_init l D cA cL q8) rfl (gt_of 228 (by decide +kernel) rfl) (gt_of 197 (by decide +kernel) rfl) (gt_of 227 (by decide +kernel) rfl) (nw_of 515 (by decide +kernel) rfl) rfl ⟨by decide, by decide, by decide +kernel⟩ (As := []) rfl ⟨(Nat.le_of_ble_eq_true rfl), (Nat.le_of_ble_eq_true rfl)⟩ ⟨(Nat.le_of_ble_eq_true rfl), (Nat.le_of_ble_eq_true rfl)⟩ rfl rfl (Nat.le_of_ble_eq_true rfl) rfl dX0_init_38 (q := 41) rfl (fun u6 => ?_)
  refine h_aast X 1 38 1 rfl rfl rfl (i := (5 : Int32)) (j := 5) (by decide) (by decide) dX0_init_41 (q := 42) rfl (ws' := [(a, .inr (0, [.ref q1, .ref q2, .int 0, .int 0]))] ++ [(q1, .inl (cL, 6, .inr (.inr (.inr (.inr (va_up (va_up (va_up (va_up (va_up (va_up (fun _ => none) 0 (some q3)) 1 (some q4)) 2 (some q5)) 3 (some q6)) 4 (some q7)) 5 (some q8)))))))] ++ [(q2, .inl (cA, 6, .inl (fun _ => 0)))] ++ wX1_init cA cL q3 u1 ++ wX1_init cA cL q4 u2 ++ wX1_init cA cL q5 u3 ++ wX1_init cA cL q6 u4 ++ wX1_init cA cL q7 u5 ++ wX1_init cA cL q8 u6) rfl ?_
  refine h_iinc X dX0_init_42 (q := 45) rfl 0 rfl (v := (6 : Int32)) (by decide) (Nat.le_of_ble_eq_true rfl) (lv' := [(1, .int (6 : Int32)), (0, .ref a)]) rfl ?_
  refine h_goto X dX0_init_45 (tgt := 23) (by decide) ?_
  refine h_iload_n X dX0_init_23 (q := 24) rfl 0 rfl ?_
  refine h_bipush X dX0_init_24 (q := 26) rfl li_b6 ?_
  refine h_geT X dX0_init_26 (tgt := 48) (by decide) (by decide) ?_
  exact RI 48 _ (fun i => ([q1, q2, q3, (u1 0), (u1 1), (u1 2), (u1 3), (u1 4), (u1 5), q4, (u2 0), (u2 1), (u2 2), (u2 3), (u2 4), (u2 5), q5, (u3 0), (u3 1), (u3 2), (u3 3), (u3 4), (u3 5), q6, (u4 0), (u4 1), (u4 2), (u4 3), (u4 4), (u4 5), q7, (u5 0), (u5 1), (u5 2), (u5 3), (u5 4), (u5 5), q8, (u6 0), (u6 1), (u6 2), (u6 3), (u6 4), (u6 5)] : List Nat).getD i 0) dX0_init_48
theorem dX8_init_0 : decode cX8_init 0 = .ok (.aload_n 0, 1) := by decide +kernel
theorem dX8_init_1 : decode cX8_init 1 = .ok (.invokespecial 3, 3) := by decide +kernel
theorem dX8_init_4 : decode cX8_init 4 = .ok (.aload_n 0, 1) := by decide +kernel
theorem dX8_init_5 : decode cX8_init 5 = .ok (.aload_n 1, 1) := by decide +kernel
theorem dX8_init_6 : decode cX8_init 6 = .ok (.putfield 9, 3) := by decide +kernel
theorem dX8_init_9 : decode cX8_init 9 = .ok (.aload_n 0, 1) := by decide +kernel
theorem dX8_init_10 : decode cX8_init 10 = .ok (.aload_n 2, 1) := by decide +kernel
theorem dX8_init_11 : decode cX8_init 11 = .ok (.putfield 15, 3) := by decide +kernel
theorem dX8_init_14 : decode cX8_init 14 = .ok (.return_, 1) := by decide +kernel
def wX8_init (cA cL : ClassId) (a : Nat) (r1 : Nat) (r2 : Nat) (u : Nat → Nat) : va_W := [(a, .inr (8, [.ref r1, .ref r2]))]
set_option maxRecDepth 100000 in
set_option maxHeartbeats 8000000 in
theorem k_X8_init (l : Launch) (D : va_G) (cA cL : ClassId) (a : Nat) (r1 : Nat) (r2 : Nat) : MC l yX8_init cX8_init 3 D cA cL 2 0 0 [(a, .inr (8, [.null, .null]))] [.ref a, .ref r1, .ref r2] (wX8_init cA cL a r1 r2) := by
  refine met_c (by decide) rfl (Nat.le_of_ble_eq_true rfl) ?_
  intro p e st m args below meth c Q A X RI
  refine h_aload_n X dX8_init_0 (q := 1) rfl 0 rfl ?_
  refine h_objInit X dX8_init_1 (q := 4) rfl (gt_of 476 (by decide +kernel) rfl) ⟨(Nat.le_of_ble_eq_true rfl), (Nat.le_of_ble_eq_true rfl)⟩ (Nat.le_of_ble_eq_true rfl) ?_
  refine h_aload_n X dX8_init_4 (q := 5) rfl 0 rfl ?_
  refine h_aload_n X dX8_init_5 (q := 6) rfl 1 rfl ?_
  refine h_putF X 0 8 rfl rfl inX8 0 (Nat.le_of_ble_eq_true rfl) rfl (gt_of 477 (by decide +kernel) rfl) tyX8 tyX8_ok nmX8 rfl rfl (ty := (.object "StormSeeds$Told")) rfl rfl rfl (Nat.le_of_ble_eq_true rfl) (ws' := [(a, .inr (8, [.ref r1, .null]))]) rfl dX8_init_6 (q := 9) rfl ?_
  refine h_aload_n X dX8_init_9 (q := 10) rfl 0 rfl ?_
  refine h_aload_n X dX8_init_10 (q := 11) rfl 2 rfl ?_
  refine h_putF X 0 8 rfl rfl inX8 1 (Nat.le_of_ble_eq_true rfl) rfl (gt_of 478 (by decide +kernel) rfl) tyX8 tyX8_ok nmX8 rfl rfl (ty := (.object "StormSeeds$Table")) rfl rfl rfl (Nat.le_of_ble_eq_true rfl) (ws' := [(a, .inr (8, [.ref r1, .ref r2]))]) rfl dX8_init_11 (q := 14) rfl ?_
  exact RI 14 _ (fun i => ([] : List Nat).getD i 0) dX8_init_14
def wX8_initN (cA cL : ClassId) (a : Nat) (r1 : Nat) (u : Nat → Nat) : va_W := [(a, .inr (8, [.ref r1, .null]))]
set_option maxRecDepth 100000 in
set_option maxHeartbeats 8000000 in
theorem k_X8_initN (l : Launch) (D : va_G) (cA cL : ClassId) (a : Nat) (r1 : Nat) : MC l yX8_init cX8_init 3 D cA cL 2 0 0 [(a, .inr (8, [.null, .null]))] [.ref a, .ref r1, .null] (wX8_initN cA cL a r1) := by
  refine met_c (by decide) rfl (Nat.le_of_ble_eq_true rfl) ?_
  intro p e st m args below meth c Q A X RI
  refine h_aload_n X dX8_init_0 (q := 1) rfl 0 rfl ?_
  refine h_objInit X dX8_init_1 (q := 4) rfl (gt_of 476 (by decide +kernel) rfl) ⟨(Nat.le_of_ble_eq_true rfl), (Nat.le_of_ble_eq_true rfl)⟩ (Nat.le_of_ble_eq_true rfl) ?_
  refine h_aload_n X dX8_init_4 (q := 5) rfl 0 rfl ?_
  refine h_aload_n X dX8_init_5 (q := 6) rfl 1 rfl ?_
  refine h_putF X 0 8 rfl rfl inX8 0 (Nat.le_of_ble_eq_true rfl) rfl (gt_of 477 (by decide +kernel) rfl) tyX8 tyX8_ok nmX8 rfl rfl (ty := (.object "StormSeeds$Told")) rfl rfl rfl (Nat.le_of_ble_eq_true rfl) (ws' := [(a, .inr (8, [.ref r1, .null]))]) rfl dX8_init_6 (q := 9) rfl ?_
  refine h_aload_n X dX8_init_9 (q := 10) rfl 0 rfl ?_
  refine h_aload_nN X dX8_init_10 (q := 11) rfl 2 rfl ?_
  refine h_putF X 0 8 rfl rfl inX8 1 (Nat.le_of_ble_eq_true rfl) rfl (gt_of 478 (by decide +kernel) rfl) tyX8 tyX8_ok nmX8 rfl rfl (ty := (.object "StormSeeds$Table")) rfl rfl rfl (Nat.le_of_ble_eq_true rfl) (ws' := [(a, .inr (8, [.ref r1, .null]))]) rfl dX8_init_11 (q := 14) rfl ?_
  exact RI 14 _ (fun i => ([] : List Nat).getD i 0) dX8_init_14
theorem dX6_init_0 : decode cX6_init 0 = .ok (.aload_n 0, 1) := by decide +kernel
theorem dX6_init_1 : decode cX6_init 1 = .ok (.invokespecial 3, 3) := by decide +kernel
theorem dX6_init_4 : decode cX6_init 4 = .ok (.aload_n 0, 1) := by decide +kernel
theorem dX6_init_5 : decode cX6_init 5 = .ok (.new 9, 3) := by decide +kernel
theorem dX6_init_8 : decode cX6_init 8 = .ok (.dup, 1) := by decide +kernel
theorem dX6_init_9 : decode cX6_init 9 = .ok (.invokespecial 11, 3) := by decide +kernel
theorem dX6_init_12 : decode cX6_init 12 = .ok (.putfield 12, 3) := by decide +kernel
theorem dX6_init_15 : decode cX6_init 15 = .ok (.aload_n 0, 1) := by decide +kernel
theorem dX6_init_16 : decode cX6_init 16 = .ok (.aload_n 1, 1) := by decide +kernel
theorem dX6_init_17 : decode cX6_init 17 = .ok (.putfield 18, 3) := by decide +kernel
theorem dX6_init_20 : decode cX6_init 20 = .ok (.aload_n 0, 1) := by decide +kernel
theorem dX6_init_21 : decode cX6_init 21 = .ok (.aload_n 2, 1) := by decide +kernel
theorem dX6_init_22 : decode cX6_init 22 = .ok (.putfield 22, 3) := by decide +kernel
theorem dX6_init_25 : decode cX6_init 25 = .ok (.aload_n 0, 1) := by decide +kernel
theorem dX6_init_26 : decode cX6_init 26 = .ok (.new 25, 3) := by decide +kernel
theorem dX6_init_29 : decode cX6_init 29 = .ok (.dup, 1) := by decide +kernel
theorem dX6_init_30 : decode cX6_init 30 = .ok (.aload_n 1, 1) := by decide +kernel
theorem dX6_init_31 : decode cX6_init 31 = .ok (.aconst_null, 1) := by decide +kernel
theorem dX6_init_32 : decode cX6_init 32 = .ok (.invokespecial 27, 3) := by decide +kernel
theorem dX6_init_35 : decode cX6_init 35 = .ok (.putfield 30, 3) := by decide +kernel
theorem dX6_init_38 : decode cX6_init 38 = .ok (.return_, 1) := by decide +kernel
def wX6_init (cA cL : ClassId) (a : Nat) (r1 : Nat) (r2 : Nat) (u : Nat → Nat) : va_W := [(a, .inr (6, [.ref r1, .ref r2, .ref (u 0), .ref (u 7)]))] ++ wX1_init cA cL (u 0) (fun i => u (i + 1)) ++ wX8_initN cA cL (u 7) r1 (fun i => u (i + 8))
set_option maxRecDepth 100000 in
set_option maxHeartbeats 8000000 in
theorem k_X6_init (l : Launch) (D : va_G) (cA cL : ClassId) (a : Nat) (r1 : Nat) (r2 : Nat) : MC l yX6_init cX6_init 3 D cA cL 3 8 402 [(a, .inr (6, [.null, .null, .null, .null]))] [.ref a, .ref r1, .ref r2] (wX6_init cA cL a r1 r2) := by
  refine met_c (by decide) rfl (Nat.le_of_ble_eq_true rfl) ?_
  intro p e st m args below meth c Q A X RI
  refine h_aload_n X dX6_init_0 (q := 1) rfl 0 rfl ?_
  refine h_objInit X dX6_init_1 (q := 4) rfl (gt_of 489 (by decide +kernel) rfl) ⟨(Nat.le_of_ble_eq_true rfl), (Nat.le_of_ble_eq_true rfl)⟩ (Nat.le_of_ble_eq_true rfl) ?_
  refine h_aload_n X dX6_init_4 (q := 5) rfl 0 rfl ?_
  refine h_new X inX1 tyX1 tyX1_ok (gt_of 490 (by decide +kernel) rfl) (gt_of 225 (by decide +kernel) rfl) (gt_of 197 (by decide +kernel) rfl) (ci := 1) rfl (fs := [.int 0, .int 0, .int 0, .int 0, .int 0, .int 0, .int 0, .long 0, .long 0, .long 0, .null, .null, .null, .null, .null, .null]) (by intro j hj; exact (by decide : ∀ j, j < 16 → defaultValue (tyX1 j) = vp_V [.int 0, .int 0, .int 0, .int 0, .int 0, .int 0, .int 0, .long 0, .long 0, .long 0, .null, .null, .null, .null, .null, .null] j) j hj) (Nat.le_of_ble_eq_true rfl) (Nat.le_of_ble_eq_true rfl) (ce2 := 1) (sl2 := 16) rfl rfl dX6_init_5 (q := 8) rfl (fun q1 => ?_)
  refine h_dup X dX6_init_8 (q := 9) rfl rfl ?_
  refine h_ctorN X (host := "StormSeeds") (W1 := (wX1_init cA cL q1)) (X0 := [(a, .inr (6, [.null, .null, .null, .null]))]) (ce2 := 7) (sl2 := 400) (n := 0) (k_X1_init l D cA cL q1) rfl (gt_of 228 (by decide +kernel) rfl) (gt_of 197 (by decide +kernel) rfl) (gt_of 227 (by decide +kernel) rfl) (nw_of 491 (by decide +kernel) rfl) rfl ⟨by decide, by decide, by decide +kernel⟩ (As := []) rfl ⟨(Nat.le_of_ble_eq_true rfl), (Nat.le_of_ble_eq_true rfl)⟩ ⟨(Nat.le_of_ble_eq_true rfl), (Nat.le_of_ble_eq_true rfl)⟩ rfl rfl (Nat.le_of_ble_eq_true rfl) rfl dX6_init_9 (q := 12) rfl (fun u1 => ?_)
  refine h_putF X 0 6 rfl rfl inX6 2 (Nat.le_of_ble_eq_true rfl) rfl (gt_of 496 (by decide +kernel) rfl) tyX6 tyX6_ok nmX6 rfl rfl (ty := (.object "StormSeeds$Land")) rfl rfl rfl (Nat.le_of_ble_eq_true rfl) (ws' := [(a, .inr (6, [.null, .null, .ref q1, .null]))] ++ wX1_init cA cL q1 u1) rfl dX6_init_12 (q := 15) rfl ?_
  refine h_aload_n X dX6_init_15 (q := 16) rfl 0 rfl ?_
  refine h_aload_n X dX6_init_16 (q := 17) rfl 1 rfl ?_
  refine h_putF X 0 6 rfl rfl inX6 0 (Nat.le_of_ble_eq_true rfl) rfl (gt_of 494 (by decide +kernel) rfl) tyX6 tyX6_ok nmX6 rfl rfl (ty := (.object "StormSeeds$Told")) rfl rfl rfl (Nat.le_of_ble_eq_true rfl) (ws' := [(a, .inr (6, [.ref r1, .null, .ref q1, .null]))] ++ wX1_init cA cL q1 u1) rfl dX6_init_17 (q := 20) rfl ?_
  refine h_aload_n X dX6_init_20 (q := 21) rfl 0 rfl ?_
  refine h_aload_n X dX6_init_21 (q := 22) rfl 2 rfl ?_
  refine h_putF X 0 6 rfl rfl inX6 1 (Nat.le_of_ble_eq_true rfl) rfl (gt_of 495 (by decide +kernel) rfl) tyX6 tyX6_ok nmX6 rfl rfl (ty := (.object "StormSeeds$Land")) rfl rfl rfl (Nat.le_of_ble_eq_true rfl) (ws' := [(a, .inr (6, [.ref r1, .ref r2, .ref q1, .null]))] ++ wX1_init cA cL q1 u1) rfl dX6_init_22 (q := 25) rfl ?_
  refine h_aload_n X dX6_init_25 (q := 26) rfl 0 rfl ?_
  refine h_new X inX8 tyX8 tyX8_ok (gt_of 492 (by decide +kernel) rfl) (gt_of 472 (by decide +kernel) rfl) (gt_of 204 (by decide +kernel) rfl) (ci := 8) rfl (fs := [.null, .null]) (by intro j hj; exact (by decide : ∀ j, j < 2 → defaultValue (tyX8 j) = vp_V [.null, .null] j) j hj) (Nat.le_of_ble_eq_true rfl) (Nat.le_of_ble_eq_true rfl) (ce2 := 8) (sl2 := 402) rfl rfl dX6_init_26 (q := 29) rfl (fun q2 => ?_)
  refine h_dup X dX6_init_29 (q := 30) rfl rfl ?_
  refine h_aload_n X dX6_init_30 (q := 31) rfl 1 rfl ?_
  refine h_null X dX6_init_31 (q := 32) rfl ?_
  refine h_ctorN X (host := "StormSeeds") (W1 := (wX8_initN cA cL q2 r1)) (X0 := [(a, .inr (6, [.ref r1, .ref r2, .ref q1, .null]))] ++ wX1_init cA cL q1 u1) (ce2 := 8) (sl2 := 402) (n := 2) (k_X8_initN l D cA cL q2 r1) rfl (gt_of 475 (by decide +kernel) rfl) (gt_of 204 (by decide +kernel) rfl) (gt_of 474 (by decide +kernel) rfl) (nw_of 493 (by decide +kernel) rfl) rfl ⟨by decide, by decide, by decide +kernel⟩ (As := [.ref r1, .null]) rfl ⟨(Nat.le_of_ble_eq_true rfl), (Nat.le_of_ble_eq_true rfl)⟩ ⟨(Nat.le_of_ble_eq_true rfl), (Nat.le_of_ble_eq_true rfl)⟩ rfl rfl (Nat.le_of_ble_eq_true rfl) rfl dX6_init_32 (q := 35) rfl (fun u2 => ?_)
  refine h_putF X 0 6 rfl rfl inX6 3 (Nat.le_of_ble_eq_true rfl) rfl (gt_of 497 (by decide +kernel) rfl) tyX6 tyX6_ok nmX6 rfl rfl (ty := (.object "StormSeeds$Weather")) rfl rfl rfl (Nat.le_of_ble_eq_true rfl) (ws' := [(a, .inr (6, [.ref r1, .ref r2, .ref q1, .ref q2]))] ++ wX1_init cA cL q1 u1 ++ wX8_initN cA cL q2 r1 u2) rfl dX6_init_35 (q := 38) rfl ?_
  exact RI 38 _ (fun i => ([q1, (u1 0), (u1 1), (u1 2), (u1 3), (u1 4), (u1 5), q2] : List Nat).getD i 0) dX6_init_38
