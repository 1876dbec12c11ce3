theorem dJ0_length_8abf5_0 : decode cJ0_length_8abf5 0 = .ok (.aload_n 0, 1) := by decide +kernel
theorem dJ0_length_8abf5_1 : decode cJ0_length_8abf5 1 = .ok (.getfield 9, 3) := by decide +kernel
theorem dJ0_length_8abf5_4 : decode cJ0_length_8abf5 4 = .ok (.arraylength, 1) := by decide +kernel
theorem dJ0_length_8abf5_5 : decode cJ0_length_8abf5 5 = .ok (.aload_n 0, 1) := by decide +kernel
theorem dJ0_length_8abf5_6 : decode cJ0_length_8abf5 6 = .ok (.invokevirtual 335, 3) := by decide +kernel
theorem dJ0_length_8abf5_9 : decode cJ0_length_8abf5 9 = .ok (.ishr, 1) := by decide +kernel
theorem dJ0_length_8abf5_10 : decode cJ0_length_8abf5 10 = .ok (.ireturn, 1) := by decide +kernel
theorem dJ0_coder_7d493_0 : decode cJ0_coder_7d493 0 = .ok (.getstatic 38, 3) := by decide +kernel
theorem dJ0_coder_7d493_3 : decode cJ0_coder_7d493 3 = .ok (.ifCond .eq 10, 3) := by decide +kernel
theorem dJ0_coder_7d493_6 : decode cJ0_coder_7d493 6 = .ok (.aload_n 0, 1) := by decide +kernel
theorem dJ0_coder_7d493_7 : decode cJ0_coder_7d493 7 = .ok (.getfield 15, 3) := by decide +kernel
theorem dJ0_coder_7d493_10 : decode cJ0_coder_7d493 10 = .ok (.goto 4, 3) := by decide +kernel
theorem dJ0_coder_7d493_13 : decode cJ0_coder_7d493 13 = .ok (.iconst 1, 1) := by decide +kernel
theorem dJ0_coder_7d493_14 : decode cJ0_coder_7d493 14 = .ok (.ireturn, 1) := by decide +kernel
theorem dJ0_charAt_5068e_0 : decode cJ0_charAt_5068e 0 = .ok (.aload_n 0, 1) := by decide +kernel
theorem dJ0_charAt_5068e_1 : decode cJ0_charAt_5068e 1 = .ok (.invokevirtual 492, 3) := by decide +kernel
theorem dJ0_charAt_5068e_4 : decode cJ0_charAt_5068e 4 = .ok (.ifCond .eq 12, 3) := by decide +kernel
theorem dJ0_charAt_5068e_7 : decode cJ0_charAt_5068e 7 = .ok (.aload_n 0, 1) := by decide +kernel
theorem dJ0_charAt_5068e_8 : decode cJ0_charAt_5068e 8 = .ok (.getfield 9, 3) := by decide +kernel
theorem dJ0_charAt_5068e_11 : decode cJ0_charAt_5068e 11 = .ok (.iload_n 1, 1) := by decide +kernel
theorem dJ0_charAt_5068e_12 : decode cJ0_charAt_5068e 12 = .ok (.invokestatic 495, 3) := by decide +kernel
theorem dJ0_charAt_5068e_15 : decode cJ0_charAt_5068e 15 = .ok (.ireturn, 1) := by decide +kernel
theorem dJ0_charAt_5068e_16 : decode cJ0_charAt_5068e 16 = .ok (.aload_n 0, 1) := by decide +kernel
theorem dJ0_charAt_5068e_17 : decode cJ0_charAt_5068e 17 = .ok (.getfield 9, 3) := by decide +kernel
theorem dJ0_charAt_5068e_20 : decode cJ0_charAt_5068e 20 = .ok (.iload_n 1, 1) := by decide +kernel
theorem dJ0_charAt_5068e_21 : decode cJ0_charAt_5068e 21 = .ok (.invokestatic 498, 3) := by decide +kernel
theorem dJ0_charAt_5068e_24 : decode cJ0_charAt_5068e 24 = .ok (.ireturn, 1) := by decide +kernel
theorem dJ0_isLatin1_aae02_0 : decode cJ0_isLatin1_aae02 0 = .ok (.getstatic 38, 3) := by decide +kernel
theorem dJ0_isLatin1_aae02_3 : decode cJ0_isLatin1_aae02 3 = .ok (.ifCond .eq 14, 3) := by decide +kernel
theorem dJ0_isLatin1_aae02_6 : decode cJ0_isLatin1_aae02 6 = .ok (.aload_n 0, 1) := by decide +kernel
theorem dJ0_isLatin1_aae02_7 : decode cJ0_isLatin1_aae02 7 = .ok (.getfield 15, 3) := by decide +kernel
theorem dJ0_isLatin1_aae02_10 : decode cJ0_isLatin1_aae02 10 = .ok (.ifCond .ne 7, 3) := by decide +kernel
theorem dJ0_isLatin1_aae02_13 : decode cJ0_isLatin1_aae02 13 = .ok (.iconst 1, 1) := by decide +kernel
theorem dJ0_isLatin1_aae02_14 : decode cJ0_isLatin1_aae02 14 = .ok (.goto 4, 3) := by decide +kernel
theorem dJ0_isLatin1_aae02_17 : decode cJ0_isLatin1_aae02 17 = .ok (.iconst 0, 1) := by decide +kernel
theorem dJ0_isLatin1_aae02_18 : decode cJ0_isLatin1_aae02 18 = .ok (.ireturn, 1) := by decide +kernel
theorem dJ1_charAt_3b067_0 : decode cJ1_charAt_3b067 0 = .ok (.iload_n 1, 1) := by decide +kernel
theorem dJ1_charAt_3b067_1 : decode cJ1_charAt_3b067 1 = .ok (.aload_n 0, 1) := by decide +kernel
theorem dJ1_charAt_3b067_2 : decode cJ1_charAt_3b067 2 = .ok (.arraylength, 1) := by decide +kernel
theorem dJ1_charAt_3b067_3 : decode cJ1_charAt_3b067 3 = .ok (.invokestatic 9, 3) := by decide +kernel
theorem dJ1_charAt_3b067_6 : decode cJ1_charAt_3b067 6 = .ok (.aload_n 0, 1) := by decide +kernel
theorem dJ1_charAt_3b067_7 : decode cJ1_charAt_3b067 7 = .ok (.iload_n 1, 1) := by decide +kernel
theorem dJ1_charAt_3b067_8 : decode cJ1_charAt_3b067 8 = .ok (.baload, 1) := by decide +kernel
theorem dJ1_charAt_3b067_9 : decode cJ1_charAt_3b067 9 = .ok (.sipush 255, 3) := by decide +kernel
theorem dJ1_charAt_3b067_12 : decode cJ1_charAt_3b067 12 = .ok (.iand, 1) := by decide +kernel
theorem dJ1_charAt_3b067_13 : decode cJ1_charAt_3b067 13 = .ok (.i2c, 1) := by decide +kernel
theorem dJ1_charAt_3b067_14 : decode cJ1_charAt_3b067 14 = .ok (.ireturn, 1) := by decide +kernel
theorem dJ0_checkIndex_df160_0 : decode cJ0_checkIndex_df160 0 = .ok (.iload_n 0, 1) := by decide +kernel
theorem dJ0_checkIndex_df160_1 : decode cJ0_checkIndex_df160 1 = .ok (.iload_n 1, 1) := by decide +kernel
theorem dJ0_checkIndex_df160_2 : decode cJ0_checkIndex_df160 2 = .ok (.getstatic 1053, 3) := by decide +kernel
theorem dJ0_checkIndex_df160_5 : decode cJ0_checkIndex_df160 5 = .ok (.invokestatic 1059, 3) := by decide +kernel
theorem dJ0_checkIndex_df160_8 : decode cJ0_checkIndex_df160 8 = .ok (.pop, 1) := by decide +kernel
theorem dJ0_checkIndex_df160_9 : decode cJ0_checkIndex_df160 9 = .ok (.return_, 1) := by decide +kernel
theorem dJ3_checkIndex_8e157_0 : decode cJ3_checkIndex_8e157 0 = .ok (.iload_n 0, 1) := by decide +kernel
theorem dJ3_checkIndex_8e157_1 : decode cJ3_checkIndex_8e157 1 = .ok (.ifCond .lt 8, 3) := by decide +kernel
theorem dJ3_checkIndex_8e157_4 : decode cJ3_checkIndex_8e157 4 = .ok (.iload_n 0, 1) := by decide +kernel
theorem dJ3_checkIndex_8e157_5 : decode cJ3_checkIndex_8e157 5 = .ok (.iload_n 1, 1) := by decide +kernel
theorem dJ3_checkIndex_8e157_6 : decode cJ3_checkIndex_8e157 6 = .ok (.if_icmp .lt 10, 3) := by decide +kernel
theorem dJ3_checkIndex_8e157_9 : decode cJ3_checkIndex_8e157 9 = .ok (.aload_n 2, 1) := by decide +kernel
theorem dJ3_checkIndex_8e157_10 : decode cJ3_checkIndex_8e157 10 = .ok (.iload_n 0, 1) := by decide +kernel
theorem dJ3_checkIndex_8e157_11 : decode cJ3_checkIndex_8e157 11 = .ok (.iload_n 1, 1) := by decide +kernel
theorem dJ3_checkIndex_8e157_12 : decode cJ3_checkIndex_8e157 12 = .ok (.invokestatic 95, 3) := by decide +kernel
theorem dJ3_checkIndex_8e157_15 : decode cJ3_checkIndex_8e157 15 = .ok (.athrow, 1) := by decide +kernel
theorem dJ3_checkIndex_8e157_16 : decode cJ3_checkIndex_8e157 16 = .ok (.iload_n 0, 1) := by decide +kernel
theorem dJ3_checkIndex_8e157_17 : decode cJ3_checkIndex_8e157 17 = .ok (.ireturn, 1) := by decide +kernel
def AH (h : Nat → Nat) : Nat → Prop := fun q => ∃ k, k < 125 ∧ q = h k
def SZA (A : Nat → Prop) (sa sv : Nat → Nat) (u : State) (H : Heap) : Prop :=
  (∀ i, i < 30 → vk_R RX3 (sIx i) (sTx i) (sa i) u) ∧
  (∀ i, i < 30 → va_O "java/lang/String" (sa i) A u H ∧ va_OF "java/lang/String" "coder" "B" (.int 0) (sa i) A u H ∧ va_OF "java/lang/String" "value" "[B" (.ref (sv i)) (sa i) A u H ∧ va_T .byte (sv i) (slen i) (fun j => .int ((sBy i).getD j 0)) A u H) ∧
  va_Z "java/lang/String" "COMPACT_STRINGS" "Z" (.int 1) A u H ∧
  va_Zq "jdk/internal/util/Preconditions" "SIOOBE_FORMATTER" "Ljava/util/function/BiFunction;" A u H
def SZ (h sa sv : Nat → Nat) (u : State) (H : Heap) : Prop := SZA (AH h) sa sv u H
def ZC (h sa sv : Nat → Nat) : State → Heap → Prop := fun u H => (∀ w ∈ NW, va_Nw w u) ∧ SZ h sa sv u H
theorem SZA_narrow {A B : Nat → Prop} {sa sv : Nat → Nat} {u : State} {H : Heap} (hAB : ∀ q, B q → A q) (z : SZA A sa sv u H) : SZA B sa sv u H :=
  ⟨z.1, fun i hi => ⟨(z.2.1 i hi).1.narrow hAB, (z.2.1 i hi).2.1.narrow hAB, (z.2.1 i hi).2.2.1.narrow hAB, (z.2.1 i hi).2.2.2.narrow hAB⟩, z.2.2.1.narrow hAB, z.2.2.2.narrow hAB⟩
theorem SZ_warm {h : Nat → Prop} {sa sv : Nat → Nat} {u U : State} {H : Heap} (hW : u.WarmedH U.vm) (z : SZA h sa sv u H) : SZA h sa sv U H :=
  ⟨fun i hi => (z.1 i hi).warm hW, fun i hi => ⟨(z.2.1 i hi).1.moved hW.alike, (z.2.1 i hi).2.1.moved hW.alike, (z.2.1 i hi).2.2.1.moved hW.alike, (z.2.1 i hi).2.2.2.moved hW.alike⟩, z.2.2.1.moved hW.alike, z.2.2.2.moved hW.alike⟩
theorem SZ_same {h : Nat → Prop} {sa sv : Nat → Nat} {u U : State} {H : Heap} (hv : u.vm = U.vm) (z : SZA h sa sv u H) : SZA h sa sv U H := by
  have hal : u.vm.Alike U.vm := hv ▸ Vm.Alike.refl u.vm
  exact ⟨fun i hi => vk_R.same hv.symm (z.1 i hi), fun i hi => ⟨(z.2.1 i hi).1.moved hal, (z.2.1 i hi).2.1.moved hal, (z.2.1 i hi).2.2.1.moved hal, (z.2.1 i hi).2.2.2.moved hal⟩, z.2.2.1.moved hal, z.2.2.2.moved hal⟩
theorem SZ_kept {h : Nat → Prop} {sa sv : Nat → Nat} {u : State} {H H1 : Heap} (hq : ∀ a : Nat, a < H.size → ¬ h a → H1[a]? = H[a]?) (z : SZA h sa sv u H) : SZA h sa sv u H1 :=
  ⟨z.1, fun i hi => ⟨(z.2.1 i hi).1.kept hq, (z.2.1 i hi).2.1.kept hq, (z.2.1 i hi).2.2.1.kept hq, (z.2.1 i hi).2.2.2.kept hq⟩, z.2.2.1.kept hq, z.2.2.2.kept hq⟩
theorem kJ_C {D : va_G} {cA cL : ClassId} {h sa sv : Nat → Nat} (hi : ∀ i j, i < 125 → j < 125 → h i = h j → i = j) : kJ (KC D cA cL h (ZC h sa sv)) :=
  ⟨hi, fun _ _ _ hW z => ⟨nw_warm hW z.1, SZ_warm hW z.2⟩, fun _ _ _ _ hq z => ⟨z.1, SZ_kept hq z.2⟩, fun _ _ _ hv z => ⟨nw_same hv z.1, SZ_same hv z.2⟩⟩
section STR
variable {D : va_G} {cA cL : ClassId} {h sa sv : Nat → Nat} {p : Program} {l : Launch} {e : Env} {R : Room} {st : State} {m : MethodId} {args : Array Value} {below : List Frame} {meth : Method} {c : Code} {Q : State → Prop} {nL : Nat} {cc : ByteArray} {own : String} {s : ST} {pc q : Nat} {lv : List (Nat × Value)} {rest : List Value}
theorem t_static (X : Cx (KC D cA cL h (ZC h sa sv)) p st m args meth c cc nL own) {C n d0 : String} {v : Value} {idx : Nat} (hz : va_Z C n d0 v (AH h) st st.heap) (hlk : Cond.fieldLink own idx C n d0 ∈ GT) (d : decode cc pc = .ok (.getstatic idx, 3)) (hq : pc + 3 = q) (k : WG (KC D cA cL h (ZC h sa sv)) p l e R st m args below meth c Q nL s q lv (v :: rest)) : WG (KC D cA cL h (ZC h sa sv)) p l e R st m args below meth c Q nL s pc lv (rest) := by
  subst hq
  exact fun H locs ls w hl => va_gets X.1.1 X.1.2.1 hz w.2 X.1.2.2.2.1 (X.1.2.2.2.2 _ hlk) (fun _ h => h) d (k H locs ls w hl)
theorem t_getf (X : Cx (KC D cA cL h (ZC h sa sv)) p st m args meth c cc nL own) {C n d0 : String} {v : Value} {idx t : Nat} (hz : va_OF C n d0 v t (AH h) st st.heap) (hlk : Cond.fieldLink own idx C n d0 ∈ GT) (d : decode cc pc = .ok (.getfield idx, 3)) (hq : pc + 3 = q) (k : WG (KC D cA cL h (ZC h sa sv)) p l e R st m args below meth c Q nL s q lv (v :: rest)) : WG (KC D cA cL h (ZC h sa sv)) p l e R st m args below meth c Q nL s pc lv (.ref t :: rest) := by
  subst hq
  exact fun H locs ls w hl => vk_getf X.1.1 X.1.2.1 hz w.2 X.1.2.2.2.1 (X.1.2.2.2.2 _ hlk) (fun _ h => h) d (k H locs ls w hl)
theorem t_len (X : Cx (KC D cA cL h (ZC h sa sv)) p st m args meth c cc nL own) {t N : Nat} {f : Nat → Value} (hz : va_T .byte t N f (AH h) st st.heap) (d : decode cc pc = .ok (.arraylength, 1)) (hq : pc + 1 = q) (k : WG (KC D cA cL h (ZC h sa sv)) p l e R st m args below meth c Q nL s q lv (.int (Int32.ofNat N) :: rest)) : WG (KC D cA cL h (ZC h sa sv)) p l e R st m args below meth c Q nL s pc lv (.ref t :: rest) := by
  subst hq
  exact fun H locs ls w hl => va_tlen X.1.1 X.1.2.1 hz w.2 rfl d (k H locs ls w hl)
theorem t_byte (X : Cx (KC D cA cL h (ZC h sa sv)) p st m args meth c cc nL own) {t N : Nat} {f : Nat → Value} {i : Int32} {v : Value} (hz : va_T .byte t N f (AH h) st st.heap) (hi : inb i N = true) (hv : f i.toNatClampNeg = v) (d : decode cc pc = .ok (.baload, 1)) (hq : pc + 1 = q) (k : WG (KC D cA cL h (ZC h sa sv)) p l e R st m args below meth c Q nL s q lv (v :: rest)) : WG (KC D cA cL h (ZC h sa sv)) p l e R st m args below meth c Q nL s pc lv (.int i :: .ref t :: rest) := by
  subst hq
  exact fun H locs ls w hl => va_tb X.1.1 X.1.2.1 hz w.2 (inb_in hi) hv d (k H locs ls w hl)
theorem t_recv (X : Cx (KC D cA cL h (ZC h sa sv)) p st m args meth c cc nL own) {i : Nat} (hi : i < 30) : ∀ (H : Heap) (locs : List Loc), Wo (KC D cA cL h (ZC h sa sv)) s st H locs → ∃ cell : Cell, H[sa i]? = some cell ∧ cell.vm.isStatics = false ∧ st.vm.findClass "java/lang/String" = some cell.cls := by
  intro H locs w
  obtain ⟨cell, h1, h2, h3, -⟩ := (X.2.2.2.2.2.1 i hi).1.kept w.2.2.1
  exact ⟨cell, h1, h2, h3⟩
end STR
theorem k_J0_coder_7d493 (l : Launch) (D : va_G) (cA cL : ClassId) (h sa sv : Nat → Nat) (s : ST) (i : Nat) (hi : i < 30) : MI l (KC D cA cL h (ZC h sa sv)) 1 yJ0_coder_7d493 cJ0_coder_7d493 1 (some .byte) s [.ref (sa i)] 0 s := by
  refine met_i (by decide) (Nat.le_of_ble_eq_true rfl) ?_
  intro p e st m args below meth c Q X RI
  have z := X.2.2.2.2
  refine t_static X z.2.2.1 (gt_of 698 (by decide +kernel) rfl) dJ0_coder_7d493_0 (q := 3) rfl ?_
  refine g_if_eq X dJ0_coder_7d493_3 (q := 6) rfl (tgt := 13) (by decide) (B := Int32) (a := 1) (b := 0) (r := 0) (by decide) (fun q => absurd q (by decide)) (fun _ => ?_)
  refine g_aload_n X dJ0_coder_7d493_6 (q := 7) rfl 0 rfl ?_
  refine t_getf X (z.2.1 i hi).2.1 (gt_of 1980 (by decide +kernel) rfl) dJ0_coder_7d493_7 (q := 10) rfl ?_
  refine g_goto X dJ0_coder_7d493_10 (tgt := 14) (by decide) ?_
  exact RI _ 14 _ _ _ rfl rfl rfl dJ0_coder_7d493_14
theorem k_J0_isLatin1_aae02 (l : Launch) (D : va_G) (cA cL : ClassId) (h sa sv : Nat → Nat) (s : ST) (i : Nat) (hi : i < 30) : MI l (KC D cA cL h (ZC h sa sv)) 1 yJ0_isLatin1_aae02 cJ0_isLatin1_aae02 1 (some .boolean) s [.ref (sa i)] 1 s := by
  refine met_i (by decide) (Nat.le_of_ble_eq_true rfl) ?_
  intro p e st m args below meth c Q X RI
  have z := X.2.2.2.2
  refine t_static X z.2.2.1 (gt_of 698 (by decide +kernel) rfl) dJ0_isLatin1_aae02_0 (q := 3) rfl ?_
  refine g_if_eq X dJ0_isLatin1_aae02_3 (q := 6) rfl (tgt := 17) (by decide) (B := Int32) (a := 1) (b := 0) (r := 0) (by decide) (fun q => absurd q (by decide)) (fun _ => ?_)
  refine g_aload_n X dJ0_isLatin1_aae02_6 (q := 7) rfl 0 rfl ?_
  refine t_getf X (z.2.1 i hi).2.1 (gt_of 1980 (by decide +kernel) rfl) dJ0_isLatin1_aae02_7 (q := 10) rfl ?_
  refine g_if_ne X dJ0_isLatin1_aae02_10 (q := 13) rfl (tgt := 17) (by decide) (B := Int32) (a := 1) (b := 0) (r := 0) (by decide) (fun q => absurd q (by decide)) (fun _ => ?_)
  refine g_iconst X dJ0_isLatin1_aae02_13 (q := 14) rfl (v := 1) (by decide) ?_
  refine g_goto X dJ0_isLatin1_aae02_14 (tgt := 18) (by decide) ?_
  exact RI _ 18 _ _ _ rfl rfl rfl dJ0_isLatin1_aae02_18
theorem k_J0_length_8abf5 (l : Launch) (D : va_G) (cA cL : ClassId) (h sa sv : Nat → Nat) (s : ST) (i : Nat) (hi : i < 30) : MI l (KC D cA cL h (ZC h sa sv)) 6 yJ0_length_8abf5 cJ0_length_8abf5 1 (some .int) s [.ref (sa i)] (nI (slen i)) s := by
  refine met_i (by decide) (Nat.le_of_ble_eq_true rfl) ?_
  intro p e st m args below meth c Q X RI
  have z := X.2.2.2.2
  refine g_aload_n X dJ0_length_8abf5_0 (q := 1) rfl 0 rfl ?_
  refine t_getf X (z.2.1 i hi).2.2.1 (gt_of 1979 (by decide +kernel) rfl) dJ0_length_8abf5_1 (q := 4) rfl ?_
  refine t_len X (z.2.1 i hi).2.2.2 dJ0_length_8abf5_4 (q := 5) rfl ?_
  refine g_aload_n X dJ0_length_8abf5_5 (q := 6) rfl 0 rfl ?_
  refine cX_I X (n := 0) (k_J0_coder_7d493 l D cA cL h sa sv s i hi) (gt_V (gt_of 694 (by decide +kernel) rfl) (gt_of 695 (by decide +kernel) rfl) (gt_of 696 (by decide +kernel) rfl) (gt_of 209 (by decide +kernel) rfl) (gt_of 697 (by decide +kernel) rfl)) ⟨(Nat.le_of_ble_eq_true rfl), (Nat.le_of_ble_eq_true rfl)⟩ ⟨by decide, by decide, by decide +kernel⟩ (As := []) rfl (Nat.le_of_ble_eq_true rfl) (t_recv X hi) rfl dJ0_length_8abf5_6 (q := 9) rfl ?_
  refine g_ishr X dJ0_length_8abf5_9 (q := 10) rfl ?_
  exact RI _ 10 _ _ _ rfl rfl (sb_shr0 _) dJ0_length_8abf5_10
theorem k_J3_checkIndex_8e157R (l : Launch) (D : va_G) (cA cL : ClassId) (h sa sv : Nat → Nat) (s : ST) (x n : Int32) (t : Nat) (hx : ¬ x < 0) (hn : x < n) : MI l (KC D cA cL h (ZC h sa sv)) 1 yJ3_checkIndex_8e157 cJ3_checkIndex_8e157 3 (some .int) s [.int x, .int n, .ref t] x s := by
  refine met_i (by decide) (Nat.le_of_ble_eq_true rfl) ?_
  intro p e st m args below meth c Q X RI
  refine g_iload_n X dJ3_checkIndex_8e157_0 (q := 1) rfl 0 rfl ?_
  refine g_if_lt X dJ3_checkIndex_8e157_1 (q := 4) rfl (tgt := 9) (by decide) (B := Prop) (a := False) (b := True) (r := True) (if_neg hx) (fun q => (q.symm ▸ trivial : False).elim) (fun _ => ?_)
  refine g_iload_n X dJ3_checkIndex_8e157_4 (q := 5) rfl 0 rfl ?_
  refine g_iload_n X dJ3_checkIndex_8e157_5 (q := 6) rfl 1 rfl ?_
  refine g_icmp_lt X dJ3_checkIndex_8e157_6 (q := 9) rfl (tgt := 16) (by decide) (B := Prop) (a := True) (b := False) (r := True) (if_pos hn) (fun _ => ?_) (fun q => (q.symm ▸ trivial : False).elim)
  refine g_iload_n X dJ3_checkIndex_8e157_16 (q := 17) rfl 0 rfl ?_
  exact RI _ 17 _ _ _ rfl rfl rfl dJ3_checkIndex_8e157_17
theorem k_J3_checkIndex_8e157N (l : Launch) (D : va_G) (cA cL : ClassId) (h sa sv : Nat → Nat) (s : ST) (x n : Int32) (hx : ¬ x < 0) (hn : x < n) : MI l (KC D cA cL h (ZC h sa sv)) 1 yJ3_checkIndex_8e157 cJ3_checkIndex_8e157 3 (some .int) s [.int x, .int n, .null] x s := by
  refine met_i (by decide) (Nat.le_of_ble_eq_true rfl) ?_
  intro p e st m args below meth c Q X RI
  refine g_iload_n X dJ3_checkIndex_8e157_0 (q := 1) rfl 0 rfl ?_
  refine g_if_lt X dJ3_checkIndex_8e157_1 (q := 4) rfl (tgt := 9) (by decide) (B := Prop) (a := False) (b := True) (r := True) (if_neg hx) (fun q => (q.symm ▸ trivial : False).elim) (fun _ => ?_)
  refine g_iload_n X dJ3_checkIndex_8e157_4 (q := 5) rfl 0 rfl ?_
  refine g_iload_n X dJ3_checkIndex_8e157_5 (q := 6) rfl 1 rfl ?_
  refine g_icmp_lt X dJ3_checkIndex_8e157_6 (q := 9) rfl (tgt := 16) (by decide) (B := Prop) (a := True) (b := False) (r := True) (if_pos hn) (fun _ => ?_) (fun q => (q.symm ▸ trivial : False).elim)
  refine g_iload_n X dJ3_checkIndex_8e157_16 (q := 17) rfl 0 rfl ?_
  exact RI _ 17 _ _ _ rfl rfl rfl dJ3_checkIndex_8e157_17
theorem k_J0_checkIndex_df160 (l : Launch) (D : va_G) (cA cL : ClassId) (h sa sv : Nat → Nat) (s : ST) (x n : Int32) (hx : ¬ x < 0) (hn : x < n) : MV l (KC D cA cL h (ZC h sa sv)) 2 yJ0_checkIndex_df160 cJ0_checkIndex_df160 2 none s [.int x, .int n] s := by
  refine met_v (by decide) (Nat.le_of_ble_eq_true rfl) ?_
  intro p e st m args below meth c Q X RI
  have z := X.2.2.2.2
  refine g_iload_n X dJ0_checkIndex_df160_0 (q := 1) rfl 0 rfl ?_
  refine g_iload_n X dJ0_checkIndex_df160_1 (q := 2) rfl 1 rfl ?_
  rcases z.2.2.2 with hz | ⟨t, hz⟩
  · refine t_static X hz (gt_of 714 (by decide +kernel) rfl) dJ0_checkIndex_df160_2 (q := 5) rfl ?_
    refine cS_I X (n := 3) (k_J3_checkIndex_8e157N l D cA cL h sa sv s x n hx hn) (gt_c (gt_of 716 (by decide +kernel) rfl) (gt_c (gt_of 717 (by decide +kernel) rfl) (gt_c (gt_of 211 (by decide +kernel) rfl) (gt_c (gt_of 718 (by decide +kernel) rfl) gt_t)))) ⟨(Nat.le_of_ble_eq_true rfl), (Nat.le_of_ble_eq_true rfl)⟩ ⟨by decide, by decide, by decide +kernel⟩ rfl (Nat.le_of_ble_eq_true rfl) rfl dJ0_checkIndex_df160_5 (q := 8) rfl ?_
    refine g_pop X dJ0_checkIndex_df160_8 (q := 9) rfl rfl ?_
    exact RI _ 9 _ rfl dJ0_checkIndex_df160_9
  · refine t_static X hz (gt_of 714 (by decide +kernel) rfl) dJ0_checkIndex_df160_2 (q := 5) rfl ?_
    refine cS_I X (n := 3) (k_J3_checkIndex_8e157R l D cA cL h sa sv s x n t hx hn) (gt_c (gt_of 716 (by decide +kernel) rfl) (gt_c (gt_of 717 (by decide +kernel) rfl) (gt_c (gt_of 211 (by decide +kernel) rfl) (gt_c (gt_of 718 (by decide +kernel) rfl) gt_t)))) ⟨(Nat.le_of_ble_eq_true rfl), (Nat.le_of_ble_eq_true rfl)⟩ ⟨by decide, by decide, by decide +kernel⟩ rfl (Nat.le_of_ble_eq_true rfl) rfl dJ0_checkIndex_df160_5 (q := 8) rfl ?_
    refine g_pop X dJ0_checkIndex_df160_8 (q := 9) rfl rfl ?_
    exact RI _ 9 _ rfl dJ0_checkIndex_df160_9
theorem sBy_ok : ∀ i, i < 30 → ∀ j, j < slen i → i2ch ((sBy i).getD j 0 &&& 255) = (sBy i).getD j 0 ∧ narrow .char (.int ((sBy i).getD j 0)) = .int ((sBy i).getD j 0) := by decide +kernel
theorem inb_nat {x : Int32} {n : Nat} (h : inb x n = true) : ¬ x < 0 ∧ x.toNatClampNeg < n := by
  have h1 := inb_in h
  exact ⟨fun q => h1 (Or.inl q), Nat.not_le.mp fun q => h1 (Or.inr q)⟩
theorem inb_ofNat {x : Int32} {n : Nat} (h : inb x n = true) (hn : n < 2 ^ 31) : x < Int32.ofNat n := by
  obtain ⟨j, hj, rfl⟩ := vp_in_of (inb_in h) hn
  exact nI_lt hj hn
theorem slen_lt : ∀ i, i < 30 → slen i < 2 ^ 31 := by decide +kernel
theorem k_J1_charAt_3b067 (l : Launch) (D : va_G) (cA cL : ClassId) (h sa sv : Nat → Nat) (s : ST) (i : Nat) (x : Int32) (hi : i < 30) (hx : inb x (slen i) = true) : MI l (KC D cA cL h (ZC h sa sv)) 3 yJ1_charAt_3b067 cJ1_charAt_3b067 2 (some .char) s [.ref (sv i), .int x] ((sBy i).getD x.toNatClampNeg 0) s := by
  refine met_i (by decide) (Nat.le_of_ble_eq_true rfl) ?_
  intro p e st m args below meth c Q X RI
  have z := X.2.2.2.2
  have hb := sBy_ok i hi _ (inb_nat hx).2
  refine g_iload_n X dJ1_charAt_3b067_0 (q := 1) rfl 1 rfl ?_
  refine g_aload_n X dJ1_charAt_3b067_1 (q := 2) rfl 0 rfl ?_
  refine t_len X (z.2.1 i hi).2.2.2 dJ1_charAt_3b067_2 (q := 3) rfl ?_
  refine cS_V X (n := 2) (k_J0_checkIndex_df160 l D cA cL h sa sv s x (Int32.ofNat (slen i)) (inb_nat hx).1 (inb_ofNat hx (slen_lt i hi))) (gt_c (gt_of 711 (by decide +kernel) rfl) (gt_c (gt_of 712 (by decide +kernel) rfl) (gt_c (gt_of 209 (by decide +kernel) rfl) (gt_c (gt_of 713 (by decide +kernel) rfl) gt_t)))) ⟨(Nat.le_of_ble_eq_true rfl), (Nat.le_of_ble_eq_true rfl)⟩ ⟨by decide, by decide, by decide +kernel⟩ rfl (Nat.le_of_ble_eq_true rfl) rfl dJ1_charAt_3b067_3 (q := 6) rfl ?_
  refine g_aload_n X dJ1_charAt_3b067_6 (q := 7) rfl 0 rfl ?_
  refine g_iload_n X dJ1_charAt_3b067_7 (q := 8) rfl 1 rfl ?_
  refine t_byte X (z.2.1 i hi).2.2.2 hx rfl dJ1_charAt_3b067_8 (q := 9) rfl ?_
  refine g_sipush X dJ1_charAt_3b067_9 (q := 12) rfl (v := 255) (by decide) ?_
  refine g_iand X dJ1_charAt_3b067_12 (q := 13) rfl ?_
  refine g_i2c X dJ1_charAt_3b067_13 (q := 14) rfl ?_
  rw [hb.1]
  exact RI _ 14 _ _ _ rfl hb.2 rfl dJ1_charAt_3b067_14
theorem k_J0_charAt_5068e (l : Launch) (D : va_G) (cA cL : ClassId) (h sa sv : Nat → Nat) (s : ST) (i : Nat) (x : Int32) (hi : i < 30) (hx : inb x (slen i) = true) : MI l (KC D cA cL h (ZC h sa sv)) 6 yJ0_charAt_5068e cJ0_charAt_5068e 2 (some .char) s [.ref (sa i), .int x] ((sBy i).getD x.toNatClampNeg 0) s := by
  refine met_i (by decide) (Nat.le_of_ble_eq_true rfl) ?_
  intro p e st m args below meth c Q X RI
  have z := X.2.2.2.2
  have hb := sBy_ok i hi _ (inb_nat hx).2
  refine g_aload_n X dJ0_charAt_5068e_0 (q := 1) rfl 0 rfl ?_
  refine cX_I X (n := 0) (k_J0_isLatin1_aae02 l D cA cL h sa sv s i hi) (gt_V (gt_of 704 (by decide +kernel) rfl) (gt_of 705 (by decide +kernel) rfl) (gt_of 706 (by decide +kernel) rfl) (gt_of 209 (by decide +kernel) rfl) (gt_of 707 (by decide +kernel) rfl)) ⟨(Nat.le_of_ble_eq_true rfl), (Nat.le_of_ble_eq_true rfl)⟩ ⟨by decide, by decide, by decide +kernel⟩ (As := []) rfl (Nat.le_of_ble_eq_true rfl) (t_recv X hi) rfl dJ0_charAt_5068e_1 (q := 4) rfl ?_
  refine g_if_eq X dJ0_charAt_5068e_4 (q := 7) rfl (tgt := 16) (by decide) (B := Int32) (a := 1) (b := 0) (r := 0) (by decide) (fun q => absurd q (by decide)) (fun _ => ?_)
  refine g_aload_n X dJ0_charAt_5068e_7 (q := 8) rfl 0 rfl ?_
  refine t_getf X (z.2.1 i hi).2.2.1 (gt_of 1979 (by decide +kernel) rfl) dJ0_charAt_5068e_8 (q := 11) rfl ?_
  refine g_iload_n X dJ0_charAt_5068e_11 (q := 12) rfl 1 rfl ?_
  refine cS_I X (n := 2) (k_J1_charAt_3b067 l D cA cL h sa sv s i x hi hx) (gt_c (gt_of 708 (by decide +kernel) rfl) (gt_c (gt_of 709 (by decide +kernel) rfl) (gt_c (gt_of 210 (by decide +kernel) rfl) (gt_c (gt_of 710 (by decide +kernel) rfl) gt_t)))) ⟨(Nat.le_of_ble_eq_true rfl), (Nat.le_of_ble_eq_true rfl)⟩ ⟨by decide, by decide, by decide +kernel⟩ rfl (Nat.le_of_ble_eq_true rfl) rfl dJ0_charAt_5068e_12 (q := 15) rfl ?_
  exact RI _ 15 _ _ _ rfl hb.2 rfl dJ0_charAt_5068e_15
theorem ZK_C {h sa sv : Nat → Nat} : ZK h (ZC h sa sv) sa := by
  refine ⟨fun u H z => z.1, fun u H z => z.2.1, fun u H z i hi => ?_, ?_, ?_⟩
  · obtain ⟨cell, h1, h2, h3, -⟩ := (z.2.2.1 i hi).1
    exact ⟨cell, h1, h2, h3⟩
  · exact fun l D cA cL s i hi => k_J0_length_8abf5 l D cA cL h sa sv s i hi
  · exact fun l D cA cL s i k hi hk => k_J0_charAt_5068e l D cA cL h sa sv s i k hi hk
