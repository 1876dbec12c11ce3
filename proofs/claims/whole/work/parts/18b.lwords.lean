def LX (K1 K2 : KT) (p : Program) (st : State) (m : MethodId) (c : Code) (b L : Nat) (xs : Nat → Int32) : Prop :=
  CallFix p m c cL_law 4 st #[.ref b] GT RL ∧ (va_K (kD K1) vwCl (kT K1) st ∧ va_K (kD K2) vwCl (kT K2) st) ∧ (kJ K1 ∧ kJ K2) ∧ (kZ K1 st st.heap ∧ kZ K2 st st.heap) ∧ ((∀ q, kA K1 q → st.heap.size ≤ q) ∧ (∀ q, kA K2 q → st.heap.size ≤ q) ∧ ∀ q, kA K1 q → ¬ kA K2 q) ∧ va_X b L xs st st.heap ∧ b < st.heap.size
def LG (K1 K2 : KT) (p : Program) (l : Launch) (e : Env) (st : State) (m : MethodId) (b : Nat) (below : List Frame) (meth : Method) (c : Code) (Q : State → Prop) (ce sl : Nat) (s1 s2 : ST) (pc : Nat) (lv : List (Nat × Value)) (stk : List Value) : Prop :=
  ∀ (H : Heap) (locs : List Loc) (ls : Array Slot), va_P (kD K1) vwCl (kW K1 s1) H → va_P (kD K2) vwCl (kW K2 s2) H → va_S (fun q => st.heap.size ≤ q) st.heap H locs → lv_has ls 4 lv → W p l e room_1 st m #[.ref b] below meth c H locs ce sl Q (F0 m pc ls stk)
theorem kW_old {K K' : KT} {s : ST} {H H1 : Heap} (hP : va_P (kD K) vwCl (kW K s) H) (hk : ∀ q : Nat, q < H.size → ¬ kA K' q → H1[q]? = H[q]?) (hd : ∀ q, kA K q → ¬ kA K' q) : va_P (kD K) vwCl (kW K s) H1 :=
  hP.kept fun k x hx => by
    have hl : k < kN K := by rw [← kW_len (s := s)]; exact (List.getElem?_eq_some_iff.mp hx).1
    refine hk x.1 (hP k x hx).lt (hd x.1 ⟨k, hl, ?_⟩)
    rw [kW_get hl] at hx
    cases hx
    rfl
section LR
variable {K1 K2 : KT} {p : Program} {l : Launch} {e : Env} {st : State} {m : MethodId} {b L : Nat} {xs : Nat → Int32} {below : List Frame} {meth : Method} {c : Code} {Q : State → Prop} {ce sl : Nat} {s1 s2 : ST} {pc q : Nat} {lv lv' : List (Nat × Value)} {rest : List Value}
theorem l_iconst (X : LX K1 K2 p st m c b L xs) {n : Int} {v : Int32} (d : decode cL_law pc = .ok (.iconst n, 1)) (hq : pc + 1 = q) (hv : Int32.ofInt n = v) (k : LG K1 K2 p l e st m b below meth c Q ce sl s1 s2 q lv (.int v :: rest)) : LG K1 K2 p l e st m b below meth c Q ce sl s1 s2 pc lv (rest) := by
  subst hq
  exact fun H locs ls hP1 hP2 hS hl => lv_iconst X.1.1 X.1.2.1 d hv (k H locs ls hP1 hP2 hS hl)
theorem l_bipush (X : LX K1 K2 p st m c b L xs) {n : Int} {v : Int32} (d : decode cL_law pc = .ok (.bipush n, 2)) (hq : pc + 2 = q) (hv : (Int8.ofInt n).toInt32 = v) (k : LG K1 K2 p l e st m b below meth c Q ce sl s1 s2 q lv (.int v :: rest)) : LG K1 K2 p l e st m b below meth c Q ce sl s1 s2 pc lv (rest) := by
  subst hq
  exact fun H locs ls hP1 hP2 hS hl => lv_bipush X.1.1 X.1.2.1 d hv (k H locs ls hP1 hP2 hS hl)
theorem l_iload_n (X : LX K1 K2 p st m c b L xs) {n : Fin 4} {x : Int32} (d : decode cL_law pc = .ok (.iload_n n, 1)) (hq : pc + 1 = q) (a : Nat) (ha : lv[a]? = some ((n : Nat), .int x)) (k : LG K1 K2 p l e st m b below meth c Q ce sl s1 s2 q lv (.int x :: rest)) : LG K1 K2 p l e st m b below meth c Q ce sl s1 s2 pc lv (rest) := by
  subst hq
  exact fun H locs ls hP1 hP2 hS hl => lv_iload_n X.1.1 X.1.2.1 d rfl (lv_at hl a ha) (k H locs ls hP1 hP2 hS hl)
theorem l_aload_n (X : LX K1 K2 p st m c b L xs) {n : Fin 4} {x : Nat} (d : decode cL_law pc = .ok (.aload_n n, 1)) (hq : pc + 1 = q) (a : Nat) (ha : lv[a]? = some ((n : Nat), .ref x)) (k : LG K1 K2 p l e st m b below meth c Q ce sl s1 s2 q lv (.ref x :: rest)) : LG K1 K2 p l e st m b below meth c Q ce sl s1 s2 pc lv (rest) := by
  subst hq
  exact fun H locs ls hP1 hP2 hS hl => lv_aload_n X.1.1 X.1.2.1 d rfl (lv_at hl a ha) (k H locs ls hP1 hP2 hS hl)
theorem l_iadd (X : LX K1 K2 p st m c b L xs) {x y : Int32} (d : decode cL_law pc = .ok (.iadd, 1)) (hq : pc + 1 = q)  (k : LG K1 K2 p l e st m b below meth c Q ce sl s1 s2 q lv (.int (x + y) :: rest)) : LG K1 K2 p l e st m b below meth c Q ce sl s1 s2 pc lv (.int y :: .int x :: rest) := by
  subst hq
  exact fun H locs ls hP1 hP2 hS hl => lv_iadd X.1.1 X.1.2.1 d (k H locs ls hP1 hP2 hS hl)
theorem l_isub (X : LX K1 K2 p st m c b L xs) {x y : Int32} (d : decode cL_law pc = .ok (.isub, 1)) (hq : pc + 1 = q)  (k : LG K1 K2 p l e st m b below meth c Q ce sl s1 s2 q lv (.int (x - y) :: rest)) : LG K1 K2 p l e st m b below meth c Q ce sl s1 s2 pc lv (.int y :: .int x :: rest) := by
  subst hq
  exact fun H locs ls hP1 hP2 hS hl => lv_isub X.1.1 X.1.2.1 d (k H locs ls hP1 hP2 hS hl)
theorem l_iand (X : LX K1 K2 p st m c b L xs) {x y : Int32} (d : decode cL_law pc = .ok (.iand, 1)) (hq : pc + 1 = q)  (k : LG K1 K2 p l e st m b below meth c Q ce sl s1 s2 q lv (.int (x &&& y) :: rest)) : LG K1 K2 p l e st m b below meth c Q ce sl s1 s2 pc lv (.int y :: .int x :: rest) := by
  subst hq
  exact fun H locs ls hP1 hP2 hS hl => lv_iand X.1.1 X.1.2.1 d (k H locs ls hP1 hP2 hS hl)
theorem l_land (X : LX K1 K2 p st m c b L xs) {x y : Int64} (d : decode cL_law pc = .ok (.land, 1)) (hq : pc + 1 = q)  (k : LG K1 K2 p l e st m b below meth c Q ce sl s1 s2 q lv (.long (x &&& y) :: rest)) : LG K1 K2 p l e st m b below meth c Q ce sl s1 s2 pc lv (.long y :: .long x :: rest) := by
  subst hq
  exact fun H locs ls hP1 hP2 hS hl => lv_land X.1.1 X.1.2.1 d (k H locs ls hP1 hP2 hS hl)
theorem l_lor (X : LX K1 K2 p st m c b L xs) {x y : Int64} (d : decode cL_law pc = .ok (.lor, 1)) (hq : pc + 1 = q)  (k : LG K1 K2 p l e st m b below meth c Q ce sl s1 s2 q lv (.long (x ||| y) :: rest)) : LG K1 K2 p l e st m b below meth c Q ce sl s1 s2 pc lv (.long y :: .long x :: rest) := by
  subst hq
  exact fun H locs ls hP1 hP2 hS hl => lv_lor X.1.1 X.1.2.1 d (k H locs ls hP1 hP2 hS hl)
theorem l_i2l (X : LX K1 K2 p st m c b L xs) {x : Int32} (d : decode cL_law pc = .ok (.i2l, 1)) (hq : pc + 1 = q)  (k : LG K1 K2 p l e st m b below meth c Q ce sl s1 s2 q lv (.long x.toInt64 :: rest)) : LG K1 K2 p l e st m b below meth c Q ce sl s1 s2 pc lv (.int x :: rest) := by
  subst hq
  exact fun H locs ls hP1 hP2 hS hl => lv_i2l X.1.1 X.1.2.1 d rfl (k H locs ls hP1 hP2 hS hl)
theorem l_lshl (X : LX K1 K2 p st m c b L xs) {x : Int64} {y : Int32} (d : decode cL_law pc = .ok (.lshl, 1)) (hq : pc + 1 = q)  (k : LG K1 K2 p l e st m b below meth c Q ce sl s1 s2 q lv (.long (x <<< (y.toInt64 &&& 63)) :: rest)) : LG K1 K2 p l e st m b below meth c Q ce sl s1 s2 pc lv (.int y :: .long x :: rest) := by
  subst hq
  exact fun H locs ls hP1 hP2 hS hl => lv_lshl X.1.1 X.1.2.1 d rfl (k H locs ls hP1 hP2 hS hl)
theorem l_ldc2_w (X : LX K1 K2 p st m c b L xs) {v : Int64} {i : Nat} (d : decode cL_law pc = .ok (.ldc2_w i, 3)) (hq : pc + 3 = q) (hc : Cond.constantLong RL i v ∈ GT) (k : LG K1 K2 p l e st m b below meth c Q ce sl s1 s2 q lv (.long v :: rest)) : LG K1 K2 p l e st m b below meth c Q ce sl s1 s2 pc lv (rest) := by
  subst hq
  exact fun H locs ls hP1 hP2 hS hl => lv_ldc2 X.1.1 X.1.2.1 X.1.2.2.2.1 (X.1.2.2.2.2 _ hc) d (k H locs ls hP1 hP2 hS hl)
theorem l_iinc (X : LX K1 K2 p st m c b L xs) {i : Nat} {n : Int} {x v : Int32} (d : decode cL_law pc = .ok (.iinc i n, 3)) (hq : pc + 3 = q) (a : Nat) (ha : lv[a]? = some (i, .int x)) (hv : x + Int32.ofInt n = v) (hn : i < 4) (hl' : (i, Value.int v) :: lv.filter (fun q => !(q.1 == i) && !(q.1 + 1 == i && q.2.category == 2)) = lv') (k : LG K1 K2 p l e st m b below meth c Q ce sl s1 s2 q lv' (rest)) : LG K1 K2 p l e st m b below meth c Q ce sl s1 s2 pc lv (rest) := by
  subst hq
  exact fun H locs ls hP1 hP2 hS hl => lv_iinc X.1.1 X.1.2.1 d hl ha hv hn hl' (fun ls' h' => k H locs ls' hP1 hP2 hS h')
theorem l_len (X : LX K1 K2 p st m c b L xs)  (d : decode cL_law pc = .ok (.arraylength, 1)) (hq : pc + 1 = q)  (k : LG K1 K2 p l e st m b below meth c Q ce sl s1 s2 q lv (.int (Int32.ofNat L) :: rest)) : LG K1 K2 p l e st m b below meth c Q ce sl s1 s2 pc lv (.ref b :: rest) := by
  subst hq
  exact fun H locs ls hP1 hP2 hS hl => va_slen X.1.1 X.1.2.1 X.2.2.2.2.2.1 X.2.2.2.2.2.2 (Nat.not_le.mpr X.2.2.2.2.2.2) hS d (k H locs ls hP1 hP2 hS hl)
theorem l_sld (X : LX K1 K2 p st m c b L xs) {i : Int32} (d : decode cL_law pc = .ok (.iaload, 1)) (hq : pc + 1 = q) (hi : vp_in i L) (k : LG K1 K2 p l e st m b below meth c Q ce sl s1 s2 q lv (.int (xs i.toNatClampNeg) :: rest)) : LG K1 K2 p l e st m b below meth c Q ce sl s1 s2 pc lv (.int i :: .ref b :: rest) := by
  subst hq
  exact fun H locs ls hP1 hP2 hS hl => va_sld X.1.1 X.1.2.1 X.2.2.2.2.2.1 X.2.2.2.2.2.2 (Nat.not_le.mpr X.2.2.2.2.2.2) hS hi d (k H locs ls hP1 hP2 hS hl)
theorem l_goto (X : LX K1 K2 p st m c b L xs) {off : Int} {tgt : Nat} (d : decode cL_law pc = .ok (.goto off, 3)) (ht : (pc : Int) + off = (tgt : Int)) (k : LG K1 K2 p l e st m b below meth c Q ce sl s1 s2 tgt lv (rest)) : LG K1 K2 p l e st m b below meth c Q ce sl s1 s2 pc lv (rest) := fun H locs ls hP1 hP2 hS hl => lv_goto X.1.1 X.1.2.1 d ht (k H locs ls hP1 hP2 hS hl)
theorem l_gt (X : LX K1 K2 p st m c b L xs) {x y : Int32} {off : Int} {tgt : Nat} (d : decode cL_law pc = .ok (.if_icmp .gt off, 3)) (hq : pc + 3 = q) (ht : (pc : Int) + off = (tgt : Int)) (kt : y < x → LG K1 K2 p l e st m b below meth c Q ce sl s1 s2 tgt lv (rest)) (kf : ¬ y < x → LG K1 K2 p l e st m b below meth c Q ce sl s1 s2 q lv (rest)) : LG K1 K2 p l e st m b below meth c Q ce sl s1 s2 pc lv (.int y :: .int x :: rest) := by
  subst hq
  exact fun H locs ls hP1 hP2 hS hl => lv_icmp_gt X.1.1 X.1.2.1 d ht (fun h => kt h H locs ls hP1 hP2 hS hl) (fun h => kf h H locs ls hP1 hP2 hS hl)
theorem l_ifeq (X : LX K1 K2 p st m c b L xs) {x : Int32} {off : Int} {tgt : Nat} (d : decode cL_law pc = .ok (.ifCond .eq off, 3)) (hq : pc + 3 = q) (ht : (pc : Int) + off = (tgt : Int)) (kt : x = 0 → LG K1 K2 p l e st m b below meth c Q ce sl s1 s2 tgt lv (rest)) (kf : ¬ x = 0 → LG K1 K2 p l e st m b below meth c Q ce sl s1 s2 q lv (rest)) : LG K1 K2 p l e st m b below meth c Q ce sl s1 s2 pc lv (.int x :: rest) := by
  subst hq
  exact fun H locs ls hP1 hP2 hS hl => lv_if_eq X.1.1 X.1.2.1 d ht (fun h => kt h H locs ls hP1 hP2 hS hl) (fun h => kf h H locs ls hP1 hP2 hS hl)
theorem l_same (X : LX K1 K2 p st m c b L xs) {x : Int32} {off : Int} {tgt : Nat} (d : decode cL_law pc = .ok (.if_icmp .eq off, 3)) (ht : (pc : Int) + off = (tgt : Int)) (k : LG K1 K2 p l e st m b below meth c Q ce sl s1 s2 tgt lv (rest)) : LG K1 K2 p l e st m b below meth c Q ce sl s1 s2 pc lv (.int x :: .int x :: rest) := fun H locs ls hP1 hP2 hS hl => lv_icmp_eq X.1.1 X.1.2.1 d ht (fun _ => (k H locs ls hP1 hP2 hS hl)) (fun h => absurd rfl h)
theorem l_sameL (X : LX K1 K2 p st m c b L xs) {x : Int64} {off : Int} {pc2 tgt : Nat} (d : decode cL_law pc = .ok (.lcmp, 1)) (hq : pc + 1 = pc2) (d2 : decode cL_law pc2 = .ok (.ifCond .eq off, 3)) (ht : (pc2 : Int) + off = (tgt : Int)) (k : LG K1 K2 p l e st m b below meth c Q ce sl s1 s2 tgt lv (rest)) : LG K1 K2 p l e st m b below meth c Q ce sl s1 s2 pc lv (.long x :: .long x :: rest) := by
  subst hq
  exact fun H locs ls hP1 hP2 hS hl => W.lcmp X.1.1 X.1.2.1 d (lv_if_eq X.1.1 X.1.2.1 d2 ht (fun _ => (k H locs ls hP1 hP2 hS hl)) (fun h => absurd (by simp [lg_cmp]) h))
theorem l_tsw (X : LX K1 K2 p st m c b L xs) {dflt lo hi off : Int} {offs : Array Int} {len : Nat} {x z : Int32} {tgt : Nat} (d : decode cL_law pc = .ok (.tableswitch dflt lo hi offs, len)) (ho : offs[(z.toInt - lo).toNat]? = some off) (h1 : ¬ z.toInt < lo) (h2 : ¬ hi < z.toInt) (ht : (pc : Int) + off = (tgt : Int)) (kt : LG K1 K2 p l e st m b below meth c Q ce sl s1 s2 tgt lv (rest)) (kf : ¬ x = z → LG K1 K2 p l e st m b below meth c Q ce sl s1 s2 pc lv (.int x :: rest)) : LG K1 K2 p l e st m b below meth c Q ce sl s1 s2 pc lv (.int x :: rest) := by
  by_cases hx : x = z
  · subst hx
    exact fun H locs ls hP1 hP2 hS hl => lv_tableIn X.1.1 X.1.2.1 d h1 h2 ho ht (kt H locs ls hP1 hP2 hS hl)
  · exact kf hx
theorem l_tswO (X : LX K1 K2 p st m c b L xs) {dflt lo hi : Int} {offs : Array Int} {len : Nat} {x : Int32} {tgt : Nat} (d : decode cL_law pc = .ok (.tableswitch dflt lo hi offs, len)) (h : x.toInt < lo ∨ hi < x.toInt) (ht : (pc : Int) + dflt = (tgt : Int)) (k : LG K1 K2 p l e st m b below meth c Q ce sl s1 s2 tgt lv (rest)) : LG K1 K2 p l e st m b below meth c Q ce sl s1 s2 pc lv (.int x :: rest) := fun H locs ls hP1 hP2 hS hl => lv_tableOut X.1.1 X.1.2.1 d h ht (k H locs ls hP1 hP2 hS hl)
theorem l_sub {stk : List Value} (ks : List Nat) (h : lv_pick lv ks = lv') (k : LG K1 K2 p l e st m b below meth c Q ce sl s1 s2 pc lv' stk) : LG K1 K2 p l e st m b below meth c Q ce sl s1 s2 pc lv (stk) := fun H locs ls hP1 hP2 hS hl => k H locs ls hP1 hP2 hS (lv_sub hl ks h)
theorem lc1_I (X : LX K1 K2 p st m c b L xs) {y : MethodName} {b2 : ByteArray} {n2 : Nat} {ret2 : Option FieldType} {d1 idx n : Nat} {As : List Value} {r0 : Int32} {u0 : ST} (hM : MI l K1 d1 y b2 n2 ret2 s1 (.ref (kh K1 0) :: As) r0 u0) (hG : GoodIn GT (wsV RL idx y.cls y (.code y b2 n2 ret2 :: GT))) (hR : d1 + 1 ≤ 2048 ∧ 8 + (n2 + 11) + 100 * d1 ≤ 84000) (hd : y.cls ≠ "java/lang/invoke/MethodHandle" ∧ y.cls ≠ "java/lang/invoke/VarHandle" ∧ (parseMethodDescriptor y.desc).map (fun d => d.parameters.length) = some n) (hAs : As.length = n) (hrest : (rest.map fun v => v.category).sum ≤ 8) {ci : Nat} (hb0 : 0 < kN K1) {fs : List Value} {T : u_T} {N : Nat} (hg : kG K1 0 (s1.1 0) (s1.2 0) = .inr (ci, fs)) (hc : vwCl[ci]? = some (y.cls, T, N)) (hce : ce ≤ 600000 ∧ sl ≤ 7302249) {stk : List Value} (hst : stk = As.reverse ++ .ref (kh K1 0) :: rest) (dg : decode cL_law pc = .ok (.invokevirtual idx, 3)) (hq : pc + 3 = q) (k : LG K1 K2 p l e st m b below meth c Q ce sl u0 s2 q lv (.int r0 :: rest)) : LG K1 K2 p l e st m b below meth c Q ce sl s1 s2 pc lv (stk) := by
  subst hq
  subst hst
  intro H locs ls hP1 hP2 hS hl
  have hZh : kZ K1 st H := X.2.2.1.1.2.2.1 st st.heap H hS.1 (fun q h1 _ => hS.2.1 q h1 (Nat.not_le.mpr h1)) X.2.2.2.1.1
  refine va_calli (va_runV (As := As) (rest := rest) X.1 hM (cwV n X.1.2.2.2.2 hG rfl rfl rfl ⟨rfl, hd⟩ hR) ⟨blind_of, va_recv X.2.1.1 hP1 hc (by rw [kW_get hb0, hg]), fun U hU hW => ⟨rfl, by rw [hU]; exact hP1, va_K.moved hW.alike X.2.1.1, X.2.2.1.1, by rw [hU]; exact X.2.2.1.1.2.1 st U H hW hZh⟩⟩ rfl hAs hl.1 rfl (lv_room hrest) dg ⟨hce.1, hce.2⟩) hS (fun q _ h => X.2.2.2.2.1.1 q h) (fun q h => X.2.2.2.2.1.1 q h) (fun r u t H1 locs1 ht hvm hw hB hz1 hk1 hS => ?_)
  obtain ⟨rfl, rfl⟩ := hw
  have hN := kW_old hP2 hk1 (fun q h2 h1 => X.2.2.2.2.1.2.2 q h1 h2)
  have hO : va_P (kD K1) vwCl (kW K1 u) H1 := by rw [← ht]; exact hB
  exact k H1 locs1 ls hO hN hS hl
theorem lc1_L (X : LX K1 K2 p st m c b L xs) {y : MethodName} {b2 : ByteArray} {n2 : Nat} {ret2 : Option FieldType} {d1 idx n : Nat} {As : List Value} {r0 : Int64} {u0 : ST} (hM : ML l K1 d1 y b2 n2 ret2 s1 (.ref (kh K1 0) :: As) r0 u0) (hG : GoodIn GT (wsV RL idx y.cls y (.code y b2 n2 ret2 :: GT))) (hR : d1 + 1 ≤ 2048 ∧ 8 + (n2 + 11) + 100 * d1 ≤ 84000) (hd : y.cls ≠ "java/lang/invoke/MethodHandle" ∧ y.cls ≠ "java/lang/invoke/VarHandle" ∧ (parseMethodDescriptor y.desc).map (fun d => d.parameters.length) = some n) (hAs : As.length = n) (hrest : (rest.map fun v => v.category).sum ≤ 8) {ci : Nat} (hb0 : 0 < kN K1) {fs : List Value} {T : u_T} {N : Nat} (hg : kG K1 0 (s1.1 0) (s1.2 0) = .inr (ci, fs)) (hc : vwCl[ci]? = some (y.cls, T, N)) (hce : ce ≤ 600000 ∧ sl ≤ 7302249) {stk : List Value} (hst : stk = As.reverse ++ .ref (kh K1 0) :: rest) (dg : decode cL_law pc = .ok (.invokevirtual idx, 3)) (hq : pc + 3 = q) (k : LG K1 K2 p l e st m b below meth c Q ce sl u0 s2 q lv (.long r0 :: rest)) : LG K1 K2 p l e st m b below meth c Q ce sl s1 s2 pc lv (stk) := by
  subst hq
  subst hst
  intro H locs ls hP1 hP2 hS hl
  have hZh : kZ K1 st H := X.2.2.1.1.2.2.1 st st.heap H hS.1 (fun q h1 _ => hS.2.1 q h1 (Nat.not_le.mpr h1)) X.2.2.2.1.1
  refine va_calll (va_runV (As := As) (rest := rest) X.1 hM (cwV n X.1.2.2.2.2 hG rfl rfl rfl ⟨rfl, hd⟩ hR) ⟨blind_of, va_recv X.2.1.1 hP1 hc (by rw [kW_get hb0, hg]), fun U hU hW => ⟨rfl, by rw [hU]; exact hP1, va_K.moved hW.alike X.2.1.1, X.2.2.1.1, by rw [hU]; exact X.2.2.1.1.2.1 st U H hW hZh⟩⟩ rfl hAs hl.1 rfl (lv_room hrest) dg ⟨hce.1, hce.2⟩) hS (fun q _ h => X.2.2.2.2.1.1 q h) (fun q h => X.2.2.2.2.1.1 q h) (fun r u t H1 locs1 ht hvm hw hB hz1 hk1 hS => ?_)
  obtain ⟨rfl, rfl⟩ := hw
  have hN := kW_old hP2 hk1 (fun q h2 h1 => X.2.2.2.2.1.2.2 q h1 h2)
  have hO : va_P (kD K1) vwCl (kW K1 u) H1 := by rw [← ht]; exact hB
  exact k H1 locs1 ls hO hN hS hl
theorem lc2_I (X : LX K1 K2 p st m c b L xs) {y : MethodName} {b2 : ByteArray} {n2 : Nat} {ret2 : Option FieldType} {d1 idx n : Nat} {As : List Value} {r0 : Int32} {u0 : ST} (hM : MI l K2 d1 y b2 n2 ret2 s2 (.ref (kh K2 0) :: As) r0 u0) (hG : GoodIn GT (wsV RL idx y.cls y (.code y b2 n2 ret2 :: GT))) (hR : d1 + 1 ≤ 2048 ∧ 8 + (n2 + 11) + 100 * d1 ≤ 84000) (hd : y.cls ≠ "java/lang/invoke/MethodHandle" ∧ y.cls ≠ "java/lang/invoke/VarHandle" ∧ (parseMethodDescriptor y.desc).map (fun d => d.parameters.length) = some n) (hAs : As.length = n) (hrest : (rest.map fun v => v.category).sum ≤ 8) {ci : Nat} (hb0 : 0 < kN K2) {fs : List Value} {T : u_T} {N : Nat} (hg : kG K2 0 (s2.1 0) (s2.2 0) = .inr (ci, fs)) (hc : vwCl[ci]? = some (y.cls, T, N)) (hce : ce ≤ 600000 ∧ sl ≤ 7302249) {stk : List Value} (hst : stk = As.reverse ++ .ref (kh K2 0) :: rest) (dg : decode cL_law pc = .ok (.invokevirtual idx, 3)) (hq : pc + 3 = q) (k : LG K1 K2 p l e st m b below meth c Q ce sl s1 u0 q lv (.int r0 :: rest)) : LG K1 K2 p l e st m b below meth c Q ce sl s1 s2 pc lv (stk) := by
  subst hq
  subst hst
  intro H locs ls hP1 hP2 hS hl
  have hZh : kZ K2 st H := X.2.2.1.2.2.2.1 st st.heap H hS.1 (fun q h1 _ => hS.2.1 q h1 (Nat.not_le.mpr h1)) X.2.2.2.1.2
  refine va_calli (va_runV (As := As) (rest := rest) X.1 hM (cwV n X.1.2.2.2.2 hG rfl rfl rfl ⟨rfl, hd⟩ hR) ⟨blind_of, va_recv X.2.1.2 hP2 hc (by rw [kW_get hb0, hg]), fun U hU hW => ⟨rfl, by rw [hU]; exact hP2, va_K.moved hW.alike X.2.1.2, X.2.2.1.2, by rw [hU]; exact X.2.2.1.2.2.1 st U H hW hZh⟩⟩ rfl hAs hl.1 rfl (lv_room hrest) dg ⟨hce.1, hce.2⟩) hS (fun q _ h => X.2.2.2.2.1.2.1 q h) (fun q h => X.2.2.2.2.1.2.1 q h) (fun r u t H1 locs1 ht hvm hw hB hz1 hk1 hS => ?_)
  obtain ⟨rfl, rfl⟩ := hw
  have hN := kW_old hP1 hk1 (fun q h1 h2 => X.2.2.2.2.1.2.2 q h1 h2)
  have hO : va_P (kD K2) vwCl (kW K2 u) H1 := by rw [← ht]; exact hB
  exact k H1 locs1 ls hN hO hS hl
theorem lc2_L (X : LX K1 K2 p st m c b L xs) {y : MethodName} {b2 : ByteArray} {n2 : Nat} {ret2 : Option FieldType} {d1 idx n : Nat} {As : List Value} {r0 : Int64} {u0 : ST} (hM : ML l K2 d1 y b2 n2 ret2 s2 (.ref (kh K2 0) :: As) r0 u0) (hG : GoodIn GT (wsV RL idx y.cls y (.code y b2 n2 ret2 :: GT))) (hR : d1 + 1 ≤ 2048 ∧ 8 + (n2 + 11) + 100 * d1 ≤ 84000) (hd : y.cls ≠ "java/lang/invoke/MethodHandle" ∧ y.cls ≠ "java/lang/invoke/VarHandle" ∧ (parseMethodDescriptor y.desc).map (fun d => d.parameters.length) = some n) (hAs : As.length = n) (hrest : (rest.map fun v => v.category).sum ≤ 8) {ci : Nat} (hb0 : 0 < kN K2) {fs : List Value} {T : u_T} {N : Nat} (hg : kG K2 0 (s2.1 0) (s2.2 0) = .inr (ci, fs)) (hc : vwCl[ci]? = some (y.cls, T, N)) (hce : ce ≤ 600000 ∧ sl ≤ 7302249) {stk : List Value} (hst : stk = As.reverse ++ .ref (kh K2 0) :: rest) (dg : decode cL_law pc = .ok (.invokevirtual idx, 3)) (hq : pc + 3 = q) (k : LG K1 K2 p l e st m b below meth c Q ce sl s1 u0 q lv (.long r0 :: rest)) : LG K1 K2 p l e st m b below meth c Q ce sl s1 s2 pc lv (stk) := by
  subst hq
  subst hst
  intro H locs ls hP1 hP2 hS hl
  have hZh : kZ K2 st H := X.2.2.1.2.2.2.1 st st.heap H hS.1 (fun q h1 _ => hS.2.1 q h1 (Nat.not_le.mpr h1)) X.2.2.2.1.2
  refine va_calll (va_runV (As := As) (rest := rest) X.1 hM (cwV n X.1.2.2.2.2 hG rfl rfl rfl ⟨rfl, hd⟩ hR) ⟨blind_of, va_recv X.2.1.2 hP2 hc (by rw [kW_get hb0, hg]), fun U hU hW => ⟨rfl, by rw [hU]; exact hP2, va_K.moved hW.alike X.2.1.2, X.2.2.1.2, by rw [hU]; exact X.2.2.1.2.2.1 st U H hW hZh⟩⟩ rfl hAs hl.1 rfl (lv_room hrest) dg ⟨hce.1, hce.2⟩) hS (fun q _ h => X.2.2.2.2.1.2.1 q h) (fun q h => X.2.2.2.2.1.2.1 q h) (fun r u t H1 locs1 ht hvm hw hB hz1 hk1 hS => ?_)
  obtain ⟨rfl, rfl⟩ := hw
  have hN := kW_old hP1 hk1 (fun q h1 h2 => X.2.2.2.2.1.2.2 q h1 h2)
  have hO : va_P (kD K2) vwCl (kW K2 u) H1 := by rw [← ht]; exact hB
  exact k H1 locs1 ls hN hO hS hl
end LR
theorem gl_X9_state : GoodIn GT (wsV RL 13 RX9 yX9_state (.code yX9_state cX9_state 3 (some .int) :: GT)) := gt_V (gt_of 578 (by decide +kernel) rfl) (gt_of 579 (by decide +kernel) rfl) (gt_of 580 (by decide +kernel) rfl) (gt_of 196 (by decide +kernel) rfl) (gt_of 581 (by decide +kernel) rfl)
theorem gl_X10_state : GoodIn GT (wsV RL 17 RX10 yX10_state (.code yX10_state cX10_state 3 (some .int) :: GT)) := gt_V (gt_of 1451 (by decide +kernel) rfl) (gt_of 1452 (by decide +kernel) rfl) (gt_of 1453 (by decide +kernel) rfl) (gt_of 208 (by decide +kernel) rfl) (gt_of 1454 (by decide +kernel) rfl)
theorem gl_X9_land : GoodIn GT (wsV RL 18 RX9 yX9_land (.code yX9_land cX9_land 3 (some .boolean) :: GT)) := gt_V (gt_of 586 (by decide +kernel) rfl) (gt_of 587 (by decide +kernel) rfl) (gt_of 588 (by decide +kernel) rfl) (gt_of 196 (by decide +kernel) rfl) (gt_of 589 (by decide +kernel) rfl)
theorem gl_X10_land : GoodIn GT (wsV RL 22 RX10 yX10_land (.code yX10_land cX10_land 5 (some .boolean) :: GT)) := gt_V (gt_of 1455 (by decide +kernel) rfl) (gt_of 1456 (by decide +kernel) rfl) (gt_of 1457 (by decide +kernel) rfl) (gt_of 208 (by decide +kernel) rfl) (gt_of 1458 (by decide +kernel) rfl)
theorem gl_X9_set : GoodIn GT (wsV RL 23 RX9 yX9_set (.code yX9_set cX9_set 5 (some .boolean) :: GT)) := gt_V (gt_of 607 (by decide +kernel) rfl) (gt_of 608 (by decide +kernel) rfl) (gt_of 609 (by decide +kernel) rfl) (gt_of 196 (by decide +kernel) rfl) (gt_of 610 (by decide +kernel) rfl)
theorem gl_X10_set : GoodIn GT (wsV RL 27 RX10 yX10_set (.code yX10_set cX10_set 4 (some .boolean) :: GT)) := gt_V (gt_of 1463 (by decide +kernel) rfl) (gt_of 1464 (by decide +kernel) rfl) (gt_of 1465 (by decide +kernel) rfl) (gt_of 208 (by decide +kernel) rfl) (gt_of 1466 (by decide +kernel) rfl)
theorem gl_X9_feed : GoodIn GT (wsV RL 28 RX9 yX9_feed (.code yX9_feed cX9_feed 6 (some .int) :: GT)) := gt_V (gt_of 636 (by decide +kernel) rfl) (gt_of 637 (by decide +kernel) rfl) (gt_of 638 (by decide +kernel) rfl) (gt_of 196 (by decide +kernel) rfl) (gt_of 639 (by decide +kernel) rfl)
theorem gl_X10_feed : GoodIn GT (wsV RL 32 RX10 yX10_feed (.code yX10_feed cX10_feed 6 (some .int) :: GT)) := gt_V (gt_of 1487 (by decide +kernel) rfl) (gt_of 1488 (by decide +kernel) rfl) (gt_of 1489 (by decide +kernel) rfl) (gt_of 208 (by decide +kernel) rfl) (gt_of 1490 (by decide +kernel) rfl)
theorem gl_X9_end : GoodIn GT (wsV RL 33 RX9 yX9_end (.code yX9_end cX9_end 2 (some .boolean) :: GT)) := gt_V (gt_of 649 (by decide +kernel) rfl) (gt_of 650 (by decide +kernel) rfl) (gt_of 651 (by decide +kernel) rfl) (gt_of 196 (by decide +kernel) rfl) (gt_of 652 (by decide +kernel) rfl)
theorem gl_X10_end : GoodIn GT (wsV RL 37 RX10 yX10_end (.code yX10_end cX10_end 2 (some .boolean) :: GT)) := gt_V (gt_of 1495 (by decide +kernel) rfl) (gt_of 1496 (by decide +kernel) rfl) (gt_of 1497 (by decide +kernel) rfl) (gt_of 208 (by decide +kernel) rfl) (gt_of 1498 (by decide +kernel) rfl)
theorem gl_X9_text : GoodIn GT (wsV RL 38 RX9 yX9_text (.code yX9_text cX9_text 3 (some .int) :: GT)) := gt_V (gt_of 653 (by decide +kernel) rfl) (gt_of 654 (by decide +kernel) rfl) (gt_of 655 (by decide +kernel) rfl) (gt_of 196 (by decide +kernel) rfl) (gt_of 656 (by decide +kernel) rfl)
theorem gl_X10_text : GoodIn GT (wsV RL 41 RX10 yX10_text (.code yX10_text cX10_text 3 (some .int) :: GT)) := gt_V (gt_of 1499 (by decide +kernel) rfl) (gt_of 1500 (by decide +kernel) rfl) (gt_of 1501 (by decide +kernel) rfl) (gt_of 208 (by decide +kernel) rfl) (gt_of 1502 (by decide +kernel) rfl)
theorem gl_X9_fault : GoodIn GT (wsV RL 42 RX9 yX9_fault (.code yX9_fault cX9_fault 2 (some .int) :: GT)) := gt_V (gt_of 900 (by decide +kernel) rfl) (gt_of 901 (by decide +kernel) rfl) (gt_of 902 (by decide +kernel) rfl) (gt_of 196 (by decide +kernel) rfl) (gt_of 903 (by decide +kernel) rfl)
theorem gl_X10_fault : GoodIn GT (wsV RL 45 RX10 yX10_fault (.code yX10_fault cX10_fault 2 (some .int) :: GT)) := gt_V (gt_of 1647 (by decide +kernel) rfl) (gt_of 1648 (by decide +kernel) rfl) (gt_of 1649 (by decide +kernel) rfl) (gt_of 208 (by decide +kernel) rfl) (gt_of 1650 (by decide +kernel) rfl)
theorem gl_X9_sow : GoodIn GT (wsV RL 46 RX9 yX9_sow (.code yX9_sow cX9_sow 3 (some .boolean) :: GT)) := gt_V (gt_of 904 (by decide +kernel) rfl) (gt_of 905 (by decide +kernel) rfl) (gt_of 906 (by decide +kernel) rfl) (gt_of 196 (by decide +kernel) rfl) (gt_of 907 (by decide +kernel) rfl)
theorem gl_X10_sow : GoodIn GT (wsV RL 49 RX10 yX10_sow (.code yX10_sow cX10_sow 3 (some .boolean) :: GT)) := gt_V (gt_of 1651 (by decide +kernel) rfl) (gt_of 1652 (by decide +kernel) rfl) (gt_of 1653 (by decide +kernel) rfl) (gt_of 208 (by decide +kernel) rfl) (gt_of 1654 (by decide +kernel) rfl)
theorem gl_X9_weed : GoodIn GT (wsV RL 50 RX9 yX9_weed (.code yX9_weed cX9_weed 2 (some .boolean) :: GT)) := gt_V (gt_of 944 (by decide +kernel) rfl) (gt_of 945 (by decide +kernel) rfl) (gt_of 946 (by decide +kernel) rfl) (gt_of 196 (by decide +kernel) rfl) (gt_of 947 (by decide +kernel) rfl)
theorem gl_X10_weed : GoodIn GT (wsV RL 53 RX10 yX10_weed (.code yX10_weed cX10_weed 2 (some .boolean) :: GT)) := gt_V (gt_of 1671 (by decide +kernel) rfl) (gt_of 1672 (by decide +kernel) rfl) (gt_of 1673 (by decide +kernel) rfl) (gt_of 208 (by decide +kernel) rfl) (gt_of 1674 (by decide +kernel) rfl)
theorem gl_X9_turn : GoodIn GT (wsV RL 54 RX9 yX9_turn (.code yX9_turn cX9_turn 2 (some .boolean) :: GT)) := gt_V (gt_of 959 (by decide +kernel) rfl) (gt_of 960 (by decide +kernel) rfl) (gt_of 961 (by decide +kernel) rfl) (gt_of 196 (by decide +kernel) rfl) (gt_of 962 (by decide +kernel) rfl)
theorem gl_X10_turn : GoodIn GT (wsV RL 57 RX10 yX10_turn (.code yX10_turn cX10_turn 2 (some .boolean) :: GT)) := gt_V (gt_of 1683 (by decide +kernel) rfl) (gt_of 1684 (by decide +kernel) rfl) (gt_of 1685 (by decide +kernel) rfl) (gt_of 208 (by decide +kernel) rfl) (gt_of 1686 (by decide +kernel) rfl)
theorem gl_X9_days : GoodIn GT (wsV RL 58 RX9 yX9_days (.code yX9_days cX9_days 4 (some .int) :: GT)) := gt_V (gt_of 972 (by decide +kernel) rfl) (gt_of 973 (by decide +kernel) rfl) (gt_of 974 (by decide +kernel) rfl) (gt_of 196 (by decide +kernel) rfl) (gt_of 975 (by decide +kernel) rfl)
theorem gl_X10_days : GoodIn GT (wsV RL 61 RX10 yX10_days (.code yX10_days cX10_days 4 (some .int) :: GT)) := gt_V (gt_of 1695 (by decide +kernel) rfl) (gt_of 1696 (by decide +kernel) rfl) (gt_of 1697 (by decide +kernel) rfl) (gt_of 208 (by decide +kernel) rfl) (gt_of 1698 (by decide +kernel) rfl)
theorem gl_X9_at : GoodIn GT (wsV RL 62 RX9 yX9_at (.code yX9_at cX9_at 5 (some .int) :: GT)) := gt_V (gt_of 1078 (by decide +kernel) rfl) (gt_of 1079 (by decide +kernel) rfl) (gt_of 1080 (by decide +kernel) rfl) (gt_of 196 (by decide +kernel) rfl) (gt_of 1081 (by decide +kernel) rfl)
theorem gl_X10_at : GoodIn GT (wsV RL 66 RX10 yX10_at (.code yX10_at cX10_at 3 (some .int) :: GT)) := gt_V (gt_of 1805 (by decide +kernel) rfl) (gt_of 1806 (by decide +kernel) rfl) (gt_of 1807 (by decide +kernel) rfl) (gt_of 208 (by decide +kernel) rfl) (gt_of 1808 (by decide +kernel) rfl)
theorem gl_X9_kind : GoodIn GT (wsV RL 67 RX9 yX9_kind (.code yX9_kind cX9_kind 3 (some .int) :: GT)) := gt_V (gt_of 1087 (by decide +kernel) rfl) (gt_of 1088 (by decide +kernel) rfl) (gt_of 1089 (by decide +kernel) rfl) (gt_of 196 (by decide +kernel) rfl) (gt_of 1090 (by decide +kernel) rfl)
theorem gl_X10_kind : GoodIn GT (wsV RL 70 RX10 yX10_kind (.code yX10_kind cX10_kind 3 (some .int) :: GT)) := gt_V (gt_of 1809 (by decide +kernel) rfl) (gt_of 1810 (by decide +kernel) rfl) (gt_of 1811 (by decide +kernel) rfl) (gt_of 208 (by decide +kernel) rfl) (gt_of 1812 (by decide +kernel) rfl)
theorem gl_X9_cross : GoodIn GT (wsV RL 71 RX9 yX9_cross (.code yX9_cross cX9_cross 3 (some .int) :: GT)) := gt_V (gt_of 1096 (by decide +kernel) rfl) (gt_of 1097 (by decide +kernel) rfl) (gt_of 1098 (by decide +kernel) rfl) (gt_of 196 (by decide +kernel) rfl) (gt_of 1099 (by decide +kernel) rfl)
theorem gl_X10_cross : GoodIn GT (wsV RL 74 RX10 yX10_cross (.code yX10_cross cX10_cross 3 (some .int) :: GT)) := gt_V (gt_of 1817 (by decide +kernel) rfl) (gt_of 1818 (by decide +kernel) rfl) (gt_of 1819 (by decide +kernel) rfl) (gt_of 208 (by decide +kernel) rfl) (gt_of 1820 (by decide +kernel) rfl)
theorem gl_X9_gust : GoodIn GT (wsV RL 75 RX9 yX9_gust (.code yX9_gust cX9_gust 4 (some .int) :: GT)) := gt_V (gt_of 1101 (by decide +kernel) rfl) (gt_of 1102 (by decide +kernel) rfl) (gt_of 1103 (by decide +kernel) rfl) (gt_of 196 (by decide +kernel) rfl) (gt_of 1104 (by decide +kernel) rfl)
theorem gl_X10_gust : GoodIn GT (wsV RL 79 RX10 yX10_gust (.code yX10_gust cX10_gust 4 (some .int) :: GT)) := gt_V (gt_of 1821 (by decide +kernel) rfl) (gt_of 1822 (by decide +kernel) rfl) (gt_of 1823 (by decide +kernel) rfl) (gt_of 208 (by decide +kernel) rfl) (gt_of 1824 (by decide +kernel) rfl)
theorem gl_X9_book : GoodIn GT (wsV RL 80 RX9 yX9_book (.code yX9_book cX9_book 3 (some .int) :: GT)) := gt_V (gt_of 1105 (by decide +kernel) rfl) (gt_of 1106 (by decide +kernel) rfl) (gt_of 1107 (by decide +kernel) rfl) (gt_of 196 (by decide +kernel) rfl) (gt_of 1108 (by decide +kernel) rfl)
theorem gl_X10_book : GoodIn GT (wsV RL 83 RX10 yX10_book (.code yX10_book cX10_book 3 (some .int) :: GT)) := gt_V (gt_of 1825 (by decide +kernel) rfl) (gt_of 1826 (by decide +kernel) rfl) (gt_of 1827 (by decide +kernel) rfl) (gt_of 208 (by decide +kernel) rfl) (gt_of 1828 (by decide +kernel) rfl)
theorem gl_X9_blows : GoodIn GT (wsV RL 84 RX9 yX9_blows (.code yX9_blows cX9_blows 2 (some .long) :: GT)) := gt_V (gt_of 1109 (by decide +kernel) rfl) (gt_of 1110 (by decide +kernel) rfl) (gt_of 1111 (by decide +kernel) rfl) (gt_of 196 (by decide +kernel) rfl) (gt_of 1112 (by decide +kernel) rfl)
theorem gl_X10_blows : GoodIn GT (wsV RL 88 RX10 yX10_blows (.code yX10_blows cX10_blows 4 (some .long) :: GT)) := gt_V (gt_of 1829 (by decide +kernel) rfl) (gt_of 1830 (by decide +kernel) rfl) (gt_of 1831 (by decide +kernel) rfl) (gt_of 208 (by decide +kernel) rfl) (gt_of 1832 (by decide +kernel) rfl)
theorem gl_X9_harms : GoodIn GT (wsV RL 89 RX9 yX9_harms (.code yX9_harms cX9_harms 2 (some .int) :: GT)) := gt_V (gt_of 1125 (by decide +kernel) rfl) (gt_of 1126 (by decide +kernel) rfl) (gt_of 1127 (by decide +kernel) rfl) (gt_of 196 (by decide +kernel) rfl) (gt_of 1128 (by decide +kernel) rfl)
theorem gl_X10_harms : GoodIn GT (wsV RL 92 RX10 yX10_harms (.code yX10_harms cX10_harms 3 (some .int) :: GT)) := gt_V (gt_of 1858 (by decide +kernel) rfl) (gt_of 1859 (by decide +kernel) rfl) (gt_of 1860 (by decide +kernel) rfl) (gt_of 208 (by decide +kernel) rfl) (gt_of 1861 (by decide +kernel) rfl)
theorem gl_X9_meets : GoodIn GT (wsV RL 93 RX9 yX9_meets (.code yX9_meets cX9_meets 2 (some .int) :: GT)) := gt_V (gt_of 1129 (by decide +kernel) rfl) (gt_of 1130 (by decide +kernel) rfl) (gt_of 1131 (by decide +kernel) rfl) (gt_of 196 (by decide +kernel) rfl) (gt_of 1132 (by decide +kernel) rfl)
theorem gl_X10_meets : GoodIn GT (wsV RL 96 RX10 yX10_meets (.code yX10_meets cX10_meets 6 (some .int) :: GT)) := gt_V (gt_of 1862 (by decide +kernel) rfl) (gt_of 1863 (by decide +kernel) rfl) (gt_of 1864 (by decide +kernel) rfl) (gt_of 208 (by decide +kernel) rfl) (gt_of 1865 (by decide +kernel) rfl)
theorem gl_X9_sows : GoodIn GT (wsV RL 97 RX9 yX9_sows (.code yX9_sows cX9_sows 4 (some .int) :: GT)) := gt_V (gt_of 1145 (by decide +kernel) rfl) (gt_of 1146 (by decide +kernel) rfl) (gt_of 1147 (by decide +kernel) rfl) (gt_of 196 (by decide +kernel) rfl) (gt_of 1148 (by decide +kernel) rfl)
theorem gl_X10_sows : GoodIn GT (wsV RL 100 RX10 yX10_sows (.code yX10_sows cX10_sows 7 (some .int) :: GT)) := gt_V (gt_of 1878 (by decide +kernel) rfl) (gt_of 1879 (by decide +kernel) rfl) (gt_of 1880 (by decide +kernel) rfl) (gt_of 208 (by decide +kernel) rfl) (gt_of 1881 (by decide +kernel) rfl)
theorem gl_X9_gets : GoodIn GT (wsV RL 101 RX9 yX9_gets (.code yX9_gets cX9_gets 4 (some .int) :: GT)) := gt_V (gt_of 1156 (by decide +kernel) rfl) (gt_of 1157 (by decide +kernel) rfl) (gt_of 1158 (by decide +kernel) rfl) (gt_of 196 (by decide +kernel) rfl) (gt_of 1159 (by decide +kernel) rfl)
theorem gl_X10_gets : GoodIn GT (wsV RL 104 RX10 yX10_gets (.code yX10_gets cX10_gets 6 (some .int) :: GT)) := gt_V (gt_of 1886 (by decide +kernel) rfl) (gt_of 1887 (by decide +kernel) rfl) (gt_of 1888 (by decide +kernel) rfl) (gt_of 208 (by decide +kernel) rfl) (gt_of 1889 (by decide +kernel) rfl)
theorem gl_X9_weeds : GoodIn GT (wsV RL 107 RX9 yX9_weeds (.code yX9_weeds cX9_weeds 7 (some .long) :: GT)) := gt_V (gt_of 1165 (by decide +kernel) rfl) (gt_of 1166 (by decide +kernel) rfl) (gt_of 1167 (by decide +kernel) rfl) (gt_of 196 (by decide +kernel) rfl) (gt_of 1168 (by decide +kernel) rfl)
theorem gl_X10_weeds : GoodIn GT (wsV RL 111 RX10 yX10_weeds (.code yX10_weeds cX10_weeds 10 (some .long) :: GT)) := gt_V (gt_of 1890 (by decide +kernel) rfl) (gt_of 1891 (by decide +kernel) rfl) (gt_of 1892 (by decide +kernel) rfl) (gt_of 208 (by decide +kernel) rfl) (gt_of 1893 (by decide +kernel) rfl)
theorem gl_X9_have : GoodIn GT (wsV RL 112 RX9 yX9_have (.code yX9_have cX9_have 4 (some .int) :: GT)) := gt_V (gt_of 1196 (by decide +kernel) rfl) (gt_of 1197 (by decide +kernel) rfl) (gt_of 1198 (by decide +kernel) rfl) (gt_of 196 (by decide +kernel) rfl) (gt_of 1199 (by decide +kernel) rfl)
theorem gl_X10_have : GoodIn GT (wsV RL 115 RX10 yX10_have (.code yX10_have cX10_have 3 (some .int) :: GT)) := gt_V (gt_of 1910 (by decide +kernel) rfl) (gt_of 1911 (by decide +kernel) rfl) (gt_of 1912 (by decide +kernel) rfl) (gt_of 208 (by decide +kernel) rfl) (gt_of 1913 (by decide +kernel) rfl)
theorem gl_X9_generations : GoodIn GT (wsV RL 116 RX9 yX9_generations (.code yX9_generations cX9_generations 5 (some .int) :: GT)) := gt_V (gt_of 1209 (by decide +kernel) rfl) (gt_of 1210 (by decide +kernel) rfl) (gt_of 1211 (by decide +kernel) rfl) (gt_of 196 (by decide +kernel) rfl) (gt_of 1212 (by decide +kernel) rfl)
theorem gl_X10_generations : GoodIn GT (wsV RL 119 RX10 yX10_generations (.code yX10_generations cX10_generations 5 (some .int) :: GT)) := gt_V (gt_of 1918 (by decide +kernel) rfl) (gt_of 1919 (by decide +kernel) rfl) (gt_of 1920 (by decide +kernel) rfl) (gt_of 208 (by decide +kernel) rfl) (gt_of 1921 (by decide +kernel) rfl)
theorem gl_X9_who : GoodIn GT (wsV RL 120 RX9 yX9_who (.code yX9_who cX9_who 7 (some .int) :: GT)) := gt_V (gt_of 1213 (by decide +kernel) rfl) (gt_of 1214 (by decide +kernel) rfl) (gt_of 1215 (by decide +kernel) rfl) (gt_of 196 (by decide +kernel) rfl) (gt_of 1216 (by decide +kernel) rfl)
theorem gl_X10_who : GoodIn GT (wsV RL 123 RX10 yX10_who (.code yX10_who cX10_who 4 (some .int) :: GT)) := gt_V (gt_of 1922 (by decide +kernel) rfl) (gt_of 1923 (by decide +kernel) rfl) (gt_of 1924 (by decide +kernel) rfl) (gt_of 208 (by decide +kernel) rfl) (gt_of 1925 (by decide +kernel) rfl)
theorem gl_X9_calm : GoodIn GT (wsV RL 124 RX9 yX9_calm (.code yX9_calm cX9_calm 4 (some .int) :: GT)) := gt_V (gt_of 1217 (by decide +kernel) rfl) (gt_of 1218 (by decide +kernel) rfl) (gt_of 1219 (by decide +kernel) rfl) (gt_of 196 (by decide +kernel) rfl) (gt_of 1220 (by decide +kernel) rfl)
theorem gl_X10_calm : GoodIn GT (wsV RL 127 RX10 yX10_calm (.code yX10_calm cX10_calm 8 (some .int) :: GT)) := gt_V (gt_of 1930 (by decide +kernel) rfl) (gt_of 1931 (by decide +kernel) rfl) (gt_of 1932 (by decide +kernel) rfl) (gt_of 208 (by decide +kernel) rfl) (gt_of 1933 (by decide +kernel) rfl)
theorem gl_X9_good : GoodIn GT (wsV RL 128 RX9 yX9_good (.code yX9_good cX9_good 5 (some .int) :: GT)) := gt_V (gt_of 1225 (by decide +kernel) rfl) (gt_of 1226 (by decide +kernel) rfl) (gt_of 1227 (by decide +kernel) rfl) (gt_of 196 (by decide +kernel) rfl) (gt_of 1228 (by decide +kernel) rfl)
theorem gl_X10_good : GoodIn GT (wsV RL 131 RX10 yX10_good (.code yX10_good cX10_good 3 (some .int) :: GT)) := gt_V (gt_of 1934 (by decide +kernel) rfl) (gt_of 1935 (by decide +kernel) rfl) (gt_of 1936 (by decide +kernel) rfl) (gt_of 208 (by decide +kernel) rfl) (gt_of 1937 (by decide +kernel) rfl)
theorem gl_X9_open : GoodIn GT (wsV RL 132 RX9 yX9_open (.code yX9_open cX9_open 10 (some .int) :: GT)) := gt_V (gt_of 1234 (by decide +kernel) rfl) (gt_of 1235 (by decide +kernel) rfl) (gt_of 1236 (by decide +kernel) rfl) (gt_of 196 (by decide +kernel) rfl) (gt_of 1237 (by decide +kernel) rfl)
theorem gl_X10_open : GoodIn GT (wsV RL 135 RX10 yX10_open (.code yX10_open cX10_open 9 (some .int) :: GT)) := gt_V (gt_of 1944 (by decide +kernel) rfl) (gt_of 1945 (by decide +kernel) rfl) (gt_of 1946 (by decide +kernel) rfl) (gt_of 208 (by decide +kernel) rfl) (gt_of 1947 (by decide +kernel) rfl)
theorem gl_X9_game : GoodIn GT (wsV RL 136 RX9 yX9_game (.code yX9_game cX9_game 5 (some .int) :: GT)) := gt_V (gt_of 1239 (by decide +kernel) rfl) (gt_of 1240 (by decide +kernel) rfl) (gt_of 1241 (by decide +kernel) rfl) (gt_of 196 (by decide +kernel) rfl) (gt_of 1242 (by decide +kernel) rfl)
theorem gl_X10_game : GoodIn GT (wsV RL 139 RX10 yX10_game (.code yX10_game cX10_game 4 (some .int) :: GT)) := gt_V (gt_of 1949 (by decide +kernel) rfl) (gt_of 1950 (by decide +kernel) rfl) (gt_of 1951 (by decide +kernel) rfl) (gt_of 208 (by decide +kernel) rfl) (gt_of 1952 (by decide +kernel) rfl)
theorem gl_X9_undo : GoodIn GT (wsV RL 140 RX9 yX9_undo (.code yX9_undo cX9_undo 1 (some .boolean) :: GT)) := gt_V (gt_of 1249 (by decide +kernel) rfl) (gt_of 1250 (by decide +kernel) rfl) (gt_of 1251 (by decide +kernel) rfl) (gt_of 196 (by decide +kernel) rfl) (gt_of 1252 (by decide +kernel) rfl)
theorem gl_X10_undo : GoodIn GT (wsV RL 144 RX10 yX10_undo (.code yX10_undo cX10_undo 2 (some .boolean) :: GT)) := gt_V (gt_of 1447 (by decide +kernel) rfl) (gt_of 1448 (by decide +kernel) rfl) (gt_of 1449 (by decide +kernel) rfl) (gt_of 208 (by decide +kernel) rfl) (gt_of 1450 (by decide +kernel) rfl)
theorem gl_X9_image : GoodIn GT (wsV RL 145 RX9 yX9_image (.code yX9_image cX9_image 2 (some .boolean) :: GT)) := gt_V (gt_of 1261 (by decide +kernel) rfl) (gt_of 1262 (by decide +kernel) rfl) (gt_of 1263 (by decide +kernel) rfl) (gt_of 196 (by decide +kernel) rfl) (gt_of 1264 (by decide +kernel) rfl)
theorem gl_X10_image : GoodIn GT (wsV RL 149 RX10 yX10_image (.code yX10_image cX10_image 3 (some .boolean) :: GT)) := gt_V (gt_of 1957 (by decide +kernel) rfl) (gt_of 1958 (by decide +kernel) rfl) (gt_of 1959 (by decide +kernel) rfl) (gt_of 208 (by decide +kernel) rfl) (gt_of 1960 (by decide +kernel) rfl)
theorem gl_X9_look : GoodIn GT (wsV RL 150 RX9 yX9_look (.code yX9_look cX9_look 2 (some .int) :: GT)) := gt_V (gt_of 1273 (by decide +kernel) rfl) (gt_of 1274 (by decide +kernel) rfl) (gt_of 1275 (by decide +kernel) rfl) (gt_of 196 (by decide +kernel) rfl) (gt_of 1276 (by decide +kernel) rfl)
theorem gl_X10_look : GoodIn GT (wsV RL 153 RX10 yX10_look (.code yX10_look cX10_look 2 (some .int) :: GT)) := gt_V (gt_of 1973 (by decide +kernel) rfl) (gt_of 1974 (by decide +kernel) rfl) (gt_of 1975 (by decide +kernel) rfl) (gt_of 208 (by decide +kernel) rfl) (gt_of 1976 (by decide +kernel) rfl)
def Sim_state (Rel : ST → ST → Prop) : Prop := ∀ (sc sm : ST) (x1 : Int32), Rel sc sm → ∃ (r : Int32) (sc' sm' : ST), (C_X9_state sc x1 = (r, sc')) ∧ (M_state sm x1 = (r, sm')) ∧ Rel sc' sm'
def Sim_land (Rel : ST → ST → Prop) : Prop := ∀ (sc sm : ST) (x1 : Int32) (x2 : Int32), Rel sc sm → ∃ (r : Int32) (sc' sm' : ST), (C_X9_land sc x1 x2 = some (r, sc')) ∧ (M_land sm x1 x2 = some (r, sm')) ∧ Rel sc' sm'
def Sim_set (Rel : ST → ST → Prop) : Prop := ∀ (sc sm : ST) (x1 : Int32) (x2 : Int32) (x3 : Int32), Rel sc sm → ∃ (r : Int32) (sc' sm' : ST), (C_X9_set sc x1 x2 x3 = some (r, sc')) ∧ (M_set sm x1 x2 x3 = some (r, sm')) ∧ Rel sc' sm'
def Sim_feed (Rel : ST → ST → Prop) : Prop := ∀ (sc sm : ST) (x1 : Int32) (x2 : Int32) (x3 : Int32) (x4 : Int32) (x5 : Int32), Rel sc sm → ∃ (r : Int32) (sc' sm' : ST), (C_X9_feed sc x1 x2 x3 x4 x5 = some (r, sc')) ∧ (M_feed sm x1 x2 x3 x4 x5 = some (r, sm')) ∧ Rel sc' sm'
def Sim_end (Rel : ST → ST → Prop) : Prop := ∀ (sc sm : ST) (x1 : Int32), Rel sc sm → ∃ (r : Int32) (sc' sm' : ST), (C_X9_end sc x1 = (r, sc')) ∧ (M_end sm x1 = (r, sm')) ∧ Rel sc' sm'
def Sim_text (Rel : ST → ST → Prop) : Prop := ∀ (sc sm : ST) (x1 : Int32), Rel sc sm → ∃ (r : Int32) (sc' sm' : ST), (C_X9_text sc x1 = some (r, sc')) ∧ (M_text sm x1 = some (r, sm')) ∧ Rel sc' sm'
def Sim_fault (Rel : ST → ST → Prop) : Prop := ∀ (sc sm : ST) (x1 : Int32), Rel sc sm → ∃ (r : Int32) (sc' sm' : ST), (C_X9_fault sc x1 = r ∧ sc' = sc) ∧ (M_fault sm x1 = (r, sm')) ∧ Rel sc' sm'
def Sim_sow (Rel : ST → ST → Prop) : Prop := ∀ (sc sm : ST) (x1 : Int32) (x2 : Int32), Rel sc sm → ∃ (r : Int32) (sc' sm' : ST), (C_X9_sow sc x1 x2 = some (r, sc')) ∧ (M_sow sm x1 x2 = some (r, sm')) ∧ Rel sc' sm'
def Sim_weed (Rel : ST → ST → Prop) : Prop := ∀ (sc sm : ST) (x1 : Int32), Rel sc sm → ∃ (r : Int32) (sc' sm' : ST), (C_X9_weed sc x1 = some (r, sc')) ∧ (M_weed sm x1 = some (r, sm')) ∧ Rel sc' sm'
def Sim_turn (Rel : ST → ST → Prop) : Prop := ∀ (sc sm : ST) (x1 : Int32), Rel sc sm → ∃ (r : Int32) (sc' sm' : ST), (C_X9_turn sc x1 = some (r, sc')) ∧ (M_turn sm x1 = some (r, sm')) ∧ Rel sc' sm'
def Sim_days (Rel : ST → ST → Prop) : Prop := ∀ (sc sm : ST) (x1 : Int32), Rel sc sm → ∃ (r : Int32) (sc' sm' : ST), (C_X9_days sc x1 = some (r, sc')) ∧ (M_days sm x1 = some (r, sm')) ∧ Rel sc' sm'
def Sim_at (Rel : ST → ST → Prop) : Prop := ∀ (sc sm : ST) (x1 : Int32) (x2 : Int32), Rel sc sm → ∃ (r : Int32) (sc' sm' : ST), (C_X9_at sc x1 x2 = some (r, sc')) ∧ (M_at sm x1 x2 = some (r, sm')) ∧ Rel sc' sm'
def Sim_kind (Rel : ST → ST → Prop) : Prop := ∀ (sc sm : ST) (x1 : Int32) (x2 : Int32), Rel sc sm → ∃ (r : Int32) (sc' sm' : ST), (C_X9_kind sc x1 x2 = some r ∧ sc' = sc) ∧ (M_kind sm x1 x2 = some (r, sm')) ∧ Rel sc' sm'
def Sim_cross (Rel : ST → ST → Prop) : Prop := ∀ (sc sm : ST) (x1 : Int32) (x2 : Int32), Rel sc sm → ∃ (r : Int32) (sc' sm' : ST), (C_X9_cross sc x1 x2 = some r ∧ sc' = sc) ∧ (M_cross sm x1 x2 = some (r, sm')) ∧ Rel sc' sm'
def Sim_gust (Rel : ST → ST → Prop) : Prop := ∀ (sc sm : ST) (x1 : Int32) (x2 : Int32) (x3 : Int32), Rel sc sm → ∃ (r : Int32) (sc' sm' : ST), (C_X9_gust sc x1 x2 x3 = some (r, sc')) ∧ (M_gust sm x1 x2 x3 = some (r, sm')) ∧ Rel sc' sm'
def Sim_book (Rel : ST → ST → Prop) : Prop := ∀ (sc sm : ST) (x1 : Int32) (x2 : Int32), Rel sc sm → ∃ (r : Int32) (sc' sm' : ST), (C_X9_book sc x1 x2 = some r ∧ sc' = sc) ∧ (M_book sm x1 x2 = some (r, sm')) ∧ Rel sc' sm'
def Sim_blows (Rel : ST → ST → Prop) : Prop := ∀ (sc sm : ST) (x1 : Int32), Rel sc sm → ∃ (r : Int64) (sc' sm' : ST), (C_X9_blows sc x1 = some (r, sc')) ∧ (M_blows sm x1 = some (r, sm')) ∧ Rel sc' sm'
def Sim_harms (Rel : ST → ST → Prop) : Prop := ∀ (sc sm : ST) (x1 : Int32), Rel sc sm → ∃ (r : Int32) (sc' sm' : ST), (C_X9_harms sc x1 = some (r, sc')) ∧ (M_harms sm x1 = some (r, sm')) ∧ Rel sc' sm'
def Sim_meets (Rel : ST → ST → Prop) : Prop := ∀ (sc sm : ST) (x1 : Int32), Rel sc sm → ∃ (r : Int32) (sc' sm' : ST), (C_X9_meets sc x1 = some (r, sc')) ∧ (M_meets sm x1 = some (r, sm')) ∧ Rel sc' sm'
def Sim_sows (Rel : ST → ST → Prop) : Prop := ∀ (sc sm : ST) (x1 : Int32) (x2 : Int32), Rel sc sm → ∃ (r : Int32) (sc' sm' : ST), (C_X9_sows sc x1 x2 = some (r, sc')) ∧ (M_sows sm x1 x2 = some (r, sm')) ∧ Rel sc' sm'
def Sim_gets (Rel : ST → ST → Prop) : Prop := ∀ (sc sm : ST) (x1 : Int32) (x2 : Int32) (x3 : Int32), Rel sc sm → ∃ (r : Int32) (sc' sm' : ST), (C_X9_gets sc x1 x2 x3 = some (r, sc')) ∧ (M_gets sm x1 x2 x3 = some (r, sm')) ∧ Rel sc' sm'
def Sim_weeds (Rel : ST → ST → Prop) : Prop := ∀ (sc sm : ST) (x1 : Int64) (x2 : Int32) (x3 : Int32), Rel sc sm → ∃ (r : Int64) (sc' sm' : ST), (C_X9_weeds sc x1 x2 x3 = some (r, sc')) ∧ (M_weeds sm x1 x2 x3 = some (r, sm')) ∧ Rel sc' sm'
def Sim_have (Rel : ST → ST → Prop) : Prop := ∀ (sc sm : ST) (x1 : Int32), Rel sc sm → ∃ (r : Int32) (sc' sm' : ST), (C_X9_have sc x1 = some r ∧ sc' = sc) ∧ (M_have sm x1 = some (r, sm')) ∧ Rel sc' sm'
def Sim_generations (Rel : ST → ST → Prop) : Prop := ∀ (sc sm : ST) (x1 : Int32) (x2 : Int32), Rel sc sm → ∃ (r : Int32) (sc' sm' : ST), (C_X9_generations sc x1 x2 = some r ∧ sc' = sc) ∧ (M_generations sm x1 x2 = some (r, sm')) ∧ Rel sc' sm'
def Sim_who (Rel : ST → ST → Prop) : Prop := ∀ (sc sm : ST) (x1 : Int32) (x2 : Int32) (x3 : Int32), Rel sc sm → ∃ (r : Int32) (sc' sm' : ST), (C_X9_who sc x1 x2 x3 = some (r, sc')) ∧ (M_who sm x1 x2 x3 = some (r, sm')) ∧ Rel sc' sm'
def Sim_calm (Rel : ST → ST → Prop) : Prop := ∀ (sc sm : ST) (x1 : Int32) (x2 : Int32) (x3 : Int32), Rel sc sm → ∃ (r : Int32) (sc' sm' : ST), (C_X9_calm sc x1 x2 x3 = some (r, sc')) ∧ (M_calm sm x1 x2 x3 = some (r, sm')) ∧ Rel sc' sm'
def Sim_good (Rel : ST → ST → Prop) : Prop := ∀ (sc sm : ST) (x1 : Int32) (x2 : Int32), Rel sc sm → ∃ (r : Int32) (sc' sm' : ST), (C_X9_good sc x1 x2 = some r ∧ sc' = sc) ∧ (M_good sm x1 x2 = some (r, sm')) ∧ Rel sc' sm'
def Sim_open (Rel : ST → ST → Prop) : Prop := ∀ (sc sm : ST) (x1 : Int32) (x2 : Int32), Rel sc sm → ∃ (r : Int32) (sc' sm' : ST), (C_X9_open sc x1 x2 = some r ∧ sc' = sc) ∧ (M_open sm x1 x2 = some (r, sm')) ∧ Rel sc' sm'
def Sim_game (Rel : ST → ST → Prop) : Prop := ∀ (sc sm : ST) (x1 : Int32), Rel sc sm → ∃ (r : Int32) (sc' sm' : ST), (C_X9_game sc x1 = some r ∧ sc' = sc) ∧ (M_game sm x1 = some (r, sm')) ∧ Rel sc' sm'
def Sim_undo (Rel : ST → ST → Prop) : Prop := ∀ (sc sm : ST), Rel sc sm → ∃ (r : Int32) (sc' sm' : ST), (C_X9_undo sc = some (r, sc')) ∧ (M_undo sm = some (r, sm')) ∧ Rel sc' sm'
def Sim_image (Rel : ST → ST → Prop) : Prop := ∀ (sc sm : ST) (x1 : Int32), Rel sc sm → (x1 = 0 ∨ x1 = 1) → ∃ (r : Int32) (sc' sm' : ST), (C_X9_image sc x1 = some (r, sc')) ∧ (M_image sm x1 = some (r, sm')) ∧ Rel sc' sm'
def Sim_look (Rel : ST → ST → Prop) : Prop := ∀ (sc sm : ST) (x1 : Int32), Rel sc sm → ∃ (r : Int32) (sc' sm' : ST), (C_X9_look sc x1 = r ∧ sc' = sc) ∧ (M_look sm x1 = some (r, sm')) ∧ Rel sc' sm'
theorem law_lt {L j : Nat} (hL : L ≤ 3072) (h : L < 6 * j + 6) (hj : 6 * j ≤ L + 6 := by omega) : Int32.ofNat L - 6 < nI (6 * j) := by
  rw [Int32.lt_iff_toInt_lt]
  have e1 : (Int32.ofNat L - 6).toInt = (L : Int) - 6 := by
    have h1 : (Int32.ofNat L).toInt = (L : Int) := nI_toInt (n := L) (by omega)
    rw [Int32.toInt_sub, h1]
    show ((L : Int) - 6).bmod (2 ^ 32) = _
    rw [Int.bmod_def]
    omega
  rw [e1, nI_toInt (by omega)]
  omega
theorem law_ge {L j : Nat} (hL : L ≤ 3072) (hj : 6 * j ≤ L + 6) (h : ¬ Int32.ofNat L - 6 < nI (6 * j)) : 6 * j + 6 ≤ L := by
  apply Nat.le_of_not_lt
  intro q
  exact h (law_lt hL (by omega))
theorem law_in {L j k : Nat} (hL : L ≤ 3072) (hj : 6 * j + 6 ≤ L) (hk : k < 6) : vp_in (nI (6 * j + k)) L := vp_in_nI (by omega) (by omega)
theorem law_in1 {L j k : Nat} (hL : L ≤ 3072) (hj : 6 * j + 6 ≤ L) (hk : k < 6) : vp_in (nI (6 * j) + nI k) L := by
  rw [nI_add]
  exact law_in hL hj hk
theorem law_inc (j : Nat) : nI (6 * j) + Int32.ofInt 6 = nI (6 * (j + 1)) := by
  show nI (6 * j) + nI 6 = _
  rw [nI_add]
  rfl
