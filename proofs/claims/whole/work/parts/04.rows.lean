section R
variable {K : KT} {p : Program} {l : Launch} {e : Env} {R : Room} {st : State} {m : MethodId} {args : Array Value} {below : List Frame} {meth : Method} {c : Code} {Q : State → Prop} {nL : Nat} {cc : ByteArray} {own : String} {s : ST} {pc q : Nat} {lv lv' : List (Nat × Value)} {rest : List Value}

theorem g_iconst (X : Cx K p st m args meth c cc nL own) {n : Int} {v : Int32} (d : decode cc pc = .ok (.iconst n, 1)) (hq : pc + 1 = q) (hv : Int32.ofInt n = v) (k : WG K p l e R st m args below meth c Q nL s q lv (.int v :: rest)) : WG K p l e R st m args below meth c Q nL s pc lv (rest) := by
  subst hq
  exact fun H locs ls w hl => lv_iconst X.1.1 X.1.2.1 d hv (k H locs ls w hl)
theorem g_bipush (X : Cx K p st m args meth c cc nL own) {n : Int} {v : Int32} (d : decode cc pc = .ok (.bipush n, 2)) (hq : pc + 2 = q) (hv : (Int8.ofInt n).toInt32 = v) (k : WG K p l e R st m args below meth c Q nL s q lv (.int v :: rest)) : WG K p l e R st m args below meth c Q nL s pc lv (rest) := by
  subst hq
  exact fun H locs ls w hl => lv_bipush X.1.1 X.1.2.1 d hv (k H locs ls w hl)
theorem g_sipush (X : Cx K p st m args meth c cc nL own) {n : Int} {v : Int32} (d : decode cc pc = .ok (.sipush n, 3)) (hq : pc + 3 = q) (hv : (Int16.ofInt n).toInt32 = v) (k : WG K p l e R st m args below meth c Q nL s q lv (.int v :: rest)) : WG K p l e R st m args below meth c Q nL s pc lv (rest) := by
  subst hq
  exact fun H locs ls w hl => lv_sipush X.1.1 X.1.2.1 d hv (k H locs ls w hl)
theorem g_lconst (X : Cx K p st m args meth c cc nL own) {n : Fin 2} {v : Int64} (d : decode cc pc = .ok (.lconst n, 1)) (hq : pc + 1 = q) (hv : Int64.ofNat (n : Nat) = v) (k : WG K p l e R st m args below meth c Q nL s q lv (.long v :: rest)) : WG K p l e R st m args below meth c Q nL s pc lv (rest) := by
  subst hq
  exact fun H locs ls w hl => lv_lconst X.1.1 X.1.2.1 d hv (k H locs ls w hl)
theorem g_iload_n (X : Cx K p st m args meth c cc nL own) {n : Fin 4} {x : Int32} (d : decode cc pc = .ok (.iload_n n, 1)) (hq : pc + 1 = q) (a : Nat) (ha : lv[a]? = some ((n : Nat), .int x)) (k : WG K p l e R st m args below meth c Q nL s q lv (.int x :: rest)) : WG K p l e R st m args below meth c Q nL s pc lv (rest) := by
  subst hq
  exact fun H locs ls w hl => lv_iload_n X.1.1 X.1.2.1 d rfl (lv_at hl a ha) (k H locs ls w hl)
theorem g_iload (X : Cx K p st m args meth c cc nL own) {n : Nat} {x : Int32} (d : decode cc pc = .ok (.iload n, 2)) (hq : pc + 2 = q) (a : Nat) (ha : lv[a]? = some (n, .int x)) (k : WG K p l e R st m args below meth c Q nL s q lv (.int x :: rest)) : WG K p l e R st m args below meth c Q nL s pc lv (rest) := by
  subst hq
  exact fun H locs ls w hl => lv_iload X.1.1 X.1.2.1 d (lv_at hl a ha) (k H locs ls w hl)
theorem g_istore_n (X : Cx K p st m args meth c cc nL own) {n : Fin 4} {x : Int32} (d : decode cc pc = .ok (.istore_n n, 1)) (hq : pc + 1 = q) (hn : (n : Nat) < nL) (hl' : ((n : Nat), Value.int x) :: lv.filter (fun q => !(q.1 == (n : Nat)) && !(q.1 + 1 == (n : Nat) && q.2.category == 2)) = lv') (k : WG K p l e R st m args below meth c Q nL s q lv' (rest)) : WG K p l e R st m args below meth c Q nL s pc lv (.int x :: rest) := by
  subst hq
  exact fun H locs ls w hl => lv_istore_n X.1.1 X.1.2.1 d rfl hl hn hl' (fun ls' h' => k H locs ls' w h')
theorem g_istore (X : Cx K p st m args meth c cc nL own) {n : Nat} {x : Int32} (d : decode cc pc = .ok (.istore n, 2)) (hq : pc + 2 = q) (hn : n < nL) (hl' : (n, Value.int x) :: lv.filter (fun q => !(q.1 == n) && !(q.1 + 1 == n && q.2.category == 2)) = lv') (k : WG K p l e R st m args below meth c Q nL s q lv' (rest)) : WG K p l e R st m args below meth c Q nL s pc lv (.int x :: rest) := by
  subst hq
  exact fun H locs ls w hl => lv_istore X.1.1 X.1.2.1 d hl hn hl' (fun ls' h' => k H locs ls' w h')
theorem g_lload_n (X : Cx K p st m args meth c cc nL own) {n : Fin 4} {x : Int64} (d : decode cc pc = .ok (.lload_n n, 1)) (hq : pc + 1 = q) (a : Nat) (ha : lv[a]? = some ((n : Nat), .long x)) (k : WG K p l e R st m args below meth c Q nL s q lv (.long x :: rest)) : WG K p l e R st m args below meth c Q nL s pc lv (rest) := by
  subst hq
  exact fun H locs ls w hl => lv_lload_n X.1.1 X.1.2.1 d rfl (lv_at hl a ha) (k H locs ls w hl)
theorem g_lload (X : Cx K p st m args meth c cc nL own) {n : Nat} {x : Int64} (d : decode cc pc = .ok (.lload n, 2)) (hq : pc + 2 = q) (a : Nat) (ha : lv[a]? = some (n, .long x)) (k : WG K p l e R st m args below meth c Q nL s q lv (.long x :: rest)) : WG K p l e R st m args below meth c Q nL s pc lv (rest) := by
  subst hq
  exact fun H locs ls w hl => lv_lload X.1.1 X.1.2.1 d (lv_at hl a ha) (k H locs ls w hl)
theorem g_lstore_n (X : Cx K p st m args meth c cc nL own) {n : Fin 4} {x : Int64} (d : decode cc pc = .ok (.lstore_n n, 1)) (hq : pc + 1 = q) (hn : (n : Nat) + 1 < nL) (hl' : ((n : Nat), Value.long x) :: lv.filter (fun q => !(q.1 == (n : Nat)) && (!(q.1 == (n : Nat) + 1) && !(q.1 + 1 == (n : Nat) && q.2.category == 2))) = lv') (k : WG K p l e R st m args below meth c Q nL s q lv' (rest)) : WG K p l e R st m args below meth c Q nL s pc lv (.long x :: rest) := by
  subst hq
  exact fun H locs ls w hl => lv_lstore_n X.1.1 X.1.2.1 d rfl hl hn hl' (fun ls' h' => k H locs ls' w h')
theorem g_lstore (X : Cx K p st m args meth c cc nL own) {n : Nat} {x : Int64} (d : decode cc pc = .ok (.lstore n, 2)) (hq : pc + 2 = q) (hn : n + 1 < nL) (hl' : (n, Value.long x) :: lv.filter (fun q => !(q.1 == n) && (!(q.1 == n + 1) && !(q.1 + 1 == n && q.2.category == 2))) = lv') (k : WG K p l e R st m args below meth c Q nL s q lv' (rest)) : WG K p l e R st m args below meth c Q nL s pc lv (.long x :: rest) := by
  subst hq
  exact fun H locs ls w hl => lv_lstore X.1.1 X.1.2.1 d hl hn hl' (fun ls' h' => k H locs ls' w h')
theorem g_aload_n (X : Cx K p st m args meth c cc nL own) {n : Fin 4} {x : Nat} (d : decode cc pc = .ok (.aload_n n, 1)) (hq : pc + 1 = q) (a : Nat) (ha : lv[a]? = some ((n : Nat), .ref x)) (k : WG K p l e R st m args below meth c Q nL s q lv (.ref x :: rest)) : WG K p l e R st m args below meth c Q nL s pc lv (rest) := by
  subst hq
  exact fun H locs ls w hl => lv_aload_n X.1.1 X.1.2.1 d rfl (lv_at hl a ha) (k H locs ls w hl)
theorem g_aload (X : Cx K p st m args meth c cc nL own) {n : Nat} {x : Nat} (d : decode cc pc = .ok (.aload n, 2)) (hq : pc + 2 = q) (a : Nat) (ha : lv[a]? = some (n, .ref x)) (k : WG K p l e R st m args below meth c Q nL s q lv (.ref x :: rest)) : WG K p l e R st m args below meth c Q nL s pc lv (rest) := by
  subst hq
  exact fun H locs ls w hl => lv_aload X.1.1 X.1.2.1 d (lv_at hl a ha) (k H locs ls w hl)
theorem g_astore_n (X : Cx K p st m args meth c cc nL own) {n : Fin 4} {x : Nat} (d : decode cc pc = .ok (.astore_n n, 1)) (hq : pc + 1 = q) (hn : (n : Nat) < nL) (hl' : ((n : Nat), Value.ref x) :: lv.filter (fun q => !(q.1 == (n : Nat)) && !(q.1 + 1 == (n : Nat) && q.2.category == 2)) = lv') (k : WG K p l e R st m args below meth c Q nL s q lv' (rest)) : WG K p l e R st m args below meth c Q nL s pc lv (.ref x :: rest) := by
  subst hq
  exact fun H locs ls w hl => lv_astore_n X.1.1 X.1.2.1 d rfl hl hn hl' (fun ls' h' => k H locs ls' w h')
theorem g_astore (X : Cx K p st m args meth c cc nL own) {n : Nat} {x : Nat} (d : decode cc pc = .ok (.astore n, 2)) (hq : pc + 2 = q) (hn : n < nL) (hl' : (n, Value.ref x) :: lv.filter (fun q => !(q.1 == n) && !(q.1 + 1 == n && q.2.category == 2)) = lv') (k : WG K p l e R st m args below meth c Q nL s q lv' (rest)) : WG K p l e R st m args below meth c Q nL s pc lv (.ref x :: rest) := by
  subst hq
  exact fun H locs ls w hl => lv_astore X.1.1 X.1.2.1 d hl hn hl' (fun ls' h' => k H locs ls' w h')
theorem g_iinc (X : Cx K p st m args meth c cc nL own) {i : Nat} {n : Int} {x v : Int32} (d : decode cc pc = .ok (.iinc i n, 3)) (hq : pc + 3 = q) (a : Nat) (ha : lv[a]? = some (i, .int x)) (hv : x + Int32.ofInt n = v) (hn : i < nL) (hl' : (i, Value.int v) :: lv.filter (fun q => !(q.1 == i) && !(q.1 + 1 == i && q.2.category == 2)) = lv') (k : WG K p l e R st m args below meth c Q nL s q lv' (rest)) : WG K p l e R st m args below meth c Q nL s pc lv (rest) := by
  subst hq
  exact fun H locs ls w hl => lv_iinc X.1.1 X.1.2.1 d hl ha hv hn hl' (fun ls' h' => k H locs ls' w h')
theorem g_iadd (X : Cx K p st m args meth c cc nL own) {x y : Int32} (d : decode cc pc = .ok (.iadd, 1)) (hq : pc + 1 = q)  (k : WG K p l e R st m args below meth c Q nL s q lv (.int (x + y) :: rest)) : WG K p l e R st m args below meth c Q nL s pc lv (.int y :: .int x :: rest) := by
  subst hq
  exact fun H locs ls w hl => lv_iadd X.1.1 X.1.2.1 d  (k H locs ls w hl)
theorem g_isub (X : Cx K p st m args meth c cc nL own) {x y : Int32} (d : decode cc pc = .ok (.isub, 1)) (hq : pc + 1 = q)  (k : WG K p l e R st m args below meth c Q nL s q lv (.int (x - y) :: rest)) : WG K p l e R st m args below meth c Q nL s pc lv (.int y :: .int x :: rest) := by
  subst hq
  exact fun H locs ls w hl => lv_isub X.1.1 X.1.2.1 d  (k H locs ls w hl)
theorem g_imul (X : Cx K p st m args meth c cc nL own) {x y : Int32} (d : decode cc pc = .ok (.imul, 1)) (hq : pc + 1 = q)  (k : WG K p l e R st m args below meth c Q nL s q lv (.int (x * y) :: rest)) : WG K p l e R st m args below meth c Q nL s pc lv (.int y :: .int x :: rest) := by
  subst hq
  exact fun H locs ls w hl => lv_imul X.1.1 X.1.2.1 d  (k H locs ls w hl)
theorem g_iand (X : Cx K p st m args meth c cc nL own) {x y : Int32} (d : decode cc pc = .ok (.iand, 1)) (hq : pc + 1 = q)  (k : WG K p l e R st m args below meth c Q nL s q lv (.int (x &&& y) :: rest)) : WG K p l e R st m args below meth c Q nL s pc lv (.int y :: .int x :: rest) := by
  subst hq
  exact fun H locs ls w hl => lv_iand X.1.1 X.1.2.1 d  (k H locs ls w hl)
theorem g_ior (X : Cx K p st m args meth c cc nL own) {x y : Int32} (d : decode cc pc = .ok (.ior, 1)) (hq : pc + 1 = q)  (k : WG K p l e R st m args below meth c Q nL s q lv (.int (x ||| y) :: rest)) : WG K p l e R st m args below meth c Q nL s pc lv (.int y :: .int x :: rest) := by
  subst hq
  exact fun H locs ls w hl => lv_ior X.1.1 X.1.2.1 d  (k H locs ls w hl)
theorem g_ixor (X : Cx K p st m args meth c cc nL own) {x y : Int32} (d : decode cc pc = .ok (.ixor, 1)) (hq : pc + 1 = q)  (k : WG K p l e R st m args below meth c Q nL s q lv (.int (x ^^^ y) :: rest)) : WG K p l e R st m args below meth c Q nL s pc lv (.int y :: .int x :: rest) := by
  subst hq
  exact fun H locs ls w hl => lv_ixor X.1.1 X.1.2.1 d  (k H locs ls w hl)
theorem g_ishl (X : Cx K p st m args meth c cc nL own) {x y : Int32} (d : decode cc pc = .ok (.ishl, 1)) (hq : pc + 1 = q)  (k : WG K p l e R st m args below meth c Q nL s q lv (.int (x <<< (y &&& 31)) :: rest)) : WG K p l e R st m args below meth c Q nL s pc lv (.int y :: .int x :: rest) := by
  subst hq
  exact fun H locs ls w hl => lv_ishl X.1.1 X.1.2.1 d  (k H locs ls w hl)
theorem g_ishr (X : Cx K p st m args meth c cc nL own) {x y : Int32} (d : decode cc pc = .ok (.ishr, 1)) (hq : pc + 1 = q)  (k : WG K p l e R st m args below meth c Q nL s q lv (.int (x >>> (y &&& 31)) :: rest)) : WG K p l e R st m args below meth c Q nL s pc lv (.int y :: .int x :: rest) := by
  subst hq
  exact fun H locs ls w hl => lv_ishr X.1.1 X.1.2.1 d  (k H locs ls w hl)
theorem g_ladd (X : Cx K p st m args meth c cc nL own) {x y : Int64} (d : decode cc pc = .ok (.ladd, 1)) (hq : pc + 1 = q)  (k : WG K p l e R st m args below meth c Q nL s q lv (.long (x + y) :: rest)) : WG K p l e R st m args below meth c Q nL s pc lv (.long y :: .long x :: rest) := by
  subst hq
  exact fun H locs ls w hl => lv_ladd X.1.1 X.1.2.1 d  (k H locs ls w hl)
theorem g_lsub (X : Cx K p st m args meth c cc nL own) {x y : Int64} (d : decode cc pc = .ok (.lsub, 1)) (hq : pc + 1 = q)  (k : WG K p l e R st m args below meth c Q nL s q lv (.long (x - y) :: rest)) : WG K p l e R st m args below meth c Q nL s pc lv (.long y :: .long x :: rest) := by
  subst hq
  exact fun H locs ls w hl => lv_lsub X.1.1 X.1.2.1 d  (k H locs ls w hl)
theorem g_lmul (X : Cx K p st m args meth c cc nL own) {x y : Int64} (d : decode cc pc = .ok (.lmul, 1)) (hq : pc + 1 = q)  (k : WG K p l e R st m args below meth c Q nL s q lv (.long (x * y) :: rest)) : WG K p l e R st m args below meth c Q nL s pc lv (.long y :: .long x :: rest) := by
  subst hq
  exact fun H locs ls w hl => lv_lmul X.1.1 X.1.2.1 d  (k H locs ls w hl)
theorem g_land (X : Cx K p st m args meth c cc nL own) {x y : Int64} (d : decode cc pc = .ok (.land, 1)) (hq : pc + 1 = q)  (k : WG K p l e R st m args below meth c Q nL s q lv (.long (x &&& y) :: rest)) : WG K p l e R st m args below meth c Q nL s pc lv (.long y :: .long x :: rest) := by
  subst hq
  exact fun H locs ls w hl => lv_land X.1.1 X.1.2.1 d  (k H locs ls w hl)
theorem g_lor (X : Cx K p st m args meth c cc nL own) {x y : Int64} (d : decode cc pc = .ok (.lor, 1)) (hq : pc + 1 = q)  (k : WG K p l e R st m args below meth c Q nL s q lv (.long (x ||| y) :: rest)) : WG K p l e R st m args below meth c Q nL s pc lv (.long y :: .long x :: rest) := by
  subst hq
  exact fun H locs ls w hl => lv_lor X.1.1 X.1.2.1 d  (k H locs ls w hl)
theorem g_lxor (X : Cx K p st m args meth c cc nL own) {x y : Int64} (d : decode cc pc = .ok (.lxor, 1)) (hq : pc + 1 = q)  (k : WG K p l e R st m args below meth c Q nL s q lv (.long (x ^^^ y) :: rest)) : WG K p l e R st m args below meth c Q nL s pc lv (.long y :: .long x :: rest) := by
  subst hq
  exact fun H locs ls w hl => lv_lxor X.1.1 X.1.2.1 d  (k H locs ls w hl)
theorem g_idiv (X : Cx K p st m args meth c cc nL own) {x y : Int32} (d : decode cc pc = .ok (.idiv, 1)) (hq : pc + 1 = q) (hne : ¬ y = 0) (k : WG K p l e R st m args below meth c Q nL s q lv (.int (x / y) :: rest)) : WG K p l e R st m args below meth c Q nL s pc lv (.int y :: .int x :: rest) := by
  subst hq
  exact fun H locs ls w hl => lv_idiv X.1.1 X.1.2.1 d hne (k H locs ls w hl)
def irm (x y : Int32) : Int32 := x - x / y * y
theorem g_irem (X : Cx K p st m args meth c cc nL own) {x y : Int32} (d : decode cc pc = .ok (.irem, 1)) (hq : pc + 1 = q) (hne : ¬ y = 0) (k : WG K p l e R st m args below meth c Q nL s q lv (.int (irm x y) :: rest)) : WG K p l e R st m args below meth c Q nL s pc lv (.int y :: .int x :: rest) := by
  subst hq
  exact fun H locs ls w hl => lv_irem X.1.1 X.1.2.1 d hne (k H locs ls w hl)
theorem g_ldiv (X : Cx K p st m args meth c cc nL own) {x y : Int64} (d : decode cc pc = .ok (.ldiv, 1)) (hq : pc + 1 = q) (hne : ¬ y = 0) (k : WG K p l e R st m args below meth c Q nL s q lv (.long (x / y) :: rest)) : WG K p l e R st m args below meth c Q nL s pc lv (.long y :: .long x :: rest) := by
  subst hq
  exact fun H locs ls w hl => lv_ldiv X.1.1 X.1.2.1 d hne (k H locs ls w hl)
theorem g_ineg (X : Cx K p st m args meth c cc nL own) {x : Int32} (d : decode cc pc = .ok (.ineg, 1)) (hq : pc + 1 = q)  (k : WG K p l e R st m args below meth c Q nL s q lv (.int (-x) :: rest)) : WG K p l e R st m args below meth c Q nL s pc lv (.int x :: rest) := by
  subst hq
  exact fun H locs ls w hl => lv_ineg X.1.1 X.1.2.1 d  (k H locs ls w hl)
def iush (x y : Int32) : Int32 := (x.toUInt32 >>> (y.toUInt32 &&& Int32.toUInt32 31)).toInt32
def lush (x : Int64) (y : Int32) : Int64 := (x.toUInt64 >>> (y.toInt64.toUInt64 &&& Int64.toUInt64 63)).toInt64
def i2ch (x : Int32) : Int32 := (x.toUInt32 % 65536).toInt32
theorem g_i2l (X : Cx K p st m args meth c cc nL own) {x : Int32} (d : decode cc pc = .ok (.i2l, 1)) (hq : pc + 1 = q)  (k : WG K p l e R st m args below meth c Q nL s q lv (.long x.toInt64 :: rest)) : WG K p l e R st m args below meth c Q nL s pc lv (.int x :: rest) := by
  subst hq
  exact fun H locs ls w hl => lv_i2l X.1.1 X.1.2.1 d rfl (k H locs ls w hl)
theorem g_l2i (X : Cx K p st m args meth c cc nL own) {x : Int64} (d : decode cc pc = .ok (.l2i, 1)) (hq : pc + 1 = q)  (k : WG K p l e R st m args below meth c Q nL s q lv (.int x.toInt32 :: rest)) : WG K p l e R st m args below meth c Q nL s pc lv (.long x :: rest) := by
  subst hq
  exact fun H locs ls w hl => lv_l2i X.1.1 X.1.2.1 d rfl (k H locs ls w hl)
theorem g_i2c (X : Cx K p st m args meth c cc nL own) {x : Int32} (d : decode cc pc = .ok (.i2c, 1)) (hq : pc + 1 = q)  (k : WG K p l e R st m args below meth c Q nL s q lv (.int (i2ch x) :: rest)) : WG K p l e R st m args below meth c Q nL s pc lv (.int x :: rest) := by
  subst hq
  exact fun H locs ls w hl => lv_i2c X.1.1 X.1.2.1 d rfl (k H locs ls w hl)
theorem g_iushr (X : Cx K p st m args meth c cc nL own) {x y : Int32} (d : decode cc pc = .ok (.iushr, 1)) (hq : pc + 1 = q)  (k : WG K p l e R st m args below meth c Q nL s q lv (.int (iush x y) :: rest)) : WG K p l e R st m args below meth c Q nL s pc lv (.int y :: .int x :: rest) := by
  subst hq
  exact fun H locs ls w hl => lv_iushr X.1.1 X.1.2.1 d rfl (k H locs ls w hl)
theorem g_lushr (X : Cx K p st m args meth c cc nL own) {x : Int64} {y : Int32} (d : decode cc pc = .ok (.lushr, 1)) (hq : pc + 1 = q)  (k : WG K p l e R st m args below meth c Q nL s q lv (.long (lush x y) :: rest)) : WG K p l e R st m args below meth c Q nL s pc lv (.int y :: .long x :: rest) := by
  subst hq
  exact fun H locs ls w hl => lv_lushr X.1.1 X.1.2.1 d rfl (k H locs ls w hl)
theorem g_lshl (X : Cx K p st m args meth c cc nL own) {x : Int64} {y : Int32} (d : decode cc pc = .ok (.lshl, 1)) (hq : pc + 1 = q)  (k : WG K p l e R st m args below meth c Q nL s q lv (.long (x <<< (y.toInt64 &&& 63)) :: rest)) : WG K p l e R st m args below meth c Q nL s pc lv (.int y :: .long x :: rest) := by
  subst hq
  exact fun H locs ls w hl => lv_lshl X.1.1 X.1.2.1 d rfl (k H locs ls w hl)
theorem g_lcmp (X : Cx K p st m args meth c cc nL own) {x y : Int64} (d : decode cc pc = .ok (.lcmp, 1)) (hq : pc + 1 = q)  (k : WG K p l e R st m args below meth c Q nL s q lv (.int (lg_cmp x y) :: rest)) : WG K p l e R st m args below meth c Q nL s pc lv (.long y :: .long x :: rest) := by
  subst hq
  exact fun H locs ls w hl => W.lcmp X.1.1 X.1.2.1 d (k H locs ls w hl)
theorem g_dup (X : Cx K p st m args meth c cc nL own) {v : Value} (d : decode cc pc = .ok (.dup, 1)) (hq : pc + 1 = q) (hv : v.category = 1) (k : WG K p l e R st m args below meth c Q nL s q lv (v :: v :: rest)) : WG K p l e R st m args below meth c Q nL s pc lv (v :: rest) := by
  subst hq
  exact fun H locs ls w hl => lv_dup X.1.1 X.1.2.1 d hv (k H locs ls w hl)
theorem g_pop (X : Cx K p st m args meth c cc nL own) {v : Value} (d : decode cc pc = .ok (.pop, 1)) (hq : pc + 1 = q) (hv : v.category = 1) (k : WG K p l e R st m args below meth c Q nL s q lv (rest)) : WG K p l e R st m args below meth c Q nL s pc lv (v :: rest) := by
  subst hq
  exact fun H locs ls w hl => lv_pop X.1.1 X.1.2.1 d hv (k H locs ls w hl)
theorem g_dup_x1 (X : Cx K p st m args meth c cc nL own) {v u : Value} (d : decode cc pc = .ok (.dup_x1, 1)) (hq : pc + 1 = q) (hv : v.category = 1) (hu : u.category = 1) (k : WG K p l e R st m args below meth c Q nL s q lv (v :: u :: v :: rest)) : WG K p l e R st m args below meth c Q nL s pc lv (v :: u :: rest) := by
  subst hq
  exact fun H locs ls w hl => lv_dup_x1 X.1.1 X.1.2.1 d hv hu (k H locs ls w hl)
theorem g_dup2 (X : Cx K p st m args meth c cc nL own) {v u : Value} (d : decode cc pc = .ok (.dup2, 1)) (hq : pc + 1 = q) (hv : v.category = 1) (hu : u.category = 1) (k : WG K p l e R st m args below meth c Q nL s q lv (v :: u :: v :: u :: rest)) : WG K p l e R st m args below meth c Q nL s pc lv (v :: u :: rest) := by
  subst hq
  exact fun H locs ls w hl => lv_dup2_11 X.1.1 X.1.2.1 d hv hu (k H locs ls w hl)
theorem g_null (X : Cx K p st m args meth c cc nL own)  (d : decode cc pc = .ok (.aconst_null, 1)) (hq : pc + 1 = q)  (k : WG K p l e R st m args below meth c Q nL s q lv (.null :: rest)) : WG K p l e R st m args below meth c Q nL s pc lv (rest) := by
  subst hq
  exact fun H locs ls w hl => lv_null X.1.1 X.1.2.1 d (k H locs ls w hl)
theorem g_ldc (X : Cx K p st m args meth c cc nL own) {v : Int32} {i : Nat} (d : decode cc pc = .ok (.ldc i, 2)) (hq : pc + 2 = q) (hc : Cond.constant own i v ∈ GT) (k : WG K p l e R st m args below meth c Q nL s q lv (.int v :: rest)) : WG K p l e R st m args below meth c Q nL s pc lv (rest) := by
  subst hq
  exact fun H locs ls w hl => lv_ldc X.1.1 X.1.2.1 X.1.2.2.2.1 (X.1.2.2.2.2 _ hc) d (k H locs ls w hl)
theorem g_ldc_w (X : Cx K p st m args meth c cc nL own) {v : Int32} {i : Nat} (d : decode cc pc = .ok (.ldc_w i, 3)) (hq : pc + 3 = q) (hc : Cond.constant own i v ∈ GT) (k : WG K p l e R st m args below meth c Q nL s q lv (.int v :: rest)) : WG K p l e R st m args below meth c Q nL s pc lv (rest) := by
  subst hq
  exact fun H locs ls w hl => lv_ldcw X.1.1 X.1.2.1 X.1.2.2.2.1 (X.1.2.2.2.2 _ hc) d (k H locs ls w hl)
theorem g_ldc2_w (X : Cx K p st m args meth c cc nL own) {v : Int64} {i : Nat} (d : decode cc pc = .ok (.ldc2_w i, 3)) (hq : pc + 3 = q) (hc : Cond.constantLong own i v ∈ GT) (k : WG K p l e R st m args below meth c Q nL s q lv (.long v :: rest)) : WG K p l e R st m args below meth c Q nL s pc lv (rest) := by
  subst hq
  exact fun H locs ls w hl => lv_ldc2 X.1.1 X.1.2.1 X.1.2.2.2.1 (X.1.2.2.2.2 _ hc) d (k H locs ls w hl)
theorem g_if_eq (X : Cx K p st m args meth c cc nL own) {x : Int32} {off : Int} {tgt : Nat} (d : decode cc pc = .ok (.ifCond .eq off, 3)) (hq : pc + 3 = q) (ht : (pc : Int) + off = (tgt : Int)) {B : Type} {a b r : B} (hs : (if x = 0 then a else b) = r) (kt : a = r → WG K p l e R st m args below meth c Q nL s tgt lv (rest)) (kf : b = r → WG K p l e R st m args below meth c Q nL s q lv (rest)) : WG K p l e R st m args below meth c Q nL s pc lv (.int x :: rest) := by
  subst hq
  exact fun H locs ls w hl => lv_if_eq X.1.1 X.1.2.1 d ht (fun h => kt (by rw [if_pos h] at hs; exact hs) H locs ls w hl) (fun h => kf (by rw [if_neg h] at hs; exact hs) H locs ls w hl)
theorem g_if_ne (X : Cx K p st m args meth c cc nL own) {x : Int32} {off : Int} {tgt : Nat} (d : decode cc pc = .ok (.ifCond .ne off, 3)) (hq : pc + 3 = q) (ht : (pc : Int) + off = (tgt : Int)) {B : Type} {a b r : B} (hs : (if x = 0 then b else a) = r) (kt : a = r → WG K p l e R st m args below meth c Q nL s tgt lv (rest)) (kf : b = r → WG K p l e R st m args below meth c Q nL s q lv (rest)) : WG K p l e R st m args below meth c Q nL s pc lv (.int x :: rest) := by
  subst hq
  exact fun H locs ls w hl => lv_if_ne X.1.1 X.1.2.1 d ht (fun h => kt (by rw [if_neg h] at hs; exact hs) H locs ls w hl) (fun h => kf (by rw [if_pos h] at hs; exact hs) H locs ls w hl)
theorem g_if_lt (X : Cx K p st m args meth c cc nL own) {x : Int32} {off : Int} {tgt : Nat} (d : decode cc pc = .ok (.ifCond .lt off, 3)) (hq : pc + 3 = q) (ht : (pc : Int) + off = (tgt : Int)) {B : Type} {a b r : B} (hs : (if x < 0 then a else b) = r) (kt : a = r → WG K p l e R st m args below meth c Q nL s tgt lv (rest)) (kf : b = r → WG K p l e R st m args below meth c Q nL s q lv (rest)) : WG K p l e R st m args below meth c Q nL s pc lv (.int x :: rest) := by
  subst hq
  exact fun H locs ls w hl => lv_if_lt X.1.1 X.1.2.1 d ht (fun h => kt (by rw [if_pos h] at hs; exact hs) H locs ls w hl) (fun h => kf (by rw [if_neg h] at hs; exact hs) H locs ls w hl)
theorem g_if_ge (X : Cx K p st m args meth c cc nL own) {x : Int32} {off : Int} {tgt : Nat} (d : decode cc pc = .ok (.ifCond .ge off, 3)) (hq : pc + 3 = q) (ht : (pc : Int) + off = (tgt : Int)) {B : Type} {a b r : B} (hs : (if 0 ≤ x then a else b) = r) (kt : a = r → WG K p l e R st m args below meth c Q nL s tgt lv (rest)) (kf : b = r → WG K p l e R st m args below meth c Q nL s q lv (rest)) : WG K p l e R st m args below meth c Q nL s pc lv (.int x :: rest) := by
  subst hq
  exact fun H locs ls w hl => lv_if_ge X.1.1 X.1.2.1 d ht (fun h => kt (by rw [if_pos h] at hs; exact hs) H locs ls w hl) (fun h => kf (by rw [if_neg h] at hs; exact hs) H locs ls w hl)
theorem g_if_gt (X : Cx K p st m args meth c cc nL own) {x : Int32} {off : Int} {tgt : Nat} (d : decode cc pc = .ok (.ifCond .gt off, 3)) (hq : pc + 3 = q) (ht : (pc : Int) + off = (tgt : Int)) {B : Type} {a b r : B} (hs : (if 0 < x then a else b) = r) (kt : a = r → WG K p l e R st m args below meth c Q nL s tgt lv (rest)) (kf : b = r → WG K p l e R st m args below meth c Q nL s q lv (rest)) : WG K p l e R st m args below meth c Q nL s pc lv (.int x :: rest) := by
  subst hq
  exact fun H locs ls w hl => lv_if_gt X.1.1 X.1.2.1 d ht (fun h => kt (by rw [if_pos h] at hs; exact hs) H locs ls w hl) (fun h => kf (by rw [if_neg h] at hs; exact hs) H locs ls w hl)
theorem g_if_le (X : Cx K p st m args meth c cc nL own) {x : Int32} {off : Int} {tgt : Nat} (d : decode cc pc = .ok (.ifCond .le off, 3)) (hq : pc + 3 = q) (ht : (pc : Int) + off = (tgt : Int)) {B : Type} {a b r : B} (hs : (if x ≤ 0 then a else b) = r) (kt : a = r → WG K p l e R st m args below meth c Q nL s tgt lv (rest)) (kf : b = r → WG K p l e R st m args below meth c Q nL s q lv (rest)) : WG K p l e R st m args below meth c Q nL s pc lv (.int x :: rest) := by
  subst hq
  exact fun H locs ls w hl => lv_if_le X.1.1 X.1.2.1 d ht (fun h => kt (by rw [if_pos h] at hs; exact hs) H locs ls w hl) (fun h => kf (by rw [if_neg h] at hs; exact hs) H locs ls w hl)
theorem g_icmp_eq (X : Cx K p st m args meth c cc nL own) {x y : Int32} {off : Int} {tgt : Nat} (d : decode cc pc = .ok (.if_icmp .eq off, 3)) (hq : pc + 3 = q) (ht : (pc : Int) + off = (tgt : Int)) {B : Type} {a b r : B} (hs : (if x = y then a else b) = r) (kt : a = r → WG K p l e R st m args below meth c Q nL s tgt lv (rest)) (kf : b = r → WG K p l e R st m args below meth c Q nL s q lv (rest)) : WG K p l e R st m args below meth c Q nL s pc lv (.int y :: .int x :: rest) := by
  subst hq
  exact fun H locs ls w hl => lv_icmp_eq X.1.1 X.1.2.1 d ht (fun h => kt (by rw [if_pos h] at hs; exact hs) H locs ls w hl) (fun h => kf (by rw [if_neg h] at hs; exact hs) H locs ls w hl)
theorem g_icmp_ne (X : Cx K p st m args meth c cc nL own) {x y : Int32} {off : Int} {tgt : Nat} (d : decode cc pc = .ok (.if_icmp .ne off, 3)) (hq : pc + 3 = q) (ht : (pc : Int) + off = (tgt : Int)) {B : Type} {a b r : B} (hs : (if x = y then b else a) = r) (kt : a = r → WG K p l e R st m args below meth c Q nL s tgt lv (rest)) (kf : b = r → WG K p l e R st m args below meth c Q nL s q lv (rest)) : WG K p l e R st m args below meth c Q nL s pc lv (.int y :: .int x :: rest) := by
  subst hq
  exact fun H locs ls w hl => lv_icmp_ne X.1.1 X.1.2.1 d ht (fun h => kt (by rw [if_neg h] at hs; exact hs) H locs ls w hl) (fun h => kf (by rw [if_pos h] at hs; exact hs) H locs ls w hl)
theorem g_icmp_lt (X : Cx K p st m args meth c cc nL own) {x y : Int32} {off : Int} {tgt : Nat} (d : decode cc pc = .ok (.if_icmp .lt off, 3)) (hq : pc + 3 = q) (ht : (pc : Int) + off = (tgt : Int)) {B : Type} {a b r : B} (hs : (if x < y then a else b) = r) (kt : a = r → WG K p l e R st m args below meth c Q nL s tgt lv (rest)) (kf : b = r → WG K p l e R st m args below meth c Q nL s q lv (rest)) : WG K p l e R st m args below meth c Q nL s pc lv (.int y :: .int x :: rest) := by
  subst hq
  exact fun H locs ls w hl => lv_icmp_lt X.1.1 X.1.2.1 d ht (fun h => kt (by rw [if_pos h] at hs; exact hs) H locs ls w hl) (fun h => kf (by rw [if_neg h] at hs; exact hs) H locs ls w hl)
theorem g_icmp_ge (X : Cx K p st m args meth c cc nL own) {x y : Int32} {off : Int} {tgt : Nat} (d : decode cc pc = .ok (.if_icmp .ge off, 3)) (hq : pc + 3 = q) (ht : (pc : Int) + off = (tgt : Int)) {B : Type} {a b r : B} (hs : (if y ≤ x then a else b) = r) (kt : a = r → WG K p l e R st m args below meth c Q nL s tgt lv (rest)) (kf : b = r → WG K p l e R st m args below meth c Q nL s q lv (rest)) : WG K p l e R st m args below meth c Q nL s pc lv (.int y :: .int x :: rest) := by
  subst hq
  exact fun H locs ls w hl => lv_icmp_ge X.1.1 X.1.2.1 d ht (fun h => kt (by rw [if_pos h] at hs; exact hs) H locs ls w hl) (fun h => kf (by rw [if_neg h] at hs; exact hs) H locs ls w hl)
theorem g_icmp_gt (X : Cx K p st m args meth c cc nL own) {x y : Int32} {off : Int} {tgt : Nat} (d : decode cc pc = .ok (.if_icmp .gt off, 3)) (hq : pc + 3 = q) (ht : (pc : Int) + off = (tgt : Int)) {B : Type} {a b r : B} (hs : (if y < x then a else b) = r) (kt : a = r → WG K p l e R st m args below meth c Q nL s tgt lv (rest)) (kf : b = r → WG K p l e R st m args below meth c Q nL s q lv (rest)) : WG K p l e R st m args below meth c Q nL s pc lv (.int y :: .int x :: rest) := by
  subst hq
  exact fun H locs ls w hl => lv_icmp_gt X.1.1 X.1.2.1 d ht (fun h => kt (by rw [if_pos h] at hs; exact hs) H locs ls w hl) (fun h => kf (by rw [if_neg h] at hs; exact hs) H locs ls w hl)
theorem g_icmp_le (X : Cx K p st m args meth c cc nL own) {x y : Int32} {off : Int} {tgt : Nat} (d : decode cc pc = .ok (.if_icmp .le off, 3)) (hq : pc + 3 = q) (ht : (pc : Int) + off = (tgt : Int)) {B : Type} {a b r : B} (hs : (if x ≤ y then a else b) = r) (kt : a = r → WG K p l e R st m args below meth c Q nL s tgt lv (rest)) (kf : b = r → WG K p l e R st m args below meth c Q nL s q lv (rest)) : WG K p l e R st m args below meth c Q nL s pc lv (.int y :: .int x :: rest) := by
  subst hq
  exact fun H locs ls w hl => lv_icmp_le X.1.1 X.1.2.1 d ht (fun h => kt (by rw [if_pos h] at hs; exact hs) H locs ls w hl) (fun h => kf (by rw [if_neg h] at hs; exact hs) H locs ls w hl)
theorem g_goto (X : Cx K p st m args meth c cc nL own) {off : Int} {tgt : Nat} (d : decode cc pc = .ok (.goto off, 3)) (ht : (pc : Int) + off = (tgt : Int)) (k : WG K p l e R st m args below meth c Q nL s tgt lv (rest)) : WG K p l e R st m args below meth c Q nL s pc lv (rest) := fun H locs ls w hl => lv_goto X.1.1 X.1.2.1 d ht (k H locs ls w hl)
theorem g_nonnull (X : Cx K p st m args meth c cc nL own) {x : Nat} {off : Int} {tgt : Nat} (d : decode cc pc = .ok (.ifnonnull off, 3)) (ht : (pc : Int) + off = (tgt : Int)) (k : WG K p l e R st m args below meth c Q nL s tgt lv (rest)) : WG K p l e R st m args below meth c Q nL s pc lv (.ref x :: rest) := fun H locs ls w hl => lv_ifnonnull X.1.1 X.1.2.1 d ht (k H locs ls w hl)
theorem g_ifnull (X : Cx K p st m args meth c cc nL own) {x : Nat} {off : Int} (d : decode cc pc = .ok (.ifnull off, 3)) (hq : pc + 3 = q) (k : WG K p l e R st m args below meth c Q nL s q lv (rest)) : WG K p l e R st m args below meth c Q nL s pc lv (.ref x :: rest) := by
  subst hq
  exact fun H locs ls w hl => lv_ifnull X.1.1 X.1.2.1 d (k H locs ls w hl)
theorem g_ifnullN (X : Cx K p st m args meth c cc nL own) {off : Int} {tgt : Nat} (d : decode cc pc = .ok (.ifnull off, 3)) (ht : (pc : Int) + off = (tgt : Int)) (k : WG K p l e R st m args below meth c Q nL s tgt lv (rest)) : WG K p l e R st m args below meth c Q nL s pc lv (.null :: rest) := fun H locs ls w hl => lv_ifnullN X.1.1 X.1.2.1 d ht (k H locs ls w hl)
theorem g_ald (X : Cx K p st m args meth c cc nL own) (a n : Nat) (ha : a < kN K) {cA : ClassId} (t0 : Nat) (hg : ∀ f g, kG K a f g = .inl (cA, n, .inl f)) (ht : (kT K)[t0]? = some (cA, .int)) {i : Int32} (d : decode cc pc = .ok (.iaload, 1)) (hq : pc + 1 = q) {B : Type} {f : Int32 → Option B} {o : B} (hs : Gl s a n i f = some o) (k : ∀ y, f y = some o → WG K p l e R st m args below meth c Q nL s q lv (.int y :: rest)) : WG K p l e R st m args below meth c Q nL s pc lv (.int i :: .ref (kh K a) :: rest) := by
  subst hq
  obtain ⟨hi, hs⟩ := Gl_e hs
  exact fun H locs ls w hl => va_iald X.1.1 X.1.2.1 X.2.1 w.1 a t0 (by rw [kW_get ha, hg]) ht hi d (k _ hs H locs ls w hl)
theorem g_aldk (X : Cx K p st m args meth c cc nL own) (a n : Nat) (ha : a < kN K) {cA : ClassId} (t0 : Nat) (hg : ∀ f g, kG K a f g = .inl (cA, n, .inl f)) (ht : (kT K)[t0]? = some (cA, .int)) {i : Int32} {j : Nat} (d : decode cc pc = .ok (.iaload, 1)) (hq : pc + 1 = q) (hi : inb i n = true) (hj : i.toNatClampNeg = j) {B : Type} {f : Int32 → B} {r : B} (hs : Lt (s.1 a j) f = r) (k : ∀ y, f y = r → WG K p l e R st m args below meth c Q nL s q lv (.int y :: rest)) : WG K p l e R st m args below meth c Q nL s pc lv (.int i :: .ref (kh K a) :: rest) := by
  subst hq
  subst hj
  exact fun H locs ls w hl => va_iald X.1.1 X.1.2.1 X.2.1 w.1 a t0 (by rw [kW_get ha, hg]) ht (inb_in hi) d (k _ hs H locs ls w hl)
theorem g_ast (X : Cx K p st m args meth c cc nL own) (a n : Nat) (ha : a < kN K) {cA : ClassId} (t0 : Nat) (hg : ∀ f g, kG K a f g = .inl (cA, n, .inl f)) (ht : (kT K)[t0]? = some (cA, .int)) {i x : Int32} (d : decode cc pc = .ok (.iastore, 1)) (hq : pc + 1 = q) {B : Type} {f : ST → Option B} {o : B} (hs : Gs s a n i x f = some o) (k : ∀ s', f s' = some o → WG K p l e R st m args below meth c Q nL s' q lv (rest)) : WG K p l e R st m args below meth c Q nL s pc lv (.int x :: .int i :: .ref (kh K a) :: rest) := by
  subst hq
  obtain ⟨hi, hs⟩ := Gs_e hs
  exact fun H locs ls w hl => va_iast X.1.1 X.1.2.1 X.2.1 w.1 (kW_D X.2.2.1) w.2 a t0 (by rw [kW_get ha, hg]) ht hi d (fun H1 locs1 hP _ hS => k _ hs H1 locs1 ls ⟨by rw [← kW_ups (i := i.toNatClampNeg) (x := x) ha (hg _ _)]; exact hP, hS⟩ hl)
theorem g_astk (X : Cx K p st m args meth c cc nL own) (a n : Nat) (ha : a < kN K) {cA : ClassId} (t0 : Nat) (hg : ∀ f g, kG K a f g = .inl (cA, n, .inl f)) (ht : (kT K)[t0]? = some (cA, .int)) {i x : Int32} {j : Nat} (d : decode cc pc = .ok (.iastore, 1)) (hq : pc + 1 = q) (hi : inb i n = true) (hj : i.toNatClampNeg = j) {B : Type} {f : ST → B} {r : B} (hs : Lt (ups s a j x) f = r) (k : ∀ s', f s' = r → WG K p l e R st m args below meth c Q nL s' q lv (rest)) : WG K p l e R st m args below meth c Q nL s pc lv (.int x :: .int i :: .ref (kh K a) :: rest) := by
  subst hq
  subst hj
  exact fun H locs ls w hl => va_iast X.1.1 X.1.2.1 X.2.1 w.1 (kW_D X.2.2.1) w.2 a t0 (by rw [kW_get ha, hg]) ht (inb_in hi) d (fun H1 locs1 hP _ hS => k _ hs H1 locs1 ls ⟨by rw [← kW_ups (i := i.toNatClampNeg) (x := x) ha (hg _ _)]; exact hP, hS⟩ hl)
theorem nmI {x : Int32} {B : Type} {f : Int32 → B} {r : B} (hs : Lt x f = r) (k : ∀ y, f y = r → WG K p l e R st m args below meth c Q nL s pc lv (.int y :: rest)) : WG K p l e R st m args below meth c Q nL s pc lv (.int x :: rest) := k _ hs
theorem nmL {x : Int64} {B : Type} {f : Int64 → B} {r : B} (hs : Lt x f = r) (k : ∀ y, f y = r → WG K p l e R st m args below meth c Q nL s pc lv (.long y :: rest)) : WG K p l e R st m args below meth c Q nL s pc lv (.long x :: rest) := k _ hs
theorem g_alen (X : Cx K p st m args meth c cc nL own) (a n : Nat) (ha : a < kN K) {cA : ClassId} (t0 : Nat) (hg : ∀ f g, kG K a f g = .inl (cA, n, .inl f)) (ht : (kT K)[t0]? = some (cA, .int)) {v : Int32} (d : decode cc pc = .ok (.arraylength, 1)) (hq : pc + 1 = q) (hv : Int32.ofNat n = v) (k : WG K p l e R st m args below meth c Q nL s q lv (.int v :: rest)) : WG K p l e R st m args below meth c Q nL s pc lv (.ref (kh K a) :: rest) := by
  subst hq
  exact fun H locs ls w hl => va_alen X.1.1 X.1.2.1 X.2.1 w.1 a t0 (by rw [kW_get ha, hg]) ht hv d (k H locs ls w hl)
theorem g_get (X : Cx K p st m args meth c cc nL own) (b ci : Nat) (hb : b < kN K) {fs : List Value} {C : String} {T : u_T} {N : Nat} (hg : kG K b (s.1 b) (s.2 b) = .inr (ci, fs)) (hc : vwCl[ci]? = some (C, T, N)) (hin : ∀ w ∈ u_ws C T N, w ∈ GT) (k0 : Nat) (hk : k0 < N) {idx : Nat} (hC : (T k0).1 = C) (hlk : Cond.fieldLink own idx C (T k0).2.1 (T k0).2.2.1 ∈ GT) {v : Value} (hv : fs[k0]? = some v) (d : decode cc pc = .ok (.getfield idx, 3)) (hq : pc + 3 = q) (k : WG K p l e R st m args below meth c Q nL s q lv (v :: rest)) : WG K p l e R st m args below meth c Q nL s pc lv (.ref (kh K b) :: rest) := by
  subst hq
  exact fun H locs ls w hl => va_get X.1.1 X.1.2.1 X.1.2.2.2.2 hin X.1.2.2.2.1 X.2.1 w.1 b (by rw [kW_get hb, hg]) hc k0 hk (X.1.2.2.2.2 _ hlk) (fun x hx => by rw [hC] at hx; exact hx) hv d (k H locs ls w hl)
theorem g_getN (X : Cx K p st m args meth c cc nL own) (b ci : Nat) (hb : b < kN K) {fs : List Value} {C : String} {T : u_T} {N : Nat} (hg : kG K b (s.1 b) (s.2 b) = .inr (ci, fs)) (hc : vwCl[ci]? = some (C, T, N)) (hin : ∀ w ∈ u_ws C T N, w ∈ GT) (k0 : Nat) (hk : k0 < N) {idx : Nat} (hC : (T k0).1 = C) {host : String} (hlk : (Cond.fieldLinkNest own idx C (T k0).2.1 (T k0).2.2.1 host).before args st = true) {v : Value} (hv : fs[k0]? = some v) (d : decode cc pc = .ok (.getfield idx, 3)) (hq : pc + 3 = q) (k : WG K p l e R st m args below meth c Q nL s q lv (v :: rest)) : WG K p l e R st m args below meth c Q nL s pc lv (.ref (kh K b) :: rest) := by
  subst hq
  exact fun H locs ls w hl => va_getN X.1.1 X.1.2.1 X.1.2.2.2.2 hin X.1.2.2.2.1 X.2.1 w.1 b (by rw [kW_get hb, hg]) hc k0 hk hlk (fun x hx => by rw [hC] at hx; exact hx) hv d (k H locs ls w hl)
theorem g_put (X : Cx K p st m args meth c cc nL own) (b ci : Nat) (hb : b < kN K) {fs : List Value} {C : String} {T : u_T} {N : Nat} (hg : kG K b (s.1 b) (s.2 b) = .inr (ci, fs)) (hc : vwCl[ci]? = some (C, T, N)) (hin : ∀ w ∈ u_ws C T N, w ∈ GT) (k0 : Nat) (hk : k0 < N) {idx : Nat} (hC : (T k0).1 = C) (hlk : Cond.fieldLink own idx C (T k0).2.1 (T k0).2.2.1 ∈ GT) (ty0 : Nat → FieldType) (hty : ∀ k, k < N → parseFieldDescriptor (T k).2.2.1 = some (ty0 k)) (hnm : ∀ a, a < N → ∀ b, b < N → a ≠ b → (T a).2.1 ≠ (T b).2.1) (hfin : (T k0).2.2.2 = false) {ty : FieldType} (hd : parseFieldDescriptor (T k0).2.2.1 = some ty) (hl0 : k0 < fs.length) {x : Int32} (hn : narrow ty (.int x) = .int x) (hfit : fits ty (.int x) = true) (hset : kG K b (upd (s.1 b) k0 x) (s.2 b) = .inr (ci, fs.set k0 (.int x))) (d : decode cc pc = .ok (.putfield idx, 3)) (hq : pc + 3 = q) {B : Type} {f : ST → B} {r : B} (hs : Lt (ups s b k0 x) f = r) (k : ∀ s', f s' = r → WG K p l e R st m args below meth c Q nL s' q lv (rest)) : WG K p l e R st m args below meth c Q nL s pc lv (.int x :: .ref (kh K b) :: rest) := by
  subst hq
  exact fun H locs ls w hl => va_put X.1.1 X.1.2.1 X.1.2.2.2.2 hin ty0 hty hnm X.1.2.2.2.1 X.2.1 w.1 (kW_D X.2.2.1) w.2 b (by rw [kW_get hb, hg]) hc k0 hk (X.1.2.2.2.2 _ hlk) (fun x hx => by rw [hC] at hx; exact hx) hfin hd hn hfit hl0 d (fun H1 locs1 hP _ hS => k _ hs H1 locs1 ls ⟨by rw [← kW_ups hb hset]; exact hP, hS⟩ hl)
theorem g_putL (X : Cx K p st m args meth c cc nL own) (b ci : Nat) (hb : b < kN K) {fs : List Value} {C : String} {T : u_T} {N : Nat} (hg : kG K b (s.1 b) (s.2 b) = .inr (ci, fs)) (hc : vwCl[ci]? = some (C, T, N)) (hin : ∀ w ∈ u_ws C T N, w ∈ GT) (k0 : Nat) (hk : k0 < N) {idx : Nat} (hC : (T k0).1 = C) (hlk : Cond.fieldLink own idx C (T k0).2.1 (T k0).2.2.1 ∈ GT) (ty0 : Nat → FieldType) (hty : ∀ k, k < N → parseFieldDescriptor (T k).2.2.1 = some (ty0 k)) (hnm : ∀ a, a < N → ∀ b, b < N → a ≠ b → (T a).2.1 ≠ (T b).2.1) (hfin : (T k0).2.2.2 = false) {ty : FieldType} (hd : parseFieldDescriptor (T k0).2.2.1 = some ty) (hl0 : k0 < fs.length) {x : Int64} (hn : narrow ty (.long x) = .long x) (hfit : fits ty (.long x) = true) (hset : kG K b (s.1 b) (vp_updL (s.2 b) k0 x) = .inr (ci, fs.set k0 (.long x))) (d : decode cc pc = .ok (.putfield idx, 3)) (hq : pc + 3 = q) {B : Type} {f : ST → B} {r : B} (hs : Lt (upl s b k0 x) f = r) (k : ∀ s', f s' = r → WG K p l e R st m args below meth c Q nL s' q lv (rest)) : WG K p l e R st m args below meth c Q nL s pc lv (.long x :: .ref (kh K b) :: rest) := by
  subst hq
  exact fun H locs ls w hl => va_put X.1.1 X.1.2.1 X.1.2.2.2.2 hin ty0 hty hnm X.1.2.2.2.1 X.2.1 w.1 (kW_D X.2.2.1) w.2 b (by rw [kW_get hb, hg]) hc k0 hk (X.1.2.2.2.2 _ hlk) (fun x hx => by rw [hC] at hx; exact hx) hfin hd hn hfit hl0 d (fun H1 locs1 hP _ hS => k _ hs H1 locs1 ls ⟨by rw [← kW_upl hb hset]; exact hP, hS⟩ hl)
theorem g_putN (X : Cx K p st m args meth c cc nL own) (b ci : Nat) (hb : b < kN K) {fs : List Value} {C : String} {T : u_T} {N : Nat} (hg : kG K b (s.1 b) (s.2 b) = .inr (ci, fs)) (hc : vwCl[ci]? = some (C, T, N)) (hin : ∀ w ∈ u_ws C T N, w ∈ GT) (k0 : Nat) (hk : k0 < N) {idx : Nat} (hC : (T k0).1 = C) {host : String} (hlk : (Cond.fieldLinkNest own idx C (T k0).2.1 (T k0).2.2.1 host).before args st = true) (ty0 : Nat → FieldType) (hty : ∀ k, k < N → parseFieldDescriptor (T k).2.2.1 = some (ty0 k)) (hnm : ∀ a, a < N → ∀ b, b < N → a ≠ b → (T a).2.1 ≠ (T b).2.1) (hfin : (T k0).2.2.2 = false) {ty : FieldType} (hd : parseFieldDescriptor (T k0).2.2.1 = some ty) (hl0 : k0 < fs.length) {x : Int32} (hn : narrow ty (.int x) = .int x) (hfit : fits ty (.int x) = true) (hset : kG K b (upd (s.1 b) k0 x) (s.2 b) = .inr (ci, fs.set k0 (.int x))) (d : decode cc pc = .ok (.putfield idx, 3)) (hq : pc + 3 = q) {B : Type} {f : ST → B} {r : B} (hs : Lt (ups s b k0 x) f = r) (k : ∀ s', f s' = r → WG K p l e R st m args below meth c Q nL s' q lv (rest)) : WG K p l e R st m args below meth c Q nL s pc lv (.int x :: .ref (kh K b) :: rest) := by
  subst hq
  exact fun H locs ls w hl => va_putN X.1.1 X.1.2.1 X.1.2.2.2.2 hin ty0 hty hnm X.1.2.2.2.1 X.2.1 w.1 (kW_D X.2.2.1) w.2 b (by rw [kW_get hb, hg]) hc k0 hk hlk (fun x hx => by rw [hC] at hx; exact hx) hfin hd hn hfit hl0 d (fun H1 locs1 hP _ hS => k _ hs H1 locs1 ls ⟨by rw [← kW_ups hb hset]; exact hP, hS⟩ hl)
theorem g_putNL (X : Cx K p st m args meth c cc nL own) (b ci : Nat) (hb : b < kN K) {fs : List Value} {C : String} {T : u_T} {N : Nat} (hg : kG K b (s.1 b) (s.2 b) = .inr (ci, fs)) (hc : vwCl[ci]? = some (C, T, N)) (hin : ∀ w ∈ u_ws C T N, w ∈ GT) (k0 : Nat) (hk : k0 < N) {idx : Nat} (hC : (T k0).1 = C) {host : String} (hlk : (Cond.fieldLinkNest own idx C (T k0).2.1 (T k0).2.2.1 host).before args st = true) (ty0 : Nat → FieldType) (hty : ∀ k, k < N → parseFieldDescriptor (T k).2.2.1 = some (ty0 k)) (hnm : ∀ a, a < N → ∀ b, b < N → a ≠ b → (T a).2.1 ≠ (T b).2.1) (hfin : (T k0).2.2.2 = false) {ty : FieldType} (hd : parseFieldDescriptor (T k0).2.2.1 = some ty) (hl0 : k0 < fs.length) {x : Int64} (hn : narrow ty (.long x) = .long x) (hfit : fits ty (.long x) = true) (hset : kG K b (s.1 b) (vp_updL (s.2 b) k0 x) = .inr (ci, fs.set k0 (.long x))) (d : decode cc pc = .ok (.putfield idx, 3)) (hq : pc + 3 = q) {B : Type} {f : ST → B} {r : B} (hs : Lt (upl s b k0 x) f = r) (k : ∀ s', f s' = r → WG K p l e R st m args below meth c Q nL s' q lv (rest)) : WG K p l e R st m args below meth c Q nL s pc lv (.long x :: .ref (kh K b) :: rest) := by
  subst hq
  exact fun H locs ls w hl => va_putN X.1.1 X.1.2.1 X.1.2.2.2.2 hin ty0 hty hnm X.1.2.2.2.1 X.2.1 w.1 (kW_D X.2.2.1) w.2 b (by rw [kW_get hb, hg]) hc k0 hk hlk (fun x hx => by rw [hC] at hx; exact hx) hfin hd hn hfit hl0 d (fun H1 locs1 hP _ hS => k _ hs H1 locs1 ls ⟨by rw [← kW_upl hb hset]; exact hP, hS⟩ hl)
theorem pre_of {u U : State} {H : Heap} {locs : List Loc} {as : List Value} (hK : va_K (kD K) vwCl (kT K) u) (hJ : kJ K) (hZ : kZ K u u.heap) (w : Wo K s u H locs) (hU : U.heap = H) (hW : u.WarmedH U.vm) : PreW K s as as.toArray U :=
  ⟨rfl, by rw [hU]; exact w.1, va_K.moved hW.alike hK, hJ, by rw [hU]; exact hJ.2.1 u U H hW (hJ.2.2.1 u u.heap H w.2.1 (fun q h1 h2 => w.2.2.1 q h1 h2) hZ)⟩
theorem blind_of {as : List Value} : FrameBlind (PreW K s as) := by
  intro a U g mk q
  obtain ⟨h1, h2, h3, h4, h5⟩ := q
  exact ⟨h1, h2, va_K.moved (u := U) (U := U.calling g mk a) (Vm.Alike.refl U.vm) h3, h4, h4.2.2.2 U _ _ rfl h5⟩
theorem cV_I (X : Cx K p st m args meth c cc nL own) (b0 : Nat) {y : MethodName} {b2 : ByteArray} {n2 : Nat} {ret2 : Option FieldType} {d1 d0 idx n : Nat} {As : List Value} {r0 : Int32} {u0 : ST} (hM : MI l K d1 y b2 n2 ret2 s (.ref (kh K b0) :: As) r0 u0) (hG : GoodIn GT (wsV own idx y.cls y (.code y b2 n2 ret2 :: GT))) (hR : d1 + 1 ≤ d0 ∧ 8 + (n2 + 11) + 100 * d1 ≤ 100 * d0) (hd : y.cls ≠ "java/lang/invoke/MethodHandle" ∧ y.cls ≠ "java/lang/invoke/VarHandle" ∧ (parseMethodDescriptor y.desc).map (fun d => d.parameters.length) = some n) (hAs : As.length = n) (hrest : (rest.map fun v => v.category).sum ≤ 8) {ci : Nat} (hb0 : b0 < kN K) {fs : List Value} {T : u_T} {N : Nat} (hg : kG K b0 (s.1 b0) (s.2 b0) = .inr (ci, fs)) (hc : vwCl[ci]? = some (y.cls, T, N)) {stk : List Value} (hst : stk = As.reverse ++ .ref (kh K b0) :: rest) (dg : decode cc pc = .ok (.invokevirtual idx, 3)) (hq : pc + 3 = q) (k : WG K p l e (rmD d0) st m args below meth c Q nL u0 q lv (.int r0 :: rest)) : WG K p l e (rmD d0) st m args below meth c Q nL s pc lv (stk) := by
  subst hq
  subst hst
  intro H locs ls w hl
  refine va_calli (va_runV (As := As) (rest := rest) X.1 hM (cwV n X.1.2.2.2.2 hG rfl rfl rfl ⟨rfl, hd⟩ hR) ⟨blind_of, va_recv X.2.1 w.1 hc (by rw [kW_get hb0, hg]), fun U hU hW => pre_of X.2.1 X.2.2.1 X.2.2.2 w hU hW⟩ rfl hAs hl.1 rfl (lv_room hrest) dg ⟨Nat.zero_le _, Nat.zero_le _⟩) w.2 (fun q _ h => h) (fun q h => h) (fun r u t H1 locs1 ht hvm hw hB hz1 hk1 hS => ?_)
  obtain ⟨rfl, rfl⟩ := hw
  exact k H1 locs1 ls ⟨by rw [← ht]; exact hB, hS⟩ hl
theorem cVN_I (X : Cx K p st m args meth c cc nL own) (b0 : Nat) {y : MethodName} {b2 : ByteArray} {n2 : Nat} {ret2 : Option FieldType} {d1 d0 idx n : Nat} {As : List Value} {r0 : Int32} {u0 : ST} (hM : MI l K d1 y b2 n2 ret2 s (.ref (kh K b0) :: As) r0 u0) {host : String} (hG : GoodIn GT (.code y b2 n2 ret2 :: GT)) (hlk : va_Nw (.methodLinkNest own idx y host) st) (hini : Cond.initialized y.cls ∈ GT) (hin : Cond.instanceMethod y ∈ GT) (hse : Cond.selects y.cls y y ∈ GT) (hR : d1 + 1 ≤ d0 ∧ 8 + (n2 + 11) + 100 * d1 ≤ 100 * d0) (hd : y.cls ≠ "java/lang/invoke/MethodHandle" ∧ y.cls ≠ "java/lang/invoke/VarHandle" ∧ (parseMethodDescriptor y.desc).map (fun d => d.parameters.length) = some n) (hAs : As.length = n) (hrest : (rest.map fun v => v.category).sum ≤ 8) {ci : Nat} (hb0 : b0 < kN K) {fs : List Value} {T : u_T} {N : Nat} (hg : kG K b0 (s.1 b0) (s.2 b0) = .inr (ci, fs)) (hc : vwCl[ci]? = some (y.cls, T, N)) {stk : List Value} (hst : stk = As.reverse ++ .ref (kh K b0) :: rest) (dg : decode cc pc = .ok (.invokevirtual idx, 3)) (hq : pc + 3 = q) (k : WG K p l e (rmD d0) st m args below meth c Q nL u0 q lv (.int r0 :: rest)) : WG K p l e (rmD d0) st m args below meth c Q nL s pc lv (stk) := by
  subst hq
  subst hst
  intro H locs ls w hl
  refine va_calli (va_runVN (As := As) (rest := rest) X.1 hM ⟨va_cnB n X.1.2.2.2.2 hG rfl rfl rfl hlk (X.1.2.2.2.2 _ hini) hd hR, X.1.2.2.2.2 _ hin, X.1.2.2.2.2 _ hse⟩ ⟨blind_of, va_recv X.2.1 w.1 hc (by rw [kW_get hb0, hg]), fun U hU hW => pre_of X.2.1 X.2.2.1 X.2.2.2 w hU hW⟩ rfl hAs hl.1 rfl (lv_room hrest) dg ⟨Nat.zero_le _, Nat.zero_le _⟩) w.2 (fun q _ h => h) (fun q h => h) (fun r u t H1 locs1 ht hvm hw hB hz1 hk1 hS => ?_)
  obtain ⟨rfl, rfl⟩ := hw
  exact k H1 locs1 ls ⟨by rw [← ht]; exact hB, hS⟩ hl
theorem cS_I (X : Cx K p st m args meth c cc nL own)  {y : MethodName} {b2 : ByteArray} {n2 : Nat} {ret2 : Option FieldType} {d1 d0 idx n : Nat} {As : List Value} {r0 : Int32} {u0 : ST} (hM : MI l K d1 y b2 n2 ret2 s As r0 u0) (hG : GoodIn GT (va_wsS own idx y (.code y b2 n2 ret2 :: GT))) (hR : d1 + 1 ≤ d0 ∧ 8 + (n2 + 11) + 100 * d1 ≤ 100 * d0) (hd : y.cls ≠ "java/lang/invoke/MethodHandle" ∧ y.cls ≠ "java/lang/invoke/VarHandle" ∧ (parseMethodDescriptor y.desc).map (fun d => d.parameters.length) = some n) (hAs : As.length = n) (hrest : (rest.map fun v => v.category).sum ≤ 8)  {stk : List Value} (hst : stk = As.reverse ++ rest) (dg : decode cc pc = .ok (.invokestatic idx, 3)) (hq : pc + 3 = q) (k : WG K p l e (rmD d0) st m args below meth c Q nL u0 q lv (.int r0 :: rest)) : WG K p l e (rmD d0) st m args below meth c Q nL s pc lv (stk) := by
  subst hq
  subst hst
  intro H locs ls w hl
  refine va_calli (va_runS (As := As) (rest := rest) X.1 hM (va_cwS n X.1.2.2.2.2 hG rfl rfl rfl hd hR) ⟨blind_of, fun U hU hW => pre_of X.2.1 X.2.2.1 X.2.2.2 w hU hW⟩ rfl hAs hl.1 rfl (lv_room hrest) dg ⟨Nat.zero_le _, Nat.zero_le _⟩) w.2 (fun q _ h => h) (fun q h => h) (fun r u t H1 locs1 ht hvm hw hB hz1 hk1 hS => ?_)
  obtain ⟨rfl, rfl⟩ := hw
  exact k H1 locs1 ls ⟨by rw [← ht]; exact hB, hS⟩ hl
theorem cSN_I (X : Cx K p st m args meth c cc nL own)  {y : MethodName} {b2 : ByteArray} {n2 : Nat} {ret2 : Option FieldType} {d1 d0 idx n : Nat} {As : List Value} {r0 : Int32} {u0 : ST} (hM : MI l K d1 y b2 n2 ret2 s As r0 u0) {host : String} (hG : GoodIn GT (.code y b2 n2 ret2 :: GT)) (hlk : va_Nw (.methodLinkNest own idx y host) st) (hini : Cond.initialized y.cls ∈ GT) (hst0 : Cond.static y ∈ GT) (hR : d1 + 1 ≤ d0 ∧ 8 + (n2 + 11) + 100 * d1 ≤ 100 * d0) (hd : y.cls ≠ "java/lang/invoke/MethodHandle" ∧ y.cls ≠ "java/lang/invoke/VarHandle" ∧ (parseMethodDescriptor y.desc).map (fun d => d.parameters.length) = some n) (hAs : As.length = n) (hrest : (rest.map fun v => v.category).sum ≤ 8)  {stk : List Value} (hst : stk = As.reverse ++ rest) (dg : decode cc pc = .ok (.invokestatic idx, 3)) (hq : pc + 3 = q) (k : WG K p l e (rmD d0) st m args below meth c Q nL u0 q lv (.int r0 :: rest)) : WG K p l e (rmD d0) st m args below meth c Q nL s pc lv (stk) := by
  subst hq
  subst hst
  intro H locs ls w hl
  refine va_calli (va_runSN (As := As) (rest := rest) X.1 hM ⟨va_cnB n X.1.2.2.2.2 hG rfl rfl rfl hlk (X.1.2.2.2.2 _ hini) hd hR, X.1.2.2.2.2 _ hst0, trivial⟩ ⟨blind_of, fun U hU hW => pre_of X.2.1 X.2.2.1 X.2.2.2 w hU hW⟩ rfl hAs hl.1 rfl (lv_room hrest) dg ⟨Nat.zero_le _, Nat.zero_le _⟩) w.2 (fun q _ h => h) (fun q h => h) (fun r u t H1 locs1 ht hvm hw hB hz1 hk1 hS => ?_)
  obtain ⟨rfl, rfl⟩ := hw
  exact k H1 locs1 ls ⟨by rw [← ht]; exact hB, hS⟩ hl
theorem cV_L (X : Cx K p st m args meth c cc nL own) (b0 : Nat) {y : MethodName} {b2 : ByteArray} {n2 : Nat} {ret2 : Option FieldType} {d1 d0 idx n : Nat} {As : List Value} {r0 : Int64} {u0 : ST} (hM : ML l K d1 y b2 n2 ret2 s (.ref (kh K b0) :: As) r0 u0) (hG : GoodIn GT (wsV own idx y.cls y (.code y b2 n2 ret2 :: GT))) (hR : d1 + 1 ≤ d0 ∧ 8 + (n2 + 11) + 100 * d1 ≤ 100 * d0) (hd : y.cls ≠ "java/lang/invoke/MethodHandle" ∧ y.cls ≠ "java/lang/invoke/VarHandle" ∧ (parseMethodDescriptor y.desc).map (fun d => d.parameters.length) = some n) (hAs : As.length = n) (hrest : (rest.map fun v => v.category).sum ≤ 8) {ci : Nat} (hb0 : b0 < kN K) {fs : List Value} {T : u_T} {N : Nat} (hg : kG K b0 (s.1 b0) (s.2 b0) = .inr (ci, fs)) (hc : vwCl[ci]? = some (y.cls, T, N)) {stk : List Value} (hst : stk = As.reverse ++ .ref (kh K b0) :: rest) (dg : decode cc pc = .ok (.invokevirtual idx, 3)) (hq : pc + 3 = q) (k : WG K p l e (rmD d0) st m args below meth c Q nL u0 q lv (.long r0 :: rest)) : WG K p l e (rmD d0) st m args below meth c Q nL s pc lv (stk) := by
  subst hq
  subst hst
  intro H locs ls w hl
  refine va_calll (va_runV (As := As) (rest := rest) X.1 hM (cwV n X.1.2.2.2.2 hG rfl rfl rfl ⟨rfl, hd⟩ hR) ⟨blind_of, va_recv X.2.1 w.1 hc (by rw [kW_get hb0, hg]), fun U hU hW => pre_of X.2.1 X.2.2.1 X.2.2.2 w hU hW⟩ rfl hAs hl.1 rfl (lv_room hrest) dg ⟨Nat.zero_le _, Nat.zero_le _⟩) w.2 (fun q _ h => h) (fun q h => h) (fun r u t H1 locs1 ht hvm hw hB hz1 hk1 hS => ?_)
  obtain ⟨rfl, rfl⟩ := hw
  exact k H1 locs1 ls ⟨by rw [← ht]; exact hB, hS⟩ hl
theorem cVN_L (X : Cx K p st m args meth c cc nL own) (b0 : Nat) {y : MethodName} {b2 : ByteArray} {n2 : Nat} {ret2 : Option FieldType} {d1 d0 idx n : Nat} {As : List Value} {r0 : Int64} {u0 : ST} (hM : ML l K d1 y b2 n2 ret2 s (.ref (kh K b0) :: As) r0 u0) {host : String} (hG : GoodIn GT (.code y b2 n2 ret2 :: GT)) (hlk : va_Nw (.methodLinkNest own idx y host) st) (hini : Cond.initialized y.cls ∈ GT) (hin : Cond.instanceMethod y ∈ GT) (hse : Cond.selects y.cls y y ∈ GT) (hR : d1 + 1 ≤ d0 ∧ 8 + (n2 + 11) + 100 * d1 ≤ 100 * d0) (hd : y.cls ≠ "java/lang/invoke/MethodHandle" ∧ y.cls ≠ "java/lang/invoke/VarHandle" ∧ (parseMethodDescriptor y.desc).map (fun d => d.parameters.length) = some n) (hAs : As.length = n) (hrest : (rest.map fun v => v.category).sum ≤ 8) {ci : Nat} (hb0 : b0 < kN K) {fs : List Value} {T : u_T} {N : Nat} (hg : kG K b0 (s.1 b0) (s.2 b0) = .inr (ci, fs)) (hc : vwCl[ci]? = some (y.cls, T, N)) {stk : List Value} (hst : stk = As.reverse ++ .ref (kh K b0) :: rest) (dg : decode cc pc = .ok (.invokevirtual idx, 3)) (hq : pc + 3 = q) (k : WG K p l e (rmD d0) st m args below meth c Q nL u0 q lv (.long r0 :: rest)) : WG K p l e (rmD d0) st m args below meth c Q nL s pc lv (stk) := by
  subst hq
  subst hst
  intro H locs ls w hl
  refine va_calll (va_runVN (As := As) (rest := rest) X.1 hM ⟨va_cnB n X.1.2.2.2.2 hG rfl rfl rfl hlk (X.1.2.2.2.2 _ hini) hd hR, X.1.2.2.2.2 _ hin, X.1.2.2.2.2 _ hse⟩ ⟨blind_of, va_recv X.2.1 w.1 hc (by rw [kW_get hb0, hg]), fun U hU hW => pre_of X.2.1 X.2.2.1 X.2.2.2 w hU hW⟩ rfl hAs hl.1 rfl (lv_room hrest) dg ⟨Nat.zero_le _, Nat.zero_le _⟩) w.2 (fun q _ h => h) (fun q h => h) (fun r u t H1 locs1 ht hvm hw hB hz1 hk1 hS => ?_)
  obtain ⟨rfl, rfl⟩ := hw
  exact k H1 locs1 ls ⟨by rw [← ht]; exact hB, hS⟩ hl
theorem cS_L (X : Cx K p st m args meth c cc nL own)  {y : MethodName} {b2 : ByteArray} {n2 : Nat} {ret2 : Option FieldType} {d1 d0 idx n : Nat} {As : List Value} {r0 : Int64} {u0 : ST} (hM : ML l K d1 y b2 n2 ret2 s As r0 u0) (hG : GoodIn GT (va_wsS own idx y (.code y b2 n2 ret2 :: GT))) (hR : d1 + 1 ≤ d0 ∧ 8 + (n2 + 11) + 100 * d1 ≤ 100 * d0) (hd : y.cls ≠ "java/lang/invoke/MethodHandle" ∧ y.cls ≠ "java/lang/invoke/VarHandle" ∧ (parseMethodDescriptor y.desc).map (fun d => d.parameters.length) = some n) (hAs : As.length = n) (hrest : (rest.map fun v => v.category).sum ≤ 8)  {stk : List Value} (hst : stk = As.reverse ++ rest) (dg : decode cc pc = .ok (.invokestatic idx, 3)) (hq : pc + 3 = q) (k : WG K p l e (rmD d0) st m args below meth c Q nL u0 q lv (.long r0 :: rest)) : WG K p l e (rmD d0) st m args below meth c Q nL s pc lv (stk) := by
  subst hq
  subst hst
  intro H locs ls w hl
  refine va_calll (va_runS (As := As) (rest := rest) X.1 hM (va_cwS n X.1.2.2.2.2 hG rfl rfl rfl hd hR) ⟨blind_of, fun U hU hW => pre_of X.2.1 X.2.2.1 X.2.2.2 w hU hW⟩ rfl hAs hl.1 rfl (lv_room hrest) dg ⟨Nat.zero_le _, Nat.zero_le _⟩) w.2 (fun q _ h => h) (fun q h => h) (fun r u t H1 locs1 ht hvm hw hB hz1 hk1 hS => ?_)
  obtain ⟨rfl, rfl⟩ := hw
  exact k H1 locs1 ls ⟨by rw [← ht]; exact hB, hS⟩ hl
theorem cSN_L (X : Cx K p st m args meth c cc nL own)  {y : MethodName} {b2 : ByteArray} {n2 : Nat} {ret2 : Option FieldType} {d1 d0 idx n : Nat} {As : List Value} {r0 : Int64} {u0 : ST} (hM : ML l K d1 y b2 n2 ret2 s As r0 u0) {host : String} (hG : GoodIn GT (.code y b2 n2 ret2 :: GT)) (hlk : va_Nw (.methodLinkNest own idx y host) st) (hini : Cond.initialized y.cls ∈ GT) (hst0 : Cond.static y ∈ GT) (hR : d1 + 1 ≤ d0 ∧ 8 + (n2 + 11) + 100 * d1 ≤ 100 * d0) (hd : y.cls ≠ "java/lang/invoke/MethodHandle" ∧ y.cls ≠ "java/lang/invoke/VarHandle" ∧ (parseMethodDescriptor y.desc).map (fun d => d.parameters.length) = some n) (hAs : As.length = n) (hrest : (rest.map fun v => v.category).sum ≤ 8)  {stk : List Value} (hst : stk = As.reverse ++ rest) (dg : decode cc pc = .ok (.invokestatic idx, 3)) (hq : pc + 3 = q) (k : WG K p l e (rmD d0) st m args below meth c Q nL u0 q lv (.long r0 :: rest)) : WG K p l e (rmD d0) st m args below meth c Q nL s pc lv (stk) := by
  subst hq
  subst hst
  intro H locs ls w hl
  refine va_calll (va_runSN (As := As) (rest := rest) X.1 hM ⟨va_cnB n X.1.2.2.2.2 hG rfl rfl rfl hlk (X.1.2.2.2.2 _ hini) hd hR, X.1.2.2.2.2 _ hst0, trivial⟩ ⟨blind_of, fun U hU hW => pre_of X.2.1 X.2.2.1 X.2.2.2 w hU hW⟩ rfl hAs hl.1 rfl (lv_room hrest) dg ⟨Nat.zero_le _, Nat.zero_le _⟩) w.2 (fun q _ h => h) (fun q h => h) (fun r u t H1 locs1 ht hvm hw hB hz1 hk1 hS => ?_)
  obtain ⟨rfl, rfl⟩ := hw
  exact k H1 locs1 ls ⟨by rw [← ht]; exact hB, hS⟩ hl
theorem cV_V (X : Cx K p st m args meth c cc nL own) (b0 : Nat) {y : MethodName} {b2 : ByteArray} {n2 : Nat} {ret2 : Option FieldType} {d1 d0 idx n : Nat} {As : List Value} {u0 : ST} (hM : MV l K d1 y b2 n2 ret2 s (.ref (kh K b0) :: As) u0) (hG : GoodIn GT (wsV own idx y.cls y (.code y b2 n2 ret2 :: GT))) (hR : d1 + 1 ≤ d0 ∧ 8 + (n2 + 11) + 100 * d1 ≤ 100 * d0) (hd : y.cls ≠ "java/lang/invoke/MethodHandle" ∧ y.cls ≠ "java/lang/invoke/VarHandle" ∧ (parseMethodDescriptor y.desc).map (fun d => d.parameters.length) = some n) (hAs : As.length = n) (hrest : (rest.map fun v => v.category).sum ≤ 8) {ci : Nat} (hb0 : b0 < kN K) {fs : List Value} {T : u_T} {N : Nat} (hg : kG K b0 (s.1 b0) (s.2 b0) = .inr (ci, fs)) (hc : vwCl[ci]? = some (y.cls, T, N)) {stk : List Value} (hst : stk = As.reverse ++ .ref (kh K b0) :: rest) (dg : decode cc pc = .ok (.invokevirtual idx, 3)) (hq : pc + 3 = q) (k : WG K p l e (rmD d0) st m args below meth c Q nL u0 q lv (rest)) : WG K p l e (rmD d0) st m args below meth c Q nL s pc lv (stk) := by
  subst hq
  subst hst
  intro H locs ls w hl
  refine va_callv (va_runV (As := As) (rest := rest) X.1 hM (cwV n X.1.2.2.2.2 hG rfl rfl rfl ⟨rfl, hd⟩ hR) ⟨blind_of, va_recv X.2.1 w.1 hc (by rw [kW_get hb0, hg]), fun U hU hW => pre_of X.2.1 X.2.2.1 X.2.2.2 w hU hW⟩ rfl hAs hl.1 rfl (lv_room hrest) dg ⟨Nat.zero_le _, Nat.zero_le _⟩) w.2 (fun q _ h => h) (fun q h => h) (fun u t H1 locs1 ht hvm hw hB hz1 hk1 hS => ?_)
  subst hw
  exact k H1 locs1 ls ⟨by rw [← ht]; exact hB, hS⟩ hl
theorem cVN_V (X : Cx K p st m args meth c cc nL own) (b0 : Nat) {y : MethodName} {b2 : ByteArray} {n2 : Nat} {ret2 : Option FieldType} {d1 d0 idx n : Nat} {As : List Value} {u0 : ST} (hM : MV l K d1 y b2 n2 ret2 s (.ref (kh K b0) :: As) u0) {host : String} (hG : GoodIn GT (.code y b2 n2 ret2 :: GT)) (hlk : va_Nw (.methodLinkNest own idx y host) st) (hini : Cond.initialized y.cls ∈ GT) (hin : Cond.instanceMethod y ∈ GT) (hse : Cond.selects y.cls y y ∈ GT) (hR : d1 + 1 ≤ d0 ∧ 8 + (n2 + 11) + 100 * d1 ≤ 100 * d0) (hd : y.cls ≠ "java/lang/invoke/MethodHandle" ∧ y.cls ≠ "java/lang/invoke/VarHandle" ∧ (parseMethodDescriptor y.desc).map (fun d => d.parameters.length) = some n) (hAs : As.length = n) (hrest : (rest.map fun v => v.category).sum ≤ 8) {ci : Nat} (hb0 : b0 < kN K) {fs : List Value} {T : u_T} {N : Nat} (hg : kG K b0 (s.1 b0) (s.2 b0) = .inr (ci, fs)) (hc : vwCl[ci]? = some (y.cls, T, N)) {stk : List Value} (hst : stk = As.reverse ++ .ref (kh K b0) :: rest) (dg : decode cc pc = .ok (.invokevirtual idx, 3)) (hq : pc + 3 = q) (k : WG K p l e (rmD d0) st m args below meth c Q nL u0 q lv (rest)) : WG K p l e (rmD d0) st m args below meth c Q nL s pc lv (stk) := by
  subst hq
  subst hst
  intro H locs ls w hl
  refine va_callv (va_runVN (As := As) (rest := rest) X.1 hM ⟨va_cnB n X.1.2.2.2.2 hG rfl rfl rfl hlk (X.1.2.2.2.2 _ hini) hd hR, X.1.2.2.2.2 _ hin, X.1.2.2.2.2 _ hse⟩ ⟨blind_of, va_recv X.2.1 w.1 hc (by rw [kW_get hb0, hg]), fun U hU hW => pre_of X.2.1 X.2.2.1 X.2.2.2 w hU hW⟩ rfl hAs hl.1 rfl (lv_room hrest) dg ⟨Nat.zero_le _, Nat.zero_le _⟩) w.2 (fun q _ h => h) (fun q h => h) (fun u t H1 locs1 ht hvm hw hB hz1 hk1 hS => ?_)
  subst hw
  exact k H1 locs1 ls ⟨by rw [← ht]; exact hB, hS⟩ hl
theorem cS_V (X : Cx K p st m args meth c cc nL own)  {y : MethodName} {b2 : ByteArray} {n2 : Nat} {ret2 : Option FieldType} {d1 d0 idx n : Nat} {As : List Value} {u0 : ST} (hM : MV l K d1 y b2 n2 ret2 s As u0) (hG : GoodIn GT (va_wsS own idx y (.code y b2 n2 ret2 :: GT))) (hR : d1 + 1 ≤ d0 ∧ 8 + (n2 + 11) + 100 * d1 ≤ 100 * d0) (hd : y.cls ≠ "java/lang/invoke/MethodHandle" ∧ y.cls ≠ "java/lang/invoke/VarHandle" ∧ (parseMethodDescriptor y.desc).map (fun d => d.parameters.length) = some n) (hAs : As.length = n) (hrest : (rest.map fun v => v.category).sum ≤ 8)  {stk : List Value} (hst : stk = As.reverse ++ rest) (dg : decode cc pc = .ok (.invokestatic idx, 3)) (hq : pc + 3 = q) (k : WG K p l e (rmD d0) st m args below meth c Q nL u0 q lv (rest)) : WG K p l e (rmD d0) st m args below meth c Q nL s pc lv (stk) := by
  subst hq
  subst hst
  intro H locs ls w hl
  refine va_callv (va_runS (As := As) (rest := rest) X.1 hM (va_cwS n X.1.2.2.2.2 hG rfl rfl rfl hd hR) ⟨blind_of, fun U hU hW => pre_of X.2.1 X.2.2.1 X.2.2.2 w hU hW⟩ rfl hAs hl.1 rfl (lv_room hrest) dg ⟨Nat.zero_le _, Nat.zero_le _⟩) w.2 (fun q _ h => h) (fun q h => h) (fun u t H1 locs1 ht hvm hw hB hz1 hk1 hS => ?_)
  subst hw
  exact k H1 locs1 ls ⟨by rw [← ht]; exact hB, hS⟩ hl
theorem cSN_V (X : Cx K p st m args meth c cc nL own)  {y : MethodName} {b2 : ByteArray} {n2 : Nat} {ret2 : Option FieldType} {d1 d0 idx n : Nat} {As : List Value} {u0 : ST} (hM : MV l K d1 y b2 n2 ret2 s As u0) {host : String} (hG : GoodIn GT (.code y b2 n2 ret2 :: GT)) (hlk : va_Nw (.methodLinkNest own idx y host) st) (hini : Cond.initialized y.cls ∈ GT) (hst0 : Cond.static y ∈ GT) (hR : d1 + 1 ≤ d0 ∧ 8 + (n2 + 11) + 100 * d1 ≤ 100 * d0) (hd : y.cls ≠ "java/lang/invoke/MethodHandle" ∧ y.cls ≠ "java/lang/invoke/VarHandle" ∧ (parseMethodDescriptor y.desc).map (fun d => d.parameters.length) = some n) (hAs : As.length = n) (hrest : (rest.map fun v => v.category).sum ≤ 8)  {stk : List Value} (hst : stk = As.reverse ++ rest) (dg : decode cc pc = .ok (.invokestatic idx, 3)) (hq : pc + 3 = q) (k : WG K p l e (rmD d0) st m args below meth c Q nL u0 q lv (rest)) : WG K p l e (rmD d0) st m args below meth c Q nL s pc lv (stk) := by
  subst hq
  subst hst
  intro H locs ls w hl
  refine va_callv (va_runSN (As := As) (rest := rest) X.1 hM ⟨va_cnB n X.1.2.2.2.2 hG rfl rfl rfl hlk (X.1.2.2.2.2 _ hini) hd hR, X.1.2.2.2.2 _ hst0, trivial⟩ ⟨blind_of, fun U hU hW => pre_of X.2.1 X.2.2.1 X.2.2.2 w hU hW⟩ rfl hAs hl.1 rfl (lv_room hrest) dg ⟨Nat.zero_le _, Nat.zero_le _⟩) w.2 (fun q _ h => h) (fun q h => h) (fun u t H1 locs1 ht hvm hw hB hz1 hk1 hS => ?_)
  subst hw
  exact k H1 locs1 ls ⟨by rw [← ht]; exact hB, hS⟩ hl
theorem g_tsw (X : Cx K p st m args meth c cc nL own) {dflt lo hi off : Int} {offs : Array Int} {len : Nat} {x z : Int32} {tgt : Nat} (d : decode cc pc = .ok (.tableswitch dflt lo hi offs, len)) (ho : offs[(z.toInt - lo).toNat]? = some off) (h1 : ¬ z.toInt < lo) (h2 : ¬ hi < z.toInt) (ht : (pc : Int) + off = (tgt : Int)) {B : Type} {a b r : B} (hs : (if x = z then a else b) = r) (kt : a = r → WG K p l e R st m args below meth c Q nL s tgt lv (rest)) (kf : ¬ x = z → b = r → WG K p l e R st m args below meth c Q nL s pc lv (.int x :: rest)) : WG K p l e R st m args below meth c Q nL s pc lv (.int x :: rest) := by
  by_cases hx : x = z
  · subst hx
    rw [if_pos rfl] at hs
    exact fun H locs ls w hl => lv_tableIn X.1.1 X.1.2.1 d h1 h2 ho ht (kt hs H locs ls w hl)
  · rw [if_neg hx] at hs
    exact kf hx hs
theorem g_tswO (X : Cx K p st m args meth c cc nL own) {dflt lo hi : Int} {offs : Array Int} {len : Nat} {x : Int32} {tgt : Nat} (d : decode cc pc = .ok (.tableswitch dflt lo hi offs, len)) (h : x.toInt < lo ∨ hi < x.toInt) (ht : (pc : Int) + dflt = (tgt : Int)) (k : WG K p l e R st m args below meth c Q nL s tgt lv (rest)) : WG K p l e R st m args below meth c Q nL s pc lv (.int x :: rest) := fun H locs ls w hl => lv_tableOut X.1.1 X.1.2.1 d h ht (k H locs ls w hl)
theorem g_nonnullN (X : Cx K p st m args meth c cc nL own) {off : Int} (d : decode cc pc = .ok (.ifnonnull off, 3)) (hq : pc + 3 = q) (k : WG K p l e R st m args below meth c Q nL s q lv (rest)) : WG K p l e R st m args below meth c Q nL s pc lv (.null :: rest) := by
  subst hq
  exact fun H locs ls w hl => lv_ifnonnullN X.1.1 X.1.2.1 d (k H locs ls w hl)
theorem cVN_R (X : Cx K p st m args meth c cc nL own) (b0 : Nat) {y : MethodName} {b2 : ByteArray} {n2 : Nat} {ret2 : Option FieldType} {d1 d0 idx n : Nat} {As : List Value} {a0 : Nat} {u0 : ST} (hM : MR l K d1 y b2 n2 ret2 s (.ref (kh K b0) :: As) a0 u0) {host : String} (hG : GoodIn GT (.code y b2 n2 ret2 :: GT)) (hlk : va_Nw (.methodLinkNest own idx y host) st) (hini : Cond.initialized y.cls ∈ GT) (hin : Cond.instanceMethod y ∈ GT) (hse : Cond.selects y.cls y y ∈ GT) (hR : d1 + 1 ≤ d0 ∧ 8 + (n2 + 11) + 100 * d1 ≤ 100 * d0) (hd : y.cls ≠ "java/lang/invoke/MethodHandle" ∧ y.cls ≠ "java/lang/invoke/VarHandle" ∧ (parseMethodDescriptor y.desc).map (fun d => d.parameters.length) = some n) (hAs : As.length = n) (hrest : (rest.map fun v => v.category).sum ≤ 8) {ci : Nat} (hb0 : b0 < kN K) {fs : List Value} {T : u_T} {N : Nat} (hg : kG K b0 (s.1 b0) (s.2 b0) = .inr (ci, fs)) (hc : vwCl[ci]? = some (y.cls, T, N)) {stk : List Value} (hst : stk = As.reverse ++ .ref (kh K b0) :: rest) (dg : decode cc pc = .ok (.invokevirtual idx, 3)) (hq : pc + 3 = q) (k : WG K p l e (rmD d0) st m args below meth c Q nL u0 q lv (.ref a0 :: rest)) : WG K p l e (rmD d0) st m args below meth c Q nL s pc lv (stk) := by
  subst hq
  subst hst
  intro H locs ls w hl
  refine va_callr (va_runVN (As := As) (rest := rest) X.1 hM ⟨va_cnB n X.1.2.2.2.2 hG rfl rfl rfl hlk (X.1.2.2.2.2 _ hini) hd hR, X.1.2.2.2.2 _ hin, X.1.2.2.2.2 _ hse⟩ ⟨blind_of, va_recv X.2.1 w.1 hc (by rw [kW_get hb0, hg]), fun U hU hW => pre_of X.2.1 X.2.2.1 X.2.2.2 w hU hW⟩ rfl hAs hl.1 rfl (lv_room hrest) dg ⟨Nat.zero_le _, Nat.zero_le _⟩) w.2 (fun q _ h => h) (fun q h => h) (fun u a t H1 locs1 ht hvm hw hB hz1 hk1 hS => ?_)
  subst hw
  obtain ⟨rfl, hB⟩ := hB
  exact k H1 locs1 ls ⟨by rw [← ht]; exact hB, hS⟩ hl
theorem cS_R (X : Cx K p st m args meth c cc nL own)  {y : MethodName} {b2 : ByteArray} {n2 : Nat} {ret2 : Option FieldType} {d1 d0 idx n : Nat} {As : List Value} {a0 : Nat} {u0 : ST} (hM : MR l K d1 y b2 n2 ret2 s As a0 u0) (hG : GoodIn GT (va_wsS own idx y (.code y b2 n2 ret2 :: GT))) (hR : d1 + 1 ≤ d0 ∧ 8 + (n2 + 11) + 100 * d1 ≤ 100 * d0) (hd : y.cls ≠ "java/lang/invoke/MethodHandle" ∧ y.cls ≠ "java/lang/invoke/VarHandle" ∧ (parseMethodDescriptor y.desc).map (fun d => d.parameters.length) = some n) (hAs : As.length = n) (hrest : (rest.map fun v => v.category).sum ≤ 8)  {stk : List Value} (hst : stk = As.reverse ++ rest) (dg : decode cc pc = .ok (.invokestatic idx, 3)) (hq : pc + 3 = q) (k : WG K p l e (rmD d0) st m args below meth c Q nL u0 q lv (.ref a0 :: rest)) : WG K p l e (rmD d0) st m args below meth c Q nL s pc lv (stk) := by
  subst hq
  subst hst
  intro H locs ls w hl
  refine va_callr (va_runS (As := As) (rest := rest) X.1 hM (va_cwS n X.1.2.2.2.2 hG rfl rfl rfl hd hR) ⟨blind_of, fun U hU hW => pre_of X.2.1 X.2.2.1 X.2.2.2 w hU hW⟩ rfl hAs hl.1 rfl (lv_room hrest) dg ⟨Nat.zero_le _, Nat.zero_le _⟩) w.2 (fun q _ h => h) (fun q h => h) (fun u a t H1 locs1 ht hvm hw hB hz1 hk1 hS => ?_)
  subst hw
  obtain ⟨rfl, hB⟩ := hB
  exact k H1 locs1 ls ⟨by rw [← ht]; exact hB, hS⟩ hl
theorem cX_I (X : Cx K p st m args meth c cc nL own) {b0 : Nat} {y : MethodName} {b2 : ByteArray} {n2 : Nat} {ret2 : Option FieldType} {d1 d0 idx n : Nat} {As : List Value} {r0 : Int32} {u0 : ST} (hM : MI l K d1 y b2 n2 ret2 s (.ref b0 :: As) r0 u0) (hG : GoodIn GT (wsV own idx y.cls y (.code y b2 n2 ret2 :: GT))) (hR : d1 + 1 ≤ d0 ∧ 8 + (n2 + 11) + 100 * d1 ≤ 100 * d0) (hd : y.cls ≠ "java/lang/invoke/MethodHandle" ∧ y.cls ≠ "java/lang/invoke/VarHandle" ∧ (parseMethodDescriptor y.desc).map (fun d => d.parameters.length) = some n) (hAs : As.length = n) (hrest : (rest.map fun v => v.category).sum ≤ 8) (hre : ∀ (H : Heap) (locs : List Loc), Wo K s st H locs → ∃ cell : Cell, H[b0]? = some cell ∧ cell.vm.isStatics = false ∧ st.vm.findClass y.cls = some cell.cls) {stk : List Value} (hst : stk = As.reverse ++ .ref b0 :: rest) (dg : decode cc pc = .ok (.invokevirtual idx, 3)) (hq : pc + 3 = q) (k : WG K p l e (rmD d0) st m args below meth c Q nL u0 q lv (.int r0 :: rest)) : WG K p l e (rmD d0) st m args below meth c Q nL s pc lv (stk) := by
  subst hq
  subst hst
  intro H locs ls w hl
  refine va_calli (va_runV (As := As) (rest := rest) X.1 hM (cwV n X.1.2.2.2.2 hG rfl rfl rfl ⟨rfl, hd⟩ hR) ⟨blind_of, hre H locs w, fun U hU hW => pre_of X.2.1 X.2.2.1 X.2.2.2 w hU hW⟩ rfl hAs hl.1 rfl (lv_room hrest) dg ⟨Nat.zero_le _, Nat.zero_le _⟩) w.2 (fun q _ h => h) (fun q h => h) (fun r u t H1 locs1 ht hvm hw hB hz1 hk1 hS => ?_)
  obtain ⟨rfl, rfl⟩ := hw
  exact k H1 locs1 ls ⟨by rw [← ht]; exact hB, hS⟩ hl
end R
theorem jnW0 {B : Type} {Kk : B} {g : (B) → B} {r : B} {Gg : Prop} (P : Prop) (hs : Lt Kk g = r) (hk : Kk  = r → P ) (hb : ∀ (j : B), (j  = r → P ) → g j = r → Gg) : Gg := hb Kk hk hs
def lpK1 {C A1 : Type} (stp : (A1 → Option C) → A1 → Option C) : Nat → A1 → Option C
  | 0 => fun _ => none
  | k + 1 => stp (lpK1 stp k)
theorem lpW1 {C A1 : Type} {stp : (A1 → Option C) → A1 → Option C} {o : C} (P : A1 → Prop) (hst : ∀ (rec : A1 → Option C), (∀ (a1 : A1), rec a1 = some o → P a1) → ∀ (a1 : A1), stp rec a1 = some o → P a1) : ∀ (k : Nat) (a1 : A1), lpK1 stp k a1 = some o → P a1
  | 0, _, h => by cases h
  | k + 1, a1, h => hst (lpK1 stp k) (lpW1 P hst k) a1 h
theorem jnW1 {B : Type} {A1 : Type} {Kk : A1 → B} {g : (A1 → B) → B} {r : B} {Gg : Prop} (P : A1 → Prop) (hs : Lt Kk g = r) (hk : ∀ (a1 : A1), Kk a1 = r → P a1) (hb : ∀ (j : A1 → B), (∀ (a1 : A1), j a1 = r → P a1) → g j = r → Gg) : Gg := hb Kk hk hs
def lpK2 {C A1 A2 : Type} (stp : (A1 → A2 → Option C) → A1 → A2 → Option C) : Nat → A1 → A2 → Option C
  | 0 => fun _ _ => none
  | k + 1 => stp (lpK2 stp k)
theorem lpW2 {C A1 A2 : Type} {stp : (A1 → A2 → Option C) → A1 → A2 → Option C} {o : C} (P : A1 → A2 → Prop) (hst : ∀ (rec : A1 → A2 → Option C), (∀ (a1 : A1) (a2 : A2), rec a1 a2 = some o → P a1 a2) → ∀ (a1 : A1) (a2 : A2), stp rec a1 a2 = some o → P a1 a2) : ∀ (k : Nat) (a1 : A1) (a2 : A2), lpK2 stp k a1 a2 = some o → P a1 a2
  | 0, _, _, h => by cases h
  | k + 1, a1, a2, h => hst (lpK2 stp k) (lpW2 P hst k) a1 a2 h
theorem jnW2 {B : Type} {A1 A2 : Type} {Kk : A1 → A2 → B} {g : (A1 → A2 → B) → B} {r : B} {Gg : Prop} (P : A1 → A2 → Prop) (hs : Lt Kk g = r) (hk : ∀ (a1 : A1) (a2 : A2), Kk a1 a2 = r → P a1 a2) (hb : ∀ (j : A1 → A2 → B), (∀ (a1 : A1) (a2 : A2), j a1 a2 = r → P a1 a2) → g j = r → Gg) : Gg := hb Kk hk hs
def lpK3 {C A1 A2 A3 : Type} (stp : (A1 → A2 → A3 → Option C) → A1 → A2 → A3 → Option C) : Nat → A1 → A2 → A3 → Option C
  | 0 => fun _ _ _ => none
  | k + 1 => stp (lpK3 stp k)
theorem lpW3 {C A1 A2 A3 : Type} {stp : (A1 → A2 → A3 → Option C) → A1 → A2 → A3 → Option C} {o : C} (P : A1 → A2 → A3 → Prop) (hst : ∀ (rec : A1 → A2 → A3 → Option C), (∀ (a1 : A1) (a2 : A2) (a3 : A3), rec a1 a2 a3 = some o → P a1 a2 a3) → ∀ (a1 : A1) (a2 : A2) (a3 : A3), stp rec a1 a2 a3 = some o → P a1 a2 a3) : ∀ (k : Nat) (a1 : A1) (a2 : A2) (a3 : A3), lpK3 stp k a1 a2 a3 = some o → P a1 a2 a3
  | 0, _, _, _, h => by cases h
  | k + 1, a1, a2, a3, h => hst (lpK3 stp k) (lpW3 P hst k) a1 a2 a3 h
theorem jnW3 {B : Type} {A1 A2 A3 : Type} {Kk : A1 → A2 → A3 → B} {g : (A1 → A2 → A3 → B) → B} {r : B} {Gg : Prop} (P : A1 → A2 → A3 → Prop) (hs : Lt Kk g = r) (hk : ∀ (a1 : A1) (a2 : A2) (a3 : A3), Kk a1 a2 a3 = r → P a1 a2 a3) (hb : ∀ (j : A1 → A2 → A3 → B), (∀ (a1 : A1) (a2 : A2) (a3 : A3), j a1 a2 a3 = r → P a1 a2 a3) → g j = r → Gg) : Gg := hb Kk hk hs
def lpK4 {C A1 A2 A3 A4 : Type} (stp : (A1 → A2 → A3 → A4 → Option C) → A1 → A2 → A3 → A4 → Option C) : Nat → A1 → A2 → A3 → A4 → Option C
  | 0 => fun _ _ _ _ => none
  | k + 1 => stp (lpK4 stp k)
theorem lpW4 {C A1 A2 A3 A4 : Type} {stp : (A1 → A2 → A3 → A4 → Option C) → A1 → A2 → A3 → A4 → Option C} {o : C} (P : A1 → A2 → A3 → A4 → Prop) (hst : ∀ (rec : A1 → A2 → A3 → A4 → Option C), (∀ (a1 : A1) (a2 : A2) (a3 : A3) (a4 : A4), rec a1 a2 a3 a4 = some o → P a1 a2 a3 a4) → ∀ (a1 : A1) (a2 : A2) (a3 : A3) (a4 : A4), stp rec a1 a2 a3 a4 = some o → P a1 a2 a3 a4) : ∀ (k : Nat) (a1 : A1) (a2 : A2) (a3 : A3) (a4 : A4), lpK4 stp k a1 a2 a3 a4 = some o → P a1 a2 a3 a4
  | 0, _, _, _, _, h => by cases h
  | k + 1, a1, a2, a3, a4, h => hst (lpK4 stp k) (lpW4 P hst k) a1 a2 a3 a4 h
theorem jnW4 {B : Type} {A1 A2 A3 A4 : Type} {Kk : A1 → A2 → A3 → A4 → B} {g : (A1 → A2 → A3 → A4 → B) → B} {r : B} {Gg : Prop} (P : A1 → A2 → A3 → A4 → Prop) (hs : Lt Kk g = r) (hk : ∀ (a1 : A1) (a2 : A2) (a3 : A3) (a4 : A4), Kk a1 a2 a3 a4 = r → P a1 a2 a3 a4) (hb : ∀ (j : A1 → A2 → A3 → A4 → B), (∀ (a1 : A1) (a2 : A2) (a3 : A3) (a4 : A4), j a1 a2 a3 a4 = r → P a1 a2 a3 a4) → g j = r → Gg) : Gg := hb Kk hk hs
def lpK5 {C A1 A2 A3 A4 A5 : Type} (stp : (A1 → A2 → A3 → A4 → A5 → Option C) → A1 → A2 → A3 → A4 → A5 → Option C) : Nat → A1 → A2 → A3 → A4 → A5 → Option C
  | 0 => fun _ _ _ _ _ => none
  | k + 1 => stp (lpK5 stp k)
theorem lpW5 {C A1 A2 A3 A4 A5 : Type} {stp : (A1 → A2 → A3 → A4 → A5 → Option C) → A1 → A2 → A3 → A4 → A5 → Option C} {o : C} (P : A1 → A2 → A3 → A4 → A5 → Prop) (hst : ∀ (rec : A1 → A2 → A3 → A4 → A5 → Option C), (∀ (a1 : A1) (a2 : A2) (a3 : A3) (a4 : A4) (a5 : A5), rec a1 a2 a3 a4 a5 = some o → P a1 a2 a3 a4 a5) → ∀ (a1 : A1) (a2 : A2) (a3 : A3) (a4 : A4) (a5 : A5), stp rec a1 a2 a3 a4 a5 = some o → P a1 a2 a3 a4 a5) : ∀ (k : Nat) (a1 : A1) (a2 : A2) (a3 : A3) (a4 : A4) (a5 : A5), lpK5 stp k a1 a2 a3 a4 a5 = some o → P a1 a2 a3 a4 a5
  | 0, _, _, _, _, _, h => by cases h
  | k + 1, a1, a2, a3, a4, a5, h => hst (lpK5 stp k) (lpW5 P hst k) a1 a2 a3 a4 a5 h
theorem jnW5 {B : Type} {A1 A2 A3 A4 A5 : Type} {Kk : A1 → A2 → A3 → A4 → A5 → B} {g : (A1 → A2 → A3 → A4 → A5 → B) → B} {r : B} {Gg : Prop} (P : A1 → A2 → A3 → A4 → A5 → Prop) (hs : Lt Kk g = r) (hk : ∀ (a1 : A1) (a2 : A2) (a3 : A3) (a4 : A4) (a5 : A5), Kk a1 a2 a3 a4 a5 = r → P a1 a2 a3 a4 a5) (hb : ∀ (j : A1 → A2 → A3 → A4 → A5 → B), (∀ (a1 : A1) (a2 : A2) (a3 : A3) (a4 : A4) (a5 : A5), j a1 a2 a3 a4 a5 = r → P a1 a2 a3 a4 a5) → g j = r → Gg) : Gg := hb Kk hk hs
def lpK6 {C A1 A2 A3 A4 A5 A6 : Type} (stp : (A1 → A2 → A3 → A4 → A5 → A6 → Option C) → A1 → A2 → A3 → A4 → A5 → A6 → Option C) : Nat → A1 → A2 → A3 → A4 → A5 → A6 → Option C
  | 0 => fun _ _ _ _ _ _ => none
  | k + 1 => stp (lpK6 stp k)
theorem lpW6 {C A1 A2 A3 A4 A5 A6 : Type} {stp : (A1 → A2 → A3 → A4 → A5 → A6 → Option C) → A1 → A2 → A3 → A4 → A5 → A6 → Option C} {o : C} (P : A1 → A2 → A3 → A4 → A5 → A6 → Prop) (hst : ∀ (rec : A1 → A2 → A3 → A4 → A5 → A6 → Option C), (∀ (a1 : A1) (a2 : A2) (a3 : A3) (a4 : A4) (a5 : A5) (a6 : A6), rec a1 a2 a3 a4 a5 a6 = some o → P a1 a2 a3 a4 a5 a6) → ∀ (a1 : A1) (a2 : A2) (a3 : A3) (a4 : A4) (a5 : A5) (a6 : A6), stp rec a1 a2 a3 a4 a5 a6 = some o → P a1 a2 a3 a4 a5 a6) : ∀ (k : Nat) (a1 : A1) (a2 : A2) (a3 : A3) (a4 : A4) (a5 : A5) (a6 : A6), lpK6 stp k a1 a2 a3 a4 a5 a6 = some o → P a1 a2 a3 a4 a5 a6
  | 0, _, _, _, _, _, _, h => by cases h
  | k + 1, a1, a2, a3, a4, a5, a6, h => hst (lpK6 stp k) (lpW6 P hst k) a1 a2 a3 a4 a5 a6 h
theorem jnW6 {B : Type} {A1 A2 A3 A4 A5 A6 : Type} {Kk : A1 → A2 → A3 → A4 → A5 → A6 → B} {g : (A1 → A2 → A3 → A4 → A5 → A6 → B) → B} {r : B} {Gg : Prop} (P : A1 → A2 → A3 → A4 → A5 → A6 → Prop) (hs : Lt Kk g = r) (hk : ∀ (a1 : A1) (a2 : A2) (a3 : A3) (a4 : A4) (a5 : A5) (a6 : A6), Kk a1 a2 a3 a4 a5 a6 = r → P a1 a2 a3 a4 a5 a6) (hb : ∀ (j : A1 → A2 → A3 → A4 → A5 → A6 → B), (∀ (a1 : A1) (a2 : A2) (a3 : A3) (a4 : A4) (a5 : A5) (a6 : A6), j a1 a2 a3 a4 a5 a6 = r → P a1 a2 a3 a4 a5 a6) → g j = r → Gg) : Gg := hb Kk hk hs
def lpK7 {C A1 A2 A3 A4 A5 A6 A7 : Type} (stp : (A1 → A2 → A3 → A4 → A5 → A6 → A7 → Option C) → A1 → A2 → A3 → A4 → A5 → A6 → A7 → Option C) : Nat → A1 → A2 → A3 → A4 → A5 → A6 → A7 → Option C
  | 0 => fun _ _ _ _ _ _ _ => none
  | k + 1 => stp (lpK7 stp k)
theorem lpW7 {C A1 A2 A3 A4 A5 A6 A7 : Type} {stp : (A1 → A2 → A3 → A4 → A5 → A6 → A7 → Option C) → A1 → A2 → A3 → A4 → A5 → A6 → A7 → Option C} {o : C} (P : A1 → A2 → A3 → A4 → A5 → A6 → A7 → Prop) (hst : ∀ (rec : A1 → A2 → A3 → A4 → A5 → A6 → A7 → Option C), (∀ (a1 : A1) (a2 : A2) (a3 : A3) (a4 : A4) (a5 : A5) (a6 : A6) (a7 : A7), rec a1 a2 a3 a4 a5 a6 a7 = some o → P a1 a2 a3 a4 a5 a6 a7) → ∀ (a1 : A1) (a2 : A2) (a3 : A3) (a4 : A4) (a5 : A5) (a6 : A6) (a7 : A7), stp rec a1 a2 a3 a4 a5 a6 a7 = some o → P a1 a2 a3 a4 a5 a6 a7) : ∀ (k : Nat) (a1 : A1) (a2 : A2) (a3 : A3) (a4 : A4) (a5 : A5) (a6 : A6) (a7 : A7), lpK7 stp k a1 a2 a3 a4 a5 a6 a7 = some o → P a1 a2 a3 a4 a5 a6 a7
  | 0, _, _, _, _, _, _, _, h => by cases h
  | k + 1, a1, a2, a3, a4, a5, a6, a7, h => hst (lpK7 stp k) (lpW7 P hst k) a1 a2 a3 a4 a5 a6 a7 h
theorem jnW7 {B : Type} {A1 A2 A3 A4 A5 A6 A7 : Type} {Kk : A1 → A2 → A3 → A4 → A5 → A6 → A7 → B} {g : (A1 → A2 → A3 → A4 → A5 → A6 → A7 → B) → B} {r : B} {Gg : Prop} (P : A1 → A2 → A3 → A4 → A5 → A6 → A7 → Prop) (hs : Lt Kk g = r) (hk : ∀ (a1 : A1) (a2 : A2) (a3 : A3) (a4 : A4) (a5 : A5) (a6 : A6) (a7 : A7), Kk a1 a2 a3 a4 a5 a6 a7 = r → P a1 a2 a3 a4 a5 a6 a7) (hb : ∀ (j : A1 → A2 → A3 → A4 → A5 → A6 → A7 → B), (∀ (a1 : A1) (a2 : A2) (a3 : A3) (a4 : A4) (a5 : A5) (a6 : A6) (a7 : A7), j a1 a2 a3 a4 a5 a6 a7 = r → P a1 a2 a3 a4 a5 a6 a7) → g j = r → Gg) : Gg := hb Kk hk hs
def lpK8 {C A1 A2 A3 A4 A5 A6 A7 A8 : Type} (stp : (A1 → A2 → A3 → A4 → A5 → A6 → A7 → A8 → Option C) → A1 → A2 → A3 → A4 → A5 → A6 → A7 → A8 → Option C) : Nat → A1 → A2 → A3 → A4 → A5 → A6 → A7 → A8 → Option C
  | 0 => fun _ _ _ _ _ _ _ _ => none
  | k + 1 => stp (lpK8 stp k)
theorem lpW8 {C A1 A2 A3 A4 A5 A6 A7 A8 : Type} {stp : (A1 → A2 → A3 → A4 → A5 → A6 → A7 → A8 → Option C) → A1 → A2 → A3 → A4 → A5 → A6 → A7 → A8 → Option C} {o : C} (P : A1 → A2 → A3 → A4 → A5 → A6 → A7 → A8 → Prop) (hst : ∀ (rec : A1 → A2 → A3 → A4 → A5 → A6 → A7 → A8 → Option C), (∀ (a1 : A1) (a2 : A2) (a3 : A3) (a4 : A4) (a5 : A5) (a6 : A6) (a7 : A7) (a8 : A8), rec a1 a2 a3 a4 a5 a6 a7 a8 = some o → P a1 a2 a3 a4 a5 a6 a7 a8) → ∀ (a1 : A1) (a2 : A2) (a3 : A3) (a4 : A4) (a5 : A5) (a6 : A6) (a7 : A7) (a8 : A8), stp rec a1 a2 a3 a4 a5 a6 a7 a8 = some o → P a1 a2 a3 a4 a5 a6 a7 a8) : ∀ (k : Nat) (a1 : A1) (a2 : A2) (a3 : A3) (a4 : A4) (a5 : A5) (a6 : A6) (a7 : A7) (a8 : A8), lpK8 stp k a1 a2 a3 a4 a5 a6 a7 a8 = some o → P a1 a2 a3 a4 a5 a6 a7 a8
  | 0, _, _, _, _, _, _, _, _, h => by cases h
  | k + 1, a1, a2, a3, a4, a5, a6, a7, a8, h => hst (lpK8 stp k) (lpW8 P hst k) a1 a2 a3 a4 a5 a6 a7 a8 h
theorem jnW8 {B : Type} {A1 A2 A3 A4 A5 A6 A7 A8 : Type} {Kk : A1 → A2 → A3 → A4 → A5 → A6 → A7 → A8 → B} {g : (A1 → A2 → A3 → A4 → A5 → A6 → A7 → A8 → B) → B} {r : B} {Gg : Prop} (P : A1 → A2 → A3 → A4 → A5 → A6 → A7 → A8 → Prop) (hs : Lt Kk g = r) (hk : ∀ (a1 : A1) (a2 : A2) (a3 : A3) (a4 : A4) (a5 : A5) (a6 : A6) (a7 : A7) (a8 : A8), Kk a1 a2 a3 a4 a5 a6 a7 a8 = r → P a1 a2 a3 a4 a5 a6 a7 a8) (hb : ∀ (j : A1 → A2 → A3 → A4 → A5 → A6 → A7 → A8 → B), (∀ (a1 : A1) (a2 : A2) (a3 : A3) (a4 : A4) (a5 : A5) (a6 : A6) (a7 : A7) (a8 : A8), j a1 a2 a3 a4 a5 a6 a7 a8 = r → P a1 a2 a3 a4 a5 a6 a7 a8) → g j = r → Gg) : Gg := hb Kk hk hs
theorem tsw_ne {x z : Int32} {k : Int} (h : ¬ x = z) (hk : z.toInt = k) : x.toInt ≠ k := fun q => h (Int32.toInt_inj.mp (by rw [hk]; exact q))
