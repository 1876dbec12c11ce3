theorem oi_in : Cond.instanceMethod Lib.objectInit ∈ GT := gt_of 222 (by decide +kernel) rfl
theorem oi_co : Cond.code Lib.objectInit ⟨#[0xb1]⟩ 1 none ∈ GT := gt_of 223 (by decide +kernel) rfl
theorem arrc_int : Cond.arrayClass (newarray.typeOf .int) ∈ GT := gt_of 316 (by decide +kernel) rfl
def rmC (d mc ms : Nat) : Room := { frames := d, cells := mc, slots := ms, locals := 100 * d }
def CW (D : va_G) (A : Nat → Prop) (u : State) (ws : va_W) (H : Heap) (locs : List Loc) : Prop := va_P D vwCl ws H ∧ va_D A ws ∧ va_S A u.heap H locs
/-- the classes of the arrays are what the tables find -/
def KT2 (U : State) (cA cL : ClassId) : Prop := U.vm.findClass ("[" ++ (FieldType.int).toString) = some cA ∧ U.vm.findClass ("[" ++ (FieldType.object "StormSeeds$Land").toString) = some cL
def CX (D : va_G) (cA cL : ClassId) (A : Nat → Prop) (p : Program) (st : State) (m : MethodId) (args : Array Value) (meth : Method) (c : Code) (cc : ByteArray) (nL : Nat) (own : String) : Prop :=
  CallFix p m c cc nL st args GT own ∧ va_K D vwCl [(cA, .int), (cL, .object "StormSeeds$Land")] st ∧ (∀ q, st.heap.size ≤ q → A q) ∧ (∀ w ∈ NW, va_Nw w st) ∧ va_AO "StormSeeds$Land" st ∧ meth.name = "<init>"
def CG (D : va_G) (A : Nat → Prop) (p : Program) (l : Launch) (e : Env) (R : Room) (st : State) (m : MethodId) (args : Array Value) (below : List Frame) (meth : Method) (c : Code) (Q : State → Prop) (nL : Nat) (ws : va_W) (ce sl : Nat) (pc : Nat) (lv : List (Nat × Value)) (stk : List Value) : Prop :=
  ∀ (H : Heap) (locs : List Loc) (ls : Array Slot), CW D A st ws H locs → lv_has ls nL lv → W p l e R st m args below meth c H locs ce sl Q (F0 m pc ls stk)
def PreC (D : va_G) (cA cL : ClassId) (sz : Nat) (ws0 : va_W) (as : List Value) : Array Value → State → Prop := va_Pc as (fun U => U.heap.size = sz ∧ va_P D vwCl ws0 U.heap ∧ va_K D vwCl [(cA, .int), (cL, .object "StormSeeds$Land")] U ∧ va_D (fun _ => True) ws0 ∧ (∀ w ∈ NW, va_Nw w U) ∧ va_AO "StormSeeds$Land" U)
def PostC (D : va_G) (ws0 : va_W) (sz : Nat) (W1 : (Nat → Nat) → va_W) : (Nat → Nat) → State → Prop := fun u U => va_P D vwCl (W1 u) U.heap ∧ va_D (va_A ws0 sz) (W1 u)
abbrev MC (l : Launch) (y : MethodName) (b : ByteArray) (n : Nat) (D : va_G) (cA cL : ClassId) (d mc ms : Nat) (ws0 : va_W) (as : List Value) (W1 : (Nat → Nat) → va_W) : Prop :=
  ∀ sz : Nat, Met l y (.code y b n none :: GT) (rmC d mc ms) (PreC D cA cL sz ws0 as) (va_Qv (fun _ : Nat → Nat => True) (PostC D ws0 sz W1) (va_A ws0 sz)) mc ms (va_A ws0 sz)
theorem nw_warm {s U : State} (hW : s.WarmedH U.vm) (h : ∀ w ∈ NW, va_Nw w s) : ∀ w ∈ NW, va_Nw w U := by
  intro w hw
  have hn := (List.mem_filter.mp hw).2
  cases w with
  | fieldLinkNest a i b n d x => exact va_Nw.warmF hW (h _ hw)
  | methodLinkNest a i x y => exact va_Nw.warmM hW (h _ hw)
  | _ => exact absurd hn (by simp [isNest])
theorem nw_same {s U : State} (hv : s.vm = U.vm) (h : ∀ w ∈ NW, va_Nw w s) : ∀ w ∈ NW, va_Nw w U := by
  intro w hw
  have hn := (List.mem_filter.mp hw).2
  cases w with
  | fieldLinkNest a i b n d x => exact va_Nw.same rfl hv (h _ hw)
  | methodLinkNest a i x y => exact va_Nw.same rfl hv (h _ hw)
  | _ => exact absurd hn (by simp [isNest])
theorem met_c {l : Launch} {y : MethodName} {b : ByteArray} {n : Nat} {D : va_G} {cA cL : ClassId} {d mc ms : Nat} {ws0 : va_W} {as : List Value} {W1 : (Nat → Nat) → va_W} (hy : plainName y.cls = true) (hi : y.name = "<init>") (hn : (lg_sl as).length ≤ n)
    (body : ∀ (p : Program) (e : Env) (st : State) (m : MethodId) (args : Array Value) (below : List Frame) (meth : Method) (c : Code) (Q : State → Prop) (A : Nat → Prop), CX D cA cL A p st m args meth c b n y.cls →
      (∀ (pc : Nat) (lv : List (Nat × Value)) (u : Nat → Nat), decode b pc = .ok (.return_, 1) → CG D A p l e (rmC d mc ms) st m args below meth c Q n (W1 u) mc ms pc lv []) →
      CG D A p l e (rmC d mc ms) st m args below meth c Q n ws0 0 0 0 (lv_args 0 as) []) : MC l y b n D cA cL d mc ms ws0 as W1 := by
  intro sz
  refine Met.ofW (cc := b) (maxL := n) (ret := none) hy rfl ?_
  intro p e st m args below meth c s₁ B hml hv
  have hr := B.returns
  have hlocks := B.notSynchronized
  obtain ⟨rfl, hz, hP, hK, hD, hN, hO⟩ := hv
  have hts := atoms_spec (ws := .code y b n none :: GT) B.pre
  have hown : st.vm.findClass y.cls = some m.cls := findClass_of_methodNamed B.named
  have hin : meth.name = "<init>" := (name_of_methodNamed B.named B.method).1.trans hi
  rw [lg_entry_eq]
  refine body p e st m as.toArray below meth c _ (va_A ws0 sz) ⟨⟨B.exec, B.bytes, hml, hown, fun w hw => hts w (List.mem_cons_of_mem _ hw)⟩, hK, fun q hq => Or.inr (by rw [← hz]; exact hq), hN, hO, hin⟩ ?_ _ _ _ ⟨hP, hD.self, va_S.rf⟩ (lv_entry as hn)
  intro pc lv u hdg H locs ls w hl
  exact W.vret B.exec B.bytes hr (fun t ht _ => ⟨⟨u, rfl, trivial, by rw [← ht] at w; exact w.1, w.2.1⟩, w.2.2.F ht⟩) w.2.2.2.2 hdg hlocks
theorem join_last {A0 : Nat → Prop} {D : va_G} {cl : List vw_C} {X w1 : va_W} {q : Nat} {e : va_E} {H H1 : Heap} (hP : va_P D cl (X ++ [(q, e)]) H) (hD : va_D A0 (X ++ [(q, e)])) (hk : ∀ a : Nat, a < H.size → ¬ va_A [(q, e)] H.size a → H1[a]? = H[a]?) (hF : ∀ a, va_A [(q, e)] H.size a → A0 a) (hP1 : va_P D cl w1 H1) (hD1 : va_D (va_A [(q, e)] H.size) w1) : va_P D cl (X ++ w1) H1 ∧ va_D A0 (X ++ w1) := by
  have inX : ∀ (k : Nat) (x : Nat × va_E), X[k]? = some x → (X ++ [(q, e)])[k]? = some x ∧ k < X.length := fun k x hx => by
    have hl := (List.getElem?_eq_some_iff.mp hx).1
    exact ⟨by rw [List.getElem?_append_left hl]; exact hx, hl⟩
  have hq : (X ++ [(q, e)])[X.length]? = some (q, e) := by rw [List.getElem?_append_right (Nat.le_refl _)]; simp
  have apart : ∀ (k : Nat) (x : Nat × va_E), X[k]? = some x → x.1 < H.size ∧ ¬ va_A [(q, e)] H.size x.1 := by
    intro k x hx
    obtain ⟨h1, h2⟩ := inX k x hx
    have hl := (hP k x h1).lt
    refine ⟨hl, fun h => ?_⟩
    rcases h with ⟨j, e', h⟩ | h
    · have hj : j = 0 := by
        have := (List.getElem?_eq_some_iff.mp h).1
        simpa using this
      subst hj
      have hx1 : x.1 = q := by simp at h; exact h.1.symm
      have := hD.1 k X.length x (q, e) h1 hq hx1
      omega
    · omega
  have hDX : va_D A0 X := ⟨fun i j x y hx hy => hD.1 i j x y (inX i x hx).1 (inX j y hy).1, fun k x hx => hD.2 k x (inX k x hx).1⟩
  refine ⟨va_P.app (fun k x hx => (hP k x (inX k x hx).1).kept (hk x.1 (apart k x hx).1 (apart k x hx).2)) hP1, va_D.app hDX (hD1.weaken (fun k x _ h => hF x.1 h)) (fun i j x y hx hy hxy => ?_)⟩
  exact (apart i x hx).2 (by rw [hxy]; exact hD1.2 j y hy)
section CCR
variable {D : va_G} {cA cL : ClassId} {A : Nat → Prop} {p : Program} {l : Launch} {e : Env} {R : Room} {st : State} {m : MethodId} {args : Array Value} {below : List Frame} {meth : Method} {c : Code} {Q : State → Prop} {nL : Nat} {cc : ByteArray} {own : String} {ws ws' : va_W} {ce sl pc q : Nat} {lv lv' : List (Nat × Value)} {rest : List Value}
theorem h_iconst (X : CX D cA cL A p st m args meth c cc nL own) {n : Int} {v : Int32} (d : decode cc pc = .ok (.iconst n, 1)) (hq : pc + 1 = q) (hv : Int32.ofInt n = v) (k : CG D A p l e R st m args below meth c Q nL (ws) ce sl q lv (.int v :: rest)) : CG D A p l e R st m args below meth c Q nL (ws) ce sl pc lv (rest) := by
  subst hq
  exact fun H locs ls w hl => lv_iconst X.1.1 X.1.2.1 d hv (k H locs ls w hl)
theorem h_bipush (X : CX D cA cL A p st m args meth c cc nL own) {n : Int} {v : Int32} (d : decode cc pc = .ok (.bipush n, 2)) (hq : pc + 2 = q) (hv : (Int8.ofInt n).toInt32 = v) (k : CG D A p l e R st m args below meth c Q nL (ws) ce sl q lv (.int v :: rest)) : CG D A p l e R st m args below meth c Q nL (ws) ce sl pc lv (rest) := by
  subst hq
  exact fun H locs ls w hl => lv_bipush X.1.1 X.1.2.1 d hv (k H locs ls w hl)
theorem h_sipush (X : CX D cA cL A p st m args meth c cc nL own) {n : Int} {v : Int32} (d : decode cc pc = .ok (.sipush n, 3)) (hq : pc + 3 = q) (hv : (Int16.ofInt n).toInt32 = v) (k : CG D A p l e R st m args below meth c Q nL (ws) ce sl q lv (.int v :: rest)) : CG D A p l e R st m args below meth c Q nL (ws) ce sl pc lv (rest) := by
  subst hq
  exact fun H locs ls w hl => lv_sipush X.1.1 X.1.2.1 d hv (k H locs ls w hl)
theorem h_iload_n (X : CX D cA cL A p st m args meth c cc nL own) {n : Fin 4} {x : Int32} (d : decode cc pc = .ok (.iload_n n, 1)) (hq : pc + 1 = q) (a : Nat) (ha : lv[a]? = some ((n : Nat), .int x)) (k : CG D A p l e R st m args below meth c Q nL (ws) ce sl q lv (.int x :: rest)) : CG D A p l e R st m args below meth c Q nL (ws) ce sl pc lv (rest) := by
  subst hq
  exact fun H locs ls w hl => lv_iload_n X.1.1 X.1.2.1 d rfl (lv_at hl a ha) (k H locs ls w hl)
theorem h_aload_n (X : CX D cA cL A p st m args meth c cc nL own) {n : Fin 4} {x : Nat} (d : decode cc pc = .ok (.aload_n n, 1)) (hq : pc + 1 = q) (a : Nat) (ha : lv[a]? = some ((n : Nat), .ref x)) (k : CG D A p l e R st m args below meth c Q nL (ws) ce sl q lv (.ref x :: rest)) : CG D A p l e R st m args below meth c Q nL (ws) ce sl pc lv (rest) := by
  subst hq
  exact fun H locs ls w hl => lv_aload_n X.1.1 X.1.2.1 d rfl (lv_at hl a ha) (k H locs ls w hl)
theorem h_aload_nN (X : CX D cA cL A p st m args meth c cc nL own) {n : Fin 4} (d : decode cc pc = .ok (.aload_n n, 1)) (hq : pc + 1 = q) (a : Nat) (ha : lv[a]? = some ((n : Nat), .null)) (k : CG D A p l e R st m args below meth c Q nL (ws) ce sl q lv (.null :: rest)) : CG D A p l e R st m args below meth c Q nL (ws) ce sl pc lv (rest) := by
  subst hq
  exact fun H locs ls w hl => lv_aload_nN X.1.1 X.1.2.1 d rfl (lv_at hl a ha) (k H locs ls w hl)
theorem h_null (X : CX D cA cL A p st m args meth c cc nL own)  (d : decode cc pc = .ok (.aconst_null, 1)) (hq : pc + 1 = q)  (k : CG D A p l e R st m args below meth c Q nL (ws) ce sl q lv (.null :: rest)) : CG D A p l e R st m args below meth c Q nL (ws) ce sl pc lv (rest) := by
  subst hq
  exact fun H locs ls w hl => lv_null X.1.1 X.1.2.1 d (k H locs ls w hl)
theorem h_dup (X : CX D cA cL A p st m args meth c cc nL own) {v : Value} (d : decode cc pc = .ok (.dup, 1)) (hq : pc + 1 = q) (hv : v.category = 1) (k : CG D A p l e R st m args below meth c Q nL (ws) ce sl q lv (v :: v :: rest)) : CG D A p l e R st m args below meth c Q nL (ws) ce sl pc lv (v :: rest) := by
  subst hq
  exact fun H locs ls w hl => lv_dup X.1.1 X.1.2.1 d hv (k H locs ls w hl)
theorem h_imul (X : CX D cA cL A p st m args meth c cc nL own) {x y : Int32} (d : decode cc pc = .ok (.imul, 1)) (hq : pc + 1 = q) {v : Int32} (hv : x * y = v) (k : CG D A p l e R st m args below meth c Q nL (ws) ce sl q lv (.int v :: rest)) : CG D A p l e R st m args below meth c Q nL (ws) ce sl pc lv (.int y :: .int x :: rest) := by
  subst hq
  exact fun H locs ls w hl => lv_imul X.1.1 X.1.2.1 d (by rw [hv]; exact k H locs ls w hl)
theorem h_istore_n (X : CX D cA cL A p st m args meth c cc nL own) {n : Fin 4} {x : Int32} (d : decode cc pc = .ok (.istore_n n, 1)) (hq : pc + 1 = q) (hn : (n : Nat) < nL) (hl' : ((n : Nat), Value.int x) :: lv.filter (fun q => !(q.1 == (n : Nat)) && !(q.1 + 1 == (n : Nat) && q.2.category == 2)) = lv') (k : CG D A p l e R st m args below meth c Q nL (ws) ce sl q lv' (rest)) : CG D A p l e R st m args below meth c Q nL (ws) ce sl pc lv (.int x :: rest) := by
  subst hq
  exact fun H locs ls w hl => lv_istore_n X.1.1 X.1.2.1 d rfl hl hn hl' (fun ls' h' => k H locs ls' w h')
theorem h_iinc (X : CX D cA cL A p st m args meth c cc nL own) {i : Nat} {n : Int} {x v : Int32} (d : decode cc pc = .ok (.iinc i n, 3)) (hq : pc + 3 = q) (a : Nat) (ha : lv[a]? = some (i, .int x)) (hv : x + Int32.ofInt n = v) (hn : i < nL) (hl' : (i, Value.int v) :: lv.filter (fun q => !(q.1 == i) && !(q.1 + 1 == i && q.2.category == 2)) = lv') (k : CG D A p l e R st m args below meth c Q nL (ws) ce sl q lv' (rest)) : CG D A p l e R st m args below meth c Q nL (ws) ce sl pc lv (rest) := by
  subst hq
  exact fun H locs ls w hl => lv_iinc X.1.1 X.1.2.1 d hl ha hv hn hl' (fun ls' h' => k H locs ls' w h')
theorem h_goto (X : CX D cA cL A p st m args meth c cc nL own) {off : Int} {tgt : Nat} (d : decode cc pc = .ok (.goto off, 3)) (ht : (pc : Int) + off = (tgt : Int)) (k : CG D A p l e R st m args below meth c Q nL (ws) ce sl tgt lv (rest)) : CG D A p l e R st m args below meth c Q nL (ws) ce sl pc lv (rest) := fun H locs ls w hl => lv_goto X.1.1 X.1.2.1 d ht (k H locs ls w hl)
theorem h_geT (X : CX D cA cL A p st m args meth c cc nL own) {x y : Int32} {off : Int} {tgt : Nat} (d : decode cc pc = .ok (.if_icmp .ge off, 3)) (ht : (pc : Int) + off = (tgt : Int)) (hc : y ≤ x) (k : CG D A p l e R st m args below meth c Q nL (ws) ce sl tgt lv (rest)) : CG D A p l e R st m args below meth c Q nL (ws) ce sl pc lv (.int y :: .int x :: rest) := fun H locs ls w hl => lv_icmp_ge X.1.1 X.1.2.1 d ht (fun _ => (k H locs ls w hl)) (fun h => absurd hc h)
theorem h_geF (X : CX D cA cL A p st m args meth c cc nL own) {x y : Int32} {off : Int} {tgt : Nat} (d : decode cc pc = .ok (.if_icmp .ge off, 3)) (hq : pc + 3 = q) (ht : (pc : Int) + off = (tgt : Int)) (hc : ¬ y ≤ x) (k : CG D A p l e R st m args below meth c Q nL (ws) ce sl q lv (rest)) : CG D A p l e R st m args below meth c Q nL (ws) ce sl pc lv (.int y :: .int x :: rest) := by
  subst hq
  exact fun H locs ls w hl => lv_icmp_ge X.1.1 X.1.2.1 d ht (fun h => absurd h hc) (fun _ => (k H locs ls w hl))
theorem h_objInit (X : CX D cA cL A p st m args meth c cc nL own) {a idx : Nat} (d : decode cc pc = .ok (.invokespecial idx, 3)) (hq : pc + 3 = q) (hlk : Cond.methodLink own idx Lib.objectInit ∈ GT) (hr : 1 ≤ R.frames ∧ 20 ≤ R.locals) (hs : (rest.map fun v => v.category).sum ≤ 8) (k : CG D A p l e R st m args below meth c Q nL (ws) ce sl q lv (rest)) : CG D A p l e R st m args below meth c Q nL (ws) ce sl pc lv (.ref a :: rest) := by
  subst hq
  exact fun H locs ls w hl => W.objInit X.1.1 X.1.2.1 X.1.2.2.2.1 (X.1.2.2.2.2 _ hlk) (X.1.2.2.2.2 _ oi_in) (X.1.2.2.2.2 _ oi_co) rfl (hl.1.trans X.1.2.2.1.symm) rfl d hr.1 (by show 2 * 0 + _ + 12 ≤ _; have := hr.2; omega) (k H locs ls w hl)
theorem h_max (X : CX D cA cL A p st m args meth c cc nL own) {x y : Int32} {idx : Nat} {v : Int32} (d : decode cc pc = .ok (.invokestatic idx, 3)) (hq : pc + 3 = q) (hlk : Cond.methodLink own idx Lib.Math.max.name ∈ GT) (hr : 1 ≤ R.frames ∧ 21 ≤ R.locals) (hs : (rest.map fun v => v.category).sum ≤ 8) (hc : ce ≤ R.cells ∧ sl ≤ R.slots) (hv : (if x < y then y else x) = v) (k : CG D A p l e R st m args below meth c Q nL (ws) ce sl q lv (.int v :: rest)) : CG D A p l e R st m args below meth c Q nL (ws) ce sl pc lv (.int y :: .int x :: rest) := by
  subst hq
  subst hv
  exact fun H locs ls w hl => va_mmax X.1.1 X.1.2.1 (X.1.2.2.1.trans hl.1.symm) X.1.2.2.2.1 (X.1.2.2.2.2 _ hlk) (X.1.2.2.2.2 _ math_max_s) (X.1.2.2.2.2 _ math_i) (X.1.2.2.2.2 _ math_max_c) hr.1 (by have := hr.2; omega) hc.1 hc.2 d (k H locs ls w hl)
theorem h_get (X : CX D cA cL A p st m args meth c cc nL own) (b ci : Nat) {a : Nat} {fs : List Value} {C : String} {T : u_T} {N : Nat} (he : ws[b]? = some (a, .inr (ci, fs))) (hcl : vwCl[ci]? = some (C, T, N)) (hin : ∀ w ∈ u_ws C T N, w ∈ GT) (k0 : Nat) (hk : k0 < N) {idx : Nat} (hC : (T k0).1 = C) (hlk : Cond.fieldLink own idx C (T k0).2.1 (T k0).2.2.1 ∈ GT) {v : Value} (hv : fs[k0]? = some v) (d : decode cc pc = .ok (.getfield idx, 3)) (hq : pc + 3 = q) (k : CG D A p l e R st m args below meth c Q nL (ws) ce sl q lv (v :: rest)) : CG D A p l e R st m args below meth c Q nL (ws) ce sl pc lv (.ref a :: rest) := by
  subst hq
  exact fun H locs ls w hl => va_get X.1.1 X.1.2.1 X.1.2.2.2.2 hin X.1.2.2.2.1 X.2.1 w.1 b he hcl k0 hk (X.1.2.2.2.2 _ hlk) (fun x hx => by rw [hC] at hx; exact hx) hv d (k H locs ls w hl)
theorem h_putF (X : CX D cA cL A p st m args meth c cc nL own) (b ci : Nat) {a : Nat} {fs : List Value} {C : String} {T : u_T} {N : Nat} (he : ws[b]? = some (a, .inr (ci, fs))) (hcl : vwCl[ci]? = some (C, T, N)) (hin : ∀ w ∈ u_ws C T N, w ∈ GT) (k0 : Nat) (hk : k0 < N) {idx : Nat} (hC : (T k0).1 = C) (hlk : Cond.fieldLink own idx C (T k0).2.1 (T k0).2.2.1 ∈ GT) (ty0 : Nat → FieldType) (hty : ∀ k, k < N → parseFieldDescriptor (T k).2.2.1 = some (ty0 k)) (hnm : ∀ a, a < N → ∀ b, b < N → a ≠ b → (T a).2.1 ≠ (T b).2.1) (hfin : (T k0).2.2.2 = true) (hdecl : (T k0).1 = own) {ty : FieldType} {v : Value} (hd : parseFieldDescriptor (T k0).2.2.1 = some ty) (hn : narrow ty v = v) (hfit : fits ty v = true) (hl0 : k0 < fs.length) (hw : ws.set b (a, .inr (ci, fs.set k0 v)) = ws') (d : decode cc pc = .ok (.putfield idx, 3)) (hq : pc + 3 = q) (k : CG D A p l e R st m args below meth c Q nL (ws') ce sl q lv (rest)) : CG D A p l e R st m args below meth c Q nL (ws) ce sl pc lv (v :: .ref a :: rest) := by
  subst hq
  subst hw
  exact fun H locs ls w hl => va_putF X.1.1 X.1.2.1 X.1.2.2.2.2 hin ty0 hty hnm X.1.2.2.2.1 X.2.1 w.1 w.2.1 w.2.2 b he hcl k0 hk (X.1.2.2.2.2 _ hlk) (fun x hx => by rw [hC] at hx; exact hx) hfin X.2.2.2.2.2 hdecl hd hn hfit hl0 d (fun H1 locs1 hP hD hS => k H1 locs1 ls ⟨hP, hD, hS⟩ hl)
theorem h_put (X : CX D cA cL A p st m args meth c cc nL own) (b ci : Nat) {a : Nat} {fs : List Value} {C : String} {T : u_T} {N : Nat} (he : ws[b]? = some (a, .inr (ci, fs))) (hcl : vwCl[ci]? = some (C, T, N)) (hin : ∀ w ∈ u_ws C T N, w ∈ GT) (k0 : Nat) (hk : k0 < N) {idx : Nat} (hC : (T k0).1 = C) (hlk : Cond.fieldLink own idx C (T k0).2.1 (T k0).2.2.1 ∈ GT) (ty0 : Nat → FieldType) (hty : ∀ k, k < N → parseFieldDescriptor (T k).2.2.1 = some (ty0 k)) (hnm : ∀ a, a < N → ∀ b, b < N → a ≠ b → (T a).2.1 ≠ (T b).2.1) (hfin : (T k0).2.2.2 = false) {ty : FieldType} {v : Value} (hd : parseFieldDescriptor (T k0).2.2.1 = some ty) (hn : narrow ty v = v) (hfit : fits ty v = true) (hl0 : k0 < fs.length) (hw : ws.set b (a, .inr (ci, fs.set k0 v)) = ws') (d : decode cc pc = .ok (.putfield idx, 3)) (hq : pc + 3 = q) (k : CG D A p l e R st m args below meth c Q nL (ws') ce sl q lv (rest)) : CG D A p l e R st m args below meth c Q nL (ws) ce sl pc lv (v :: .ref a :: rest) := by
  subst hq
  subst hw
  exact fun H locs ls w hl => va_put X.1.1 X.1.2.1 X.1.2.2.2.2 hin ty0 hty hnm X.1.2.2.2.1 X.2.1 w.1 w.2.1 w.2.2 b he hcl k0 hk (X.1.2.2.2.2 _ hlk) (fun x hx => by rw [hC] at hx; exact hx) hfin hd hn hfit hl0 d (fun H1 locs1 hP hD hS => k H1 locs1 ls ⟨hP, hD, hS⟩ hl)
theorem h_new (X : CX D cA cL A p st m args meth c cc nL own) {C : String} {T : u_T} {N ci idx : Nat} (hin : ∀ w ∈ u_ws C T N, w ∈ GT) (ty : Nat → FieldType) (hty : ∀ k, k < N → parseFieldDescriptor (T k).2.2.1 = some (ty k)) (hcl : Cond.classLink own idx C ∈ GT) (hinst : Cond.instantiable C N ∈ GT) (hini : Cond.initialized C ∈ GT) (hc : vwCl[ci]? = some (C, T, N)) {fs : List Value} (hfs : ∀ j, j < N → defaultValue (ty j) = vp_V fs j) (hce : ce + 1 ≤ R.cells) (hsl : sl + N ≤ R.slots) {ce2 sl2 : Nat} (hce2 : ce + 1 = ce2) (hsl2 : sl + N = sl2) (d : decode cc pc = .ok (.new idx, 3)) (hq : pc + 3 = q) (k : ∀ qa : Nat, CG D A p l e R st m args below meth c Q nL (ws ++ [(qa, .inr (ci, fs))]) ce2 sl2 q lv (.ref qa :: rest)) : CG D A p l e R st m args below meth c Q nL (ws) ce sl pc lv (rest) := by
  subst hq
  subst hce2
  subst hsl2
  exact fun H locs ls w hl => va_new X.1.1 X.1.2.1 X.1.2.2.2.2 hin ty hty X.1.2.2.2.1 (X.1.2.2.2.2 _ hcl) (X.1.2.2.2.2 _ hinst) (X.1.2.2.2.2 _ hini) X.2.1 w.1 w.2.1 w.2.2 X.2.2.1 hc hfs hce hsl d (fun qa H1 hP hD hS => k qa H1 locs ls ⟨hP, hD, hS⟩ hl)
theorem h_newa (X : CX D cA cL A p st m args meth c cc nL own) {n : Int32} {N : Nat} (hn : ¬ n < 0) (hN : n.toNatClampNeg = N) (hb : N * componentBytes .int ≤ 536870912) (hce : ce + 1 ≤ R.cells) (hsl : sl + N ≤ R.slots) {ce2 sl2 : Nat} (hce2 : ce + 1 = ce2) (hsl2 : sl + N = sl2) (d : decode cc pc = .ok (.newarray .int, 2)) (hq : pc + 2 = q) (k : ∀ qa : Nat, CG D A p l e R st m args below meth c Q nL (ws ++ [(qa, .inl (cA, N, .inl (fun _ => 0)))]) ce2 sl2 q lv (.ref qa :: rest)) : CG D A p l e R st m args below meth c Q nL (ws) ce sl pc lv (.int n :: rest) := by
  subst hq
  subst hce2
  subst hsl2
  exact fun H locs ls w hl => va_newa (atype := .int) X.1.1 X.1.2.1 (X.1.2.2.2.2 _ arrc_int) rfl X.2.1 w.1 w.2.1 w.2.2 X.2.2.1 (a0 := (N, .inl (fun _ => 0))) (fun _ => rfl) hn hN hb hce hsl d (fun qa cA' H1 hK hP hD hS => by
    have e1 : cA' = cA := Option.some.inj (((hK.2 2 (cA', .int) rfl).2 : st.vm.findClass _ = some cA').symm.trans ((X.2.1.2 0 (cA, .int) rfl).2 : st.vm.findClass _ = some cA))
    subst e1
    exact k qa H1 locs ls ⟨hP, hD, hS⟩ hl)
theorem h_newq (X : CX D cA cL A p st m args meth c cc nL own) {n : Int32} {N idx : Nat} (hcl : Cond.classLink own idx "StormSeeds$Land" ∈ GT) (hn : ¬ n < 0) (hN : n.toNatClampNeg = N) (hb : N * 4 ≤ 536870912) (hce : ce + 1 ≤ R.cells) (hsl : sl + N ≤ R.slots) {ce2 sl2 : Nat} (hce2 : ce + 1 = ce2) (hsl2 : sl + N = sl2) (d : decode cc pc = .ok (.anewarray idx, 3)) (hq : pc + 3 = q) (k : ∀ qa : Nat, CG D A p l e R st m args below meth c Q nL (ws ++ [(qa, .inl (cL, N, .inr (.inr (.inr (.inr (fun _ => none))))))]) ce2 sl2 q lv (.ref qa :: rest)) : CG D A p l e R st m args below meth c Q nL (ws) ce sl pc lv (.int n :: rest) := by
  subst hq
  subst hce2
  subst hsl2
  exact fun H locs ls w hl => va_newq X.1.1 X.1.2.1 X.1.2.2.2.1 (X.1.2.2.2.2 _ hcl) X.2.2.2.2.1 X.2.1 w.1 w.2.1 w.2.2 X.2.2.1 hn hN hb hce hsl d (fun qa cA' H1 hK hP hD hS => by
    obtain ⟨_, _, _, _, _, h4⟩ := (hK.2 2 (cA', .object "StormSeeds$Land") rfl).2
    obtain ⟨_, _, _, _, _, h5⟩ := (X.2.1.2 1 (cL, .object "StormSeeds$Land") rfl).2
    have e1 : cA' = cL := Option.some.inj (h4.symm.trans h5)
    subst e1
    exact k qa H1 locs ls ⟨hP, hD, hS⟩ hl)
theorem h_iast (X : CX D cA cL A p st m args meth c cc nL own) (b : Nat) {a n : Nat} {f : Nat → Int32} (he : ws[b]? = some (a, .inl (cA, n, .inl f))) {i x : Int32} {j : Nat} (hi : inb i n = true) (hj : i.toNatClampNeg = j) (d : decode cc pc = .ok (.iastore, 1)) (hq : pc + 1 = q) (hw : ws.set b (a, .inl (cA, n, .inl (upd f j x))) = ws') (k : CG D A p l e R st m args below meth c Q nL (ws') ce sl q lv (rest)) : CG D A p l e R st m args below meth c Q nL (ws) ce sl pc lv (.int x :: .int i :: .ref a :: rest) := by
  subst hq
  subst hj
  subst hw
  exact fun H locs ls w hl => va_iast X.1.1 X.1.2.1 X.2.1 w.1 w.2.1 w.2.2 b 0 he rfl (inb_in hi) d (fun H1 locs1 hP hD hS => k H1 locs1 ls ⟨hP, hD, hS⟩ hl)
theorem h_iastW (X : CX D cA cL A p st m args meth c cc nL own) (b : Nat) {a n : Nat} {f f' : Nat → Int32} (he : ws[b]? = some (a, .inl (cA, n, .inl f))) {i x : Int32} {j : Nat} (hi : inb i n = true) (hj : i.toNatClampNeg = j) (d : decode cc pc = .ok (.iastore, 1)) (hq : pc + 1 = q) (hf : upd f j x = f') (hw : ws.set b (a, .inl (cA, n, .inl f')) = ws') (k : CG D A p l e R st m args below meth c Q nL (ws') ce sl q lv (rest)) : CG D A p l e R st m args below meth c Q nL (ws) ce sl pc lv (.int x :: .int i :: .ref a :: rest) := by
  subst hf
  exact h_iast X b he hi hj d hq hw k
theorem h_aast (X : CX D cA cL A p st m args meth c cc nL own) (b bk ci : Nat) {a n v : Nat} {vs : List Value} {f : Nat → Option Nat} {T : u_T} {N : Nat} (he : ws[b]? = some (a, .inl (cL, n, .inr (.inr (.inr (.inr f)))))) (hv : ws[bk]? = some (v, .inr (ci, vs))) (hc : vwCl[ci]? = some ("StormSeeds$Land", T, N)) {i : Int32} {j : Nat} (hi : inb i n = true) (hj : i.toNatClampNeg = j) (d : decode cc pc = .ok (.aastore, 1)) (hq : pc + 1 = q) (hw : ws.set b (a, .inl (cL, n, .inr (.inr (.inr (.inr (va_up f j (some v))))))) = ws') (k : CG D A p l e R st m args below meth c Q nL (ws') ce sl q lv (rest)) : CG D A p l e R st m args below meth c Q nL (ws) ce sl pc lv (.ref v :: .int i :: .ref a :: rest) := by
  subst hq
  subst hj
  subst hw
  exact fun H locs ls w hl => va_astq X.1.1 X.1.2.1 X.2.1 w.1 w.2.1 w.2.2 b 1 bk ci he (r := ("StormSeeds$Land", T, N)) rfl hv hc (inb_in hi) d (fun H1 locs1 hP hD hS => k H1 locs1 ls ⟨hP, hD, hS⟩ hl)
theorem prec_blind {sz : Nat} {ws0 : va_W} {as : List Value} : FrameBlind (PreC D cA cL sz ws0 as) := by
  intro a U g mk q
  obtain ⟨h1, h2, h3, h4, h5, h6, h7⟩ := q
  exact ⟨h1, h2, h3, va_K.moved (u := U) (U := U.calling g mk a) (Vm.Alike.refl U.vm) h4, h5, nw_same (s := U) (U := U.calling g mk a) rfl h6, va_AO.moved (u := U) (U := U.calling g mk a) (Vm.Alike.refl U.vm) h7⟩
theorem h_ctor (X : CX D cA cL A p st m args meth c cc nL own) {y : MethodName} {b2 : ByteArray} {n2 d1 mc ms idx n qa : Nat} {eo : va_E} {As : List Value} {W1 : (Nat → Nat) → va_W} {X0 : va_W} {ce2 sl2 : Nat} {stk : List Value} (hM : MC l y b2 n2 D cA cL d1 mc ms [(qa, eo)] (.ref qa :: As) W1) (hws : ws = X0 ++ [(qa, eo)]) (hco : Cond.code y b2 n2 none ∈ GT) (hini : Cond.initialized y.cls ∈ GT) (hin : Cond.instanceMethod y ∈ GT) (hlk : Cond.methodLink own idx y ∈ GT) (hy1 : y.name = "<init>") (hd : y.cls ≠ "java/lang/invoke/MethodHandle" ∧ y.cls ≠ "java/lang/invoke/VarHandle" ∧ (parseMethodDescriptor y.desc).map (fun d => d.parameters.length) = some n) (hAs : As.length = n) (hR : d1 + 1 ≤ R.frames ∧ 8 + (n2 + 11) + 100 * d1 ≤ R.locals) (hce : ce + mc ≤ R.cells ∧ sl + ms ≤ R.slots) (hce2 : ce + mc = ce2) (hsl2 : sl + ms = sl2) (hrest : (rest.map fun v => v.category).sum ≤ 8) (hst : stk = As.reverse ++ .ref qa :: rest) (dg : decode cc pc = .ok (.invokespecial idx, 3)) (hq : pc + 3 = q) (k : ∀ u : Nat → Nat, CG D A p l e R st m args below meth c Q nL (X0 ++ W1 u) ce2 sl2 q lv (rest)) : CG D A p l e R st m args below meth c Q nL (ws) ce sl pc lv (stk) := by
  subst hq
  subst hce2
  subst hsl2
  subst hws
  subst hst
  intro H locs ls w hl
  have hq0 : (X0 ++ [(qa, eo)])[X0.length]? = some (qa, eo) := by rw [List.getElem?_append_right (Nat.le_refl _)]; simp
  have hP0 : va_P D vwCl [(qa, eo)] H := fun k x hx => by
    have hk0 : k = 0 := by have := (List.getElem?_eq_some_iff.mp hx).1; simpa using this
    subst hk0
    cases hx
    exact w.1 X0.length _ hq0
  have hD0 : va_D (fun _ => True) [(qa, eo)] := ⟨fun i j x y hx hy _ => by
    have h1 := (List.getElem?_eq_some_iff.mp hx).1
    have h2 := (List.getElem?_eq_some_iff.mp hy).1
    simp at h1 h2
    omega, fun _ _ _ => trivial⟩
  have hF : ∀ a, va_A [(qa, eo)] H.size a → A a := by
    intro a ha
    rcases ha with ⟨j, e', h⟩ | h
    · have hj : j = 0 := by have := (List.getElem?_eq_some_iff.mp h).1; simpa using this
      subst hj
      cases h
      exact w.2.1.2 X0.length _ hq0
    · exact X.2.2.1 a (Nat.le_trans w.2.2.1 h)
  refine va_callv (va_runI (As := As) (rest := rest) X.1 (hM H.size) (cwI n X.1.2.2.2.2 (gt_c hco gt_t) rfl rfl rfl (X.1.2.2.2.2 _ hini) (X.1.2.2.2.2 _ hlk) (X.1.2.2.2.2 _ hin) hy1 hd ⟨hR.1, hR.2⟩) ⟨prec_blind, fun U hU hW => ⟨rfl, by rw [hU], by rw [hU]; exact hP0, va_K.moved hW.alike X.2.1, hD0, nw_warm hW X.2.2.2.1, va_AO.moved hW.alike X.2.2.2.2.1⟩⟩ rfl hAs hl.1 rfl (lv_room hrest) dg hce) w.2.2 (fun q _ h => hF q h) hF (fun u t H1 locs1 ht hvm hw hB hz1 hk1 hS => ?_)
  obtain ⟨hP1, hD1⟩ := hB
  rw [ht] at hP1
  obtain ⟨hP2, hD2⟩ := join_last w.1 w.2.1 hk1 hF hP1 hD1
  exact k u H1 locs1 ls ⟨hP2, hD2, hS⟩ hl
theorem h_ctorN (X : CX D cA cL A p st m args meth c cc nL own) {y : MethodName} {b2 : ByteArray} {n2 d1 mc ms idx n qa : Nat} {eo : va_E} {As : List Value} {W1 : (Nat → Nat) → va_W} {X0 : va_W} {ce2 sl2 : Nat} {stk : List Value} (hM : MC l y b2 n2 D cA cL d1 mc ms [(qa, eo)] (.ref qa :: As) W1) (hws : ws = X0 ++ [(qa, eo)]) (hco : Cond.code y b2 n2 none ∈ GT) (hini : Cond.initialized y.cls ∈ GT) (hin : Cond.instanceMethod y ∈ GT) {host : String} (hlk : Cond.methodLinkNest own idx y host ∈ NW) (hy1 : y.name = "<init>") (hd : y.cls ≠ "java/lang/invoke/MethodHandle" ∧ y.cls ≠ "java/lang/invoke/VarHandle" ∧ (parseMethodDescriptor y.desc).map (fun d => d.parameters.length) = some n) (hAs : As.length = n) (hR : d1 + 1 ≤ R.frames ∧ 8 + (n2 + 11) + 100 * d1 ≤ R.locals) (hce : ce + mc ≤ R.cells ∧ sl + ms ≤ R.slots) (hce2 : ce + mc = ce2) (hsl2 : sl + ms = sl2) (hrest : (rest.map fun v => v.category).sum ≤ 8) (hst : stk = As.reverse ++ .ref qa :: rest) (dg : decode cc pc = .ok (.invokespecial idx, 3)) (hq : pc + 3 = q) (k : ∀ u : Nat → Nat, CG D A p l e R st m args below meth c Q nL (X0 ++ W1 u) ce2 sl2 q lv (rest)) : CG D A p l e R st m args below meth c Q nL (ws) ce sl pc lv (stk) := by
  subst hq
  subst hce2
  subst hsl2
  subst hws
  subst hst
  intro H locs ls w hl
  have hq0 : (X0 ++ [(qa, eo)])[X0.length]? = some (qa, eo) := by rw [List.getElem?_append_right (Nat.le_refl _)]; simp
  have hP0 : va_P D vwCl [(qa, eo)] H := fun k x hx => by
    have hk0 : k = 0 := by have := (List.getElem?_eq_some_iff.mp hx).1; simpa using this
    subst hk0
    cases hx
    exact w.1 X0.length _ hq0
  have hD0 : va_D (fun _ => True) [(qa, eo)] := ⟨fun i j x y hx hy _ => by
    have h1 := (List.getElem?_eq_some_iff.mp hx).1
    have h2 := (List.getElem?_eq_some_iff.mp hy).1
    simp at h1 h2
    omega, fun _ _ _ => trivial⟩
  have hF : ∀ a, va_A [(qa, eo)] H.size a → A a := by
    intro a ha
    rcases ha with ⟨j, e', h⟩ | h
    · have hj : j = 0 := by have := (List.getElem?_eq_some_iff.mp h).1; simpa using this
      subst hj
      cases h
      exact w.2.1.2 X0.length _ hq0
    · exact X.2.2.1 a (Nat.le_trans w.2.2.1 h)
  refine va_callv (va_runIN (As := As) (rest := rest) X.1 (hM H.size) ⟨va_cnB n X.1.2.2.2.2 (gt_c hco gt_t) rfl rfl rfl (X.2.2.2.1 _ hlk) (X.1.2.2.2.2 _ hini) hd ⟨hR.1, hR.2⟩, hy1, X.1.2.2.2.2 _ hin⟩ ⟨prec_blind, fun U hU hW => ⟨rfl, by rw [hU], by rw [hU]; exact hP0, va_K.moved hW.alike X.2.1, hD0, nw_warm hW X.2.2.2.1, va_AO.moved hW.alike X.2.2.2.2.1⟩⟩ rfl hAs hl.1 rfl (lv_room hrest) dg hce) w.2.2 (fun q _ h => hF q h) hF (fun u t H1 locs1 ht hvm hw hB hz1 hk1 hS => ?_)
  obtain ⟨hP1, hD1⟩ := hB
  rw [ht] at hP1
  obtain ⟨hP2, hD2⟩ := join_last w.1 w.2.1 hk1 hF hP1 hD1
  exact k u H1 locs1 ls ⟨hP2, hD2, hS⟩ hl
end CCR
