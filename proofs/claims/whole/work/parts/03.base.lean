/-! # own rows: the words that every method gets, the world of one root, the goal 'WG', a row an instruction -/
def GT : List Cond := lw_tbl.filter goodWord
theorem gt_of (i : Nat) {w : Cond} (h : lw_tbl[i]? = some w) (g : goodWord w = true) : w ∈ GT := List.mem_filter.mpr ⟨List.mem_of_getElem? h, g⟩
theorem gt_g {w : Cond} (h : w ∈ GT) : w ∈ GT ∧ ((w.onTables && w.keeps) = true ∨ ∃ ty, w = .arrayClass ty) := ⟨h, good_of_word (List.mem_filter.mp h).2⟩
theorem gt_t : GoodIn GT GT := fun _ h => gt_g h
theorem gt_c {w : Cond} {ws : List Cond} (h : w ∈ GT) (g : GoodIn GT ws) : GoodIn GT (w :: ws) := fun x hx => (List.mem_cons.mp hx).elim (fun e => by subst e; exact gt_g h) (g x)
theorem gt_V {own : String} {idx : Nat} {C : String} {y : MethodName} {b : ByteArray} {n : Nat} {ret : Option FieldType} (h1 : Cond.methodLink own idx y ∈ GT) (h2 : Cond.instanceMethod y ∈ GT) (h3 : Cond.selects C y y ∈ GT) (h4 : Cond.initialized C ∈ GT) (h5 : Cond.code y b n ret ∈ GT) : GoodIn GT (wsV own idx C y (Cond.code y b n ret :: GT)) := by
  show GoodIn GT (Cond.methodLink own idx y :: Cond.instanceMethod y :: Cond.selects C y y :: Cond.initialized C :: Cond.code y b n ret :: GT)
  exact gt_c h1 (gt_c h2 (gt_c h3 (gt_c h4 (gt_c h5 gt_t))))
/-! the state: ints and longs, by the number of the cell and the place in it -/
abbrev ST : Type := (Nat → Nat → Int32) × (Nat → Nat → Int64)
def ups (s : ST) (a i : Nat) (x : Int32) : ST := (fun c => if c = a then upd (s.1 a) i x else s.1 c, s.2)
def upl (s : ST) (a i : Nat) (x : Int64) : ST := (s.1, fun c => if c = a then vp_updL (s.2 a) i x else s.2 c)
def upr (s : ST) (a : Nat) (f : Nat → Int32) : ST := (fun c => if c = a then f else s.1 c, s.2)
theorem ups_eq {s : ST} {a i : Nat} {x : Int32} : (ups s a i x).1 a = upd (s.1 a) i x := if_pos rfl
theorem ups_ne {s : ST} {a c i : Nat} {x : Int32} (h : c ≠ a) : (ups s a i x).1 c = s.1 c := if_neg h
theorem upl_eq {s : ST} {a i : Nat} {x : Int64} : (upl s a i x).2 a = vp_updL (s.2 a) i x := if_pos rfl
theorem upl_ne {s : ST} {a c i : Nat} {x : Int64} (h : c ≠ a) : (upl s a i x).2 c = s.2 c := if_neg h
theorem upr_eq {s : ST} {a : Nat} {f : Nat → Int32} : (upr s a f).1 a = f := if_pos rfl
theorem upr_ne {s : ST} {a c : Nat} {f : Nat → Int32} (h : c ≠ a) : (upr s a f).1 c = s.1 c := if_neg h
/-! what a method's meaning is written in -/
def Lt {A B : Type} (a : A) (f : A → B) : B := f a
def inb (i : Int32) (n : Nat) : Bool := decide (0 ≤ i.toInt) && decide (i.toInt < n)
theorem inb_in {i : Int32} {n : Nat} (h : inb i n = true) : vp_in i n := vp_in_iff.mpr (by simpa [inb] using h)
def Gl {B : Type} (s : ST) (a n : Nat) (i : Int32) (f : Int32 → Option B) : Option B := if inb i n = true then f (s.1 a i.toNatClampNeg) else none
def Gs {B : Type} (s : ST) (a n : Nat) (i x : Int32) (f : ST → Option B) : Option B := if inb i n = true then f (ups s a i.toNatClampNeg x) else none
def Gz {B : Type} (y : Int32) (f : Option B) : Option B := if y = 0 then none else f
def Gb {B : Type} (y : Int32) (f : Option B) : Option B := if y = 0 ∨ y = 1 then f else none
def Bd {A B : Type} (a : Option A) (f : A → Option B) : Option B := a.bind f
def FU : Nat := 6000
theorem Gl_e {B : Type} {s : ST} {a n : Nat} {i : Int32} {f : Int32 → Option B} {o : B} (h : Gl s a n i f = some o) : vp_in i n ∧ f (s.1 a i.toNatClampNeg) = some o := by
  unfold Gl at h
  by_cases c : inb i n = true
  · rw [if_pos c] at h; exact ⟨inb_in c, h⟩
  · rw [if_neg c] at h; cases h
theorem Gs_e {B : Type} {s : ST} {a n : Nat} {i x : Int32} {f : ST → Option B} {o : B} (h : Gs s a n i x f = some o) : vp_in i n ∧ f (ups s a i.toNatClampNeg x) = some o := by
  unfold Gs at h
  by_cases c : inb i n = true
  · rw [if_pos c] at h; exact ⟨inb_in c, h⟩
  · rw [if_neg c] at h; cases h
theorem Gz_e {B : Type} {y : Int32} {f : Option B} {o : B} (h : Gz y f = some o) : ¬ y = 0 ∧ f = some o := by
  unfold Gz at h
  by_cases c : y = 0
  · rw [if_pos c] at h; cases h
  · rw [if_neg c] at h; exact ⟨c, h⟩
theorem Gb_e {B : Type} {y : Int32} {f : Option B} {o : B} (h : Gb y f = some o) : (y = 0 ∨ y = 1) ∧ f = some o := by
  unfold Gb at h
  by_cases c : y = 0 ∨ y = 1
  · rw [if_pos c] at h; exact ⟨c, h⟩
  · rw [if_neg c] at h; cases h
theorem Bd_e {A B : Type} {a : Option A} {f : A → Option B} {o : B} (h : Bd a f = some o) : ∃ v, a = some v ∧ f v = some o := Option.bind_eq_some_iff.mp h
/-! the world: the cells of one root, by their numbers -/
abbrev GF : Type := Nat → (Nat → Int32) → (Nat → Int64) → va_E
abbrev KT : Type := va_G × List (ClassId × FieldType) × (Nat → Nat) × GF × Nat × (State → Heap → Prop)
abbrev kD (K : KT) : va_G := K.1
abbrev kT (K : KT) : List (ClassId × FieldType) := K.2.1
abbrev kh (K : KT) : Nat → Nat := K.2.2.1
abbrev kG (K : KT) : GF := K.2.2.2.1
abbrev kN (K : KT) : Nat := K.2.2.2.2.1
abbrev kZ (K : KT) : State → Heap → Prop := K.2.2.2.2.2
def kA (K : KT) : Nat → Prop := fun q => ∃ k, k < kN K ∧ q = kh K k
def kW (K : KT) (s : ST) : va_W := (List.range (kN K)).map fun k => (kh K k, kG K k (s.1 k) (s.2 k))
def kJ (K : KT) : Prop := (∀ i j, i < kN K → j < kN K → kh K i = kh K j → i = j) ∧ (∀ (u U : State) (H : Heap), u.WarmedH U.vm → kZ K u H → kZ K U H) ∧ (∀ (u : State) (H H1 : Heap), H.size ≤ H1.size → (∀ q : Nat, q < H.size → ¬ kA K q → H1[q]? = H[q]?) → kZ K u H → kZ K u H1) ∧ ∀ (u U : State) (H : Heap), u.vm = U.vm → kZ K u H → kZ K U H
theorem kW_get {K : KT} {s : ST} {k : Nat} (hk : k < kN K) : (kW K s)[k]? = some (kh K k, kG K k (s.1 k) (s.2 k)) := by
  simp [kW, List.getElem?_map, List.getElem?_range hk]
theorem kW_len {K : KT} {s : ST} : (kW K s).length = kN K := by simp [kW]
theorem kW_put {K : KT} {s s' : ST} {k : Nat} {e : va_E} (hk : k < kN K) (h1 : kG K k (s'.1 k) (s'.2 k) = e) (h2 : ∀ j, j ≠ k → s'.1 j = s.1 j ∧ s'.2 j = s.2 j) : (kW K s).set k (kh K k, e) = kW K s' := by
  apply List.ext_getElem?
  intro i
  by_cases hi : i < kN K
  · by_cases hik : i = k
    · subst hik
      rw [List.getElem?_set_self (by rw [kW_len]; exact hi), kW_get hi, h1]
    · rw [List.getElem?_set_ne (Ne.symm hik), kW_get hi, kW_get hi, (h2 i hik).1, (h2 i hik).2]
  · rw [List.getElem?_eq_none (by rw [List.length_set, kW_len]; omega), List.getElem?_eq_none (by rw [kW_len]; omega)]
theorem kW_ups {K : KT} {s : ST} {k i : Nat} {x : Int32} {e : va_E} (hk : k < kN K) (h1 : kG K k (upd (s.1 k) i x) (s.2 k) = e) : (kW K s).set k (kh K k, e) = kW K (ups s k i x) :=
  kW_put hk (by rw [ups_eq]; exact h1) (fun j hj => ⟨ups_ne hj, rfl⟩)
theorem kW_upl {K : KT} {s : ST} {k i : Nat} {x : Int64} {e : va_E} (hk : k < kN K) (h1 : kG K k (s.1 k) (vp_updL (s.2 k) i x) = e) : (kW K s).set k (kh K k, e) = kW K (upl s k i x) :=
  kW_put hk (by rw [upl_eq]; exact h1) (fun j hj => ⟨rfl, upl_ne hj⟩)
theorem kW_upr {K : KT} {s : ST} {k : Nat} {f : Nat → Int32} {e : va_E} (hk : k < kN K) (h1 : kG K k f (s.2 k) = e) : (kW K s).set k (kh K k, e) = kW K (upr s k f) :=
  kW_put hk (by rw [upr_eq]; exact h1) (fun j hj => ⟨upr_ne hj, rfl⟩)
theorem kW_D {K : KT} {s : ST} (hJ : kJ K) : va_D (kA K) (kW K s) := by
  have at' : ∀ (i : Nat) (p : Nat × va_E), (kW K s)[i]? = some p → i < kN K ∧ p.1 = kh K i := by
    intro i p hp
    have hi : i < kN K := by rw [← kW_len (s := s)]; exact (List.getElem?_eq_some_iff.mp hp).1
    rw [kW_get hi] at hp
    cases hp
    exact ⟨hi, rfl⟩
  refine ⟨fun i j p q hp hq e => ?_, fun k q hq => ?_⟩
  · obtain ⟨h1, h2⟩ := at' i p hp
    obtain ⟨h3, h4⟩ := at' j q hq
    exact hJ.1 i j h1 h3 (by rw [← h2, ← h4]; exact e)
  · obtain ⟨h1, h2⟩ := at' k q hq
    exact ⟨k, h1, h2⟩
def Wo (K : KT) (s : ST) (u : State) (H : Heap) (locs : List Loc) : Prop := va_P (kD K) vwCl (kW K s) H ∧ va_S (kA K) u.heap H locs
def Cx (K : KT) (p : Program) (st : State) (m : MethodId) (args : Array Value) (meth : Method) (c : Code) (cc : ByteArray) (nL : Nat) (own : String) : Prop :=
  CallFix p m c cc nL st args GT own ∧ va_K (kD K) vwCl (kT K) st ∧ kJ K ∧ kZ K st st.heap
/-- the goal of a walk -/
def WG (K : KT) (p : Program) (l : Launch) (e : Env) (R : Room) (st : State) (m : MethodId) (args : Array Value) (below : List Frame) (meth : Method) (c : Code) (Q : State → Prop) (nL : Nat) (s : ST) (pc : Nat) (lv : List (Nat × Value)) (stk : List Value) : Prop :=
  ∀ (H : Heap) (locs : List Loc) (ls : Array Slot), Wo K s st H locs → lv_has ls nL lv → W p l e R st m args below meth c H locs 0 0 Q (F0 m pc ls stk)
def rmD (d : Nat) : Room := { frames := d, cells := 0, slots := 0, locals := 100 * d }
def PreW (K : KT) (s : ST) (as : List Value) : Array Value → State → Prop := va_Pc as (fun U => va_P (kD K) vwCl (kW K s) U.heap ∧ va_K (kD K) vwCl (kT K) U ∧ kJ K ∧ kZ K U U.heap)
def PostW (K : KT) : ST → State → Prop := fun u U => va_P (kD K) vwCl (kW K u) U.heap
abbrev MI (l : Launch) (K : KT) (d : Nat) (y : MethodName) (b : ByteArray) (n : Nat) (ret : Option FieldType) (s : ST) (as : List Value) (r0 : Int32) (u0 : ST) : Prop :=
  Met l y (.code y b n ret :: GT) (rmD d) (PreW K s as) (va_Qi (fun r u => r = r0 ∧ u = u0) (PostW K) (kA K)) 0 0 (kA K)
abbrev ML (l : Launch) (K : KT) (d : Nat) (y : MethodName) (b : ByteArray) (n : Nat) (ret : Option FieldType) (s : ST) (as : List Value) (r0 : Int64) (u0 : ST) : Prop :=
  Met l y (.code y b n ret :: GT) (rmD d) (PreW K s as) (va_Ql (fun r u => r = r0 ∧ u = u0) (PostW K) (kA K)) 0 0 (kA K)
abbrev MV (l : Launch) (K : KT) (d : Nat) (y : MethodName) (b : ByteArray) (n : Nat) (ret : Option FieldType) (s : ST) (as : List Value) (u0 : ST) : Prop :=
  Met l y (.code y b n ret :: GT) (rmD d) (PreW K s as) (va_Qv (fun u => u = u0) (PostW K) (kA K)) 0 0 (kA K)
abbrev MR (l : Launch) (K : KT) (d : Nat) (y : MethodName) (b : ByteArray) (n : Nat) (ret : Option FieldType) (s : ST) (as : List Value) (a0 : Nat) (u0 : ST) : Prop :=
  Met l y (.code y b n ret :: GT) (rmD d) (PreW K s as) (va_Qr (fun u => u = u0) (fun u a U => a = a0 ∧ PostW K u U) (kA K)) 0 0 (kA K)
/-- what holds at a method's entry -/
theorem met_in {K : KT} {p : Program} {l : Launch} {e : Env} {d : Nat} {st : State} {m : MethodId} {args : Array Value} {below : List Frame} {meth : Method} {c : Code} {s₁ : State} {Q : State → Prop} {y : MethodName} {b : ByteArray} {n : Nat} {ret : Option FieldType} {s : ST} {as : List Value} (B : BodyLoose p l y (headSpec (.code y b n ret :: GT) (rmD d)) b n ret e st m args below meth c s₁) (hml : c.maxLocals = n) (hv : PreW K s as args st) (hn : (lg_sl as).length ≤ n)
    (k : Cx K p st m args meth c b n y.cls → WG K p l e (rmD d) st m args below meth c Q n s 0 (lv_args 0 as) []) : W p l e (rmD d) st m args below meth c st.heap [] 0 0 Q (entryFrame m args n) := by
  obtain ⟨rfl, hP, hK, hJ, hZ⟩ := hv
  have hts := atoms_spec (ws := .code y b n ret :: GT) B.pre
  have hown : st.vm.findClass y.cls = some m.cls := findClass_of_methodNamed B.named
  rw [lg_entry_eq]
  exact k ⟨⟨B.exec, B.bytes, hml, hown, fun w hw => hts w (List.mem_cons_of_mem _ hw)⟩, hK, hJ, hZ⟩ _ _ _ ⟨hP, va_S.rf⟩ (lv_entry as hn)
section ZR
variable {p : Program} {l : Launch} {e : Env} {R : Room} {s : State} {m : MethodId} {args : Array Value} {below : List Frame} {meth : Method} {c : Code} {H : Heap} {locs : List Loc} {cells slots : Nat}
theorem zret2 {cc : ByteArray} {Qc : Array Value → State → Outcome → State → Prop} {free : Addr → Prop} {v v' : Int32} {ty : FieldType} (hexec : p.tables.exec = Jvm.exec) (hb : c.code = cc) (hr : meth.sig.returnType = some ty) (hn : narrow ty (.int v) = .int v')
    (hq : ∀ t : State, t.heap = H → s.WarmedH t.vm → Qc args s (.returned (some (.int v'))) t) (hf : ∀ q ∈ locs, free q.base)
    {pc : Nat} {ls : Array Slot} (hdg : decode cc pc = .ok (.ireturn, 1)) (hlocks : meth.locks = false) : W p l e R s m args below meth c H locs cells slots (MQ below Qc args s cells slots free) (F0 m pc ls [.int v]) := by
  intro T hT X
  have hlocks : meth.locks = false := hlocks
  obtain ⟨fs, hret, hrun, hended, hW, hframe⟩ := X.leave (v := some (.int v')) (fun h => by rw [hr] at h; cases h)
  have hmeth' : T.vm.method? m = some meth := X.method'
  refine ⟨T.setFrames fs, ?_, .returned (some (.int v')), hrun, hended, hq _ hT hW, locs, ⟨⟨_, rfl⟩, hW, hframe⟩, hf⟩
  jvm_step X.here [X.here.top, hexec, hb, hdg, hmeth', hr, hn]
  (try refine ⟨rfl, ?_⟩); (try refine ⟨rfl, ?_⟩)
  first | (intro acts; rw [hret _ acts rfl rfl rfl]) | rw [hret _ _ rfl rfl rfl]
  exact Steps.refl _
end ZR
theorem met_i {K : KT} {l : Launch} {d : Nat} {y : MethodName} {b : ByteArray} {n : Nat} {ty : FieldType} {s : ST} {as : List Value} {r0 : Int32} {u0 : ST} (hy : plainName y.cls = true) (hn : (lg_sl as).length ≤ n)
    (body : ∀ (p : Program) (e : Env) (st : State) (m : MethodId) (args : Array Value) (below : List Frame) (meth : Method) (c : Code) (Q : State → Prop), Cx K p st m args meth c b n y.cls →
      (∀ (s' : ST) (pc : Nat) (lv : List (Nat × Value)) (v v' : Int32), s' = u0 → narrow ty (.int v) = .int v' → v' = r0 → decode b pc = .ok (.ireturn, 1) → WG K p l e (rmD d) st m args below meth c Q n s' pc lv [.int v]) →
      WG K p l e (rmD d) st m args below meth c Q n s 0 (lv_args 0 as) []) : MI l K d y b n (some ty) s as r0 u0 := by
  refine Met.ofW (cc := b) (maxL := n) (ret := some ty) hy rfl ?_
  intro p e st m args below meth c s₁ B hml hv
  have hr := B.returns
  have hlocks := B.notSynchronized
  refine met_in B hml hv hn (fun X => ?_)
  refine body p e st m args below meth c _ X ?_
  rintro s' pc lv v v' rfl hnr rfl hdg H locs ls w hl
  exact zret2 X.1.1 X.1.2.1 hr hnr (fun t ht _ => ⟨⟨v', s', rfl, ⟨rfl, rfl⟩, by rw [← ht] at w; exact w.1⟩, w.2.F ht⟩) w.2.2.2 hdg hlocks
theorem met_l {K : KT} {l : Launch} {d : Nat} {y : MethodName} {b : ByteArray} {n : Nat} {s : ST} {as : List Value} {r0 : Int64} {u0 : ST} (hy : plainName y.cls = true) (hn : (lg_sl as).length ≤ n)
    (body : ∀ (p : Program) (e : Env) (st : State) (m : MethodId) (args : Array Value) (below : List Frame) (meth : Method) (c : Code) (Q : State → Prop), Cx K p st m args meth c b n y.cls →
      (∀ (s' : ST) (pc : Nat) (lv : List (Nat × Value)) (v : Int64), s' = u0 → v = r0 → decode b pc = .ok (.lreturn, 1) → WG K p l e (rmD d) st m args below meth c Q n s' pc lv [.long v]) →
      WG K p l e (rmD d) st m args below meth c Q n s 0 (lv_args 0 as) []) : ML l K d y b n (some .long) s as r0 u0 := by
  refine Met.ofW (cc := b) (maxL := n) (ret := some .long) hy rfl ?_
  intro p e st m args below meth c s₁ B hml hv
  have hr := B.returns
  have hlocks := B.notSynchronized
  refine met_in B hml hv hn (fun X => ?_)
  refine body p e st m args below meth c _ X ?_
  rintro s' pc lv v rfl rfl hdg H locs ls w hl
  exact W.lret X.1.1 X.1.2.1 hr (fun t ht _ => ⟨⟨v, s', rfl, ⟨rfl, rfl⟩, by rw [← ht] at w; exact w.1⟩, w.2.F ht⟩) w.2.2.2 hdg hlocks
theorem met_v {K : KT} {l : Launch} {d : Nat} {y : MethodName} {b : ByteArray} {n : Nat} {s : ST} {as : List Value} {u0 : ST} (hy : plainName y.cls = true) (hn : (lg_sl as).length ≤ n)
    (body : ∀ (p : Program) (e : Env) (st : State) (m : MethodId) (args : Array Value) (below : List Frame) (meth : Method) (c : Code) (Q : State → Prop), Cx K p st m args meth c b n y.cls →
      (∀ (s' : ST) (pc : Nat) (lv : List (Nat × Value)), s' = u0 → decode b pc = .ok (.return_, 1) → WG K p l e (rmD d) st m args below meth c Q n s' pc lv []) →
      WG K p l e (rmD d) st m args below meth c Q n s 0 (lv_args 0 as) []) : MV l K d y b n none s as u0 := by
  refine Met.ofW (cc := b) (maxL := n) (ret := none) hy rfl ?_
  intro p e st m args below meth c s₁ B hml hv
  have hr := B.returns
  have hlocks := B.notSynchronized
  refine met_in B hml hv hn (fun X => ?_)
  refine body p e st m args below meth c _ X ?_
  rintro s' pc lv rfl hdg H locs ls w hl
  exact W.vret X.1.1 X.1.2.1 hr (fun t ht _ => ⟨⟨s', rfl, rfl, by rw [← ht] at w; exact w.1⟩, w.2.F ht⟩) w.2.2.2 hdg hlocks
theorem wg_sub {K : KT} {p : Program} {l : Launch} {e : Env} {R : Room} {st : State} {m : MethodId} {args : Array Value} {below : List Frame} {meth : Method} {c : Code} {Q : State → Prop} {nL : Nat} {s : ST} {pc : Nat} {lv lv' : List (Nat × Value)} {stk : List Value} (ks : List Nat) (h : lv_pick lv ks = lv') (k : WG K p l e R st m args below meth c Q nL s pc lv' stk) : WG K p l e R st m args below meth c Q nL s pc lv stk := fun H locs ls w hl => k H locs ls w (lv_sub hl ks h)
theorem gt_all {ws : List Cond} (h : ws.all (fun w => decide (w ∈ lw_tbl) && goodWord w) = true) : ∀ w ∈ ws, w ∈ GT := by
  intro w hw
  have h1 := List.all_eq_true.mp h w hw
  simp only [Bool.and_eq_true, decide_eq_true_eq] at h1
  exact List.mem_filter.mpr h1
theorem met_r {K : KT} {l : Launch} {d : Nat} {y : MethodName} {b : ByteArray} {n : Nat} {C : String} {s : ST} {as : List Value} {a0 : Nat} {u0 : ST} (hy : plainName y.cls = true) (hn : (lg_sl as).length ≤ n)
    (body : ∀ (p : Program) (e : Env) (st : State) (m : MethodId) (args : Array Value) (below : List Frame) (meth : Method) (c : Code) (Q : State → Prop), Cx K p st m args meth c b n y.cls →
      (∀ (s' : ST) (pc : Nat) (lv : List (Nat × Value)) (v : Nat), s' = u0 → v = a0 → decode b pc = .ok (.areturn, 1) → WG K p l e (rmD d) st m args below meth c Q n s' pc lv [.ref v]) →
      WG K p l e (rmD d) st m args below meth c Q n s 0 (lv_args 0 as) []) : MR l K d y b n (some (.object C)) s as a0 u0 := by
  refine Met.ofW (cc := b) (maxL := n) (ret := some (.object C)) hy rfl ?_
  intro p e st m args below meth c s₁ B hml hv
  have hr := B.returns
  have hlocks := B.notSynchronized
  refine met_in B hml hv hn (fun X => ?_)
  refine body p e st m args below meth c _ X ?_
  rintro s' pc lv v rfl rfl hdg H locs ls w hl
  exact W.aret X.1.1 X.1.2.1 hr (Or.inl ⟨C, rfl⟩) (Or.inr ⟨v, rfl⟩) (fun t ht _ => ⟨⟨s', v, rfl, rfl, rfl, by rw [← ht] at w; exact w.1⟩, w.2.F ht⟩) w.2.2.2 hdg hlocks
theorem rU1 {A B : Type} {v : A} {s : B} {o : A × B} (h : some (v, s) = some o) : s = o.2 := by cases h; rfl
theorem rV1 {A B : Type} {v : A} {s : B} {o : A × B} (h : some (v, s) = some o) : v = o.1 := by cases h; rfl
theorem rU0 {A B : Type} {v : A} {s : B} {o : A × B} (h : (v, s) = o) : s = o.2 := by cases h; rfl
theorem rV0 {A B : Type} {v : A} {s : B} {o : A × B} (h : (v, s) = o) : v = o.1 := by cases h; rfl
