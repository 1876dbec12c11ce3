def Pre9 (D : va_G) (cA cL : ClassId) (z0 sz : Nat) (sa sv : Nat → Nat) (a : Nat) : Array Value → State → Prop := va_Pc [.ref a] (fun U => U.heap.size = sz ∧ va_P D vwCl [(a, .inr (9, [.null, .null, .null, .null, .null, .null, .int 0, .null, .null, .null, .null, .null]))] U.heap ∧ va_K D vwCl [(cA, .int), (cL, .object "StormSeeds$Land")] U ∧ (∀ w ∈ NW, va_Nw w U) ∧ va_AO "StormSeeds$Land" U ∧ z0 ≤ a ∧ z0 ≤ sz ∧ SZA (fun q => z0 ≤ q) sa sv U U.heap)
def Post9 (D : va_G) (cA cL : ClassId) (sz : Nat) (sa sv : Nat → Nat) (a : Nat) (sc0 : ST) : (Nat → Nat) → State → Prop := fun u U => va_P D vwCl (kW (KC D cA cL (hm a u) (ZC (hm a u) sa sv)) sc0) U.heap ∧ (∀ i j, i < 125 → j < 125 → hm a u i = hm a u j → i = j) ∧ ∀ k, k < 125 → va_A [(a, .inr (9, [.null, .null, .null, .null, .null, .null, .int 0, .null, .null, .null, .null, .null]))] sz (hm a u k)
theorem blind9 {D : va_G} {cA cL : ClassId} {z0 sz : Nat} {sa sv : Nat → Nat} {a : Nat} : FrameBlind (Pre9 D cA cL z0 sz sa sv a) := by
  intro v U g mk q
  obtain ⟨h1, h2, h3, h4, h5, h6, h7, h8, h9⟩ := q
  exact ⟨h1, h2, h3, va_K.moved (u := U) (U := U.calling g mk v) (Vm.Alike.refl U.vm) h4, nw_same (s := U) (U := U.calling g mk v) rfl h5, va_AO.moved (u := U) (U := U.calling g mk v) (Vm.Alike.refl U.vm) h6, h7, h8, SZ_same (u := U) (U := U.calling g mk v) rfl h9⟩
set_option maxRecDepth 100000 in
set_option maxHeartbeats 8000000 in
theorem k_X9_init (l : Launch) (D : va_G) (cA cL : ClassId) (z0 sz : Nat) (sa sv : Nat → Nat) (a : Nat) {sc0 : ST} (hb0 : C_X1_begin sc00 1 5 4 = some sc0) : Met l yX9_init (.code yX9_init cX9_init 1 none :: GT) (rmC 70 124 8658) (Pre9 D cA cL z0 sz sa sv a) (va_Qv (fun _ : Nat → Nat => True) (Post9 D cA cL sz sa sv a sc0) (va_A [(a, .inr (9, [.null, .null, .null, .null, .null, .null, .int 0, .null, .null, .null, .null, .null]))] sz)) 124 8658 (va_A [(a, .inr (9, [.null, .null, .null, .null, .null, .null, .int 0, .null, .null, .null, .null, .null]))] sz) := by
  refine Met.ofW (cc := cX9_init) (maxL := 1) (ret := none) (by decide) rfl ?_
  intro p e st m args below meth c s₁ B hml hv
  have hr := B.returns
  have hlocks := B.notSynchronized
  obtain ⟨rfl, hz, hP0, hK, hN, hO, hza, hzs, hSt⟩ := hv
  have hts := atoms_spec (ws := .code yX9_init cX9_init 1 none :: GT) B.pre
  have hown : st.vm.findClass RX9 = some m.cls := findClass_of_methodNamed B.named
  have hin : meth.name = "<init>" := (name_of_methodNamed B.named B.method).1
  have hD0 : va_D (va_A [(a, .inr (9, [.null, .null, .null, .null, .null, .null, .int 0, .null, .null, .null, .null, .null]))] sz) [(a, .inr (9, [.null, .null, .null, .null, .null, .null, .int 0, .null, .null, .null, .null, .null]))] := ⟨fun i j x y hx hy _ => by
    have h1 := (List.getElem?_eq_some_iff.mp hx).1
    have h2 := (List.getElem?_eq_some_iff.mp hy).1
    simp at h1 h2
    omega, fun _ _ hk => va_A.in hk⟩
  have X : CX D cA cL (va_A [(a, .inr (9, [.null, .null, .null, .null, .null, .null, .int 0, .null, .null, .null, .null, .null]))] sz) p st m [Value.ref a].toArray meth c cX9_init 1 RX9 := ⟨⟨B.exec, B.bytes, hml, hown, fun w hw => hts w (List.mem_cons_of_mem _ hw)⟩, hK, fun q hq => Or.inr (by rw [← hz]; exact hq), hN, hO, hin⟩
  rw [lg_entry_eq]
  refine walk9 (Q := _) X (fun u => ?_) _ _ _ ⟨hP0, hD0, va_S.rf⟩ (lv_entry [.ref a] (Nat.le_of_ble_eq_true rfl))
  intro H locs ls w hl
  have hat := we_at w.1
  have hP : va_P D vwCl (kW (KC D cA cL (hm a u) (ZC (hm a u) sa sv)) sc00) H := by
    intro k q hq
    have hk : k < 125 := by
      have hl0 := (List.getElem?_eq_some_iff.mp hq).1
      rw [kW_len] at hl0
      exact hl0
    rw [kW_get (K := KC D cA cL (hm a u) (ZC (hm a u) sa sv)) hk] at hq
    cases hq
    exact hat k hk
  have hinj : ∀ i j, i < 125 → j < 125 → hm a u i = hm a u j → i = j := by
    intro i j hi hj hij
    obtain ⟨e1, q1⟩ := we_ad cA cL a u i hi
    obtain ⟨e2, q2⟩ := we_ad cA cL a u j hj
    exact w.2.1.1 i j _ _ q1 q2 hij
  have hAd : ∀ k, k < 125 → va_A [(a, .inr (9, [.null, .null, .null, .null, .null, .null, .int 0, .null, .null, .null, .null, .null]))] sz (hm a u k) := by
    intro k hk
    obtain ⟨e1, q1⟩ := we_ad cA cL a u k hk
    exact w.2.1.2 k _ q1
  have hge : ∀ q, va_A [(a, .inr (9, [.null, .null, .null, .null, .null, .null, .int 0, .null, .null, .null, .null, .null]))] sz q → z0 ≤ q := by
    intro q hq
    rcases hq with ⟨k, ee, hk⟩ | hq
    · have hk0 : k = 0 := by have := (List.getElem?_eq_some_iff.mp hk).1; simpa using this
      subst hk0
      cases hk
      exact hza
    · omega
  have hJ := kJ_C (D := D) (cA := cA) (cL := cL) (sa := sa) (sv := sv) hinj
  have hZs : ZC (hm a u) sa sv st st.heap := ⟨hN, SZA_narrow (fun q hq => by obtain ⟨k, hk, rfl⟩ := hq; exact hge _ (hAd k hk)) hSt⟩
  have hkeep : ∀ q : Nat, q < st.heap.size → ¬ AH (hm a u) q → H[q]? = st.heap[q]? := by
    intro q hq hn
    refine w.2.2.2.1 q hq (fun hA => ?_)
    rcases hA with ⟨k, ee, hk⟩ | hA
    · have hk0 : k = 0 := by have := (List.getElem?_eq_some_iff.mp hk).1; simpa using this
      subst hk0
      cases hk
      exact hn ⟨0, by omega, rfl⟩
    · omega
  have hZH : ZC (hm a u) sa sv st H := hJ.2.2.1 st st.heap H w.2.2.1 hkeep hZs
  have hA1 : ∀ q, kA (KC D cA cL (hm a u) (ZC (hm a u) sa sv)) q → va_A [(a, .inr (9, [.null, .null, .null, .null, .null, .null, .int 0, .null, .null, .null, .null, .null]))] sz q := by
    intro q hq
    obtain ⟨k, hk, rfl⟩ := hq
    exact hAd k hk
  refine va_callv (va_runVN (As := [.int 5, .int 4]) (rest := []) X.1 (k_X1_begin (ZK_C (h := hm a u) (sa := sa) (sv := sv)) l D cA cL sc00 1 5 4 sh_1 hb0) ⟨va_cnB 2 X.1.2.2.2.2 (gt_c (gt_of 533 (by decide +kernel) rfl) gt_t) rfl rfl rfl (hN _ (nw_of 530 (by decide +kernel) rfl : Cond.methodLinkNest RX9 82 yX1_begin "StormSeeds" ∈ NW)) (X.1.2.2.2.2 _ (gt_of 197 (by decide +kernel) rfl)) ⟨by decide, by decide, by decide +kernel⟩ ⟨(Nat.le_of_ble_eq_true rfl), (Nat.le_of_ble_eq_true rfl)⟩, X.1.2.2.2.2 _ (gt_of 532 (by decide +kernel) rfl), X.1.2.2.2.2 _ (gt_of 0 (by decide +kernel) rfl)⟩ ⟨blind_of, va_recv (ci := 1) (q := (RX1, TX1, 16)) hK hP rfl (show (kW (KC D cA cL (hm a u) (ZC (hm a u) sa sv)) sc00)[1]? = some (hm a u 1, .inr (1, cF1 (hm a u) 1 (sc00.1 1) (sc00.2 1))) from (kW_get (K := KC D cA cL (hm a u) (ZC (hm a u) sa sv)) (s := sc00) (k := 1) (Nat.le_of_ble_eq_true rfl)).trans (congrArg (fun z => some (hm a u 1, z)) (GC_1 (cA := cA) (cL := cL) sh_1 _ _))), fun U hU hW => ⟨rfl, by rw [hU]; exact hP, va_K.moved hW.alike hK, hJ, by rw [hU]; exact hJ.2.1 st U H hW hZH⟩⟩ rfl rfl hl.1 rfl (lv_room (Nat.le_of_ble_eq_true rfl)) dX9_init_165 ⟨(Nat.le_of_ble_eq_true rfl), (Nat.le_of_ble_eq_true rfl)⟩) w.2.2 (fun q _ h => hA1 q h) hA1 (fun u2 t H1 locs1 ht hvm hw hB hz1 hk1 hS => ?_)
  subst hw
  exact W.vret B.exec B.bytes hr (fun t2 ht2 _ => ⟨⟨u, rfl, trivial, by rw [ht2, ← ht]; exact hB, hinj, hAd⟩, hS.F ht2⟩) hS.2.2 dX9_init_168 hlocks
