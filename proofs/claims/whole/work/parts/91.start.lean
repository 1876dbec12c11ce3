theorem one_D {e : va_E} {a : Nat} {A : Nat → Prop} (h : A a) : va_D A [(a, e)] := ⟨fun i j x y hx hy _ => by
    have h1 := (List.getElem?_eq_some_iff.mp hx).1
    have h2 := (List.getElem?_eq_some_iff.mp hy).1
    simp at h1 h2
    omega, fun k q hq => by
    have hk0 : k = 0 := by have := (List.getElem?_eq_some_iff.mp hq).1; simpa using this
    subst hk0
    cases hq
    exact h⟩
theorem one_F {e : va_E} {a z n : Nat} (h : z ≤ a) (hn : z ≤ n) : ∀ q, va_A [(a, e)] n q → z ≤ q := by
  intro q hq
  rcases hq with ⟨k, ee, hk⟩ | hq
  · have hk0 : k = 0 := by have := (List.getElem?_eq_some_iff.mp hk).1; simpa using this
    subst hk0
    cases hk
    exact h
  · omega
set_option maxRecDepth 100000 in
set_option maxHeartbeats 8000000 in
theorem start_all {Rel : ST → ST → Prop} (h_state : Sim_state Rel) (h_land : Sim_land Rel) (h_set : Sim_set Rel) (h_feed : Sim_feed Rel) (h_end : Sim_end Rel) (h_text : Sim_text Rel) (h_fault : Sim_fault Rel) (h_sow : Sim_sow Rel) (h_weed : Sim_weed Rel) (h_turn : Sim_turn Rel) (h_days : Sim_days Rel) (h_at : Sim_at Rel) (h_kind : Sim_kind Rel) (h_cross : Sim_cross Rel) (h_gust : Sim_gust Rel) (h_book : Sim_book Rel) (h_blows : Sim_blows Rel) (h_harms : Sim_harms Rel) (h_meets : Sim_meets Rel) (h_sows : Sim_sows Rel) (h_gets : Sim_gets Rel) (h_weeds : Sim_weeds Rel) (h_have : Sim_have Rel) (h_generations : Sim_generations Rel) (h_who : Sim_who Rel) (h_calm : Sim_calm Rel) (h_good : Sim_good Rel) (h_open : Sim_open Rel) (h_game : Sim_game Rel) (h_undo : Sim_undo Rel) (h_image : Sim_image Rel) (h_look : Sim_look Rel) {sc0 : ST} (hb0 : C_X1_begin sc00 1 5 4 = some sc0) (hR0 : Rel sc0 sm00) {p : Program} {e : Env} {s : State} {m : MethodId} {below : List Frame} {meth : Method} {c : Code} (l : Launch) {b L : Nat} {xs : Nat → Int32} (hL : L ≤ 3072) (C0 : lw_At p s m meth c b L xs) : W p l e room_1 s m #[Value.ref b] below meth c s.heap [] 0 0 (lw_Z below #[Value.ref b] s) (entryFrame m ([Value.ref b] : List Value).toArray 4) := by
  obtain ⟨hx, hb, hr, hml, hown, hts, hX, hbl, hlocks, hgv⟩ := id C0
  have hG := gt_tbl hts
  have hA : ∀ q : Nat, s.heap.size ≤ q → (fun q : Nat => s.heap.size ≤ q) q := fun _ h => h
  obtain ⟨D, cA, cL, hK⟩ := k_all hts
  obtain ⟨sa, sv, hSt⟩ := start_S (A := (fun q : Nat => s.heap.size ≤ q)) hgv hts (fun a ha => Nat.not_le.mpr ha)
  have hNW := nw_all hts
  have hAO := ao_land hts
  have F : CallFix p m c cL_law 4 s #[.ref b] GT RL := ⟨hx, hb, hml, hown, hG⟩
  have hl := lv_entry ([.ref b]) (n := 4) (Nat.le_of_ble_eq_true rfl)
  rw [lg_entry_eq]
  generalize (lg_sl ([.ref b]) ++ List.replicate (4 - (lg_sl ([.ref b])).length) Slot.unset).toArray = ls at hl ⊢
  have hl : lv_has ls 4 [(0, .ref b)] := hl
  have hS : va_S (fun q : Nat => s.heap.size ≤ q) s.heap s.heap [] := va_S.rf
  have hP : va_P D vwCl [] s.heap := fun k q h => by simp at h
  have hD : va_D (fun q : Nat => s.heap.size ≤ q) [] := ⟨fun i j p q h => by simp at h, fun k q h => by simp at h⟩
  refine va_new (ci := 9) (fs := [.null, .null, .null, .null, .null, .null, .int 0, .null, .null, .null, .null, .null]) (C := RX9) (T := TX9) (N := 12) hx hb hG inX9 tyX9 tyX9_ok hown (hG _ (gt_of 216 (by decide +kernel) rfl)) (hG _ (gt_of 217 (by decide +kernel) rfl)) (hG _ (gt_of 196 (by decide +kernel) rfl)) hK hP hD hS hA rfl (by intro j hj; exact (by decide : ∀ j, j < 12 → defaultValue (tyX9 j) = vp_V [.null, .null, .null, .null, .null, .null, .int 0, .null, .null, .null, .null, .null] j) j hj) (Nat.le_of_ble_eq_true rfl) (Nat.le_of_ble_eq_true rfl) dL_law_0 (fun a H hP hD hS => ?_)
  have hP : va_P D vwCl [(a, .inr (9, [.null, .null, .null, .null, .null, .null, .int 0, .null, .null, .null, .null, .null]))] H := hP
  have hza : s.heap.size ≤ a := hD.2 0 _ rfl
  have hFa := one_F (e := .inr (9, [.null, .null, .null, .null, .null, .null, .int 0, .null, .null, .null, .null, .null])) hza hS.1
  refine lv_dup hx hb dL_law_3 rfl ?_
  refine va_callv (va_runI (As := []) (rest := [.ref a]) F (k_X9_init l D cA cL s.heap.size H.size sa sv a hb0) (cwI 0 hG (gt_c (gt_of 220 (by decide +kernel) rfl) gt_t) rfl rfl rfl (hG _ (gt_of 196 (by decide +kernel) rfl)) (hG _ (gt_of 218 (by decide +kernel) rfl)) (hG _ (gt_of 219 (by decide +kernel) rfl)) rfl ⟨by decide, by decide, by decide +kernel⟩ ⟨(Nat.le_of_ble_eq_true rfl), (Nat.le_of_ble_eq_true rfl)⟩) ⟨blind9, fun U hU hW => ⟨rfl, by rw [hU], by rw [hU]; exact hP, va_K.moved hW.alike hK, nw_warm hW hNW, va_AO.moved hW.alike hAO, hza, hS.1, by rw [hU]; exact SZ_warm hW (SZ_kept (fun q hq hn => hS.2.1 q hq hn) hSt)⟩⟩ rfl rfl hl.1 rfl (lv_room (Nat.le_of_ble_eq_true rfl)) dL_law_4 ⟨(Nat.le_of_ble_eq_true rfl), (Nat.le_of_ble_eq_true rfl)⟩) hS (fun q _ h => hFa q h) hFa (fun u t H1 locs1 ht hvm hw hB hz1 hk1 hS => ?_)
  obtain ⟨hP1, hinj, hAd⟩ := hB
  rw [ht] at hP1
  have hA1 : ∀ k, k < 125 → s.heap.size ≤ hm a u k := fun k hk => hFa _ (hAd k hk)
  have hlen1 : (kW (KC D cA cL (hm a u) (ZC (hm a u) sa sv)) sc0).length = 125 := kW_len
  have hD1 : va_D (fun q : Nat => s.heap.size ≤ q) (kW (KC D cA cL (hm a u) (ZC (hm a u) sa sv)) sc0) := by
    refine ⟨fun i j x y hx2 hy2 hxy => ?_, fun k q hq => ?_⟩
    · have hi := (List.getElem?_eq_some_iff.mp hx2).1
      have hj := (List.getElem?_eq_some_iff.mp hy2).1
      rw [hlen1] at hi hj
      rw [kW_get (K := (KC D cA cL (hm a u) (ZC (hm a u) sa sv))) hi] at hx2
      rw [kW_get (K := (KC D cA cL (hm a u) (ZC (hm a u) sa sv))) hj] at hy2
      cases hx2
      cases hy2
      exact hinj i j hi hj hxy
    · have hk := (List.getElem?_eq_some_iff.mp hq).1
      rw [hlen1] at hk
      rw [kW_get (K := (KC D cA cL (hm a u) (ZC (hm a u) sa sv))) hk] at hq
      cases hq
      exact hA1 k hk
  refine lv_astore_n (lv' := [(1, .ref a), (0, .ref b)]) hx hb dL_law_7 rfl hl (by decide) rfl (fun ls hl => ?_)
  refine va_new (ci := 10) (fs := [.int 0, .null, .null, .int 0, .null, .int 0, .int 0, .int 0, .int 0, .null, .null, .null, .int 0, .int 0, .int 0, .int 0, .int 0, .null, .null, .null, .null, .null, .null, .null, .null, .int 0, .int 0, .int 0, .null, .int 0, .int 0, .int 0, .int 0, .int 0, .int 0, .null, .int 0, .null, .int 0, .int 0, .int 0, .null, .int 0, .null, .null, .null, .int 0, .null, .int 0, .int 0, .int 0, .int 0, .int 0, .null]) (C := RX10) (T := TX10) (N := 54) hx hb hG inX10 tyX10 tyX10_ok hown (hG _ (gt_of 1278 (by decide +kernel) rfl)) (hG _ (gt_of 1279 (by decide +kernel) rfl)) (hG _ (gt_of 208 (by decide +kernel) rfl)) hK hP1 hD1 hS hA rfl (by intro j hj; exact (by decide : ∀ j, j < 54 → defaultValue (tyX10 j) = vp_V [.int 0, .null, .null, .int 0, .null, .int 0, .int 0, .int 0, .int 0, .null, .null, .null, .int 0, .int 0, .int 0, .int 0, .int 0, .null, .null, .null, .null, .null, .null, .null, .null, .int 0, .int 0, .int 0, .null, .int 0, .int 0, .int 0, .int 0, .int 0, .int 0, .null, .int 0, .null, .int 0, .int 0, .int 0, .null, .int 0, .null, .null, .null, .int 0, .null, .int 0, .int 0, .int 0, .int 0, .int 0, .null] j) j hj) (Nat.le_of_ble_eq_true rfl) (Nat.le_of_ble_eq_true rfl) dL_law_8 (fun a2 H2 hP2 hD2 hS2 => ?_)
  have hq2 : (kW (KC D cA cL (hm a u) (ZC (hm a u) sa sv)) sc0 ++ [(a2, .inr (10, [.int 0, .null, .null, .int 0, .null, .int 0, .int 0, .int 0, .int 0, .null, .null, .null, .int 0, .int 0, .int 0, .int 0, .int 0, .null, .null, .null, .null, .null, .null, .null, .null, .int 0, .int 0, .int 0, .null, .int 0, .int 0, .int 0, .int 0, .int 0, .int 0, .null, .int 0, .null, .int 0, .int 0, .int 0, .null, .int 0, .null, .null, .null, .int 0, .null, .int 0, .int 0, .int 0, .int 0, .int 0, .null]))])[125]? = some (a2, .inr (10, [.int 0, .null, .null, .int 0, .null, .int 0, .int 0, .int 0, .int 0, .null, .null, .null, .int 0, .int 0, .int 0, .int 0, .int 0, .null, .null, .null, .null, .null, .null, .null, .null, .int 0, .int 0, .int 0, .null, .int 0, .int 0, .int 0, .int 0, .int 0, .int 0, .null, .int 0, .null, .int 0, .int 0, .int 0, .null, .int 0, .null, .null, .null, .int 0, .null, .int 0, .int 0, .int 0, .int 0, .int 0, .null])) := by rw [List.getElem?_append_right (by rw [hlen1]; exact Nat.le_refl _), hlen1]; rfl
  have hza2 : s.heap.size ≤ a2 := hD2.2 125 _ hq2
  have hFa2 := one_F (e := .inr (10, [.int 0, .null, .null, .int 0, .null, .int 0, .int 0, .int 0, .int 0, .null, .null, .null, .int 0, .int 0, .int 0, .int 0, .int 0, .null, .null, .null, .null, .null, .null, .null, .null, .int 0, .int 0, .int 0, .null, .int 0, .int 0, .int 0, .int 0, .int 0, .int 0, .null, .int 0, .null, .int 0, .int 0, .int 0, .null, .int 0, .null, .null, .null, .int 0, .null, .int 0, .int 0, .int 0, .int 0, .int 0, .null])) hza2 hS2.1
  have hP0 : va_P D vwCl [(a2, .inr (10, [.int 0, .null, .null, .int 0, .null, .int 0, .int 0, .int 0, .int 0, .null, .null, .null, .int 0, .int 0, .int 0, .int 0, .int 0, .null, .null, .null, .null, .null, .null, .null, .null, .int 0, .int 0, .int 0, .null, .int 0, .int 0, .int 0, .int 0, .int 0, .int 0, .null, .int 0, .null, .int 0, .int 0, .int 0, .null, .int 0, .null, .null, .null, .int 0, .null, .int 0, .int 0, .int 0, .int 0, .int 0, .null]))] H2 := fun k x hx2 => by
    have hk0 : k = 0 := by have := (List.getElem?_eq_some_iff.mp hx2).1; simpa using this
    subst hk0
    cases hx2
    exact hP2 125 _ hq2
  refine lv_dup hx hb dL_law_11 rfl ?_
  refine va_callv (va_runI (As := []) (rest := [.ref a2]) F (k_X10_init l D cA cL a2 H2.size) (cwI 0 hG (gt_c gl_X10_init gt_t) rfl rfl rfl (hG _ (gt_of 208 (by decide +kernel) rfl)) (hG _ (gt_of 1280 (by decide +kernel) rfl)) (hG _ (gt_of 1281 (by decide +kernel) rfl)) rfl ⟨by decide, by decide, by decide +kernel⟩ ⟨(Nat.le_of_ble_eq_true rfl), (Nat.le_of_ble_eq_true rfl)⟩) ⟨prec_blind, fun U hU hW => ⟨rfl, by rw [hU], by rw [hU]; exact hP0, va_K.moved hW.alike hK, one_D trivial, nw_warm hW hNW, va_AO.moved hW.alike hAO⟩⟩ rfl rfl hl.1 rfl (lv_room (Nat.le_of_ble_eq_true rfl)) dL_law_12 ⟨(Nat.le_of_ble_eq_true rfl), (Nat.le_of_ble_eq_true rfl)⟩) hS2 (fun q _ h => hFa2 q h) hFa2 (fun u2 t2 H3 locs3 ht2 hvm2 hw2 hB2 hz2 hk2 hS3 => ?_)
  obtain ⟨hP3, hD3⟩ := hB2
  rw [ht2] at hP3
  obtain ⟨hPw, hDw⟩ := join_last hP2 hD2 hk2 hFa2 hP3 hD3
  have at1 : ∀ i, i < 125 → (kW (KC D cA cL (hm a u) (ZC (hm a u) sa sv)) sc0 ++ wX10_init cA cL a2 u2)[i]? = (kW (KC D cA cL (hm a u) (ZC (hm a u) sa sv)) sc0)[i]? := fun i hi => List.getElem?_append_left (by rw [hlen1]; exact hi)
  have at2 : ∀ i, (kW (KC D cA cL (hm a u) (ZC (hm a u) sa sv)) sc0 ++ wX10_init cA cL a2 u2)[125 + i]? = (wX10_init cA cL a2 u2)[i]? := fun i => by rw [List.getElem?_append_right (by rw [hlen1]; omega), hlen1]; congr 1; omega
  have hPc : va_P D vwCl (kW (KC D cA cL (hm a u) (ZC (hm a u) sa sv)) sc0) H3 := fun k q hq => by
    have hk := (List.getElem?_eq_some_iff.mp hq).1
    rw [hlen1] at hk
    exact hPw k q (by rw [at1 k hk]; exact hq)
  have hPm : va_P D vwCl (kW (KM D cA (hm a2 u2)) sm00) H3 := by
    rw [wm_eq D cA cL]
    exact fun k q hq => hPw (125 + k) q (by rw [at2 k]; exact hq)
  have g1 : ∀ i, i < 125 → ∃ x, (kW (KC D cA cL (hm a u) (ZC (hm a u) sa sv)) sc0 ++ wX10_init cA cL a2 u2)[i]? = some (hm a u i, x) := fun i hi => ⟨_, by rw [at1 i hi]; exact kW_get (K := (KC D cA cL (hm a u) (ZC (hm a u) sa sv))) hi⟩
  have g2 : ∀ i, i < 24 → ∃ x, (kW (KC D cA cL (hm a u) (ZC (hm a u) sa sv)) sc0 ++ wX10_init cA cL a2 u2)[125 + i]? = some (hm a2 u2 i, x) := fun i hi => ⟨_, by rw [at2 i]; exact wm_at cA cL a2 u2 i hi⟩
  have hinj2 : ∀ i j, i < 24 → j < 24 → hm a2 u2 i = hm a2 u2 j → i = j := fun i j hi hj hij => by
    obtain ⟨x, hx2⟩ := g2 i hi
    obtain ⟨y, hy2⟩ := g2 j hj
    have := hDw.1 _ _ _ _ hx2 hy2 hij
    omega
  have hA2 : ∀ k, k < 24 → s.heap.size ≤ hm a2 u2 k := fun k hk => by
    obtain ⟨x, hx2⟩ := g2 k hk
    exact hDw.2 _ _ hx2
  have hap : ∀ i j, i < 125 → j < 24 → hm a u i ≠ hm a2 u2 j := fun i j hi hj hij => by
    obtain ⟨x, hx2⟩ := g1 i hi
    obtain ⟨y, hy2⟩ := g2 j hj
    have := hDw.1 _ _ _ _ hx2 hy2 hij
    omega
  have hJ1 : kJ (KC D cA cL (hm a u) (ZC (hm a u) sa sv)) := kJ_C hinj
  have hJ2 : kJ (KM D cA (hm a2 u2)) := ⟨hinj2, fun _ _ _ _ _ => trivial, fun _ _ _ _ _ _ => trivial, fun _ _ _ _ _ => trivial⟩
  have hZ1 : ZC (hm a u) sa sv s s.heap := ⟨hNW, SZA_narrow (fun q hq => by obtain ⟨k, hk, rfl⟩ := hq; exact hA1 k hk) hSt⟩
  have X : LX (KC D cA cL (hm a u) (ZC (hm a u) sa sv)) (KM D cA (hm a2 u2)) p s m c b L xs := ⟨F, ⟨hK, hK.sub [0] rfl⟩, ⟨hJ1, hJ2⟩, ⟨hZ1, trivial⟩, ⟨fun q hq => by obtain ⟨k, hk, rfl⟩ := hq; exact hA1 k hk, fun q hq => by obtain ⟨k, hk, rfl⟩ := hq; exact hA2 k hk, fun q h1 h2 => by obtain ⟨i, hi, rfl⟩ := h1; obtain ⟨j, hj, hij⟩ := h2; exact hap i j hi hj hij⟩, hX, hbl⟩
  refine W.widen (k := 600000) (n := 7302249) (Nat.le_of_ble_eq_true rfl) (Nat.le_of_ble_eq_true rfl) ?_
  refine lv_astore_n (lv' := [(2, .ref a2), (1, .ref a), (0, .ref b)]) hx hb dL_law_15 rfl hl (by decide) rfl (fun ls hl => ?_)
  refine lv_iconst (v := 0) hx hb dL_law_16 (by decide) ?_
  refine lv_istore_n (lv' := [(3, .int 0), (2, .ref a2), (1, .ref a), (0, .ref b)]) hx hb dL_law_17 rfl hl (by decide) rfl (fun ls hl => ?_)
  have fin : ∀ (sc sm : ST) (i3 : Int32), LG (KC D cA cL (hm a u) (ZC (hm a u) sa sv)) (KM D cA (hm a2 u2)) p l e s m b below meth c (lw_Z below #[Value.ref b] s) 600000 7302249 sc sm 1216 [(3, .int i3), (0, .ref b), (1, .ref (hm a u 0)), (2, .ref (hm a2 u2 0))] [] := by
    intro sc sm i3 H locs ls h1 h2 h3 hl
    refine lv_iconst (v := 1) hx hb dL_law_1216 (by decide) ?_
    refine va_forget (fun q hq => h3.2.2 q hq) ?_
    exact lw_ret hx hb hr hlocks dL_law_1217
  exact law_loop ZK_C X ⟨(Nat.le_of_ble_eq_true rfl), (Nat.le_of_ble_eq_true rfl)⟩ hL h_state h_land h_set h_feed h_end h_text h_fault h_sow h_weed h_turn h_days h_at h_kind h_cross h_gust h_book h_blows h_harms h_meets h_sows h_gets h_weeds h_have h_generations h_who h_calm h_good h_open h_game h_undo h_image h_look fin (L + 1) 0 (by omega) (by omega) sc0 sm00 hR0 H3 locs3 ls hPc hPm hS3 (lv_sub hl [0, 3, 2, 1] rfl)
