theorem blX10_init (cA cL : ClassId) (a : Nat) (u : Nat → Nat) : (wX10_init cA cL a u).length = 24 := rfl
def sm00 : ST := (fun b => if b = 7 then wf 150 else if b = 0 then (fun i => if i = 33 then -1 else 0) else fun _ => 0, fun _ _ => 0)
theorem wm_0 (cA cL : ClassId) (a : Nat) (u : Nat → Nat) : (wX10_init cA cL a u)[0]? = some (hm a u 0, GM cA (hm a u) 0 (sm00.1 0) (sm00.2 0)) := rfl
theorem wm_1 (cA cL : ClassId) (a : Nat) (u : Nat → Nat) : (wX10_init cA cL a u)[1]? = some (hm a u 1, GM cA (hm a u) 1 (sm00.1 1) (sm00.2 1)) := rfl
theorem wm_2 (cA cL : ClassId) (a : Nat) (u : Nat → Nat) : (wX10_init cA cL a u)[2]? = some (hm a u 2, GM cA (hm a u) 2 (sm00.1 2) (sm00.2 2)) := rfl
theorem wm_3 (cA cL : ClassId) (a : Nat) (u : Nat → Nat) : (wX10_init cA cL a u)[3]? = some (hm a u 3, GM cA (hm a u) 3 (sm00.1 3) (sm00.2 3)) := rfl
theorem wm_4 (cA cL : ClassId) (a : Nat) (u : Nat → Nat) : (wX10_init cA cL a u)[4]? = some (hm a u 4, GM cA (hm a u) 4 (sm00.1 4) (sm00.2 4)) := rfl
theorem wm_5 (cA cL : ClassId) (a : Nat) (u : Nat → Nat) : (wX10_init cA cL a u)[5]? = some (hm a u 5, GM cA (hm a u) 5 (sm00.1 5) (sm00.2 5)) := rfl
theorem wm_6 (cA cL : ClassId) (a : Nat) (u : Nat → Nat) : (wX10_init cA cL a u)[6]? = some (hm a u 6, GM cA (hm a u) 6 (sm00.1 6) (sm00.2 6)) := rfl
theorem wm_7 (cA cL : ClassId) (a : Nat) (u : Nat → Nat) : (wX10_init cA cL a u)[7]? = some (hm a u 7, GM cA (hm a u) 7 (sm00.1 7) (sm00.2 7)) := rfl
theorem wm_8 (cA cL : ClassId) (a : Nat) (u : Nat → Nat) : (wX10_init cA cL a u)[8]? = some (hm a u 8, GM cA (hm a u) 8 (sm00.1 8) (sm00.2 8)) := rfl
theorem wm_9 (cA cL : ClassId) (a : Nat) (u : Nat → Nat) : (wX10_init cA cL a u)[9]? = some (hm a u 9, GM cA (hm a u) 9 (sm00.1 9) (sm00.2 9)) := rfl
theorem wm_10 (cA cL : ClassId) (a : Nat) (u : Nat → Nat) : (wX10_init cA cL a u)[10]? = some (hm a u 10, GM cA (hm a u) 10 (sm00.1 10) (sm00.2 10)) := rfl
theorem wm_11 (cA cL : ClassId) (a : Nat) (u : Nat → Nat) : (wX10_init cA cL a u)[11]? = some (hm a u 11, GM cA (hm a u) 11 (sm00.1 11) (sm00.2 11)) := rfl
theorem wm_12 (cA cL : ClassId) (a : Nat) (u : Nat → Nat) : (wX10_init cA cL a u)[12]? = some (hm a u 12, GM cA (hm a u) 12 (sm00.1 12) (sm00.2 12)) := rfl
theorem wm_13 (cA cL : ClassId) (a : Nat) (u : Nat → Nat) : (wX10_init cA cL a u)[13]? = some (hm a u 13, GM cA (hm a u) 13 (sm00.1 13) (sm00.2 13)) := rfl
theorem wm_14 (cA cL : ClassId) (a : Nat) (u : Nat → Nat) : (wX10_init cA cL a u)[14]? = some (hm a u 14, GM cA (hm a u) 14 (sm00.1 14) (sm00.2 14)) := rfl
theorem wm_15 (cA cL : ClassId) (a : Nat) (u : Nat → Nat) : (wX10_init cA cL a u)[15]? = some (hm a u 15, GM cA (hm a u) 15 (sm00.1 15) (sm00.2 15)) := rfl
theorem wm_16 (cA cL : ClassId) (a : Nat) (u : Nat → Nat) : (wX10_init cA cL a u)[16]? = some (hm a u 16, GM cA (hm a u) 16 (sm00.1 16) (sm00.2 16)) := rfl
theorem wm_17 (cA cL : ClassId) (a : Nat) (u : Nat → Nat) : (wX10_init cA cL a u)[17]? = some (hm a u 17, GM cA (hm a u) 17 (sm00.1 17) (sm00.2 17)) := rfl
theorem wm_18 (cA cL : ClassId) (a : Nat) (u : Nat → Nat) : (wX10_init cA cL a u)[18]? = some (hm a u 18, GM cA (hm a u) 18 (sm00.1 18) (sm00.2 18)) := rfl
theorem wm_19 (cA cL : ClassId) (a : Nat) (u : Nat → Nat) : (wX10_init cA cL a u)[19]? = some (hm a u 19, GM cA (hm a u) 19 (sm00.1 19) (sm00.2 19)) := rfl
theorem wm_20 (cA cL : ClassId) (a : Nat) (u : Nat → Nat) : (wX10_init cA cL a u)[20]? = some (hm a u 20, GM cA (hm a u) 20 (sm00.1 20) (sm00.2 20)) := rfl
theorem wm_21 (cA cL : ClassId) (a : Nat) (u : Nat → Nat) : (wX10_init cA cL a u)[21]? = some (hm a u 21, GM cA (hm a u) 21 (sm00.1 21) (sm00.2 21)) := rfl
theorem wm_22 (cA cL : ClassId) (a : Nat) (u : Nat → Nat) : (wX10_init cA cL a u)[22]? = some (hm a u 22, GM cA (hm a u) 22 (sm00.1 22) (sm00.2 22)) := rfl
theorem wm_23 (cA cL : ClassId) (a : Nat) (u : Nat → Nat) : (wX10_init cA cL a u)[23]? = some (hm a u 23, GM cA (hm a u) 23 (sm00.1 23) (sm00.2 23)) := rfl
theorem wm_at (cA cL : ClassId) (a : Nat) (u : Nat → Nat) : ∀ k, k < 24 → (wX10_init cA cL a u)[k]? = some (hm a u k, GM cA (hm a u) k (sm00.1 k) (sm00.2 k)) := lt_s (lt_s (lt_s (lt_s (lt_s (lt_s (lt_s (lt_s (lt_s (lt_s (lt_s (lt_s (lt_s (lt_s (lt_s (lt_s (lt_s (lt_s (lt_s (lt_s (lt_s (lt_s (lt_s (lt_s (lt_0) (wm_0 cA cL a u)) (wm_1 cA cL a u)) (wm_2 cA cL a u)) (wm_3 cA cL a u)) (wm_4 cA cL a u)) (wm_5 cA cL a u)) (wm_6 cA cL a u)) (wm_7 cA cL a u)) (wm_8 cA cL a u)) (wm_9 cA cL a u)) (wm_10 cA cL a u)) (wm_11 cA cL a u)) (wm_12 cA cL a u)) (wm_13 cA cL a u)) (wm_14 cA cL a u)) (wm_15 cA cL a u)) (wm_16 cA cL a u)) (wm_17 cA cL a u)) (wm_18 cA cL a u)) (wm_19 cA cL a u)) (wm_20 cA cL a u)) (wm_21 cA cL a u)) (wm_22 cA cL a u)) (wm_23 cA cL a u)
theorem wm_eq (D : va_G) (cA cL : ClassId) (a : Nat) (u : Nat → Nat) : kW (KM D cA (hm a u)) sm00 = wX10_init cA cL a u := by
  apply List.ext_getElem?
  intro i
  by_cases hi : i < 24
  · exact (kW_get (K := KM D cA (hm a u)) (s := sm00) (k := i) hi).trans (wm_at cA cL a u i hi).symm
  · rw [List.getElem?_eq_none (by rw [kW_len]; exact Nat.le_of_not_lt hi), List.getElem?_eq_none (by rw [blX10_init]; exact Nat.le_of_not_lt hi)]
theorem gt_tbl {args : Array Value} {s : State} (hts : ∀ w ∈ lw_tbl, w.before args s = true) : ∀ w ∈ GT, w.before args s = true := fun w hw => hts w (List.mem_filter.mp hw).1
theorem kn_X0 {args : Array Value} {s : State} (hts : ∀ w ∈ GT, w.before args s = true) : ∃ (cC : ClassId) (iS : Nat → Nat), u_Kn s RX0 TX0 4 cC iS := u_known (n := 4) hts inX0 (hts _ (gt_of 508 (by decide +kernel) rfl))
theorem kn_X1 {args : Array Value} {s : State} (hts : ∀ w ∈ GT, w.before args s = true) : ∃ (cC : ClassId) (iS : Nat → Nat), u_Kn s RX1 TX1 16 cC iS := u_known (n := 16) hts inX1 (hts _ (gt_of 225 (by decide +kernel) rfl))
theorem kn_X2 {args : Array Value} {s : State} (hts : ∀ w ∈ GT, w.before args s = true) : ∃ (cC : ClassId) (iS : Nat → Nat), u_Kn s RX2 TX2 5 cC iS := u_known (n := 5) hts inX2 (hts _ (gt_of 350 (by decide +kernel) rfl))
theorem kn_X3 {args : Array Value} {s : State} (hts : ∀ w ∈ GT, w.before args s = true) : ∃ (cC : ClassId) (iS : Nat → Nat), u_Kn s RX3 TX3 4 cC iS := u_known (n := 4) hts inX3 (hts _ (gt_of 451 (by decide +kernel) rfl))
theorem kn_X4 {args : Array Value} {s : State} (hts : ∀ w ∈ GT, w.before args s = true) : ∃ (cC : ClassId) (iS : Nat → Nat), u_Kn s RX4 TX4 3 cC iS := u_known (n := 3) hts inX4 (hts _ (gt_of 324 (by decide +kernel) rfl))
theorem kn_X5 {args : Array Value} {s : State} (hts : ∀ w ∈ GT, w.before args s = true) : ∃ (cC : ClassId) (iS : Nat → Nat), u_Kn s RX5 TX5 10 cC iS := u_known (n := 10) hts inX5 (hts _ (gt_of 410 (by decide +kernel) rfl))
theorem kn_X6 {args : Array Value} {s : State} (hts : ∀ w ∈ GT, w.before args s = true) : ∃ (cC : ClassId) (iS : Nat → Nat), u_Kn s RX6 TX6 4 cC iS := u_known (n := 4) hts inX6 (hts _ (gt_of 485 (by decide +kernel) rfl))
theorem kn_X7 {args : Array Value} {s : State} (hts : ∀ w ∈ GT, w.before args s = true) : ∃ (cC : ClassId) (iS : Nat → Nat), u_Kn s RX7 TX7 5 cC iS := u_known (n := 5) hts inX7 (hts _ (gt_of 318 (by decide +kernel) rfl))
theorem kn_X8 {args : Array Value} {s : State} (hts : ∀ w ∈ GT, w.before args s = true) : ∃ (cC : ClassId) (iS : Nat → Nat), u_Kn s RX8 TX8 2 cC iS := u_known (n := 2) hts inX8 (hts _ (gt_of 472 (by decide +kernel) rfl))
theorem kn_X9 {args : Array Value} {s : State} (hts : ∀ w ∈ GT, w.before args s = true) : ∃ (cC : ClassId) (iS : Nat → Nat), u_Kn s RX9 TX9 12 cC iS := u_known (n := 12) hts inX9 (hts _ (gt_of 217 (by decide +kernel) rfl))
theorem kn_X10 {args : Array Value} {s : State} (hts : ∀ w ∈ GT, w.before args s = true) : ∃ (cC : ClassId) (iS : Nat → Nat), u_Kn s RX10 TX10 54 cC iS := u_known (n := 54) hts inX10 (hts _ (gt_of 1279 (by decide +kernel) rfl))
theorem kn_all {args : Array Value} {s : State} (hts : ∀ w ∈ GT, w.before args s = true) : ∃ D : va_G, ∀ (k : Nat) (q : vw_C), vwCl[k]? = some q → u_Kn s q.1 q.2.1 q.2.2 (D.1 k) (D.2 k) := by
  obtain ⟨c0, i0, h0⟩ := kn_X0 hts
  obtain ⟨c1, i1, h1⟩ := kn_X1 hts
  obtain ⟨c2, i2, h2⟩ := kn_X2 hts
  obtain ⟨c3, i3, h3⟩ := kn_X3 hts
  obtain ⟨c4, i4, h4⟩ := kn_X4 hts
  obtain ⟨c5, i5, h5⟩ := kn_X5 hts
  obtain ⟨c6, i6, h6⟩ := kn_X6 hts
  obtain ⟨c7, i7, h7⟩ := kn_X7 hts
  obtain ⟨c8, i8, h8⟩ := kn_X8 hts
  obtain ⟨c9, i9, h9⟩ := kn_X9 hts
  obtain ⟨c10, i10, h10⟩ := kn_X10 hts
  refine ⟨(fun k => ([c0, c1, c2, c3, c4, c5, c6, c7, c8, c9, c10] : List ClassId).getD k c0, fun k => ([i0, i1, i2, i3, i4, i5, i6, i7, i8, i9, i10] : List (Nat → Nat)).getD k i0), ?_⟩
  intro k q hq
  match k, hq with
  | 0, hq => cases hq; exact h0
  | 1, hq => cases hq; exact h1
  | 2, hq => cases hq; exact h2
  | 3, hq => cases hq; exact h3
  | 4, hq => cases hq; exact h4
  | 5, hq => cases hq; exact h5
  | 6, hq => cases hq; exact h6
  | 7, hq => cases hq; exact h7
  | 8, hq => cases hq; exact h8
  | 9, hq => cases hq; exact h9
  | 10, hq => cases hq; exact h10
  | k + 11, hq => simp [vwCl] at hq
theorem ao_land {args : Array Value} {s : State} (hts : ∀ w ∈ lw_tbl, w.before args s = true) : va_AO "StormSeeds$Land" s := (hts (Cond.arrayOver (.object "StormSeeds$Land")) (List.mem_of_getElem? (i := 514) (by decide +kernel)) : _)
theorem nw_all {args : Array Value} {s : State} (hts : ∀ w ∈ lw_tbl, w.before args s = true) : ∀ w ∈ NW, va_Nw w s := by
  intro w hw
  obtain ⟨h1, hn⟩ := List.mem_filter.mp hw
  cases w with
  | fieldLinkNest a i b n d x => exact va_Nw.of rfl (hts _ h1)
  | methodLinkNest a i x y => exact va_Nw.of rfl (hts _ h1)
  | _ => exact absurd hn (by simp [isNest])
theorem k_all {args : Array Value} {s : State} (hts : ∀ w ∈ lw_tbl, w.before args s = true) : ∃ (D : va_G) (cA cL : ClassId), va_K D vwCl [(cA, .int), (cL, .object "StormSeeds$Land")] s := by
  obtain ⟨D, hD⟩ := kn_all (gt_tbl hts)
  obtain ⟨cA, kA, comp, a1, a2, a3⟩ := Cond.arrayClass_spec (gt_tbl hts _ arrc_int)
  obtain ⟨comp2, cL, kL, b1, b2, b3, b4, b5⟩ := Cond.arrayOver_spec (va_AO.use (A := args) (ao_land hts))
  refine ⟨D, cA, cL, hD, fun k q hq => ?_⟩
  match k, hq with
  | 0, hq =>
    cases hq
    exact ⟨fun N z => ⟨(fun k h => by cases h), kA, a2, comp, a3⟩, a1⟩
  | 1, hq =>
    cases hq
    exact ⟨fun N z => ⟨(fun k h => by cases h), kL, b3, comp2, b4⟩, kL, comp2, b3, b4, b1, b5⟩
  | k + 2, hq => simp at hq
def tmS (i : Nat) : Term := .string RX3 (sIx i)
def tvS (i : Nat) : Term := .field (tmS i) "java/lang/String" "value" "[B"
def FN : List Cond := flatC (Jvm.Cond.and given_1 narrow_1)
theorem tS_ex : ∀ i, i < 30 → Cond.exactly (tmS i) "java/lang/String" ∈ FN := by decide +kernel
theorem tS_co : ∀ i, i < 30 → Cond.eq (.field (tmS i) "java/lang/String" "coder" "B") (.int 0) ∈ FN := by decide +kernel
theorem tS_ar : ∀ i, i < 30 → Cond.arrayOf (tvS i) .byte ∈ FN := by decide +kernel
theorem tS_le : ∀ i, i < 30 → Cond.eq (.length (tvS i)) (.int (Int32.ofNat (slen i))) ∈ FN := by decide +kernel
theorem tS_el : ∀ i, i < 30 → ∀ j, j < slen i → Cond.eq (.elem (tvS i) (.int (Int32.ofNat j))) (.int ((sBy i).getD j 0)) ∈ FN := by decide +kernel
theorem tS_re : ∀ i, i < 30 → Cond.stringRef RX3 (sIx i) (sTx i) ∈ lw_tbl := by decide +kernel
theorem tS_sm : ∀ i, i < 30 → slen i < 2 ^ 31 := by decide +kernel
theorem str1 {args : Array Value} {s : State} {A : Nat → Prop} (hs : ∀ w ∈ FN, w.before args s = true) (hA : ∀ a : Nat, a < s.heap.size → ¬ A a) (i : Nat) (hi : i < 30) : ∃ q : Nat × Nat, (va_O "java/lang/String" q.1 A s s.heap ∧ va_OF "java/lang/String" "coder" "B" (.int 0) q.1 A s s.heap ∧ va_OF "java/lang/String" "value" "[B" (.ref q.2) q.1 A s s.heap ∧ va_T .byte q.2 (slen i) (fun j => .int ((sBy i).getD j 0)) A s s.heap) ∧ (tmS i).eval args s none [] s = some (.ref q.1) := by
  have z : ∀ k, k < 1 → k = 0 := fun k hk => by omega
  obtain ⟨adK, adV, h, he⟩ := vk_Sof (args := args) (s := s) (N := 1) (tm := fun _ => tmS i) (len := [slen i]) (byt := [sBy i]) (A := A) (fun k hk => by rw [z k hk]; exact tS_sm i hi) (fun k hk => hs _ (tS_ex i hi)) (fun k hk => hs _ (tS_co i hi)) (fun k hk => hs _ (tS_ar i hi)) (fun k hk => by rw [z k hk]; exact hs _ (tS_le i hi)) (fun k hk j hj => by rw [z k hk] at hj ⊢; exact hs _ (tS_el i hi j hj)) (fun a b ha hb hn => absurd ((z a ha).trans (z b hb).symm) hn) hA
  exact ⟨(adK 0, adV 0), h.1 0 (by omega), he 0 (by omega)⟩
theorem start_S {args : Array Value} {s : State} {A : Nat → Prop} (hgv : (Jvm.Cond.and given_1 narrow_1).before args s = true) (hts : ∀ w ∈ lw_tbl, w.before args s = true) (hA : ∀ a : Nat, a < s.heap.size → ¬ A a) : ∃ sa sv : Nat → Nat, SZA A sa sv s s.heap := by
  have hs : ∀ w ∈ FN, w.before args s = true := flat_of_before _ hgv
  have h0 : ∀ i : Nat, ∃ q : Nat × Nat, i < 30 → (va_O "java/lang/String" q.1 A s s.heap ∧ va_OF "java/lang/String" "coder" "B" (.int 0) q.1 A s s.heap ∧ va_OF "java/lang/String" "value" "[B" (.ref q.2) q.1 A s s.heap ∧ va_T .byte q.2 (slen i) (fun j => .int ((sBy i).getD j 0)) A s s.heap) ∧ (tmS i).eval args s none [] s = some (.ref q.1) := by
    intro i
    by_cases hi : i < 30
    · obtain ⟨q, hq⟩ := str1 hs hA i hi
      exact ⟨q, fun _ => hq⟩
    · exact ⟨(0, 0), fun h => absurd h hi⟩
  obtain ⟨ad, had⟩ := Classical.axiomOfChoice h0
  refine ⟨fun i => (ad i).1, fun i => (ad i).2, fun i hi => vk_R.of (hts _ (tS_re i hi)) (had i hi).2, fun i hi => (had i hi).1, ?_, ?_⟩
  · exact va_Zof (hts _ (by decide +kernel)) (hts _ (by decide +kernel)) (va_eqt (hs (Cond.eq (.static "java/lang/String" "COMPACT_STRINGS" "Z") (.int 1)) (by decide +kernel))) hA
  · exact va_Zqof (hts _ (by decide +kernel)) (hts _ (by decide +kernel)) (hs (Cond.isRef (.static "jdk/internal/util/Preconditions" "SIOOBE_FORMATTER" "Ljava/util/function/BiFunction;")) (by decide +kernel)) hA
