/-! # stage 2: what is asked of the land and of the kinds -/
theorem lo1 {C A1 : Type} {F : (A1 → Option C) → A1 → Option C} (Q : Option C → Prop) (I : Nat → A1 → Prop)
    (h : ∀ (m : Nat) (rf : A1 → Option C) (a1 : A1), I m a1 → (∀ m' a1, m' < m → I m' a1 → Q (rf a1)) → Q (F rf a1)) :
    ∀ (n m : Nat) (a1 : A1), m < n → I m a1 → Q (lpK1 F n a1) := by
  intro n
  induction n with
  | zero => intro m _ hm; omega
  | succ n ih =>
    intro m a1 hm hI
    exact h m (lpK1 F n) a1 hI (fun m' a1 hlt hI' => ih m' a1 (by omega) hI')
theorem inN (s : ST) (x : Int32) (N : Nat) (hN : N < 2 ^ 31) : (M_isIn s x 0 (nI N) = 0 ∧ ∀ j, j ≤ N → x ≠ nI j) ∨ ∃ j, j ≤ N ∧ x = nI j ∧ M_isIn s x 0 (nI N) = 1 := by
  unfold M_isIn
  by_cases hx : x < 0
  · rw [if_pos hx]
    refine Or.inl ⟨rfl, ?_⟩
    rintro j hj rfl
    exact nI_pos (by omega) hx
  · rw [if_neg hx]
    obtain ⟨j, hj, rfl⟩ := nI_of hx
    by_cases h : nI N < nI j
    · rw [if_pos h]
      refine Or.inl ⟨rfl, fun i hi e => ?_⟩
      rw [e, nI_ltI hN (by omega)] at h
      omega
    · rw [if_neg h]
      rw [nI_ltI hN hj] at h
      exact Or.inr ⟨j, by omega, rfl, rfl⟩
theorem cross_if {A : Type} {p q r s : Prop} [dp : Decidable p] [dq : Decidable q] [dr : Decidable r] [ds : Decidable s] (u v : A) : (if p then (if q then u else if r then (if s then u else v) else v) else if r then (if s then u else v) else v) = if (p ∧ q) ∨ (r ∧ s) then u else v := by
  by_cases h1 : p <;> by_cases h2 : q <;> by_cases h3 : r <;> by_cases h4 : s <;> simp [h1, h2, h3, h4]
theorem cross_same {W H nk nc nl nw np : Nat} {sc sm : ST} (T : TD W H nk nc nl nw np 8 sc sm) (x y : Int32) : ∃ r, C_X7_crossing sc 8 x y = some r ∧ M_crossOf sm x y = some r ∧ (((∀ n, n < nk → x ≠ nI n) ∨ (∀ n, n < nk → y ≠ nI n)) → r = -1) := by
  have h10 := T.c10
  unfold C_X7_crossing M_crossOf
  refine lk11 (Q := fun oc om => ∃ r, oc = some r ∧ om = some r ∧ (((∀ n, n < nk → x ≠ nI n) ∨ (∀ n, n < nk → y ≠ nI n)) → r = -1)) (I := fun m a b => ∃ i, i + m = nc ∧ a = nI i ∧ b = nI i) ?_ FU nc _ _ (by unfold FU; omega) ⟨0, by omega, rfl, rfl⟩
  rintro m rf rg a b ⟨i, him, rfl, rfl⟩ ih
  simp only [Lt_n]
  rw [show sc.1 (8 + 3) 2 = nI nc from T.c, T.c', ite_iff (nI_leI (by omega) (by omega)), ite_iff (nI_leI (by omega) (by omega))]
  cases m with
  | zero =>
    rw [if_pos (by omega), if_pos (by omega)]
    exact ⟨-1, rfl, rfl, fun _ => rfl⟩
  | succ m =>
    have hi : i < nc := by omega
    obtain ⟨a, b, c, han, hbn, hcn, x0, x1, x2, y0, y1, y2⟩ := T.cd i hi
    have l : lc (11 + 1) = 40 := rfl
    have o0 : C_X4_of sc 11 (nI i) 0 = some (nI a) := (c_of (c := 0) T.c hi (by omega) (by decide) (by rw [l]; omega) (by decide)).trans (congrArg some x0)
    have o1 : C_X4_of sc 11 (nI i) 1 = some (nI b) := (c_of (c := 1) T.c hi (by omega) (by decide) (by rw [l]; omega) (by decide)).trans (congrArg some x1)
    have o2 : C_X4_of sc 11 (nI i) 2 = some (nI c) := (c_of (c := 2) T.c hi (by omega) (by decide) (by rw [l]; omega) (by decide)).trans (congrArg some x2)
    have n3 : (3 : Int32) * nI i = nI (3 * i) := nI_mul 3 i
    have hq : ¬ nc ≤ i := by omega
    rw [if_neg hq, if_neg hq, show (8 + 3 : Nat) = 11 from rfl, o0, Bd_some, o1, Bd_some, o2, Bd_some, n3, Gl_n (by omega) (by decide), show nI (3 * i) + (1 : Int32) = nI (3 * i + 1) from nI_1 _, show nI (3 * i) + (2 : Int32) = nI (3 * i + 2) from nI_add _ 2, Gl_n (by omega) (by decide), Gl_n (by omega) (by decide), y0, y1, y2]
    have nx : ∃ r, rf (nI i + 1) = some r ∧ rg (nI i + 1) = some r ∧ (((∀ n, n < nk → x ≠ nI n) ∨ (∀ n, n < nk → y ≠ nI n)) → r = -1) := ih m _ _ (Nat.lt_succ_self m) ⟨i + 1, by omega, nI_1 i, nI_1 i⟩
    have hit : (nI a = x ∧ nI b = y) ∨ (nI a = y ∧ nI b = x) → ∃ r, some (nI c) = some r ∧ some (nI c) = some r ∧ (((∀ n, n < nk → x ≠ nI n) ∨ (∀ n, n < nk → y ≠ nI n)) → r = -1) := by
      intro h
      refine ⟨nI c, rfl, rfl, fun q => ?_⟩
      exfalso
      rcases h with ⟨h1, h2⟩ | ⟨h1, h2⟩ <;> rcases q with q | q
      · exact q a han h1.symm
      · exact q b hbn h2.symm
      · exact q b hbn h2.symm
      · exact q a han h1.symm
    rw [cross_if, cross_if]
    by_cases p : (nI a = x ∧ nI b = y) ∨ (nI a = y ∧ nI b = x)
    · rw [if_pos p, if_pos p]
      exact hit p
    · rw [if_neg p, if_neg p]
      exact nx
theorem s_cross : Sim_cross Rel := by
  rintro sc sm x y ⟨W, H, nk, nc, nl, nw, np, R⟩
  have h10 : ¬ (1 : Int32) = 0 := by decide
  have h00 : (0 : Int32) = 0 := rfl
  have R' := R8_told R
  obtain ⟨r, k1, k2, k3⟩ := cross_same R'.T x y
  refine ⟨r, sc, ups sm 0 0 0, ⟨?_, rfl⟩, ?_, W, H, nk, nc, nl, nw, np, R'⟩
  · unfold C_X9_cross
    rw [k1, Bd_some]
  · unfold M_cross
    rw [Lt_e, Lt_e, R'.T.k']
    rcases in_kind R'.T (ups sm 0 0 0) x with ⟨_, b⟩ | ⟨n, hn, rfl, _, b⟩
    · have e : r = -1 := k3 (Or.inl (fun n hn e => by
        rcases in_kind R'.T (ups sm 0 0 0) x with ⟨a, _⟩ | ⟨_, _, _, _, b2⟩
        · rw [e] at a
          have h8 := R'.T.k8
          unfold C_X7_hasKind C_X4_hasRow at a
          rw [Lt_e, if_neg (nI_pos (by omega)), show sc.1 (8 + 1) 2 = nI nk from R'.T.k, if_neg (show ¬ nI nk ≤ nI n by rw [nI_leI (by omega) (by omega)]; omega)] at a
          exact absurd a (by decide)
        · rw [b2] at b
          exact absurd b (by decide)))
      rw [b, if_pos h00, e]
    rw [b, if_neg h10, Lt_e]
    rcases in_kind R'.T (ups sm 0 0 0) y with ⟨a, b⟩ | ⟨n', hn', rfl, _, b⟩
    · have e : r = -1 := k3 (Or.inr (fun n hn e => by
        rw [e] at a
        have h8 := R'.T.k8
        unfold C_X7_hasKind C_X4_hasRow at a
        rw [Lt_e, if_neg (nI_pos (by omega)), show sc.1 (8 + 1) 2 = nI nk from R'.T.k, if_neg (show ¬ nI nk ≤ nI n by rw [nI_leI (by omega) (by omega)]; omega)] at a
        exact absurd a (by decide)))
      rw [b, if_pos h00, e]
    rw [b, if_neg h10, k2, Bd_some]
theorem s_gust : Sim_gust Rel := by
  rintro sc sm x y z ⟨W, H, nk, nc, nl, nw, np, R⟩
  have h10 : ¬ (1 : Int32) = 0 := by decide
  have h00 : (0 : Int32) = 0 := rfl
  have R' := R8_told R
  have F := @told_b sm
  unfold C_X9_gust M_gust
  simp only [Lt_n]
  rw [R'.T.k', show C_X9_isWithin sc z 0 99 = M_isIn (ups sm 0 0 0) z 0 99 from rfl]
  rcases in_kind R'.T (ups sm 0 0 0) x with ⟨a, b⟩ | ⟨n, hn, rfl, a, b⟩
  · rw [a, b, if_pos h00, if_pos h00]
    exact ⟨-1, _, _, rfl, rfl, W, H, nk, nc, nl, nw, np, R'⟩
  rw [a, b, if_neg h10, if_neg h10]
  rcases in_cell R'.L y with ⟨a, b, _⟩ | ⟨k, hk, hc, rfl, a, b⟩
  · rw [a, b, if_pos h00, if_pos h00]
    exact ⟨-1, _, _, rfl, rfl, W, H, nk, nc, nl, nw, np, R'⟩
  rw [a, b, if_neg h10, if_neg h10]
  rcases inN (ups sm 0 0 0) z 99 (by decide) with ⟨a, _⟩ | ⟨j, hj, rfl, a⟩
  · rw [show M_isIn (ups sm 0 0 0) z 0 99 = 0 from a, if_pos h00, if_pos h00]
    exact ⟨-1, _, _, rfl, rfl, W, H, nk, nc, nl, nw, np, R'⟩
  rw [show M_isIn (ups sm 0 0 0) (nI j) 0 99 = 1 from a, if_neg h10, if_neg h10]
  obtain ⟨v, c1, m1, g1, g2, a1, b1, _⟩ := gust_sim (b := 1) (Or.inl rfl) R'.L.lw R'.T hk hc (nI n) (nI j)
  rw [g1, g2, Bd_some, Bd_some]
  exact ⟨v, c1, m1, rfl, rfl, W, H, nk, nc, nl, nw, np, R8_q R' (a1.mono (by decide)) (b1.mono (by decide)) (fun i _ => by rw [(b1 0 (by decide)).1])⟩
theorem s_book : Sim_book Rel := by
  rintro sc sm x y ⟨W, H, nk, nc, nl, nw, np, R⟩
  have h10 : ¬ (1 : Int32) = 0 := by decide
  have h00 : (0 : Int32) = 0 := rfl
  have R' := R8_told R
  obtain ⟨n, hn, b1, b2, b3⟩ := R'.B
  unfold C_X9_book M_book
  simp only [Lt_n]
  rw [b2]
  rcases in_row (s := sc) (ups sm 0 0 0) x b1 (by omega) with ⟨a, b⟩ | ⟨k, hk, rfl, a, b⟩
  · rw [c_of_out a, b, if_pos h00, Bd_some]
    exact ⟨-1, _, _, ⟨rfl, rfl⟩, rfl, W, H, nk, nc, nl, nw, np, R'⟩
  rw [b, if_neg h10]
  rcases inN (ups sm 0 0 0) y 3 (by decide) with ⟨a2, hne⟩ | ⟨j, hj, rfl, a2⟩
  · rw [show M_isIn (ups sm 0 0 0) y 0 3 = 0 from a2, if_pos h00]
    have e : C_X4_of sc 23 (nI k) y = some (-1) := by
      unfold C_X4_of
      rw [Lt_e, a, if_neg h10]
      by_cases hy : y < 0
      · rw [if_pos hy]
      · rw [if_neg hy]
        obtain ⟨j, hj, rfl⟩ := nI_of hy
        have hj4 : ¬ nI j < (4 : Int32) := by
          rw [show (4 : Int32) = nI 4 from rfl, nI_ltI hj (by decide)]
          intro h
          exact hne j (by omega) rfl
        rw [if_neg hj4]
    rw [e, Bd_some]
    exact ⟨-1, _, _, ⟨rfl, rfl⟩, rfl, W, H, nk, nc, nl, nw, np, R'⟩
  rw [show M_isIn (ups sm 0 0 0) (nI j) 0 3 = 1 from a2, if_neg h10]
  have l : lc (23 + 1) = 600 := rfl
  have n4 : (4 : Int32) * nI k = nI (4 * k) := nI_mul 4 k
  rw [c_of b1 hk (by omega) (by omega) (by rw [l]; omega) (by decide), n4, nI_add, Gl_n (by omega) (by decide), ← b3 k hk j (by omega), Bd_some]
  exact ⟨_, _, _, ⟨rfl, rfl⟩, rfl, W, H, nk, nc, nl, nw, np, R'⟩
theorem kind_ct {W H nk b n : Nat} {sc sm : ST} (L : LD W H nk b sc sm) (hn : n < 8) : M_manyOf sm 69 (nI n) = some (nI (fb_ct (fun k => bq (sc.2 b 8) k && decide (sc.1 (b + 2) k = nI n)) 64)) ∧ M_manyOf sm 197 (nI n) = some (nI (fb_ct (fun k => bq (sc.2 b 9) k && decide (sc.1 (b + 4) k = nI n)) 64)) := by
  have hn8 := L.n8
  constructor
  · refine many_kind (f := 69) (by decide) (n_nI_m1 (by omega)) (fun k hk => ?_)
    rw [nI_1]
    cases q : bq (sc.2 b 8) k with
    | false =>
      rw [L.sd0 k hk q]
      exact ⟨fun h => absurd h.symm (nI_ne0 (by omega) (by omega)), fun h => by simp at h⟩
    | true =>
      obtain ⟨_, n', hn', e2, e, _⟩ := L.sd k hk q
      rw [e, e2, nI_eq (by omega) (by omega)]
      simp only [Bool.true_and, decide_eq_true_eq]
      rw [nI_eq (by omega) (by omega)]
      omega
  · refine many_kind (f := 197) (by decide) (n_nI_m1 (by omega)) (fun k hk => ?_)
    rw [nI_1]
    cases q : bq (sc.2 b 9) k with
    | false =>
      rw [L.st0 k hk q]
      exact ⟨fun h => absurd h.symm (nI_ne0 (by omega) (by omega)), fun h => by simp at h⟩
    | true =>
      obtain ⟨_, n', g, hn', _, _, e2, e, _⟩ := L.st k hk q
      rw [e, e2, nI_eq (by omega) (by omega)]
      simp only [Bool.true_and, decide_eq_true_eq]
      rw [nI_eq (by omega) (by omega)]
      omega
theorem s_kind : Sim_kind Rel := by
  rintro sc sm x y ⟨W, H, nk, nc, nl, nw, np, R⟩
  have h10 : ¬ (1 : Int32) = 0 := by decide
  have h00 : (0 : Int32) = 0 := rfl
  have R' := R8_told R
  have h8 := R'.T.k8
  unfold C_X9_kind M_kind
  simp only [Lt_n]
  rw [R'.T.k']
  rcases in_kind R'.T (ups sm 0 0 0) x with ⟨a, b⟩ | ⟨n, hn, rfl, a, b⟩
  · rw [a, b, if_pos h00, if_pos h00]
    exact ⟨-1, _, _, ⟨rfl, rfl⟩, rfl, W, H, nk, nc, nl, nw, np, R'⟩
  rw [a, b, if_neg h10, if_neg h10]
  obtain ⟨k1, k2⟩ := kind_ct R'.L (n := n) (by omega)
  rcases inN (ups sm 0 0 0) y 4 (by decide) with ⟨a2, hne⟩ | ⟨j, hj, rfl, a2⟩
  · rw [show M_isIn (ups sm 0 0 0) y 0 4 = 0 from a2, if_pos h00]
    rw [if_neg (show ¬ y = 0 from hne 0 (by decide)), if_neg (show ¬ y = 1 from hne 1 (by decide)), if_neg (show ¬ y = 2 from hne 2 (by decide)), if_neg (show ¬ y = 3 from hne 3 (by decide)), if_neg (show ¬ y = 4 from hne 4 (by decide))]
    exact ⟨-1, _, _, ⟨rfl, rfl⟩, rfl, W, H, nk, nc, nl, nw, np, R'⟩
  rw [show M_isIn (ups sm 0 0 0) (nI j) 0 4 = 1 from a2, if_neg h10]
  rcases (by omega : j = 0 ∨ j = 1 ∨ j = 2 ∨ j = 3 ∨ j = 4) with rfl | rfl | rfl | rfl | rfl
  · obtain ⟨v, _, _, u1, u2⟩ := kind_0 R'.T hn
    rw [if_pos (by decide), if_neg (by decide), u1, show M_ofKind (ups sm 0 0 0) (nI n) (nI 0) = some (nI v) from u2, Bd_some, Bd_some]
    exact ⟨_, _, _, ⟨rfl, rfl⟩, rfl, W, H, nk, nc, nl, nw, np, R'⟩
  · obtain ⟨v, _, _, u1, u2⟩ := kind_1 R'.T hn
    rw [if_neg (by decide), if_pos (by decide), if_neg (by decide), u1, show M_ofKind (ups sm 0 0 0) (nI n) (nI 1) = some (nI v) from u2, Bd_some, Bd_some]
    exact ⟨_, _, _, ⟨rfl, rfl⟩, rfl, W, H, nk, nc, nl, nw, np, R'⟩
  · obtain ⟨v, _, u1, u2⟩ := kind_2 R'.T hn
    rw [if_neg (by decide), if_neg (by decide), if_pos (by decide), if_neg (by decide), u1, show M_ofKind (ups sm 0 0 0) (nI n) (nI 2) = some (nI v) from u2, Bd_some, Bd_some]
    exact ⟨_, _, _, ⟨rfl, rfl⟩, rfl, W, H, nk, nc, nl, nw, np, R'⟩
  · rw [if_neg (by decide), if_neg (by decide), if_neg (by decide), if_pos (by decide), if_pos (by decide), if_pos (by decide), c_count rfl, k1, Bd_some, Bd_some]
    exact ⟨_, _, _, ⟨rfl, rfl⟩, rfl, W, H, nk, nc, nl, nw, np, R'⟩
  · rw [if_neg (by decide), if_neg (by decide), if_neg (by decide), if_neg (by decide), if_pos (by decide), if_pos (by decide), if_neg (by decide), c_count rfl, k2, Bd_some, Bd_some]
    exact ⟨_, _, _, ⟨rfl, rfl⟩, rfl, W, H, nk, nc, nl, nw, np, R'⟩
