/-! # stage 2: what is done to the land -/
theorem D_start {W H nk nc nl nw np : Nat} {sc sm : ST} (R : R8 W H nk nc nl nw np sc sm) : Dr W H nk (sm.1 1 0) sc sm sc sm := ⟨R.L, agr.rf, agr.rf, ⟨R.B, R.K.k23, R.hl⟩, rfl⟩
theorem R8_Dr {W H nk nc nl nw np : Nat} {dy : Int32} {sc sm sc' sm' : ST} (R : R8 W H nk nc nl nw np sc sm) (D : Dr W H nk dy sc sm sc' sm') (hd : ∃ d, d ≤ 999 ∧ dy = nI d) : R8 W H nk nc nl nw np sc' sm' := by
  obtain ⟨L, a, b, ⟨B, k, hl⟩, e⟩ := D
  refine R8_land R (fun c hc => a c (by simp only [List.mem_cons, List.not_mem_nil, or_false]; omega)) (by rw [k]; exact R.K.k23.symm) (b.mono (by decide)) (fun i _ => by rw [(b 0 (by decide)).1]) L B (by rw [e]; exact hd) (HS_agr R.S (a 80 (by decide)).1 (a 82 (by decide)).1 (fun c h1 h2 => a c (by simp only [List.mem_cons, List.not_mem_nil, or_false]; omega)) (by rw [(b 0 (by decide)).1]) (fun i _ => by rw [(b 0 (by decide)).1]) (b 2 (by decide)).1 (b 4 (by decide)).1) hl
theorem keep_R8 {W H nk nc nl nw np : Nat} {sc sm : ST} (R : R8 W H nk nc nl nw np sc sm) : ∃ sc1 sm1, C_X0_keep sc = some sc1 ∧ M_keepsAhead sm = some sm1 ∧ R8 W H nk nc nl nw np sc1 sm1 ∧ (∀ c, c < 80 → sc1.1 c = sc.1 c ∧ sc1.2 c = sc.2 c) ∧ agr [0, 2] sm sm1 := by
  obtain ⟨sc1, sm1, e1, e2, S1, hl1, a, b, b0⟩ := keep_sim R.L R.B R.d R.S R.hl
  refine ⟨sc1, sm1, e1, e2, R8_land R (fun c hc => a c (by omega)) (by rw [(a 23 (by decide)).1]) (b.mono (by decide)) (fun i hi => b0 i ?_) (LD_agr9 R.L (fun j hj => (a _ (by omega)).1) (a 1 (by decide)).2 (fun i hi => b0 i ?_) (fun i _ => by rw [(b 1 (by decide)).1]) (b 4 (by decide)).1) (BK_agr R.B (by rw [(a 23 (by decide)).1]) (a 24 (by decide)).1 (by rw [(b 1 (by decide)).1]) (b 5 (by decide)).1) (by rw [(b 1 (by decide)).1]; exact R.d) S1 hl1, a, b⟩
  · rintro rfl
    exact hi (by decide)
  · rintro rfl
    exact absurd hi (by decide)
theorem in_row {s : ST} (sm : ST) {b n : Nat} (x : Int32) (h : s.1 b 2 = nI n) (hn : n ≤ 200) : (C_X4_hasRow s b x = 0 ∧ M_isIn sm x 0 (nI n - 1) = 0) ∨ ∃ k, k < n ∧ x = nI k ∧ C_X4_hasRow s b x = 1 ∧ M_isIn sm x 0 (nI n - 1) = 1 := by
  unfold C_X4_hasRow M_isIn
  rw [h]
  by_cases hx : x < 0
  · rw [if_pos hx, if_pos hx]
    exact Or.inl ⟨rfl, rfl⟩
  · rw [if_neg hx, if_neg hx]
    obtain ⟨j, hj, rfl⟩ := nI_of hx
    have hi : nI n ≤ nI j ↔ nI n - 1 < nI j := by
      rw [nI_leI (by omega) hj, fa_lt, nI_toInt hj]
      have := pk_sub_toInt (a := n) (b := 1) (by omega) (by decide)
      rw [show nI n - 1 = nI n - nI 1 from rfl, this]
      omega
    rw [← ite_iff hi, ite_iff (nI_leI (by omega) hj)]
    by_cases q : n ≤ j
    · rw [if_pos q]
      exact Or.inl ⟨rfl, rfl⟩
    · rw [if_neg q]
      exact Or.inr ⟨j, by omega, rfl, rfl, rfl⟩
theorem in_kind {W H nk nc nl nw np : Nat} {sc sm : ST} (T : TD W H nk nc nl nw np 8 sc sm) (s : ST) (x : Int32) : (C_X7_hasKind sc 8 x = 0 ∧ M_isIn s x 0 (nI nk - 1) = 0) ∨ ∃ k, k < nk ∧ x = nI k ∧ C_X7_hasKind sc 8 x = 1 ∧ M_isIn s x 0 (nI nk - 1) = 1 := by
  have h8 := T.k8
  unfold C_X7_hasKind
  rw [Lt_e]
  rcases in_row (s := sc) s x T.k (by omega) with ⟨a, b⟩ | ⟨k, hk, e, a, b⟩
  · rw [show C_X4_hasRow sc (8 + 1) x = 0 from a]
    exact Or.inl ⟨rfl, b⟩
  · rw [show C_X4_hasRow sc (8 + 1) x = 1 from a]
    exact Or.inr ⟨k, hk, e, rfl, b⟩
theorem in_cell {W H nk b : Nat} {sc sm : ST} (L : LD W H nk b sc sm) (x : Int32) : (C_X1_isCell sc b x = 0 ∧ M_isCell sm x = 0 ∧ ∀ k, k < 64 → x = nI k → ¬ cl W H k) ∨ ∃ k, k < 64 ∧ cl W H k ∧ x = nI k ∧ C_X1_isCell sc b x = 1 ∧ M_isCell sm x = 1 := by
  rcases cases64 x with h | ⟨k, hk, rfl⟩
  · refine Or.inl ⟨c_isCell_out h, m_isCell_out h, ?_⟩
    rintro k hk rfl
    rcases h with h | h
    · exact absurd h (nI_pos (by omega))
    · exact absurd h (n_not64 hk)
  · rw [c_isCell L.w L.h L.W7 L.H7 hk, m_isCell L.w' L.h' L.W7 L.H7 hk]
    by_cases hc : cl W H k
    · exact Or.inr ⟨k, hk, hc, rfl, if_pos hc, if_pos hc⟩
    · refine Or.inl ⟨if_neg hc, if_neg hc, ?_⟩
      intro j hj e
      rw [nI_eq (by omega) (by omega)] at e
      rw [← e]
      exact hc
theorem can_sow {W H nk b : Nat} {sc sm : ST} (L : LD W H nk b sc sm) (x : Int32) : (C_X1_isSowable sc b x = 0 ∧ M_canSow sm x = some 0) ∨ ∃ k, k < 64 ∧ cl W H k ∧ x = nI k ∧ C_X1_isSowable sc b x = 1 ∧ M_canSow sm x = some 1 ∧ bq (sc.2 b 8) k = false ∧ bq (sc.2 b 7) k = false := by
  have hn8 := L.n8
  have h10 : ¬ (1 : Int32) = 0 := by decide
  have h00 : (0 : Int32) = 0 := rfl
  have hm1 : (0 : Int32) - 1 = -1 := by decide
  rcases in_cell L x with ⟨a, b', hnc⟩ | ⟨k, hk, hc, rfl, a, b'⟩
  · left
    constructor
    · unfold C_X1_isSowable
      rw [Lt_e, a, if_pos h00]
    · unfold M_canSow
      rw [Lt_e, b', if_pos h00]
  · rw [c_isSowable L.w L.h L.W7 L.H7 hk]
    unfold M_canSow
    rw [Lt_e, b', if_neg h10, m_seedOf hk, Bd_some, Gl_n hk (by decide), L.hed k hk]
    cases q8 : bq (sc.2 b 8) k with
    | true =>
      obtain ⟨_, n, hn, _, e, _⟩ := L.sd k hk q8
      have hnm : ¬ nI n = (-1 : Int32) := n_nI_m1 (by omega)
      rw [e, n_sub1, if_neg hnm, if_neg (fun h => Bool.noConfusion h.2.1)]
      exact Or.inl ⟨rfl, rfl⟩
    | false =>
      rw [L.sd0 k hk q8, if_pos hm1]
      cases q7 : bq (sc.2 b 7) k with
      | true =>
        rw [ift1, if_neg (fun h => Bool.noConfusion h.2.2)]
        exact Or.inl ⟨rfl, rfl⟩
      | false =>
        have hq : cl W H k ∧ false = false ∧ false = false := ⟨hc, rfl, rfl⟩
        rw [ift0, if_pos hq]
        exact Or.inr ⟨k, hk, hc, rfl, rfl, rfl, q8, q7⟩
theorem s_sow : Sim_sow Rel := by
  rintro sc sm x y ⟨W, H, nk, nc, nl, nw, np, R⟩
  have h10 : ¬ (1 : Int32) = 0 := by decide
  have h00 : (0 : Int32) = 0 := rfl
  have R' := R8_told R
  unfold C_X9_sow M_sow
  simp only [Lt_n]
  rw [R'.T.k']
  rcases in_kind R'.T (ups sm 0 0 0) x with ⟨a, b⟩ | ⟨n, hn, rfl, a, b⟩
  · rw [a, b, if_pos h00, if_pos h00]
    exact ⟨0, _, _, rfl, rfl, W, H, nk, nc, nl, nw, np, R'⟩
  · rw [a, b, if_neg h10, if_neg h10]
    rcases can_sow R'.L y with ⟨a, b⟩ | ⟨k, hk, hc, rfl, a, b, q8, q7⟩
    · rw [a, b, Bd_some, if_pos h00, if_pos h00]
      exact ⟨0, _, _, rfl, rfl, W, H, nk, nc, nl, nw, np, R'⟩
    · rw [a, b, Bd_some, if_neg h10, if_neg h10]
      obtain ⟨sc1, sm1, e1, e2, R1, ag, _⟩ := keep_R8 R'
      rw [e1, e2, Bd_some, Bd_some]
      rcases plant_r (D_start R1) R1.T R1.z hk hc hn with ⟨_, _, _, sc2, sm2, p2, p3, p4⟩ | ⟨q, _, _⟩
      · rw [p2, p3, Bd_some, Bd_some]
        exact ⟨1, sc2, sm2, congrArg some (Prod.ext (by decide : (1 : Int32) &&& 1 = 1) rfl), rfl, W, H, nk, nc, nl, nw, np, R8_Dr R1 p4 R1.d⟩
      · rw [(ag 1 (by decide)).2, q8, q7] at q
        rcases q with q | q <;> cases q
theorem s_weed : Sim_weed Rel := by
  rintro sc sm x ⟨W, H, nk, nc, nl, nw, np, R⟩
  have h10 : ¬ (1 : Int32) = 0 := by decide
  have h00 : (0 : Int32) = 0 := rfl
  have hm1 : (0 : Int32) - 1 = -1 := by decide
  have R' := R8_told R
  have L := R'.L
  have hn8 := L.n8
  unfold C_X9_weed M_weed M_canWeed
  simp only [Lt_n]
  rcases in_cell L x with ⟨a, b, hnc⟩ | ⟨k, hk, hc, rfl, a, b⟩
  · have hs : C_X1_hasSeed sc 1 x = 0 := by
      rcases cases64 x with h | ⟨k, hk, rfl⟩
      · exact c_hasSeed_out h
      · rw [c_hasSeed hk]
        cases q : bq (sc.2 1 8) k with
        | false => rfl
        | true => exact absurd (L.sd k hk q).1 (hnc k hk rfl)
    rw [hs, b, if_pos h00, if_pos h00, Bd_some, if_pos h00]
    exact ⟨0, _, _, rfl, rfl, W, H, nk, nc, nl, nw, np, R'⟩
  · rw [b, if_neg h10, c_hasSeed hk, m_seedOf hk, Bd_some]
    cases q : bq (sc.2 1 8) k with
    | false =>
      rw [ift0, L.sd0 k hk q, if_pos hm1, Bd_some, if_pos h00]
      exact ⟨0, _, _, rfl, rfl, W, H, nk, nc, nl, nw, np, R'⟩
    | true =>
      obtain ⟨_, n, hn, _, e, _⟩ := L.sd k hk q
      have hnm : ¬ nI n = (-1 : Int32) := n_nI_m1 (by omega)
      rw [ift1, e, n_sub1, if_neg hnm, Bd_some, if_neg h10]
      obtain ⟨sc1, sm1, e1, e2, R1, ag, _⟩ := keep_R8 R'
      obtain ⟨sc2, sm2, p1, p2, p3⟩ := pull_r (D_start R1) R1.z hk (by rw [(ag 1 (by decide)).2]; exact q)
      rw [e1, e2, Bd_some, Bd_some, p1, p2, Bd_some, Bd_some]
      exact ⟨1, sc2, sm2, congrArg some (Prod.ext (by decide : (1 : Int32) &&& 1 = 1) rfl), rfl, W, H, nk, nc, nl, nw, np, R8_Dr R1 p3 R1.d⟩
theorem in03 (s : ST) (x : Int32) : M_isIn s x 0 3 = 0 ∨ ∃ w, w < 4 ∧ x = nI w ∧ M_isIn s x 0 3 = 1 := by
  unfold M_isIn
  by_cases hx : x < 0
  · rw [if_pos hx]; exact Or.inl rfl
  · rw [if_neg hx]
    obtain ⟨j, hj, rfl⟩ := nI_of hx
    by_cases h : (3 : Int32) < nI j
    · rw [if_pos h]; exact Or.inl rfl
    · rw [if_neg h]
      rw [show (3 : Int32) = nI 3 from rfl, nI_ltI (by decide) hj] at h
      exact Or.inr ⟨j, by omega, rfl, rfl⟩
theorem s_turn : Sim_turn Rel := by
  rintro sc sm x ⟨W, H, nk, nc, nl, nw, np, R⟩
  have h10 : ¬ (1 : Int32) = 0 := by decide
  have h00 : (0 : Int32) = 0 := rfl
  have R' := R8_told R
  have L := R'.L
  unfold C_X9_turn M_turn C_X1_isTurnable
  simp only [Lt_n]
  rw [show C_X9_isWithin sc x 0 3 = M_isIn (ups sm 0 0 0) x 0 3 from rfl]
  rcases in03 (ups sm 0 0 0) x with a | ⟨w, hw, rfl, a⟩
  · rw [a, if_pos h00, if_pos h00, if_pos h00]
    exact ⟨0, _, _, rfl, rfl, W, H, nk, nc, nl, nw, np, R'⟩
  · rw [a, if_neg h10, if_neg h10, m_wind L]
    by_cases q : nI w = sc.1 1 3
    · rw [if_pos q, if_pos q, if_pos h00]
      exact ⟨0, _, _, rfl, rfl, W, H, nk, nc, nl, nw, np, R'⟩
    · rw [if_neg q, if_neg q, if_neg h10]
      obtain ⟨sc1, sm1, e1, e2, R1, ag, _⟩ := keep_R8 R'
      obtain ⟨v1, v2⟩ := veer_r (D_start R1) hw
      rw [e1, e2, Bd_some, Bd_some]
      have e3 : sc1.1 1 3 = sc.1 1 3 := by rw [(ag 1 (by decide)).1]
      rw [e3, if_neg q] at v2
      rw [v2]
      exact ⟨1, _, _, rfl, rfl, W, H, nk, nc, nl, nw, np, R8_Dr R1 v1 R1.d⟩
theorem in160 (s : ST) (x : Int32) : M_isIn s x 1 60 = 0 ∨ ∃ n, 1 ≤ n ∧ n ≤ 60 ∧ x = nI n ∧ M_isIn s x 1 60 = 1 := by
  unfold M_isIn
  by_cases hx : x < 1
  · rw [if_pos hx]; exact Or.inl rfl
  · rw [if_neg hx]
    obtain ⟨j, hj, rfl⟩ := nI_of (x := x) (by
      rw [fa_lt] at hx ⊢
      have e0 : (0 : Int32).toInt = 0 := by decide
      have e1 : (1 : Int32).toInt = 1 := by decide
      omega)
    by_cases h : (60 : Int32) < nI j
    · rw [if_pos h]; exact Or.inl rfl
    · rw [if_neg h]
      rw [show (60 : Int32) = nI 60 from rfl, nI_ltI (by decide) hj] at h
      rw [show (1 : Int32) = nI 1 from rfl, nI_ltI hj (by decide)] at hx
      exact Or.inr ⟨j, by omega, by omega, rfl, rfl⟩
theorem s_days : Sim_days Rel := by
  rintro sc sm x ⟨W, H, nk, nc, nl, nw, np, R⟩
  have h10 : ¬ (1 : Int32) = 0 := by decide
  have h00 : (0 : Int32) = 0 := rfl
  have R' := R8_told R
  unfold C_X9_days M_days
  simp only [Lt_n]
  rw [show C_X9_isWithin sc x 1 60 = M_isIn (ups sm 0 0 0) x 1 60 from rfl]
  rcases in160 (ups sm 0 0 0) x with a | ⟨n, hn1, hn, rfl, a⟩
  · rw [a, if_pos h00, if_pos h00]
    exact ⟨-1, _, _, rfl, rfl, W, H, nk, nc, nl, nw, np, R'⟩
  · obtain ⟨d, hd, e⟩ := R'.d
    rw [a, if_neg h10, if_neg h10, show sc.1 1 2 = (ups sm 0 0 0).1 1 0 from R'.L.day, e, nI_add]
    by_cases q : d + n ≤ 999
    · have hq : nI (d + n) ≤ (999 : Int32) := by rw [show (999 : Int32) = nI 999 from rfl, nI_leI (by omega) (by decide)]; exact q
      rw [if_pos hq, if_pos hq]
      generalize ups sm 0 0 0 = sm0 at *
      clear R a
      refine lk33 (Q := fun oc om => ∃ r sc' sm', oc = some (r, sc') ∧ om = some (r, sm') ∧ Rel sc' sm') (I := fun m a1 a2 s1 b1 b2 s2 => ∃ i, i + m = n ∧ a2 = nI i ∧ b2 = nI i ∧ a1 = b1 ∧ R8 W H nk nc nl nw np s1 s2 ∧ s2.1 1 0 = nI (d + i)) ?_ FU n _ _ _ _ _ _ (by unfold FU; omega) ⟨0, by omega, rfl, rfl, rfl, R', e⟩
      rintro m rf rg a1 a2 s1 b1 b2 s2 ⟨i, him, rfl, rfl, rfl, R1, ed⟩ ih
      cases m with
      | zero =>
        have hi : i = n := by omega
        subst hi
        rw [if_pos (le_t (by omega)), if_pos (le_t (by omega))]
        exact ⟨a1, s1, s2, rfl, rfl, W, H, nk, nc, nl, nw, np, R1⟩
      | succ m =>
        have hi : i < n := by omega
        rw [if_neg (nle_t hi (by omega)), if_neg (nle_t hi (by omega))]
        obtain ⟨c1, m1, e1, e2, R2, ag, bg⟩ := keep_R8 R1
        obtain ⟨v, c2, m2, g1, g2, g3⟩ := dawn_r (D_start R2) R2.T R2.z 1 (Or.inr rfl)
        obtain ⟨c3, m3, k1, k2, k3⟩ := dusk_r g3 R2.T R2.z
        have ed1 : m1.1 1 0 = nI (d + i) := by rw [(bg 1 (by decide)).1]; exact ed
        rw [ed1, nI_1] at k3
        rw [e1, e2, Bd_some, Bd_some, g1, g2, Bd_some, Bd_some, k1, k2, Bd_some, Bd_some]
        exact ih m _ _ _ _ _ _ (Nat.lt_succ_self m) ⟨i + 1, by omega, nI_1 i, nI_1 i, rfl, R8_Dr R2 k3 ⟨d + i + 1, by omega, rfl⟩, k3.2.2.2.2⟩
    · have hq : ¬ nI (d + n) ≤ (999 : Int32) := by rw [show (999 : Int32) = nI 999 from rfl, nI_leI (by omega) (by decide)]; exact q
      rw [if_neg hq, if_neg hq]
      exact ⟨-1, _, _, rfl, rfl, W, H, nk, nc, nl, nw, np, R'⟩
