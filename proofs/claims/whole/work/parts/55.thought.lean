/-! # stage 2: in thought -/
theorem R8_q9 {W H nk nc nl nw np : Nat} {sc sm sc' sm' : ST} (R : R8 W H nk nc nl nw np sc sm) (a : agr [17, 18, 72, 73, 74, 75, 76, 77, 78] sc sc') (b : agr [0, 1, 3, 15, 20, 21, 22] sm sm') (b1 : ∀ i, i < 389 → sm'.1 1 i = sm.1 1 i) (b0 : ∀ i, i ∉ [0, 45, 46, 47, 48, 49] → sm'.1 0 i = sm.1 0 i) : R8 W H nk nc nl nw np sc' sm' :=
  ⟨LD_agr9 R.L (fun j hj => (a _ (by simp only [List.mem_cons, List.not_mem_nil, or_false]; omega)).1) (a 1 (by decide)).2 (fun i hi => b0 i (by simp only [List.mem_cons, List.not_mem_nil, or_false] at hi ⊢; omega)) b1 (b 4 (by decide)).1,
   TD_agr R.T (fun c hc => (a c (by simp only [List.mem_cons, List.not_mem_nil, or_false] at hc ⊢; omega)).1) (fun i hi => b0 i (by simp only [List.mem_cons, List.not_mem_nil, or_false] at hi ⊢; omega)) (fun c hc => (b c (by simp only [List.mem_cons, List.not_mem_nil, or_false] at hc ⊢; omega)).1),
   BK_agr R.B (by rw [(a 23 (by decide)).1]) (a 24 (by decide)).1 (b1 2 (by decide)) (b 5 (by decide)).1,
   by rw [b1 0 (by decide)]; exact R.d,
   KS_agr R.K (fun c hc => by rw [(a c (by simp only [List.mem_cons, List.not_mem_nil, or_false] at hc ⊢; omega)).1]),
   TP_agr R.P (by rw [(a 49 (by decide)).1]) (by rw [(a 49 (by decide)).1]) (by rw [(a 49 (by decide)).1]) (a 50 (by decide)).1 (b0 12 (by decide)) (b0 32 (by decide)) (b0 33 (by decide)) (b 6 (by decide)).1,
   HS_agr R.S (a 80 (by decide)).1 (a 82 (by decide)).1 (fun c h1 h2 => a c (by simp only [List.mem_cons, List.not_mem_nil, or_false]; omega)) (b0 3 (by decide)) (fun i hi => b0 i (by simp only [List.mem_cons, List.not_mem_nil, or_false] at hi ⊢; omega)) (b 2 (by decide)).1 (b 4 (by decide)).1,
   HL_agr R.hl (b1 2 (by decide)) (b 2 (by decide)).1 (b0 3 (by decide)),
   IM_agr R.I (by rw [(a 0 (by decide)).1]) (fun c h1 h2 _ _ => a c (by simp only [List.mem_cons, List.not_mem_nil, or_false]; omega)) (b0 51 (by decide)) (b 23 (by decide)).1,
   by rw [b0 5 (by decide)]; exact R.z,
   fun i hi => by rw [(b 7 (by decide)).1]; exact R.w i hi⟩
def TW (sc0 sm0 sc sm : ST) : Prop := agr [17, 18, 72, 73, 74, 75, 76, 77, 78] sc0 sc ∧ agr [0, 1, 3, 15, 20, 21, 22] sm0 sm ∧ (∀ i, i < 389 → sm.1 3 i = sm0.1 1 i) ∧ sm.1 0 5 = 1 ∧ ∀ i, i ∉ [0, 5, 45, 46, 47, 48, 49] → sm.1 0 i = sm0.1 0 i
def TI (sc0 sm0 sc sm : ST) : Prop := TW sc0 sm0 sc sm ∧ ∀ i, i < 389 → sm.1 1 i = sm0.1 1 i
theorem tw_D {W H nk : Nat} {dy : Int32} {sc0 sm0 sc sm sc' sm' : ST} (h : TW sc0 sm0 sc sm) (D : Dt W H nk dy sc sm sc' sm') : TW sc0 sm0 sc' sm' := by
  obtain ⟨h1, h2, h3, h4, h5⟩ := h
  obtain ⟨_, a, b, _, _⟩ := D
  exact ⟨h1.tr (a.mono (by decide)), h2.tr (b.mono (by decide)), fun i hi => by rw [(b 3 (by decide)).1]; exact h3 i hi, by rw [(b 0 (by decide)).1]; exact h4, fun i hi => by rw [(b 0 (by decide)).1]; exact h5 i hi⟩
theorem th_begin (sc0 sm0 : ST) : ∃ sm1, M_thinks sm0 = some sm1 ∧ TI sc0 sm0 sc0 sm1 := by
  refine ⟨_, m_thinks sm0, ⟨agr.rf, (agr.rf.upr (by decide)).ups (by decide), fun i hi => ?_, by rw [rd1, if_pos rfl], fun i hi => ?_⟩, fun i hi => ?_⟩
  · rw [ups_ne (by decide), upr_eq, if_pos (by omega)]
    rfl
  · rw [rd1, if_neg (by rintro rfl; exact hi (by decide)), upr_ne (by decide)]
  · rw [ups_ne (by decide), upr_ne (by decide)]
theorem th_anew {sc0 sm0 sc sm : ST} (h : TW sc0 sm0 sc sm) : ∃ sm', M_thinksAnew sm = some sm' ∧ TI sc0 sm0 sc sm' ∧ sm'.1 0 = sm.1 0 := by
  obtain ⟨h1, h2, h3, h4, h5⟩ := h
  refine ⟨_, m_anew sm, ⟨⟨h1, h2.upr (by decide), fun i hi => by rw [upr_ne (by decide)]; exact h3 i hi, by rw [upr_ne (by decide)]; exact h4, fun i hi => by rw [upr_ne (by decide)]; exact h5 i hi⟩, fun i hi => ?_⟩, upr_ne (by decide)⟩
  rw [upr_eq, if_pos (by omega)]
  exact h3 i hi
theorem th_end {W H nk nc nl nw np : Nat} {sc0 sm0 sc sm : ST} (R : R8 W H nk nc nl nw np sc0 sm0) (h : TW sc0 sm0 sc sm) : ∃ sm', M_endsThought sm = some sm' ∧ R8 W H nk nc nl nw np sc sm' := by
  obtain ⟨sm1, e, ⟨⟨h1, h2, h3, h4, h5⟩, h6⟩, _⟩ := th_anew h
  refine ⟨ups sm1 0 5 0, ?_, R8_q9 R h1 (h2.ups (by decide)) (fun i hi => by rw [ups_ne (by decide)]; exact h6 i hi) (fun i hi => ?_)⟩
  · unfold M_endsThought
    rw [e, Bd_some, Lt_e]
  · rw [rd1]
    by_cases q : i = 5
    · rw [if_pos q, q, R.z]
    · rw [if_neg q]
      refine h5 i ?_
      simp only [List.mem_cons, List.not_mem_nil, or_false, not_or] at hi ⊢
      omega
theorem th_copy {W H nk nc nl nw np : Nat} {sc0 sm0 sc sm : ST} (R : R8 W H nk nc nl nw np sc0 sm0) (h : TI sc0 sm0 sc sm) : ∃ sc', C_X1_copy sc 72 1 = some sc' ∧ TI sc0 sm0 sc' sm ∧ Dt W H nk (sm0.1 1 0) sc' sm sc' sm ∧ TD W H nk nc nl nw np 8 sc' sm := by
  obtain ⟨⟨h1, h2, h3, h4, h5⟩, h6⟩ := h
  obtain ⟨sc', e, a, f1, f2, f3⟩ := copyL (s := sc) (b := 72) (x := 1) (Or.inr (by decide))
  have hm0 : ∀ i, i ∈ [6, 7, 8] → sm.1 0 i = sm0.1 0 i := fun i hi => h5 i (by simp only [List.mem_cons, List.not_mem_nil, or_false] at hi ⊢; omega)
  have L1 : LD W H nk 1 sc sm := LD_agr9 R.L (fun j hj => (h1 _ (by simp only [List.mem_cons, List.not_mem_nil, or_false]; omega)).1) (h1 1 (by decide)).2 hm0 h6 (h2 4 (by decide)).1
  have a' : agr [17, 18, 72, 73, 74, 75, 76, 77, 78] sc0 sc' := h1.tr (a.mono (by decide))
  exact ⟨sc', e, ⟨⟨a', h2, h3, h4, h5⟩, h6⟩, ⟨copy_LD f1 f2 f3 L1, agr.rf, agr.rf, trivial, h6 0 (by decide)⟩, TD_agr R.T (fun c hc => (a' c (by simp only [List.mem_cons, List.not_mem_nil, or_false] at hc ⊢; omega)).1) (fun i hi => h5 i (by simp only [List.mem_cons, List.not_mem_nil, or_false] at hi ⊢; omega)) (fun c hc => (h2 c (by simp only [List.mem_cons, List.not_mem_nil, or_false] at hc ⊢; omega)).1)⟩
theorem think_sim {W H nk nc nl nw np n : Nat} {dy : Int32} {sc0 sm0 sc sm : ST} (D : Dt W H nk dy sc0 sm0 sc sm) (T : TD W H nk nc nl nw np 8 sc0 sm0) (h5 : sm0.1 0 5 = 1) (hn1 : 1 ≤ n) (hn : n ≤ 100) : ∃ sc' sm' dy', C_X6_thinkOn sc (nI n) = some sc' ∧ M_goesTo sm (nI n) = some sm' ∧ Dt W H nk dy' sc0 sm0 sc' sm' := by
  unfold C_X6_thinkOn M_goesTo
  obtain ⟨v, c1, m1, g1, g2, g3⟩ := dawn_t D T h5 1 (Or.inr rfl)
  rw [g1, Bd_some]
  refine lk22 (Q := fun oc om => ∃ sc' sm' dy', oc = some sc' ∧ om = some sm' ∧ Dt W H nk dy' sc0 sm0 sc' sm') (I := fun m a s1 b s2 => ∃ i, i + m = n ∧ a = nI i ∧ b = nI i ∧ ∃ v m1 dy', M_goesIn s2 1 = some (v, m1) ∧ Dt W H nk dy' sc0 sm0 s1 m1) ?_ FU (n - 1) _ _ _ _ (by unfold FU; omega) ⟨1, by omega, rfl, rfl, v, m1, dy, g2, g3⟩
  rintro m rf rg a s1 b s2 ⟨i, him, rfl, rfl, v, m1, dy', g2, g3⟩ ih
  cases m with
  | zero =>
    have hi : i = n := by omega
    subst hi
    rw [if_pos (le_t (by omega)), if_pos (le_t (by omega)), g2, Bd_some]
    exact ⟨s1, m1, dy', rfl, rfl, g3⟩
  | succ m =>
    have hi : i < n := by omega
    obtain ⟨c2, m2, k1, k2, k3⟩ := dusk_t g3 T h5
    obtain ⟨v3, c3, m3, j1, j2, j3⟩ := dawn_t k3 T h5 1 (Or.inr rfl)
    rw [if_neg (nle_t hi (by omega)), if_neg (nle_t hi (by omega)), g2, Bd_some, k1, k2, Bd_some, Bd_some, j1, Bd_some]
    exact ih m _ _ _ _ (Nat.lt_succ_self m) ⟨i + 1, by omega, nI_1 i, nI_1 i, v3, m3, _, j2, j3⟩
theorem m_bit {s : ST} {k : Nat} : M_bit s (nI k) = bit1 k := rfl
theorem storm_set {W H nk b : Nat} {sc sm : ST} (L : LD W H nk b sc sm) : M_stormSet sm = some (sc.2 b 9) := by
  have hn8 := L.n8
  unfold M_stormSet
  refine lo2 (Q := fun r => r = some (sc.2 b 9)) (I := fun m a c => ∃ i, i + m = 64 ∧ c = nI i ∧ ∀ j, j < 64 → bq a j = (decide (j < i) && bq (sc.2 b 9) j)) ?_ FU 64 _ _ (by unfold FU; omega) ⟨0, by omega, rfl, fun j hj => by rw [bq_0]; simp⟩
  rintro m rf a c ⟨i, him, rfl, hb⟩ ih
  simp only [Lt_n]
  cases m with
  | zero =>
    have hi : i = 64 := by omega
    subst hi
    rw [if_pos (by decide)]
    congr 1
    refine bq_ext (fun j hj => ?_)
    rw [hb j hj]
    simp [hj]
  | succ m =>
    have hi : i < 64 := by omega
    have hm1 : (0 : Int32) - 1 = -1 := by decide
    rw [if_neg (n_not64 hi), m_stormOf hi, Bd_some, nI_1, m_bit]
    cases q : bq (sc.2 b 9) i with
    | false =>
      rw [L.st0 i hi q, if_pos hm1]
      refine ih m _ _ (Nat.lt_succ_self m) ⟨i + 1, by omega, rfl, fun j hj => ?_⟩
      rw [hb j hj]
      by_cases e : j = i
      · rw [e, q]; simp
      · have : decide (j < i) = decide (j < i + 1) := by rw [decide_eq_decide]; omega
        rw [this]
    | true =>
      obtain ⟨_, n, g, hn, _, _, _, e, _⟩ := L.st i hi q
      have hnm : ¬ nI n = (-1 : Int32) := n_nI_m1 (by omega)
      rw [e, n_sub1, if_neg hnm]
      refine ih m _ _ (Nat.lt_succ_self m) ⟨i + 1, by omega, rfl, fun j hj => ?_⟩
      rw [bq_set hi hj, hb j hj]
      by_cases e : j = i
      · rw [e, q]; simp
      · have : decide (j < i) = decide (j < i + 1) := by rw [decide_eq_decide]; omega
        rw [this]
        simp [e]
theorem s_blows : Sim_blows Rel := by
  rintro sc sm x ⟨W, H, nk, nc, nl, nw, np, R⟩
  have h10 : ¬ (1 : Int32) = 0 := by decide
  have h00 : (0 : Int32) = 0 := rfl
  have R' := R8_told R
  unfold C_X9_blows M_blows C_X6_blowing
  simp only [Lt_n]
  rw [show C_X9_isWithin sc x 1 60 = M_isIn (ups sm 0 0 0) x 1 60 from rfl]
  rcases in160 (ups sm 0 0 0) x with a | ⟨n, hn1, hn, rfl, a⟩
  · rw [a, if_pos h00, if_pos h00]
    exact ⟨-1, _, _, rfl, rfl, W, H, nk, nc, nl, nw, np, R'⟩
  · rw [a, if_neg h10, if_neg h10]
    obtain ⟨m1, e1, t1⟩ := th_begin sc (ups sm 0 0 0)
    obtain ⟨c2, e2, t2, D, T⟩ := th_copy R' t1
    obtain ⟨c3, m3, dy, e3, e4, D3⟩ := think_sim D T t2.1.2.2.2.1 hn1 (by omega)
    obtain ⟨m4, e5, R4⟩ := th_end R' (tw_D t2.1 D3)
    rw [e1, Bd_some, e2, Bd_some, e3, Bd_some, Bd_some, e4, Bd_some, storm_set D3.1, Bd_some, e5, Bd_some]
    exact ⟨_, _, _, rfl, rfl, W, H, nk, nc, nl, nw, np, R4⟩
theorem s_harms : Sim_harms Rel := by
  rintro sc sm x ⟨W, H, nk, nc, nl, nw, np, R⟩
  have h10 : ¬ (1 : Int32) = 0 := by decide
  have h00 : (0 : Int32) = 0 := rfl
  have R' := R8_told R
  unfold C_X9_harms M_harms C_X6_blowing
  simp only [Lt_n]
  rw [show C_X9_isWithin sc x 1 60 = M_isIn (ups sm 0 0 0) x 1 60 from rfl]
  rcases in160 (ups sm 0 0 0) x with a | ⟨n, hn1, hn, rfl, a⟩
  · rw [a, if_pos h00, if_pos h00]
    exact ⟨-1, _, _, rfl, rfl, W, H, nk, nc, nl, nw, np, R'⟩
  · rw [a, if_neg h10, if_neg h10]
    obtain ⟨m1, e1, t1⟩ := th_begin sc (ups sm 0 0 0)
    obtain ⟨c2, e2, t2, D, T⟩ := th_copy R' t1
    obtain ⟨c3, m3, dy, e3, e4, D3⟩ := think_sim D T t2.1.2.2.2.1 hn1 (by omega)
    have t3 := tw_D t2.1 D3
    obtain ⟨m4, e5, R4⟩ := th_end R' t3
    rw [e1, Bd_some, e2, Bd_some, e3, Bd_some, Bd_some, e4, Bd_some, e5, Bd_some]
    have ec : c3.1 1 5 = m3.1 3 4 := by rw [(t3.1 1 (by decide)).1, t3.2.2.1 4 (by decide)]; exact R'.L.harm
    have eh : c3.1 72 5 = m3.1 1 4 := D3.1.harm
    rw [ec, eh]
    exact ⟨_, _, _, rfl, rfl, W, H, nk, nc, nl, nw, np, R4⟩
