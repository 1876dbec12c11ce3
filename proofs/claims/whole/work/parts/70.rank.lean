/-! # stage 2: weeds, what it takes -/
theorem rk_mono {p : Nat → Bool} {a : Nat} : ∀ d, fb_ct p a ≤ fb_ct p (a + d)
  | 0 => Nat.le_refl _
  | d + 1 => by
    have h := rk_mono (p := p) (a := a) d
    rw [show a + (d + 1) = a + d + 1 from rfl, fb_ct_succ]
    omega
theorem rk_lt {p : Nat → Bool} {c n : Nat} (hc : c < n) (h : p c = true) : fb_ct p c < fb_ct p n := by
  have h1 := rk_mono (p := p) (a := c + 1) (n - (c + 1))
  rw [show c + 1 + (n - (c + 1)) = n by omega, fb_ct_succ, h, if_pos rfl] at h1
  omega
theorem rk_inj {p : Nat → Bool} {a b : Nat} (ha : p a = true) (hb : p b = true) (h : fb_ct p a = fb_ct p b) : a = b := by
  rcases Nat.lt_trichotomy a b with q | q | q
  · have := rk_lt q ha; omega
  · exact q
  · have := rk_lt q hb; omega
theorem rk_sur {p : Nat → Bool} : ∀ {n i : Nat}, i < fb_ct p n → ∃ c, c < n ∧ p c = true ∧ fb_ct p c = i
  | 0, i, h => absurd h (Nat.not_lt_zero i)
  | n + 1, i, h => by
    rw [fb_ct_succ] at h
    by_cases q : i < fb_ct p n
    · obtain ⟨c, h1, h2, h3⟩ := rk_sur q
      exact ⟨c, by omega, h2, h3⟩
    · cases e : p n with
      | false =>
        rw [e, if_neg (by decide)] at h
        omega
      | true =>
        rw [e, if_pos rfl] at h
        exact ⟨n, by omega, e, by omega⟩
theorem rk_ct {p q : Nat → Bool} : ∀ n, fb_ct (fun c => p c && q (fb_ct p c)) n = fb_ct q (fb_ct p n)
  | 0 => rfl
  | n + 1 => by
    rw [fb_ct_succ, rk_ct n, fb_ct_succ]
    cases e : p n with
    | false => simp
    | true =>
      rw [if_pos (rfl : true = true), fb_ct_succ]
      rfl
def pc10 (a : Nat) : Nat := fb_ct (fun k => a.testBit k) 10
theorem j6_10 (s : ST) : ∀ c, c < 1024 → C_J6_bitCount_0f7a4 s (nI c) = nI (pc10 c) := by
  have h : ∀ c, c < 1024 → C_J6_bitCount_0f7a4 (fun _ _ => 0, fun _ _ => 0) (nI c) = nI (pc10 c) := by decide +kernel
  exact h
theorem on_step : ∀ c, c < 1024 → c = 0 ∨ (nI c &&& (nI c - 1) = nI (c &&& (c - 1)) ∧ (c &&& (c - 1)) < 1024 ∧ pc10 c = pc10 (c &&& (c - 1)) + 1) := by decide +kernel
theorem m_onesOf (s : ST) {c : Nat} (hc : c < 1024) : M_onesOf s (nI c) = some (nI (pc10 c)) := by
  have h10 : pc10 c ≤ 10 := fb_ct_le _ 10
  unfold M_onesOf
  refine lo2 (Q := fun o => o = some (nI (pc10 c))) (I := fun m a b => ∃ t c', m = pc10 c' ∧ t + pc10 c' = pc10 c ∧ c' < 1024 ∧ a = nI t ∧ b = nI c') ?_ FU (pc10 c) _ _ (by unfold FU; omega) ⟨0, c, rfl, by omega, hc, rfl, rfl⟩
  rintro m rf a b ⟨t, c', rfl, ht, hc', rfl, rfl⟩ ih
  have hz : (nI c' = 0) ↔ c' = 0 := nI_eq (b := 0) (by omega) (by decide)
  rcases on_step c' hc' with h | ⟨h1, h2, h3⟩
  · have hp : pc10 c' = 0 := by rw [h]; decide
    rw [if_pos (hz.mpr h)]
    congr 2
    omega
  · have hne : ¬ c' = 0 := by
      rintro rfl
      rw [show (0 &&& (0 - 1) : Nat) = 0 from rfl] at h3
      omega
    rw [if_neg (fun h => hne (hz.mp h)), Lt_e, Lt_e, h1, nI_1]
    exact ih (pc10 (c' &&& (c' - 1))) _ _ (by omega) ⟨t + 1, _, rfl, by omega, h2, rfl, rfl⟩
theorem kb10 : ∀ c, c < 1024 → ∀ i, i < 10 → (((nI c >>> (nI i &&& 31)) &&& (1 : Int32)) = 1 ↔ c.testBit i = true) := by decide +kernel
theorem nI_toL : ∀ c, c < 1024 → (nI c).toInt64 = lN c := by decide +kernel
theorem sh10 : ∀ n, n < 11 → (1 : Int32) <<< (nI n &&& 31) = nI (2 ^ n) := by decide +kernel
theorem and_bit0 {x : Int64} {c : Nat} (hc : c < 64) : x &&& bit1 c = 0 ↔ bq x c = false := by
  constructor
  · intro h
    have h1 := congrArg (fun y => bq y c) h
    rw [bq_and, bq_bit hc hc, bq_0, decide_eq_true rfl, Bool.and_true] at h1
    exact h1
  · intro h
    refine bq_ext (fun k hk => ?_)
    rw [bq_and, bq_bit hc hk, bq_0]
    by_cases q : k = c
    · rw [q, h]; rfl
    · simp [q]
theorem all_sim {W H nk b : Nat} {sc sm : ST} (L : LD W H nk b sc sm) : ∃ y, C_X1_allCells sc b = some y ∧ ∀ k, k < 64 → bq y k = decide (cl W H k) := by
  unfold C_X1_allCells
  refine lo2 (Q := fun o => ∃ y, o = some y ∧ ∀ k, k < 64 → bq y k = decide (cl W H k)) (I := fun m a c => ∃ i, i + m = 64 ∧ c = nI i ∧ ∀ k, k < 64 → bq a k = (decide (k < i) && decide (cl W H k))) ?_ FU 64 _ _ (by unfold FU; omega) ⟨0, by omega, rfl, fun k hk => by rw [bq_0]; simp⟩
  rintro m rf a c ⟨i, him, rfl, hb⟩ ih
  cases m with
  | zero =>
    have hi : i = 64 := by omega
    subst hi
    rw [if_pos (by decide)]
    refine ⟨a, rfl, fun k hk => ?_⟩
    rw [hb k hk]
    simp [hk]
  | succ m =>
    have hi : i < 64 := by omega
    rw [if_neg (n_not64 hi), Lt_e, Lt_e, c_isCell L.w L.h L.W7 L.H7 hi, nI_1]
    by_cases q : cl W H i
    · rw [if_pos q, if_neg (by decide), Lt_e, bit1_e]
      refine ih m _ _ (Nat.lt_succ_self m) ⟨i + 1, by omega, rfl, fun k hk => ?_⟩
      rw [bq_set hi hk, hb k hk]
      by_cases e : k = i
      · rw [e, decide_eq_true q]; simp
      · have : decide (k < i) = decide (k < i + 1) := by rw [decide_eq_decide]; omega
        rw [this]
        simp [e]
    · rw [if_neg q, if_pos rfl]
      refine ih m _ _ (Nat.lt_succ_self m) ⟨i + 1, by omega, rfl, fun k hk => ?_⟩
      rw [hb k hk]
      by_cases e : k = i
      · rw [e, decide_eq_false q]; simp
      · have : decide (k < i) = decide (k < i + 1) := by rw [decide_eq_decide]; omega
        rw [this]
theorem are_sim {W H nk b : Nat} {sc sm : ST} (L : LD W H nk b sc sm) (x : Int64) : (M_areCells sm x = some 1 ∧ ∀ k, k < 64 → bq x k = true → cl W H k) ∨ (M_areCells sm x = some 0 ∧ ∃ k, k < 64 ∧ bq x k = true ∧ ¬ cl W H k) := by
  unfold M_areCells
  refine lo1 (Q := fun o => (o = some 1 ∧ ∀ k, k < 64 → bq x k = true → cl W H k) ∨ (o = some 0 ∧ ∃ k, k < 64 ∧ bq x k = true ∧ ¬ cl W H k)) (I := fun m a => ∃ i, i + m = 64 ∧ a = nI i ∧ ∀ k, k < i → bq x k = true → cl W H k) ?_ FU 64 _ (by unfold FU; omega) ⟨0, by omega, rfl, fun k hk => absurd hk (Nat.not_lt_zero k)⟩
  rintro m rf a ⟨i, him, rfl, hb⟩ ih
  cases m with
  | zero =>
    have hi : i = 64 := by omega
    subst hi
    rw [if_pos (by decide)]
    exact Or.inl ⟨rfl, hb⟩
  | succ m =>
    have hi : i < 64 := by omega
    have nx : (∀ k, k < i + 1 → bq x k = true → cl W H k) → _ := fun h => ih m (nI (i + 1)) (Nat.lt_succ_self m) ⟨i + 1, by omega, rfl, h⟩
    rw [if_neg (n_not64 hi), Lt_e, Lt_e, m_bit, Lt_e, nI_1, m_isCell L.w' L.h' L.W7 L.H7 hi]
    have h0 : lg_cmp (x &&& bit1 i) (0 : Int64) = 0 ↔ bq x i = false := (cmp0 _).trans (and_bit0 hi)
    cases e : bq x i with
    | false =>
      rw [if_pos (h0.mpr e)]
      refine nx (fun k hk hq => ?_)
      by_cases q : k = i
      · rw [q, e] at hq; cases hq
      · exact hb k (by omega) hq
    | true =>
      rw [if_neg (fun h => by rw [h0.mp h] at e; cases e)]
      by_cases q : cl W H i
      · rw [if_pos q, if_neg (by decide)]
        refine nx (fun k hk hq => ?_)
        by_cases q2 : k = i
        · rw [q2]; exact q
        · exact hb k (by omega) hq
      · rw [if_neg q, if_pos rfl]
        exact Or.inr ⟨rfl, i, hi, e, q⟩
theorem all_test {W H : Nat} {x y : Int64} (hy : ∀ k, k < 64 → bq y k = decide (cl W H k)) : lg_cmp (x &&& (y ^^^ (-1 : Int64))) (0 : Int64) = 0 ↔ ∀ k, k < 64 → bq x k = true → cl W H k := by
  rw [cmp0]
  constructor
  · intro h k hk hq
    have h1 := congrArg (fun z => bq z k) h
    rw [bq_and, bq_xor, bq_m1 hk, bq_0, hq, hy k hk] at h1
    simpa using h1
  · intro h
    refine bq_ext (fun k hk => ?_)
    rw [bq_and, bq_xor, bq_m1 hk, bq_0, hy k hk]
    cases e : bq x k with
    | false => rfl
    | true => rw [decide_eq_true (h k hk e)]; rfl
/-- the row of the seeds' cells -/
theorem row_m {W H nk b : Nat} {sc s0 : ST} {C : Type} {K : ST → Option C} (L : LD W H nk b sc s0) (h10 : fb_ct (bq (sc.2 b 8)) 64 ≤ 10) : ∃ s', lpK3 (C := C) (fun (rec1 : Int32 → Int32 → ST → Option (C)) (a1 : Int32) (a2 : Int32) (s2 : ST) => if (64 : Int32) ≤ a2 then (K s2) else (Bd (M_seedOf s2 a2) fun y11 => Lt (fun (a8 : Int32) (s11 : ST) => (rec1 a8 (a2 + (1 : Int32)) s11 : Option (C))) fun j6 => if y11 = (-1 : Int32) then (j6 a1 s2) else (Gs s2 22 10 a1 a2 fun s12 => Lt ((a1 + (1 : Int32))) fun y12 => j6 y12 s12))) FU (0 : Int32) (0 : Int32) s0 = K s' ∧ agr [22] s0 s' ∧ ∀ c, c < 64 → bq (sc.2 b 8) c = true → s'.1 22 (fb_ct (bq (sc.2 b 8)) c) = nI c := by
  have hn8 := L.n8
  refine lo3 (Q := fun o => ∃ s', o = K s' ∧ agr [22] s0 s' ∧ ∀ c, c < 64 → bq (sc.2 b 8) c = true → s'.1 22 (fb_ct (bq (sc.2 b 8)) c) = nI c) (I := fun m a1 a2 s => ∃ i, i + m = 64 ∧ a2 = nI i ∧ a1 = nI (fb_ct (bq (sc.2 b 8)) i) ∧ agr [22] s0 s ∧ ∀ c, c < i → bq (sc.2 b 8) c = true → s.1 22 (fb_ct (bq (sc.2 b 8)) c) = nI c) ?_ FU 64 _ _ _ (by unfold FU; omega) ⟨0, by omega, rfl, rfl, agr.rf, fun c hc => absurd hc (Nat.not_lt_zero c)⟩
  rintro m rf a1 a2 s ⟨i, him, rfl, rfl, a, hr⟩ ih
  cases m with
  | zero =>
    have hi : i = 64 := by omega
    subst hi
    rw [if_pos (show (64 : Int32) ≤ nI 64 from le_t (by decide))]
    exact ⟨s, rfl, a, hr⟩
  | succ m =>
    have hi : i < 64 := by omega
    have hm1 : (0 : Int32) - 1 = -1 := by decide
    have st := fb_ct_succ (bq (sc.2 b 8)) i
    rw [if_neg (n_not64 hi), m_seedOf hi, Bd_some, Lt_e, nI_1, (a 1 (by decide)).1]
    cases q : bq (sc.2 b 8) i with
    | false =>
      have st : fb_ct (bq (sc.2 b 8)) (i + 1) = fb_ct (bq (sc.2 b 8)) i := (fb_ct_succ _ i).trans (by rw [q]; rfl)
      rw [L.sd0 i hi q, if_pos hm1]
      refine ih m _ _ _ (Nat.lt_succ_self m) ⟨i + 1, by omega, rfl, by rw [st], a, fun c hc hq => ?_⟩
      by_cases e : c = i
      · rw [e, q] at hq; cases hq
      · exact hr c (by omega) hq
    | true =>
      obtain ⟨_, n, hn, _, e, _⟩ := L.sd i hi q
      have hlt := rk_lt hi q
      rw [q, if_pos rfl] at st
      rw [e, n_sub1, if_neg (n_nI_m1 (by omega)), Gs_n (by omega) (by decide), Lt_e, nI_1]
      refine ih m _ _ _ (Nat.lt_succ_self m) ⟨i + 1, by omega, rfl, by rw [st], a.ups (by decide), fun c hc hq => ?_⟩
      rw [rd1]
      by_cases e2 : c = i
      · rw [e2, if_pos rfl]
      · have := rk_lt (show c < i by omega) hq
        rw [if_neg (by omega)]
        exact hr c (by omega) hq
/-- the set of the chosen seeds -/
theorem chosen_c {s : ST} {c : Nat} (hc : c < 1024) : ∃ x, C_X6_chosenSeeds s (nI c) = some x ∧ ∀ k, k < 64 → bq x k = (bq (s.2 1 8) k && c.testBit (fb_ct (bq (s.2 1 8)) k)) := by
  unfold C_X6_chosenSeeds
  refine lo3 (Q := fun o => ∃ x, o = some x ∧ ∀ k, k < 64 → bq x k = (bq (s.2 1 8) k && c.testBit (fb_ct (bq (s.2 1 8)) k))) (I := fun m a1 a2 a3 => ∃ i, i + m = 64 ∧ a3 = nI i ∧ a2 = nI (fb_ct (bq (s.2 1 8)) i) ∧ ∀ k, k < 64 → bq a1 k = (decide (k < i) && (bq (s.2 1 8) k && c.testBit (fb_ct (bq (s.2 1 8)) k)))) ?_ FU 64 _ _ _ (by unfold FU; omega) ⟨0, by omega, rfl, rfl, fun k hk => by rw [bq_0]; simp⟩
  rintro m rf a1 a2 a3 ⟨i, him, rfl, rfl, hb⟩ ih
  cases m with
  | zero =>
    have hi : i = 64 := by omega
    subst hi
    rw [if_pos (show (64 : Int32) ≤ nI 64 from le_t (by decide))]
    refine ⟨a1, rfl, fun k hk => ?_⟩
    rw [hb k hk]
    simp [hk]
  | succ m =>
    have hi : i < 64 := by omega
    have st := fb_ct_succ (bq (s.2 1 8)) i
    have hle := fb_ct_le (bq (s.2 1 8)) i
    rw [if_neg (n_not64 hi), Lt_e, Lt_e, c_hasSeed hi, nI_1]
    cases q : bq (s.2 1 8) i with
    | false =>
      have st : fb_ct (bq (s.2 1 8)) (i + 1) = fb_ct (bq (s.2 1 8)) i := (fb_ct_succ _ i).trans (by rw [q]; rfl)
      rw [ift0]
      refine ih m _ _ _ (Nat.lt_succ_self m) ⟨i + 1, by omega, rfl, by rw [st], fun k hk => ?_⟩
      rw [hb k hk]
      by_cases e : k = i
      · rw [e, q]; simp
      · have : decide (k < i) = decide (k < i + 1) := by rw [decide_eq_decide]; omega
        rw [this]
    | true =>
      rw [q, if_pos rfl] at st
      rw [ift1, Lt_e, Lt_e, nI_toL c hc, c_isIn (by omega), bq_lN (by omega), nI_1]
      cases t : c.testBit (fb_ct (bq (s.2 1 8)) i) with
      | false =>
        rw [ift0]
        refine ih m _ _ _ (Nat.lt_succ_self m) ⟨i + 1, by omega, rfl, by rw [st], fun k hk => ?_⟩
        rw [hb k hk]
        by_cases e : k = i
        · rw [e, t]; simp
        · have : decide (k < i) = decide (k < i + 1) := by rw [decide_eq_decide]; omega
          rw [this]
      | true =>
        rw [ift1, Lt_e, bit1_e]
        refine ih m _ _ _ (Nat.lt_succ_self m) ⟨i + 1, by omega, rfl, by rw [st], fun k hk => ?_⟩
        rw [bq_set hi hk, hb k hk]
        by_cases e : k = i
        · rw [e, q, t]; simp
        · have : decide (k < i) = decide (k < i + 1) := by rw [decide_eq_decide]; omega
          rw [this]
          simp [e]
theorem m_setOf {s : ST} {p : Nat → Bool} {c n : Nat} (hc : c < 1024) (hn : n = fb_ct p 64) (h10 : n ≤ 10) (hr : ∀ k, k < 64 → p k = true → s.1 22 (fb_ct p k) = nI k) : ∃ x, M_setOf s (nI c) (nI n) = some x ∧ ∀ k, k < 64 → bq x k = (p k && c.testBit (fb_ct p k)) := by
  unfold M_setOf
  refine lo2 (Q := fun o => ∃ x, o = some x ∧ ∀ k, k < 64 → bq x k = (p k && c.testBit (fb_ct p k))) (I := fun m a1 a2 => ∃ i, i + m = n ∧ a2 = nI i ∧ ∀ k, k < 64 → bq a1 k = (decide (fb_ct p k < i) && (p k && c.testBit (fb_ct p k)))) ?_ FU n _ _ (by unfold FU; omega) ⟨0, by omega, rfl, fun k hk => by rw [bq_0]; simp⟩
  rintro m rf a1 a2 ⟨i, him, rfl, hb⟩ ih
  cases m with
  | zero =>
    have hi : i = n := by omega
    subst hi
    rw [if_pos (le_t (by omega))]
    refine ⟨a1, rfl, fun k hk => ?_⟩
    rw [hb k hk]
    cases e : p k with
    | false => simp
    | true =>
      have := rk_lt hk e
      rw [decide_eq_true (by omega)]
      rfl
  | succ m =>
    have hi : i < n := by omega
    obtain ⟨z, hz, pz, ez⟩ := rk_sur (p := p) (n := 64) (i := i) (by omega)
    rw [if_neg (nle_t hi (by omega)), Lt_e, nI_1, ite_iff (kb10 c hc i (by omega))]
    cases t : c.testBit i with
    | false =>
      rw [if_neg (by decide)]
      refine ih m _ _ (Nat.lt_succ_self m) ⟨i + 1, by omega, rfl, fun k hk => ?_⟩
      rw [hb k hk]
      by_cases e : fb_ct p k = i
      · rw [e, t]; simp
      · have : decide (fb_ct p k < i) = decide (fb_ct p k < i + 1) := by rw [decide_eq_decide]; omega
        rw [this]
    | true =>
      have hz22 := hr z hz pz
      rw [ez] at hz22
      rw [if_pos rfl, Gl_n (by omega) (by decide), Lt_e, Lt_e, hz22, m_bit]
      refine ih m _ _ (Nat.lt_succ_self m) ⟨i + 1, by omega, rfl, fun k hk => ?_⟩
      rw [bq_set hz hk, hb k hk]
      by_cases e : k = z
      · rw [e, pz, ez, t]; simp
      · rw [decide_eq_false e, Bool.or_false]
        cases pk : p k with
        | false => simp
        | true =>
          have hne : ¬ fb_ct p k = i := fun h => e (rk_inj pk pz (h.trans ez.symm))
          have : decide (fb_ct p k < i) = decide (fb_ct p k < i + 1) := by rw [decide_eq_decide]; omega
          rw [this]
