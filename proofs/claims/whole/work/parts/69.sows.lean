/-! # stage 2: sows -/
theorem lk54 {C D A1 A2 A3 A4 A5 B1 B2 B3 B4 : Type} {F : (A1 → A2 → A3 → A4 → A5 → Option C) → A1 → A2 → A3 → A4 → A5 → Option C} {G : (B1 → B2 → B3 → B4 → Option D) → B1 → B2 → B3 → B4 → Option D} (Q : Option C → Option D → Prop) (I : Nat → A1 → A2 → A3 → A4 → A5 → B1 → B2 → B3 → B4 → Prop)
    (h : ∀ (m : Nat) (rf : A1 → A2 → A3 → A4 → A5 → Option C) (rg : B1 → B2 → B3 → B4 → Option D) (a1 : A1) (a2 : A2) (a3 : A3) (a4 : A4) (a5 : A5) (b1 : B1) (b2 : B2) (b3 : B3) (b4 : B4), I m a1 a2 a3 a4 a5 b1 b2 b3 b4 → (∀ m' a1 a2 a3 a4 a5 b1 b2 b3 b4, m' < m → I m' a1 a2 a3 a4 a5 b1 b2 b3 b4 → Q (rf a1 a2 a3 a4 a5) (rg b1 b2 b3 b4)) → Q (F rf a1 a2 a3 a4 a5) (G rg b1 b2 b3 b4)) :
    ∀ (n m : Nat) (a1 : A1) (a2 : A2) (a3 : A3) (a4 : A4) (a5 : A5) (b1 : B1) (b2 : B2) (b3 : B3) (b4 : B4), m < n → I m a1 a2 a3 a4 a5 b1 b2 b3 b4 → Q (lpK5 F n a1 a2 a3 a4 a5) (lpK4 G n b1 b2 b3 b4) := by
  intro n
  induction n with
  | zero => intro m _ _ _ _ _ _ _ _ _ hm; omega
  | succ n ih =>
    intro m a1 a2 a3 a4 a5 b1 b2 b3 b4 hm hI
    exact h m (lpK5 F n) (lpK4 G n) a1 a2 a3 a4 a5 b1 b2 b3 b4 hI (fun m' a1 a2 a3 a4 a5 b1 b2 b3 b4 hlt hI' => ih m' a1 a2 a3 a4 a5 b1 b2 b3 b4 (by omega) hI')
theorem ti_L {W H nk nc nl nw np : Nat} {sc0 sm0 sc sm : ST} (R : R8 W H nk nc nl nw np sc0 sm0) (h : TI sc0 sm0 sc sm) : LD W H nk 1 sc sm ∧ TD W H nk nc nl nw np 8 sc sm := by
  obtain ⟨⟨h1, h2, h3, h4, h5⟩, h6⟩ := h
  exact ⟨LD_agr9 R.L (fun j hj => (h1 _ (by simp only [List.mem_cons, List.not_mem_nil, or_false]; omega)).1) (h1 1 (by decide)).2 (fun i hi => h5 i (by simp only [List.mem_cons, List.not_mem_nil, or_false] at hi ⊢; omega)) h6 (h2 4 (by decide)).1,
    TD_agr R.T (fun c hc => (h1 c (by simp only [List.mem_cons, List.not_mem_nil, or_false] at hc ⊢; omega)).1) (fun i hi => h5 i (by simp only [List.mem_cons, List.not_mem_nil, or_false] at hi ⊢; omega)) (fun c hc => (h2 c (by simp only [List.mem_cons, List.not_mem_nil, or_false] at hc ⊢; omega)).1)⟩
/-- one seed that is thought of -/
theorem try_sim {W H nk nc nl nw np i j k n d0 : Nat} {sc0 sm0 sc sm : ST} (R : R8 W H nk nc nl nw np sc0 sm0) (h : TI sc0 sm0 sc sm) (hi : i < nw) (hj : j ≤ 60) (hd0 : sm0.1 1 0 = nI d0) (hd : sm0.1 18 (4 * i + 2) - nI d0 = nI j) (hk : k < 64) (hc : cl W H k) (hn : n < nk) :
    ∃ (b : Bool) (v : Int32) (c4 c5 c6 m6 : ST), C_X1_copy sc 72 1 = some c4 ∧ C_X1_laySeed c4 72 (nI n) (nI k) = some c5 ∧ C_X6_thinkOn c5 (nI (j + 1)) = some c6 ∧ c6.1 72 5 - c6.1 1 5 = v ∧ C_X6_isMet c6 (nI i) = some (if b = true then 1 else 0) ∧ M_isMetBy sm (nI i) (nI n) (nI k) = some (if b = true then 1 else 0, m6) ∧ m6.1 0 46 = v ∧ TI sc0 sm0 c6 m6 := by
  have hw10 := R.T.w10
  obtain ⟨c2, e2, t2, D, T⟩ := th_copy R h
  have h5 : sm.1 0 5 = 1 := t2.1.2.2.2.1
  obtain ⟨c3, c3', m3, x1, x2, x3, D3⟩ := lay_t D h5 hk hc hn 0
  have x2 : c3 = c3' := x2
  subst x2
  obtain ⟨c4, m4, dy, k1, k2, D4⟩ := think_sim (n := j + 1) D3 T h5 (by omega) (by omega)
  have t4 := tw_D t2.1 D4
  have T4 := Dt_T D4 T
  have ec : c4.1 1 5 = m4.1 3 4 := by rw [(t4.1 1 (by decide)).1, t4.2.2.1 4 (by decide)]; exact R.L.harm
  have eh : c4.1 72 5 = m4.1 1 4 := D4.1.harm
  have L5 : LD W H nk 72 c4 (ups m4 0 46 (m4.1 1 4 - m4.1 3 4)) := LD_agr D4.1 (fun _ _ => rfl) rfl (fun i hi => by
    rw [rd1, if_neg (by rintro rfl; exact absurd hi (by decide))]) (ups_ne (by decide)) (ups_ne (by decide))
  have T5 : TD W H nk nc nl nw np 8 c4 (ups m4 0 46 (m4.1 1 4 - m4.1 3 4)) := TD_agr T4 (fun _ _ => rfl) (fun i hi => by
    rw [rd1, if_neg (by rintro rfl; exact absurd hi (by decide))]) (fun c hc => ups_ne (by rintro rfl; exact absurd hc (by decide)))
  obtain ⟨b, y1, y2⟩ := met_sim L5 T5 hi
  have t5 : TW sc0 sm0 c4 (ups m4 0 46 (m4.1 1 4 - m4.1 3 4)) := by
    obtain ⟨a1, a2, a3, a4, a5⟩ := t4
    refine ⟨a1, a2.ups (by decide), fun i hi => by rw [ups_ne (by decide)]; exact a3 i hi, by rw [rd1, if_neg (by decide)]; exact a4, fun i hi => ?_⟩
    rw [rd1, if_neg (by rintro rfl; exact hi (by decide))]
    exact a5 i hi
  obtain ⟨m6, z1, z2, z3⟩ := th_anew t5
  refine ⟨b, c4.1 72 5 - c4.1 1 5, c2, c3, c4, m6, e2, x1, k1, rfl, y1, ?_, ?_, z2⟩
  · unfold M_isMetBy
    have p2 : M_ofWant m3 (nI i) 2 = some (sm0.1 18 (4 * i + 2)) := by
      have := m_ofWant (s := m3) (i := i) (c := 2) (by omega) (by decide)
      rw [(D3.2.2.1 18 (by decide)).1, (t2.1.2.1 18 (by decide)).1] at this
      exact this
    rw [x3, Bd_some, p2, Bd_some, Lt_e, show m3.1 1 0 = nI d0 from D3.2.2.2.2.trans hd0, hd, nI_1, k2, Bd_some, Lt_e, Lt_e, Lt_e, y2, Bd_some, z1, Bd_some, b1_and]
  · rw [z3, rd1, if_pos rfl, ec, eh]
theorem s_sows : Sim_sows Rel := by
  rintro sc sm x y ⟨W, H, nk, nc, nl, nw, np, R⟩
  have h10 : ¬ (1 : Int32) = 0 := by decide
  have h00 : (0 : Int32) = 0 := rfl
  have R' := R8_told R
  have h8 := R'.T.k8
  have hw10 := R'.T.w10
  obtain ⟨CB, hc0⟩ : ∃ q, C_X9_sows sc x y = q := ⟨_, rfl⟩
  obtain ⟨MB, hm0⟩ : ∃ q, M_sows sm x y = q := ⟨_, rfl⟩
  rw [hc0, hm0]
  unfold C_X9_sows at hc0
  unfold M_sows at hm0
  rw [Lt_e, Lt_e] at hm0
  generalize ups sm 0 0 0 = m0 at *
  rw [R'.T.w'] at hm0
  rcases in_row (s := sc) m0 x R'.T.w (by omega) with ⟨a, b⟩ | ⟨i, hi, rfl, a, b⟩
  · rw [c_of_out a, Bd_some, Lt_e, Lt_e, show C_X4_hasRow sc 19 x = 0 from a, if_pos h00] at hc0
    rw [b, if_pos h00] at hm0
    exact ⟨-1, _, m0, hc0.symm, hm0.symm, W, H, nk, nc, nl, nw, np, R'⟩
  obtain ⟨d0, hd0, ed0⟩ := R'.d
  obtain ⟨c, d, v, c64, hcl, hd, _, _, _, x2, _, _, y2, _, _⟩ := R'.T.wd i hi
  have o2 : C_X4_of sc 19 (nI i) 2 = some (nI d) := (c_ofWant (c := 2) R'.T hi (by decide)).trans (congrArg some x2)
  have p2 : M_ofWant m0 (nI i) 2 = some (nI d) := (m_ofWant (c := 2) (by omega) (by decide)).trans (congrArg some y2)
  have ed1 : sc.1 1 2 = nI d0 := R'.L.day.trans ed0
  rw [o2, Bd_some, Lt_e, Lt_e, show C_X4_hasRow sc 19 (nI i) = 1 from a, if_neg h10, Lt_e, ed1, show C_X9_isWithin sc (nI d - nI d0) 0 60 = M_isIn m0 (nI d - nI d0) 0 60 from rfl] at hc0
  rw [b, if_neg h10, p2, Bd_some, Lt_e, Lt_e, ed0] at hm0
  rcases inN m0 (nI d - nI d0) 60 (by decide) with ⟨b, _⟩ | ⟨j, hj, hje, b⟩
  · rw [show M_isIn m0 (nI d - nI d0) 0 60 = 0 from b, if_pos h00] at hc0 hm0
    exact ⟨-1, _, m0, hc0.symm, hm0.symm, W, H, nk, nc, nl, nw, np, R'⟩
  rw [show M_isIn m0 (nI d - nI d0) 0 60 = 1 from b, if_neg h10, Lt_e] at hc0 hm0
  rw [show C_X9_isWithin sc y 0 2 = M_isIn m0 y 0 2 from rfl] at hc0
  rcases inN m0 y 2 (by decide) with ⟨b, _⟩ | ⟨wn, hw, hwe, b⟩
  · rw [show M_isIn m0 y 0 2 = 0 from b, if_pos h00] at hc0 hm0
    exact ⟨-1, _, m0, hc0.symm, hm0.symm, W, H, nk, nc, nl, nw, np, R'⟩
  rw [show M_isIn m0 y 0 2 = 1 from b, if_neg h10] at hc0 hm0
  rw [hje, nI_1] at hc0
  obtain ⟨m1, e1, t1⟩ := th_begin sc m0
  rw [e1, Bd_some] at hm0
  suffices hh : ∃ r sc' sm', C_X6_bestSeed sc (nI i) (nI (j + 1)) y = some (r, sc') ∧ MB = some (r, sm') ∧ Rel sc' sm' by
    obtain ⟨r, c, s, k1, k2, k3⟩ := hh
    rw [k1, Bd_some] at hc0
    exact ⟨r, c, s, hc0.symm, k2, k3⟩
  rw [← hm0]
  clear hc0 hm0
  unfold C_X6_bestSeed
  obtain ⟨J, hJ⟩ : ∃ J : Int32 → Int32 → Int32 → Int32 → Int32 → Prop, ∀ a1 a2 a3 b1 b2, J a1 a2 a3 b1 b2 ↔ ((a1 = -1 ∧ a2 = -1 ∧ a3 = -1 ∧ b1 = -1) ∨ ∃ n k, n < nk ∧ k < 64 ∧ a1 = nI n ∧ a2 = nI k ∧ b1 = nI (64 * n + k) ∧ b2 = a3) := ⟨_, fun _ _ _ _ _ => Iff.rfl⟩
  refine lk54 (Q := fun oc om => ∃ r sc' sm', oc = some (r, sc') ∧ om = some (r, sm') ∧ Rel sc' sm') (I := fun m a1 a2 a3 a4 s1 b1 b2 b3 s2 => ∃ n, n + m = nk ∧ a4 = nI n ∧ b3 = nI n ∧ J a1 a2 a3 b1 b2 ∧ TI sc m0 s1 s2) ?_ FU nk _ _ _ _ _ _ _ _ _ (by unfold FU; omega) ⟨0, by omega, rfl, rfl, (hJ _ _ _ _ _).mpr (Or.inl ⟨rfl, rfl, rfl, rfl⟩), t1⟩
  rintro m rf rg a1 a2 a3 a4 s1 b1 b2 b3 s2 ⟨n, him, rfl, rfl, hj1, t2⟩ ih
  obtain ⟨L2, T2⟩ := ti_L R' t2
  rw [show s1.1 9 2 = nI nk from T2.k, T2.k']
  cases m with
  | zero =>
    have hi : n = nk := by omega
    subst hi
    obtain ⟨m4, e5, R4⟩ := th_end R' t2.1
    rw [if_pos (le_t (by omega)), if_pos (le_t (by omega)), e5, Bd_some]
    rcases (hJ _ _ _ _ _).mp hj1 with ⟨q1, q2, q3, q4⟩ | ⟨n', k, hn', hk, q1, q2, q3, q4⟩
    · rw [q1, q2, q3, if_pos q4]
      refine ⟨-1, s1, m4, ?_, rfl, W, H, n, nc, nl, nw, np, R4⟩
      split
      · rfl
      · split <;> rfl
    · rw [q1, q2, q3, q4, if_neg (n_nI_m1 (by omega)), show (64 : Int32) = nI 64 from rfl, nI_div (by omega) (by decide), irm_nI (by omega) (by decide), show (64 * n' + k) / 64 = n' by omega, show (64 * n' + k) % 64 = k by omega]
      by_cases g0 : y = 0
      · rw [if_pos g0, if_pos g0]
        exact ⟨_, _, _, rfl, rfl, W, H, n, nc, nl, nw, np, R4⟩
      rw [if_neg g0, if_neg g0]
      by_cases g1 : y = 1
      · rw [if_pos g1, if_pos g1]
        exact ⟨_, _, _, rfl, rfl, W, H, n, nc, nl, nw, np, R4⟩
      rw [if_neg g1, if_neg g1]
      exact ⟨_, _, _, rfl, rfl, W, H, n, nc, nl, nw, np, R4⟩
  | succ m =>
    have hn : n < nk := by omega
    rw [if_neg (nle_t hn (by omega)), if_neg (nle_t hn (by omega)), nI_1]
    refine lk54 (Q := fun oc om => ∃ r sc' sm', oc = some (r, sc') ∧ om = some (r, sm') ∧ Rel sc' sm') (I := fun m a1 a2 a3 a4 s1 b1 b2 b3 s2 => ∃ k, k + m = 64 ∧ a4 = nI k ∧ b3 = nI k ∧ J a1 a2 a3 b1 b2 ∧ TI sc m0 s1 s2) ?_ FU 64 _ _ _ _ _ _ _ _ _ (by unfold FU; omega) ⟨0, by omega, rfl, rfl, hj1, t2⟩
    rintro m2 rf2 rg2 a5 a6 a7 a8 s3 b4 b5 b6 s4 ⟨k, hkm, rfl, rfl, hj2, t3⟩ ih2
    cases m2 with
    | zero =>
      have hk64 : k = 64 := by omega
      subst hk64
      rw [if_pos (show (64 : Int32) ≤ nI 64 from le_t (by decide)), if_pos (show (64 : Int32) ≤ nI 64 from le_t (by decide))]
      exact ih m _ _ _ _ _ _ _ _ _ (Nat.lt_succ_self m) ⟨n + 1, by omega, rfl, rfl, hj2, t3⟩
    | succ m2 =>
      have hk64 : k < 64 := by omega
      obtain ⟨L3, T3⟩ := ti_L R' t3
      have nx : ∀ p1 p2 p3 p4 p5 u1 u2, J p1 p2 p3 p4 p5 → TI sc m0 u1 u2 → ∃ r sc' sm', rf2 p1 p2 p3 (nI (k + 1)) u1 = some (r, sc') ∧ rg2 p4 p5 (nI (k + 1)) u2 = some (r, sm') ∧ Rel sc' sm' := fun p1 p2 p3 p4 p5 u1 u2 g1 g2 => ih2 m2 _ _ _ _ _ _ _ _ _ (Nat.lt_succ_self m2) ⟨k + 1, by omega, rfl, rfl, g1, g2⟩
      rw [if_neg (n_not64 hk64), if_neg (n_not64 hk64), Lt_e, Lt_e, nI_1]
      rcases can_sow L3 (nI k) with ⟨g1, g2⟩ | ⟨k', hk', hc', e, g1, g2, _, _⟩
      · rw [g1, g2, Bd_some, Lt_e, if_pos h00, if_pos h00]
        exact nx _ _ _ _ _ _ _ hj2 t3
      · have hkk : k = k' := (nI_eq (by omega) (by omega)).mp e
        subst hkk
        obtain ⟨b, v, c4, c5, c6, m6, u1, u2, u3, u4, u5, u6, u7, u8⟩ := try_sim (i := i) (j := j) (d0 := d0) R' t3 hi hj ed0 (by rw [y2]; exact hje) hk64 hc' hn
        rw [g1, g2, Bd_some, Lt_e, if_neg h10, if_neg h10, u1, Bd_some, u2, Bd_some, u3, Bd_some, Lt_e, u4, u5, u6, Bd_some, Bd_some]
        dsimp only
        rw [u7]
        cases b with
        | false =>
          rw [ift0, ift0]
          exact nx _ _ _ _ _ _ _ hj2 u8
        | true =>
          have hb : J (nI n) (nI k) v (nI (64 * n + k)) v := (hJ _ _ _ _ _).mpr (Or.inr ⟨n, k, hn, hk64, rfl, rfl, rfl, rfl⟩)
          rw [ift1, ift1, Lt_e, Lt_e, Lt_e, Lt_e, show (64 : Int32) = nI 64 from rfl, nI_mul, nI_add]
          rcases (hJ _ _ _ _ _).mp hj2 with ⟨q1, q2, q3, q4⟩ | ⟨n', k', hn', hk', q1, q2, q3, q4⟩
          · rw [if_pos q1, if_pos q4]
            exact nx _ _ _ _ _ _ _ hb u8
          · have f1 : ¬ a5 = -1 := by rw [q1]; exact n_nI_m1 (by omega)
            have f2 : ¬ b4 = -1 := by rw [q3]; exact n_nI_m1 (by omega)
            rw [if_neg f1, if_neg f2, q4]
            by_cases g : a7 ≤ v
            · rw [if_pos g, if_neg (i_nlt.mpr g)]
              exact nx _ _ _ _ _ _ _ ((hJ _ _ _ _ _).mpr (Or.inr ⟨n', k', hn', hk', q1, q2, q3, rfl⟩)) u8
            · rw [if_neg g, if_pos (i_nle.mp g)]
              exact nx _ _ _ _ _ _ _ hb u8
