theorem plan_r {W H nk nc nl nw np : Nat} {dy : Int32} {sc0 sm0 sc sm : ST} (D : Dr W H nk dy sc0 sm0 sc sm) (T : TD W H nk nc nl nw np 8 sc0 sm0) (h5 : sm0.1 0 5 = 0) : ∃ sc' sm', C_X8_followPlan_r sc = some sc' ∧ M_goesIn sm 1 = (Bd (M_comeUp sm') fun y1 => Bd (M_doesHarm y1.2) fun s2 => some (y1.1, s2)) ∧ Dr W H nk dy sc0 sm0 sc' sm' := by
  have h16 := T.p16
  have h8 := T.k8
  unfold C_X8_followPlan_r M_goesIn
  refine lk22 (Q := fun oc om => ∃ sc' sm', oc = some sc' ∧ om = (Bd (M_comeUp sm') fun y1 => Bd (M_doesHarm y1.2) fun s2 => some (y1.1, s2)) ∧ Dr W H nk dy sc0 sm0 sc' sm') (I := fun m a2 t1 b2 t2 => ∃ i, i + m = np ∧ a2 = nI i ∧ b2 = nI i ∧ Dr W H nk dy sc0 sm0 t1 t2) ?_ FU np _ _ _ _ (by unfold FU; omega) ⟨0, by omega, rfl, rfl, D⟩
  rintro m rf rg a2 s1 b2 s2 ⟨i, him, rfl, rfl, D⟩ ih
  have L := D.1
  have T' := Dr_T D T
  simp only [Lt_n]
  rw [show s1.1 21 2 = nI np from T'.p, T'.p', ite_iff (nI_leI (by omega) (by omega)), ite_iff (nI_leI (by omega) (by omega))]
  cases m with
  | zero =>
    rw [if_pos (by omega), if_pos (by omega)]
    exact ⟨s1, s2, rfl, rfl, D⟩
  | succ m =>
    have hi : i < np := by omega
    have nx : ∀ q1 q2, Dr W H nk dy sc0 sm0 q1 q2 → ∃ sc' sm', rf (nI i + 1) q1 = some sc' ∧ rg (nI i + 1) q2 = (Bd (M_comeUp sm') fun y1 => Bd (M_doesHarm y1.2) fun s2 => some (y1.1, s2)) ∧ Dr W H nk dy sc0 sm0 sc' sm' := fun q1 q2 h1 => ih m _ _ _ _ (Nat.lt_succ_self m) ⟨i + 1, by omega, nI_1 i, nI_1 i, h1⟩
    obtain ⟨d, hd, x0, y0, deed⟩ := T'.pd i hi
    have l : lc (21 + 1) = 64 := rfl
    have o : ∀ c, c < 4 → C_X4_of s1 21 (nI i) (nI c) = some (s1.1 22 (4 * i + c)) := fun c hc => c_of T'.p hi (by omega) hc (by rw [l]; omega) (by decide)
    have o0 : C_X4_of s1 21 (nI i) 0 = some (nI d) := (o 0 (by decide)).trans (congrArg some x0)
    have n4 : (4 : Int32) * nI i = nI (4 * i) := nI_mul 4 i
    rw [if_neg (by omega), if_neg (by omega), if_neg (by decide), o0, Bd_some, n4, Gl_n (by omega) (by decide), y0, show s1.1 1 2 = s2.1 1 0 from L.day]
    by_cases hday : nI d = s2.1 1 0
    · rw [if_pos hday, if_pos hday]
      have g : ∀ (s : ST) (c : Nat), c < 4 → s.1 19 = s2.1 19 → ∀ (f : Int32 → Option ST), Gl s 19 128 (nI (4 * i) + nI c) f = f (s2.1 19 (4 * i + c)) := fun s c hc hs f => by
        rw [nI_add, Gl_n (by omega) (by decide), hs]
      have g1 := fun s hs => g s 1 (by decide) hs
      have g2 := fun s hs => g s 2 (by decide) hs
      have g3 := fun s hs => g s 3 (by decide) hs
      have o1 : C_X4_of s1 21 (nI i) 1 = some (s1.1 22 (4 * i + 1)) := o 1 (by decide)
      have o2 : C_X4_of s1 21 (nI i) 2 = some (s1.1 22 (4 * i + 2)) := o 2 (by decide)
      have o3 : C_X4_of s1 21 (nI i) 3 = some (s1.1 22 (4 * i + 3)) := o 3 (by decide)
      rw [o1, Bd_some, o2, Bd_some, o3, Bd_some]
      unfold M_does
      simp only [Lt_n]
      rw [show (3 : Int32) = nI 3 from rfl, show (1 : Int32) = nI 1 from rfl, show (2 : Int32) = nI 2 from rfl, g3 s2 rfl, g1 s2 rfl]
      rcases deed with ⟨n, c, hn, hc64, hcc, a1, b1, a2, a3, b2, b3⟩ | ⟨c, hc64, hcc, a1, b1, a3, b3⟩ | ⟨w, hw, a1, b1, a2, b3⟩
      · have a1 : s1.1 22 (4 * i + 1) = 0 := a1
        have a2 : s1.1 22 (4 * i + 2) = nI n := a2
        have a3 : s1.1 22 (4 * i + 3) = nI c := a3
        rw [a1, a2, a3, b1, b3, if_pos rfl, if_neg (by decide), g1 s2 rfl, b1, if_pos rfl]
        rcases plant_r D T h5 hc64 hcc hn with ⟨_, _, p1, sc', sm', p2, p3, p4⟩ | ⟨_, p2, p1⟩
        · rw [p1, p2, Bd_some, Bd_some, if_neg (by decide), g2 s2 rfl, b2, p3, Bd_some, g1 sm' ((p4.2.2.1 19 (by decide)).1.trans (D.2.2.1 19 (by decide)).1.symm), b1, if_neg (by decide), Bd_some]
          exact nx _ _ p4
        · rw [p1, p2, Bd_some, Bd_some, if_pos rfl, g1 s2 rfl, b1, if_neg (by decide), Bd_some]
          exact nx _ _ D
      · have a1 : s1.1 22 (4 * i + 1) = 1 := a1
        have a3 : s1.1 22 (4 * i + 3) = nI c := a3
        rw [a1, a3, b1, b3, if_neg (by decide), if_pos (by decide), if_neg (by decide), g1 s2 rfl, b1, if_neg (by decide), g1 s2 rfl, b1, if_pos (by decide)]
        unfold M_canWeed
        rw [Lt_e, m_isCell L.w' L.h' L.W7 L.H7 hc64, if_pos hcc, if_neg (by decide), m_seedOf hc64, Bd_some]
        cases q : bq (s1.2 1 8) c with
        | true =>
          obtain ⟨_, n, hn, _, m69, _⟩ := L.sd c hc64 q
          obtain ⟨sc', sm', p1, p2, p3⟩ := pull_r D h5 hc64 q
          rw [m69, n_sub1, if_neg (n_nI_m1 (by omega)), Bd_some, if_neg (by decide), p1, p2, Bd_some, Bd_some, Bd_some]
          exact nx _ _ p3
        | false =>
          have hp : C_X8_pull_r s1 (nI c) = some (0, s1) := by
            unfold C_X8_pull_r
            rw [Lt_e, c_isCell L.w L.h L.W7 L.H7 hc64, if_pos hcc, if_neg (by decide), Lt_e, c_hasSeed hc64, q, ift0]
          rw [L.sd0 c hc64 q, if_pos (by decide), Bd_some, if_pos rfl, hp, Bd_some, Bd_some]
          exact nx _ _ D
      · have a1 : s1.1 22 (4 * i + 1) = 2 := a1
        have a2 : s1.1 22 (4 * i + 2) = nI w := a2
        have V := (veer_r D hw).1
        have e19 : (M_turnsTo s2 (nI w)).1 19 = s2.1 19 := (V.2.2.1 19 (by decide)).1.trans (D.2.2.1 19 (by decide)).1.symm
        rw [a1, a2, b1, b3, if_neg (by decide), if_neg (by decide), if_pos (by decide), g1 _ e19, b1, if_neg (by decide), g1 _ e19, b1, if_neg (by decide), Bd_some]
        exact nx _ _ V
    · rw [if_neg hday, if_neg hday]
      exact nx _ _ D
theorem dawn_r {W H nk nc nl nw np : Nat} {dy : Int32} {sc0 sm0 sc sm : ST} (D : Dr W H nk dy sc0 sm0 sc sm) (T : TD W H nk nc nl nw np 8 sc0 sm0) (h5 : sm0.1 0 5 = 0) (x : Int32) (hx : x = 0 ∨ x = 1) : ∃ n sc' sm', C_X8_dawn_r sc x = some (n, sc') ∧ M_goesIn sm x = some (n, sm') ∧ Dr W H nk dy sc0 sm0 sc' sm' := by
  have h8 := T.k8
  have key : ∀ sc sm, Dr W H nk dy sc0 sm0 sc sm → ∃ n sc1 sm1, M_comeUp sm = some (n, sm1) ∧ lpK3 (C := Int32 × ST) (fun (rec1 : Int32 → Int32 → ST → Option (Int32 × ST)) (a1 : Int32) (a2 : Int32) (s2 : ST) => if (64 : Int32) ≤ a2 then (Bd (C_X8_blow_r s2) fun s3 => some (a1, s3)) else (Lt (C_X1_hasSeed s2 1 a2) fun y1 => Lt (fun (a3 : Int32) (s4 : ST) => (rec1 a3 (a2 + (1 : Int32)) s4 : Option (Int32 × ST))) fun j2 => if y1 = 0 then (j2 a1 s2) else (Gl s2 4 64 a2 fun y2 => Gl s2 3 64 a2 fun y3 => Bd (C_X4_of s2 9 y3 (0 : Int32)) fun y4 => if ((s2.1 1 2) - y2) < y4 then (j2 a1 s2) else (Bd (C_X8_comesUp_r s2 a2) fun y5 => if y5.1 = 0 then (j2 a1 y5.2) else (j2 (a1 + (1 : Int32)) y5.2))))) FU (0 : Int32) (0 : Int32) sc = (Bd (C_X8_blow_r sc1) fun s3 => some (n, s3)) ∧ Dr W H nk dy sc0 sm0 sc1 sm1 := by
    intro sc sm D
    unfold M_comeUp
    refine lk33 (Q := fun oc om => ∃ n sc1 sm1, om = some (n, sm1) ∧ oc = (Bd (C_X8_blow_r sc1) fun s3 => some (n, s3)) ∧ Dr W H nk dy sc0 sm0 sc1 sm1) (I := fun m a1 a2 s1 b1 b2 s2 => ∃ i, i + m = 64 ∧ a2 = nI i ∧ b2 = nI i ∧ a1 = b1 ∧ Dr W H nk dy sc0 sm0 s1 s2) ?_ FU 64 _ _ _ _ _ _ (by unfold FU; omega) ⟨0, by omega, rfl, rfl, rfl, D⟩
    rintro m rf rg a1 a2 s1 b1 b2 s2 ⟨i, him, rfl, rfl, rfl, D⟩ ih
    have L := D.1
    cases m with
    | zero =>
      have hi : i = 64 := by omega
      subst hi
      rw [if_pos (by decide), if_pos (by decide)]
      exact ⟨a1, s1, s2, rfl, rfl, D⟩
    | succ m =>
      have hi : i < 64 := by omega
      have nx : ∀ q1 q2 x, Dr W H nk dy sc0 sm0 q1 q2 → ∃ n sc1 sm1, rg x (nI i + 1) q2 = some (n, sm1) ∧ rf x (nI i + 1) q1 = (Bd (C_X8_blow_r sc1) fun s3 => some (n, s3)) ∧ Dr W H nk dy sc0 sm0 sc1 sm1 := fun q1 q2 x h1 => ih m _ _ _ _ _ _ (Nat.lt_succ_self m) ⟨i + 1, by omega, nI_1 i, nI_1 i, rfl, h1⟩
      rw [if_neg (n_not64 hi), if_neg (n_not64 hi)]
      simp only [Lt_n]
      rw [c_hasSeed hi, m_isCell L.w' L.h' L.W7 L.H7 hi, m_seedOf hi]
      cases q : bq (s1.2 1 8) i with
      | true =>
        obtain ⟨hc, n, hn, t2, m69, t3⟩ := L.sd i hi q
        have t2 : s1.1 3 i = nI n := t2
        have t3 : s1.1 4 i = s2.1 1 (133 + i) := t3
        obtain ⟨v, _, _, k1, k2⟩ := kind_0 (Dr_T D T) hn
        have h10 : ¬ (1 : Int32) = 0 := by decide
        have hn8 := L.n8
        have hnm : ¬ nI n = (-1 : Int32) := n_nI_m1 (by omega)
        rw [ift1, if_pos hc, if_neg h10, Bd_some, m69, n_sub1, if_neg hnm, show (133 : Int32) = nI 133 from rfl, nI_add, Gl_n (by omega) (by decide), Gl_n (by omega) (by decide), Gl_n (by omega) (by decide), t2, t3, k1, Bd_some, Bd_some, k2, Bd_some, L.day]
        by_cases hd : s2.1 1 0 - s2.1 1 (133 + i) < nI v
        · rw [if_pos hd, if_pos hd]
          exact nx _ _ _ D
        · rw [if_neg hd, if_neg hd]
          obtain ⟨r, sc', sm', u1, u2, u3, u4⟩ := comesUp_r D T h5 hi q
          rw [u1, u2, Bd_some, Bd_some]
          rcases u4 with rfl | rfl
          · rw [if_pos rfl, show a1 + (0 : Int32) = a1 from Int32.add_zero _]
            exact nx _ _ _ u3
          · rw [if_neg h10]
            exact nx _ _ _ u3
      | false =>
        rw [ift0, L.sd0 i hi q, Bd_some, if_pos (show (0 : Int32) - 1 = -1 by decide)]
        by_cases hc : cl W H i
        · have h10 : ¬ (1 : Int32) = 0 := by decide
          rw [if_pos hc, if_neg h10]
          exact nx _ _ _ D
        · have h00 : (0 : Int32) = 0 := rfl
          rw [if_neg hc, if_pos h00]
          exact nx _ _ _ D
  have done : ∀ sc sm, Dr W H nk dy sc0 sm0 sc sm → ∃ n sc' sm', lpK3 (C := Int32 × ST) (fun (rec1 : Int32 → Int32 → ST → Option (Int32 × ST)) (a1 : Int32) (a2 : Int32) (s2 : ST) => if (64 : Int32) ≤ a2 then (Bd (C_X8_blow_r s2) fun s3 => some (a1, s3)) else (Lt (C_X1_hasSeed s2 1 a2) fun y1 => Lt (fun (a3 : Int32) (s4 : ST) => (rec1 a3 (a2 + (1 : Int32)) s4 : Option (Int32 × ST))) fun j2 => if y1 = 0 then (j2 a1 s2) else (Gl s2 4 64 a2 fun y2 => Gl s2 3 64 a2 fun y3 => Bd (C_X4_of s2 9 y3 (0 : Int32)) fun y4 => if ((s2.1 1 2) - y2) < y4 then (j2 a1 s2) else (Bd (C_X8_comesUp_r s2 a2) fun y5 => if y5.1 = 0 then (j2 a1 y5.2) else (j2 (a1 + (1 : Int32)) y5.2))))) FU (0 : Int32) (0 : Int32) sc = some (n, sc') ∧ (Bd (M_comeUp sm) fun y1 => Bd (M_doesHarm y1.2) fun s2 => some (y1.1, s2)) = some (n, sm') ∧ Dr W H nk dy sc0 sm0 sc' sm' := by
    intro sc sm D
    obtain ⟨n, sc1, sm1, k1, k2, k3⟩ := key sc sm D
    obtain ⟨sc', sm', b1, b2, b3⟩ := blow_r k3 T
    exact ⟨n, sc', sm', by rw [k2, b1, Bd_some], by rw [k1, Bd_some, b2, Bd_some], b3⟩
  rcases hx with rfl | rfl
  · obtain ⟨n, sc', sm', d1, d2, d3⟩ := done sc sm D
    refine ⟨n, sc', sm', ?_, ?_, d3⟩
    · unfold C_X8_dawn_r
      rw [Lt_e, if_pos rfl]
      exact d1
    · unfold M_goesIn
      rw [show FU = 5999 + 1 from rfl, lp2_s]
      simp only [Lt_n]
      by_cases h : sm.1 0 42 ≤ 0
      · rw [if_pos h]; exact d2
      · rw [if_neg h, if_pos trivial]; exact d2
  · obtain ⟨sc1, sm1, p1, p2, p3⟩ := plan_r D T h5
    obtain ⟨n, sc', sm', d1, d2, d3⟩ := done sc1 sm1 p3
    refine ⟨n, sc', sm', ?_, by rw [p2]; exact d2, d3⟩
    unfold C_X8_dawn_r
    rw [Lt_e, if_neg (by decide), p1, Bd_some]
    exact d1
theorem scatter_r {W H nk nc nl nw np k n : Nat} {dy : Int32} {sc0 sm0 sc sm : ST} (D : Dr W H nk dy sc0 sm0 sc sm) (T : TD W H nk nc nl nw np 8 sc0 sm0) (h5 : sm0.1 0 5 = 0) (hk : k < 64) (hc : cl W H k) (hn : n < nk) : ∃ sc' sm', C_X8_scatter_r sc (nI n) (nI k) = some sc' ∧ M_spreads sm (nI k) (nI n) = some sm' ∧ Dr W H nk dy sc0 sm0 sc' sm' := by
  have h8 := T.k8
  have D0 := D
  obtain ⟨v, hv, k1, k2⟩ := kind_2 (Dr_T D T) hn
  have hd : ∀ s1 s2 j, Dr W H nk dy sc0 sm0 s1 s2 → j < 64 → cl W H j → M_cellBy s2 (nI j) (M_wind s2) = C_X1_downWind s1 1 (nI j) ∧ (C_X1_downWind s1 1 (nI j) = -1 ∨ ∃ j', j' < 64 ∧ cl W H j' ∧ C_X1_downWind s1 1 (nI j) = nI j') := by
    intro s1 s2 j D hj hc
    have L := D.1
    have e := c_downWind (s := s1) (sm := s2) (b := 1) hj (by rw [L.w, L.w']) (by rw [L.h, L.h'])
    rw [m_wind L, e]
    refine ⟨rfl, ?_⟩
    obtain ⟨d, hd, w1, w2⟩ := L.wind
    rw [w1, m_cellBy L.w' L.h' L.W7 L.H7 hj hc hd]
    cases q : nbc W H j d with
    | none => exact Or.inl rfl
    | some j' =>
      obtain ⟨a, b⟩ := nbc_cl hc L.W7 L.H7 hj q
      exact Or.inr ⟨j', a, b, rfl⟩
  unfold C_X8_scatter_r M_spreads
  rw [k1, Bd_some, Lt_e, Lt_e, (hd sc sm k D hk hc).1]
  refine lk33 (Q := fun oc om => ∃ sc' sm', oc = some sc' ∧ om = some sm' ∧ Dr W H nk dy sc0 sm0 sc' sm') (I := fun m a1 a2 s1 b1 b2 s2 => ∃ i j, i + m = v ∧ a2 = nI i ∧ b2 = nI i ∧ j < 64 ∧ cl W H j ∧ a1 = nI j ∧ b1 = C_X1_downWind s1 1 (nI j) ∧ Dr W H nk dy sc0 sm0 s1 s2) ?_ FU v _ _ _ _ _ _ (by unfold FU; omega) ⟨0, k, by omega, rfl, rfl, hk, hc, rfl, rfl, D⟩
  rintro m rf rg a1 a2 s1 b1 b2 s2 ⟨i, j, him, rfl, rfl, hj, hjc, rfl, rfl, D⟩ ih
  have L := D.1
  have h4 := L.hed
  have hvv : M_ofKind s2 (nI n) 2 = some (nI v) := by
    rw [show (2 : Int32) = nI 2 from rfl, m_ofKind (by omega) (by decide)] at k2 ⊢
    rw [(D.2.2.1 16 (by decide)).1, ← k2, (D0.2.2.1 16 (by decide)).1]
  simp only [Lt_n]
  rw [hvv, Bd_some, ite_iff (nI_leI (by omega) (by omega)), ite_iff (nI_leI (by omega) (by omega))]
  cases m with
  | zero =>
    rw [if_pos (by omega), if_pos (by omega)]
    exact ⟨s1, s2, rfl, rfl, D⟩
  | succ m =>
    have hq : ¬ v ≤ i := by omega
    rw [if_neg hq, if_neg hq]
    rcases (hd s1 s2 j D hj hjc).2 with e | ⟨j', hj', hjc', e⟩
    · rw [e, if_pos rfl, if_pos rfl]
      exact ⟨s1, s2, rfl, rfl, D⟩
    · have nx : ∀ q1 q2, Dr W H nk dy sc0 sm0 q1 q2 → ∃ sc' sm', rf (nI j') (nI i + 1) q1 = some sc' ∧ rg (M_cellBy q2 (nI j') (M_wind q2)) (nI i + 1) q2 = some sm' ∧ Dr W H nk dy sc0 sm0 sc' sm' := fun q1 q2 h1 => ih m _ _ _ _ _ _ (Nat.lt_succ_self m) ⟨i + 1, j', by omega, nI_1 i, nI_1 i, hj', hjc', rfl, (hd q1 q2 j' h1 hj' hjc').1, h1⟩
      rw [e, if_neg (n_nI_m1 (by omega)), if_neg (n_nI_m1 (by omega)), c_hasHedge hj', Gl_n hj' (by decide), h4 j' hj']
      cases q7 : bq (s1.2 1 7) j' with
      | true =>
        rw [if_pos rfl, if_neg (by decide), if_neg (by decide)]
        exact ⟨s1, s2, rfl, rfl, D⟩
      | false =>
        rw [ift0, ift0, c_hasSeed hj', m_seedOf hj', Bd_some]
        cases q8 : bq (s1.2 1 8) j' with
        | true =>
          obtain ⟨_, n', hn', _, m69, _⟩ := L.sd j' hj' q8
          rw [if_pos rfl, if_neg (by decide), m69, n_sub1, if_neg (n_nI_m1 (by omega))]
          exact nx _ _ D
        | false =>
          rw [ift0, L.sd0 j' hj' q8, if_pos (show (0 : Int32) - 1 = -1 by decide), c_hasStorm hj', m_stormOf hj', Bd_some]
          cases q9 : bq (s1.2 1 9) j' with
          | true =>
            obtain ⟨_, n', g, hn', _, _, _, m197, _⟩ := L.st j' hj' q9
            rw [if_pos rfl, if_neg (by decide), m197, n_sub1, if_neg (n_nI_m1 (by omega))]
            exact nx _ _ D
          | false =>
            obtain ⟨u1, u2, u3, r1, r2, r3, r4⟩ := lay_r D h5 hj' hjc' hn 5
            rw [ift0, L.st0 j' hj' q9, if_pos (show (0 : Int32) - 1 = -1 by decide), r1, Bd_some, r3, Bd_some, r2, Bd_some]
            exact nx _ _ r4

