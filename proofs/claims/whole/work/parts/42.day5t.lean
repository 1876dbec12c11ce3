theorem dusk_t {W H nk nc nl nw np : Nat} {dy : Int32} {sc0 sm0 sc sm : ST} (D : Dt W H nk dy sc0 sm0 sc sm) (T : TD W H nk nc nl nw np 8 sc0 sm0) (h5 : sm0.1 0 5 = 1) : ∃ sc' sm', C_X8_dusk_t sc = some sc' ∧ M_goesOut sm = some sm' ∧ Dt W H nk (dy + 1) sc0 sm0 sc' sm' := by
  have h8 := T.k8
  have key : ∃ sc1 sm1, M_goAway sm = some sm1 ∧ C_X8_dusk_t sc = some (ups sc1 72 2 (sc1.1 72 2 + 1)) ∧ Dt W H nk dy sc0 sm0 sc1 sm1 := by
    unfold C_X8_dusk_t M_goAway
    refine lk22 (Q := fun oc om => ∃ sc1 sm1, om = some sm1 ∧ oc = some (ups sc1 72 2 (sc1.1 72 2 + 1)) ∧ Dt W H nk dy sc0 sm0 sc1 sm1) (I := fun m a2 t1 b2 t2 => ∃ i, i + m = 64 ∧ a2 = nI i ∧ b2 = nI i ∧ Dt W H nk dy sc0 sm0 t1 t2) ?_ FU 64 _ _ _ _ (by unfold FU; omega) ⟨0, by omega, rfl, rfl, D⟩
    rintro m rf rg a2 s1 b2 s2 ⟨i, him, rfl, rfl, D⟩ ih
    have L := D.1
    cases m with
    | zero =>
      have hi : i = 64 := by omega
      subst hi
      rw [if_pos (by decide), if_pos (by decide)]
      exact ⟨s1, s2, rfl, rfl, D⟩
    | succ m =>
      have hi : i < 64 := by omega
      have nx : ∀ q1 q2, Dt W H nk dy sc0 sm0 q1 q2 → ∃ sc1 sm1, rg (nI i + 1) q2 = some sm1 ∧ rf (nI i + 1) q1 = some (ups sc1 72 2 (sc1.1 72 2 + 1)) ∧ Dt W H nk dy sc0 sm0 sc1 sm1 := fun q1 q2 h1 => ih m _ _ _ _ (Nat.lt_succ_self m) ⟨i + 1, by omega, nI_1 i, nI_1 i, h1⟩
      rw [if_neg (n_not64 hi), if_neg (n_not64 hi)]
      simp only [Lt_n]
      rw [c_hasStorm hi, m_isCell L.w' L.h' L.W7 L.H7 hi, m_stormOf hi]
      cases q : bq (s1.2 72 9) i with
      | false =>
        rw [ift0, L.st0 i hi q, Bd_some, if_pos (show (0 : Int32) - 1 = -1 by decide)]
        by_cases hc : cl W H i
        · have h10 : ¬ (1 : Int32) = 0 := by decide
          rw [if_pos hc, if_neg h10]
          exact nx _ _ D
        · have h00 : (0 : Int32) = 0 := rfl
          rw [if_neg hc, if_pos h00]
          exact nx _ _ D
      | true =>
        obtain ⟨hc, n, g, hn, _, _, q4, q197, q5, q261, q6⟩ := L.st i hi q
        have q4 : s1.1 76 i = nI n := q4
        have q6 : s1.1 78 i = s2.1 1 (325 + i) := q6
        have h10 : ¬ (1 : Int32) = 0 := by decide
        have hn8 := L.n8
        have hnm : ¬ nI n = (-1 : Int32) := n_nI_m1 (by omega)
        rw [ift1, if_pos hc, if_neg h10, Bd_some, q197, n_sub1, if_neg hnm, show (325 : Int32) = nI 325 from rfl, nI_add, Gl_n (by omega) (by decide), Gl_n (by omega) (by decide), q6, L.day, Bd_some]
        by_cases hd : s2.1 1 0 < s2.1 1 (325 + i)
        · rw [if_pos hd, if_neg (by rw [← i_nlt]; exact fun h => h hd)]
          exact nx _ _ D
        · rw [if_neg hd, if_pos (i_nlt.mp hd)]
          obtain ⟨u1, u2, e1, e2, e3, e4⟩ := end_t D h5 hi (nI n)
          have e4' : u1.1 76 i = nI n := by rw [e4]; exact q4
          have eE : (C_X1_endStorm s1 72 (nI i)).1 76 i = nI n := q4
          obtain ⟨w1, w2, f1, f2, f3⟩ := scatter_t e3 T h5 hi hc hn
          rw [Gl_n hi (by decide), eE, e1, Gl_n hi (by decide), e4', f1, Bd_some, e2, Bd_some, show (197 : Int32) = nI 197 from rfl, show (261 : Int32) = nI 261 from rfl, nI_add, nI_add, Gs_n (by omega) (by decide), Gs_n (by omega) (by decide), f2, Bd_some]
          exact nx _ _ f3
  obtain ⟨sc1, sm1, k1, k2, k3⟩ := key
  unfold M_goesOut
  rw [k1, Bd_some, k2]
  have hb : M_bringsBirds sm1 = some sm1 := by
    unfold M_bringsBirds
    rw [Dt_5 k3 h5, if_neg (by decide)]
  rw [hb, Bd_some]
  simp only [Lt_n]
  have D2 := (fld_t (x := sc1.1 72 2 + 1) (y := sm1.1 1 0 + 1) k3 (by rw [k3.1.day])).2.1
  have e := k3.2.2.2.2
  rw [e] at D2 ⊢
  exact ⟨_, _, rfl, rfl, D2⟩

