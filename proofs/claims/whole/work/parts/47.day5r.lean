theorem iush8 (x : Int32) : ∃ a, a < 2 ^ 24 ∧ iush x 8 = nI a := by
  have h := pk_ushr x 8 8 (by decide)
  refine ⟨x.toBitVec.toNat / 2 ^ 8, ?_, ?_⟩
  · have := x.toBitVec.isLt
    omega
  · apply Int32.toBitVec_inj.mp
    apply BitVec.eq_of_toNat_eq
    show (iush x 8).toBitVec.toNat = (BitVec.ofNat 32 _).toNat
    rw [BitVec.toNat_ofNat]
    have e : (iush x 8).toBitVec.toNat = x.toBitVec.toNat / 2 ^ 8 := h
    have := x.toBitVec.isLt
    rw [e]
    omega
theorem draw_r {W H nk m : Nat} {dy : Int32} {sc0 sm0 sc sm : ST} (D : Dr W H nk dy sc0 sm0 sc sm) (h0 : 0 < m) (hm : m < 2 ^ 31) : ∃ r sc' sm', r < m ∧ C_X1_draw sc 1 (nI m) = some (nI r, sc') ∧ M_draw sm (nI m) = some (nI r, sm') ∧ Dr W H nk dy sc0 sm0 sc' sm' := by
  obtain ⟨a, ha, e⟩ := iush8 (1664525 * sm.1 1 1 + 1013904223)
  have D' := (fld_r (x := sc.1 1 6 * 1664525 + 1013904223) (y := 1664525 * sm.1 1 1 + 1013904223) D (by rw [D.1.draws, Int32.mul_comm])).2.2
  refine ⟨a % m, _, _, Nat.mod_lt _ h0, ?_, ?_, D'⟩
  · unfold C_X1_draw
    rw [Lt_e, if_neg (nI_nle h0 hm), Gz_n (nI_ne0 h0 hm)]
    have : (ups sc 1 6 (sc.1 1 6 * 1664525 + 1013904223)).1 1 6 = 1664525 * sm.1 1 1 + 1013904223 := by
      simp [ups_at, D.1.draws, Int32.mul_comm]
    rw [this, e, irm_nI (by omega) hm]
  · unfold M_draw
    rw [Lt_e, Lt_e, Lt_e, Gz_n (nI_ne0 h0 hm)]
    have : (ups sm 1 1 (1664525 * sm.1 1 1 + 1013904223)).1 1 1 = 1664525 * sm.1 1 1 + 1013904223 := by
      simp [ups_at]
    rw [this, e, irm_nI (by omega) hm]
theorem birds_r {W H nk nc nl nw np : Nat} {dy : Int32} {sc0 sm0 sc sm : ST} (D : Dr W H nk dy sc0 sm0 sc sm) (T : TD W H nk nc nl nw np 8 sc0 sm0) (h5 : sm0.1 0 5 = 0) (K : ST → Option ST) : ∃ sc' sm', (if (sc.1 1 4) ≤ 0 then (K sc) else (if (sc.1 9 2) ≤ 0 then (K sc) else (Bd (C_X8_letBirdsDrop_r sc) fun s4 => K s4))) = K sc' ∧ M_bringsBirds sm = some sm' ∧ Dr W H nk dy sc0 sm0 sc' sm' := by
  have L := D.1
  have T' := Dr_T D T
  have h8 := T.k8
  have W2 := L.W2
  have W7 := L.W7
  have H2 := L.H2
  have H7 := L.H7
  obtain ⟨n, hn, b1, b2⟩ := L.birds
  unfold M_bringsBirds
  rw [b1, b2, T'.k, T'.k', Dr_5 D h5, if_pos rfl, ite_iff (show nI n ≤ (0 : Int32) ↔ n ≤ 0 from nI_leI (b := 0) (by omega) (by decide)), ite_iff (show nI nk ≤ (0 : Int32) ↔ nk ≤ 0 from nI_leI (b := 0) (by omega) (by decide)), ite_iff (show nI n = (0 : Int32) ↔ n = 0 from nI_eq (b := 0) (by omega) (by decide)), ite_iff (show nI nk = (0 : Int32) ↔ nk = 0 from nI_eq (b := 0) (by omega) (by decide))]
  by_cases hn0 : n = 0
  · rw [if_pos (show n ≤ 0 by omega), if_pos hn0]
    exact ⟨sc, sm, rfl, rfl, D⟩
  · rw [if_neg (show ¬ n ≤ 0 by omega), if_neg hn0]
    by_cases hk0 : nk = 0
    · rw [if_pos (show nk ≤ 0 by omega), if_pos hk0]
      exact ⟨sc, sm, rfl, rfl, D⟩
    · rw [if_neg (show ¬ nk ≤ 0 by omega), if_neg hk0]
      unfold C_X8_letBirdsDrop_r
      have hw2 : ¬ nI W < (2 : Int32) := by rw [show (2 : Int32) = nI 2 from rfl, nI_ltI (by omega) (by omega)]; omega
      rw [L.w, if_neg hw2]
      obtain ⟨r1, c1, m1, hr1, x1, y1, D1⟩ := draw_r (m := 1000) D (by decide) (by decide)
      obtain ⟨n', hn', b1', b2'⟩ := D1.1.birds
      rw [show (1000 : Int32) = nI 1000 from rfl, x1, y1, Bd_some, Bd_some, b1', b2']
      by_cases hb : nI r1 < nI n'
      · rw [if_pos hb, if_pos hb]
        have hWH : W * H ≤ 49 := Nat.mul_le_mul W7 H7
        have hWH0 : 0 < W * H := Nat.mul_pos (by omega) (by omega)
        obtain ⟨r2, c2, m2, hr2, x2, y2, D2⟩ := draw_r (m := W * H) D1 hWH0 (by omega)
        obtain ⟨r3, c3, m3, hr3, x3, y3, D3⟩ := draw_r (m := nk) D2 (by omega) (by omega)
        have L1 := D1.1
        have L2 := D2.1
        have L3 := D3.1
        have T2 := Dr_T D2 T
        unfold M_wide M_high
        simp only [Lt_n]
        rw [L1.w, L1.h, L1.w', L1.h', nI_mul, x2, y2, Bd_some, Bd_some, T2.k, T2.k', L2.w', x3, Bd_some, L3.w, Gz_n (nI_ne0 (by omega) (by omega)), Gz_n (nI_ne0 (by omega) (by omega)), Gz_n (nI_ne0 (by omega) (by omega)), Gz_n (nI_ne0 (by omega) (by omega)), nI_div (by omega) (by omega), irm_nI (by omega) (by omega), show (8 : Int32) = nI 8 from rfl, nI_mul, nI_add, y3, Bd_some]
        have hdiv : r2 / W < H := Nat.div_lt_of_lt_mul hr2
        have hmod : r2 % W < W := Nat.mod_lt _ (by omega)
        generalize r2 / W = yy at hdiv ⊢
        generalize r2 % W = xx at hmod ⊢
        have hk : 8 * yy + xx < 64 := by omega
        have hc : cl W H (8 * yy + xx) := by unfold cl; omega
        generalize 8 * yy + xx = k at hk hc ⊢
        rw [c_isSowable L3.w L3.h L3.W7 L3.H7 hk, m_seedOf hk, Bd_some, m_stormOf hk, Bd_some, Gl_n hk (by decide), L3.hed k hk]
        have h10 : ¬ (1 : Int32) = 0 := by decide
        have h00 : (0 : Int32) = 0 := rfl
        have hm1 : (0 : Int32) - 1 = -1 := by decide
        cases q8 : bq (c3.2 1 8) k with
        | true =>
          obtain ⟨_, n'', hn'', _, m69, _⟩ := L3.sd k hk q8
          have hnm : ¬ nI n'' = (-1 : Int32) := n_nI_m1 (by omega)
          have hq : ¬ (cl W H k ∧ true = false ∧ bq (c3.2 1 7) k = false) := fun h => Bool.noConfusion h.2.1
          rw [if_neg hq, if_pos h00, m69, n_sub1, if_neg hnm, Bd_some]
          exact ⟨_, _, rfl, rfl, D3⟩
        | false =>
          rw [L3.sd0 k hk q8, if_pos hm1]
          cases q7 : bq (c3.2 1 7) k with
          | true =>
            have hq : ¬ (cl W H k ∧ false = false ∧ true = false) := fun h => Bool.noConfusion h.2.2
            rw [if_neg hq, if_pos h00, ift1, Bd_some]
            refine ⟨_, m3, rfl, ?_, D3⟩
            split <;> rfl
          | false =>
            have hq : cl W H k ∧ false = false ∧ false = false := ⟨hc, rfl, rfl⟩
            rw [if_pos hq, if_neg h10, ift0, c_hasStorm hk]
            cases q9 : bq (c3.2 1 9) k with
            | true =>
              obtain ⟨_, n'', g, hn'', _, _, _, m197, _⟩ := L3.st k hk q9
              have hnm : ¬ nI n'' = (-1 : Int32) := n_nI_m1 (by omega)
              rw [ift1, m197, n_sub1, if_neg hnm, Bd_some]
              exact ⟨_, _, rfl, rfl, D3⟩
            | false =>
              obtain ⟨u1, u2, u3, z1, z2, z3, z4⟩ := lay_r D3 h5 hk hc hr3 6
              rw [ift0, L3.st0 k hk q9, if_pos hm1, z1, Bd_some, z2, Bd_some, Bd_some, z3, Bd_some]
              exact ⟨_, _, rfl, rfl, z4⟩
      · rw [if_neg hb, if_neg hb, Bd_some]
        exact ⟨_, _, rfl, rfl, D1⟩
theorem dusk_r {W H nk nc nl nw np : Nat} {dy : Int32} {sc0 sm0 sc sm : ST} (D : Dr W H nk dy sc0 sm0 sc sm) (T : TD W H nk nc nl nw np 8 sc0 sm0) (h5 : sm0.1 0 5 = 0) : ∃ sc' sm', C_X8_dusk_r sc = some sc' ∧ M_goesOut sm = some sm' ∧ Dr W H nk (dy + 1) sc0 sm0 sc' sm' := by
  have h8 := T.k8
  have key : ∃ sc1 sm1, M_goAway sm = some sm1 ∧ C_X8_dusk_r sc = (if (sc1.1 1 4) ≤ 0 then (some (ups sc1 1 2 (sc1.1 1 2 + 1))) else (if (sc1.1 9 2) ≤ 0 then (some (ups sc1 1 2 (sc1.1 1 2 + 1))) else (Bd (C_X8_letBirdsDrop_r sc1) fun s4 => some (ups s4 1 2 (s4.1 1 2 + 1))))) ∧ Dr W H nk dy sc0 sm0 sc1 sm1 := by
    unfold C_X8_dusk_r M_goAway
    refine lk22 (Q := fun oc om => ∃ sc1 sm1, om = some sm1 ∧ oc = (if (sc1.1 1 4) ≤ 0 then (some (ups sc1 1 2 (sc1.1 1 2 + 1))) else (if (sc1.1 9 2) ≤ 0 then (some (ups sc1 1 2 (sc1.1 1 2 + 1))) else (Bd (C_X8_letBirdsDrop_r sc1) fun s4 => some (ups s4 1 2 (s4.1 1 2 + 1))))) ∧ Dr W H nk dy sc0 sm0 sc1 sm1) (I := fun m a2 t1 b2 t2 => ∃ i, i + m = 64 ∧ a2 = nI i ∧ b2 = nI i ∧ Dr W H nk dy sc0 sm0 t1 t2) ?_ FU 64 _ _ _ _ (by unfold FU; omega) ⟨0, by omega, rfl, rfl, D⟩
    rintro m rf rg a2 s1 b2 s2 ⟨i, him, rfl, rfl, D⟩ ih
    have L := D.1
    cases m with
    | zero =>
      have hi : i = 64 := by omega
      subst hi
      rw [if_pos (by decide), if_pos (by decide)]
      exact ⟨s1, s2, rfl, rfl, D⟩
    | succ m =>
      have hi : i < 64 := by omega
      have nx : ∀ q1 q2, Dr W H nk dy sc0 sm0 q1 q2 → ∃ sc1 sm1, rg (nI i + 1) q2 = some sm1 ∧ rf (nI i + 1) q1 = (if (sc1.1 1 4) ≤ 0 then (some (ups sc1 1 2 (sc1.1 1 2 + 1))) else (if (sc1.1 9 2) ≤ 0 then (some (ups sc1 1 2 (sc1.1 1 2 + 1))) else (Bd (C_X8_letBirdsDrop_r sc1) fun s4 => some (ups s4 1 2 (s4.1 1 2 + 1))))) ∧ Dr W H nk dy sc0 sm0 sc1 sm1 := fun q1 q2 h1 => ih m _ _ _ _ (Nat.lt_succ_self m) ⟨i + 1, by omega, nI_1 i, nI_1 i, h1⟩
      rw [if_neg (n_not64 hi), if_neg (n_not64 hi)]
      simp only [Lt_n]
      rw [c_hasStorm hi, m_isCell L.w' L.h' L.W7 L.H7 hi, m_stormOf hi]
      cases q : bq (s1.2 1 9) i with
      | false =>
        rw [ift0, L.st0 i hi q, Bd_some, if_pos (show (0 : Int32) - 1 = -1 by decide)]
        by_cases hc : cl W H i
        · have h10 : ¬ (1 : Int32) = 0 := by decide
          rw [if_pos hc, if_neg h10]
          exact nx _ _ D
        · have h00 : (0 : Int32) = 0 := rfl
          rw [if_neg hc, if_pos h00]
          exact nx _ _ D
      | true =>
        obtain ⟨hc, n, g, hn, _, _, q4, q197, q5, q261, q6⟩ := L.st i hi q
        have q4 : s1.1 5 i = nI n := q4
        have q6 : s1.1 7 i = s2.1 1 (325 + i) := q6
        have h10 : ¬ (1 : Int32) = 0 := by decide
        have hn8 := L.n8
        have hnm : ¬ nI n = (-1 : Int32) := n_nI_m1 (by omega)
        rw [ift1, if_pos hc, if_neg h10, Bd_some, q197, n_sub1, if_neg hnm, show (325 : Int32) = nI 325 from rfl, nI_add, Gl_n (by omega) (by decide), Gl_n (by omega) (by decide), q6, L.day, Bd_some]
        by_cases hd : s2.1 1 0 < s2.1 1 (325 + i)
        · rw [if_pos hd, if_neg (by rw [← i_nlt]; exact fun h => h hd)]
          exact nx _ _ D
        · rw [if_neg hd, if_pos (i_nlt.mp hd)]
          obtain ⟨u1, u2, e1, e2, e3, e4⟩ := end_r D h5 hi (nI n)
          have e4' : u1.1 5 i = nI n := by rw [e4]; exact q4
          have eE : (C_X1_endStorm s1 1 (nI i)).1 5 i = nI n := q4
          obtain ⟨w1, w2, f1, f2, f3⟩ := scatter_r e3 T h5 hi hc hn
          rw [Gl_n hi (by decide), eE, e1, Bd_some, Gl_n hi (by decide), e4', f1, Bd_some, e2, Bd_some, show (197 : Int32) = nI 197 from rfl, show (261 : Int32) = nI 261 from rfl, nI_add, nI_add, Gs_n (by omega) (by decide), Gs_n (by omega) (by decide), f2, Bd_some]
          exact nx _ _ f3
  obtain ⟨sc1, sm1, k1, k2, k3⟩ := key
  unfold M_goesOut
  rw [k1, Bd_some, k2]
  obtain ⟨sc2, sm2, b1, b2, k4⟩ := birds_r k3 T h5 (fun s => some (ups s 1 2 (s.1 1 2 + 1)))
  rw [b1, b2, Bd_some]
  simp only [Lt_n]
  have D2 := (fld_r (x := sc2.1 1 2 + 1) (y := sm2.1 1 0 + 1) k4 (by rw [k4.1.day])).2.1
  have e := k4.2.2.2.2
  rw [e] at D2 ⊢
  exact ⟨_, _, rfl, rfl, D2⟩

