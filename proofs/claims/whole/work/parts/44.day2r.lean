theorem tell_r {W H nk : Nat} {dy : Int32} {sc0 sm0 sc sm : ST} (D : Dr W H nk dy sc0 sm0 sc sm) (h5 : sm0.1 0 5 = 0) (w c n : Int32) : ∃ sc' sm', C_X8_note_r sc w c n = some sc' ∧ M_notes sm w c n = some sm' ∧ Dr W H nk dy sc0 sm0 sc' sm' := by
  have L := D.1
  obtain ⟨sc', sm', n1, n2, n3, n4, n5, n6⟩ := noted_r D.2.2.2.1 L.day (Dr_5 D h5) w c n
  refine ⟨sc', sm', n1, n2, ?_, D.2.1.tr (n4.mono (by decide)), D.2.2.1.tr (n5.mono (by decide)), n3, by rw [n6 0 (by decide)]; exact D.2.2.2.2⟩
  have F : ∀ c, c ∉ [23, 24] → sc'.1 c = sc.1 c := fun c h => (n4 c h).1
  have F2 : sc'.2 1 = sc.2 1 := (n4 1 (by decide)).2
  refine LD_fchg L (by rw [F _ (by decide)]) (by rw [F _ (by decide)]) (by rw [F _ (by decide)]) F2 (F _ (by decide)) (F _ (by decide)) (F _ (by decide)) (F _ (by decide)) (F _ (by decide)) (n5 0 (by decide)).1 (n5 4 (by decide)).1 (fun i hi => n6 i (by omega)) ?_ ?_ ?_ ?_ (fun k hk hc => ?_)
  · rw [F _ (by decide), n6 0 (by decide)]; exact L.day
  · rw [F _ (by decide), n6 3 (by decide)]; exact L.wind
  · rw [F _ (by decide), n6 4 (by decide)]; exact L.harm
  · rw [F _ (by decide), n6 1 (by decide)]; exact L.draws
  · rw [F _ (by decide), n6 _ (by omega)]; exact L.wet k hk hc
theorem pull_r {W H nk k : Nat} {dy : Int32} {sc0 sm0 sc sm : ST} (D : Dr W H nk dy sc0 sm0 sc sm) (h5 : sm0.1 0 5 = 0) (hk : k < 64) (hs : bq (sc.2 1 8) k = true) : ∃ sc' sm', C_X8_pull_r sc (nI k) = some (1, sc') ∧ M_takesOut sm (nI k) = some sm' ∧ Dr W H nk dy sc0 sm0 sc' sm' := by
  have L := D.1
  obtain ⟨hc, n, hn, s2, m69, s3⟩ := L.sd k hk hs
  have s2 : sc.1 3 k = nI n := s2
  have e1 : C_X1_liftSeed sc 1 (nI k) = upl sc 1 8 (sc.2 1 8 &&& (bit1 k ^^^ (-1 : Int64))) := rfl
  obtain ⟨sc', sm', n1, n2, n3, n4, n5, n6⟩ := noted_r (sc := upl sc 1 8 (sc.2 1 8 &&& (bit1 k ^^^ (-1 : Int64)))) (sm := sm) (NBr_agr D.2.2.2.1 rfl rfl rfl rfl rfl rfl) L.day (Dr_5 D h5) 1 (nI k) (nI n)
  refine ⟨sc', ups sm' 1 (69 + k) 0, ?_, ?_, lift_r D hk (n4.mono (by decide)) ((n5.mono (by decide)).ups (by decide)) (fun i hi => ?_) (NBr_agr n3 rfl rfl (by rw [rd1, if_neg (by omega)]) rfl rfl rfl)⟩
  · unfold C_X8_pull_r
    rw [Lt_e, c_isCell L.w L.h L.W7 L.H7 hk, if_pos hc, if_neg (by decide), Lt_e, c_hasSeed hk, hs, if_pos rfl, if_neg (by decide), Lt_e, e1, Gl_n hk (by decide), upl_1, s2, n1, Bd_some]
  · unfold M_takesOut
    rw [m_seedOf hk, m69, n_sub1, Bd_some, n2, Bd_some, show (69 : Int32) = nI 69 from rfl, nI_add, Gs_n (by omega) (by decide)]
  · rw [rd1, n6 i hi]
theorem plant_r {W H nk nc nl nw np k n : Nat} {dy : Int32} {sc0 sm0 sc sm : ST} (D : Dr W H nk dy sc0 sm0 sc sm) (T : TD W H nk nc nl nw np 8 sc0 sm0) (h5 : sm0.1 0 5 = 0) (hk : k < 64) (hc : cl W H k) (hn : n < nk) :
    (bq (sc.2 1 8) k = false ∧ bq (sc.2 1 7) k = false ∧ M_canSow sm (nI k) = some 1 ∧ ∃ sc' sm', C_X8_plant_r sc (nI n) (nI k) = some (1, sc') ∧ M_falls sm (nI n) (nI k) 0 = some sm' ∧ Dr W H nk dy sc0 sm0 sc' sm') ∨ ((bq (sc.2 1 8) k = true ∨ bq (sc.2 1 7) k = true) ∧ C_X8_plant_r sc (nI n) (nI k) = some (0, sc) ∧ M_canSow sm (nI k) = some 0) := by
  have L := D.1
  have hT := Dr_T D T
  have h8 := T.k8
  have hk1 : C_X7_hasKind sc 8 (nI n) = 1 := by
    unfold C_X7_hasKind C_X4_hasRow
    simp only [Lt_n]
    rw [if_neg (nI_pos (by omega)), show sc.1 (8 + 1) 2 = nI nk from hT.k, if_neg (by rw [nI_leI (by omega) (by omega)]; omega)]
    decide
  have hM : M_canSow sm (nI k) = some (if bq (sc.2 1 8) k = false ∧ bq (sc.2 1 7) k = false then 1 else 0) := by
    unfold M_canSow
    rw [Lt_e, m_isCell L.w' L.h' L.W7 L.H7 hk, if_pos hc, if_neg (by decide), m_seedOf hk, Bd_some, Gl_n hk (by decide), L.hed k hk]
    cases a : bq (sc.2 1 8) k with
    | false =>
      rw [L.sd0 k hk a, if_pos (by decide)]
      cases b : bq (sc.2 1 7) k <;> simp
    | true =>
      obtain ⟨_, n', hn', _, m69, _⟩ := L.sd k hk a
      rw [m69, n_sub1, if_neg (n_nI_m1 (by omega))]
      simp
  have hP : C_X8_plant_r sc (nI n) (nI k) = if bq (sc.2 1 8) k = false ∧ bq (sc.2 1 7) k = false then (Bd (C_X1_laySeed sc 1 (nI n) (nI k)) fun s1 => Bd (C_X8_note_r s1 (0 : Int32) (nI k) (nI n)) fun s2 => some ((1 : Int32), s2)) else some (0, sc) := by
    unfold C_X8_plant_r
    have h10 : ¬ (1 : Int32) = 0 := by decide
    have h00 : (0 : Int32) = 0 := rfl
    rw [Lt_e, hk1, if_neg h10, Lt_e, c_isSowable L.w L.h L.W7 L.H7 hk]
    by_cases q : bq (sc.2 1 8) k = false ∧ bq (sc.2 1 7) k = false
    · have qq : cl W H k ∧ bq (sc.2 1 8) k = false ∧ bq (sc.2 1 7) k = false := ⟨hc, q⟩
      rw [if_pos qq, if_neg h10, if_pos q]
    · have qq : ¬ (cl W H k ∧ bq (sc.2 1 8) k = false ∧ bq (sc.2 1 7) k = false) := fun h => q h.2
      rw [if_neg qq, if_pos h00, if_neg q]
  by_cases q : bq (sc.2 1 8) k = false ∧ bq (sc.2 1 7) k = false
  · rw [if_pos q] at hM hP
    obtain ⟨sc1, sc', sm', x1, x2, x3, x4⟩ := lay_r D h5 hk hc hn 0
    refine Or.inl ⟨q.1, q.2, hM, sc', sm', ?_, x3, x4⟩
    rw [hP, x1, Bd_some, x2, Bd_some]
  · rw [if_neg q] at hM hP
    refine Or.inr ⟨?_, hP, hM⟩
    cases a : bq (sc.2 1 8) k with
    | true => exact Or.inl rfl
    | false =>
      cases b : bq (sc.2 1 7) k with
      | true => exact Or.inr rfl
      | false => exact absurd ⟨a, b⟩ q
theorem veer_r {W H nk w : Nat} {dy : Int32} {sc0 sm0 sc sm : ST} (D : Dr W H nk dy sc0 sm0 sc sm) (hw : w < 4) : Dr W H nk dy sc0 sm0 (C_X1_veer sc 1 (nI w)).2 (M_turnsTo sm (nI w)) ∧ (C_X1_veer sc 1 (nI w)).1 = (if nI w = sc.1 1 3 then 0 else 1) := by
  have L := D.1
  obtain ⟨d, hd, e1, e2⟩ := L.wind
  have hi : ∀ w, w < 4 → (if nI w < 0 then (0 : Int32) else if 3 < nI w then 0 else 1) = 1 := by decide +kernel
  have hT : C_X1_isTurnable sc 1 (nI w) = if nI w = sc.1 1 3 then 0 else 1 := by
    unfold C_X1_isTurnable C_X9_isWithin
    rw [Lt_e, hi w hw, if_neg (by decide)]
  have hM : M_turnsTo sm (nI w) = ups sm 1 3 (nI ((w + 3) % 4)) := by
    unfold M_turnsTo
    rw [Lt_e, n_turn w hw]
  have hV : (C_X1_veer sc 1 (nI w)) = if nI w = sc.1 1 3 then (0, sc) else (1, ups sc 1 3 (nI w)) := by
    unfold C_X1_veer
    rw [Lt_e, hT]
    by_cases q : nI w = sc.1 1 3
    · rw [if_pos q, if_pos rfl, if_pos q]
    · rw [if_neg q, if_neg (by decide), if_neg q, Lt_e]
  rw [hV, hM]
  have M1 : ∀ i, i ≠ 3 → (ups sm 1 3 (nI ((w + 3) % 4))).1 1 i = sm.1 1 i := fun i hi => by rw [rd1, if_neg hi]
  have M3 : (ups sm 1 3 (nI ((w + 3) % 4))).1 1 3 = nI ((w + 3) % 4) := by rw [rd1, if_pos rfl]
  by_cases q : nI w = sc.1 1 3
  · rw [if_pos q, if_pos q]
    refine ⟨⟨LD_fchg L rfl rfl rfl rfl rfl rfl rfl rfl rfl rfl rfl (fun i hi => M1 i (by omega)) ?_ ⟨w, hw, q.symm, M3⟩ ?_ ?_ (fun k hk hc => ?_), D.2.1, D.2.2.1.ups (by decide), NBr_agr D.2.2.2.1 rfl rfl (M1 2 (by decide)) rfl rfl rfl, by rw [M1 0 (by decide)]; exact D.2.2.2.2⟩, rfl⟩
    · rw [M1 0 (by decide)]; exact L.day
    · rw [M1 4 (by decide)]; exact L.harm
    · rw [M1 1 (by decide)]; exact L.draws
    · rw [M1 _ (by omega)]; exact L.wet k hk hc
  · rw [if_neg q, if_neg q]
    have C1 : ∀ i, i ≠ 3 → (ups sc 1 3 (nI w)).1 1 i = sc.1 1 i := fun i hi => by rw [rd1, if_neg hi]
    have C3 : (ups sc 1 3 (nI w)).1 1 3 = nI w := by rw [rd1, if_pos rfl]
    refine ⟨⟨LD_fchg L (C1 0 (by decide)) (C1 1 (by decide)) (C1 4 (by decide)) rfl rfl rfl rfl rfl rfl rfl rfl (fun i hi => M1 i (by omega)) ?_ ⟨w, hw, C3, M3⟩ ?_ ?_ (fun k hk hc => ?_), D.2.1.ups (by decide), D.2.2.1.ups (by decide), NBr_agr D.2.2.2.1 rfl rfl (M1 2 (by decide)) rfl rfl rfl, by rw [M1 0 (by decide)]; exact D.2.2.2.2⟩, rfl⟩
    · rw [C1 2 (by decide), M1 0 (by decide)]; exact L.day
    · rw [C1 5 (by decide), M1 4 (by decide)]; exact L.harm
    · rw [C1 6 (by decide), M1 1 (by decide)]; exact L.draws
    · rw [M1 _ (by omega)]; exact L.wet k hk hc
theorem comesUp_r {W H nk nc nl nw np k : Nat} {dy : Int32} {sc0 sm0 sc sm : ST} (D : Dr W H nk dy sc0 sm0 sc sm) (T : TD W H nk nc nl nw np 8 sc0 sm0) (h5 : sm0.1 0 5 = 0) (hk : k < 64) (hs : bq (sc.2 1 8) k = true) :
    ∃ r sc' sm', C_X8_comesUp_r sc (nI k) = some (r, sc') ∧ M_comesUp sm (nI k) = some (r, sm') ∧ Dr W H nk dy sc0 sm0 sc' sm' ∧ (r = 0 ∨ r = 1) := by
  have L := D.1
  have hn8 := L.n8
  obtain ⟨hc, n, hn, s2, m69, s3⟩ := L.sd k hk hs
  have s2 : sc.1 3 k = nI n := s2
  have s3 : sc.1 4 k = sm.1 1 (133 + k) := s3
  have eL : C_X1_liftSeed sc 1 (nI k) = upl sc 1 8 (sc.2 1 8 &&& (bit1 k ^^^ (-1 : Int64))) := rfl
  obtain ⟨v, sc2, sm2, g1, g2, a, b, g, hg, rfl⟩ := gust_sim (b := 1) (by decide) (LW_lift (x := sc.2 1 8 &&& (bit1 k ^^^ (-1 : Int64))) L.lw) (TD_agr (Dr_T D T) (fun _ _ => rfl) (fun _ _ => rfl) (fun _ _ => rfl)) hk hc (nI n) (sm.1 1 0 - sm.1 1 (133 + k))
  have D' : Dr W H nk dy sc0 sm0 sc2 (ups sm2 1 (69 + k) 0) := by
    refine lift_r D hk (a.mono (by decide)) ((b.mono (by decide)).ups (by decide)) (fun i hi => ?_) (NBr_agr D.2.2.2.1 (a 23 (by decide)).1 (a 24 (by decide)).1 ?_ (b 5 (by decide)).1 (b 2 (by decide)).1 (b 0 (by decide)).1)
    · rw [rd1, (b 1 (by decide)).1]
    · rw [rd1, if_neg (by omega), (b 1 (by decide)).1]
  have L' := D'.1
  have T' := Dr_T D' T
  obtain ⟨tc, tm, t1, t2, t3⟩ := tell_r D' h5 3 (nI k) (nI n)
  have hday : (upl sc 1 8 (sc.2 1 8 &&& (bit1 k ^^^ (-1 : Int64)))).1 1 2 - sc.1 4 k = sm.1 1 0 - sm.1 1 (133 + k) := by rw [upl_1, L.day, s3]
  have h10 : ¬ (1 : Int32) = 0 := by decide
  obtain ⟨CB, hc0⟩ : ∃ x, C_X8_comesUp_r sc (nI k) = x := ⟨_, rfl⟩
  obtain ⟨MB, hm0⟩ : ∃ x, M_comesUp sm (nI k) = x := ⟨_, rfl⟩
  rw [hc0, hm0]
  unfold C_X8_comesUp_r at hc0
  unfold M_comesUp at hm0
  rw [Lt_e, c_isCell L.w L.h L.W7 L.H7 hk, if_pos hc, if_neg h10, Gl_n hk (by decide), s2, Lt_e, eL, Gl_n hk (by decide), show (upl sc 1 8 (sc.2 1 8 &&& (bit1 k ^^^ (-1 : Int64)))).1 4 k = sc.1 4 k from rfl, hday, g1, Bd_some] at hc0
  simp only [Lt_n] at hc0
  rw [c_hasStorm hk] at hc0
  rw [m_seedOf hk, m69, n_sub1, Bd_some, Lt_e, show (133 : Int32) = nI 133 from rfl, nI_add, Gl_n (by omega) (by decide), g2, Bd_some, show (69 : Int32) = nI 69 from rfl, nI_add, Gs_n (by omega) (by decide), m_stormOf hk, Bd_some] at hm0
  simp only [Lt_n] at hm0
  have fin : ∀ (c : Nat) (h : Nat), c < nk → 1 ≤ h → h ≤ 9 → ∃ sc' sm', (Bd (C_X4_of sc2 9 (nI c) (1 : Int32)) fun y6 => Bd (C_X1_raiseStorm sc2 1 (nI c) (nI k) (nI h) (((sc2.1 1 2) + y6) - (1 : Int32))) fun s3 => Bd (C_X8_note_r s3 (2 : Int32) (nI k) (nI c)) fun s4 => some ((1 : Int32), s4)) = some (1, sc') ∧ M_storms (ups sm2 1 (69 + k) 0) (nI k) (nI c) (nI h) = some sm' ∧ Dr W H nk dy sc0 sm0 sc' sm' := by
    intro c h hcn h1 h9
    obtain ⟨v, _, _, k1, k2⟩ := kind_1 T' hcn
    obtain ⟨u1, u2, u3, r1, r2, r3, r4⟩ := raise_r D' h5 hk hc hcn h1 h9 k2 (fun s hs => by
      rw [show (1 : Int32) = nI 1 from rfl, m_ofKind (by omega) (by decide)] at k2 ⊢
      rw [hs]
      exact k2) 2
    exact ⟨u2, u3, by rw [k1, Bd_some, r1, Bd_some, r2, Bd_some], r3, r4⟩
  have hg0 : (nI g = 0) = (g = 0) := propext (n_eq0 (by omega))
  have hgm : (nI g = -1) = False := eq_false (n_nI_m1 (by omega))
  have hg1 : ((0 : Int32) ≤ nI g) = True := eq_true (by rw [show (0 : Int32) = nI 0 from rfl, nI_leI (by omega) (by omega)]; omega)
  cases q : bq (sc2.2 1 9) k with
  | false =>
    have z := L'.st0 k hk q
    simp only [q, Bool.false_eq_true, ↓reduceIte, hg0, hg1, hgm, Int32.le_refl] at hc0
    simp only [z, show (0 : Int32) - 1 = -1 from by decide, ↓reduceIte, hg0, hg1] at hm0
    by_cases g0 : g = 0
    · simp only [g0, ↓reduceIte] at hc0 hm0
      rw [t1, Bd_some] at hc0
      rw [t2, Bd_some] at hm0
      exact ⟨0, tc, tm, hc0.symm, hm0.symm, t3, Or.inl rfl⟩
    · simp only [g0, ↓reduceIte] at hc0 hm0
      obtain ⟨x1, x2, x3, x4, x5⟩ := fin n g hn (by omega) hg
      rw [x3] at hc0
      rw [x4, Bd_some] at hm0
      exact ⟨1, x1, x2, hc0.symm, hm0.symm, x5, Or.inr rfl⟩
  | true =>
    obtain ⟨_, n', h, hn', h1, h9, q4, q197, q5, q261, q6⟩ := L'.st k hk q
    have q4 : sc2.1 5 k = nI n' := q4
    have q5 : sc2.1 6 k = nI h := q5
    obtain ⟨r, c1, c2, c3⟩ := cross_sim T' (nI n) (nI n')
    have hh0 : (nI h ≤ 0) = False := eq_false (nI_nle (by omega) (by omega))
    have hn'm : (nI n' = -1) = False := eq_false (n_nI_m1 (by omega))
    have g261 : ∀ f : Int32 → Option (Int32 × ST), Gl (ups sm2 1 (69 + k) 0) 1 389 (261 + nI k) f = f (nI h) := fun f => by
      rw [show (261 : Int32) = nI 261 from rfl, nI_add, Gl_n (by omega) (by decide), q261]
    simp only [q, ↓reduceIte, h10] at hc0
    rw [Gl_n hk (by decide), q5] at hc0
    simp only [hh0, ↓reduceIte] at hc0
    rw [Gl_n hk (by decide), q4, c1, Bd_some] at hc0
    rw [q197, n_sub1] at hm0
    simp only [hn'm, ↓reduceIte] at hm0
    rw [c2, Bd_some] at hm0
    simp only [g261, hg0, hn'm, ↓reduceIte] at hc0 hm0
    by_cases g0 : g = 0
    · simp only [g0, ↓reduceIte] at hc0 hm0
      rw [t1, Bd_some] at hc0
      rw [t2, Bd_some] at hm0
      exact ⟨0, tc, tm, hc0.symm, hm0.symm, t3, Or.inl rfl⟩
    · simp only [g0, ↓reduceIte] at hc0 hm0
      rcases c3 with rfl | ⟨c, hcn, rfl⟩
      · simp only [↓reduceIte] at hc0 hm0
        rw [ite_iff (nI_leI (by omega) (by omega))] at hc0 hm0
        by_cases hhg : h ≤ g
        · simp only [hhg, ↓reduceIte] at hc0 hm0
          obtain ⟨x1, x2, x3, x4, x5⟩ := fin n g hn (by omega) hg
          rw [x3] at hc0
          rw [x4, Bd_some] at hm0
          exact ⟨1, x1, x2, hc0.symm, hm0.symm, x5, Or.inr rfl⟩
        · simp only [hhg, ↓reduceIte] at hc0 hm0
          rw [t1, Bd_some] at hc0
          rw [t2, Bd_some] at hm0
          exact ⟨0, tc, tm, hc0.symm, hm0.symm, t3, Or.inl rfl⟩
      · obtain ⟨u, u1, u9, z1, z2⟩ := n_cross g h hg h9
        have hcm : (nI c = -1) = False := eq_false (n_nI_m1 (by omega))
        simp only [hcm, ↓reduceIte, z1, z2] at hc0 hm0
        obtain ⟨x1, x2, x3, x4, x5⟩ := fin c u hcn u1 u9
        rw [x3] at hc0
        rw [x4, Bd_some] at hm0
        exact ⟨1, x1, x2, hc0.symm, hm0.symm, x5, Or.inr rfl⟩

