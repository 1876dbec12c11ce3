/-! # stage 2: a law, wants, a plan are taken -/
theorem text_law {W H nk nc nl nw np w k : Nat} {sc sm s m : ST} (R : R8 W H nk nc nl nw np sc sm) (c : tc sc s) (d : tm sm m) (h8 : s.1 49 8 = m.1 0 32) (h9 : s.1 49 9 = m.1 0 33) (D : DL w k s m) (hk : k ≤ 400) (h25 : m.1 0 25 = 1) : ∃ s2 m2, C_X2_copy s 13 60 = some s2 ∧ s2.1 61 2 = nI w ∧ M_takesLaw (ups m 0 12 0) (nI w) = some m2 ∧ Rel (ups s2 49 1 0) m2 := by
  obtain ⟨c1, c2⟩ := c
  obtain ⟨d1, d2, d3, d4, d5, d6, d7, d8⟩ := d
  obtain ⟨D1, D2, D3, ⟨D4, D5, D6⟩, D7, D8⟩ := D
  obtain ⟨s1, x1, x2, x3, x4, x5⟩ := c_tcopy (s := s) (b := 14) (x := 61) (n := w) (M := 16) D3 (by rw [(c1 14 (by decide)).1]; exact R.K.k14) D1 (by decide) (show 4 * w ≤ 64 by omega) (show 4 * w ≤ 64 by omega)
  obtain ⟨m2, z1, z2, z3, z4, z5⟩ := m_takesLaw (s := ups m 0 12 0) (w := w) (k := k) (by rw [rd1, if_neg (by decide)]; exact h25) (by rw [rd1, if_neg (by decide)]; exact D5) D1 hk
  obtain ⟨s3, hs3⟩ : ∃ x, x = ups (upr s1 16 (va_cpy (s1.1 63) (s1.1 16) 0 0 400)) 13 2 ((upr s1 16 (va_cpy (s1.1 63) (s1.1 16) 0 0 400)).1 60 2) := ⟨_, rfl⟩
  have cp : C_X2_copy s 13 60 = some s3 := by
    unfold C_X2_copy
    rw [show C_X4_copy s (13 + 1) (60 + 1) = some s1 from x1, Bd_some, show 60 + 3 = 63 from rfl, show 13 + 3 = 16 from rfl, Gcp400, Lt_e, ← hs3]
  have f3 : agr [13, 14, 15, 16] s s3 := by rw [hs3]; exact ((x2.mono (by decide)).upr (by decide)).ups (by decide)
  refine ⟨s3, m2, cp, by rw [(f3 61 (by decide)).1]; exact D3, z1, ?_⟩
  obtain ⟨S, hS⟩ : ∃ S, S = ups s3 49 1 0 := ⟨_, rfl⟩
  rw [← hS]
  have fS : agr [13, 14, 15, 16, 49, 51, 52, 53, 56, 57, 58, 59, 60, 61, 62, 63, 66, 67, 68, 69] sc S := by rw [hS]; exact ((c1.mono (by decide)).tr (f3.mono (by decide))).ups (by decide)
  have ec : ∀ x, x ∉ [13, 14, 15, 16, 49, 51, 52, 53, 56, 57, 58, 59, 60, 61, 62, 63, 66, 67, 68, 69] → S.1 x = sc.1 x ∧ S.2 x = sc.2 x := fun x hx => fS x hx
  have e0 : ∀ j, j ∉ [0, 12, 13, 14, 15, 16, 25, 26, 27, 29, 30, 31, 32, 33, 38, 39] → m2.1 0 j = sm.1 0 j := fun j hj => by
    rw [(z2 0 (by decide)).1, rd1, if_neg (by rintro rfl; exact hj (by decide))]; exact d2 j hj
  have en : ∀ x, x ∉ [0, 8, 9, 10, 11, 12, 13, 14] → m2.1 x = m.1 x := fun x hx => by
    rw [(z2 x (by simp only [List.mem_cons, List.not_mem_nil, or_false, not_or] at hx ⊢; omega)).1, ups_ne (by rintro rfl; exact hx (by decide))]
  have em : ∀ x, x ∉ [0, 8, 9, 10, 11, 12, 13, 14, 15, 16, 17, 18, 19] → m2.1 x = sm.1 x := fun x hx => by
    rw [en x (by simp only [List.mem_cons, List.not_mem_nil, or_false, not_or] at hx ⊢; omega)]
    exact (d1 x (by simp only [List.mem_cons, List.not_mem_nil, or_false, not_or] at hx ⊢; omega)).1
  have n0 : ∀ x j, x ≠ 0 → (ups m 0 12 0).1 x j = m.1 x j := fun x j hx => by rw [ups_ne hx]
  have y4 : ∀ c, c ∈ [9, 10, 11, 12] → ∀ j, j < w → m2.1 c (16 + j) = m.1 c (32 + j) := fun c hc j hj => (z4 c hc j hj).trans (n0 c _ (by simp only [List.mem_cons, List.not_mem_nil, or_false] at hc; omega))
  have y5 : ∀ c, c ∈ [13, 14] → ∀ j, j < k → m2.1 c (400 + j) = m.1 c (800 + j) := fun c hc j hj => (z5 c hc j hj).trans (n0 c _ (by simp only [List.mem_cons, List.not_mem_nil, or_false] at hc; omega))
  have r14 : S.1 14 2 = nI w := by rw [hS, ups_ne (by decide), hs3, ups_ne (by decide), upr_ne (by decide)]; exact x3
  have r15 : ∀ i, i < 4 * w → S.1 15 i = s.1 62 i := fun i hi => by rw [hS, ups_ne (by decide), hs3, ups_ne (by decide), upr_ne (by decide)]; exact x5 i hi
  have r16 : ∀ i, i < 400 → S.1 16 i = s.1 63 i := fun i hi => by rw [hS, ups_ne (by decide), hs3, ups_ne (by decide), upr_eq, cpy_lt hi, (x2 63 (by decide)).1]
  obtain ⟨Tk, _, Tw, Tp⟩ := R.T.sec
  have TN : TD W H nk nc w nw np 8 S m2 := by
    refine TD_of (Tk.mv (fun x hx => (ec x (by simp only [List.mem_cons, List.not_mem_nil, or_false] at hx ⊢; omega)).1) (e0 34 (by decide)) (e0 36 (by decide)) (fun i hi => by rw [en 16 (by decide)]; exact d5 i hi) (fun i hi => by rw [en 17 (by decide)]; exact d6 i hi)) ⟨r14, z3, D1, fun r hr => ?_⟩ (Tw.mv (fun x hx => (ec x (by simp only [List.mem_cons, List.not_mem_nil, or_false] at hx ⊢; omega)).1) (e0 40 (by decide)) (fun i hi => by rw [en 18 (by decide)]; exact d7 i hi)) (Tp.mv (fun x hx => (ec x (by simp only [List.mem_cons, List.not_mem_nil, or_false] at hx ⊢; omega)).1) (e0 42 (by decide)) (fun i hi => by rw [en 19 (by decide)]; exact d8 i hi))
    obtain ⟨v, p, q, t, t1, g1, g2, g3, g4, g5, g6, g7, g8, g9, g10, g11, g12, g13, g14⟩ := D8 r hr
    refine ⟨v, p, q, t, t1, g1, g2, g3, by omega, by rw [r15 _ (by omega)]; exact g5, by rw [r15 _ (by omega)]; exact g6, by rw [r15 _ (by omega)]; exact g7, by rw [r15 _ (by omega)]; exact g8, by rw [y4 9 (by decide) r hr]; exact g9, by rw [y4 10 (by decide) r hr]; exact g10, by rw [y4 11 (by decide) r hr]; exact g11, by rw [y4 12 (by decide) r hr]; exact g12, fun j j1 j2 => ?_, ?_, fun hq => ?_⟩
    · rw [r16 j (by omega), y5 13 (by decide) j (by omega), y5 14 (by decide) j (by omega)]
      exact D6 j (by omega)
    · exact (tyR_cong (fun j j1 j2 => ⟨y5 13 (by decide) j (by omega), y5 14 (by decide) j (by omega)⟩)).trans g13
    · exact (tyR_cong (fun j j1 j2 => ⟨y5 13 (by decide) j (by omega), y5 14 (by decide) j (by omega)⟩)).trans (g14 hq)
  refine ⟨W, H, nk, nc, w, nw, np, R8_text R (LD_agr R.L (fun x hx => (ec x (by simp only [List.mem_cons, List.not_mem_nil, or_false] at hx ⊢; omega)).1) (ec 1 (by decide)).2 (fun i hi => e0 i (by simp only [List.mem_cons, List.not_mem_nil, or_false] at hi ⊢; omega)) (em 1 (by decide)) (em 4 (by decide))) TN (fun x hx => ec x (by simp only [List.mem_cons, List.not_mem_nil, or_false]; omega)) (fun x hx => ?_) (TP_0 (by rw [hS, rd1, if_pos rfl]) (by rw [(z2 0 (by decide)).1, rd1, if_pos rfl]) ?_ ?_) (HS_agr R.S (ec 80 (by decide)).1 (ec 82 (by decide)).1 (fun x h1 h2 => ec x (by simp only [List.mem_cons, List.not_mem_nil, or_false]; omega)) (e0 3 (by decide)) (fun i hi => e0 i (by simp only [List.mem_cons, List.not_mem_nil, or_false] at hi ⊢; omega)) (em 2 (by decide)) (em 4 (by decide))) (HL_agr R.hl (by rw [em 1 (by decide)]) (em 2 (by decide)) (e0 3 (by decide))) (by rw [em 1 (by decide)]; exact ⟨rfl, rfl⟩) (fun x hx => em x (by simp only [List.mem_cons, List.not_mem_nil, or_false] at hx ⊢; omega)) ⟨e0 5 (by decide), e0 51 (by decide)⟩⟩
  · by_cases q14 : x = 14
    · rw [q14, hS, ups_ne (by decide), hs3, ups_ne (by decide), upr_ne (by decide), x4 0 (by decide), (c1 14 (by decide)).1]
    have hx' := hx
    simp only [List.mem_cons, List.not_mem_nil, or_false] at hx'
    rw [hS, ups_ne (by omega), (f3 x (by simp only [List.mem_cons, List.not_mem_nil, or_false]; omega)).1]
    by_cases q : x ∈ [56, 58, 61, 66, 68]
    · exact c2 x q
    · rw [(c1 x (by simp only [List.mem_cons, List.not_mem_nil, or_false] at q ⊢; omega)).1]
  · rw [hS, rd1, if_neg (by decide), (f3 49 (by decide)).1, (z2 0 (by decide)).1, rd1, if_neg (by decide)]; exact h8
  · rw [hS, rd1, if_neg (by decide), (f3 49 (by decide)).1, (z2 0 (by decide)).1, rd1, if_neg (by decide)]; exact h9
theorem text_wants {W H nk nc nl nw np w : Nat} {sc sm s m : ST} (R : R8 W H nk nc nl nw np sc sm) (c : tc sc s) (d : tm sm m) (h8 : s.1 49 8 = m.1 0 32) (h9 : s.1 49 9 = m.1 0 33) (D : DWt W H nk w s m) : ∃ s2 m2, C_X4_copy s 19 66 = some s2 ∧ s2.1 19 2 = nI w ∧ M_takesOther (ups m 0 12 0) 2 (nI w) = some m2 ∧ Rel (ups s2 49 1 0) m2 := by
  obtain ⟨c1, c2⟩ := c
  obtain ⟨d1, d2, d3, d4, d5, d6, d7, d8⟩ := d
  obtain ⟨D1, D2, D3, _, _, _, _, D8⟩ := D
  obtain ⟨s3, x1, x2, x3, x4, x5⟩ := c_tcopy (s := s) (b := 19) (x := 66) (n := w) (M := 10) D3 (by rw [(c1 19 (by decide)).1]; exact R.K.k19) D1 (by decide) (show 4 * w ≤ 40 by omega) (show 4 * w ≤ 40 by omega)
  obtain ⟨m2, z1, z2, z3, z4, z5⟩ := m_takesWants (s := ups m 0 12 0) (w := w) D1
  refine ⟨s3, m2, x1, x3, z1, ?_⟩
  obtain ⟨S, hS⟩ : ∃ S, S = ups s3 49 1 0 := ⟨_, rfl⟩
  rw [← hS]
  have fS : agr [19, 20, 49, 51, 52, 53, 56, 57, 58, 59, 60, 61, 62, 63, 66, 67, 68, 69] sc S := by rw [hS]; exact ((c1.mono (by decide)).tr (x2.mono (by decide))).ups (by decide)
  have ec : ∀ x, x ∉ [19, 20, 49, 51, 52, 53, 56, 57, 58, 59, 60, 61, 62, 63, 66, 67, 68, 69] → S.1 x = sc.1 x ∧ S.2 x = sc.2 x := fun x hx => fS x hx
  have e0 : ∀ j, j ∉ [0, 12, 13, 14, 15, 16, 25, 26, 27, 29, 30, 31, 32, 33, 38, 39, 40] → m2.1 0 j = sm.1 0 j := fun j hj => by
    rw [z3 j (by rintro rfl; exact hj (by decide)), rd1, if_neg (by rintro rfl; exact hj (by decide))]; exact d2 j (by simp only [List.mem_cons, List.not_mem_nil, or_false, not_or] at hj ⊢; omega)
  have en : ∀ x, x ∉ [0, 18] → m2.1 x = m.1 x := fun x hx => by
    rw [(z2 x hx).1, ups_ne (by rintro rfl; exact hx (by decide))]
  have em : ∀ x, x ∉ [0, 9, 10, 11, 12, 13, 14, 15, 16, 17, 18, 19] → m2.1 x = sm.1 x := fun x hx => by
    rw [en x (by simp only [List.mem_cons, List.not_mem_nil, or_false, not_or] at hx ⊢; omega)]
    exact (d1 x hx).1
  have y5 : ∀ j, j < 4 * w → m2.1 18 j = m.1 18 (40 + j) := fun j hj => by rw [z5 j hj, ups_ne (by decide)]
  have r19 : S.1 19 2 = nI w := by rw [hS, ups_ne (by decide)]; exact x3
  have r20 : ∀ i, i < 4 * w → S.1 20 i = s.1 67 i := fun i hi => by rw [hS, ups_ne (by decide)]; exact x5 i hi
  obtain ⟨Tk, Tl, _, Tp⟩ := R.T.sec
  have TN : TD W H nk nc nl w np 8 S m2 := by
    refine TD_of (Tk.mv (fun x hx => (ec x (by simp only [List.mem_cons, List.not_mem_nil, or_false] at hx ⊢; omega)).1) (e0 34 (by decide)) (e0 36 (by decide)) (fun i hi => by rw [en 16 (by decide)]; exact d5 i hi) (fun i hi => by rw [en 17 (by decide)]; exact d6 i hi)) (Tl.mv (fun x hx => (ec x (by simp only [List.mem_cons, List.not_mem_nil, or_false] at hx ⊢; omega)).1) (by rw [em 8 (by decide)]) (fun x hx i hi => by rw [en x (by simp only [List.mem_cons, List.not_mem_nil, or_false] at hx ⊢; omega)]; exact d3 x hx i hi) (fun x hx i hi => by rw [en x (by simp only [List.mem_cons, List.not_mem_nil, or_false] at hx ⊢; omega)]; exact d4 x hx i hi)) ⟨r19, z4, D1, fun r hr => ?_⟩ (Tp.mv (fun x hx => (ec x (by simp only [List.mem_cons, List.not_mem_nil, or_false] at hx ⊢; omega)).1) (e0 42 (by decide)) (fun i hi => by rw [en 19 (by decide)]; exact d8 i hi))
    rw [r20 _ (by omega), r20 _ (by omega), r20 _ (by omega), r20 _ (by omega), y5 _ (by omega), y5 _ (by omega), y5 _ (by omega), y5 _ (by omega)]
    exact D8 r hr
  refine ⟨W, H, nk, nc, nl, w, np, R8_text R (LD_agr R.L (fun x hx => (ec x (by simp only [List.mem_cons, List.not_mem_nil, or_false] at hx ⊢; omega)).1) (ec 1 (by decide)).2 (fun i hi => e0 i (by simp only [List.mem_cons, List.not_mem_nil, or_false] at hi ⊢; omega)) (em 1 (by decide)) (em 4 (by decide))) TN (fun x hx => ec x (by simp only [List.mem_cons, List.not_mem_nil, or_false]; omega)) (fun x hx => ?_) (TP_0 (by rw [hS, rd1, if_pos rfl]) (by rw [z3 12 (by decide), rd1, if_pos rfl]) ?_ ?_) (HS_agr R.S (ec 80 (by decide)).1 (ec 82 (by decide)).1 (fun x h1 h2 => ec x (by simp only [List.mem_cons, List.not_mem_nil, or_false]; omega)) (e0 3 (by decide)) (fun i hi => e0 i (by simp only [List.mem_cons, List.not_mem_nil, or_false] at hi ⊢; omega)) (em 2 (by decide)) (em 4 (by decide))) (HL_agr R.hl (by rw [em 1 (by decide)]) (em 2 (by decide)) (e0 3 (by decide))) (by rw [em 1 (by decide)]; exact ⟨rfl, rfl⟩) (fun x hx => em x (by simp only [List.mem_cons, List.not_mem_nil, or_false] at hx ⊢; omega)) ⟨e0 5 (by decide), e0 51 (by decide)⟩⟩
  · by_cases q19 : x = 19
    · rw [q19, hS, ups_ne (by decide), x4 0 (by decide), (c1 19 (by decide)).1]
    have hx' := hx
    simp only [List.mem_cons, List.not_mem_nil, or_false] at hx'
    rw [hS, ups_ne (by omega), (x2 x (by simp only [List.mem_cons, List.not_mem_nil, or_false]; omega)).1]
    by_cases q : x ∈ [56, 58, 61, 66, 68]
    · exact c2 x q
    · rw [(c1 x (by simp only [List.mem_cons, List.not_mem_nil, or_false] at q ⊢; omega)).1]
  · rw [hS, rd1, if_neg (by decide), (x2 49 (by decide)).1, z3 32 (by decide), rd1, if_neg (by decide)]; exact h8
  · rw [hS, rd1, if_neg (by decide), (x2 49 (by decide)).1, z3 33 (by decide), rd1, if_neg (by decide)]; exact h9
theorem text_plan {W H nk nc nl nw np w : Nat} {sc sm s m : ST} (R : R8 W H nk nc nl nw np sc sm) (c : tc sc s) (d : tm sm m) (h8 : s.1 49 8 = m.1 0 32) (h9 : s.1 49 9 = m.1 0 33) (D : DPl W H nk w s m) : ∃ s2 m2, C_X4_copy s 21 68 = some s2 ∧ s2.1 21 2 = nI w ∧ M_takesOther (ups m 0 12 0) 3 (nI w) = some m2 ∧ Rel (ups (C_X0_forget s2) 49 1 0) m2 := by
  obtain ⟨c1, c2⟩ := c
  obtain ⟨d1, d2, d3, d4, d5, d6, d7, d8⟩ := d
  obtain ⟨D1, D2, D3, _, _, _, _, D8⟩ := D
  obtain ⟨s3, x1, x2, x3, x4, x5⟩ := c_tcopy (s := s) (b := 21) (x := 68) (n := w) (M := 16) D3 (by rw [(c1 21 (by decide)).1]; exact R.K.k21) D1 (by decide) (show 4 * w ≤ 64 by omega) (show 4 * w ≤ 64 by omega)
  obtain ⟨m2, z1, z2, z3, z4, z6, z5⟩ := m_takesPlan (s := ups m 0 12 0) (w := w) D1
  refine ⟨s3, m2, x1, x3, z1, ?_⟩
  obtain ⟨S, hS0⟩ : ∃ S, S = ups (C_X0_forget s3) 49 1 0 := ⟨_, rfl⟩
  have hS : S = ups (ups s3 80 3 0) 49 1 0 := hS0
  rw [← hS0]
  clear hS0
  have fS : agr [21, 22, 80, 49, 51, 52, 53, 56, 57, 58, 59, 60, 61, 62, 63, 66, 67, 68, 69] sc S := by rw [hS]; exact (((c1.mono (by decide)).tr (x2.mono (by decide))).ups (by decide)).ups (by decide)
  have ec : ∀ x, x ∉ [21, 22, 80, 49, 51, 52, 53, 56, 57, 58, 59, 60, 61, 62, 63, 66, 67, 68, 69] → S.1 x = sc.1 x ∧ S.2 x = sc.2 x := fun x hx => fS x hx
  have e0 : ∀ j, j ∉ [0, 3, 12, 13, 14, 15, 16, 25, 26, 27, 29, 30, 31, 32, 33, 38, 39, 42] → m2.1 0 j = sm.1 0 j := fun j hj => by
    rw [z3 j (by simp only [List.mem_cons, List.not_mem_nil, or_false, not_or] at hj ⊢; omega), rd1, if_neg (by rintro rfl; exact hj (by decide))]; exact d2 j (by simp only [List.mem_cons, List.not_mem_nil, or_false, not_or] at hj ⊢; omega)
  have en : ∀ x, x ∉ [0, 19] → m2.1 x = m.1 x := fun x hx => by
    rw [(z2 x hx).1, ups_ne (by rintro rfl; exact hx (by decide))]
  have em : ∀ x, x ∉ [0, 9, 10, 11, 12, 13, 14, 15, 16, 17, 18, 19] → m2.1 x = sm.1 x := fun x hx => by
    rw [en x (by simp only [List.mem_cons, List.not_mem_nil, or_false, not_or] at hx ⊢; omega)]
    exact (d1 x hx).1
  have y5 : ∀ j, j < 4 * w → m2.1 19 j = m.1 19 (64 + j) := fun j hj => by rw [z5 j hj, ups_ne (by decide)]
  have r21 : S.1 21 2 = nI w := by rw [hS, ups_ne (by decide), ups_ne (by decide)]; exact x3
  have r22 : ∀ i, i < 4 * w → S.1 22 i = s.1 69 i := fun i hi => by rw [hS, ups_ne (by decide), ups_ne (by decide)]; exact x5 i hi
  obtain ⟨Tk, Tl, Tw, _⟩ := R.T.sec
  have TN : TD W H nk nc nl nw w 8 S m2 := by
    refine TD_of (Tk.mv (fun x hx => (ec x (by simp only [List.mem_cons, List.not_mem_nil, or_false] at hx ⊢; omega)).1) (e0 34 (by decide)) (e0 36 (by decide)) (fun i hi => by rw [en 16 (by decide)]; exact d5 i hi) (fun i hi => by rw [en 17 (by decide)]; exact d6 i hi)) (Tl.mv (fun x hx => (ec x (by simp only [List.mem_cons, List.not_mem_nil, or_false] at hx ⊢; omega)).1) (by rw [em 8 (by decide)]) (fun x hx i hi => by rw [en x (by simp only [List.mem_cons, List.not_mem_nil, or_false] at hx ⊢; omega)]; exact d3 x hx i hi) (fun x hx i hi => by rw [en x (by simp only [List.mem_cons, List.not_mem_nil, or_false] at hx ⊢; omega)]; exact d4 x hx i hi)) (Tw.mv (fun x hx => (ec x (by simp only [List.mem_cons, List.not_mem_nil, or_false] at hx ⊢; omega)).1) (e0 40 (by decide)) (fun i hi => by rw [en 18 (by decide)]; exact d7 i hi)) ⟨r21, z4, D1, fun r hr => ?_⟩
    rw [r22 _ (by omega), r22 _ (by omega), r22 _ (by omega), r22 _ (by omega), y5 _ (by omega), y5 _ (by omega), y5 _ (by omega), y5 _ (by omega)]
    exact D8 r hr
  have BN : BK 23 S m2 := BK_agr R.B (by rw [(ec 23 (by decide)).1]) (ec 24 (by decide)).1 (by rw [em 1 (by decide)]) (em 5 (by decide))
  refine ⟨W, H, nk, nc, nl, nw, w, R8_text R (LD_agr R.L (fun x hx => (ec x (by simp only [List.mem_cons, List.not_mem_nil, or_false] at hx ⊢; omega)).1) (ec 1 (by decide)).2 (fun i hi => e0 i (by simp only [List.mem_cons, List.not_mem_nil, or_false] at hi ⊢; omega)) (em 1 (by decide)) (em 4 (by decide))) TN (fun x hx => ec x (by simp only [List.mem_cons, List.not_mem_nil, or_false]; omega)) (fun x hx => ?_) (TP_0 (by rw [hS, rd1, if_pos rfl]) (by rw [z3 12 (by decide), rd1, if_pos rfl]) ?_ ?_) (HS_0 R.S (by rw [hS, ups_ne (by decide), rd1, if_neg (by decide), (x2 80 (by decide)).1, (c1 80 (by decide)).1]) (by rw [hS, ups_ne (by decide), rd1, if_pos rfl]) z6) (HL_0 z6 BN) (by rw [em 1 (by decide)]; exact ⟨rfl, rfl⟩) (fun x hx => em x (by simp only [List.mem_cons, List.not_mem_nil, or_false] at hx ⊢; omega)) ⟨e0 5 (by decide), e0 51 (by decide)⟩⟩
  · by_cases q21 : x = 21
    · rw [q21, hS, ups_ne (by decide), ups_ne (by decide), x4 0 (by decide), (c1 21 (by decide)).1]
    have hx' := hx
    simp only [List.mem_cons, List.not_mem_nil, or_false] at hx'
    rw [hS, ups_ne (by omega), ups_ne (by omega), (x2 x (by simp only [List.mem_cons, List.not_mem_nil, or_false]; omega)).1]
    by_cases q : x ∈ [56, 58, 61, 66, 68]
    · exact c2 x q
    · rw [(c1 x (by simp only [List.mem_cons, List.not_mem_nil, or_false] at q ⊢; omega)).1]
  · rw [hS, rd1, if_neg (by decide), ups_ne (by decide), (x2 49 (by decide)).1, z3 32 (by decide), rd1, if_neg (by decide)]; exact h8
  · rw [hS, rd1, if_neg (by decide), ups_ne (by decide), (x2 49 (by decide)).1, z3 33 (by decide), rd1, if_neg (by decide)]; exact h9
