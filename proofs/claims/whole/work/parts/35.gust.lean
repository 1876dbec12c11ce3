/-! # stage 2: gust and harm -/
theorem TD_agr {W H nk nc nl nw np t : Nat} {sc sm sc' sm' : ST} (T : TD W H nk nc nl nw np t sc sm) (hc : ∀ c, c ∈ [t + 1, t + 2, t + 3, t + 4, t + 6, t + 7, t + 8, t + 11, t + 12, t + 13, t + 14] → sc'.1 c = sc.1 c) (m0 : ∀ i, i ∈ [34, 36, 40, 42] → sm'.1 0 i = sm.1 0 i) (hm : ∀ c, c ∈ [8, 9, 10, 11, 12, 13, 14, 16, 17, 18, 19] → sm'.1 c = sm.1 c) : TD W H nk nc nl nw np t sc' sm' := by
  have c1 := hc (t + 1) (by simp)
  have c2 := hc (t + 2) (by simp)
  have c3 := hc (t + 3) (by simp)
  have c4 := hc (t + 4) (by simp)
  have c6 := hc (t + 6) (by simp)
  have c7 := hc (t + 7) (by simp)
  have c8 := hc (t + 8) (by simp)
  have c11 := hc (t + 11) (by simp)
  have c12 := hc (t + 12) (by simp)
  have c13 := hc (t + 13) (by simp)
  have c14 := hc (t + 14) (by simp)
  have i34 := m0 34 (by decide)
  have i36 := m0 36 (by decide)
  have i40 := m0 40 (by decide)
  have i42 := m0 42 (by decide)
  have m8 := hm 8 (by decide)
  have m9 := hm 9 (by decide)
  have m10 := hm 10 (by decide)
  have m11 := hm 11 (by decide)
  have m12 := hm 12 (by decide)
  have m13 := hm 13 (by decide)
  have m14 := hm 14 (by decide)
  have m16 := hm 16 (by decide)
  have m17 := hm 17 (by decide)
  have m18 := hm 18 (by decide)
  have m19 := hm 19 (by decide)
  unfold TD at T ⊢
  simp only [c1, c2, c3, c4, c6, c7, c8, c11, c12, c13, c14, i34, i36, i40, i42, m8, m9, m10, m11, m12, m13, m14, m16, m17, m18, m19]
  exact T
theorem LD_agr {W H nk b : Nat} {sc sm sc' sm' : ST} (L : LD W H nk b sc sm) (hc : ∀ c, c ∈ [b, b + 1, b + 2, b + 3, b + 4, b + 5, b + 6] → sc'.1 c = sc.1 c) (hc2 : sc'.2 b = sc.2 b) (m0 : ∀ i, i ∈ [6, 7, 8] → sm'.1 0 i = sm.1 0 i) (m1 : sm'.1 1 = sm.1 1) (m4 : sm'.1 4 = sm.1 4) : LD W H nk b sc' sm' := by
  have c0 := hc b (by simp)
  have c1 := hc (b + 1) (by simp)
  have c2 := hc (b + 2) (by simp)
  have c3 := hc (b + 3) (by simp)
  have c4 := hc (b + 4) (by simp)
  have c5 := hc (b + 5) (by simp)
  have c6 := hc (b + 6) (by simp)
  have i6 := m0 6 (by decide)
  have i7 := m0 7 (by decide)
  have i8 := m0 8 (by decide)
  unfold LD at L ⊢
  simp only [c0, c1, c2, c3, c4, c5, c6, hc2, i6, i7, i8, m1, m4]
  exact L
theorem TD_8 {W H nk nc nl nw np : Nat} {sc sm sc' sm' : ST} {A B : List Nat} (T : TD W H nk nc nl nw np 8 sc sm) (a : agr A sc sc') (b : agr B sm sm') (hA : ∀ c, c ∈ [9, 10, 11, 12, 14, 15, 16, 19, 20, 21, 22] → c ∉ A) (hB : ∀ c, c ∈ [0, 8, 9, 10, 11, 12, 13, 14, 16, 17, 18, 19] → c ∉ B) : TD W H nk nc nl nw np 8 sc' sm' :=
  TD_agr T (fun c hc => (a c (hA c hc)).1) (fun i _ => congrFun (b 0 (hB 0 (by decide))).1 i) (fun c hc => (b c (hB c (List.mem_cons_of_mem _ hc))).1)
theorem LD_b {W H nk b : Nat} {sc sm sc' sm' : ST} {A B : List Nat} (L : LD W H nk b sc sm) (a : agr A sc sc') (b' : agr B sm sm') (hA : ∀ c, c ∈ [b, b + 1, b + 2, b + 3, b + 4, b + 5, b + 6] → c ∉ A) (hB : ∀ c, c ∈ [0, 1, 4] → c ∉ B) : LD W H nk b sc' sm' :=
  LD_agr L (fun c hc => (a c (hA c hc)).1) (a b (hA b (by simp))).2 (fun i _ => congrFun (b' 0 (hB 0 (by decide))).1 i) (b' 1 (hB 1 (by decide))).1 (b' 4 (hB 4 (by decide))).1
theorem n_nI_m1 {l : Nat} (h : l < 2 ^ 31) : ¬ nI l = (-1 : Int32) := by
  intro q
  have h2 := nI_pos (n := l) h
  rw [q] at h2
  exact h2 (by decide)
theorem gust_sim {W H nk nc nl nw np b k : Nat} {sc sm : ST} (hb : b = 1 ∨ b = 72) (L : LW W H nk b sc sm) (T : TD W H nk nc nl nw np 8 sc sm) (hk : k < 64) (hc : cl W H k) (x soil : Int32) :
    ∃ v sc' sm', C_X2_ask sc 0 b x (nI k) soil = some (v, sc') ∧ M_gustOf sm x (nI k) soil = some (v, sm') ∧ agr [17, 18] sc sc' ∧ agr [20, 21] sm sm' ∧ ∃ g, g ≤ 9 ∧ v = nI g := by
  obtain ⟨s1, t1, e1, e2, a1, a2, hv, ⟨n, hn, hw⟩, _⟩ := seen hb L hk hc x soil
  have T1 : TD W H nk nc nl nw np 8 s1 t1 := TD_8 T a1 a2 (by decide) (by decide)
  obtain ⟨v, sc', sm', x1, x2, x3, x4⟩ := ask_in T1 hv 0 (by decide) ((1 : Int32) + (s1.1 17 1 / (2 : Int32))) (fun v s => if (0 : Int32) = 0 then some (imx 0 (imn v 9), s) else some (imx 0 (imn v 99), s))
  have hC : C_X2_ask sc 0 b x (nI k) soil = some (imx 0 (imn v 9), sc') := by
    unfold C_X2_ask
    rw [e1, Bd_some]
    rw [Lt_e, if_pos rfl, Lt_e]
    refine Eq.trans ?_ (x1.trans (if_pos rfl))
    rfl
  have hM : M_gustOf sm x (nI k) soil = some (M_held sm' v 0 9, sm') := by
    unfold M_gustOf
    rw [e2, Bd_some]
    rcases x4 with ⟨rfl, h⟩ | ⟨l, u, hl, h, h2⟩
    · rw [show M_lineOf t1 (0 : Int32) = some (-1, sm') from h, Bd_some, Lt_e, if_pos rfl, Lt_e]
      dsimp only
      rw [Lt_e]
      have : sm'.1 20 = t1.1 20 := (x3 20 (by decide)).1
      rw [this, ← hv 1 (by decide)]
    · rw [show M_lineOf t1 (0 : Int32) = some (nI l, u) from h, Bd_some, Lt_e, if_neg (n_nI_m1 (by omega))]
      rw [Gl_n (by omega) (by decide), Gl_n (by omega) (by decide)] at h2 ⊢
      rw [h2, Bd_some]
      dsimp only
      rw [Lt_e]
  rw [imn_held sm' v 9 (by decide)] at hC
  exact ⟨_, sc', sm', hC, hM, (a1.mono (by simp)).tr (x2.mono (by simp)), (a2.mono (by simp)).tr (x3.mono (by simp)), held_n sm' v 9 (by decide)⟩
theorem harm_sim {W H nk nc nl nw np b k : Nat} {sc sm : ST} (hb : b = 1 ∨ b = 72) (L : LW W H nk b sc sm) (T : TD W H nk nc nl nw np 8 sc sm) (hk : k < 64) (hs : bq (sc.2 b 9) k = true) :
    ∃ v sc' sm', C_X2_ask sc 1 b (sc.1 (b + 4) k) (nI k) 0 = some (v, sc') ∧ M_harmOf sm (nI k) = some (v, sm') ∧ agr [17, 18] sc sc' ∧ agr [20, 21] sm sm' := by
  obtain ⟨hc, n, g, hn, _, _, c4, m197, _⟩ := L.st k hk hs
  have hn8 := L.n8
  obtain ⟨s1, t1, e1, e2, a1, a2, hv, _, _⟩ := seen hb L hk hc (nI n) 0
  have T1 : TD W H nk nc nl nw np 8 s1 t1 := TD_8 T a1 a2 (by decide) (by decide)
  obtain ⟨v, sc', sm', x1, x2, x3, x4⟩ := ask_in T1 hv 1 (by decide) (s1.1 17 7) (fun v s => if (1 : Int32) = 0 then some (imx 0 (imn v 9), s) else some (imx 0 (imn v 99), s))
  have hC : C_X2_ask sc 1 b (sc.1 (b + 4) k) (nI k) 0 = some (imx 0 (imn v 99), sc') := by
    rw [c4]
    unfold C_X2_ask
    rw [e1, Bd_some]
    rw [Lt_e, if_neg (by decide), Lt_e]
    refine Eq.trans ?_ (x1.trans (if_neg (by decide)))
    rfl
  have hM : M_harmOf sm (nI k) = some (M_held sm' v 0 99, sm') := by
    unfold M_harmOf
    rw [m_stormOf hk, m197, n_sub1, Bd_some, if_neg (n_nI_m1 (by omega)), Bd_some, e2, Bd_some]
    rcases x4 with ⟨rfl, h⟩ | ⟨l, u, hl, h, h2⟩
    · rw [show M_lineOf t1 (1 : Int32) = some (-1, sm') from h, Bd_some, Lt_e, if_pos rfl, Lt_e]
      dsimp only
      rw [Lt_e]
      have : sm'.1 20 = t1.1 20 := (x3 20 (by decide)).1
      rw [this, ← hv 7 (by decide)]
    · rw [show M_lineOf t1 (1 : Int32) = some (nI l, u) from h, Bd_some, Lt_e, if_neg (n_nI_m1 (by omega))]
      rw [Gl_n (by omega) (by decide), Gl_n (by omega) (by decide)] at h2 ⊢
      rw [h2, Bd_some]
      dsimp only
      rw [Lt_e]
  rw [imn_held sm' v 99 (by decide)] at hC
  exact ⟨_, sc', sm', hC, hM, (a1.mono (by simp)).tr (x2.mono (by simp)), (a2.mono (by simp)).tr (x3.mono (by simp))⟩
theorem m_harm0 {sm : ST} {k : Nat} (hk : k < 64) (h : sm.1 1 (197 + k) = 0) : M_harmOf sm (nI k) = some (0, sm) := by
  unfold M_harmOf
  rw [m_stormOf hk, h, Bd_some, if_pos (by decide)]
