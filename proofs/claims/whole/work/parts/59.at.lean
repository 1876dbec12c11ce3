/-! # stage 2: at, end, set -/
theorem s_at : Sim_at Rel := by
  rintro sc sm x y ⟨W, H, nk, nc, nl, nw, np, R⟩
  have h10 : ¬ (1 : Int32) = 0 := by decide
  have h00 : (0 : Int32) = 0 := rfl
  have hm1 : (0 : Int32) - 1 = -1 := by decide
  have hf : ¬ false = true := by decide
  have R' := R8_told R
  have L := R'.L
  have hn8 := L.n8
  obtain ⟨CB, hc0⟩ : ∃ q, C_X9_at sc x y = q := ⟨_, rfl⟩
  obtain ⟨MB, hm0⟩ : ∃ q, M_at sm x y = q := ⟨_, rfl⟩
  rw [hc0, hm0]
  unfold C_X9_at at hc0
  unfold M_at at hm0
  rw [Lt_e] at hc0
  rw [Lt_e, Lt_e] at hm0
  rcases in_cell L x with ⟨a, b, _⟩ | ⟨k, hk, hc, rfl, a, b⟩
  · rw [a, if_pos h00] at hc0
    rw [b, if_pos h00] at hm0
    exact ⟨-2, _, _, hc0.symm, hm0.symm, W, H, nk, nc, nl, nw, np, R'⟩
  rw [a, if_neg h10, Lt_e, Lt_e, c_hasSeed hk, c_hasStorm hk] at hc0
  rw [b, if_neg h10] at hm0
  generalize hm : ups sm 0 0 0 = m at *
  have fin : ∀ r, CB = some (r, sc) → MB = some (r, m) → ∃ r sc' sm', CB = some (r, sc') ∧ MB = some (r, sm') ∧ Rel sc' sm' := fun r h1 h2 => ⟨r, sc, m, h1, h2, W, H, nk, nc, nl, nw, np, R'⟩
  by_cases y0 : y = 0
  · rw [if_pos y0, Gl_n hk (by decide)] at hc0
    rw [if_pos y0, m_wetOf hk, Bd_some] at hm0
    obtain ⟨n, hn, w1, w2⟩ := L.wet k hk hc
    rw [show sc.1 2 k = nI n from w1] at hc0
    rw [w2] at hm0
    exact fin _ hc0.symm hm0.symm
  rw [if_neg y0] at hc0 hm0
  by_cases y1 : y = 1
  · rw [if_pos y1, Lt_e, c_hasHedge hk] at hc0
    rw [if_pos y1, Gl_n hk (by decide), L.hed k hk] at hm0
    cases q7 : bq (sc.2 1 7) k with
    | false =>
      rw [q7, ift0] at hc0
      rw [q7, if_neg hf] at hm0
      exact fin _ hc0.symm hm0.symm
    | true =>
      rw [q7, ift1] at hc0
      rw [q7, if_pos (rfl : true = true)] at hm0
      exact fin _ hc0.symm hm0.symm
  rw [if_neg y1] at hc0 hm0
  by_cases y2 : y = 2
  · rw [if_pos y2] at hc0 hm0
    cases q8 : bq (sc.2 1 8) k with
    | false =>
      rw [q8, ift0] at hc0
      rw [m_seedOf hk, L.sd0 k hk q8, hm1, Bd_some] at hm0
      exact fin _ hc0.symm hm0.symm
    | true =>
      obtain ⟨_, n, hn, e2, m69, e3⟩ := L.sd k hk q8
      have hnm : ¬ nI n = (-1 : Int32) := n_nI_m1 (by omega)
      rw [q8, ift1, Gl_n hk (by decide), show sc.1 3 k = nI n from e2] at hc0
      rw [m_seedOf hk, m69, n_sub1, Bd_some] at hm0
      exact fin _ hc0.symm hm0.symm
  rw [if_neg y2] at hc0 hm0
  by_cases y3 : y = 3
  · rw [if_pos y3] at hc0 hm0
    cases q8 : bq (sc.2 1 8) k with
    | false =>
      rw [q8, ift0] at hc0
      rw [m_seedOf hk, L.sd0 k hk q8, hm1, Bd_some, if_pos (rfl : (-1 : Int32) = -1)] at hm0
      exact fin _ hc0.symm hm0.symm
    | true =>
      obtain ⟨_, n, hn, e2, m69, e3⟩ := L.sd k hk q8
      have hnm : ¬ nI n = (-1 : Int32) := n_nI_m1 (by omega)
      rw [q8, ift1, Gl_n hk (by decide), show sc.1 4 k = m.1 1 (133 + k) from e3] at hc0
      rw [m_seedOf hk, m69, n_sub1, Bd_some, if_neg hnm, show (133 : Int32) = nI 133 from rfl, nI_add, Gl_n (by omega) (by decide)] at hm0
      exact fin _ hc0.symm hm0.symm
  rw [if_neg y3] at hc0 hm0
  by_cases y4 : y = 4
  · rw [if_pos y4] at hc0 hm0
    cases q9 : bq (sc.2 1 9) k with
    | false =>
      rw [q9, ift0] at hc0
      rw [m_stormOf hk, L.st0 k hk q9, hm1, Bd_some] at hm0
      exact fin _ hc0.symm hm0.symm
    | true =>
      obtain ⟨_, n, g, hn, _, _, e4, m197, e5, m261, e6⟩ := L.st k hk q9
      have hnm : ¬ nI n = (-1 : Int32) := n_nI_m1 (by omega)
      rw [q9, ift1, Gl_n hk (by decide), show sc.1 5 k = nI n from e4] at hc0
      rw [m_stormOf hk, m197, n_sub1, Bd_some] at hm0
      exact fin _ hc0.symm hm0.symm
  rw [if_neg y4] at hc0 hm0
  by_cases y5 : y = 5
  · rw [if_pos y5] at hc0 hm0
    cases q9 : bq (sc.2 1 9) k with
    | false =>
      rw [q9, ift0] at hc0
      rw [m_stormOf hk, L.st0 k hk q9, hm1, Bd_some, if_pos (rfl : (-1 : Int32) = -1)] at hm0
      exact fin _ hc0.symm hm0.symm
    | true =>
      obtain ⟨_, n, g, hn, _, _, e4, m197, e5, m261, e6⟩ := L.st k hk q9
      have hnm : ¬ nI n = (-1 : Int32) := n_nI_m1 (by omega)
      rw [q9, ift1, Gl_n hk (by decide), show sc.1 6 k = nI g from e5] at hc0
      rw [m_stormOf hk, m197, n_sub1, Bd_some, if_neg hnm, show (261 : Int32) = nI 261 from rfl, nI_add, Gl_n (by omega) (by decide), m261] at hm0
      exact fin _ hc0.symm hm0.symm
  rw [if_neg y5] at hc0 hm0
  by_cases y6 : y = 6
  · rw [if_pos y6] at hc0 hm0
    cases q9 : bq (sc.2 1 9) k with
    | false =>
      rw [q9, ift0] at hc0
      rw [m_stormOf hk, L.st0 k hk q9, hm1, Bd_some, if_pos (rfl : (-1 : Int32) = -1)] at hm0
      exact fin _ hc0.symm hm0.symm
    | true =>
      obtain ⟨_, n, g, hn, _, _, e4, m197, e5, m261, e6⟩ := L.st k hk q9
      have hnm : ¬ nI n = (-1 : Int32) := n_nI_m1 (by omega)
      rw [q9, ift1, Gl_n hk (by decide), show sc.1 7 k = m.1 1 (325 + k) from e6] at hc0
      rw [m_stormOf hk, m197, n_sub1, Bd_some, if_neg hnm, show (325 : Int32) = nI 325 from rfl, nI_add, Gl_n (by omega) (by decide)] at hm0
      exact fin _ hc0.symm hm0.symm
  rw [if_neg y6] at hc0 hm0
  by_cases y7 : y = 7
  · rw [if_pos y7, Lt_e, c_beside (fun j hj h => (L.st j hj h).1) L.W7 L.H7 hk hc] at hc0
    rw [if_pos y7, m_besideOf L.w' L.h' L.W7 L.H7 hk hc, Bd_some, ← nb_cong hk hc L.W7 L.H7 (fun j hj => LW_st_b L.lw hj)] at hm0
    exact fin _ hc0.symm hm0.symm
  rw [if_neg y7] at hc0 hm0
  by_cases y8 : y = 8
  · rw [if_pos y8, Lt_e, c_beside L.hcl L.W7 L.H7 hk hc] at hc0
    rw [if_pos y8, m_hedgesOf L.w' L.h' L.W7 L.H7 hk hc L.hed, Bd_some] at hm0
    exact fin _ hc0.symm hm0.symm
  rw [if_neg y8] at hc0 hm0
  by_cases y9 : y = 9
  · rw [if_pos y9] at hc0 hm0
    cases q9 : bq (sc.2 1 9) k with
    | false =>
      rw [q9, ift0] at hc0
      rw [m_harm0 hk (L.st0 k hk q9), Bd_some] at hm0
      exact fin _ hc0.symm hm0.symm
    | true =>
      obtain ⟨v, c1, m1, g1, g2, a1, b1⟩ := harm_sim (b := 1) (Or.inl rfl) L.lw R'.T hk q9
      rw [q9, ift1, Gl_n hk (by decide), show C_X2_ask sc 1 1 (sc.1 5 k) (nI k) 0 = some (v, c1) from g1, Bd_some] at hc0
      rw [g2, Bd_some] at hm0
      exact ⟨v, c1, m1, hc0.symm, hm0.symm, W, H, nk, nc, nl, nw, np, R8_q R' (a1.mono (by decide)) (b1.mono (by decide)) (fun i _ => by rw [(b1 0 (by decide)).1])⟩
  rw [if_neg y9] at hc0 hm0
  exact fin _ hc0.symm hm0.symm
theorem s_end : Sim_end Rel := by
  rintro sc sm x ⟨W, H, nk, nc, nl, nw, np, R⟩
  have h10 : ¬ (1 : Int32) = 0 := by decide
  have h00 : (0 : Int32) = 0 := rfl
  have R' := R8_told R
  obtain ⟨n, hn, t1, t2, t3⟩ := R'.P.n
  unfold C_X9_end M_end
  simp only [Lt_n]
  rw [t1, t2]
  rcases inN (ups sm 0 0 0) x n (by omega) with ⟨a, hne⟩ | ⟨j, hj, rfl, a⟩
  · rw [a, if_pos h00]
    refine ⟨0, sc, ups sm 0 0 0, ?_, rfl, W, H, nk, nc, nl, nw, np, R'⟩
    by_cases hx : x < 0
    · rw [if_pos hx]
    · rw [if_neg hx]
      obtain ⟨j, hj, rfl⟩ := nI_of hx
      rw [if_neg]
      rw [nI_leI hj (by omega)]
      exact fun h => hne j h rfl
  · rw [a, if_neg h10, if_neg (nI_pos (by omega)), if_pos (show nI j ≤ nI n by rw [nI_leI (by omega) (by omega)]; exact hj)]
    refine ⟨1, _, _, rfl, rfl, W, H, nk, nc, nl, nw, np, ?_⟩
    have hm0 : ∀ i, i ≠ 12 → (ups (ups sm 0 0 0) 0 12 (nI j)).1 0 i = (ups sm 0 0 0).1 0 i := fun i hi => by rw [rd1, if_neg hi]
    generalize ups sm 0 0 0 = m at *
    have hm : ∀ c, c ≠ 0 → (ups m 0 12 (nI j)).1 c = m.1 c := fun c h => ups_ne h
    have hcc : ∀ c, c ≠ 49 → (ups sc 49 1 (nI j)).1 c = sc.1 c := fun c h => ups_ne h
    exact ⟨LD_agr R'.L (fun c hc => hcc c (by simp only [List.mem_cons, List.not_mem_nil, or_false] at hc; omega)) rfl (fun i hi => hm0 i (by simp only [List.mem_cons, List.not_mem_nil, or_false] at hi; omega)) (hm 1 (by decide)) (hm 4 (by decide)), TD_agr R'.T (fun c hc => hcc c (by simp only [List.mem_cons, List.not_mem_nil, or_false] at hc; omega)) (fun i hi => hm0 i (by simp only [List.mem_cons, List.not_mem_nil, or_false] at hi; omega)) (fun c hc => hm c (by simp only [List.mem_cons, List.not_mem_nil, or_false] at hc; omega)), BK_agr R'.B (by rw [hcc 23 (by decide)]) (hcc 24 (by decide)) (by rw [hm 1 (by decide)]) (hm 5 (by decide)), by rw [hm 1 (by decide)]; exact R'.d, KS_agr R'.K (fun c hc => by rw [hcc c (by simp only [List.mem_cons, List.not_mem_nil, or_false] at hc; omega)]), ⟨⟨j, by omega, by rw [rd1, if_pos rfl], by rw [rd1, if_pos rfl], fun i hi => by rw [hcc 50 (by decide), hm 6 (by decide)]; exact t3 i (by omega)⟩, by rw [rd1, if_neg (by decide), hm0 32 (by decide)]; exact R'.P.f, by rw [rd1, if_neg (by decide), hm0 33 (by decide)]; exact R'.P.p⟩, HS_agr R'.S (hcc 80 (by decide)) (hcc 82 (by decide)) (fun c h1 h2 => ⟨hcc c (by omega), rfl⟩) (hm0 3 (by decide)) (fun i hi => hm0 i (by simp only [List.mem_cons, List.not_mem_nil, or_false] at hi; omega)) (hm 2 (by decide)) (hm 4 (by decide)), HL_agr R'.hl (by rw [hm 1 (by decide)]) (hm 2 (by decide)) (hm0 3 (by decide)), IM_agr R'.I (by rw [hcc 0 (by decide)]) (fun c h1 h2 _ _ => ⟨hcc c (by omega), rfl⟩) (hm0 51 (by decide)) (hm 23 (by decide)), by rw [hm0 5 (by decide)]; exact R'.z, fun i hi => by rw [hm 7 (by decide)]; exact R'.w i hi⟩
