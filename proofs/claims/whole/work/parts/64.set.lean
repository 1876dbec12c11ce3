/-! # stage 2: set, land -/
theorem LD_new {W H nk b : Nat} {sc sm sc' sm' : ST} (L : LD W H nk b sc sm) (hc : ∀ i, i ≠ 4 → sc'.1 b i = sc.1 b i) (h1 : sc'.1 (b + 1) = sc.1 (b + 1)) (h2 : sc'.1 (b + 2) = sc.1 (b + 2)) (h3 : sc'.1 (b + 3) = sc.1 (b + 3)) (h4 : sc'.1 (b + 4) = sc.1 (b + 4)) (h5 : sc'.1 (b + 5) = sc.1 (b + 5)) (h6 : sc'.1 (b + 6) = sc.1 (b + 6)) (l8 : sc'.2 b 8 = sc.2 b 8) (l9 : sc'.2 b 9 = sc.2 b 9) (m6 : sm'.1 0 6 = sm.1 0 6) (m7 : sm'.1 0 7 = sm.1 0 7) (m1 : sm'.1 1 = sm.1 1) (hb : ∃ n, n ≤ 1000 ∧ sc'.1 b 4 = nI n ∧ sm'.1 0 8 = nI n) (hh : ∀ k, k < 64 → sm'.1 4 k = if bq (sc'.2 b 7) k = true then 1 else 0) (hcl : ∀ k, k < 64 → bq (sc'.2 b 7) k = true → cl W H k) : LD W H nk b sc' sm' := by
  refine ⟨by rw [hc 0 (by decide)]; exact L.w, by rw [m6]; exact L.w', by rw [hc 1 (by decide)]; exact L.h, by rw [m7]; exact L.h', L.W2, L.W7, L.H2, L.H7, L.n8, by rw [hc 2 (by decide), m1]; exact L.day, by rw [hc 3 (by decide), m1]; exact L.wind, hb, by rw [hc 5 (by decide), m1]; exact L.harm, by rw [hc 6 (by decide), m1]; exact L.draws, fun k hk hcc => ?_, hh, hcl, fun k hk => ?_, fun k hk => ?_, fun k hk => ?_, fun k hk => ?_⟩
  · rw [h1, m1]; exact L.wet k hk hcc
  · rw [l8, h2, h3, m1]; exact L.sd k hk
  · rw [l8, m1]; exact L.sd0 k hk
  · rw [l9, h4, h5, h6, m1]; exact L.st k hk
  · rw [l9, m1]; exact L.st0 k hk
/-- a setting by hand: what could be undone is forgotten -/
theorem R8_set {W H nk nc nl nw np : Nat} {sc sm sc1 sm1 : ST} (R : R8 W H nk nc nl nw np sc sm) (L : LD W H nk 1 sc1 sm1) (a : ∀ c, 8 ≤ c ∨ c = 0 → sc1.1 c = sc.1 c ∧ sc1.2 c = sc.2 c) (b : agr [0, 1, 4] sm sm1) (b1 : ∀ i, i < 5 → sm1.1 1 i = sm.1 1 i) (b0 : ∀ i, i ≠ 8 → sm1.1 0 i = sm.1 0 i) : R8 W H nk nc nl nw np (ups sc1 80 3 0) (ups sm1 0 3 0) := by
  have m3 : (ups sm1 0 3 0).1 0 3 = 0 := by rw [rd1, if_pos rfl]
  have L' : LD W H nk 1 (ups sc1 80 3 0) (ups sm1 0 3 0) := LD_agr L (fun c hc => ups_ne (by simp only [List.mem_cons, List.not_mem_nil, or_false] at hc; omega)) rfl (fun i hi => by rw [rd1, if_neg]; rintro rfl; exact absurd hi (by decide)) (ups_ne (by decide)) (ups_ne (by decide))
  have B' : BK 23 (ups sc1 80 3 0) (ups sm1 0 3 0) := BK_agr R.B (by rw [ups_ne (by decide), (a 23 (by decide)).1]) (by rw [ups_ne (by decide), (a 24 (by decide)).1]) (by rw [ups_ne (by decide), b1 2 (by decide)]) (by rw [ups_ne (by decide), (b 5 (by decide)).1])
  refine R8_land R (fun c hc => ⟨by rw [ups_ne (by omega), (a c (by omega)).1], (a c (by omega)).2⟩) (by rw [ups_ne (by decide), (a 23 (by decide)).1]) ((b.mono (by decide)).ups (by decide)) (fun i hi => ?_) L' B' (by rw [ups_ne (by decide), b1 0 (by decide)]; exact R.d) (HS_0 R.S (by rw [rd1, if_neg (by decide), (a 80 (by decide)).1]) (by rw [rd1, if_pos rfl]) m3) (HL_0 m3 B')
  simp only [List.mem_cons, List.not_mem_nil, or_false, not_or] at hi
  rw [rd1, if_neg (by omega), b0 i (by omega)]
theorem s_set : Sim_set Rel := by
  rintro sc sm x y z ⟨W, H, nk, nc, nl, nw, np, R⟩
  have h10 : ¬ (1 : Int32) = 0 := by decide
  have h00 : (0 : Int32) = 0 := rfl
  have h11 : (1 : Int32) &&& 1 = 1 := by decide
  have h01 : (0 : Int32) &&& 1 = 0 := by decide
  have hm1 : (0 : Int32) - 1 = -1 := by decide
  have R' := R8_told R
  have L := R'.L
  have hn8 := L.n8
  obtain ⟨CB, hc0⟩ : ∃ q, C_X9_set sc x y z = q := ⟨_, rfl⟩
  obtain ⟨MB, hm0⟩ : ∃ q, M_set sm x y z = q := ⟨_, rfl⟩
  rw [hc0, hm0]
  unfold C_X9_set at hc0
  unfold M_set M_canSet at hm0
  simp only [Lt_n] at hc0 hm0
  generalize ups sm 0 0 0 = m at *
  have bad : CB = some (0, sc) → MB = some (0, m) → ∃ r sc' sm', CB = some (r, sc') ∧ MB = some (r, sm') ∧ Rel sc' sm' := fun h1 h2 => ⟨0, sc, m, h1, h2, W, H, nk, nc, nl, nw, np, R'⟩
  by_cases x0 : x = 0
  · subst x0
    rw [if_pos h00] at hc0
    rw [if_pos h00] at hm0
    unfold C_X1_putBirds at hc0
    rw [show C_X9_isWithin sc z 0 1000 = M_isIn m z 0 1000 from rfl] at hc0
    rcases inN m z 1000 (by decide) with ⟨a, _⟩ | ⟨n, hn, rfl, a⟩
    · rw [show M_isIn m z 0 1000 = 0 from a, Lt_e, if_pos h00, if_pos h00, h01] at hc0
      rw [show M_isIn m z 0 1000 = 0 from a, h01, Bd_some, if_pos h00] at hm0
      exact bad hc0.symm hm0.symm
    · rw [show M_isIn m (nI n) 0 1000 = 1 from a, Lt_e, if_neg h10, Lt_e, if_neg h10, h11] at hc0
      rw [show M_isIn m (nI n) 0 1000 = 1 from a, h11, Bd_some, if_neg h10, if_pos h00, if_neg (by decide : ¬ (0 : Int32) = 1), if_neg (by decide : ¬ (0 : Int32) = 2)] at hm0
      refine ⟨1, _, _, hc0.symm, hm0.symm, W, H, nk, nc, nl, nw, np, ?_⟩
      refine R8_set R' (LD_new L (fun i hi => by rw [rd1, if_neg hi]) rfl rfl rfl rfl rfl rfl rfl rfl (by rw [rd1, if_neg (by decide)]) (by rw [rd1, if_neg (by decide)]) rfl ⟨n, hn, by rw [rd1, if_pos rfl], by rw [rd1, if_pos rfl]⟩ L.hed L.hcl) (fun c hc => ⟨ups_ne (by omega), rfl⟩) (agr.rf.ups (by decide)) (fun i hi => by rw [ups_ne (by decide)]) (fun i hi => by rw [rd1, if_neg hi])
  rw [if_neg x0] at hc0 hm0
  by_cases x1 : x = 1
  · subst x1
    rw [if_pos (rfl : (1 : Int32) = 1)] at hc0
    have e12 : M_isIn m 1 1 2 = 1 := by unfold M_isIn; rw [if_neg (by decide), if_neg (by decide)]
    rw [e12, if_neg h10] at hm0
    unfold C_X1_putWet at hc0
    rcases in_cell L y with ⟨a, b, _⟩ | ⟨k, hk, hc, rfl, a, b⟩
    · rw [Lt_e, a, if_pos h00, Bd_some, if_pos h00, h01] at hc0
      rw [b, if_pos h00, Bd_some, if_pos h00] at hm0
      exact bad hc0.symm hm0.symm
    rw [Lt_e, a, if_neg h10, Lt_e, show C_X9_isWithin sc z 0 9 = M_isIn m z 0 9 from rfl] at hc0
    rw [b, if_neg h10, if_pos (rfl : (1 : Int32) = 1)] at hm0
    rcases inN m z 9 (by decide) with ⟨a, _⟩ | ⟨n, hn, rfl, a⟩
    · rw [show M_isIn m z 0 9 = 0 from a, if_pos h00, Bd_some, if_pos h00, h01] at hc0
      rw [show M_isIn m z 0 9 = 0 from a, h01, Bd_some, if_pos h00] at hm0
      exact bad hc0.symm hm0.symm
    · rw [show M_isIn m (nI n) 0 9 = 1 from a, if_neg h10, Gs_n hk (by decide), Bd_some, if_neg h10, h11] at hc0
      rw [show M_isIn m (nI n) 0 9 = 1 from a, h11, Bd_some, if_neg h10, if_neg h10, if_pos (rfl : (1 : Int32) = 1), show (5 : Int32) = nI 5 from rfl, nI_add, Gs_n (by omega) (by decide), if_neg (by decide : ¬ (1 : Int32) = 2)] at hm0
      refine ⟨1, _, _, hc0.symm, hm0.symm, W, H, nk, nc, nl, nw, np, ?_⟩
      have m1 : ∀ i, i ≠ 5 + k → (ups m 1 (5 + k) (nI n - 3)).1 1 i = m.1 1 i := fun i hi => by rw [rd1, if_neg hi]
      refine R8_set R' (LD_fchg (sc := sc) (sm := m) L (by rw [ups_ne (by decide)]) (by rw [ups_ne (by decide)]) (by rw [ups_ne (by decide)]) rfl (ups_ne (by decide)) (ups_ne (by decide)) (ups_ne (by decide)) (ups_ne (by decide)) (ups_ne (by decide)) (ups_ne (by decide)) (ups_ne (by decide)) (fun i hi => m1 i (by omega)) (by rw [ups_ne (by decide), m1 0 (by omega)]; exact L.day) (by rw [ups_ne (by decide), m1 3 (by omega)]; exact L.wind) (by rw [ups_ne (by decide), m1 4 (by omega)]; exact L.harm) (by rw [ups_ne (by decide), m1 1 (by omega)]; exact L.draws) (fun j hj hjc => ?_)) (fun c hc => ⟨ups_ne (by omega), rfl⟩) (agr.rf.ups (by decide)) (fun i hi => m1 i (by omega)) (fun i hi => by rw [ups_ne (by decide)])
      show ∃ v, v ≤ 9 ∧ (ups sc 2 k (nI n)).1 2 j = nI v ∧ _
      rw [rd1]
      by_cases q : j = k
      · subst q
        exact ⟨n, hn, if_pos rfl, by rw [rd1, if_pos rfl, Int32.sub_add_cancel]⟩
      · rw [if_neg q, m1 _ (by omega)]
        exact L.wet j hj hjc
  rw [if_neg x1] at hc0
  by_cases x2 : x = 2
  · subst x2
    rw [if_pos (rfl : (2 : Int32) = 2)] at hc0
    have e12 : M_isIn m 2 1 2 = 1 := by unfold M_isIn; rw [if_neg (by decide), if_neg (by decide)]
    rw [e12, if_neg h10] at hm0
    have C0 : C_X1_putHedge sc 1 y z = (0, sc) → CB = some (0, sc) := fun ph => by
      rw [← hc0, ph]
      dsimp only
      rw [if_pos h00, if_pos trivial, h01]
    rcases in_cell L y with ⟨a, b, _⟩ | ⟨k, hk, hc, rfl, a, b⟩
    · rw [b, if_pos h00, Bd_some, if_pos h00] at hm0
      exact bad (C0 (by unfold C_X1_putHedge; rw [Lt_e, a, if_pos h00])) hm0.symm
    have S0 : bq (sc.2 1 8) k = true → C_X1_putHedge sc 1 (nI k) z = (0, sc) := fun q8 => by
      unfold C_X1_putHedge
      rw [Lt_e, a, if_neg h10, Lt_e, c_hasSeed hk, q8, ift1]
    rw [b, if_neg h10, if_neg (by decide : ¬ (2 : Int32) = 1)] at hm0
    rcases inN m z 1 (by decide) with ⟨a', _⟩ | ⟨n, hn, rfl, a'⟩
    · rw [show M_isIn m z 0 1 = 0 from a', if_pos h00, Bd_some, if_pos h00] at hm0
      refine bad (C0 ?_) hm0.symm
      cases q8 : bq (sc.2 1 8) k with
      | true => exact S0 q8
      | false =>
        unfold C_X1_putHedge
        rw [Lt_e, a, if_neg h10, Lt_e, c_hasSeed hk, q8, ift0, Lt_e, show C_X9_isWithin sc z 0 1 = M_isIn m z 0 1 from rfl, show M_isIn m z 0 1 = 0 from a', if_pos h00]
    rw [show M_isIn m (nI n) 0 1 = 1 from a', if_neg h10, m_seedOf hk, Bd_some] at hm0
    cases q8 : bq (sc.2 1 8) k with
    | true =>
      obtain ⟨_, n', hn', _, e, _⟩ := L.sd k hk q8
      have hnm : ¬ nI n' = (-1 : Int32) := n_nI_m1 (by omega)
      rw [e, n_sub1, if_neg hnm, Bd_some, if_pos h00] at hm0
      exact bad (C0 (S0 q8)) hm0.symm
    | false =>
      rw [L.sd0 k hk q8, if_pos hm1, Bd_some, if_neg h10, if_neg (by decide : ¬ (2 : Int32) = 0), if_neg (by decide : ¬ (2 : Int32) = 1), if_pos (rfl : (2 : Int32) = 2), Gs_n hk (by decide)] at hm0
      have go : ∀ v : Int64, C_X1_putHedge sc 1 (nI k) (nI n) = (1, upl sc 1 7 v) → (∀ j, j < 64 → bq v j = if j = k then decide (n = 1) else bq (sc.2 1 7) j) → ∃ r sc' sm', CB = some (r, sc') ∧ MB = some (r, sm') ∧ Rel sc' sm' := fun v ph hv => by
        rw [ph] at hc0
        dsimp only at hc0
        rw [if_neg h10, if_neg h10, h11] at hc0
        refine ⟨1, _, _, hc0.symm, hm0.symm, W, H, nk, nc, nl, nw, np, ?_⟩
        have l7 : (upl sc 1 7 v).2 1 7 = v := by rw [upl_at, if_pos rfl, if_pos rfl]
        refine R8_set R' (LD_new L (fun i hi => rfl) rfl rfl rfl rfl rfl rfl rfl rfl (by rw [ups_ne (by decide)]) (by rw [ups_ne (by decide)]) (ups_ne (by decide)) (by
          obtain ⟨n, h1, h2, h3⟩ := L.birds
          exact ⟨n, h1, h2, by rw [ups_ne (by decide), h3]⟩) (fun j hj => ?_) (fun j hj h => ?_)) (fun c hc => ⟨rfl, by
            unfold upl
            dsimp only
            rw [if_neg (by omega)]⟩) (agr.rf.ups (by decide)) (fun i hi => by rw [ups_ne (by decide)]) (fun i hi => by rw [ups_ne (by decide)])
        · rw [l7, hv j hj, rd1]
          by_cases q : j = k
          · rw [if_pos q, if_pos q]
            have : n = 0 ∨ n = 1 := by omega
            rcases this with rfl | rfl <;> rfl
          · rw [if_neg q, if_neg q]
            exact L.hed j hj
        · rw [l7, hv j hj] at h
          by_cases q : j = k
          · rw [q]
            exact hc
          · rw [if_neg q] at h
            exact L.hcl j hj h
      have hn01 : n = 0 ∨ n = 1 := by omega
      rcases hn01 with rfl | rfl
      · refine go (sc.2 1 7 &&& (bit1 k ^^^ (-1 : Int64))) ?_ (fun j hj => ?_)
        · unfold C_X1_putHedge
          rw [Lt_e, a, if_neg h10, Lt_e, c_hasSeed hk, q8, ift0, Lt_e, show C_X9_isWithin sc (nI 0) 0 1 = M_isIn m (nI 0) 0 1 from rfl, show M_isIn m (nI 0) 0 1 = 1 from a', if_neg h10, Lt_e, Lt_e, if_neg (by decide : ¬ nI 0 = (1 : Int32)), bit1_e]
          rfl
        · rw [bq_clr hk hj]
          by_cases q : j = k
          · rw [if_pos q, decide_eq_true q]
            cases bq (sc.2 1 7) j <;> rfl
          · rw [if_neg q, decide_eq_false q]
            cases bq (sc.2 1 7) j <;> rfl
      · refine go (sc.2 1 7 ||| bit1 k) ?_ (fun j hj => ?_)
        · unfold C_X1_putHedge
          rw [Lt_e, a, if_neg h10, Lt_e, c_hasSeed hk, q8, ift0, Lt_e, show C_X9_isWithin sc (nI 1) 0 1 = M_isIn m (nI 1) 0 1 from rfl, show M_isIn m (nI 1) 0 1 = 1 from a', if_neg h10, Lt_e, Lt_e, if_pos (by decide : nI 1 = (1 : Int32)), bit1_e]
          rfl
        · rw [bq_set hk hj]
          by_cases q : j = k
          · rw [if_pos q, decide_eq_true q]
            cases bq (sc.2 1 7) j <;> rfl
          · rw [if_neg q, decide_eq_false q]
            cases bq (sc.2 1 7) j <;> rfl
  · rw [if_neg x2, if_pos trivial, h01] at hc0
    have e12 : M_isIn m x 1 2 = 0 := by
      unfold M_isIn
      by_cases h1 : x < 1
      · rw [if_pos h1]
      · rw [if_neg h1]
        by_cases h2 : (2 : Int32) < x
        · rw [if_pos h2]
        · refine absurd ?_ x2
          rw [Int32.lt_iff_toInt_lt] at h1 h2
          have a1 : (1 : Int32).toInt = 1 := by decide
          have a2 : (2 : Int32).toInt = 2 := by decide
          have : x.toInt ≠ 1 := fun e => x1 (Int32.toInt_inj.mp (e.trans a1.symm))
          exact Int32.toInt_inj.mp (by omega)
    rw [e12, if_pos h00, Bd_some, if_pos h00] at hm0
    exact bad hc0.symm hm0.symm
