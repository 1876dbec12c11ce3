/-- wet of a cell, written by both, or by one side where it is no matter -/
theorem wet_r {W H nk k : Nat} {x : Int32} {dy : Int32} {sc0 sm0 sc sm sm' : ST} (D : Dr W H nk dy sc0 sm0 sc sm) (hk : k < 64) (hm : agr [1] sm sm') (h1 : ∀ i, i ≠ 5 + k → sm'.1 1 i = sm.1 1 i) (hx : cl W H k → ∃ n, n ≤ 9 ∧ x = nI n ∧ sm'.1 1 (5 + k) + 3 = nI n) : Dr W H nk dy sc0 sm0 (ups sc 2 k x) sm' := by
  have L := D.1
  have F : ∀ c, c ≠ 2 → (ups sc 2 k x).1 c = sc.1 c := fun c h => ups_ne h
  refine ⟨LD_fchg L (by rw [F _ (by decide)]) (by rw [F _ (by decide)]) (by rw [F _ (by decide)]) rfl (F _ (by decide)) (F _ (by decide)) (F _ (by decide)) (F _ (by decide)) (F _ (by decide)) (hm 0 (by decide)).1 (hm 4 (by decide)).1 (fun i hi => h1 i (by omega)) ?_ ?_ ?_ ?_ (fun j hj hc => ?_), D.2.1.ups (by decide), D.2.2.1.tr (hm.mono (by decide)), NBr_agr D.2.2.2.1 rfl rfl (h1 2 (by omega)) (hm 5 (by decide)).1 (hm 2 (by decide)).1 (hm 0 (by decide)).1, by rw [h1 0 (by omega)]; exact D.2.2.2.2⟩
  · rw [F _ (by decide), h1 0 (by omega)]; exact L.day
  · rw [F _ (by decide), h1 3 (by omega)]; exact L.wind
  · rw [F _ (by decide), h1 4 (by omega)]; exact L.harm
  · rw [F _ (by decide), h1 1 (by omega)]; exact L.draws
  · show ∃ n, n ≤ 9 ∧ (ups sc 2 k x).1 2 j = nI n ∧ _
    rw [rd1]
    by_cases q : j = k
    · subst q
      rw [if_pos rfl]
      exact hx hc
    · rw [if_neg q, h1 _ (by omega)]
      exact L.wet j hj hc
theorem wetm_r {W H nk k : Nat} {dy : Int32} {sc0 sm0 sc sm sm' : ST} (D : Dr W H nk dy sc0 sm0 sc sm) (hm : agr [1] sm sm') (h1 : ∀ i, i ≠ 5 + k → sm'.1 1 i = sm.1 1 i) (hk : k < 64) (hx : sm'.1 1 (5 + k) + 3 = sm.1 1 (5 + k) + 3) : Dr W H nk dy sc0 sm0 sc sm' := by
  have L := D.1
  refine ⟨LD_fchg L rfl rfl rfl rfl rfl rfl rfl rfl rfl (hm 0 (by decide)).1 (hm 4 (by decide)).1 (fun i hi => h1 i (by omega)) ?_ ?_ ?_ ?_ (fun j hj hc => ?_), D.2.1, D.2.2.1.tr (hm.mono (by decide)), NBr_agr D.2.2.2.1 rfl rfl (h1 2 (by omega)) (hm 5 (by decide)).1 (hm 2 (by decide)).1 (hm 0 (by decide)).1, by rw [h1 0 (by omega)]; exact D.2.2.2.2⟩
  · rw [h1 0 (by omega)]; exact L.day
  · rw [h1 3 (by omega)]; exact L.wind
  · rw [h1 4 (by omega)]; exact L.harm
  · rw [h1 1 (by omega)]; exact L.draws
  · by_cases q : j = k
    · subst q
      rw [hx]
      exact L.wet j hj hc
    · rw [h1 _ (by omega)]
      exact L.wet j hj hc
theorem fld_r {W H nk : Nat} {dy : Int32} {sc0 sm0 sc sm : ST} {x y : Int32} (D : Dr W H nk dy sc0 sm0 sc sm) (h : x = y) : Dr W H nk dy sc0 sm0 (ups sc 1 5 x) (ups sm 1 4 y) ∧ Dr W H nk y sc0 sm0 (ups sc 1 2 x) (ups sm 1 0 y) ∧ Dr W H nk dy sc0 sm0 (ups sc 1 6 x) (ups sm 1 1 y) := by
  have L := D.1
  subst h
  have C : ∀ i j, j ≠ i → (ups sc 1 i x).1 1 j = sc.1 1 j := fun i j h => by rw [rd1, if_neg h]
  have M : ∀ i j, j ≠ i → (ups sm 1 i x).1 1 j = sm.1 1 j := fun i j h => by rw [rd1, if_neg h]
  have c0 : ∀ i, (ups sc 1 i x).1 1 i = x := fun i => by rw [rd1, if_pos rfl]
  have m0 : ∀ i, (ups sm 1 i x).1 1 i = x := fun i => by rw [rd1, if_pos rfl]
  have wt : ∀ i i', i < 5 → ∀ k, k < 64 → cl W H k → ∃ n, n ≤ 9 ∧ (ups sc 1 i' x).1 (1 + 1) k = nI n ∧ (ups sm 1 i x).1 1 (5 + k) + 3 = nI n := fun i i' hi k hk hc => by
    rw [M i _ (by omega)]
    exact L.wet k hk hc
  refine ⟨⟨LD_fchg L (C _ _ (by decide)) (C _ _ (by decide)) (C _ _ (by decide)) rfl rfl rfl rfl rfl rfl rfl rfl (fun i hi => M _ _ (by omega)) ?_ ?_ ?_ ?_ (wt 4 5 (by decide)), D.2.1.ups (by decide), D.2.2.1.ups (by decide), NBr_agr D.2.2.2.1 rfl rfl (M _ _ (by decide)) rfl rfl rfl, by rw [M _ _ (by decide)]; exact D.2.2.2.2⟩, ⟨LD_fchg L (C _ _ (by decide)) (C _ _ (by decide)) (C _ _ (by decide)) rfl rfl rfl rfl rfl rfl rfl rfl (fun i hi => M _ _ (by omega)) ?_ ?_ ?_ ?_ (wt 0 2 (by decide)), D.2.1.ups (by decide), D.2.2.1.ups (by decide), NBr_agr D.2.2.2.1 rfl rfl (M _ _ (by decide)) rfl rfl rfl, m0 0⟩, ⟨LD_fchg L (C _ _ (by decide)) (C _ _ (by decide)) (C _ _ (by decide)) rfl rfl rfl rfl rfl rfl rfl rfl (fun i hi => M _ _ (by omega)) ?_ ?_ ?_ ?_ (wt 1 6 (by decide)), D.2.1.ups (by decide), D.2.2.1.ups (by decide), NBr_agr D.2.2.2.1 rfl rfl (M _ _ (by decide)) rfl rfl rfl, by rw [M _ _ (by decide)]; exact D.2.2.2.2⟩⟩
  · rw [C _ _ (by decide), M _ _ (by decide)]; exact L.day
  · rw [C _ _ (by decide), M _ _ (by decide)]; exact L.wind
  · rw [c0, m0]
  · rw [C _ _ (by decide), M _ _ (by decide)]; exact L.draws
  · rw [c0, m0]
  · rw [C _ _ (by decide), M _ _ (by decide)]; exact L.wind
  · rw [C _ _ (by decide), M _ _ (by decide)]; exact L.harm
  · rw [C _ _ (by decide), M _ _ (by decide)]; exact L.draws
  · rw [C _ _ (by decide), M _ _ (by decide)]; exact L.day
  · rw [C _ _ (by decide), M _ _ (by decide)]; exact L.wind
  · rw [C _ _ (by decide), M _ _ (by decide)]; exact L.harm
  · rw [c0, m0]
theorem blow_r {W H nk nc nl nw np : Nat} {dy : Int32} {sc0 sm0 sc sm : ST} (D : Dr W H nk dy sc0 sm0 sc sm) (T : TD W H nk nc nl nw np 8 sc0 sm0) : ∃ sc' sm', C_X8_blow_r sc = some sc' ∧ M_doesHarm sm = some sm' ∧ Dr W H nk dy sc0 sm0 sc' sm' := by
  unfold C_X8_blow_r M_doesHarm
  refine lk33 (Q := fun oc om => ∃ sc' sm', oc = some sc' ∧ om = some sm' ∧ Dr W H nk dy sc0 sm0 sc' sm') (I := fun m a1 a2 s1 b1 b2 s2 => ∃ i, i + m = 64 ∧ a2 = nI i ∧ b2 = nI i ∧ a1 = b1 ∧ Dr W H nk dy sc0 sm0 s1 s2) ?_ FU 64 _ _ _ _ _ _ (by unfold FU; omega) ⟨0, by omega, rfl, rfl, rfl, D⟩
  rintro m rf rg a1 a2 s1 b1 b2 s2 ⟨i, him, rfl, rfl, rfl, D⟩ ih
  have L := D.1
  cases m with
  | zero =>
    have hi : i = 64 := by omega
    subst hi
    rw [if_pos (by decide), if_pos (by decide)]
    simp only [Lt_n]
    have D2 := (fld_r (x := s1.1 1 5 + a1) (y := s2.1 1 4 + a1) D (by rw [L.harm])).1
    generalize hu : ups s1 1 5 (s1.1 1 5 + a1) = u at D2
    generalize hv : ups s2 1 4 (s2.1 1 4 + a1) = v at D2
    have hdry : ∃ p : Bool, (irm (v.1 1 0) (2 : Int32) = 0 ↔ p = true) := ⟨decide (irm (v.1 1 0) (2 : Int32) = 0), by simp⟩
    obtain ⟨p, hp⟩ := hdry
    have hday : u.1 1 2 = v.1 1 0 := D2.1.day
    have key : ∀ z : Int32, (z = if p = true then 1 else 0) → ∃ sc' sm', lpK2 (C := ST) (fun (rec2 : Int32 → ST → Option (ST)) (a4 : Int32) (s3 : ST) => if (64 : Int32) ≤ a4 then (some s3) else (Gl s3 2 64 a4 fun y1 => if C_X1_hasStorm s3 1 a4 = 0 then (if z = 0 then (rec2 (a4 + (1 : Int32)) s3) else (Gs s3 2 64 a4 (imx (0 : Int32) (y1 - (1 : Int32))) fun s5 => rec2 (a4 + (1 : Int32)) s5)) else (Gl s3 6 64 a4 fun y3 => Gs s3 2 64 a4 (imn (9 : Int32) (y1 + (imx (1 : Int32) (y3 / (3 : Int32))))) fun s6 => rec2 (a4 + (1 : Int32)) s6))) FU (0 : Int32) u = some sc' ∧ lpK2 (C := ST) (fun (rec2 : Int32 → ST → Option (ST)) (a3 : Int32) (s3 : ST) => if (64 : Int32) ≤ a3 then (some s3) else (if M_isCell s3 a3 = 0 then (rec2 (a3 + (1 : Int32)) s3) else (Bd (M_stormOf s3 a3) fun y3 => if y3 = (-1 : Int32) then (if (irm (s3.1 1 0) (2 : Int32)) = 0 then (Bd (M_wetOf s3 a3) fun y4 => Gs s3 1 389 ((5 : Int32) + a3) ((M_held s3 (y4 + (-1 : Int32)) (0 : Int32) (9 : Int32)) - (3 : Int32)) fun s5 => rec2 (a3 + (1 : Int32)) s5) else (Bd (M_wetOf s3 a3) fun y4 => Gs s3 1 389 ((5 : Int32) + a3) ((M_held s3 (y4 + (0 : Int32)) (0 : Int32) (9 : Int32)) - (3 : Int32)) fun s5 => rec2 (a3 + (1 : Int32)) s5)) else (Gl s3 1 389 ((261 : Int32) + a3) fun y7 => Bd (M_wetOf s3 a3) fun y4 => Gs s3 1 389 ((5 : Int32) + a3) ((M_held s3 (y4 + (M_greater s3 (1 : Int32) (y7 / (3 : Int32)))) (0 : Int32) (9 : Int32)) - (3 : Int32)) fun s5 => rec2 (a3 + (1 : Int32)) s5)))) FU (0 : Int32) v = some sm' ∧ Dr W H nk dy sc0 sm0 sc' sm' := by
      intro z hz
      refine lk22 (Q := fun oc om => ∃ sc' sm', oc = some sc' ∧ om = some sm' ∧ Dr W H nk dy sc0 sm0 sc' sm') (I := fun m a2 t1 b2 t2 => ∃ i, i + m = 64 ∧ a2 = nI i ∧ b2 = nI i ∧ Dr W H nk dy sc0 sm0 t1 t2 ∧ t2.1 1 0 = v.1 1 0) ?_ FU 64 _ _ _ _ (by unfold FU; omega) ⟨0, by omega, rfl, rfl, D2, rfl⟩
      rintro m rf2 rg2 a2 t1 b2 t2 ⟨i, him, rfl, rfl, E, ed⟩ ih2
      have h10 : ¬ (1 : Int32) = 0 := by decide
      have h00 : (0 : Int32) = 0 := rfl
      have hm1 : (0 : Int32) - 1 = -1 := by decide
      have L2 := E.1
      cases m with
      | zero =>
        have hi : i = 64 := by omega
        subst hi
        rw [if_pos (by decide), if_pos (by decide)]
        exact ⟨t1, t2, rfl, rfl, E⟩
      | succ m =>
        have hi : i < 64 := by omega
        have nx : ∀ q1 q2, Dr W H nk dy sc0 sm0 q1 q2 → q2.1 1 0 = v.1 1 0 → ∃ sc' sm', rf2 (nI i + 1) q1 = some sc' ∧ rg2 (nI i + 1) q2 = some sm' ∧ Dr W H nk dy sc0 sm0 sc' sm' := fun q1 q2 h1 h2 => ih2 m _ _ _ _ (Nat.lt_succ_self m) ⟨i + 1, by omega, nI_1 i, nI_1 i, h1, h2⟩
        rw [if_neg (n_not64 hi), if_neg (n_not64 hi), Gl_n hi (by decide), c_hasStorm hi, m_isCell L2.w' L2.h' L2.W7 L2.H7 hi, ed]
        have mw : ∀ y : Int32, agr [1] t2 (ups t2 1 (5 + i) y) ∧ (∀ j, j ≠ 5 + i → (ups t2 1 (5 + i) y).1 1 j = t2.1 1 j) ∧ (ups t2 1 (5 + i) y).1 1 (5 + i) = y ∧ (ups t2 1 (5 + i) y).1 1 0 = t2.1 1 0 := fun y => ⟨agr.rf.ups (by decide), fun j hj => by rw [rd1, if_neg hj], by rw [rd1, if_pos rfl], by rw [rd1, if_neg (by omega)]⟩
        cases q : bq (t1.2 1 9) i with
        | true =>
          obtain ⟨hc, n', g, hn', h1, h9, q4, q197, q5, q261, q6⟩ := L2.st i hi q
          have q5 : t1.1 6 i = nI g := q5
          have hn8 := L2.n8
          obtain ⟨n, hn, w1, w2⟩ := L2.wet i hi hc
          have w1 : t1.1 2 i = nI n := w1
          obtain ⟨x, hx, r1, r2⟩ := n_rain n g hn h9
          rw [if_pos rfl, if_neg (by decide), if_pos hc, if_neg (by decide), Gl_n hi (by decide), w1, q5, r1, Gs_n hi (by decide), m_stormOf hi, q197, n_sub1, Bd_some, if_neg (n_nI_m1 (by omega)), show (261 : Int32) = nI 261 from rfl, nI_add, Gl_n (by omega) (by decide), q261, m_wetOf hi, Bd_some, w2, r2, show (5 : Int32) = nI 5 from rfl, nI_add, Gs_n (by omega) (by decide)]
          obtain ⟨k1, k2, k3, k4⟩ := mw (nI x - 3)
          exact nx _ _ (wet_r E hi k1 k2 (fun _ => ⟨x, hx, rfl, by rw [k3, Int32.sub_add_cancel]⟩)) (k4.trans ed)
        | false =>
          have q197 := L2.st0 i hi q
          rw [ift0, hz]
          by_cases hc : cl W H i
          · obtain ⟨n, hn, w1, w2⟩ := L2.wet i hi hc
            have w1 : t1.1 2 i = nI n := w1
            obtain ⟨y1, y2, y3⟩ := n_dry n hn
            rw [if_pos hc, if_neg h10, m_stormOf hi, q197, Bd_some, if_pos hm1, m_wetOf hi, Bd_some, w2, Bd_some, y2, y3, show (5 : Int32) = nI 5 from rfl, nI_add, Gs_n (by omega) (by decide), Gs_n (by omega) (by decide), Gs_n (by omega) (by decide)]
            cases p with
            | true =>
              rw [ift1, if_pos (hp.mpr rfl), w1, y1]
              obtain ⟨k1, k2, k3, k4⟩ := mw (nI (n - 1) - 3)
              exact nx _ _ (wet_r E hi k1 k2 (fun _ => ⟨n - 1, by omega, rfl, by rw [k3, Int32.sub_add_cancel]⟩)) (k4.trans ed)
            | false =>
              have hpn : ¬ irm (v.1 1 0) (2 : Int32) = 0 := fun h => Bool.noConfusion (hp.mp h)
              rw [ift0, if_neg hpn]
              obtain ⟨k1, k2, k3, k4⟩ := mw (nI n - 3)
              exact nx _ _ (wetm_r E k1 k2 hi (by rw [k3, Int32.sub_add_cancel, w2])) (k4.trans ed)
          · rw [if_neg hc, if_pos h00]
            cases p with
            | true =>
              rw [ift1, Gs_n hi (by decide)]
              exact nx _ _ (wet_r E hi agr.rf (fun _ _ => rfl) (fun h => absurd h hc)) ed
            | false =>
              rw [ift0]
              exact nx _ _ E ed
    rw [hday]
    by_cases hpp : p = true
    · rw [if_pos (hp.mpr hpp)]
      exact key 1 (by rw [if_pos hpp])
    · rw [if_neg (fun h => hpp (hp.mp h))]
      exact key 0 (by rw [if_neg hpp])
  | succ m =>
    have hi : i < 64 := by omega
    have nx : ∀ q1 q2 x, Dr W H nk dy sc0 sm0 q1 q2 → ∃ sc' sm', rf x (nI i + 1) q1 = some sc' ∧ rg x (nI i + 1) q2 = some sm' ∧ Dr W H nk dy sc0 sm0 sc' sm' := fun q1 q2 x h1 => ih m _ _ _ _ _ _ (Nat.lt_succ_self m) ⟨i + 1, by omega, nI_1 i, nI_1 i, rfl, h1⟩
    rw [if_neg (n_not64 hi), if_neg (n_not64 hi)]
    simp only [Lt_n]
    rw [c_hasStorm hi, m_isCell L.w' L.h' L.W7 L.H7 hi]
    cases q : bq (s1.2 1 9) i with
    | true =>
      obtain ⟨hc, _⟩ := L.st i hi q
      obtain ⟨v, sc', sm', x1, x2, x3, x4⟩ := harm_sim (b := 1) (by decide) L.lw (Dr_T D T) hi q
      rw [if_pos rfl, if_neg (by decide), if_pos hc, if_neg (by decide), Gl_n hi (by decide), show C_X2_ask s1 1 1 (s1.1 5 i) (nI i) 0 = some (v, sc') from x1, Bd_some, x2, Bd_some]
      exact nx _ _ _ (Dr_ag D x3 x4)
    | false =>
      rw [ift0]
      by_cases hc : cl W H i
      · rw [if_pos hc, if_neg (by decide), m_harm0 hi (L.st0 i hi q), Bd_some]
        rw [show a1 + (0 : Int32) = a1 from Int32.add_zero _]
        exact nx _ _ _ D
      · rw [if_neg hc, if_pos rfl]
        exact nx _ _ _ D

