/-! # stage 2: what is kept, and undone -/
theorem n_mod6 {n : Nat} (h : n < 100) : irm (nI n) (6 : Int32) = nI (n % 6) := irm_nI (m := 6) (by omega) (by decide)
/-- room made: the oldest of six goes -/
theorem keep_room {W H nk : Nat} {sc sm : ST} (S : HS W H nk sc sm) (hl : HL sm) (K1 : ST → Option ST) (K2 : ST → Option ST) :
    ∃ sc' sm', (if (sc.1 80 3) = (6 : Int32) then (Lt (ups sc 80 2 (irm ((sc.1 80 2) + (1 : Int32)) (6 : Int32))) fun s6 => Lt (ups s6 80 3 ((s6.1 80 3) - (1 : Int32))) fun s7 => K1 s7) else (K1 sc)) = K1 sc' ∧
      (if (sm.1 0 3) = (6 : Int32) then (Lt (ups sm 0 3 ((sm.1 0 3) - (1 : Int32))) fun s5 => lpK2 (C := ST) (fun (rec2 : Int32 → ST → Option (ST)) (a2 : Int32) (s6 : ST) => if ((389 : Int32) * (s6.1 0 3)) ≤ a2 then (K2 s6) else (Gl s6 2 2334 (a2 + (389 : Int32)) fun y2 => Gs s6 2 2334 a2 y2 fun s7 => rec2 (a2 + (1 : Int32)) s7)) FU (0 : Int32) s5) else (K2 sm)) = K2 sm' ∧
      HS W H nk sc' sm' ∧ HL sm' ∧ agr [80] sc sc' ∧ agr [0, 2] sm sm' ∧ (∀ i, i ≠ 3 → sm'.1 0 i = sm.1 0 i) ∧ ∃ o u, o < 6 ∧ u < 6 ∧ sc'.1 80 2 = nI o ∧ sc'.1 80 3 = nI u ∧ sm'.1 0 3 = nI u := by
  obtain ⟨o, u, ho, hu, h1, h2, h3, h4⟩ := S.h
  rw [h2, h3]
  by_cases h6 : u = 6
  · subst h6
    rw [if_pos (show nI 6 = (6 : Int32) from rfl), if_pos (show nI 6 = (6 : Int32) from rfl)]
    simp only [Lt_n]
    have e5 : nI 6 - (1 : Int32) = nI 5 := nI_pred 5
    have c3 : (ups sc 80 2 (irm ((sc.1 80 2) + (1 : Int32)) (6 : Int32))).1 80 3 = nI 6 := by rw [rd1, if_neg (by decide), h2]
    rw [m_shift (s := ups sm 0 3 (nI 6 - 1)) (by rw [rd1, if_pos rfl, e5]), c3, h1, nI_1, n_mod6 (by omega), e5]
    have s80 : ∀ i, (ups (ups sc 80 2 (nI ((o + 1) % 6))) 80 3 (nI 5)).1 80 i = if i = 3 then nI 5 else if i = 2 then nI ((o + 1) % 6) else sc.1 80 i := fun i => by rw [rd2]
    have agc : agr [80] sc (ups (ups sc 80 2 (nI ((o + 1) % 6))) 80 3 (nI 5)) := (agr.rf.ups (by decide)).ups (by decide)
    have agm : agr [0, 2] sm (upr (ups sm 0 3 (nI 5)) 2 (fun k => if 0 ≤ k ∧ k < 0 + 1945 then (ups sm 0 3 (nI 5)).1 2 (k - 0 + 389) else (ups sm 0 3 (nI 5)).1 2 k)) := (agr.rf.ups (by decide)).upr (by decide)
    have m03 : ∀ i, (upr (ups sm 0 3 (nI 5)) 2 (fun k => if 0 ≤ k ∧ k < 0 + 1945 then (ups sm 0 3 (nI 5)).1 2 (k - 0 + 389) else (ups sm 0 3 (nI 5)).1 2 k)).1 0 i = if i = 3 then nI 5 else sm.1 0 i := fun i => by rw [upr_ne (by decide), rd1]
    have m2 : ∀ k, k < 1945 → (upr (ups sm 0 3 (nI 5)) 2 (fun k => if 0 ≤ k ∧ k < 0 + 1945 then (ups sm 0 3 (nI 5)).1 2 (k - 0 + 389) else (ups sm 0 3 (nI 5)).1 2 k)).1 2 k = sm.1 2 (k + 389) := fun k hk => by
      rw [upr_eq]
      rw [if_pos (by omega), ups_ne (by decide), Nat.sub_zero]
    generalize ups (ups sc 80 2 (nI ((o + 1) % 6))) 80 3 (nI 5) = sc' at *
    generalize upr (ups sm 0 3 (nI 5)) 2 (fun k => if 0 ≤ k ∧ k < 0 + 1945 then (ups sm 0 3 (nI 5)).1 2 (k - 0 + 389) else (ups sm 0 3 (nI 5)).1 2 k) = sm' at *
    refine ⟨sc', sm', rfl, rfl, ⟨(o + 1) % 6, 5, Nat.mod_lt _ (by decide), by decide, by rw [s80, if_neg (by decide), if_pos rfl], by rw [s80, if_pos rfl], by rw [m03, if_pos rfl], fun j hj => ?_⟩, ?_, agc, agm, fun i hi => by rw [m03, if_neg hi], (o + 1) % 6, 5, Nat.mod_lt _ (by decide), by decide, by rw [s80, if_neg (by decide), if_pos rfl], by rw [s80, if_pos rfl], by rw [m03, if_pos rfl]⟩
    · obtain ⟨g1, g2, g3⟩ := h4 (j + 1) (by omega)
      have ej : ((o + 1) % 6 + j) % 6 = (o + (j + 1)) % 6 := by omega
      rw [ej]
      have hm : (o + (j + 1)) % 6 < 6 := Nat.mod_lt _ (by decide)
      generalize (o + (j + 1)) % 6 = t at *
      refine ⟨LD_agr9 g1 (fun i hi => (agc _ (by simp only [List.mem_cons, List.not_mem_nil, or_false]; omega)).1) (agc _ (by simp only [List.mem_cons, List.not_mem_nil, or_false]; omega)).2 (fun i hi => ?_) (fun i hi => ?_) ?_, ?_, ?_⟩
      · rw [upr_ne (by decide), upr_ne (by decide), m03, if_neg]
        rintro rfl
        exact absurd hi (by decide)
      · rw [upr_eq, upr_eq]
        rw [m2 _ (by omega)]
        exact congrArg (sm.1 2) (by omega)
      · rw [upr_ne (by decide), upr_ne (by decide), (agm 4 (by decide)).1]
      · obtain ⟨d, hd, e⟩ := g2
        refine ⟨d, hd, ?_⟩
        rw [m2 _ (by omega), ← e]
        congr 1
      · rw [(agc 82 (by decide)).1, g3, m2 _ (by omega)]
        congr 1
    · obtain ⟨u', f, a1, a2, a3, a4, a5⟩ := hl
      have hu' : u' = 6 := by
        rw [h3] at a2
        exact ((nI_eq (by decide) (by omega)).mp a2).symm
      subst hu'
      refine ⟨5, fun j => f (j + 1), by decide, by rw [m03, if_pos rfl], fun j hj => ?_, a4, by rw [(agm 1 (by decide)).1]; exact a5⟩
      obtain ⟨b1, b2⟩ := a3 (j + 1) (by omega)
      refine ⟨?_, b2⟩
      rw [m2 _ (by omega), ← b1]
      exact congrArg (sm.1 2) (by omega)
  · have hu6 : u < 6 := by omega
    have hne : ¬ nI u = (6 : Int32) := by rw [show (6 : Int32) = nI 6 from rfl, nI_eq (by omega) (by decide)]; exact h6
    rw [if_neg hne, if_neg hne]
    exact ⟨sc, sm, rfl, rfl, S, hl, agr.rf, agr.rf, fun _ _ => rfl, o, u, ho, hu6, h1, h2, h3⟩
/-- what is now is kept -/
theorem keep_sim {W H nk : Nat} {sc sm : ST} (L : LD W H nk 1 sc sm) (B : BK 23 sc sm) (hd : ∃ d, d ≤ 999 ∧ sm.1 1 0 = nI d) (S : HS W H nk sc sm) (hl : HL sm) : ∃ sc' sm', C_X0_keep sc = some sc' ∧ M_keepsAhead sm = some sm' ∧ HS W H nk sc' sm' ∧ HL sm' ∧ (∀ c, c < 80 → sc'.1 c = sc.1 c ∧ sc'.2 c = sc.2 c) ∧ agr [0, 2] sm sm' ∧ ∀ i, i ≠ 3 → sm'.1 0 i = sm.1 0 i := by
  obtain ⟨s1, t1, e1, e2, S1, hl1, a1, b1, b0, o, u, ho, hu, q2, q3, q4⟩ := keep_room S hl (fun s1 => Lt ((irm ((s1.1 80 2) + (s1.1 80 3)) (6 : Int32))) fun y1 => Ga y1 fun b1 => Lt (fun (s2 : ST) => (Gs s2 82 6 y1 (s2.1 23 2) fun s3 => Lt (ups s3 80 3 ((s3.1 80 3) + (1 : Int32))) fun s4 => some s4 : Option (ST))) fun j2 => Bd (C_X1_copy s1 b1 1) fun s5 => j2 s5) (fun s1 => lpK2 (C := ST) (fun (rec1 : Int32 → ST → Option (ST)) (a1 : Int32) (s2 : ST) => if (389 : Int32) ≤ a1 then (Lt (ups s2 0 3 ((s2.1 0 3) + (1 : Int32))) fun s3 => some s3) else (Gl s2 1 389 a1 fun y1 => Gs s2 2 2334 (((389 : Int32) * (s2.1 0 3)) + a1) y1 fun s4 => rec1 (a1 + (1 : Int32)) s4)) FU (0 : Int32) s1)
  have e1 : C_X0_keep sc = _ := e1
  have e2 : M_keepsAhead sm = _ := e2
  rw [e1, e2]
  clear e1 e2
  have hm : (o + u) % 6 < 6 := Nat.mod_lt _ (by decide)
  obtain ⟨s2, f1, f2, f3, f4, f5⟩ := copyL (s := s1) (b := 83 + 7 * ((o + u) % 6)) (x := 1) (Or.inr (by omega))
  have f2' : ∀ c, c < 83 ∨ 83 + 7 * ((o + u) % 6) + 6 < c ∨ (83 ≤ c ∧ c < 83 + 7 * ((o + u) % 6)) → s2.1 c = s1.1 c ∧ s2.2 c = s1.2 c := fun c hc => f2 c (by simp only [List.mem_cons, List.not_mem_nil, or_false]; omega)
  have e82 : s2.1 80 3 = nI u := by rw [(f2' 80 (by omega)).1]; exact q3
  have e23 : s1.1 23 = sc.1 23 := (a1 23 (by decide)).1
  rw [m_push hu q4, Lt_e, q2, q3, nI_add, n_mod6 (by omega), Ga_n hm]
  simp only [Lt_n]
  rw [f1, Bd_some, Gs_n hm (by decide), ups_ne (by decide), e82, nI_1]
  have c80 : ∀ i, (ups (ups s2 82 ((o + u) % 6) (s2.1 23 2)) 80 3 (nI (u + 1))).1 80 i = if i = 3 then nI (u + 1) else s1.1 80 i := fun i => by rw [rd1, ups_ne (by decide), (f2' 80 (by omega)).1]
  have c82 : ∀ i, (ups (ups s2 82 ((o + u) % 6) (s2.1 23 2)) 80 3 (nI (u + 1))).1 82 i = if i = (o + u) % 6 then sc.1 23 2 else s1.1 82 i := fun i => by rw [ups_ne (by decide), rd1, (f2' 82 (by omega)).1, (f2' 23 (by omega)).1, e23]
  have cc : ∀ c, c ≠ 80 → c ≠ 82 → (ups (ups s2 82 ((o + u) % 6) (s2.1 23 2)) 80 3 (nI (u + 1))).1 c = s2.1 c := fun c h1 h2 => by rw [ups_ne h1, ups_ne h2]
  have cc2 : (ups (ups s2 82 ((o + u) % 6) (s2.1 23 2)) 80 3 (nI (u + 1))).2 = s2.2 := rfl
  have m03 : ∀ i, (ups (upr t1 2 (fun k => if 389 * u ≤ k ∧ k < 389 * u + 389 then t1.1 1 (k - 389 * u) else t1.1 2 k)) 0 3 (nI (u + 1))).1 0 i = if i = 3 then nI (u + 1) else t1.1 0 i := fun i => by rw [rd1, upr_ne (by decide)]
  have m2 : ∀ k, (ups (upr t1 2 (fun k => if 389 * u ≤ k ∧ k < 389 * u + 389 then t1.1 1 (k - 389 * u) else t1.1 2 k)) 0 3 (nI (u + 1))).1 2 k = if 389 * u ≤ k ∧ k < 389 * u + 389 then t1.1 1 (k - 389 * u) else t1.1 2 k := fun k => by rw [ups_ne (by decide), upr_eq]
  have mm : ∀ c, c ≠ 0 → c ≠ 2 → (ups (upr t1 2 (fun k => if 389 * u ≤ k ∧ k < 389 * u + 389 then t1.1 1 (k - 389 * u) else t1.1 2 k)) 0 3 (nI (u + 1))).1 c = t1.1 c := fun c h1 h2 => by rw [ups_ne h1, upr_ne h2]
  have mm2 : (ups (upr t1 2 (fun k => if 389 * u ≤ k ∧ k < 389 * u + 389 then t1.1 1 (k - 389 * u) else t1.1 2 k)) 0 3 (nI (u + 1))).2 = t1.2 := rfl
  generalize ups (ups s2 82 ((o + u) % 6) (s2.1 23 2)) 80 3 (nI (u + 1)) = sc' at *
  generalize ups (upr t1 2 (fun k => if 389 * u ≤ k ∧ k < 389 * u + 389 then t1.1 1 (k - 389 * u) else t1.1 2 k)) 0 3 (nI (u + 1)) = sm' at *
  obtain ⟨o', u', ho', hu', g1, g2, g3, g4⟩ := S1.h
  have eo : o' = o := by
    rw [q2] at g1
    exact ((nI_eq (by omega) (by omega)).mp g1).symm
  have eu : u' = u := by
    rw [q3] at g2
    exact ((nI_eq (by omega) (by omega)).mp g2).symm
  subst eo eu
  obtain ⟨d, hd1, hd2⟩ := hd
  obtain ⟨n, hn, bn1, bn2, _⟩ := B
  have t11 : t1.1 1 = sm.1 1 := (b1 1 (by decide)).1
  have t14 : t1.1 4 = sm.1 4 := (b1 4 (by decide)).1
  refine ⟨sc', sm', rfl, rfl, ⟨o', u' + 1, ho, by omega, by rw [c80, if_neg (by decide), q2], by rw [c80, if_pos rfl], by rw [m03, if_pos rfl], fun j hj => ?_⟩, ?_, fun c hc => ⟨?_, ?_⟩, fun c hc => ?_, fun i hi => by rw [m03, if_neg hi, b0 i hi]⟩
  · by_cases hju : j = u'
    · subst hju
      refine ⟨?_, ⟨d, hd1, by rw [m2, if_pos (by omega), t11, ← hd2]; exact congrArg (sm.1 1) (by omega)⟩, by rw [c82, if_pos rfl, m2, if_pos (by omega), bn1, t11, ← bn2]; exact congrArg (sm.1 1) (by omega)⟩
      have L2 : LD W H nk (83 + 7 * ((o' + j) % 6)) s2 sm := copy_LD f3 f4 f5 (LD_agr L (fun c hc => (a1 c (by simp only [List.mem_cons, List.not_mem_nil, or_false] at hc ⊢; omega)).1) (a1 1 (by decide)).2 (fun _ _ => rfl) rfl rfl)
      refine LD_agr9 L2 (fun i hi => cc _ (by omega) (by omega)) (by rw [cc2]) (fun i hi => ?_) (fun i hi => ?_) ?_
      · have hi3 : i ≠ 3 := by rintro rfl; exact absurd hi (by decide)
        rw [upr_ne (by decide), m03, if_neg hi3, b0 i hi3]
      · rw [upr_eq]
        rw [m2, if_pos (by omega), t11]
        exact congrArg (sm.1 1) (by omega)
      · rw [upr_ne (by decide), mm 4 (by decide) (by decide), t14]
    · obtain ⟨x1, x2, x3⟩ := g4 j (by omega)
      have hm2 : (o' + j) % 6 < 6 := Nat.mod_lt _ (by decide)
      have hne : (o' + j) % 6 ≠ (o' + u') % 6 := by omega
      generalize (o' + j) % 6 = t at *
      generalize (o' + u') % 6 = w at *
      have fr : ∀ i, i ≤ 6 → s2.1 (83 + 7 * t + i) = s1.1 (83 + 7 * t + i) ∧ s2.2 (83 + 7 * t + i) = s1.2 (83 + 7 * t + i) := fun i hi => f2' _ (by omega)
      refine ⟨LD_agr9 x1 (fun i hi => by rw [cc _ (by omega) (by omega), (fr i hi).1]) (by rw [cc2]; exact (fr 0 (by decide)).2) (fun i hi => ?_) (fun i hi => ?_) ?_, ?_, ?_⟩
      · have hi3 : i ≠ 3 := by rintro rfl; exact absurd hi (by decide)
        rw [upr_ne (by decide), upr_ne (by decide), m03, if_neg hi3]
      · rw [upr_eq, upr_eq]
        rw [m2, if_neg (by omega)]
      · rw [upr_ne (by decide), upr_ne (by decide), mm 4 (by decide) (by decide)]
      · rw [m2, if_neg (by omega)]
        exact x2
      · rw [c82, if_neg hne, m2, if_neg (by omega)]
        exact x3
  · obtain ⟨v, f, y1, y2, y3, y4, y5⟩ := hl1
    have hv : v = u' := by
      rw [q4] at y2
      exact ((nI_eq (by omega) (by omega)).mp y2).symm
    subst hv
    refine ⟨v + 1, fun j => if j = v + 1 then f v else f j, by omega, by rw [m03, if_pos rfl], fun j hj => ?_, by dsimp only; rw [if_pos rfl]; exact y4, by dsimp only; rw [if_pos rfl, mm 1 (by decide) (by decide)]; exact y5⟩
    dsimp only
    rw [if_neg (by omega)]
    by_cases hjv : j = v
    · subst hjv
      refine ⟨?_, by rw [if_pos rfl]; exact Nat.le_refl _⟩
      rw [m2, if_pos (by omega), ← y5]
      exact congrArg (t1.1 1) (by omega)
    · obtain ⟨z1, z2⟩ := y3 j (by omega)
      exact ⟨by rw [m2, if_neg (by omega)]; exact z1, by rw [if_neg (by omega)]; exact z2⟩
  · rw [cc c (by omega) (by omega), (f2' c (by omega)).1, (a1 c (by simp only [List.mem_cons, List.not_mem_nil, or_false]; omega)).1]
  · rw [cc2, (f2' c (by omega)).2, (a1 c (by simp only [List.mem_cons, List.not_mem_nil, or_false]; omega)).2]
  · simp only [List.mem_cons, List.not_mem_nil, or_false, not_or] at hc
    exact ⟨by rw [mm c hc.1 hc.2]; exact (b1 c (by simp only [List.mem_cons, List.not_mem_nil, or_false]; omega)).1, by rw [mm2]; exact (b1 c (by simp only [List.mem_cons, List.not_mem_nil, or_false]; omega)).2⟩
