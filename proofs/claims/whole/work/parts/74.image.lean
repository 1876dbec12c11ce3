/-! # stage 2: image, the call -/
theorem s_image : Sim_image Rel := by
  rintro sc sm x ⟨W, H, nk, nc, nl, nw, np, R⟩ hx
  have h10 : ¬ (1 : Int32) = 0 := by decide
  have h00 : (0 : Int32) = 0 := rfl
  have R' := R8_told R
  obtain ⟨CB, hc0⟩ : ∃ q, C_X9_image sc x = q := ⟨_, rfl⟩
  obtain ⟨MB, hm0⟩ : ∃ q, M_image sm x = q := ⟨_, rfl⟩
  rw [hc0, hm0]
  unfold C_X9_image at hc0
  unfold M_image at hm0
  rw [Lt_e, Lt_e] at hm0
  generalize ups sm 0 0 0 = m0 at *
  unfold Gb at hm0
  rw [if_pos hx, Lt_e, Lt_e, Lt_e] at hm0
  obtain ⟨s4, e4⟩ : ∃ s4, s4 = ups (ups (ups m0 0 50 x) 0 51 1) 0 52 0 := ⟨_, rfl⟩
  rw [← e4] at hm0
  have v0 : ∀ a, a ∉ [50, 51, 52] → s4.1 0 a = m0.1 0 a := fun a ha => by
    simp only [List.mem_cons, List.not_mem_nil, or_false, not_or] at ha
    rw [e4, rd3, if_neg ha.2.2, if_neg ha.2.1, if_neg ha.1]
  have vc : ∀ c, c ≠ 0 → s4.1 c = m0.1 c := fun c hc => by rw [e4, ups_ne hc, ups_ne hc, ups_ne hc]
  have K0 : KJ x s4 0 s4 := ⟨by rw [e4, rd3, if_pos rfl]; rfl, by rw [e4, rd3, if_neg (by decide), if_neg (by decide), if_pos rfl], fun i hi => absurd hi (Nat.not_lt_zero i), fun _ _ => rfl, fun _ _ _ _ _ => rfl, rfl⟩
  have v51 : s4.1 0 51 = 1 := by rw [e4, rd3, if_neg (by decide), if_pos rfl]
  obtain ⟨s8, e8, g1, g2, g3, g4, g5, g6⟩ := kj_image K0
  rw [e8] at hm0
  have unc : ∀ c, c ∉ [0, 1, 4, 5, 8, 9, 10, 11, 12, 13, 14, 16, 17, 18, 19, 23] → s8.1 c = m0.1 c := fun c hc => by
    simp only [List.mem_cons, List.not_mem_nil, or_false, not_or] at hc
    rw [← vc c hc.1]
    funext a
    refine g5 c a (by omega) (fun h => hc.1 h.1) (fun i hi e => ?_)
    have := (pl_c i hi).1
    rw [e] at this
    simp only [List.mem_cons, List.not_mem_nil, or_false] at this
    omega
  have un0 : ∀ a, a ∉ [6, 7, 8, 34, 36, 40, 42, 50, 51, 52] → s8.1 0 a = m0.1 0 a := fun a ha => by
    simp only [List.mem_cons, List.not_mem_nil, or_false, not_or] at ha
    rw [← v0 a (by simp only [List.mem_cons, List.not_mem_nil, or_false, not_or]; omega)]
    refine g5 0 a (by decide) (fun h => by omega) (fun i hi e => ?_)
    have := (pl_c i hi).2
    rw [e] at this
    have := this rfl
    simp only [List.mem_cons, List.not_mem_nil, or_false] at this
    omega
  have s51 : s8.1 0 51 = 1 := by
    rw [← v51]
    refine g5 0 51 (by decide) (fun h => absurd h.2 (by decide)) (fun i hi e => ?_)
    have := (pl_c i hi).2
    rw [e] at this
    exact absurd (this rfl) (by decide)
  have b6 := R'.I.b
  rcases hx with rfl | rfl
  · rw [if_pos h00] at hc0 hm0
    by_cases hb : m0.1 0 51 = 0
    · rw [b6, if_pos hb] at hc0
      rw [if_pos hb] at hm0
      exact ⟨0, sc, m0, hc0.symm, hm0.symm, W, H, nk, nc, nl, nw, np, R'⟩
    rw [b6, if_neg hb] at hc0
    rw [if_neg hb, if_pos h00, Lt_e] at hm0
    have hb1 : m0.1 0 51 = 1 := by
      rcases R'.I.o with h | h
      · exact absurd h hb
      · exact h
    obtain ⟨W', H', nk', nc', nl', nw', np', L25, T32, B47, d', hd', ed'⟩ := R'.I.i hb1
    have ta : TA (ups s8 0 3 0) (img m0) := fun i hi => by
      rw [img_pl m0 i hi, ups_pl, (g3 i hi).1]
      · show (if (0 : Int32) = 0 then s4.1 23 i else _) = _
        rw [if_pos h00, vc 23 (by decide)]
      · intro e
        have := (pl_c i hi).2 (by injection e)
        rw [show (pl i).2 = 3 by injection e] at this
        exact absurd this (by decide)
    have s23 : (ups s8 0 3 0).1 23 = m0.1 23 := by
      rw [ups_ne (by decide), ← vc 23 (by decide)]
      funext i
      by_cases hi : i < 2083
      · rw [(g3 i hi).2]
        exact if_pos h00
      · exact g4 i (by omega)
    obtain ⟨c1, x1, y1, f1, f2, f3⟩ := copyL (s := sc) (b := 1) (x := 25) (Or.inl (by decide))
    have K1 : KS c1 := KS_agr R'.K (fun c hc => by rw [(y1 c (by simp only [List.mem_cons, List.not_mem_nil, or_false] at hc ⊢; omega)).1])
    have T1 : TD W' H' nk' nc' nl' nw' np' 32 c1 (img m0) := TD_agr T32 (fun c hc => (y1 c (by simp only [List.mem_cons, List.not_mem_nil, or_false] at hc ⊢; omega)).1) (fun _ _ => rfl) (fun _ _ => rfl)
    obtain ⟨c2, x2, y2, k2, F2⟩ := c_copy7 (t := 8) (u := 32) (Or.inl ⟨rfl, rfl⟩) T1 K1
    have B47c := B47
    obtain ⟨nb, hnb, eb, _, _⟩ := B47c
    have eb2 : c2.1 47 2 = nI nb := by rw [(y2 47 (by decide)).1, (y1 47 (by decide)).1, eb]
    have ek2 : c2.1 23 0 = nI 150 := by rw [(y2 23 (by decide)).1, (y1 23 (by decide)).1]; exact R'.K.k23
    obtain ⟨c3, x3, y3, b3, k3, F3⟩ := c_tcopy (b := 23) (x := 47) eb2 ek2 hnb (by decide) (show 4 * nb ≤ 600 by omega) (show 4 * nb ≤ 600 by omega)
    rw [x1, Bd_some, x2, Bd_some, x3, Bd_some, Lt_e] at hc0
    unfold C_X0_forget at hc0
    rw [Lt_e] at hc0
    have ye : agr [1, 2, 3, 4, 5, 6, 7, 9, 10, 11, 12, 13, 14, 15, 16, 19, 20, 21, 22, 23, 24, 80] sc (ups c3 80 3 0) := ((((y1.mono (by decide)).tr (y2.mono (by decide))).tr (y3.mono (by decide))).ups (by decide))
    have y3e : agr [23, 24, 80] c2 (ups c3 80 3 0) := (y3.mono (by decide)).ups (by decide)
    have y2e : agr [9, 10, 11, 12, 13, 14, 15, 16, 19, 20, 21, 22, 23, 24, 80] c1 (ups c3 80 3 0) := ((y2.mono (by decide)).tr (y3.mono (by decide))).ups (by decide)
    have m3 : (ups s8 0 3 0).1 0 3 = 0 := by rw [rd1, if_pos rfl]
    have n0 : ∀ a, a ∉ [3, 6, 7, 8, 34, 36, 40, 42, 50, 51, 52] → (ups s8 0 3 0).1 0 a = m0.1 0 a := fun a ha => by
      rw [rd1, if_neg (by rintro rfl; exact ha (by decide))]
      exact un0 a (by simp only [List.mem_cons, List.not_mem_nil, or_false, not_or] at ha ⊢; omega)
    have B' : BK 23 (ups c3 80 3 0) (ups s8 0 3 0) := by
      refine BK_ta ta B47 ?_ (fun n en _ i hi => ?_)
      · rw [ups_ne (by decide), b3, eb]
      · have hnn : n = nb := by
          rw [eb, nI_eq (by omega) (by omega)] at en
          exact en.symm
        rw [ups_ne (by decide), F3 i (by omega), (y2 48 (by decide)).1, (y1 48 (by decide)).1]
    refine ⟨1, _, _, hc0.symm, hm0.symm, W', H', nk', nc', nl', nw', np', ?_, ?_, B', ⟨d', hd', by rw [ta.c1 0 (by decide)]; exact ed'⟩, ?_, ?_, ?_, ?_, ?_, ?_, fun i hi => ?_⟩
    · exact LD_ta ta (LD_agr (copy_LD f1 f2 f3 L25) (fun c hc => (y2e c (by simp only [List.mem_cons, List.not_mem_nil, or_false] at hc ⊢; omega)).1) (y2e 1 (by decide)).2 (fun _ _ => rfl) rfl rfl)
    · exact TD_agr (TD_ta ta T1 F2) (fun c hc => (y3e c (by simp only [List.mem_cons, List.not_mem_nil, or_false] at hc ⊢; omega)).1) (fun _ _ => rfl) (fun _ _ => rfl)
    · refine KS_agr R'.K (fun c hc => ?_)
      have z1 : c1.1 c 0 = sc.1 c 0 := by rw [(y1 c (by simp only [List.mem_cons, List.not_mem_nil, or_false] at hc ⊢; omega)).1]
      have z2 : c2.1 c 0 = c1.1 c 0 := by
        rcases k2 c with h | h
        · exact h
        · rw [(y2 c (by simp only [List.mem_cons, List.not_mem_nil, or_false] at hc h ⊢; omega)).1]
      have z3 : c3.1 c 0 = c2.1 c 0 := by
        by_cases h : c = 23
        · rw [h]; exact k3 0 (by decide)
        · rw [(y3 c (by simp only [List.mem_cons, List.not_mem_nil, or_false] at hc ⊢; omega)).1]
      rw [ups_ne (by simp only [List.mem_cons, List.not_mem_nil, or_false] at hc; omega), z3, z2, z1]
    · exact TP_agr R'.P (by rw [(ye 49 (by decide)).1]) (by rw [(ye 49 (by decide)).1]) (by rw [(ye 49 (by decide)).1]) (ye 50 (by decide)).1 (n0 12 (by decide)) (n0 32 (by decide)) (n0 33 (by decide)) (by rw [ups_ne (by decide)]; exact unc 6 (by decide))
    · refine HS_0 R'.S ?_ (by rw [rd1, if_pos rfl]) m3
      rw [rd1, if_neg (by decide), (y3 80 (by decide)).1, (y2 80 (by decide)).1, (y1 80 (by decide)).1]
    · exact HL_0 m3 B'
    · exact IM_agr R'.I (by rw [(ye 0 (by decide)).1]) (fun c h1 h2 _ _ => ye c (by simp only [List.mem_cons, List.not_mem_nil, or_false]; omega)) (by rw [rd1, if_neg (by decide), s51, hb1]) s23
    · rw [n0 5 (by decide)]
      exact R'.z
    · rw [ups_ne (by decide), unc 7 (by decide)]
      exact R'.w i hi
  · rw [if_neg h10] at hc0 hm0
    rw [if_neg h10] at hm0
    have keep : ∀ c a, c ≠ 23 → ¬ (c = 0 ∧ (a = 50 ∨ a = 51 ∨ a = 52)) → s8.1 c a = m0.1 c a := fun c a h1 h2 => by
      have e40 : s4.1 c a = m0.1 c a := by
        by_cases hc : c = 0
        · subst hc
          exact v0 a (by simp only [List.mem_cons, List.not_mem_nil, or_false, not_or]; omega)
        · rw [vc c hc]
      rw [← e40]
      by_cases q : ∃ i, i < 2083 ∧ pl i = (c, a)
      · obtain ⟨i, hi, e⟩ := q
        have := (g3 i hi).1
        unfold kv at this
        rw [if_neg h10, e] at this
        exact this
      · exact g5 c a h1 (fun h => h2 ⟨h.1, Or.inr (Or.inr h.2)⟩) (fun i hi e => q ⟨i, hi, e⟩)
    have kc : ∀ c, c ≠ 0 → c ≠ 23 → s8.1 c = m0.1 c := fun c h1 h2 => funext fun a => keep c a h2 (fun h => h1 h.1)
    have k0 : ∀ a, a ∉ [50, 51, 52] → s8.1 0 a = m0.1 0 a := fun a ha => keep 0 a (by decide) (fun h => ha (by simp only [List.mem_cons, List.not_mem_nil, or_false]; omega))
    have ta : TA (img s8) m0 := fun i hi => by
      rw [img_pl s8 i hi, (g3 i hi).2]
      unfold kv
      rw [if_neg h10, ← (keep _ _ (pl_n i hi).1 (fun h => ?_))]
      · have := (g3 i hi).1
        unfold kv at this
        rw [if_neg h10] at this
        exact this.symm
      · have := (pl_c i hi).2 h.1
        simp only [List.mem_cons, List.not_mem_nil, or_false] at this
        omega
    obtain ⟨c1, x1, y1, f1, f2, f3⟩ := copyL (s := sc) (b := 25) (x := 1) (Or.inr (by decide))
    have K1 : KS c1 := KS_agr R'.K (fun c hc => by rw [(y1 c (by simp only [List.mem_cons, List.not_mem_nil, or_false] at hc ⊢; omega)).1])
    have T1 : TD W H nk nc nl nw np 8 c1 m0 := TD_agr R'.T (fun c hc => (y1 c (by simp only [List.mem_cons, List.not_mem_nil, or_false] at hc ⊢; omega)).1) (fun _ _ => rfl) (fun _ _ => rfl)
    obtain ⟨c2, x2, y2, k2, F2⟩ := c_copy7 (t := 32) (u := 8) (Or.inr ⟨rfl, rfl⟩) T1 K1
    obtain ⟨nb, hnb, eb, _, _⟩ := R'.B
    have eb2 : c2.1 23 2 = nI nb := by rw [(y2 23 (by decide)).1, (y1 23 (by decide)).1, eb]
    have ek2 : c2.1 47 0 = nI 150 := by rw [(y2 47 (by decide)).1, (y1 47 (by decide)).1]; exact R'.K.k47
    obtain ⟨c3, x3, y3, b3, k3, F3⟩ := c_tcopy (b := 47) (x := 23) eb2 ek2 hnb (by decide) (show 4 * nb ≤ 600 by omega) (show 4 * nb ≤ 600 by omega)
    rw [x1, Bd_some, x2, Bd_some, x3, Bd_some, Lt_e] at hc0
    have ye : agr [0, 25, 26, 27, 28, 29, 30, 31, 33, 34, 35, 36, 37, 38, 39, 40, 43, 44, 45, 46, 47, 48] sc (ups c3 0 6 1) := ((((y1.mono (by decide)).tr (y2.mono (by decide))).tr (y3.mono (by decide))).ups (by decide))
    have y3e : agr [0, 47, 48] c2 (ups c3 0 6 1) := (y3.mono (by decide)).ups (by decide)
    have y2e : agr [0, 33, 34, 35, 36, 37, 38, 39, 40, 43, 44, 45, 46, 47, 48] c1 (ups c3 0 6 1) := ((y2.mono (by decide)).tr (y3.mono (by decide))).ups (by decide)
    refine ⟨1, _, _, hc0.symm, hm0.symm, W, H, nk, nc, nl, nw, np, ?_, ?_, ?_, ?_, ?_, ?_, ?_, ?_, ⟨?_, Or.inr s51, fun _ => ⟨W, H, nk, nc, nl, nw, np, ?_, ?_, ?_, ?_⟩⟩, ?_, fun i hi => ?_⟩
    · exact LD_agr R'.L (fun c hc => (ye c (by simp only [List.mem_cons, List.not_mem_nil, or_false] at hc ⊢; omega)).1) (ye 1 (by decide)).2 (fun i hi => k0 i (by simp only [List.mem_cons, List.not_mem_nil, or_false] at hi ⊢; omega)) (kc 1 (by decide) (by decide)) (kc 4 (by decide) (by decide))
    · exact TD_agr R'.T (fun c hc => (ye c (by simp only [List.mem_cons, List.not_mem_nil, or_false] at hc ⊢; omega)).1) (fun i hi => k0 i (by simp only [List.mem_cons, List.not_mem_nil, or_false] at hi ⊢; omega)) (fun c hc => kc c (by simp only [List.mem_cons, List.not_mem_nil, or_false] at hc; omega) (by simp only [List.mem_cons, List.not_mem_nil, or_false] at hc; omega))
    · exact BK_agr R'.B (by rw [(ye 23 (by decide)).1]) (ye 24 (by decide)).1 (by rw [kc 1 (by decide) (by decide)]) (kc 5 (by decide) (by decide))
    · rw [kc 1 (by decide) (by decide)]
      exact R'.d
    · refine KS_agr R'.K (fun c hc => ?_)
      have z1 : c1.1 c 0 = sc.1 c 0 := by rw [(y1 c (by simp only [List.mem_cons, List.not_mem_nil, or_false] at hc ⊢; omega)).1]
      have z2 : c2.1 c 0 = c1.1 c 0 := by
        rcases k2 c with h | h
        · exact h
        · rw [(y2 c (by simp only [List.mem_cons, List.not_mem_nil, or_false] at hc h ⊢; omega)).1]
      have z3 : c3.1 c 0 = c2.1 c 0 := by
        by_cases h : c = 47
        · rw [h]; exact k3 0 (by decide)
        · rw [(y3 c (by simp only [List.mem_cons, List.not_mem_nil, or_false] at hc ⊢; omega)).1]
      rw [ups_ne (by simp only [List.mem_cons, List.not_mem_nil, or_false] at hc; omega), z3, z2, z1]
    · exact TP_agr R'.P (by rw [(ye 49 (by decide)).1]) (by rw [(ye 49 (by decide)).1]) (by rw [(ye 49 (by decide)).1]) (ye 50 (by decide)).1 (k0 12 (by decide)) (k0 32 (by decide)) (k0 33 (by decide)) (kc 6 (by decide) (by decide))
    · exact HS_agr R'.S (ye 80 (by decide)).1 (ye 82 (by decide)).1 (fun c h1 h2 => ye c (by simp only [List.mem_cons, List.not_mem_nil, or_false]; omega)) (k0 3 (by decide)) (fun i hi => k0 i (by simp only [List.mem_cons, List.not_mem_nil, or_false] at hi ⊢; omega)) (kc 2 (by decide) (by decide)) (kc 4 (by decide) (by decide))
    · exact HL_agr R'.hl (by rw [kc 1 (by decide) (by decide)]) (kc 2 (by decide) (by decide)) (k0 3 (by decide))
    · rw [rd1, if_pos rfl, s51]
    · exact LD_ta ta (LD_agr (copy_LD f1 f2 f3 R'.L) (fun c hc => (y2e c (by simp only [List.mem_cons, List.not_mem_nil, or_false] at hc ⊢; omega)).1) (y2e 25 (by decide)).2 (fun _ _ => rfl) rfl rfl)
    · exact TD_agr (TD_ta ta T1 F2) (fun c hc => (y3e c (by simp only [List.mem_cons, List.not_mem_nil, or_false] at hc ⊢; omega)).1) (fun _ _ => rfl) (fun _ _ => rfl)
    · refine BK_ta ta R'.B ?_ (fun n en _ i hi => ?_)
      · rw [ups_ne (by decide), b3, eb]
      · have hnn : n = nb := by
          rw [eb, nI_eq (by omega) (by omega)] at en
          exact en.symm
        rw [ups_ne (by decide), F3 i (by omega), (y2 24 (by decide)).1, (y1 24 (by decide)).1]
    · rw [ta.c1 0 (by decide)]
      exact R'.d
    · rw [k0 5 (by decide)]
      exact R'.z
    · rw [kc 7 (by decide) (by decide)]
      exact R'.w i hi
