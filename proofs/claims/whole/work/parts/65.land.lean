/-! # stage 2: land, undo -/
theorem in27 (s : ST) (x : Int32) : M_isIn s x 2 7 = 0 ∨ ∃ j, 2 ≤ j ∧ j ≤ 7 ∧ x = nI j ∧ M_isIn s x 2 7 = 1 := by
  unfold M_isIn
  by_cases h1 : x < 2
  · exact Or.inl (if_pos h1)
  by_cases h2 : (7 : Int32) < x
  · exact Or.inl (by rw [if_neg h1, if_pos h2])
  refine Or.inr ?_
  have a1 : (2 : Int32).toInt = 2 := by decide
  have a2 : (7 : Int32).toInt = 7 := by decide
  rw [if_neg h1, if_neg h2]
  rw [Int32.lt_iff_toInt_lt, a1] at h1
  rw [Int32.lt_iff_toInt_lt, a2] at h2
  rcases cases64 x with h | ⟨k, hk, rfl⟩
  · exfalso
    rcases h with h | h
    · rw [Int32.lt_iff_toInt_lt] at h
      have : (0 : Int32).toInt = 0 := by decide
      omega
    · rw [Int32.le_iff_toInt_le] at h
      have : (64 : Int32).toInt = 64 := by decide
      omega
  · have hk2 : (nI k).toInt = (k : Int) := nI_toInt (by omega)
    exact ⟨k, by omega, by omega, rfl, rfl⟩
theorem c_fill {s : ST} {v : Int32} : C_J7_fill_53178 s 2 v = some (upr s 2 (fun k => if 0 ≤ k ∧ k < 0 + 64 then v else s.1 2 k)) := by
  unfold C_J7_fill_53178
  rw [Lt_e]
  refine cp_loop (s := s) (B := 2) (oB := 0) (N := 64) (v := fun _ => v) (K := fun s1 => some s1) (by decide) (fun rec i f hi hf => ?_) (fun rec f => ?_)
  · rw [if_neg (show ¬ (Int32.ofNat (lc 2)) ≤ nI i from nle_t (n := 64) hi (by decide)), show lc 2 = 64 from rfl, Gs_n hi (by decide), nI_1, Nat.zero_add]
  · rw [if_pos (show (Int32.ofNat (lc 2)) ≤ nI 64 from le_t (n := 64) (by decide))]
theorem ups_z {s : ST} {a c i j : Nat} {x : Int32} (h : j ≠ i) : (ups s a i x).1 c j = s.1 c j := by
  rw [ups_at, if_neg h]
  by_cases q : c = a
  · rw [if_pos q, q]
  · rw [if_neg q]
theorem c_begin {sc : ST} {W H : Nat} : ∃ sc', C_X1_begin sc 1 (nI W) (nI H) = some sc' ∧ sc'.1 1 0 = nI W ∧ sc'.1 1 1 = nI H ∧ sc'.1 1 2 = 0 ∧ sc'.1 1 3 = 1 ∧ sc'.1 1 4 = 0 ∧ sc'.1 1 5 = 0 ∧ sc'.1 1 6 = sc.1 1 6 ∧ (∀ k, k < 64 → sc'.1 2 k = 3) ∧ sc'.2 1 7 = 0 ∧ sc'.2 1 8 = 0 ∧ sc'.2 1 9 = 0 ∧ agr [1, 2] sc sc' := by
  unfold C_X1_begin C_X1_clearSeedsAndStorms
  simp only [Lt_n]
  rw [c_fill, Bd_some]
  refine ⟨_, rfl, ?_, ?_, ?_, ?_, ?_, ?_, ?_, fun k hk => ?_, ?_, ?_, ?_, ?_⟩
  iterate 7
    · rw [upr_ne (by decide)]
      simp [upl_1, rd1]
  · rw [upr_eq]
    exact if_pos (by omega)
  iterate 3
    · simp [upr, upl_at, ups_2]
  · exact (((((((((agr.rf.ups (by decide)).ups (by decide)).ups (by decide)).ups (by decide)).ups (by decide)).ups (by decide)).upl (by decide)).upl (by decide)).upl (by decide)).upr (by decide)

theorem m_wipe {s : ST} {C : Type} {K : ST → Option C} : lpK2 (C := C) (fun (rec1 : Int32 → ST → Option C) (a1 : Int32) (s4 : ST) => if (389 : Int32) ≤ a1 then (K s4) else (Gs s4 1 389 a1 (0 : Int32) fun s15 => rec1 (a1 + (1 : Int32)) s15)) FU (0 : Int32) s = K (upr s 1 (fun k => if 0 ≤ k ∧ k < 0 + 389 then 0 else s.1 1 k)) := by
  refine cp_loop (s := s) (B := 1) (oB := 0) (N := 389) (v := fun _ => 0) (K := K) (by decide) (fun rec i f hi hf => ?_) (fun rec f => ?_)
  · rw [if_neg (show ¬ (389 : Int32) ≤ nI i from nle_t (n := 389) hi (by decide)), Gs_n hi (by decide), nI_1, Nat.zero_add]
  · rw [if_pos (show (389 : Int32) ≤ nI 389 from le_t (n := 389) (by decide))]
theorem m_grub {s : ST} {C : Type} {K : ST → Option C} : lpK2 (C := C) (fun (rec1 : Int32 → ST → Option C) (a1 : Int32) (s4 : ST) => if (64 : Int32) ≤ a1 then (K s4) else (Gs s4 4 64 a1 (0 : Int32) fun s15 => rec1 (a1 + (1 : Int32)) s15)) FU (0 : Int32) s = K (upr s 4 (fun k => if 0 ≤ k ∧ k < 0 + 64 then 0 else s.1 4 k)) := by
  refine cp_loop (s := s) (B := 4) (oB := 0) (N := 64) (v := fun _ => 0) (K := K) (by decide) (fun rec i f hi hf => ?_) (fun rec f => ?_)
  · rw [if_neg (show ¬ (64 : Int32) ≤ nI i from nle_t (n := 64) hi (by decide)), Gs_n hi (by decide), nI_1, Nat.zero_add]
  · rw [if_pos (show (64 : Int32) ≤ nI 64 from le_t (n := 64) (by decide))]
theorem s_land : Sim_land Rel := by
  rintro sc sm x y ⟨W0, H0, nk, nc, nl, nw, np, R⟩
  have h10 : ¬ (1 : Int32) = 0 := by decide
  have h00 : (0 : Int32) = 0 := rfl
  have R' := R8_told R
  obtain ⟨CB, hc0⟩ : ∃ q, C_X9_land sc x y = q := ⟨_, rfl⟩
  obtain ⟨MB, hm0⟩ : ∃ q, M_land sm x y = q := ⟨_, rfl⟩
  rw [hc0, hm0]
  unfold C_X9_land at hc0
  unfold M_land at hm0
  rw [Lt_e] at hm0
  generalize ups sm 0 0 0 = m at *
  rw [Lt_e, show C_X9_isWithin sc x 2 7 = M_isIn m x 2 7 from rfl] at hc0
  rw [Lt_e] at hm0
  rcases in27 m x with a | ⟨W, W2, W7, rfl, a⟩
  · rw [a, if_pos h00] at hc0 hm0
    exact ⟨0, sc, m, hc0.symm, hm0.symm, W0, H0, nk, nc, nl, nw, np, R'⟩
  rw [a, if_neg h10] at hc0 hm0
  rw [Lt_e, show C_X9_isWithin sc y 2 7 = M_isIn m y 2 7 from rfl] at hc0
  rw [Lt_e] at hm0
  rcases in27 m y with a | ⟨H, H2, H7, rfl, a⟩
  · rw [a, if_pos h00] at hc0 hm0
    exact ⟨0, sc, m, hc0.symm, hm0.symm, W0, H0, nk, nc, nl, nw, np, R'⟩
  rw [a, if_neg h10] at hc0 hm0
  obtain ⟨sc1, b0, b1, b2, b3, b4, b5, b6, b7, b8, b9, b10, b11, b12⟩ := c_begin (sc := sc) (W := W) (H := H)
  rw [b0, Bd_some] at hc0
  unfold C_X7_forget C_X4_clear C_X2_clear C_X0_forget at hc0
  unfold C_X4_clear at hc0
  simp only [Lt_n] at hc0
  rw [Lt_e, Lt_e, Lt_e, m_wipe, Lt_e, m_grub] at hm0
  simp only [Lt_n] at hm0
  generalize hsc : ups _ 80 3 (0 : Int32) = sc2 at hc0
  generalize hsm : ups _ 0 3 (0 : Int32) = sm2 at hm0
  have c1 : ∀ i, sc2.1 1 i = sc1.1 1 i := fun i => by rw [← hsc]; simp [ups_ne]
  have c2 : sc2.1 2 = sc1.1 2 := by rw [← hsc]; simp [ups_ne]
  have cL : sc2.2 = sc1.2 := by rw [← hsc]; simp [ups_2]
  have cz : ∀ c, c ∈ [9, 11, 13, 14, 19, 21, 23] → sc2.1 c 2 = 0 := fun c hc => by
    simp only [List.mem_cons, List.not_mem_nil, or_false] at hc
    rw [← hsc]
    rcases hc with rfl | rfl | rfl | rfl | rfl | rfl | rfl <;> simp [ups_at]
  have c0 : ∀ c, 3 ≤ c → c ≠ 80 → (sc2.1 c 0 = sc.1 c 0) := fun c h3 h80 => by
    rw [← (b12 c (by simp only [List.mem_cons, List.not_mem_nil, or_false]; omega)).1, ← hsc]
    rw [ups_z (by decide), ups_z (by decide), ups_z (by decide), ups_z (by decide), ups_z (by decide), ups_z (by decide), ups_z (by decide), ups_z (by decide)]
  have c80 : ∀ i, sc2.1 80 i = if i = 3 then 0 else sc.1 80 i := fun i => by
    rw [← (b12 80 (by decide)).1, ← hsc]
    simp [ups_at]
  have c802 : sc2.1 80 2 = sc.1 80 2 := by rw [c80, if_neg (by decide)]
  have c803 : sc2.1 80 3 = 0 := by rw [c80, if_pos rfl]
  have ce : agr [1, 2, 9, 11, 13, 14, 19, 21, 23, 80] sc sc2 := by
    rw [← hsc]
    exact ((((((((((b12.mono (by decide)).ups (by decide)).ups (by decide)).ups (by decide)).ups (by decide)).ups (by decide)).ups (by decide)).ups (by decide)).ups (by decide)))
  have mL : ∀ k, k < 389 → sm2.1 1 k = if k = 1 then m.1 1 1 else 0 := fun k hk => by
    rw [← hsm]
    simp [ups_at, upr_at, hk]
  have m4 : ∀ k, k < 64 → sm2.1 4 k = 0 := fun k hk => by
    rw [← hsm]
    simp [ups_at, upr_at, hk]
  have m0 : ∀ i, sm2.1 0 i = if i ∈ [3, 8, 34, 36, 40, 42] then 0 else if i = 7 then nI H - 4 else if i = 6 then nI W - 5 else m.1 0 i := fun i => by
    rw [← hsm]
    simp only [ups_at, upr_at, List.mem_cons, List.not_mem_nil, or_false]
    by_cases e3 : i = 3
    · simp [e3]
    by_cases e8 : i = 8
    · simp [e8]
    by_cases e34 : i = 34
    · simp [e34]
    by_cases e36 : i = 36
    · simp [e36]
    by_cases e40 : i = 40
    · simp [e40]
    by_cases e42 : i = 42
    · simp [e42]
    simp [e3, e8, e34, e36, e40, e42]
    rw [ups_ne (by decide), upr_ne (by decide), rd2]
  have m8 : sm2.1 8 1 = 0 := by
    rw [← hsm]
    simp [ups_at, upr_at]
  have me : agr [0, 1, 4, 8] m sm2 := by
    rw [← hsm]
    exact ((((((((((((agr.rf.ups (by decide)).ups (by decide)).upr (by decide)).ups (by decide)).upr (by decide)).ups (by decide)).ups (by decide)).ups (by decide)).ups (by decide)).ups (by decide)).ups (by decide)).ups (by decide))
  clear hsc hsm
  have L' : LD W H 0 1 sc2 sm2 := by
    refine ⟨by rw [c1]; exact b1, by rw [m0, if_neg (by decide), if_neg (by decide), if_pos rfl, Int32.sub_add_cancel], by rw [c1]; exact b2, by rw [m0, if_neg (by decide), if_pos rfl, Int32.sub_add_cancel], W2, W7, H2, H7, by decide, by rw [c1, b3, mL 0 (by decide), if_neg (by decide)], ⟨1, by decide, by rw [c1, b4]; rfl, by rw [mL 3 (by decide), if_neg (by decide)]; rfl⟩, ⟨0, by decide, by rw [c1, b5]; rfl, by rw [m0, if_pos (by decide)]; rfl⟩, by rw [c1, b6, mL 4 (by decide), if_neg (by decide)], by rw [c1, b7, mL 1 (by decide), if_pos rfl]; exact R'.L.draws, fun k hk _ => ⟨3, by decide, by rw [show 1 + 1 = 2 from rfl, c2, b8 k hk]; rfl, by rw [mL _ (by omega), if_neg (by omega)]; rfl⟩, fun k hk => by rw [m4 k hk, cL, b9, bq_0]; rfl, fun k hk h => ?_, fun k hk h => ?_, fun k hk _ => by rw [mL _ (by omega), if_neg (by omega)], fun k hk h => ?_, fun k hk _ => by rw [mL _ (by omega), if_neg (by omega)]⟩
    · rw [cL, b9, bq_0] at h; cases h
    · rw [cL, b10, bq_0] at h; cases h
    · rw [cL, b11, bq_0] at h; cases h
  have B' : BK 23 sc2 sm2 := ⟨0, by decide, cz 23 (by decide), by rw [mL 2 (by decide), if_neg (by decide)]; rfl, fun i hi => absurd hi (Nat.not_lt_zero i)⟩
  have m3 : sm2.1 0 3 = 0 := by rw [m0, if_pos (by decide)]
  refine ⟨1, sc2, sm2, hc0.symm, hm0.symm, W, H, 0, 0, 0, 0, 0, L', ?_, B', ⟨0, by decide, by rw [mL 0 (by decide), if_neg (by decide)]; rfl⟩, ?_, ?_, ?_, ?_, ?_, ?_, fun i hi => ?_⟩
  · exact ⟨cz 9 (by decide), by rw [m0, if_pos (by decide)]; rfl, by decide, fun i hi => absurd hi (Nat.not_lt_zero i), cz 11 (by decide), by rw [m0, if_pos (by decide)]; rfl, by decide, fun i hi => absurd hi (Nat.not_lt_zero i), cz 14 (by decide), m8, by decide, fun i hi => absurd hi (Nat.not_lt_zero i), cz 19 (by decide), by rw [m0, if_pos (by decide)]; rfl, by decide, fun i hi => absurd hi (Nat.not_lt_zero i), cz 21 (by decide), by rw [m0, if_pos (by decide)]; rfl, by decide, fun i hi => absurd hi (Nat.not_lt_zero i)⟩
  · exact KS_agr R'.K (fun c hc => c0 c (by simp only [List.mem_cons, List.not_mem_nil, or_false] at hc; omega) (by simp only [List.mem_cons, List.not_mem_nil, or_false] at hc; omega))
  · exact TP_agr R'.P (by rw [(ce 49 (by decide)).1]) (by rw [(ce 49 (by decide)).1]) (by rw [(ce 49 (by decide)).1]) (ce 50 (by decide)).1 (by rw [m0, if_neg (by decide), if_neg (by decide), if_neg (by decide)]) (by rw [m0, if_neg (by decide), if_neg (by decide), if_neg (by decide)]) (by rw [m0, if_neg (by decide), if_neg (by decide), if_neg (by decide)]) (me 6 (by decide)).1
  · exact HS_0 R'.S c802 c803 m3
  · exact HL_0 m3 B'
  · exact IM_agr R'.I (by rw [(ce 0 (by decide)).1]) (fun c h1 h2 _ _ => ce c (by simp only [List.mem_cons, List.not_mem_nil, or_false]; omega)) (by rw [m0, if_neg (by decide), if_neg (by decide), if_neg (by decide)]) (me 23 (by decide)).1
  · rw [m0, if_neg (by decide), if_neg (by decide), if_neg (by decide)]
    exact R'.z
  · rw [(me 7 (by decide)).1]
    exact R'.w i hi
