/-! # stage 2: what a text leaves behind -/
def tkC (s2 : ST) : Option ST := Lt (ups s2 0 34 (s2.1 0 38)) fun s3 => Lt (ups s3 0 36 (s3.1 0 39)) fun s4 => lpK2 (C := ST) (fun (rec3 : Int32 → ST → Option (ST)) (a3 : Int32) (s5 : ST) => if (64 : Int32) ≤ a3 then (Lt (ups s5 0 40 (0 : Int32)) fun s6 => Lt (ups s6 0 42 (0 : Int32)) fun s7 => Lt (ups s7 0 3 (0 : Int32)) fun s8 => some s8) else (Gs s5 1 389 ((69 : Int32) + a3) (0 : Int32) fun s9 => Gs s9 1 389 ((197 : Int32) + a3) (0 : Int32) fun s10 => rec3 (a3 + (1 : Int32)) s10)) FU (0 : Int32) s4
def tkB (s1 : ST) : Option ST := lpK2 (C := ST) (fun (rec2 : Int32 → ST → Option (ST)) (a2 : Int32) (s2 : ST) => if ((3 : Int32) * (s2.1 0 39)) ≤ a2 then (tkC s2) else (Gl s2 17 60 ((30 : Int32) + a2) fun y1 => Gs s2 17 60 a2 y1 fun s11 => rec2 (a2 + (1 : Int32)) s11)) FU (0 : Int32) s1
theorem tk_m (s : ST) : M_takesKinds s = lpK2 (C := ST) (fun (rec1 : Int32 → ST → Option (ST)) (a1 : Int32) (s1 : ST) => if ((3 : Int32) * (s1.1 0 38)) ≤ a1 then (tkB s1) else (Gl s1 16 48 ((24 : Int32) + a1) fun y2 => Gs s1 16 48 a1 y2 fun s12 => rec1 (a1 + (1 : Int32)) s12)) FU (0 : Int32) s := (rfl)
theorem m_takesKinds {s : ST} {a b : Nat} (h38 : s.1 0 38 = nI a) (h39 : s.1 0 39 = nI b) (ha : a ≤ 8) (hb : b ≤ 10) : ∃ s', M_takesKinds s = some s' ∧ agr [0, 1, 16, 17] s s' ∧ (∀ j, j ∉ [3, 34, 36, 40, 42] → s'.1 0 j = s.1 0 j) ∧ s'.1 0 34 = nI a ∧ s'.1 0 36 = nI b ∧ s'.1 0 40 = 0 ∧ s'.1 0 42 = 0 ∧ s'.1 0 3 = 0 ∧ (∀ i, i < 3 * a → s'.1 16 i = s.1 16 (24 + i)) ∧ (∀ i, i < 3 * b → s'.1 17 i = s.1 17 (30 + i)) ∧ (∀ k, (¬ (69 ≤ k ∧ k < 133) ∧ ¬ (197 ≤ k ∧ k < 261)) → s'.1 1 k = s.1 1 k) ∧ ∀ k, k < 64 → s'.1 1 (69 + k) = 0 ∧ s'.1 1 (197 + k) = 0 := by
  have x3 : ∀ n, (3 : Int32) * nI n = nI (3 * n) := fun n => nI_mul 3 n
  have e1 : M_takesKinds s = tkB (upr s 16 (fun k => if 0 ≤ k ∧ k < 0 + 3 * a then s.1 16 (24 + (k - 0)) else s.1 16 k)) := by
    rw [tk_m]
    refine cp_loop (s := s) (B := 16) (oB := 0) (N := 3 * a) (v := fun i => s.1 16 (24 + i)) (K := tkB) (by omega) (fun rec i f hi hf => ?_) (fun rec f => ?_)
    · rw [upr_ne (by decide), h38, x3, if_neg (nle_t hi (by omega)), show (24 : Int32) + nI i = nI (24 + i) from nI_add 24 i, Gl_n (by omega) (by decide), Gs_n (by omega) (by decide), nI_1, upr_eq, hf _ (by omega), Nat.zero_add]
    · rw [upr_ne (by decide), h38, x3, if_pos (le_t (by omega))]
  obtain ⟨t1, ht1⟩ : ∃ x, x = upr s 16 (fun k => if 0 ≤ k ∧ k < 0 + 3 * a then s.1 16 (24 + (k - 0)) else s.1 16 k) := ⟨_, rfl⟩
  have t38 : t1.1 0 38 = nI a := by rw [ht1, upr_ne (by decide)]; exact h38
  have t39 : t1.1 0 39 = nI b := by rw [ht1, upr_ne (by decide)]; exact h39
  have e2 : tkB t1 = tkC (upr t1 17 (fun k => if 0 ≤ k ∧ k < 0 + 3 * b then t1.1 17 (30 + (k - 0)) else t1.1 17 k)) := by
    unfold tkB
    refine cp_loop (s := t1) (B := 17) (oB := 0) (N := 3 * b) (v := fun i => t1.1 17 (30 + i)) (K := tkC) (by omega) (fun rec i f hi hf => ?_) (fun rec f => ?_)
    · rw [upr_ne (by decide), t39, x3, if_neg (nle_t hi (by omega)), show (30 : Int32) + nI i = nI (30 + i) from nI_add 30 i, Gl_n (by omega) (by decide), Gs_n (by omega) (by decide), nI_1, upr_eq, hf _ (by omega), Nat.zero_add]
    · rw [upr_ne (by decide), t39, x3, if_pos (le_t (by omega))]
  obtain ⟨t2, ht2⟩ : ∃ x, x = upr t1 17 (fun k => if 0 ≤ k ∧ k < 0 + 3 * b then t1.1 17 (30 + (k - 0)) else t1.1 17 k) := ⟨_, rfl⟩
  obtain ⟨t3, ht3⟩ : ∃ x, x = ups (ups t2 0 34 (nI a)) 0 36 (nI b) := ⟨_, rfl⟩
  have e3 : tkC t2 = (fun s5 => Lt (ups s5 0 40 (0 : Int32)) fun s6 => Lt (ups s6 0 42 (0 : Int32)) fun s7 => Lt (ups s7 0 3 (0 : Int32)) fun s8 => some s8) (upr t3 1 (fun k => if (69 ≤ k ∧ k < 69 + 64) ∨ (197 ≤ k ∧ k < 197 + 64) then 0 else t3.1 1 k)) := by
    have q38 : t2.1 0 38 = nI a := by rw [ht2, upr_ne (by decide)]; exact t38
    have q39 : (ups t2 0 34 (nI a)).1 0 39 = nI b := by rw [rd1, if_neg (by decide), ht2, upr_ne (by decide)]; exact t39
    unfold tkC
    rw [Lt_e, q38, Lt_e, q39, ← ht3]
    exact m_clear (K := (fun s5 => Lt (ups s5 0 40 (0 : Int32)) fun s6 => Lt (ups s6 0 42 (0 : Int32)) fun s7 => Lt (ups s7 0 3 (0 : Int32)) fun s8 => some s8))
  rw [e1, ← ht1, e2, ← ht2, e3]
  simp only [Lt_n]
  refine ⟨_, rfl, ?_, fun j hj => ?_, ?_, ?_, ?_, ?_, ?_, fun i hi => ?_, fun i hi => ?_, fun k hk => ?_, fun k hk => ?_⟩
  · rw [ht3, ht2, ht1]
    exact ((((((((agr.rf.upr (by decide)).upr (by decide)).ups (by decide)).ups (by decide)).upr (by decide)).ups (by decide)).ups (by decide)).ups (by decide))
  · have hj2 : j ≠ 3 ∧ j ≠ 34 ∧ j ≠ 36 ∧ j ≠ 40 ∧ j ≠ 42 := by simp only [List.mem_cons, List.not_mem_nil, or_false, not_or] at hj; exact hj
    rw [rd3, if_neg hj2.1, if_neg hj2.2.2.2.2, if_neg hj2.2.2.2.1, upr_ne (by decide), ht3, rd2, if_neg hj2.2.2.1, if_neg hj2.2.1, ht2, upr_ne (by decide), ht1, upr_ne (by decide)]
  · rw [rd3, if_neg (by decide), if_neg (by decide), if_neg (by decide), upr_ne (by decide), ht3, rd2, if_neg (by decide), if_pos rfl]
  · rw [rd3, if_neg (by decide), if_neg (by decide), if_neg (by decide), upr_ne (by decide), ht3, rd2, if_pos rfl]
  · rw [rd3, if_neg (by decide), if_neg (by decide), if_pos rfl]
  · rw [rd3, if_neg (by decide), if_pos rfl]
  · rw [rd3, if_pos rfl]
  · rw [ups_ne (by decide), ups_ne (by decide), ups_ne (by decide), upr_ne (by decide), ht3, ups_ne (by decide), ups_ne (by decide), ht2, upr_ne (by decide), ht1, upr_eq, if_pos (by omega), Nat.sub_zero]
  · rw [ups_ne (by decide), ups_ne (by decide), ups_ne (by decide), upr_ne (by decide), ht3, ups_ne (by decide), ups_ne (by decide), ht2, upr_eq, if_pos (by omega), Nat.sub_zero, ht1, upr_ne (by decide)]
  · rw [ups_ne (by decide), ups_ne (by decide), ups_ne (by decide), upr_eq, if_neg (by omega), ht3, ups_ne (by decide), ups_ne (by decide), ht2, upr_ne (by decide), ht1, upr_ne (by decide)]
  · rw [ups_ne (by decide), ups_ne (by decide), ups_ne (by decide), upr_eq, if_pos (by omega), if_pos (by omega)]
    exact ⟨rfl, rfl⟩
theorem m_takesWants {s : ST} {w : Nat} (hw : w ≤ 10) : ∃ s', M_takesOther s 2 (nI w) = some s' ∧ agr [0, 18] s s' ∧ (∀ j, j ≠ 40 → s'.1 0 j = s.1 0 j) ∧ s'.1 0 40 = nI w ∧ ∀ i, i < 4 * w → s'.1 18 i = s.1 18 (40 + i) := by
  have x4 : (4 : Int32) * nI w = nI (4 * w) := nI_mul 4 w
  have n20 : ¬ (2 : Int32) = 0 := by decide
  have n23 : ¬ (2 : Int32) = 3 := by decide
  have e : M_takesOther s 2 (nI w) = some (ups (upr s 18 (fun k => if 0 ≤ k ∧ k < 0 + 4 * w then s.1 18 (40 + (k - 0)) else s.1 18 k)) 0 40 (nI w)) := by
    unfold M_takesOther
    rw [Lt_e, if_neg n20]
    show Lt _ _ = _
    rw [Lt_e, if_pos (rfl : (2 : Int32) = 2)]
    refine cp_loop (s := s) (B := 18) (oB := 0) (N := 4 * w) (v := fun i => s.1 18 (40 + i)) (K := fun s1 => some (ups s1 0 40 (nI w))) (by omega) (fun rec i f hi hf => ?_) (fun rec f => ?_)
    · rw [x4, if_neg (nle_t hi (by omega)), show (40 : Int32) + nI i = nI (40 + i) from nI_add 40 i, Gl_n (by omega) (by decide), Gs_n (by omega) (by decide), nI_1, upr_eq, hf _ (by omega), Nat.zero_add]
    · rw [x4, if_pos (le_t (by omega)), Lt_e]
      exact if_neg n23
  refine ⟨_, e, (agr.rf.upr (by decide)).ups (by decide), fun j hj => by rw [rd1, if_neg hj, upr_ne (by decide)], by rw [rd1, if_pos rfl], fun i hi => by rw [ups_ne (by decide), upr_eq, if_pos (by omega), Nat.sub_zero]⟩
theorem m_takesPlan {s : ST} {w : Nat} (hw : w ≤ 16) : ∃ s', M_takesOther s 3 (nI w) = some s' ∧ agr [0, 19] s s' ∧ (∀ j, j ∉ [3, 42] → s'.1 0 j = s.1 0 j) ∧ s'.1 0 42 = nI w ∧ s'.1 0 3 = 0 ∧ ∀ i, i < 4 * w → s'.1 19 i = s.1 19 (64 + i) := by
  have x4 : (4 : Int32) * nI w = nI (4 * w) := nI_mul 4 w
  have n30 : ¬ (3 : Int32) = 0 := by decide
  have n32 : ¬ (3 : Int32) = 2 := by decide
  have e : M_takesOther s 3 (nI w) = some (ups (ups (upr s 19 (fun k => if 0 ≤ k ∧ k < 0 + 4 * w then s.1 19 (64 + (k - 0)) else s.1 19 k)) 0 42 (nI w)) 0 3 0) := by
    unfold M_takesOther
    rw [Lt_e, if_neg n30]
    show Lt _ _ = _
    rw [Lt_e, if_neg n32]
    show (if (3 : Int32) = 3 then _ else _) = _
    rw [if_pos (rfl : (3 : Int32) = 3)]
    refine cp_loop (s := s) (B := 19) (oB := 0) (N := 4 * w) (v := fun i => s.1 19 (64 + i)) (K := fun s1 => some (ups (ups s1 0 42 (nI w)) 0 3 0)) (by omega) (fun rec i f hi hf => ?_) (fun rec f => ?_)
    · rw [x4, if_neg (nle_t hi (by omega)), show (64 : Int32) + nI i = nI (64 + i) from nI_add 64 i, Gl_n (by omega) (by decide), Gs_n (by omega) (by decide), nI_1, upr_eq, hf _ (by omega), Nat.zero_add]
    · rw [x4, if_pos (le_t (by omega)), Lt_e, Lt_e]
  refine ⟨_, e, ((agr.rf.upr (by decide)).ups (by decide)).ups (by decide), fun j hj => ?_, by rw [rd2, if_neg (by decide), if_pos rfl], by rw [rd2, if_pos rfl], fun i hi => by rw [ups_ne (by decide), ups_ne (by decide), upr_eq, if_pos (by omega), Nat.sub_zero]⟩
  have hj2 : j ≠ 3 ∧ j ≠ 42 := by simp only [List.mem_cons, List.not_mem_nil, or_false, not_or] at hj; exact hj
  rw [rd2, if_neg hj2.1, if_neg hj2.2, upr_ne (by decide)]
theorem m_takesLaw {s : ST} {w k : Nat} (h25 : s.1 0 25 = 1) (h26 : s.1 0 26 = nI k) (hw : w ≤ 16) (hk : k ≤ 400) : ∃ s', M_takesLaw s (nI w) = some s' ∧ agr [8, 9, 10, 11, 12, 13, 14] s s' ∧ s'.1 8 1 = nI w ∧ (∀ c, c ∈ [9, 10, 11, 12] → ∀ j, j < w → s'.1 c (16 + j) = s.1 c (32 + j)) ∧ (∀ c, c ∈ [13, 14] → ∀ j, j < k → s'.1 c (400 + j) = s.1 c (800 + j)) := by
  unfold M_takesLaw
  refine lo2 (Q := fun o => ∃ s', o = some s' ∧ agr [8, 9, 10, 11, 12, 13, 14] s s' ∧ s'.1 8 1 = nI w ∧ (∀ c, c ∈ [9, 10, 11, 12] → ∀ j, j < w → s'.1 c (16 + j) = s.1 c (32 + j)) ∧ (∀ c, c ∈ [13, 14] → ∀ j, j < k → s'.1 c (400 + j) = s.1 c (800 + j))) (I := fun m a st => ∃ i, i + m = w ∧ a = nI i ∧ agr [9, 10, 11, 12] s st ∧ ∀ c, c ∈ [9, 10, 11, 12] → (∀ j, j < i → st.1 c (16 + j) = s.1 c (32 + j)) ∧ ∀ j, 32 ≤ j → st.1 c j = s.1 c j) ?_ FU w _ _ (by unfold FU; omega) ⟨0, by omega, rfl, agr.rf, fun c _ => ⟨fun j hj => absurd hj (Nat.not_lt_zero j), fun _ _ => rfl⟩⟩
  rintro m rf a st ⟨i, him, rfl, ra, rc⟩ ih
  have e25 : st.1 0 25 = 1 := by rw [(ra 0 (by decide)).1]; exact h25
  cases m with
  | zero =>
    have hi : i = w := by omega
    subst hi
    rw [if_pos (le_t (by omega))]
    refine lo2 (Q := fun o => ∃ s', o = some s' ∧ agr [8, 9, 10, 11, 12, 13, 14] s s' ∧ s'.1 8 1 = nI i ∧ (∀ c, c ∈ [9, 10, 11, 12] → ∀ j, j < i → s'.1 c (16 + j) = s.1 c (32 + j)) ∧ (∀ c, c ∈ [13, 14] → ∀ j, j < k → s'.1 c (400 + j) = s.1 c (800 + j))) (I := fun m a st2 => ∃ i2, i2 + m = k ∧ a = nI i2 ∧ agr [13, 14] st st2 ∧ ∀ c, c ∈ [13, 14] → (∀ j, j < i2 → st2.1 c (400 + j) = st.1 c (800 + j)) ∧ ∀ j, 800 ≤ j → st2.1 c j = st.1 c j) ?_ FU k _ _ (by unfold FU; omega) ⟨0, by omega, rfl, agr.rf, fun c _ => ⟨fun j hj => absurd hj (Nat.not_lt_zero j), fun _ _ => rfl⟩⟩
    rintro m rf a st2 ⟨i2, him2, rfl, ra2, rc2⟩ ih2
    have f25 : st2.1 0 25 = 1 := by rw [(ra2 0 (by decide)).1]; exact e25
    have f26 : st2.1 0 26 = nI k := by rw [(ra2 0 (by decide)).1, (ra 0 (by decide)).1]; exact h26
    cases m with
    | zero =>
      have hi2 : i2 = k := by omega
      subst hi2
      rw [f26, if_pos (le_t (by omega)), f25, show (1 : Int32) = nI 1 from rfl, Gs_n (by decide) (by decide)]
      refine ⟨_, rfl, ((ra.mono (by decide)).tr (ra2.mono (by decide))).ups (by decide), by rw [rd1, if_pos rfl], fun c hc j hj => ?_, fun c hc j hj => ?_⟩
      · have hc' := hc
        simp only [List.mem_cons, List.not_mem_nil, or_false] at hc'
        rw [ups_ne (by omega), (ra2 c (by simp only [List.mem_cons, List.not_mem_nil, or_false]; omega)).1]
        exact (rc c hc).1 j hj
      · have hc' := hc
        simp only [List.mem_cons, List.not_mem_nil, or_false] at hc'
        rw [ups_ne (by omega), (rc2 c hc).1 j hj, (ra c (by simp only [List.mem_cons, List.not_mem_nil, or_false]; omega)).1]
    | succ m =>
      have hi2 : i2 < k := by omega
      have b1 : (800 : Int32) + nI i2 = nI (800 + i2) := nI_add 800 i2
      have b2 : (400 : Int32) * 1 + nI i2 = nI (400 + i2) := nI_add 400 i2
      rw [f26, if_neg (nle_t hi2 (by omega)), b1, Gl_n (by omega) (by decide), f25, b2, Gs_n (by omega) (by decide), Gl_n (by omega) (by decide), ups_ne (by decide), ups_ne (by decide), f25, b2, Gs_n (by omega) (by decide), nI_1]
      refine ih2 m _ _ (Nat.lt_succ_self m) ⟨i2 + 1, by omega, rfl, (ra2.ups (by decide)).ups (by decide), fun c hc => ?_⟩
      obtain ⟨g1, g2⟩ := rc2 c hc
      simp only [List.mem_cons, List.not_mem_nil, or_false] at hc
      rcases hc with rfl | rfl
      · refine ⟨fun j hj => ?_, fun j hj => ?_⟩
        · rw [ups_ne (by decide), rd1]
          by_cases q : j = i2
          · rw [q, if_pos rfl, g2 _ (by omega)]
          · rw [if_neg (by omega)]; exact g1 j (by omega)
        · rw [ups_ne (by decide), rd1, if_neg (by omega)]; exact g2 j hj
      · refine ⟨fun j hj => ?_, fun j hj => ?_⟩
        · rw [rd1]
          by_cases q : j = i2
          · rw [q, if_pos rfl, g2 _ (by omega)]
          · rw [if_neg (by omega), ups_ne (by decide)]; exact g1 j (by omega)
        · rw [rd1, if_neg (by omega), ups_ne (by decide)]; exact g2 j hj
  | succ m =>
    have hi : i < w := by omega
    have b1 : (32 : Int32) + nI i = nI (32 + i) := nI_add 32 i
    have b2 : (16 : Int32) * 1 + nI i = nI (16 + i) := nI_add 16 i
    have s1e : ∀ v, (ups st 9 (16 + i) v).1 0 25 = 1 := fun v => by rw [ups_ne (by decide)]; exact e25
    have s2e : ∀ v v2, (ups (ups st 9 (16 + i) v) 10 (16 + i) v2).1 0 25 = 1 := fun v v2 => by rw [ups_ne (by decide), ups_ne (by decide)]; exact e25
    have s3e : ∀ v v2 v3, (ups (ups (ups st 9 (16 + i) v) 10 (16 + i) v2) 11 (16 + i) v3).1 0 25 = 1 := fun v v2 v3 => by rw [ups_ne (by decide), ups_ne (by decide), ups_ne (by decide)]; exact e25
    have u1 : ∀ v, (ups st 9 (16 + i) v).1 10 (32 + i) = st.1 10 (32 + i) := fun v => by rw [ups_ne (by decide)]
    have u2 : ∀ v v2, (ups (ups st 9 (16 + i) v) 10 (16 + i) v2).1 11 (32 + i) = st.1 11 (32 + i) := fun v v2 => by rw [ups_ne (by decide), ups_ne (by decide)]
    have u3 : ∀ v v2 v3, (ups (ups (ups st 9 (16 + i) v) 10 (16 + i) v2) 11 (16 + i) v3).1 12 (32 + i) = st.1 12 (32 + i) := fun v v2 v3 => by rw [ups_ne (by decide), ups_ne (by decide), ups_ne (by decide)]
    rw [if_neg (nle_t hi (by omega)), b1, Gl_n (by omega) (by decide), e25, b2, Gs_n (by omega) (by decide), Gl_n (by omega) (by decide), s1e, b2, Gs_n (by omega) (by decide), u1, Gl_n (by omega) (by decide), s2e, b2, Gs_n (by omega) (by decide), u2, Gl_n (by omega) (by decide), s3e, b2, Gs_n (by omega) (by decide), u3, nI_1]
    refine ih m _ _ (Nat.lt_succ_self m) ⟨i + 1, by omega, rfl, (((ra.ups (by decide)).ups (by decide)).ups (by decide)).ups (by decide), fun c hc => ?_⟩
    obtain ⟨g1, g2⟩ := rc c hc
    simp only [List.mem_cons, List.not_mem_nil, or_false] at hc
    have val : (ups (ups (ups (ups st 9 (16 + i) (st.1 9 (32 + i))) 10 (16 + i) (st.1 10 (32 + i))) 11 (16 + i) (st.1 11 (32 + i))) 12 (16 + i) (st.1 12 (32 + i))).1 c = upd (st.1 c) (16 + i) (st.1 c (32 + i)) := by
      rcases hc with rfl | rfl | rfl | rfl
      · rw [ups_ne (by decide), ups_ne (by decide), ups_ne (by decide), ups_eq]
      · rw [ups_ne (by decide), ups_ne (by decide), ups_eq, ups_ne (by decide)]
      · rw [ups_ne (by decide), ups_eq, ups_ne (by decide), ups_ne (by decide)]
      · rw [ups_eq, ups_ne (by decide), ups_ne (by decide), ups_ne (by decide)]
    refine ⟨fun j hj => ?_, fun j hj => ?_⟩
    · rw [val]
      by_cases q : j = i
      · rw [q, show upd (st.1 c) (16 + i) (st.1 c (32 + i)) (16 + i) = st.1 c (32 + i) from if_pos rfl, g2 _ (by omega)]
      · rw [show upd (st.1 c) (16 + i) (st.1 c (32 + i)) (16 + j) = st.1 c (16 + j) from if_neg (by omega)]; exact g1 j (by omega)
    · rw [val, show upd (st.1 c) (16 + i) (st.1 c (32 + i)) j = st.1 c j from if_neg (by omega)]; exact g2 j hj
