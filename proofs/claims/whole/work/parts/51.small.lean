/-! # stage 2: small calls -/
theorem LD_agr9 {W H nk b : Nat} {sc sm sc' sm' : ST} (L : LD W H nk b sc sm) (hc : ∀ j, j ≤ 6 → sc'.1 (b + j) = sc.1 (b + j)) (hc2 : sc'.2 b = sc.2 b) (m0 : ∀ i, i ∈ [6, 7, 8] → sm'.1 0 i = sm.1 0 i) (m1 : ∀ i, i < 389 → sm'.1 1 i = sm.1 1 i) (m4 : sm'.1 4 = sm.1 4) : LD W H nk b sc' sm' := by
  have c0 : sc'.1 b = sc.1 b := hc 0 (by decide)
  have c1 := hc 1 (by decide)
  have c2 := hc 2 (by decide)
  have c3 := hc 3 (by decide)
  have c4 := hc 4 (by decide)
  have c5 := hc 5 (by decide)
  have c6 := hc 6 (by decide)
  refine ⟨by rw [c0]; exact L.w, by rw [m0 6 (by decide)]; exact L.w', by rw [c0]; exact L.h, by rw [m0 7 (by decide)]; exact L.h', L.W2, L.W7, L.H2, L.H7, L.n8, by rw [c0, m1 0 (by decide)]; exact L.day, by rw [c0, m1 3 (by decide)]; exact L.wind, by rw [c0, m0 8 (by decide)]; exact L.birds, by rw [c0, m1 4 (by decide)]; exact L.harm, by rw [c0, m1 1 (by decide)]; exact L.draws, fun k hk hcc => ?_, fun k hk => ?_, fun k hk => ?_, fun k hk => ?_, fun k hk => ?_, fun k hk => ?_, fun k hk => ?_⟩
  · rw [c1, m1 (5 + k) (by omega)]; exact L.wet k hk hcc
  · rw [m4, hc2]; exact L.hed k hk
  · rw [hc2]; exact L.hcl k hk
  · rw [hc2, c2, c3, m1 (69 + k) (by omega), m1 (133 + k) (by omega)]; exact L.sd k hk
  · rw [hc2, m1 (69 + k) (by omega)]; exact L.sd0 k hk
  · rw [hc2, c4, c5, c6, m1 (197 + k) (by omega), m1 (261 + k) (by omega), m1 (325 + k) (by omega)]; exact L.st k hk
  · rw [hc2, m1 (197 + k) (by omega)]; exact L.st0 k hk
theorem lo2 {C A1 A2 : Type} {F : (A1 → A2 → Option C) → A1 → A2 → Option C} (Q : Option C → Prop) (I : Nat → A1 → A2 → Prop)
    (h : ∀ (m : Nat) (rf : A1 → A2 → Option C) (a1 : A1) (a2 : A2), I m a1 a2 → (∀ m' a1 a2, m' < m → I m' a1 a2 → Q (rf a1 a2)) → Q (F rf a1 a2)) :
    ∀ (n m : Nat) (a1 : A1) (a2 : A2), m < n → I m a1 a2 → Q (lpK2 F n a1 a2) := by
  intro n
  induction n with
  | zero => intro m _ _ hm; omega
  | succ n ih =>
    intro m a1 a2 hm hI
    exact h m (lpK2 F n) a1 a2 hI (fun m' a1 a2 hlt hI' => ih m' a1 a2 (by omega) hI')
theorem many_all {s : ST} {f : Nat} {p : Nat → Bool} (hf : f ≤ 325) (hp : ∀ k, k < 64 → (s.1 1 (f + k) ≤ 0 ↔ p k = false)) : M_manyOf s (nI f) (-1) = some (nI (fb_ct p 64)) := by
  unfold M_manyOf
  refine lo2 (Q := fun r => r = some (nI (fb_ct p 64))) (I := fun m a b => ∃ i, i + m = 64 ∧ b = nI i ∧ a = nI (fb_ct p i)) ?_ FU 64 _ _ (by unfold FU; omega) ⟨0, by omega, rfl, rfl⟩
  rintro m rf a b ⟨i, him, rfl, rfl⟩ ih
  simp only [Lt_n]
  cases m with
  | zero =>
    have hi : i = 64 := by omega
    subst hi
    rw [if_pos (by decide)]
  | succ m =>
    have hi : i < 64 := by omega
    rw [if_neg (n_not64 hi), if_pos trivial, nI_add, Gl_n (by omega) (by decide), nI_1, nI_1]
    have e := fb_ct_succ p i
    cases q : p i with
    | false =>
      rw [if_pos ((hp i hi).mpr q)]
      refine ih m _ _ (Nat.lt_succ_self m) ⟨i + 1, by omega, rfl, ?_⟩
      rw [e, q]
      rfl
    | true =>
      rw [if_neg (fun h => by rw [(hp i hi).mp h] at q; cases q)]
      refine ih m _ _ (Nat.lt_succ_self m) ⟨i + 1, by omega, rfl, ?_⟩
      rw [e, q]
      rfl
theorem many_kind {s : ST} {f : Nat} {x : Int32} {p : Nat → Bool} (hf : f ≤ 325) (hx : ¬ x = -1) (hp : ∀ k, k < 64 → (s.1 1 (f + k) = x + 1 ↔ p k = true)) : M_manyOf s (nI f) x = some (nI (fb_ct p 64)) := by
  unfold M_manyOf
  refine lo2 (Q := fun r => r = some (nI (fb_ct p 64))) (I := fun m a b => ∃ i, i + m = 64 ∧ b = nI i ∧ a = nI (fb_ct p i)) ?_ FU 64 _ _ (by unfold FU; omega) ⟨0, by omega, rfl, rfl⟩
  rintro m rf a b ⟨i, him, rfl, rfl⟩ ih
  simp only [Lt_n]
  cases m with
  | zero =>
    have hi : i = 64 := by omega
    subst hi
    rw [if_pos (by decide)]
  | succ m =>
    have hi : i < 64 := by omega
    rw [if_neg (n_not64 hi), if_neg hx, nI_add, Gl_n (by omega) (by decide), nI_1, nI_1]
    have e := fb_ct_succ p i
    cases q : p i with
    | true =>
      rw [if_pos ((hp i hi).mpr q)]
      refine ih m _ _ (Nat.lt_succ_self m) ⟨i + 1, by omega, rfl, ?_⟩
      rw [e, q]
      rfl
    | false =>
      rw [if_neg (fun h => by rw [(hp i hi).mp h] at q; cases q)]
      refine ih m _ _ (Nat.lt_succ_self m) ⟨i + 1, by omega, rfl, ?_⟩
      rw [e, q]
      rfl
theorem c_count {s : ST} {x : Int64} {c : Nat} {kd : Int32} (hl : lc c = 64) : C_X9_count s x c kd = some (nI (fb_ct (fun k => bq x k && decide (s.1 c k = kd)) 64)) := by
  unfold C_X9_count
  refine lo2 (Q := fun r => r = some (nI (fb_ct (fun k => bq x k && decide (s.1 c k = kd)) 64))) (I := fun m a b => ∃ i, i + m = 64 ∧ b = nI i ∧ a = nI (fb_ct (fun k => bq x k && decide (s.1 c k = kd)) i)) ?_ FU 64 _ _ (by unfold FU; omega) ⟨0, by omega, rfl, rfl⟩
  rintro m rf a b ⟨i, him, rfl, rfl⟩ ih
  simp only [Lt_n]
  cases m with
  | zero =>
    have hi : i = 64 := by omega
    subst hi
    rw [if_pos (by decide)]
  | succ m =>
    have hi : i < 64 := by omega
    rw [if_neg (n_not64 hi), hl, if_neg (show ¬ Int32.ofNat 64 ≤ nI i from n_not64 hi), c_isIn hi, Gl_n hi (by decide), nI_1, nI_1]
    have e := fb_ct_succ (fun k => bq x k && decide (s.1 c k = kd)) i
    cases q : bq x i with
    | false =>
      rw [ift0]
      refine ih m _ _ (Nat.lt_succ_self m) ⟨i + 1, by omega, rfl, ?_⟩
      rw [e]
      simp [q]
    | true =>
      rw [ift1]
      by_cases r : s.1 c i = kd
      · rw [if_pos r]
        refine ih m _ _ (Nat.lt_succ_self m) ⟨i + 1, by omega, rfl, ?_⟩
        rw [e]
        simp [q, r]
      · rw [if_neg r]
        refine ih m _ _ (Nat.lt_succ_self m) ⟨i + 1, by omega, rfl, ?_⟩
        rw [e]
        simp [q, r]
theorem n_pos0 {n : Nat} (h : n < 100) : ¬ nI (n + 1) ≤ (0 : Int32) := nI_nle (by omega) (by omega)
theorem seeds_ct {W H nk b : Nat} {sc sm : ST} (L : LD W H nk b sc sm) : M_manyOf sm 69 (-1) = some (nI (fb_ct (bq (sc.2 b 8)) 64)) := by
  have hn8 := L.n8
  refine many_all (f := 69) (by decide) (fun k hk => ?_)
  cases q : bq (sc.2 b 8) k with
  | false => rw [L.sd0 k hk q]; exact ⟨fun _ => rfl, fun _ => by decide⟩
  | true =>
    obtain ⟨_, n, hn, _, e, _⟩ := L.sd k hk q
    rw [e]
    exact ⟨fun h => absurd h (n_pos0 (by omega)), fun h => by cases h⟩
theorem storms_ct {W H nk b : Nat} {sc sm : ST} (L : LD W H nk b sc sm) : M_manyOf sm 197 (-1) = some (nI (fb_ct (bq (sc.2 b 9)) 64)) := by
  have hn8 := L.n8
  refine many_all (f := 197) (by decide) (fun k hk => ?_)
  cases q : bq (sc.2 b 9) k with
  | false => rw [L.st0 k hk q]; exact ⟨fun _ => rfl, fun _ => by decide⟩
  | true =>
    obtain ⟨_, n, _, hn, _, _, _, e, _⟩ := L.st k hk q
    rw [e]
    exact ⟨fun h => absurd h (n_pos0 (by omega)), fun h => by cases h⟩
theorem s_look : Sim_look Rel := by
  rintro sc sm x ⟨W, H, nk, nc, nl, nw, np, R⟩
  have R' := R8_told R
  have L := R'.L
  have T := R'.T
  refine ⟨C_X9_look sc x, sc, ups sm 0 0 0, ⟨rfl, rfl⟩, ?_, ⟨W, H, nk, nc, nl, nw, np, R'⟩⟩
  obtain ⟨br, _, br1, br2⟩ := L.birds
  obtain ⟨bn, _, bn1, bn2, _⟩ := R'.B
  obtain ⟨ho, hu, _, _, _, hu1, hu2, _⟩ := R'.S.h
  unfold C_X9_look M_look M_wide M_high
  simp only [Lt_n]
  rw [L.w', L.h', m_wind L, seeds_ct L, storms_ct L, c_bitCount, c_bitCount, Bd_some, Bd_some, L.w, L.h, L.day, br1, br2, L.harm, L.draws, T.k, T.k', T.c, T.c', T.l, T.l', T.w, T.w', T.p, T.p', bn1, bn2, hu1, hu2]
  by_cases h0 : x = 0
  · rw [if_pos h0, if_pos h0]
  rw [if_neg h0, if_neg h0]
  by_cases h1 : x = 1
  · rw [if_pos h1, if_pos h1]
  rw [if_neg h1, if_neg h1]
  by_cases h2 : x = 2
  · rw [if_pos h2, if_pos h2]
  rw [if_neg h2, if_neg h2]
  by_cases h3 : x = 3
  · rw [if_pos h3, if_pos h3]
  rw [if_neg h3, if_neg h3]
  by_cases h4 : x = 4
  · rw [if_pos h4, if_pos h4]
  rw [if_neg h4, if_neg h4]
  by_cases h5 : x = 5
  · rw [if_pos h5, if_pos h5]
  rw [if_neg h5, if_neg h5]
  by_cases h6 : x = 6
  · rw [if_pos h6, if_pos h6]
  rw [if_neg h6, if_neg h6]
  by_cases h7 : x = 7
  · rw [if_pos h7, if_pos h7]
  rw [if_neg h7, if_neg h7]
  by_cases h8 : x = 8
  · rw [if_pos h8, if_pos h8]
  rw [if_neg h8, if_neg h8]
  by_cases h9 : x = 9
  · rw [if_pos h9, if_pos h9]
  rw [if_neg h9, if_neg h9]
  by_cases h10 : x = 10
  · rw [if_pos h10, if_pos h10]
  rw [if_neg h10, if_neg h10]
  by_cases h11 : x = 11
  · rw [if_pos h11, if_pos h11]
  rw [if_neg h11, if_neg h11]
  by_cases h12 : x = 12
  · rw [if_pos h12, if_pos h12]
  rw [if_neg h12, if_neg h12]
  by_cases h13 : x = 13
  · rw [if_pos h13, if_pos h13]
  rw [if_neg h13, if_neg h13]
  by_cases h14 : x = 14
  · rw [if_pos h14, if_pos h14]
  rw [if_neg h14, if_neg h14]
  by_cases h15 : x = 15
  · rw [if_pos h15, if_pos h15]
  rw [if_neg h15, if_neg h15]
theorem s_fault : Sim_fault Rel := by
  rintro sc sm x ⟨W, H, nk, nc, nl, nw, np, R⟩
  have R' := R8_told R
  refine ⟨C_X9_fault sc x, sc, ups sm 0 0 0, ⟨rfl, rfl⟩, ?_, ⟨W, H, nk, nc, nl, nw, np, R'⟩⟩
  unfold C_X9_fault M_fault
  rw [Lt_e, R'.P.f, R'.P.p]
  by_cases h0 : x = 0
  · rw [if_pos h0, if_pos h0]
  rw [if_neg h0, if_neg h0]
  by_cases h1 : x = 1
  · rw [if_pos h1, if_pos h1]
  rw [if_neg h1, if_neg h1]
theorem HS_0 {W H nk W' H' nk' : Nat} {sc sm sc' sm' : ST} (h : HS W H nk sc sm) (c2 : sc'.1 80 2 = sc.1 80 2) (c3 : sc'.1 80 3 = 0) (m3 : sm'.1 0 3 = 0) : HS W' H' nk' sc' sm' := by
  obtain ⟨o, u, ho, _, h1, _⟩ := h.h
  exact ⟨o, 0, ho, by decide, by rw [c2]; exact h1, c3, m3, fun j hj => absurd hj (Nat.not_lt_zero j)⟩
theorem HL_0 {sc sm : ST} {t : Nat} (m3 : sm.1 0 3 = 0) (B : BK t sc sm) : HL sm := by
  obtain ⟨n, hn, _, e, _⟩ := B
  exact ⟨0, fun _ => n, by decide, m3, fun j hj => absurd hj (Nat.not_lt_zero j), hn, e⟩
/-- what only the land's calls change -/
theorem R8_land {W H nk nc nl nw np : Nat} {sc sm sc' sm' : ST} (R : R8 W H nk nc nl nw np sc sm) (a : ∀ c, c = 0 ∨ (8 ≤ c ∧ c ≤ 16) ∨ (19 ≤ c ∧ c ≤ 22) ∨ (25 ≤ c ∧ c < 72) → sc'.1 c = sc.1 c ∧ sc'.2 c = sc.2 c) (k23 : sc'.1 23 0 = sc.1 23 0) (b : agr [0, 1, 2, 3, 4, 5, 15, 20, 21, 22] sm sm') (b0 : ∀ i, i ∉ [0, 3, 6, 7, 8, 45, 46, 47, 48, 49] → sm'.1 0 i = sm.1 0 i) (L' : LD W H nk 1 sc' sm') (B' : BK 23 sc' sm') (d' : ∃ d, d ≤ 999 ∧ sm'.1 1 0 = nI d) (S' : HS W H nk sc' sm') (hl' : HL sm') : R8 W H nk nc nl nw np sc' sm' :=
  ⟨L', TD_agr R.T (fun c hc => (a c (by simp only [List.mem_cons, List.not_mem_nil, or_false] at hc; omega)).1) (fun i hi => b0 i (by simp only [List.mem_cons, List.not_mem_nil, or_false] at hi ⊢; omega)) (fun c hc => (b c (by simp only [List.mem_cons, List.not_mem_nil, or_false] at hc ⊢; omega)).1), B', d',
   KS_agr R.K (fun c hc => by
     by_cases h : c = 23
     · subst h; exact k23
     · rw [(a c (by simp only [List.mem_cons, List.not_mem_nil, or_false] at hc; omega)).1]),
   TP_agr R.P (by rw [(a 49 (by decide)).1]) (by rw [(a 49 (by decide)).1]) (by rw [(a 49 (by decide)).1]) (a 50 (by decide)).1 (b0 12 (by decide)) (b0 32 (by decide)) (b0 33 (by decide)) (b 6 (by decide)).1, S', hl',
   IM_agr R.I (by rw [(a 0 (by decide)).1]) (fun c h1 h2 _ _ => a c (by omega)) (b0 51 (by decide)) (b 23 (by decide)).1, by rw [b0 5 (by decide)]; exact R.z, fun i hi => by rw [(b 7 (by decide)).1]; exact R.w i hi⟩
theorem s_state : Sim_state Rel := by
  rintro sc sm x ⟨W, H, nk, nc, nl, nw, np, R⟩
  have L := R.L
  refine ⟨sc.1 1 6, ups (ups sc 1 6 x) 80 3 0, ups (ups (ups sm 0 0 0) 1 1 x) 0 3 0, rfl, ?_, ⟨W, H, nk, nc, nl, nw, np, ?_⟩⟩
  · unfold M_state
    simp only [Lt_n]
    rw [ups_ne (by decide), L.draws]
  · have c1 : ∀ i, i ≠ 6 → (ups (ups sc 1 6 x) 80 3 0).1 1 i = sc.1 1 i := fun i hi => by rw [ups_ne (by decide), rd1, if_neg hi]
    have c6 : (ups (ups sc 1 6 x) 80 3 0).1 1 6 = x := by rw [ups_ne (by decide), rd1, if_pos rfl]
    have cc : ∀ c, c ≠ 1 → c ≠ 80 → (ups (ups sc 1 6 x) 80 3 0).1 c = sc.1 c := fun c h1 h2 => by rw [ups_ne h2, ups_ne h1]
    have m1 : ∀ i, i ≠ 1 → (ups (ups (ups sm 0 0 0) 1 1 x) 0 3 0).1 1 i = sm.1 1 i := fun i hi => by rw [ups_ne (by decide), rd1, if_neg hi, ups_ne (by decide)]
    have m11 : (ups (ups (ups sm 0 0 0) 1 1 x) 0 3 0).1 1 1 = x := by rw [ups_ne (by decide), rd1, if_pos rfl]
    have m0 : ∀ i, i ≠ 0 → i ≠ 3 → (ups (ups (ups sm 0 0 0) 1 1 x) 0 3 0).1 0 i = sm.1 0 i := fun i h0 h3 => by rw [rd1, if_neg h3, ups_ne (by decide), rd1, if_neg h0]
    have m03 : (ups (ups (ups sm 0 0 0) 1 1 x) 0 3 0).1 0 3 = 0 := by rw [rd1, if_pos rfl]
    have mm : ∀ c, c ≠ 0 → c ≠ 1 → (ups (ups (ups sm 0 0 0) 1 1 x) 0 3 0).1 c = sm.1 c := fun c h0 h1 => by rw [ups_ne h0, ups_ne h1, ups_ne h0]
    have B' : BK 23 (ups (ups sc 1 6 x) 80 3 0) (ups (ups (ups sm 0 0 0) 1 1 x) 0 3 0) := BK_agr R.B (by rw [cc _ (by decide) (by decide)]) (cc _ (by decide) (by decide)) (m1 _ (by decide)) (mm _ (by decide) (by decide))
    refine R8_land R (fun c hc => ⟨cc c (by omega) (by omega), rfl⟩) (by rw [cc _ (by decide) (by decide)]) (((agr.rf.ups (by decide)).ups (by decide)).ups (by decide)) (fun i hi => ?_) ?_ B' (by rw [m1 0 (by decide)]; exact R.d) (HS_0 R.S (by rw [rd1, if_neg (by decide), ups_ne (by decide)]) (by rw [rd1, if_pos rfl]) m03) (HL_0 m03 B')
    · simp only [List.mem_cons, List.not_mem_nil, or_false, not_or] at hi
      exact m0 i hi.1 hi.2.1
    · have D := LD_fchg (sc' := ups sc 1 6 x) (sm' := ups sm 1 1 x) L (by rw [rd1, if_neg (by decide)]) (by rw [rd1, if_neg (by decide)]) (by rw [rd1, if_neg (by decide)]) rfl rfl rfl rfl rfl rfl rfl rfl (fun i hi => by rw [rd1, if_neg (by omega)]) (by rw [rd1, if_neg (by decide), rd1, if_neg (by decide)]; exact L.day) (by rw [rd1, if_neg (by decide), rd1, if_neg (by decide)]; exact L.wind) (by rw [rd1, if_neg (by decide), rd1, if_neg (by decide)]; exact L.harm) (by rw [rd1, if_pos rfl, rd1, if_pos rfl]) (fun k hk hc => by rw [rd1, if_neg (by omega)]; exact L.wet k hk hc)
      refine LD_agr9 D (fun j hj => ups_ne (by omega)) rfl (fun i hi => ?_) (fun i hi => ?_) ?_
      · have hi2 : i ≠ 0 ∧ i ≠ 3 := by
          constructor <;> (rintro rfl; exact absurd hi (by decide))
        rw [m0 i hi2.1 hi2.2, ups_ne (by decide)]
      · rw [rd1]
        by_cases q : i = 1
        · rw [if_pos q, q, m11]
        · rw [if_neg q, m1 i q]
      · rw [mm 4 (by decide) (by decide), ups_ne (by decide)]
