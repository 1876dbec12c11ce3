/-! # stage 2: image -/
theorem pl_c : ∀ i, i < 2083 → (pl i).1 ∈ [0, 1, 4, 5, 8, 9, 10, 11, 12, 13, 14, 16, 17, 18, 19] ∧ ((pl i).1 = 0 → (pl i).2 ∈ [6, 7, 8, 34, 36, 40, 42]) := by decide +kernel
theorem kj_at {x : Int32} {s s' : ST} {C : Type} {K : ST → Option C} (Q : Option C → Prop) {P c f : Nat} (h : KJ x s P s') (hP : P < 2083) (hpl : pl P = (c, f)) (hK : ∀ s1, KJ x s (P + 1) s1 → Q (K s1)) : Q (Bd (M_keeps s' (s'.1 c f)) fun y => Lt (ups y.2 c f y.1) fun s1 => K s1) := by
  obtain ⟨s1, e, g⟩ := kj_step h hP hpl
  rw [e, Bd_some, Lt_e]
  exact hK _ g
theorem kj_told {x : Int32} {s s5 : ST} (h : KJ x s 389 s5) : ∃ s6, M_keepsTold s5 = some s6 ∧ KJ x s 618 s6 := by
  unfold M_keepsTold
  refine kj_at (fun o => ∃ s6, o = some s6 ∧ KJ x s 618 s6) (f := 6) h (by decide) rfl (fun s1 h1 => ?_)
  refine kj_at (fun o => ∃ s6, o = some s6 ∧ KJ x s 618 s6) (f := 7) h1 (by decide) rfl (fun s2 h2 => ?_)
  refine kj_at (fun o => ∃ s6, o = some s6 ∧ KJ x s 618 s6) (f := 8) h2 (by decide) rfl (fun s3 h3 => ?_)
  refine kj_at (fun o => ∃ s6, o = some s6 ∧ KJ x s 618 s6) (f := 34) h3 (by decide) rfl (fun s4 h4 => ?_)
  refine kj_at (fun o => ∃ s6, o = some s6 ∧ KJ x s 618 s6) (f := 36) h4 (by decide) rfl (fun s5 h5 => ?_)
  refine kj_at (fun o => ∃ s6, o = some s6 ∧ KJ x s 618 s6) (f := 40) h5 (by decide) rfl (fun s6 h6 => ?_)
  refine kj_at (fun o => ∃ s6, o = some s6 ∧ KJ x s 618 s6) (f := 42) h6 (by decide) rfl (fun s7 h7 => ?_)
  refine kj_loop (fun o => ∃ s6, o = some s6 ∧ KJ x s 618 s6) (B := 396) (N := 64) (o := 0) h7 rfl rfl pl_4 (by decide) (by decide) (by decide) (by decide) (fun s8 h8 => ?_)
  refine kj_loop (fun o => ∃ s6, o = some s6 ∧ KJ x s 618 s6) (B := 460) (N := 24) (o := 0) h8 rfl rfl pl_16 (by decide) (by decide) (by decide) (by decide) (fun s9 h9 => ?_)
  refine kj_loop (fun o => ∃ s6, o = some s6 ∧ KJ x s 618 s6) (B := 484) (N := 30) (o := 0) h9 rfl rfl pl_17 (by decide) (by decide) (by decide) (by decide) (fun s10 h10 => ?_)
  refine kj_loop (fun o => ∃ s6, o = some s6 ∧ KJ x s 618 s6) (B := 514) (N := 40) (o := 0) h10 rfl rfl pl_18 (by decide) (by decide) (by decide) (by decide) (fun s11 h11 => ?_)
  refine kj_loop (fun o => ∃ s6, o = some s6 ∧ KJ x s 618 s6) (B := 554) (N := 64) (o := 0) h11 rfl rfl pl_19 (by decide) (by decide) (by decide) (by decide) (fun s12 h12 => ?_)
  exact ⟨s12, rfl, h12⟩
theorem kj_law {x : Int32} {s s5 : ST} (h : KJ x s 1218 s5) : ∃ s6, M_keepsLaw s5 = some s6 ∧ KJ x s 2083 s6 := by
  unfold M_keepsLaw
  rw [Lt_e]
  refine kj_at (fun o => ∃ s6, o = some s6 ∧ KJ x s 2083 s6) (c := 8) (f := 1) h (by decide) rfl (fun s1 h1 => ?_)
  refine lo2 (Q := fun o => ∃ s6, o = some s6 ∧ KJ x s 2083 s6) (I := fun m a st => ∃ i, i + m = 16 ∧ a = nI (16 + i) ∧ KJ x s (1219 + 4 * i) st) ?_ FU 16 _ _ (by unfold FU; omega) ⟨0, by omega, rfl, h1⟩
  rintro m rf a st ⟨i, him, rfl, g⟩ ih
  cases m with
  | zero =>
    have hi : i = 16 := by omega
    subst hi
    rw [if_pos (show (32 : Int32) ≤ nI (16 + 16) from le_t (by decide))]
    refine lo2 (Q := fun o => ∃ s6, o = some s6 ∧ KJ x s 2083 s6) (I := fun m a st => ∃ i, i + m = 400 ∧ a = nI (400 + i) ∧ KJ x s (1283 + 2 * i) st) ?_ FU 400 _ _ (by unfold FU; omega) ⟨0, by omega, rfl, g⟩
    rintro m rf a st ⟨i, him, rfl, g⟩ ih
    cases m with
    | zero =>
      have hi : i = 400 := by omega
      subst hi
      rw [if_pos (show (800 : Int32) ≤ nI (400 + 400) from le_t (by decide))]
      exact ⟨st, rfl, g⟩
    | succ m =>
      have hi : i < 400 := by omega
      rw [if_neg (show ¬ (800 : Int32) ≤ nI (400 + i) from nle_t (n := 800) (by omega) (by decide)), nI_1]
      refine kj_cell (fun o => ∃ s6, o = some s6 ∧ KJ x s 2083 s6) (P := 1283 + 2 * i) g (by omega) (pl_13 0 (by decide) i hi) (by omega) (by decide) (fun s1 g1 => ?_)
      refine kj_cell (fun o => ∃ s6, o = some s6 ∧ KJ x s 2083 s6) (P := 1283 + 2 * i + 1) g1 (by omega) (pl_13 1 (by decide) i hi) (by omega) (by decide) (fun s2 g2 => ?_)
      exact ih m _ _ (Nat.lt_succ_self m) ⟨i + 1, by omega, rfl, g2⟩
  | succ m =>
    have hi : i < 16 := by omega
    rw [if_neg (show ¬ (32 : Int32) ≤ nI (16 + i) from nle_t (n := 32) (by omega) (by decide)), nI_1]
    refine kj_cell (fun o => ∃ s6, o = some s6 ∧ KJ x s 2083 s6) (P := 1219 + 4 * i) g (by omega) (pl_9 0 (by decide) i hi) (by omega) (by decide) (fun s1 g1 => ?_)
    refine kj_cell (fun o => ∃ s6, o = some s6 ∧ KJ x s 2083 s6) (P := 1219 + 4 * i + 1) g1 (by omega) (pl_9 1 (by decide) i hi) (by omega) (by decide) (fun s2 g2 => ?_)
    refine kj_cell (fun o => ∃ s6, o = some s6 ∧ KJ x s 2083 s6) (P := 1219 + 4 * i + 2) g2 (by omega) (pl_9 2 (by decide) i hi) (by omega) (by decide) (fun s3 g3 => ?_)
    refine kj_cell (fun o => ∃ s6, o = some s6 ∧ KJ x s 2083 s6) (P := 1219 + 4 * i + 3) g3 (by omega) (pl_9 3 (by decide) i hi) (by omega) (by decide) (fun s4 g4 => ?_)
    exact ih m _ _ (Nat.lt_succ_self m) ⟨i + 1, by omega, rfl, g4⟩
theorem kj_image {x : Int32} {s s4 : ST} (h : KJ x s 0 s4) : ∃ s8, lpK2 (C := Int32 × ST) (fun (rec1 : Int32 → ST → Option (Int32 × ST)) (a1 : Int32) (s5 : ST) => if (389 : Int32) ≤ a1 then (Bd (M_keepsTold s5) fun s6 => lpK2 (C := Int32 × ST) (fun (rec2 : Int32 → ST → Option (Int32 × ST)) (a2 : Int32) (s7 : ST) => if (600 : Int32) ≤ a2 then (Bd (M_keepsLaw s7) fun s8 => if x = 0 then (Lt (ups s8 0 3 (0 : Int32)) fun s9 => some ((1 : Int32), s9)) else (some ((1 : Int32), s8))) else (Gl s7 5 600 a2 fun y1 => Bd (M_keeps s7 y1) fun y2 => Gs y2.2 5 600 a2 y2.1 fun s10 => rec2 (a2 + (1 : Int32)) s10)) FU (0 : Int32) s6) else (Gl s5 1 389 a1 fun y3 => Bd (M_keeps s5 y3) fun y4 => Gs y4.2 1 389 a1 y4.1 fun s11 => rec1 (a1 + (1 : Int32)) s11)) FU (0 : Int32) s4 = (if x = 0 then (Lt (ups s8 0 3 (0 : Int32)) fun s9 => some ((1 : Int32), s9)) else (some ((1 : Int32), s8))) ∧ KJ x s 2083 s8 := by
  refine kj_loop (fun o => ∃ s8, o = (if x = 0 then (Lt (ups s8 0 3 (0 : Int32)) fun s9 => some ((1 : Int32), s9)) else (some ((1 : Int32), s8))) ∧ KJ x s 2083 s8) (B := 0) (N := 389) (o := 0) h rfl rfl pl_1 (by decide) (by decide) (by decide) (by decide) (fun s5 h5 => ?_)
  obtain ⟨s6, e6, h6⟩ := kj_told h5
  rw [e6, Bd_some]
  refine kj_loop (fun o => ∃ s8, o = (if x = 0 then (Lt (ups s8 0 3 (0 : Int32)) fun s9 => some ((1 : Int32), s9)) else (some ((1 : Int32), s8))) ∧ KJ x s 2083 s8) (B := 618) (N := 600) (o := 0) h6 rfl rfl pl_5 (by decide) (by decide) (by decide) (by decide) (fun s7 h7 => ?_)
  obtain ⟨s8, e8, h8⟩ := kj_law h7
  rw [e8, Bd_some]
  exact ⟨s8, rfl, h8⟩
theorem Gcp400 {B : Type} {s : ST} {a c : Nat} {f : ST → Option B} : Gcp s a 400 c 400 (0 : Int32) (0 : Int32) (400 : Int32) f = f (upr s c (va_cpy (s.1 a) (s.1 c) 0 0 400)) := by
  have e0 : (0 : Int32).toNatClampNeg = 0 := by decide
  have e64 : (400 : Int32).toNatClampNeg = 400 := by decide
  unfold Gcp
  rw [e0, e64, if_pos ⟨⟨by decide, by decide, by decide⟩, by decide, by decide⟩]
/-- all that was told is copied -/
theorem c_copy7 {W H nk nc nl nw np t u : Nat} {s sm : ST} (htu : (t = 8 ∧ u = 32) ∨ (t = 32 ∧ u = 8)) (T : TD W H nk nc nl nw np u s sm) (K : KS s) : ∃ s', C_X7_copy s t u = some s' ∧ agr [t + 1, t + 2, t + 3, t + 4, t + 5, t + 6, t + 7, t + 8, t + 11, t + 12, t + 13, t + 14] s s' ∧ (∀ c, s'.1 c 0 = s.1 c 0 ∨ c ∉ [t + 1, t + 3, t + 6, t + 11, t + 13]) ∧
    s'.1 (t + 1) 2 = s.1 (u + 1) 2 ∧ (∀ i, i < 4 * nk → s'.1 (t + 2) i = s.1 (u + 2) i) ∧ s'.1 (t + 3) 2 = s.1 (u + 3) 2 ∧ (∀ i, i < 4 * nc → s'.1 (t + 4) i = s.1 (u + 4) i) ∧ s'.1 (t + 6) 2 = s.1 (u + 6) 2 ∧ (∀ i, i < 4 * nl → s'.1 (t + 7) i = s.1 (u + 7) i) ∧ (∀ i, i < 400 → s'.1 (t + 8) i = s.1 (u + 8) i) ∧ s'.1 (t + 11) 2 = s.1 (u + 11) 2 ∧ (∀ i, i < 4 * nw → s'.1 (t + 12) i = s.1 (u + 12) i) ∧ s'.1 (t + 13) 2 = s.1 (u + 13) 2 ∧ (∀ i, i < 4 * np → s'.1 (t + 14) i = s.1 (u + 14) i) := by
  have h8 := T.k8
  have h10 := T.c10
  have h16 := T.l16
  have hw := T.w10
  have hp := T.p16
  have hd : t + 14 < u ∨ u + 14 < t := by omega
  have hl : (lc (t + 1 + 1) = 32 ∧ lc (t + 3 + 1) = 40 ∧ lc (t + 6 + 1) = 64 ∧ lc (t + 11 + 1) = 40 ∧ lc (t + 13 + 1) = 64) ∧ (lc (u + 1 + 1) = 32 ∧ lc (u + 3 + 1) = 40 ∧ lc (u + 6 + 1) = 64 ∧ lc (u + 11 + 1) = 40 ∧ lc (u + 13 + 1) = 64) := by
    rcases htu with ⟨rfl, rfl⟩ | ⟨rfl, rfl⟩ <;> exact ⟨⟨rfl, rfl, rfl, rfl, rfl⟩, rfl, rfl, rfl, rfl, rfl⟩
  have hk : s.1 (t + 1) 0 = nI 8 ∧ s.1 (t + 3) 0 = nI 10 ∧ s.1 (t + 6) 0 = nI 16 ∧ s.1 (t + 11) 0 = nI 10 ∧ s.1 (t + 13) 0 = nI 16 := by
    rcases htu with ⟨rfl, rfl⟩ | ⟨rfl, rfl⟩
    · exact ⟨K.k9, K.k11, K.k14, K.k19, K.k21⟩
    · exact ⟨K.k33, K.k35, K.k38, K.k43, K.k45⟩
  clear htu
  obtain ⟨⟨l1, l3, l6, l11, l13⟩, r1, r3, r6, r11, r13⟩ := hl
  obtain ⟨k1, k3, k6, k11, k13⟩ := hk
  obtain ⟨s1, e1, a1, b1, z1, d1⟩ := c_tcopy (b := t + 1) (x := u + 1) T.k k1 (by omega) (by decide) (by omega) (by omega)
  obtain ⟨s2, e2, a2, b2, z2, d2⟩ := c_tcopy (s := s1) (b := t + 3) (x := u + 3) (n := nc) (M := 10) (by rw [(a1 (u + 3) (by simp; omega)).1]; exact T.c) (by rw [(a1 (t + 3) (by simp)).1]; exact k3) (by omega) (by decide) (by omega) (by omega)
  obtain ⟨s3, e3, a3, b3, z3, d3⟩ := c_tcopy (s := s2) (b := t + 6) (x := u + 6) (n := nl) (M := 16) (by rw [(a2 (u + 6) (by simp; omega)).1, (a1 (u + 6) (by simp; omega)).1]; exact T.l) (by rw [(a2 (t + 6) (by simp)).1, (a1 (t + 6) (by simp)).1]; exact k6) (by omega) (by decide) (by omega) (by omega)
  obtain ⟨s4, e4⟩ : ∃ s4, s4 = ups (upr s3 (t + 8) (va_cpy (s3.1 (u + 8)) (s3.1 (t + 8)) 0 0 400)) (t + 5) 2 ((upr s3 (t + 8) (va_cpy (s3.1 (u + 8)) (s3.1 (t + 8)) 0 0 400)).1 (u + 5) 2) := ⟨_, rfl⟩
  have a4 : agr [t + 5, t + 8] s3 s4 := by rw [e4]; exact (agr.rf.upr (by simp)).ups (by simp)
  have d4 : ∀ i, i < 400 → s4.1 (t + 8) i = s3.1 (u + 8) i := fun i hi => by rw [e4, ups_ne (by omega), upr_eq, cpy_lt hi]
  obtain ⟨s5, e5, a5, b5, z5, d5⟩ := c_tcopy (s := s4) (b := t + 11) (x := u + 11) (n := nw) (M := 10) (by rw [(a4 (u + 11) (by simp; omega)).1, (a3 (u + 11) (by simp; omega)).1, (a2 (u + 11) (by simp; omega)).1, (a1 (u + 11) (by simp; omega)).1]; exact T.w) (by rw [(a4 (t + 11) (by simp)).1, (a3 (t + 11) (by simp)).1, (a2 (t + 11) (by simp)).1, (a1 (t + 11) (by simp)).1]; exact k11) (by omega) (by decide) (by omega) (by omega)
  obtain ⟨s6, e6, a6, b6, z6, d6⟩ := c_tcopy (s := s5) (b := t + 13) (x := u + 13) (n := np) (M := 16) (by rw [(a5 (u + 13) (by simp; omega)).1, (a4 (u + 13) (by simp; omega)).1, (a3 (u + 13) (by simp; omega)).1, (a2 (u + 13) (by simp; omega)).1, (a1 (u + 13) (by simp; omega)).1]; exact T.p) (by rw [(a5 (t + 13) (by simp)).1, (a4 (t + 13) (by simp)).1, (a3 (t + 13) (by simp)).1, (a2 (t + 13) (by simp)).1, (a1 (t + 13) (by simp)).1]; exact k13) (by omega) (by decide) (by omega) (by omega)
  have e3' : C_X4_copy s2 (t + 5 + 1) (u + 5 + 1) = some s3 := e3
  refine ⟨s6, ?_, ?_, fun c => ?_, ?_, fun i hi => ?_, ?_, fun i hi => ?_, ?_, fun i hi => ?_, fun i hi => ?_, ?_, fun i hi => ?_, ?_, fun i hi => ?_⟩
  · unfold C_X7_copy C_X2_copy
    rw [e1, Bd_some, e2, Bd_some, e3', Bd_some, show t + 5 + 3 = t + 8 from rfl, show u + 5 + 3 = u + 8 from rfl, Gcp400, Lt_e, Bd_some, ← e4, e5, Bd_some, e6, Bd_some]
  · exact (((((a1.mono (by simp)).tr (a2.mono (by simp))).tr (a3.mono (by simp))).tr (a4.mono (by simp))).tr (a5.mono (by simp))).tr (a6.mono (by simp))
  · by_cases hc : c ∈ [t + 1, t + 3, t + 6, t + 11, t + 13]
    · left
      simp only [List.mem_cons, List.not_mem_nil, or_false] at hc
      rcases hc with rfl | rfl | rfl | rfl | rfl
      · rw [(a6 _ (by simp)).1, (a5 _ (by simp)).1, (a4 _ (by simp)).1, (a3 _ (by simp)).1, (a2 _ (by simp)).1, z1 0 (by decide)]
      · rw [(a6 _ (by simp)).1, (a5 _ (by simp)).1, (a4 _ (by simp)).1, (a3 _ (by simp)).1, z2 0 (by decide), (a1 _ (by simp)).1]
      · rw [(a6 _ (by simp)).1, (a5 _ (by simp)).1, (a4 _ (by simp)).1, z3 0 (by decide), (a2 _ (by simp)).1, (a1 _ (by simp)).1]
      · rw [(a6 _ (by simp)).1, z5 0 (by decide), (a4 _ (by simp)).1, (a3 _ (by simp)).1, (a2 _ (by simp)).1, (a1 _ (by simp)).1]
      · rw [z6 0 (by decide), (a5 _ (by simp)).1, (a4 _ (by simp)).1, (a3 _ (by simp)).1, (a2 _ (by simp)).1, (a1 _ (by simp)).1]
    · exact Or.inr hc
  · rw [(a6 _ (by simp)).1, (a5 _ (by simp)).1, (a4 _ (by simp)).1, (a3 _ (by simp)).1, (a2 _ (by simp)).1, b1, T.k]
  · rw [(a6 _ (by simp)).1, (a5 _ (by simp)).1, (a4 _ (by simp)).1, (a3 _ (by simp)).1, (a2 _ (by simp)).1]
    exact d1 i hi
  · rw [(a6 _ (by simp)).1, (a5 _ (by simp)).1, (a4 _ (by simp)).1, (a3 _ (by simp)).1, b2, T.c]
  · rw [(a6 _ (by simp)).1, (a5 _ (by simp)).1, (a4 _ (by simp)).1, (a3 _ (by simp)).1]
    exact (d2 i hi).trans (by rw [(a1 _ (by simp; omega)).1])
  · rw [(a6 _ (by simp)).1, (a5 _ (by simp)).1, (a4 _ (by simp)).1, b3, T.l]
  · rw [(a6 _ (by simp)).1, (a5 _ (by simp)).1, (a4 _ (by simp)).1]
    exact (d3 i hi).trans (by rw [(a2 _ (by simp; omega)).1, (a1 _ (by simp; omega)).1])
  · rw [(a6 _ (by simp)).1, (a5 _ (by simp)).1, d4 i hi, (a3 _ (by simp; omega)).1, (a2 _ (by simp; omega)).1, (a1 _ (by simp; omega)).1]
  · rw [(a6 _ (by simp)).1, b5, T.w]
  · rw [(a6 _ (by simp)).1]
    exact (d5 i hi).trans (by rw [(a4 _ (by simp; omega)).1, (a3 _ (by simp; omega)).1, (a2 _ (by simp; omega)).1, (a1 _ (by simp; omega)).1])
  · rw [b6, T.p]
  · exact (d6 i hi).trans (by rw [(a5 _ (by simp; omega)).1, (a4 _ (by simp; omega)).1, (a3 _ (by simp; omega)).1, (a2 _ (by simp; omega)).1, (a1 _ (by simp; omega)).1])
def TA (f g : ST) : Prop := ∀ i, i < 2083 → f.1 (pl i).1 (pl i).2 = g.1 (pl i).1 (pl i).2
theorem TA.c1 {f g : ST} (h : TA f g) : ∀ i, i < 389 → f.1 1 i = g.1 1 i := fun i hi => by
  have e := h (0 + i) (by omega)
  rw [pl_1 i hi, Nat.zero_add] at e
  exact e
theorem TA.c4 {f g : ST} (h : TA f g) : ∀ i, i < 64 → f.1 4 i = g.1 4 i := fun i hi => by
  have e := h (396 + i) (by omega)
  rw [pl_4 i hi, Nat.zero_add] at e
  exact e
theorem TA.c16 {f g : ST} (h : TA f g) : ∀ i, i < 24 → f.1 16 i = g.1 16 i := fun i hi => by
  have e := h (460 + i) (by omega)
  rw [pl_16 i hi, Nat.zero_add] at e
  exact e
theorem TA.c17 {f g : ST} (h : TA f g) : ∀ i, i < 30 → f.1 17 i = g.1 17 i := fun i hi => by
  have e := h (484 + i) (by omega)
  rw [pl_17 i hi, Nat.zero_add] at e
  exact e
theorem TA.c18 {f g : ST} (h : TA f g) : ∀ i, i < 40 → f.1 18 i = g.1 18 i := fun i hi => by
  have e := h (514 + i) (by omega)
  rw [pl_18 i hi, Nat.zero_add] at e
  exact e
theorem TA.c19 {f g : ST} (h : TA f g) : ∀ i, i < 64 → f.1 19 i = g.1 19 i := fun i hi => by
  have e := h (554 + i) (by omega)
  rw [pl_19 i hi, Nat.zero_add] at e
  exact e
theorem TA.c5 {f g : ST} (h : TA f g) : ∀ i, i < 600 → f.1 5 i = g.1 5 i := fun i hi => by
  have e := h (618 + i) (by omega)
  rw [pl_5 i hi, Nat.zero_add] at e
  exact e
theorem TA.c0 {f g : ST} (h : TA f g) : ∀ i, i ∈ [6, 7, 8, 34, 36, 40, 42] → f.1 0 i = g.1 0 i := fun i hi => by
  simp only [List.mem_cons, List.not_mem_nil, or_false] at hi
  rcases hi with rfl | rfl | rfl | rfl | rfl | rfl | rfl
  · exact h 389 (by decide)
  · exact h 390 (by decide)
  · exact h 391 (by decide)
  · exact h 392 (by decide)
  · exact h 393 (by decide)
  · exact h 394 (by decide)
  · exact h 395 (by decide)
theorem TA.c8 {f g : ST} (h : TA f g) : f.1 8 1 = g.1 8 1 := h 1218 (by decide)
theorem TA.c9 {f g : ST} (h : TA f g) : ∀ c, c ∈ [9, 10, 11, 12] → ∀ i, i < 16 → f.1 c (16 + i) = g.1 c (16 + i) := fun c hc i hi => by
  simp only [List.mem_cons, List.not_mem_nil, or_false] at hc
  have e := h (1219 + 4 * i + (c - 9)) (by omega)
  rw [pl_9 (c - 9) (by omega) i hi, show 9 + (c - 9) = c by omega] at e
  exact e
theorem TA.c13 {f g : ST} (h : TA f g) : ∀ c, c ∈ [13, 14] → ∀ i, i < 400 → f.1 c (400 + i) = g.1 c (400 + i) := fun c hc i hi => by
  simp only [List.mem_cons, List.not_mem_nil, or_false] at hc
  have e := h (1283 + 2 * i + (c - 13)) (by omega)
  rw [pl_13 (c - 13) (by omega) i hi, show 13 + (c - 13) = c by omega] at e
  exact e
theorem LD_ta {W H nk b : Nat} {sc sm sm' : ST} (h : TA sm' sm) (L : LD W H nk b sc sm) : LD W H nk b sc sm' :=
  LD_agrx L (fun i hi => h.c0 i (by simp only [List.mem_cons, List.not_mem_nil, or_false] at hi ⊢; omega)) h.c1 h.c4
theorem TD_ta {W H nk nc nl nw np t u : Nat} {sc sm sc' sm' : ST} (h : TA sm' sm) (T : TD W H nk nc nl nw np t sc sm)
    (c : sc'.1 (u + 1) 2 = sc.1 (t + 1) 2 ∧ (∀ i, i < 4 * nk → sc'.1 (u + 2) i = sc.1 (t + 2) i) ∧ sc'.1 (u + 3) 2 = sc.1 (t + 3) 2 ∧ (∀ i, i < 4 * nc → sc'.1 (u + 4) i = sc.1 (t + 4) i) ∧ sc'.1 (u + 6) 2 = sc.1 (t + 6) 2 ∧ (∀ i, i < 4 * nl → sc'.1 (u + 7) i = sc.1 (t + 7) i) ∧ (∀ i, i < 400 → sc'.1 (u + 8) i = sc.1 (t + 8) i) ∧ sc'.1 (u + 11) 2 = sc.1 (t + 11) 2 ∧ (∀ i, i < 4 * nw → sc'.1 (u + 12) i = sc.1 (t + 12) i) ∧ sc'.1 (u + 13) 2 = sc.1 (t + 13) 2 ∧ (∀ i, i < 4 * np → sc'.1 (u + 14) i = sc.1 (t + 14) i)) : TD W H nk nc nl nw np u sc' sm' := by
  obtain ⟨c1, c2, c3, c4, c6, c7, c8, c11, c12, c13, c14⟩ := c
  exact TD_move T c1 c2 c3 c4 c6 c7 c8 c11 c12 c13 c14 (fun i hi => h.c0 i (by simp only [List.mem_cons, List.not_mem_nil, or_false] at hi ⊢; omega)) h.c8 h.c9 h.c13 h.c16 h.c17 h.c18 h.c19
theorem TD_ta0 {W H nk nc nl nw np t : Nat} {sc sm sm' : ST} (h : TA sm' sm) (T : TD W H nk nc nl nw np t sc sm) : TD W H nk nc nl nw np t sc sm' := TD_ta h T ⟨rfl, fun _ _ => rfl, rfl, fun _ _ => rfl, rfl, fun _ _ => rfl, fun _ _ => rfl, rfl, fun _ _ => rfl, rfl, fun _ _ => rfl⟩
theorem BK_ta {t u : Nat} {sc sm sc' sm' : ST} (h : TA sm' sm) (B : BK t sc sm) (c0 : sc'.1 u 2 = sc.1 t 2) (c1 : ∀ n, sc.1 t 2 = nI n → n ≤ 150 → ∀ i, i < 4 * n → sc'.1 (u + 1) i = sc.1 (t + 1) i) : BK u sc' sm' :=
  BK_move B c0 c1 (h.c1 2 (by decide)) h.c5
