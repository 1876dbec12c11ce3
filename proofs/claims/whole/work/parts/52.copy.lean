/-! # stage 2: copies, what can be undone -/
theorem Gcp64 {B : Type} {s : ST} {a c : Nat} {f : ST → Option B} : Gcp s a 64 c 64 (0 : Int32) (0 : Int32) (64 : Int32) f = f (upr s c (va_cpy (s.1 a) (s.1 c) 0 0 64)) := by
  have e0 : (0 : Int32).toNatClampNeg = 0 := by decide
  have e64 : (64 : Int32).toNatClampNeg = 64 := by decide
  unfold Gcp
  rw [e0, e64, if_pos ⟨⟨by decide, by decide, by decide⟩, by decide, by decide⟩]
theorem cpy_lt {f g : Nat → Int32} {n k : Nat} (h : k < n) : va_cpy f g 0 0 n k = f k := by
  unfold va_cpy
  rw [if_pos ⟨Nat.zero_le _, by omega⟩]
  congr 1
  omega
theorem copyL {s : ST} {b x : Nat} (h : b + 6 < x ∨ x + 6 < b) : ∃ s', C_X1_copy s b x = some s' ∧ agr [b, b + 1, b + 2, b + 3, b + 4, b + 5, b + 6] s s' ∧ (∀ i, i < 7 → s'.1 b i = s.1 x i) ∧ (∀ i, 7 ≤ i → i ≤ 9 → s'.2 b i = s.2 x i) ∧ ∀ j k, 1 ≤ j → j ≤ 6 → k < 64 → s'.1 (b + j) k = s.1 (x + j) k := by
  have step : ∀ S : ST, (∀ c, c ≠ b → S.1 c = s.1 c ∧ S.2 c = s.2 c) → (∀ i, i < 7 → S.1 b i = s.1 x i) → (∀ i, 7 ≤ i → i ≤ 9 → S.2 b i = s.2 x i) → ∃ s', (Gcp S (x + 1) 64 (b + 1) 64 (0 : Int32) (0 : Int32) (64 : Int32) fun s11 => Gcp s11 (x + 2) 64 (b + 2) 64 (0 : Int32) (0 : Int32) (64 : Int32) fun s12 => Gcp s12 (x + 3) 64 (b + 3) 64 (0 : Int32) (0 : Int32) (64 : Int32) fun s13 => Gcp s13 (x + 4) 64 (b + 4) 64 (0 : Int32) (0 : Int32) (64 : Int32) fun s14 => Gcp s14 (x + 5) 64 (b + 5) 64 (0 : Int32) (0 : Int32) (64 : Int32) fun s15 => Gcp s15 (x + 6) 64 (b + 6) 64 (0 : Int32) (0 : Int32) (64 : Int32) fun s16 => some s16) = some s' ∧ agr [b, b + 1, b + 2, b + 3, b + 4, b + 5, b + 6] s s' ∧ (∀ i, i < 7 → s'.1 b i = s.1 x i) ∧ (∀ i, 7 ≤ i → i ≤ 9 → s'.2 b i = s.2 x i) ∧ ∀ j k, 1 ≤ j → j ≤ 6 → k < 64 → s'.1 (b + j) k = s.1 (x + j) k := by
    intro S h1 h2 h3
    rw [Gcp64, Gcp64, Gcp64, Gcp64, Gcp64, Gcp64]
    refine ⟨_, rfl, fun c hc => ?_, fun i hi => ?_, fun i hi1 hi2 => ?_, fun j k hj1 hj2 hk => ?_⟩
    · simp only [List.mem_cons, List.not_mem_nil, or_false, not_or] at hc
      obtain ⟨d0, d1, d2, d3, d4, d5, d6⟩ := hc
      refine ⟨?_, (h1 c d0).2⟩
      rw [upr_ne d6, upr_ne d5, upr_ne d4, upr_ne d3, upr_ne d2, upr_ne d1]
      exact (h1 c d0).1
    · rw [upr_ne (by omega), upr_ne (by omega), upr_ne (by omega), upr_ne (by omega), upr_ne (by omega), upr_ne (by omega)]
      exact h2 i hi
    · exact h3 i hi1 hi2
    · rcases (by omega : j = 1 ∨ j = 2 ∨ j = 3 ∨ j = 4 ∨ j = 5 ∨ j = 6) with rfl | rfl | rfl | rfl | rfl | rfl
      · rw [upr_ne (by omega), upr_ne (by omega), upr_ne (by omega), upr_ne (by omega), upr_ne (by omega), upr_eq, cpy_lt hk, (h1 _ (by omega)).1]
      · rw [upr_ne (by omega), upr_ne (by omega), upr_ne (by omega), upr_ne (by omega), upr_eq, cpy_lt hk, upr_ne (by omega), (h1 _ (by omega)).1]
      · rw [upr_ne (by omega), upr_ne (by omega), upr_ne (by omega), upr_eq, cpy_lt hk, upr_ne (by omega), upr_ne (by omega), (h1 _ (by omega)).1]
      · rw [upr_ne (by omega), upr_ne (by omega), upr_eq, cpy_lt hk, upr_ne (by omega), upr_ne (by omega), upr_ne (by omega), (h1 _ (by omega)).1]
      · rw [upr_ne (by omega), upr_eq, cpy_lt hk, upr_ne (by omega), upr_ne (by omega), upr_ne (by omega), upr_ne (by omega), (h1 _ (by omega)).1]
      · rw [upr_eq, cpy_lt hk, upr_ne (by omega), upr_ne (by omega), upr_ne (by omega), upr_ne (by omega), upr_ne (by omega), (h1 _ (by omega)).1]
  have hxb : x ≠ b := by omega
  have R1 : ∀ (s : ST) i v, (ups s b i v).1 x = s.1 x := fun s i v => ups_ne hxb
  have R2 : ∀ (s : ST) i v, (upl s b i v).2 x = s.2 x := fun s i v => upl_ne hxb
  unfold C_X1_copy
  simp only [Lt_n, R1, R2, upl_1, ups_2]
  refine step _ (fun c hc => ⟨?_, ?_⟩) (fun i hi => ?_) (fun i hi1 hi2 => ?_)
  · rw [upl_1, upl_1, upl_1, ups_ne hc, ups_ne hc, ups_ne hc, ups_ne hc, ups_ne hc, ups_ne hc, ups_ne hc]
  · rw [upl_ne hc, upl_ne hc, upl_ne hc, ups_2, ups_2, ups_2, ups_2, ups_2, ups_2, ups_2]
  · rw [upl_1, upl_1, upl_1, rd1, rd1, rd1, rd1, rd1, rd1, rd1]
    rcases (by omega : i = 0 ∨ i = 1 ∨ i = 2 ∨ i = 3 ∨ i = 4 ∨ i = 5 ∨ i = 6) with rfl | rfl | rfl | rfl | rfl | rfl | rfl <;> rfl
  · rcases (by omega : i = 7 ∨ i = 8 ∨ i = 9) with rfl | rfl | rfl <;> simp [upl_at]
theorem copy_LD {W H nk b x : Nat} {s s' sm : ST} (h1 : ∀ i, i < 7 → s'.1 b i = s.1 x i) (h2 : ∀ i, 7 ≤ i → i ≤ 9 → s'.2 b i = s.2 x i) (h3 : ∀ j k, 1 ≤ j → j ≤ 6 → k < 64 → s'.1 (b + j) k = s.1 (x + j) k) (L : LD W H nk x s sm) : LD W H nk b s' sm := by
  have e7 := h2 7 (by decide) (by decide)
  have e8 := h2 8 (by decide) (by decide)
  have e9 := h2 9 (by decide) (by decide)
  refine ⟨by rw [h1 0 (by decide)]; exact L.w, L.w', by rw [h1 1 (by decide)]; exact L.h, L.h', L.W2, L.W7, L.H2, L.H7, L.n8, by rw [h1 2 (by decide)]; exact L.day, by rw [h1 3 (by decide)]; exact L.wind, by rw [h1 4 (by decide)]; exact L.birds, by rw [h1 5 (by decide)]; exact L.harm, by rw [h1 6 (by decide)]; exact L.draws, fun k hk hc => ?_, fun k hk => ?_, fun k hk => ?_, fun k hk => ?_, fun k hk => ?_, fun k hk => ?_, fun k hk => ?_⟩
  · rw [h3 1 k (by decide) (by decide) hk]; exact L.wet k hk hc
  · rw [e7]; exact L.hed k hk
  · rw [e7]; exact L.hcl k hk
  · rw [e8, h3 2 k (by decide) (by decide) hk, h3 3 k (by decide) (by decide) hk]; exact L.sd k hk
  · rw [e8]; exact L.sd0 k hk
  · rw [e9, h3 4 k (by decide) (by decide) hk, h3 5 k (by decide) (by decide) hk, h3 6 k (by decide) (by decide) hk]; exact L.st k hk
  · rw [e9]; exact L.st0 k hk
theorem upr_self (s : ST) (a : Nat) : upr s a (s.1 a) = s := by
  apply Prod.ext
  · funext c
    by_cases h : c = a
    · subst h; exact upr_eq
    · exact upr_ne h
  · rfl
theorem ups_upr (s : ST) (a i : Nat) (f : Nat → Int32) (v : Int32) : ups (upr s a f) a i v = upr s a (upd f i v) := by
  apply Prod.ext
  · funext c
    by_cases h : c = a
    · subst h
      rw [ups_eq, upr_eq, upr_eq]
    · rw [ups_ne h, upr_ne h, upr_ne h]
  · rfl
/-- a loop that lays a row, place by place -/
theorem cp_loop {C : Type} {s : ST} {B oB N : Nat} {v : Nat → Int32} {F : (Int32 → ST → Option C) → Int32 → ST → Option C} {K : ST → Option C} (hN : N < 6000) (h1 : ∀ (rec : Int32 → ST → Option C) (i : Nat) (f : Nat → Int32), i < N → (∀ k, oB + i ≤ k → f k = s.1 B k) → F rec (nI i) (upr s B f) = rec (nI (i + 1)) (ups (upr s B f) B (oB + i) (v i))) (h2 : ∀ (rec : Int32 → ST → Option C) (f : Nat → Int32), F rec (nI N) (upr s B f) = K (upr s B f)) : lpK2 F FU 0 s = K (upr s B (fun k => if oB ≤ k ∧ k < oB + N then v (k - oB) else s.1 B k)) := by
  refine lo2 (Q := fun r => r = K (upr s B (fun k => if oB ≤ k ∧ k < oB + N then v (k - oB) else s.1 B k))) (I := fun m a st => ∃ i, i + m = N ∧ a = nI i ∧ st = upr s B (fun k => if oB ≤ k ∧ k < oB + i then v (k - oB) else s.1 B k)) ?_ FU N _ _ (by unfold FU; omega) ⟨0, by omega, rfl, ?_⟩
  · rintro m rf a st ⟨i, him, rfl, rfl⟩ ih
    cases m with
    | zero =>
      have hi : i = N := by omega
      subst hi
      exact h2 _ _
    | succ m =>
      rw [h1 rf i _ (by omega) (fun k hk => if_neg (by omega))]
      refine ih m _ _ (Nat.lt_succ_self m) ⟨i + 1, by omega, rfl, ?_⟩
      rw [ups_upr]
      congr 1
      funext k
      unfold upd
      by_cases q : k = oB + i
      · rw [if_pos q, if_pos (by omega)]
        congr 1
        omega
      · rw [if_neg q]
        dsimp only
        by_cases q2 : oB ≤ k ∧ k < oB + i
        · rw [if_pos q2, if_pos (by omega)]
        · rw [if_neg q2, if_neg (by omega)]
  · have e : (fun k => if oB ≤ k ∧ k < oB + 0 then v (k - oB) else s.1 B k) = s.1 B := by
      funext k
      exact if_neg (by omega)
    rw [e, upr_self]
theorem nle_t {i n : Nat} (h : i < n) (hn : n < 2 ^ 31) : ¬ nI n ≤ nI i := by rw [nI_leI (by omega) (by omega)]; omega
theorem le_t {n : Nat} (hn : n < 2 ^ 31) : nI n ≤ nI n := by rw [nI_leI hn hn]; omega
theorem m_thinks (s : ST) : M_thinks s = some (ups (upr s 3 (fun k => if 0 ≤ k ∧ k < 0 + 389 then s.1 1 (k - 0) else s.1 3 k)) 0 5 1) := by
  unfold M_thinks
  refine cp_loop (s := s) (B := 3) (oB := 0) (N := 389) (v := s.1 1) (K := fun s1 => some (ups s1 0 5 1)) (by decide) (fun rec i f hi hf => ?_) (fun rec f => ?_)
  · rw [if_neg (show ¬ (389 : Int32) ≤ nI i from nle_t hi (by decide)), Gl_n hi (by decide), Gs_n hi (by decide), nI_1, upr_ne (by decide), Nat.zero_add]
  · rw [if_pos (show (389 : Int32) ≤ nI 389 from le_t (by decide)), Lt_e]
theorem m_anew (s : ST) : M_thinksAnew s = some (upr s 1 (fun k => if 0 ≤ k ∧ k < 0 + 389 then s.1 3 (k - 0) else s.1 1 k)) := by
  unfold M_thinksAnew
  refine cp_loop (s := s) (B := 1) (oB := 0) (N := 389) (v := s.1 3) (K := fun s1 => some s1) (by decide) (fun rec i f hi hf => ?_) (fun rec f => ?_)
  · rw [if_neg (show ¬ (389 : Int32) ≤ nI i from nle_t hi (by decide)), Gl_n hi (by decide), Gs_n hi (by decide), nI_1, upr_ne (by decide), Nat.zero_add]
  · rw [if_pos (show (389 : Int32) ≤ nI 389 from le_t (by decide))]
theorem m_push {s : ST} {u : Nat} (hu : u < 6) (h3 : s.1 0 3 = nI u) : lpK2 (C := ST) (fun (rec1 : Int32 → ST → Option (ST)) (a1 : Int32) (s2 : ST) => if (389 : Int32) ≤ a1 then (Lt (ups s2 0 3 ((s2.1 0 3) + (1 : Int32))) fun s3 => some s3) else (Gl s2 1 389 a1 fun y1 => Gs s2 2 2334 (((389 : Int32) * (s2.1 0 3)) + a1) y1 fun s4 => rec1 (a1 + (1 : Int32)) s4)) FU (0 : Int32) s = some (ups (upr s 2 (fun k => if 389 * u ≤ k ∧ k < 389 * u + 389 then s.1 1 (k - 389 * u) else s.1 2 k)) 0 3 (nI (u + 1))) := by
  refine cp_loop (s := s) (B := 2) (oB := 389 * u) (N := 389) (v := s.1 1) (K := fun s1 => some (ups s1 0 3 (nI (u + 1)))) (by decide) (fun rec i f hi hf => ?_) (fun rec f => ?_)
  · rw [if_neg (show ¬ (389 : Int32) ≤ nI i from nle_t hi (by decide)), Gl_n hi (by decide), upr_ne (by decide), upr_ne (by decide), h3, show (389 : Int32) * nI u = nI (389 * u) from nI_mul 389 u, nI_add, Gs_n (by omega) (by decide), nI_1]
  · rw [if_pos (show (389 : Int32) ≤ nI 389 from le_t (by decide)), Lt_e, upr_ne (by decide), h3, nI_1]
theorem m_shift {s : ST} {K : ST → Option ST} (h3 : s.1 0 3 = nI 5) : lpK2 (C := ST) (fun (rec2 : Int32 → ST → Option (ST)) (a2 : Int32) (s6 : ST) => if ((389 : Int32) * (s6.1 0 3)) ≤ a2 then (K s6) else (Gl s6 2 2334 (a2 + (389 : Int32)) fun y2 => Gs s6 2 2334 a2 y2 fun s7 => rec2 (a2 + (1 : Int32)) s7)) FU (0 : Int32) s = K (upr s 2 (fun k => if 0 ≤ k ∧ k < 0 + 1945 then s.1 2 (k - 0 + 389) else s.1 2 k)) := by
  refine cp_loop (s := s) (B := 2) (oB := 0) (N := 1945) (v := fun i => s.1 2 (i + 389)) (K := K) (by decide) (fun rec i f hi hf => ?_) (fun rec f => ?_)
  · rw [upr_ne (by decide), h3, if_neg (show ¬ (389 : Int32) * nI 5 ≤ nI i from nle_t hi (by decide)), show nI i + (389 : Int32) = nI (i + 389) from nI_add i 389, Gl_n (by omega) (by decide), Gs_n (by omega) (by decide), nI_1, upr_eq, hf _ (by omega), Nat.zero_add]
  · rw [upr_ne (by decide), h3, if_pos (show (389 : Int32) * nI 5 ≤ nI 1945 from le_t (by decide))]
