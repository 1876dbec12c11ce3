/-! # stage 2: the image, place by place -/
theorem LD_agrx {W H nk b : Nat} {sc sm sm' : ST} (L : LD W H nk b sc sm) (m0 : ∀ i, i ∈ [6, 7, 8] → sm'.1 0 i = sm.1 0 i) (m1 : ∀ i, i < 389 → sm'.1 1 i = sm.1 1 i) (m4 : ∀ i, i < 64 → sm'.1 4 i = sm.1 4 i) : LD W H nk b sc sm' := by
  refine ⟨L.w, by rw [m0 6 (by decide)]; exact L.w', L.h, by rw [m0 7 (by decide)]; exact L.h', L.W2, L.W7, L.H2, L.H7, L.n8, by rw [m1 0 (by decide)]; exact L.day, by rw [m1 3 (by decide)]; exact L.wind, by rw [m0 8 (by decide)]; exact L.birds, by rw [m1 4 (by decide)]; exact L.harm, by rw [m1 1 (by decide)]; exact L.draws, fun k hk hc => ?_, fun k hk => ?_, L.hcl, fun k hk h => ?_, fun k hk h => ?_, fun k hk h => ?_, fun k hk h => ?_⟩
  · rw [m1 (5 + k) (by omega)]; exact L.wet k hk hc
  · rw [m4 k hk]; exact L.hed k hk
  · rw [m1 (69 + k) (by omega), m1 (133 + k) (by omega)]; exact L.sd k hk h
  · rw [m1 (69 + k) (by omega)]; exact L.sd0 k hk h
  · rw [m1 (197 + k) (by omega), m1 (261 + k) (by omega), m1 (325 + k) (by omega)]; exact L.st k hk h
  · rw [m1 (197 + k) (by omega)]; exact L.st0 k hk h
theorem tyR_cong {o a o' a' : Nat → Int32} : ∀ {n i : Nat} {τ : List Nat}, (∀ j, i ≤ j → j < i + n → o' j = o j ∧ a' j = a j) → tyR o' a' n i τ = tyR o a n i τ
  | 0, _, _, _ => rfl
  | n + 1, i, τ, h => by
    show Option.bind (tyS (o' i) (a' i) τ) (fun t => tyR o' a' n (i + 1) t) = Option.bind (tyS (o i) (a i) τ) (fun t => tyR o a n (i + 1) t)
    rw [(h i (by omega) (by omega)).1, (h i (by omega) (by omega)).2]
    congr 1
    funext t
    exact tyR_cong (fun j h1 h2 => h j (by omega) (by omega))
/-- what was told lies elsewhere now -/
theorem TD_move {W H nk nc nl nw np t u : Nat} {sc sm sc' sm' : ST} (T : TD W H nk nc nl nw np t sc sm)
    (c1 : sc'.1 (u + 1) 2 = sc.1 (t + 1) 2) (c2 : ∀ i, i < 4 * nk → sc'.1 (u + 2) i = sc.1 (t + 2) i)
    (c3 : sc'.1 (u + 3) 2 = sc.1 (t + 3) 2) (c4 : ∀ i, i < 4 * nc → sc'.1 (u + 4) i = sc.1 (t + 4) i)
    (c6 : sc'.1 (u + 6) 2 = sc.1 (t + 6) 2) (c7 : ∀ i, i < 4 * nl → sc'.1 (u + 7) i = sc.1 (t + 7) i) (c8 : ∀ i, i < 400 → sc'.1 (u + 8) i = sc.1 (t + 8) i)
    (c11 : sc'.1 (u + 11) 2 = sc.1 (t + 11) 2) (c12 : ∀ i, i < 4 * nw → sc'.1 (u + 12) i = sc.1 (t + 12) i)
    (c13 : sc'.1 (u + 13) 2 = sc.1 (t + 13) 2) (c14 : ∀ i, i < 4 * np → sc'.1 (u + 14) i = sc.1 (t + 14) i)
    (m0 : ∀ i, i ∈ [34, 36, 40, 42] → sm'.1 0 i = sm.1 0 i) (m8 : sm'.1 8 1 = sm.1 8 1)
    (m9 : ∀ c, c ∈ [9, 10, 11, 12] → ∀ i, i < 16 → sm'.1 c (16 + i) = sm.1 c (16 + i))
    (m13 : ∀ c, c ∈ [13, 14] → ∀ i, i < 400 → sm'.1 c (400 + i) = sm.1 c (400 + i))
    (m16 : ∀ i, i < 24 → sm'.1 16 i = sm.1 16 i) (m17 : ∀ i, i < 30 → sm'.1 17 i = sm.1 17 i) (m18 : ∀ i, i < 40 → sm'.1 18 i = sm.1 18 i) (m19 : ∀ i, i < 64 → sm'.1 19 i = sm.1 19 i) : TD W H nk nc nl nw np u sc' sm' := by
  have h8 := T.k8
  have h10 := T.c10
  have h16 := T.l16
  have hw := T.w10
  have hp := T.p16
  refine ⟨c1.trans T.k, (m0 34 (by decide)).trans T.k', T.k8, fun i hi => ?_, c3.trans T.c, (m0 36 (by decide)).trans T.c', T.c10, fun i hi => ?_, c6.trans T.l, m8.trans T.l', T.l16, fun i hi => ?_, c11.trans T.w, (m0 40 (by decide)).trans T.w', T.w10, fun i hi => ?_, c13.trans T.p, (m0 42 (by decide)).trans T.p', T.p16, fun i hi => ?_⟩
  · rw [c2 _ (by omega), c2 _ (by omega), c2 _ (by omega), m16 _ (by omega), m16 _ (by omega), m16 _ (by omega)]
    exact T.kd i hi
  · rw [c4 _ (by omega), c4 _ (by omega), c4 _ (by omega), m17 _ (by omega), m17 _ (by omega), m17 _ (by omega)]
    exact T.cd i hi
  · obtain ⟨w, p, q, r, t1, a1, a2, a3, a4, a5, a6, a7, a8, a9, a10, a11, a12, a13, a14, a15⟩ := T.ld i hi
    rw [c7 _ (by omega), c7 _ (by omega), c7 _ (by omega), c7 _ (by omega), m9 9 (by decide) i (by omega), m9 10 (by decide) i (by omega), m9 11 (by decide) i (by omega), m9 12 (by decide) i (by omega)]
    refine ⟨w, p, q, r, t1, a1, a2, a3, a4, a5, a6, a7, a8, a9, a10, a11, a12, fun j j1 j2 => ?_, ?_, fun hq => ?_⟩
    · rw [c8 j (by omega), m13 13 (by decide) j (by omega), m13 14 (by decide) j (by omega)]
      exact a13 j j1 j2
    · exact (tyR_cong (fun j j1 j2 => ⟨m13 13 (by decide) j (by omega), m13 14 (by decide) j (by omega)⟩)).trans a14
    · exact (tyR_cong (fun j j1 j2 => ⟨m13 13 (by decide) j (by omega), m13 14 (by decide) j (by omega)⟩)).trans (a15 hq)
  · rw [c12 _ (by omega), c12 _ (by omega), c12 _ (by omega), c12 _ (by omega), m18 _ (by omega), m18 _ (by omega), m18 _ (by omega), m18 _ (by omega)]
    exact T.wd i hi
  · rw [c14 _ (by omega), c14 _ (by omega), c14 _ (by omega), c14 _ (by omega), m19 _ (by omega), m19 _ (by omega), m19 _ (by omega), m19 _ (by omega)]
    exact T.pd i hi
theorem BK_move {t u : Nat} {sc sm sc' sm' : ST} (B : BK t sc sm) (c0 : sc'.1 u 2 = sc.1 t 2) (c1 : ∀ n, sc.1 t 2 = nI n → n ≤ 150 → ∀ i, i < 4 * n → sc'.1 (u + 1) i = sc.1 (t + 1) i) (m1 : sm'.1 1 2 = sm.1 1 2) (m5 : ∀ i, i < 600 → sm'.1 5 i = sm.1 5 i) : BK u sc' sm' := by
  obtain ⟨n, hn, e, e', h⟩ := B
  refine ⟨n, hn, c0.trans e, m1.trans e', fun i hi j hj => ?_⟩
  rw [c1 n e hn _ (by omega), m5 _ (by omega)]
  exact h i hi j hj
/-- a table's rows are copied -/
theorem c_tcopy {s : ST} {b x n M : Nat} (hx : s.1 x 2 = nI n) (hb : s.1 b 0 = nI M) (hn : n ≤ M) (hM : M ≤ 150) (l1 : 4 * n ≤ lc (x + 1)) (l2 : 4 * n ≤ lc (b + 1)) : ∃ s', C_X4_copy s b x = some s' ∧ agr [b, b + 1] s s' ∧ s'.1 b 2 = nI n ∧ (∀ i, i ≠ 2 → s'.1 b i = s.1 b i) ∧ ∀ i, i < 4 * n → s'.1 (b + 1) i = s.1 (x + 1) i := by
  have e0 : (0 : Int32).toNatClampNeg = 0 := by decide
  have h0 : ¬ (0 : Int32) < 0 := by decide
  have emin : imn (nI n) (nI M) = nI n := by
    unfold imn
    by_cases h : nI M < nI n
    · rw [nI_ltI (by omega) (by omega)] at h
      omega
    · rw [if_neg h]
  have e4 : nI n * (4 : Int32) = nI (4 * n) := by rw [show (4 : Int32) = nI 4 from rfl, nI_mul, Nat.mul_comm]
  unfold C_X4_copy
  rw [Lt_e, hx, hb, emin, e4]
  unfold Gcp
  rw [e0, nI_clamp (by omega), if_pos ⟨⟨h0, h0, nI_pos (by omega)⟩, by omega, by omega⟩]
  dsimp only
  rw [Lt_e]
  refine ⟨_, rfl, (agr.rf.upr (by simp)).ups (by simp), by rw [rd1, if_pos rfl], fun i hi => ?_, fun i hi => ?_⟩
  · rw [rd1, if_neg hi, upr_ne (by omega)]
  · rw [ups_ne (by omega), upr_eq, cpy_lt hi]
/-! the places that an image keeps, in their order -/
def pl (i : Nat) : Nat × Nat := if i < 389 then (1, i) else if i < 396 then (0, if i = 389 then 6 else if i = 390 then 7 else if i = 391 then 8 else if i = 392 then 34 else if i = 393 then 36 else if i = 394 then 40 else 42) else if i < 460 then (4, i - 396) else if i < 484 then (16, i - 460) else if i < 514 then (17, i - 484) else if i < 554 then (18, i - 514) else if i < 618 then (19, i - 554) else if i < 1218 then (5, i - 618) else if i < 1219 then (8, 1) else if i < 1283 then (9 + (i - 1219) % 4, 16 + (i - 1219) / 4) else (13 + (i - 1283) % 2, 400 + (i - 1283) / 2)
def ps (c a : Nat) : Nat := if c = 1 then a else if c = 0 then (if a = 6 then 389 else if a = 7 then 390 else if a = 8 then 391 else if a = 34 then 392 else if a = 36 then 393 else if a = 40 then 394 else 395) else if c = 4 then 396 + a else if c = 16 then 460 + a else if c = 17 then 484 + a else if c = 18 then 514 + a else if c = 19 then 554 + a else if c = 5 then 618 + a else if c = 8 then 1218 else if c < 13 then 1219 + 4 * (a - 16) + (c - 9) else 1283 + 2 * (a - 400) + (c - 13)
theorem ps_pl : ∀ i, i < 2083 → ps (pl i).1 (pl i).2 = i := by decide +kernel
theorem pl_n : ∀ i, i < 2083 → (pl i).1 ≠ 23 ∧ ¬ ((pl i).1 = 0 ∧ ((pl i).2 = 52 ∨ (pl i).2 = 50)) := by decide +kernel
theorem pl_inj {i j : Nat} (hi : i < 2083) (hj : j < 2083) (h : pl i = pl j) : i = j := by
  have h1 := ps_pl i hi
  rw [h, ps_pl j hj] at h1
  exact h1.symm
theorem pl_1 : ∀ k, k < 389 → pl (0 + k) = (1, 0 + k) := by decide +kernel
theorem pl_4 : ∀ k, k < 64 → pl (396 + k) = (4, 0 + k) := by decide +kernel
theorem pl_16 : ∀ k, k < 24 → pl (460 + k) = (16, 0 + k) := by decide +kernel
theorem pl_17 : ∀ k, k < 30 → pl (484 + k) = (17, 0 + k) := by decide +kernel
theorem pl_18 : ∀ k, k < 40 → pl (514 + k) = (18, 0 + k) := by decide +kernel
theorem pl_19 : ∀ k, k < 64 → pl (554 + k) = (19, 0 + k) := by decide +kernel
theorem pl_5 : ∀ k, k < 600 → pl (618 + k) = (5, 0 + k) := by decide +kernel
theorem pl_9 : ∀ c, c < 4 → ∀ k, k < 16 → pl (1219 + 4 * k + c) = (9 + c, 16 + k) := by decide +kernel
theorem pl_13 : ∀ c, c < 2 → ∀ k, k < 400 → pl (1283 + 2 * k + c) = (13 + c, 400 + k) := by decide +kernel
def kv (x : Int32) (s : ST) (i : Nat) : Int32 := if x = 0 then s.1 23 i else s.1 (pl i).1 (pl i).2
def KJ (x : Int32) (s : ST) (P : Nat) (s' : ST) : Prop :=
  s'.1 0 52 = nI P ∧ s'.1 0 50 = x ∧ (∀ i, i < P → s'.1 (pl i).1 (pl i).2 = kv x s i ∧ s'.1 23 i = kv x s i) ∧ (∀ i, P ≤ i → s'.1 23 i = s.1 23 i) ∧ (∀ c a, c ≠ 23 → ¬ (c = 0 ∧ a = 52) → (∀ i, i < P → pl i ≠ (c, a)) → s'.1 c a = s.1 c a) ∧ s'.2 = s.2
theorem ups_pl {s : ST} {c a c' a' : Nat} {v : Int32} (h : (c', a') ≠ (c, a)) : (ups s c a v).1 c' a' = s.1 c' a' := by
  rw [ups_at]
  by_cases q : c' = c
  · rw [if_pos q]
    by_cases q2 : a' = a
    · exact absurd (by rw [q, q2]) h
    · rw [if_neg q2, q]
  · rw [if_neg q]
theorem ups_self {s : ST} {c a : Nat} {v : Int32} : (ups s c a v).1 c a = v := by rw [ups_at, if_pos rfl, if_pos rfl]
theorem kj_step {x : Int32} {s s' : ST} {P c a : Nat} (h : KJ x s P s') (hP : P < 2083) (hpl : pl P = (c, a)) : ∃ s1, M_keeps s' (s'.1 c a) = some (kv x s P, s1) ∧ KJ x s (P + 1) (ups s1 c a (kv x s P)) := by
  obtain ⟨h1, h2, h3, h4, h5, h6⟩ := h
  obtain ⟨n1, n2⟩ := pl_n P hP
  rw [hpl] at n1 n2
  have n1 : c ≠ 23 := n1
  have n2 : ¬ (c = 0 ∧ (a = 52 ∨ a = 50)) := n2
  have n52 : (0, 52) ≠ (c, a) := fun e => n2 (by injection e with e1 e2; exact ⟨e1.symm, Or.inl e2.symm⟩)
  have n50 : (0, 50) ≠ (c, a) := fun e => n2 (by injection e with e1 e2; exact ⟨e1.symm, Or.inr e2.symm⟩)
  have n23 : ∀ i, (23, i) ≠ (c, a) := fun i e => n1 (by injection e with e1 e2; exact e1.symm)
  have cur : s'.1 c a = s.1 c a := h5 c a n1 (fun e => n2 ⟨e.1, Or.inl e.2⟩) (fun i hi e => by
    have := pl_inj (by omega) hP (e.trans hpl.symm)
    omega)
  have old : ∀ i, i < P → ((pl i).1, (pl i).2) ≠ (c, a) := fun i hi e => by
    have e : pl i = (c, a) := e
    have := pl_inj (by omega) hP (e.trans hpl.symm)
    omega
  have old52 : ∀ i, i < P → ((pl i).1, (pl i).2) ≠ (0, 52) := fun i hi e => (pl_n i (by omega)).2 (by injection e with e1 e2; exact ⟨e1, Or.inl e2⟩)
  have old23 : ∀ i, i < P → ((pl i).1, (pl i).2) ≠ (23, P) := fun i hi e => (pl_n i (by omega)).1 (by injection e with e1 e2)
  unfold M_keeps
  rw [Lt_e, ups_pl (show (0, 50) ≠ (0, 52) by decide), h2, ups_self, h1, nI_1, n_sub1]
  by_cases hx : x = 0
  · have v : kv x s P = s.1 23 P := if_pos hx
    rw [if_pos hx, Gl_n (by omega) (by decide), ups_ne (by decide), h4 P (Nat.le_refl P), v]
    refine ⟨_, rfl, ?_, ?_, fun i hi => ?_, fun i hi => ?_, fun c' a' g1 g2 g3 => ?_, ?_⟩
    · rw [ups_pl n52, ups_self]
    · rw [ups_pl n50, ups_pl (by decide), h2]
    · by_cases e : i = P
      · subst e
        rw [hpl, ups_self, ups_pl (n23 _), ups_ne (by decide), h4 _ (Nat.le_refl _), v]
        exact ⟨rfl, rfl⟩
      · rw [ups_pl (old i (by omega)), ups_pl (old52 i (by omega)), ups_pl (n23 _), ups_ne (by decide)]
        exact h3 i (by omega)
    · rw [ups_pl (n23 _), ups_ne (by decide)]
      exact h4 i (by omega)
    · rw [ups_pl (fun e => g3 P (by omega) (hpl.trans e.symm)), ups_pl (fun e => g2 (by injection e with e1 e2; exact ⟨e1, e2⟩))]
      exact h5 c' a' g1 g2 (fun i hi => g3 i (by omega))
    · exact h6
  · have v : kv x s P = s.1 c a := by unfold kv; rw [if_neg hx, hpl]
    rw [if_neg hx, Gs_n (by omega) (by decide), cur, v]
    refine ⟨_, rfl, ?_, ?_, fun i hi => ?_, fun i hi => ?_, fun c' a' g1 g2 g3 => ?_, ?_⟩
    · rw [ups_pl n52, ups_ne (by decide), ups_self]
    · rw [ups_pl n50, ups_ne (by decide), ups_pl (by decide), h2]
    · by_cases e : i = P
      · subst e
        rw [hpl, ups_self, ups_pl (n23 _), ups_self, v]
        exact ⟨rfl, rfl⟩
      · rw [ups_pl (old i (by omega)), ups_pl (old23 i (by omega)), ups_pl (old52 i (by omega)), ups_pl (n23 _), ups_pl (fun h => e (by injection h)), ups_ne (by decide)]
        exact h3 i (by omega)
    · rw [ups_pl (n23 _), ups_pl (fun h => by injection h with _ h2; omega), ups_ne (by decide)]
      exact h4 i (by omega)
    · rw [ups_pl (fun e => g3 P (by omega) (hpl.trans e.symm)), ups_pl (fun e => g1 (by injection e)), ups_pl (fun e => g2 (by injection e with e1 e2; exact ⟨e1, e2⟩))]
      exact h5 c' a' g1 g2 (fun i hi => g3 i (by omega))
    · exact h6
theorem kj_field {x : Int32} {s s' : ST} {C : Type} {K : ST → Option C} (Q : Option C → Prop) {P f : Nat} (h : KJ x s P s') (hP : P < 2083) (hpl : pl P = (0, f)) (hK : ∀ s1, KJ x s (P + 1) s1 → Q (K s1)) : Q (Bd (M_keeps s' (s'.1 0 f)) fun y => Lt (ups y.2 0 f y.1) fun s1 => K s1) := by
  obtain ⟨s1, e, g⟩ := kj_step h hP hpl
  rw [e, Bd_some, Lt_e]
  exact hK _ g
theorem kj_cell {x : Int32} {s s' : ST} {C : Type} {K : ST → Option C} (Q : Option C → Prop) {P c n a : Nat} (h : KJ x s P s') (hP : P < 2083) (hpl : pl P = (c, a)) (ha : a < n) (hn : n < 2 ^ 31) (hK : ∀ s1, KJ x s (P + 1) s1 → Q (K s1)) : Q (Gl s' c n (nI a) fun y => Bd (M_keeps s' y) fun y' => Gs y'.2 c n (nI a) y'.1 fun s1 => K s1) := by
  obtain ⟨s1, e, g⟩ := kj_step h hP hpl
  rw [Gl_n ha hn, e, Bd_some, Gs_n ha hn]
  exact hK _ g
theorem kj_loop {x : Int32} {s s' : ST} {C : Type} {K : ST → Option C} (Q : Option C → Prop) {B c n o N : Nat} {L A : Int32} (h : KJ x s B s') (hL : L = nI (o + N)) (hA : A = nI o) (hpl : ∀ k, k < N → pl (B + k) = (c, o + k)) (hB : B + N ≤ 2083) (hn : o + N ≤ n) (hn2 : n < 2 ^ 31) (hN : N < 6000) (hK : ∀ s1, KJ x s (B + N) s1 → Q (K s1)) : Q (lpK2 (C := C) (fun (rec1 : Int32 → ST → Option C) (a1 : Int32) (st : ST) => if L ≤ a1 then K st else Gl st c n a1 fun y => Bd (M_keeps st y) fun y' => Gs y'.2 c n a1 y'.1 fun s1 => rec1 (a1 + (1 : Int32)) s1) FU A s') := by
  subst hL hA
  refine lo2 (Q := Q) (I := fun m a st => ∃ i, i + m = N ∧ a = nI (o + i) ∧ KJ x s (B + i) st) ?_ FU N _ _ (by unfold FU; omega) ⟨0, by omega, rfl, h⟩
  rintro m rf a st ⟨i, him, rfl, g⟩ ih
  cases m with
  | zero =>
    have hi : i = N := by omega
    subst hi
    rw [if_pos (le_t (by omega))]
    exact hK _ g
  | succ m =>
    rw [if_neg (nle_t (by omega) (by omega)), nI_1]
    refine kj_cell Q g (by omega) (hpl i (by omega)) (by omega) hn2 (fun s1 g1 => ?_)
    exact ih m _ _ (Nat.lt_succ_self m) ⟨i + 1, by omega, rfl, g1⟩
theorem img_pl (s : ST) : ∀ i, i < 2083 → (img s).1 (pl i).1 (pl i).2 = s.1 23 i := by
  intro i hi
  unfold pl
  by_cases h1 : i < 389
  · rw [if_pos h1]; rfl
  rw [if_neg h1]
  by_cases h2 : i < 396
  · rw [if_pos h2]
    rcases (by omega : i = 389 ∨ i = 390 ∨ i = 391 ∨ i = 392 ∨ i = 393 ∨ i = 394 ∨ i = 395) with rfl | rfl | rfl | rfl | rfl | rfl | rfl <;> rfl
  rw [if_neg h2]
  by_cases h3 : i < 460
  · rw [if_pos h3]
    exact congrArg (s.1 23) (show 396 + (i - 396) = i by omega)
  rw [if_neg h3]
  by_cases h4 : i < 484
  · rw [if_pos h4]
    exact congrArg (s.1 23) (show 460 + (i - 460) = i by omega)
  rw [if_neg h4]
  by_cases h5 : i < 514
  · rw [if_pos h5]
    exact congrArg (s.1 23) (show 484 + (i - 484) = i by omega)
  rw [if_neg h5]
  by_cases h6 : i < 554
  · rw [if_pos h6]
    exact congrArg (s.1 23) (show 514 + (i - 514) = i by omega)
  rw [if_neg h6]
  by_cases h7 : i < 618
  · rw [if_pos h7]
    exact congrArg (s.1 23) (show 554 + (i - 554) = i by omega)
  rw [if_neg h7]
  by_cases h8 : i < 1218
  · rw [if_pos h8]
    exact congrArg (s.1 23) (show 618 + (i - 618) = i by omega)
  rw [if_neg h8]
  by_cases h9 : i < 1219
  · rw [if_pos h9, show i = 1218 by omega]; rfl
  rw [if_neg h9]
  by_cases h10 : i < 1283
  · rw [if_pos h10]
    rcases (by omega : (i - 1219) % 4 = 0 ∨ (i - 1219) % 4 = 1 ∨ (i - 1219) % 4 = 2 ∨ (i - 1219) % 4 = 3) with q | q | q | q <;> rw [q]
    · exact congrArg (s.1 23) (show 1219 + 4 * (16 + (i - 1219) / 4 - 16) = i by omega)
    · exact congrArg (s.1 23) (show 1220 + 4 * (16 + (i - 1219) / 4 - 16) = i by omega)
    · exact congrArg (s.1 23) (show 1221 + 4 * (16 + (i - 1219) / 4 - 16) = i by omega)
    · exact congrArg (s.1 23) (show 1222 + 4 * (16 + (i - 1219) / 4 - 16) = i by omega)
  · rw [if_neg h10]
    rcases (by omega : (i - 1283) % 2 = 0 ∨ (i - 1283) % 2 = 1) with q | q <;> rw [q]
    · exact congrArg (s.1 23) (show 1283 + 2 * (400 + (i - 1283) / 2 - 400) = i by omega)
    · exact congrArg (s.1 23) (show 1284 + 2 * (400 + (i - 1283) / 2 - 400) = i by omega)
