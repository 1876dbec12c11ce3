/-! # stage 2: a sum of the law is read -/
def clF : (Int32 → Int32 → ST → Option ST) → Int32 → Int32 → ST → Option ST := (fun (rec1 : Int32 → Int32 → ST → Option (ST)) (a1 : Int32) (a2 : Int32) (s2 : ST) => if (400 : Int32) ≤ a2 then (some s2) else (Bd (C_X5_takesSign s2 (42 : Int32)) fun y1 => Lt (fun (a3 : Int32) (s3 : ST) => (rec1 a3 (a2 + (1 : Int32)) s3 : Option (ST))) fun j1 => if y1.1 = 0 then (Bd (C_X5_takesSign y1.2 (47 : Int32)) fun y2 => if y2.1 = 0 then (Lt (fun (s4 : ST) => (Bd (C_X5_takesSign s4 (43 : Int32)) fun y3 => Lt (fun (a4 : Int32) (s5 : ST) => (if a4 = 0 then (some s5) else (Bd (C_X3_readUnit s5) fun s6 => j1 a4 s6) : Option (ST))) fun j3 => if y3.1 = 0 then (Bd (C_X5_takesSign y3.2 (45 : Int32)) fun y4 => if y4.1 = 0 then (j3 (0 : Int32) y4.2) else (j3 (-10 : Int32) y4.2)) else (j3 (-9 : Int32) y3.2) : Option (ST))) fun j2 => if a1 = 0 then (j2 y2.2) else (Bd (C_X2_emit y2.2 a1) fun s7 => j2 s7)) else (Bd (C_X5_needNumber y2.2 (1 : Int32) (9999 : Int32)) fun y5 => Bd (C_X2_emit y5.2 y5.1) fun s8 => Bd (C_X2_emit s8 (-12 : Int32)) fun s9 => j1 a1 s9)) else (Bd (C_X3_readUnit y1.2) fun s10 => Bd (C_X2_emit s10 (-11 : Int32)) fun s11 => j1 a1 s11)))
def prG : (ST → Option (Int32 × ST)) → ST → Option (Int32 × ST) := (fun (rec1 : ST → Option (Int32 × ST)) (s1 : ST) => Lt (M_isSign s1 (42 : Int32)) fun y2 => Lt (Lt (M_isSign s1 (42 : Int32)) fun y3 => Bd (M_reads s1) fun s2 => Lt (Lt (Bd (M_readUnit s2) fun y4 => if y4.1 = (-1 : Int32) then (some ((-1 : Int32), y4.2)) else (Lt (fun (a1 : Int32) => (Bd (M_emits y4.2 a1 (0 : Int32)) fun s3 => rec1 s3 : Option (Int32 × ST))) fun j4 => if y3 = 0 then (j4 (5 : Int32)) else (j4 (4 : Int32))) : Option (Int32 × ST)) fun j3 => if y3 = 0 then (if (s2.1 0 16) = 0 then (Lt (M_errs s2 (2 : Int32)) fun y5 => some (y5.1, y5.2)) else (j3)) else (j3) : Option (Int32 × ST)) fun j2 => if y3 = 0 then (if (s2.1 0 15) = (3 : Int32) then (j2) else (Lt (M_errs s2 (1 : Int32)) fun y6 => some (y6.1, y6.2))) else (j2) : Option (Int32 × ST)) fun j1 => if y2 = 0 then (Lt (M_isSign s1 (47 : Int32)) fun y7 => if y7 = 0 then (some ((0 : Int32), s1)) else (j1)) else (j1))
def suG : (ST → Option (Int32 × ST)) → ST → Option (Int32 × ST) := (fun (rec1 : ST → Option (Int32 × ST)) (s1 : ST) => Lt (M_isSign s1 (43 : Int32)) fun y2 => Lt (Lt (fun (a1 : Int32) => (Bd (M_reads s1) fun s2 => Bd (M_readProduct s2) fun y3 => if y3.1 = (-1 : Int32) then (some ((-1 : Int32), y3.2)) else (Bd (M_emits y3.2 a1 (0 : Int32)) fun s3 => rec1 s3) : Option (Int32 × ST))) fun j2 => if (s1.1 0 16) = (43 : Int32) then (j2 (2 : Int32)) else (j2 (3 : Int32)) : Option (Int32 × ST)) fun j1 => if y2 = 0 then (Lt (M_isSign s1 (45 : Int32)) fun y4 => if y4 = 0 then (some ((0 : Int32), s1)) else (j1)) else (j1))
theorem readSum_c (s : ST) : C_X3_readSum s = Bd (C_X3_readUnit s) fun s1 => lpK3 clF FU (0 : Int32) (0 : Int32) s1 := (rfl)
theorem readProduct_m (s : ST) : M_readProduct s = Bd (M_readUnit s) fun y1 => if y1.1 = (-1 : Int32) then (some ((-1 : Int32), y1.2)) else lpK1 prG FU y1.2 := (rfl)
theorem readSum_m (s : ST) : M_readSum s = Bd (M_readProduct s) fun y1 => if y1.1 = (-1 : Int32) then (some ((-1 : Int32), y1.2)) else lpK1 suG FU y1.2 := (rfl)
theorem fz_loop {s : ST} {w c : Int32} {N : Nat} (h : FZ s) (hN : 0 < N) : ∃ s', lpK3 clF N w c s = some s' ∧ FZ s' ∧ ff s s' := fz_sumloop h hN
/-- the class's loop where neither * nor / stands -/
def clT (rec1 : Int32 → Int32 → ST → Option ST) (c : Int32) (s4 : ST) : Option ST := (Bd (C_X5_takesSign s4 (43 : Int32)) fun y3 => Lt (fun (a4 : Int32) (s5 : ST) => (if a4 = 0 then (some s5) else (Bd (C_X3_readUnit s5) fun s6 => rec1 a4 (c + (1 : Int32)) s6) )) fun j3 => if y3.1 = 0 then (Bd (C_X5_takesSign y3.2 (45 : Int32)) fun y4 => if y4.1 = 0 then (j3 (0 : Int32) y4.2) else (j3 (-10 : Int32) y4.2)) else (j3 (-9 : Int32) y3.2) )
theorem clF_end {rec1 : Int32 → Int32 → ST → Option ST} {w c : Int32} {s : ST} (hc : ¬ (400 : Int32) ≤ c) (h1 : C_X5_takesSign s 42 = some (0, s)) (h2 : C_X5_takesSign s 47 = some (0, s)) : clF rec1 w c s = if w = 0 then clT rec1 c s else Bd (C_X2_emit s w) fun s7 => clT rec1 c s7 := by
  unfold clF clT
  simp only [Lt_n, hc, h1, h2, Bd_some, ↓reduceIte]
theorem PR_2 : PR (-9) 2 0 := by unfold PR; simp
theorem PR_3 : PR (-10) 3 0 := by unfold PR; simp
theorem PR_4 : PR (-11) 4 0 := by unfold PR; simp
theorem PR_5 : PR (-12) 5 0 := by unfold PR; simp
theorem PR_6 : PR (-13) 6 0 := by unfold PR; simp
theorem PR_7 : PR (-14) 7 0 := by unfold PR; simp
theorem PR_8 : PR (-15) 8 0 := by unfold PR; simp
theorem PR_9 : PR (-18) 9 0 := by unfold PR; simp
theorem PR_10 : PR (-16) 10 0 := by unfold PR; simp
theorem PR_11 : PR (-17) 11 0 := by unfold PR; simp
theorem ty_2 (t1 t2 : Nat) (r : List Nat) : tyS 2 0 (t1 :: t2 :: r) = some (0 :: r) := by unfold tyS; simp
theorem ty_3 (t1 t2 : Nat) (r : List Nat) : tyS 3 0 (t1 :: t2 :: r) = some (0 :: r) := by unfold tyS; simp
theorem ty_4 (t1 t2 : Nat) (r : List Nat) : tyS 4 0 (t1 :: t2 :: r) = some (0 :: r) := by unfold tyS; simp
theorem ty_5 (t2 : Nat) (r : List Nat) : tyS 5 0 (2 :: t2 :: r) = some (0 :: r) := by unfold tyS; simp
theorem ty_6 (t1 t2 : Nat) (r : List Nat) : tyS 6 0 (t1 :: t2 :: r) = some (1 :: r) := by unfold tyS; simp
theorem ty_7 (t1 t2 : Nat) (r : List Nat) : tyS 7 0 (t1 :: t2 :: r) = some (1 :: r) := by unfold tyS; simp
theorem ty_8 (t1 t2 : Nat) (r : List Nat) : tyS 8 0 (t1 :: t2 :: r) = some (1 :: r) := by unfold tyS; simp
theorem ty_9 (r : List Nat) : tyS 9 0 (1 :: r) = some (1 :: r) := by unfold tyS; simp
theorem ty_10 (r : List Nat) : tyS 10 0 (1 :: 1 :: r) = some (1 :: r) := by unfold tyS; simp
theorem ty_11 (r : List Nat) : tyS 11 0 (1 :: 1 :: r) = some (1 :: r) := by unfold tyS; simp
theorem L0.fz {f : Nat → Nat} {n T : Nat} {Z : Nat → Nat → Nat} {a i k p : Nat} {τ : List Nat} {sc sm sc' sm' : ST} (h : L0 f n T Z a i k τ sc sm) (hk : k + p ≤ i) (b : FS sc' sm') (q : fc sc sc') : FZ sc' := ⟨b.m, k, by have := h.1.i400; omega, by rw [(q.1 60 (by decide)).1]; exact h.2.1.1⟩
theorem FS.ff {sc sc' sm : ST} (h : FS sc sm) (a : ff sc sc') : FS sc' sm := by
  unfold FS at h ⊢
  rw [(a 49 (by decide)).1]
  exact h
/-- what the class writes behind a fault lies above what stood there -/
theorem ff_lfs {k : Nat} {sc sc' sm : ST} (a : ff sc sc') (h : ∀ j, j < k → sc'.1 63 j = sc.1 63 j) : lfs k sc sc' sm sm := ⟨⟨a.mono (by decide), fun j _ => by rw [(a 49 (by decide)).1], h⟩, agr.rf, fun _ _ => rfl, fun _ _ => ⟨rfl, rfl⟩⟩
/-- frames for a fault: the codes are no matter then -/
def lff (sc sc' sm sm' : ST) : Prop := (agr [49, 60, 63] sc sc' ∧ ∀ j, j ∉ [6, 7, 8, 9] → sc'.1 49 j = sc.1 49 j) ∧ agr [0, 13, 14] sm sm' ∧ (∀ j, j ∉ [13, 14, 15, 16, 26, 30, 31] → sm'.1 0 j = sm.1 0 j) ∧ ∀ j, j < 800 → sm'.1 13 j = sm.1 13 j ∧ sm'.1 14 j = sm.1 14 j
theorem lfs.f {k : Nat} {sc sc' sm sm' : ST} (h : lfs k sc sc' sm sm') : lff sc sc' sm sm' := ⟨⟨h.1.1, h.1.2.1⟩, h.2.1, h.2.2.1, fun j hj => h.2.2.2 j (by omega)⟩
theorem lff.tr {a b c x y z : ST} (h : lff a b x y) (g : lff b c y z) : lff a c x z := by
  obtain ⟨⟨h1, h2⟩, h4, h5, h6⟩ := h
  obtain ⟨⟨g1, g2⟩, g4, g5, g6⟩ := g
  exact ⟨⟨h1.tr g1, fun j hj => (g2 j hj).trans (h2 j hj)⟩, h4.tr g4, fun j hj => (g5 j hj).trans (h5 j hj), fun j hj => ⟨(g6 j hj).1.trans (h6 j hj).1, (g6 j hj).2.trans (h6 j hj).2⟩⟩
theorem ff_lff {sc sc' sm : ST} (a : ff sc sc') : lff sc sc' sm sm := ⟨⟨a.mono (by decide), fun j _ => by rw [(a 49 (by decide)).1]⟩, agr.rf, fun _ _ => rfl, fun _ _ => ⟨rfl, rfl⟩⟩
theorem l_num {f : Nat → Nat} {n T : Nat} {Z : Nat → Nat → Nat} {a i k : Nat} {τ : List Nat} {sc sm : ST} (h : L0 f n T Z a i k τ sc sm) (hk : k < 400) (hd : τ.length < 60) (g : Z 3 i = 3) (g0 : ¬ Z 4 i = 0) : ∃ c1 c2 m3, C_X5_needNumber sc 1 9999 = some (nI (Z 4 i), c1) ∧ C_X2_emit c1 (nI (Z 4 i)) = some c2 ∧ M_readUnit sm = some (0, m3) ∧ L0 f n T Z a (i + 1) (k + 1) (2 :: τ) c2 m3 ∧ lfs k sc c2 sm m3 := by
  have hs := h.1
  have tk := hs.tk
  have hi := hs.i400
  have t2 : ¬ sm.1 0 15 = (2 : Int32) := fun q => by
    have := (sm_tok hs (c := 2) (by decide)).mp q
    omega
  have t3 : sm.1 0 15 = (3 : Int32) := (sm_tok hs (c := 3) (by decide)).mpr g
  have e16 := hs.2.2.2.2.2.2.2.2.2.2 (by omega)
  have hv := (tk.2.2.2.1 g).2
  have nz : ¬ nI (Z 4 i) = 0 := fun q => g0 ((nI_eq (b := 0) (by omega) (by decide)).mp q)
  obtain ⟨sx, m2, y1, y2, y3, y4⟩ := em0 (x := nI (Z 4 i)) (o := 0) (v := nI (Z 4 i)) h hk (Or.inl ⟨rfl, Z 4 i, hv, rfl, rfl⟩) (show tyS 0 (nI (Z 4 i)) τ = some (2 :: τ) by unfold tyS; rw [if_pos rfl, if_pos hd, if_neg nz])
  have em2 := y2
  have h3 := h.2.1.2.1
  unfold M_emits at em2
  rw [h3, show (800 : Int32) + nI k = nI (800 + k) from nI_add 800 k, Gs_n (by omega) (by decide), ups_ne (by decide), h3, show (800 : Int32) + nI k = nI (800 + k) from nI_add 800 k, Gs_n (by omega) (by decide), Lt_e] at em2
  have hs2 : SY f n T Z i sc m2 := by
    cases em2
    exact ((hs.w (by decide)).w (by decide)).w0 (by decide)
  obtain ⟨c1, m3, z1, z2, z3, z4, z5⟩ := sy_adv hs2 (by omega)
  have hv1 : ¬ nI (Z 4 i) < (1 : Int32) := by rw [show (1 : Int32) = nI 1 from rfl, nI_ltI (by omega) (by decide)]; omega
  have x1 : C_X5_needNumber sc 1 9999 = some (nI (Z 4 i), c1) := by
    unfold C_X5_needNumber
    rw [sy_peek hs, Bd_some, if_pos g, if_neg (n_nI_m1 (by omega)), Lt_e, if_neg hv1, if_pos (show nI (Z 4 i) ≤ (9999 : Int32) from (n_le hv (by decide)).mpr hv), z1, Bd_some]
  have e60 : c1.1 60 2 = nI k := by rw [(z4.1 60 (by decide)).1]; exact h.2.1.1
  have ec : C_X2_emit c1 (nI (Z 4 i)) = some (ups (ups c1 63 k (nI (Z 4 i))) 60 2 (nI (k + 1))) := by
    unfold C_X2_emit
    rw [e60, if_neg (show ¬ (400 : Int32) ≤ nI k from nle_t (n := 400) hk (by decide)), Gs_n hk (by decide), Lt_e, ups_ne (by decide), e60, nI_1]
  have eo : C_X2_emit sc (nI (Z 4 i)) = some (ups (ups sc 63 k (nI (Z 4 i))) 60 2 (nI (k + 1))) := by
    unfold C_X2_emit
    rw [h.2.1.1, if_neg (show ¬ (400 : Int32) ≤ nI k from nle_t (n := 400) hk (by decide)), Gs_n hk (by decide), Lt_e, ups_ne (by decide), h.2.1.1, nI_1]
  rw [eo] at y1
  cases y1
  have mu : M_readUnit sm = Bd (M_emits sm 0 (sm.1 0 16)) fun s1 => Bd (M_reads s1) fun s2 => some ((0 : Int32), s2) := by
    unfold M_readUnit
    have n32 : ¬ (3 : Int32) = 2 := by decide
    simp only [Lt_n, t3, n32, ↓reduceIte]
  refine ⟨c1, _, m3, x1, ec, by rw [mu, e16, y2, Bd_some, z2, Bd_some], ⟨(z3.wc (by decide)).wc (by decide), ?_, ?_⟩, ?_⟩
  · obtain ⟨_, ⟨l1, l2, l3⟩, _⟩ := y3
    refine ⟨by rw [rd1, if_pos rfl], by rw [z5.2 26 (by decide)]; exact l2, fun j hj => ?_⟩
    have := l3 j hj
    rw [ups_ne (by decide), rd1] at this
    rw [ups_ne (by decide), rd1, (z4.1 63 (by decide)).1, (z5.1 13 (by decide)).1, (z5.1 14 (by decide)).1]
    exact this
  · obtain ⟨_, _, l4⟩ := y3
    unfold TY at l4 ⊢
    rw [(z5.1 13 (by decide)).1, (z5.1 14 (by decide)).1]
    exact l4
  · have g1 : lfs k sc c1 m2 m3 := fcm_lfs z4 z5
    refine ⟨⟨(g1.1.1.ups (by decide)).ups (by decide), fun j hj => by rw [ups_ne (by decide), ups_ne (by decide)]; exact g1.1.2.1 j hj, fun j hj => by rw [ups_ne (by decide), rd1, if_neg (by omega)]; exact g1.1.2.2 j hj⟩, y4.2.1.tr g1.2.1, fun j hj => (g1.2.2.1 j hj).trans (y4.2.2.1 j hj), fun j hj => ⟨(g1.2.2.2 j hj).1.trans (y4.2.2.2 j hj).1, (g1.2.2.2 j hj).2.trans (y4.2.2.2 j hj).2⟩⟩
theorem c400 {c i : Nat} (h : 2 * c + 1 ≤ i) (hi : i ≤ 400) : ¬ (400 : Int32) ≤ nI c := nle_t (n := 400) (by omega) (by decide)
/-- factors -/
theorem l_prod {f : Nat → Nat} {n T : Nat} {Z : Nat → Nat → Nat} {a p : Nat} {τ : List Nat} {w : Int32} (hd : τ.length + 2 ≤ 60) : ∀ (m i k t c n1 n2 : Nat) (sc sm : ST), T - i = m → m < n1 → m < n2 → L0 f n T Z a i k (t :: τ) sc sm → k + p ≤ i → 2 * c + 1 ≤ i → (∃ j k' t' n1' c' sc' sm', i ≤ j ∧ k ≤ k' ∧ lpK3 clF n1 w (nI c) sc = lpK3 clF n1' w (nI c') sc' ∧ lpK1 prG n2 sm = some (0, sm') ∧ L0 f n T Z a j k' (t' :: τ) sc' sm' ∧ k' + p ≤ j ∧ 2 * c' + 1 ≤ j ∧ T - j < n1' ∧ ¬ (Z 3 j = 4 ∧ (Z 4 j = 42 ∨ Z 4 j = 47)) ∧ lfs k sc sc' sm sm') ∨ (∃ sc' sm', lpK3 clF n1 w (nI c) sc = some sc' ∧ lpK1 prG n2 sm = some (-1, sm') ∧ FS sc' sm' ∧ FZ sc' ∧ lff sc sc' sm sm') := by
  intro m
  induction m using Nat.strongRecOn with
  | ind m ih =>
  intro i k t c n1 n2 sc sm hm h1 h2 h hk hc
  have hs := h.1
  have hi := hs.i400
  have hiT := hs.2.2.1
  have hT401 := hs.1.2.2.1
  obtain ⟨n1', rfl⟩ : ∃ x, n1 = x + 1 := ⟨n1 - 1, by omega⟩
  obtain ⟨n2', rfl⟩ : ∃ x, n2 = x + 1 := ⟨n2 - 1, by omega⟩
  have s42 : M_isSign sm 42 = if Z 3 i = 4 ∧ Z 4 i = 42 then 1 else 0 := sm_sign hs (c := 42) (by decide)
  have s47 : M_isSign sm 47 = if Z 3 i = 4 ∧ Z 4 i = 47 then 1 else 0 := sm_sign hs (c := 47) (by decide)
  by_cases g : ¬ (Z 3 i = 4 ∧ (Z 4 i = 42 ∨ Z 4 i = 47))
  · -- neither
    have g1 : ¬ (Z 3 i = 4 ∧ Z 4 i = 42) := fun q => g ⟨q.1, Or.inl q.2⟩
    have g2 : ¬ (Z 3 i = 4 ∧ Z 4 i = 47) := fun q => g ⟨q.1, Or.inr q.2⟩
    refine Or.inl ⟨i, k, t, n1' + 1, c, sc, sm, Nat.le_refl _, Nat.le_refl _, rfl, ?_, h, hk, hc, by omega, g, lfs.rf⟩
    rw [lp1_s]
    unfold prG
    simp only [Lt_n, s42, s47, if_neg g1, if_neg g2, ↓reduceIte]
  have g := Classical.not_not.mp g
  have gE : ¬ Z 3 i = 0 := by omega
  obtain ⟨c1, m1, z1, z2, z3, z4, z5⟩ := sy_adv hs gE
  have h1' := h.mv z3 z4 z5
  have hi1 := z3.i400
  have c4 := c400 hc hi
  rcases Nat.lt_or_ge (Z 4 i) 43 with g42 | g42
  · -- times
    have g1 : Z 3 i = 4 ∧ Z 4 i = 42 := ⟨g.1, by omega⟩
    have t1 : C_X5_takesSign sc 42 = some (1, c1) := ts_yes hs (by decide) (by decide) g1 z1
    have stC : ∀ R, clF R w (nI c) sc = Bd (C_X3_readUnit c1) fun s10 => Bd (C_X2_emit s10 (-11 : Int32)) fun s11 => R w (nI (c + 1)) s11 := fun R => by
      unfold clF
      simp only [Lt_n, c4, t1, Bd_some, i10, nI_1, ↓reduceIte]
    have stM : ∀ R, prG R sm = Bd (M_readUnit m1) fun y4 => if y4.1 = (-1 : Int32) then (some ((-1 : Int32), y4.2)) else Bd (M_emits y4.2 4 (0 : Int32)) fun s3 => R s3 := fun R => by
      unfold prG
      simp only [Lt_n, s42, if_pos g1, i10, z2, Bd_some, ↓reduceIte]
    rw [lp3_s, lp1_s, stC, stM]
    rcases l_unit (p := p) h1' (by omega) (show (t :: τ).length < 60 by rw [List.length_cons]; omega) with ⟨t2, c2, m2, x1, x2, x3, x4⟩ | ⟨c2, m2, x1, x2, x3, x4, x5⟩
    · have hj := x3.1.i400
      obtain ⟨c3, m3, e1, e2, e3, e4⟩ := em0 x3 (show k + 1 < 400 by omega) PR_4 (ty_4 t2 t τ)
      rw [x1, x2, Bd_some, Bd_some]
      (try dsimp only)
      rw [if_neg (show ¬ (0 : Int32) = -1 by decide), e1, e2, Bd_some, Bd_some]
      have fr : lfs k sc c3 sm m3 := ((fcm_lfs z4 z5).tr x4 (Nat.le_refl _)).tr e4 (by omega)
      rcases ih (T - (i + 1 + 1)) (by have := x3.1.2.2.1; omega) (i + 1 + 1) (k + 1 + 1) 0 (c + 1) n1' n2' c3 m3 rfl (by have := x3.1.2.2.1; omega) (by have := x3.1.2.2.1; omega) e3 (by omega) (by omega) with ⟨j, k', t', n1'', c', sc', sm', u1, u2, u3, u4, u5, u6, u7, u8, u9, u10⟩ | ⟨sc', sm', u1, u2, u3, u4, u5⟩
      · exact Or.inl ⟨j, k', t', n1'', c', sc', sm', by omega, by omega, u3, u4, u5, u6, u7, u8, u9, fr.tr u10 (by omega)⟩
      · exact Or.inr ⟨sc', sm', u1, u2, u3, u4, fr.f.tr u5⟩
    · obtain ⟨c3, e1, e2, e3⟩ := fz_emit x4 (-11)
      obtain ⟨c4', f1, f2, f3⟩ := fz_loop (w := w) (c := nI (c + 1)) (N := n1') e2 (by omega)
      rw [x1, x2, Bd_some, Bd_some]
      (try dsimp only)
      rw [if_pos (rfl : (-1 : Int32) = -1), e1, Bd_some, f1]
      exact Or.inr ⟨c4', m2, rfl, rfl, (x3.ff e3).ff f3, f2, (((fcm_lfs (k := 0) z4 z5).f.tr x5.f).tr (ff_lff e3)).tr (ff_lff f3)⟩
  · -- a part
    have g1 : Z 3 i = 4 ∧ Z 4 i = 47 := ⟨g.1, by omega⟩
    have g0 : ¬ (Z 3 i = 4 ∧ Z 4 i = 42) := by omega
    have t0 : C_X5_takesSign sc 42 = some (0, sc) := ts_no hs (by decide) (by decide) g0
    have t1 : C_X5_takesSign sc 47 = some (1, c1) := ts_yes hs (by decide) (by decide) g1 z1
    have stC : ∀ R, clF R w (nI c) sc = Bd (C_X5_needNumber c1 (1 : Int32) (9999 : Int32)) fun y5 => Bd (C_X2_emit y5.2 y5.1) fun s8 => Bd (C_X2_emit s8 (-12 : Int32)) fun s9 => R w (nI (c + 1)) s9 := fun R => by
      unfold clF
      simp only [Lt_n, c4, t0, t1, Bd_some, i10, nI_1, ↓reduceIte]
    have stM : ∀ R, prG R sm = if m1.1 0 15 = (3 : Int32) then (if m1.1 0 16 = 0 then some ((M_errs m1 2).1, (M_errs m1 2).2) else Bd (M_readUnit m1) fun y4 => if y4.1 = (-1 : Int32) then (some ((-1 : Int32), y4.2)) else Bd (M_emits y4.2 5 (0 : Int32)) fun s3 => R s3) else some ((M_errs m1 1).1, (M_errs m1 1).2) := fun R => by
      unfold prG
      simp only [Lt_n, s42, s47, if_neg g0, if_pos g1, i10, z2, Bd_some, ↓reduceIte]
    rw [lp3_s, lp1_s, stC, stM]
    have t3 : m1.1 0 15 = (3 : Int32) ↔ Z 3 (i + 1) = 3 := sm_tok z3 (c := 3) (by decide)
    -- behind a fault
    have dead : ∀ c5 m5, FS c5 m5 → fc c1 c5 → fm m1 m5 → ∃ c9, (Bd (C_X2_emit c5 0) fun s8 => Bd (C_X2_emit s8 (-12 : Int32)) fun s9 => lpK3 clF n1' w (nI (c + 1)) s9) = some c9 ∧ FS c9 m5 ∧ FZ c9 ∧ lff sc c9 sm m5 := fun c5 m5 b q1 q2 => by
      obtain ⟨c6, d1, d2, d3⟩ := fz_emit (h1'.fz (p := 0) (by omega) b q1) 0
      obtain ⟨c7, e1, e2, e3⟩ := fz_emit d2 (-12)
      obtain ⟨c8, f1, f2, f3⟩ := fz_loop (w := w) (c := nI (c + 1)) (N := n1') e2 (by omega)
      exact ⟨c8, by rw [d1, Bd_some, e1, Bd_some, f1], ((b.ff d3).ff e3).ff f3, f2, ((((fcm_lfs (k := 0) z4 z5).f.tr (fcm_lfs (k := 0) q1 q2).f).tr (ff_lff d3)).tr (ff_lff e3)).tr (ff_lff f3)⟩
    by_cases gn : Z 3 (i + 1) = 3
    · have e16 := z3.2.2.2.2.2.2.2.2.2.2 (by omega)
      have hv := (z3.tk.2.2.2.1 gn).2
      have ez : m1.1 0 16 = 0 ↔ Z 4 (i + 1) = 0 := by rw [e16]; exact nI_eq (b := 0) (by omega) (by decide)
      rw [if_pos (t3.mpr gn)]
      by_cases gz : Z 4 (i + 1) = 0
      · obtain ⟨c5, m5, b1, b2, b3, b4, b5⟩ := sy_fail z3 2 k2
        have nn : C_X5_needNumber c1 1 9999 = some (0, c5) := by
          unfold C_X5_needNumber
          rw [sy_peek z3, Bd_some, if_pos gn, gz, if_neg (by decide), Lt_e, if_pos (by decide), b1, Bd_some]
        obtain ⟨c9, d1, d2, d3, d4⟩ := dead c5 m5 b3 b4 b5
        rw [if_pos (ez.mpr gz), nn, Bd_some, b2]
        (try dsimp only)
        exact Or.inr ⟨c9, m5, d1, rfl, d2, d3, d4⟩
      · obtain ⟨c5, c6, m5, x1, x2, x3, x4, x5⟩ := l_num h1' (show k < 400 by have := z3.row.2; have := z3.tk.1; have := z3.2.2.1; omega) (show (t :: τ).length < 60 by rw [List.length_cons]; omega) gn gz
        have hj := x4.1.i400
        obtain ⟨c7, m7, e1, e2, e3, e4⟩ := em0 x4 (show k + 1 < 400 by omega) PR_5 (ty_5 t τ)
        rw [if_neg (fun q => gz (ez.mp q)), x1, Bd_some, x3, Bd_some]
        (try dsimp only)
        rw [if_neg (show ¬ (0 : Int32) = -1 by decide), x2, Bd_some, e1, e2, Bd_some, Bd_some]
        have fr : lfs k sc c7 sm m7 := ((fcm_lfs z4 z5).tr x5 (Nat.le_refl _)).tr e4 (by omega)
        rcases ih (T - (i + 1 + 1)) (by have := x4.1.2.2.1; omega) (i + 1 + 1) (k + 1 + 1) 0 (c + 1) n1' n2' c7 m7 rfl (by have := x4.1.2.2.1; omega) (by have := x4.1.2.2.1; omega) e3 (by omega) (by omega) with ⟨j, k', t', n1'', c', sc', sm', u1, u2, u3, u4, u5, u6, u7, u8, u9, u10⟩ | ⟨sc', sm', u1, u2, u3, u4, u5⟩
        · exact Or.inl ⟨j, k', t', n1'', c', sc', sm', by omega, by omega, u3, u4, u5, u6, u7, u8, u9, fr.tr u10 (by omega)⟩
        · exact Or.inr ⟨sc', sm', u1, u2, u3, u4, fr.f.tr u5⟩
    · obtain ⟨c5, m5, b1, b2, b3, b4, b5⟩ := sy_fail z3 1 k1
      have nn : C_X5_needNumber c1 1 9999 = some (0, c5) := by
        unfold C_X5_needNumber
        rw [sy_peek z3, Bd_some, if_neg gn, if_pos rfl, b1, Bd_some]
      obtain ⟨c9, d1, d2, d3, d4⟩ := dead c5 m5 b3 b4 b5
      rw [if_neg (fun q => gn (t3.mp q)), nn, Bd_some, b2]
      (try dsimp only)
      exact Or.inr ⟨c9, m5, d1, rfl, d2, d3, d4⟩
/-- summands -/
theorem l_sums {f : Nat → Nat} {n T : Nat} {Z : Nat → Nat → Nat} {a p : Nat} {τ : List Nat} (hd : τ.length + 3 ≤ 60) : ∀ (m i k t c N1 n2 : Nat) (sc sm : ST), T - i = m → m ≤ N1 → m < n2 → L0 f n T Z a i k (t :: τ) sc sm → k + p ≤ i → 2 * c + 1 ≤ i → (∃ j k' t' sc' sm', i ≤ j ∧ k ≤ k' ∧ clT (lpK3 clF N1) (nI c) sc = some sc' ∧ lpK1 suG n2 sm = some (0, sm') ∧ L0 f n T Z a j k' (t' :: τ) sc' sm' ∧ k' + p ≤ j ∧ lfs k sc sc' sm sm') ∨ (∃ sc' sm', clT (lpK3 clF N1) (nI c) sc = some sc' ∧ lpK1 suG n2 sm = some (-1, sm') ∧ FS sc' sm' ∧ FZ sc' ∧ lff sc sc' sm sm') := by
  intro m
  induction m using Nat.strongRecOn with
  | ind m ih =>
  intro i k t c N1 n2 sc sm hm h1 h2 h hk hc
  have hs := h.1
  have hi := hs.i400
  have hiT := hs.2.2.1
  have hT401 := hs.1.2.2.1
  obtain ⟨n2', rfl⟩ : ∃ x, n2 = x + 1 := ⟨n2 - 1, by omega⟩
  have s43 : M_isSign sm 43 = if Z 3 i = 4 ∧ Z 4 i = 43 then 1 else 0 := sm_sign hs (c := 43) (by decide)
  have s45 : M_isSign sm 45 = if Z 3 i = 4 ∧ Z 4 i = 45 then 1 else 0 := sm_sign hs (c := 45) (by decide)
  by_cases g : ¬ (Z 3 i = 4 ∧ (Z 4 i = 43 ∨ Z 4 i = 45))
  · have g1 : ¬ (Z 3 i = 4 ∧ Z 4 i = 43) := fun q => g ⟨q.1, Or.inl q.2⟩
    have g2 : ¬ (Z 3 i = 4 ∧ Z 4 i = 45) := fun q => g ⟨q.1, Or.inr q.2⟩
    have t1 : C_X5_takesSign sc 43 = some (0, sc) := ts_no hs (by decide) (by decide) g1
    have t2 : C_X5_takesSign sc 45 = some (0, sc) := ts_no hs (by decide) (by decide) g2
    refine Or.inl ⟨i, k, t, sc, sm, Nat.le_refl _, Nat.le_refl _, ?_, ?_, h, hk, lfs.rf⟩
    · unfold clT
      simp only [Lt_n, t1, t2, Bd_some, ↓reduceIte]
    · rw [lp1_s]
      unfold suG
      simp only [Lt_n, s43, s45, if_neg g1, if_neg g2, ↓reduceIte]
  have g := Classical.not_not.mp g
  have gE : ¬ Z 3 i = 0 := by omega
  obtain ⟨c1, m1, z1, z2, z3, z4, z5⟩ := sy_adv hs gE
  have h1' := h.mv z3 z4 z5
  have hi1 := z3.i400
  have e16 := hs.2.2.2.2.2.2.2.2.2.2 (by omega)
  -- which of the two
  obtain ⟨w, o, stC, stM, hw0, pr, ty⟩ : ∃ w o : Int32, (∀ R, clT R (nI c) sc = Bd (C_X3_readUnit c1) fun s6 => R w (nI (c + 1)) s6) ∧ (∀ R, suG R sm = Bd (M_readProduct m1) fun y3 => if y3.1 = (-1 : Int32) then (some ((-1 : Int32), y3.2)) else Bd (M_emits y3.2 o (0 : Int32)) fun s3 => R s3) ∧ ¬ w = 0 ∧ PR w o 0 ∧ ∀ t1 t2 r, tyS o 0 (t1 :: t2 :: r) = some (0 :: r) := by
    rcases Nat.lt_or_ge (Z 4 i) 44 with q | q
    · have g1 : Z 3 i = 4 ∧ Z 4 i = 43 := ⟨g.1, by omega⟩
      have t1 : C_X5_takesSign sc 43 = some (1, c1) := ts_yes hs (by decide) (by decide) g1 z1
      have e43 : sm.1 0 16 = 43 := by rw [e16, g1.2]; rfl
      refine ⟨-9, 2, fun R => ?_, fun R => ?_, by decide, PR_2, ty_2⟩
      · unfold clT
        simp only [Lt_n, t1, Bd_some, i10, nI_1, ↓reduceIte]
        rfl
      · unfold suG
        simp only [Lt_n, s43, if_pos g1, i10, z2, e43, Bd_some, ↓reduceIte]
    · have g1 : Z 3 i = 4 ∧ Z 4 i = 45 := ⟨g.1, by omega⟩
      have g0 : ¬ (Z 3 i = 4 ∧ Z 4 i = 43) := by omega
      have t0 : C_X5_takesSign sc 43 = some (0, sc) := ts_no hs (by decide) (by decide) g0
      have t1 : C_X5_takesSign sc 45 = some (1, c1) := ts_yes hs (by decide) (by decide) g1 z1
      have e45 : ¬ sm.1 0 16 = 43 := by rw [e16, g1.2]; decide
      refine ⟨-10, 3, fun R => ?_, fun R => ?_, by decide, PR_3, ty_3⟩
      · unfold clT
        simp only [Lt_n, t0, t1, Bd_some, i10, nI_1, ↓reduceIte]
        rfl
      · unfold suG
        simp only [Lt_n, s43, s45, if_neg g0, if_pos g1, i10, z2, if_neg e45, Bd_some, ↓reduceIte]
  rw [lp1_s, stC, stM, readProduct_m]
  rcases l_unit (p := p) h1' (by omega) (show (t :: τ).length < 60 by rw [List.length_cons]; omega) with ⟨t2, c2, m2, x1, x2, x3, x4⟩ | ⟨c2, m2, x1, x2, x3, x4, x5⟩
  · have hj := x3.1.i400
    rw [x1, x2, Bd_some, Bd_some]
    (try dsimp only)
    rw [if_neg (show ¬ (0 : Int32) = -1 by decide)]
    rcases l_prod (p := p + 1) (w := w) (show (t :: τ).length + 2 ≤ 60 by rw [List.length_cons]; omega) (T - (i + 1 + 1)) (i + 1 + 1) (k + 1) t2 (c + 1) N1 FU c2 m2 rfl (by have := x3.1.2.2.1; omega) (by unfold FU; omega) x3 (by omega) (by omega) with ⟨j, k', t', n1', c', sc', sm', u1, u2, u3, u4, u5, u6, u7, u8, u9, u10⟩ | ⟨sc', sm', u1, u2, u3, u4, u5⟩
    · have hj2 := u5.1.i400
      obtain ⟨n1'', rfl⟩ : ∃ x, n1' = x + 1 := ⟨n1' - 1, by omega⟩
      have t42 : C_X5_takesSign sc' 42 = some (0, sc') := ts_no u5.1 (by decide) (by decide) (fun q => u9 ⟨q.1, Or.inl q.2⟩)
      have t47 : C_X5_takesSign sc' 47 = some (0, sc') := ts_no u5.1 (by decide) (by decide) (fun q => u9 ⟨q.1, Or.inr q.2⟩)
      obtain ⟨c3, m3, e1, e2, e3, e4⟩ := em0 u5 (show k' < 400 by omega) pr (ty t' t τ)
      rw [u3, u4, Bd_some, lp3_s, clF_end (c400 u7 hj2) t42 t47, if_neg hw0, e1, Bd_some]
      (try dsimp only)
      rw [if_neg (show ¬ (0 : Int32) = -1 by decide), e2, Bd_some]
      have fr : lfs k sc c3 sm m3 := (((fcm_lfs z4 z5).tr x4 (Nat.le_refl _)).tr u10 (by omega)).tr e4 (by omega)
      rcases ih (T - j) (by have := x3.1.2.2.1; omega) j (k' + 1) 0 c' n1'' n2' c3 m3 rfl (by omega) (by have := x3.1.2.2.1; omega) e3 (by omega) u7 with ⟨j', k'', t'', sc'', sm'', v1, v2, v3, v4, v5, v6, v7⟩ | ⟨sc'', sm'', v1, v2, v3, v4, v5⟩
      · exact Or.inl ⟨j', k'', t'', sc'', sm'', by omega, by omega, v3, v4, v5, v6, fr.tr v7 (by omega)⟩
      · exact Or.inr ⟨sc'', sm'', v1, v2, v3, v4, fr.f.tr v5⟩
    · rw [u1, u2, Bd_some]
      (try dsimp only)
      rw [if_pos (rfl : (-1 : Int32) = -1)]
      exact Or.inr ⟨sc', sm', rfl, rfl, u3, u4, ((fcm_lfs (k := k) z4 z5).f.tr x4.f).tr u5⟩
  · obtain ⟨c4', f1, f2, f3⟩ := fz_loop (w := w) (c := nI (c + 1)) (N := N1) x4 (by have := z3.2.2.1; omega)
    rw [x1, x2, Bd_some, Bd_some]
    (try dsimp only)
    rw [if_pos (rfl : (-1 : Int32) = -1), Bd_some, f1]
    (try dsimp only)
    rw [if_pos (rfl : (-1 : Int32) = -1)]
    exact Or.inr ⟨c4', m2, rfl, rfl, x3.ff f3, f2, ((fcm_lfs (k := k) z4 z5).f.tr x5.f).tr (ff_lff f3)⟩
theorem l_esum {f : Nat → Nat} {n T : Nat} {Z : Nat → Nat → Nat} {a i k p : Nat} {τ : List Nat} {sc sm : ST} (h : L0 f n T Z a i k τ sc sm) (hk : k + p ≤ i) (hd : τ.length + 3 ≤ 60) : (∃ j k' t' sc' sm', i < j ∧ k ≤ k' ∧ C_X3_readSum sc = some sc' ∧ M_readSum sm = some (0, sm') ∧ L0 f n T Z a j k' (t' :: τ) sc' sm' ∧ k' + p ≤ j ∧ lfs k sc sc' sm sm') ∨ (∃ sc' sm', C_X3_readSum sc = some sc' ∧ M_readSum sm = some (-1, sm') ∧ FS sc' sm' ∧ FZ sc' ∧ lff sc sc' sm sm') := by
  have hT401 := h.1.1.2.2.1
  rw [readSum_c, readSum_m, readProduct_m]
  rcases l_unit (p := p) h hk (by omega) with ⟨t2, c2, m2, x1, x2, x3, x4⟩ | ⟨c2, m2, x1, x2, x3, x4, x5⟩
  · rw [x1, x2, Bd_some, Bd_some]
    (try dsimp only)
    rw [if_neg (show ¬ (0 : Int32) = -1 by decide)]
    rcases l_prod (p := p) (w := 0) (show τ.length + 2 ≤ 60 by omega) (T - (i + 1)) (i + 1) (k + 1) t2 0 FU FU c2 m2 rfl (by unfold FU; omega) (by unfold FU; omega) x3 (by omega) (by omega) with ⟨j, k', t', n1', c', sc', sm', u1, u2, u3, u4, u5, u6, u7, u8, u9, u10⟩ | ⟨sc', sm', u1, u2, u3, u4, u5⟩
    · have hj2 := u5.1.i400
      obtain ⟨n1'', rfl⟩ : ∃ x, n1' = x + 1 := ⟨n1' - 1, by omega⟩
      have t42 : C_X5_takesSign sc' 42 = some (0, sc') := ts_no u5.1 (by decide) (by decide) (fun q => u9 ⟨q.1, Or.inl q.2⟩)
      have t47 : C_X5_takesSign sc' 47 = some (0, sc') := ts_no u5.1 (by decide) (by decide) (fun q => u9 ⟨q.1, Or.inr q.2⟩)
      rw [show lpK3 clF FU 0 0 c2 = lpK3 clF (n1'' + 1) 0 (nI c') sc' from u3, u4, Bd_some, lp3_s, clF_end (c400 u7 hj2) t42 t47, if_pos i00]
      (try dsimp only)
      rw [if_neg (show ¬ (0 : Int32) = -1 by decide)]
      rcases l_sums (p := p) hd (T - j) j k' t' c' n1'' FU sc' sm' rfl (by omega) (by unfold FU; omega) u5 u6 u7 with ⟨j', k'', t'', sc'', sm'', v1, v2, v3, v4, v5, v6, v7⟩ | ⟨sc'', sm'', v1, v2, v3, v4, v5⟩
      · exact Or.inl ⟨j', k'', t'', sc'', sm'', by omega, by omega, v3, v4, v5, v6, (x4.tr u10 (by omega)).tr v7 (by omega)⟩
      · exact Or.inr ⟨sc'', sm'', v1, v2, v3, v4, (x4.f.tr u10.f).tr v5⟩
    · rw [show lpK3 clF FU 0 0 c2 = some sc' from u1, u2, Bd_some]
      (try dsimp only)
      rw [if_pos (rfl : (-1 : Int32) = -1)]
      exact Or.inr ⟨sc', sm', rfl, rfl, u3, u4, x4.f.tr u5⟩
  · obtain ⟨c4', f1, f2, f3⟩ := fz_loop (w := 0) (c := 0) (N := FU) x4 (by unfold FU; omega)
    rw [x1, x2, Bd_some, Bd_some]
    (try dsimp only)
    rw [if_pos (rfl : (-1 : Int32) = -1), Bd_some, f1]
    (try dsimp only)
    rw [if_pos (rfl : (-1 : Int32) = -1)]
    exact Or.inr ⟨c4', m2, rfl, rfl, x3.ff f3, f2, x5.f.tr (ff_lff f3)⟩
