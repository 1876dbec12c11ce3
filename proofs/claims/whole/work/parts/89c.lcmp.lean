/-! # stage 2: a comparison is read, what waits is settled -/
theorem SY.fr {f : Nat → Nat} {n T : Nat} {Z : Nat → Nat → Nat} {i : Nat} {sc sm sm' : ST} (h : SY f n T Z i sc sm) (q : agr [0, 13, 14, 15] sm sm') (q0 : ∀ j, j ∈ [12, 13, 14, 15, 16] → sm'.1 0 j = sm.1 0 j) : SY f n T Z i sc sm' := by
  obtain ⟨a1, ⟨b1, b2, b3, b4, b5⟩, a3, a4, a5, a6, a7, a8, a9, a10, a11⟩ := h
  exact ⟨a1, ⟨by rw [q0 12 (by decide)]; exact b1, b2, by rw [(q 6 (by decide)).1]; exact b3, b4, by rw [(q 7 (by decide)).1]; exact b5⟩, a3, a4, a5, a6, a7, by rw [q0 13 (by decide)]; exact a8, by rw [q0 14 (by decide)]; exact a9, by rw [q0 15 (by decide)]; exact a10, by rw [q0 16 (by decide)]; exact a11⟩
theorem SY.fx {f : Nat → Nat} {n T : Nat} {Z : Nat → Nat → Nat} {i : Nat} {sc sc' sm : ST} (h : SY f n T Z i sc sm) (q : agr [60, 63] sc sc') : SY f n T Z i sc' sm := by
  obtain ⟨⟨⟨p1, p2, p3, p4⟩, p5, p6, p7, p8, p9⟩, a2, a3, a4, a5, a6, a7, a8⟩ := h
  have e49 := (q 49 (by decide)).1
  have e50 := (q 50 (by decide)).1
  have e51 := (q 51 (by decide)).1
  have e52 := (q 52 (by decide)).1
  have e53 := (q 53 (by decide)).1
  refine ⟨⟨⟨by rw [e49]; exact p1, p2, by rw [e50]; exact p3, p4⟩, p5, p6, by rw [e49]; exact p7, p8, fun r hr => ?_⟩, a2, a3, by rw [e49]; exact a4, by rw [e49]; exact a5, by rw [e49]; exact a6, by rw [e49]; exact a7, a8⟩
  unfold ROW
  rw [e51, e52, e53]
  exact p9 r hr
/-- the two codes alike, without the tokens -/
def LN (a k : Nat) (τ : List Nat) (sc sm : ST) : Prop := LC k sc sm ∧ TY a k τ sm
/-- an emission, explicitly -/
theorem em1 {a k : Nat} {τ τ' : List Nat} {sc sm : ST} {x o v : Int32} (h : LN a k τ sc sm) (hk : k < 400) (hp : PR x o v) (ht : tyS o v τ = some τ') : ∃ sc' sm', C_X2_emit sc x = some sc' ∧ M_emits sm o v = some sm' ∧ LN a (k + 1) τ' sc' sm' ∧ (agr [60, 63] sc sc' ∧ ∀ j, j < k → sc'.1 63 j = sc.1 63 j) ∧ (agr [0, 13, 14] sm sm' ∧ (∀ j, j ≠ 26 → sm'.1 0 j = sm.1 0 j) ∧ ∀ j, j < 800 + k → sm'.1 13 j = sm.1 13 j ∧ sm'.1 14 j = sm.1 14 j) := by
  obtain ⟨⟨h2, h3, h4⟩, h5, h6⟩ := h
  have e1 : C_X2_emit sc x = some (ups (ups sc 63 k x) 60 2 (nI (k + 1))) := by
    unfold C_X2_emit
    rw [h2, if_neg (show ¬ (400 : Int32) ≤ nI k from nle_t (n := 400) hk (by decide)), Gs_n hk (by decide), Lt_e, ups_ne (by decide), h2, nI_1]
  have e2 : M_emits sm o v = some (ups (ups (ups sm 13 (800 + k) o) 14 (800 + k) v) 0 26 (nI (k + 1))) := by
    unfold M_emits
    rw [h3, show (800 : Int32) + nI k = nI (800 + k) from nI_add 800 k, Gs_n (by omega) (by decide), ups_ne (by decide), h3, show (800 : Int32) + nI k = nI (800 + k) from nI_add 800 k, Gs_n (by omega) (by decide), Lt_e, ups_ne (by decide), ups_ne (by decide), h3, nI_1]
  have c13 : ∀ j, (ups (ups (ups sm 13 (800 + k) o) 14 (800 + k) v) 0 26 (nI (k + 1))).1 13 j = if j = 800 + k then o else sm.1 13 j := fun j => by rw [ups_ne (by decide), ups_ne (by decide), rd1]
  have c14 : ∀ j, (ups (ups (ups sm 13 (800 + k) o) 14 (800 + k) v) 0 26 (nI (k + 1))).1 14 j = if j = 800 + k then v else sm.1 14 j := fun j => by rw [ups_ne (by decide), rd1, ups_ne (by decide)]
  refine ⟨_, _, e1, e2, ⟨⟨by rw [rd1, if_pos rfl], by rw [rd1, if_pos rfl], fun j hj => ?_⟩, by omega, ?_⟩, ⟨(agr.rf.ups (by decide)).ups (by decide), fun j hj => by rw [ups_ne (by decide), rd1, if_neg (by omega)]⟩, ((agr.rf.ups (by decide)).ups (by decide)).ups (by decide), fun j hj => ?_, fun j hj => ?_⟩
  · rw [ups_ne (by decide), rd1, c13, c14]
    by_cases e : j = k
    · rw [if_pos e, if_pos (by omega), if_pos (by omega)]
      exact hp
    · rw [if_neg e, if_neg (by omega), if_neg (by omega)]
      exact h4 j (by omega)
  · have hn : k + 1 - a = k - a + 1 := by omega
    rw [hn, tyR_snoc, show a + (k - a) = k by omega]
    have hc : tyR (fun j => (ups (ups (ups sm 13 (800 + k) o) 14 (800 + k) v) 0 26 (nI (k + 1))).1 13 (800 + j)) (fun j => (ups (ups (ups sm 13 (800 + k) o) 14 (800 + k) v) 0 26 (nI (k + 1))).1 14 (800 + j)) (k - a) a [] = some τ := by
      refine (tyR_cong (fun j j1 j2 => ?_)).trans h6
      rw [c13, c14, if_neg (by omega), if_neg (by omega)]
      exact ⟨rfl, rfl⟩
    rw [hc]
    show tyS ((ups (ups (ups sm 13 (800 + k) o) 14 (800 + k) v) 0 26 (nI (k + 1))).1 13 (800 + k)) ((ups (ups (ups sm 13 (800 + k) o) 14 (800 + k) v) 0 26 (nI (k + 1))).1 14 (800 + k)) τ = some τ'
    rw [c13, c14, if_pos rfl, if_pos rfl]
    exact ht
  · rw [rd1, if_neg hj, ups_ne (by decide), ups_ne (by decide)]
  · rw [c13, c14, if_neg (by omega), if_neg (by omega)]
    exact ⟨rfl, rfl⟩
theorem LN.mv {a k : Nat} {τ : List Nat} {sc sm sc' sm' : ST} (h : LN a k τ sc sm) (c0 : sc'.1 60 2 = sc.1 60 2) (c1 : ∀ j, j < k → sc'.1 63 j = sc.1 63 j) (m0 : sm'.1 0 26 = sm.1 0 26) (m1 : ∀ j, j < 800 + k → sm'.1 13 j = sm.1 13 j ∧ sm'.1 14 j = sm.1 14 j) : LN a k τ sc' sm' := by
  obtain ⟨⟨h1, h2, h3⟩, h4, h5⟩ := h
  refine ⟨⟨c0.trans h1, m0.trans h2, fun j hj => ?_⟩, h4, ?_⟩
  · rw [c1 j hj, (m1 _ (by omega)).1, (m1 _ (by omega)).2]
    exact h3 j hj
  · exact (tyR_cong (fun j j1 j2 => m1 _ (by omega))).trans h5
/-- a comparison -/
def cmpC (s : ST) : Option ST := Bd (C_X3_readSum s) fun s8 => Bd (C_X3_takeComparison s8) fun y3 => Bd (C_X3_readSum y3.2) fun s9 => Bd (C_X2_emit s9 y3.1) fun s10 => some s10
theorem l_cmp {f : Nat → Nat} {n T : Nat} {Z : Nat → Nat → Nat} {a i k p : Nat} {τ : List Nat} {sc sm : ST} (h : L0 f n T Z a i k τ sc sm) (hk : k + p ≤ i) (hd : τ.length + 4 ≤ 60) : (∃ j k' sc' sm', i < j ∧ k ≤ k' ∧ cmpC sc = some sc' ∧ M_readCompared sm = some (0, sm') ∧ L0 f n T Z a j k' (1 :: τ) sc' sm' ∧ k' + p ≤ j ∧ lfs k sc sc' sm sm') ∨ (∃ sc' sm', cmpC sc = some sc' ∧ M_readCompared sm = some (-1, sm') ∧ FS sc' sm' ∧ FZ sc' ∧ lff sc sc' sm sm') := by
  unfold cmpC M_readCompared
  have n0m1 : ¬ (0 : Int32) = -1 := by decide
  rcases (l_esum h hk (by omega)).symm with ⟨c1, m1, u1, u2, u3, u4, u5⟩ | ⟨j, k', t', c1, m1, u1, u2, u3, u4, u5, u6, u7⟩
  · obtain ⟨c2, v1, v2, v3⟩ := fz_sum u4
    obtain ⟨c3, w1, w2, w3⟩ := fz_emit v2 (-15)
    have tc : C_X3_takeComparison c1 = some (-15, c1) := by
      unfold C_X3_takeComparison
      rw [fm_takesSign u4.1, Bd_some]
      (try dsimp only)
      rw [if_pos i00, fm_takesSign u4.1, Bd_some]
      (try dsimp only)
      rw [if_pos i00, fm_needSign u4.1, Bd_some]
    rw [u1, u2, Bd_some, Bd_some, tc, Bd_some]
    (try dsimp only)
    rw [v1, Bd_some, w1, Bd_some, if_pos (rfl : (-1 : Int32) = -1)]
    exact Or.inr ⟨c3, m1, rfl, rfl, (u3.ff v3).ff w3, w2, (u5.tr (ff_lff v3)).tr (ff_lff w3)⟩
  rw [u3, u4, Bd_some, Bd_some]
  (try dsimp only)
  rw [if_neg n0m1]
  have hs := u5.1
  have s60 : M_isSign m1 60 = if Z 3 j = 4 ∧ Z 4 j = 60 then 1 else 0 := sm_sign hs (c := 60) (by decide)
  have s61 : M_isSign m1 61 = if Z 3 j = 4 ∧ Z 4 j = 61 then 1 else 0 := sm_sign hs (c := 61) (by decide)
  have s62 : M_isSign m1 62 = if Z 3 j = 4 ∧ Z 4 j = 62 then 1 else 0 := sm_sign hs (c := 62) (by decide)
  by_cases g : ¬ (Z 3 j = 4 ∧ (Z 4 j = 60 ∨ Z 4 j = 61 ∨ Z 4 j = 62))
  · -- no sign of a comparison
    have g0 : ¬ (Z 3 j = 4 ∧ Z 4 j = 60) := fun q => g ⟨q.1, Or.inl q.2⟩
    have g1 : ¬ (Z 3 j = 4 ∧ Z 4 j = 61) := fun q => g ⟨q.1, Or.inr (Or.inl q.2)⟩
    have g2 : ¬ (Z 3 j = 4 ∧ Z 4 j = 62) := fun q => g ⟨q.1, Or.inr (Or.inr q.2)⟩
    obtain ⟨c2, m2, b1, b2, b3, b4, b5⟩ := sy_fail hs 1 k1
    have tc : C_X3_takeComparison c1 = some (-15, c2) := by
      unfold C_X3_takeComparison C_X5_needSign
      rw [show C_X5_takesSign c1 60 = some (0, c1) from ts_no hs (by decide) (by decide) g0, Bd_some]
      (try dsimp only)
      rw [if_pos i00, show C_X5_takesSign c1 61 = some (0, c1) from ts_no hs (by decide) (by decide) g1, Bd_some]
      (try dsimp only)
      rw [if_pos i00, show C_X5_takesSign c1 62 = some (0, c1) from ts_no hs (by decide) (by decide) g2, Bd_some]
      (try dsimp only)
      rw [if_pos i00, b1, Bd_some, Bd_some]
    obtain ⟨c3, v1, v2, v3⟩ := fz_sum (u5.fz (p := 0) (by omega) b3 b4)
    obtain ⟨c4, w1, w2, w3⟩ := fz_emit v2 (-15)
    refine Or.inr ⟨c4, m2, ?_, ?_, (b3.ff v3).ff w3, w2, ((u7.f.tr (fcm_lfs (k := 0) b4 b5).f).tr (ff_lff v3)).tr (ff_lff w3)⟩
    · rw [tc, Bd_some]
      (try dsimp only)
      rw [v1, Bd_some, w1, Bd_some]
    · simp only [Lt_n, s60, s61, s62, if_neg g0, if_neg g1, if_neg g2, b2, ↓reduceIte]
  have g := Classical.not_not.mp g
  obtain ⟨c2, m2, z1, z2, z3, z4, z5⟩ := sy_adv hs (by omega)
  have e16 := hs.2.2.2.2.2.2.2.2.2.2 (by omega)
  obtain ⟨x, o, tc, stM, pr, ty⟩ : ∃ x o : Int32, C_X3_takeComparison c1 = some (x, c2) ∧ (Lt (M_isSign m1 (60 : Int32)) fun y2 => Lt (Lt (fun (a1 : Int32) => (Bd (M_reads m1) fun s1 => Bd (M_readSum s1) fun y3 => if y3.1 = (-1 : Int32) then (some ((-1 : Int32), y3.2)) else (Bd (M_emits y3.2 a1 (0 : Int32)) fun s2 => some ((0 : Int32), s2)) : Option (Int32 × ST))) fun j2 => if (m1.1 0 16) = (60 : Int32) then (j2 (6 : Int32)) else (if (m1.1 0 16) = (61 : Int32) then (j2 (7 : Int32)) else (j2 (8 : Int32))) : Option (Int32 × ST)) fun j1 => if y2 = 0 then (Lt (M_isSign m1 (61 : Int32)) fun y4 => if y4 = 0 then (Lt (M_isSign m1 (62 : Int32)) fun y5 => if y5 = 0 then (Lt (M_errs m1 (1 : Int32)) fun y6 => some (y6.1, y6.2)) else (j1)) else (j1)) else (j1)) = (Bd (M_readSum m2) fun y3 => if y3.1 = (-1 : Int32) then (some ((-1 : Int32), y3.2)) else (Bd (M_emits y3.2 o (0 : Int32)) fun s2 => some ((0 : Int32), s2))) ∧ PR x o 0 ∧ ∀ t1 t2 r, tyS o 0 (t1 :: t2 :: r) = some (1 :: r) := by
    rcases g.2 with q | q | q
    · have g0 : Z 3 j = 4 ∧ Z 4 j = 60 := ⟨g.1, q⟩
      have e60 : m1.1 0 16 = 60 := by rw [e16, q]; rfl
      refine ⟨-13, 6, ?_, ?_, PR_6, ty_6⟩
      · unfold C_X3_takeComparison
        rw [show C_X5_takesSign c1 60 = some (1, c2) from ts_yes hs (by decide) (by decide) g0 z1, Bd_some]
        (try dsimp only)
        rw [if_neg i10]
      · simp only [Lt_n, s60, if_pos g0, i10, e60, z2, Bd_some, ↓reduceIte]
    · have g0 : ¬ (Z 3 j = 4 ∧ Z 4 j = 60) := by omega
      have g1 : Z 3 j = 4 ∧ Z 4 j = 61 := ⟨g.1, q⟩
      have e61 : m1.1 0 16 = 61 := by rw [e16, q]; rfl
      have n61 : ¬ (61 : Int32) = 60 := by decide
      refine ⟨-14, 7, ?_, ?_, PR_7, ty_7⟩
      · unfold C_X3_takeComparison
        rw [show C_X5_takesSign c1 60 = some (0, c1) from ts_no hs (by decide) (by decide) g0, Bd_some]
        (try dsimp only)
        rw [if_pos i00, show C_X5_takesSign c1 61 = some (1, c2) from ts_yes hs (by decide) (by decide) g1 z1, Bd_some]
        (try dsimp only)
        rw [if_neg i10]
      · simp only [Lt_n, s60, s61, if_neg g0, if_pos g1, i10, e61, n61, z2, Bd_some, ↓reduceIte]
    · have g0 : ¬ (Z 3 j = 4 ∧ Z 4 j = 60) := by omega
      have g1 : ¬ (Z 3 j = 4 ∧ Z 4 j = 61) := by omega
      have g2 : Z 3 j = 4 ∧ Z 4 j = 62 := ⟨g.1, q⟩
      have e62 : m1.1 0 16 = 62 := by rw [e16, q]; rfl
      have n62 : ¬ (62 : Int32) = 60 := by decide
      have n63 : ¬ (62 : Int32) = 61 := by decide
      refine ⟨-15, 8, ?_, ?_, PR_8, ty_8⟩
      · unfold C_X3_takeComparison C_X5_needSign
        rw [show C_X5_takesSign c1 60 = some (0, c1) from ts_no hs (by decide) (by decide) g0, Bd_some]
        (try dsimp only)
        rw [if_pos i00, show C_X5_takesSign c1 61 = some (0, c1) from ts_no hs (by decide) (by decide) g1, Bd_some]
        (try dsimp only)
        rw [if_pos i00, show C_X5_takesSign c1 62 = some (1, c2) from ts_yes hs (by decide) (by decide) g2 z1, Bd_some]
        (try dsimp only)
        rw [if_neg i10, Bd_some]
      · simp only [Lt_n, s60, s61, s62, if_neg g0, if_neg g1, if_pos g2, i10, e62, n62, n63, z2, Bd_some, ↓reduceIte]
  rw [stM, tc, Bd_some]
  (try dsimp only)
  have h2 := u5.mv z3 z4 z5
  rcases l_esum (p := p + 1) h2 (by omega) (show (t' :: τ).length + 3 ≤ 60 by rw [List.length_cons]; omega) with ⟨j2, k2, t2, c3, m3, v1, v2, v3, v4, v5, v6, v7⟩ | ⟨c3, m3, v1, v2, v3, v4, v5⟩
  · have hj := v5.1.i400
    obtain ⟨c4, m4, e1, e2, e3, e4⟩ := em0 v5 (show k2 < 400 by omega) pr (ty t2 t' τ)
    rw [v3, v4, Bd_some, Bd_some, e1, Bd_some]
    (try dsimp only)
    rw [if_neg n0m1, e2, Bd_some]
    exact Or.inl ⟨j2, k2 + 1, c4, m4, by omega, by omega, rfl, rfl, e3, by omega, ((u7.tr (fcm_lfs (k := k') z4 z5) (by omega)).tr v7 (by omega)).tr e4 (by omega)⟩
  · obtain ⟨c4, w1, w2, w3⟩ := fz_emit v4 x
    rw [v1, v2, Bd_some, Bd_some, w1, Bd_some]
    (try dsimp only)
    rw [if_pos (rfl : (-1 : Int32) = -1)]
    exact Or.inr ⟨c4, m3, rfl, rfl, v3.ff w3, w2, ((u7.f.tr (fcm_lfs (k := 0) z4 z5).f).tr v5).tr (ff_lff w3)⟩
/-! what waits -/
def PD : List Int32 → (Nat → Int32) → Prop
  | [], _ => True
  | x :: r, g => g r.length = x ∧ PD r g
theorem PD_upd {g : Nat → Int32} {k : Nat} {x : Int32} : ∀ {l : List Int32}, PD l g → l.length ≤ k → PD l (upd g k x)
  | [], _, _ => trivial
  | y :: r, ⟨h1, h2⟩, hk => by
    have hk : r.length + 1 ≤ k := hk
    exact ⟨(show upd g k x r.length = g r.length from if_neg (by omega)).trans h1, PD_upd h2 (by omega)⟩
def PN (l : List Int32) (sm : ST) : Prop := sm.1 0 29 = nI l.length ∧ PD l (sm.1 15) ∧ l.length ≤ 40
theorem PN.mv {l : List Int32} {sm sm' : ST} (h : PN l sm) (h0 : sm'.1 0 29 = sm.1 0 29) (h15 : sm'.1 15 = sm.1 15) : PN l sm' := by
  unfold PN at h ⊢
  rw [h0, h15]
  exact h
theorem m_waits {l : List Int32} {sm : ST} {x : Int32} (h : PN l sm) (hl : l.length < 40) : ∃ sm', M_waits sm x = some sm' ∧ PN (x :: l) sm' ∧ sm' = ups (ups sm 15 l.length x) 0 29 (nI (l.length + 1)) := by
  obtain ⟨h1, h2, h3⟩ := h
  have e : M_waits sm x = some (ups (ups sm 15 l.length x) 0 29 (nI (l.length + 1))) := by
    unfold M_waits
    rw [h1, Gs_n hl (by decide), Lt_e, ups_ne (by decide), h1, nI_1]
  refine ⟨_, e, ⟨by rw [rd1, if_pos rfl]; rfl, ⟨?_, ?_⟩, by rw [List.length_cons]; omega⟩, rfl⟩
  · rw [ups_ne (by decide), rd1, if_pos rfl]
  · rw [ups_ne (by decide), ups_eq]
    exact PD_upd h2 (Nat.le_refl _)
def seG (x : Int32) : (ST → Option ST) → ST → Option ST := (fun (rec1 : ST → Option (ST)) (s1 : ST) => if (s1.1 0 29) ≤ 0 then (some s1) else (Gl s1 15 40 ((s1.1 0 29) - (1 : Int32)) fun y1 => if y1 = x then (Lt (ups s1 0 29 ((s1.1 0 29) - (1 : Int32))) fun s2 => Bd (M_emits s2 x (0 : Int32)) fun s3 => if x = (9 : Int32) then (Lt (ups s3 0 27 ((s3.1 0 27) - (1 : Int32))) fun s4 => rec1 s4) else (rec1 s3)) else (some s1)))
theorem settles_e (s : ST) (x : Int32) : M_settles s x = lpK1 (seG x) FU s := (rfl)
theorem se_stop {l : List Int32} {sm : ST} {x : Int32} {R : ST → Option ST} (h : PN l sm) (hx : l.head? ≠ some x) : seG x R sm = some sm := by
  obtain ⟨h1, h2, h3⟩ := h
  unfold seG
  rw [h1]
  cases l with
  | nil => rw [if_pos (by decide)]
  | cons y r =>
    have hr : r.length + 1 ≤ 40 := h3
    have hy : ¬ y = x := fun q => hx (by rw [q]; rfl)
    have hn : ¬ nI (y :: r).length ≤ (0 : Int32) := nI_nle (by rw [List.length_cons]; omega) (by rw [List.length_cons]; omega)
    rw [if_neg hn, show nI (y :: r).length - (1 : Int32) = nI r.length from n_sub1 r.length, Gl_n (by omega) (by decide), h2.1, if_neg hy]
theorem se_step {l : List Int32} {sm : ST} {x : Int32} {R : ST → Option ST} (h : PN (x :: l) sm) : seG x R sm = (Bd (M_emits (ups sm 0 29 (nI l.length)) x 0) fun s3 => if x = (9 : Int32) then R (ups s3 0 27 (s3.1 0 27 - 1)) else R s3) ∧ PN l (ups sm 0 29 (nI l.length)) := by
  obtain ⟨h1, h2, h3⟩ := h
  have hr : l.length + 1 ≤ 40 := h3
  have hn : ¬ nI (x :: l).length ≤ (0 : Int32) := nI_nle (by rw [List.length_cons]; omega) (by rw [List.length_cons]; omega)
  refine ⟨?_, by rw [rd1, if_pos rfl], by rw [ups_ne (by decide)]; exact h2.2, by omega⟩
  unfold seG
  rw [h1, if_neg hn, show nI (x :: l).length - (1 : Int32) = nI l.length from n_sub1 l.length, Gl_n (by omega) (by decide), h2.1, if_pos rfl, Lt_e]
  simp only [Lt_n]
theorem se_none {l : List Int32} {sm : ST} {x : Int32} (h : PN l sm) (hx : l.head? ≠ some x) : M_settles sm x = some sm := by
  rw [settles_e, show FU = 5999 + 1 from rfl, lp1_s, se_stop h hx]
/-- frames of a condition -/
def lq (k : Nat) (sc sc' sm sm' : ST) : Prop :=
  (agr [49, 60, 63] sc sc' ∧ (∀ j, j ∉ [6, 7, 8, 9] → sc'.1 49 j = sc.1 49 j) ∧ ∀ j, j < k → sc'.1 63 j = sc.1 63 j) ∧
  (agr [0, 13, 14, 15] sm sm' ∧ (∀ j, j ∉ [13, 14, 15, 16, 26, 27, 29, 30, 31] → sm'.1 0 j = sm.1 0 j) ∧ ∀ j, j < 800 + k → sm'.1 13 j = sm.1 13 j ∧ sm'.1 14 j = sm.1 14 j)
theorem lq.rf {k : Nat} {sc sm : ST} : lq k sc sc sm sm := ⟨⟨agr.rf, fun _ _ => rfl, fun _ _ => rfl⟩, agr.rf, fun _ _ => rfl, fun _ _ => ⟨rfl, rfl⟩⟩
theorem lq.tr {k k' : Nat} {a b c x y z : ST} (h : lq k a b x y) (g : lq k' b c y z) (hk : k ≤ k') : lq k a c x z := by
  obtain ⟨⟨h1, h2, h3⟩, h4, h5, h6⟩ := h
  obtain ⟨⟨g1, g2, g3⟩, g4, g5, g6⟩ := g
  exact ⟨⟨h1.tr g1, fun j hj => (g2 j hj).trans (h2 j hj), fun j hj => (g3 j (by omega)).trans (h3 j hj)⟩, h4.tr g4, fun j hj => (g5 j hj).trans (h5 j hj), fun j hj => ⟨(g6 j (by omega)).1.trans (h6 j hj).1, (g6 j (by omega)).2.trans (h6 j hj).2⟩⟩
theorem lq.le {k k' : Nat} {sc sc' sm sm' : ST} (h : lq k' sc sc' sm sm') (hk : k ≤ k') : lq k sc sc' sm sm' := ⟨⟨h.1.1, h.1.2.1, fun j hj => h.1.2.2 j (by omega)⟩, h.2.1, h.2.2.1, fun j hj => h.2.2.2 j (by omega)⟩
theorem lfs.q {k : Nat} {sc sc' sm sm' : ST} (h : lfs k sc sc' sm sm') : lq k sc sc' sm sm' := ⟨h.1, h.2.1.mono (by decide), fun j hj => h.2.2.1 j (by simp only [List.mem_cons, List.not_mem_nil, or_false, not_or] at hj ⊢; omega), h.2.2.2⟩
theorem lff.q {sc sc' sm sm' : ST} (h : lff sc sc' sm sm') : lq 0 sc sc' sm sm' := ⟨⟨h.1.1, h.1.2, fun j hj => absurd hj (Nat.not_lt_zero j)⟩, h.2.1.mono (by decide), fun j hj => h.2.2.1 j (by simp only [List.mem_cons, List.not_mem_nil, or_false, not_or] at hj ⊢; omega), fun j hj => h.2.2.2 j (by omega)⟩
theorem ff_lq {sc sc' sm : ST} (a : ff sc sc') : lq 0 sc sc' sm sm := ⟨⟨a.mono (by decide), fun j _ => by rw [(a 49 (by decide)).1], fun j hj => absurd hj (Nat.not_lt_zero j)⟩, agr.rf, fun _ _ => rfl, fun _ _ => ⟨rfl, rfl⟩⟩
def emN : Nat → ST → Option ST
  | 0, s => some s
  | m + 1, s => Bd (C_X2_emit s (-18)) fun s' => emN m s'
theorem fz_emN : ∀ (m : Nat) {s : ST}, FZ s → ∃ s', emN m s = some s' ∧ FZ s' ∧ ff s s'
  | 0, s, h => ⟨s, rfl, h, agr.rf⟩
  | m + 1, s, h => by
    obtain ⟨s1, a1, a2, a3⟩ := fz_emit h (-18)
    obtain ⟨s2, b1, b2, b3⟩ := fz_emN m a2
    refine ⟨s2, ?_, b2, a3.tr b3⟩
    show (Bd (C_X2_emit s (-18)) fun s' => emN m s') = some s2
    rw [a1, Bd_some, b1]
/-- all the NOTs on top -/
theorem se_not {a : Nat} {τ : List Nat} {l : List Int32} (hl : l.head? ≠ some 9) : ∀ (m k d N : Nat) (sc sm : ST), LN a k (1 :: τ) sc sm → PN (List.replicate m 9 ++ l) sm → sm.1 0 27 = nI (d + m) → d + m ≤ 100 → k + m ≤ 400 → m < N → ∃ sc' sm', emN m sc = some sc' ∧ lpK1 (seG 9) N sm = some sm' ∧ LN a (k + m) (1 :: τ) sc' sm' ∧ PN l sm' ∧ sm'.1 0 27 = nI d ∧ (agr [60, 63] sc sc' ∧ ∀ j, j < k → sc'.1 63 j = sc.1 63 j) ∧ (agr [0, 13, 14] sm sm' ∧ (∀ j, j ∉ [26, 27, 29] → sm'.1 0 j = sm.1 0 j) ∧ ∀ j, j < 800 + k → sm'.1 13 j = sm.1 13 j ∧ sm'.1 14 j = sm.1 14 j)
  | 0, k, d, N, sc, sm, h, hp, h27, hdm, hk, hN => by
    obtain ⟨N', rfl⟩ : ∃ x, N = x + 1 := ⟨N - 1, by omega⟩
    refine ⟨sc, sm, rfl, ?_, h, hp, h27, ⟨agr.rf, fun _ _ => rfl⟩, agr.rf, fun _ _ => rfl, fun _ _ => ⟨rfl, rfl⟩⟩
    rw [lp1_s, se_stop hp hl]
  | m + 1, k, d, N, sc, sm, h, hp, h27, hdm, hk, hN => by
    obtain ⟨N', rfl⟩ : ∃ x, N = x + 1 := ⟨N - 1, by omega⟩
    have hp' : PN (9 :: (List.replicate m 9 ++ l)) sm := hp
    obtain ⟨e1, e2⟩ := se_step (R := lpK1 (seG 9) N') hp'
    have h1 : LN a k (1 :: τ) sc (ups sm 0 29 (nI (List.replicate m (9 : Int32) ++ l).length)) := h.mv rfl (fun _ _ => rfl) (by rw [rd1, if_neg (by decide)]) (fun j _ => by rw [ups_ne (by decide), ups_ne (by decide)]; exact ⟨rfl, rfl⟩)
    obtain ⟨c2, m2, x1, x2, x3, x4, x5⟩ := em1 (x := -18) (o := 9) (v := 0) h1 (by omega) PR_9 (ty_9 τ)
    have n27 : m2.1 0 27 = nI (d + (m + 1)) := by rw [x5.2.1 27 (by decide), rd1, if_neg (by decide)]; exact h27
    have h3 : LN a (k + 1) (1 :: τ) c2 (ups m2 0 27 (nI (d + m))) := x3.mv rfl (fun _ _ => rfl) (by rw [rd1, if_neg (by decide)]) (fun j _ => by rw [ups_ne (by decide), ups_ne (by decide)]; exact ⟨rfl, rfl⟩)
    have p3 : PN (List.replicate m 9 ++ l) (ups m2 0 27 (nI (d + m))) := e2.mv (by rw [rd1, if_neg (by decide), x5.2.1 29 (by decide)]) (by rw [ups_ne (by decide), (x5.1 15 (by decide)).1])
    obtain ⟨c4, m4, y1, y2, y3, y4, y5, y6, y7⟩ := se_not hl m (k + 1) d N' c2 (ups m2 0 27 (nI (d + m))) h3 p3 (by rw [rd1, if_pos rfl]) (by omega) (by omega) (by omega)
    refine ⟨c4, m4, ?_, ?_, by rw [show k + (m + 1) = k + 1 + m by omega]; exact y3, y4, y5, ⟨x4.1.tr y6.1, fun j hj => (y6.2 j (by omega)).trans (x4.2 j hj)⟩, ?_, fun j hj => ?_, fun j hj => ?_⟩
    · show (Bd (C_X2_emit sc (-18)) fun s' => emN m s') = some c4
      rw [x1, Bd_some, y1]
    · rw [lp1_s, e1, x2, Bd_some, if_pos rfl, n27, show nI (d + (m + 1)) - 1 = nI (d + m) from n_sub1 (d + m), y2]
    · exact ((((agr.rf (s := sm)).ups (c := 0) (i := 29) (x := nI (List.replicate m (9 : Int32) ++ l).length) (W := [0, 13, 14]) (by decide)).tr x5.1).ups (by decide)).tr y7.1
    · have hj2 : j ≠ 26 ∧ j ≠ 27 ∧ j ≠ 29 := by simp only [List.mem_cons, List.not_mem_nil, or_false, not_or] at hj; exact hj
      rw [y7.2.1 j hj, rd1, if_neg hj2.2.1, x5.2.1 j hj2.1, rd1, if_neg hj2.2.2]
    · have q1 := y7.2.2 j (by omega)
      have q2 := x5.2.2 j hj
      rw [ups_ne (by decide), ups_ne (by decide)] at q1 q2
      exact ⟨q1.1.trans q2.1, q1.2.trans q2.2⟩
/-- an AND or an OR on top -/
theorem se_op {a k : Nat} {τ τ' : List Nat} {l : List Int32} {sc sm : ST} {x o : Int32} (h : LN a k τ sc sm) (hp : PN (o :: l) sm) (h9 : ¬ o = 9) (hl : l.head? ≠ some o) (hk : k < 400) (pr : PR x o 0) (ty : tyS o 0 τ = some τ') : ∃ sc' sm', C_X2_emit sc x = some sc' ∧ M_settles sm o = some sm' ∧ LN a (k + 1) τ' sc' sm' ∧ PN l sm' ∧ (agr [60, 63] sc sc' ∧ ∀ j, j < k → sc'.1 63 j = sc.1 63 j) ∧ (agr [0, 13, 14] sm sm' ∧ (∀ j, j ∉ [26, 29] → sm'.1 0 j = sm.1 0 j) ∧ ∀ j, j < 800 + k → sm'.1 13 j = sm.1 13 j ∧ sm'.1 14 j = sm.1 14 j) := by
  obtain ⟨e1, e2⟩ := se_step (R := lpK1 (seG o) 5999) hp
  have h1 : LN a k τ sc (ups sm 0 29 (nI l.length)) := h.mv rfl (fun _ _ => rfl) (by rw [rd1, if_neg (by decide)]) (fun j _ => by rw [ups_ne (by decide), ups_ne (by decide)]; exact ⟨rfl, rfl⟩)
  obtain ⟨c2, m2, x1, x2, x3, x4, x5⟩ := em1 h1 hk pr ty
  have p3 : PN l m2 := e2.mv (x5.2.1 29 (by decide)) ((x5.1 15 (by decide)).1)
  refine ⟨c2, m2, x1, ?_, x3, p3, x4, ((agr.rf (s := sm)).ups (c := 0) (i := 29) (x := nI l.length) (W := [0, 13, 14]) (by decide)).tr x5.1, fun j hj => ?_, fun j hj => ?_⟩
  · rw [settles_e, show FU = 5999 + 1 from rfl, lp1_s, e1, x2, Bd_some, if_neg h9, show (5999 : Nat) = 5998 + 1 from rfl, lp1_s, se_stop p3 hl]
  · have hj2 : j ≠ 26 ∧ j ≠ 29 := by simp only [List.mem_cons, List.not_mem_nil, or_false, not_or] at hj; exact hj
    rw [x5.2.1 j hj2.1, rd1, if_neg hj2.2]
  · have q2 := x5.2.2 j hj
    rw [ups_ne (by decide), ups_ne (by decide)] at q2
    exact q2
