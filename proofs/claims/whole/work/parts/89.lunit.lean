/-! # stage 2: sums of the law are read -/
def LC (k : Nat) (sc sm : ST) : Prop := sc.1 60 2 = nI k ∧ sm.1 0 26 = nI k ∧ ∀ j, j < k → PR (sc.1 63 j) (sm.1 13 (800 + j)) (sm.1 14 (800 + j))
def TY (a k : Nat) (τ : List Nat) (sm : ST) : Prop := a ≤ k ∧ tyR (fun j => sm.1 13 (800 + j)) (fun j => sm.1 14 (800 + j)) (k - a) a [] = some τ
def L0 (f : Nat → Nat) (n T : Nat) (Z : Nat → Nat → Nat) (a i k : Nat) (τ : List Nat) (sc sm : ST) : Prop := SY f n T Z i sc sm ∧ LC k sc sm ∧ TY a k τ sm
def lfs (k : Nat) (sc sc' sm sm' : ST) : Prop :=
  (agr [49, 60, 63] sc sc' ∧ (∀ j, j ∉ [6, 7, 8, 9] → sc'.1 49 j = sc.1 49 j) ∧ ∀ j, j < k → sc'.1 63 j = sc.1 63 j) ∧
  (agr [0, 13, 14] sm sm' ∧ (∀ j, j ∉ [13, 14, 15, 16, 26, 30, 31] → sm'.1 0 j = sm.1 0 j) ∧ ∀ j, j < 800 + k → sm'.1 13 j = sm.1 13 j ∧ sm'.1 14 j = sm.1 14 j)
theorem lfs.rf {k : Nat} {sc sm : ST} : lfs k sc sc sm sm := ⟨⟨agr.rf, fun _ _ => rfl, fun _ _ => rfl⟩, agr.rf, fun _ _ => rfl, fun _ _ => ⟨rfl, rfl⟩⟩
theorem lfs.tr {k k' : Nat} {a b c x y z : ST} (h : lfs k a b x y) (g : lfs k' b c y z) (hk : k ≤ k') : lfs k a c x z := by
  obtain ⟨⟨h1, h2, h3⟩, h4, h5, h6⟩ := h
  obtain ⟨⟨g1, g2, g3⟩, g4, g5, g6⟩ := g
  exact ⟨⟨h1.tr g1, fun j hj => (g2 j hj).trans (h2 j hj), fun j hj => (g3 j (by omega)).trans (h3 j hj)⟩, h4.tr g4, fun j hj => (g5 j hj).trans (h5 j hj), fun j hj => ⟨(g6 j (by omega)).1.trans (h6 j hj).1, (g6 j (by omega)).2.trans (h6 j hj).2⟩⟩
theorem fcm_lfs {k : Nat} {sc sc' sm sm' : ST} (p : fc sc sc') (q : fm sm sm') : lfs k sc sc' sm sm' :=
  ⟨⟨p.1.mono (by decide), p.2, fun j _ => by rw [(p.1 63 (by decide)).1]⟩, q.1.mono (by decide), fun j hj => q.2 j (by simp only [List.mem_cons, List.not_mem_nil, or_false, not_or] at hj ⊢; omega), fun j _ => by rw [(q.1 13 (by decide)).1, (q.1 14 (by decide)).1]; exact ⟨rfl, rfl⟩⟩
theorem tyR_snoc {o a : Nat → Int32} : ∀ (n i : Nat) (τ : List Nat), tyR o a (n + 1) i τ = (tyR o a n i τ).bind (fun t => tyS (o (i + n)) (a (i + n)) t)
  | 0, i, τ => by
    show (tyS (o i) (a i) τ).bind (fun t => some t) = tyS (o i) (a i) τ
    cases tyS (o i) (a i) τ <;> rfl
  | n + 1, i, τ => by
    show (tyS (o i) (a i) τ).bind (tyR o a (n + 1) (i + 1)) = ((tyS (o i) (a i) τ).bind (tyR o a n (i + 1))).bind (fun t => tyS (o (i + (n + 1))) (a (i + (n + 1))) t)
    cases h : tyS (o i) (a i) τ with
    | none => rfl
    | some t =>
      show tyR o a (n + 1) (i + 1) t = (tyR o a n (i + 1) t).bind _
      rw [tyR_snoc n (i + 1) t, show i + 1 + n = i + (n + 1) by omega]
theorem L0.mv {f : Nat → Nat} {n T : Nat} {Z : Nat → Nat → Nat} {a i j k : Nat} {τ : List Nat} {sc sm sc' sm' : ST} (h : L0 f n T Z a i k τ sc sm) (hs : SY f n T Z j sc' sm') (p : fc sc sc') (q : fm sm sm') : L0 f n T Z a j k τ sc' sm' := by
  obtain ⟨_, h2, h3⟩ := h
  refine ⟨hs, ?_, ?_⟩
  · unfold LC at h2 ⊢
    rw [(p.1 60 (by decide)).1, (p.1 63 (by decide)).1, q.2 26 (by decide), (q.1 13 (by decide)).1, (q.1 14 (by decide)).1]
    exact h2
  · unfold TY at h3 ⊢
    rw [(q.1 13 (by decide)).1, (q.1 14 (by decide)).1]
    exact h3
theorem em0 {f : Nat → Nat} {n T : Nat} {Z : Nat → Nat → Nat} {a i k : Nat} {τ τ' : List Nat} {sc sm : ST} {x o v : Int32} (h : L0 f n T Z a i k τ sc sm) (hk : k < 400) (hp : PR x o v) (ht : tyS o v τ = some τ') : ∃ sc' sm', C_X2_emit sc x = some sc' ∧ M_emits sm o v = some sm' ∧ L0 f n T Z a i (k + 1) τ' sc' sm' ∧ lfs k sc sc' sm sm' := by
  obtain ⟨h1, ⟨h2, h3, h4⟩, h5, h6⟩ := h
  have e1 : C_X2_emit sc x = some (ups (ups sc 63 k x) 60 2 (nI (k + 1))) := by
    unfold C_X2_emit
    rw [h2, if_neg (show ¬ (400 : Int32) ≤ nI k from nle_t (n := 400) hk (by decide)), Gs_n hk (by decide), Lt_e, ups_ne (by decide), h2, nI_1]
  have e2 : M_emits sm o v = some (ups (ups (ups sm 13 (800 + k) o) 14 (800 + k) v) 0 26 (nI (k + 1))) := by
    unfold M_emits
    rw [h3, show (800 : Int32) + nI k = nI (800 + k) from nI_add 800 k, Gs_n (by omega) (by decide), ups_ne (by decide), h3, show (800 : Int32) + nI k = nI (800 + k) from nI_add 800 k, Gs_n (by omega) (by decide), Lt_e, ups_ne (by decide), ups_ne (by decide), h3, nI_1]
  have c13 : ∀ j, (ups (ups (ups sm 13 (800 + k) o) 14 (800 + k) v) 0 26 (nI (k + 1))).1 13 j = if j = 800 + k then o else sm.1 13 j := fun j => by rw [ups_ne (by decide), ups_ne (by decide), rd1]
  have c14 : ∀ j, (ups (ups (ups sm 13 (800 + k) o) 14 (800 + k) v) 0 26 (nI (k + 1))).1 14 j = if j = 800 + k then v else sm.1 14 j := fun j => by rw [ups_ne (by decide), rd1, ups_ne (by decide)]
  refine ⟨_, _, e1, e2, ⟨(((h1.wc (by decide)).wc (by decide)).w (by decide)).w (by decide) |>.w0 (by decide), ⟨by rw [rd1, if_pos rfl], by rw [rd1, if_pos rfl], fun j hj => ?_⟩, by omega, ?_⟩, ⟨⟨(agr.rf.ups (by decide)).ups (by decide), fun j _ => by rw [ups_ne (by decide), ups_ne (by decide)], fun j hj => by rw [ups_ne (by decide), rd1, if_neg (by omega)]⟩, ((agr.rf.ups (by decide)).ups (by decide)).ups (by decide), fun j hj => ?_, fun j hj => ?_⟩⟩
  · rw [ups_ne (by decide), rd1, c13, c14]
    by_cases e : j = k
    · rw [if_pos e, if_pos (by omega), if_pos (by omega)]
      exact hp
    · rw [if_neg e, if_neg (by omega), if_neg (by omega)]
      exact h4 j (by omega)
  · have hn : k + 1 - a = k - a + 1 := by omega
    rw [hn, tyR_snoc, show a + (k - a) = k by omega]
    have hc : tyR (fun j => (ups (ups (ups sm 13 (800 + k) o) 14 (800 + k) v) 0 26 (nI (k + 1))).1 13 (800 + j)) (fun j => (ups (ups (ups sm 13 (800 + k) o) 14 (800 + k) v) 0 26 (nI (k + 1))).1 14 (800 + j)) (k - a) a [] = some τ := by
      refine (tyR_cong (fun j j1 j2 => ?_)).trans h6
      rw [c13, c14, if_neg (by omega), if_neg (by omega)]
      exact ⟨rfl, rfl⟩
    rw [hc]
    show tyS ((ups (ups (ups sm 13 (800 + k) o) 14 (800 + k) v) 0 26 (nI (k + 1))).1 13 (800 + k)) ((ups (ups (ups sm 13 (800 + k) o) 14 (800 + k) v) 0 26 (nI (k + 1))).1 14 (800 + k)) τ = some τ'
    rw [c13, c14, if_pos rfl, if_pos rfl]
    exact ht
  · rw [rd1, if_neg (by rintro rfl; exact hj (by decide)), ups_ne (by decide), ups_ne (by decide)]
  · rw [c13, c14, if_neg (by omega), if_neg (by omega)]
    exact ⟨rfl, rfl⟩
/-! the class behind a fault -/
def FZ (s : ST) : Prop := FM s ∧ ∃ k, k ≤ 400 ∧ s.1 60 2 = nI k
def ff (s s' : ST) : Prop := agr [60, 63] s s'
theorem FZ.mk {s s' : ST} (h : FM s) (a : agr [60, 63] s s') (k : ∃ k, k ≤ 400 ∧ s'.1 60 2 = nI k) : FZ s' := ⟨by unfold FM at h ⊢; rw [(a 49 (by decide)).1]; exact h, k⟩
theorem fz_emit {s : ST} (h : FZ s) (x : Int32) : ∃ s', C_X2_emit s x = some s' ∧ FZ s' ∧ ff s s' := by
  obtain ⟨h1, k, hk, e⟩ := h
  unfold C_X2_emit
  rw [e]
  by_cases q : k < 400
  · rw [if_neg (show ¬ (400 : Int32) ≤ nI k from nle_t (n := 400) q (by decide)), Gs_n q (by decide), Lt_e]
    exact ⟨_, rfl, FZ.mk h1 ((agr.rf.ups (by decide)).ups (by decide)) ⟨k + 1, by omega, by rw [rd1, if_pos rfl, ups_ne (by decide), e, nI_1]⟩, (agr.rf.ups (by decide)).ups (by decide)⟩
  · rw [if_pos (show (400 : Int32) ≤ nI k by rw [show (400 : Int32) = nI 400 from rfl, nI_leI (by decide) (by omega)]; omega)]
    exact ⟨s, rfl, ⟨h1, k, hk, e⟩, agr.rf⟩
theorem fz_unit {s : ST} (h : FZ s) : ∃ s', C_X3_readUnit s = some s' ∧ FZ s' ∧ ff s s' := by
  unfold C_X3_readUnit
  refine lo2 (Q := fun o => ∃ s', o = some s' ∧ FZ s' ∧ ff s s') (I := fun m a s1 => ∃ j, j + m = 8 ∧ a = nI j ∧ s1 = s) ?_ FU 8 _ _ (by unfold FU; omega) ⟨0, by omega, rfl, rfl⟩
  rintro m rf a s1 ⟨j, hm, rfl, rfl⟩ ih
  cases m with
  | zero =>
    have hj : j = 8 := by omega
    subst hj
    obtain ⟨s', e1, e2, e3⟩ := fz_emit h 0
    rw [if_pos (show (8 : Int32) ≤ nI 8 from le_t (by decide)), fm_needNumber h.1, Bd_some]
    (try dsimp only)
    rw [e1, Bd_some]
    exact ⟨s', rfl, e2, e3⟩
  | succ m =>
    rw [if_neg (show ¬ (8 : Int32) ≤ nI j from nle_t (n := 8) (by omega) (by decide)), Lt_e, fm_takesWord h.1, Bd_some]
    (try dsimp only)
    rw [if_pos i00, nI_1]
    exact ih m _ _ (Nat.lt_succ_self m) ⟨j + 1, by omega, rfl, rfl⟩
theorem fz_sumloop {s : ST} {w c : Int32} {N : Nat} (h : FZ s) (hN : 0 < N) : ∃ s', lpK3 (C := ST) (fun (rec1 : Int32 → Int32 → ST → Option (ST)) (a1 : Int32) (a2 : Int32) (s2 : ST) => if (400 : Int32) ≤ a2 then (some s2) else (Bd (C_X5_takesSign s2 (42 : Int32)) fun y1 => Lt (fun (a3 : Int32) (s3 : ST) => (rec1 a3 (a2 + (1 : Int32)) s3 : Option (ST))) fun j1 => if y1.1 = 0 then (Bd (C_X5_takesSign y1.2 (47 : Int32)) fun y2 => if y2.1 = 0 then (Lt (fun (s4 : ST) => (Bd (C_X5_takesSign s4 (43 : Int32)) fun y3 => Lt (fun (a4 : Int32) (s5 : ST) => (if a4 = 0 then (some s5) else (Bd (C_X3_readUnit s5) fun s6 => j1 a4 s6) : Option (ST))) fun j3 => if y3.1 = 0 then (Bd (C_X5_takesSign y3.2 (45 : Int32)) fun y4 => if y4.1 = 0 then (j3 (0 : Int32) y4.2) else (j3 (-10 : Int32) y4.2)) else (j3 (-9 : Int32) y3.2) : Option (ST))) fun j2 => if a1 = 0 then (j2 y2.2) else (Bd (C_X2_emit y2.2 a1) fun s7 => j2 s7)) else (Bd (C_X5_needNumber y2.2 (1 : Int32) (9999 : Int32)) fun y5 => Bd (C_X2_emit y5.2 y5.1) fun s8 => Bd (C_X2_emit s8 (-12 : Int32)) fun s9 => j1 a1 s9)) else (Bd (C_X3_readUnit y1.2) fun s10 => Bd (C_X2_emit s10 (-11 : Int32)) fun s11 => j1 a1 s11))) N w c s = some s' ∧ FZ s' ∧ ff s s' := by
  obtain ⟨N', rfl⟩ : ∃ N', N = N' + 1 := ⟨N - 1, by omega⟩
  rw [lp3_s]
  (try dsimp only)
  by_cases q : (400 : Int32) ≤ c
  · rw [if_pos q]
    exact ⟨s, rfl, h, agr.rf⟩
  rw [if_neg q, fm_takesSign h.1, Bd_some, Lt_e]
  (try dsimp only)
  rw [if_pos i00, fm_takesSign h.1, Bd_some]
  (try dsimp only)
  rw [if_pos i00, Lt_e]
  (try dsimp only)
  by_cases g : w = 0
  · rw [if_pos g, fm_takesSign h.1, Bd_some, Lt_e]
    (try dsimp only)
    rw [if_pos i00, fm_takesSign h.1, Bd_some]
    (try dsimp only)
    rw [if_pos i00, if_pos i00]
    exact ⟨s, rfl, h, agr.rf⟩
  · obtain ⟨s4, e1, e2, e3⟩ := fz_emit h w
    rw [if_neg g, e1, Bd_some, fm_takesSign e2.1, Bd_some, Lt_e]
    (try dsimp only)
    rw [if_pos i00, fm_takesSign e2.1, Bd_some]
    (try dsimp only)
    rw [if_pos i00, if_pos i00]
    exact ⟨s4, rfl, e2, e3⟩
theorem fz_sum {s : ST} (h : FZ s) : ∃ s', C_X3_readSum s = some s' ∧ FZ s' ∧ ff s s' := by
  unfold C_X3_readSum
  obtain ⟨s1, e1, e2, e3⟩ := fz_unit h
  rw [e1, Bd_some]
  obtain ⟨s2, f1, f2, f3⟩ := fz_sumloop (w := 0) (c := 0) (N := FU) e2 (by unfold FU; omega)
  exact ⟨s2, f1, f2, e3.tr f3⟩
theorem vw : ∀ j, j < 8 → C_X3_valueWord (fun _ _ => 0, fun _ _ => 0) (nI j) < 30 ∧ wn (C_X3_valueWord (fun _ _ => 0, fun _ _ => 0) (nI j)) = 6 + j := by decide +kernel
theorem tw_no {f : Nat → Nat} {n T : Nat} {Z : Nat → Nat → Nat} {i x : Nat} {sc sm : ST} (h : SY f n T Z i sc sm) (hx : x < 30) (g : ¬ (Z 3 i = 2 ∧ Z 4 i = wn x)) : C_X5_takesWord sc x = some (0, sc) := by
  rcases sy_takesWord h hx with ⟨_, e⟩ | ⟨_, _, q, _⟩
  · exact e
  · exact absurd q g
theorem tw_yes {f : Nat → Nat} {n T : Nat} {Z : Nat → Nat → Nat} {i x : Nat} {sc sm c2 : ST} (h : SY f n T Z i sc sm) (hx : x < 30) (g : Z 3 i = 2 ∧ Z 4 i = wn x) (e : C_X5_advance sc = some c2) : C_X5_takesWord sc x = some (1, c2) := by
  unfold C_X5_takesWord
  rw [sy_word h hx, Bd_some, if_pos g, if_neg i10, e, Bd_some, ia1]
theorem ts_no {f : Nat → Nat} {n T : Nat} {Z : Nat → Nat → Nat} {i c : Nat} {sc sm : ST} (h : SY f n T Z i sc sm) (hc : mk c = true) (hc2 : c < 128) (g : ¬ (Z 3 i = 4 ∧ Z 4 i = c)) : C_X5_takesSign sc (nI c) = some (0, sc) := by
  rcases sy_takesSign h hc hc2 with ⟨_, e⟩ | ⟨_, _, q, _⟩
  · exact e
  · exact absurd q g
theorem ts_yes {f : Nat → Nat} {n T : Nat} {Z : Nat → Nat → Nat} {i c : Nat} {sc sm c2 : ST} (h : SY f n T Z i sc sm) (hc : mk c = true) (hc2 : c < 128) (g : Z 3 i = 4 ∧ Z 4 i = c) (e : C_X5_advance sc = some c2) : C_X5_takesSign sc (nI c) = some (1, c2) := by
  unfold C_X5_takesSign
  rw [sy_sign h hc hc2, Bd_some, if_pos g, if_neg i10, e, Bd_some, ia1]
theorem m_canAsk (s : ST) : ∀ v, v < 30 → M_canAsk s (nI v) = if 6 ≤ v ∧ v ≤ 13 then 1 else 0 := by
  have h : ∀ v, v < 30 → M_canAsk (fun _ _ => 0, fun _ _ => 0) (nI v) = if 6 ≤ v ∧ v ≤ 13 then 1 else 0 := by decide +kernel
  exact h
theorem l_unit {f : Nat → Nat} {n T : Nat} {Z : Nat → Nat → Nat} {a i k p : Nat} {τ : List Nat} {sc sm : ST} (h : L0 f n T Z a i k τ sc sm) (hp : k + p ≤ i) (hd : τ.length < 60) : (∃ t sc' sm', C_X3_readUnit sc = some sc' ∧ M_readUnit sm = some (0, sm') ∧ L0 f n T Z a (i + 1) (k + 1) (t :: τ) sc' sm' ∧ lfs k sc sc' sm sm') ∨ (∃ sc' sm', C_X3_readUnit sc = some sc' ∧ M_readUnit sm = some (-1, sm') ∧ FS sc' sm' ∧ FZ sc' ∧ lfs k sc sc' sm sm') := by
  have hs := h.1
  have tk := hs.tk
  have hi := hs.i400
  have t2 : sm.1 0 15 = (2 : Int32) ↔ Z 3 i = 2 := sm_tok hs (c := 2) (by decide)
  have t3 : sm.1 0 15 = (3 : Int32) ↔ Z 3 i = 3 := sm_tok hs (c := 3) (by decide)
  have hk1 : ¬ Z 3 i = 0 → k < 400 := fun g => by
    have q1 := hs.row.2
    have q2 := hs.2.2.1
    have q3 := hs.1.2.2.1
    omega
  by_cases ga : Z 3 i = 2 ∧ 6 ≤ Z 4 i ∧ Z 4 i ≤ 13
  · -- a value
    obtain ⟨v, hv⟩ : ∃ v, Z 4 i = 6 + v := ⟨Z 4 i - 6, by omega⟩
    have hv8 : v < 8 := by omega
    have e16 := hs.2.2.2.2.2.2.2.2.2.2 (by omega)
    obtain ⟨c1, m1, x1, x2, x3, x4⟩ := em0 (x := -1 - nI v) (o := 1) (v := nI v) h (hk1 (by omega)) (Or.inr (Or.inl ⟨rfl, v, hv8, rfl, rfl⟩)) (show tyS 1 (nI v) τ = some (0 :: τ) by unfold tyS; rw [if_neg (by decide), if_pos rfl, if_pos hd])
    obtain ⟨_, m2, _, y2, y3, _, y5⟩ := sy_adv (SY.w (c := 14) (k := 800 + k) (x := nI v) (SY.w (c := 13) (k := 800 + k) (x := 1) hs (by decide)) (by decide)) (by omega)
    have hM : M_readUnit sm = Bd (M_emits sm 1 (nI v)) fun s1 => Bd (M_reads s1) fun s2 => some (0, s2) := by
      unfold M_readUnit
      have hv' := (tk.2.2.1 ga.1).2
      simp only [Lt_n, t2.mpr ga.1, e16, m_canAsk sm _ hv', if_pos ga.2, i10, ↓reduceIte]
      rw [hv, show (6 : Int32) = nI 6 from rfl, nI_sub (by omega), show 6 + v - 6 = v by omega]
    obtain ⟨c2, m3, z1, z2, z3, z4, z5⟩ := sy_adv (sc := sc) (sm := m1) (f := f) (n := n) (T := T) (Z := Z) (i := i) (by
      have q := x3.1
      have e := x2
      unfold M_emits at e
      have h3 := h.2.1.2.1
      rw [h3, show (800 : Int32) + nI k = nI (800 + k) from nI_add 800 k, Gs_n (by have := hk1 (by omega); omega) (by decide), ups_ne (by decide), h3, show (800 : Int32) + nI k = nI (800 + k) from nI_add 800 k, Gs_n (by have := hk1 (by omega); omega) (by decide), Lt_e] at e
      cases e
      exact ((hs.w (by decide)).w (by decide)).w0 (by decide)) (by omega)
    obtain ⟨c3, m4, u1, u2, u3, u4⟩ : ∃ c3 m4, C_X2_emit c2 (-1 - nI v) = some c3 ∧ m4 = m3 ∧ L0 f n T Z a (i + 1) (k + 1) (0 :: τ) c3 m4 ∧ lfs k sc c3 sm m4 := by
      have e60 : c2.1 60 2 = nI k := by rw [(z4.1 60 (by decide)).1]; exact h.2.1.1
      have ec : C_X2_emit c2 (-1 - nI v) = some (ups (ups c2 63 k (-1 - nI v)) 60 2 (nI (k + 1))) := by
        unfold C_X2_emit
        rw [e60, if_neg (show ¬ (400 : Int32) ≤ nI k from nle_t (n := 400) (hk1 (by omega)) (by decide)), Gs_n (hk1 (by omega)) (by decide), Lt_e, ups_ne (by decide), e60, nI_1]
      have eo : C_X2_emit sc (-1 - nI v) = some (ups (ups sc 63 k (-1 - nI v)) 60 2 (nI (k + 1))) := by
        unfold C_X2_emit
        rw [h.2.1.1, if_neg (show ¬ (400 : Int32) ≤ nI k from nle_t (n := 400) (hk1 (by omega)) (by decide)), Gs_n (hk1 (by omega)) (by decide), Lt_e, ups_ne (by decide), h.2.1.1, nI_1]
      rw [eo] at x1
      cases x1
      refine ⟨_, m3, ec, rfl, ⟨(z3.wc (by decide)).wc (by decide), ?_, ?_⟩, ?_⟩
      · obtain ⟨_, ⟨l1, l2, l3⟩, _⟩ := x3
        refine ⟨by rw [rd1, if_pos rfl], by rw [z5.2 26 (by decide)]; exact l2, fun j hj => ?_⟩
        have := l3 j hj
        rw [ups_ne (by decide), rd1] at this
        rw [ups_ne (by decide), rd1, (z4.1 63 (by decide)).1, (z5.1 13 (by decide)).1, (z5.1 14 (by decide)).1]
        exact this
      · obtain ⟨_, _, l4⟩ := x3
        unfold TY at l4 ⊢
        rw [(z5.1 13 (by decide)).1, (z5.1 14 (by decide)).1]
        exact l4
      · have g1 : lfs k sc c2 m1 m3 := fcm_lfs z4 z5
        refine ⟨⟨(g1.1.1.ups (by decide)).ups (by decide), fun j hj => by rw [ups_ne (by decide), ups_ne (by decide)]; exact g1.1.2.1 j hj, fun j hj => by rw [ups_ne (by decide), rd1, if_neg (by omega)]; exact g1.1.2.2 j hj⟩, x4.2.1.tr g1.2.1, fun j hj => (g1.2.2.1 j hj).trans (x4.2.2.1 j hj), fun j hj => ⟨(g1.2.2.2 j hj).1.trans (x4.2.2.2 j hj).1, (g1.2.2.2 j hj).2.trans (x4.2.2.2 j hj).2⟩⟩
    subst u2
    refine Or.inl ⟨0, c3, m4, ?_, ?_, u3, u4⟩
    · unfold C_X3_readUnit
      refine lo2 (Q := fun o => o = some c3) (I := fun m b s1 => ∃ j, j + m = v ∧ b = nI j ∧ s1 = sc) ?_ FU v _ _ (by unfold FU; omega) ⟨0, by omega, rfl, rfl⟩
      rintro m rf b s1 ⟨j, hm, rfl, rfl⟩ ih
      have vj := vw j (by omega)
      rw [if_neg (show ¬ (8 : Int32) ≤ nI j from nle_t (n := 8) (by omega) (by decide)), Lt_e, show C_X3_valueWord s1 (nI j) = C_X3_valueWord (fun _ _ => 0, fun _ _ => 0) (nI j) from rfl]
      cases m with
      | zero =>
        have hj : j = v := by omega
        subst hj
        rw [tw_yes hs vj.1 ⟨ga.1, hv.trans vj.2.symm⟩ z1, Bd_some]
        (try dsimp only)
        rw [if_neg i10, u1, Bd_some]
      | succ m =>
        rw [tw_no hs vj.1 (fun q => by have := q.2; omega), Bd_some]
        (try dsimp only)
        rw [if_pos i00, nI_1]
        exact ih m _ _ (Nat.lt_succ_self m) ⟨j + 1, by omega, rfl, rfl⟩
    · rw [hM, x2, Bd_some, z2, Bd_some]
  · -- no value: the class comes to the number
    have cN : ∀ r, (Bd (C_X5_needNumber sc (0 : Int32) (9999 : Int32)) fun y1 => Bd (C_X2_emit y1.2 y1.1) fun s2 => some s2) = some r → C_X3_readUnit sc = some r := fun r hr => by
      unfold C_X3_readUnit
      refine lo2 (Q := fun o => o = some r) (I := fun m b s1 => ∃ j, j + m = 8 ∧ b = nI j ∧ s1 = sc) ?_ FU 8 _ _ (by unfold FU; omega) ⟨0, by omega, rfl, rfl⟩
      rintro m rf b s1 ⟨j, hm, rfl, rfl⟩ ih
      cases m with
      | zero =>
        have hj : j = 8 := by omega
        subst hj
        rw [if_pos (show (8 : Int32) ≤ nI 8 from le_t (by decide))]
        exact hr
      | succ m =>
        have vj := vw j (by omega)
        rw [if_neg (show ¬ (8 : Int32) ≤ nI j from nle_t (n := 8) (by omega) (by decide)), Lt_e, show C_X3_valueWord s1 (nI j) = C_X3_valueWord (fun _ _ => 0, fun _ _ => 0) (nI j) from rfl]
        rw [tw_no hs vj.1 (fun q => ga ⟨q.1, by have := q.2; omega, by have := q.2; omega⟩), Bd_some]
        (try dsimp only)
        rw [if_pos i00, nI_1]
        exact ih m _ _ (Nat.lt_succ_self m) ⟨j + 1, by omega, rfl, rfl⟩
    -- and the reference too
    have mN : M_readUnit sm = if sm.1 0 15 = (3 : Int32) then (Bd (M_emits sm 0 (sm.1 0 16)) fun s1 => Bd (M_reads s1) fun s2 => some ((0 : Int32), s2)) else some ((M_errs sm 1).1, (M_errs sm 1).2) := by
      unfold M_readUnit
      by_cases g2 : Z 3 i = 2
      · have e16 := hs.2.2.2.2.2.2.2.2.2.2 (by omega)
        have hv := (tk.2.2.1 g2).2
        have nv : ¬ (6 ≤ Z 4 i ∧ Z 4 i ≤ 13) := fun q => ga ⟨g2, q⟩
        simp only [Lt_n, t2.mpr g2, e16, m_canAsk sm _ hv, if_neg nv, ↓reduceIte]
      · have n2 : ¬ sm.1 0 15 = 2 := fun q => g2 (t2.mp q)
        simp only [Lt_n, if_neg n2, ↓reduceIte]
    rcases sy_needNumber hs 0 9999 with ⟨v, c1, m1, hv, gv, _, _, x1, _, x3, x4, x5, x6⟩ | ⟨c1, m1, x1, x2, x3, x4, x5⟩
    · have e16 := hs.2.2.2.2.2.2.2.2.2.2 (by omega)
      rw [gv.2] at e16
      have hk := hk1 (by omega)
      obtain ⟨sx, m2, y1, y2, y3, y4⟩ := em0 (x := nI v) (o := 0) (v := nI v) h hk (Or.inl ⟨rfl, v, hv, rfl, rfl⟩) (show tyS 0 (nI v) τ = some ((if nI v = 0 then 0 else 2) :: τ) by unfold tyS; rw [if_pos rfl, if_pos hd])
      have em2 := y2
      have h3 := h.2.1.2.1
      unfold M_emits at em2
      rw [h3, show (800 : Int32) + nI k = nI (800 + k) from nI_add 800 k, Gs_n (by omega) (by decide), ups_ne (by decide), h3, show (800 : Int32) + nI k = nI (800 + k) from nI_add 800 k, Gs_n (by omega) (by decide), Lt_e] at em2
      have hs2 : SY f n T Z i sc m2 := by
        cases em2
        exact ((hs.w (by decide)).w (by decide)).w0 (by decide)
      obtain ⟨c2, m3, z1, z2, z3, z4, z5⟩ := sy_adv hs2 (by omega)
      have ec1 : c1 = c2 := by
        unfold C_X5_needNumber at x1
        rw [sy_peek hs, Bd_some, if_pos gv.1, gv.2, if_neg (n_nI_m1 (by omega)), Lt_e, if_neg (nI_pos (by omega)), if_pos (show nI v ≤ (9999 : Int32) from (n_le hv (by decide)).mpr hv), z1, Bd_some] at x1
        cases x1
        rfl
      subst ec1
      have e60 : c1.1 60 2 = nI k := by rw [(z4.1 60 (by decide)).1]; exact h.2.1.1
      have ec : C_X2_emit c1 (nI v) = some (ups (ups c1 63 k (nI v)) 60 2 (nI (k + 1))) := by
        unfold C_X2_emit
        rw [e60, if_neg (show ¬ (400 : Int32) ≤ nI k from nle_t (n := 400) hk (by decide)), Gs_n hk (by decide), Lt_e, ups_ne (by decide), e60, nI_1]
      have eo : C_X2_emit sc (nI v) = some (ups (ups sc 63 k (nI v)) 60 2 (nI (k + 1))) := by
        unfold C_X2_emit
        rw [h.2.1.1, if_neg (show ¬ (400 : Int32) ≤ nI k from nle_t (n := 400) hk (by decide)), Gs_n hk (by decide), Lt_e, ups_ne (by decide), h.2.1.1, nI_1]
      rw [eo] at y1
      cases y1
      refine Or.inl ⟨if nI v = 0 then 0 else 2, _, m3, cN _ (by rw [x1, Bd_some]; (try dsimp only); rw [ec, Bd_some]), ?_, ⟨(z3.wc (by decide)).wc (by decide), ?_, ?_⟩, ?_⟩
      · rw [mN, if_pos (t3.mpr gv.1), e16, y2, Bd_some, z2, Bd_some]
      · obtain ⟨_, ⟨l1, l2, l3⟩, _⟩ := y3
        refine ⟨by rw [rd1, if_pos rfl], by rw [z5.2 26 (by decide)]; exact l2, fun j hj => ?_⟩
        have := l3 j hj
        rw [ups_ne (by decide), rd1] at this
        rw [ups_ne (by decide), rd1, (z4.1 63 (by decide)).1, (z5.1 13 (by decide)).1, (z5.1 14 (by decide)).1]
        exact this
      · obtain ⟨_, _, l4⟩ := y3
        unfold TY at l4 ⊢
        rw [(z5.1 13 (by decide)).1, (z5.1 14 (by decide)).1]
        exact l4
      · have g1 : lfs k sc c1 m2 m3 := fcm_lfs z4 z5
        refine ⟨⟨(g1.1.1.ups (by decide)).ups (by decide), fun j hj => by rw [ups_ne (by decide), ups_ne (by decide)]; exact g1.1.2.1 j hj, fun j hj => by rw [ups_ne (by decide), rd1, if_neg (by omega)]; exact g1.1.2.2 j hj⟩, y4.2.1.tr g1.2.1, fun j hj => (g1.2.2.1 j hj).trans (y4.2.2.1 j hj), fun j hj => ⟨(g1.2.2.2 j hj).1.trans (y4.2.2.2 j hj).1, (g1.2.2.2 j hj).2.trans (y4.2.2.2 j hj).2⟩⟩
    · have hz : FZ c1 := ⟨x3.m, k, by omega, by rw [(x4.1 60 (by decide)).1]; exact h.2.1.1⟩
      obtain ⟨c2, z1, z2, z3⟩ := fz_emit hz 0
      have n3 : ¬ sm.1 0 15 = (3 : Int32) := fun q => by
        have g3 := t3.mp q
        have e16 := hs.2.2.2.2.2.2.2.2.2.2 (by omega)
        have hv := (tk.2.2.2.1 g3).2
        unfold C_X5_needNumber at x1
        rw [sy_peek hs, Bd_some, if_pos g3, if_neg (n_nI_m1 (by omega)), Lt_e, if_neg (nI_pos (by omega)), if_pos (show nI (Z 4 i) ≤ (9999 : Int32) from (n_le hv (by decide)).mpr hv)] at x1
        obtain ⟨c9, m9, w1, _, w3, _⟩ := sy_adv hs (by omega)
        rw [w1, Bd_some] at x1
        have ec : c9 = c1 := congrArg Prod.snd (Option.some.inj x1)
        exact x3.1 (ec ▸ w3.2.2.2.2.2.1)
      have me : M_readNumber sm 0 9999 = some ((M_errs sm 1).1, (M_errs sm 1).2) := by
        unfold M_readNumber
        rw [if_neg n3, Lt_e]
      refine Or.inr ⟨c2, m1, cN _ (by rw [x1, Bd_some]; (try dsimp only); rw [z1, Bd_some]), ?_, ?_, z2, ?_⟩
      · rw [mN, if_neg n3, ← me, x2]
      · obtain ⟨a1, a2, a3, a4⟩ := x3
        unfold FS
        rw [(z3 49 (by decide)).1]
        exact ⟨a1, a2, a3, a4⟩
      · have g1 : lfs k sc c1 sm m1 := fcm_lfs x4 x5
        have e2 := z1
        unfold C_X2_emit at e2
        obtain ⟨_, k9, hk9, ek9⟩ := hz
        have ek : c1.1 60 2 = nI k := by rw [(x4.1 60 (by decide)).1]; exact h.2.1.1
        rw [ek] at e2
        by_cases qk : k < 400
        · rw [if_neg (show ¬ (400 : Int32) ≤ nI k from nle_t (n := 400) qk (by decide)), Gs_n qk (by decide), Lt_e] at e2
          cases e2
          exact ⟨⟨(g1.1.1.ups (by decide)).ups (by decide), fun j hj => by rw [ups_ne (by decide), ups_ne (by decide)]; exact g1.1.2.1 j hj, fun j hj => by rw [ups_ne (by decide), rd1, if_neg (by omega)]; exact g1.1.2.2 j hj⟩, g1.2⟩
        · rw [if_pos (show (400 : Int32) ≤ nI k by rw [show (400 : Int32) = nI 400 from rfl, nI_leI (by decide) (by omega)]; omega)] at e2
          cases e2
          exact g1
