/-! # stage 2: a plan is read -/
theorem sy_wind {f : Nat → Nat} {n T : Nat} {Z : Nat → Nat → Nat} {i w : Nat} {sc sm : ST} (h : SY f n T Z i sc sm) (g : Z 3 i = 2) (hw : w < 4) (hv : Z 4 i = 26 + w) : ∃ sc' sm', C_X3_needWind sc = some (nI w, sc') ∧ M_reads sm = some sm' ∧ SY f n T Z (i + 1) sc' sm' ∧ fc sc sc' ∧ fm sm sm' := by
  unfold C_X3_needWind
  have no : ∀ x, x < 30 → wn x ≠ 26 + w → C_X5_takesWord sc x = some (0, sc) := fun x hx hne => by
    rcases sy_takesWord h hx with ⟨_, e⟩ | ⟨_, _, q, _⟩
    · exact e
    · exact absurd (q.2.symm.trans hv) hne
  have yes : ∀ x, x < 30 → wn x = 26 + w → ∃ sc' sm', C_X5_takesWord sc x = some (1, sc') ∧ M_reads sm = some sm' ∧ SY f n T Z (i + 1) sc' sm' ∧ fc sc sc' ∧ fm sm sm' := fun x hx he => by
    rcases sy_takesWord h hx with ⟨q, _⟩ | ⟨sc', sm', _, e, e2, e3, e4, e5⟩
    · exact absurd ⟨g, hv.trans he.symm⟩ q
    · exact ⟨sc', sm', e, e2, e3, e4, e5⟩
  rcases (by omega : w = 0 ∨ w = 1 ∨ w = 2 ∨ w = 3) with rfl | rfl | rfl | rfl
  · obtain ⟨sc', sm', e1, e2, e3⟩ := yes 13 (by decide) rfl
    rw [e1, Bd_some]
    (try dsimp only)
    rw [if_neg i10]
    exact ⟨sc', sm', rfl, e2, e3⟩
  · obtain ⟨sc', sm', e1, e2, e3⟩ := yes 14 (by decide) rfl
    rw [no 13 (by decide) (by decide), Bd_some]
    (try dsimp only)
    rw [if_pos i00, e1, Bd_some]
    (try dsimp only)
    rw [if_neg i10]
    exact ⟨sc', sm', rfl, e2, e3⟩
  · obtain ⟨sc', sm', e1, e2, e3⟩ := yes 15 (by decide) rfl
    rw [no 13 (by decide) (by decide), Bd_some]
    (try dsimp only)
    rw [if_pos i00, no 14 (by decide) (by decide), Bd_some]
    (try dsimp only)
    rw [if_pos i00, e1, Bd_some]
    (try dsimp only)
    rw [if_neg i10]
    exact ⟨sc', sm', rfl, e2, e3⟩
  · rw [no 13 (by decide) (by decide), Bd_some]
    (try dsimp only)
    rw [if_pos i00, no 14 (by decide) (by decide), Bd_some]
    (try dsimp only)
    rw [if_pos i00, no 15 (by decide) (by decide), Bd_some]
    (try dsimp only)
    rw [if_pos i00]
    obtain ⟨sc', sm', e1, e2, e3⟩ := yes 16 (by decide) rfl
    unfold C_X5_needWord
    rw [e1, Bd_some]
    (try dsimp only)
    rw [if_neg i10, Bd_some]
    exact ⟨sc', sm', rfl, e2, e3⟩
theorem sy_nowind {f : Nat → Nat} {n T : Nat} {Z : Nat → Nat → Nat} {i : Nat} {sc sm : ST} (h : SY f n T Z i sc sm) (g : ¬ (Z 3 i = 2 ∧ 26 ≤ Z 4 i ∧ Z 4 i ≤ 29)) : ∃ sc' sm', C_X3_needWind sc = some (3, sc') ∧ M_errs sm 1 = (-1, sm') ∧ FS sc' sm' ∧ fc sc sc' ∧ fm sm sm' := by
  obtain ⟨sc', sm', b1, b2, b3, b4, b5⟩ := sy_fail h 1 k1
  have no : ∀ x, x < 30 → 26 ≤ wn x → wn x ≤ 29 → C_X5_takesWord sc x = some (0, sc) := fun x hx h1 h2 => by
    rcases sy_takesWord h hx with ⟨_, e⟩ | ⟨_, _, q, _⟩
    · exact e
    · exact absurd ⟨q.1, by omega, by omega⟩ g
  unfold C_X3_needWind
  rw [no 13 (by decide) (by decide) (by decide), Bd_some]
  (try dsimp only)
  rw [if_pos i00, no 14 (by decide) (by decide) (by decide), Bd_some]
  (try dsimp only)
  rw [if_pos i00, no 15 (by decide) (by decide) (by decide), Bd_some]
  (try dsimp only)
  rw [if_pos i00]
  unfold C_X5_needWord
  rw [no 16 (by decide) (by decide) (by decide), Bd_some]
  (try dsimp only)
  rw [if_pos i00, b1, Bd_some, Bd_some]
  exact ⟨sc', sm', rfl, b2, b3, b4, b5⟩
def DPl (W H nk w : Nat) (sc sm : ST) : Prop :=
  w ≤ 16 ∧ sc.1 68 0 = nI 16 ∧ sc.1 68 2 = nI w ∧ nk ≤ 8 ∧ sc.1 9 2 = nI nk ∧ sm.1 0 34 = nI nk ∧ WH W H sc sm ∧
  (∀ r, r < w → ∃ d, d ≤ 999 ∧ sc.1 69 (4 * r) = nI d ∧ sm.1 19 (64 + 4 * r) = nI d ∧ ((∃ n c, n < nk ∧ c < 64 ∧ cl W H c ∧ sc.1 69 (4 * r + 1) = 0 ∧ sm.1 19 (64 + 4 * r + 1) = 0 ∧ sc.1 69 (4 * r + 2) = nI n ∧ sc.1 69 (4 * r + 3) = nI c ∧ sm.1 19 (64 + 4 * r + 2) = nI n ∧ sm.1 19 (64 + 4 * r + 3) = nI c) ∨ (∃ c, c < 64 ∧ cl W H c ∧ sc.1 69 (4 * r + 1) = 1 ∧ sm.1 19 (64 + 4 * r + 1) = 1 ∧ sc.1 69 (4 * r + 3) = nI c ∧ sm.1 19 (64 + 4 * r + 3) = nI c) ∨ (∃ v, v < 4 ∧ sc.1 69 (4 * r + 1) = 2 ∧ sm.1 19 (64 + 4 * r + 1) = 2 ∧ sc.1 69 (4 * r + 2) = nI v ∧ sm.1 19 (64 + 4 * r + 3) = nI v)))
/-- a deed -/
def DE (W H nk : Nat) (a1 a2 a3 x1 x2 x3 : Int32) : Prop :=
  (∃ n c, n < nk ∧ c < 64 ∧ cl W H c ∧ a1 = 0 ∧ x1 = 0 ∧ a2 = nI n ∧ a3 = nI c ∧ x2 = nI n ∧ x3 = nI c) ∨ (∃ c, c < 64 ∧ cl W H c ∧ a1 = 1 ∧ x1 = 1 ∧ a3 = nI c ∧ x3 = nI c) ∨ (∃ v, v < 4 ∧ a1 = 2 ∧ x1 = 2 ∧ a2 = nI v ∧ x3 = nI v)
theorem p_deed {f : Nat → Nat} {n T : Nat} {Z : Nat → Nat → Nat} {i j w W H nk d : Nat} {sc sm s5 s2 : ST} {a1 a2 a3 : Int32} (D : DPl W H nk w sc sm) (hw : w < 16) (hij : i < j) (h : SY f n T Z j s5 s2) (p : fc sc s5) (q : gm sm s2) (hd : d ≤ 999) (hx : ∀ k, k < 64 + 4 * w → s2.1 19 k = sm.1 19 k) (h0 : s2.1 19 (64 + 4 * w) = nI d) (hde : DE W H nk a1 a2 a3 (s2.1 19 (64 + 4 * w + 1)) (s2.1 19 (64 + 4 * w + 2)) (s2.1 19 (64 + 4 * w + 3))) : (∃ j sc' sm', i < j ∧ (Bd (C_X5_needSign s5 (59 : Int32)) fun s2 => if (s2.1 49 8) = 0 then (Bd (C_X4_add s2 68 (nI d) a1 a2 a3) fun s3 => some s3) else (some s2)) = some sc' ∧ M_readMark s2 59 = some (0, sm') ∧ SY f n T Z j sc' sm' ∧ DPl W H nk (w + 1) sc' sm' ∧ gc sc sc' ∧ gm sm sm') ∨ (∃ sc' sm', (Bd (C_X5_needSign s5 (59 : Int32)) fun s2 => if (s2.1 49 8) = 0 then (Bd (C_X4_add s2 68 (nI d) a1 a2 a3) fun s3 => some s3) else (some s2)) = some sc' ∧ M_readMark s2 59 = some (-1, sm') ∧ FS sc' sm' ∧ gc sc sc' ∧ gm sm sm') := by
  obtain ⟨D1, D2, D3, D4, D5, D6, D7, D8⟩ := D
  rcases (sy_needSign h (c := 59) (by decide) (by decide)).symm with ⟨s9, m9, f1, f2, f3, p9, q9⟩ | ⟨s9, m9, _, f1, f2, h9, p9, q9⟩
  · rw [show C_X5_needSign s5 59 = some s9 from f1, Bd_some, if_neg f3.1]
    exact Or.inr ⟨s9, m9, rfl, f2, f3, (p.tr p9).g, q.tr q9.g⟩
  have r68 : s9.1 68 = sc.1 68 := by rw [(p9.1 68 (by decide)).1, (p.1 68 (by decide)).1]
  have r69 : s9.1 69 = sc.1 69 := by rw [(p9.1 69 (by decide)).1, (p.1 69 (by decide)).1]
  have m19 : m9.1 19 = s2.1 19 := (q9.1 19 (by decide)).1
  have gE : gm sm m9 := q.tr q9.g
  have gC := (p.tr p9).g.tr (gc.add (s := s9) (b := 68) (k1 := 4 * w) (k2 := 4 * w + 1) (k3 := 4 * w + 2) (k4 := 4 * w + 3) (x := nI d) (y := a1) (z := a2) (w := a3) (u := nI (w + 1)) (by decide))
  rw [show C_X5_needSign s5 59 = some s9 from f1, Bd_some, if_pos h9.2.2.2.2.2.1, c_add (b := 68) (r := w) (M := 16) (by rw [r68]; exact D3) (by rw [r68]; exact D2) hw (by decide) rfl, Bd_some]
  refine Or.inl ⟨j + 1, _, m9, by omega, rfl, f2, ((((h9.wc (c := 69) (k := 4 * w) (x := nI d) (by decide)).wc (c := 69) (k := 4 * w + 1) (x := a1) (by decide)).wc (c := 69) (k := 4 * w + 2) (x := a2) (by decide)).wc (c := 69) (k := 4 * w + 3) (x := a3) (by decide)).wc (c := 68) (k := 2) (x := nI (w + 1)) (by decide), ⟨by omega, ?_, by rw [rd1, if_pos rfl], D4, ?_, by rw [gE.2.1 34 (by decide)]; exact D6, D7.g gC gE, fun r hr => ?_⟩, gC, gE⟩
  · rw [ups_z (by decide), ups_ne (by decide), ups_ne (by decide), ups_ne (by decide), ups_ne (by decide), r68]; exact D2
  · rw [(gC.1 9 (by decide)).1]; exact D5
  · have c69 : ∀ k, (ups (ups (ups (ups (ups s9 (68 + 1) (4 * w) (nI d)) (68 + 1) (4 * w + 1) a1) (68 + 1) (4 * w + 2) a2) (68 + 1) (4 * w + 3) a3) 68 2 (nI (w + 1))).1 69 k = if k = 4 * w + 3 then a3 else if k = 4 * w + 2 then a2 else if k = 4 * w + 1 then a1 else if k = 4 * w then nI d else sc.1 69 k := fun k => by
      rw [ups_ne (by decide), rd1, rd1, rd1, rd1, r69]
    rw [m19]
    by_cases e : r = w
    · subst e
      have t0 : (ups (ups (ups (ups (ups s9 (68 + 1) (4 * r) (nI d)) (68 + 1) (4 * r + 1) a1) (68 + 1) (4 * r + 2) a2) (68 + 1) (4 * r + 3) a3) 68 2 (nI (r + 1))).1 69 (4 * r) = nI d := by rw [c69, if_neg (by omega), if_neg (by omega), if_neg (by omega), if_pos rfl]
      have t1 : (ups (ups (ups (ups (ups s9 (68 + 1) (4 * r) (nI d)) (68 + 1) (4 * r + 1) a1) (68 + 1) (4 * r + 2) a2) (68 + 1) (4 * r + 3) a3) 68 2 (nI (r + 1))).1 69 (4 * r + 1) = a1 := by rw [c69, if_neg (by omega), if_neg (by omega), if_pos rfl]
      have t2 : (ups (ups (ups (ups (ups s9 (68 + 1) (4 * r) (nI d)) (68 + 1) (4 * r + 1) a1) (68 + 1) (4 * r + 2) a2) (68 + 1) (4 * r + 3) a3) 68 2 (nI (r + 1))).1 69 (4 * r + 2) = a2 := by rw [c69, if_neg (by omega), if_pos rfl]
      have t3 : (ups (ups (ups (ups (ups s9 (68 + 1) (4 * r) (nI d)) (68 + 1) (4 * r + 1) a1) (68 + 1) (4 * r + 2) a2) (68 + 1) (4 * r + 3) a3) 68 2 (nI (r + 1))).1 69 (4 * r + 3) = a3 := by rw [c69, if_pos rfl]
      rw [t0, t1, t2, t3]
      exact ⟨d, hd, rfl, h0, hde⟩
    · have o : ∀ k, k < 4 * w → (ups (ups (ups (ups (ups s9 (68 + 1) (4 * w) (nI d)) (68 + 1) (4 * w + 1) a1) (68 + 1) (4 * w + 2) a2) (68 + 1) (4 * w + 3) a3) 68 2 (nI (w + 1))).1 69 k = sc.1 69 k := fun k hk => by rw [c69, if_neg (by omega), if_neg (by omega), if_neg (by omega), if_neg (by omega)]
      rw [o _ (by omega), o _ (by omega), o _ (by omega), o _ (by omega), hx _ (by omega), hx _ (by omega), hx _ (by omega), hx _ (by omega)]
      exact D8 r (by omega)
theorem in2629 (s : ST) {v : Nat} (hv : v < 100) : M_isIn s (nI v) 26 29 = if 26 ≤ v ∧ v ≤ 29 then 1 else 0 := by
  unfold M_isIn
  rw [show (26 : Int32) = nI 26 from rfl, show (29 : Int32) = nI 29 from rfl, ite_iff (nI_ltI (by omega) (by decide)), ite_iff (nI_ltI (by decide) (by omega))]
  by_cases a : v < 26
  · rw [if_pos a, if_neg (by omega)]
  · rw [if_neg a]
    by_cases b : 29 < v
    · rw [if_pos b, if_neg (by omega)]
    · rw [if_neg b, if_pos (by omega)]
theorem p_line {f : Nat → Nat} {n T : Nat} {Z : Nat → Nat → Nat} {i w W H nk : Nat} {sc sm s1 m1 : ST} {C : Type} {K : ST → Option C} (h0 : SY f n T Z i sc sm) (g : Z 3 i = 2 ∧ Z 4 i = 22) (hm : M_reads sm = some m1) (h : SY f n T Z (i + 1) s1 m1) (p0 : fc sc s1) (q0 : fm sm m1) (D : DPl W H nk w sc sm) (hw : w < 16) : (∃ j sc' sm', i < j ∧ (Bd (C_X5_needNumber s1 (0 : Int32) (999 : Int32)) fun y3 => Bd (C_X3_readDeed y3.2 y3.1) fun s5 => K s5) = K sc' ∧ M_readPlanLine sm (nI (64 + 4 * w)) = some (0, sm') ∧ SY f n T Z j sc' sm' ∧ DPl W H nk (w + 1) sc' sm' ∧ gc sc sc' ∧ gm sm sm') ∨ (∃ sc' sm', (Bd (C_X5_needNumber s1 (0 : Int32) (999 : Int32)) fun y3 => Bd (C_X3_readDeed y3.2 y3.1) fun s5 => K s5) = K sc' ∧ M_readPlanLine sm (nI (64 + 4 * w)) = some (-1, sm') ∧ FS sc' sm' ∧ gc sc sc' ∧ gm sm sm') := by
  have DD := D
  obtain ⟨D1, D2, D3, D4, D5, D6, D7, D8⟩ := D
  have hm1 : (-1 : Int32) = -1 := rfl
  have q1 : nI (64 + 4 * w) + (1 : Int32) = nI (64 + 4 * w + 1) := nI_1 _
  have q2' : nI (64 + 4 * w) + (2 : Int32) = nI (64 + 4 * w + 2) := nI_add _ 2
  have q3 : nI (64 + 4 * w) + (3 : Int32) = nI (64 + 4 * w + 3) := nI_add _ 3
  have wr : ∀ k, 64 ≤ k → ∀ {s s' : ST} {x : Int32}, gm s s' → gm s (ups s' 19 k x) := fun k hk s s' x hg => hg.wr (Or.inr (Or.inr (Or.inr (Or.inr (Or.inr (Or.inr (Or.inr ⟨rfl, hk⟩)))))))
  have t1 : M_readTold sm 22 0 999 = Bd (M_readNumber m1 0 999) fun y2 => some (y2.1, y2.2) := m_told1 (sm_read1 (w := 22) h0 g hm)
  unfold M_readPlanLine
  rw [t1, q1, q2', q3]
  rcases (sy_needNumber h 0 999).symm with ⟨s2, m2, c3, c4, c5, p2, q2⟩ | ⟨d, s2, m2, hd, _, _, c2, c3, c4, _, h2, p2, q2⟩
  · have fb := c5.m
    rw [c3, c4, Bd_some, Bd_some, Bd_some]
    (try dsimp only)
    rw [Gs_n (by omega) (by decide), Gl_n (by omega) (by decide), ups_self, if_pos hm1]
    unfold C_X3_readDeed
    rw [fm_takesWord fb, Bd_some, Lt_e]
    (try dsimp only)
    rw [if_pos i00, fm_takesWord fb, Bd_some]
    (try dsimp only)
    rw [if_pos i00, fm_needWind fb, Bd_some]
    (try dsimp only)
    rw [fm_needSign fb, Bd_some, if_neg fb.1, Bd_some]
    exact Or.inr ⟨s2, _, rfl, rfl, c5.w (by decide), (p0.tr p2).g, wr _ (by omega) (q0.tr q2).g⟩
  have hd999 := (n_le hd (by decide)).mp c2
  rw [c3, c4, Bd_some, Bd_some, Bd_some]
  (try dsimp only)
  rw [Gs_n (by omega) (by decide), Gl_n (by omega) (by decide), ups_self, if_neg (n_nI_m1 (by omega)), Gs_n (by omega) (by decide)]
  obtain ⟨m3, e3⟩ : ∃ m3, m3 = ups (ups m2 19 (64 + 4 * w) (nI d)) 19 (64 + 4 * w + 2) 0 := ⟨_, rfl⟩
  have h3 : SY f n T Z (i + 1 + 1) s2 m3 := by rw [e3]; exact (h2.w (by decide)).w (by decide)
  have g3 : gm sm m3 := by rw [e3]; exact wr _ (by omega) (wr _ (by omega) (q0.tr q2).g)
  have p3 := p0.tr p2
  have v3 : ∀ k, m3.1 19 k = if k = 64 + 4 * w + 2 then 0 else if k = 64 + 4 * w then nI d else sm.1 19 k := fun k => by
    rw [e3, rd2, (q2.1 19 (by decide)).1, (q0.1 19 (by decide)).1]
  have e34 : m3.1 0 34 = nI nk := (g3.2.1 34 (by decide)).trans D6
  have wh3 : WH W H s2 m3 := D7.g p3.g g3
  rw [← e3, Lt_e]
  clear e3
  have t2 : m3.1 0 15 = (2 : Int32) ↔ Z 3 (i + 1 + 1) = 2 := sm_tok h3 (c := 2) (by decide)
  have w24 : ∀ s, SY f n T Z (i + 1 + 1) s2 s → M_isWord s 24 = if Z 3 (i + 1 + 1) = 2 ∧ Z 4 (i + 1 + 1) = 24 then 1 else 0 := fun s hs => sm_word hs (w := 24) (by decide)
  unfold C_X3_readDeed
  by_cases gw : Z 3 (i + 1 + 1) = 2 ∧ 26 ≤ Z 4 (i + 1 + 1) ∧ Z 4 (i + 1 + 1) ≤ 29
  · -- the wind
    have hv := (h3.tk.2.2.1 gw.1).2
    have e16 := h3.2.2.2.2.2.2.2.2.2.2 (by omega)
    have h5 : SY f n T Z (i + 1 + 1) s2 (ups (ups m3 19 (64 + 4 * w + 1) 2) 19 (64 + 4 * w + 3) (nI (Z 4 (i + 1 + 1) - 26))) := (h3.w (by decide)).w (by decide)
    obtain ⟨v, hv4⟩ : ∃ v, Z 4 (i + 1 + 1) = 26 + v := ⟨Z 4 (i + 1 + 1) - 26, by omega⟩
    obtain ⟨s6, m6, x1, x2, x3, x4, x5⟩ := sy_wind (w := v) h5 gw.1 (by omega) hv4
    have no : ∀ x, x < 30 → wn x < 26 → C_X5_takesWord s2 x = some (0, s2) := fun x hx hne => by
      rcases sy_takesWord h3 hx with ⟨_, e⟩ | ⟨_, _, q, _⟩
      · exact e
      · omega
    rw [no 11 (by decide) (by decide), Bd_some, Lt_e]
    (try dsimp only)
    rw [if_pos i00, no 12 (by decide) (by decide), Bd_some]
    (try dsimp only)
    rw [if_pos i00, x1, Bd_some, if_pos (t2.mpr gw.1), e16, Lt_e, in2629 _ (by omega), if_pos gw.2, if_neg i10, Gs_n (by omega) (by decide), ups_ne (by decide), e16, show (26 : Int32) = nI 26 from rfl, nI_sub gw.2.1, Gs_n (by omega) (by decide), x2, Bd_some]
    (try dsimp only)
    rw [hv4, show 26 + v - 26 = v by omega] at x2 x5
    have v6 : ∀ k, m6.1 19 k = if k = 64 + 4 * w + 3 then nI v else if k = 64 + 4 * w + 1 then 2 else m3.1 19 k := fun k => by
      rw [(x5.1 19 (by decide)).1, rd2]
    have fin := p_deed (i := i) (d := d) (a1 := 2) (a2 := nI v) (a3 := -1) DD hw (show i < i + 1 + 1 + 1 by omega) x3 (p3.tr x4) ((wr _ (by omega) (wr _ (by omega) g3)).tr x5.g) hd999 (fun k hk => by rw [v6, if_neg (by omega), if_neg (by omega), v3, if_neg (by omega), if_neg (by omega)]) (by rw [v6, if_neg (by omega), if_neg (by omega), v3, if_neg (by omega), if_pos rfl]) (Or.inr (Or.inr ⟨v, by omega, rfl, by rw [v6, if_neg (by omega), if_pos rfl], rfl, by rw [v6, if_pos rfl]⟩))
    rcases fin with ⟨j, sc', sm', f1, f2, f3, f4⟩ | ⟨sc', sm', f2, f3, f4⟩
    · exact Or.inl ⟨j, sc', sm', f1, by rw [f2, Bd_some], by rw [f3, Bd_some], f4⟩
    · exact Or.inr ⟨sc', sm', by rw [f2, Bd_some], by rw [f3, Bd_some], f4⟩
  · -- no wind: the reference's other road
    have toj : ∀ (A : Type) (x y : A), (if m3.1 0 15 = (2 : Int32) then (Lt (M_isIn m3 (m3.1 0 16) (26 : Int32) (29 : Int32)) fun y10 => if y10 = 0 then x else y) else x) = x := fun A x y => by
      by_cases g2 : Z 3 (i + 1 + 1) = 2
      · have hv := (h3.tk.2.2.1 g2).2
        rw [if_pos (t2.mpr g2), h3.2.2.2.2.2.2.2.2.2.2 (by omega), Lt_e, in2629 _ (by omega), if_neg (fun q => gw ⟨g2, q⟩), if_pos i00]
      · rw [if_neg (fun q => g2 (t2.mp q))]
    rw [toj, Lt_e, w24 _ h3]
    rcases sy_takesWord h3 (x := 11) (by decide) with ⟨gs, e⟩ | ⟨s4', m4', gs, e, _⟩
    · have gs : ¬ (Z 3 (i + 1 + 1) = 2 ∧ Z 4 (i + 1 + 1) = 24) := gs
      have h4 : SY f n T Z (i + 1 + 1) s2 (ups m3 19 (64 + 4 * w + 1) 1) := h3.w (by decide)
      rw [e, Bd_some, Lt_e, if_neg gs, Lt_e, if_pos i00, Gs_n (by omega) (by decide)]
      (try dsimp only)
      rw [if_pos i00]
      rcases sy_takesWord h4 (x := 12) (by decide) with ⟨gd, e⟩ | ⟨s5, m5, gd, e, a2, a3, a4, a5⟩
      · -- nothing of these
        have gd : ¬ (Z 3 (i + 1 + 1) = 2 ∧ Z 4 (i + 1 + 1) = 25) := gd
        obtain ⟨s6, m6, x1, x2, x3, x4, x5⟩ := sy_nowind h4 gw
        have rc : M_readCell (ups m3 19 (64 + 4 * w + 1) 1) 25 = some (-1, m6) := by
          refine m_cell0 ?_
          unfold M_readWord
          rw [Lt_e, show M_isWord (ups m3 19 (64 + 4 * w + 1) 1) 25 = 0 from (sm_word h4 (w := 25) (by decide)).trans (if_neg gd), if_pos i00, Lt_e, x2]
        have fb := x3.m
        rw [e, Bd_some]
        (try dsimp only)
        rw [if_pos i00, x1, Bd_some, rc, Bd_some]
        (try dsimp only)
        rw [Gs_n (by omega) (by decide), Gl_n (by omega) (by decide), ups_self, if_pos hm1, fm_needSign fb, Bd_some, if_neg fb.1, Bd_some]
        exact Or.inr ⟨s6, _, rfl, rfl, x3.w (by decide), (p3.tr x4).g, wr _ (by omega) ((wr _ (by omega) g3).tr x5.g)⟩
      · -- to weed
        have gd : Z 3 (i + 1 + 1) = 2 ∧ Z 4 (i + 1 + 1) = 25 := gd
        have rw1 : M_readWord (ups m3 19 (64 + 4 * w + 1) 1) 25 = some (0, m5) := sm_read1 (w := 25) h4 gd a2
        have wh5 : WH W H s5 m5 := (wh3.g gc.rf (wr _ (by omega) gm.rf)).mv a4 a5
        rw [e, Bd_some, m_cell1 rw1]
        (try dsimp only)
        rw [if_neg i10]
        rcases sy_needCell a3 wh5 with ⟨c, s6, m6, c1, c2, c3, c4, c5, c6, c7⟩ | ⟨s6, m6, c3, c4, c5, c6, c7⟩
        · rw [c3, c4, Bd_some, Bd_some]
          (try dsimp only)
          rw [Gs_n (by omega) (by decide), Gl_n (by omega) (by decide), ups_self, if_neg (n_nI_m1 (by omega))]
          have v6 : ∀ k, (ups m6 19 (64 + 4 * w + 3) (nI c)).1 19 k = if k = 64 + 4 * w + 3 then nI c else if k = 64 + 4 * w + 1 then 1 else m3.1 19 k := fun k => by
            rw [rd1, (c7.1 19 (by decide)).1, (a5.1 19 (by decide)).1, rd1]
          have fin := p_deed (i := i) (d := d) (a1 := 1) (a2 := -1) (a3 := nI c) DD hw (show i < i + 1 + 1 + 1 + 1 by omega) (c5.w (c := 19) (k := 64 + 4 * w + 3) (x := nI c) (by decide)) ((p3.tr a4).tr c6) (wr _ (by omega) (((wr _ (by omega) g3).tr a5.g).tr c7.g)) hd999 (fun k hk => by rw [v6, if_neg (by omega), if_neg (by omega), v3, if_neg (by omega), if_neg (by omega)]) (by rw [v6, if_neg (by omega), if_neg (by omega), v3, if_neg (by omega), if_pos rfl]) (Or.inr (Or.inl ⟨c, c1, c2, rfl, by rw [v6, if_neg (by omega), if_pos rfl], rfl, by rw [v6, if_pos rfl]⟩))
          rcases fin with ⟨j, sc', sm', f1, f2, f3, f4⟩ | ⟨sc', sm', f2, f3, f4⟩
          · exact Or.inl ⟨j, sc', sm', f1, by rw [f2, Bd_some], by rw [f3, Bd_some], f4⟩
          · exact Or.inr ⟨sc', sm', by rw [f2, Bd_some], by rw [f3, Bd_some], f4⟩
        · have fb := c5.m
          rw [c3, c4, Bd_some, Bd_some]
          (try dsimp only)
          rw [Gs_n (by omega) (by decide), Gl_n (by omega) (by decide), ups_self, if_pos hm1, fm_needSign fb, Bd_some, if_neg fb.1, Bd_some]
          exact Or.inr ⟨s6, _, rfl, rfl, c5.w (by decide), ((p3.tr a4).tr c6).g, wr _ (by omega) (((wr _ (by omega) g3).tr a5.g).tr c7.g)⟩
    · -- to sow
      have gs : Z 3 (i + 1 + 1) = 2 ∧ Z 4 (i + 1 + 1) = 24 := gs
      have h4 : SY f n T Z (i + 1 + 1) s2 (ups m3 19 (64 + 4 * w + 1) 0) := h3.w (by decide)
      obtain ⟨s5, m5, e', a2, a3, a4, a5⟩ : ∃ s5 m5, C_X5_takesWord s2 11 = some (1, s5) ∧ M_reads (ups m3 19 (64 + 4 * w + 1) 0) = some m5 ∧ SY f n T Z (i + 1 + 1 + 1) s5 m5 ∧ fc s2 s5 ∧ fm (ups m3 19 (64 + 4 * w + 1) 0) m5 := by
        rcases sy_takesWord h4 (x := 11) (by decide) with ⟨gn, _⟩ | ⟨s5, m5, _, e5, a2, a3, a4, a5⟩
        · exact absurd gs gn
        · exact ⟨s5, m5, e5, a2, a3, a4, a5⟩
      have e34' : (ups m3 19 (64 + 4 * w + 1) 0).1 0 34 = nI nk := by rw [ups_ne (by decide)]; exact e34
      have rt : M_readTold (ups m3 19 (64 + 4 * w + 1) 0) 24 0 (nI nk - 1) = Bd (M_readNumber m5 0 (nI nk - 1)) fun y2 => some (y2.1, y2.2) := m_told1 (sm_read1 (w := 24) h4 gs a2)
      have c9 : s5.1 9 2 = nI nk := by rw [((p3.tr a4).1 9 (by decide)).1]; exact D5
      have g5 : gm sm m5 := (wr _ (by omega) g3).tr a5.g
      rw [e', Bd_some, Lt_e, if_pos gs, Lt_e]
      (try dsimp only)
      rw [if_neg i10, if_neg i10, Gs_n (by omega) (by decide), e34', rt]
      (try dsimp only)
      unfold C_X3_needKind
      rw [c9]
      rcases sy_needNumber a3 0 (nI nk - 1) with ⟨v, s6, m6, hv, _, _, c2, c3, c4, _, h6, p6, q6⟩ | ⟨s6, m6, c3, c4, c5, p6, q6⟩
      · have hvk := v_lt hv (by omega) c2
        rw [c3, c4, Bd_some, Bd_some, Bd_some, Bd_some]
        (try dsimp only)
        rw [Gs_n (by omega) (by decide), Gl_n (by omega) (by decide), ups_self, if_neg (n_nI_m1 (by omega))]
        have h6' := h6.w (c := 19) (k := 64 + 4 * w + 2) (x := nI v) (by decide)
        have g6 : gm sm (ups m6 19 (64 + 4 * w + 2) (nI v)) := wr _ (by omega) (g5.tr q6.g)
        have p6' := (p3.tr a4).tr p6
        rcases sy_cell h6' (x := 8) (w := 21) (by decide) rfl (D7.g p6'.g g6) with ⟨c, s7, t7, m7, c1, c2', c3', c4', c5', h7, p7, q7⟩ | ⟨s7, t7, m7, c3', c4', c5', b7, p7, q7⟩
        · rw [c3', Bd_some, c4', Bd_some, show M_readCell (ups m6 19 (64 + 4 * w + 2) (nI v)) 21 = some (nI c, m7) from c5', Bd_some]
          (try dsimp only)
          rw [Gs_n (by omega) (by decide), Gl_n (by omega) (by decide), ups_self, if_neg (n_nI_m1 (by omega))]
          have v7 : ∀ k, (ups m7 19 (64 + 4 * w + 3) (nI c)).1 19 k = if k = 64 + 4 * w + 3 then nI c else if k = 64 + 4 * w + 2 then nI v else if k = 64 + 4 * w + 1 then 0 else m3.1 19 k := fun k => by
            rw [rd1, (q7.1 19 (by decide)).1, rd1, (q6.1 19 (by decide)).1, (a5.1 19 (by decide)).1, rd1]
          have fin := p_deed (i := i) (d := d) (a1 := 0) (a2 := nI v) (a3 := nI c) DD hw (show i < i + 1 + 1 + 1 + 1 + 2 by omega) (h7.w (c := 19) (k := 64 + 4 * w + 3) (x := nI c) (by decide)) (p6'.tr p7) (wr _ (by omega) (g6.tr q7.g)) hd999 (fun k hk => by rw [v7, if_neg (by omega), if_neg (by omega), if_neg (by omega), v3, if_neg (by omega), if_neg (by omega)]) (by rw [v7, if_neg (by omega), if_neg (by omega), if_neg (by omega), v3, if_neg (by omega), if_pos rfl]) (Or.inl ⟨v, c, hvk, c1, c2', rfl, by rw [v7, if_neg (by omega), if_neg (by omega), if_pos rfl], rfl, rfl, by rw [v7, if_neg (by omega), if_pos rfl], by rw [v7, if_pos rfl]⟩)
          rcases fin with ⟨j, sc', sm', f1, f2, f3, f4⟩ | ⟨sc', sm', f2, f3, f4⟩
          · exact Or.inl ⟨j, sc', sm', f1, by rw [f2, Bd_some], by rw [f3, Bd_some], f4⟩
          · exact Or.inr ⟨sc', sm', by rw [f2, Bd_some], by rw [f3, Bd_some], f4⟩
        · have fb := b7.m
          rw [c3', Bd_some, c4', Bd_some, show M_readCell (ups m6 19 (64 + 4 * w + 2) (nI v)) 21 = some (-1, m7) from c5', Bd_some]
          (try dsimp only)
          rw [Gs_n (by omega) (by decide), Gl_n (by omega) (by decide), ups_self, if_pos hm1, fm_needSign fb, Bd_some, if_neg fb.1, Bd_some]
          exact Or.inr ⟨t7, _, rfl, rfl, b7.w (by decide), (p6'.tr p7).g, wr _ (by omega) (g6.tr q7.g)⟩
      · have fb := c5.m
        rw [c3, c4, Bd_some, Bd_some, Bd_some, Bd_some]
        (try dsimp only)
        rw [Gs_n (by omega) (by decide), Gl_n (by omega) (by decide), ups_self, if_pos hm1, fm_needWord fb, Bd_some, fm_needCell fb, Bd_some]
        (try dsimp only)
        rw [fm_needSign fb, Bd_some, if_neg fb.1, Bd_some]
        exact Or.inr ⟨s6, _, rfl, rfl, c5.w (by decide), ((p3.tr a4).tr p6).g, wr _ (by omega) (g5.tr q6.g)⟩
theorem plan_loop {f : Nat → Nat} {n T W H nk : Nat} {Z : Nat → Nat → Nat} {sc sm : ST} {K : ST → Option (Int32 × ST)} (h : SY f n T Z 0 sc sm) (D : DPl W H nk 0 sc sm) : (∃ w j sc' sm', lpK2 (C := Int32 × ST) (fun (rec1 : Int32 → ST → Option (Int32 × ST)) (a1 : Int32) (s2 : ST) => Lt (K s2 : Option (Int32 × ST)) fun j1 => if (400 : Int32) ≤ a1 then (j1) else (Lt (C_X5_goesOn s2) fun y1 => if y1 = 0 then (j1) else (Bd (C_X5_takesHead s2 9 68) fun y2 => Lt (fun (s4 : ST) => (Bd (C_X5_needNumber s4 (0 : Int32) (999 : Int32)) fun y3 => Bd (C_X3_readDeed y3.2 y3.1) fun s5 => rec1 (a1 + (1 : Int32)) s5 : Option (Int32 × ST))) fun j2 => if y2.1 = 0 then (Bd (C_X5_fail y2.2 (1 : Int32)) fun s6 => j2 s6) else (j2 y2.2)))) FU (0 : Int32) sc = K sc' ∧ lpK2 (C := Int32 × ST) (fun (rec1 : Int32 → ST → Option (Int32 × ST)) (a1 : Int32) (s1 : ST) => Lt (M_isWord s1 (22 : Int32)) fun y1 => if y1 = 0 then (if (s1.1 0 15) = 0 then (some (a1, s1)) else (Lt (M_errs s1 (1 : Int32)) fun y2 => some (y2.1, y2.2))) else (if a1 = (16 : Int32) then (Lt (M_errs s1 (3 : Int32)) fun y5 => some (y5.1, y5.2)) else (Bd (M_readPlanLine s1 ((64 : Int32) + ((4 : Int32) * a1))) fun y3 => if y3.1 = (-1 : Int32) then (some ((-1 : Int32), y3.2)) else (Lt ((a1 + (1 : Int32))) fun y4 => rec1 y4 y3.2)))) FU (0 : Int32) sm = some (nI w, sm') ∧ SY f n T Z j sc' sm' ∧ DPl W H nk w sc' sm' ∧ gc sc sc' ∧ gm sm sm') ∨ (∃ sc' sm', lpK2 (C := Int32 × ST) (fun (rec1 : Int32 → ST → Option (Int32 × ST)) (a1 : Int32) (s2 : ST) => Lt (K s2 : Option (Int32 × ST)) fun j1 => if (400 : Int32) ≤ a1 then (j1) else (Lt (C_X5_goesOn s2) fun y1 => if y1 = 0 then (j1) else (Bd (C_X5_takesHead s2 9 68) fun y2 => Lt (fun (s4 : ST) => (Bd (C_X5_needNumber s4 (0 : Int32) (999 : Int32)) fun y3 => Bd (C_X3_readDeed y3.2 y3.1) fun s5 => rec1 (a1 + (1 : Int32)) s5 : Option (Int32 × ST))) fun j2 => if y2.1 = 0 then (Bd (C_X5_fail y2.2 (1 : Int32)) fun s6 => j2 s6) else (j2 y2.2)))) FU (0 : Int32) sc = K sc' ∧ lpK2 (C := Int32 × ST) (fun (rec1 : Int32 → ST → Option (Int32 × ST)) (a1 : Int32) (s1 : ST) => Lt (M_isWord s1 (22 : Int32)) fun y1 => if y1 = 0 then (if (s1.1 0 15) = 0 then (some (a1, s1)) else (Lt (M_errs s1 (1 : Int32)) fun y2 => some (y2.1, y2.2))) else (if a1 = (16 : Int32) then (Lt (M_errs s1 (3 : Int32)) fun y5 => some (y5.1, y5.2)) else (Bd (M_readPlanLine s1 ((64 : Int32) + ((4 : Int32) * a1))) fun y3 => if y3.1 = (-1 : Int32) then (some ((-1 : Int32), y3.2)) else (Lt ((a1 + (1 : Int32))) fun y4 => rec1 y4 y3.2)))) FU (0 : Int32) sm = some (-1, sm') ∧ FS sc' sm' ∧ gc sc sc' ∧ gm sm sm') := by
  refine lkb22 (Q := fun oc om => (∃ w j sc' sm', oc = K sc' ∧ om = some (nI w, sm') ∧ SY f n T Z j sc' sm' ∧ DPl W H nk w sc' sm' ∧ gc sc sc' ∧ gm sm sm') ∨ (∃ sc' sm', oc = K sc' ∧ om = some (-1, sm') ∧ FS sc' sm' ∧ gc sc sc' ∧ gm sm sm')) (I := fun m a1 s1 b1 s2 => ∃ i c w, i + m = T ∧ c ≤ i ∧ a1 = nI c ∧ b1 = nI w ∧ SY f n T Z i s1 s2 ∧ DPl W H nk w s1 s2 ∧ gc sc s1 ∧ gm sm s2) ?_ FU T _ _ _ _ (by have := h.1.2.2.1; unfold FU; omega) ⟨0, 0, 0, by omega, Nat.le_refl _, rfl, rfl, h, D, gc.rf, gm.rf⟩
  rintro m n' rf rg a1 s1 b1 s2 hmn hrf hrg ⟨i, c, w, him, hci, rfl, rfl, h1, D1, g1, g2⟩ ih
  have hiT := h1.2.2.1
  have hi400 := h1.i400
  have e16 : nI 16 = (16 : Int32) := rfl
  have w22 : M_isWord s2 22 = if Z 3 i = 2 ∧ Z 4 i = 22 then 1 else 0 := sm_word h1 (w := 22) (by decide)
  have bad : ∀ s, FM s → rf (nI c + 1) s = K s := fun s fb => by
    obtain ⟨n2, rfl⟩ : ∃ n2, n' = n2 + 1 := ⟨n' - 1, by omega⟩
    rw [hrf, lp2_s']
    (try dsimp only)
    rw [Lt_e, Lt_e, fm_goesOn fb, if_pos i00]
    split <;> rfl
  have cdead : ∀ s, FM s → ∀ d : Int32, C_X3_readDeed s d = some s := fun s fb d => by
    unfold C_X3_readDeed
    rw [fm_takesWord fb, Bd_some, Lt_e]
    (try dsimp only)
    rw [if_pos i00, fm_takesWord fb, Bd_some]
    (try dsimp only)
    rw [if_pos i00, fm_needWind fb, Bd_some]
    (try dsimp only)
    rw [fm_needSign fb, Bd_some, if_neg fb.1]
  rw [Lt_e, Lt_e, Lt_e, w22, sy_goesOn h1]
  by_cases gE : Z 3 i = 0
  · have n22 : ¬ (Z 3 i = 2 ∧ Z 4 i = 22) := fun q => by omega
    have e0 : s2.1 0 15 = (0 : Int32) := (sm_tok h1 (c := 0) (by decide)).mpr gE
    rw [if_neg n22, if_pos i00, if_pos gE, if_pos i00, if_pos e0]
    refine Or.inl ⟨w, i, s1, s2, ?_, rfl, h1, D1, g1, g2⟩
    split <;> rfl
  · have hi1 : i + 1 < T := by
      have q := h1.row.2
      have := h1.tk.1
      omega
    rw [if_neg gE, if_neg i10, if_neg (show ¬ (400 : Int32) ≤ nI c from nle_t (n := 400) (by have := h1.1.2.2.1; omega) (by decide))]
    rcases sy_head h1 (x := 9) (b := 68) (by decide) D1.2.2.1 D1.2.1 D1.1 (by decide) with ⟨q, e⟩ | ⟨q, qr, t1, t2, e, e3, e4, e5, e6⟩ | ⟨q, qr, t1, t2, e, e3, e4, e5, e6⟩
    · have q : ¬ (Z 3 i = 2 ∧ Z 4 i = 22) := q
      rw [e, Bd_some, Lt_e, if_neg q, if_pos i00]
      (try dsimp only)
      rw [if_pos i00]
      rcases p_end h1 (nI w) with ⟨z, _⟩ | ⟨_, t1, t2, b1, b2, b3, b4, b5⟩
      · exact absurd z gE
      · have fb := b3.m
        rw [b1, Bd_some]
        (try dsimp only)
        rw [fm_needNumber fb, Bd_some]
        (try dsimp only)
        rw [cdead t1 fb, Bd_some]
        exact Or.inr ⟨t1, t2, bad t1 fb, b2, b3, g1.tr b4.g, g2.tr b5.g⟩
    · have q : Z 3 i = 2 ∧ Z 4 i = 22 := q
      have fb := e4.m
      rw [e, Bd_some, Lt_e, if_pos q, if_neg i10, qr, if_pos e16]
      (try dsimp only)
      rw [if_neg i10, fm_needNumber fb, Bd_some]
      (try dsimp only)
      rw [cdead t1 fb, Bd_some, Lt_e, e3]
      exact Or.inr ⟨t1, t2, bad t1 fb, rfl, e4, g1.tr e5.g, g2.tr e6.g⟩
    · have q : Z 3 i = 2 ∧ Z 4 i = 22 := q
      have hw10 : ¬ nI w = (16 : Int32) := fun z => by
        have := (nI_eq (b := 16) (by omega) (by decide)).mp z
        omega
      have h4 : (64 : Int32) + (4 : Int32) * nI w = nI (64 + 4 * w) := by
        rw [show (64 : Int32) = nI 64 from rfl, show (4 : Int32) = nI 4 from rfl, nI_mul, nI_add]
      rw [e, Bd_some, Lt_e, if_pos q, if_neg i10, if_neg hw10, h4]
      (try dsimp only)
      rw [if_neg i10]
      rcases p_line (K := fun s => rf (nI c + 1) s) h1 q e3 e4 e5 e6 D1 qr with ⟨j, sc', sm', hj, x1, x2, x3, x4, x5, x6⟩ | ⟨sc', sm', x1, x2, x3, x5, x6⟩
      · have := ih (T - j) (nI (c + 1)) sc' (nI (w + 1)) sm' (by have := x3.2.2.1; omega) ⟨j, c + 1, w + 1, by have := x3.2.2.1; omega, by omega, rfl, rfl, x3, x4, g1.tr x5, g2.tr x6⟩
        rw [← nI_1 c] at this
        rw [x2, Bd_some]
        (try dsimp only)
        rw [if_neg (show ¬ (0 : Int32) = -1 by decide), Lt_e, nI_1 w]
        rcases this with ⟨w', j', sc2, sm2, y1, y2, y3⟩ | ⟨sc2, sm2, y1, y2, y3⟩
        · exact Or.inl ⟨w', j', sc2, sm2, x1.trans y1, y2, y3⟩
        · exact Or.inr ⟨sc2, sm2, x1.trans y1, y2, y3⟩
      · rw [x2, Bd_some]
        (try dsimp only)
        rw [if_pos (rfl : (-1 : Int32) = -1)]
        exact Or.inr ⟨sc', sm', x1.trans (bad sc' x3.m), rfl, x3, g1.tr x5, g2.tr x6⟩
