theorem c_lay {s : ST} {b W H k : Nat} {x : Int32} (h0 : s.1 b 0 = nI W) (h1 : s.1 b 1 = nI H) (hW : W ≤ 7) (hH : H ≤ 7) (hk : k < 64) (hc : cl W H k) : C_X1_laySeed s b x (nI k) = some (ups (ups (upl s b 8 (s.2 b 8 ||| bit1 k)) (b + 2) k x) (b + 3) k (s.1 b 2)) := by
  unfold C_X1_laySeed
  simp only [Lt_n, bit1_e]
  rw [c_isCell h0 h1 hW hH hk, if_pos hc, if_neg (by decide), Gs_n hk (by decide), Gs_n hk (by decide), ups_ne (by omega)]
  rfl
theorem c_raise {s : ST} {b W H k : Nat} {x g e : Int32} (h0 : s.1 b 0 = nI W) (h1 : s.1 b 1 = nI H) (hW : W ≤ 7) (hH : H ≤ 7) (hk : k < 64) (hc : cl W H k) : C_X1_raiseStorm s b x (nI k) g e = some (ups (ups (ups (upl s b 9 (s.2 b 9 ||| bit1 k)) (b + 4) k x) (b + 5) k g) (b + 6) k e) := by
  unfold C_X1_raiseStorm
  simp only [Lt_n, bit1_e]
  rw [c_isCell h0 h1 hW hH hk, if_pos hc, if_neg (by decide), Gs_n hk (by decide), Gs_n hk (by decide), Gs_n hk (by decide)]
def NBt (_ _ : ST) : Prop := True
/-- the lines of the book that the kept lands knew are there yet -/
def HL (sm : ST) : Prop := ∃ (u : Nat) (f : Nat → Nat), u ≤ 6 ∧ sm.1 0 3 = nI u ∧ (∀ j, j < u → sm.1 2 (389 * j + 2) = nI (f j) ∧ f j ≤ f (j + 1)) ∧ f u ≤ 150 ∧ sm.1 1 2 = nI (f u)
theorem HL_agr {sm sm' : ST} (h : HL sm) (m1 : sm'.1 1 2 = sm.1 1 2) (m2 : sm'.1 2 = sm.1 2) (m0 : sm'.1 0 3 = sm.1 0 3) : HL sm' := by
  unfold HL at h ⊢
  rw [m1, m2, m0]
  exact h
theorem HL_up {sm sm' : ST} (h : HL sm) {n n' : Nat} (e : sm.1 1 2 = nI n) (e' : sm'.1 1 2 = nI n') (hn : n ≤ n') (h150 : n' ≤ 150) (m2 : sm'.1 2 = sm.1 2) (m0 : sm'.1 0 3 = sm.1 0 3) : HL sm' := by
  obtain ⟨u, f, h1, h2, h3, h4, h5⟩ := h
  have hf : f u = n := by
    rw [e] at h5
    exact ((nI_eq (by omega) (by omega)).mp h5).symm
  refine ⟨u, fun j => if j = u then n' else f j, h1, by rw [m0]; exact h2, fun j hj => ?_, by dsimp only; rw [if_pos rfl]; exact h150, by dsimp only; rw [if_pos rfl]; exact e'⟩
  obtain ⟨a, b⟩ := h3 j hj
  dsimp only
  rw [if_neg (by omega), m2]
  refine ⟨a, ?_⟩
  by_cases q : j + 1 = u
  · rw [if_pos q]
    rw [q, hf] at b
    omega
  · rw [if_neg q]
    exact b
def NBr (sc sm : ST) : Prop := BK 23 sc sm ∧ sc.1 23 0 = 150 ∧ HL sm
theorem NBt_agr {sc sm sc' sm' : ST} (_ : NBt sc sm) (_ : sc'.1 23 = sc.1 23) (_ : sc'.1 24 = sc.1 24) (_ : sm'.1 1 2 = sm.1 1 2) (_ : sm'.1 5 = sm.1 5) (_ : sm'.1 2 = sm.1 2) (_ : sm'.1 0 = sm.1 0) : NBt sc' sm' := trivial
theorem NBr_agr {sc sm sc' sm' : ST} (B : NBr sc sm) (h0 : sc'.1 23 = sc.1 23) (h1 : sc'.1 24 = sc.1 24) (m1 : sm'.1 1 2 = sm.1 1 2) (m5 : sm'.1 5 = sm.1 5) (m2 : sm'.1 2 = sm.1 2) (m0 : sm'.1 0 = sm.1 0) : NBr sc' sm' := ⟨BK_agr B.1 (by rw [h0]) h1 m1 m5, by rw [h0]; exact B.2.1, HL_agr B.2.2 m1 m2 (by rw [m0])⟩
theorem lk11 {C D A1 B1 : Type} {F : (A1 → Option C) → A1 → Option C} {G : (B1 → Option D) → B1 → Option D} (Q : Option C → Option D → Prop) (I : Nat → A1 → B1 → Prop)
    (h : ∀ (m : Nat) (rf : A1 → Option C) (rg : B1 → Option D) (a1 : A1) (b1 : B1), I m a1 b1 → (∀ m' a1 b1, m' < m → I m' a1 b1 → Q (rf a1) (rg b1)) → Q (F rf a1) (G rg b1)) :
    ∀ (n m : Nat) (a1 : A1) (b1 : B1), m < n → I m a1 b1 → Q (lpK1 F n a1) (lpK1 G n b1) := by
  intro n
  induction n with
  | zero => intro m _ _ hm; omega
  | succ n ih =>
    intro m a1 b1 hm hI
    exact h m (lpK1 F n) (lpK1 G n) a1 b1 hI (fun m' a1 b1 hlt hI' => ih m' a1 b1 (by omega) hI')
theorem LW_lift {W H nk b : Nat} {sc sm : ST} {x : Int64} (L : LW W H nk b sc sm) : LW W H nk b (upl sc b 8 x) sm := by
  have e7 : (upl sc b 8 x).2 b 7 = sc.2 b 7 := by simp [upl_at]
  have e9 : (upl sc b 8 x).2 b 9 = sc.2 b 9 := by simp [upl_at]
  unfold LW at L ⊢
  rw [upl_1, e7, e9]
  exact L
theorem m_ofKind {s : ST} {n c : Nat} (hn : n < 8) (hc : c < 3) : M_ofKind s (nI n) (nI c) = some (s.1 16 (3 * n + c)) := by
  unfold M_ofKind
  rw [show (3 : Int32) = nI 3 from rfl, nI_mul, nI_add, Gl_n (by omega) (by decide)]
theorem kind_c {W H nk nc nl nw np n c : Nat} {sc sm : ST} (T : TD W H nk nc nl nw np 8 sc sm) (hn : n < nk) (hc : c < 4) : C_X4_of sc 9 (nI n) (nI c) = some (sc.1 10 (4 * n + c)) := by
  have h8 := T.k8
  have l : lc (9 + 1) = 32 := rfl
  exact c_of T.k hn (by omega) hc (by rw [l]; omega) (by decide)
theorem kind_0 {W H nk nc nl nw np n : Nat} {sc sm : ST} (T : TD W H nk nc nl nw np 8 sc sm) (hn : n < nk) : ∃ v, 1 ≤ v ∧ v ≤ 20 ∧ C_X4_of sc 9 (nI n) 0 = some (nI v) ∧ M_ofKind sm (nI n) 0 = some (nI v) := by
  have h8 := T.k8
  obtain ⟨a, b, c, h1, h2, _, _, _, x0, x1, x2, y0, y1, y2⟩ := T.kd n hn
  exact ⟨a, h1, h2, (kind_c (c := 0) T hn (by decide)).trans (congrArg some x0), (m_ofKind (c := 0) (by omega) (by decide)).trans (congrArg some y0)⟩
theorem kind_1 {W H nk nc nl nw np n : Nat} {sc sm : ST} (T : TD W H nk nc nl nw np 8 sc sm) (hn : n < nk) : ∃ v, 1 ≤ v ∧ v ≤ 9 ∧ C_X4_of sc 9 (nI n) 1 = some (nI v) ∧ M_ofKind sm (nI n) 1 = some (nI v) := by
  have h8 := T.k8
  obtain ⟨a, b, c, _, _, h1, h2, _, x0, x1, x2, y0, y1, y2⟩ := T.kd n hn
  exact ⟨b, h1, h2, (kind_c (c := 1) T hn (by decide)).trans (congrArg some x1), (m_ofKind (c := 1) (by omega) (by decide)).trans (congrArg some y1)⟩
theorem kind_2 {W H nk nc nl nw np n : Nat} {sc sm : ST} (T : TD W H nk nc nl nw np 8 sc sm) (hn : n < nk) : ∃ v, v ≤ 6 ∧ C_X4_of sc 9 (nI n) 2 = some (nI v) ∧ M_ofKind sm (nI n) 2 = some (nI v) := by
  have h8 := T.k8
  obtain ⟨a, b, c, _, _, _, _, h1, x0, x1, x2, y0, y1, y2⟩ := T.kd n hn
  exact ⟨c, h1, (kind_c (c := 2) T hn (by decide)).trans (congrArg some x2), (m_ofKind (c := 2) (by omega) (by decide)).trans (congrArg some y2)⟩
theorem cross_sim {W H nk nc nl nw np : Nat} {sc sm : ST} (T : TD W H nk nc nl nw np 8 sc sm) (x y : Int32) : ∃ r, C_X7_crossing sc 8 y x = some r ∧ M_crossOf sm x y = some r ∧ (r = -1 ∨ ∃ c, c < nk ∧ r = nI c) := by
  have h10 := T.c10
  unfold C_X7_crossing M_crossOf
  refine lk11 (Q := fun oc om => ∃ r, oc = some r ∧ om = some r ∧ (r = -1 ∨ ∃ c, c < nk ∧ r = nI c)) (I := fun m a b => ∃ i, i + m = nc ∧ a = nI i ∧ b = nI i) ?_ FU nc _ _ (by unfold FU; omega) ⟨0, by omega, rfl, rfl⟩
  rintro m rf rg a b ⟨i, him, rfl, rfl⟩ ih
  simp only [Lt_n]
  rw [show sc.1 (8 + 3) 2 = nI nc from T.c, T.c', ite_iff (nI_leI (by omega) (by omega)), ite_iff (nI_leI (by omega) (by omega))]
  cases m with
  | zero =>
    rw [if_pos (by omega), if_pos (by omega)]
    exact ⟨-1, rfl, rfl, Or.inl rfl⟩
  | succ m =>
    have hi : i < nc := by omega
    obtain ⟨a, b, c, _, _, hcn, x0, x1, x2, y0, y1, y2⟩ := T.cd i hi
    have l : lc (11 + 1) = 40 := rfl
    have o0 : C_X4_of sc 11 (nI i) 0 = some (nI a) := (c_of (c := 0) T.c hi (by omega) (by decide) (by rw [l]; omega) (by decide)).trans (congrArg some x0)
    have o1 : C_X4_of sc 11 (nI i) 1 = some (nI b) := (c_of (c := 1) T.c hi (by omega) (by decide) (by rw [l]; omega) (by decide)).trans (congrArg some x1)
    have o2 : C_X4_of sc 11 (nI i) 2 = some (nI c) := (c_of (c := 2) T.c hi (by omega) (by decide) (by rw [l]; omega) (by decide)).trans (congrArg some x2)
    have n3 : (3 : Int32) * nI i = nI (3 * i) := nI_mul 3 i
    rw [if_neg (by omega), if_neg (by omega), show (8 + 3 : Nat) = 11 from rfl, o0, Bd_some, o1, Bd_some, o2, Bd_some, n3, Gl_n (by omega) (by decide), show nI (3 * i) + (1 : Int32) = nI (3 * i + 1) from nI_1 _, show nI (3 * i) + (2 : Int32) = nI (3 * i + 2) from nI_add _ 2, Gl_n (by omega) (by decide), Gl_n (by omega) (by decide), y0, y1, y2]
    have hit : ∃ r, some (nI c) = some r ∧ some (nI c) = some r ∧ (r = -1 ∨ ∃ c, c < nk ∧ r = nI c) := ⟨nI c, rfl, rfl, Or.inr ⟨c, hcn, rfl⟩⟩
    have nx : ∃ r, rf (nI i + 1) = some r ∧ rg (nI i + 1) = some r ∧ (r = -1 ∨ ∃ c, c < nk ∧ r = nI c) := ih m _ _ (Nat.lt_succ_self m) ⟨i + 1, by omega, nI_1 i, nI_1 i⟩
    by_cases p1 : nI a = x <;> by_cases p2 : nI a = y <;> by_cases p3 : nI b = x <;> by_cases p4 : nI b = y <;> simp only [p1, p2, p3, p4, if_true, if_false] <;> first | exact hit | exact nx | skip
    all_goals (try (repeat' split) <;> first | exact hit | exact nx)
theorem n_wind : ∀ d, d < 4 → irm (nI ((d + 3) % 4) + 1) 4 = nI d := by decide +kernel
theorem n_turn : ∀ d, d < 4 → irm (nI d + 3) 4 = nI ((d + 3) % 4) := by decide +kernel
theorem m_wind {W H nk b : Nat} {sc sm : ST} (L : LD W H nk b sc sm) : M_wind sm = sc.1 b 3 := by
  obtain ⟨d, hd, e1, e2⟩ := L.wind
  unfold M_wind
  rw [Lt_e, e1, e2]
  exact n_wind d hd
theorem n_dry : ∀ n, n ≤ 9 → imx (0 : Int32) (nI n - 1) = nI (n - 1) ∧ (∀ s : ST, M_held s (nI n + -1) 0 9 = nI (n - 1)) ∧ ∀ s : ST, M_held s (nI n + 0) 0 9 = nI n := by
  have h : ∀ n, n < 10 → imx (0 : Int32) (nI n - 1) = nI (n - 1) ∧ (if (0 : Int32) ≤ nI n + -1 then (if nI n + -1 ≤ 9 then nI n + -1 else 9) else 0) = nI (n - 1) ∧ (if (0 : Int32) ≤ nI n + 0 then (if nI n + 0 ≤ 9 then nI n + 0 else 9) else 0) = nI n := by decide +kernel
  intro n hn
  obtain ⟨a, b, c⟩ := h n (by omega)
  exact ⟨a, fun _ => b, fun _ => c⟩
theorem n_rain : ∀ n g, n ≤ 9 → g ≤ 9 → ∃ v, v ≤ 9 ∧ imn (9 : Int32) (nI n + imx (1 : Int32) (nI g / 3)) = nI v ∧ ∀ s : ST, M_held s (nI n + M_greater s 1 (nI g / 3)) 0 9 = nI v := by
  have h : ∀ n, n < 10 → ∀ g, g < 10 → imn (9 : Int32) (nI n + imx (1 : Int32) (nI g / 3)) = nI (min 9 (n + max 1 (g / 3))) ∧ (if (0 : Int32) ≤ nI n + (if (1 : Int32) ≤ nI g / 3 then nI g / 3 else 1) then (if nI n + (if (1 : Int32) ≤ nI g / 3 then nI g / 3 else 1) ≤ 9 then nI n + (if (1 : Int32) ≤ nI g / 3 then nI g / 3 else 1) else 9) else 0) = nI (min 9 (n + max 1 (g / 3))) := by decide +kernel
  intro n g hn hg
  obtain ⟨a, b⟩ := h n (by omega) g (by omega)
  exact ⟨_, by omega, a, fun _ => b⟩
theorem n_cross : ∀ g h, g ≤ 9 → h ≤ 9 → ∃ v, 1 ≤ v ∧ v ≤ 9 ∧ imn (9 : Int32) (imx (nI g) (nI h) + 1) = nI v ∧ ∀ s : ST, M_held s (M_greater s (nI g) (nI h) + 1) 0 9 = nI v := by
  have q : ∀ g, g < 10 → ∀ h, h < 10 → imn (9 : Int32) (imx (nI g) (nI h) + 1) = nI (min 9 (max g h + 1)) ∧ (if (0 : Int32) ≤ (if nI g ≤ nI h then nI h else nI g) + 1 then (if (if nI g ≤ nI h then nI h else nI g) + 1 ≤ 9 then (if nI g ≤ nI h then nI h else nI g) + 1 else 9) else 0) = nI (min 9 (max g h + 1)) := by decide +kernel
  intro g h hg hh
  obtain ⟨a, b⟩ := q g (by omega) h (by omega)
  exact ⟨_, by omega, by omega, a, fun _ => b⟩
theorem i_nlt {x y : Int32} : ¬ x < y ↔ y ≤ x := by
  rw [fa_le, fa_lt]
  omega
theorem rd1 {s : ST} {a i j : Nat} {x : Int32} : (ups s a i x).1 a j = if j = i then x else s.1 a j := by
  rw [ups_eq]
  rfl
theorem rd2 {s : ST} {a p q j : Nat} {x y : Int32} : (ups (ups s a p x) a q y).1 a j = if j = q then y else if j = p then x else s.1 a j := by
  rw [rd1, rd1]
theorem rd3 {s : ST} {a p q r j : Nat} {x y z : Int32} : (ups (ups (ups s a p x) a q y) a r z).1 a j = if j = r then z else if j = q then y else if j = p then x else s.1 a j := by
  rw [rd1, rd1, rd1]
theorem ift0 {A : Type} (x y : A) : (if (if false = true then (1 : Int32) else 0) = 0 then x else y) = x := if_pos rfl
theorem ift1 {A : Type} (x y : A) : (if (if true = true then (1 : Int32) else 0) = 0 then x else y) = y := if_neg (by decide)
