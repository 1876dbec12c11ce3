/-! # stage 2: a text has come to its end -/
def tc (s s' : ST) : Prop := agr [49, 51, 52, 53, 56, 57, 58, 59, 60, 61, 62, 63, 66, 67, 68, 69] s s' ∧ ∀ c, c ∈ [56, 58, 61, 66, 68] → s'.1 c 0 = s.1 c 0
def tm (s s' : ST) : Prop := agr [0, 9, 10, 11, 12, 13, 14, 15, 16, 17, 18, 19] s s' ∧ (∀ j, j ∉ [0, 12, 13, 14, 15, 16, 25, 26, 27, 29, 30, 31, 32, 33, 38, 39] → s'.1 0 j = s.1 0 j) ∧ (∀ c, c ∈ [9, 10, 11, 12] → ∀ i, i < 32 → s'.1 c i = s.1 c i) ∧ (∀ c, c ∈ [13, 14] → ∀ i, i < 800 → s'.1 c i = s.1 c i) ∧ (∀ i, i < 24 → s'.1 16 i = s.1 16 i) ∧ (∀ i, i < 30 → s'.1 17 i = s.1 17 i) ∧ (∀ i, i < 40 → s'.1 18 i = s.1 18 i) ∧ ∀ i, i < 64 → s'.1 19 i = s.1 19 i
theorem gc.t {s s' : ST} (h : gc s s') : tc s s' := ⟨h.1.mono (by decide), h.2.2⟩
theorem gm.t {s s' : ST} (h : gm s s') : tm s s' := ⟨h.1, fun j hj => h.2.1 j (by simp only [List.mem_cons, List.not_mem_nil, or_false, not_or] at hj ⊢; omega), h.2.2⟩
theorem tc.tr {a b c : ST} (h : tc a b) (k : tc b c) : tc a c := ⟨h.1.tr k.1, fun j hj => (k.2 j hj).trans (h.2 j hj)⟩
theorem tm.tr {a b c : ST} (h : tm a b) (k : tm b c) : tm a c := by
  obtain ⟨h1, h2, h3, h4, h5, h6, h7, h8⟩ := h
  obtain ⟨k1, k2, k3, k4, k5, k6, k7, k8⟩ := k
  exact ⟨h1.tr k1, fun j hj => (k2 j hj).trans (h2 j hj), fun c hc i hi => (k3 c hc i hi).trans (h3 c hc i hi), fun c hc i hi => (k4 c hc i hi).trans (h4 c hc i hi), fun i hi => (k5 i hi).trans (h5 i hi), fun i hi => (k6 i hi).trans (h6 i hi), fun i hi => (k7 i hi).trans (h7 i hi), fun i hi => (k8 i hi).trans (h8 i hi)⟩
theorem tm.of0 {s s' : ST} (h : agr [0] s s') (h0 : ∀ j, j ∉ [0, 12, 13, 14, 15, 16, 25, 26, 27, 29, 30, 31, 32, 33, 38, 39] → s'.1 0 j = s.1 0 j) : tm s s' :=
  ⟨h.mono (by decide), h0, fun c hc i _ => by rw [(h c (by simp only [List.mem_cons, List.not_mem_nil, or_false] at hc ⊢; omega)).1], fun c hc i _ => by rw [(h c (by simp only [List.mem_cons, List.not_mem_nil, or_false] at hc ⊢; omega)).1], fun i _ => by rw [(h 16 (by decide)).1], fun i _ => by rw [(h 17 (by decide)).1], fun i _ => by rw [(h 18 (by decide)).1], fun i _ => by rw [(h 19 (by decide)).1]⟩
theorem tm.u0 {s s' : ST} {j : Nat} {x : Int32} (h : tm s s') (hj : j ∈ [0, 12, 13, 14, 15, 16, 25, 26, 27, 29, 30, 31, 32, 33, 38, 39]) : tm s (ups s' 0 j x) :=
  h.tr (tm.of0 (agr.rf.ups (by decide)) (fun i hi => by rw [rd1, if_neg (by rintro rfl; exact hi hj)]))
/-! the four parts of what was told -/
def TDk (nk nc : Nat) (sc sm : ST) : Prop := sc.1 9 2 = nI nk ∧ sm.1 0 34 = nI nk ∧ nk ≤ 8 ∧ (∀ i, i < nk → ∃ a b c, 1 ≤ a ∧ a ≤ 20 ∧ 1 ≤ b ∧ b ≤ 9 ∧ c ≤ 6 ∧ sc.1 10 (4 * i) = nI a ∧ sc.1 10 (4 * i + 1) = nI b ∧ sc.1 10 (4 * i + 2) = nI c ∧ sm.1 16 (3 * i) = nI a ∧ sm.1 16 (3 * i + 1) = nI b ∧ sm.1 16 (3 * i + 2) = nI c) ∧ sc.1 11 2 = nI nc ∧ sm.1 0 36 = nI nc ∧ nc ≤ 10 ∧ (∀ i, i < nc → ∃ a b c, a < nk ∧ b < nk ∧ c < nk ∧ sc.1 12 (4 * i) = nI a ∧ sc.1 12 (4 * i + 1) = nI b ∧ sc.1 12 (4 * i + 2) = nI c ∧ sm.1 17 (3 * i) = nI a ∧ sm.1 17 (3 * i + 1) = nI b ∧ sm.1 17 (3 * i + 2) = nI c)
def TDl (nl : Nat) (sc sm : ST) : Prop := sc.1 14 2 = nI nl ∧ sm.1 8 1 = nI nl ∧ nl ≤ 16 ∧ (∀ i, i < nl → ∃ w p q r t1, w ≤ 1 ∧ p ≤ q ∧ q ≤ r ∧ r ≤ 400 ∧ sc.1 15 (4 * i) = nI w ∧ sc.1 15 (4 * i + 1) = nI p ∧ sc.1 15 (4 * i + 2) = nI q ∧ sc.1 15 (4 * i + 3) = nI r ∧ sm.1 9 (16 + i) = nI w ∧ sm.1 10 (16 + i) = nI p ∧ sm.1 11 (16 + i) = nI q ∧ sm.1 12 (16 + i) = nI r ∧ (∀ j, p ≤ j → j < r → PR (sc.1 16 j) (sm.1 13 (400 + j)) (sm.1 14 (400 + j))) ∧ tyR (fun j => sm.1 13 (400 + j)) (fun j => sm.1 14 (400 + j)) (q - p) p [] = some [t1] ∧ (q < r → tyR (fun j => sm.1 13 (400 + j)) (fun j => sm.1 14 (400 + j)) (r - q) q [] = some [1]))
def TDw (W H nk nw : Nat) (sc sm : ST) : Prop := sc.1 19 2 = nI nw ∧ sm.1 0 40 = nI nw ∧ nw ≤ 10 ∧ (∀ i, i < nw → ∃ c d v, c < 64 ∧ cl W H c ∧ d ≤ 999 ∧ 1 ≤ v ∧ v ≤ 99 ∧ sc.1 20 (4 * i + 1) = nI c ∧ sc.1 20 (4 * i + 2) = nI d ∧ sc.1 20 (4 * i + 3) = nI v ∧ sm.1 18 (4 * i + 1) = nI c ∧ sm.1 18 (4 * i + 2) = nI d ∧ sm.1 18 (4 * i + 3) = nI v ∧ ((sc.1 20 (4 * i) = -1 ∧ sm.1 18 (4 * i) = 8) ∨ ∃ n, n < nk ∧ sc.1 20 (4 * i) = nI n ∧ sm.1 18 (4 * i) = nI n))
def TDp (W H nk np : Nat) (sc sm : ST) : Prop := sc.1 21 2 = nI np ∧ sm.1 0 42 = nI np ∧ np ≤ 16 ∧ (∀ i, i < np → ∃ d, d ≤ 999 ∧ sc.1 22 (4 * i) = nI d ∧ sm.1 19 (4 * i) = nI d ∧ ((∃ n c, n < nk ∧ c < 64 ∧ cl W H c ∧ sc.1 22 (4 * i + 1) = 0 ∧ sm.1 19 (4 * i + 1) = 0 ∧ sc.1 22 (4 * i + 2) = nI n ∧ sc.1 22 (4 * i + 3) = nI c ∧ sm.1 19 (4 * i + 2) = nI n ∧ sm.1 19 (4 * i + 3) = nI c) ∨ (∃ c, c < 64 ∧ cl W H c ∧ sc.1 22 (4 * i + 1) = 1 ∧ sm.1 19 (4 * i + 1) = 1 ∧ sc.1 22 (4 * i + 3) = nI c ∧ sm.1 19 (4 * i + 3) = nI c) ∨ (∃ w, w < 4 ∧ sc.1 22 (4 * i + 1) = 2 ∧ sm.1 19 (4 * i + 1) = 2 ∧ sc.1 22 (4 * i + 2) = nI w ∧ sm.1 19 (4 * i + 3) = nI w)))
theorem TD.sec {W H nk nc nl nw np : Nat} {sc sm : ST} (h : TD W H nk nc nl nw np 8 sc sm) : TDk nk nc sc sm ∧ TDl nl sc sm ∧ TDw W H nk nw sc sm ∧ TDp W H nk np sc sm :=
  ⟨⟨h.k, h.k', h.k8, h.kd, h.c, h.c', h.c10, h.cd⟩, ⟨h.l, h.l', h.l16, h.ld⟩, ⟨h.w, h.w', h.w10, h.wd⟩, ⟨h.p, h.p', h.p16, h.pd⟩⟩
theorem TD_of {W H nk nc nl nw np : Nat} {sc sm : ST} (k : TDk nk nc sc sm) (l : TDl nl sc sm) (w : TDw W H nk nw sc sm) (p : TDp W H nk np sc sm) : TD W H nk nc nl nw np 8 sc sm :=
  ⟨k.1, k.2.1, k.2.2.1, k.2.2.2.1, k.2.2.2.2.1, k.2.2.2.2.2.1, k.2.2.2.2.2.2.1, k.2.2.2.2.2.2.2, l.1, l.2.1, l.2.2.1, l.2.2.2, w.1, w.2.1, w.2.2.1, w.2.2.2, p.1, p.2.1, p.2.2.1, p.2.2.2⟩
theorem TDk.mv {nk nc : Nat} {sc sm sc' sm' : ST} (h : TDk nk nc sc sm) (c : ∀ x, x ∈ [9, 10, 11, 12] → sc'.1 x = sc.1 x) (m34 : sm'.1 0 34 = sm.1 0 34) (m36 : sm'.1 0 36 = sm.1 0 36) (m16 : ∀ i, i < 24 → sm'.1 16 i = sm.1 16 i) (m17 : ∀ i, i < 30 → sm'.1 17 i = sm.1 17 i) : TDk nk nc sc' sm' := by
  obtain ⟨h1, h2, h3, h4, h5, h6, h7, h8⟩ := h
  refine ⟨by rw [c 9 (by decide)]; exact h1, m34.trans h2, h3, fun i hi => ?_, by rw [c 11 (by decide)]; exact h5, m36.trans h6, h7, fun i hi => ?_⟩
  · rw [c 10 (by decide), m16 _ (by omega), m16 _ (by omega), m16 _ (by omega)]; exact h4 i hi
  · rw [c 12 (by decide), m17 _ (by omega), m17 _ (by omega), m17 _ (by omega)]; exact h8 i hi
theorem TDl.mv {nl : Nat} {sc sm sc' sm' : ST} (h : TDl nl sc sm) (c : ∀ x, x ∈ [14, 15, 16] → sc'.1 x = sc.1 x) (m8 : sm'.1 8 1 = sm.1 8 1) (m9 : ∀ x, x ∈ [9, 10, 11, 12] → ∀ i, i < 32 → sm'.1 x i = sm.1 x i) (m13 : ∀ x, x ∈ [13, 14] → ∀ i, i < 800 → sm'.1 x i = sm.1 x i) : TDl nl sc' sm' := by
  obtain ⟨h1, h2, h3, h4⟩ := h
  refine ⟨by rw [c 14 (by decide)]; exact h1, m8.trans h2, h3, fun i hi => ?_⟩
  obtain ⟨w, p, q, r, t1, a1, a2, a3, a4, a5, a6, a7, a8, a9, a10, a11, a12, a13, a14, a15⟩ := h4 i hi
  rw [c 15 (by decide), c 16 (by decide), m9 9 (by decide) _ (by omega), m9 10 (by decide) _ (by omega), m9 11 (by decide) _ (by omega), m9 12 (by decide) _ (by omega)]
  refine ⟨w, p, q, r, t1, a1, a2, a3, a4, a5, a6, a7, a8, a9, a10, a11, a12, fun j j1 j2 => ?_, ?_, fun hq => ?_⟩
  · rw [m13 13 (by decide) _ (by omega), m13 14 (by decide) _ (by omega)]
    exact a13 j j1 j2
  · exact (tyR_cong (fun j j1 j2 => ⟨m13 13 (by decide) _ (by omega), m13 14 (by decide) _ (by omega)⟩)).trans a14
  · exact (tyR_cong (fun j j1 j2 => ⟨m13 13 (by decide) _ (by omega), m13 14 (by decide) _ (by omega)⟩)).trans (a15 hq)
theorem TDw.mv {W H nk nw : Nat} {sc sm sc' sm' : ST} (h : TDw W H nk nw sc sm) (c : ∀ x, x ∈ [19, 20] → sc'.1 x = sc.1 x) (m40 : sm'.1 0 40 = sm.1 0 40) (m18 : ∀ i, i < 40 → sm'.1 18 i = sm.1 18 i) : TDw W H nk nw sc' sm' := by
  obtain ⟨h1, h2, h3, h4⟩ := h
  refine ⟨by rw [c 19 (by decide)]; exact h1, m40.trans h2, h3, fun i hi => ?_⟩
  rw [c 20 (by decide), m18 _ (by omega), m18 _ (by omega), m18 _ (by omega), m18 _ (by omega)]; exact h4 i hi
theorem TDp.mv {W H nk np : Nat} {sc sm sc' sm' : ST} (h : TDp W H nk np sc sm) (c : ∀ x, x ∈ [21, 22] → sc'.1 x = sc.1 x) (m42 : sm'.1 0 42 = sm.1 0 42) (m19 : ∀ i, i < 64 → sm'.1 19 i = sm.1 19 i) : TDp W H nk np sc' sm' := by
  obtain ⟨h1, h2, h3, h4⟩ := h
  refine ⟨by rw [c 21 (by decide)]; exact h1, m42.trans h2, h3, fun i hi => ?_⟩
  rw [c 22 (by decide), m19 _ (by omega), m19 _ (by omega), m19 _ (by omega), m19 _ (by omega)]; exact h4 i hi
theorem R8_text {W H nk nc nl nw np nk' nc' nl' nw' np' : Nat} {sc sm sc' sm' : ST} (R : R8 W H nk nc nl nw np sc sm) (L : LD W H nk' 1 sc' sm') (T : TD W H nk' nc' nl' nw' np' 8 sc' sm') (a : ∀ c, c = 0 ∨ (23 ≤ c ∧ c < 49) → sc'.1 c = sc.1 c ∧ sc'.2 c = sc.2 c) (k : ∀ c, c ∈ [9, 11, 14, 19, 21, 56, 58, 61, 66, 68] → sc'.1 c 0 = sc.1 c 0) (P : TP sc' sm') (S : HS W H nk' sc' sm') (hl : HL sm') (b1 : sm'.1 1 0 = sm.1 1 0 ∧ sm'.1 1 2 = sm.1 1 2) (b : ∀ c, c ∈ [5, 7, 23] → sm'.1 c = sm.1 c) (b0 : sm'.1 0 5 = sm.1 0 5 ∧ sm'.1 0 51 = sm.1 0 51) : R8 W H nk' nc' nl' nw' np' sc' sm' :=
  ⟨L, T, BK_agr R.B (by rw [(a 23 (by omega)).1]) (a 24 (by omega)).1 b1.2 (b 5 (by decide)), by rw [b1.1]; exact R.d,
   KS_agr R.K (fun c hc => by
    by_cases q : c ∈ [9, 11, 14, 19, 21, 56, 58, 61, 66, 68]
    · exact k c q
    · rw [(a c (by simp only [List.mem_cons, List.not_mem_nil, or_false, not_or] at hc q; omega)).1]),
   P, S, hl, IM_agr R.I (by rw [(a 0 (by omega)).1]) (fun c h1 h2 _ _ => a c (by omega)) b0.2 (b 23 (by decide)), by rw [b0.1]; exact R.z, fun i hi => by rw [b 7 (by decide)]; exact R.w i hi⟩
theorem TP_0 {sc sm : ST} (h1 : sc.1 49 1 = 0) (h12 : sm.1 0 12 = 0) (h8 : sc.1 49 8 = sm.1 0 32) (h9 : sc.1 49 9 = sm.1 0 33) : TP sc sm := ⟨⟨0, by decide, h1, h12, fun i hi => absurd hi (Nat.not_lt_zero i)⟩, h8, h9⟩
/-- nothing is taken -/
theorem text_keep {W H nk nc nl nw np : Nat} {sc sm s m : ST} (R : R8 W H nk nc nl nw np sc sm) (c : tc sc s) (d : tm sm m) (h8 : s.1 49 8 = m.1 0 32) (h9 : s.1 49 9 = m.1 0 33) : Rel (ups s 49 1 0) (ups m 0 12 0) := by
  obtain ⟨c1, c2⟩ := c
  obtain ⟨d1, d2, d3, d4, d5, d6, d7, d8⟩ := d
  have ec : ∀ x, x ∉ [49, 51, 52, 53, 56, 57, 58, 59, 60, 61, 62, 63, 66, 67, 68, 69] → (ups s 49 1 0).1 x = sc.1 x ∧ (ups s 49 1 0).2 x = sc.2 x := fun x hx => (c1.ups (by decide)) x hx
  have e0 : ∀ j, j ∉ [0, 12, 13, 14, 15, 16, 25, 26, 27, 29, 30, 31, 32, 33, 38, 39] → (ups m 0 12 0).1 0 j = sm.1 0 j := fun j hj => by rw [rd1, if_neg (by rintro rfl; exact hj (by decide))]; exact d2 j hj
  have em : ∀ x, x ∉ [0, 9, 10, 11, 12, 13, 14, 15, 16, 17, 18, 19] → (ups m 0 12 0).1 x = sm.1 x := fun x hx => ((d1.ups (by decide)) x hx).1
  have en : ∀ x, x ≠ 0 → (ups m 0 12 0).1 x = m.1 x := fun x hx => ups_ne hx
  obtain ⟨Tk, Tl, Tw, Tp⟩ := R.T.sec
  refine ⟨W, H, nk, nc, nl, nw, np, R8_text R (LD_agr R.L (fun x hx => (ec x (by simp only [List.mem_cons, List.not_mem_nil, or_false] at hx ⊢; omega)).1) (ec 1 (by decide)).2 (fun i hi => e0 i (by simp only [List.mem_cons, List.not_mem_nil, or_false] at hi ⊢; omega)) (em 1 (by decide)) (em 4 (by decide))) (TD_of (Tk.mv (fun x hx => (ec x (by simp only [List.mem_cons, List.not_mem_nil, or_false] at hx ⊢; omega)).1) (e0 34 (by decide)) (e0 36 (by decide)) (fun i hi => by rw [en 16 (by decide)]; exact d5 i hi) (fun i hi => by rw [en 17 (by decide)]; exact d6 i hi)) (Tl.mv (fun x hx => (ec x (by simp only [List.mem_cons, List.not_mem_nil, or_false] at hx ⊢; omega)).1) (by rw [em 8 (by decide)]) (fun x hx i hi => by rw [en x (by simp only [List.mem_cons, List.not_mem_nil, or_false] at hx; omega)]; exact d3 x hx i hi) (fun x hx i hi => by rw [en x (by simp only [List.mem_cons, List.not_mem_nil, or_false] at hx; omega)]; exact d4 x hx i hi)) (Tw.mv (fun x hx => (ec x (by simp only [List.mem_cons, List.not_mem_nil, or_false] at hx ⊢; omega)).1) (e0 40 (by decide)) (fun i hi => by rw [en 18 (by decide)]; exact d7 i hi)) (Tp.mv (fun x hx => (ec x (by simp only [List.mem_cons, List.not_mem_nil, or_false] at hx ⊢; omega)).1) (e0 42 (by decide)) (fun i hi => by rw [en 19 (by decide)]; exact d8 i hi))) (fun x hx => ec x (by simp only [List.mem_cons, List.not_mem_nil, or_false]; omega)) (fun x hx => ?_) (TP_0 (by rw [rd1, if_pos rfl]) (by rw [rd1, if_pos rfl]) (by rw [rd1, if_neg (by decide), rd1, if_neg (by decide)]; exact h8) (by rw [rd1, if_neg (by decide), rd1, if_neg (by decide)]; exact h9)) (HS_agr R.S (ec 80 (by decide)).1 (ec 82 (by decide)).1 (fun x h1 h2 => ec x (by simp only [List.mem_cons, List.not_mem_nil, or_false]; omega)) (e0 3 (by decide)) (fun i hi => e0 i (by simp only [List.mem_cons, List.not_mem_nil, or_false] at hi ⊢; omega)) (em 2 (by decide)) (em 4 (by decide))) (HL_agr R.hl (by rw [em 1 (by decide)]) (em 2 (by decide)) (e0 3 (by decide))) (by rw [em 1 (by decide)]; exact ⟨rfl, rfl⟩) (fun x hx => em x (by simp only [List.mem_cons, List.not_mem_nil, or_false] at hx ⊢; omega)) ⟨e0 5 (by decide), e0 51 (by decide)⟩⟩
  by_cases q : x ∈ [56, 58, 61, 66, 68]
  · have q' := q
    simp only [List.mem_cons, List.not_mem_nil, or_false] at q'
    rw [ups_ne (by omega)]
    exact c2 x q
  · rw [(ec x (by simp only [List.mem_cons, List.not_mem_nil, or_false] at hx q ⊢; omega)).1]
/-- kinds are taken -/
theorem text_kinds {W H nk nc nl nw np a b : Nat} {sc sm s m : ST} (R : R8 W H nk nc nl nw np sc sm) (c : tc sc s) (d : tm sm m) (h8 : s.1 49 8 = m.1 0 32) (h9 : s.1 49 9 = m.1 0 33) (D : DK a b s m) : ∃ s2 m2, (Bd (C_X4_copy s 9 56) fun s4 => Bd (C_X4_copy s4 11 58) fun s5 => some ((s5.1 9 2) + (s5.1 11 2), s5)) = some (nI (a + b), s2) ∧ M_takesKinds (ups m 0 12 0) = some m2 ∧ Rel (ups (C_X0_forget (C_X4_clear (C_X4_clear (C_X1_clearSeedsAndStorms s2 1) 19) 21)) 49 1 0) m2 := by
  obtain ⟨c1, c2⟩ := c
  obtain ⟨d1, d2, d3, d4, d5, d6, d7, d8⟩ := d
  obtain ⟨D1, D2, D3, D4, D5, D6, D7, D8, D9, D10⟩ := D
  obtain ⟨s4, x1, x2, x3, x4, x5⟩ := c_tcopy (s := s) (b := 9) (x := 56) (n := a) (M := 8) D5 (by rw [(c1 9 (by decide)).1]; exact R.K.k9) D1 (by decide) (show 4 * a ≤ 32 by omega) (show 4 * a ≤ 32 by omega)
  obtain ⟨s5, y1, y2, y3, y4, y5⟩ := c_tcopy (s := s4) (b := 11) (x := 58) (n := b) (M := 10) (by rw [(x2 58 (by decide)).1]; exact D6) (by rw [(x2 11 (by decide)).1, (c1 11 (by decide)).1]; exact R.K.k11) D2 (by decide) (show 4 * b ≤ 40 by omega) (show 4 * b ≤ 40 by omega)
  obtain ⟨m2, z1, z2, z3, z4, z5, z6, z7, z8, z9, z10, z11, z12⟩ := m_takesKinds (s := ups m 0 12 0) (by rw [rd1, if_neg (by decide)]; exact D7) (by rw [rd1, if_neg (by decide)]; exact D8) D1 D2
  have e92 : s5.1 9 2 = nI a := by rw [(y2 9 (by decide)).1]; exact x3
  refine ⟨s5, m2, by rw [x1, Bd_some, y1, Bd_some, e92, y3, nI_add], z1, ?_⟩
  obtain ⟨S, hS⟩ : ∃ S, S = ups (C_X0_forget (C_X4_clear (C_X4_clear (C_X1_clearSeedsAndStorms s5 1) 19) 21)) 49 1 0 := ⟨_, rfl⟩
  have hS' : S = ups (ups (ups (ups (upl (upl s5 1 8 0) 1 9 0) 19 2 0) 21 2 0) 80 3 0) 49 1 0 := hS
  rw [← hS]
  clear hS
  have f5 : agr [9, 10, 11, 12, 49, 51, 52, 53, 56, 57, 58, 59, 60, 61, 62, 63, 66, 67, 68, 69] sc s5 := ((c1.mono (by decide)).tr (x2.mono (by decide))).tr (y2.mono (by decide))
  have fS : agr [1, 19, 21, 80, 49] s5 S := by rw [hS']; exact (((((agr.rf.upl (by decide)).upl (by decide)).ups (by decide)).ups (by decide)).ups (by decide)).ups (by decide)
  have ec : ∀ x, x ∉ [1, 19, 21, 80, 9, 10, 11, 12, 49, 51, 52, 53, 56, 57, 58, 59, 60, 61, 62, 63, 66, 67, 68, 69] → S.1 x = sc.1 x ∧ S.2 x = sc.2 x := fun x hx => ((f5.mono (fun y hy => by simp only [List.mem_cons, List.not_mem_nil, or_false] at hy ⊢; omega)).tr (fS.mono (fun y hy => by simp only [List.mem_cons, List.not_mem_nil, or_false] at hy ⊢; omega))) x hx
  have S1 : ∀ x i, (x, i) ≠ (19, 2) → (x, i) ≠ (21, 2) → (x, i) ≠ (80, 3) → (x, i) ≠ (49, 1) → S.1 x i = s5.1 x i := fun x i h1 h2 h3 h4 => by
    rw [hS', ups_pl h4, ups_pl h3, ups_pl h2, ups_pl h1]
    rfl
  have ne : ∀ {x i y j : Nat}, ¬ (x = y ∧ i = j) → (x, i) ≠ (y, j) := fun h e => by injection e with e1 e2; exact h ⟨e1, e2⟩
  have S1' : ∀ x i, ¬ (x = 19 ∧ i = 2) → ¬ (x = 21 ∧ i = 2) → ¬ (x = 80 ∧ i = 3) → ¬ (x = 49 ∧ i = 1) → S.1 x i = s5.1 x i := fun x i h1 h2 h3 h4 => S1 x i (ne h1) (ne h2) (ne h3) (ne h4)
  have col1 : S.1 1 = sc.1 1 := by
    funext i
    rw [S1' 1 i (by omega) (by omega) (by omega) (by omega), (f5 1 (by decide)).1]
  have L7 : S.2 1 7 = sc.2 1 7 := by
    rw [hS', ← (f5 1 (by decide)).2]
    simp [ups_2, upl_at]
  have L8 : S.2 1 8 = 0 := by rw [hS']; simp [ups_2, upl_at]
  have L9 : S.2 1 9 = 0 := by rw [hS']; simp [ups_2, upl_at]
  have e0 : ∀ j, j ∉ [0, 3, 12, 13, 14, 15, 16, 25, 26, 27, 29, 30, 31, 32, 33, 34, 36, 38, 39, 40, 42] → m2.1 0 j = sm.1 0 j := fun j hj => by
    rw [z3 j (by simp only [List.mem_cons, List.not_mem_nil, or_false, not_or] at hj ⊢; omega), rd1, if_neg (by rintro rfl; exact hj (by decide))]
    exact d2 j (by simp only [List.mem_cons, List.not_mem_nil, or_false, not_or] at hj ⊢; omega)
  have en : ∀ x, x ∉ [0, 1, 16, 17] → m2.1 x = m.1 x := fun x hx => by
    rw [(z2 x hx).1, ups_ne (by rintro rfl; exact hx (by decide))]
  have em : ∀ x, x ∉ [0, 1, 9, 10, 11, 12, 13, 14, 15, 16, 17, 18, 19] → m2.1 x = sm.1 x := fun x hx => by
    rw [en x (by simp only [List.mem_cons, List.not_mem_nil, or_false, not_or] at hx ⊢; omega)]
    exact (d1 x (by simp only [List.mem_cons, List.not_mem_nil, or_false, not_or] at hx ⊢; omega)).1
  have m1 : ∀ k, (¬ (69 ≤ k ∧ k < 133) ∧ ¬ (197 ≤ k ∧ k < 261)) → m2.1 1 k = sm.1 1 k := fun k hk => by rw [z11 k hk, ups_ne (by decide), (d1 1 (by decide)).1]
  have LN : LD W H a 1 S m2 := by
    have L := R.L
    have cc : ∀ j, 1 ≤ j → j ≤ 7 → S.1 j = sc.1 j := fun j j1 j2 => by
      by_cases q : j = 1
      · rw [q]; exact col1
      · exact (ec j (by simp only [List.mem_cons, List.not_mem_nil, or_false, not_or]; omega)).1
    refine ⟨by rw [col1]; exact L.w, by rw [e0 6 (by decide)]; exact L.w', by rw [col1]; exact L.h, by rw [e0 7 (by decide)]; exact L.h', L.W2, L.W7, L.H2, L.H7, D1, by rw [col1, m1 0 (by omega)]; exact L.day, by rw [col1, m1 3 (by omega)]; exact L.wind, by rw [col1, e0 8 (by decide)]; exact L.birds, by rw [col1, m1 4 (by omega)]; exact L.harm, by rw [col1, m1 1 (by omega)]; exact L.draws, fun k hk hcc => ?_, fun k hk => ?_, fun k hk => ?_, fun k hk h => ?_, fun k hk _ => (z12 k hk).1, fun k hk h => ?_, fun k hk _ => (z12 k hk).2⟩
    · rw [cc (1 + 1) (by omega) (by omega), m1 (5 + k) (by omega)]; exact L.wet k hk hcc
    · rw [em 4 (by decide), L7]; exact L.hed k hk
    · rw [L7]; exact L.hcl k hk
    · rw [L8, bq_0] at h; cases h
    · rw [L9, bq_0] at h; cases h
  obtain ⟨_, Tl, _, _⟩ := R.T.sec
  have TN : TD W H a b nl 0 0 8 S m2 := by
    refine TD_of ⟨by rw [S1' 9 2 (by omega) (by omega) (by omega) (by omega)]; exact e92, z4, D1, fun i hi => ?_, by rw [S1' 11 2 (by omega) (by omega) (by omega) (by omega)]; exact y3, z5, D2, fun i hi => ?_⟩ (Tl.mv (fun x hx => (ec x (by simp only [List.mem_cons, List.not_mem_nil, or_false] at hx ⊢; omega)).1) (by rw [em 8 (by decide)]) (fun x hx i hi => by rw [en x (by simp only [List.mem_cons, List.not_mem_nil, or_false] at hx ⊢; omega)]; exact d3 x hx i hi) (fun x hx i hi => by rw [en x (by simp only [List.mem_cons, List.not_mem_nil, or_false] at hx ⊢; omega)]; exact d4 x hx i hi)) ⟨by rw [hS']; simp [ups_at]; rfl, z6, by decide, fun i hi => absurd hi (Nat.not_lt_zero i)⟩ ⟨by rw [hS']; simp [ups_at]; rfl, z7, by decide, fun i hi => absurd hi (Nat.not_lt_zero i)⟩
    · obtain ⟨x, y, z, g1, g2, g3, g4, g5, g6, g7, g8, g9, g10, g11⟩ := D9 i hi
      have r10 : ∀ t, t < 4 * a → S.1 10 t = s.1 57 t := fun t ht => by rw [S1' 10 t (by omega) (by omega) (by omega) (by omega), (y2 10 (by decide)).1]; exact x5 t ht
      have r16 : ∀ t, t < 3 * a → m2.1 16 t = m.1 16 (24 + t) := fun t ht => by rw [z9 t ht, ups_ne (by decide)]
      exact ⟨x, y, z, g1, g2, g3, g4, g5, by rw [r10 _ (by omega)]; exact g6, by rw [r10 _ (by omega)]; exact g7, by rw [r10 _ (by omega)]; exact g8, by rw [r16 _ (by omega)]; exact g9, by rw [r16 _ (by omega)]; exact g10, by rw [r16 _ (by omega)]; exact g11⟩
    · obtain ⟨x, y, z, g1, g2, g3, g6, g7, g8, g9, g10, g11⟩ := D10 i hi
      have r12 : ∀ t, t < 4 * b → S.1 12 t = s.1 59 t := fun t ht => by rw [S1' 12 t (by omega) (by omega) (by omega) (by omega), y5 t ht, (x2 59 (by decide)).1]
      have r17 : ∀ t, t < 3 * b → m2.1 17 t = m.1 17 (30 + t) := fun t ht => by rw [z10 t ht, ups_ne (by decide)]
      exact ⟨x, y, z, g1, g2, g3, by rw [r12 _ (by omega)]; exact g6, by rw [r12 _ (by omega)]; exact g7, by rw [r12 _ (by omega)]; exact g8, by rw [r17 _ (by omega)]; exact g9, by rw [r17 _ (by omega)]; exact g10, by rw [r17 _ (by omega)]; exact g11⟩
  have BN : BK 23 S m2 := BK_agr R.B (by rw [(ec 23 (by decide)).1]) (ec 24 (by decide)).1 (m1 2 (by omega)) (em 5 (by decide))
  refine ⟨W, H, a, b, nl, 0, 0, R8_text R LN TN (fun x hx => ec x (by simp only [List.mem_cons, List.not_mem_nil, or_false]; omega)) (fun x hx => ?_) (TP_0 (by rw [hS', rd1, if_pos rfl]) (by rw [z3 12 (by decide), rd1, if_pos rfl]) ?_ ?_) (HS_0 R.S (by rw [S1' 80 2 (by omega) (by omega) (by omega) (by omega), (f5 80 (by decide)).1]) (by rw [hS', ups_ne (by decide), rd1, if_pos rfl]) z8) (HL_0 z8 BN) ⟨m1 0 (by omega), m1 2 (by omega)⟩ (fun x hx => em x (by simp only [List.mem_cons, List.not_mem_nil, or_false] at hx ⊢; omega)) ⟨e0 5 (by decide), e0 51 (by decide)⟩⟩
  · have hx' := hx
    simp only [List.mem_cons, List.not_mem_nil, or_false] at hx'
    rw [S1' x 0 (by omega) (by omega) (by omega) (by omega)]
    by_cases q9 : x = 9
    · rw [q9, (y2 9 (by decide)).1, x4 0 (by decide), (c1 9 (by decide)).1]
    by_cases q11 : x = 11
    · rw [q11, y4 0 (by decide), (x2 11 (by decide)).1, (c1 11 (by decide)).1]
    rw [(y2 x (by simp only [List.mem_cons, List.not_mem_nil, or_false]; omega)).1, (x2 x (by simp only [List.mem_cons, List.not_mem_nil, or_false]; omega)).1]
    by_cases q : x ∈ [56, 58, 61, 66, 68]
    · exact c2 x q
    · rw [(c1 x (by simp only [List.mem_cons, List.not_mem_nil, or_false] at q ⊢; omega)).1]
  · rw [S1' 49 8 (by omega) (by omega) (by omega) (by omega), (y2 49 (by decide)).1, (x2 49 (by decide)).1, z3 32 (by decide), rd1, if_neg (by decide)]; exact h8
  · rw [S1' 49 9 (by omega) (by omega) (by omega) (by omega), (y2 49 (by decide)).1, (x2 49 (by decide)).1, z3 33 (by decide), rd1, if_neg (by decide)]; exact h9
