/-! # stage 2: the relation -/
/-- what lies in the image, at the places that it is read back to -/
def im0 (f : Nat → Int32) (g : Nat → Int32) (i : Nat) : Int32 := if i = 6 then g 389 else if i = 7 then g 390 else if i = 8 then g 391 else if i = 34 then g 392 else if i = 36 then g 393 else if i = 40 then g 394 else if i = 42 then g 395 else f i
def img (s : ST) : ST := (fun c i => if c = 0 then im0 (s.1 0) (s.1 23) i else if c = 1 then s.1 23 i else if c = 4 then s.1 23 (396 + i) else if c = 16 then s.1 23 (460 + i) else if c = 17 then s.1 23 (484 + i) else if c = 18 then s.1 23 (514 + i) else if c = 19 then s.1 23 (554 + i) else if c = 5 then s.1 23 (618 + i) else if c = 8 then s.1 23 1218 else if c = 9 then s.1 23 (1219 + 4 * (i - 16)) else if c = 10 then s.1 23 (1220 + 4 * (i - 16)) else if c = 11 then s.1 23 (1221 + 4 * (i - 16)) else if c = 12 then s.1 23 (1222 + 4 * (i - 16)) else if c = 13 then s.1 23 (1283 + 2 * (i - 400)) else if c = 14 then s.1 23 (1284 + 2 * (i - 400)) else s.1 c i, s.2)
def wdL : List Int32 := [32, 103, 117, 115, 116, 32, 104, 97, 114, 109, 32, 119, 104, 101, 110, 32, 111, 114, 32, 97, 110, 100, 32, 110, 111, 116, 32, 107, 105, 110, 100, 32, 119, 101, 116, 32, 115, 111, 105, 108, 32, 98, 101, 115, 105, 100, 101, 32, 100, 97, 121, 32, 101, 100, 103, 101, 32, 104, 101, 100, 103, 101, 115, 32, 115, 116, 111, 114, 109, 32, 108, 97, 115, 116, 115, 32, 115, 112, 114, 101, 97, 100, 32, 99, 114, 111, 115, 115, 32, 119, 105, 116, 104, 32, 116, 111, 32, 119, 97, 110, 116, 32, 99, 97, 108, 109, 32, 97, 116, 32, 111, 110, 32, 119, 111, 114, 116, 104, 32, 115, 111, 119, 32, 119, 101, 101, 100, 32, 110, 111, 114, 116, 104, 32, 101, 97, 115, 116, 32, 115, 111, 117, 116, 104, 32, 119, 101, 115, 116, 32]
def KS (sc : ST) : Prop :=
  (sc.1 9 0 = nI 8) ∧
  (sc.1 11 0 = nI 10) ∧
  (sc.1 14 0 = nI 16) ∧
  (sc.1 19 0 = nI 10) ∧
  (sc.1 21 0 = nI 16) ∧
  (sc.1 23 0 = nI 150) ∧
  (sc.1 33 0 = nI 8) ∧
  (sc.1 35 0 = nI 10) ∧
  (sc.1 38 0 = nI 16) ∧
  (sc.1 43 0 = nI 10) ∧
  (sc.1 45 0 = nI 16) ∧
  (sc.1 47 0 = nI 150) ∧
  (sc.1 56 0 = nI 8) ∧
  (sc.1 58 0 = nI 10) ∧
  (sc.1 61 0 = nI 16) ∧
  (sc.1 66 0 = nI 10) ∧
  (sc.1 68 0 = nI 16)
theorem KS.k9 {sc : ST} (h : KS sc) : sc.1 9 0 = nI 8 := h.1
theorem KS.k11 {sc : ST} (h : KS sc) : sc.1 11 0 = nI 10 := h.2.1
theorem KS.k14 {sc : ST} (h : KS sc) : sc.1 14 0 = nI 16 := h.2.2.1
theorem KS.k19 {sc : ST} (h : KS sc) : sc.1 19 0 = nI 10 := h.2.2.2.1
theorem KS.k21 {sc : ST} (h : KS sc) : sc.1 21 0 = nI 16 := h.2.2.2.2.1
theorem KS.k23 {sc : ST} (h : KS sc) : sc.1 23 0 = nI 150 := h.2.2.2.2.2.1
theorem KS.k33 {sc : ST} (h : KS sc) : sc.1 33 0 = nI 8 := h.2.2.2.2.2.2.1
theorem KS.k35 {sc : ST} (h : KS sc) : sc.1 35 0 = nI 10 := h.2.2.2.2.2.2.2.1
theorem KS.k38 {sc : ST} (h : KS sc) : sc.1 38 0 = nI 16 := h.2.2.2.2.2.2.2.2.1
theorem KS.k43 {sc : ST} (h : KS sc) : sc.1 43 0 = nI 10 := h.2.2.2.2.2.2.2.2.2.1
theorem KS.k45 {sc : ST} (h : KS sc) : sc.1 45 0 = nI 16 := h.2.2.2.2.2.2.2.2.2.2.1
theorem KS.k47 {sc : ST} (h : KS sc) : sc.1 47 0 = nI 150 := h.2.2.2.2.2.2.2.2.2.2.2.1
theorem KS.k56 {sc : ST} (h : KS sc) : sc.1 56 0 = nI 8 := h.2.2.2.2.2.2.2.2.2.2.2.2.1
theorem KS.k58 {sc : ST} (h : KS sc) : sc.1 58 0 = nI 10 := h.2.2.2.2.2.2.2.2.2.2.2.2.2.1
theorem KS.k61 {sc : ST} (h : KS sc) : sc.1 61 0 = nI 16 := h.2.2.2.2.2.2.2.2.2.2.2.2.2.2.1
theorem KS.k66 {sc : ST} (h : KS sc) : sc.1 66 0 = nI 10 := h.2.2.2.2.2.2.2.2.2.2.2.2.2.2.2.1
theorem KS.k68 {sc : ST} (h : KS sc) : sc.1 68 0 = nI 16 := h.2.2.2.2.2.2.2.2.2.2.2.2.2.2.2.2
def TP (sc sm : ST) : Prop :=
  (∃ n, n ≤ 400 ∧ sc.1 49 1 = nI n ∧ sm.1 0 12 = nI n ∧ ∀ i, i < n → sc.1 50 i = sm.1 6 i ∧ ∃ b, b < 256 ∧ sm.1 6 i = nI b) ∧
  (sc.1 49 8 = sm.1 0 32) ∧
  (sc.1 49 9 = sm.1 0 33)
theorem TP.n {sc sm : ST} (h : TP sc sm) : ∃ n, n ≤ 400 ∧ sc.1 49 1 = nI n ∧ sm.1 0 12 = nI n ∧ ∀ i, i < n → sc.1 50 i = sm.1 6 i ∧ ∃ b, b < 256 ∧ sm.1 6 i = nI b := h.1
theorem TP.f {sc sm : ST} (h : TP sc sm) : sc.1 49 8 = sm.1 0 32 := h.2.1
theorem TP.p {sc sm : ST} (h : TP sc sm) : sc.1 49 9 = sm.1 0 33 := h.2.2
def HS (W H nk : Nat) (sc sm : ST) : Prop :=
  (∃ o u, o < 6 ∧ u ≤ 6 ∧ sc.1 80 2 = nI o ∧ sc.1 80 3 = nI u ∧ sm.1 0 3 = nI u ∧ ∀ j, j < u → LD W H nk (83 + 7 * ((o + j) % 6)) sc (upr sm 1 (fun k => sm.1 2 (389 * j + k))) ∧ (∃ d, d ≤ 999 ∧ sm.1 2 (389 * j) = nI d) ∧ sc.1 82 ((o + j) % 6) = sm.1 2 (389 * j + 2))
theorem HS.h {W H nk : Nat} {sc sm : ST} (h : HS W H nk sc sm) : ∃ o u, o < 6 ∧ u ≤ 6 ∧ sc.1 80 2 = nI o ∧ sc.1 80 3 = nI u ∧ sm.1 0 3 = nI u ∧ ∀ j, j < u → LD W H nk (83 + 7 * ((o + j) % 6)) sc (upr sm 1 (fun k => sm.1 2 (389 * j + k))) ∧ (∃ d, d ≤ 999 ∧ sm.1 2 (389 * j) = nI d) ∧ sc.1 82 ((o + j) % 6) = sm.1 2 (389 * j + 2) := h
def IM (sc sm : ST) : Prop :=
  (sc.1 0 6 = sm.1 0 51) ∧
  (sm.1 0 51 = 0 ∨ sm.1 0 51 = 1) ∧
  (sm.1 0 51 = 1 → ∃ W H nk nc nl nw np, LD W H nk 25 sc (img sm) ∧ TD W H nk nc nl nw np 32 sc (img sm) ∧ BK 47 sc (img sm) ∧ ∃ d, d ≤ 999 ∧ (img sm).1 1 0 = nI d)
theorem IM.b {sc sm : ST} (h : IM sc sm) : sc.1 0 6 = sm.1 0 51 := h.1
theorem IM.o {sc sm : ST} (h : IM sc sm) : sm.1 0 51 = 0 ∨ sm.1 0 51 = 1 := h.2.1
theorem IM.i {sc sm : ST} (h : IM sc sm) : sm.1 0 51 = 1 → ∃ W H nk nc nl nw np, LD W H nk 25 sc (img sm) ∧ TD W H nk nc nl nw np 32 sc (img sm) ∧ BK 47 sc (img sm) ∧ ∃ d, d ≤ 999 ∧ (img sm).1 1 0 = nI d := h.2.2
def R8 (W H nk nc nl nw np : Nat) (sc sm : ST) : Prop :=
  (LD W H nk 1 sc sm) ∧
  (TD W H nk nc nl nw np 8 sc sm) ∧
  (BK 23 sc sm) ∧
  (∃ d, d ≤ 999 ∧ sm.1 1 0 = nI d) ∧
  (KS sc) ∧
  (TP sc sm) ∧
  (HS W H nk sc sm) ∧
  (HL sm) ∧
  (IM sc sm) ∧
  (sm.1 0 5 = 0) ∧
  (∀ i, i < 150 → sm.1 7 i = wdL.getD i 0)
theorem R8.L {W H nk nc nl nw np : Nat} {sc sm : ST} (h : R8 W H nk nc nl nw np sc sm) : LD W H nk 1 sc sm := h.1
theorem R8.T {W H nk nc nl nw np : Nat} {sc sm : ST} (h : R8 W H nk nc nl nw np sc sm) : TD W H nk nc nl nw np 8 sc sm := h.2.1
theorem R8.B {W H nk nc nl nw np : Nat} {sc sm : ST} (h : R8 W H nk nc nl nw np sc sm) : BK 23 sc sm := h.2.2.1
theorem R8.d {W H nk nc nl nw np : Nat} {sc sm : ST} (h : R8 W H nk nc nl nw np sc sm) : ∃ d, d ≤ 999 ∧ sm.1 1 0 = nI d := h.2.2.2.1
theorem R8.K {W H nk nc nl nw np : Nat} {sc sm : ST} (h : R8 W H nk nc nl nw np sc sm) : KS sc := h.2.2.2.2.1
theorem R8.P {W H nk nc nl nw np : Nat} {sc sm : ST} (h : R8 W H nk nc nl nw np sc sm) : TP sc sm := h.2.2.2.2.2.1
theorem R8.S {W H nk nc nl nw np : Nat} {sc sm : ST} (h : R8 W H nk nc nl nw np sc sm) : HS W H nk sc sm := h.2.2.2.2.2.2.1
theorem R8.hl {W H nk nc nl nw np : Nat} {sc sm : ST} (h : R8 W H nk nc nl nw np sc sm) : HL sm := h.2.2.2.2.2.2.2.1
theorem R8.I {W H nk nc nl nw np : Nat} {sc sm : ST} (h : R8 W H nk nc nl nw np sc sm) : IM sc sm := h.2.2.2.2.2.2.2.2.1
theorem R8.z {W H nk nc nl nw np : Nat} {sc sm : ST} (h : R8 W H nk nc nl nw np sc sm) : sm.1 0 5 = 0 := h.2.2.2.2.2.2.2.2.2.1
theorem R8.w {W H nk nc nl nw np : Nat} {sc sm : ST} (h : R8 W H nk nc nl nw np sc sm) : ∀ i, i < 150 → sm.1 7 i = wdL.getD i 0 := h.2.2.2.2.2.2.2.2.2.2
def Rel (sc sm : ST) : Prop := ∃ W H nk nc nl nw np, R8 W H nk nc nl nw np sc sm
theorem img_e {sm sm' : ST} (h0 : ∀ i, i ∈ [6, 7, 8, 34, 36, 40, 42] → (img sm').1 0 i = (img sm).1 0 i) (h : sm'.1 23 = sm.1 23) : (∀ c, c ∈ [1, 4, 5, 8, 9, 10, 11, 12, 13, 14, 16, 17, 18, 19] → (img sm').1 c = (img sm).1 c) := by
  intro c hc
  simp only [List.mem_cons, List.not_mem_nil, or_false] at hc
  funext i
  rcases hc with rfl | rfl | rfl | rfl | rfl | rfl | rfl | rfl | rfl | rfl | rfl | rfl | rfl | rfl <;> simp [img, h]
theorem img_0 {sm sm' : ST} (h : sm'.1 23 = sm.1 23) : ∀ i, i ∈ [6, 7, 8, 34, 36, 40, 42] → (img sm').1 0 i = (img sm).1 0 i := by
  intro i hi
  simp only [List.mem_cons, List.not_mem_nil, or_false] at hi
  rcases hi with rfl | rfl | rfl | rfl | rfl | rfl | rfl <;> simp [img, im0, h]
theorem KS_agr {sc sc' : ST} (h : KS sc) (a : ∀ c, c ∈ [9, 11, 14, 19, 21, 23, 33, 35, 38, 43, 45, 47, 56, 58, 61, 66, 68] → sc'.1 c 0 = sc.1 c 0) : KS sc' := by
  unfold KS at h ⊢
  rw [a 9 (by decide), a 11 (by decide), a 14 (by decide), a 19 (by decide), a 21 (by decide), a 23 (by decide), a 33 (by decide), a 35 (by decide), a 38 (by decide), a 43 (by decide), a 45 (by decide), a 47 (by decide), a 56 (by decide), a 58 (by decide), a 61 (by decide), a 66 (by decide), a 68 (by decide)]
  exact h
theorem TP_agr {sc sm sc' sm' : ST} (h : TP sc sm) (c1 : sc'.1 49 1 = sc.1 49 1) (c8 : sc'.1 49 8 = sc.1 49 8) (c9 : sc'.1 49 9 = sc.1 49 9) (c50 : sc'.1 50 = sc.1 50) (m12 : sm'.1 0 12 = sm.1 0 12) (m32 : sm'.1 0 32 = sm.1 0 32) (m33 : sm'.1 0 33 = sm.1 0 33) (m6 : sm'.1 6 = sm.1 6) : TP sc' sm' := by
  unfold TP at h ⊢
  rw [c1, c8, c9, c50, m12, m32, m33, m6]
  exact h
theorem HS_agr {W H nk : Nat} {sc sm sc' sm' : ST} (h : HS W H nk sc sm) (c80 : sc'.1 80 = sc.1 80) (c82 : sc'.1 82 = sc.1 82) (cl1 : ∀ c, 83 ≤ c → c < 125 → sc'.1 c = sc.1 c ∧ sc'.2 c = sc.2 c) (m3 : sm'.1 0 3 = sm.1 0 3) (m0 : ∀ i, i ∈ [6, 7, 8] → sm'.1 0 i = sm.1 0 i) (m2 : sm'.1 2 = sm.1 2) (m4 : sm'.1 4 = sm.1 4) : HS W H nk sc' sm' := by
  obtain ⟨o, u, ho, hu, h1, h2, h3, h4⟩ := h.h
  refine ⟨o, u, ho, hu, by rw [c80]; exact h1, by rw [c80]; exact h2, by rw [m3]; exact h3, fun j hj => ?_⟩
  obtain ⟨g1, g2, g3⟩ := h4 j hj
  have hm : (o + j) % 6 < 6 := Nat.mod_lt _ (by decide)
  refine ⟨LD_agr g1 (fun c hc => (cl1 c ?_ ?_).1) (cl1 _ (by omega) (by omega)).2 (fun i hi => ?_) ?_ ?_, by rw [m2]; exact g2, by rw [c82, m2]; exact g3⟩
  · simp only [List.mem_cons, List.not_mem_nil, or_false] at hc
    omega
  · simp only [List.mem_cons, List.not_mem_nil, or_false] at hc
    omega
  · rw [upr_ne (by decide), upr_ne (by decide)]
    exact m0 i hi
  · rw [upr_eq, upr_eq, m2]
  · rw [upr_ne (by decide), upr_ne (by decide)]
    exact m4
theorem IM_agr {sc sm sc' sm' : ST} (h : IM sc sm) (c0 : sc'.1 0 6 = sc.1 0 6) (cl1 : ∀ c, 25 ≤ c → c < 49 → c ≠ 41 → c ≠ 42 → sc'.1 c = sc.1 c ∧ sc'.2 c = sc.2 c) (m51 : sm'.1 0 51 = sm.1 0 51) (m23 : sm'.1 23 = sm.1 23) : IM sc' sm' := by
  refine ⟨by rw [c0, m51]; exact h.b, by rw [m51]; exact h.o, fun hi => ?_⟩
  rw [m51] at hi
  obtain ⟨W, H, nk, nc, nl, nw, np, g1, g2, g3, g4⟩ := h.i hi
  have e0 := img_0 m23
  have e1 := img_e (img_0 m23) m23
  refine ⟨W, H, nk, nc, nl, nw, np, LD_agr g1 (fun c hc => (cl1 c ?_ ?_ ?_ ?_).1) (cl1 25 (by decide) (by decide) (by decide) (by decide)).2 (fun i hi => e0 i ?_) (e1 1 (by decide)) (e1 4 (by decide)), TD_agr g2 (fun c hc => (cl1 c ?_ ?_ ?_ ?_).1) (fun i hi => e0 i ?_) (fun c hc => e1 c ?_), BK_agr g3 (by rw [(cl1 47 (by decide) (by decide) (by decide) (by decide)).1]) (cl1 48 (by decide) (by decide) (by decide) (by decide)).1 (by rw [e1 1 (by decide)]) (e1 5 (by decide)), by rw [e1 1 (by decide)]; exact g4⟩
  all_goals first
    | (simp only [List.mem_cons, List.not_mem_nil, or_false] at hc; omega)
    | (simp only [List.mem_cons, List.not_mem_nil, or_false] at hi ⊢; omega)
    | (simp only [List.mem_cons, List.not_mem_nil, or_false] at hc ⊢; omega)
/-- what the queries leave behind is no matter -/
theorem R8_q {W H nk nc nl nw np : Nat} {sc sm sc' sm' : ST} (R : R8 W H nk nc nl nw np sc sm) (a : agr [17, 18, 72, 73, 74, 75, 76, 77, 78] sc sc') (b : agr [0, 3, 15, 20, 21, 22] sm sm') (b0 : ∀ i, i ∉ [0, 45, 46, 47, 48, 49] → sm'.1 0 i = sm.1 0 i) : R8 W H nk nc nl nw np sc' sm' :=
  ⟨LD_agr R.L (fun c hc => (a c (by simp only [List.mem_cons, List.not_mem_nil, or_false] at hc ⊢; omega)).1) (a 1 (by decide)).2 (fun i hi => b0 i (by simp only [List.mem_cons, List.not_mem_nil, or_false] at hi ⊢; omega)) (b 1 (by decide)).1 (b 4 (by decide)).1,
   TD_agr R.T (fun c hc => (a c (by simp only [List.mem_cons, List.not_mem_nil, or_false] at hc ⊢; omega)).1) (fun i hi => b0 i (by simp only [List.mem_cons, List.not_mem_nil, or_false] at hi ⊢; omega)) (fun c hc => (b c (by simp only [List.mem_cons, List.not_mem_nil, or_false] at hc ⊢; omega)).1),
   BK_agr R.B (by rw [(a 23 (by decide)).1]) (a 24 (by decide)).1 (by rw [(b 1 (by decide)).1]) (b 5 (by decide)).1,
   by rw [(b 1 (by decide)).1]; exact R.d,
   KS_agr R.K (fun c hc => by rw [(a c (by simp only [List.mem_cons, List.not_mem_nil, or_false] at hc ⊢; omega)).1]),
   TP_agr R.P (by rw [(a 49 (by decide)).1]) (by rw [(a 49 (by decide)).1]) (by rw [(a 49 (by decide)).1]) (a 50 (by decide)).1 (b0 12 (by decide)) (b0 32 (by decide)) (b0 33 (by decide)) (b 6 (by decide)).1,
   HS_agr R.S (a 80 (by decide)).1 (a 82 (by decide)).1 (fun c h1 h2 => a c (by simp only [List.mem_cons, List.not_mem_nil, or_false]; omega)) (b0 3 (by decide)) (fun i hi => b0 i (by simp only [List.mem_cons, List.not_mem_nil, or_false] at hi ⊢; omega)) (b 2 (by decide)).1 (b 4 (by decide)).1,
   HL_agr R.hl (by rw [(b 1 (by decide)).1]) (b 2 (by decide)).1 (b0 3 (by decide)),
   IM_agr R.I (by rw [(a 0 (by decide)).1]) (fun c h1 h2 _ _ => a c (by simp only [List.mem_cons, List.not_mem_nil, or_false]; omega)) (b0 51 (by decide)) (b 23 (by decide)).1,
   by rw [b0 5 (by decide)]; exact R.z,
   fun i hi => by rw [(b 7 (by decide)).1]; exact R.w i hi⟩
theorem told_b {sm : ST} : agr [0, 3, 15, 20, 21, 22] sm (ups sm 0 0 0) ∧ ∀ i, i ∉ [0, 45, 46, 47, 48, 49] → (ups sm 0 0 0).1 0 i = sm.1 0 i :=
  ⟨agr.rf.ups (by decide), fun i hi => by
    rw [rd1, if_neg]
    intro h
    subst h
    exact hi (by decide)⟩
theorem R8_told {W H nk nc nl nw np : Nat} {sc sm : ST} (R : R8 W H nk nc nl nw np sc sm) : R8 W H nk nc nl nw np sc (ups sm 0 0 0) := R8_q R agr.rf told_b.1 told_b.2
