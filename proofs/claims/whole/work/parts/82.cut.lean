/-! # stage 2: the class cuts the tape -/
def CTP (f : Nat → Nat) (n : Nat) (s : ST) : Prop := s.1 49 1 = nI n ∧ n ≤ 400 ∧ (∀ j, j < n → s.1 50 j = nI (f j)) ∧ ∀ j, j < n → f j < 256
def ROW (f : Nat → Nat) (n : Nat) (Z : Nat → Nat → Nat) (r : Nat) (s : ST) : Prop :=
  TKN f n (Z 0 r) (Z 1 r) (Z 0 (r + 1)) (Z 2 r) (Z 3 r) (Z 4 r) ∧ s.1 51 r = nI (Z 2 r) ∧ s.1 52 r = nI (Z 1 r) ∧ (Z 2 r = 1 → s.1 53 r = nI (Z 0 (r + 1) - Z 1 r)) ∧ (Z 2 r = 2 → s.1 53 r = if Z 3 r = 3 then nI (Z 4 r) else -1)
def CTB (f : Nat → Nat) (n T : Nat) (Z : Nat → Nat → Nat) (s : ST) : Prop :=
  CTP f n s ∧ 1 ≤ T ∧ T ≤ 401 ∧ s.1 49 5 = nI T ∧ Z 0 0 = 0 ∧ ∀ r, r < T → ROW f n Z r s ∧ (Z 2 r = 0 ↔ r + 1 = T)
theorem c_put {s : ST} {t : Nat} (h : s.1 49 5 = nI t) (ht : t ≤ 400) (a b c : Int32) : C_X5_putToken s a b c = some (ups (ups (ups (ups s 51 t a) 52 t b) 53 t c) 49 5 (nI (t + 1))) := by
  have q : ¬ (400 : Int32) < nI t := by rw [show (400 : Int32) = nI 400 from rfl, nI_ltI (by decide) (by omega)]; omega
  unfold C_X5_putToken
  rw [h, if_neg q, Gs_n (by omega) (by decide), ups_ne (by decide), h, Gs_n (by omega) (by decide), ups_ne (by decide), ups_ne (by decide), h, Gs_n (by omega) (by decide), Lt_e, ups_ne (by decide), ups_ne (by decide), ups_ne (by decide), h, nI_1]
theorem c_numberOf {f : Nat → Nat} {n q e : Nat} {s : ST} (h : CTP f n s) (hq : q < e) (he : e ≤ n) (hd : ∀ j, q ≤ j → j < e → cls (f j) = 2) : C_X5_numberOf s (nI q) (nI e) = some (if e ≤ q + 4 then nI (numv f q (e - q)) else -1) := by
  obtain ⟨_, h400, h50, hb⟩ := h
  have e4 : nI (e - q) ≤ (4 : Int32) ↔ e - q ≤ 4 := by rw [show (4 : Int32) = nI 4 from rfl, nI_leI (by omega) (by decide)]
  unfold C_X5_numberOf
  rw [nI_sub (by omega)]
  by_cases g : e ≤ q + 4
  · rw [if_pos (e4.mpr (by omega)), if_pos g]
    refine lo2 (Q := fun o => o = some (nI (numv f q (e - q)))) (I := fun m a b => ∃ j, j + m = e ∧ q ≤ j ∧ b = nI j ∧ a = nI (numv f q (j - q))) ?_ FU (e - q) _ _ (by unfold FU; omega) ⟨q, by omega, Nat.le_refl _, rfl, by rw [Nat.sub_self]; rfl⟩
    rintro m rf a b ⟨j, hm, hj, rfl, rfl⟩ ih
    cases m with
    | zero =>
      have hje : j = e := by omega
      subst hje
      rw [if_pos (le_t (by omega))]
    | succ m =>
      have hje : j < e := by omega
      have hdg := (cls_b (f j) (hb j (by omega))).2.2.1 (hd j hj hje)
      rw [if_neg (nle_t hje (by omega)), if_neg (show ¬ (400 : Int32) ≤ nI j from nle_t (n := 400) (by omega) (by decide)), Gl_n (by omega) (by decide), h50 j (by omega), Lt_e, nI_1]
      refine ih m _ _ (Nat.lt_succ_self m) ⟨j + 1, by omega, by omega, rfl, ?_⟩
      rw [show j + 1 - q = j - q + 1 by omega]
      show _ = nI (10 * numv f q (j - q) + (f (q + (j - q)) - 48))
      rw [show q + (j - q) = j by omega, show (10 : Int32) = nI 10 from rfl, show (48 : Int32) = nI 48 from rfl, nI_mul, nI_add, nI_sub (by omega)]
      congr 1
      omega
  · rw [if_neg (fun h => g (by have := e4.mp h; omega)), if_neg g]
/-- how far a token goes -/
theorem run_c {f : Nat → Nat} {n q c : Nat} {s : ST} {C : Type} {K : Int32 → Option C} {k y : Int32} (h : CTP f n s) (hq : q < n) (hc : c < 5) (hk : k = nI c) (hy : y = nI (q + 1)) : ∃ e, lpK1 (C := C) (fun (rec2 : Int32 → Option C) (a3 : Int32) => Lt (K a3 : Option C) fun j2 => if (s.1 49 1) ≤ a3 then (j2) else (Lt (Gl s 50 400 a3 fun y6 => Lt (C_X5_sortOf s y6) fun y7 => if y7 = k then (rec2 (a3 + (1 : Int32))) else (j2) : Option C) fun j5 => if k = (1 : Int32) then (j5) else (if k = (2 : Int32) then (j5) else (j2)))) FU y = K (nI e) ∧ q < e ∧ e ≤ n ∧ ((c = 1 ∨ c = 2) → RUN f n c (q + 1) e) ∧ (¬ (c = 1 ∨ c = 2) → e = q + 1) := by
  obtain ⟨h1, h400, h50, hb⟩ := h
  have hk1 : k = 1 ↔ c = 1 := by rw [hk]; exact nI_eq (b := 1) (by omega) (by decide)
  have hk2 : k = 2 ↔ c = 2 := by rw [hk]; exact nI_eq (b := 2) (by omega) (by decide)
  subst hy
  refine lo1 (Q := fun o => ∃ e, o = K (nI e) ∧ q < e ∧ e ≤ n ∧ ((c = 1 ∨ c = 2) → RUN f n c (q + 1) e) ∧ (¬ (c = 1 ∨ c = 2) → e = q + 1)) (I := fun m a => ∃ j, j + m = n ∧ q + 1 ≤ j ∧ a = nI j ∧ (∀ i, q + 1 ≤ i → i < j → cls (f i) = c) ∧ (¬ (c = 1 ∨ c = 2) → j = q + 1)) ?_ FU (n - (q + 1)) _ (by unfold FU; omega) ⟨q + 1, by omega, Nat.le_refl _, rfl, fun i h1 h2 => by omega, fun _ => rfl⟩
  rintro m rf a ⟨j, hm, hj, rfl, hr, hj1⟩ ih
  rw [Lt_e, Lt_e, h1]
  have done : (j < n → (c = 1 ∨ c = 2) → cls (f j) ≠ c) → ∃ e, K (nI j) = K (nI e) ∧ q < e ∧ e ≤ n ∧ ((c = 1 ∨ c = 2) → RUN f n c (q + 1) e) ∧ (¬ (c = 1 ∨ c = 2) → e = q + 1) := fun hs => ⟨j, rfl, by omega, by omega, fun hcc => ⟨hj, by omega, hr, fun hjn => hs hjn hcc⟩, hj1⟩
  cases m with
  | zero =>
    have hjn : j = n := by omega
    rw [if_pos (by rw [hjn]; exact le_t (by omega))]
    exact done (fun h => by omega)
  | succ m =>
    have hjn : j < n := by omega
    rw [if_neg (nle_t hjn (by omega)), Gl_n (by omega) (by decide), h50 j hjn, Lt_e, c_sortOf s _ (hb j hjn), nI_1]
    have hcl : cls (f j) < 5 := by
      have := (cls_b (f j) (hb j hjn)).2.1
      omega
    have hkj : nI (cls (f j)) = k ↔ cls (f j) = c := by rw [hk]; exact nI_eq (by omega) (by omega)
    have both : (c = 1 ∨ c = 2) → ∃ e, (if nI (cls (f j)) = k then rf (nI (j + 1)) else K (nI j)) = K (nI e) ∧ q < e ∧ e ≤ n ∧ ((c = 1 ∨ c = 2) → RUN f n c (q + 1) e) ∧ (¬ (c = 1 ∨ c = 2) → e = q + 1) := fun hcc => by
      by_cases g : cls (f j) = c
      · rw [if_pos (hkj.mpr g)]
        exact ih m _ (Nat.lt_succ_self m) ⟨j + 1, by omega, by omega, rfl, fun i h1 h2 => by
          by_cases e2 : i = j
          · rw [e2]; exact g
          · exact hr i h1 (by omega), fun h => absurd hcc h⟩
      · rw [if_neg (fun h => g (hkj.mp h))]
        exact done (fun _ _ => g)
    by_cases g1 : c = 1
    · rw [if_pos (hk1.mpr g1)]
      exact both (Or.inl g1)
    · rw [if_neg (fun h => g1 (hk1.mp h))]
      by_cases g2 : c = 2
      · rw [if_pos (hk2.mpr g2)]
        exact both (Or.inr g2)
      · rw [if_neg (fun h => g2 (hk2.mp h))]
        exact done (fun _ h => by omega)
/-- what a token is -/
theorem tkn_ex {f : Nat → Nat} {n p q e k : Nat} (hb : ∀ j, j < n → f j < 256) (hpq : p ≤ q) (bl : ∀ j, p ≤ j → j < q → cls (f j) = 4) (hq : q < n) (hk : k = cls (f q)) (h4 : k ≠ 4) (h12 : (k = 1 ∨ k = 2) → RUN f n k (q + 1) e) (h3 : ¬ (k = 1 ∨ k = 2) → e = q + 1) : ∃ g v, TKN f n p q e k g v := by
  rcases (cls_b (f q) (hb q hq)).2.1 with c | c | c | c
  · have hk1 : k = 1 := hk.trans c
    have hr := h12 (Or.inl hk1)
    rw [hk1] at hr
    by_cases q1 : ∃ w, w < 30 ∧ MT f q e w
    · obtain ⟨w, w1, w2⟩ := q1
      exact ⟨2, w, hpq, bl, Or.inr (Or.inl ⟨hq, hk1, c, hr, Or.inl ⟨rfl, w1, w2⟩⟩)⟩
    · exact ⟨1, 0, hpq, bl, Or.inr (Or.inl ⟨hq, hk1, c, hr, Or.inr ⟨rfl, fun w w1 w2 => q1 ⟨w, w1, w2⟩⟩⟩)⟩
  · have hk2 : k = 2 := hk.trans c
    have hr := h12 (Or.inr hk2)
    rw [hk2] at hr
    by_cases q1 : e ≤ q + 4
    · exact ⟨3, numv f q (e - q), hpq, bl, Or.inr (Or.inr (Or.inl ⟨hq, hk2, c, hr, Or.inl ⟨rfl, q1, rfl⟩⟩))⟩
    · exact ⟨1, 0, hpq, bl, Or.inr (Or.inr (Or.inl ⟨hq, hk2, c, hr, Or.inr ⟨rfl, by omega⟩⟩))⟩
  · have hk3 : k = 3 := hk.trans c
    have he := h3 (by omega)
    cases q1 : mk (f q) with
    | true => exact ⟨4, f q, hpq, bl, Or.inr (Or.inr (Or.inr ⟨hq, hk3, c, he, Or.inl ⟨rfl, q1, rfl⟩⟩))⟩
    | false => exact ⟨1, 0, hpq, bl, Or.inr (Or.inr (Or.inr ⟨hq, hk3, c, he, Or.inr ⟨rfl, q1⟩⟩))⟩
  · exact absurd (hk.trans c) h4
/-- as far as the tape is cut -/
def PRE (f : Nat → Nat) (n : Nat) (sc : ST) (a t : Nat) (Z : Nat → Nat → Nat) (s : ST) : Prop :=
  CTP f n s ∧ agr [49, 51, 52, 53] sc s ∧ (∀ j, j ∉ [5, 6, 7, 8, 9] → s.1 49 j = sc.1 49 j) ∧ s.1 49 6 = 0 ∧ s.1 49 8 = 0 ∧ s.1 49 9 = -1 ∧ s.1 49 5 = nI t ∧ t ≤ a ∧ a ≤ n ∧ Z 0 0 = 0 ∧ Z 0 t ≤ a ∧ (∀ j, Z 0 t ≤ j → j < a → cls (f j) = 4) ∧ ∀ r, r < t → ROW f n Z r s ∧ Z 2 r ≠ 0
/-- the next row of the tokens -/
def Zx (Z : Nat → Nat → Nat) (t q k g v e : Nat) : Nat → Nat → Nat := fun c r => if c = 0 then (if r = t + 1 then e else Z 0 r) else if r = t then (if c = 1 then q else if c = 2 then k else if c = 3 then g else v) else Z c r
theorem put_row {f : Nat → Nat} {n t q k g v e : Nat} {sc s : ST} {Z : Nat → Nat → Nat} {nb : Int32} (hP : CTP f n s) (hag : agr [49, 51, 52, 53] sc s) (h49 : ∀ j, j ∉ [5, 6, 7, 8, 9] → s.1 49 j = sc.1 49 j) (h6 : s.1 49 6 = 0) (h8 : s.1 49 8 = 0) (h9 : s.1 49 9 = -1) (h5 : s.1 49 5 = nI t) (ht : t ≤ 400) (hZ : Z 0 0 = 0) (hr : ∀ r, r < t → ROW f n Z r s ∧ Z 2 r ≠ 0) (hT : TKN f n (Z 0 t) q e k g v) (h1 : k = 1 → nb = nI (e - q)) (h2 : k = 2 → nb = if g = 3 then nI v else -1) :
    ∃ s', C_X5_putToken s (nI k) (nI q) nb = some s' ∧ CTP f n s' ∧ agr [49, 51, 52, 53] sc s' ∧ (∀ j, j ∉ [5, 6, 7, 8, 9] → s'.1 49 j = sc.1 49 j) ∧ s'.1 49 6 = 0 ∧ s'.1 49 8 = 0 ∧ s'.1 49 9 = -1 ∧ s'.1 49 5 = nI (t + 1) ∧ Zx Z t q k g v e 0 0 = 0 ∧ Zx Z t q k g v e 0 (t + 1) = e ∧ (∀ r, r < t → ROW f n (Zx Z t q k g v e) r s' ∧ Zx Z t q k g v e 2 r ≠ 0) ∧ ROW f n (Zx Z t q k g v e) t s' ∧ Zx Z t q k g v e 2 t = k := by
  obtain ⟨p1, p2, p3, p4⟩ := hP
  refine ⟨_, c_put h5 ht _ _ _, ⟨?_, p2, fun j hj => ?_, p4⟩, ?_, fun j hj => ?_, ?_, ?_, ?_, ?_, ?_, ?_, fun r hrt => ⟨?_, ?_⟩, ?_, ?_⟩
  · rw [rd1, if_neg (by decide), ups_ne (by decide), ups_ne (by decide), ups_ne (by decide)]; exact p1
  · rw [ups_ne (by decide), ups_ne (by decide), ups_ne (by decide), ups_ne (by decide)]; exact p3 j hj
  · exact (((hag.ups (by decide)).ups (by decide)).ups (by decide)).ups (by decide)
  · rw [rd1, if_neg (by rintro rfl; exact hj (by decide)), ups_ne (by decide), ups_ne (by decide), ups_ne (by decide)]; exact h49 j hj
  · rw [rd1, if_neg (by decide), ups_ne (by decide), ups_ne (by decide), ups_ne (by decide)]; exact h6
  · rw [rd1, if_neg (by decide), ups_ne (by decide), ups_ne (by decide), ups_ne (by decide)]; exact h8
  · rw [rd1, if_neg (by decide), ups_ne (by decide), ups_ne (by decide), ups_ne (by decide)]; exact h9
  · rw [rd1, if_pos rfl]
  · show (if 0 = 0 then (if 0 = t + 1 then e else Z 0 0) else _) = 0
    rw [if_pos rfl, if_neg (by omega)]
    exact hZ
  · show (if 0 = 0 then (if t + 1 = t + 1 then e else _) else _) = e
    rw [if_pos rfl, if_pos rfl]
  · obtain ⟨⟨t1, t2, t3, t4, t5⟩, _⟩ := hr r hrt
    have z0 : Zx Z t q k g v e 0 r = Z 0 r := by
      show (if 0 = 0 then (if r = t + 1 then e else Z 0 r) else _) = _
      rw [if_pos rfl, if_neg (by omega)]
    have z0' : Zx Z t q k g v e 0 (r + 1) = Z 0 (r + 1) := by
      show (if 0 = 0 then (if r + 1 = t + 1 then e else Z 0 (r + 1)) else _) = _
      rw [if_pos rfl, if_neg (by omega)]
    have zc : ∀ c, c ≠ 0 → Zx Z t q k g v e c r = Z c r := fun c hc => by
      show (if c = 0 then _ else if r = t then _ else Z c r) = _
      rw [if_neg hc, if_neg (by omega)]
    unfold ROW
    rw [z0, z0', zc 1 (by decide), zc 2 (by decide), zc 3 (by decide), zc 4 (by decide)]
    refine ⟨t1, ?_, ?_, fun h => ?_, fun h => ?_⟩
    · rw [ups_ne (by decide), ups_ne (by decide), ups_ne (by decide), rd1, if_neg (by omega)]; exact t2
    · rw [ups_ne (by decide), ups_ne (by decide), rd1, if_neg (by omega), ups_ne (by decide)]; exact t3
    · rw [ups_ne (by decide), rd1, if_neg (by omega), ups_ne (by decide), ups_ne (by decide)]; exact t4 h
    · rw [ups_ne (by decide), rd1, if_neg (by omega), ups_ne (by decide), ups_ne (by decide)]; exact t5 h
  · show (if 2 = 0 then _ else if r = t then _ else Z 2 r) ≠ 0
    rw [if_neg (by decide), if_neg (by omega)]
    exact (hr r hrt).2
  · have z0 : Zx Z t q k g v e 0 t = Z 0 t := by
      show (if 0 = 0 then (if t = t + 1 then e else Z 0 t) else _) = _
      rw [if_pos rfl, if_neg (by omega)]
    have z0' : Zx Z t q k g v e 0 (t + 1) = e := by
      show (if 0 = 0 then (if t + 1 = t + 1 then e else _) else _) = e
      rw [if_pos rfl, if_pos rfl]
    have z1 : Zx Z t q k g v e 1 t = q := by
      show (if 1 = 0 then _ else if t = t then (if 1 = 1 then q else _) else _) = q
      rw [if_neg (by decide), if_pos rfl, if_pos rfl]
    have z2 : Zx Z t q k g v e 2 t = k := by
      show (if 2 = 0 then _ else if t = t then (if 2 = 1 then q else if 2 = 2 then k else _) else _) = k
      rw [if_neg (by decide), if_pos rfl, if_neg (by decide), if_pos rfl]
    have z3 : Zx Z t q k g v e 3 t = g := by
      show (if 3 = 0 then _ else if t = t then (if 3 = 1 then q else if 3 = 2 then k else if 3 = 3 then g else v) else _) = g
      rw [if_neg (by decide), if_pos rfl, if_neg (by decide), if_neg (by decide), if_pos rfl]
    have z4 : Zx Z t q k g v e 4 t = v := by
      show (if 4 = 0 then _ else if t = t then (if 4 = 1 then q else if 4 = 2 then k else if 4 = 3 then g else v) else _) = v
      rw [if_neg (by decide), if_pos rfl, if_neg (by decide), if_neg (by decide), if_neg (by decide)]
    unfold ROW
    rw [z0, z0', z1, z2, z3, z4]
    refine ⟨hT, ?_, ?_, fun h => ?_, fun h => ?_⟩
    · rw [ups_ne (by decide), ups_ne (by decide), ups_ne (by decide), rd1, if_pos rfl]
    · rw [ups_ne (by decide), ups_ne (by decide), rd1, if_pos rfl]
    · rw [ups_ne (by decide), rd1, if_pos rfl]; exact h1 h
    · rw [ups_ne (by decide), rd1, if_pos rfl]; exact h2 h
  · show (if 2 = 0 then _ else if t = t then (if 2 = 1 then q else if 2 = 2 then k else _) else _) = k
    rw [if_neg (by decide), if_pos rfl, if_neg (by decide), if_pos rfl]
theorem c_cut {f : Nat → Nat} {n : Nat} {sc : ST} (h : CTP f n sc) : ∃ sc' T Z, C_X5_begin sc = some sc' ∧ CTB f n T Z sc' ∧ agr [49, 51, 52, 53] sc sc' ∧ (∀ j, j ∉ [5, 6, 7, 8, 9] → sc'.1 49 j = sc.1 49 j) ∧ sc'.1 49 6 = 0 ∧ sc'.1 49 7 = nI (Z 2 0) ∧ sc'.1 49 8 = 0 ∧ sc'.1 49 9 = -1 := by
  have h400 := h.2.1
  have hb := h.2.2.2
  unfold C_X5_begin
  rw [Lt_e, Lt_e, Lt_e, Lt_e]
  obtain ⟨s4, e4⟩ : ∃ s4, s4 = ups (ups (ups (ups sc 49 8 0) 49 9 (-1)) 49 6 0) 49 5 0 := ⟨_, rfl⟩
  rw [← e4]
  have P4 : PRE f n sc 0 0 (fun _ _ => 0) s4 := by
    have a4 : ∀ j, s4.1 49 j = if j = 5 then 0 else if j = 6 then 0 else if j = 9 then -1 else if j = 8 then 0 else sc.1 49 j := fun j => by rw [e4, rd3, rd1]
    refine ⟨⟨by rw [a4, if_neg (by decide), if_neg (by decide), if_neg (by decide), if_neg (by decide)]; exact h.1, h400, fun j hj => by rw [e4, ups_ne (by decide), ups_ne (by decide), ups_ne (by decide), ups_ne (by decide)]; exact h.2.2.1 j hj, hb⟩, by rw [e4]; exact (((agr.rf.ups (by decide)).ups (by decide)).ups (by decide)).ups (by decide), fun j hj => ?_, by rw [a4]; rfl, by rw [a4]; rfl, by rw [a4]; rfl, by rw [a4]; rfl, Nat.le_refl _, by omega, rfl, Nat.le_refl _, fun j _ hj => absurd hj (Nat.not_lt_zero j), fun r hr => absurd hr (Nat.not_lt_zero r)⟩
    simp only [List.mem_cons, List.not_mem_nil, or_false, not_or] at hj
    rw [a4, if_neg (by omega), if_neg (by omega), if_neg (by omega), if_neg (by omega)]
  clear e4
  refine lo3 (Q := fun o => ∃ sc' T Z, o = some sc' ∧ CTB f n T Z sc' ∧ agr [49, 51, 52, 53] sc sc' ∧ (∀ j, j ∉ [5, 6, 7, 8, 9] → sc'.1 49 j = sc.1 49 j) ∧ sc'.1 49 6 = 0 ∧ sc'.1 49 7 = nI (Z 2 0) ∧ sc'.1 49 8 = 0 ∧ sc'.1 49 9 = -1) (I := fun m a1 a2 s => ∃ a i t Z, a + m = n ∧ a1 = nI a ∧ a2 = nI i ∧ i ≤ a ∧ PRE f n sc a t Z s) ?_ FU n _ _ _ (by unfold FU; omega) ⟨0, 0, 0, _, by omega, rfl, rfl, Nat.le_refl _, P4⟩
  rintro m rf a1 a2 s ⟨a, i, t, Z, hm, rfl, rfl, hia, P⟩ ih
  obtain ⟨hP, hag, h49, h6, h8, h9, h5, hta, han, hZ, hZa, bl, hr⟩ := P
  rw [Lt_e, hP.1]
  cases m with
  | zero =>
    have ha : a = n := by omega
    subst ha
    have hT : TKN f a (Z 0 t) a a 0 0 0 := ⟨hZa, bl, Or.inl ⟨rfl, rfl, rfl, rfl⟩⟩
    obtain ⟨s', k1, k2, k3, k4, k5, k6, k7, k8, k9, k10, k11, k12, k13⟩ := put_row (nb := 0) hP hag h49 h6 h8 h9 h5 (by omega) hZ hr hT (fun h => absurd h (by decide)) (fun h => absurd h (by decide))
    have k1 : C_X5_putToken s 0 (nI a) 0 = some s' := k1
    have zero2 : ∀ r, r < t + 1 → (Zx Z t a 0 0 0 a 2 r = 0 ↔ r + 1 = t + 1) := fun r hrt => by
      by_cases e2 : r = t
      · rw [e2, k13]; simp
      · constructor
        · intro h; exact absurd h (k11 r (by omega)).2
        · intro h; omega
    have fin : ∃ sc' T Z, some (ups s' 49 7 (s'.1 51 0)) = some sc' ∧ CTB f a T Z sc' ∧ agr [49, 51, 52, 53] sc sc' ∧ (∀ j, j ∉ [5, 6, 7, 8, 9] → sc'.1 49 j = sc.1 49 j) ∧ sc'.1 49 6 = 0 ∧ sc'.1 49 7 = nI (Z 2 0) ∧ sc'.1 49 8 = 0 ∧ sc'.1 49 9 = -1 := by
      have row : ∀ r, r < t + 1 → ROW f a (Zx Z t a 0 0 0 a) r s' := fun r hrt => by
        by_cases e2 : r = t
        · rw [e2]; exact k12
        · exact (k11 r (by omega)).1
      refine ⟨_, t + 1, Zx Z t a 0 0 0 a, rfl, ⟨⟨?_, h400, fun j hj => ?_, hb⟩, by omega, by omega, ?_, k9, fun r hrt => ⟨?_, zero2 r hrt⟩⟩, k3.ups (by decide), fun j hj => ?_, ?_, ?_, ?_, ?_⟩
      · rw [rd1, if_neg (by decide)]; exact k2.1
      · rw [ups_ne (by decide)]; exact k2.2.2.1 j hj
      · rw [rd1, if_neg (by decide)]; exact k8
      · obtain ⟨t1, t2, t3, t4, t5⟩ := row r hrt
        exact ⟨t1, by rw [ups_ne (by decide)]; exact t2, by rw [ups_ne (by decide)]; exact t3, fun h => by rw [ups_ne (by decide)]; exact t4 h, fun h => by rw [ups_ne (by decide)]; exact t5 h⟩
      · rw [rd1, if_neg (by rintro rfl; exact hj (by decide))]; exact k4 j hj
      · rw [rd1, if_neg (by decide)]; exact k5
      · rw [rd1, if_pos rfl]; exact (row 0 (by omega)).2.1
      · rw [rd1, if_neg (by decide)]; exact k6
      · rw [rd1, if_neg (by decide)]; exact k7
    rw [k1, Bd_some, Lt_e, Lt_e]
    by_cases g : (400 : Int32) ≤ nI i
    · rw [if_pos g]; exact fin
    · rw [if_neg g, if_pos (le_t (by omega))]; exact fin
  | succ m =>
    have ha : a < n := by omega
    have hba := hb a ha
    rw [if_neg (show ¬ (400 : Int32) ≤ nI i from nle_t (n := 400) (by omega) (by decide)), if_neg (nle_t ha (by omega)), Gl_n (by omega) (by decide), hP.2.2.1 a ha, Lt_e, c_sortOf s _ hba, Lt_e]
    have hcl : cls (f a) < 5 := by
      have := (cls_b (f a) hba).2.1
      omega
    obtain ⟨e, r1, r2, r3, r4, r5⟩ := run_c (K := fun a3 => Lt (fun (s8 : ST) => (rf a3 (nI i + (1 : Int32)) s8 : Option (ST))) fun j3 => if nI (cls (f a)) = (4 : Int32) then (j3 s) else (Lt (fun (a4 : Int32) => (Bd (C_X5_putToken s (nI (cls (f a))) (nI a) a4) fun s9 => j3 s9 : Option (ST))) fun j4 => if nI (cls (f a)) = (2 : Int32) then (Bd (C_X5_numberOf s (nI a) a3) fun y5 => j4 y5) else (j4 (a3 - (nI a))))) (y := nI a + 1) hP ha hcl rfl (nI_1 a)
    rw [hP.1] at r1
    rw [r1, Lt_e, nI_1]
    have e4 : nI (cls (f a)) = (4 : Int32) ↔ cls (f a) = 4 := nI_eq (b := 4) (by omega) (by decide)
    have e2 : nI (cls (f a)) = (2 : Int32) ↔ cls (f a) = 2 := nI_eq (b := 2) (by omega) (by decide)
    by_cases g4 : cls (f a) = 4
    · rw [if_pos (e4.mpr g4)]
      have hea := r5 (by omega)
      refine ih m _ _ _ (Nat.lt_succ_self m) ⟨a + 1, i + 1, t, Z, by omega, by rw [hea], rfl, by omega, hP, hag, h49, h6, h8, h9, h5, by omega, by omega, hZ, by omega, fun j h1 h2 => ?_, hr⟩
      by_cases e3 : j = a
      · rw [e3]; exact g4
      · exact bl j h1 (by omega)
    · rw [if_neg (fun h => g4 (e4.mp h)), Lt_e]
      obtain ⟨g, v, hT⟩ := tkn_ex (k := cls (f a)) hb hZa bl ha rfl g4 r4 r5
      have nx : ∀ nb, (cls (f a) = 1 → nb = nI (e - a)) → (cls (f a) = 2 → nb = if g = 3 then nI v else -1) → ∃ sc' T Z, (Bd (C_X5_putToken s (nI (cls (f a))) (nI a) nb) fun s9 => rf (nI e) (nI (i + 1)) s9) = some sc' ∧ CTB f n T Z sc' ∧ agr [49, 51, 52, 53] sc sc' ∧ (∀ j, j ∉ [5, 6, 7, 8, 9] → sc'.1 49 j = sc.1 49 j) ∧ sc'.1 49 6 = 0 ∧ sc'.1 49 7 = nI (Z 2 0) ∧ sc'.1 49 8 = 0 ∧ sc'.1 49 9 = -1 := fun nb n1 n2 => by
        obtain ⟨s', k1, k2, k3, k4, k5, k6, k7, k8, k9, k10, k11, k12, k13⟩ := put_row (nb := nb) hP hag h49 h6 h8 h9 h5 (by omega) hZ hr hT n1 n2
        have hk0 : cls (f a) ≠ 0 := by
          have := (cls_b (f a) hba).2.1
          omega
        rw [k1, Bd_some]
        refine ih (n - e) _ _ _ (by omega) ⟨e, i + 1, t + 1, _, by omega, rfl, rfl, by omega, k2, k3, k4, k5, k6, k7, k8, by omega, r3, k9, by rw [k10]; exact Nat.le_refl _, fun j h1 h2 => by rw [k10] at h1; omega, fun r hrt => ?_⟩
        by_cases e3 : r = t
        · rw [e3, k13]; exact ⟨k12, hk0⟩
        · exact k11 r (by omega)
      by_cases g2 : cls (f a) = 2
      · have hrun := r4 (Or.inr g2)
        rw [if_pos (e2.mpr g2), c_numberOf hP r2 r3 (fun j h1 h2 => by
          by_cases e3 : j = a
          · rw [e3]; exact g2
          · rw [← g2]; exact hrun.2.2.1 j (by omega) h2), Bd_some]
        refine nx _ (fun h => by omega) (fun _ => ?_)
        rcases hT.2.2 with t1 | t1 | t1 | t1
        · omega
        · omega
        · rcases t1.2.2.2.2 with ⟨u1, u2, u3⟩ | ⟨u1, u2⟩
          · rw [if_pos u2, if_pos u1, u3]
          · rw [if_neg (by omega), if_neg (by omega)]
        · omega
      · rw [if_neg (fun h => g2 (e2.mp h)), nI_sub (by omega)]
        exact nx _ (fun _ => rfl) (fun h => absurd h g2)
