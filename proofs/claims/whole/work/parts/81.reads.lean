/-! # stage 2: a token is read -/
abbrev rs (s s' : ST) : Prop := agr [0] s s' ∧ ∀ j, j ∉ [13, 14, 15, 16] → s'.1 0 j = s.1 0 j
theorem rs.rf {s : ST} : rs s s := ⟨agr.rf, fun _ _ => rfl⟩
theorem rs.ups {s s' : ST} {i : Nat} {x : Int32} (h : rs s s') (hi : i ∈ [13, 14, 15, 16]) : rs s (ups s' 0 i x) :=
  ⟨h.1.ups (by decide), fun j hj => by
    rw [ups_pl (by intro e; injection e with _ e; exact hj (e ▸ hi))]
    exact h.2 j hj⟩
theorem RT.rs {f : Nat → Nat} {n : Nat} {s s' : ST} (h : RT f n s) (r : rs s s') : RT f n s' := by
  obtain ⟨h1, h2, h3, h4, h5⟩ := h
  exact ⟨(r.2 12 (by decide)).trans h1, h2, fun j hj => by rw [(r.1 6 (by decide)).1]; exact h3 j hj, h4, fun j hj => by rw [(r.1 7 (by decide)).1]; exact h5 j hj⟩
theorem m_digits {f : Nat → Nat} {n q e : Nat} {s s0 : ST} (h : RT f n s) (r : rs s s0) (hq : q < n) (hc : cls (f q) = 2) (hr : RUN f n 2 (q + 1) e) (h13 : s0.1 0 13 = nI (q + 1)) (h14 : s0.1 0 14 = nI q) (h15 : s0.1 0 15 = 1) (h16 : s0.1 0 16 = nI (numv f q 1)) : ∃ s', lpK1 (C := ST) (fun (rec2 : ST → Option (ST)) (s9 : ST) => Bd (M_raw s9 (s9.1 0 13)) fun y7 => Lt (M_isDigit s9 y7) fun y8 => if y8 = 0 then (if (5 : Int32) ≤ ((s9.1 0 13) - (s9.1 0 14)) then (some s9) else (Lt (ups s9 0 15 (3 : Int32)) fun s10 => some s10)) else (Lt (fun (a1 : Int32) => (Lt (ups s9 0 16 a1) fun s11 => Lt (ups s11 0 13 ((s11.1 0 13) + (1 : Int32))) fun s12 => rec2 s12 : Option (ST))) fun j2 => if (10000 : Int32) ≤ (s9.1 0 16) then (j2 (s9.1 0 16)) else (Bd (M_raw s9 (s9.1 0 13)) fun y9 => j2 ((((10 : Int32) * (s9.1 0 16)) + y9) - (48 : Int32))))) FU s0 = some s' ∧ rs s s' ∧ s'.1 0 13 = nI e ∧ s'.1 0 14 = nI q ∧ s'.1 0 15 = (if e ≤ q + 4 then 3 else 1) ∧ (e ≤ q + 4 → s'.1 0 16 = nI (numv f q (e - q))) := by
  obtain ⟨r1, r2, r3, r4⟩ := hr
  have h400 := h.2.1
  have hb := h.2.2.2.1
  have dig : ∀ j, q ≤ j → j < e → 48 ≤ f j ∧ f j ≤ 57 := fun j h1 h2 => by
    by_cases e1 : j = q
    · rw [e1]; exact (cls_b (f q) (hb q hq)).2.2.1 hc
    · exact (cls_b (f j) (hb j (by omega))).2.2.1 (r3 j (by omega) h2)
  refine lo1 (Q := fun o => ∃ s', o = some s' ∧ rs s s' ∧ s'.1 0 13 = nI e ∧ s'.1 0 14 = nI q ∧ s'.1 0 15 = (if e ≤ q + 4 then 3 else 1) ∧ (e ≤ q + 4 → s'.1 0 16 = nI (numv f q (e - q)))) (I := fun m a => ∃ j, j + m = e ∧ q + 1 ≤ j ∧ rs s a ∧ a.1 0 13 = nI j ∧ a.1 0 14 = nI q ∧ a.1 0 15 = 1 ∧ (j ≤ q + 4 → a.1 0 16 = nI (numv f q (j - q)))) ?_ FU (e - (q + 1)) _ (by unfold FU; omega) ⟨q + 1, by omega, Nat.le_refl _, r, h13, h14, h15, fun _ => by rw [show q + 1 - q = 1 by omega]; exact h16⟩
  rintro m rf a ⟨j, hm, hj, ra, a13, a14, a15, a16⟩ ih
  have ht := h.rs ra
  rw [a13, m_raw ht (by omega), Bd_some, Lt_e]
  cases m with
  | zero =>
    have hje : j = e := by omega
    subst hje
    have hd : M_isDigit a (if j < n then nI (f j) else -1) = 0 := by
      by_cases g : j < n
      · rw [if_pos g, m_isDigit a _ (hb j g), if_neg (r4 g)]
      · rw [if_neg g]; exact m_isDigit_e a
    rw [hd, if_pos rfl, a14, nI_sub (by omega)]
    have e5 : (5 : Int32) ≤ nI (j - q) ↔ 5 ≤ j - q := by rw [show (5 : Int32) = nI 5 from rfl, nI_leI (by decide) (by omega)]
    by_cases g : j ≤ q + 4
    · rw [if_neg (fun h => by have := e5.mp h; omega), Lt_e]
      exact ⟨_, rfl, ra.ups (by decide), by rw [rd1, if_neg (by decide)]; exact a13, by rw [rd1, if_neg (by decide)]; exact a14, by rw [rd1, if_pos rfl, if_pos g], fun _ => by rw [rd1, if_neg (by decide)]; exact a16 g⟩
    · rw [if_pos (e5.mpr (by omega))]
      exact ⟨a, rfl, ra, a13, a14, by rw [if_neg g]; exact a15, fun h => absurd h g⟩
  | succ m =>
    have hje : j < e := by omega
    have hjn : j < n := by omega
    have hc2 : cls (f j) = 2 := r3 j (by omega) hje
    have hdj := dig j (by omega) hje
    have hd : M_isDigit a (if j < n then nI (f j) else -1) = 1 := by rw [if_pos hjn, m_isDigit a _ (hb j hjn), if_pos hc2]
    rw [hd, if_neg (by decide), Lt_e]
    have go : ∀ v, (j + 1 ≤ q + 4 → v = nI (numv f q (j + 1 - q))) → ∃ s', rf (ups (ups a 0 16 v) 0 13 ((ups a 0 16 v).1 0 13 + 1)) = some s' ∧ rs s s' ∧ s'.1 0 13 = nI e ∧ s'.1 0 14 = nI q ∧ s'.1 0 15 = (if e ≤ q + 4 then 3 else 1) ∧ (e ≤ q + 4 → s'.1 0 16 = nI (numv f q (e - q))) := fun v hv => by
      refine ih m _ (Nat.lt_succ_self m) ⟨j + 1, by omega, by omega, (ra.ups (by decide)).ups (by decide), ?_, ?_, ?_, fun h => ?_⟩
      · rw [rd1, if_pos rfl, rd1, if_neg (by decide), a13, nI_1]
      · rw [rd2, if_neg (by decide), if_neg (by decide)]; exact a14
      · rw [rd2, if_neg (by decide), if_neg (by decide)]; exact a15
      · rw [rd2, if_neg (by decide), if_pos rfl]; exact hv h
    by_cases g : (10000 : Int32) ≤ a.1 0 16
    · rw [if_pos g]
      dsimp only
      rw [Lt_e, Lt_e]
      refine go _ (fun h => ?_)
      exfalso
      have hn := numv_lt (f := f) (q := q) (d := j - q) (fun i hi => dig (q + i) (by omega) (by omega))
      have h4 : 10 ^ (j - q) ≤ 10 ^ 3 := Nat.pow_le_pow_right (by decide) (by omega)
      rw [a16 (by omega), show (10000 : Int32) = nI 10000 from rfl, nI_leI (by decide) (by omega)] at g
      omega
    · rw [if_neg g, Bd_some, if_pos hjn]
      dsimp only
      rw [Lt_e, Lt_e]
      refine go _ (fun h => ?_)
      have e1 : numv f q (j + 1 - q) = 10 * numv f q (j - q) + (f j - 48) := by
        rw [show j + 1 - q = j - q + 1 by omega]
        show 10 * numv f q (j - q) + (f (q + (j - q)) - 48) = _
        rw [show q + (j - q) = j by omega]
      rw [a16 (by omega), e1, show (10 : Int32) = nI 10 from rfl, show (48 : Int32) = nI 48 from rfl, nI_mul, nI_add, nI_sub (by omega)]
      congr 1
      omega
theorem m_letters {f : Nat → Nat} {n q e : Nat} {s s0 : ST} (h : RT f n s) (r : rs s s0) (hq : q < n) (hc : cls (f q) = 1) (hr : RUN f n 1 (q + 1) e) (h13 : s0.1 0 13 = nI (q + 1)) (h14 : s0.1 0 14 = nI q) (h15 : s0.1 0 15 = 1) : ∃ s', lpK1 (C := ST) (fun (rec3 : ST → Option (ST)) (s13 : ST) => Bd (M_raw s13 (s13.1 0 13)) fun y10 => Lt (M_isLetter s13 y10) fun y11 => if y11 = 0 then (Bd (M_wordAt s13 (s13.1 0 14) (s13.1 0 13)) fun y12 => Lt (ups s13 0 16 y12) fun s14 => if (s14.1 0 16) = (-1 : Int32) then (some s14) else (Lt (ups s14 0 15 (2 : Int32)) fun s15 => some s15)) else (Lt (ups s13 0 13 ((s13.1 0 13) + (1 : Int32))) fun s16 => rec3 s16)) FU s0 = some s' ∧ rs s s' ∧ s'.1 0 13 = nI e ∧ s'.1 0 14 = nI q ∧ ((∃ w, w < 30 ∧ MT f q e w ∧ s'.1 0 15 = 2 ∧ s'.1 0 16 = nI w) ∨ ((∀ w, w < 30 → ¬ MT f q e w) ∧ s'.1 0 15 = 1)) := by
  obtain ⟨r1, r2, r3, r4⟩ := hr
  have h400 := h.2.1
  have hb := h.2.2.2.1
  refine lo1 (Q := fun o => ∃ s', o = some s' ∧ rs s s' ∧ s'.1 0 13 = nI e ∧ s'.1 0 14 = nI q ∧ ((∃ w, w < 30 ∧ MT f q e w ∧ s'.1 0 15 = 2 ∧ s'.1 0 16 = nI w) ∨ ((∀ w, w < 30 → ¬ MT f q e w) ∧ s'.1 0 15 = 1))) (I := fun m a => ∃ j, j + m = e ∧ q + 1 ≤ j ∧ rs s a ∧ a.1 0 13 = nI j ∧ a.1 0 14 = nI q ∧ a.1 0 15 = 1) ?_ FU (e - (q + 1)) _ (by unfold FU; omega) ⟨q + 1, by omega, Nat.le_refl _, r, h13, h14, h15⟩
  rintro m rf a ⟨j, hm, hj, ra, a13, a14, a15⟩ ih
  have ht := h.rs ra
  rw [a13, m_raw ht (by omega), Bd_some, Lt_e]
  cases m with
  | zero =>
    have hje : j = e := by omega
    subst hje
    have hd : M_isLetter a (if j < n then nI (f j) else -1) = 0 := by
      by_cases g : j < n
      · rw [if_pos g, m_isLetter a _ (hb j g), if_neg (r4 g)]
      · rw [if_neg g]; exact m_isLetter_e a
    obtain ⟨v, e1, hv⟩ := m_wordAt ht (q := q) (e := j) (by omega) r2 (fun i h1 h2 => by
      by_cases e1 : i = q
      · rw [e1]; exact hc
      · exact r3 i (by omega) h2)
    rw [hd, if_pos rfl, a14, e1, Bd_some, Lt_e, rd1, if_pos rfl]
    rcases hv with ⟨w, w1, w2, w3⟩ | ⟨w1, w2⟩
    · rw [w3, if_neg (n_nI_m1 (by omega)), Lt_e]
      refine ⟨_, rfl, (ra.ups (by decide)).ups (by decide), ?_, ?_, Or.inl ⟨w, w1, w2, ?_, ?_⟩⟩
      · rw [rd2, if_neg (by decide), if_neg (by decide)]; exact a13
      · rw [rd2, if_neg (by decide), if_neg (by decide)]; exact a14
      · rw [rd2, if_pos rfl]
      · rw [rd2, if_neg (by decide), if_pos rfl]
    · rw [w2, if_pos rfl]
      refine ⟨_, rfl, ra.ups (by decide), ?_, ?_, Or.inr ⟨w1, ?_⟩⟩
      · rw [rd1, if_neg (by decide)]; exact a13
      · rw [rd1, if_neg (by decide)]; exact a14
      · rw [rd1, if_neg (by decide)]; exact a15
  | succ m =>
    have hje : j < e := by omega
    have hjn : j < n := by omega
    have hd : M_isLetter a (if j < n then nI (f j) else -1) = 1 := by rw [if_pos hjn, m_isLetter a _ (hb j hjn), if_pos (r3 j (by omega) hje)]
    rw [hd, if_neg (by decide), Lt_e]
    refine ih m _ (Nat.lt_succ_self m) ⟨j + 1, by omega, by omega, ra.ups (by decide), ?_, ?_, ?_⟩
    · rw [rd1, if_pos rfl, nI_1]
    · rw [rd1, if_neg (by decide)]; exact a14
    · rw [rd1, if_neg (by decide)]; exact a15
/-- the reference reads a token -/
theorem m_reads {f : Nat → Nat} {n p q e k g v : Nat} {s : ST} (h : RT f n s) (hp : s.1 0 13 = nI p) (T : TKN f n p q e k g v) : ∃ s', M_reads s = some s' ∧ rs s s' ∧ s'.1 0 13 = nI e ∧ s'.1 0 14 = nI q ∧ s'.1 0 15 = nI g ∧ (2 ≤ g → s'.1 0 16 = nI v) := by
  obtain ⟨hpq, bl, T⟩ := T
  have h400 := h.2.1
  have hb := h.2.2.2.1
  have hqn : q ≤ n := by rcases T with T | T | T | T <;> omega
  have hq4 : q < n → cls (f q) ≠ 4 := by
    intro hq
    rcases T with T | T | T | T
    · omega
    · rw [T.2.2.1]; decide
    · rw [T.2.2.1]; decide
    · rw [T.2.2.1]; decide
  unfold M_reads
  refine lo1 (Q := fun o => ∃ s', o = some s' ∧ rs s s' ∧ s'.1 0 13 = nI e ∧ s'.1 0 14 = nI q ∧ s'.1 0 15 = nI g ∧ (2 ≤ g → s'.1 0 16 = nI v)) (I := fun m a => ∃ j, j + m = q ∧ p ≤ j ∧ rs s a ∧ a.1 0 13 = nI j) ?_ FU (q - p) _ (by unfold FU; omega) ⟨p, by omega, Nat.le_refl _, rs.rf, hp⟩
  rintro m rf a ⟨j, hm, hj, ra, a13⟩ ih
  have ht := h.rs ra
  rw [a13, m_raw ht (by omega), Bd_some, Lt_e, Lt_e]
  have i32 : ∀ b, b < 256 → (nI b = (32 : Int32) ↔ b = 32) := fun b hb => nI_eq (b := 32) (by omega) (by decide)
  have i10 : ∀ b, b < 256 → (nI b = (10 : Int32) ↔ b = 10) := fun b hb => nI_eq (b := 10) (by omega) (by decide)
  cases m with
  | succ m =>
    have hjn : j < n := by omega
    have h4 := ((cls_b (f j) (hb j hjn)).1).mp (bl j (by omega) (by omega))
    have nx : ∃ s', rf (ups a 0 13 (nI j + 1)) = some s' ∧ rs s s' ∧ s'.1 0 13 = nI e ∧ s'.1 0 14 = nI q ∧ s'.1 0 15 = nI g ∧ (2 ≤ g → s'.1 0 16 = nI v) := ih m _ (Nat.lt_succ_self m) ⟨j + 1, by omega, by omega, ra.ups (by decide), by rw [rd1, if_pos rfl, nI_1]⟩
    rw [if_pos hjn]
    by_cases q1 : f j = 32
    · rw [if_pos ((i32 _ (hb j hjn)).mpr q1)]
      exact nx
    · rw [if_neg (fun h => q1 ((i32 _ (hb j hjn)).mp h)), Bd_some, if_pos ((i10 _ (hb j hjn)).mpr (h4.resolve_left q1))]
      exact nx
  | zero =>
    have hjq : j = q := by omega
    subst hjq
    have n32 : ¬ (if j < n then nI (f j) else -1) = (32 : Int32) := by
      by_cases gq : j < n
      · rw [if_pos gq]
        exact fun h => hq4 gq ((cls_b _ (hb j gq)).1.mpr (Or.inl ((i32 _ (hb j gq)).mp h)))
      · rw [if_neg gq]; decide
    have n10 : ¬ (if j < n then nI (f j) else -1) = (10 : Int32) := by
      by_cases gq : j < n
      · rw [if_pos gq]
        exact fun h => hq4 gq ((cls_b _ (hb j gq)).1.mpr (Or.inr ((i10 _ (hb j gq)).mp h)))
      · rw [if_neg gq]; decide
    rw [if_neg n32, Bd_some, if_neg n10, Lt_e, Lt_e]
    obtain ⟨s4, e4⟩ : ∃ s4, s4 = ups (ups a 0 14 (nI j)) 0 15 1 := ⟨_, rfl⟩
    have r4 : rs s s4 := by rw [e4]; exact (ra.ups (by decide)).ups (by decide)
    have v13 : s4.1 0 13 = nI j := by rw [e4, rd2, if_neg (by decide), if_neg (by decide)]; exact a13
    have v14 : s4.1 0 14 = nI j := by rw [e4, rd2, if_neg (by decide), if_pos rfl]
    have v15 : s4.1 0 15 = 1 := by rw [e4, rd2, if_pos rfl]
    rw [← e4, v13, m_raw (h.rs r4) (by omega), Bd_some]
    rcases T with ⟨t1, t2, t3, t4⟩ | ⟨t1, t2, t3, t4, t5⟩ | ⟨t1, t2, t3, t4, t5⟩ | ⟨t1, t2, t3, t4, t5⟩
    · rw [if_neg (show ¬ j < n by omega), if_pos (rfl : (-1 : Int32) = -1), Lt_e]
      refine ⟨_, rfl, r4.ups (by decide), ?_, ?_, ?_, fun h => by omega⟩
      · rw [rd1, if_neg (by decide), v13, t4, t1]
      · rw [rd1, if_neg (by decide)]; exact v14
      · rw [rd1, if_pos rfl, t3]; rfl
    all_goals
      have hbq := hb j t1
      rw [if_pos t1, if_neg (n_nI_m1 (by omega)), Lt_e, Lt_e]
      obtain ⟨s6, e6⟩ : ∃ s6, s6 = ups (ups s4 0 13 (nI j + 1)) 0 16 (nI (f j)) := ⟨_, rfl⟩
      have r6 : rs s s6 := by rw [e6]; exact (r4.ups (by decide)).ups (by decide)
      have w13 : s6.1 0 13 = nI (j + 1) := by rw [e6, rd2, if_neg (by decide), if_pos rfl, nI_1]
      have w14 : s6.1 0 14 = nI j := by rw [e6, rd2, if_neg (by decide), if_neg (by decide)]; exact v14
      have w15 : s6.1 0 15 = 1 := by rw [e6, rd2, if_neg (by decide), if_neg (by decide)]; exact v15
      have w16 : s6.1 0 16 = nI (f j) := by rw [e6, rd2, if_pos rfl]
      rw [← e6, Lt_e, m_isLetter s6 _ hbq, t3]
    · rw [if_pos rfl, if_neg (by decide)]
      obtain ⟨s', k1, k2, k3, k4, k5⟩ := m_letters h r6 t1 t3 t4 w13 w14 w15
      rw [k1]
      refine ⟨s', rfl, k2, k3, k4, ?_⟩
      rcases t5 with ⟨u1, u2, u3⟩ | ⟨u1, u2⟩
      · rcases k5 with ⟨w, x1, x2, x3, x4⟩ | ⟨x1, _⟩
        · have := MT_1 x1 u2 x2 u3
          subst this
          exact ⟨by rw [x3, u1]; rfl, fun _ => x4⟩
        · exact absurd u3 (x1 v u2)
      · rcases k5 with ⟨w, x1, x2, _⟩ | ⟨_, x2⟩
        · exact absurd x2 (u2 w x1)
        · exact ⟨by rw [x2, u1]; rfl, fun h => by omega⟩
    · rw [if_pos (show (if (2 : Nat) = 1 then (1 : Int32) else 0) = 0 by decide), Lt_e, m_isDigit s6 _ hbq, t3, if_neg (show ¬ (if (2 : Nat) = 2 then (1 : Int32) else 0) = 0 by decide), Lt_e]
      have hdg := (cls_b _ hbq).2.2.1 t3
      obtain ⟨s', k1, k2, k3, k4, k5, k6⟩ := m_digits (s0 := ups s6 0 16 (nI (f j) - 48)) h (r6.ups (by decide)) t1 t3 t4 (by rw [rd1, if_neg (by decide)]; exact w13) (by rw [rd1, if_neg (by decide)]; exact w14) (by rw [rd1, if_neg (by decide)]; exact w15) (by
        rw [rd1, if_pos rfl, show (48 : Int32) = nI 48 from rfl, nI_sub (by omega)]
        show _ = nI (10 * 0 + (f (j + 0) - 48))
        rw [Nat.add_zero, Nat.mul_zero, Nat.zero_add])
      rw [k1]
      refine ⟨s', rfl, k2, k3, k4, ?_⟩
      rcases t5 with ⟨u1, u2, u3⟩ | ⟨u1, u2⟩
      · exact ⟨by rw [k5, if_pos u2, u1]; rfl, fun _ => by rw [k6 u2, u3]⟩
      · exact ⟨by rw [k5, if_neg (by omega), u1]; rfl, fun h => by omega⟩
    · rw [if_pos (show (if (3 : Nat) = 1 then (1 : Int32) else 0) = 0 by decide), Lt_e, m_isDigit s6 _ hbq, t3, if_pos (show (if (3 : Nat) = 2 then (1 : Int32) else 0) = 0 by decide), Lt_e, m_isMark s6 _ hbq]
      rcases t5 with ⟨u1, u2, u3⟩ | ⟨u1, u2⟩
      · rw [u2, ift1, Lt_e]
        refine ⟨_, rfl, r6.ups (by decide), ?_, ?_, ?_, fun _ => ?_⟩
        · rw [rd1, if_neg (by decide), w13, t4]
        · rw [rd1, if_neg (by decide)]; exact w14
        · rw [rd1, if_pos rfl, u1]; rfl
        · rw [rd1, if_neg (by decide), w16, u3]
      · rw [u2, ift0]
        exact ⟨s6, rfl, r6, by rw [w13, t4], w14, by rw [w15, u1]; rfl, fun h => by omega⟩
