/-! # stage 2: who -/
/-- the gust is a function of what stands there: neither side's scratch matters -/
theorem gust_fn {W H nk nc nl nw np k : Nat} {sc sm : ST} (L : LD W H nk 1 sc sm) (T : TD W H nk nc nl nw np 8 sc sm) (hk : k < 64) (hc : cl W H k) : ∃ G : Int32 → Int32 → Int32, (∀ x s sc', agr [17, 18] sc sc' → ∃ sc'', C_X2_ask sc' 0 1 x (nI k) s = some (G x s, sc'') ∧ agr [17, 18] sc sc'') ∧ ∀ x s sm', agr [0, 20, 21] sm sm' → (∀ i, i ∉ [48, 49] → sm'.1 0 i = sm.1 0 i) → ∃ sm'', M_gustOf sm' x (nI k) s = some (G x s, sm'') ∧ agr [0, 20, 21] sm sm'' ∧ sm''.1 0 = sm'.1 0 := by
  have base : ∀ x s, ∃ v sc' sm', C_X2_ask sc 0 1 x (nI k) s = some (v, sc') ∧ M_gustOf sm x (nI k) s = some (v, sm') := fun x s => by
    obtain ⟨v, c1, m1, g1, g2, _⟩ := gust_sim (b := 1) (Or.inl rfl) L.lw T hk hc x s
    exact ⟨v, c1, m1, g1, g2⟩
  obtain ⟨G, hG⟩ : ∃ G : Int32 → Int32 → Int32, ∀ x s, ∃ sc' sm', C_X2_ask sc 0 1 x (nI k) s = some (G x s, sc') ∧ M_gustOf sm x (nI k) s = some (G x s, sm') := ⟨fun x s => (base x s).choose, fun x s => (base x s).choose_spec⟩
  refine ⟨G, fun x s sc' a => ?_, fun x s sm' a b0 => ?_⟩
  · obtain ⟨_, m0, _, h2⟩ := hG x s
    have L' : LD W H nk 1 sc' sm := LD_agr L (fun c hc => (a c (by simp only [List.mem_cons, List.not_mem_nil, or_false] at hc ⊢; omega)).1) (a 1 (by decide)).2 (fun _ _ => rfl) rfl rfl
    have T' : TD W H nk nc nl nw np 8 sc' sm := TD_agr T (fun c hc => (a c (by simp only [List.mem_cons, List.not_mem_nil, or_false] at hc ⊢; omega)).1) (fun _ _ => rfl) (fun _ _ => rfl)
    obtain ⟨v, c1, m1, g1, g2, a1, _⟩ := gust_sim (b := 1) (Or.inl rfl) L'.lw T' hk hc x s
    have e : v = G x s := congrArg Prod.fst (Option.some.inj (g2.symm.trans h2))
    exact ⟨c1, by rw [g1, e], a.tr a1⟩
  · obtain ⟨c0, _, h1, _⟩ := hG x s
    have L' : LD W H nk 1 sc sm' := LD_agr L (fun _ _ => rfl) rfl (fun i hi => b0 i (by simp only [List.mem_cons, List.not_mem_nil, or_false] at hi ⊢; omega)) (a 1 (by decide)).1 (a 4 (by decide)).1
    have T' : TD W H nk nc nl nw np 8 sc sm' := TD_agr T (fun _ _ => rfl) (fun i hi => b0 i (by simp only [List.mem_cons, List.not_mem_nil, or_false] at hi ⊢; omega)) (fun c hc => (a c (by simp only [List.mem_cons, List.not_mem_nil, or_false] at hc ⊢; omega)).1)
    obtain ⟨v, c1, m1, g1, g2, _, a2, _⟩ := gust_sim (b := 1) (Or.inl rfl) L'.lw T' hk hc x s
    have e : v = G x s := congrArg Prod.fst (Option.some.inj (g1.symm.trans h1))
    exact ⟨m1, by rw [g2, e], a.tr (a2.mono (by decide)), (a2 0 (by decide)).1⟩
theorem fb_ct_none {p : Nat → Bool} : ∀ {t : Nat}, fb_ct p t = 0 → ∀ j, j < t → p j = false
  | 0, _, j, hj => absurd hj (Nat.not_lt_zero j)
  | t + 1, h, j, hj => by
    rw [fb_ct_succ] at h
    have h1 : fb_ct p t = 0 := by omega
    by_cases e : j = t
    · subst e
      cases q : p j with
      | false => rfl
      | true =>
        rw [q, if_pos rfl] at h
        omega
    · exact fb_ct_none h1 j (by omega)
/-- a row of places without a hit adds nothing -/
theorem fb_ct_skip {p : Nat → Bool} {t d : Nat} (h : ∀ j, t ≤ j → j < t + d → p j = false) : fb_ct p (t + d) = fb_ct p t := by
  rw [fb_ct_split, fb_ct_zero (fun k hk => h (t + k) (by omega) (by omega)), Nat.add_zero]
theorem lo3 {C A1 A2 A3 : Type} {F : (A1 → A2 → A3 → Option C) → A1 → A2 → A3 → Option C} (Q : Option C → Prop) (I : Nat → A1 → A2 → A3 → Prop)
    (h : ∀ (m : Nat) (rf : A1 → A2 → A3 → Option C) (a1 : A1) (a2 : A2) (a3 : A3), I m a1 a2 a3 → (∀ m' a1 a2 a3, m' < m → I m' a1 a2 a3 → Q (rf a1 a2 a3)) → Q (F rf a1 a2 a3)) :
    ∀ (n m : Nat) (a1 : A1) (a2 : A2) (a3 : A3), m < n → I m a1 a2 a3 → Q (lpK3 F n a1 a2 a3) := by
  intro n
  induction n with
  | zero => intro m _ _ _ hm; omega
  | succ n ih =>
    intro m a1 a2 a3 hm hI
    exact h m (lpK3 F n) a1 a2 a3 hI (fun m' a1 a2 a3 hlt hI' => ih m' a1 a2 a3 (by omega) hI')
/-- what the class finds -/
theorem who_c {sc : ST} {nk k : Nat} {A : Nat → Nat} {G : Int32 → Int32 → Int32} {P : Nat → Bool} (y w : Int32) (hnk : nk ≤ 8)
    (h9 : ∀ sc', agr [17, 18] sc sc' → sc'.1 9 2 = nI nk)
    (h4 : ∀ sc' n, agr [17, 18] sc sc' → n < nk → C_X4_of sc' 9 (nI n) 0 = some (nI (A n)))
    (hA : ∀ n, n < nk → A n ≤ 20)
    (hG : ∀ x s sc', agr [17, 18] sc sc' → ∃ sc'', C_X2_ask sc' 0 1 x (nI k) s = some (G x s, sc'') ∧ agr [17, 18] sc sc'')
    (hP : ∀ n s, n < nk → s < 31 → (P (31 * n + s) = true ↔ A n ≤ s ∧ G (nI n) (nI s) = y)) :
    ∃ r sc', lpK3 (C := Int32 × ST) (fun (rec1 : Int32 → Int32 → ST → Option (Int32 × ST)) (a1 : Int32) (a2 : Int32) (s1 : ST) => if (s1.1 9 2) ≤ a2 then (if w = 0 then (some (a1, s1)) else (some ((-1 : Int32), s1))) else (Bd (C_X4_of s1 9 a2 (0 : Int32)) fun y4 => lpK3 (C := Int32 × ST) (fun (rec2 : Int32 → Int32 → ST → Option (Int32 × ST)) (a3 : Int32) (a4 : Int32) (s2 : ST) => if (30 : Int32) < a4 then (rec1 a3 (a2 + (1 : Int32)) s2) else (Bd (C_X2_ask s2 (0 : Int32) 1 a2 (nI k) a4) fun y5 => Lt (fun (a5 : Int32) => (rec2 a5 (a4 + (1 : Int32)) y5.2 : Option (Int32 × ST))) fun j1 => if y5.1 = y then (if w = 0 then (j1 (a3 + (1 : Int32))) else (if w = (1 : Int32) then (some (a2, y5.2)) else (some (a4, y5.2)))) else (j1 a3))) FU a1 y4 s1)) FU (0 : Int32) (0 : Int32) sc = some (r, sc') ∧ agr [17, 18] sc sc' ∧ ((w = 0 ∧ r = nI (fb_ct P (31 * nk))) ∨ (¬ w = 0 ∧ ((fb_ct P (31 * nk) = 0 ∧ r = -1) ∨ ∃ j, j < 31 * nk ∧ P j = true ∧ (∀ i, i < j → P i = false) ∧ r = if w = 1 then nI (j / 31) else nI (j % 31)))) := by
  refine lo3 (Q := fun o => ∃ r sc', o = some (r, sc') ∧ agr [17, 18] sc sc' ∧ ((w = 0 ∧ r = nI (fb_ct P (31 * nk))) ∨ (¬ w = 0 ∧ ((fb_ct P (31 * nk) = 0 ∧ r = -1) ∨ ∃ j, j < 31 * nk ∧ P j = true ∧ (∀ i, i < j → P i = false) ∧ r = if w = 1 then nI (j / 31) else nI (j % 31))))) (I := fun m a1 a2 s => ∃ n, n + m = nk ∧ a2 = nI n ∧ agr [17, 18] sc s ∧ a1 = nI (if w = 0 then fb_ct P (31 * n) else 0) ∧ (¬ w = 0 → fb_ct P (31 * n) = 0)) ?_ FU nk _ _ _ (by unfold FU; omega) ⟨0, by omega, rfl, agr.rf, by rw [show 31 * 0 = 0 from rfl]; split <;> rfl, fun _ => rfl⟩
  rintro m rf a1 a2 s ⟨n, hm, rfl, a, rfl, h0⟩ ih
  rw [h9 s a]
  cases m with
  | zero =>
    have hn : n = nk := by omega
    subst hn
    rw [if_pos (le_t (by omega))]
    by_cases q : w = 0
    · rw [if_pos q, if_pos q]
      exact ⟨_, s, rfl, a, Or.inl ⟨q, rfl⟩⟩
    · rw [if_neg q]
      exact ⟨_, s, rfl, a, Or.inr ⟨q, Or.inl ⟨h0 q, rfl⟩⟩⟩
  | succ m =>
    have hn : n < nk := by omega
    have hAn := hA n hn
    rw [if_neg (nle_t hn (by omega)), h4 s n a hn, Bd_some]
    have sk : fb_ct P (31 * n + A n) = fb_ct P (31 * n) := fb_ct_skip (fun j h1 h2 => by
      cases e : P j with
      | false => rfl
      | true =>
        have := (hP n (j - 31 * n) hn (by omega)).mp (by rw [show 31 * n + (j - 31 * n) = j by omega]; exact e)
        omega)
    refine lo3 (Q := fun o => ∃ r sc', o = some (r, sc') ∧ agr [17, 18] sc sc' ∧ ((w = 0 ∧ r = nI (fb_ct P (31 * nk))) ∨ (¬ w = 0 ∧ ((fb_ct P (31 * nk) = 0 ∧ r = -1) ∨ ∃ j, j < 31 * nk ∧ P j = true ∧ (∀ i, i < j → P i = false) ∧ r = if w = 1 then nI (j / 31) else nI (j % 31))))) (I := fun m a1 a2 s => ∃ d, A n ≤ d ∧ d + m = 31 ∧ a2 = nI d ∧ agr [17, 18] sc s ∧ a1 = nI (if w = 0 then fb_ct P (31 * n + d) else 0) ∧ (¬ w = 0 → fb_ct P (31 * n + d) = 0)) ?_ FU (31 - A n) _ _ _ (by unfold FU; omega) ⟨A n, Nat.le_refl _, by omega, rfl, a, by rw [sk], by rw [sk]; exact h0⟩
    rintro m2 rf2 b1 b2 s2 ⟨d, hd, hm2, rfl, a2, rfl, h02⟩ ih2
    have e30 : (30 : Int32) < nI d ↔ 30 < d := by rw [show (30 : Int32) = nI 30 from rfl, nI_ltI (by decide) (by omega)]
    cases m2 with
    | zero =>
      have hd31 : d = 31 := by omega
      subst hd31
      rw [if_pos (e30.mpr (by omega)), nI_1]
      exact ih m _ _ _ (Nat.lt_succ_self m) ⟨n + 1, by omega, rfl, a2, by rw [show 31 * (n + 1) = 31 * n + 31 by omega], by rw [show 31 * (n + 1) = 31 * n + 31 by omega]; exact h02⟩
    | succ m2 =>
      have hd31 : d < 31 := by omega
      obtain ⟨s3, g1, a3⟩ := hG (nI n) (nI d) s2 a2
      rw [if_neg (fun h => absurd (e30.mp h) (by omega)), g1, Bd_some, Lt_e, nI_1]
      dsimp only
      have st := fb_ct_succ P (31 * n + d)
      cases e : P (31 * n + d) with
      | true =>
        rw [e, if_pos rfl] at st
        rw [if_pos ((hP n d hn hd31).mp e).2]
        by_cases q : w = 0
        · rw [if_pos q, if_pos q, nI_1]
          exact ih2 m2 _ _ _ (Nat.lt_succ_self m2) ⟨d + 1, by omega, by omega, rfl, a3, by rw [if_pos q, show 31 * n + (d + 1) = 31 * n + d + 1 by omega, st], fun h => absurd q h⟩
        · have hit : 31 * n + d < 31 * nk ∧ P (31 * n + d) = true ∧ (∀ i, i < 31 * n + d → P i = false) := ⟨by omega, e, fb_ct_none (h02 q)⟩
          rw [if_neg q]
          by_cases q1 : w = 1
          · rw [if_pos q1]
            exact ⟨_, s3, rfl, a3, Or.inr ⟨q, Or.inr ⟨31 * n + d, hit.1, hit.2.1, hit.2.2, by rw [if_pos q1, show (31 * n + d) / 31 = n by omega]⟩⟩⟩
          · rw [if_neg q1]
            exact ⟨_, s3, rfl, a3, Or.inr ⟨q, Or.inr ⟨31 * n + d, hit.1, hit.2.1, hit.2.2, by rw [if_neg q1, show (31 * n + d) % 31 = d by omega]⟩⟩⟩
      | false =>
        have hne : ¬ G (nI n) (nI d) = y := fun h => by
          rw [(hP n d hn hd31).mpr ⟨hd, h⟩] at e
          cases e
        rw [e, if_neg (by decide)] at st
        rw [if_neg hne]
        exact ih2 m2 _ _ _ (Nat.lt_succ_self m2) ⟨d + 1, by omega, by omega, rfl, a3, by rw [show 31 * n + (d + 1) = 31 * n + d + 1 by omega, st, Nat.add_zero], fun h => by rw [show 31 * n + (d + 1) = 31 * n + d + 1 by omega, st, Nat.add_zero]; exact h02 h⟩
/-- what the reference finds -/
theorem who_m {sm sm2 : ST} {nk k : Nat} {A : Nat → Nat} {G : Int32 → Int32 → Int32} {P : Nat → Bool} (y : Int32) (hnk : nk ≤ 8)
    (h0 : agr [0, 20, 21] sm sm2) (h00 : ∀ i, i ∉ [48, 49] → sm2.1 0 i = sm.1 0 i) (h48 : sm2.1 0 48 = 0) (h49 : sm2.1 0 49 = -1)
    (h34 : sm.1 0 34 = nI nk)
    (h4 : ∀ n, n < nk → sm.1 16 (3 * n) = nI (A n))
    (hA : ∀ n, n < nk → A n ≤ 20)
    (hG : ∀ x s sm', agr [0, 20, 21] sm sm' → (∀ i, i ∉ [48, 49] → sm'.1 0 i = sm.1 0 i) → ∃ sm'', M_gustOf sm' x (nI k) s = some (G x s, sm'') ∧ agr [0, 20, 21] sm sm'' ∧ sm''.1 0 = sm'.1 0)
    (hP : ∀ n s, n < nk → s < 31 → (P (31 * n + s) = true ↔ A n ≤ s ∧ G (nI n) (nI s) = y)) :
    ∃ sm', lpK2 (C := ST) (fun (rec1 : Int32 → ST → Option (ST)) (a1 : Int32) (s3 : ST) => if (s3.1 0 34) ≤ a1 then (some s3) else (Bd (M_ofKind s3 a1 (0 : Int32)) fun y1 => lpK2 (C := ST) (fun (rec2 : Int32 → ST → Option (ST)) (a2 : Int32) (s4 : ST) => if (30 : Int32) < a2 then (rec1 (a1 + (1 : Int32)) s4) else (Bd (M_gustOf s4 a1 (nI k) a2) fun y2 => Lt (fun (s5 : ST) => (rec2 (a2 + (1 : Int32)) s5 : Option (ST))) fun j1 => if y2.1 = y then (Lt (fun (s6 : ST) => (Lt (ups s6 0 48 ((s6.1 0 48) + (1 : Int32))) fun s7 => j1 s7 : Option (ST))) fun j2 => if (y2.2.1 0 48) = 0 then (Lt (ups y2.2 0 49 (((64 : Int32) * a1) + a2)) fun s8 => j2 s8) else (j2 y2.2)) else (j1 y2.2))) FU y1 s3)) FU (0 : Int32) sm2 = some sm' ∧ agr [0, 20, 21] sm sm' ∧ (∀ i, i ∉ [48, 49] → sm'.1 0 i = sm.1 0 i) ∧ sm'.1 0 48 = nI (fb_ct P (31 * nk)) ∧ ((fb_ct P (31 * nk) = 0 ∧ sm'.1 0 49 = -1) ∨ ∃ j, j < 31 * nk ∧ P j = true ∧ (∀ i, i < j → P i = false) ∧ sm'.1 0 49 = nI (64 * (j / 31) + j % 31)) := by
  obtain ⟨J, hJ⟩ : ∃ J : Nat → ST → Prop, ∀ t s, J t s ↔ (agr [0, 20, 21] sm s ∧ (∀ i, i ∉ [48, 49] → s.1 0 i = sm.1 0 i) ∧ s.1 0 48 = nI (fb_ct P t) ∧ ((fb_ct P t = 0 ∧ s.1 0 49 = -1) ∨ ∃ j, j < t ∧ P j = true ∧ (∀ i, i < j → P i = false) ∧ s.1 0 49 = nI (64 * (j / 31) + j % 31))) := ⟨fun t s => _, fun t s => Iff.rfl⟩
  refine lo2 (Q := fun o => ∃ sm', o = some sm' ∧ agr [0, 20, 21] sm sm' ∧ (∀ i, i ∉ [48, 49] → sm'.1 0 i = sm.1 0 i) ∧ sm'.1 0 48 = nI (fb_ct P (31 * nk)) ∧ ((fb_ct P (31 * nk) = 0 ∧ sm'.1 0 49 = -1) ∨ ∃ j, j < 31 * nk ∧ P j = true ∧ (∀ i, i < j → P i = false) ∧ sm'.1 0 49 = nI (64 * (j / 31) + j % 31))) (I := fun m a s => ∃ n, n + m = nk ∧ a = nI n ∧ J (31 * n) s) ?_ FU nk _ _ (by unfold FU; omega) ⟨0, by omega, rfl, (hJ _ _).mpr ⟨h0, h00, h48, Or.inl ⟨rfl, h49⟩⟩⟩
  rintro m rf a s ⟨n, hm, rfl, hj⟩ ih
  obtain ⟨u1, u2, u3, u4⟩ := (hJ _ _).mp hj
  rw [show s.1 0 34 = nI nk from (u2 34 (by decide)).trans h34]
  cases m with
  | zero =>
    have hn : n = nk := by omega
    subst hn
    rw [if_pos (le_t (by omega))]
    exact ⟨s, rfl, u1, u2, u3, u4⟩
  | succ m =>
    have hn : n < nk := by omega
    have hAn := hA n hn
    have e16 : M_ofKind s (nI n) 0 = some (nI (A n)) := (m_ofKind (n := n) (c := 0) (by omega) (by decide)).trans (by rw [(u1 16 (by decide)).1, Nat.add_zero, h4 n hn])
    rw [if_neg (nle_t hn (by omega)), e16, Bd_some, nI_1]
    have none1 : ∀ j, 31 * n ≤ j → j < 31 * n + A n → P j = false := fun j h1 h2 => by
      cases e : P j with
      | false => rfl
      | true =>
        have := (hP n (j - 31 * n) hn (by omega)).mp (by rw [show 31 * n + (j - 31 * n) = j by omega]; exact e)
        omega
    have sk : fb_ct P (31 * n + A n) = fb_ct P (31 * n) := fb_ct_skip none1
    refine lo2 (Q := fun o => ∃ sm', o = some sm' ∧ agr [0, 20, 21] sm sm' ∧ (∀ i, i ∉ [48, 49] → sm'.1 0 i = sm.1 0 i) ∧ sm'.1 0 48 = nI (fb_ct P (31 * nk)) ∧ ((fb_ct P (31 * nk) = 0 ∧ sm'.1 0 49 = -1) ∨ ∃ j, j < 31 * nk ∧ P j = true ∧ (∀ i, i < j → P i = false) ∧ sm'.1 0 49 = nI (64 * (j / 31) + j % 31))) (I := fun m a s => ∃ d, A n ≤ d ∧ d + m = 31 ∧ a = nI d ∧ J (31 * n + d) s) ?_ FU (31 - A n) _ _ (by unfold FU; omega) ⟨A n, Nat.le_refl _, by omega, rfl, (hJ _ _).mpr ⟨u1, u2, by rw [sk]; exact u3, ?_⟩⟩
    · rintro m2 rf2 b s2 ⟨d, hd, hm2, rfl, hj2⟩ ih2
      obtain ⟨v1, v2, v3, v4⟩ := (hJ _ _).mp hj2
      have e30 : (30 : Int32) < nI d ↔ 30 < d := by rw [show (30 : Int32) = nI 30 from rfl, nI_ltI (by decide) (by omega)]
      cases m2 with
      | zero =>
        have hd31 : d = 31 := by omega
        subst hd31
        rw [if_pos (e30.mpr (by omega))]
        exact ih m _ _ (Nat.lt_succ_self m) ⟨n + 1, by omega, rfl, by rw [show 31 * (n + 1) = 31 * n + 31 by omega]; exact hj2⟩
      | succ m2 =>
        have hd31 : d < 31 := by omega
        obtain ⟨s3, g1, g2, g3⟩ := hG (nI n) (nI d) s2 v1 v2
        have w2 : ∀ i, i ∉ [48, 49] → s3.1 0 i = sm.1 0 i := fun i hi => by rw [g3]; exact v2 i hi
        have st := fb_ct_succ P (31 * n + d)
        rw [if_neg (fun h => absurd (e30.mp h) (by omega)), g1, Bd_some, Lt_e, nI_1]
        dsimp only
        cases e : P (31 * n + d) with
        | false =>
          have hne : ¬ G (nI n) (nI d) = y := fun h => by
            rw [(hP n d hn hd31).mpr ⟨hd, h⟩] at e
            cases e
          rw [e, if_neg (by decide), Nat.add_zero] at st
          rw [if_neg hne]
          refine ih2 m2 _ _ (Nat.lt_succ_self m2) ⟨d + 1, by omega, by omega, rfl, (hJ _ _).mpr ⟨g2, w2, by rw [show 31 * n + (d + 1) = 31 * n + d + 1 by omega, st, g3]; exact v3, ?_⟩⟩
          rw [show 31 * n + (d + 1) = 31 * n + d + 1 by omega, st, g3]
          rcases v4 with v4 | ⟨j, j1, j2, j3, j4⟩
          · exact Or.inl v4
          · exact Or.inr ⟨j, by omega, j2, j3, j4⟩
        | true =>
          rw [e, if_pos rfl] at st
          have hc := fb_ct_le P (31 * n + d)
          rw [if_pos ((hP n d hn hd31).mp e).2, Lt_e, g3, v3]
          have hz : (nI (fb_ct P (31 * n + d)) = 0) ↔ fb_ct P (31 * n + d) = 0 := nI_eq (b := 0) (by omega) (by decide)
          by_cases q : fb_ct P (31 * n + d) = 0
          · rw [if_pos (hz.mpr q), Lt_e]
            dsimp only
            rw [Lt_e]
            refine ih2 m2 _ _ (Nat.lt_succ_self m2) ⟨d + 1, by omega, by omega, rfl, (hJ _ _).mpr ⟨(g2.ups (by decide)).ups (by decide), fun i hi => ?_, ?_, Or.inr ⟨31 * n + d, by omega, e, fb_ct_none q, ?_⟩⟩⟩
            · have hi1 : ¬ i = 48 := by rintro rfl; exact hi (by decide)
              have hi2 : ¬ i = 49 := by rintro rfl; exact hi (by decide)
              rw [rd2, if_neg hi1, if_neg hi2]
              exact w2 i hi
            · rw [rd2, if_pos rfl, rd1, if_neg (by decide), g3, v3, nI_1, show 31 * n + (d + 1) = 31 * n + d + 1 by omega, st]
            · rw [rd2, if_neg (by decide), if_pos rfl, show (31 * n + d) / 31 = n by omega, show (31 * n + d) % 31 = d by omega, show (64 : Int32) = nI 64 from rfl, nI_mul, nI_add]
          · rw [if_neg (fun h => q (hz.mp h))]
            dsimp only
            rw [Lt_e]
            refine ih2 m2 _ _ (Nat.lt_succ_self m2) ⟨d + 1, by omega, by omega, rfl, (hJ _ _).mpr ⟨g2.ups (by decide), fun i hi => ?_, ?_, ?_⟩⟩
            · have hi1 : ¬ i = 48 := by rintro rfl; exact hi (by decide)
              rw [rd1, if_neg hi1]
              exact w2 i hi
            · rw [rd1, if_pos rfl, g3, v3, nI_1, show 31 * n + (d + 1) = 31 * n + d + 1 by omega, st]
            · rcases v4 with ⟨v4, _⟩ | ⟨j, j1, j2, j3, j4⟩
              · exact absurd v4 q
              · exact Or.inr ⟨j, by omega, j2, j3, by rw [rd1, if_neg (by decide), g3]; exact j4⟩
    · rw [sk]
      rcases u4 with u4 | ⟨j, j1, j2, j3, j4⟩
      · exact Or.inl u4
      · exact Or.inr ⟨j, by omega, j2, j3, j4⟩
theorem in19 (s : ST) (x : Int32) : M_isIn s x 1 9 = 0 ∨ ∃ n, 1 ≤ n ∧ n ≤ 9 ∧ x = nI n ∧ M_isIn s x 1 9 = 1 := by
  unfold M_isIn
  by_cases hx : x < 1
  · rw [if_pos hx]; exact Or.inl rfl
  · rw [if_neg hx]
    obtain ⟨j, hj, rfl⟩ := nI_of (x := x) (by
      rw [fa_lt] at hx ⊢
      have e0 : (0 : Int32).toInt = 0 := by decide
      have e1 : (1 : Int32).toInt = 1 := by decide
      omega)
    by_cases h : (9 : Int32) < nI j
    · rw [if_pos h]; exact Or.inl rfl
    · rw [if_neg h]
      rw [show (9 : Int32) = nI 9 from rfl, nI_ltI (by decide) hj] at h
      rw [show (1 : Int32) = nI 1 from rfl, nI_ltI hj (by decide)] at hx
      exact Or.inr ⟨j, by omega, by omega, rfl, rfl⟩
theorem first_eq {P : Nat → Bool} {i j : Nat} (hi : P i = true) (h1 : ∀ k, k < i → P k = false) (hj : P j = true) (h2 : ∀ k, k < j → P k = false) : i = j := by
  rcases Nat.lt_trichotomy i j with h | h | h
  · rw [h2 i h] at hi; cases hi
  · exact h
  · rw [h1 j h] at hj; cases hj
theorem s_who : Sim_who Rel := by
  rintro sc sm x y w ⟨W, H, nk, nc, nl, nw, np, R⟩
  have h10 : ¬ (1 : Int32) = 0 := by decide
  have h00 : (0 : Int32) = 0 := rfl
  have R' := R8_told R
  have h8 := R'.T.k8
  obtain ⟨CB, hc0⟩ : ∃ q, C_X9_who sc x y w = q := ⟨_, rfl⟩
  obtain ⟨MB, hm0⟩ : ∃ q, M_who sm x y w = q := ⟨_, rfl⟩
  rw [hc0, hm0]
  unfold C_X9_who at hc0
  unfold M_who at hm0
  rw [Lt_e] at hc0
  rw [Lt_e, Lt_e] at hm0
  generalize ups sm 0 0 0 = m0 at *
  rcases in_cell R'.L x with ⟨a, b, _⟩ | ⟨k, hk, hc, rfl, a, b⟩
  · rw [a, if_pos h00] at hc0
    rw [b, if_pos h00] at hm0
    exact ⟨-1, _, m0, hc0.symm, hm0.symm, W, H, nk, nc, nl, nw, np, R'⟩
  rw [a, if_neg h10, Lt_e, show C_X9_isWithin sc y 1 9 = M_isIn m0 y 1 9 from rfl] at hc0
  rw [b, if_neg h10, Lt_e] at hm0
  rcases in19 m0 y with b | ⟨v, _, _, _, b⟩
  · rw [b, if_pos h00] at hc0 hm0
    exact ⟨-1, _, m0, hc0.symm, hm0.symm, W, H, nk, nc, nl, nw, np, R'⟩
  rw [b, if_neg h10, Lt_e, show C_X9_isWithin sc w 0 2 = M_isIn m0 w 0 2 from rfl] at hc0
  rw [b, if_neg h10, Lt_e] at hm0
  rcases inN m0 w 2 (by decide) with ⟨b, _⟩ | ⟨wn, hw, hwe, b⟩
  · rw [show M_isIn m0 w 0 2 = 0 from b, if_pos h00] at hc0 hm0
    exact ⟨-1, _, m0, hc0.symm, hm0.symm, W, H, nk, nc, nl, nw, np, R'⟩
  rw [show M_isIn m0 w 0 2 = 1 from b, if_neg h10] at hc0 hm0
  obtain ⟨A, hA⟩ : ∃ A : Nat → Nat, ∀ n, n < nk → A n ≤ 20 ∧ sc.1 10 (4 * n) = nI (A n) ∧ m0.1 16 (3 * n) = nI (A n) :=
    ⟨fun n => if h : n < nk then (R'.T.kd n h).choose else 0, fun n h => by
      dsimp only
      rw [dif_pos h]
      obtain ⟨b, c, _, h2, _, _, _, h6, _, _, h9, _⟩ := (R'.T.kd n h).choose_spec
      exact ⟨h2, h6, h9⟩⟩
  obtain ⟨G, G1, G2⟩ := gust_fn R'.L R'.T hk hc
  obtain ⟨P, hPe⟩ : ∃ P : Nat → Bool, ∀ t, P t = (decide (A (t / 31) ≤ t % 31) && decide (G (nI (t / 31)) (nI (t % 31)) = y)) := ⟨fun t => (decide (A (t / 31) ≤ t % 31) && decide (G (nI (t / 31)) (nI (t % 31)) = y)), fun _ => rfl⟩
  have hP : ∀ n s, n < nk → s < 31 → (P (31 * n + s) = true ↔ A n ≤ s ∧ G (nI n) (nI s) = y) := fun n s _ hs => by
    rw [hPe, show (31 * n + s) / 31 = n by omega, show (31 * n + s) % 31 = s by omega]
    simp only [Bool.and_eq_true, decide_eq_true_eq]
  obtain ⟨r, c1, e1, a1, k1⟩ := who_c (sc := sc) (nk := nk) (k := k) (A := A) (G := G) (P := P) y w h8
    (fun sc' a => by rw [(a 9 (by decide)).1]; exact R'.T.k)
    (fun sc' n a hn => by
      have T' : TD W H nk nc nl nw np 8 sc' m0 := TD_8 R'.T a (agr.rf (W := [])) (by decide) (by decide)
      rw [show (0 : Int32) = nI 0 from rfl, kind_c T' hn (by decide), (a 10 (by decide)).1, Nat.add_zero, (hA n hn).2.1])
    (fun n hn => (hA n hn).1) G1 hP
  obtain ⟨m1, e2, a2, b2, k2, k3⟩ := who_m (sm := m0) (sm2 := ups (ups m0 0 48 0) 0 49 (-1)) (nk := nk) (k := k) (A := A) (G := G) (P := P) y h8
    ((agr.rf.ups (by decide)).ups (by decide)) (fun i hi => by
      have hi1 : ¬ i = 48 := by rintro rfl; exact hi (by decide)
      have hi2 : ¬ i = 49 := by rintro rfl; exact hi (by decide)
      rw [rd2, if_neg hi2, if_neg hi1]) (by rw [rd2, if_neg (by decide), if_pos rfl]) (by rw [rd2, if_pos rfl]) R'.T.k' (fun n hn => (hA n hn).2.2) (fun n hn => (hA n hn).1) G2 hP
  have F : M_findsWho m0 (nI k) y = some m1 := by
    unfold M_findsWho
    rw [Lt_e, Lt_e]
    exact e2
  have R1 : R8 W H nk nc nl nw np c1 m1 := R8_q R' (a1.mono (by decide)) (a2.mono (by decide)) (fun i hi => b2 i (by simp only [List.mem_cons, List.not_mem_nil, or_false, not_or] at hi ⊢; omega))
  rw [F, Bd_some] at hm0
  refine ⟨r, c1, m1, hc0.symm.trans e1, ?_, W, H, nk, nc, nl, nw, np, R1⟩
  rw [← hm0]
  rcases k1 with ⟨q, k1⟩ | ⟨q, k1⟩
  · rw [if_pos q, k2, k1]
  · rw [if_neg q]
    rcases k1 with ⟨z, k1⟩ | ⟨j, j1, j2, j3, k1⟩
    · rcases k3 with ⟨_, k3⟩ | ⟨i, i1, i2, i3, k3⟩
      · rw [if_pos k3, k1]
      · rw [fb_ct_none z i i1] at i2
        cases i2
    · rcases k3 with ⟨z, k3⟩ | ⟨i, i1, i2, i3, k3⟩
      · rw [fb_ct_none z j j1] at j2
        cases j2
      · have hij : i = j := first_eq i2 i3 j2 j3
        subst hij
        rw [k3, if_neg (n_nI_m1 (by omega)), show (64 : Int32) = nI 64 from rfl, nI_div (by omega) (by decide), irm_nI (by omega) (by decide), show (64 * (i / 31) + i % 31) / 64 = i / 31 by omega, show (64 * (i / 31) + i % 31) % 64 = i % 31 by omega, k1]
        by_cases q1 : w = 1
        · rw [if_pos q1, if_pos q1]
        · rw [if_neg q1, if_neg q1]
