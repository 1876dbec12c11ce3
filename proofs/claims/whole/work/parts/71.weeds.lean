/-! # stage 2: weeds -/
def wdS (p : Nat → Bool) (c : Nat) (s : ST) (i : Nat) : ST := upr s 1 (fun j => if 69 ≤ j ∧ j < 133 ∧ p (j - 69) = true ∧ c.testBit (fb_ct p (j - 69)) = true ∧ fb_ct p (j - 69) < i then 0 else s.1 1 j)
theorem wd_loop {s : ST} {C : Type} {K : ST → Option C} {p : Nat → Bool} {c n : Nat} (hc : c < 1024) (hn : n = fb_ct p 64) (h10 : n ≤ 10) (hr : ∀ k, k < 64 → p k = true → s.1 22 (fb_ct p k) = nI k) : lpK2 (C := C) (fun (rec3 : Int32 → ST → Option (C)) (a6 : Int32) (s7 : ST) => if (nI n) ≤ a6 then (K s7) else (Lt (fun (s9 : ST) => (rec3 (a6 + (1 : Int32)) s9 : Option (C))) fun j5 => if (((nI c) >>> (a6 &&& 31)) &&& (1 : Int32)) = (1 : Int32) then (Gl s7 22 10 a6 fun y8 => Gs s7 1 389 ((69 : Int32) + y8) (0 : Int32) fun s10 => j5 s10) else (j5 s7))) FU (0 : Int32) s = K (wdS p c s n) := by
  refine lo2 (Q := fun o => o = K (wdS p c s n)) (I := fun m a st => ∃ i, i + m = n ∧ a = nI i ∧ st = wdS p c s i) ?_ FU n _ _ (by unfold FU; omega) ⟨0, by omega, rfl, ?_⟩
  · rintro m rf a st ⟨i, him, rfl, rfl⟩ ih
    cases m with
    | zero =>
      have hi : i = n := by omega
      subst hi
      rw [if_pos (le_t (by omega))]
    | succ m =>
      have hi : i < n := by omega
      obtain ⟨z, hz, pz, ez⟩ := rk_sur (p := p) (n := 64) (i := i) (by omega)
      rw [if_neg (nle_t hi (by omega)), Lt_e, nI_1, ite_iff (kb10 c hc i (by omega))]
      cases t : c.testBit i with
      | false =>
        rw [if_neg (by decide)]
        refine ih m _ _ (Nat.lt_succ_self m) ⟨i + 1, by omega, rfl, ?_⟩
        unfold wdS
        congr 1
        funext j
        by_cases q : 69 ≤ j ∧ j < 133 ∧ p (j - 69) = true ∧ c.testBit (fb_ct p (j - 69)) = true ∧ fb_ct p (j - 69) < i
        · rw [if_pos q, if_pos ⟨q.1, q.2.1, q.2.2.1, q.2.2.2.1, by omega⟩]
        · rw [if_neg q, if_neg]
          rintro ⟨q1, q2, q3, q4, q5⟩
          by_cases e : fb_ct p (j - 69) = i
          · rw [e, t] at q4; cases q4
          · exact q ⟨q1, q2, q3, q4, by omega⟩
      | true =>
        have h22 : (wdS p c s i).1 22 i = nI z := by
          have := hr z hz pz
          rw [ez] at this
          unfold wdS
          rw [upr_ne (by decide)]
          exact this
        rw [if_pos rfl, Gl_n (by omega) (by decide), h22, show (69 : Int32) = nI 69 from rfl, nI_add, Gs_n (by omega) (by decide)]
        refine ih m _ _ (Nat.lt_succ_self m) ⟨i + 1, by omega, rfl, ?_⟩
        unfold wdS
        rw [ups_upr]
        congr 1
        funext j
        unfold upd
        dsimp only
        by_cases e : j = 69 + z
        · rw [if_pos e, if_pos]
          refine ⟨by omega, by omega, ?_⟩
          rw [show j - 69 = z by omega, ez]
          exact ⟨pz, t, by omega⟩
        · rw [if_neg e]
          by_cases q : 69 ≤ j ∧ j < 133 ∧ p (j - 69) = true ∧ c.testBit (fb_ct p (j - 69)) = true ∧ fb_ct p (j - 69) < i
          · rw [if_pos q, if_pos ⟨q.1, q.2.1, q.2.2.1, q.2.2.2.1, by omega⟩]
          · rw [if_neg q, if_neg]
            rintro ⟨q1, q2, q3, q4, q5⟩
            by_cases e2 : fb_ct p (j - 69) = i
            · have := rk_inj q3 pz (e2.trans ez.symm)
              omega
            · exact q ⟨q1, q2, q3, q4, by omega⟩
  · unfold wdS
    have e : (fun j => if 69 ≤ j ∧ j < 133 ∧ p (j - 69) = true ∧ c.testBit (fb_ct p (j - 69)) = true ∧ fb_ct p (j - 69) < 0 then 0 else s.1 1 j) = s.1 1 := by
      funext j
      exact if_neg (fun h => absurd h.2.2.2.2 (Nat.not_lt_zero _))
    rw [e, upr_self]
/-- calm for all of n days -/
theorem calm_sim {W H nk nc nl nw np n : Nat} {dy : Int32} {sc0 sm0 c2 m1 sc sm : ST} (t : TW sc0 sm0 c2 m1) (D : Dt W H nk dy c2 m1 sc sm) (T : TD W H nk nc nl nw np 8 c2 m1) (hn : n ≤ 60) (x : Int64) : ∃ (b : Bool) (c6 m6 : ST), lpK2 (C := Int32 × ST) (fun (rec1 : Int32 → ST → Option (Int32 × ST)) (a1 : Int32) (s3 : ST) => if (nI n) ≤ a1 then (some ((1 : Int32), s3)) else (Bd (C_X8_dawn_t s3 (1 : Int32)) fun y1 => if (lg_cmp ((y1.2.2 72 9) &&& x) (0 : Int64)) = 0 then (Bd (C_X8_dusk_t y1.2) fun s4 => rec1 (a1 + (1 : Int32)) s4) else (some ((0 : Int32), y1.2)))) FU (0 : Int32) sc = some (if b = true then 1 else 0, c6) ∧ M_isCalmFor sm x (nI n) = some (if b = true then 1 else 0, m6) ∧ TW sc0 sm0 c6 m6 ∧ m6.1 22 = m1.1 22 := by
  have h10 : ¬ (1 : Int32) = 0 := by decide
  have h5 : m1.1 0 5 = 1 := t.2.2.2.1
  unfold M_isCalmFor
  refine lkg23 (Q := fun oc om => ∃ (b : Bool) (c6 m6 : ST), oc = some (if b = true then 1 else 0, c6) ∧ om = some (if b = true then 1 else 0, m6) ∧ TW sc0 sm0 c6 m6 ∧ m6.1 22 = m1.1 22) (I := fun m a s1 b1 b2 s2 => ∃ i dy, i + m = n ∧ a = nI i ∧ b1 = 1 ∧ b2 = nI i ∧ Dt W H nk dy c2 m1 s1 s2) ?_ FU n _ _ _ _ _ (by unfold FU; omega) ⟨0, _, by omega, rfl, rfl, rfl, D⟩
  rintro m rf rg a s1 b1 b2 s2 ⟨n', hn', hrg⟩ ⟨i, dy, him, rfl, rfl, rfl, D1⟩ ih
  cases m with
  | zero =>
    have hi : i = n := by omega
    subst hi
    rw [if_pos (le_t (by omega)), if_pos (le_t (by omega))]
    exact ⟨true, s1, s2, rfl, congrArg some (Prod.ext (by decide : (1 : Int32) &&& 1 = 1) rfl), tw_D t D1, (D1.2.2.1 22 (by decide)).1⟩
  | succ m =>
    have hi : i < n := by omega
    obtain ⟨v, c3, m3, g1, g2, g3⟩ := dawn_t D1 T h5 1 (Or.inr rfl)
    obtain ⟨c4, m4, k1, k2, k3⟩ := dusk_t g3 T h5
    rw [if_neg (nle_t hi (by omega)), if_neg (nle_t hi (by omega)), if_neg h10, g1, g2, Bd_some, Bd_some]
    dsimp only
    rw [storm_set g3.1, Bd_some, Lt_e, k1, k2, Bd_some]
    dsimp only
    rw [Bd_some, Bd_some, nI_1]
    by_cases q : lg_cmp (c3.2 72 9 &&& x) (0 : Int64) = 0
    · rw [if_pos q, if_pos q]
      exact ih m _ _ _ _ _ (Nat.lt_succ_self m) ⟨i + 1, _, by omega, rfl, rfl, rfl, k3⟩
    · rw [if_neg q, if_neg q]
      obtain ⟨n2, rfl⟩ : ∃ n2, n' = n2 + 1 := ⟨n' - 1, by omega⟩
      refine ⟨false, c3, m4, rfl, ?_, ⟨(tw_D t g3).1, (tw_D t k3).2⟩, (k3.2.2.1 22 (by decide)).1⟩
      rw [hrg, lp3_s]
      have e0 : (0 : Int32) &&& 1 = 0 := by decide
      rw [if_pos (rfl : (0 : Int32) = 0), e0]
      split <;> rfl
theorem wd_try {W H nk nc nl nw np n c N : Nat} {sc0 sm0 sc sm : ST} {p : Nat → Bool} {x cs : Int64} (R : R8 W H nk nc nl nw np sc0 sm0) (h : TI sc0 sm0 sc sm) (hp : p = bq (sc0.2 1 8)) (hN : N = fb_ct p 64) (hn : n ≤ 60) (hcs : ∀ k, k < 64 → bq cs k = (p k && c.testBit (fb_ct p k))) : ∃ (b : Bool) (c6 m6 m7 : ST), C_X6_staysCalm sc cs x (nI n) = some (if b = true then 1 else 0, c6) ∧ M_isCalmFor (wdS p c sm N) x (nI n) = some (if b = true then 1 else 0, m6) ∧ M_thinksAnew m6 = some m7 ∧ TI sc0 sm0 c6 m7 ∧ m7.1 22 = sm.1 22 := by
  obtain ⟨c2, e2, t2, D, T⟩ := th_copy R h
  obtain ⟨L1, _⟩ := ti_L R h
  have e8 : ∀ k, k < 64 → bq (c2.2 72 8) k = p k := fun k hk => by
    rw [LD_sd_b D.1 hk, ← LD_sd_b L1 hk, hp, (h.1.1 1 (by decide)).2]
  have D2 : Dt W H nk (sm0.1 1 0) c2 sm (upl c2 72 8 ((c2.2 72 8) &&& (cs ^^^ (-1 : Int64)))) (wdS p c sm N) := by
    have u : ∀ j, j < 69 ∨ 133 ≤ j → (wdS p c sm N).1 1 j = sm.1 1 j := fun j hj => by
      unfold wdS
      rw [upr_eq, if_neg (by omega)]
    have e8' : (upl c2 72 8 ((c2.2 72 8) &&& (cs ^^^ (-1 : Int64)))).2 72 8 = (c2.2 72 8) &&& (cs ^^^ (-1 : Int64)) := by rw [upl_at, if_pos rfl, if_pos rfl]
    have w : ∀ k, k < 64 → (wdS p c sm N).1 1 (69 + k) = if p k = true ∧ c.testBit (fb_ct p k) = true then 0 else sm.1 1 (69 + k) := fun k hk => by
      unfold wdS
      rw [upr_eq]
      by_cases q : p k = true ∧ c.testBit (fb_ct p k) = true
      · rw [if_pos q, if_pos]
        refine ⟨by omega, by omega, ?_⟩
        rw [show 69 + k - 69 = k by omega]
        exact ⟨q.1, q.2, by rw [hN]; exact rk_lt hk q.1⟩
      · rw [if_neg q, if_neg]
        rintro ⟨_, _, q3, q4, _⟩
        rw [show 69 + k - 69 = k by omega] at q3 q4
        exact q ⟨q3, q4⟩
    have bb : ∀ k, k < 64 → bq ((c2.2 72 8) &&& (cs ^^^ (-1 : Int64))) k = (p k && !(p k && c.testBit (fb_ct p k))) := fun k hk => by
      rw [bq_and, bq_xor, bq_m1 hk, e8 k hk, hcs k hk, Bool.xor_true]
    refine ⟨LD_sdchg D.1 rfl (fun i hi => by rw [upl_at, if_pos rfl, if_neg hi]) rfl rfl rfl rfl (upr_ne (by decide)) (upr_ne (by decide)) (fun i _ hi => u i (by omega)) (fun k hk hq => ?_) (fun k hk hq => ?_), agr.rf.upl (by decide), agr.rf.upr (by decide), trivial, by rw [u 0 (by omega)]; exact D.2.2.2.2⟩
    · rw [e8', bb k hk] at hq
      obtain ⟨n', a1, a2, a3, a4⟩ := (D.1.sd k hk (by rw [e8 k hk]; revert hq; cases p k <;> simp)).2
      refine ⟨(D.1.sd k hk (by rw [e8 k hk]; revert hq; cases p k <;> simp)).1, n', a1, a2, ?_, ?_⟩
      · rw [w k hk, if_neg]
        · exact a3
        · rintro ⟨q1, q2⟩
          rw [q1, q2] at hq
          cases hq
      · rw [u (133 + k) (by omega)]
        exact a4
    · rw [e8', bb k hk] at hq
      rw [w k hk]
      by_cases q : p k = true ∧ c.testBit (fb_ct p k) = true
      · rw [if_pos q]
      · rw [if_neg q]
        refine D.1.sd0 k hk ?_
        rw [e8 k hk]
        cases pk : p k with
        | false => rfl
        | true =>
          cases tk : c.testBit (fb_ct p k) with
          | true => exact absurd ⟨pk, tk⟩ q
          | false => rw [pk, tk] at hq; cases hq
  obtain ⟨b, c6, m6, k1, k2, k3, k4⟩ := calm_sim t2.1 D2 T hn x
  obtain ⟨m7, z1, z2, _⟩ := th_anew k3
  have z22 : m7.1 22 = m6.1 22 := by
    have z3 := m_anew m6
    rw [z1] at z3
    cases z3
    rw [upr_ne (by decide)]
  refine ⟨b, c6, m6, m7, ?_, k2, z1, z2, z22.trans k4⟩
  unfold C_X6_staysCalm
  rw [e2, Bd_some, Lt_e]
  exact k1
theorem b01 {p q : Bool} (h : (if p = true then (1 : Int32) else 0) = if q = true then 1 else 0) : p = q := by
  cases p <;> cases q <;> simp at h ⊢
/-- which choice leaves calm, on both sides -/
theorem wd_fn {W H nk nc nl nw np n N : Nat} {sc0 sm0 m1 : ST} {p : Nat → Bool} {x : Int64} (R : R8 W H nk nc nl nw np sc0 sm0) (h : TI sc0 sm0 sc0 m1) (hp : p = bq (sc0.2 1 8)) (hN : N = fb_ct p 64) (hn : n ≤ 60) :
    ∃ (cm : Nat → Bool) (cs : Nat → Int64), ∀ c, c < 1024 → (∀ k, k < 64 → bq (cs c) k = (p k && c.testBit (fb_ct p k))) ∧
      (∀ sc, agr [17, 18, 72, 73, 74, 75, 76, 77, 78] sc0 sc → C_X6_chosenSeeds sc (nI c) = some (cs c) ∧ ∃ c6, C_X6_staysCalm sc (cs c) x (nI n) = some (if cm c = true then 1 else 0, c6) ∧ agr [17, 18, 72, 73, 74, 75, 76, 77, 78] sc0 c6) ∧
      ∀ sm, TI sc0 sm0 sc0 sm → ∃ m6 m7, M_isCalmFor (wdS p c sm N) x (nI n) = some (if cm c = true then 1 else 0, m6) ∧ M_thinksAnew m6 = some m7 ∧ TI sc0 sm0 sc0 m7 ∧ m7.1 22 = sm.1 22 := by
  have cs1 : ∀ c, c < 1024 → ∃ y, C_X6_chosenSeeds sc0 (nI c) = some y ∧ ∀ k, k < 64 → bq y k = (p k && c.testBit (fb_ct p k)) := fun c hc => by rw [hp]; exact chosen_c hc
  obtain ⟨cs, hcs⟩ : ∃ cs : Nat → Int64, ∀ c, c < 1024 → ∀ k, k < 64 → bq (cs c) k = (p k && c.testBit (fb_ct p k)) := ⟨fun c => if q : c < 1024 then (cs1 c q).choose else 0, fun c hc => by
    dsimp only
    rw [dif_pos hc]
    exact (cs1 c hc).choose_spec.2⟩
  obtain ⟨cm, ht⟩ : ∃ cm : Nat → Bool, ∀ c (q : c < 1024), cm c = (wd_try (x := x) R h hp hN hn (hcs c q)).choose := ⟨fun c => if q : c < 1024 then (wd_try (x := x) R h hp hN hn (hcs c q)).choose else false, fun c hc => dif_pos hc⟩
  have hcm : ∀ c, c < 1024 → (∃ c6, C_X6_staysCalm sc0 (cs c) x (nI n) = some (if cm c = true then 1 else 0, c6)) ∧ ∃ m6, M_isCalmFor (wdS p c m1 N) x (nI n) = some (if cm c = true then 1 else 0, m6) := fun c hc => by
    have k := (wd_try (x := x) R h hp hN hn (hcs c hc)).choose_spec
    rw [← ht c hc] at k
    obtain ⟨c6, m6, m7, y1, y2, _⟩ := k
    exact ⟨⟨c6, y1⟩, m6, y2⟩
  refine ⟨cm, cs, fun c hc => ⟨hcs c hc, fun sc a => ⟨?_, ?_⟩, fun sm t => ?_⟩⟩
  · obtain ⟨y, y1, y2⟩ := chosen_c (s := sc) hc
    rw [(a 1 (by decide)).2, ← hp] at y2
    rw [y1]
    congr 1
    exact bq_ext (fun k hk => by rw [y2 k hk, hcs c hc k hk])
  · have t' : TI sc0 sm0 sc m1 := ⟨⟨a, h.1.2⟩, h.2⟩
    obtain ⟨b, c6, m6, m7, y1, y2, _, y4, _⟩ := wd_try (x := x) R t' hp hN hn (hcs c hc)
    obtain ⟨_, m6', z⟩ := hcm c hc
    rw [z] at y2
    have e := b01 (congrArg Prod.fst (Option.some.inj y2))
    exact ⟨c6, by rw [e]; exact y1, y4.1.1⟩
  · obtain ⟨b, c6, m6, m7, y1, y2, y3, y4, y5⟩ := wd_try (x := x) R t hp hN hn (hcs c hc)
    obtain ⟨⟨c6', z⟩, _⟩ := hcm c hc
    rw [z] at y1
    have e := b01 (congrArg Prod.fst (Option.some.inj y1))
    exact ⟨m6, m7, by rw [e]; exact y2, y3, ⟨⟨agr.rf, y4.1.2⟩, y4.2⟩, y5⟩
theorem pcN {c N : Nat} (hN : N ≤ 10) (hc : c < 2 ^ N) : pc10 c ≤ N := by
  unfold pc10
  have h : fb_ct (fun k => c.testBit k) (N + (10 - N)) = fb_ct (fun k => c.testBit k) N := fb_ct_skip (fun j h1 _ => Nat.testBit_lt_two_pow (Nat.lt_of_lt_of_le hc (Nat.pow_le_pow_right (by decide) h1)))
  rw [show N + (10 - N) = 10 by omega] at h
  rw [h]
  exact fb_ct_le _ N
abbrev wmin (cm : Nat → Bool) (N c : Nat) : Prop := c < 2 ^ N ∧ cm c = true ∧ ∀ c', c' < 2 ^ N → cm c' = true → pc10 c < pc10 c' ∨ (pc10 c = pc10 c' ∧ c ≤ c')
theorem wmin_eq {cm : Nat → Bool} {N a b : Nat} (h : wmin cm N a) (k : wmin cm N b) : a = b := by
  rcases h.2.2 b k.1 k.2.1 with h1 | ⟨h1, h2⟩ <;> rcases k.2.2 a h.1 h.2.1 with k1 | ⟨k1, k2⟩ <;> omega
theorem sr_c {sc0 : ST} {N n : Nat} {x : Int64} {cm : Nat → Bool} {cs : Nat → Int64} (hN : N ≤ 10) (hf : ∀ c, c < 1024 → ∀ sc, agr [17, 18, 72, 73, 74, 75, 76, 77, 78] sc0 sc → C_X6_chosenSeeds sc (nI c) = some (cs c) ∧ ∃ c6, C_X6_staysCalm sc (cs c) x (nI n) = some (if cm c = true then 1 else 0, c6) ∧ agr [17, 18, 72, 73, 74, 75, 76, 77, 78] sc0 c6) :
    ∃ r sc', lpK2 (C := Int64 × ST) (fun (rec1 : Int32 → ST → Option (Int64 × ST)) (a1 : Int32) (s1 : ST) => if (nI N) < a1 then (some ((-1 : Int64), s1)) else (lpK2 (C := Int64 × ST) (fun (rec2 : Int32 → ST → Option (Int64 × ST)) (a2 : Int32) (s2 : ST) => if ((1 : Int32) <<< ((nI N) &&& 31)) ≤ a2 then (rec1 (a1 + (1 : Int32)) s2) else (Lt (C_J6_bitCount_0f7a4 s2 a2) fun y3 => Lt (fun (s3 : ST) => (rec2 (a2 + (1 : Int32)) s3 : Option (Int64 × ST))) fun j1 => if y3 = a1 then (Bd (C_X6_chosenSeeds s2 a2) fun y4 => Bd (C_X6_staysCalm s2 y4 x (nI n)) fun y5 => if y5.1 = 0 then (j1 y5.2) else (some (y4, y5.2))) else (j1 s2))) FU (0 : Int32) s1)) FU (0 : Int32) sc0 = some (r, sc') ∧ agr [17, 18, 72, 73, 74, 75, 76, 77, 78] sc0 sc' ∧ ((r = -1 ∧ ∀ c, c < 2 ^ N → cm c = false) ∨ ∃ c, wmin cm N c ∧ r = cs c) := by
  have h2 : 2 ^ N ≤ 2 ^ 10 := Nat.pow_le_pow_right (by decide) hN
  refine lo2 (Q := fun o => ∃ r sc', o = some (r, sc') ∧ agr [17, 18, 72, 73, 74, 75, 76, 77, 78] sc0 sc' ∧ ((r = -1 ∧ ∀ c, c < 2 ^ N → cm c = false) ∨ ∃ c, wmin cm N c ∧ r = cs c)) (I := fun m a s => ∃ f, f + m = N + 1 ∧ a = nI f ∧ agr [17, 18, 72, 73, 74, 75, 76, 77, 78] sc0 s ∧ ∀ c, c < 2 ^ N → cm c = true → f ≤ pc10 c) ?_ FU (N + 1) _ _ (by unfold FU; omega) ⟨0, by omega, rfl, agr.rf, fun _ _ _ => Nat.zero_le _⟩
  rintro m rf a s ⟨f, hm, rfl, ag, hmin⟩ ih
  have eN : nI N < nI f ↔ N < f := nI_ltI (by omega) (by omega)
  cases m with
  | zero =>
    rw [if_pos (eN.mpr (by omega))]
    refine ⟨_, s, rfl, ag, Or.inl ⟨rfl, fun c hc => ?_⟩⟩
    cases e : cm c with
    | false => rfl
    | true =>
      have a1 := hmin c hc e
      have a2 := pcN hN hc
      omega
  | succ m =>
    rw [if_neg (fun h => absurd (eN.mp h) (by omega)), sh10 N (by omega), nI_1]
    refine lo2 (Q := fun o => ∃ r sc', o = some (r, sc') ∧ agr [17, 18, 72, 73, 74, 75, 76, 77, 78] sc0 sc' ∧ ((r = -1 ∧ ∀ c, c < 2 ^ N → cm c = false) ∨ ∃ c, wmin cm N c ∧ r = cs c)) (I := fun m a s => ∃ ch, ch + m = 2 ^ N ∧ a = nI ch ∧ agr [17, 18, 72, 73, 74, 75, 76, 77, 78] sc0 s ∧ ∀ c, c < 2 ^ N → cm c = true → f ≤ pc10 c ∧ (pc10 c = f → ch ≤ c)) ?_ FU (2 ^ N) _ _ (by unfold FU; omega) ⟨0, by omega, rfl, ag, fun c hc e => ⟨hmin c hc e, fun _ => Nat.zero_le _⟩⟩
    rintro m2 rf2 a2 s2 ⟨ch, hm2, rfl, ag2, hmin2⟩ ih2
    cases m2 with
    | zero =>
      have hch : ch = 2 ^ N := by omega
      subst hch
      rw [if_pos (le_t (by omega))]
      refine ih m _ _ (Nat.lt_succ_self m) ⟨f + 1, by omega, rfl, ag2, fun c hc e => ?_⟩
      obtain ⟨a1, a2⟩ := hmin2 c hc e
      by_cases q : pc10 c = f
      · have := a2 q; omega
      · omega
    | succ m2 =>
      have hch : ch < 2 ^ N := by omega
      have hp10 : pc10 ch ≤ 10 := fb_ct_le _ 10
      rw [if_neg (nle_t hch (by omega)), Lt_e, Lt_e, j6_10 s2 ch (by omega), nI_1]
      have nx : ∀ s3, agr [17, 18, 72, 73, 74, 75, 76, 77, 78] sc0 s3 → (pc10 ch = f → cm ch = false) → _ := fun s3 ag3 h => ih2 m2 (nI (ch + 1)) s3 (Nat.lt_succ_self m2) ⟨ch + 1, by omega, rfl, ag3, fun c hc e => by
        obtain ⟨a1, a2⟩ := hmin2 c hc e
        refine ⟨a1, fun q => ?_⟩
        have a3 := a2 q
        by_cases q2 : c = ch
        · subst q2
          rw [h q] at e
          cases e
        · omega⟩
      have ef : nI (pc10 ch) = nI f ↔ pc10 ch = f := nI_eq (by omega) (by omega)
      by_cases q : pc10 ch = f
      · obtain ⟨y1, c6, y2, y3⟩ := hf ch (by omega) s2 ag2
        rw [if_pos (ef.mpr q), y1, Bd_some, y2, Bd_some]
        dsimp only
        cases e : cm ch with
        | false =>
          rw [ift0]
          exact nx _ y3 (fun _ => e)
        | true =>
          rw [ift1]
          refine ⟨_, c6, rfl, y3, Or.inr ⟨ch, ⟨hch, e, fun c hc hq => ?_⟩, rfl⟩⟩
          obtain ⟨a1, a2⟩ := hmin2 c hc hq
          by_cases q3 : pc10 c = f
          · exact Or.inr ⟨by omega, a2 q3⟩
          · exact Or.inl (by omega)
      · rw [if_neg (fun h => q (ef.mp h))]
        exact nx _ ag2 (fun h => absurd h q)
theorem sr_m {sc0 sm0 m1 : ST} {N n : Nat} {x : Int64} {p : Nat → Bool} {cm : Nat → Bool} {K : Int32 → ST → Option (Int64 × ST)} (hN : N ≤ 10) (hNp : N = fb_ct p 64) (t1 : TI sc0 sm0 sc0 m1) (hr : ∀ k, k < 64 → p k = true → m1.1 22 (fb_ct p k) = nI k) (hf : ∀ c, c < 1024 → ∀ sm, TI sc0 sm0 sc0 sm → ∃ m6 m7, M_isCalmFor (wdS p c sm N) x (nI n) = some (if cm c = true then 1 else 0, m6) ∧ M_thinksAnew m6 = some m7 ∧ TI sc0 sm0 sc0 m7 ∧ m7.1 22 = sm.1 22) :
    ∃ a m', lpK3 (C := Int64 × ST) (fun (rec2 : Int32 → Int32 → ST → Option (Int64 × ST)) (a3 : Int32) (a4 : Int32) (s4 : ST) => if ((1 : Int32) <<< ((nI N) &&& 31)) ≤ a4 then (K a3 s4) else (Lt (fun (a5 : Int32) (s6 : ST) => (rec2 a5 (a4 + (1 : Int32)) s6 : Option (Int64 × ST))) fun j2 => Lt (lpK2 (C := Int64 × ST) (fun (rec3 : Int32 → ST → Option (Int64 × ST)) (a6 : Int32) (s7 : ST) => if (nI N) ≤ a6 then (Bd (M_isCalmFor s7 x (nI n)) fun y7 => Lt (fun (a7 : Int32) => (Bd (M_thinksAnew y7.2) fun s8 => j2 a7 s8 : Option (Int64 × ST))) fun j4 => if y7.1 = 0 then (j4 a3) else (j4 a4)) else (Lt (fun (s9 : ST) => (rec3 (a6 + (1 : Int32)) s9 : Option (Int64 × ST))) fun j5 => if ((a4 >>> (a6 &&& 31)) &&& (1 : Int32)) = (1 : Int32) then (Gl s7 22 10 a6 fun y8 => Gs s7 1 389 ((69 : Int32) + y8) (0 : Int32) fun s10 => j5 s10) else (j5 s7))) FU (0 : Int32) s4 : Option (Int64 × ST)) fun j3 => if a3 = (-1 : Int32) then (j3) else (Bd (M_onesOf s4 a4) fun y9 => Bd (M_onesOf s4 a3) fun y10 => if y9 < y10 then (j3) else (j2 a3 s4)))) FU (-1 : Int32) (0 : Int32) m1 = K a m' ∧ TI sc0 sm0 sc0 m' ∧ m'.1 22 = m1.1 22 ∧ ((a = -1 ∧ ∀ c, c < 2 ^ N → cm c = false) ∨ ∃ c, wmin cm N c ∧ a = nI c) := by
  have h2 : 2 ^ N ≤ 2 ^ 10 := Nat.pow_le_pow_right (by decide) hN
  obtain ⟨J, hJ⟩ : ∃ J : Nat → Int32 → Prop, ∀ t a, J t a ↔ ((a = -1 ∧ ∀ c, c < t → cm c = false) ∨ ∃ c, c < t ∧ cm c = true ∧ a = nI c ∧ ∀ c', c' < t → cm c' = true → pc10 c < pc10 c' ∨ (pc10 c = pc10 c' ∧ c ≤ c')) := ⟨_, fun _ _ => Iff.rfl⟩
  refine lo3 (Q := fun o => ∃ a m', o = K a m' ∧ TI sc0 sm0 sc0 m' ∧ m'.1 22 = m1.1 22 ∧ ((a = -1 ∧ ∀ c, c < 2 ^ N → cm c = false) ∨ ∃ c, wmin cm N c ∧ a = nI c)) (I := fun m a1 a2 s => ∃ t, t + m = 2 ^ N ∧ a2 = nI t ∧ TI sc0 sm0 sc0 s ∧ s.1 22 = m1.1 22 ∧ J t a1) ?_ FU (2 ^ N) _ _ _ (by unfold FU; omega) ⟨0, by omega, rfl, t1, rfl, (hJ _ _).mpr (Or.inl ⟨rfl, fun c hc => absurd hc (Nat.not_lt_zero c)⟩)⟩
  rintro m rf a1 a2 s ⟨t, hm, rfl, ti, h22, hj⟩ ih
  rw [sh10 N (by omega)]
  cases m with
  | zero =>
    have ht : t = 2 ^ N := by omega
    subst ht
    rw [if_pos (le_t (by omega))]
    refine ⟨a1, s, rfl, ti, h22, ?_⟩
    rcases (hJ _ _).mp hj with h | ⟨c, c1, c2, c3, c4⟩
    · exact Or.inl h
    · exact Or.inr ⟨c, ⟨c1, c2, c4⟩, c3⟩
  | succ m =>
    have ht : t < 2 ^ N := by omega
    rw [if_neg (nle_t ht (by omega)), Lt_e, Lt_e, nI_1, wd_loop (s := s) (p := p) (c := t) (n := N) (K := fun s7 => Bd (M_isCalmFor s7 x (nI n)) fun y7 => Lt (fun (a7 : Int32) => (Bd (M_thinksAnew y7.2) fun s8 => rf a7 (nI (t + 1)) s8 : Option (Int64 × ST))) fun j4 => if y7.1 = 0 then (j4 a1) else (j4 (nI t))) (by omega) hNp hN (by rw [h22]; exact hr)]
    obtain ⟨m6, m7, y1, y2, y3, y4⟩ := hf t (by omega) s ti
    rw [y1, Bd_some, Lt_e]
    dsimp only
    rw [y2, Bd_some, Bd_some]
    have nx : ∀ a s', TI sc0 sm0 sc0 s' → s'.1 22 = s.1 22 → J (t + 1) a → _ := fun a s' u1 u2 u3 => ih m a (nI (t + 1)) s' (Nat.lt_succ_self m) ⟨t + 1, by omega, rfl, u1, u2.trans h22, u3⟩
    rcases (hJ _ _).mp hj with ⟨q1, q2⟩ | ⟨c, c1, c2, c3, c4⟩
    · rw [if_pos q1]
      cases e : cm t with
      | false =>
        rw [ift0]
        refine nx _ _ y3 y4 ((hJ _ _).mpr (Or.inl ⟨q1, fun c hc => ?_⟩))
        by_cases h : c = t
        · rw [h]; exact e
        · exact q2 c (by omega)
      | true =>
        rw [ift1]
        refine nx _ _ y3 y4 ((hJ _ _).mpr (Or.inr ⟨t, by omega, e, rfl, fun c hc hq => ?_⟩))
        by_cases h : c = t
        · rw [h]; exact Or.inr ⟨rfl, Nat.le_refl _⟩
        · rw [q2 c (by omega)] at hq; cases hq
    · have hp1 : pc10 c ≤ 10 := fb_ct_le _ 10
      have hp2 : pc10 t ≤ 10 := fb_ct_le _ 10
      rw [if_neg (by rw [c3]; exact n_nI_m1 (by omega)), m_onesOf s (by omega), Bd_some, c3, m_onesOf s (by omega), Bd_some, ite_iff (nI_ltI (a := pc10 t) (b := pc10 c) (by omega) (by omega))]
      by_cases g : pc10 t < pc10 c
      · rw [if_pos g]
        cases e : cm t with
        | false =>
          rw [ift0]
          refine nx _ _ y3 y4 ((hJ _ _).mpr (Or.inr ⟨c, by omega, c2, rfl, fun c' hc hq => ?_⟩))
          by_cases h : c' = t
          · rw [h, e] at hq; cases hq
          · exact c4 c' (by omega) hq
        | true =>
          rw [ift1]
          refine nx _ _ y3 y4 ((hJ _ _).mpr (Or.inr ⟨t, by omega, e, rfl, fun c' hc hq => ?_⟩))
          by_cases h : c' = t
          · rw [h]; exact Or.inr ⟨rfl, Nat.le_refl _⟩
          · rcases c4 c' (by omega) hq with z | ⟨z, _⟩
            · exact Or.inl (by omega)
            · exact Or.inl (by omega)
      · rw [if_neg g]
        refine nx _ _ ti rfl ((hJ _ _).mpr (Or.inr ⟨c, by omega, c2, rfl, fun c' hc hq => ?_⟩))
        by_cases h : c' = t
        · rw [h]
          by_cases z : pc10 c = pc10 t
          · exact Or.inr ⟨z, by omega⟩
          · exact Or.inl (by omega)
        · exact c4 c' (by omega) hq
theorem m_ends22 {s s5 : ST} (h : M_endsThought s = some s5) : s5.1 22 = s.1 22 := by
  unfold M_endsThought at h
  rw [m_anew, Bd_some, Lt_e] at h
  cases h
  rw [ups_ne (by decide), upr_ne (by decide)]
theorem cs_m1 {x : Int64} {p q : Nat → Bool} (h : ∀ k, k < 64 → bq x k = (p k && q k)) (h10 : fb_ct p 64 ≤ 10) : ¬ lg_cmp x (-1 : Int64) = 0 := by
  intro e
  have e1 : x = -1 := by
    unfold lg_cmp at e
    by_cases h1 : x > -1
    · rw [if_pos h1] at e; exact absurd e (by decide)
    · rw [if_neg h1] at e
      by_cases h2 : x = -1
      · exact h2
      · rw [if_neg h2] at e; exact absurd e (by decide)
  have : fb_ct p 64 = 64 := by
    have h1 : fb_ct p 64 = fb_ct (fun _ => true) 64 := fb_ct_cong (fun k hk => by
      have := h k hk
      rw [e1, bq_m1 hk] at this
      revert this
      cases p k <;> simp)
    rw [h1]
    decide
  omega
theorem s_weeds : Sim_weeds Rel := by
  rintro sc sm x y z ⟨W, H, nk, nc, nl, nw, np, R⟩
  have h10 : ¬ (1 : Int32) = 0 := by decide
  have h00 : (0 : Int32) = 0 := rfl
  have R' := R8_told R
  obtain ⟨CB, hc0⟩ : ∃ q, C_X9_weeds sc x y z = q := ⟨_, rfl⟩
  obtain ⟨MB, hm0⟩ : ∃ q, M_weeds sm x y z = q := ⟨_, rfl⟩
  rw [hc0, hm0]
  unfold C_X9_weeds at hc0
  unfold M_weeds at hm0
  rw [Lt_e] at hm0
  generalize ups sm 0 0 0 = m0 at *
  obtain ⟨ya, ea, ha⟩ := all_sim R'.L
  rw [ea, Bd_some, Lt_e] at hc0
  rw [seeds_ct R'.L, Bd_some] at hm0
  obtain ⟨N, hN⟩ : ∃ N, N = fb_ct (bq (sc.2 1 8)) 64 := ⟨_, rfl⟩
  have hN64 : N ≤ 64 := by rw [hN]; exact fb_ct_le _ 64
  rw [← hN] at hm0
  have hcell := all_test (x := x) ha
  rcases (are_sim R'.L x).symm with ⟨b1, k, hk, b2, b3⟩ | ⟨b1, b2⟩
  · rw [if_neg (fun h => b3 (hcell.mp h k hk b2))] at hc0
    rw [b1, Bd_some, Lt_e, if_pos h00] at hm0
    exact ⟨-1, _, m0, hc0.symm, hm0.symm, W, H, nk, nc, nl, nw, np, R'⟩
  rw [if_pos (hcell.mpr b2), Lt_e, show C_X9_isWithin sc y 1 60 = M_isIn m0 y 1 60 from rfl] at hc0
  rw [b1, Bd_some, Lt_e, if_neg h10, Lt_e] at hm0
  rcases in160 m0 y with a | ⟨n, hn1, hn, rfl, a⟩
  · rw [a, if_pos h00] at hc0 hm0
    exact ⟨-1, _, m0, hc0.symm, hm0.symm, W, H, nk, nc, nl, nw, np, R'⟩
  rw [a, if_neg h10, Lt_e] at hc0 hm0
  rw [show C_X9_isWithin sc z 0 1 = M_isIn m0 z 0 1 from rfl] at hc0
  rcases in01 m0 z with a | ⟨hz, a⟩
  · rw [a, if_pos h00] at hc0 hm0
    exact ⟨-1, _, m0, hc0.symm, hm0.symm, W, H, nk, nc, nl, nw, np, R'⟩
  rw [a, if_neg h10] at hc0 hm0
  rw [Lt_e, c_bitCount, ← hN] at hc0
  have e10 : nI N ≤ (10 : Int32) ↔ N ≤ 10 := by rw [show (10 : Int32) = nI 10 from rfl, nI_leI (by omega) (by decide)]
  by_cases q10 : ¬ N ≤ 10
  · rw [if_neg (fun h => q10 (e10.mp h))] at hc0 hm0
    exact ⟨-1, _, m0, hc0.symm, hm0.symm, W, H, nk, nc, nl, nw, np, R'⟩
  have q10 := Classical.not_not.mp q10
  rw [if_pos (e10.mpr q10)] at hc0 hm0
  obtain ⟨s1, e1, a22, hrow⟩ := row_m (K := fun s2 => Bd (M_thinks s2) fun s3 => lpK3 (C := Int64 × ST) (fun (rec2 : Int32 → Int32 → ST → Option (Int64 × ST)) (a3 : Int32) (a4 : Int32) (s4 : ST) => if ((1 : Int32) <<< ((nI N) &&& 31)) ≤ a4 then (Bd (M_endsThought s4) fun s5 => if a3 = (-1 : Int32) then (some ((-1 : Int64), s5)) else (if z = 0 then (Bd (M_onesOf s5 a3) fun y6 => some (y6.toInt64, s5)) else (Bd (M_setOf s5 a3 (nI N)) fun y5 => some (y5, s5)))) else (Lt (fun (a5 : Int32) (s6 : ST) => (rec2 a5 (a4 + (1 : Int32)) s6 : Option (Int64 × ST))) fun j2 => Lt (lpK2 (C := Int64 × ST) (fun (rec3 : Int32 → ST → Option (Int64 × ST)) (a6 : Int32) (s7 : ST) => if (nI N) ≤ a6 then (Bd (M_isCalmFor s7 x (nI n)) fun y7 => Lt (fun (a7 : Int32) => (Bd (M_thinksAnew y7.2) fun s8 => j2 a7 s8 : Option (Int64 × ST))) fun j4 => if y7.1 = 0 then (j4 a3) else (j4 a4)) else (Lt (fun (s9 : ST) => (rec3 (a6 + (1 : Int32)) s9 : Option (Int64 × ST))) fun j5 => if ((a4 >>> (a6 &&& 31)) &&& (1 : Int32)) = (1 : Int32) then (Gl s7 22 10 a6 fun y8 => Gs s7 1 389 ((69 : Int32) + y8) (0 : Int32) fun s10 => j5 s10) else (j5 s7))) FU (0 : Int32) s4 : Option (Int64 × ST)) fun j3 => if a3 = (-1 : Int32) then (j3) else (Bd (M_onesOf s4 a4) fun y9 => Bd (M_onesOf s4 a3) fun y10 => if y9 < y10 then (j3) else (j2 a3 s4)))) FU (-1 : Int32) (0 : Int32) s3) R'.L (by omega)
  rw [e1] at hm0
  have R1 : R8 W H nk nc nl nw np sc s1 := R8_q R' agr.rf (a22.mono (by decide)) (fun i _ => by rw [(a22 0 (by decide)).1])
  obtain ⟨m1, e2, t1⟩ := th_begin sc s1
  have r1 : m1.1 22 = s1.1 22 := by
    have := m_thinks s1
    rw [e2] at this
    cases this
    rw [ups_ne (by decide), upr_ne (by decide)]
  obtain ⟨cm, cs, hf⟩ := wd_fn (x := x) (N := N) R1 t1 rfl hN hn
  obtain ⟨r, c1, k1, ac, kr⟩ := sr_c (x := x) (n := n) (cm := cm) (cs := cs) q10 (fun c hc => (hf c hc).2.1)
  obtain ⟨am, m2, k2, t2, r2, kam⟩ := sr_m (x := x) (n := n) (cm := cm) (p := bq (sc.2 1 8)) (K := fun a3 s4 => Bd (M_endsThought s4) fun s5 => if a3 = (-1 : Int32) then (some ((-1 : Int64), s5)) else (if z = 0 then (Bd (M_onesOf s5 a3) fun y6 => some (y6.toInt64, s5)) else (Bd (M_setOf s5 a3 (nI N)) fun y5 => some (y5, s5)))) q10 hN t1 (by rw [r1]; exact hrow) (fun c hc => (hf c hc).2.2)
  rw [e2, Bd_some, k2] at hm0
  obtain ⟨m3, e3, R3⟩ := th_end R1 (⟨ac, t2.1.2⟩ : TW sc s1 c1 m2)
  have r3 : m3.1 22 = s1.1 22 := (m_ends22 e3).trans (r2.trans r1)
  rw [e3, Bd_some] at hm0
  have hF : C_X6_fewestWeeds sc x (nI n) = some (r, c1) := by
    unfold C_X6_fewestWeeds
    have hmin : imn (10 : Int32) (nI N) = nI N := by
      unfold imn
      by_cases h : nI N < 10
      · rw [if_pos h]
      · rw [if_neg h, show (10 : Int32) = nI 10 from rfl]
        rw [show (10 : Int32) = nI 10 from rfl, nI_ltI (by omega) (by decide)] at h
        rw [show N = 10 by omega]
    rw [Lt_e, c_bitCount, ← hN, Lt_e, hmin]
    exact k1
  rw [hF, Bd_some, Lt_e] at hc0
  have h2 : 2 ^ N ≤ 2 ^ 10 := Nat.pow_le_pow_right (by decide) q10
  rcases kr with ⟨q1, q2⟩ | ⟨c, q1, q2⟩
  · rcases kam with ⟨p1, p2⟩ | ⟨c, p1, p2⟩
    · rw [q1, if_pos (show lg_cmp (-1 : Int64) (-1 : Int64) = 0 by decide)] at hc0
      rw [if_pos p1] at hm0
      exact ⟨-1, c1, m3, hc0.symm, hm0.symm, W, H, nk, nc, nl, nw, np, R3⟩
    · have h := p1.2.1
      rw [q2 c p1.1] at h
      cases h
  · rcases kam with ⟨p1, p2⟩ | ⟨c', p1, p2⟩
    · have h := q1.2.1
      rw [p2 c q1.1] at h
      cases h
    · have hcc := wmin_eq q1 p1
      subst hcc
      have hc1024 : c < 1024 := by have := q1.1; omega
      have hbits := (hf c hc1024).1
      rw [q2, if_neg (cs_m1 hbits (by omega))] at hc0
      rw [p2, if_neg (n_nI_m1 (by omega))] at hm0
      rcases hz with rfl | rfl
      · rw [if_neg (by decide), Lt_e, c_bitCount] at hc0
        rw [if_pos rfl, m_onesOf m3 hc1024, Bd_some] at hm0
        have ect : fb_ct (bq (cs c)) 64 = pc10 c := by
          rw [fb_ct_cong hbits, rk_ct (p := bq (sc.2 1 8)) (q := fun i => c.testBit i) 64, ← hN]
          unfold pc10
          have h : fb_ct (fun k => c.testBit k) (N + (10 - N)) = fb_ct (fun k => c.testBit k) N := fb_ct_skip (fun j h1 _ => Nat.testBit_lt_two_pow (Nat.lt_of_lt_of_le q1.1 (Nat.pow_le_pow_right (by decide) h1)))
          rw [show N + (10 - N) = 10 by omega] at h
          exact h.symm
        rw [ect] at hc0
        exact ⟨_, c1, m3, hc0.symm, hm0.symm, W, H, nk, nc, nl, nw, np, R3⟩
      · rw [if_pos rfl] at hc0
        obtain ⟨u, u1, u2⟩ := m_setOf (s := m3) (p := bq (sc.2 1 8)) hc1024 hN q10 (by rw [r3]; exact hrow)
        rw [if_neg h10, u1, Bd_some] at hm0
        have eu : u = cs c := bq_ext (fun k hk => by rw [u2 k hk, hbits k hk])
        rw [eu] at hm0
        exact ⟨_, c1, m3, hc0.symm, hm0.symm, W, H, nk, nc, nl, nw, np, R3⟩
