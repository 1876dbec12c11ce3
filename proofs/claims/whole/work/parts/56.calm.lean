/-! # stage 2: calm, gets -/
theorem lk55 {C D A1 A2 A3 A4 A5 B1 B2 B3 B4 B5 : Type} {F : (A1 → A2 → A3 → A4 → A5 → Option C) → A1 → A2 → A3 → A4 → A5 → Option C} {G : (B1 → B2 → B3 → B4 → B5 → Option D) → B1 → B2 → B3 → B4 → B5 → Option D} (Q : Option C → Option D → Prop) (I : Nat → A1 → A2 → A3 → A4 → A5 → B1 → B2 → B3 → B4 → B5 → Prop)
    (h : ∀ (m : Nat) (rf : A1 → A2 → A3 → A4 → A5 → Option C) (rg : B1 → B2 → B3 → B4 → B5 → Option D) (a1 : A1) (a2 : A2) (a3 : A3) (a4 : A4) (a5 : A5) (b1 : B1) (b2 : B2) (b3 : B3) (b4 : B4) (b5 : B5), I m a1 a2 a3 a4 a5 b1 b2 b3 b4 b5 → (∀ m' a1 a2 a3 a4 a5 b1 b2 b3 b4 b5, m' < m → I m' a1 a2 a3 a4 a5 b1 b2 b3 b4 b5 → Q (rf a1 a2 a3 a4 a5) (rg b1 b2 b3 b4 b5)) → Q (F rf a1 a2 a3 a4 a5) (G rg b1 b2 b3 b4 b5)) :
    ∀ (n m : Nat) (a1 : A1) (a2 : A2) (a3 : A3) (a4 : A4) (a5 : A5) (b1 : B1) (b2 : B2) (b3 : B3) (b4 : B4) (b5 : B5), m < n → I m a1 a2 a3 a4 a5 b1 b2 b3 b4 b5 → Q (lpK5 F n a1 a2 a3 a4 a5) (lpK5 G n b1 b2 b3 b4 b5) := by
  intro n
  induction n with
  | zero => intro m _ _ _ _ _ _ _ _ _ _ hm; omega
  | succ n ih =>
    intro m a1 a2 a3 a4 a5 b1 b2 b3 b4 b5 hm hI
    exact h m (lpK5 F n) (lpK5 G n) a1 a2 a3 a4 a5 b1 b2 b3 b4 b5 hI (fun m' a1 a2 a3 a4 a5 b1 b2 b3 b4 b5 hlt hI' => ih m' a1 a2 a3 a4 a5 b1 b2 b3 b4 b5 (by omega) hI')
theorem lkg23 {C D A1 A2 B1 B2 B3 : Type} {F : (A1 → A2 → Option C) → A1 → A2 → Option C} {G : (B1 → B2 → B3 → Option D) → B1 → B2 → B3 → Option D} (Q : Option C → Option D → Prop) (I : Nat → A1 → A2 → B1 → B2 → B3 → Prop)
    (h : ∀ (m : Nat) (rf : A1 → A2 → Option C) (rg : B1 → B2 → B3 → Option D) (a1 : A1) (a2 : A2) (b1 : B1) (b2 : B2) (b3 : B3), (∃ n', m ≤ n' ∧ rg = lpK3 G n') → I m a1 a2 b1 b2 b3 → (∀ m' a1 a2 b1 b2 b3, m' < m → I m' a1 a2 b1 b2 b3 → Q (rf a1 a2) (rg b1 b2 b3)) → Q (F rf a1 a2) (G rg b1 b2 b3)) :
    ∀ (n m : Nat) (a1 : A1) (a2 : A2) (b1 : B1) (b2 : B2) (b3 : B3), m < n → I m a1 a2 b1 b2 b3 → Q (lpK2 F n a1 a2) (lpK3 G n b1 b2 b3) := by
  intro n
  induction n with
  | zero => intro m _ _ _ _ _ hm; omega
  | succ n ih =>
    intro m a1 a2 b1 b2 b3 hm hI
    exact h m (lpK2 F n) (lpK3 G n) a1 a2 b1 b2 b3 ⟨n, by omega, rfl⟩ hI (fun m' a1 a2 b1 b2 b3 hlt hI' => ih m' a1 a2 b1 b2 b3 (by omega) hI')
theorem in01 (s : ST) (x : Int32) : M_isIn s x 0 1 = 0 ∨ ((x = 0 ∨ x = 1) ∧ M_isIn s x 0 1 = 1) := by
  unfold M_isIn
  by_cases hx : x < 0
  · rw [if_pos hx]; exact Or.inl rfl
  · rw [if_neg hx]
    obtain ⟨j, hj, rfl⟩ := nI_of hx
    by_cases h : (1 : Int32) < nI j
    · rw [if_pos h]; exact Or.inl rfl
    · rw [if_neg h]
      rw [show (1 : Int32) = nI 1 from rfl, nI_ltI (by decide) hj] at h
      refine Or.inr ⟨?_, rfl⟩
      rcases (by omega : j = 0 ∨ j = 1) with rfl | rfl
      · exact Or.inl rfl
      · exact Or.inr rfl
theorem storm_is {W H nk b k : Nat} {sc sm : ST} (L : LD W H nk b sc sm) (hk : k < 64) {A : Type} (x y : A) : (if sm.1 1 (197 + k) - 1 = -1 then x else y) = if bq (sc.2 b 9) k = true then y else x := by
  have hn8 := L.n8
  have hm1 : (0 : Int32) - 1 = -1 := by decide
  cases q : bq (sc.2 b 9) k with
  | false => rw [L.st0 k hk q, if_pos hm1, if_neg (by decide)]
  | true =>
    obtain ⟨_, n, g, hn, _, _, _, e, _⟩ := L.st k hk q
    have hnm : ¬ nI n = (-1 : Int32) := n_nI_m1 (by omega)
    rw [e, n_sub1, if_neg hnm, if_pos rfl]
theorem c_storm_is {s : ST} {b k : Nat} (hk : k < 64) {A : Type} (x y : A) : (if C_X1_hasStorm s b (nI k) = 0 then x else y) = if bq (s.2 b 9) k = true then y else x := by
  rw [c_hasStorm hk]
  cases q : bq (s.2 b 9) k with
  | false => rw [ift0, if_neg (by decide)]
  | true => rw [ift1, if_pos rfl]
theorem s_calm : Sim_calm Rel := by
  rintro sc sm x y z ⟨W, H, nk, nc, nl, nw, np, R⟩
  have h10 : ¬ (1 : Int32) = 0 := by decide
  have h00 : (0 : Int32) = 0 := rfl
  have R' := R8_told R
  unfold C_X9_calm M_calm
  simp only [Lt_n]
  rw [show C_X9_isWithin sc y 1 60 = M_isIn (ups sm 0 0 0) y 1 60 from rfl, show C_X9_isWithin sc z 0 1 = M_isIn (ups sm 0 0 0) z 0 1 from rfl]
  rcases in_cell R'.L x with ⟨a, b, _⟩ | ⟨k, hk, hc, rfl, a, b⟩
  · rw [a, b, if_pos h00, if_pos h00]
    exact ⟨-1, _, _, rfl, rfl, W, H, nk, nc, nl, nw, np, R'⟩
  rw [a, b, if_neg h10, if_neg h10]
  rcases in160 (ups sm 0 0 0) y with a | ⟨n, hn1, hn, rfl, a⟩
  · rw [a, if_pos h00, if_pos h00]
    exact ⟨-1, _, _, rfl, rfl, W, H, nk, nc, nl, nw, np, R'⟩
  rw [a, if_neg h10, if_neg h10]
  rcases in01 (ups sm 0 0 0) z with a | ⟨hz, a⟩
  · rw [a, if_pos h00, if_pos h00]
    exact ⟨-1, _, _, rfl, rfl, W, H, nk, nc, nl, nw, np, R'⟩
  rw [a, if_neg h10, if_neg h10]
  obtain ⟨m1, e1, t1⟩ := th_begin sc (ups sm 0 0 0)
  obtain ⟨c2, e2, t2, D, T⟩ := th_copy R' t1
  have key : ∀ q : Int32, (q = if z = 0 then 1 else 0) → ∃ r sc' sm', C_X6_longestCalm sc (nI k) (nI n) q = some (r, sc') ∧ lpK5 (C := Int32 × ST) (fun (rec1 : Int32 → Int32 → Int32 → Int32 → ST → Option (Int32 × ST)) (a1 : Int32) (a2 : Int32) (a3 : Int32) (a4 : Int32) (s3 : ST) => if nI n ≤ a4 then (Bd (M_endsThought s3) fun s4 => if z = 0 then (some (a1, s4)) else (some (a2, s4))) else (Bd (M_goesIn s3 (1 : Int32)) fun y4 => Bd (M_stormOf y4.2 (nI k)) fun y5 => if y5 = (-1 : Int32) then (if a3 + (1 : Int32) ≤ a1 then (Bd (M_goesOut y4.2) fun s5 => rec1 a1 a2 (a3 + (1 : Int32)) (a4 + (1 : Int32)) s5) else (Bd (M_goesOut y4.2) fun s5 => rec1 (a3 + (1 : Int32)) ((y4.2.1 1 0 - (a3 + (1 : Int32))) + (1 : Int32)) (a3 + (1 : Int32)) (a4 + (1 : Int32)) s5)) else (if (0 : Int32) ≤ a1 then (Bd (M_goesOut y4.2) fun s5 => rec1 a1 a2 (0 : Int32) (a4 + (1 : Int32)) s5) else (Bd (M_goesOut y4.2) fun s5 => rec1 (0 : Int32) ((y4.2.1 1 0 - (0 : Int32)) + (1 : Int32)) (0 : Int32) (a4 + (1 : Int32)) s5)))) FU (0 : Int32) (-1 : Int32) (0 : Int32) (0 : Int32) m1 = some (r, sm') ∧ Rel sc' sm' := by
    intro q hq
    unfold C_X6_longestCalm
    rw [e2, Bd_some]
    simp only [Lt_n]
    refine lk55 (Q := fun oc om => ∃ r sc' sm', oc = some (r, sc') ∧ om = some (r, sm') ∧ Rel sc' sm') (I := fun m a1 a2 a3 a4 s1 b1 b2 b3 b4 s2 => ∃ i dy, i + m = n ∧ a4 = nI i ∧ b4 = nI i ∧ a1 = b1 ∧ a2 = b2 ∧ a3 = b3 ∧ Dt W H nk dy c2 m1 s1 s2) ?_ FU n _ _ _ _ _ _ _ _ _ _ (by unfold FU; omega) ⟨0, _, by omega, rfl, rfl, rfl, rfl, rfl, D⟩
    rintro m rf rg a1 a2 a3 a4 s1 b1 b2 b3 b4 s2 ⟨i, dy, him, rfl, rfl, rfl, rfl, rfl, D1⟩ ih
    cases m with
    | zero =>
      have hi : i = n := by omega
      subst hi
      obtain ⟨m4, e5, R4⟩ := th_end R' (tw_D t2.1 D1)
      rw [if_pos (le_t (by omega)), if_pos (le_t (by omega)), e5, Bd_some, hq]
      by_cases h0 : z = 0
      · rw [if_pos h0, if_pos h0, if_neg h10]
        exact ⟨_, _, _, rfl, rfl, W, H, nk, nc, nl, nw, np, R4⟩
      · rw [if_neg h0, if_neg h0, if_pos h00]
        exact ⟨_, _, _, rfl, rfl, W, H, nk, nc, nl, nw, np, R4⟩
    | succ m =>
      have hi : i < n := by omega
      obtain ⟨v, c3, m3, g1, g2, g3⟩ := dawn_t D1 T t2.1.2.2.2.1 1 (Or.inr rfl)
      obtain ⟨c4, m4, k1, k2, k3⟩ := dusk_t g3 T t2.1.2.2.2.1
      have ed : c3.1 72 2 = m3.1 1 0 := g3.1.day
      have nx : ∀ p1 p2 p3, ∃ r sc' sm', rf p1 p2 p3 (nI i + 1) c4 = some (r, sc') ∧ rg p1 p2 p3 (nI i + 1) m4 = some (r, sm') ∧ Rel sc' sm' := fun p1 p2 p3 => ih m _ _ _ _ _ _ _ _ _ _ (Nat.lt_succ_self m) ⟨i + 1, _, by omega, nI_1 i, nI_1 i, rfl, rfl, rfl, k3⟩
      rw [if_neg (nle_t hi (by omega)), if_neg (nle_t hi (by omega)), g1, g2, Bd_some, Bd_some, m_stormOf hk, Bd_some, storm_is g3.1 hk, c_storm_is hk]
      rw [k1, k2, Bd_some, Bd_some, Bd_some, Bd_some, ed]
      cases q9 : bq (c3.2 72 9) k with
      | true =>
        rw [if_pos rfl, if_pos rfl]
        by_cases h : (0 : Int32) ≤ a1
        · rw [if_pos h, if_pos h]
          exact nx _ _ _
        · rw [if_neg h, if_neg h]
          exact nx _ _ _
      | false =>
        have hf : ¬ false = true := by decide
        rw [if_neg hf, if_neg hf]
        by_cases h : a3 + 1 ≤ a1
        · rw [if_pos h, if_pos h]
          exact nx _ _ _
        · rw [if_neg h, if_neg h]
          exact nx _ _ _
  rw [e1, Bd_some]
  obtain ⟨r, c, s, k1, k2, k3⟩ := key (if z = 0 then 1 else 0) rfl
  by_cases h0 : z = 0
  · rw [if_pos h0] at k1
    rw [if_pos h0, k1, Bd_some]
    exact ⟨r, c, s, rfl, k2, k3⟩
  · rw [if_neg h0] at k1
    rw [if_neg h0, k1, Bd_some]
    exact ⟨r, c, s, rfl, k2, k3⟩
