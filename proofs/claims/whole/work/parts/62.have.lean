/-! # stage 2: have, generations -/
def it (f : Nat → Nat) : Nat → Nat → Nat
  | 0, a => a
  | n + 1, a => it f n (f a)
theorem it_succ (f : Nat → Nat) : ∀ n a, it f (n + 1) a = f (it f n a)
  | 0, _ => rfl
  | n + 1, a => it_succ f n (f a)
theorem it_fix {f : Nat → Nat} {a : Nat} (h : f a = a) : ∀ n, it f n a = a
  | 0 => rfl
  | n + 1 => by
    show it f n (f a) = a
    rw [h]
    exact it_fix h n
theorem it_lt {f : Nat → Nat} {N : Nat} (h : ∀ a, a < N → f a < N) : ∀ n a, a < N → it f n a < N
  | 0, _, ha => ha
  | n + 1, a, ha => it_lt h n (f a) (h a ha)
theorem fb_ct_lt {p q : Nat → Bool} : ∀ {n : Nat}, (∀ k, k < n → p k = true → q k = true) → (∃ k, k < n ∧ p k = false ∧ q k = true) → fb_ct p n < fb_ct q n
  | 0, _, ⟨_, h, _⟩ => absurd h (Nat.not_lt_zero _)
  | n + 1, h, ⟨k, hk, h1, h2⟩ => by
    have le : ∀ m, (∀ k, k < m → p k = true → q k = true) → fb_ct p m ≤ fb_ct q m := by
      intro m
      induction m with
      | zero => intro _; exact Nat.le_refl _
      | succ m ih =>
        intro hh
        have a := ih (fun k hk => hh k (by omega))
        have b := hh m (by omega)
        rw [fb_ct_succ, fb_ct_succ]
        cases hp : p m <;> cases hq : q m <;> simp_all <;> omega
    rw [fb_ct_succ, fb_ct_succ]
    by_cases e : k = n
    · subst e
      have a := le k (fun k hk => h k (by omega))
      rw [h1, h2]
      simp
      omega
    · have a := fb_ct_lt (n := n) (fun k hk => h k (by omega)) ⟨k, by omega, h1, h2⟩
      have b := h n (by omega)
      cases hp : p n <;> cases hq : q n <;> simp_all <;> omega
def pc (a : Nat) : Nat := fb_ct (fun k => a.testBit k) 8
theorem pc_lt {a b : Nat} (hab : a ||| b = b) (hne : a ≠ b) (ha : a < 256) (hb : b < 256) : pc a < pc b := by
  refine fb_ct_lt (fun k _ h => ?_) ?_
  · rw [← hab, Nat.testBit_or, h]
    rfl
  · refine Classical.byContradiction (fun hc => hne (Nat.eq_of_testBit_eq (fun i => ?_)))
    by_cases hi : i < 8
    · cases h1 : a.testBit i with
      | true => rw [← hab, Nat.testBit_or, h1]; rfl
      | false =>
        cases h2 : b.testBit i with
        | false => rfl
        | true => exact absurd ⟨i, hi, h1, h2⟩ hc
    · rw [Nat.testBit_lt_two_pow (Nat.lt_of_lt_of_le (show a < 2 ^ 8 from ha) (Nat.pow_le_pow_right (by decide) (by omega))), Nat.testBit_lt_two_pow (Nat.lt_of_lt_of_le (show b < 2 ^ 8 from hb) (Nat.pow_le_pow_right (by decide) (by omega)))]
theorem it_8 {f : Nat → Nat} {N : Nat} (hN : N ≤ 256) (h : ∀ a, a < N → f a < N ∧ a ||| f a = f a) {a : Nat} (ha : a < N) : f (it f 8 a) = it f 8 a := by
  have hl : ∀ n, it f n a < N := fun n => it_lt (fun a ha => (h a ha).1) n a ha
  have st : ∀ x, x < N → f x = x ∨ pc x < pc (f x) := fun x hx => by
    by_cases e : f x = x
    · exact Or.inl e
    · exact Or.inr (pc_lt (h x hx).2 (fun q => e q.symm) (by omega) (by have := (h x hx).1; omega))
  have key : ∀ m, f (it f m a) = it f m a ∨ m ≤ pc (it f m a) := by
    intro m
    induction m with
    | zero => exact Or.inr (Nat.zero_le _)
    | succ m ih =>
      rw [it_succ]
      rcases ih with e | e
      · left; rw [e, e]
      · rcases st _ (hl m) with q | q
        · left; rw [q, q]
        · right; omega
  rcases key 8 with e | e
  · exact e
  · rcases st _ (hl 8) with q | q
    · exact q
    · have : pc (f (it f 8 a)) ≤ 8 := fb_ct_le _ 8
      omega
theorem lp1_s {C A1 : Type} (F : (A1 → Option C) → A1 → Option C) (n : Nat) (a : A1) : lpK1 F (n + 1) a = F (lpK1 F n) a := (rfl)
theorem is_set {W H nk nc nl nw np : Nat} {sc sm : ST} (T : TD W H nk nc nl nw np 8 sc sm) (x : Int32) : (C_X7_isSetOfKinds sc 8 x = 0 ∧ (x < 0 ∨ ¬ x < (1 : Int32) <<< (nI nk &&& 31))) ∨ ∃ a, a < 2 ^ nk ∧ x = nI a ∧ C_X7_isSetOfKinds sc 8 x = 1 ∧ ¬ x < 0 ∧ x < (1 : Int32) <<< (nI nk &&& 31) := by
  have h8 := T.k8
  have e : C_X7_isSetOfKinds sc 8 x = if (x &&& (-((1 : Int32) <<< (nI nk &&& 31)))) = 0 then 1 else 0 := by
    unfold C_X7_isSetOfKinds
    rw [show sc.1 (8 + 1) 2 = nI nk from T.k]
  rw [e]
  by_cases h : ∃ a, a < 2 ^ nk ∧ x = nI a
  · right
    rw [if_pos ((set_mask nk h8 x).mpr h)]
    obtain ⟨h1, h2⟩ := (m_set nk h8 x).mpr h
    obtain ⟨a, ha, e⟩ := h
    exact ⟨a, ha, e, rfl, h1, h2⟩
  · left
    rw [if_neg (fun q => h ((set_mask nk h8 x).mp q))]
    refine ⟨rfl, ?_⟩
    by_cases h1 : x < 0
    · exact Or.inl h1
    · right
      intro h2
      exact h ((m_set nk h8 x).mp ⟨h1, h2⟩)
theorem s_have : Sim_have Rel := by
  rintro sc sm x ⟨W, H, nk, nc, nl, nw, np, R⟩
  have h10 : ¬ (1 : Int32) = 0 := by decide
  have h00 : (0 : Int32) = 0 := rfl
  have R' := R8_told R
  have h8 := R'.T.k8
  have h256 : 2 ^ nk ≤ 2 ^ 8 := Nat.pow_le_pow_right (by decide) h8
  obtain ⟨CB, hc0⟩ : ∃ q, C_X9_have sc x = q := ⟨_, rfl⟩
  obtain ⟨MB, hm0⟩ : ∃ q, M_have sm x = q := ⟨_, rfl⟩
  rw [hc0, hm0]
  unfold C_X9_have at hc0
  unfold M_have at hm0
  rw [Lt_e] at hc0
  rw [Lt_e, R'.T.k'] at hm0
  generalize ups sm 0 0 0 = m0 at *
  rcases is_set R'.T x with ⟨a, b⟩ | ⟨a, ha, rfl, k1, k2, k3⟩
  · rw [a, if_pos h00] at hc0
    refine ⟨-1, _, m0, ⟨hc0.symm, rfl⟩, ?_, W, H, nk, nc, nl, nw, np, R'⟩
    rw [← hm0]
    rcases b with b | b
    · rw [if_pos b]
    · by_cases q : x < 0
      · rw [if_pos q]
      · rw [if_neg q, if_neg b]
  rw [k1, if_neg h10] at hc0
  rw [if_neg k2, if_pos k3] at hm0
  obtain ⟨f, hf⟩ : ∃ f : Nat → Nat, ∀ a, a < 2 ^ nk → f a < 2 ^ nk ∧ a ||| f a = f a ∧ C_X7_nextGeneration sc 8 (nI a) = some (nI (f a)) ∧ M_crossedOnce m0 (nI a) = some (nI (f a)) :=
    ⟨fun a => if h : a < 2 ^ nk then (once_sim R'.T a h).choose else 0, fun a h => by
      dsimp only
      rw [dif_pos h]
      exact (once_sim R'.T a h).choose_spec⟩
  have hfix := it_8 (f := f) (N := 2 ^ nk) (by omega) (fun a h => ⟨(hf a h).1, (hf a h).2.1⟩) ha
  refine ⟨nI (it f 8 a), _, m0, ⟨?_, rfl⟩, ?_, W, H, nk, nc, nl, nw, np, R'⟩
  · rw [← hc0]
    clear hc0 hm0 hfix
    refine lo2 (Q := fun r => r = some (nI (it f 8 a))) (I := fun m u v => ∃ i b, i + m = 8 ∧ v = nI i ∧ b < 2 ^ nk ∧ u = nI b ∧ it f m b = it f 8 a) ?_ FU 8 _ _ (by unfold FU; omega) ⟨0, a, by omega, rfl, ha, rfl, rfl⟩
    rintro m rf u v ⟨i, b, him, rfl, hb, rfl, e⟩ ih
    cases m with
    | zero =>
      have hi : i = 8 := by omega
      subst hi
      rw [if_pos (by decide), ← e]
      rfl
    | succ m =>
      rw [if_neg (show ¬ (8 : Int32) ≤ nI i from nle_t (n := 8) (by omega) (by decide)), (hf b hb).2.2.1, Bd_some, nI_1]
      exact ih m _ _ (Nat.lt_succ_self m) ⟨i + 1, f b, by omega, rfl, (hf b hb).1, rfl, e⟩
  · rw [← hm0]
    clear hc0 hm0
    have key : ∀ m b, b < 2 ^ nk → f (it f m b) = it f m b → ∀ n, m < n → lpK1 (C := Int32 × ST) (fun (rec1 : Int32 → Option (Int32 × ST)) (a1 : Int32) => Bd (M_crossedOnce m0 a1) fun y1 => if y1 = a1 then (some (a1, m0)) else (Bd (M_crossedOnce m0 a1) fun y2 => rec1 y2)) n (nI b) = some (nI (it f m b), m0) := by
      intro m
      induction m with
      | zero =>
        intro b hb hfx n hn
        obtain ⟨n', rfl⟩ : ∃ n', n = n' + 1 := ⟨n - 1, by omega⟩
        have hfx : f b = b := hfx
        rw [lp1_s, (hf b hb).2.2.2, Bd_some, hfx, if_pos rfl]
        rfl
      | succ m ih =>
        intro b hb hfx n hn
        obtain ⟨n', rfl⟩ : ∃ n', n = n' + 1 := ⟨n - 1, by omega⟩
        rw [lp1_s, (hf b hb).2.2.2, Bd_some]
        by_cases e : f b = b
        · rw [e, if_pos rfl, it_fix e]
        · have hne : ¬ nI (f b) = nI b := by
            have := (hf b hb).1
            rw [nI_eq (by omega) (by omega)]
            exact e
          rw [if_neg hne, Bd_some]
          exact ih (f b) (hf b hb).1 hfx n' (by omega)
    exact key 8 a ha hfix FU (by unfold FU; omega)
theorem s_generations : Sim_generations Rel := by
  rintro sc sm x y ⟨W, H, nk, nc, nl, nw, np, R⟩
  have h10 : ¬ (1 : Int32) = 0 := by decide
  have h00 : (0 : Int32) = 0 := rfl
  have R' := R8_told R
  have h8 := R'.T.k8
  have h256 : 2 ^ nk ≤ 2 ^ 8 := Nat.pow_le_pow_right (by decide) h8
  obtain ⟨CB, hc0⟩ : ∃ q, C_X9_generations sc x y = q := ⟨_, rfl⟩
  obtain ⟨MB, hm0⟩ : ∃ q, M_generations sm x y = q := ⟨_, rfl⟩
  rw [hc0, hm0]
  unfold C_X9_generations at hc0
  unfold M_generations at hm0
  rw [Lt_e] at hc0
  rw [Lt_e, R'.T.k'] at hm0
  generalize ups sm 0 0 0 = m0 at *
  rcases is_set R'.T x with ⟨a, b⟩ | ⟨a, ha, rfl, k1, k2, k3⟩
  · rw [a, if_pos h00] at hc0
    refine ⟨-1, _, m0, ⟨hc0.symm, rfl⟩, ?_, W, H, nk, nc, nl, nw, np, R'⟩
    rw [← hm0]
    rcases b with b | b
    · rw [if_pos b]
    · by_cases q : x < 0
      · rw [if_pos q]
      · rw [if_neg q, if_pos (i_nlt.mp b)]
  have k3' : ¬ (1 : Int32) <<< (nI nk &&& 31) ≤ nI a := i_nle.mpr k3
  rw [k1, if_neg h10, Lt_e] at hc0
  rw [if_neg k2, if_neg k3', Lt_e] at hm0
  rcases in_kind R'.T m0 y with ⟨p, q⟩ | ⟨j, hj, rfl, p, q⟩
  · rw [p, if_pos h00] at hc0
    rw [q, if_pos h00] at hm0
    exact ⟨-1, _, m0, ⟨hc0.symm, rfl⟩, hm0.symm, W, H, nk, nc, nl, nw, np, R'⟩
  rw [p, if_neg h10] at hc0
  rw [q, if_neg h10] at hm0
  have key : ∃ r, CB = some r ∧ MB = some (r, m0) := by
    rw [← hc0, ← hm0]
    clear hc0 hm0
    refine lk22 (Q := fun oc om => ∃ r, oc = some r ∧ om = some (r, m0)) (I := fun m u v p q => ∃ i b, i + m = 9 ∧ v = nI i ∧ q = nI i ∧ b < 2 ^ nk ∧ u = nI b ∧ p = nI b) ?_ FU 9 _ _ _ _ (by unfold FU; omega) ⟨0, a, by omega, rfl, rfl, ha, rfl, rfl⟩
    rintro m rf rg u v p q ⟨i, b, him, rfl, rfl, hb, rfl, rfl⟩ ih
    cases m with
    | zero =>
      have hi : i = 9 := by omega
      subst hi
      rw [if_pos (by decide), if_pos (by decide)]
      exact ⟨-1, rfl, rfl⟩
    | succ m =>
      have hq : ¬ (8 : Int32) < nI i := by rw [show (8 : Int32) = nI 8 from rfl, nI_ltI (by decide) (by omega)]; omega
      obtain ⟨c, hc, _, e1, e2⟩ := once_sim R'.T b hb
      obtain ⟨kp1, kp2, _⟩ := kb b (by omega) j (by omega)
      rw [if_neg hq, if_neg hq, Lt_e, c_isIn (by omega), kp2, ite_iff kp1, e1, e2, Bd_some, Bd_some, nI_1]
      cases t : b.testBit j with
      | false =>
        rw [ift0, if_neg (by decide : ¬ false = true)]
        exact ih m _ _ _ _ (Nat.lt_succ_self m) ⟨i + 1, c, by omega, rfl, rfl, hc, rfl, rfl⟩
      | true =>
        rw [ift1, if_pos (rfl : true = true)]
        exact ⟨nI i, rfl, rfl⟩
  obtain ⟨r, k1, k2⟩ := key
  exact ⟨r, sc, m0, ⟨k1, rfl⟩, k2, W, H, nk, nc, nl, nw, np, R'⟩
