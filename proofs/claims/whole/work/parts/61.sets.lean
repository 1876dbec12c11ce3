/-! # stage 2: good, open, have, generations -/
theorem lk43 {C D A1 A2 A3 A4 B1 B2 B3 : Type} {F : (A1 → A2 → A3 → A4 → Option C) → A1 → A2 → A3 → A4 → Option C} {G : (B1 → B2 → B3 → Option D) → B1 → B2 → B3 → Option D} (Q : Option C → Option D → Prop) (I : Nat → A1 → A2 → A3 → A4 → B1 → B2 → B3 → Prop)
    (h : ∀ (m : Nat) (rf : A1 → A2 → A3 → A4 → Option C) (rg : B1 → B2 → B3 → Option D) (a1 : A1) (a2 : A2) (a3 : A3) (a4 : A4) (b1 : B1) (b2 : B2) (b3 : B3), I m a1 a2 a3 a4 b1 b2 b3 → (∀ m' a1 a2 a3 a4 b1 b2 b3, m' < m → I m' a1 a2 a3 a4 b1 b2 b3 → Q (rf a1 a2 a3 a4) (rg b1 b2 b3)) → Q (F rf a1 a2 a3 a4) (G rg b1 b2 b3)) :
    ∀ (n m : Nat) (a1 : A1) (a2 : A2) (a3 : A3) (a4 : A4) (b1 : B1) (b2 : B2) (b3 : B3), m < n → I m a1 a2 a3 a4 b1 b2 b3 → Q (lpK4 F n a1 a2 a3 a4) (lpK3 G n b1 b2 b3) := by
  intro n
  induction n with
  | zero => intro m _ _ _ _ _ _ _ hm; omega
  | succ n ih =>
    intro m a1 a2 a3 a4 b1 b2 b3 hm hI
    exact h m (lpK4 F n) (lpK3 G n) a1 a2 a3 a4 b1 b2 b3 hI (fun m' a1 a2 a3 a4 b1 b2 b3 hlt hI' => ih m' a1 a2 a3 a4 b1 b2 b3 (by omega) hI')
def yl (a p : Int32) : Int32 := ((a.toInt64 * ((1000 : Int32) - p).toInt64) / (1000 : Int64)).toInt32
def gd (p : Int32) : Nat → Int32
  | 0 => 1000000
  | n + 1 => yl (gd p n) p
theorem m_goodOf {s : ST} {n : Nat} {p : Int32} (hn : n ≤ 100) : M_goodOf s (nI n) p = some (gd p n) := by
  unfold M_goodOf
  refine lo2 (Q := fun r => r = some (gd p n)) (I := fun m a b => ∃ i, i + m = n ∧ b = nI i ∧ a = gd p i) ?_ FU n _ _ (by unfold FU; omega) ⟨0, by omega, rfl, rfl⟩
  rintro m rf a b ⟨i, him, rfl, rfl⟩ ih
  cases m with
  | zero =>
    have hi : i = n := by omega
    subst hi
    rw [if_pos (le_t (by omega))]
  | succ m =>
    rw [if_neg (nle_t (by omega) (by omega)), Lt_e, nI_1]
    exact ih m _ _ (Nat.lt_succ_self m) ⟨i + 1, by omega, rfl, rfl⟩
theorem s_good : Sim_good Rel := by
  rintro sc sm x y ⟨W, H, nk, nc, nl, nw, np, R⟩
  have h10 : ¬ (1 : Int32) = 0 := by decide
  have h00 : (0 : Int32) = 0 := rfl
  have R' := R8_told R
  obtain ⟨CB, hc0⟩ : ∃ q, C_X9_good sc x y = q := ⟨_, rfl⟩
  obtain ⟨MB, hm0⟩ : ∃ q, M_good sm x y = q := ⟨_, rfl⟩
  rw [hc0, hm0]
  unfold C_X9_good at hc0
  unfold M_good at hm0
  rw [Lt_e, show C_X9_isWithin sc x 0 60 = M_isIn (ups sm 0 0 0) x 0 60 from rfl] at hc0
  rw [Lt_e, Lt_e] at hm0
  generalize ups sm 0 0 0 = m0 at *
  rcases inN m0 x 60 (by decide) with ⟨a, _⟩ | ⟨n, hn, rfl, a⟩
  · rw [show M_isIn m0 x 0 60 = 0 from a, if_pos h00] at hc0 hm0
    exact ⟨-1, _, _, ⟨hc0.symm, rfl⟩, hm0.symm, W, H, nk, nc, nl, nw, np, R'⟩
  rw [show M_isIn m0 (nI n) 0 60 = 1 from a, if_neg h10, Lt_e] at hc0 hm0
  rw [show C_X9_isWithin sc y 0 1000 = M_isIn m0 y 0 1000 from rfl] at hc0
  rcases inN m0 y 1000 (by decide) with ⟨a, _⟩ | ⟨p, hp, rfl, a⟩
  · rw [show M_isIn m0 y 0 1000 = 0 from a, if_pos h00] at hc0 hm0
    exact ⟨-1, _, _, ⟨hc0.symm, rfl⟩, hm0.symm, W, H, nk, nc, nl, nw, np, R'⟩
  rw [show M_isIn m0 (nI p) 0 1000 = 1 from a, if_neg h10] at hc0 hm0
  rw [m_goodOf (by omega), Bd_some] at hm0
  refine ⟨gd (nI p) n, sc, m0, ⟨?_, rfl⟩, hm0.symm, W, H, nk, nc, nl, nw, np, R'⟩
  rw [← hc0]
  refine lo2 (Q := fun r => r = some (gd (nI p) n)) (I := fun m a b => ∃ i, i + m = n ∧ b = nI i ∧ a = gd (nI p) i) ?_ FU n _ _ (by unfold FU; omega) ⟨0, by omega, rfl, rfl⟩
  rintro m rf a b ⟨i, him, rfl, rfl⟩ ih
  cases m with
  | zero =>
    have hi : i = n := by omega
    subst hi
    rw [if_pos (le_t (by omega))]
  | succ m =>
    rw [if_neg (nle_t (by omega) (by omega)), Lt_e, nI_1]
    exact ih m _ _ (Nat.lt_succ_self m) ⟨i + 1, by omega, rfl, rfl⟩
theorem s_open : Sim_open Rel := by
  rintro sc sm x y ⟨W, H, nk, nc, nl, nw, np, R⟩
  have h10 : ¬ (1 : Int32) = 0 := by decide
  have h00 : (0 : Int32) = 0 := rfl
  have R' := R8_told R
  obtain ⟨CB, hc0⟩ : ∃ q, C_X9_open sc x y = q := ⟨_, rfl⟩
  obtain ⟨MB, hm0⟩ : ∃ q, M_open sm x y = q := ⟨_, rfl⟩
  rw [hc0, hm0]
  unfold C_X9_open at hc0
  unfold M_open at hm0
  rw [Lt_e, show C_X9_isWithin sc x 0 1000 = M_isIn (ups sm 0 0 0) x 0 1000 from rfl] at hc0
  rw [Lt_e, Lt_e] at hm0
  generalize ups sm 0 0 0 = m0 at *
  rcases inN m0 x 1000 (by decide) with ⟨a, _⟩ | ⟨p, hp, rfl, a⟩
  · rw [show M_isIn m0 x 0 1000 = 0 from a, if_pos h00] at hc0 hm0
    exact ⟨-1, _, _, ⟨hc0.symm, rfl⟩, hm0.symm, W, H, nk, nc, nl, nw, np, R'⟩
  rw [show M_isIn m0 (nI p) 0 1000 = 1 from a, if_neg h10, Lt_e] at hc0 hm0
  rw [show C_X9_isWithin sc y 0 99 = M_isIn m0 y 0 99 from rfl] at hc0
  rcases inN m0 y 99 (by decide) with ⟨a, _⟩ | ⟨g, hg, rfl, a⟩
  · rw [show M_isIn m0 y 0 99 = 0 from a, if_pos h00] at hc0 hm0
    exact ⟨-1, _, _, ⟨hc0.symm, rfl⟩, hm0.symm, W, H, nk, nc, nl, nw, np, R'⟩
  rw [show M_isIn m0 (nI g) 0 99 = 1 from a, if_neg h10] at hc0 hm0
  have key : ∃ r, CB = some r ∧ MB = some (r, m0) := by
    rw [← hc0, ← hm0]
    refine lk43 (Q := fun oc om => ∃ r, oc = some r ∧ om = some (r, m0)) (I := fun m a1 a2 a3 a4 b1 b2 b3 => ∃ i, i + m = 61 ∧ a4 = nI i ∧ b3 = nI i ∧ a1 = b1 ∧ a2 = b2 ∧ a3 = gd (nI p) i) ?_ FU 61 _ _ _ _ _ _ _ (by unfold FU; omega) ⟨0, by omega, rfl, rfl, rfl, rfl, rfl⟩
    rintro m rf rg a1 a2 a3 a4 b1 b2 b3 ⟨i, him, rfl, rfl, rfl, rfl, rfl⟩ ih
    cases m with
    | zero =>
      have hi : i = 61 := by omega
      subst hi
      rw [if_pos (by decide), if_pos (by decide)]
      exact ⟨a1, rfl, rfl⟩
    | succ m =>
      have hq : ¬ (60 : Int32) < nI i := by rw [show (60 : Int32) = nI 60 from rfl, nI_ltI (by decide) (by omega)]; omega
      rw [if_neg hq, if_neg hq, m_goodOf (by omega), Bd_some]
      simp only [Lt_n]
      by_cases h : lg_cmp ((gd (nI p) i).toInt64 * ((100 : Int32) + nI g * nI i).toInt64 / 100) a2 ≤ 0
      · rw [if_pos h, if_pos h, if_pos h, nI_1]
        exact ih m _ _ _ _ _ _ _ (Nat.lt_succ_self m) ⟨i + 1, by omega, rfl, rfl, rfl, rfl, rfl⟩
      · rw [if_neg h, if_neg h, if_neg h, nI_1]
        exact ih m _ _ _ _ _ _ _ (Nat.lt_succ_self m) ⟨i + 1, by omega, rfl, rfl, rfl, rfl, rfl⟩
  obtain ⟨r, k1, k2⟩ := key
  exact ⟨r, sc, m0, ⟨k1, rfl⟩, k2, W, H, nk, nc, nl, nw, np, R'⟩
/-! sets of kinds -/
theorem set_mask (k : Nat) (hk : k ≤ 8) (x : Int32) : (x &&& (-((1 : Int32) <<< (nI k &&& 31)))) = 0 ↔ ∃ a, a < 2 ^ k ∧ x = nI a := by
  have hm : ∀ k, k ≤ 8 → ∀ i, i < 32 → bt (-((1 : Int32) <<< (nI k &&& 31))) i = decide (k ≤ i) := by
    have : ∀ k, k < 9 → ∀ i, i < 32 → bt (-((1 : Int32) <<< (nI k &&& 31))) i = decide (k ≤ i) := by decide +kernel
    exact fun k hk => this k (by omega)
  constructor
  · intro h
    refine ⟨x.toBitVec.toNat, ?_, ?_⟩
    · apply Nat.lt_pow_two_of_testBit
      intro i hi
      by_cases h32 : i < 32
      · have e := congrArg (fun v => bt v i) h
        simp only [b_and, hm k hk i h32, hi, decide_true, Bool.and_true] at e
        exact e.trans (by simp [bt])
      · exact Nat.testBit_lt_two_pow (Nat.lt_of_lt_of_le x.toBitVec.isLt (Nat.pow_le_pow_right (by decide) (by omega)))
    · apply Int32.toBitVec_inj.mp
      show _ = BitVec.ofNat 32 _
      simp
  · rintro ⟨a, ha, rfl⟩
    refine b_ext (fun i hi => ?_)
    rw [b_and, hm k hk i hi]
    have e0 : bt 0 i = false := by simp [bt]
    rw [e0]
    by_cases q : k ≤ i
    · have : bt (nI a) i = false := by
        show (BitVec.ofNat 32 a).getLsbD i = false
        rw [BitVec.getLsbD_ofNat, Nat.testBit_lt_two_pow (Nat.lt_of_lt_of_le ha (Nat.pow_le_pow_right (by decide) q))]
        simp
      rw [this]
      rfl
    · simp [q]
theorem m_set (k : Nat) (hk : k ≤ 8) (x : Int32) : (¬ x < 0 ∧ x < (1 : Int32) <<< (nI k &&& 31)) ↔ ∃ a, a < 2 ^ k ∧ x = nI a := by
  have hp : ∀ k, k < 9 → (1 : Int32) <<< (nI k &&& 31) = nI (2 ^ k) := by decide +kernel
  have h2 : 2 ^ k ≤ 2 ^ 8 := Nat.pow_le_pow_right (by decide) hk
  rw [hp k (by omega)]
  constructor
  · rintro ⟨h0, h1⟩
    obtain ⟨j, hj, rfl⟩ := nI_of h0
    rw [nI_ltI hj (by omega)] at h1
    exact ⟨j, h1, rfl⟩
  · rintro ⟨a, ha, rfl⟩
    exact ⟨nI_pos (by omega), by rw [nI_ltI (by omega) (by omega)]; exact ha⟩
theorem kb : ∀ a, a < 256 → ∀ j, j < 8 → (((nI a >>> (nI j &&& 31)) &&& (1 : Int32)) = 1 ↔ a.testBit j = true) ∧ bq ((nI a).toInt64) j = a.testBit j ∧ (nI a ||| ((1 : Int32) <<< (nI j &&& 31))) = nI (a ||| 2 ^ j) := by decide +kernel
theorem once_sim {W H nk nc nl nw np : Nat} {sc sm : ST} (T : TD W H nk nc nl nw np 8 sc sm) (a : Nat) (ha : a < 2 ^ nk) : ∃ b, b < 2 ^ nk ∧ a ||| b = b ∧ C_X7_nextGeneration sc 8 (nI a) = some (nI b) ∧ M_crossedOnce sm (nI a) = some (nI b) := by
  have h10 := T.c10
  have h8 := T.k8
  have h256 : 2 ^ nk ≤ 2 ^ 8 := Nat.pow_le_pow_right (by decide) h8
  unfold C_X7_nextGeneration M_crossedOnce
  refine lk22 (Q := fun oc om => ∃ b, b < 2 ^ nk ∧ a ||| b = b ∧ oc = some (nI b) ∧ om = some (nI b)) (I := fun m x y u v => ∃ i c, i + m = nc ∧ y = nI i ∧ v = nI i ∧ c < 2 ^ nk ∧ a ||| c = c ∧ x = nI c ∧ u = nI c) ?_ FU nc _ _ _ _ (by unfold FU; omega) ⟨0, a, by omega, rfl, rfl, ha, Nat.or_self a, rfl, rfl⟩
  rintro m rf rg x y u v ⟨i, c, him, rfl, rfl, hc, hac, rfl, rfl⟩ ih
  simp only [Lt_n]
  rw [show sc.1 (8 + 3) 2 = nI nc from T.c, T.c', ite_iff (nI_leI (by omega) (by omega)), ite_iff (nI_leI (by omega) (by omega))]
  cases m with
  | zero =>
    rw [if_pos (by omega), if_pos (by omega)]
    exact ⟨c, hc, hac, rfl, rfl⟩
  | succ m =>
    have hi : i < nc := by omega
    obtain ⟨p, q, r, hp, hq, hr, x0, x1, x2, y0, y1, y2⟩ := T.cd i hi
    have l : lc (11 + 1) = 40 := rfl
    have o0 : C_X4_of sc 11 (nI i) 0 = some (nI p) := (c_of (c := 0) T.c hi (by omega) (by decide) (by rw [l]; omega) (by decide)).trans (congrArg some x0)
    have o1 : C_X4_of sc 11 (nI i) 1 = some (nI q) := (c_of (c := 1) T.c hi (by omega) (by decide) (by rw [l]; omega) (by decide)).trans (congrArg some x1)
    have o2 : C_X4_of sc 11 (nI i) 2 = some (nI r) := (c_of (c := 2) T.c hi (by omega) (by decide) (by rw [l]; omega) (by decide)).trans (congrArg some x2)
    have n3 : (3 : Int32) * nI i = nI (3 * i) := nI_mul 3 i
    have hn : ¬ nc ≤ i := by omega
    obtain ⟨kp1, kp2, _⟩ := kb a (by omega) p (by omega)
    obtain ⟨kq1, kq2, _⟩ := kb a (by omega) q (by omega)
    obtain ⟨_, _, kr⟩ := kb c (by omega) r (by omega)
    have nx : ∀ d, d < 2 ^ nk → a ||| d = d → ∃ b, b < 2 ^ nk ∧ a ||| b = b ∧ rf (nI d) (nI i + 1) = some (nI b) ∧ rg (nI d) (nI i + 1) = some (nI b) := fun d h1 h2 => ih m _ _ _ _ (Nat.lt_succ_self m) ⟨i + 1, d, by omega, nI_1 i, nI_1 i, h1, h2, rfl, rfl⟩
    rw [if_neg hn, if_neg hn, show (8 + 3 : Nat) = 11 from rfl, o0, Bd_some, o1, Bd_some, o2, Bd_some, c_isIn (by omega), c_isIn (by omega), kp2, kq2, n3, Gl_n (by omega) (by decide), show nI (3 * i) + (1 : Int32) = nI (3 * i + 1) from nI_1 _, show nI (3 * i) + (2 : Int32) = nI (3 * i + 2) from nI_add _ 2, Gl_n (by omega) (by decide), Gl_n (by omega) (by decide), y0, y1, y2, ite_iff kp1, ite_iff kq1, kr]
    cases t1 : a.testBit p with
    | false =>
      rw [ift0, if_neg (by decide : ¬ false = true)]
      exact nx c hc hac
    | true =>
      rw [ift1, if_pos (rfl : true = true)]
      cases t2 : a.testBit q with
      | false =>
        rw [ift0, if_neg (by decide : ¬ false = true)]
        exact nx c hc hac
      | true =>
        rw [ift1, if_pos (rfl : true = true)]
        refine nx _ (Nat.or_lt_two_pow hc (Nat.pow_lt_pow_right (by decide) hr)) ?_
        rw [← Nat.or_assoc, hac]
