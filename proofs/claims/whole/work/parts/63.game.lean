/-! # stage 2: game, undo -/
theorem nx_xor (a b : Nat) : nI a ^^^ nI b = nI (a ^^^ b) := by
  apply Int32.toBitVec_inj.1
  show BitVec.ofNat 32 a ^^^ BitVec.ofNat 32 b = BitVec.ofNat 32 (a ^^^ b)
  apply BitVec.eq_of_getLsbD_eq
  intro i hi
  simp [hi]
def xr (h : Nat → Nat) : Nat → Nat
  | 0 => 0
  | n + 1 => xr h n ^^^ h n
def fnd (h : Nat → Nat) (B : Nat) (w : Int32) : Nat → Nat → Int32
  | 0, _ => -1
  | n + 1, y => if (h y ^^^ B) < h y then (if w = 0 then nI y else nI (h y ^^^ B)) else fnd h B w n (y + 1)
theorem xr_ext {h : Nat → Nat} {a : Nat} : ∀ b, (∀ z, a ≤ z → h z = 0) → xr h (a + b) = xr h a
  | 0, _ => rfl
  | b + 1, hz => by
    show xr h (a + b) ^^^ h (a + b) = xr h a
    rw [hz _ (by omega), Nat.xor_zero, xr_ext b hz]
theorem xr_lt {h : Nat → Nat} (hh : ∀ z, h z < 16) : ∀ n, xr h n < 16
  | 0 => by
    show 0 < 16
    decide
  | n + 1 => Nat.xor_lt_two_pow (n := 4) (xr_lt hh n) (hh n)
theorem fnd_0 {h : Nat → Nat} {B : Nat} {w : Int32} : ∀ n y, (∀ z, y ≤ z → h z = 0) → fnd h B w n y = -1
  | 0, _, _ => rfl
  | n + 1, y, hz => by
    show (if (h y ^^^ B) < h y then _ else _) = _
    rw [hz y (Nat.le_refl _), if_neg (Nat.not_lt_zero _)]
    exact fnd_0 n (y + 1) (fun z hz' => hz z (by omega))
theorem fnd_ext {h : Nat → Nat} {B : Nat} {w : Int32} : ∀ a b y, (∀ z, y + a ≤ z → h z = 0) → fnd h B w (a + b) y = fnd h B w a y
  | 0, b, y, hz => by
    rw [Nat.zero_add]
    exact fnd_0 b y hz
  | a + 1, b, y, hz => by
    rw [show a + 1 + b = (a + b) + 1 by omega]
    show (if (h y ^^^ B) < h y then _ else fnd h B w (a + b) (y + 1)) = (if (h y ^^^ B) < h y then _ else fnd h B w a (y + 1))
    rw [fnd_ext a b (y + 1) (fun z hz' => hz z (by omega))]
theorem row_bits : ∀ y, y < 7 → ∀ j, j < 64 → bq ((255 : Int64) <<< (((8 : Int32) * nI y).toInt64 &&& 63)) j = (decide (8 * y ≤ j) && decide (j < 8 * y + 8)) := by decide +kernel
def hp (x : Int64) (y : Nat) : Nat := if y < 7 then fb_ct (fun k => bq x (8 * y + k)) 8 else 0
theorem hp_le (x : Int64) (y : Nat) : hp x y ≤ 8 := by
  unfold hp
  split
  · exact fb_ct_le _ 8
  · exact Nat.zero_le _
theorem c_row {s : ST} {b y : Nat} (hy : y < 7) : C_X1_seedsInRow s b (nI y) = nI (hp (s.2 b 8) y) := by
  unfold C_X1_seedsInRow
  have e : C_X9_isWithin s (nI y) 0 7 = 1 := by
    rcases inN s (nI y) 7 (by decide) with ⟨_, h⟩ | ⟨_, _, _, h⟩
    · exact absurd rfl (h y (by omega))
    · exact h
  rw [Lt_e, e, if_neg (by decide : ¬ (1 : Int32) = 0), Lt_e, c_bitCount]
  congr 1
  unfold hp
  rw [if_pos hy]
  have e1 : fb_ct (bq (s.2 b 8 &&& ((255 : Int64) <<< (((8 : Int32) * nI y).toInt64 &&& 63)))) 64 = fb_ct (fun j => bq (s.2 b 8) j && (decide (8 * y ≤ j) && decide (j < 8 * y + 8))) (8 * y + (8 + (56 - 8 * y))) := by
    rw [show 8 * y + (8 + (56 - 8 * y)) = 64 by omega]
    exact fb_ct_cong (fun j hj => by rw [bq_and, row_bits y hy j hj])
  have z1 : fb_ct (fun j => bq (s.2 b 8) j && (decide (8 * y ≤ j) && decide (j < 8 * y + 8))) (8 * y) = 0 := fb_ct_zero (fun k hk => by
    have : ¬ 8 * y ≤ k := by omega
    simp [this])
  have z2 : fb_ct (fun k => bq (s.2 b 8) (8 * y + (8 + k)) && (decide (8 * y ≤ 8 * y + (8 + k)) && decide (8 * y + (8 + k) < 8 * y + 8))) (56 - 8 * y) = 0 := fb_ct_zero (fun k hk => by
    have : ¬ 8 * y + (8 + k) < 8 * y + 8 := by omega
    simp [this])
  have z3 : fb_ct (fun k => bq (s.2 b 8) (8 * y + k) && (decide (8 * y ≤ 8 * y + k) && decide (8 * y + k < 8 * y + 8))) 8 = fb_ct (fun k => bq (s.2 b 8) (8 * y + k)) 8 := fb_ct_cong (fun k hk => by
    have h1 : 8 * y ≤ 8 * y + k := by omega
    have h2 : 8 * y + k < 8 * y + 8 := by omega
    simp [h1, h2])
  rw [e1, fb_ct_split, fb_ct_split, z1, z2, z3]
  omega
theorem m_heap {W H nk b y : Nat} {sc sm : ST} (L : LD W H nk b sc sm) (hy : y < H) : M_heapOf sm (nI y) = some (nI (hp (sc.2 b 8) y)) := by
  have W7 := L.W7
  have H7 := L.H7
  have hn8 := L.n8
  have hct : hp (sc.2 b 8) y = fb_ct (fun k => bq (sc.2 b 8) (8 * y + k)) W := by
    unfold hp
    rw [if_pos (by omega)]
    have e := fb_ct_split (fun k => bq (sc.2 b 8) (8 * y + k)) W (8 - W)
    rw [show W + (8 - W) = 8 by omega] at e
    rw [e, fb_ct_zero (p := fun k => bq (sc.2 b 8) (8 * y + (W + k)))]
    · rfl
    intro k hk
    cases q : bq (sc.2 b 8) (8 * y + (W + k)) with
    | false => rfl
    | true =>
      have := (L.sd _ (by omega) q).1
      unfold cl at this
      omega
  rw [hct]
  unfold M_heapOf
  refine lo2 (Q := fun r => r = some (nI (fb_ct (fun k => bq (sc.2 b 8) (8 * y + k)) W))) (I := fun m a c => ∃ i, i + m = W ∧ c = nI i ∧ a = nI (fb_ct (fun k => bq (sc.2 b 8) (8 * y + k)) i)) ?_ FU W _ _ (by unfold FU; omega) ⟨0, by omega, rfl, rfl⟩
  rintro m rf a c ⟨i, him, rfl, rfl⟩ ih
  unfold M_wide
  simp only [Lt_n]
  rw [L.w', ite_iff (nI_leI (by omega) (by omega))]
  cases m with
  | zero =>
    have hi : i = W := by omega
    subst hi
    rw [if_pos (Nat.le_refl _)]
  | succ m =>
    have hi : i < W := by omega
    have hk : 8 * y + i < 64 := by omega
    have hm1 : (0 : Int32) - 1 = -1 := by decide
    have e := fb_ct_succ (fun k => bq (sc.2 b 8) (8 * y + k)) i
    rw [if_neg (by omega), show (8 : Int32) * nI y = nI (8 * y) from nI_mul 8 y, nI_add, m_seedOf hk, Bd_some, nI_1, nI_1]
    cases q : bq (sc.2 b 8) (8 * y + i) with
    | false =>
      rw [L.sd0 _ hk q, if_pos hm1]
      refine ih m _ _ (Nat.lt_succ_self m) ⟨i + 1, by omega, rfl, ?_⟩
      rw [e]
      simp [q]
    | true =>
      obtain ⟨_, n, hn, _, m69, _⟩ := L.sd _ hk q
      have hnm : ¬ nI n = (-1 : Int32) := n_nI_m1 (by omega)
      rw [m69, n_sub1, if_neg hnm]
      refine ih m _ _ (Nat.lt_succ_self m) ⟨i + 1, by omega, rfl, ?_⟩
      rw [e]
      simp [q]
theorem s_game : Sim_game Rel := by
  rintro sc sm x ⟨W, H, nk, nc, nl, nw, np, R⟩
  have h10 : ¬ (1 : Int32) = 0 := by decide
  have h00 : (0 : Int32) = 0 := rfl
  have R' := R8_told R
  have L := R'.L
  have H7 := L.H7
  obtain ⟨CB, hc0⟩ : ∃ q, C_X9_game sc x = q := ⟨_, rfl⟩
  obtain ⟨MB, hm0⟩ : ∃ q, M_game sm x = q := ⟨_, rfl⟩
  rw [hc0, hm0]
  unfold C_X9_game at hc0
  unfold M_game at hm0
  rw [Lt_e, show C_X9_isWithin sc x 0 1 = M_isIn (ups sm 0 0 0) x 0 1 from rfl] at hc0
  rw [Lt_e, Lt_e] at hm0
  generalize ups sm 0 0 0 = m0 at *
  rcases in01 m0 x with a | ⟨hx, a⟩
  · rw [a, if_pos h00] at hc0 hm0
    exact ⟨-1, sc, m0, ⟨hc0.symm, rfl⟩, hm0.symm, W, H, nk, nc, nl, nw, np, R'⟩
  rw [a, if_neg h10] at hc0 hm0
  have hh : ∀ z, hp (sc.2 1 8) z < 16 := fun z => by have := hp_le (sc.2 1 8) z; omega
  have hz : ∀ z, H ≤ z → hp (sc.2 1 8) z = 0 := fun z hz => by
    unfold hp
    split
    · refine fb_ct_zero (fun k hk => ?_)
      cases q : bq (sc.2 1 8) (8 * z + k) with
      | false => rfl
      | true =>
        have := (L.sd _ (by omega) q).1
        unfold cl at this
        omega
    · rfl
  generalize hB : xr (hp (sc.2 1 8)) 7 = B at *
  have hBl : B < 16 := by rw [← hB]; exact xr_lt hh 7
  have hBH : xr (hp (sc.2 1 8)) H = B := by
    rw [← hB]
    have := xr_ext (h := hp (sc.2 1 8)) (a := H) (7 - H) hz
    rw [show H + (7 - H) = 7 by omega] at this
    exact this.symm
  have hxl : ∀ z, (hp (sc.2 1 8) z ^^^ B) < 16 := fun z => Nat.xor_lt_two_pow (n := 4) (hh z) hBl
  refine ⟨fnd (hp (sc.2 1 8)) B x 7 0, sc, m0, ⟨?_, rfl⟩, ?_, W, H, nk, nc, nl, nw, np, R'⟩
  · rw [← hc0]
    clear hc0 hm0
    refine lo2 (Q := fun r => r = some (fnd (hp (sc.2 1 8)) B x 7 0)) (I := fun m u v => ∃ i, i + m = 7 ∧ v = nI i ∧ u = nI (xr (hp (sc.2 1 8)) i)) ?_ FU 7 _ _ (by unfold FU; omega) ⟨0, by omega, rfl, rfl⟩
    rintro m rf u v ⟨i, him, rfl, rfl⟩ ih
    cases m with
    | zero =>
      have hi : i = 7 := by omega
      subst hi
      rw [if_pos (by decide), hB]
      refine lo1 (Q := fun r => r = some (fnd (hp (sc.2 1 8)) B x 7 0)) (I := fun m v => ∃ i, i + m = 7 ∧ v = nI i ∧ fnd (hp (sc.2 1 8)) B x m i = fnd (hp (sc.2 1 8)) B x 7 0) ?_ FU 7 _ (by unfold FU; omega) ⟨0, by omega, rfl, rfl⟩
      rintro m rf v ⟨i, him, rfl, e⟩ ih
      cases m with
      | zero =>
        have hi : i = 7 := by omega
        subst hi
        rw [if_pos (by decide), ← e]
        rfl
      | succ m =>
        have hq : ¬ (7 : Int32) ≤ nI i := nle_t (n := 7) (by omega) (by decide)
        have h1 := hh i
        have h2 := hxl i
        have e : (if (hp (sc.2 1 8) i ^^^ B) < hp (sc.2 1 8) i then (if x = 0 then nI i else nI (hp (sc.2 1 8) i ^^^ B)) else fnd (hp (sc.2 1 8)) B x m (i + 1)) = fnd (hp (sc.2 1 8)) B x 7 0 := e
        rw [if_neg hq, Lt_e, c_row (by omega), nx_xor, ite_iff (nI_leI (by omega) (by omega)), nI_1]
        by_cases q : hp (sc.2 1 8) i ≤ hp (sc.2 1 8) i ^^^ B
        · rw [if_pos q]
          rw [if_neg (by omega)] at e
          exact ih m _ (Nat.lt_succ_self m) ⟨i + 1, by omega, rfl, e⟩
        · rw [if_pos (by omega)] at e
          rw [if_neg q, ← e]
          split <;> rfl
    | succ m =>
      have hq : ¬ (7 : Int32) ≤ nI i := nle_t (n := 7) (by omega) (by decide)
      rw [if_neg hq, Lt_e, Lt_e, c_row (by omega), nx_xor, nI_1]
      exact ih m _ _ (Nat.lt_succ_self m) ⟨i + 1, by omega, rfl, rfl⟩
  · have e7 : fnd (hp (sc.2 1 8)) B x 7 0 = fnd (hp (sc.2 1 8)) B x H 0 := by
      have := fnd_ext (h := hp (sc.2 1 8)) (B := B) (w := x) H (7 - H) 0 (fun z hz' => hz z (by omega))
      rwa [show H + (7 - H) = 7 by omega] at this
    rw [e7, ← hm0]
    clear hc0 hm0
    refine lo2 (Q := fun r => r = some (fnd (hp (sc.2 1 8)) B x H 0, m0)) (I := fun m u v => ∃ i, i + m = H ∧ v = nI i ∧ u = nI (xr (hp (sc.2 1 8)) i)) ?_ FU H _ _ (by unfold FU; omega) ⟨0, by omega, rfl, rfl⟩
    rintro m rf u v ⟨i, him, rfl, rfl⟩ ih
    unfold M_high
    rw [Lt_e, L.h', ite_iff (nI_leI (by omega) (by omega))]
    cases m with
    | zero =>
      have hi : i = H := by omega
      subst hi
      rw [if_pos (Nat.le_refl _), hBH]
      refine lo1 (Q := fun r => r = some (fnd (hp (sc.2 1 8)) B x i 0, m0)) (I := fun m v => ∃ j, j + m = i ∧ v = nI j ∧ fnd (hp (sc.2 1 8)) B x m j = fnd (hp (sc.2 1 8)) B x i 0) ?_ FU i _ (by unfold FU; omega) ⟨0, by omega, rfl, rfl⟩
      rintro m rf v ⟨j, hjm, rfl, e⟩ ih
      rw [Lt_e, ite_iff (nI_leI (by omega) (by omega))]
      cases m with
      | zero =>
        have hj : j = i := by omega
        rw [if_pos (by omega), ← e]
        rfl
      | succ m =>
        have h1 := hh j
        have h2 := hxl j
        have e : (if (hp (sc.2 1 8) j ^^^ B) < hp (sc.2 1 8) j then (if x = 0 then nI j else nI (hp (sc.2 1 8) j ^^^ B)) else fnd (hp (sc.2 1 8)) B x m (j + 1)) = fnd (hp (sc.2 1 8)) B x i 0 := e
        rw [if_neg (by omega), m_heap L (by omega), Bd_some, Bd_some, nx_xor, ite_iff (nI_leI (by omega) (by omega)), nI_1, Bd_some, nx_xor]
        by_cases q : hp (sc.2 1 8) j ≤ hp (sc.2 1 8) j ^^^ B
        · rw [if_pos q]
          rw [if_neg (by omega)] at e
          exact ih m _ (Nat.lt_succ_self m) ⟨j + 1, by omega, rfl, e⟩
        · rw [if_pos (by omega)] at e
          rw [if_neg q, ← e]
          split <;> rfl
    | succ m =>
      rw [if_neg (by omega), m_heap L (by omega), Bd_some, Lt_e, nx_xor, nI_1]
      exact ih m _ _ (Nat.lt_succ_self m) ⟨i + 1, by omega, rfl, rfl⟩
