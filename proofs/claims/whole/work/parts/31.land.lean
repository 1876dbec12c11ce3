/-! # stage 2: the land, leaf by leaf -/
theorem Lt_n {A B : Type} (a : A) (f : A → B) : Lt a f = f a := (rfl)
theorem Lt_e {A B : Type} (a : A) (f : A → B) : Lt a f = f a := (rfl)
theorem ite_iff {A : Type} {p q : Prop} [dp : Decidable p] [dq : Decidable q] (h : p ↔ q) (x y : A) : (if p then x else y) = (if q then x else y) := by
  by_cases hp : p
  · rw [if_pos hp, if_pos (h.mp hp)]
  · rw [if_neg hp, if_neg (fun hq => hp (h.mpr hq))]
abbrev cl (W H k : Nat) : Prop := k % 8 < W ∧ k / 8 < H
theorem cases64 (x : Int32) : (x < 0 ∨ (64 : Int32) ≤ x) ∨ ∃ k, k < 64 ∧ x = nI k := by
  by_cases h : x < 0
  · exact Or.inl (Or.inl h)
  · obtain ⟨j, hj, rfl⟩ := nI_of h
    by_cases h2 : j < 64
    · exact Or.inr ⟨j, h2, rfl⟩
    · refine Or.inl (Or.inr ?_)
      rw [show (64 : Int32) = nI 64 from rfl, nI_leI (by decide) hj]
      omega
theorem n_and7 : ∀ k, k < 64 → nI k &&& (7 : Int32) = nI (k % 8) := by decide +kernel
theorem n_shr3 : ∀ k, k < 64 → nI k >>> ((3 : Int32) &&& 31) = nI (k / 8) := by decide +kernel
theorem n_rem8 {k : Nat} (h : k < 64) : irm (nI k) (8 : Int32) = nI (k % 8) := irm_nI (m := 8) (by omega) (by decide)
theorem n_div8 {k : Nat} (h : k < 64) : nI k / (8 : Int32) = nI (k / 8) := nI_div (b := 8) (by omega) (by decide)
theorem n_not64 {k : Nat} (h : k < 64) : ¬ (64 : Int32) ≤ nI k := by
  rw [show (64 : Int32) = nI 64 from rfl, nI_leI (by decide) (by omega)]
  omega
theorem c_isCell {s : ST} {b W H k : Nat} (h0 : s.1 b 0 = nI W) (h1 : s.1 b 1 = nI H) (hW : W ≤ 7) (hH : H ≤ 7) (hk : k < 64) : C_X1_isCell s b (nI k) = if cl W H k then 1 else 0 := by
  unfold C_X1_isCell
  rw [if_neg (nI_pos (by omega)), if_neg (n_not64 hk), h0, h1, n_and7 k hk, n_shr3 k hk, ite_iff (nI_leI (by omega) (by omega)), ite_iff (nI_leI (by omega) (by omega))]
  by_cases a : k % 8 < W
  · rw [if_neg (by omega)]
    by_cases c : k / 8 < H
    · rw [if_neg (by omega), if_pos ⟨a, c⟩]
    · rw [if_pos (by omega), if_neg (fun h => c h.2)]
  · rw [if_pos (by omega), if_neg (fun h => a h.1)]
theorem c_isCell_out {s : ST} {b : Nat} {x : Int32} (h : x < 0 ∨ (64 : Int32) ≤ x) : C_X1_isCell s b x = 0 := by
  unfold C_X1_isCell
  rcases h with h | h
  · rw [if_pos h]
  · by_cases h2 : x < 0
    · rw [if_pos h2]
    · rw [if_neg h2, if_pos h]
theorem m_isCell {s : ST} {W H k : Nat} (h0 : s.1 0 6 + 5 = nI W) (h1 : s.1 0 7 + 4 = nI H) (hW : W ≤ 7) (hH : H ≤ 7) (hk : k < 64) : M_isCell s (nI k) = if cl W H k then 1 else 0 := by
  unfold M_isCell M_wide M_high
  simp only [Lt_n]
  rw [if_neg (nI_pos (by omega)), if_neg (n_not64 hk), h0, h1, n_rem8 hk, n_div8 hk, ite_iff (nI_leI (by omega) (by omega)), ite_iff (nI_leI (by omega) (by omega))]
  by_cases a : k % 8 < W
  · rw [if_neg (by omega)]
    by_cases c : k / 8 < H
    · rw [if_neg (by omega), if_pos ⟨a, c⟩]
    · rw [if_pos (by omega), if_neg (fun h => c h.2)]
  · rw [if_pos (by omega), if_neg (fun h => a h.1)]
theorem m_isCell_out {s : ST} {x : Int32} (h : x < 0 ∨ (64 : Int32) ≤ x) : M_isCell s x = 0 := by
  unfold M_isCell
  rcases h with h | h
  · rw [if_pos h]
  · by_cases h2 : x < 0
    · rw [if_pos h2]
    · rw [if_neg h2, if_pos h]
theorem c_isIn_out {s : ST} {x : Int64} {y : Int32} (h : y < 0 ∨ (64 : Int32) ≤ y) : C_X9_isIn s x y = 0 := by
  unfold C_X9_isIn
  rcases h with h | h
  · rw [if_pos h]
  · by_cases h2 : y < 0
    · rw [if_pos h2]
    · rw [if_neg h2, if_pos h]
theorem b1_and (p : Bool) : (if p = true then (1 : Int32) else 0) &&& 1 = if p = true then 1 else 0 := by cases p <;> rfl
theorem c_hasSeed {s : ST} {b k : Nat} (hk : k < 64) : C_X1_hasSeed s b (nI k) = if bq (s.2 b 8) k then 1 else 0 := by
  unfold C_X1_hasSeed
  simp only [Lt_n]
  rw [c_isIn hk, b1_and]
theorem c_hasStorm {s : ST} {b k : Nat} (hk : k < 64) : C_X1_hasStorm s b (nI k) = if bq (s.2 b 9) k then 1 else 0 := by
  unfold C_X1_hasStorm
  simp only [Lt_n]
  rw [c_isIn hk, b1_and]
theorem c_hasHedge {s : ST} {b k : Nat} (hk : k < 64) : C_X1_hasHedge s b (nI k) = if bq (s.2 b 7) k then 1 else 0 := by
  unfold C_X1_hasHedge
  simp only [Lt_n]
  rw [c_isIn hk, b1_and]
theorem c_hasSeed_out {s : ST} {b : Nat} {x : Int32} (h : x < 0 ∨ (64 : Int32) ≤ x) : C_X1_hasSeed s b x = 0 := by
  unfold C_X1_hasSeed
  simp only [Lt_n]
  rw [c_isIn_out h]
  rfl
theorem c_isSowable {s : ST} {b W H k : Nat} (h0 : s.1 b 0 = nI W) (h1 : s.1 b 1 = nI H) (hW : W ≤ 7) (hH : H ≤ 7) (hk : k < 64) : C_X1_isSowable s b (nI k) = if cl W H k ∧ bq (s.2 b 8) k = false ∧ bq (s.2 b 7) k = false then 1 else 0 := by
  unfold C_X1_isSowable
  simp only [Lt_n]
  rw [c_isCell h0 h1 hW hH hk, c_isIn hk, bq_or]
  by_cases hc : cl W H k
  · rw [if_pos hc, if_neg (by decide)]
    cases ha : bq (s.2 b 8) k <;> cases hb : bq (s.2 b 7) k <;> simp [hc]
  · rw [if_neg hc, if_pos rfl, if_neg (fun h => hc h.1)]
theorem c_isSowable_out {s : ST} {b : Nat} {x : Int32} (h : x < 0 ∨ (64 : Int32) ≤ x) : C_X1_isSowable s b x = 0 := by
  unfold C_X1_isSowable
  simp only [Lt_n]
  rw [c_isCell_out h, if_pos rfl]
theorem m_wetOf {s : ST} {k : Nat} (hk : k < 64) : M_wetOf s (nI k) = some (s.1 1 (5 + k) + 3) := by
  unfold M_wetOf
  rw [show (5 : Int32) = nI 5 from rfl, nI_add, Gl_n (by omega) (by decide)]
theorem m_seedOf {s : ST} {k : Nat} (hk : k < 64) : M_seedOf s (nI k) = some (s.1 1 (69 + k) - 1) := by
  unfold M_seedOf
  rw [show (69 : Int32) = nI 69 from rfl, nI_add, Gl_n (by omega) (by decide)]
theorem m_stormOf {s : ST} {k : Nat} (hk : k < 64) : M_stormOf s (nI k) = some (s.1 1 (197 + k) - 1) := by
  unfold M_stormOf
  rw [show (197 : Int32) = nI 197 from rfl, nI_add, Gl_n (by omega) (by decide)]
/-! the four cells beside one -/
def nbc (W H k : Nat) : Nat → Option Nat
  | 0 => if 1 ≤ k / 8 then some (k - 8) else none
  | 1 => if k % 8 + 1 < W then some (k + 1) else none
  | 2 => if k / 8 + 1 < H then some (k + 8) else none
  | _ => if 1 ≤ k % 8 then some (k - 1) else none
def nbI : Option Nat → Int32
  | none => -1
  | some j => nI j
theorem nbc_cl {W H k w j : Nat} (hc : cl W H k) (hW : W ≤ 7) (hH : H ≤ 7) (hk : k < 64) (h : nbc W H k w = some j) : j < 64 ∧ cl W H j := by
  obtain ⟨h1, h2⟩ := hc
  match w with
  | 0 => simp only [nbc] at h; split at h <;> cases h; unfold cl; omega
  | 1 => simp only [nbc] at h; split at h <;> cases h; unfold cl; omega
  | 2 => simp only [nbc] at h; split at h <;> cases h; unfold cl; omega
  | n + 3 => simp only [nbc] at h; split at h <;> cases h; unfold cl; omega
theorem in_pd : ∀ W, W < 8 → ∀ x, x < 8 → (if nI x + 1 < 0 then (0 : Int32) else if nI W - 1 < nI x + 1 then 0 else 1) = if x + 1 < W then 1 else 0 := by decide +kernel
theorem in_md : ∀ W, W < 8 → ∀ x, x < 8 → x < W → (if nI x + -1 < 0 then (0 : Int32) else if nI W - 1 < nI x + -1 then 0 else 1) = if 1 ≤ x then 1 else 0 := by decide +kernel
theorem in_0d : ∀ W, W < 8 → ∀ x, x < 8 → x < W → (if nI x + 0 < 0 then (0 : Int32) else if nI W - 1 < nI x + 0 then 0 else 1) = 1 := by decide +kernel
theorem in_p {s : ST} {W x : Nat} (hW : W < 8) (hx : x < 8) : M_isIn s (nI x + 1) 0 (nI W - 1) = if x + 1 < W then 1 else 0 := in_pd W hW x hx
theorem in_m {s : ST} {W x : Nat} (hW : W < 8) (hx : x < 8) (h : x < W) : M_isIn s (nI x + -1) 0 (nI W - 1) = if 1 ≤ x then 1 else 0 := in_md W hW x hx h
theorem in_0 {s : ST} {W x : Nat} (hW : W < 8) (hx : x < 8) (h : x < W) : M_isIn s (nI x + 0) 0 (nI W - 1) = 1 := in_0d W hW x hx h
theorem n_m1 {x : Nat} (h : 1 ≤ x) : nI x + (-1 : Int32) = nI (x - 1) := by
  obtain ⟨y, rfl⟩ : ∃ y, x = y + 1 := ⟨x - 1, by omega⟩
  rw [nI_succ]
  show nI y + 1 + -1 = nI (y + 1 - 1)
  rw [Int32.add_assoc, show (1 : Int32) + -1 = 0 from by decide, Int32.add_zero]
  rfl
theorem n_p0 (x : Nat) : nI x + (0 : Int32) = nI x := Int32.add_zero _
theorem m_cellBy {s : ST} {W H k w : Nat} (h0 : s.1 0 6 + 5 = nI W) (h1 : s.1 0 7 + 4 = nI H) (hW : W ≤ 7) (hH : H ≤ 7) (hk : k < 64) (hc : cl W H k) (hw : w < 4) : M_cellBy s (nI k) (nI w) = nbI (nbc W H k w) := by
  obtain ⟨c1, c2⟩ := hc
  unfold M_cellBy M_wide M_high
  simp only [Lt_n]
  rw [h0, h1, n_rem8 hk, n_div8 hk]
  have x8 : k % 8 < 8 := by omega
  have y8 : k / 8 < 8 := by omega
  have e8 : k = 8 * (k / 8) + k % 8 := by omega
  rcases (by omega : w = 0 ∨ w = 1 ∨ w = 2 ∨ w = 3) with rfl | rfl | rfl | rfl
  · rw [if_neg (by decide), if_neg (by decide), if_neg (by decide), if_pos (by decide), in_0 (by omega) x8 c1, if_neg (by decide), in_m (by omega) y8 c2]
    simp only [nbc]
    by_cases q : 1 ≤ k / 8
    · rw [if_pos q, if_pos q, if_neg (by decide), n_m1 q, n_p0, show (8 : Int32) = nI 8 from rfl, nI_mul, nI_add]
      simp only [nbI]
      congr 1
      omega
    · rw [if_neg q, if_neg q, if_pos rfl]
      rfl
  · rw [if_pos (by decide), if_neg (by decide), if_neg (by decide), in_p (by omega) x8, in_0 (by omega) y8 c2]
    simp only [nbc]
    by_cases q : k % 8 + 1 < W
    · rw [if_pos q, if_pos q, if_neg (by decide), if_neg (by decide), n_p0, show (8 : Int32) = nI 8 from rfl, nI_mul, nI_1, nI_add]
      simp only [nbI]
      congr 1
      omega
    · rw [if_neg q, if_neg q, if_pos rfl]
      rfl
  · rw [if_neg (by decide), if_neg (by decide), if_pos (by decide), in_0 (by omega) x8 c1, if_neg (by decide), in_p (by omega) y8]
    simp only [nbc]
    by_cases q : k / 8 + 1 < H
    · rw [if_pos q, if_pos q, if_neg (by decide), n_p0, show (8 : Int32) = nI 8 from rfl, nI_1, nI_mul, nI_add]
      simp only [nbI]
      congr 1
      omega
    · rw [if_neg q, if_neg q, if_pos rfl]
      rfl
  · rw [if_neg (by decide), if_pos (by decide), if_neg (by decide), if_neg (by decide), in_m (by omega) x8 c1, in_0 (by omega) y8 c2]
    simp only [nbc]
    by_cases q : 1 ≤ k % 8
    · rw [if_pos q, if_pos q, if_neg (by decide), if_neg (by decide), n_p0, n_m1 q, show (8 : Int32) = nI 8 from rfl, nI_mul, nI_add]
      simp only [nbI]
      congr 1
      omega
    · rw [if_neg q, if_neg q, if_pos rfl]
      rfl
theorem c_downWind {s sm : ST} {b k : Nat} (hk : k < 64) (h0 : s.1 b 0 = sm.1 0 6 + 5) (h1 : s.1 b 1 = sm.1 0 7 + 4) : C_X1_downWind s b (nI k) = M_cellBy sm (nI k) (s.1 b 3) := by
  unfold C_X1_downWind M_cellBy M_wide M_high
  simp only [Lt_n]
  rw [n_and7 k hk, n_shr3 k hk, n_rem8 hk, n_div8 hk, h0, h1]
  rfl
/-- how many of the four have it -/
def nb (W H : Nat) (p : Nat → Bool) (k : Nat) : Nat :=
  (if 1 ≤ k / 8 ∧ p (k - 8) = true then 1 else 0) + (if k % 8 + 1 < W ∧ p (k + 1) = true then 1 else 0) + (if k / 8 + 1 < H ∧ p (k + 8) = true then 1 else 0) + (if 1 ≤ k % 8 ∧ p (k - 1) = true then 1 else 0)
theorem nb_le (W H : Nat) (p : Nat → Bool) (k : Nat) : nb W H p k ≤ 4 := by
  unfold nb
  repeat' split
  all_goals omega
theorem nb_cong {W H k : Nat} {p q : Nat → Bool} (hk : k < 64) (hc : cl W H k) (hW : W ≤ 7) (hH : H ≤ 7) (h : ∀ j, j < 64 → p j = q j) : nb W H p k = nb W H q k := by
  obtain ⟨c1, c2⟩ := hc
  unfold nb
  have e1 : (1 ≤ k / 8 ∧ p (k - 8) = true) ↔ (1 ≤ k / 8 ∧ q (k - 8) = true) := by rw [h (k - 8) (by omega)]
  have e2 : (k % 8 + 1 < W ∧ p (k + 1) = true) ↔ (k % 8 + 1 < W ∧ q (k + 1) = true) := ⟨fun ⟨a, b⟩ => ⟨a, by rw [← h (k + 1) (by omega)]; exact b⟩, fun ⟨a, b⟩ => ⟨a, by rw [h (k + 1) (by omega)]; exact b⟩⟩
  have e3 : (k / 8 + 1 < H ∧ p (k + 8) = true) ↔ (k / 8 + 1 < H ∧ q (k + 8) = true) := ⟨fun ⟨a, b⟩ => ⟨a, by rw [← h (k + 8) (by omega)]; exact b⟩, fun ⟨a, b⟩ => ⟨a, by rw [h (k + 8) (by omega)]; exact b⟩⟩
  have e4 : (1 ≤ k % 8 ∧ p (k - 1) = true) ↔ (1 ≤ k % 8 ∧ q (k - 1) = true) := by rw [h (k - 1) (by omega)]
  simp only [e1, e2, e3, e4]
theorem bq_shl {x k j : Nat} (hx : x < 64) (hk : k < 64) (hj : j < 64) : bq (bit1 x <<< ((nI k).toInt64 &&& 63)) j = decide (j = x + k) := by
  have wc : ∀ k, k < 64 → (((nI k).toInt64 &&& 63).toBitVec.smod 64).toNat = k := by decide +kernel
  show ((bit1 x).toBitVec <<< (((nI k).toInt64 &&& 63).toBitVec.smod 64).toNat).getLsbD j = _
  rw [wc k hk, BitVec.getLsbD_shiftLeft]
  by_cases h : j < k
  · simp [h]; omega
  · rw [show (bit1 x).toBitVec.getLsbD (j - k) = decide (j - k = x) from bq_bit hx (by omega)]
    simp [hj, h]
    omega
theorem bq_lush {x : Int64} {k j : Nat} (hk : k < 64) (hj : j < 64) : bq (lush x (nI k)) j = if k + j < 64 then bq x (k + j) else false := by
  obtain ⟨n, hn, rfl⟩ := lN_of x
  rw [lush_lN hn hk, bq_lN hj, Nat.testBit_div_two_pow, Nat.add_comm j k]
  by_cases h : k + j < 64
  · rw [if_pos h, bq_lN h]
  · rw [if_neg h]
    exact Nat.testBit_lt_two_pow (Nat.lt_of_lt_of_le hn (Nat.pow_le_pow_right (by decide) (by omega)))
theorem ct_and_one {x : Nat → Bool} {i : Nat} : fb_ct (fun j => x j && decide (j = i)) 64 = if i < 64 ∧ x i = true then 1 else 0 := by
  by_cases h : i < 64
  · rw [fb_ct_one h (fun k _ hki => by simp [hki])]
    simp [h]
  · rw [fb_ct_zero (fun k hk => by have : k ≠ i := by omega
                                   simp [this]), if_neg (fun q => h q.1)]
theorem ct_and_m {x : Nat → Bool} {i d : Nat} (hd : i < 64) : fb_ct (fun j => x j && decide (d + j = i)) 64 = if d ≤ i ∧ x (i - d) = true then 1 else 0 := by
  by_cases h : d ≤ i
  · rw [fb_ct_one (i := i - d) (by omega) (fun k _ hki => by
      have : ¬ d + k = i := by omega
      simp [this])]
    have : d + (i - d) = i := by omega
    simp [h, this]
  · rw [fb_ct_zero (fun k hk => by have : ¬ d + k = i := by omega
                                   simp [this]), if_neg (fun q => h q.1)]
theorem c_beside {s : ST} {x : Int64} {W H k : Nat} (hx : ∀ j, j < 64 → bq x j = true → cl W H j) (hW : W ≤ 7) (hH : H ≤ 7) (hk : k < 64) (hc : cl W H k) : C_X9_beside s x (nI k) = nI (nb W H (bq x) k) := by
  unfold C_X9_beside
  rw [if_neg (nI_pos (by omega)), if_pos (by rw [show (64 : Int32) = nI 64 from rfl, nI_ltI (by omega) (by decide)]; exact hk)]
  simp only [Lt_n, bit1_e]
  rw [c_bitCount, show (1 : Int32) = nI 1 from rfl, show (8 : Int32) = nI 8 from rfl]
  congr 1
  obtain ⟨c1, c2⟩ := hc
  have e : fb_ct (bq (x &&& (((bit1 k <<< ((nI 1).toInt64 &&& 63) ||| lush (bit1 k) (nI 1)) ||| bit1 k <<< ((nI 8).toInt64 &&& 63)) ||| lush (bit1 k) (nI 8)))) 64 = fb_ct (fun j => (((bq x j && decide (j = k + 1)) || (bq x j && decide (1 + j = k))) || (bq x j && decide (j = k + 8))) || (bq x j && decide (8 + j = k))) 64 := by
    apply fb_ct_cong
    intro j hj
    rw [bq_and, bq_or, bq_or, bq_or, bq_shl hk (by decide) hj, bq_shl hk (by decide) hj, bq_lush (by decide) hj, bq_lush (by decide) hj]
    have d1 : (if 1 + j < 64 then bq (bit1 k) (1 + j) else false) = decide (1 + j = k) := by
      by_cases q : 1 + j < 64
      · rw [if_pos q, bq_bit hk q]
      · rw [if_neg q]; simp; omega
    have d8 : (if 8 + j < 64 then bq (bit1 k) (8 + j) else false) = decide (8 + j = k) := by
      by_cases q : 8 + j < 64
      · rw [if_pos q, bq_bit hk q]
      · rw [if_neg q]; simp; omega
    rw [d1, d8]
    cases bq x j <;> simp
  rw [e, fb_ct_or, fb_ct_or, fb_ct_or, ct_and_one, ct_and_m hk, ct_and_one, ct_and_m hk]
  · unfold nb
    have g1 : (k + 1 < 64 ∧ bq x (k + 1) = true) ↔ (k % 8 + 1 < W ∧ bq x (k + 1) = true) := by
      constructor
      · intro ⟨a, b⟩
        have := hx _ a b
        exact ⟨by unfold cl at this; omega, b⟩
      · intro ⟨a, b⟩
        exact ⟨by omega, b⟩
    have g8 : (k + 8 < 64 ∧ bq x (k + 8) = true) ↔ (k / 8 + 1 < H ∧ bq x (k + 8) = true) := by
      constructor
      · intro ⟨a, b⟩
        have := hx _ a b
        exact ⟨by unfold cl at this; omega, b⟩
      · intro ⟨a, b⟩
        exact ⟨by omega, b⟩
    have gm1 : (1 ≤ k ∧ bq x (k - 1) = true) ↔ (1 ≤ k % 8 ∧ bq x (k - 1) = true) := by
      constructor
      · intro ⟨a, b⟩
        have := hx _ (by omega) b
        exact ⟨by unfold cl at this; omega, b⟩
      · intro ⟨a, b⟩
        exact ⟨by omega, b⟩
    have gm8 : (8 ≤ k ∧ bq x (k - 8) = true) ↔ (1 ≤ k / 8 ∧ bq x (k - 8) = true) := by
      constructor
      · intro ⟨a, b⟩
        exact ⟨by omega, b⟩
      · intro ⟨a, b⟩
        exact ⟨by omega, b⟩
    simp only [g1, g8, gm1, gm8]
    omega
  · intro j hj
    simp
    omega
  · intro j hj
    simp
    omega
  · intro j hj
    simp
    omega
theorem i_sub1 {x : Int32} : x - 1 = (-1 : Int32) ↔ x = 0 := by
  constructor
  · intro h
    have h2 : x - 1 + 1 = (-1 : Int32) + 1 := by rw [h]
    rwa [Int32.sub_add_cancel, show (-1 : Int32) + 1 = 0 from by decide] at h2
  · rintro rfl
    decide
theorem lp2_s {C A1 A2 : Type} (F : (A1 → A2 → Option C) → A1 → A2 → Option C) (n : Nat) (a : A1) (b : A2) : lpK2 F (n + 1) a b = F (lpK2 F n) a b := rfl
theorem FU_5 : FU = 5994 + 1 + 1 + 1 + 1 + 1 + 1 := rfl
theorem m_beside_gen {s : ST} {g : Int32 → Option Int32} {W H k : Nat} {p : Nat → Bool} {f : Nat → Nat} (h0 : s.1 0 6 + 5 = nI W) (h1 : s.1 0 7 + 4 = nI H) (hW : W ≤ 7) (hH : H ≤ 7) (hk : k < 64) (hc : cl W H k) (F : (Int32 → Int32 → Option Int32) → Int32 → Int32 → Option Int32)
    (hF : ∀ (rec : Int32 → Int32 → Option Int32) (n w : Nat), w < 4 → F rec (nI n) (nI w) = match nbc W H k w with | none => rec (nI n) (nI (w + 1)) | some j => rec (nI (n + (if p j = true then 1 else 0))) (nI (w + 1)))
    (h4 : ∀ (rec : Int32 → Int32 → Option Int32) (n : Nat), F rec (nI n) (nI 4) = some (nI n)) : lpK2 F FU 0 0 = some (nI (nb W H p k)) := by
  rw [FU_5, show (0 : Int32) = nI 0 from rfl, lp2_s, hF _ 0 0 (by decide)]
  unfold nb
  simp only [nbc]
  by_cases a0 : 1 ≤ k / 8 <;> by_cases a1 : k % 8 + 1 < W <;> by_cases a2 : k / 8 + 1 < H <;> by_cases a3 : 1 ≤ k % 8 <;>
    simp only [a0, a1, a2, a3, if_true, if_false, true_and, false_and, lp2_s, hF _ _ 1 (by decide), hF _ _ 2 (by decide), hF _ _ 3 (by decide), nbc, h4, Nat.zero_add, Nat.add_zero, Nat.reduceAdd]
theorem m_besideOf {s : ST} {W H k : Nat} (h0 : s.1 0 6 + 5 = nI W) (h1 : s.1 0 7 + 4 = nI H) (hW : W ≤ 7) (hH : H ≤ 7) (hk : k < 64) (hc : cl W H k) : M_besideOf s (nI k) = some (nI (nb W H (fun j => !decide (s.1 1 (197 + j) = 0)) k)) := by
  unfold M_besideOf
  refine m_beside_gen (g := some) (f := id) h0 h1 hW hH hk hc _ (fun rec n w hw => ?_) (fun rec n => ?_)
  · rw [if_neg (by rw [show (4 : Int32) = nI 4 from rfl, nI_leI (by decide) (by omega)]; omega)]
    simp only [Lt_n, nI_1]
    rw [m_cellBy h0 h1 hW hH hk hc hw]
    cases hn : nbc W H k w with
    | none => simp only [nbI, if_true]
    | some j =>
      obtain ⟨hj, hjc⟩ := nbc_cl hc hW hH hk hn
      rw [show nbI (some j) = nI j from rfl]
      have hne : ¬ nI j = (-1 : Int32) := by
        intro h
        have h2 := nI_pos (n := j) (by omega)
        rw [h] at h2
        exact h2 (by decide)
      rw [if_neg hne, m_stormOf hj, Bd_some]
      by_cases q : s.1 1 (197 + j) = 0
      · rw [if_pos (i_sub1.mpr q)]
        simp [q]
      · rw [if_neg (fun h => q (i_sub1.mp h))]
        simp [q]
  · rw [if_pos (by decide)]
theorem m_hedgesOf {s : ST} {W H k : Nat} {p : Nat → Bool} (h0 : s.1 0 6 + 5 = nI W) (h1 : s.1 0 7 + 4 = nI H) (hW : W ≤ 7) (hH : H ≤ 7) (hk : k < 64) (hc : cl W H k) (hp : ∀ j, j < 64 → s.1 4 j = if p j = true then 1 else 0) : M_hedgesOf s (nI k) = some (nI (nb W H p k)) := by
  unfold M_hedgesOf
  refine m_beside_gen (g := some) (f := id) h0 h1 hW hH hk hc _ (fun rec n w hw => ?_) (fun rec n => ?_)
  · rw [if_neg (by rw [show (4 : Int32) = nI 4 from rfl, nI_leI (by decide) (by omega)]; omega)]
    simp only [Lt_n, nI_1]
    rw [m_cellBy h0 h1 hW hH hk hc hw]
    cases hn : nbc W H k w with
    | none => simp only [nbI, if_true]
    | some j =>
      obtain ⟨hj, hjc⟩ := nbc_cl hc hW hH hk hn
      rw [show nbI (some j) = nI j from rfl]
      have hne : ¬ nI j = (-1 : Int32) := by
        intro h
        have h2 := nI_pos (n := j) (by omega)
        rw [h] at h2
        exact h2 (by decide)
      rw [if_neg hne, Gl_n hj (by decide), hp j hj]
      by_cases q : p j = true
      · rw [if_pos q]
        simp [q, nI_1]
      · rw [if_neg q]
        simp [q]
  · rw [if_pos (by decide)]
