/-! # stage 2: numbers, bits, counts -/
theorem fa_lt (a b : Int32) : a < b ↔ a.toInt < b.toInt := Int32.lt_iff_toInt_lt
theorem fa_le (a b : Int32) : a ≤ b ↔ a.toInt ≤ b.toInt := Int32.le_iff_toInt_le
theorem fa_eq (a b : Int32) : a = b ↔ a.toInt = b.toInt := Int32.toInt_inj.symm
theorem nI_sub {a b : Nat} (h : b ≤ a) : nI a - nI b = nI (a - b) := (Int32.ofNat_sub a b h).symm
theorem nI_mul (a b : Nat) : nI a * nI b = nI (a * b) := (Int32.ofNat_mul a b).symm
theorem nI_min {a : Nat} (ha : a < 2 ^ 31) : nI a ≠ Int32.minValue := by
  intro h
  have h1 := congrArg Int32.toInt h
  rw [nI_toInt ha] at h1
  have h2 : (Int32.minValue).toInt = -2147483648 := by decide
  rw [h2] at h1
  omega
theorem nI_div {a b : Nat} (ha : a < 2 ^ 31) (hb : b < 2 ^ 31) : nI a / nI b = nI (a / b) := by
  apply Int32.toInt_inj.mp
  have h1 : a / b ≤ a := Nat.div_le_self a b
  rw [Int32.toInt_div_of_ne_left _ _ (nI_min ha), nI_toInt ha, nI_toInt hb, nI_toInt (by omega)]
  exact (Int.ofNat_tdiv a b).symm
theorem irm_nI {a m : Nat} (ha : a < 2 ^ 31) (hm : m < 2 ^ 31) : irm (nI a) (nI m) = nI (a % m) := by
  unfold irm
  rw [nI_div ha hm, nI_mul, nI_sub (Nat.div_mul_le_self a m)]
  congr 1
  have := Nat.div_add_mod a m
  rw [Nat.mul_comm] at this
  omega
theorem nI_ofn (x : Int32) (h : 0 ≤ x.toInt) : x = nI x.toInt.toNat := by
  obtain ⟨j, hj, rfl⟩ := nI_of (x := x) (by rw [fa_lt]; simpa using h)
  rw [nI_toInt hj]
  rfl
theorem inb_nI {k n : Nat} (hk : k < n) (hn : n < 2 ^ 31) : inb (nI k) n = true := by
  unfold inb
  rw [nI_toInt (by omega)]
  simp
  omega
theorem Gl_n {B : Type} {s : ST} {a n k : Nat} {f : Int32 → Option B} (hk : k < n) (hn : n < 2 ^ 31) : Gl s a n (nI k) f = f (s.1 a k) := by
  unfold Gl
  rw [if_pos (inb_nI hk hn), nI_clamp (by omega)]
theorem Gs_n {B : Type} {s : ST} {a n k : Nat} {x : Int32} {f : ST → Option B} (hk : k < n) (hn : n < 2 ^ 31) : Gs s a n (nI k) x f = f (ups s a k x) := by
  unfold Gs
  rw [if_pos (inb_nI hk hn), nI_clamp (by omega)]
theorem Ga_n {B : Type} {k : Nat} {f : Nat → Option B} (hk : k < 6) : Ga (nI k) f = f (83 + 7 * k) := by
  unfold Ga
  rw [if_pos (inb_nI hk (by decide)), nI_clamp (by omega)]
theorem Bd_some {A B : Type} {v : A} {f : A → Option B} : Bd (some v) f = f v := (rfl)
theorem Gz_n {B : Type} {y : Int32} {f : Option B} (h : ¬ y = 0) : Gz y f = f := if_neg h
theorem I0 : (0 : Int32) = nI 0 := rfl
theorem ups_at (s : ST) (a i c j : Nat) (x : Int32) : (ups s a i x).1 c j = if c = a then (if j = i then x else s.1 a j) else s.1 c j := by
  by_cases h : c = a
  · subst h
    rw [if_pos rfl, ups_eq]
    rfl
  · rw [if_neg h, ups_ne h]
theorem ups_2 (s : ST) (a i : Nat) (x : Int32) : (ups s a i x).2 = s.2 := (rfl)
theorem upl_1 (s : ST) (a i : Nat) (x : Int64) : (upl s a i x).1 = s.1 := (rfl)
theorem upl_at (s : ST) (a i c j : Nat) (x : Int64) : (upl s a i x).2 c j = if c = a then (if j = i then x else s.2 a j) else s.2 c j := by
  by_cases h : c = a
  · subst h
    rw [if_pos rfl, upl_eq]
    rfl
  · rw [if_neg h, upl_ne h]
theorem upr_at (s : ST) (a c : Nat) (f : Nat → Int32) : (upr s a f).1 c = if c = a then f else s.1 c := (rfl)
theorem upr_2 (s : ST) (a : Nat) (f : Nat → Int32) : (upr s a f).2 = s.2 := (rfl)
/-! bits of a long -/
abbrev bq (x : Int64) (k : Nat) : Bool := x.toBitVec.getLsbD k
theorem bq_or (x y : Int64) (k : Nat) : bq (x ||| y) k = (bq x k || bq y k) := by
  show (x ||| y).toBitVec.getLsbD k = _
  rw [Int64.toBitVec_or, BitVec.getLsbD_or]
theorem bq_and (x y : Int64) (k : Nat) : bq (x &&& y) k = (bq x k && bq y k) := by
  show (x &&& y).toBitVec.getLsbD k = _
  rw [Int64.toBitVec_and, BitVec.getLsbD_and]
theorem bq_xor (x y : Int64) (k : Nat) : bq (x ^^^ y) k = (bq x k ^^ bq y k) := by
  show (x ^^^ y).toBitVec.getLsbD k = _
  rw [Int64.toBitVec_xor, BitVec.getLsbD_xor]
theorem bq_0 (k : Nat) : bq 0 k = false := BitVec.getLsbD_zero
theorem bq_m1 {k : Nat} (h : k < 64) : bq (-1) k = true := by
  have : ∀ k, k < 64 → bq (-1) k = true := by decide +kernel
  exact this k h
theorem bq_ext {x y : Int64} (h : ∀ k, k < 64 → bq x k = bq y k) : x = y := Int64.toBitVec_inj.mp (BitVec.eq_of_getLsbD_eq fun i hi => h i hi)
def bit1 (k : Nat) : Int64 := (1 : Int64) <<< ((nI k).toInt64 &&& 63)
theorem bit1_e (k : Nat) : (1 : Int64) <<< ((nI k).toInt64 &&& 63) = bit1 k := rfl
theorem bq_bit {k j : Nat} (hk : k < 64) (hj : j < 64) : bq (bit1 k) j = decide (j = k) := by
  have : ∀ k, k < 64 → ∀ j, j < 64 → bq (bit1 k) j = decide (j = k) := by decide +kernel
  exact this k hk j hj
theorem bq_set {x : Int64} {k j : Nat} (hk : k < 64) (hj : j < 64) : bq (x ||| bit1 k) j = (bq x j || decide (j = k)) := by rw [bq_or, bq_bit hk hj]
theorem bq_clr {x : Int64} {k j : Nat} (hk : k < 64) (hj : j < 64) : bq (x &&& (bit1 k ^^^ (-1 : Int64))) j = (bq x j && !decide (j = k)) := by
  rw [bq_and, bq_xor, bq_bit hk hj, bq_m1 hj]
  simp
theorem cmp0 (x : Int64) : lg_cmp x (0 : Int64) = 0 ↔ x = 0 := by
  unfold lg_cmp
  by_cases h : x > 0
  · rw [if_pos h]
    constructor
    · intro h1; exact absurd h1 (by decide)
    · intro h1; subst h1; exact absurd h (by decide)
  · rw [if_neg h]
    by_cases h2 : x = 0
    · rw [if_pos h2]; simp [h2]
    · rw [if_neg h2]
      constructor
      · intro h1; exact absurd h1 (by decide)
      · intro h1; exact absurd h1 h2
/-! how many: from the kit's COUNTS -/
def fb_ct (p : Nat → Bool) : Nat → Nat
  | 0 => 0
  | n + 1 => fb_ct p n + (if p n then 1 else 0)
theorem fb_ct_succ (p : Nat → Bool) (n : Nat) : fb_ct p (n + 1) = fb_ct p n + (if p n then 1 else 0) := rfl
theorem fb_ct_le (p : Nat → Bool) : ∀ n, fb_ct p n ≤ n
  | 0 => Nat.le_refl _
  | n + 1 => by
    have h := fb_ct_le p n
    rw [fb_ct_succ]
    split <;> omega
theorem fb_ct_cong {p q : Nat → Bool} : ∀ {n : Nat}, (∀ k, k < n → p k = q k) → fb_ct p n = fb_ct q n
  | 0, _ => rfl
  | n + 1, h => by
    rw [fb_ct_succ, fb_ct_succ, fb_ct_cong (fun k hk => h k (by omega)), h n (by omega)]
theorem fb_ct_split (p : Nat → Bool) (m : Nat) : ∀ n, fb_ct p (m + n) = fb_ct p m + fb_ct (fun k => p (m + k)) n
  | 0 => rfl
  | n + 1 => by
    show fb_ct p (m + n + 1) = _
    rw [fb_ct_succ, fb_ct_succ, fb_ct_split p m n]
    omega
theorem fb_ct_or {p q : Nat → Bool} : ∀ {n : Nat}, (∀ k, k < n → ¬ (p k = true ∧ q k = true)) → fb_ct (fun k => p k || q k) n = fb_ct p n + fb_ct q n
  | 0, _ => rfl
  | n + 1, h => by
    have h1 := fb_ct_or (n := n) (p := p) (q := q) (fun k hk => h k (by omega))
    have h2 := h n (by omega)
    rw [fb_ct_succ, fb_ct_succ, fb_ct_succ, h1]
    cases hp : p n <;> cases hq : q n <;> simp_all <;> omega
theorem fb_ct_zero {p : Nat → Bool} {n : Nat} (h : ∀ k, k < n → p k = false) : fb_ct p n = 0 := by
  induction n with
  | zero => rfl
  | succ n ih => rw [fb_ct_succ, ih (fun k hk => h k (by omega)), h n (by omega)]; rfl
theorem fb_ct_one {p : Nat → Bool} {i n : Nat} (hi : i < n) (h : ∀ k, k < n → k ≠ i → p k = false) : fb_ct p n = if p i then 1 else 0 := by
  induction n with
  | zero => omega
  | succ n ih =>
    rw [fb_ct_succ]
    by_cases e : i = n
    · subst e
      rw [fb_ct_zero (fun k hk => h k (by omega) (by omega))]
      omega
    · rw [ih (by omega) (fun k hk hki => h k (by omega) hki), h n (by omega) (by omega)]
      simp
/-! a long's bytes -/
theorem and256 (a M b c : Nat) (hb : b < 256) (hc : c < 256) : (256 * a + b) &&& (256 * M + c) = 256 * (a &&& M) + (b &&& c) := by
  have hb : b < 2 ^ 8 := hb
  have hc : c < 2 ^ 8 := hc
  have hbc : (b &&& c) < 2 ^ 8 := Nat.and_lt_two_pow b hc
  apply Nat.eq_of_testBit_eq
  intro j
  rw [Nat.testBit_and, show (256 : Nat) = 2 ^ 8 from rfl, Nat.testBit_two_pow_mul_add a hb, Nat.testBit_two_pow_mul_add M hc, Nat.testBit_two_pow_mul_add _ hbc]
  split
  · rw [Nat.testBit_and]
  · rw [Nat.testBit_and]
def rep (c : Nat) : Nat → Nat
  | 0 => 0
  | m + 1 => 256 * rep c m + c
def sw1 (m n : Nat) : Nat := n - ((n / 2) &&& rep 85 m)
def sw2 (m y : Nat) : Nat := (y &&& rep 51 m) + ((y / 4) &&& rep 51 m)
def sw3 (m y : Nat) : Nat := (y + y / 16) &&& rep 15 m
def by1 (b : Nat) : Nat := b - ((b / 2) &&& 85)
def by2 (b : Nat) : Nat := (b &&& 51) + ((b / 4) &&& 51)
def by3 (b : Nat) : Nat := (b + b / 16) &&& 15
theorem by1_lt : ∀ b, b < 256 → by1 b < 256 := by decide +kernel
theorem by2_lt : ∀ b, b < 256 → by2 (by1 b) < 256 ∧ by2 (by1 b) % 16 ≤ 4 ∧ by2 (by1 b) + by2 (by1 b) / 16 ≤ 100 := by decide +kernel
theorem by3_ct : ∀ b, b < 256 → by3 (by2 (by1 b)) = fb_ct (fun k => b.testBit k) 8 := by decide +kernel
theorem by_a : ∀ r, r < 2 → ∀ b, b < 256 → (128 * r + b / 2) &&& 85 = (b / 2) &&& 85 := by decide +kernel
theorem by_b : ∀ r, r < 4 → ∀ b, b < 256 → (64 * r + b / 4) &&& 51 = (b / 4) &&& 51 := by decide +kernel
theorem sw1_s (m a b : Nat) (hb : b < 256) : sw1 (m + 1) (256 * a + b) = 256 * sw1 m a + by1 b := by
  unfold sw1 by1
  have e : (256 * a + b) / 2 = 256 * (a / 2) + (128 * (a % 2) + b / 2) := by omega
  show _ - (_ &&& (256 * rep 85 m + 85)) = _
  rw [e, and256 _ _ _ _ (by omega) (by omega), by_a _ (by omega) b hb]
  have h1 : (a / 2) &&& rep 85 m ≤ a / 2 := Nat.and_le_left
  have h2 : (b / 2) &&& 85 ≤ b / 2 := Nat.and_le_left
  omega
theorem sw2_s (m a b : Nat) (hb : b < 256) : sw2 (m + 1) (256 * a + b) = 256 * sw2 m a + by2 b := by
  unfold sw2 by2
  have e : (256 * a + b) / 4 = 256 * (a / 4) + (64 * (a % 4) + b / 4) := by omega
  show (_ &&& (256 * rep 51 m + 51)) + (_ &&& (256 * rep 51 m + 51)) = _
  rw [e, and256 _ _ _ _ (by omega) (by omega), and256 _ _ _ _ (by omega) (by omega), by_b _ (by omega) b hb]
  omega
theorem sw2_16 (m a : Nat) : sw2 m (sw1 m a) % 16 ≤ 4 := by
  cases m with
  | zero => simp [sw2, rep]
  | succ m =>
    obtain ⟨q, b, hb, rfl⟩ : ∃ q b, b < 256 ∧ a = 256 * q + b := ⟨a / 256, a % 256, by omega, by omega⟩
    rw [sw1_s m q b hb, sw2_s _ _ _ (by1_lt b hb)]
    have := (by2_lt b hb).2.1
    omega
def sw (m n : Nat) : Nat := sw3 m (sw2 m (sw1 m n))
theorem sw_s (m a b : Nat) (hb : b < 256) : sw (m + 1) (256 * a + b) = 256 * sw m a + by3 (by2 (by1 b)) := by
  unfold sw
  rw [sw1_s m a b hb, sw2_s _ _ _ (by1_lt b hb)]
  have h1 := sw2_16 m a
  obtain ⟨h2, h3, h4⟩ := by2_lt b hb
  generalize sw2 m (sw1 m a) = A at h1 ⊢
  generalize by2 (by1 b) = B at h2 h3 h4 ⊢
  unfold sw3 by3
  have e : 256 * A + B + (256 * A + B) / 16 = 256 * (A + A / 16) + (16 * (A % 16) + B + B / 16) := by omega
  show _ &&& (256 * rep 15 m + 15) = _
  rw [e, and256 _ _ _ _ (by omega) (by omega)]
  have e2 : ∀ x, x &&& 15 = x % 16 := fun x => Nat.and_two_pow_sub_one_eq_mod x 4
  rw [e2, e2]
  omega
theorem ct_s (m a b : Nat) (hb : b < 256) : fb_ct (fun k => (256 * a + b).testBit k) (8 + m) = by3 (by2 (by1 b)) + fb_ct (fun k => a.testBit k) m := by
  rw [fb_ct_split, by3_ct b hb]
  have hb : b < 2 ^ 8 := hb
  congr 1
  · apply fb_ct_cong
    intro k hk
    rw [show (256 : Nat) = 2 ^ 8 from rfl, Nat.testBit_two_pow_mul_add a hb, if_pos hk]
  · apply fb_ct_cong
    intro k hk
    rw [show (256 : Nat) = 2 ^ 8 from rfl, Nat.testBit_two_pow_mul_add a hb, if_neg (by omega)]
    congr 1
    omega
theorem by3_le (b : Nat) (hb : b < 256) : by3 (by2 (by1 b)) ≤ 8 := by
  rw [by3_ct b hb]
  exact fb_ct_le _ 8
theorem sw_all (n : Nat) (hn : n < 2 ^ 64) : ∃ p0 p1 p2 p3 p4 p5 p6 p7, p0 ≤ 8 ∧ p1 ≤ 8 ∧ p2 ≤ 8 ∧ p3 ≤ 8 ∧ p4 ≤ 8 ∧ p5 ≤ 8 ∧ p6 ≤ 8 ∧ p7 ≤ 8 ∧ sw 8 n = p0 + 256 * (p1 + 256 * (p2 + 256 * (p3 + 256 * (p4 + 256 * (p5 + 256 * (p6 + 256 * p7)))))) ∧ fb_ct (fun k => n.testBit k) 64 = p0 + p1 + p2 + p3 + p4 + p5 + p6 + p7 := by
  have d : ∀ n, n = 256 * (n / 256) + n % 256 := fun n => by omega
  have r : ∀ n, n % 256 < 256 := fun n => by omega
  have l : ∀ n, by3 (by2 (by1 (n % 256))) ≤ 8 := fun n => by3_le _ (r n)
  have s : ∀ m n, sw (m + 1) n = 256 * sw m (n / 256) + by3 (by2 (by1 (n % 256))) := fun m n => by
    have := sw_s m (n / 256) (n % 256) (r n)
    rwa [← d n] at this
  have c : ∀ m n, fb_ct (fun k => n.testBit k) (8 + m) = by3 (by2 (by1 (n % 256))) + fb_ct (fun k => (n / 256).testBit k) m := fun m n => by
    have := ct_s m (n / 256) (n % 256) (r n)
    rwa [← d n] at this
  refine ⟨_, _, _, _, _, _, _, _, l n, l (n / 256), l (n / 256 / 256), l (n / 256 / 256 / 256), l (n / 256 / 256 / 256 / 256), l (n / 256 / 256 / 256 / 256 / 256), l (n / 256 / 256 / 256 / 256 / 256 / 256), l (n / 256 / 256 / 256 / 256 / 256 / 256 / 256), ?_, ?_⟩
  · rw [s, s, s, s, s, s, s, s]
    have z : ∀ n, sw 0 n = 0 := fun n => by simp [sw, sw3, rep]
    rw [z]
    omega
  · have e1 : fb_ct (fun k => n.testBit k) 64 = _ := c 56 n
    have e2 : fb_ct (fun k => (n / 256).testBit k) 56 = _ := c 48 _
    have e3 : fb_ct (fun k => (n / 256 / 256).testBit k) 48 = _ := c 40 _
    have e4 : fb_ct (fun k => (n / 256 / 256 / 256).testBit k) 40 = _ := c 32 _
    have e5 : fb_ct (fun k => (n / 256 / 256 / 256 / 256).testBit k) 32 = _ := c 24 _
    have e6 : fb_ct (fun k => (n / 256 / 256 / 256 / 256 / 256).testBit k) 24 = _ := c 16 _
    have e7 : fb_ct (fun k => (n / 256 / 256 / 256 / 256 / 256 / 256).testBit k) 16 = _ := c 8 _
    have e8 : fb_ct (fun k => (n / 256 / 256 / 256 / 256 / 256 / 256 / 256).testBit k) 8 = _ := c 0 _
    rw [e1, e2, e3, e4, e5, e6, e7, e8]
    simp only [fb_ct, Nat.add_zero, Nat.add_assoc]
theorem lN_tb (n : Nat) : (lN n).toBitVec = BitVec.ofNat 64 n := rfl
theorem lN_of (x : Int64) : ∃ n, n < 2 ^ 64 ∧ x = lN n := ⟨x.toBitVec.toNat, x.toBitVec.isLt, Int64.toBitVec_inj.mp (by rw [lN_tb]; simp)⟩
theorem bq_lN {n k : Nat} (hk : k < 64) : bq (lN n) k = n.testBit k := by
  show (BitVec.ofNat 64 n).getLsbD k = _
  rw [BitVec.getLsbD_ofNat]
  simp [hk]
theorem lN_and {a b : Nat} (ha : a < 2 ^ 64) (hb : b < 2 ^ 64) : lN a &&& lN b = lN (a &&& b) := by
  apply Int64.toBitVec_inj.mp
  rw [Int64.toBitVec_and, lN_tb, lN_tb, lN_tb]
  apply BitVec.eq_of_toNat_eq
  rw [BitVec.toNat_and, BitVec.toNat_ofNat, BitVec.toNat_ofNat, BitVec.toNat_ofNat, Nat.mod_eq_of_lt ha, Nat.mod_eq_of_lt hb, Nat.mod_eq_of_lt (Nat.and_lt_two_pow _ hb)]
theorem lush_lN {n k : Nat} (hn : n < 2 ^ 64) (hk : k < 64) : lush (lN n) (nI k) = lN (n / 2 ^ k) := by
  have wc : ∀ k, k < 64 → ((nI k).toInt64.toUInt64 &&& Int64.toUInt64 63) = UInt64.ofNat k := by decide +kernel
  unfold lush
  rw [wc k hk]
  apply Int64.toBitVec_inj.mp
  apply BitVec.eq_of_toNat_eq
  show ((lN n).toUInt64 >>> UInt64.ofNat k).toNat = (BitVec.ofNat 64 _).toNat
  have h1 : (UInt64.ofNat k).toNat = k := by
    show (BitVec.ofNat 64 k).toNat = k
    rw [BitVec.toNat_ofNat, Nat.mod_eq_of_lt (by omega)]
  have h2 : (lN n).toUInt64.toNat = n := by
    show (lN n).toBitVec.toNat = n
    rw [lN_tb, BitVec.toNat_ofNat, Nat.mod_eq_of_lt hn]
  rw [UInt64.toNat_shiftRight, h1, h2, Nat.mod_eq_of_lt hk, Nat.shiftRight_eq_div_pow, BitVec.toNat_ofNat, Nat.mod_eq_of_lt (Nat.lt_of_le_of_lt (Nat.div_le_self _ _) hn)]
theorem lush_bit {x : Int64} {k : Nat} (hk : k < 64) : (lush x (nI k)) &&& (1 : Int64) = if bq x k then 1 else 0 := by
  obtain ⟨n, hn, rfl⟩ := lN_of x
  have h1 : n / 2 ^ k < 2 ^ 64 := Nat.lt_of_le_of_lt (Nat.div_le_self _ _) hn
  rw [lush_lN hn hk, show (1 : Int64) = lN 1 from rfl, lN_and h1 (by decide), bq_lN hk, Nat.testBit_eq_decide_div_mod_eq]
  have h2 : n / 2 ^ k &&& 1 = n / 2 ^ k % 2 := Nat.and_two_pow_sub_one_eq_mod _ 1
  rw [h2]
  rcases (by omega : n / 2 ^ k % 2 = 0 ∨ n / 2 ^ k % 2 = 1) with h | h
  · rw [h]; rfl
  · rw [h]; rfl
theorem c_isIn {s : ST} {x : Int64} {k : Nat} (hk : k < 64) : C_X9_isIn s x (nI k) = if bq x k then 1 else 0 := by
  unfold C_X9_isIn
  rw [if_neg (nI_pos (by omega)), if_neg (by rw [show (64 : Int32) = nI 64 from rfl, nI_leI (by decide) (by omega)]; omega), lush_bit hk]
  by_cases hb : bq x k = true
  · rw [if_pos hb, if_pos hb, if_neg (by decide)]
  · rw [if_neg hb, if_neg hb, if_pos (by decide)]
theorem dig {p0 p1 p2 p3 p4 p5 p6 p7 y : Nat} (h0 : p0 ≤ 8) (h1 : p1 ≤ 8) (h2 : p2 ≤ 8) (h3 : p3 ≤ 8) (h4 : p4 ≤ 8) (h5 : p5 ≤ 8) (h6 : p6 ≤ 8) (h7 : p7 ≤ 8) (hy : p0 + 256 * (p1 + 256 * (p2 + 256 * (p3 + 256 * (p4 + 256 * (p5 + 256 * (p6 + 256 * p7)))))) = y) : ((y + y / 2 ^ 8 + (y + y / 2 ^ 8) / 2 ^ 16) + (y + y / 2 ^ 8 + (y + y / 2 ^ 8) / 2 ^ 16) / 2 ^ 32) % 128 = p0 + p1 + p2 + p3 + p4 + p5 + p6 + p7 := by
  obtain ⟨q6, e6⟩ : ∃ q, q = p6 + 256 * p7 := ⟨_, rfl⟩
  obtain ⟨q5, e5⟩ : ∃ q, q = p5 + 256 * q6 := ⟨_, rfl⟩
  obtain ⟨q4, e4⟩ : ∃ q, q = p4 + 256 * q5 := ⟨_, rfl⟩
  obtain ⟨q3, e3⟩ : ∃ q, q = p3 + 256 * q4 := ⟨_, rfl⟩
  obtain ⟨q2, e2⟩ : ∃ q, q = p2 + 256 * q3 := ⟨_, rfl⟩
  obtain ⟨q1, e1⟩ : ∃ q, q = p1 + 256 * q2 := ⟨_, rfl⟩
  have ey : y = p0 + 256 * q1 := by rw [e1, e2, e3, e4, e5, e6]; exact hy.symm
  clear hy
  have d1 : y / 2 ^ 8 = q1 := by
    clear e1 e2 e3 e4 e5 e6
    omega
  rw [d1]
  have d2 : (y + q1) / 2 ^ 16 = q2 + q3 := by
    clear d1 e3 e4 e5 e6
    have e3 : q2 = p2 + 256 * q3 := by assumption
    omega
  rw [d2]
  have d3 : (y + q1 + (q2 + q3)) / 2 ^ 32 = q4 + q5 + q6 + p7 := by
    clear d1 d2
    omega
  rw [d3]
  clear d1 d2 d3
  omega
theorem c_bitCount (s : ST) (x : Int64) : C_J13_bitCount_95d88 s x = nI (fb_ct (bq x) 64) := by
  obtain ⟨n, hn, rfl⟩ := lN_of x
  have hct : fb_ct (bq (lN n)) 64 = fb_ct (fun k => n.testBit k) 64 := fb_ct_cong fun k hk => bq_lN hk
  obtain ⟨p0, p1, p2, p3, p4, p5, p6, p7, h0, h1, h2, h3, h4, h5, h6, h7, hs, hc⟩ := sw_all n hn
  rw [hct, hc]
  have r1 : (6148914691236517205 : Int64) = lN (rep 85 8) := by decide +kernel
  have r2 : (3689348814741910323 : Int64) = lN (rep 51 8) := by decide +kernel
  have r3 : (1085102592571150095 : Int64) = lN (rep 15 8) := by decide +kernel
  have l1 : rep 85 8 < 2 ^ 64 := by decide +kernel
  have l2 : rep 51 8 < 2 ^ 63 := by decide +kernel
  have l3 : rep 15 8 < 2 ^ 64 := by decide +kernel
  have L : ∀ {a k : Nat}, a < 2 ^ 64 → a / 2 ^ k < 2 ^ 64 := fun h => Nat.lt_of_le_of_lt (Nat.div_le_self _ _) h
  unfold C_J13_bitCount_95d88
  simp only [Lt]
  rw [r1, r2, r3, show (1 : Int32) = nI 1 from rfl, show (2 : Int32) = nI 2 from rfl, show (4 : Int32) = nI 4 from rfl, show (8 : Int32) = nI 8 from rfl, show (16 : Int32) = nI 16 from rfl, show (32 : Int32) = nI 32 from rfl]
  have a1 : lN n - (lush (lN n) (nI 1) &&& lN (rep 85 8)) = lN (sw1 8 n) := by
    rw [lush_lN hn (by decide), lN_and (L hn) l1, lN_sub (Nat.le_trans Nat.and_le_left (Nat.div_le_self _ _))]
    rfl
  have b1 : sw1 8 n < 2 ^ 64 := by unfold sw1; omega
  have a2 : (lN (sw1 8 n) &&& lN (rep 51 8)) + (lush (lN (sw1 8 n)) (nI 2) &&& lN (rep 51 8)) = lN (sw2 8 (sw1 8 n)) := by
    rw [lush_lN b1 (by decide), lN_and b1 (by omega), lN_and (L b1) (by omega), lN_add]
    rfl
  have b2 : sw2 8 (sw1 8 n) < 2 ^ 63 := by
    have q1 : (sw1 8 n &&& rep 51 8) ≤ rep 51 8 := Nat.and_le_right
    have q2 : (sw1 8 n / 4 &&& rep 51 8) ≤ rep 51 8 := Nat.and_le_right
    have q3 : rep 51 8 < 2 ^ 62 := by decide +kernel
    unfold sw2
    omega
  have a3 : (lN (sw2 8 (sw1 8 n)) + lush (lN (sw2 8 (sw1 8 n))) (nI 4)) &&& lN (rep 15 8) = lN (sw 8 n) := by
    rw [lush_lN (by omega) (by decide), lN_add, lN_and (by omega) l3]
    rfl
  rw [a1, a2, a3, hs]
  generalize hy : p0 + 256 * (p1 + 256 * (p2 + 256 * (p3 + 256 * (p4 + 256 * (p5 + 256 * (p6 + 256 * p7)))))) = y
  have hyl : y < 2 ^ 60 := by omega
  rw [lush_lN (by omega) (by decide), lN_add, lush_lN (by omega) (by decide), lN_add, lush_lN (by omega) (by decide), lN_add, lN_i]
  have e : ((y + y / 2 ^ 8 + (y + y / 2 ^ 8) / 2 ^ 16) + (y + y / 2 ^ 8 + (y + y / 2 ^ 8) / 2 ^ 16) / 2 ^ 32) % 128 = p0 + p1 + p2 + p3 + p4 + p5 + p6 + p7 := dig h0 h1 h2 h3 h4 h5 h6 h7 hy
  rw [← e]
  generalize (y + y / 2 ^ 8 + (y + y / 2 ^ 8) / 2 ^ 16) + (y + y / 2 ^ 8 + (y + y / 2 ^ 8) / 2 ^ 16) / 2 ^ 32 = t
  apply Int32.toBitVec_inj.mp
  apply BitVec.eq_of_toNat_eq
  rw [Int32.toBitVec_and]
  show (BitVec.ofNat 32 t &&& BitVec.ofNat 32 127).toNat = (BitVec.ofNat 32 (t % 128)).toNat
  rw [BitVec.toNat_and, BitVec.toNat_ofNat, BitVec.toNat_ofNat, BitVec.toNat_ofNat, show (127 % 2 ^ 32 : Nat) = 2 ^ 7 - 1 from rfl, Nat.and_two_pow_sub_one_eq_mod]
  omega
