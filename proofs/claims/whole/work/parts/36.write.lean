/-! # stage 2: what a write does to the land -/
theorem LD_sdchg {W H nk b : Nat} {sc sm sc' sm' : ST} (L : LD W H nk b sc sm) (hf : sc'.1 b = sc.1 b) (hl : ∀ i, i ≠ 8 → sc'.2 b i = sc.2 b i) (h1 : sc'.1 (b + 1) = sc.1 (b + 1)) (h4 : sc'.1 (b + 4) = sc.1 (b + 4)) (h5 : sc'.1 (b + 5) = sc.1 (b + 5)) (h6 : sc'.1 (b + 6) = sc.1 (b + 6)) (m0 : sm'.1 0 = sm.1 0) (m4 : sm'.1 4 = sm.1 4) (m1 : ∀ i, i ≠ 2 → i < 69 ∨ 197 ≤ i → sm'.1 1 i = sm.1 1 i)
    (hsd : ∀ k, k < 64 → bq (sc'.2 b 8) k = true → cl W H k ∧ ∃ n, n < nk ∧ sc'.1 (b + 2) k = nI n ∧ sm'.1 1 (69 + k) = nI (n + 1) ∧ sc'.1 (b + 3) k = sm'.1 1 (133 + k)) (hsd0 : ∀ k, k < 64 → bq (sc'.2 b 8) k = false → sm'.1 1 (69 + k) = 0) : LD W H nk b sc' sm' := by
  have l7 := hl 7 (by decide)
  have l9 := hl 9 (by decide)
  refine ⟨by rw [hf]; exact L.w, by rw [m0]; exact L.w', by rw [hf]; exact L.h, by rw [m0]; exact L.h', L.W2, L.W7, L.H2, L.H7, L.n8, by rw [hf, m1 0 (by decide) (by omega)]; exact L.day, by rw [hf, m1 3 (by decide) (by omega)]; exact L.wind, by rw [hf, m0]; exact L.birds, by rw [hf, m1 4 (by decide) (by omega)]; exact L.harm, by rw [hf, m1 1 (by decide) (by omega)]; exact L.draws, fun k hk hc => ?_, fun k hk => ?_, fun k hk => ?_, hsd, hsd0, fun k hk => ?_, fun k hk => ?_⟩
  · rw [h1, m1 (5 + k) (by omega) (by omega)]; exact L.wet k hk hc
  · rw [m4, l7]; exact L.hed k hk
  · rw [l7]; exact L.hcl k hk
  · rw [l9, h4, h5, h6, m1 (197 + k) (by omega) (by omega), m1 (261 + k) (by omega) (by omega), m1 (325 + k) (by omega) (by omega)]; exact L.st k hk
  · rw [l9, m1 (197 + k) (by omega) (by omega)]; exact L.st0 k hk
theorem LD_stchg {W H nk b : Nat} {sc sm sc' sm' : ST} (L : LD W H nk b sc sm) (hf : sc'.1 b = sc.1 b) (hl : ∀ i, i ≠ 9 → sc'.2 b i = sc.2 b i) (h1 : sc'.1 (b + 1) = sc.1 (b + 1)) (h2 : sc'.1 (b + 2) = sc.1 (b + 2)) (h3 : sc'.1 (b + 3) = sc.1 (b + 3)) (m0 : sm'.1 0 = sm.1 0) (m4 : sm'.1 4 = sm.1 4) (m1 : ∀ i, i ≠ 2 → i < 197 → sm'.1 1 i = sm.1 1 i)
    (hst : ∀ k, k < 64 → bq (sc'.2 b 9) k = true → cl W H k ∧ ∃ n g, n < nk ∧ 1 ≤ g ∧ g ≤ 9 ∧ sc'.1 (b + 4) k = nI n ∧ sm'.1 1 (197 + k) = nI (n + 1) ∧ sc'.1 (b + 5) k = nI g ∧ sm'.1 1 (261 + k) = nI g ∧ sc'.1 (b + 6) k = sm'.1 1 (325 + k)) (hst0 : ∀ k, k < 64 → bq (sc'.2 b 9) k = false → sm'.1 1 (197 + k) = 0) : LD W H nk b sc' sm' := by
  have l7 := hl 7 (by decide)
  have l8 := hl 8 (by decide)
  refine ⟨by rw [hf]; exact L.w, by rw [m0]; exact L.w', by rw [hf]; exact L.h, by rw [m0]; exact L.h', L.W2, L.W7, L.H2, L.H7, L.n8, by rw [hf, m1 0 (by decide) (by omega)]; exact L.day, by rw [hf, m1 3 (by decide) (by omega)]; exact L.wind, by rw [hf, m0]; exact L.birds, by rw [hf, m1 4 (by decide) (by omega)]; exact L.harm, by rw [hf, m1 1 (by decide) (by omega)]; exact L.draws, fun k hk hc => ?_, fun k hk => ?_, fun k hk => ?_, fun k hk => ?_, fun k hk => ?_, hst, hst0⟩
  · rw [h1, m1 (5 + k) (by omega) (by omega)]; exact L.wet k hk hc
  · rw [m4, l7]; exact L.hed k hk
  · rw [l7]; exact L.hcl k hk
  · rw [l8, h2, h3, m1 (69 + k) (by omega) (by omega), m1 (133 + k) (by omega) (by omega)]; exact L.sd k hk
  · rw [l8, m1 (69 + k) (by omega) (by omega)]; exact L.sd0 k hk
theorem LD_fchg {W H nk b : Nat} {sc sm sc' sm' : ST} (L : LD W H nk b sc sm) (f0 : sc'.1 b 0 = sc.1 b 0) (f1 : sc'.1 b 1 = sc.1 b 1) (f4 : sc'.1 b 4 = sc.1 b 4) (hl : sc'.2 b = sc.2 b) (h2 : sc'.1 (b + 2) = sc.1 (b + 2)) (h3 : sc'.1 (b + 3) = sc.1 (b + 3)) (h4 : sc'.1 (b + 4) = sc.1 (b + 4)) (h5 : sc'.1 (b + 5) = sc.1 (b + 5)) (h6 : sc'.1 (b + 6) = sc.1 (b + 6)) (m0 : sm'.1 0 = sm.1 0) (m4 : sm'.1 4 = sm.1 4) (m1 : ∀ i, 69 ≤ i → sm'.1 1 i = sm.1 1 i)
    (hd : sc'.1 b 2 = sm'.1 1 0) (hw : ∃ d, d < 4 ∧ sc'.1 b 3 = nI d ∧ sm'.1 1 3 = nI ((d + 3) % 4)) (hh : sc'.1 b 5 = sm'.1 1 4) (hr : sc'.1 b 6 = sm'.1 1 1) (hwt : ∀ k, k < 64 → cl W H k → ∃ n, n ≤ 9 ∧ sc'.1 (b + 1) k = nI n ∧ sm'.1 1 (5 + k) + 3 = nI n) : LD W H nk b sc' sm' := by
  refine ⟨by rw [f0]; exact L.w, by rw [m0]; exact L.w', by rw [f1]; exact L.h, by rw [m0]; exact L.h', L.W2, L.W7, L.H2, L.H7, L.n8, hd, hw, by rw [f4, m0]; exact L.birds, hh, hr, hwt, fun k hk => ?_, fun k hk => ?_, fun k hk => ?_, fun k hk => ?_, fun k hk => ?_, fun k hk => ?_⟩
  · rw [m4, hl]; exact L.hed k hk
  · rw [hl]; exact L.hcl k hk
  · rw [hl, h2, h3, m1 (69 + k) (by omega), m1 (133 + k) (by omega)]; exact L.sd k hk
  · rw [hl, m1 (69 + k) (by omega)]; exact L.sd0 k hk
  · rw [hl, h4, h5, h6, m1 (197 + k) (by omega), m1 (261 + k) (by omega), m1 (325 + k) (by omega)]; exact L.st k hk
  · rw [hl, m1 (197 + k) (by omega)]; exact L.st0 k hk
/-- a seed set at k -/
theorem sd_set {W H nk b k n : Nat} {sc sm sc' sm' : ST} (L : LD W H nk b sc sm) (hk : k < 64) (hc : cl W H k) (hn : n < nk) (l8 : sc'.2 b 8 = sc.2 b 8 ||| bit1 k) (s2 : sc'.1 (b + 2) = upd (sc.1 (b + 2)) k (nI n)) (s3 : sc'.1 (b + 3) = upd (sc.1 (b + 3)) k (sc.1 b 2)) (e1 : ∀ j, j < 64 → sm'.1 1 (69 + j) = if j = k then nI (n + 1) else sm.1 1 (69 + j)) (e2 : ∀ j, j < 64 → sm'.1 1 (133 + j) = if j = k then sm.1 1 0 else sm.1 1 (133 + j)) :
    (∀ k, k < 64 → bq (sc'.2 b 8) k = true → cl W H k ∧ ∃ n, n < nk ∧ sc'.1 (b + 2) k = nI n ∧ sm'.1 1 (69 + k) = nI (n + 1) ∧ sc'.1 (b + 3) k = sm'.1 1 (133 + k)) ∧ (∀ k, k < 64 → bq (sc'.2 b 8) k = false → sm'.1 1 (69 + k) = 0) := by
  constructor
  · intro j hj hb
    rw [l8, bq_set hk hj] at hb
    rw [s2, s3, e1 j hj, e2 j hj]
    by_cases hjk : j = k
    · subst hjk
      refine ⟨hc, n, hn, if_pos rfl, if_pos rfl, ?_⟩
      rw [if_pos rfl]
      exact (if_pos rfl).trans L.day
    · simp only [hjk, decide_false, Bool.or_false] at hb
      rw [if_neg hjk, if_neg hjk, show upd (sc.1 (b + 2)) k (nI n) j = sc.1 (b + 2) j from if_neg hjk, show upd (sc.1 (b + 3)) k (sc.1 b 2) j = sc.1 (b + 3) j from if_neg hjk]
      exact L.sd j hj hb
  · intro j hj hb
    rw [l8, bq_set hk hj] at hb
    rw [e1 j hj]
    by_cases hjk : j = k
    · subst hjk
      simp at hb
    · simp only [hjk, decide_false, Bool.or_false] at hb
      rw [if_neg hjk]
      exact L.sd0 j hj hb
/-- a seed gone at k -/
theorem sd_clr {W H nk b k : Nat} {sc sm sc' sm' : ST} (L : LD W H nk b sc sm) (hk : k < 64) (l8 : sc'.2 b 8 = sc.2 b 8 &&& (bit1 k ^^^ (-1 : Int64))) (s2 : sc'.1 (b + 2) = sc.1 (b + 2)) (s3 : sc'.1 (b + 3) = sc.1 (b + 3)) (e1 : ∀ j, j < 64 → sm'.1 1 (69 + j) = if j = k then 0 else sm.1 1 (69 + j)) (e2 : ∀ j, j < 64 → sm'.1 1 (133 + j) = sm.1 1 (133 + j)) :
    (∀ k, k < 64 → bq (sc'.2 b 8) k = true → cl W H k ∧ ∃ n, n < nk ∧ sc'.1 (b + 2) k = nI n ∧ sm'.1 1 (69 + k) = nI (n + 1) ∧ sc'.1 (b + 3) k = sm'.1 1 (133 + k)) ∧ (∀ k, k < 64 → bq (sc'.2 b 8) k = false → sm'.1 1 (69 + k) = 0) := by
  constructor
  · intro j hj hb
    rw [l8, bq_clr hk hj] at hb
    rw [s2, s3, e1 j hj, e2 j hj]
    by_cases hjk : j = k
    · subst hjk
      simp at hb
    · simp only [hjk, decide_false, Bool.not_false, Bool.and_true] at hb
      rw [if_neg hjk]
      exact L.sd j hj hb
  · intro j hj hb
    rw [l8, bq_clr hk hj] at hb
    rw [e1 j hj]
    by_cases hjk : j = k
    · rw [if_pos hjk]
    · simp only [hjk, decide_false, Bool.not_false, Bool.and_true] at hb
      rw [if_neg hjk]
      exact L.sd0 j hj hb
theorem st_set {W H nk b k n g : Nat} {e : Int32} {sc sm sc' sm' : ST} (L : LD W H nk b sc sm) (hk : k < 64) (hc : cl W H k) (hn : n < nk) (hg1 : 1 ≤ g) (hg9 : g ≤ 9) (l9 : sc'.2 b 9 = sc.2 b 9 ||| bit1 k) (s4 : sc'.1 (b + 4) = upd (sc.1 (b + 4)) k (nI n)) (s5 : sc'.1 (b + 5) = upd (sc.1 (b + 5)) k (nI g)) (s6 : sc'.1 (b + 6) = upd (sc.1 (b + 6)) k e) (e1 : ∀ j, j < 64 → sm'.1 1 (197 + j) = if j = k then nI (n + 1) else sm.1 1 (197 + j)) (e2 : ∀ j, j < 64 → sm'.1 1 (261 + j) = if j = k then nI g else sm.1 1 (261 + j)) (e3 : ∀ j, j < 64 → sm'.1 1 (325 + j) = if j = k then e else sm.1 1 (325 + j)) :
    (∀ k, k < 64 → bq (sc'.2 b 9) k = true → cl W H k ∧ ∃ n g, n < nk ∧ 1 ≤ g ∧ g ≤ 9 ∧ sc'.1 (b + 4) k = nI n ∧ sm'.1 1 (197 + k) = nI (n + 1) ∧ sc'.1 (b + 5) k = nI g ∧ sm'.1 1 (261 + k) = nI g ∧ sc'.1 (b + 6) k = sm'.1 1 (325 + k)) ∧ (∀ k, k < 64 → bq (sc'.2 b 9) k = false → sm'.1 1 (197 + k) = 0) := by
  constructor
  · intro j hj hb
    rw [l9, bq_set hk hj] at hb
    rw [s4, s5, s6, e1 j hj, e2 j hj, e3 j hj]
    by_cases hjk : j = k
    · subst hjk
      refine ⟨hc, n, g, hn, hg1, hg9, if_pos rfl, if_pos rfl, if_pos rfl, if_pos rfl, ?_⟩
      rw [if_pos rfl]
      exact if_pos rfl
    · simp only [hjk, decide_false, Bool.or_false] at hb
      rw [if_neg hjk, if_neg hjk, if_neg hjk, show upd (sc.1 (b + 4)) k (nI n) j = sc.1 (b + 4) j from if_neg hjk, show upd (sc.1 (b + 5)) k (nI g) j = sc.1 (b + 5) j from if_neg hjk, show upd (sc.1 (b + 6)) k e j = sc.1 (b + 6) j from if_neg hjk]
      exact L.st j hj hb
  · intro j hj hb
    rw [l9, bq_set hk hj] at hb
    rw [e1 j hj]
    by_cases hjk : j = k
    · subst hjk
      simp at hb
    · simp only [hjk, decide_false, Bool.or_false] at hb
      rw [if_neg hjk]
      exact L.st0 j hj hb
theorem st_clr {W H nk b k : Nat} {sc sm sc' sm' : ST} (L : LD W H nk b sc sm) (hk : k < 64) (l9 : sc'.2 b 9 = sc.2 b 9 &&& (bit1 k ^^^ (-1 : Int64))) (s4 : sc'.1 (b + 4) = sc.1 (b + 4)) (s5 : sc'.1 (b + 5) = sc.1 (b + 5)) (s6 : sc'.1 (b + 6) = sc.1 (b + 6)) (e1 : ∀ j, j < 64 → sm'.1 1 (197 + j) = if j = k then 0 else sm.1 1 (197 + j)) (e2 : ∀ j, j < 64 → sm'.1 1 (261 + j) = if j = k then 0 else sm.1 1 (261 + j)) (e3 : ∀ j, j < 64 → sm'.1 1 (325 + j) = sm.1 1 (325 + j)) :
    (∀ k, k < 64 → bq (sc'.2 b 9) k = true → cl W H k ∧ ∃ n g, n < nk ∧ 1 ≤ g ∧ g ≤ 9 ∧ sc'.1 (b + 4) k = nI n ∧ sm'.1 1 (197 + k) = nI (n + 1) ∧ sc'.1 (b + 5) k = nI g ∧ sm'.1 1 (261 + k) = nI g ∧ sc'.1 (b + 6) k = sm'.1 1 (325 + k)) ∧ (∀ k, k < 64 → bq (sc'.2 b 9) k = false → sm'.1 1 (197 + k) = 0) := by
  constructor
  · intro j hj hb
    rw [l9, bq_clr hk hj] at hb
    rw [s4, s5, s6, e1 j hj, e2 j hj, e3 j hj]
    by_cases hjk : j = k
    · subst hjk
      simp at hb
    · simp only [hjk, decide_false, Bool.not_false, Bool.and_true] at hb
      rw [if_neg hjk, if_neg hjk]
      exact L.st j hj hb
  · intro j hj hb
    rw [l9, bq_clr hk hj] at hb
    rw [e1 j hj]
    by_cases hjk : j = k
    · rw [if_pos hjk]
    · simp only [hjk, decide_false, Bool.not_false, Bool.and_true] at hb
      rw [if_neg hjk]
      exact L.st0 j hj hb
/-! the book -/
def BK (t : Nat) (sc sm : ST) : Prop := ∃ n, n ≤ 150 ∧ sc.1 t 2 = nI n ∧ sm.1 1 2 = nI n ∧ ∀ i, i < n → ∀ j, j < 4 → sc.1 (t + 1) (4 * i + j) = sm.1 5 (4 * i + j)
theorem BK_agr {t : Nat} {sc sm sc' sm' : ST} (B : BK t sc sm) (h0 : sc'.1 t 2 = sc.1 t 2) (h1 : sc'.1 (t + 1) = sc.1 (t + 1)) (m1 : sm'.1 1 2 = sm.1 1 2) (m5 : sm'.1 5 = sm.1 5) : BK t sc' sm' := by
  unfold BK at B ⊢
  rw [h0, h1, m1, m5]
  exact B
theorem noted {sc sm : ST} (B : BK 23 sc sm) (h150 : sc.1 23 0 = 150) (hd : sc.1 1 2 = sm.1 1 0) (h5 : sm.1 0 5 = 0) (w c n : Int32) : ∃ sc' sm', C_X8_note_r sc w c n = some sc' ∧ M_notes sm w c n = some sm' ∧ BK 23 sc' sm' ∧ sc'.1 23 0 = 150 ∧ agr [23, 24] sc sc' ∧ agr [1, 5] sm sm' ∧ (∃ n n', sm.1 1 2 = nI n ∧ sm'.1 1 2 = nI n' ∧ n ≤ n' ∧ n' ≤ 150) ∧ ∀ i, i ≠ 2 → sm'.1 1 i = sm.1 1 i := by
  obtain ⟨r, hr, b1, b2, b3⟩ := B
  have lc24 : lc (23 + 1) = 600 := rfl
  unfold C_X8_note_r C_X4_add M_notes
  simp only [Lt_n]
  rw [b1, b2, h150, h5, if_pos rfl, show (150 : Int32) = nI 150 from rfl, ite_iff (nI_ltI (by omega) (by decide)), ite_iff (nI_eq (by omega) (by decide))]
  by_cases h : r = 150
  · rw [if_neg (by omega), if_pos h, Bd_some]
    exact ⟨sc, sm, rfl, rfl, ⟨r, hr, b1, b2, b3⟩, h150, agr.rf, agr.rf, ⟨r, r, rfl, b2, Nat.le_refl _, hr⟩, fun _ _ => rfl⟩
  · rw [if_pos (by omega), if_neg h, show (4 : Int32) = nI 4 from rfl, nI_mul, nI_mul, Nat.mul_comm r 4, lc24, show (1 : Int32) = nI 1 from rfl, show (2 : Int32) = nI 2 from rfl, show (3 : Int32) = nI 3 from rfl, nI_add, nI_add, nI_add]
    rw [Gs_n (by omega) (by decide), Gs_n (by omega) (by decide), Gs_n (by omega) (by decide), Gs_n (by omega) (by decide), Gs_n (by omega) (by decide), Gs_n (by omega) (by decide), Gs_n (by omega) (by decide), Gs_n (by omega) (by decide), Bd_some]
    refine ⟨_, _, rfl, rfl, ⟨r + 1, by omega, ?_, ?_, fun i hi j hj => ?_⟩, ?_, ?_, ?_, ⟨r, r + 1, rfl, ?_, by omega, by omega⟩, fun i hi => ?_⟩
    · simp [ups_at, b1, nI_add]
    · simp [ups_at, b2, nI_add]
    · simp only [ups_at]
      by_cases q : i = r
      · subst q
        rcases (by omega : j = 0 ∨ j = 1 ∨ j = 2 ∨ j = 3) with rfl | rfl | rfl | rfl <;> simp [hd]
      · have hb3 := b3 i (by omega) j hj
        have n0 : ¬ 4 * i + j = 4 * r := by omega
        have n1 : ¬ 4 * i + j = 4 * r + 1 := by omega
        have n2 : ¬ 4 * i + j = 4 * r + 2 := by omega
        have n3 : ¬ 4 * i + j = 4 * r + 3 := by omega
        simp [n0, n1, n2, n3, hb3]
    · simp only [ups_at]
      simp [h150]
      rfl
    · exact ((((agr.rf.ups (by decide)).ups (by decide)).ups (by decide)).ups (by decide)).ups (by decide)
    · exact ((((agr.rf.ups (by decide)).ups (by decide)).ups (by decide)).ups (by decide)).ups (by decide)
    · simp [ups_at, b2, nI_add]
    · simp [ups_at, hi]
theorem m_notes_t {sm : ST} (h5 : sm.1 0 5 = 1) (w c n : Int32) : M_notes sm w c n = some sm := by
  unfold M_notes
  rw [h5, if_neg (by decide)]
