/-! # stage 2: what the law asks for -/
abbrev eg (W H k : Nat) : Prop := k % 8 = 0 ∨ k / 8 = 0 ∨ k % 8 + 1 = W ∨ k / 8 + 1 = H
def ov (x0 x1 x2 x3 x4 x5 x6 x7 : Int32) : Nat → Int32
  | 0 => x0 | 1 => x1 | 2 => x2 | 3 => x3 | 4 => x4 | 5 => x5 | 6 => x6 | _ => x7
theorem n_eqm1 {a W : Nat} (ha : a < 100) (hW : 1 ≤ W) (hW2 : W < 100) : (nI a = nI W - (1 : Int32)) ↔ a + 1 = W := by
  obtain ⟨y, rfl⟩ : ∃ y, W = y + 1 := ⟨W - 1, by omega⟩
  rw [n_sub1, nI_eq (by omega) (by omega)]
  omega
theorem n_eq0 {a : Nat} (ha : a < 100) : (nI a = (0 : Int32)) ↔ a = 0 := nI_eq (b := 0) (by omega) (by decide)
theorem c_isEdge {s : ST} {b W H k : Nat} (h0 : s.1 b 0 = nI W) (h1 : s.1 b 1 = nI H) (hW : W ≤ 7) (hH : H ≤ 7) (hW1 : 2 ≤ W) (hH1 : 2 ≤ H) (hk : k < 64) : C_X1_isEdge s b (nI k) = if eg W H k then 1 else 0 := by
  unfold C_X1_isEdge
  simp only [Lt_n]
  rw [n_and7 k hk, n_shr3 k hk, h0, h1]
  simp only [n_eq0 (show k % 8 < 100 by omega), n_eq0 (show k / 8 < 100 by omega), n_eqm1 (show k % 8 < 100 by omega) (show 1 ≤ W by omega) (show W < 100 by omega), n_eqm1 (show k / 8 < 100 by omega) (show 1 ≤ H by omega) (show H < 100 by omega), eg]
  by_cases q1 : k % 8 = 0 <;> by_cases q2 : k / 8 = 0 <;> by_cases q3 : k % 8 + 1 = W <;> by_cases q4 : k / 8 + 1 = H <;> simp only [q1, q2, q3, q4, if_true, if_false, true_or, or_true, or_false, false_or, or_self]
theorem c_observe {sc : ST} {b W H k : Nat} (hb : b = 1 ∨ b = 72) (h0 : sc.1 b 0 = nI W) (h1 : sc.1 b 1 = nI H) (hW : W ≤ 7) (hH : H ≤ 7) (hW1 : 2 ≤ W) (hH1 : 2 ≤ H) (hk : k < 64) (hc : cl W H k) (hS : ∀ j, j < 64 → bq (sc.2 b 9) j = true → cl W H j) (hHg : ∀ j, j < 64 → bq (sc.2 b 7) j = true → cl W H j) (x soil : Int32) :
    ∃ s', C_X2_observe sc b x (nI k) soil = some s' ∧ agr [17] sc s' ∧ ∀ i, i < 8 → s'.1 17 i = ov x (sc.1 (b + 1) k) soil (nI (nb W H (bq (sc.2 b 9)) k)) (sc.1 b 2) (if eg W H k then 1 else 0) (nI (nb W H (bq (sc.2 b 7)) k)) (if bq (sc.2 b 9) k = true then sc.1 (b + 5) k else 0) i := by
  have hbn : b ≠ 17 ∧ b + 1 ≠ 17 ∧ b + 5 ≠ 17 := by omega
  have r1 : ∀ (s : ST) i x, (ups s 17 i x).1 b = s.1 b := fun s i x => ups_ne hbn.1
  have r2 : ∀ (s : ST) i x, (ups s 17 i x).1 (b + 1) = s.1 (b + 1) := fun s i x => ups_ne hbn.2.1
  have r3 : ∀ (s : ST) i x, (ups s 17 i x).1 (b + 5) = s.1 (b + 5) := fun s i x => ups_ne hbn.2.2
  have h10 : ¬ (1 : Int32) = 0 := by decide
  have hE : ∀ s : ST, s.1 b = sc.1 b → C_X1_isEdge s b (nI k) = if eg W H k then 1 else 0 := fun s hs => c_isEdge (by rw [hs]; exact h0) (by rw [hs]; exact h1) hW hH hW1 hH1 hk
  have hB : ∀ (s : ST) (y : Int64), (∀ j, j < 64 → bq y j = true → cl W H j) → C_X9_beside s y (nI k) = nI (nb W H (bq y) k) := fun s y hy => c_beside hy hW hH hk hc
  have ag : ∀ v0 v1 v2 v3 v4 v5 v6 v7 : Int32, agr [17] sc (ups (ups (ups (ups (ups (ups (ups (ups sc 17 0 v0) 17 1 v1) 17 2 v2) 17 3 v3) 17 4 v4) 17 5 v5) 17 6 v6) 17 7 v7) ∧ ∀ i, i < 8 → (ups (ups (ups (ups (ups (ups (ups (ups sc 17 0 v0) 17 1 v1) 17 2 v2) 17 3 v3) 17 4 v4) 17 5 v5) 17 6 v6) 17 7 v7).1 17 i = ov v0 v1 v2 v3 v4 v5 v6 v7 i := by
    intro v0 v1 v2 v3 v4 v5 v6 v7
    refine ⟨((((((((agr.rf.ups (by decide)).ups (by decide)).ups (by decide)).ups (by decide)).ups (by decide)).ups (by decide)).ups (by decide)).ups (by decide)), fun i hi => ?_⟩
    rcases (by omega : i = 0 ∨ i = 1 ∨ i = 2 ∨ i = 3 ∨ i = 4 ∨ i = 5 ∨ i = 6 ∨ i = 7) with rfl | rfl | rfl | rfl | rfl | rfl | rfl | rfl <;> simp [ups_at, ov]
  unfold C_X2_observe
  rw [Lt_e, Lt_e, Lt_e, c_isCell h0 h1 hW hH hk, if_pos hc, if_neg h10, Gl_n hk (by decide)]
  dsimp only
  rw [Lt_e, Lt_e, Lt_e, Lt_e, Lt_e, Lt_e, hE _ (by simp only [r1]), Lt_e]
  by_cases he : eg W H k <;> by_cases hs : bq (sc.2 b 9) k = true
  · rw [if_pos he, if_neg h10]
    dsimp only
    rw [Lt_e, Lt_e, Lt_e, Lt_e, Lt_e, if_neg h10, Lt_e, c_isIn hk]
    simp only [ups_2]
    rw [ if_pos hs, if_neg h10, Gl_n hk (by decide)]
    rw [Lt_e, hB _ _ hS, hB _ _ hHg, if_pos hs]
    simp only [r1, r2, r3]
    exact ⟨_, rfl, ag _ _ _ _ _ _ _ _⟩
  · rw [if_pos he, if_neg h10]
    dsimp only
    rw [Lt_e, Lt_e, Lt_e, Lt_e, Lt_e, if_neg h10, Lt_e, c_isIn hk]
    simp only [ups_2]
    rw [ if_neg hs, if_pos rfl]
    rw [Lt_e, hB _ _ hS, hB _ _ hHg, if_neg hs]
    simp only [r1, r2, r3]
    exact ⟨_, rfl, ag _ _ _ _ _ _ _ _⟩
  · rw [if_neg he, if_pos rfl]
    dsimp only
    rw [Lt_e, Lt_e, Lt_e, Lt_e, Lt_e, if_neg h10, Lt_e, c_isIn hk]
    simp only [ups_2]
    rw [ if_pos hs, if_neg h10, Gl_n hk (by decide)]
    rw [Lt_e, hB _ _ hS, hB _ _ hHg, if_pos hs]
    simp only [r1, r2, r3]
    exact ⟨_, rfl, ag _ _ _ _ _ _ _ _⟩
  · rw [if_neg he, if_pos rfl]
    dsimp only
    rw [Lt_e, Lt_e, Lt_e, Lt_e, Lt_e, if_neg h10, Lt_e, c_isIn hk]
    simp only [ups_2]
    rw [ if_neg hs, if_pos rfl]
    rw [Lt_e, hB _ _ hS, hB _ _ hHg, if_neg hs]
    simp only [r1, r2, r3]
    exact ⟨_, rfl, ag _ _ _ _ _ _ _ _⟩
theorem m_edge {B : Type} {s : ST} {W H k : Nat} (h0 : s.1 0 6 + 5 = nI W) (h1 : s.1 0 7 + 4 = nI H) (hW : W ≤ 7) (hH : H ≤ 7) (hW1 : 2 ≤ W) (hH1 : 2 ≤ H) (hk : k < 64) (K : Int32 → B) :
    Lt K (fun j1 => Lt (j1 (1 : Int32)) fun j3 => if nI (k % 8) = 0 then j3 else (if nI (k / 8) = 0 then j3 else (Lt (M_wide s) fun y9 => if nI (k % 8) = (y9 - (1 : Int32)) then j3 else (Lt (M_high s) fun y10 => if nI (k / 8) = (y10 - (1 : Int32)) then j3 else (j1 (0 : Int32)))))) = K (if eg W H k then 1 else 0) := by
  unfold M_wide M_high
  simp only [Lt_n]
  rw [h0, h1]
  simp only [n_eq0 (show k % 8 < 100 by omega), n_eq0 (show k / 8 < 100 by omega), n_eqm1 (show k % 8 < 100 by omega) (show 1 ≤ W by omega) (show W < 100 by omega), n_eqm1 (show k / 8 < 100 by omega) (show 1 ≤ H by omega) (show H < 100 by omega), eg]
  by_cases q1 : k % 8 = 0 <;> by_cases q2 : k / 8 = 0 <;> by_cases q3 : k % 8 + 1 = W <;> by_cases q4 : k / 8 + 1 = H <;> simp only [q1, q2, q3, q4, if_true, if_false, true_or, or_true, or_false, false_or, or_self]
theorem m_asks {sm : ST} {W H k : Nat} {p : Nat → Bool} (h0 : sm.1 0 6 + 5 = nI W) (h1 : sm.1 0 7 + 4 = nI H) (hW : W ≤ 7) (hH : H ≤ 7) (hW1 : 2 ≤ W) (hH1 : 2 ≤ H) (hk : k < 64) (hc : cl W H k) (hp : ∀ j, j < 64 → sm.1 4 j = if p j = true then 1 else 0) (x soil : Int32) :
    ∃ s', M_asks sm x (nI k) soil = some s' ∧ agr [20] sm s' ∧ ∀ i, i < 8 → s'.1 20 i = ov x (sm.1 1 (5 + k) + 3) soil (nI (nb W H (fun j => !decide (sm.1 1 (197 + j) = 0)) k)) (sm.1 1 0) (if eg W H k then 1 else 0) (nI (nb W H p k)) (if sm.1 1 (197 + k) = 0 then 0 else sm.1 1 (261 + k)) i := by
  have r0 : ∀ (s : ST) i x, (ups s 20 i x).1 0 = s.1 0 := fun s i x => ups_ne (by decide)
  have r1 : ∀ (s : ST) i x, (ups s 20 i x).1 1 = s.1 1 := fun s i x => ups_ne (by decide)
  have r4 : ∀ (s : ST) i x, (ups s 20 i x).1 4 = s.1 4 := fun s i x => ups_ne (by decide)
  unfold M_asks
  rw [Lt_e, Lt_e, Lt_e, m_wetOf hk, Bd_some, Lt_e, Lt_e, m_besideOf (by simp only [r0]; exact h0) (by simp only [r0]; exact h1) hW hH hk hc, Bd_some, Lt_e, Lt_e, Lt_e, n_rem8 hk, n_div8 hk, m_edge (W := W) (H := H) (by simp only [r0]; exact h0) (by simp only [r0]; exact h1) hW hH hW1 hH1 hk, Lt_e, m_hedgesOf (p := p) (by simp only [r0]; exact h0) (by simp only [r0]; exact h1) hW hH hk hc (by simp only [r4]; exact hp), Bd_some, Lt_e, m_stormOf hk, Bd_some]
  simp only [Lt_n, r1]
  have ag : ∀ v0 v1 v2 v3 v4 v5 v6 v7 : Int32, agr [20] sm (ups (ups (ups (ups (ups (ups (ups (ups sm 20 0 v0) 20 1 v1) 20 2 v2) 20 3 v3) 20 4 v4) 20 5 v5) 20 6 v6) 20 7 v7) ∧ ∀ i, i < 8 → (ups (ups (ups (ups (ups (ups (ups (ups sm 20 0 v0) 20 1 v1) 20 2 v2) 20 3 v3) 20 4 v4) 20 5 v5) 20 6 v6) 20 7 v7).1 20 i = ov v0 v1 v2 v3 v4 v5 v6 v7 i := by
    intro v0 v1 v2 v3 v4 v5 v6 v7
    refine ⟨((((((((agr.rf.ups (by decide)).ups (by decide)).ups (by decide)).ups (by decide)).ups (by decide)).ups (by decide)).ups (by decide)).ups (by decide)), fun i hi => ?_⟩
    rcases (by omega : i = 0 ∨ i = 1 ∨ i = 2 ∨ i = 3 ∨ i = 4 ∨ i = 5 ∨ i = 6 ∨ i = 7) with rfl | rfl | rfl | rfl | rfl | rfl | rfl | rfl <;> simp [ups_at, ov]
  by_cases hs : sm.1 1 (197 + k) = 0
  · rw [if_pos (i_sub1.mpr hs), if_pos hs]
    exact ⟨_, rfl, ag _ _ _ _ _ _ _ _⟩
  · rw [if_neg (fun h => hs (i_sub1.mp h)), if_neg hs, show (261 : Int32) = nI 261 from rfl, nI_add, Gl_n (by omega) (by decide)]
    simp only [r1]
    exact ⟨_, rfl, ag _ _ _ _ _ _ _ _⟩
theorem LW_st_b {W H nk b j : Nat} {sc sm : ST} (L : LW W H nk b sc sm) (hj : j < 64) : bq (sc.2 b 9) j = !decide (sm.1 1 (197 + j) = 0) := by
  have hn8 := L.n8
  cases q : bq (sc.2 b 9) j with
  | false => rw [L.st0 j hj q]; rfl
  | true =>
    obtain ⟨_, n, g, hn, _, _, _, e, _⟩ := L.st j hj q
    rw [e]
    simp [nI_ne0 (n := n + 1) (by omega) (by omega)]
theorem LD_sd_b {W H nk b j : Nat} {sc sm : ST} (L : LD W H nk b sc sm) (hj : j < 64) : bq (sc.2 b 8) j = !decide (sm.1 1 (69 + j) = 0) := by
  have hn8 := L.n8
  cases q : bq (sc.2 b 8) j with
  | false => rw [L.sd0 j hj q]; rfl
  | true =>
    obtain ⟨_, n, hn, _, e, _⟩ := L.sd j hj q
    rw [e]
    simp [nI_ne0 (n := n + 1) (by omega) (by omega)]
/-- the values of a cell, alike on both sides -/
theorem seen {sc sm : ST} {b W H nk k : Nat} (hb : b = 1 ∨ b = 72) (L : LW W H nk b sc sm) (hk : k < 64) (hc : cl W H k) (x soil : Int32) :
    ∃ sc' sm', C_X2_observe sc b x (nI k) soil = some sc' ∧ M_asks sm x (nI k) soil = some sm' ∧ agr [17] sc sc' ∧ agr [20] sm sm' ∧ (∀ i, i < 8 → sc'.1 17 i = sm'.1 20 i) ∧ (∃ n, n ≤ 9 ∧ sm'.1 20 1 = nI n) ∧ ∃ g, g ≤ 9 ∧ sm'.1 20 7 = nI g := by
  obtain ⟨sc', e1, a1, v1⟩ := c_observe hb L.w L.h L.W7 L.H7 L.W2 L.H2 hk hc (fun j hj h => (L.st j hj h).1) L.hcl x soil
  obtain ⟨sm', e2, a2, v2⟩ := m_asks L.w' L.h' L.W7 L.H7 L.W2 L.H2 hk hc L.hed x soil
  obtain ⟨n, hn, w1, w2⟩ := L.wet k hk hc
  have hst : ∀ j, j < 64 → bq (sc.2 b 9) j = !decide (sm.1 1 (197 + j) = 0) := fun j hj => LW_st_b L hj
  have hn8 := L.n8
  refine ⟨sc', sm', e1, e2, a1, a2, fun i hi => ?_, ⟨n, hn, by rw [v2 1 (by decide)]; exact w2⟩, ?_⟩
  · rw [v1 i hi, v2 i hi, w1, w2, nb_cong hk hc L.W7 L.H7 hst, L.day]
    congr 1
    cases q : bq (sc.2 b 9) k with
    | false => rw [if_neg (by decide), if_pos (L.st0 k hk q)]
    | true =>
      obtain ⟨_, n, g, hn, _, _, _, e, e5, e6, _⟩ := L.st k hk q
      rw [if_pos rfl, if_neg (by rw [e]; exact nI_ne0 (by omega) (by omega)), e5, e6]
  · cases q : bq (sc.2 b 9) k with
    | false => exact ⟨0, by decide, by rw [v2 7 (by decide)]; simp only [ov]; rw [if_pos (L.st0 k hk q)]; rfl⟩
    | true =>
      obtain ⟨_, n, g, hn, _, hg, _, e, e5, e6, _⟩ := L.st k hk q
      exact ⟨g, hg, by rw [v2 7 (by decide)]; simp only [ov]; rw [if_neg (by rw [e]; exact nI_ne0 (by omega) (by omega)), e6]⟩
theorem lk22 {C D A1 A2 B1 B2 : Type} {F : (A1 → A2 → Option C) → A1 → A2 → Option C} {G : (B1 → B2 → Option D) → B1 → B2 → Option D} (Q : Option C → Option D → Prop) (I : Nat → A1 → A2 → B1 → B2 → Prop)
    (h : ∀ (m : Nat) (rf : A1 → A2 → Option C) (rg : B1 → B2 → Option D) (a1 : A1) (a2 : A2) (b1 : B1) (b2 : B2), I m a1 a2 b1 b2 → (∀ m' a1 a2 b1 b2, m' < m → I m' a1 a2 b1 b2 → Q (rf a1 a2) (rg b1 b2)) → Q (F rf a1 a2) (G rg b1 b2)) :
    ∀ (n m : Nat) (a1 : A1) (a2 : A2) (b1 : B1) (b2 : B2), m < n → I m a1 a2 b1 b2 → Q (lpK2 F n a1 a2) (lpK2 G n b1 b2) := by
  intro n
  induction n with
  | zero => intro m _ _ _ _ hm; omega
  | succ n ih =>
    intro m a1 a2 b1 b2 hm hI
    exact h m (lpK2 F n) (lpK2 G n) a1 a2 b1 b2 hI (fun m' a1 a2 b1 b2 hlt hI' => ih m' a1 a2 b1 b2 (by omega) hI')
theorem c_of {s : ST} {b n i c : Nat} (hn : s.1 b 2 = nI n) (hi : i < n) (hn2 : n < 2 ^ 31) (hc : c < 4) (hl : 4 * i + c < lc (b + 1)) (hl2 : lc (b + 1) < 2 ^ 31) : C_X4_of s b (nI i) (nI c) = some (s.1 (b + 1) (4 * i + c)) := by
  unfold C_X4_of C_X4_hasRow
  simp only [Lt_n]
  have q1 : ¬ nI n ≤ nI i := by rw [nI_leI (by omega) (by omega)]; omega
  have q2 : ¬ (1 : Int32) = 0 := by decide
  have q3 : ¬ nI c < (0 : Int32) := nI_pos (by omega)
  have q4 : nI c < (4 : Int32) := by rw [show (4 : Int32) = nI 4 from rfl, nI_ltI (by omega) (by decide)]; exact hc
  rw [if_neg (nI_pos (by omega)), hn, if_neg q1, if_neg q2, if_neg q3, if_pos q4, show (4 : Int32) = nI 4 from rfl, nI_mul, nI_add, Nat.mul_comm i 4, Gl_n hl hl2]
theorem c_of_out {s : ST} {b : Nat} {x c : Int32} (h : C_X4_hasRow s b x = 0) : C_X4_of s b x c = some (-1) := by
  unfold C_X4_of
  simp only [Lt_n]
  rw [h, if_pos rfl]
theorem imn_held (s : ST) (v M : Int32) (hM : 0 ≤ M.toInt) : imx (0 : Int32) (imn v M) = M_held s v 0 M := by
  unfold imx imn M_held
  have z : (0 : Int32).toInt = 0 := by decide
  by_cases h1 : M < v
  · rw [if_pos h1]
    rw [fa_lt] at h1
    have h2 : (0 : Int32) ≤ v := by rw [fa_le, z]; omega
    have h3 : ¬ v ≤ M := by rw [fa_le]; omega
    rw [if_pos h2, if_neg h3]
    by_cases h4 : (0 : Int32) < M
    · rw [if_pos h4]
    · rw [if_neg h4, fa_eq]
      rw [fa_lt, z] at h4
      rw [z]
      omega
  · rw [if_neg h1]
    rw [fa_lt] at h1
    have h3 : v ≤ M := by rw [fa_le]; omega
    by_cases h4 : (0 : Int32) < v
    · rw [if_pos h4]
      rw [fa_lt, z] at h4
      have h2 : (0 : Int32) ≤ v := by rw [fa_le, z]; omega
      rw [if_pos h2, if_pos h3]
    · rw [if_neg h4]
      rw [fa_lt, z] at h4
      by_cases h2 : (0 : Int32) ≤ v
      · rw [if_pos h2, if_pos h3, fa_eq, z]
        rw [fa_le, z] at h2
        omega
      · rw [if_neg h2]
theorem held_n (s : ST) (v : Int32) (M : Nat) (hM : M < 2 ^ 31) : ∃ g, g ≤ M ∧ M_held s v 0 (nI M) = nI g := by
  unfold M_held
  by_cases h2 : (0 : Int32) ≤ v
  · rw [if_pos h2]
    obtain ⟨j, hj, rfl⟩ := nI_of (x := v) (by rw [fa_lt]; rw [fa_le] at h2; omega)
    by_cases h3 : nI j ≤ nI M
    · rw [if_pos h3]
      rw [nI_leI hj hM] at h3
      exact ⟨j, h3, rfl⟩
    · rw [if_neg h3]
      exact ⟨M, Nat.le_refl _, rfl⟩
  · rw [if_neg h2]
    exact ⟨0, Nat.zero_le _, rfl⟩
/-- the line of the law that holds, found by both, and what it gives -/
theorem ask_in {W H nk nc nl nw np : Nat} {sc sm : ST} (T : TD W H nk nc nl nw np 8 sc sm) (hv : ∀ i, i < 8 → sc.1 17 i = sm.1 20 i) (wd : Nat) (hw : wd ≤ 1) (d : Int32) (K : Int32 → ST → Option (Int32 × ST)) :
    ∃ v sc' sm', lpK2 (C := Int32 × ST) (fun (rec1 : Int32 → ST → Option (Int32 × ST)) (a2 : Int32) (s2 : ST) => if (s2.1 14 2) ≤ a2 then (K d s2) else (Bd (C_X4_of s2 14 a2 (2 : Int32)) fun y1 => Bd (C_X4_of s2 14 a2 (3 : Int32)) fun y2 => Bd (C_X4_of s2 14 a2 (0 : Int32)) fun y3 => if y3 = nI wd then (if y1 = y2 then (Bd (C_X4_of s2 14 a2 (1 : Int32)) fun y4 => Bd (C_X2_reckon s2 y4 y1) fun y5 => K y5.1 y5.2) else (Bd (C_X2_reckon s2 y1 y2) fun y6 => if y6.1 = 0 then (rec1 (a2 + (1 : Int32)) y6.2) else (Bd (C_X4_of y6.2 14 a2 (1 : Int32)) fun y4 => Bd (C_X2_reckon y6.2 y4 y1) fun y5 => K y5.1 y5.2))) else (rec1 (a2 + (1 : Int32)) s2))) FU (0 : Int32) sc = K v sc' ∧ agr [18] sc sc' ∧ agr [21] sm sm' ∧
      ((v = d ∧ M_lineOf sm (nI wd) = some (-1, sm')) ∨ ∃ l sm1, l < 32 ∧ M_lineOf sm (nI wd) = some (nI l, sm1) ∧ (Gl sm1 10 48 (nI l) fun y3 => Gl sm1 11 48 (nI l) fun y4 => M_runs sm1 (1 : Int32) y3 y4) = some (v, sm')) := by
  have hnl := T.l16
  unfold M_lineOf
  refine lk22 (Q := fun oc om => ∃ v sc' sm', oc = K v sc' ∧ agr [18] sc sc' ∧ agr [21] sm sm' ∧ ((v = d ∧ om = some (-1, sm')) ∨ ∃ l sm1, l < 32 ∧ om = some (nI l, sm1) ∧ (Gl sm1 10 48 (nI l) fun y3 => Gl sm1 11 48 (nI l) fun y4 => M_runs sm1 (1 : Int32) y3 y4) = some (v, sm')))
    (I := fun m a2 s2 b1 s1 => ∃ i, i + m = nl ∧ a2 = nI i ∧ b1 = nI i ∧ agr [18] sc s2 ∧ agr [21] sm s1) ?_ FU nl _ _ _ _ (by unfold FU; omega) ⟨0, by omega, rfl, rfl, agr.rf, agr.rf⟩
  rintro m rf rg a2 s2 b1 s1 ⟨i, him, rfl, rfl, hA, hB⟩ ih
  have e14 : s2.1 14 = sc.1 14 := (hA 14 (by decide)).1
  have e15 : s2.1 15 = sc.1 15 := (hA 15 (by decide)).1
  have m8 : s1.1 8 = sm.1 8 := (hB 8 (by decide)).1
  have m9 : s1.1 9 = sm.1 9 := (hB 9 (by decide)).1
  have m10 : s1.1 10 = sm.1 10 := (hB 10 (by decide)).1
  have m11 : s1.1 11 = sm.1 11 := (hB 11 (by decide)).1
  have m12 : s1.1 12 = sm.1 12 := (hB 12 (by decide)).1
  have hl : s2.1 14 2 = nI nl := by rw [e14]; exact T.l
  simp only [Lt_n]
  rw [hl, m8, T.l', ite_iff (nI_leI (by omega) (by omega)), ite_iff (nI_leI (by omega) (by omega))]
  cases m with
  | zero =>
    rw [if_pos (by omega), if_pos (by omega)]
    exact ⟨d, s2, s1, rfl, hA, hB, Or.inl ⟨rfl, rfl⟩⟩
  | succ m =>
    have hi : i < nl := by omega
    obtain ⟨w, p, q, r, t1, hw1, hpq, hqr, hr, c0, c1, c2, c3, f0, f1, f2, f3, hP, hT1, hT2⟩ := T.ld i hi
    have lc15 : lc (14 + 1) = 64 := rfl
    have o : ∀ (s : ST), s.1 14 = sc.1 14 → s.1 15 = sc.1 15 → ∀ c, c < 4 → C_X4_of s 14 (nI i) (nI c) = some (sc.1 15 (4 * i + c)) := fun s h1 h2 c hc => by
      rw [c_of (n := nl) (by rw [h1]; exact T.l) hi (by omega) hc (by rw [lc15]; omega) (by decide), h2]
    have o2 := o s2 e14 e15 2 (by decide)
    have o3 := o s2 e14 e15 3 (by decide)
    have o0 := o s2 e14 e15 0 (by decide)
    have hrk : ∀ (s s' : ST) (a b t : Nat), agr [18] sc s → agr [21] sm s' → p ≤ a → a ≤ b → b ≤ r → tyR (fun j => sm.1 13 (400 + j)) (fun j => sm.1 14 (400 + j)) (b - a) a [] = some [t] → ∃ v sc' sm', C_X2_reckon s (nI a) (nI b) = some (v, sc') ∧ M_runs s' 1 (nI a) (nI b) = some (v, sm') ∧ agr [18] sc sc' ∧ agr [21] sm sm' ∧ vt t v := by
      intro s s' a b t h1 h2 hpa hab hbr ht
      have g13 : s'.1 13 = sm.1 13 := (h2 13 (by decide)).1
      have g14 : s'.1 14 = sm.1 14 := (h2 14 (by decide)).1
      have g16 : s.1 16 = sc.1 16 := (h1 16 (by decide)).1
      have g17 : s.1 17 = sc.1 17 := (h1 17 (by decide)).1
      have g20 : s'.1 20 = sm.1 20 := (h2 20 (by decide)).1
      obtain ⟨v, sc', sm', x1, x2, x3, x4, x5⟩ := reckon (sc := s) (sm := s') hab (by omega) (fun j h3 h4 => by rw [g16, g13, g14]; exact hP j (by omega) (by omega)) (fun j hj => by rw [g17, g20]; exact hv j hj) (by rw [g13, g14]; exact ht)
      exact ⟨v, sc', sm', x1, x2, h1.tr x3, h2.tr x4, x5⟩
    have nx : ∀ s s', agr [18] sc s → agr [21] sm s' → ∃ v sc' sm', rf (nI i + 1) s = K v sc' ∧ agr [18] sc sc' ∧ agr [21] sm sm' ∧ ((v = d ∧ rg (nI i + 1) s' = some (-1, sm')) ∨ ∃ l sm1, l < 32 ∧ rg (nI i + 1) s' = some (nI l, sm1) ∧ (Gl sm1 10 48 (nI l) fun y3 => Gl sm1 11 48 (nI l) fun y4 => M_runs sm1 (1 : Int32) y3 y4) = some (v, sm')) :=
      fun s s' h1 h2 => ih m _ _ _ _ (Nat.lt_succ_self m) ⟨i + 1, by omega, nI_1 i, nI_1 i, h1, h2⟩
    have hit : ∀ s s', agr [18] sc s → agr [21] sm s' → ∃ v sc' sm', (Bd (C_X4_of s 14 (nI i) (1 : Int32)) fun y4 => Bd (C_X2_reckon s y4 (nI q)) fun y5 => K y5.1 y5.2) = K v sc' ∧ agr [18] sc sc' ∧ agr [21] sm sm' ∧ ((v = d ∧ some (nI (16 + i), s') = some ((-1 : Int32), sm')) ∨ ∃ l sm1, l < 32 ∧ some (nI (16 + i), s') = some (nI l, sm1) ∧ (Gl sm1 10 48 (nI l) fun y3 => Gl sm1 11 48 (nI l) fun y4 => M_runs sm1 (1 : Int32) y3 y4) = some (v, sm')) := by
      intro s s' h1 h2
      obtain ⟨v, sc', sm', x1, x2, x3, x4, _⟩ := hrk s s' p q t1 h1 h2 (Nat.le_refl _) hpq hqr hT1
      have o1 := o s (h1 14 (by decide)).1 (h1 15 (by decide)).1 1 (by decide)
      refine ⟨v, sc', sm', ?_, x3, x4, Or.inr ⟨16 + i, s', by omega, rfl, ?_⟩⟩
      · rw [show (1 : Int32) = nI 1 from rfl, o1, Bd_some, c1, x1, Bd_some]
      · rw [Gl_n (by omega) (by decide), Gl_n (by omega) (by decide), (h2 10 (by decide)).1, (h2 11 (by decide)).1, f1, f2]
        exact x2
    rw [if_neg (by omega), if_neg (by omega), show (2 : Int32) = nI 2 from rfl, show (3 : Int32) = nI 3 from rfl, o2, Bd_some, o3, Bd_some]
    rw [show C_X4_of s2 14 (nI i) (0 : Int32) = some (sc.1 15 (4 * i + 0)) from o0, Bd_some, Nat.add_zero, c0, c2, c3, show (16 : Int32) = nI 16 from rfl, nI_add, Gl_n (by omega) (by decide), m9, f0]
    by_cases hwd : nI w = nI wd
    · rw [if_pos hwd, if_pos hwd, Gl_n (by omega) (by decide), Gl_n (by omega) (by decide), m11, m12, f2, f3]
      by_cases hq : nI q = nI r
      · rw [if_pos hq, if_pos hq]
        exact hit s2 s1 hA hB
      · rw [if_neg hq, if_neg hq]
        rw [nI_eq (by omega) (by omega)] at hq
        obtain ⟨v, sc', sm', x1, x2, x3, x4, _⟩ := hrk s2 s1 q r 1 hA hB hpq hqr (Nat.le_refl _) (hT2 (by omega))
        rw [Gl_n (by omega) (by decide), Gl_n (by omega) (by decide), m11, m12, f2, f3, x1, Bd_some, x2, Bd_some]
        by_cases hv0 : v = 0
        · rw [if_pos hv0, if_pos hv0]
          exact nx _ _ x3 x4
        · rw [if_neg hv0, if_neg hv0]
          exact hit _ _ x3 x4
    · rw [if_neg hwd, if_neg hwd]
      exact nx _ _ hA hB
