/-! # stage 2: kinds and crossings are read -/
theorem lkb21 {C D A1 A2 B1 : Type} {F : (A1 → A2 → Option C) → A1 → A2 → Option C} {G : (B1 → Option D) → B1 → Option D} (Q : Option C → Option D → Prop) (I : Nat → A1 → A2 → B1 → Prop)
    (h : ∀ (m n' : Nat) (rf : A1 → A2 → Option C) (rg : B1 → Option D) (a1 : A1) (a2 : A2) (b1 : B1), m ≤ n' → rf = lpK2 F n' → rg = lpK1 G n' → I m a1 a2 b1 → (∀ m' a1 a2 b1, m' < m → I m' a1 a2 b1 → Q (rf a1 a2) (rg b1)) → Q (F rf a1 a2) (G rg b1)) :
    ∀ (n m : Nat) (a1 : A1) (a2 : A2) (b1 : B1), m < n → I m a1 a2 b1 → Q (lpK2 F n a1 a2) (lpK1 G n b1) := by
  intro n
  induction n with
  | zero => intro m _ _ _ hm; omega
  | succ n ih =>
    intro m a1 a2 b1 hm hI
    exact h m n (lpK2 F n) (lpK1 G n) a1 a2 b1 (by omega) rfl rfl hI (fun m' a1 a2 b1 hlt hI' => ih m' a1 a2 b1 (by omega) hI')
theorem lkb22 {C D A1 A2 B1 B2 : Type} {F : (A1 → A2 → Option C) → A1 → A2 → Option C} {G : (B1 → B2 → Option D) → B1 → B2 → Option D} (Q : Option C → Option D → Prop) (I : Nat → A1 → A2 → B1 → B2 → Prop)
    (h : ∀ (m n' : Nat) (rf : A1 → A2 → Option C) (rg : B1 → B2 → Option D) (a1 : A1) (a2 : A2) (b1 : B1) (b2 : B2), m ≤ n' → rf = lpK2 F n' → rg = lpK2 G n' → I m a1 a2 b1 b2 → (∀ m' a1 a2 b1 b2, m' < m → I m' a1 a2 b1 b2 → Q (rf a1 a2) (rg b1 b2)) → Q (F rf a1 a2) (G rg b1 b2)) :
    ∀ (n m : Nat) (a1 : A1) (a2 : A2) (b1 : B1) (b2 : B2), m < n → I m a1 a2 b1 b2 → Q (lpK2 F n a1 a2) (lpK2 G n b1 b2) := by
  intro n
  induction n with
  | zero => intro m _ _ _ _ hm; omega
  | succ n ih =>
    intro m a1 a2 b1 b2 hm hI
    exact h m n (lpK2 F n) (lpK2 G n) a1 a2 b1 b2 (by omega) rfl rfl hI (fun m' a1 a2 b1 b2 hlt hI' => ih m' a1 a2 b1 b2 (by omega) hI')
def gc (s s' : ST) : Prop := agr [49, 56, 57, 58, 59, 60, 61, 62, 63, 66, 67, 68, 69] s s' ∧ (∀ j, j ∉ [6, 7, 8, 9] → s'.1 49 j = s.1 49 j) ∧ ∀ c, c ∈ [56, 58, 61, 66, 68] → s'.1 c 0 = s.1 c 0
def gm (s s' : ST) : Prop := agr [0, 9, 10, 11, 12, 13, 14, 15, 16, 17, 18, 19] s s' ∧ (∀ j, j ∉ [13, 14, 15, 16, 26, 27, 29, 30, 31, 38, 39] → s'.1 0 j = s.1 0 j) ∧ (∀ c, c ∈ [9, 10, 11, 12] → ∀ i, i < 32 → s'.1 c i = s.1 c i) ∧ (∀ c, c ∈ [13, 14] → ∀ i, i < 800 → s'.1 c i = s.1 c i) ∧ (∀ i, i < 24 → s'.1 16 i = s.1 16 i) ∧ (∀ i, i < 30 → s'.1 17 i = s.1 17 i) ∧ (∀ i, i < 40 → s'.1 18 i = s.1 18 i) ∧ ∀ i, i < 64 → s'.1 19 i = s.1 19 i
theorem gc.rf {s : ST} : gc s s := ⟨agr.rf, fun _ _ => rfl, fun _ _ => rfl⟩
theorem gm.rf {s : ST} : gm s s := ⟨agr.rf, fun _ _ => rfl, fun _ _ _ _ => rfl, fun _ _ _ _ => rfl, fun _ _ => rfl, fun _ _ => rfl, fun _ _ => rfl, fun _ _ => rfl⟩
theorem gc.tr {a b c : ST} (h : gc a b) (k : gc b c) : gc a c := ⟨h.1.tr k.1, fun j hj => (k.2.1 j hj).trans (h.2.1 j hj), fun j hj => (k.2.2 j hj).trans (h.2.2 j hj)⟩
theorem gm.tr {a b c : ST} (h : gm a b) (k : gm b c) : gm a c := by
  obtain ⟨h1, h2, h3, h4, h5, h6, h7, h8⟩ := h
  obtain ⟨k1, k2, k3, k4, k5, k6, k7, k8⟩ := k
  exact ⟨h1.tr k1, fun j hj => (k2 j hj).trans (h2 j hj), fun c hc i hi => (k3 c hc i hi).trans (h3 c hc i hi), fun c hc i hi => (k4 c hc i hi).trans (h4 c hc i hi), fun i hi => (k5 i hi).trans (h5 i hi), fun i hi => (k6 i hi).trans (h6 i hi), fun i hi => (k7 i hi).trans (h7 i hi), fun i hi => (k8 i hi).trans (h8 i hi)⟩
theorem fc.g {s s' : ST} (h : fc s s') : gc s s' := ⟨h.1.mono (by decide), h.2, fun c hc => by rw [(h.1 c (by simp only [List.mem_cons, List.not_mem_nil, or_false] at hc ⊢; omega)).1]⟩
theorem fm.g {s s' : ST} (h : fm s s') : gm s s' :=
  ⟨h.1.mono (by decide), fun j hj => h.2 j (by simp only [List.mem_cons, List.not_mem_nil, or_false, not_or] at hj ⊢; omega), fun c hc i _ => by rw [(h.1 c (by simp only [List.mem_cons, List.not_mem_nil, or_false] at hc ⊢; omega)).1], fun c hc i _ => by rw [(h.1 c (by simp only [List.mem_cons, List.not_mem_nil, or_false] at hc ⊢; omega)).1], fun i _ => by rw [(h.1 16 (by decide)).1], fun i _ => by rw [(h.1 17 (by decide)).1], fun i _ => by rw [(h.1 18 (by decide)).1], fun i _ => by rw [(h.1 19 (by decide)).1]⟩
/-- a write into the reference's draft -/
theorem gm.wr {a b : ST} {c i : Nat} {x : Int32} (h : gm a b) (hc : (c = 0 ∧ i ∈ [13, 14, 15, 16, 26, 27, 29, 30, 31, 38, 39]) ∨ (c ∈ [9, 10, 11, 12] ∧ 32 ≤ i) ∨ (c ∈ [13, 14] ∧ 800 ≤ i) ∨ c = 15 ∨ (c = 16 ∧ 24 ≤ i) ∨ (c = 17 ∧ 30 ≤ i) ∨ (c = 18 ∧ 40 ≤ i) ∨ (c = 19 ∧ 64 ≤ i)) : gm a (ups b c i x) := by
  obtain ⟨h1, h2, h3, h4, h5, h6, h7, h8⟩ := h
  have hcc : c ∈ [0, 9, 10, 11, 12, 13, 14, 15, 16, 17, 18, 19] := by
    simp only [List.mem_cons, List.not_mem_nil, or_false] at hc ⊢
    omega
  have ne : ∀ c' i', ((c', i') ≠ (c, i)) → (ups b c i x).1 c' i' = b.1 c' i' := fun c' i' hne => ups_pl hne
  have nn : ∀ c' i', (c' = c → i' = i → False) → (c', i') ≠ (c, i) := fun c' i' hq e => by injection e with e1 e2; exact hq e1 e2
  simp only [List.mem_cons, List.not_mem_nil, or_false] at hc
  refine ⟨h1.ups hcc, fun j hj => ?_, fun d hd j hj => ?_, fun d hd j hj => ?_, fun j hj => ?_, fun j hj => ?_, fun j hj => ?_, fun j hj => ?_⟩
  · rw [ne _ _ (nn _ _ (fun e1 e2 => by simp only [List.mem_cons, List.not_mem_nil, or_false, not_or] at hj; omega))]; exact h2 j hj
  · rw [ne _ _ (nn _ _ (fun e1 e2 => by simp only [List.mem_cons, List.not_mem_nil, or_false] at hd; omega))]; exact h3 d hd j hj
  · rw [ne _ _ (nn _ _ (fun e1 e2 => by simp only [List.mem_cons, List.not_mem_nil, or_false] at hd; omega))]; exact h4 d hd j hj
  · rw [ne _ _ (nn _ _ (fun e1 e2 => by omega))]; exact h5 j hj
  · rw [ne _ _ (nn _ _ (fun e1 e2 => by omega))]; exact h6 j hj
  · rw [ne _ _ (nn _ _ (fun e1 e2 => by omega))]; exact h7 j hj
  · rw [ne _ _ (nn _ _ (fun e1 e2 => by omega))]; exact h8 j hj
theorem FS.w {sc sm : ST} {c i : Nat} {x : Int32} (h : FS sc sm) (hc : c ≠ 0) : FS sc (ups sm c i x) := by
  obtain ⟨h1, h2, h3, h4⟩ := h
  exact ⟨h1, h2, by rw [ups_ne (Ne.symm hc)]; exact h3, by rw [ups_ne (Ne.symm hc)]; exact h4⟩
theorem SY.w {f : Nat → Nat} {n T : Nat} {Z : Nat → Nat → Nat} {i : Nat} {sc sm : ST} (h : SY f n T Z i sc sm) {c k : Nat} {x : Int32} (hc : c ∉ [0, 6, 7]) : SY f n T Z i sc (ups sm c k x) := by
  obtain ⟨a1, ⟨b1, b2, b3, b4, b5⟩, a3, a4, a5, a6, a7, a8, a9, a10, a11⟩ := h
  simp only [List.mem_cons, List.not_mem_nil, or_false, not_or] at hc
  have e0 : (ups sm c k x).1 0 = sm.1 0 := ups_ne (by omega)
  have e6 : (ups sm c k x).1 6 = sm.1 6 := ups_ne (by omega)
  have e7 : (ups sm c k x).1 7 = sm.1 7 := ups_ne (by omega)
  exact ⟨a1, ⟨by rw [e0]; exact b1, b2, by rw [e6]; exact b3, b4, by rw [e7]; exact b5⟩, a3, a4, a5, a6, a7, by rw [e0]; exact a8, by rw [e0]; exact a9, by rw [e0]; exact a10, by rw [e0]; exact a11⟩
theorem SY.w0 {f : Nat → Nat} {n T : Nat} {Z : Nat → Nat → Nat} {i : Nat} {sc sm : ST} (h : SY f n T Z i sc sm) {k : Nat} {x : Int32} (hk : k ∉ [12, 13, 14, 15, 16]) : SY f n T Z i sc (ups sm 0 k x) := by
  obtain ⟨a1, ⟨b1, b2, b3, b4, b5⟩, a3, a4, a5, a6, a7, a8, a9, a10, a11⟩ := h
  simp only [List.mem_cons, List.not_mem_nil, or_false, not_or] at hk
  have e0 : ∀ j, j ≠ k → (ups sm 0 k x).1 0 j = sm.1 0 j := fun j hj => by rw [rd1, if_neg hj]
  have e6 : (ups sm 0 k x).1 6 = sm.1 6 := ups_ne (by decide)
  have e7 : (ups sm 0 k x).1 7 = sm.1 7 := ups_ne (by decide)
  exact ⟨a1, ⟨by rw [e0 _ (by omega)]; exact b1, b2, by rw [e6]; exact b3, b4, by rw [e7]; exact b5⟩, a3, a4, a5, a6, a7, by rw [e0 _ (by omega)]; exact a8, by rw [e0 _ (by omega)]; exact a9, by rw [e0 _ (by omega)]; exact a10, by rw [e0 _ (by omega)]; exact a11⟩
theorem SY.wc {f : Nat → Nat} {n T : Nat} {Z : Nat → Nat → Nat} {i : Nat} {sc sm : ST} (h : SY f n T Z i sc sm) {c k : Nat} {x : Int32} (hc : c ∉ [49, 50, 51, 52, 53]) : SY f n T Z i (ups sc c k x) sm := by
  obtain ⟨⟨⟨p1, p2, p3, p4⟩, p5, p6, p7, p8, p9⟩, a2, a3, a4, a5, a6, a7, a8⟩ := h
  simp only [List.mem_cons, List.not_mem_nil, or_false, not_or] at hc
  have e49 : (ups sc c k x).1 49 = sc.1 49 := ups_ne (by omega)
  have e50 : (ups sc c k x).1 50 = sc.1 50 := ups_ne (by omega)
  have e51 : (ups sc c k x).1 51 = sc.1 51 := ups_ne (by omega)
  have e52 : (ups sc c k x).1 52 = sc.1 52 := ups_ne (by omega)
  have e53 : (ups sc c k x).1 53 = sc.1 53 := ups_ne (by omega)
  refine ⟨⟨⟨by rw [e49]; exact p1, p2, by rw [e50]; exact p3, p4⟩, p5, p6, by rw [e49]; exact p7, p8, fun r hr => ?_⟩, a2, a3, by rw [e49]; exact a4, by rw [e49]; exact a5, by rw [e49]; exact a6, by rw [e49]; exact a7, a8⟩
  unfold ROW
  rw [e51, e52, e53]
  exact p9 r hr
theorem c_isFull {s : ST} {b r M : Nat} (h2 : s.1 b 2 = nI r) (h0 : s.1 b 0 = nI M) (hr : r ≤ M) (hM : M ≤ 200) : C_X4_isFull s b = if r = M then 1 else 0 := by
  unfold C_X4_isFull
  rw [h2, h0, ite_iff (nI_ltI (by omega) (by omega))]
  by_cases q : r = M
  · rw [if_neg (by omega), if_pos q]
  · rw [if_pos (by omega), if_neg q]
theorem c_add {s : ST} {b r M : Nat} {x y z w : Int32} (h2 : s.1 b 2 = nI r) (h0 : s.1 b 0 = nI M) (hr : r < M) (hM : M ≤ 200) (hl : lc (b + 1) = 4 * M) : C_X4_add s b x y z w = some (ups (ups (ups (ups (ups s (b + 1) (4 * r) x) (b + 1) (4 * r + 1) y) (b + 1) (4 * r + 2) z) (b + 1) (4 * r + 3) w) b 2 (nI (r + 1))) := by
  have e4 : nI r * (4 : Int32) = nI (4 * r) := by rw [show (4 : Int32) = nI 4 from rfl, nI_mul, Nat.mul_comm]
  unfold C_X4_add
  rw [h2, h0, if_pos (by rw [nI_ltI (by omega) (by omega)]; exact hr), Lt_e, e4, show (1 : Int32) = nI 1 from rfl, show (2 : Int32) = nI 2 from rfl, show (3 : Int32) = nI 3 from rfl, nI_add, nI_add, nI_add, Gs_n (by omega) (by omega), Gs_n (by omega) (by omega), Gs_n (by omega) (by omega), Gs_n (by omega) (by omega), Lt_e, ups_ne (by omega), ups_ne (by omega), ups_ne (by omega), ups_ne (by omega), h2, nI_add]
theorem sy_head {f : Nat → Nat} {n T : Nat} {Z : Nat → Nat → Nat} {i x b r M : Nat} {sc sm : ST} (h : SY f n T Z i sc sm) (hx : x < 30) (h2 : sc.1 b 2 = nI r) (h0 : sc.1 b 0 = nI M) (hr : r ≤ M) (hM : M ≤ 200) : (¬ (Z 3 i = 2 ∧ Z 4 i = wn x) ∧ C_X5_takesHead sc x b = some (0, sc)) ∨ ((Z 3 i = 2 ∧ Z 4 i = wn x) ∧ r = M ∧ ∃ sc' sm', C_X5_takesHead sc x b = some (1, sc') ∧ M_errs sm 3 = (-1, sm') ∧ FS sc' sm' ∧ fc sc sc' ∧ fm sm sm') ∨ ((Z 3 i = 2 ∧ Z 4 i = wn x) ∧ r < M ∧ ∃ sc' sm', C_X5_takesHead sc x b = some (1, sc') ∧ M_reads sm = some sm' ∧ SY f n T Z (i + 1) sc' sm' ∧ fc sc sc' ∧ fm sm sm') := by
  unfold C_X5_takesHead
  rw [sy_word h hx, Bd_some, Lt_e, c_isFull h2 h0 hr hM]
  by_cases g : Z 3 i = 2 ∧ Z 4 i = wn x
  · rw [if_pos g, if_neg i10]
    by_cases q : r = M
    · obtain ⟨sc', sm', b1, b2, b3, b4, b5⟩ := sy_fail h 3 k3
      rw [if_pos q, if_neg i10, b1, Bd_some]
      exact Or.inr (Or.inl ⟨g, q, sc', sm', rfl, b2, b3, b4, b5⟩)
    · obtain ⟨sc', sm', a1, a2, a3, a4, a5⟩ := sy_adv h (by omega)
      rw [if_neg q, if_pos i00, a1, Bd_some]
      exact Or.inr (Or.inr ⟨g, by omega, sc', sm', rfl, a2, a3, a4, a5⟩)
  · rw [if_neg g, if_pos i00]
    exact Or.inl ⟨g, rfl⟩
theorem sm_read1 {f : Nat → Nat} {n T : Nat} {Z : Nat → Nat → Nat} {i w : Nat} {sc sm sm1 : ST} (h : SY f n T Z i sc sm) (g : Z 3 i = 2 ∧ Z 4 i = w) (hr : M_reads sm = some sm1) : M_readWord sm (nI w) = some (0, sm1) := by
  have hw := (h.tk.2.2.1 g.1).2
  unfold M_readWord
  rw [Lt_e, sm_word h (by omega), if_pos g, if_neg i10, hr, Bd_some]
theorem m_told1 {sm sm1 : ST} {w a b : Int32} (h : M_readWord sm w = some (0, sm1)) : M_readTold sm w a b = Bd (M_readNumber sm1 a b) fun y2 => some (y2.1, y2.2) := by
  unfold M_readTold
  rw [h, Bd_some, if_neg (show ¬ (0 : Int32) = -1 by decide)]
theorem m_told0 {sm sm1 : ST} {w a b : Int32} (h : M_readWord sm w = some (-1, sm1)) : M_readTold sm w a b = some (-1, sm1) := by
  unfold M_readTold
  rw [h, Bd_some, if_pos rfl]
theorem sy_told {f : Nat → Nat} {n T : Nat} {Z : Nat → Nat → Nat} {i x w : Nat} {sc sm : ST} (h : SY f n T Z i sc sm) (hx : x < 30) (hw : wn x = w) (a b : Int32) : (∃ v s1 sc' sm', v ≤ 9999 ∧ ¬ nI v < a ∧ nI v ≤ b ∧ C_X5_needWord sc x = some s1 ∧ C_X5_needNumber s1 a b = some (nI v, sc') ∧ M_readTold sm (nI w) a b = some (nI v, sm') ∧ SY f n T Z (i + 2) sc' sm' ∧ fc sc sc' ∧ fm sm sm') ∨ (∃ s1 sc' sm', C_X5_needWord sc x = some s1 ∧ C_X5_needNumber s1 a b = some (0, sc') ∧ M_readTold sm (nI w) a b = some (-1, sm') ∧ FS sc' sm' ∧ fc sc sc' ∧ fm sm sm') := by
  rcases sy_needWord h hx hw with ⟨s1, m1, _, e1, e2, a3, a4, a5⟩ | ⟨s1, m1, e1, e2, b3, b4, b5⟩
  · rcases sy_needNumber a3 a b with ⟨v, sc', sm', hv, _, c1, c2, c3, c4, _, c5, c6, c7⟩ | ⟨sc', sm', c3, c4, c5, c6, c7⟩
    · exact Or.inl ⟨v, s1, sc', sm', hv, c1, c2, e1, c3, by rw [m_told1 e2, c4, Bd_some], c5, a4.tr c6, a5.tr c7⟩
    · exact Or.inr ⟨s1, sc', sm', e1, c3, by rw [m_told1 e2, c4, Bd_some], c5, a4.tr c6, a5.tr c7⟩
  · exact Or.inr ⟨s1, s1, m1, e1, fm_needNumber b3.m a b, m_told0 e2, b3, b4, b5⟩
theorem n_le {v b : Nat} (hv : v ≤ 9999) (hb : b ≤ 9999) : nI v ≤ nI b ↔ v ≤ b := nI_leI (by omega) (by omega)
theorem n_le1 {v b : Nat} (hv : v ≤ 9999) (hb : b ≤ 9999) : nI v ≤ nI b - 1 ↔ v + 1 ≤ b := by
  rw [fa_le, nI_toInt (show v < 2 ^ 31 by omega)]
  have := pk_sub_toInt (a := b) (b := 1) (by omega) (by decide)
  rw [show nI b - 1 = nI b - nI 1 from rfl, this]
  omega
def DK (a b : Nat) (sc sm : ST) : Prop :=
  a ≤ 8 ∧ b ≤ 10 ∧ sc.1 56 0 = nI 8 ∧ sc.1 58 0 = nI 10 ∧ sc.1 56 2 = nI a ∧ sc.1 58 2 = nI b ∧ sm.1 0 38 = nI a ∧ sm.1 0 39 = nI b ∧
  (∀ r, r < a → ∃ x y z, 1 ≤ x ∧ x ≤ 20 ∧ 1 ≤ y ∧ y ≤ 9 ∧ z ≤ 6 ∧ sc.1 57 (4 * r) = nI x ∧ sc.1 57 (4 * r + 1) = nI y ∧ sc.1 57 (4 * r + 2) = nI z ∧ sm.1 16 (24 + 3 * r) = nI x ∧ sm.1 16 (24 + 3 * r + 1) = nI y ∧ sm.1 16 (24 + 3 * r + 2) = nI z) ∧
  (∀ r, r < b → ∃ x y z, x < a ∧ y < a ∧ z < a ∧ sc.1 59 (4 * r) = nI x ∧ sc.1 59 (4 * r + 1) = nI y ∧ sc.1 59 (4 * r + 2) = nI z ∧ sm.1 17 (30 + 3 * r) = nI x ∧ sm.1 17 (30 + 3 * r + 1) = nI y ∧ sm.1 17 (30 + 3 * r + 2) = nI z)
theorem DK.mv {a b : Nat} {sc sm sc' sm' : ST} (h : DK a b sc sm) (p : fc sc sc') (q : fm sm sm') : DK a b sc' sm' := by
  unfold DK at h ⊢
  rw [(p.1 56 (by decide)).1, (p.1 57 (by decide)).1, (p.1 58 (by decide)).1, (p.1 59 (by decide)).1, q.2 38 (by decide), q.2 39 (by decide), (q.1 16 (by decide)).1, (q.1 17 (by decide)).1]
  exact h
theorem gc.add {s : ST} {b k1 k2 k3 k4 : Nat} {x y z w u : Int32} (hb : b ∈ [56, 58, 61, 66, 68]) : gc s (ups (ups (ups (ups (ups s (b + 1) k1 x) (b + 1) k2 y) (b + 1) k3 z) (b + 1) k4 w) b 2 u) := by
  simp only [List.mem_cons, List.not_mem_nil, or_false] at hb
  refine ⟨((((agr.rf.ups ?_).ups ?_).ups ?_).ups ?_).ups ?_, fun j _ => ?_, fun c hc => ?_⟩
  iterate 5
    · simp only [List.mem_cons, List.not_mem_nil, or_false]; omega
  · rw [ups_ne (by omega), ups_ne (by omega), ups_ne (by omega), ups_ne (by omega), ups_ne (by omega)]
  · simp only [List.mem_cons, List.not_mem_nil, or_false] at hc
    rw [ups_z (by decide), ups_ne (by omega), ups_ne (by omega), ups_ne (by omega), ups_ne (by omega)]
/-- a kind, from behind its first word -/
theorem p_kind {f : Nat → Nat} {n T : Nat} {Z : Nat → Nat → Nat} {i a b : Nat} {sc sm s1 m1 : ST} (h0 : SY f n T Z i sc sm) (g : Z 3 i = 2 ∧ Z 4 i = 6) (hm : M_reads sm = some m1) (h : SY f n T Z (i + 1) s1 m1) (p0 : fc sc s1) (q0 : fm sm m1) (D : DK a b sc sm) (ha : a < 8) : (∃ j sc' sm', i < j ∧ C_X3_readKind s1 = some sc' ∧ M_readKind sm = some (0, sm') ∧ SY f n T Z j sc' sm' ∧ DK (a + 1) b sc' sm' ∧ gc sc sc' ∧ gm sm sm') ∨ (∃ sc' sm', C_X3_readKind s1 = some sc' ∧ M_readKind sm = some (-1, sm') ∧ FS sc' sm' ∧ gc sc sc' ∧ gm sm sm') := by
  have e38 : sm.1 0 38 = nI a := D.2.2.2.2.2.2.1
  have h8 : ¬ nI a = (8 : Int32) := fun q => by
    have := (nI_eq (b := 8) (by omega) (by decide)).mp q
    omega
  have hat : (24 : Int32) + (3 : Int32) * nI a = nI (24 + 3 * a) := by
    rw [show (24 : Int32) = nI 24 from rfl, show (3 : Int32) = nI 3 from rfl, nI_mul, nI_add]
  have hm1 : (-1 : Int32) = -1 := rfl
  have t1 : M_readTold sm 6 1 20 = Bd (M_readNumber m1 1 20) fun y2 => some (y2.1, y2.2) := m_told1 (sm_read1 (w := 6) h0 g hm)
  unfold C_X3_readKind M_readKind
  rw [e38, if_neg h8, Lt_e, hat, show nI (24 + 3 * a) + (0 : Int32) = nI (24 + 3 * a) from nI_add _ 0, show nI (24 + 3 * a) + (1 : Int32) = nI (24 + 3 * a + 1) from nI_add _ 1, show nI (24 + 3 * a) + (2 : Int32) = nI (24 + 3 * a + 2) from nI_add _ 2, t1]
  have wr : ∀ k, k ≤ 2 → ∀ {s s' : ST} {x : Int32}, gm s s' → gm s (ups s' 16 (24 + 3 * a + k) x) := fun k _ s s' x hg => hg.wr (Or.inr (Or.inr (Or.inr (Or.inr (Or.inl ⟨rfl, by omega⟩)))))
  rcases (sy_needNumber h 1 20).symm with ⟨s2, m2, c3, c4, c5, p2, q2⟩ | ⟨v1, s2, m2, hv1, _, c1, c2, c3, c4, _, h2, p2, q2⟩
  · have fb := c5.m
    rw [c3, c4, Bd_some, Bd_some, Bd_some]
    dsimp only
    rw [Gs_n (by omega) (by decide), Gl_n (by omega) (by decide), ups_self, if_pos hm1, fm_needWord fb, Bd_some, fm_needNumber fb, Bd_some]
    dsimp only
    rw [fm_needWord fb, Bd_some, fm_needNumber fb, Bd_some]
    dsimp only
    rw [fm_needSign fb, Bd_some, if_neg fb.1]
    exact Or.inr ⟨s2, _, rfl, rfl, c5.w (by decide), (p0.tr p2).g, wr 0 (by decide) (q0.tr q2).g⟩
  rw [c3, c4, Bd_some, Bd_some, Bd_some]
  dsimp only
  rw [Gs_n (by omega) (by decide), Gl_n (by omega) (by decide), ups_self, if_neg (n_nI_m1 (by omega))]
  have h2' := h2.w (c := 16) (k := 24 + 3 * a) (x := nI v1) (by decide)
  rcases (sy_told h2' (x := 2) (w := 14) (by decide) rfl 1 9).symm with ⟨s3, s4, m4, d3, d4, d5, d6, p4, q4⟩ | ⟨v2, s3, s4, m4, hv2, d1, d2, d3, d4, d5, h4, p4, q4⟩
  · have fb := d6.m
    rw [show M_readTold (ups m2 16 (24 + 3 * a) (nI v1)) 14 1 9 = some (-1, m4) from d5, d3, Bd_some, Bd_some, d4, Bd_some]
    dsimp only
    rw [Gs_n (by omega) (by decide), Gl_n (by omega) (by decide), ups_self, if_pos hm1, fm_needWord fb, Bd_some, fm_needNumber fb, Bd_some]
    dsimp only
    rw [fm_needSign fb, Bd_some, if_neg fb.1]
    exact Or.inr ⟨s4, _, rfl, rfl, d6.w (by decide), ((p0.tr p2).tr p4).g, wr 1 (by decide) ((wr 0 (by decide) (q0.tr q2).g).tr q4.g)⟩
  rw [show M_readTold (ups m2 16 (24 + 3 * a) (nI v1)) 14 1 9 = some (nI v2, m4) from d5, d3, Bd_some, Bd_some, d4, Bd_some]
  dsimp only
  rw [Gs_n (by omega) (by decide), Gl_n (by omega) (by decide), ups_self, if_neg (n_nI_m1 (by omega))]
  have h4' := h4.w (c := 16) (k := 24 + 3 * a + 1) (x := nI v2) (by decide)
  rcases (sy_told h4' (x := 3) (w := 15) (by decide) rfl 0 6).symm with ⟨s5, s6, m6, e3, e4, e5, e6, p6, q6⟩ | ⟨v3, s5, s6, m6, hv3, e1, e2, e3, e4, e5, h6, p6, q6⟩
  · have fb := e6.m
    rw [show M_readTold (ups m4 16 (24 + 3 * a + 1) (nI v2)) 15 0 6 = some (-1, m6) from e5, e3, Bd_some, Bd_some, e4, Bd_some]
    dsimp only
    rw [Gs_n (by omega) (by decide), Gl_n (by omega) (by decide), ups_self, if_pos hm1, fm_needSign fb, Bd_some, if_neg fb.1]
    exact Or.inr ⟨s6, _, rfl, rfl, e6.w (by decide), (((p0.tr p2).tr p4).tr p6).g, wr 2 (by decide) ((wr 1 (by decide) ((wr 0 (by decide) (q0.tr q2).g).tr q4.g)).tr q6.g)⟩
  rw [show M_readTold (ups m4 16 (24 + 3 * a + 1) (nI v2)) 15 0 6 = some (nI v3, m6) from e5, e3, Bd_some, Bd_some, e4, Bd_some]
  dsimp only
  rw [Gs_n (by omega) (by decide), Gl_n (by omega) (by decide), ups_self, if_neg (n_nI_m1 (by omega))]
  have h6' := h6.w (c := 16) (k := 24 + 3 * a + 2) (x := nI v3) (by decide)
  have gm6 : gm sm (ups m6 16 (24 + 3 * a + 2) (nI v3)) := wr 2 (by decide) ((wr 1 (by decide) ((wr 0 (by decide) (q0.tr q2).g).tr q4.g)).tr q6.g)
  rcases (sy_needSign h6' (c := 59) (by decide) (by decide)).symm with ⟨s7, m7, f1, f2, f3, p7, q7⟩ | ⟨s7, m7, _, f1, f2, h7, p7, q7⟩
  · rw [show C_X5_needSign s6 59 = some s7 from f1, show M_readMark (ups m6 16 (24 + 3 * a + 2) (nI v3)) 59 = some (-1, m7) from f2, Bd_some, Bd_some, if_neg f3.1]
    dsimp only
    rw [if_pos hm1]
    exact Or.inr ⟨s7, m7, rfl, rfl, f3, ((((p0.tr p2).tr p4).tr p6).tr p7).g, gm6.tr q7.g⟩
  rw [show C_X5_needSign s6 59 = some s7 from f1, show M_readMark (ups m6 16 (24 + 3 * a + 2) (nI v3)) 59 = some (0, m7) from f2, Bd_some, Bd_some, if_pos h7.2.2.2.2.2.1]
  dsimp only
  rw [if_neg (show ¬ (0 : Int32) = -1 by decide), Lt_e]
  have pc := (((p0.tr p2).tr p4).tr p6).tr p7
  obtain ⟨D1, D2, D3, D4, D5, D6, D7, D8, D9, D10⟩ := D
  have r56 : s7.1 56 = sc.1 56 := (pc.1 56 (by decide)).1
  have r57 : s7.1 57 = sc.1 57 := (pc.1 57 (by decide)).1
  have r58 : s7.1 58 = sc.1 58 := (pc.1 58 (by decide)).1
  have r59 : s7.1 59 = sc.1 59 := (pc.1 59 (by decide)).1
  rw [c_add (b := 56) (r := a) (M := 8) (by rw [r56]; exact D5) (by rw [r56]; exact D3) ha (by decide) rfl, Bd_some]
  have m38 : m7.1 0 38 = nI a := by
    rw [q7.2 38 (by decide), ups_ne (by decide), q6.2 38 (by decide), ups_ne (by decide), q4.2 38 (by decide), ups_ne (by decide), q2.2 38 (by decide), q0.2 38 (by decide)]
    exact D7
  have m39 : m7.1 0 39 = nI b := by
    rw [q7.2 39 (by decide), ups_ne (by decide), q6.2 39 (by decide), ups_ne (by decide), q4.2 39 (by decide), ups_ne (by decide), q2.2 39 (by decide), q0.2 39 (by decide)]
    exact D8
  have m16 : ∀ k, m7.1 16 k = if k = 24 + 3 * a + 2 then nI v3 else if k = 24 + 3 * a + 1 then nI v2 else if k = 24 + 3 * a then nI v1 else sm.1 16 k := fun k => by
    rw [(q7.1 16 (by decide)).1, rd1, (q6.1 16 (by decide)).1, rd1, (q4.1 16 (by decide)).1, rd1, (q2.1 16 (by decide)).1, (q0.1 16 (by decide)).1]
  have m17 : m7.1 17 = sm.1 17 := by
    rw [(q7.1 17 (by decide)).1, ups_ne (by decide), (q6.1 17 (by decide)).1, ups_ne (by decide), (q4.1 17 (by decide)).1, ups_ne (by decide), (q2.1 17 (by decide)).1, (q0.1 17 (by decide)).1]
  have b1 : 1 ≤ v1 ∧ v1 ≤ 20 := by
    refine ⟨?_, (n_le hv1 (by decide)).mp c2⟩
    rcases Nat.eq_zero_or_pos v1 with z | z
    · rw [z] at c1; exact absurd (by decide) c1
    · exact z
  have b2 : 1 ≤ v2 ∧ v2 ≤ 9 := by
    refine ⟨?_, (n_le hv2 (by decide)).mp d2⟩
    rcases Nat.eq_zero_or_pos v2 with z | z
    · rw [z] at d1; exact absurd (by decide) d1
    · exact z
  have b3 : v3 ≤ 6 := (n_le hv3 (by decide)).mp e2
  refine Or.inl ⟨i + 1 + 1 + 2 + 2 + 1, _, _, by omega, rfl, rfl, ?_, ?_, pc.g.tr (gc.add (b := 56) (by decide)), (gm6.tr q7.g).wr (Or.inl ⟨rfl, by decide⟩)⟩
  · exact (((((h7.wc (c := 57) (by decide)).wc (c := 57) (by decide)).wc (c := 57) (by decide)).wc (c := 57) (by decide)).wc (c := 56) (by decide)).w0 (by decide)
  · refine ⟨by omega, D2, ?_, ?_, ?_, ?_, ?_, ?_, fun r hr => ?_, fun r hr => ?_⟩
    · rw [ups_z (by decide), ups_ne (by decide), ups_ne (by decide), ups_ne (by decide), ups_ne (by decide), r56]; exact D3
    · rw [ups_ne (by decide), ups_ne (by decide), ups_ne (by decide), ups_ne (by decide), ups_ne (by decide), r58]; exact D4
    · rw [rd1, if_pos rfl]
    · rw [ups_ne (by decide), ups_ne (by decide), ups_ne (by decide), ups_ne (by decide), ups_ne (by decide), r58]; exact D6
    · rw [rd1, if_pos rfl, m38, nI_1]
    · rw [rd1, if_neg (by decide), m39]
    · have c57 : ∀ k, (ups (ups (ups (ups (ups s7 (56 + 1) (4 * a) (nI v1)) (56 + 1) (4 * a + 1) (nI v2)) (56 + 1) (4 * a + 2) (nI v3)) (56 + 1) (4 * a + 3) 0) 56 2 (nI (a + 1))).1 57 k = if k = 4 * a + 3 then 0 else if k = 4 * a + 2 then nI v3 else if k = 4 * a + 1 then nI v2 else if k = 4 * a then nI v1 else sc.1 57 k := fun k => by
        rw [ups_ne (by decide), rd1, rd1, rd1, rd1, r57]
      rw [c57, c57, c57, ups_ne (by decide), m16, m16, m16]
      by_cases e : r = a
      · subst e
        refine ⟨v1, v2, v3, b1.1, b1.2, b2.1, b2.2, b3, ?_, ?_, ?_, ?_, ?_, ?_⟩
        · rw [if_neg (by omega), if_neg (by omega), if_neg (by omega), if_pos rfl]
        · rw [if_neg (by omega), if_neg (by omega), if_pos rfl]
        · rw [if_neg (by omega), if_pos rfl]
        · rw [if_neg (by omega), if_neg (by omega), if_pos rfl]
        · rw [if_neg (by omega), if_pos rfl]
        · rw [if_pos rfl]
      · rw [if_neg (by omega), if_neg (by omega), if_neg (by omega), if_neg (by omega), if_neg (by omega), if_neg (by omega), if_neg (by omega), if_neg (by omega), if_neg (by omega), if_neg (by omega), if_neg (by omega), if_neg (by omega), if_neg (by omega), if_neg (by omega), if_neg (by omega), if_neg (by omega), if_neg (by omega), if_neg (by omega), if_neg (by omega), if_neg (by omega), if_neg (by omega)]
        exact D9 r (by omega)
    · rw [ups_ne (by decide), ups_ne (by decide), ups_ne (by decide), ups_ne (by decide), ups_ne (by decide), r59, ups_ne (by decide), m17]
      obtain ⟨x, y, z, g1, g2, g3, g4⟩ := D10 r hr
      exact ⟨x, y, z, by omega, by omega, by omega, g4⟩
