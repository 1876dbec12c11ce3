/-! # stage 2: both read on -/
def wn (x : Nat) : Nat := [6, 16, 14, 15, 17, 18, 19, 20, 21, 22, 23, 24, 25, 26, 27, 28, 29, 0, 1, 2, 7, 8, 9, 10, 11, 12, 13, 4, 3, 5].getD x 0
theorem wn_ok : ∀ x, x < 30 → wn x < 30 ∧ slen x = dl (wn x) ∧ ∀ j, j < slen x → (sBy x).getD j 0 = nI (db (wn x) j) := by decide +kernel
theorem Gc_n {B : Type} {x j : Nat} {f : Int32 → Option B} (h : j < slen x) (hx : slen x < 100) : Gc x (nI j) f = f ((sBy x).getD j 0) := by
  unfold Gc
  rw [if_pos (inb_nI h (by omega)), nI_clamp (by omega)]
def SY (f : Nat → Nat) (n T : Nat) (Z : Nat → Nat → Nat) (i : Nat) (sc sm : ST) : Prop :=
  CTB f n T Z sc ∧ RT f n sm ∧ i < T ∧ sc.1 49 6 = nI i ∧ sc.1 49 7 = nI (Z 2 i) ∧ sc.1 49 8 = 0 ∧ sc.1 49 9 = -1 ∧ sm.1 0 13 = nI (Z 0 (i + 1)) ∧ sm.1 0 14 = nI (Z 1 i) ∧ sm.1 0 15 = nI (Z 3 i) ∧ (2 ≤ Z 3 i → sm.1 0 16 = nI (Z 4 i))
abbrev fc (s s' : ST) : Prop := agr [49] s s' ∧ ∀ j, j ∉ [6, 7, 8, 9] → s'.1 49 j = s.1 49 j
abbrev fm (s s' : ST) : Prop := agr [0] s s' ∧ ∀ j, j ∉ [13, 14, 15, 16, 30, 31] → s'.1 0 j = s.1 0 j
theorem fc.rf {s : ST} : fc s s := ⟨agr.rf, fun _ _ => rfl⟩
theorem fm.rf {s : ST} : fm s s := ⟨agr.rf, fun _ _ => rfl⟩
theorem fc.tr {a b c : ST} (h : fc a b) (k : fc b c) : fc a c := ⟨h.1.tr k.1, fun j hj => (k.2 j hj).trans (h.2 j hj)⟩
theorem fm.tr {a b c : ST} (h : fm a b) (k : fm b c) : fm a c := ⟨h.1.tr k.1, fun j hj => (k.2 j hj).trans (h.2 j hj)⟩
theorem fc.ups {a b : ST} {i : Nat} {x : Int32} (h : fc a b) (hi : i ∈ [6, 7, 8, 9]) : fc a (ups b 49 i x) := ⟨h.1.ups (by decide), fun j hj => by rw [rd1, if_neg (by rintro rfl; exact hj hi)]; exact h.2 j hj⟩
theorem fm.ups {a b : ST} {i : Nat} {x : Int32} (h : fm a b) (hi : i ∈ [13, 14, 15, 16, 30, 31]) : fm a (ups b 0 i x) := ⟨h.1.ups (by decide), fun j hj => by rw [rd1, if_neg (by rintro rfl; exact hj hi)]; exact h.2 j hj⟩
/-- the first fault is found, the same on both sides -/
def FS (sc sm : ST) : Prop := ¬ sc.1 49 8 = 0 ∧ sc.1 49 7 = 5 ∧ sc.1 49 8 = sm.1 0 30 ∧ sc.1 49 9 = sm.1 0 31
def FM (s : ST) : Prop := ¬ s.1 49 8 = 0 ∧ s.1 49 7 = 5
theorem FS.m {sc sm : ST} (h : FS sc sm) : FM sc := ⟨h.1, h.2.1⟩
theorem i51 : ¬ (5 : Int32) = 1 := by decide
theorem i52 : ¬ (5 : Int32) = 2 := by decide
theorem i53 : ¬ (5 : Int32) = 3 := by decide
theorem i50 : ¬ (5 : Int32) = 0 := by decide
theorem i00 : (0 : Int32) = 0 := rfl
theorem i10 : ¬ (1 : Int32) = 0 := by decide
theorem ia0 : (0 : Int32) &&& 1 = 0 := by decide
theorem ia1 : (1 : Int32) &&& 1 = 1 := by decide
theorem fm_fail {s : ST} (h : FM s) (k : Int32) : C_X5_fail s k = some s := by unfold C_X5_fail; rw [if_neg h.1]
theorem fm_hasWord {s : ST} (h : FM s) (x : Nat) : C_X5_hasWord s x = some 0 := by unfold C_X5_hasWord; rw [h.2, if_neg i51]
theorem fm_hasSign {s : ST} (h : FM s) (x : Int32) : C_X5_hasSign s x = some 0 := by unfold C_X5_hasSign; rw [h.2, if_neg i53]
theorem fm_takesWord {s : ST} (h : FM s) (x : Nat) : C_X5_takesWord s x = some (0, s) := by unfold C_X5_takesWord; rw [fm_hasWord h, Bd_some, if_pos i00, ia0]
theorem fm_takesSign {s : ST} (h : FM s) (x : Int32) : C_X5_takesSign s x = some (0, s) := by unfold C_X5_takesSign; rw [fm_hasSign h, Bd_some, if_pos i00, ia0]
theorem fm_takesHead {s : ST} (h : FM s) (x y : Nat) : C_X5_takesHead s x y = some (0, s) := by unfold C_X5_takesHead; rw [fm_hasWord h, Bd_some, if_pos i00]
theorem fm_needWord {s : ST} (h : FM s) (x : Nat) : C_X5_needWord s x = some s := by unfold C_X5_needWord; rw [fm_takesWord h, Bd_some, if_pos i00, fm_fail h, Bd_some]
theorem fm_needSign {s : ST} (h : FM s) (x : Int32) : C_X5_needSign s x = some s := by unfold C_X5_needSign; rw [fm_takesSign h, Bd_some, if_pos i00, fm_fail h, Bd_some]
theorem fm_peek {s : ST} (h : FM s) : C_X5_peekNumber s = some (-1) := by unfold C_X5_peekNumber; rw [h.2, if_neg i52]
theorem fm_needNumber {s : ST} (h : FM s) (x y : Int32) : C_X5_needNumber s x y = some (0, s) := by unfold C_X5_needNumber; rw [fm_peek h, Bd_some, if_pos rfl, fm_fail h, Bd_some]
theorem fm_needKind {s : ST} (h : FM s) (x : Nat) : C_X3_needKind s x = some (0, s) := by unfold C_X3_needKind; rw [fm_needNumber h, Bd_some]
theorem fm_needCell {s : ST} (h : FM s) : C_X3_needCell s = some (0, s) := by
  unfold C_X3_needCell
  rw [fm_peek h, Bd_some, Lt_e, Lt_e, c_isCell_out (Or.inl (by decide)), if_pos i00]
  dsimp only
  rw [fm_needNumber h, Bd_some]
theorem fm_needWind {s : ST} (h : FM s) : C_X3_needWind s = some (3, s) := by
  unfold C_X3_needWind
  rw [fm_takesWord h, Bd_some, if_pos i00, fm_takesWord h, Bd_some, if_pos i00, fm_takesWord h, Bd_some, if_pos i00, fm_needWord h, Bd_some]
theorem fm_goesOn {s : ST} (h : FM s) : C_X5_goesOn s = 0 := by unfold C_X5_goesOn; rw [if_neg h.1]
theorem n_nle1 {n : Nat} (h : n < 2 ^ 31) : ¬ nI n ≤ (-1 : Int32) := by
  have e : (-1 : Int32).toInt = -1 := by decide
  rw [fa_le, nI_toInt h, e]
  omega
theorem SY.row {f : Nat → Nat} {n T : Nat} {Z : Nat → Nat → Nat} {i : Nat} {sc sm : ST} (h : SY f n T Z i sc sm) : ROW f n Z i sc ∧ (Z 2 i = 0 ↔ i + 1 = T) := h.1.2.2.2.2.2 i h.2.2.1
theorem SY.i400 {f : Nat → Nat} {n T : Nat} {Z : Nat → Nat → Nat} {i : Nat} {sc sm : ST} (h : SY f n T Z i sc sm) : i ≤ 400 := by
  have := h.2.2.1
  have := h.1.2.2.1
  omega
theorem num4 {f : Nat → Nat} {q d : Nat} (hd : d ≤ 4) (h : ∀ j, j < d → 48 ≤ f (q + j) ∧ f (q + j) ≤ 57) : numv f q d ≤ 9999 := by
  have h1 := numv_lt h
  have h2 : 10 ^ d ≤ 10 ^ 4 := Nat.pow_le_pow_right (by decide) hd
  omega
/-- what a token can be -/
theorem SY.tk {f : Nat → Nat} {n T : Nat} {Z : Nat → Nat → Nat} {i : Nat} {sc sm : ST} (h : SY f n T Z i sc sm) : (Z 2 i = 0 ↔ Z 3 i = 0) ∧ Z 3 i ≤ 4 ∧ (Z 3 i = 2 → Z 2 i = 1 ∧ Z 4 i < 30) ∧ (Z 3 i = 3 → Z 2 i = 2 ∧ Z 4 i ≤ 9999) ∧ (Z 3 i = 4 → Z 2 i = 3 ∧ mk (Z 4 i) = true ∧ Z 4 i < 128) ∧ Z 1 i ≤ n ∧ Z 2 i ≤ 3 := by
  obtain ⟨⟨⟨h1, h2, h3⟩, _⟩, _⟩ := h.row
  have hb := h.2.1.2.2.2.1
  rcases h3 with t | t | t | t
  · obtain ⟨t1, t2, t3, t4⟩ := t
    exact ⟨by omega, by omega, by omega, by omega, by omega, by omega, by omega⟩
  · obtain ⟨t1, t2, t3, t4, t5⟩ := t
    exact ⟨by omega, by omega, fun _ => ⟨t2, by omega⟩, by omega, by omega, by omega, by omega⟩
  · obtain ⟨t1, t2, t3, t4, t5⟩ := t
    refine ⟨by omega, by omega, by omega, fun hg => ⟨t2, ?_⟩, by omega, by omega, by omega⟩
    rcases t5 with ⟨u1, u2, u3⟩ | ⟨u1, u2⟩
    · rw [u3]
      refine num4 (by omega) (fun j hj => ?_)
      by_cases e : j = 0
      · rw [e]; exact (cls_b _ (hb _ t1)).2.2.1 t3
      · have := t4.2.1
        exact (cls_b _ (hb _ (by omega))).2.2.1 (t4.2.2.1 _ (by omega) (by omega))
    · omega
  · obtain ⟨t1, t2, t3, t4, t5⟩ := t
    refine ⟨by omega, by omega, by omega, by omega, fun hg => ?_, by omega, by omega⟩
    rcases t5 with ⟨u1, u2, u3⟩ | ⟨u1, u2⟩
    · rw [u3]
      exact ⟨t2, u2, ((cls_b _ (hb _ t1)).2.2.2 u2).2⟩
    · omega
theorem sy_word {f : Nat → Nat} {n T : Nat} {Z : Nat → Nat → Nat} {i x : Nat} {sc sm : ST} (h : SY f n T Z i sc sm) (hx : x < 30) : C_X5_hasWord sc x = some (if Z 3 i = 2 ∧ Z 4 i = wn x then 1 else 0) := by
  obtain ⟨w1, w2, w3⟩ := wn_ok x hx
  obtain ⟨_, _, _, d4, d5, _⟩ := dict_w (wn x) w1
  obtain ⟨⟨T1, r1, r2, r3, r4⟩, _⟩ := h.row
  have hi := h.i400
  have h400 := h.2.1.2.1
  have htape := h.1.1.2.2.1
  have hb := h.1.1.2.2.2
  unfold C_X5_hasWord
  have k2 := h.tk
  have e1 : nI (Z 2 i) = (1 : Int32) ↔ Z 2 i = 1 := nI_eq (b := 1) (by omega) (by decide)
  rw [h.2.2.2.2.1, h.2.2.2.1]
  by_cases hk : ¬ Z 2 i = 1
  · rw [if_neg (fun q => hk (e1.mp q)), if_neg (fun q => hk (k2.2.2.1 q.1).1)]
  have hk := Classical.not_not.mp hk
  have q4 : ¬ (400 : Int32) < nI i := by rw [show (400 : Int32) = nI 400 from rfl, nI_ltI (by decide) (by omega)]; omega
  rw [if_pos (e1.mpr hk), if_neg q4, Gl_n (by omega) (by decide), r3 hk]
  obtain ⟨_, _, T1⟩ := T1
  have T2 : Z 1 i < n ∧ RUN f n 1 (Z 1 i + 1) (Z 0 (i + 1)) ∧ ((Z 3 i = 2 ∧ Z 4 i < 30 ∧ MT f (Z 1 i) (Z 0 (i + 1)) (Z 4 i)) ∨ (Z 3 i = 1 ∧ ∀ w, w < 30 → ¬ MT f (Z 1 i) (Z 0 (i + 1)) w)) := by
    rcases T1 with t | t | t | t
    · omega
    · exact ⟨t.1, t.2.2.2.1, t.2.2.2.2⟩
    · omega
    · omega
  obtain ⟨t1, t4, t5⟩ := T2
  have hen := t4.2.1
  have hqe : Z 1 i < Z 0 (i + 1) := by have := t4.1; omega
  have hit : (Z 3 i = 2 ∧ Z 4 i = wn x) ↔ MT f (Z 1 i) (Z 0 (i + 1)) (wn x) := by
    constructor
    · rintro ⟨g1, g2⟩
      rcases t5 with ⟨_, _, u⟩ | ⟨u, _⟩
      · rw [g2] at u; exact u
      · omega
    · intro hm
      rcases t5 with ⟨u1, u2, u3⟩ | ⟨_, u⟩
      · exact ⟨u1, MT_1 u2 w1 u3 hm⟩
      · exact absurd hm (u _ w1)
  have el : nI (Z 0 (i + 1) - Z 1 i) = nI (slen x) ↔ Z 0 (i + 1) - Z 1 i = slen x := nI_eq (by omega) (by omega)
  by_cases hl : ¬ Z 0 (i + 1) - Z 1 i = slen x
  · rw [if_neg (fun q => hl (el.mp q)), if_neg (fun q => hl (by have := (hit.mp q).1; omega))]
  have hl := Classical.not_not.mp hl
  rw [if_pos (el.mpr hl), Gl_n (by omega) (by decide), r2]
  refine lo1 (Q := fun o => o = some (if Z 3 i = 2 ∧ Z 4 i = wn x then 1 else 0)) (I := fun m a => ∃ j, j + m = slen x ∧ a = nI j ∧ ∀ t, t < j → f (Z 1 i + t) = db (wn x) t) ?_ FU (slen x) _ (by unfold FU; omega) ⟨0, by omega, rfl, fun t ht => absurd ht (Nat.not_lt_zero t)⟩
  rintro m rf a ⟨j, hm, rfl, heq⟩ ih
  cases m with
  | zero =>
    have hj : j = slen x := by omega
    subst hj
    rw [if_pos (le_t (by omega)), if_pos (hit.mpr ⟨by omega, fun t ht => heq t (by omega)⟩)]
  | succ m =>
    have hj : j < slen x := by omega
    rw [if_neg (nle_t hj (by omega)), nI_add, if_neg (show ¬ (400 : Int32) ≤ nI (Z 1 i + j) from nle_t (n := 400) (by omega) (by decide)), Gl_n (by omega) (by decide), htape _ (by omega), Gc_n hj (by omega), w3 j hj, nI_1]
    have hbj := hb (Z 1 i + j) (by omega)
    by_cases g : f (Z 1 i + j) = db (wn x) j
    · rw [g, if_pos rfl]
      exact ih m _ (Nat.lt_succ_self m) ⟨j + 1, by omega, rfl, fun t ht => by
        by_cases e : t = j
        · rw [e, g]
        · exact heq t (by omega)⟩
    · have hdb := (dict_w (wn x) w1).2.2.2.2.2 j (by omega)
      rw [if_neg (show ¬ nI (f (Z 1 i + j)) = nI (db (wn x) j) from fun q => g ((nI_eq (by omega) (by omega)).mp q)), if_neg (fun q => g ((hit.mp q).2 j (by omega)))]
theorem sy_sign {f : Nat → Nat} {n T : Nat} {Z : Nat → Nat → Nat} {i c : Nat} {sc sm : ST} (h : SY f n T Z i sc sm) (hc : mk c = true) (hc2 : c < 128) : C_X5_hasSign sc (nI c) = some (if Z 3 i = 4 ∧ Z 4 i = c then 1 else 0) := by
  obtain ⟨⟨T1, r1, r2, r3, r4⟩, _⟩ := h.row
  have hi := h.i400
  have h400 := h.2.1.2.1
  have htape := h.1.1.2.2.1
  have hb := h.1.1.2.2.2
  unfold C_X5_hasSign
  have k2 := h.tk
  have e1 : nI (Z 2 i) = (3 : Int32) ↔ Z 2 i = 3 := nI_eq (b := 3) (by omega) (by decide)
  rw [h.2.2.2.2.1, h.2.2.2.1]
  by_cases hk : ¬ Z 2 i = 3
  · rw [if_neg (fun q => hk (e1.mp q)), if_neg (fun q => hk (k2.2.2.2.2.1 q.1).1)]
  have hk := Classical.not_not.mp hk
  have q4 : ¬ (400 : Int32) < nI i := by rw [show (400 : Int32) = nI 400 from rfl, nI_ltI (by decide) (by omega)]; omega
  have T2 : Z 1 i < n ∧ ((Z 3 i = 4 ∧ mk (f (Z 1 i)) = true ∧ Z 4 i = f (Z 1 i)) ∨ (Z 3 i = 1 ∧ mk (f (Z 1 i)) = false)) := by
    rcases T1.2.2 with t | t | t | t
    · omega
    · omega
    · omega
    · exact ⟨t.1, t.2.2.2.2⟩
  obtain ⟨t1, t5⟩ := T2
  have hbq := hb _ t1
  rw [if_pos (e1.mpr hk), if_neg q4, Gl_n (by omega) (by decide), r2, if_neg (show ¬ (400 : Int32) ≤ nI (Z 1 i) from nle_t (n := 400) (by omega) (by decide)), Gl_n (by omega) (by decide), r2, Gl_n (by omega) (by decide), htape _ t1]
  have ec : nI (f (Z 1 i)) = nI c ↔ f (Z 1 i) = c := nI_eq (by omega) (by omega)
  by_cases g : f (Z 1 i) = c
  · have hit : Z 3 i = 4 ∧ Z 4 i = c := by
      rcases t5 with ⟨u1, _, u3⟩ | ⟨_, u2⟩
      · exact ⟨u1, u3.trans g⟩
      · rw [g, hc] at u2; cases u2
    rw [if_pos (ec.mpr g), if_pos hit]
  · have hit : ¬ (Z 3 i = 4 ∧ Z 4 i = c) := by
      rintro ⟨q1, q2⟩
      rcases t5 with ⟨u1, _, u3⟩ | ⟨u1, _⟩
      · exact g (u3.symm.trans q2)
      · omega
    rw [if_neg (fun q => g (ec.mp q)), if_neg hit]
theorem sy_peek {f : Nat → Nat} {n T : Nat} {Z : Nat → Nat → Nat} {i : Nat} {sc sm : ST} (h : SY f n T Z i sc sm) : C_X5_peekNumber sc = some (if Z 3 i = 3 then nI (Z 4 i) else -1) := by
  obtain ⟨⟨T1, r1, r2, r3, r4⟩, _⟩ := h.row
  have hi := h.i400
  unfold C_X5_peekNumber
  have k2 := h.tk
  have e1 : nI (Z 2 i) = (2 : Int32) ↔ Z 2 i = 2 := nI_eq (b := 2) (by omega) (by decide)
  rw [h.2.2.2.2.1, h.2.2.2.1]
  by_cases hk : ¬ Z 2 i = 2
  · rw [if_neg (fun q => hk (e1.mp q)), if_neg (fun q => hk (k2.2.2.2.1 q).1)]
  have hk := Classical.not_not.mp hk
  have q4 : ¬ (400 : Int32) < nI i := by rw [show (400 : Int32) = nI 400 from rfl, nI_ltI (by decide) (by omega)]; omega
  rw [if_pos (e1.mpr hk), if_neg q4, Gl_n (by omega) (by decide), r4 hk]
theorem sy_goesOn {f : Nat → Nat} {n T : Nat} {Z : Nat → Nat → Nat} {i : Nat} {sc sm : ST} (h : SY f n T Z i sc sm) : C_X5_goesOn sc = if Z 3 i = 0 then 0 else 1 := by
  have k2 := h.tk
  have e1 : nI (Z 2 i) = (0 : Int32) ↔ Z 2 i = 0 := nI_eq (b := 0) (by omega) (by decide)
  unfold C_X5_goesOn
  rw [h.2.2.2.2.2.1, if_pos i00, h.2.2.2.2.1]
  by_cases g : Z 3 i = 0
  · rw [if_pos g, if_pos (e1.mpr (k2.1.mpr g))]
  · rw [if_neg g, if_neg (fun q => g (k2.1.mp (e1.mp q)))]
theorem sm_word {f : Nat → Nat} {n T : Nat} {Z : Nat → Nat → Nat} {i w : Nat} {sc sm : ST} (h : SY f n T Z i sc sm) (hw : w < 1000) : M_isWord sm (nI w) = if Z 3 i = 2 ∧ Z 4 i = w then 1 else 0 := by
  have k2 := h.tk
  have e1 : nI (Z 3 i) = (2 : Int32) ↔ Z 3 i = 2 := nI_eq (b := 2) (by omega) (by decide)
  unfold M_isWord
  rw [h.2.2.2.2.2.2.2.2.2.1]
  by_cases g : Z 3 i = 2
  · have hv := (k2.2.2.1 g).2
    rw [if_pos (e1.mpr g), h.2.2.2.2.2.2.2.2.2.2 (by omega), ite_iff (nI_eq (a := Z 4 i) (b := w) (by omega) (by omega))]
    by_cases g2 : Z 4 i = w
    · rw [if_pos g2, if_pos ⟨g, g2⟩]
    · rw [if_neg g2, if_neg (fun q => g2 q.2)]
  · rw [if_neg (fun q => g (e1.mp q)), if_neg (fun q => g q.1)]
theorem sm_sign {f : Nat → Nat} {n T : Nat} {Z : Nat → Nat → Nat} {i c : Nat} {sc sm : ST} (h : SY f n T Z i sc sm) (hc : c < 1000) : M_isSign sm (nI c) = if Z 3 i = 4 ∧ Z 4 i = c then 1 else 0 := by
  have k2 := h.tk
  have e1 : nI (Z 3 i) = (4 : Int32) ↔ Z 3 i = 4 := nI_eq (b := 4) (by omega) (by decide)
  unfold M_isSign
  rw [h.2.2.2.2.2.2.2.2.2.1]
  by_cases g : Z 3 i = 4
  · have hv := (k2.2.2.2.2.1 g).2.2
    rw [if_pos (e1.mpr g), h.2.2.2.2.2.2.2.2.2.2 (by omega), ite_iff (nI_eq (a := Z 4 i) (b := c) (by omega) (by omega))]
    by_cases g2 : Z 4 i = c
    · rw [if_pos g2, if_pos ⟨g, g2⟩]
    · rw [if_neg g2, if_neg (fun q => g2 q.2)]
  · rw [if_neg (fun q => g (e1.mp q)), if_neg (fun q => g q.1)]
theorem sm_tok {f : Nat → Nat} {n T : Nat} {Z : Nat → Nat → Nat} {i c : Nat} {sc sm : ST} (h : SY f n T Z i sc sm) (hc : c < 1000) : sm.1 0 15 = nI c ↔ Z 3 i = c := by
  have k2 := h.tk
  rw [h.2.2.2.2.2.2.2.2.2.1]
  exact nI_eq (by omega) (by omega)
theorem sy_adv {f : Nat → Nat} {n T : Nat} {Z : Nat → Nat → Nat} {i : Nat} {sc sm : ST} (h : SY f n T Z i sc sm) (hg : ¬ Z 3 i = 0) : ∃ sc' sm', C_X5_advance sc = some sc' ∧ M_reads sm = some sm' ∧ SY f n T Z (i + 1) sc' sm' ∧ fc sc sc' ∧ fm sm sm' := by
  have k2 := h.tk
  have hlast := h.row.2
  have hT := h.1.2.2.1
  have hiT := h.2.2.1
  have hi1 : i + 1 < T := by
    have : ¬ Z 2 i = 0 := fun q => hg (k2.1.mp q)
    omega
  obtain ⟨⟨T1, r1, r2, r3, r4⟩, _⟩ := h.1.2.2.2.2.2 (i + 1) hi1
  obtain ⟨sm', m1, m2, m3, m4, m5, m6⟩ := m_reads h.2.1 h.2.2.2.2.2.2.2.1 T1
  have a1 : C_X5_advance sc = some (ups (ups sc 49 6 (nI (i + 1))) 49 7 (nI (Z 2 (i + 1)))) := by
    unfold C_X5_advance
    rw [h.1.2.2.2.1, h.2.2.2.1, nI_1, if_neg (nle_t hi1 (by omega)), if_neg (show ¬ (400 : Int32) ≤ nI i from nle_t (n := 400) (by omega) (by decide)), Lt_e, rd1, if_pos rfl, Gl_n (by omega) (by decide), Lt_e, ups_ne (by decide), r1]
  obtain ⟨⟨c1, c2, c3, c4⟩, c5, c6, c7, c8, c9⟩ := h.1
  refine ⟨_, sm', a1, m1, ⟨⟨⟨?_, c2, fun j hj => ?_, c4⟩, c5, c6, ?_, c8, fun r hr => ⟨?_, (c9 r hr).2⟩⟩, h.2.1.rs m2, hi1, ?_, ?_, ?_, ?_, m3, m4, m5, m6⟩, (fc.rf.ups (by decide)).ups (by decide), ⟨m2.1, fun j hj => m2.2 j (by simp only [List.mem_cons, List.not_mem_nil, or_false, not_or] at hj ⊢; omega)⟩⟩
  · rw [rd2, if_neg (by decide), if_neg (by decide)]; exact c1
  · rw [ups_ne (by decide), ups_ne (by decide)]; exact c3 j hj
  · rw [rd2, if_neg (by decide), if_neg (by decide)]; exact c7
  · obtain ⟨⟨d1, d2, d3, d4, d5⟩, _⟩ := c9 r hr
    exact ⟨d1, by rw [ups_ne (by decide), ups_ne (by decide)]; exact d2, by rw [ups_ne (by decide), ups_ne (by decide)]; exact d3, fun q => by rw [ups_ne (by decide), ups_ne (by decide)]; exact d4 q, fun q => by rw [ups_ne (by decide), ups_ne (by decide)]; exact d5 q⟩
  · rw [rd2, if_neg (by decide), if_pos rfl]
  · rw [rd2, if_pos rfl]
  · rw [rd2, if_neg (by decide), if_neg (by decide)]; exact h.2.2.2.2.2.1
  · rw [rd2, if_neg (by decide), if_neg (by decide)]; exact h.2.2.2.2.2.2.1
theorem sy_fail {f : Nat → Nat} {n T : Nat} {Z : Nat → Nat → Nat} {i : Nat} {sc sm : ST} (h : SY f n T Z i sc sm) (k : Int32) (hk : ¬ k = 0) : ∃ sc' sm', C_X5_fail sc k = some sc' ∧ M_errs sm k = (-1, sm') ∧ FS sc' sm' ∧ fc sc sc' ∧ fm sm sm' := by
  obtain ⟨⟨T1, r1, r2, r3, r4⟩, _⟩ := h.row
  have hi := h.i400
  have hiT := h.2.2.1
  have hT := h.1.2.2.1
  have q4 : ¬ (400 : Int32) < nI i := by rw [show (400 : Int32) = nI 400 from rfl, nI_ltI (by decide) (by omega)]; omega
  have e1 : C_X5_fail sc k = some (ups (ups (ups sc 49 8 k) 49 9 (nI (Z 1 i))) 49 7 5) := by
    have q5 : (ups sc 49 8 k).1 49 5 = nI T := by rw [rd1, if_neg (by decide)]; exact h.1.2.2.2.1
    have q6 : (ups sc 49 8 k).1 49 6 = nI i := by rw [rd1, if_neg (by decide)]; exact h.2.2.2.1
    unfold C_X5_fail
    rw [h.2.2.2.2.2.1, if_pos i00, Lt_e, Lt_e, Lt_e, q5, q6, if_neg (nle_t hiT (by omega)), if_neg q4, Gl_n (by omega) (by decide)]
    dsimp only
    rw [Lt_e, Lt_e, ups_ne (by decide), r2]
  have e2 : M_errs sm k = (-1, ups (ups sm 0 30 k) 0 31 (nI (Z 1 i))) := by
    unfold M_errs
    rw [Lt_e, Lt_e, rd1, if_neg (by decide), h.2.2.2.2.2.2.2.2.1]
  refine ⟨_, _, e1, e2, ⟨?_, ?_, ?_, ?_⟩, ((fc.rf.ups (by decide)).ups (by decide)).ups (by decide), (fm.rf.ups (by decide)).ups (by decide)⟩
  · rw [rd3, if_neg (by decide), if_neg (by decide), if_pos rfl]; exact hk
  · rw [rd3, if_pos rfl]
  · rw [rd3, if_neg (by decide), if_neg (by decide), if_pos rfl, rd2, if_neg (by decide), if_pos rfl]
  · rw [rd3, if_neg (by decide), if_pos rfl, rd2, if_pos rfl]
theorem k1 : ¬ (1 : Int32) = 0 := by decide
theorem k2 : ¬ (2 : Int32) = 0 := by decide
theorem k3 : ¬ (3 : Int32) = 0 := by decide
theorem sy_takesWord {f : Nat → Nat} {n T : Nat} {Z : Nat → Nat → Nat} {i x : Nat} {sc sm : ST} (h : SY f n T Z i sc sm) (hx : x < 30) : (¬ (Z 3 i = 2 ∧ Z 4 i = wn x) ∧ C_X5_takesWord sc x = some (0, sc)) ∨ (∃ sc' sm', (Z 3 i = 2 ∧ Z 4 i = wn x) ∧ C_X5_takesWord sc x = some (1, sc') ∧ M_reads sm = some sm' ∧ SY f n T Z (i + 1) sc' sm' ∧ fc sc sc' ∧ fm sm sm') := by
  unfold C_X5_takesWord
  rw [sy_word h hx, Bd_some]
  by_cases g : Z 3 i = 2 ∧ Z 4 i = wn x
  · obtain ⟨sc', sm', a1, a2, a3, a4, a5⟩ := sy_adv h (by omega)
    rw [if_pos g, if_neg i10, a1, Bd_some, ia1]
    exact Or.inr ⟨sc', sm', g, rfl, a2, a3, a4, a5⟩
  · rw [if_neg g, if_pos i00, ia0]
    exact Or.inl ⟨g, rfl⟩
theorem sy_takesSign {f : Nat → Nat} {n T : Nat} {Z : Nat → Nat → Nat} {i c : Nat} {sc sm : ST} (h : SY f n T Z i sc sm) (hc : mk c = true) (hc2 : c < 128) : (¬ (Z 3 i = 4 ∧ Z 4 i = c) ∧ C_X5_takesSign sc (nI c) = some (0, sc)) ∨ (∃ sc' sm', (Z 3 i = 4 ∧ Z 4 i = c) ∧ C_X5_takesSign sc (nI c) = some (1, sc') ∧ M_reads sm = some sm' ∧ SY f n T Z (i + 1) sc' sm' ∧ fc sc sc' ∧ fm sm sm') := by
  unfold C_X5_takesSign
  rw [sy_sign h hc hc2, Bd_some]
  by_cases g : Z 3 i = 4 ∧ Z 4 i = c
  · obtain ⟨sc', sm', a1, a2, a3, a4, a5⟩ := sy_adv h (by omega)
    rw [if_pos g, if_neg i10, a1, Bd_some, ia1]
    exact Or.inr ⟨sc', sm', g, rfl, a2, a3, a4, a5⟩
  · rw [if_neg g, if_pos i00, ia0]
    exact Or.inl ⟨g, rfl⟩
theorem sy_needWord {f : Nat → Nat} {n T : Nat} {Z : Nat → Nat → Nat} {i x w : Nat} {sc sm : ST} (h : SY f n T Z i sc sm) (hx : x < 30) (hw : wn x = w) : (∃ sc' sm', (Z 3 i = 2 ∧ Z 4 i = w) ∧ C_X5_needWord sc x = some sc' ∧ M_readWord sm (nI w) = some (0, sm') ∧ SY f n T Z (i + 1) sc' sm' ∧ fc sc sc' ∧ fm sm sm') ∨ (∃ sc' sm', C_X5_needWord sc x = some sc' ∧ M_readWord sm (nI w) = some (-1, sm') ∧ FS sc' sm' ∧ fc sc sc' ∧ fm sm sm') := by
  subst hw
  have hw := (wn_ok x hx).1
  unfold C_X5_needWord M_readWord
  rw [Lt_e, sm_word h (by omega)]
  rcases sy_takesWord h hx with ⟨g, e⟩ | ⟨sc', sm', g, e, a2, a3, a4, a5⟩
  · obtain ⟨sc', sm', b1, b2, b3, b4, b5⟩ := sy_fail h 1 k1
    rw [e, Bd_some, if_pos i00, b1, Bd_some, if_neg g, if_pos i00, Lt_e, b2]
    exact Or.inr ⟨sc', sm', rfl, rfl, b3, b4, b5⟩
  · rw [e, Bd_some, if_neg i10, if_pos g, if_neg i10, a2, Bd_some]
    exact Or.inl ⟨sc', sm', g, rfl, rfl, a3, a4, a5⟩
theorem sy_needSign {f : Nat → Nat} {n T : Nat} {Z : Nat → Nat → Nat} {i c : Nat} {sc sm : ST} (h : SY f n T Z i sc sm) (hc : mk c = true) (hc2 : c < 128) : (∃ sc' sm', (Z 3 i = 4 ∧ Z 4 i = c) ∧ C_X5_needSign sc (nI c) = some sc' ∧ M_readMark sm (nI c) = some (0, sm') ∧ SY f n T Z (i + 1) sc' sm' ∧ fc sc sc' ∧ fm sm sm') ∨ (∃ sc' sm', C_X5_needSign sc (nI c) = some sc' ∧ M_readMark sm (nI c) = some (-1, sm') ∧ FS sc' sm' ∧ fc sc sc' ∧ fm sm sm') := by
  unfold C_X5_needSign M_readMark
  rw [Lt_e, sm_sign h (by omega)]
  rcases sy_takesSign h hc hc2 with ⟨g, e⟩ | ⟨sc', sm', g, e, a2, a3, a4, a5⟩
  · obtain ⟨sc', sm', b1, b2, b3, b4, b5⟩ := sy_fail h 1 k1
    rw [e, Bd_some, if_pos i00, b1, Bd_some, if_neg g, if_pos i00, Lt_e, b2]
    exact Or.inr ⟨sc', sm', rfl, rfl, b3, b4, b5⟩
  · rw [e, Bd_some, if_neg i10, if_pos g, if_neg i10, a2, Bd_some]
    exact Or.inl ⟨sc', sm', g, rfl, rfl, a3, a4, a5⟩
theorem sy_needNumber {f : Nat → Nat} {n T : Nat} {Z : Nat → Nat → Nat} {i : Nat} {sc sm : ST} (h : SY f n T Z i sc sm) (a b : Int32) : (∃ v sc' sm', v ≤ 9999 ∧ (Z 3 i = 3 ∧ Z 4 i = v) ∧ ¬ nI v < a ∧ nI v ≤ b ∧ C_X5_needNumber sc a b = some (nI v, sc') ∧ M_readNumber sm a b = some (nI v, sm') ∧ M_reads sm = some sm' ∧ SY f n T Z (i + 1) sc' sm' ∧ fc sc sc' ∧ fm sm sm') ∨ (∃ sc' sm', C_X5_needNumber sc a b = some (0, sc') ∧ M_readNumber sm a b = some (-1, sm') ∧ FS sc' sm' ∧ fc sc sc' ∧ fm sm sm') := by
  unfold C_X5_needNumber M_readNumber M_isIn
  rw [sy_peek h, Bd_some]
  have e3 : sm.1 0 15 = (3 : Int32) ↔ Z 3 i = 3 := sm_tok h (c := 3) (by decide)
  by_cases g : Z 3 i = 3
  · obtain ⟨_, hv⟩ := h.tk.2.2.2.1 g
    have e16 := h.2.2.2.2.2.2.2.2.2.2 (by omega)
    obtain ⟨sc', sm', b1, b2, b3, b4, b5⟩ := sy_fail h 2 k2
    have bad : ∃ sc' sm', (Bd (C_X5_fail sc (2 : Int32)) fun s1 => some ((0 : Int32), s1)) = some ((0 : Int32), sc') ∧ some ((M_errs sm (2 : Int32)).1, (M_errs sm (2 : Int32)).2) = some ((-1 : Int32), sm') ∧ FS sc' sm' ∧ fc sc sc' ∧ fm sm sm' := ⟨sc', sm', by rw [b1, Bd_some], by rw [b2], b3, b4, b5⟩
    rw [if_pos g, if_neg (n_nI_m1 (by omega)), if_pos (e3.mpr g), e16, Lt_e, Lt_e]
    by_cases c1 : nI (Z 4 i) < a
    · rw [if_pos c1, if_pos c1, if_pos i00, Lt_e]
      exact Or.inr bad
    · rw [if_neg c1, if_neg c1]
      by_cases c2 : nI (Z 4 i) ≤ b
      · obtain ⟨sc', sm', a1, a2, a3, a4, a5⟩ := sy_adv h (by omega)
        rw [if_pos c2, if_neg (i_nlt.mpr c2), if_neg i10, Lt_e, a1, a2, Bd_some, Bd_some]
        exact Or.inl ⟨Z 4 i, sc', sm', hv, ⟨g, rfl⟩, c1, c2, rfl, rfl, rfl, a3, a4, a5⟩
      · rw [if_neg c2, if_pos (i_nle.mp c2), if_pos i00, Lt_e]
        exact Or.inr bad
  · obtain ⟨sc', sm', b1, b2, b3, b4, b5⟩ := sy_fail h 1 k1
    rw [if_neg g, if_pos rfl, b1, Bd_some, if_neg (fun q => g (e3.mp q)), Lt_e, b2]
    exact Or.inr ⟨sc', sm', rfl, rfl, b3, b4, b5⟩
def WH (W H : Nat) (sc sm : ST) : Prop := sc.1 1 0 = nI W ∧ sc.1 1 1 = nI H ∧ sm.1 0 6 + 5 = nI W ∧ sm.1 0 7 + 4 = nI H ∧ W ≤ 7 ∧ H ≤ 7
theorem WH.mv {W H : Nat} {sc sm sc' sm' : ST} (h : WH W H sc sm) (a : fc sc sc') (b : fm sm sm') : WH W H sc' sm' := by
  unfold WH at h ⊢
  rw [(a.1 1 (by decide)).1, b.2 6 (by decide), b.2 7 (by decide)]
  exact h
theorem sy_needCell {f : Nat → Nat} {n T : Nat} {Z : Nat → Nat → Nat} {i W H : Nat} {sc sm : ST} (h : SY f n T Z i sc sm) (w : WH W H sc sm) : (∃ c sc' sm', c < 64 ∧ cl W H c ∧ C_X3_needCell sc = some (nI c, sc') ∧ (if (sm.1 0 15) = (3 : Int32) then (Lt (M_isCell sm (sm.1 0 16)) fun y2 => if y2 = 0 then (Lt (M_errs sm (2 : Int32)) fun y4 => some (y4.1, y4.2)) else (Lt ((sm.1 0 16)) fun y3 => Bd (M_reads sm) fun s1 => some (y3, s1))) else (Lt (M_errs sm (1 : Int32)) fun y5 => some (y5.1, y5.2))) = some (nI c, sm') ∧ SY f n T Z (i + 1) sc' sm' ∧ fc sc sc' ∧ fm sm sm') ∨ (∃ sc' sm', C_X3_needCell sc = some (0, sc') ∧ (if (sm.1 0 15) = (3 : Int32) then (Lt (M_isCell sm (sm.1 0 16)) fun y2 => if y2 = 0 then (Lt (M_errs sm (2 : Int32)) fun y4 => some (y4.1, y4.2)) else (Lt ((sm.1 0 16)) fun y3 => Bd (M_reads sm) fun s1 => some (y3, s1))) else (Lt (M_errs sm (1 : Int32)) fun y5 => some (y5.1, y5.2))) = some (-1, sm') ∧ FS sc' sm' ∧ fc sc sc' ∧ fm sm sm') := by
  obtain ⟨w1, w2, w3, w4, w5, w6⟩ := w
  unfold C_X3_needCell
  rw [sy_peek h, Bd_some, Lt_e, Lt_e]
  have e3 : sm.1 0 15 = (3 : Int32) ↔ Z 3 i = 3 := sm_tok h (c := 3) (by decide)
  by_cases g : Z 3 i = 3
  · obtain ⟨_, hv⟩ := h.tk.2.2.2.1 g
    have e16 := h.2.2.2.2.2.2.2.2.2.2 (by omega)
    rw [if_pos g, if_pos (e3.mpr g), e16, Lt_e]
    have out : C_X1_isCell sc 1 (nI (Z 4 i)) = 0 → M_isCell sm (nI (Z 4 i)) = 0 → ∃ sc' sm', (Bd (C_X5_needNumber sc (0 : Int32) (-1 : Int32)) fun y3 => some (y3.1, y3.2)) = some ((0 : Int32), sc') ∧ (if M_isCell sm (nI (Z 4 i)) = 0 then (Lt (M_errs sm (2 : Int32)) fun y4 => some (y4.1, y4.2)) else (Lt (nI (Z 4 i)) fun y3 => Bd (M_reads sm) fun s1 => some (y3, s1))) = some ((-1 : Int32), sm') ∧ FS sc' sm' ∧ fc sc sc' ∧ fm sm sm' := fun _ q2 => by
      obtain ⟨sc', sm', b1, b2, b3, b4, b5⟩ := sy_fail h 2 k2
      refine ⟨sc', sm', ?_, by rw [q2, if_pos i00, Lt_e, b2], b3, b4, b5⟩
      unfold C_X5_needNumber
      rw [sy_peek h, Bd_some, if_pos g, if_neg (n_nI_m1 (by omega)), Lt_e, if_neg (nI_pos (by omega)), if_neg (n_nle1 (by omega)), b1, Bd_some, Bd_some]
    by_cases hv64 : Z 4 i < 64
    · by_cases hc : cl W H (Z 4 i)
      · obtain ⟨sc', sm', a1, a2, a3, a4, a5⟩ := sy_adv h (by omega)
        have q1 : C_X1_isCell sc 1 (nI (Z 4 i)) = 1 := (c_isCell w1 w2 w5 w6 hv64).trans (if_pos hc)
        have q2 : M_isCell sm (nI (Z 4 i)) = 1 := (m_isCell w3 w4 w5 w6 hv64).trans (if_pos hc)
        rw [q1, q2, if_neg i10, if_neg i10, Lt_e, a2, Bd_some]
        refine Or.inl ⟨Z 4 i, sc', sm', hv64, hc, ?_, rfl, a3, a4, a5⟩
        dsimp only
        unfold C_X5_needNumber
        rw [sy_peek h, Bd_some, if_pos g, if_neg (n_nI_m1 (by omega)), Lt_e, if_neg (nI_pos (by omega)), if_pos (show nI (Z 4 i) ≤ (63 : Int32) by rw [show (63 : Int32) = nI 63 from rfl, nI_leI (by omega) (by decide)]; omega), a1, Bd_some, Bd_some]
      · have q1 : C_X1_isCell sc 1 (nI (Z 4 i)) = 0 := (c_isCell w1 w2 w5 w6 hv64).trans (if_neg hc)
        have q2 : M_isCell sm (nI (Z 4 i)) = 0 := (m_isCell w3 w4 w5 w6 hv64).trans (if_neg hc)
        have := out q1 q2
        rw [q1, if_pos i00]
        exact Or.inr this
    · have q0 : (64 : Int32) ≤ nI (Z 4 i) := by rw [show (64 : Int32) = nI 64 from rfl, nI_leI (by decide) (by omega)]; omega
      have q1 : C_X1_isCell sc 1 (nI (Z 4 i)) = 0 := c_isCell_out (Or.inr q0)
      have q2 : M_isCell sm (nI (Z 4 i)) = 0 := m_isCell_out (Or.inr q0)
      have := out q1 q2
      rw [q1, if_pos i00]
      exact Or.inr this
  · obtain ⟨sc', sm', b1, b2, b3, b4, b5⟩ := sy_fail h 1 k1
    rw [if_neg g, c_isCell_out (Or.inl (by decide)), if_pos i00, if_neg (fun q => g (e3.mp q)), Lt_e, b2]
    refine Or.inr ⟨sc', sm', ?_, rfl, b3, b4, b5⟩
    dsimp only
    unfold C_X5_needNumber
    rw [sy_peek h, Bd_some, if_neg g, if_pos rfl, b1, Bd_some, Bd_some]
