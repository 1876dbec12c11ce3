/-! # stage 2: the tape's tokens, bytes and words -/
def cls (b : Nat) : Nat := if b = 32 ∨ b = 10 then 4 else if 48 ≤ b ∧ b ≤ 57 then 2 else if (65 ≤ b ∧ b ≤ 90) ∨ (97 ≤ b ∧ b ≤ 122) then 1 else 3
def mkL : List Nat := [59, 43, 45, 42, 47, 40, 41, 60, 61, 62]
def mk (b : Nat) : Bool := mkL.contains b
theorem c_sortOf (s : ST) : ∀ b, b < 256 → C_X5_sortOf s (nI b) = nI (cls b) := by
  have h : ∀ b, b < 256 → C_X5_sortOf (fun _ _ => 0, fun _ _ => 0) (nI b) = nI (cls b) := by decide +kernel
  exact h
theorem m_isLetter (s : ST) : ∀ b, b < 256 → M_isLetter s (nI b) = if cls b = 1 then 1 else 0 := by
  have h : ∀ b, b < 256 → M_isLetter (fun _ _ => 0, fun _ _ => 0) (nI b) = if cls b = 1 then 1 else 0 := by decide +kernel
  exact h
theorem m_isDigit (s : ST) : ∀ b, b < 256 → M_isDigit s (nI b) = if cls b = 2 then 1 else 0 := by
  have h : ∀ b, b < 256 → M_isDigit (fun _ _ => 0, fun _ _ => 0) (nI b) = if cls b = 2 then 1 else 0 := by decide +kernel
  exact h
theorem m_isMark (s : ST) : ∀ b, b < 256 → M_isMarkSign s (nI b) = if mk b = true then 1 else 0 := by
  have h : ∀ b, b < 256 → M_isMarkSign (fun _ _ => 0, fun _ _ => 0) (nI b) = if mk b = true then 1 else 0 := by decide +kernel
  exact h
theorem m_isLetter_e (s : ST) : M_isLetter s (-1) = 0 := by
  have h : M_isLetter (fun _ _ => 0, fun _ _ => 0) (-1) = 0 := by decide +kernel
  exact h
theorem m_isDigit_e (s : ST) : M_isDigit s (-1) = 0 := by
  have h : M_isDigit (fun _ _ => 0, fun _ _ => 0) (-1) = 0 := by decide +kernel
  exact h
theorem cls_b : ∀ b, b < 256 → (cls b = 4 ↔ b = 32 ∨ b = 10) ∧ (cls b = 1 ∨ cls b = 2 ∨ cls b = 3 ∨ cls b = 4) ∧ (cls b = 2 → 48 ≤ b ∧ b ≤ 57) ∧ (mk b = true → cls b = 3 ∧ b < 128) := by decide +kernel
/-! the words -/
def dW : List (List Nat) := [[103, 117, 115, 116], [104, 97, 114, 109], [119, 104, 101, 110], [111, 114], [97, 110, 100], [110, 111, 116], [107, 105, 110, 100], [119, 101, 116], [115, 111, 105, 108], [98, 101, 115, 105, 100, 101], [100, 97, 121], [101, 100, 103, 101], [104, 101, 100, 103, 101, 115], [115, 116, 111, 114, 109], [108, 97, 115, 116, 115], [115, 112, 114, 101, 97, 100], [99, 114, 111, 115, 115], [119, 105, 116, 104], [116, 111], [119, 97, 110, 116], [99, 97, 108, 109], [97, 116], [111, 110], [119, 111, 114, 116, 104], [115, 111, 119], [119, 101, 101, 100], [110, 111, 114, 116, 104], [101, 97, 115, 116], [115, 111, 117, 116, 104], [119, 101, 115, 116]]
def dP : List Nat := [0, 5, 10, 15, 18, 22, 26, 31, 35, 40, 47, 51, 56, 63, 69, 75, 82, 88, 93, 96, 101, 106, 109, 112, 118, 122, 127, 133, 138, 144, 149]
def dl (w : Nat) : Nat := (dW.getD w []).length
def db (w i : Nat) : Nat := (dW.getD w []).getD i 0
def dp (w : Nat) : Nat := dP.getD w 0
theorem dict_w : ∀ w, w < 30 → wdL.getD (dp (w + 1)) 0 = 32 ∧ dp (w + 1) = dp w + 1 + dl w ∧ dp (w + 1) ≤ 149 ∧ 1 ≤ dl w ∧ dl w ≤ 6 ∧ ∀ i, i < dl w → wdL.getD (dp w + 1 + i) 0 = nI (db w i) ∧ db w i ≠ 32 ∧ db w i < 256 := by decide +kernel
theorem dict_1 : ∀ w, w < 30 → ∀ w', w' < 30 → dl w = dl w' → (∀ i, i < dl w → db w i = db w' i) → w = w' := by decide +kernel
def MT (f : Nat → Nat) (q e w : Nat) : Prop := e = q + dl w ∧ ∀ i, i < dl w → f (q + i) = db w i
theorem MT_1 {f : Nat → Nat} {q e w w' : Nat} (hw : w < 30) (hw' : w' < 30) (h : MT f q e w) (h' : MT f q e w') : w = w' := by
  have hl : dl w = dl w' := by have := h.1; have := h'.1; omega
  exact dict_1 w hw w' hw' hl (fun i hi => by rw [← h.2 i hi, h'.2 i (by omega)])
def numv (f : Nat → Nat) (q : Nat) : Nat → Nat
  | 0 => 0
  | d + 1 => 10 * numv f q d + (f (q + d) - 48)
theorem numv_lt {f : Nat → Nat} {q : Nat} : ∀ {d : Nat}, (∀ j, j < d → 48 ≤ f (q + j) ∧ f (q + j) ≤ 57) → numv f q d < 10 ^ d
  | 0, _ => by show 0 < 10 ^ 0; decide
  | d + 1, h => by
    have h1 := numv_lt (d := d) (fun j hj => h j (by omega))
    have h2 := h d (by omega)
    show 10 * numv f q d + (f (q + d) - 48) < 10 ^ (d + 1)
    rw [Nat.pow_succ]
    omega
/-- a row of the tape with one property, as far as it goes -/
def RUN (f : Nat → Nat) (n c p e : Nat) : Prop := p ≤ e ∧ e ≤ n ∧ (∀ j, p ≤ j → j < e → cls (f j) = c) ∧ (e < n → cls (f e) ≠ c)
/-- a token: read from p on it stands at q and ends at e; k is the class's sort of it, (g, v) the reference's -/
def TKN (f : Nat → Nat) (n p q e k g v : Nat) : Prop :=
  p ≤ q ∧ (∀ j, p ≤ j → j < q → cls (f j) = 4) ∧
  ((q = n ∧ k = 0 ∧ g = 0 ∧ e = n) ∨
   (q < n ∧ k = 1 ∧ cls (f q) = 1 ∧ RUN f n 1 (q + 1) e ∧ ((g = 2 ∧ v < 30 ∧ MT f q e v) ∨ (g = 1 ∧ ∀ w, w < 30 → ¬ MT f q e w))) ∨
   (q < n ∧ k = 2 ∧ cls (f q) = 2 ∧ RUN f n 2 (q + 1) e ∧ ((g = 3 ∧ e ≤ q + 4 ∧ v = numv f q (e - q)) ∨ (g = 1 ∧ q + 4 < e))) ∨
   (q < n ∧ k = 3 ∧ cls (f q) = 3 ∧ e = q + 1 ∧ ((g = 4 ∧ mk (f q) = true ∧ v = f q) ∨ (g = 1 ∧ mk (f q) = false))))
def RT (f : Nat → Nat) (n : Nat) (s : ST) : Prop := s.1 0 12 = nI n ∧ n ≤ 400 ∧ (∀ j, j < n → s.1 6 j = nI (f j)) ∧ (∀ j, j < n → f j < 256) ∧ ∀ i, i < 150 → s.1 7 i = wdL.getD i 0
theorem RT.ups {f : Nat → Nat} {n : Nat} {s : ST} {i : Nat} {x : Int32} (h : RT f n s) (hi : i ≠ 12) : RT f n (ups s 0 i x) := by
  obtain ⟨h1, h2, h3, h4, h5⟩ := h
  exact ⟨by rw [ups_pl (by intro e; injection e with _ e; exact hi e.symm)]; exact h1, h2, fun j hj => by rw [ups_ne (by decide)]; exact h3 j hj, h4, fun j hj => by rw [ups_ne (by decide)]; exact h5 j hj⟩
theorem m_raw {f : Nat → Nat} {n k : Nat} {s : ST} (h : RT f n s) (hk : k ≤ 1000) : M_raw s (nI k) = some (if k < n then nI (f k) else -1) := by
  obtain ⟨h1, h2, h3, h4, _⟩ := h
  unfold M_raw
  rw [h1, ite_iff (nI_leI (by omega) (by omega))]
  by_cases q : k < n
  · rw [if_neg (by omega), Gl_n (by omega) (by decide), h3 k q, if_pos q]
  · rw [if_pos (by omega), if_neg q]
theorem m_wordAt {f : Nat → Nat} {n q e : Nat} {s : ST} (h : RT f n s) (hq : q < e) (he : e ≤ n) (hl : ∀ j, q ≤ j → j < e → cls (f j) = 1) : ∃ v, M_wordAt s (nI q) (nI e) = some v ∧ ((∃ w, w < 30 ∧ MT f q e w ∧ v = nI w) ∨ ((∀ w, w < 30 → ¬ MT f q e w) ∧ v = -1)) := by
  obtain ⟨_, h400, htape, h256, hd⟩ := h
  have hq400 : q < 400 := by omega
  unfold M_wordAt
  refine lo2 (Q := fun o => ∃ v, o = some v ∧ ((∃ w, w < 30 ∧ MT f q e w ∧ v = nI w) ∨ ((∀ w, w < 30 → ¬ MT f q e w) ∧ v = -1))) (I := fun m a b => ∃ w, w + m = 30 ∧ a = nI w - 1 ∧ b = nI (dp w) ∧ ∀ w', w' < w → ¬ MT f q e w') ?_ FU 30 _ _ (by unfold FU; omega) ⟨0, by omega, by decide, by decide, fun w' hw => absurd hw (Nat.not_lt_zero w')⟩
  rintro m rf a b ⟨w, hm, rfl, rfl, hno⟩ ih
  cases m with
  | zero =>
    have hw : w = 30 := by omega
    subst hw
    rw [if_pos (by decide)]
    exact ⟨_, rfl, Or.inr ⟨hno, rfl⟩⟩
  | succ m =>
    have hw : w < 30 := by omega
    obtain ⟨d1, d2, d3, d4, d5, d6⟩ := dict_w w hw
    rw [if_neg (show ¬ (149 : Int32) ≤ nI (dp w) from nle_t (n := 149) (by omega) (by decide)), Lt_e, Int32.sub_add_cancel, nI_1]
    -- on to the next word
    have nxt : ¬ MT f q e w → ∃ v, lpK1 (C := Int32) (fun (rec3 : Int32 → Option (Int32)) (a4 : Int32) => Gl s 7 150 a4 fun y3 => if y3 = (32 : Int32) then (rf (nI w) a4) else (Lt ((a4 + (1 : Int32))) fun y4 => rec3 y4)) FU (nI (dp w + 1)) = some v ∧ ((∃ w, w < 30 ∧ MT f q e w ∧ v = nI w) ∨ ((∀ w, w < 30 → ¬ MT f q e w) ∧ v = -1)) := by
      intro hnot
      refine lo1 (Q := fun o => ∃ v, o = some v ∧ ((∃ w, w < 30 ∧ MT f q e w ∧ v = nI w) ∨ ((∀ w, w < 30 → ¬ MT f q e w) ∧ v = -1))) (I := fun m a => ∃ i, i + m = dl w ∧ a = nI (dp w + 1 + i)) ?_ FU (dl w) _ (by unfold FU; omega) ⟨0, by omega, rfl⟩
      rintro m2 rf2 a ⟨i, hi, rfl⟩ ih2
      rw [Gl_n (by omega) (by decide), hd _ (by omega)]
      cases m2 with
      | zero =>
        have hi : i = dl w := by omega
        subst hi
        rw [← d2, d1, if_pos rfl]
        refine ih m _ _ (Nat.lt_succ_self m) ⟨w + 1, by omega, (n_sub1 w).symm, rfl, fun w' hw' => ?_⟩
        by_cases e2 : w' = w
        · rw [e2]; exact hnot
        · exact hno w' (by omega)
      | succ m2 =>
        obtain ⟨g1, g2, g3⟩ := d6 i (by omega)
        rw [g1, if_neg (show ¬ nI (db w i) = (32 : Int32) from fun h => g2 ((nI_eq (b := 32) (by omega) (by decide)).mp h)), Lt_e, nI_1]
        exact ih2 m2 _ (Nat.lt_succ_self m2) ⟨i + 1, by omega, rfl⟩
    refine lo1 (Q := fun o => ∃ v, o = some v ∧ ((∃ w, w < 30 ∧ MT f q e w ∧ v = nI w) ∨ ((∀ w, w < 30 → ¬ MT f q e w) ∧ v = -1))) (I := fun m a => ∃ i, i + m = dl w ∧ a = nI i ∧ q + i ≤ e ∧ ∀ j, j < i → f (q + j) = db w j) ?_ FU (dl w) _ (by unfold FU; omega) ⟨0, by omega, rfl, by omega, fun j hj => absurd hj (Nat.not_lt_zero j)⟩
    rintro m2 rf2 a ⟨i, hi, rfl, hqi, heq⟩ ih2
    have hend : i = dl w → wdL.getD (dp w + 1 + i) 0 = 32 := fun h => by rw [h, ← d2, d1]
    rw [Lt_e, Lt_e, Lt_e, nI_add, nI_add, ite_iff (nI_leI (a := e) (b := q + i) (by omega) (by omega))]
    have eqe : nI (q + i) = nI e ↔ q + i = e := nI_eq (by omega) (by omega)
    by_cases h1 : e ≤ q + i
    · have h2 : q + i = e := by omega
      rw [if_pos h1, if_pos (eqe.mpr h2)]
      rw [Gl_n (by omega) (by decide), hd _ (by omega)]
      by_cases h3 : i = dl w
      · rw [hend h3, if_pos rfl]
        exact ⟨_, rfl, Or.inl ⟨w, hw, ⟨by omega, fun j hj => heq j (by omega)⟩, rfl⟩⟩
      · obtain ⟨g1, g2, g3⟩ := d6 i (by omega)
        rw [g1, if_neg (show ¬ nI (db w i) = (32 : Int32) from fun h => g2 ((nI_eq (b := 32) (by omega) (by decide)).mp h))]
        exact nxt (fun h => h3 (by have := h.1; omega))
    · have hlt : q + i < e := by omega
      have hl1 := hl (q + i) (by omega) hlt
      have hb := h256 (q + i) (by omega)
      rw [if_neg h1, Gl_n (k := dp w + 1 + i) (by omega) (by decide), hd _ (by omega), Gl_n (by omega) (by decide), htape _ (by omega), if_neg (show ¬ nI (q + i) = nI e from fun h => by have := eqe.mp h; omega)]
      by_cases h3 : i = dl w
      · have hne : ¬ (32 : Int32) = nI (f (q + i)) := fun h => by
          have h32 : 32 = f (q + i) := (nI_eq (a := 32) (by decide) (by omega)).mp h
          rw [← h32] at hl1
          exact absurd hl1 (by decide)
        rw [hend h3, if_neg hne]
        exact nxt (fun h => by have := h.1; omega)
      · obtain ⟨g1, g2, g3⟩ := d6 i (by omega)
        rw [g1]
        by_cases h4 : db w i = f (q + i)
        · rw [h4, if_pos rfl, Lt_e, nI_1]
          cases m2 with
          | zero => omega
          | succ m2 => exact ih2 m2 _ (Nat.lt_succ_self m2) ⟨i + 1, by omega, rfl, by omega, fun j hj => by
              by_cases e2 : j = i
              · rw [e2, h4]
              · exact heq j (by omega)⟩
        · rw [if_neg (fun h => h4 ((nI_eq (by omega) (by omega)).mp h))]
          exact nxt (fun h => h4 (h.2 i (by omega)).symm)
