/-! # stage 2: meets -/
theorem lkg33 {C D A1 A2 A3 B1 B2 B3 : Type} {F : (A1 → A2 → A3 → Option C) → A1 → A2 → A3 → Option C} {G : (B1 → B2 → B3 → Option D) → B1 → B2 → B3 → Option D} (Q : Option C → Option D → Prop) (I : Nat → A1 → A2 → A3 → B1 → B2 → B3 → Prop)
    (h : ∀ (m : Nat) (rf : A1 → A2 → A3 → Option C) (rg : B1 → B2 → B3 → Option D) (a1 : A1) (a2 : A2) (a3 : A3) (b1 : B1) (b2 : B2) (b3 : B3), (∃ n', m ≤ n' ∧ rg = lpK3 G n') → I m a1 a2 a3 b1 b2 b3 → (∀ m' a1 a2 a3 b1 b2 b3, m' < m → I m' a1 a2 a3 b1 b2 b3 → Q (rf a1 a2 a3) (rg b1 b2 b3)) → Q (F rf a1 a2 a3) (G rg b1 b2 b3)) :
    ∀ (n m : Nat) (a1 : A1) (a2 : A2) (a3 : A3) (b1 : B1) (b2 : B2) (b3 : B3), m < n → I m a1 a2 a3 b1 b2 b3 → Q (lpK3 F n a1 a2 a3) (lpK3 G n b1 b2 b3) := by
  intro n
  induction n with
  | zero => intro m _ _ _ _ _ _ hm; omega
  | succ n ih =>
    intro m a1 a2 a3 b1 b2 b3 hm hI
    exact h m (lpK3 F n) (lpK3 G n) a1 a2 a3 b1 b2 b3 ⟨n, by omega, rfl⟩ hI (fun m' a1 a2 a3 b1 b2 b3 hlt hI' => ih m' a1 a2 a3 b1 b2 b3 (by omega) hI')
theorem m_ofWant {s : ST} {i c : Nat} (hi : i < 10) (hc : c < 4) : M_ofWant s (nI i) (nI c) = some (s.1 18 (4 * i + c)) := by
  unfold M_ofWant
  rw [show (4 : Int32) = nI 4 from rfl, nI_mul, nI_add, Gl_n (by omega) (by decide)]
theorem c_ofWant {W H nk nc nl nw np i c : Nat} {sc sm : ST} (T : TD W H nk nc nl nw np 8 sc sm) (hi : i < nw) (hc : c < 4) : C_X4_of sc 19 (nI i) (nI c) = some (sc.1 20 (4 * i + c)) := by
  have h10 := T.w10
  have l : lc (19 + 1) = 40 := rfl
  exact c_of (b := 19) T.w hi (by omega) hc (by rw [l]; omega) (by decide)
/-- the two numbers of a bit -/
theorem met_sim {W H nk nc nl nw np i : Nat} {sc sm : ST} (L : LD W H nk 72 sc sm) (T : TD W H nk nc nl nw np 8 sc sm) (hi : i < nw) : ∃ b : Bool, C_X6_isMet sc (nI i) = some (if b = true then 1 else 0) ∧ M_isMet sm (nI i) = some (if b = true then 1 else 0) := by
  have h10 : ¬ (1 : Int32) = 0 := by decide
  have hw10 := T.w10
  have hk8 := T.k8
  obtain ⟨c, d, v, c64, hcl, _, _, _, x1, _, _, y1, _, _, hk⟩ := T.wd i hi
  have o0 : C_X4_of sc 19 (nI i) 0 = some (sc.1 20 (4 * i)) := c_ofWant (c := 0) T hi (by decide)
  have o1 : C_X4_of sc 19 (nI i) 1 = some (nI c) := (c_ofWant (c := 1) T hi (by decide)).trans (congrArg some x1)
  have p0 : M_ofWant sm (nI i) 0 = some (sm.1 18 (4 * i)) := m_ofWant (c := 0) (by omega) (by decide)
  have p1 : M_ofWant sm (nI i) 1 = some (nI c) := (m_ofWant (c := 1) (by omega) (by decide)).trans (congrArg some y1)
  obtain ⟨CB, hc0⟩ : ∃ q, C_X6_isMet sc (nI i) = q := ⟨_, rfl⟩
  obtain ⟨MB, hm0⟩ : ∃ q, M_isMet sm (nI i) = q := ⟨_, rfl⟩
  rw [hc0, hm0]
  unfold C_X6_isMet at hc0
  unfold M_isMet at hm0
  rw [o0, Bd_some, o1, Bd_some, Lt_e, c_isCell L.w L.h L.W7 L.H7 c64, if_pos hcl, Lt_e, if_neg h10, Lt_e, c_storm_is c64, Gl_n c64 (by decide)] at hc0
  rw [p0, Bd_some, p1, Bd_some, Bd_some, m_stormOf c64, Bd_some, Bd_some, Bd_some] at hm0
  have hf : ¬ false = true := by decide
  rcases hk with ⟨k1, k2⟩ | ⟨n, hn, k1, k2⟩
  · rw [show sc.1 20 (4 * i) = -1 from k1, if_pos rfl] at hc0
    rw [k2, if_pos rfl, storm_is L c64] at hm0
    cases q : bq (sc.2 72 9) c with
    | false =>
      rw [q, if_neg hf] at hc0 hm0
      exact ⟨true, hc0.symm, hm0.symm⟩
    | true =>
      obtain ⟨_, n, g, hn, _, _, e4, _⟩ := L.st c c64 q
      rw [q, if_pos rfl, show sc.1 76 c = nI n from e4, if_neg (n_nI_m1 (by omega))] at hc0
      rw [q, if_pos rfl] at hm0
      exact ⟨false, hc0.symm, hm0.symm⟩
  · have h8 : ¬ nI n = (8 : Int32) := by
      rw [show (8 : Int32) = nI 8 from rfl, nI_eq (by omega) (by decide)]
      omega
    rw [show sc.1 20 (4 * i) = nI n from k1, if_neg (n_nI_m1 (by omega))] at hc0
    rw [k2, if_neg h8] at hm0
    cases q : bq (sc.2 72 9) c with
    | false =>
      have hm1 : ¬ (0 : Int32) - 1 = nI n := fun h => n_nI_m1 (l := n) (by omega) (h.symm.trans (by decide))
      rw [q, if_neg hf] at hc0
      rw [L.st0 c c64 q, if_neg hm1] at hm0
      exact ⟨false, hc0.symm, hm0.symm⟩
    | true =>
      obtain ⟨_, n', g, hn', _, _, e4, e, _⟩ := L.st c c64 q
      rw [q, if_pos rfl, show sc.1 76 c = nI n' from e4] at hc0
      rw [e, n_sub1] at hm0
      by_cases h : nI n' = nI n
      · rw [if_pos h] at hc0 hm0
        exact ⟨true, hc0.symm, hm0.symm⟩
      · rw [if_neg h] at hc0 hm0
        exact ⟨false, hc0.symm, hm0.symm⟩
/-- the worth of a day's wants, the first that is not met -/
def meW (d : Int32) (D V : Nat → Int32) (t : Nat → Bool) (w : Int32) : Nat → Int32
  | 0 => w
  | n + 1 => if D n = d ∧ t n = true then meW d D V t w n + V n else meW d D V t w n
def meX (d : Int32) (D : Nat → Int32) (t : Nat → Bool) : Nat → Int32
  | 0 => -1
  | n + 1 => if meX d D t n = -1 ∧ D n = d ∧ t n = false then nI n else meX d D t n
theorem meX_stay {d : Int32} {D : Nat → Int32} {t : Nat → Bool} {i : Nat} (h : ¬ meX d D t i = -1) : ∀ k, meX d D t (i + k) = meX d D t i
  | 0 => rfl
  | k + 1 => by
    have e := meX_stay h k
    show (if meX d D t (i + k) = -1 ∧ D (i + k) = d ∧ t (i + k) = false then nI (i + k) else meX d D t (i + k)) = _
    rw [if_neg (fun q => h (e ▸ q.1)), e]
theorem me_m {s : ST} {nw : Nat} {D V : Nat → Int32} {t : Nat → Bool} {K : Int32 → Int32 → Option (Int32 × ST)} (hn : nw ≤ 10) (h40 : s.1 0 40 = nI nw) (hD : ∀ i, i < nw → M_ofWant s (nI i) 2 = some (D i)) (hV : ∀ i, i < nw → M_ofWant s (nI i) 3 = some (V i)) (hM : ∀ i, i < nw → M_isMet s (nI i) = some (if t i = true then 1 else 0)) (w f : Int32) : lpK3 (C := Int32 × ST) (fun (rec2 : Int32 → Int32 → Int32 → Option (Int32 × ST)) (a3 : Int32) (a4 : Int32) (a5 : Int32) => if (s.1 0 40) ≤ a5 then (K a3 a4) else (Bd (M_ofWant s a5 (2 : Int32)) fun y5 => Lt (s.1 1 0) fun y6 => Lt (fun (a6 : Int32) (a7 : Int32) => (rec2 a6 a7 (a5 + (1 : Int32)) : Option (Int32 × ST))) fun j1 => if y5 = y6 then (Bd (M_isMet s a5) fun y7 => if y7 = 0 then (if a4 = (-1 : Int32) then (j1 a3 a5) else (j1 a3 a4)) else (Bd (M_ofWant s a5 (3 : Int32)) fun y8 => Lt ((a3 + y8)) fun y9 => j1 y9 a4)) else (j1 a3 a4))) FU w f (0 : Int32) = K (meW (s.1 1 0) D V t w nw) (if f = -1 then meX (s.1 1 0) D t nw else f) := by
  refine lo3 (Q := fun o => o = K (meW (s.1 1 0) D V t w nw) (if f = -1 then meX (s.1 1 0) D t nw else f)) (I := fun m a b c => ∃ i, i + m = nw ∧ c = nI i ∧ a = meW (s.1 1 0) D V t w i ∧ b = if f = -1 then meX (s.1 1 0) D t i else f) ?_ FU nw _ _ _ (by unfold FU; omega) ⟨0, by omega, rfl, rfl, ?_⟩
  · rintro m rf a b c ⟨i, him, rfl, rfl, rfl⟩ ih
    rw [h40]
    cases m with
    | zero =>
      have hi : i = nw := by omega
      subst hi
      rw [if_pos (le_t (by omega))]
    | succ m =>
      have hi : i < nw := by omega
      have sW : meW (s.1 1 0) D V t w (i + 1) = if D i = s.1 1 0 ∧ t i = true then meW (s.1 1 0) D V t w i + V i else meW (s.1 1 0) D V t w i := rfl
      have sX : meX (s.1 1 0) D t (i + 1) = if meX (s.1 1 0) D t i = -1 ∧ D i = s.1 1 0 ∧ t i = false then nI i else meX (s.1 1 0) D t i := rfl
      rw [if_neg (nle_t hi (by omega)), hD i hi, Bd_some, Lt_e, Lt_e, nI_1]
      by_cases q : D i = s.1 1 0
      · rw [if_pos q, hM i hi, Bd_some]
        cases e : t i with
        | true =>
          rw [ift1, hV i hi, Bd_some, Lt_e]
          refine ih m _ _ _ (Nat.lt_succ_self m) ⟨i + 1, by omega, rfl, ?_, ?_⟩
          · rw [sW, if_pos ⟨q, e⟩]
          · rw [sX, if_neg (show ¬ (meX (s.1 1 0) D t i = -1 ∧ D i = s.1 1 0 ∧ t i = false) from fun h => by rw [e] at h; cases h.2.2)]
        | false =>
          rw [ift0]
          have hw : meW (s.1 1 0) D V t w i = meW (s.1 1 0) D V t w (i + 1) := by rw [sW, if_neg (fun h => by rw [e] at h; cases h.2)]
          by_cases hf : f = -1
          · rw [if_pos hf]
            by_cases hx : meX (s.1 1 0) D t i = -1
            · rw [if_pos hx]
              exact ih m _ _ _ (Nat.lt_succ_self m) ⟨i + 1, by omega, rfl, hw, by rw [if_pos hf, sX, if_pos ⟨hx, q, e⟩]⟩
            · rw [if_neg hx]
              exact ih m _ _ _ (Nat.lt_succ_self m) ⟨i + 1, by omega, rfl, hw, by rw [if_pos hf, sX, if_neg (fun h => hx h.1)]⟩
          · rw [if_neg hf, if_neg hf]
            exact ih m _ _ _ (Nat.lt_succ_self m) ⟨i + 1, by omega, rfl, hw, by rw [if_neg hf]⟩
      · rw [if_neg q]
        refine ih m _ _ _ (Nat.lt_succ_self m) ⟨i + 1, by omega, rfl, ?_, ?_⟩
        · rw [sW, if_neg (fun h => q h.1)]
        · rw [sX, if_neg (show ¬ (meX (s.1 1 0) D t i = -1 ∧ D i = s.1 1 0 ∧ t i = false) from fun h => q h.2.1)]
  · by_cases h : f = -1
    · rw [if_pos h, h]; rfl
    · rw [if_neg h]
theorem me_c {s : ST} {nw : Nat} {x d : Int32} {D V : Nat → Int32} {t : Nat → Bool} {K : Int32 → Option (Int32 × ST)} (hn : nw ≤ 10) (h40 : s.1 19 2 = nI nw) (hD : ∀ i, i < nw → C_X4_of s 19 (nI i) 2 = some (D i)) (hV : ∀ i, i < nw → C_X4_of s 19 (nI i) 3 = some (V i)) (hM : ∀ i, i < nw → C_X6_isMet s (nI i) = some (if t i = true then 1 else 0)) (w : Int32) : lpK2 (C := Int32 × ST) (fun (rec3 : Int32 → Int32 → Option (Int32 × ST)) (a5 : Int32) (a6 : Int32) => if (s.1 19 2) ≤ a6 then (K a5) else (Bd (C_X4_of s 19 a6 (2 : Int32)) fun y3 => Lt (fun (a7 : Int32) => (rec3 a7 (a6 + (1 : Int32)) : Option (Int32 × ST))) fun j1 => if y3 = d then (Bd (C_X6_isMet s a6) fun y4 => if y4 = 0 then (if x = 0 then (some (a6, s)) else (j1 a5)) else (Bd (C_X4_of s 19 a6 (3 : Int32)) fun y5 => Lt ((a5 + y5)) fun y6 => j1 y6)) else (j1 a5))) FU w (0 : Int32) = if x = 0 ∧ ¬ meX d D t nw = -1 then some (meX d D t nw, s) else K (meW d D V t w nw) := by
  refine lo2 (Q := fun o => o = if x = 0 ∧ ¬ meX d D t nw = -1 then some (meX d D t nw, s) else K (meW d D V t w nw)) (I := fun m a c => ∃ i, i + m = nw ∧ c = nI i ∧ a = meW d D V t w i ∧ (x = 0 → meX d D t i = -1)) ?_ FU nw _ _ (by unfold FU; omega) ⟨0, by omega, rfl, rfl, fun _ => rfl⟩
  rintro m rf a c ⟨i, him, rfl, rfl, hx⟩ ih
  rw [h40]
  cases m with
  | zero =>
    have hi : i = nw := by omega
    subst hi
    rw [if_pos (le_t (by omega)), if_neg (fun h => h.2 (hx h.1))]
  | succ m =>
    have hi : i < nw := by omega
    have sW : meW d D V t w (i + 1) = if D i = d ∧ t i = true then meW d D V t w i + V i else meW d D V t w i := rfl
    have sX : meX d D t (i + 1) = if meX d D t i = -1 ∧ D i = d ∧ t i = false then nI i else meX d D t i := rfl
    rw [if_neg (nle_t hi (by omega)), hD i hi, Bd_some, Lt_e, nI_1]
    by_cases q : D i = d
    · rw [if_pos q, hM i hi, Bd_some]
      cases e : t i with
      | true =>
        rw [ift1, hV i hi, Bd_some, Lt_e]
        refine ih m _ _ (Nat.lt_succ_self m) ⟨i + 1, by omega, rfl, ?_, fun h => ?_⟩
        · rw [sW, if_pos ⟨q, e⟩]
        · rw [sX, if_neg (fun h => by rw [e] at h; cases h.2.2)]
          exact hx h
      | false =>
        rw [ift0]
        by_cases h : x = 0
        · have e1 : meX d D t (i + 1) = nI i := by rw [sX, if_pos ⟨hx h, q, e⟩]
          have e2 : meX d D t nw = nI i := by
            have := meX_stay (d := d) (D := D) (t := t) (i := i + 1) (by rw [e1]; exact n_nI_m1 (by omega)) (nw - (i + 1))
            rw [show i + 1 + (nw - (i + 1)) = nw by omega, e1] at this
            exact this
          rw [if_pos h, e2, if_pos ⟨h, n_nI_m1 (by omega)⟩]
        · rw [if_neg h]
          refine ih m _ _ (Nat.lt_succ_self m) ⟨i + 1, by omega, rfl, ?_, fun h2 => absurd h2 h⟩
          rw [sW, if_neg (fun h => by rw [e] at h; cases h.2)]
    · rw [if_neg q]
      refine ih m _ _ (Nat.lt_succ_self m) ⟨i + 1, by omega, rfl, ?_, fun h => ?_⟩
      · rw [sW, if_neg (fun h => q h.1)]
      · rw [sX, if_neg (fun h => q h.2.1)]
        exact hx h
theorem me_lt {e d : Nat} (he : e ≤ 1000) (hd : d ≤ 2000) : nI e - 1 < nI d ↔ e ≤ d := by
  rw [fa_lt, nI_toInt (show d < 2 ^ 31 by omega)]
  have := pk_sub_toInt (a := e) (b := 1) (by omega) (by decide)
  rw [show nI e - 1 = nI e - nI 1 from rfl, this]
  omega
theorem me_le {e d : Nat} (he : e ≤ 1000) (hd : d ≤ 2000) : nI e - 1 ≤ nI d ↔ e ≤ d + 1 := by
  rw [fa_le, nI_toInt (show d < 2 ^ 31 by omega)]
  have := pk_sub_toInt (a := e) (b := 1) (by omega) (by decide)
  rw [show nI e - 1 = nI e - nI 1 from rfl, this]
  omega
/-- the last day that is wanted -/
theorem last_sim {W H nk nc nl nw np : Nat} {sc sm : ST} {C : Type} (T : TD W H nk nc nl nw np 8 sc sm) (K : Int32 → Option C) : ∃ e, e ≤ 1000 ∧ lpK2 (C := C) (fun (rec1 : Int32 → Int32 → Option C) (a1 : Int32) (a2 : Int32) => if (sc.1 19 2) ≤ a2 then (K a1) else (Bd (C_X4_of sc 19 a2 (2 : Int32)) fun y7 => Lt ((imx a1 y7)) fun y8 => rec1 y8 (a2 + (1 : Int32)))) FU (-1 : Int32) (0 : Int32) = K (nI e - 1) ∧ M_lastWanted sm = some (nI e - 1) := by
  have hw10 := T.w10
  unfold M_lastWanted
  refine lk22 (Q := fun oc om => ∃ e, e ≤ 1000 ∧ oc = K (nI e - 1) ∧ om = some (nI e - 1)) (I := fun m a1 a2 b1 b2 => ∃ i e, i + m = nw ∧ e ≤ 1000 ∧ a2 = nI i ∧ b2 = nI i ∧ a1 = nI e - 1 ∧ b1 = nI e - 1) ?_ FU nw _ _ _ _ (by unfold FU; omega) ⟨0, 0, by omega, by decide, rfl, rfl, by decide, by decide⟩
  rintro m rf rg a1 a2 b1 b2 ⟨i, e, him, he, rfl, rfl, rfl, rfl⟩ ih
  rw [show sc.1 19 2 = nI nw from T.w, T.w']
  cases m with
  | zero =>
    have hi : i = nw := by omega
    subst hi
    rw [if_pos (le_t (by omega)), if_pos (le_t (by omega))]
    exact ⟨e, he, rfl, rfl⟩
  | succ m =>
    have hi : i < nw := by omega
    obtain ⟨c, d, v, c64, hcl, hd, _, _, _, x2, _, _, y2, _, _⟩ := T.wd i hi
    have o2 : C_X4_of sc 19 (nI i) 2 = some (nI d) := (c_ofWant (c := 2) T hi (by decide)).trans (congrArg some x2)
    have p2 : M_ofWant sm (nI i) 2 = some (nI d) := (m_ofWant (c := 2) (by omega) (by decide)).trans (congrArg some y2)
    rw [if_neg (nle_t hi (by omega)), if_neg (nle_t hi (by omega)), o2, p2, Bd_some, Bd_some, Lt_e, Lt_e]
    have hd1 : nI d = nI (d + 1) - 1 := (n_sub1 d).symm
    have g1 : imx (nI e - 1) (nI d) = nI (if e ≤ d then d + 1 else e) - 1 := by
      unfold imx
      by_cases q : e ≤ d
      · rw [if_pos ((me_lt he (by omega)).mpr q), if_pos q, hd1]
      · rw [if_neg (fun h => q ((me_lt he (by omega)).mp h)), if_neg q]
    have g2 : M_greater sm (nI e - 1) (nI d) = nI (if e ≤ d then d + 1 else e) - 1 := by
      unfold M_greater
      by_cases q : e ≤ d + 1
      · rw [if_pos ((me_le he (by omega)).mpr q), hd1]
        by_cases q2 : e ≤ d
        · rw [if_pos q2]
        · rw [if_neg q2, show e = d + 1 by omega]
      · rw [if_neg (fun h => q ((me_le he (by omega)).mp h)), if_neg (by omega)]
    rw [g1, g2, nI_1]
    exact ih m _ _ _ _ (Nat.lt_succ_self m) ⟨i + 1, _, by omega, by split <;> omega, rfl, rfl, rfl, rfl⟩
/-- what a day's wants are worth, on both sides -/
theorem me_day {W H nk nc nl nw np : Nat} {sc sm : ST} (L : LD W H nk 72 sc sm) (T : TD W H nk nc nl nw np 8 sc sm) : ∃ (D V : Nat → Int32) (t : Nat → Bool), ∀ i, i < nw → C_X4_of sc 19 (nI i) 2 = some (D i) ∧ M_ofWant sm (nI i) 2 = some (D i) ∧ C_X4_of sc 19 (nI i) 3 = some (V i) ∧ M_ofWant sm (nI i) 3 = some (V i) ∧ C_X6_isMet sc (nI i) = some (if t i = true then 1 else 0) ∧ M_isMet sm (nI i) = some (if t i = true then 1 else 0) := by
  have hw10 := T.w10
  obtain ⟨t, ht⟩ : ∃ t : Nat → Bool, ∀ i (hi : i < nw), t i = (met_sim L T hi).choose := ⟨fun i => if h : i < nw then (met_sim L T h).choose else false, fun i hi => dif_pos hi⟩
  refine ⟨fun i => sm.1 18 (4 * i + 2), fun i => sm.1 18 (4 * i + 3), t, fun i hi => ?_⟩
  obtain ⟨c, d, v, c64, hcl, hd, _, _, _, x2, x3, _, y2, y3, _⟩ := T.wd i hi
  have k := (met_sim L T hi).choose_spec
  rw [← ht i hi] at k
  obtain ⟨k1, k2⟩ := k
  exact ⟨(c_ofWant (c := 2) T hi (by decide)).trans (congrArg some (x2.trans y2.symm)), m_ofWant (c := 2) (by omega) (by decide), (c_ofWant (c := 3) T hi (by decide)).trans (congrArg some (x3.trans y3.symm)), m_ofWant (c := 3) (by omega) (by decide), k1, k2⟩
/-- the reference goes on when the class has its answer -/
theorem me_rest {W H nk nc nl nw np e : Nat} {sc0 sm0 c2 m1 cE : ST} {x ye : Int32} (R : R8 W H nk nc nl nw np sc0 sm0) (t2 : TW sc0 sm0 c2 m1) (aE : agr [17, 18, 72, 73, 74, 75, 76, 77, 78] sc0 cE) (T : TD W H nk nc nl nw np 8 c2 m1) (h5 : m1.1 0 5 = 1) (hx : ¬ x = 0) (he : e ≤ 1000) (hye : ye = nI e - 1) (f : Int32) (hf : ¬ f = -1) (n d : Nat) (w : Int32) (s0 gc : ST) (hd : d ≤ 1000) (hn : e - d < n) (D : Dt W H nk (nI d) c2 m1 gc s0) : ∃ sm', lpK3 (C := Int32 × ST) (fun (rec1 : Int32 → Int32 → ST → Option (Int32 × ST)) (a1 : Int32) (a2 : Int32) (s3 : ST) => Lt (s3.1 1 0) fun y3 => if ye < y3 then (Bd (M_endsThought s3) fun s4 => if x = 0 then (some (a1, s4)) else (some (a2, s4))) else (Bd (M_goesIn s3 (1 : Int32)) fun y4 => lpK3 (C := Int32 × ST) (fun (rec2 : Int32 → Int32 → Int32 → Option (Int32 × ST)) (a3 : Int32) (a4 : Int32) (a5 : Int32) => if (y4.2.1 0 40) ≤ a5 then (Bd (M_goesOut y4.2) fun s5 => rec1 a3 a4 s5) else (Bd (M_ofWant y4.2 a5 (2 : Int32)) fun y5 => Lt (y4.2.1 1 0) fun y6 => Lt (fun (a6 : Int32) (a7 : Int32) => (rec2 a6 a7 (a5 + (1 : Int32)) : Option (Int32 × ST))) fun j1 => if y5 = y6 then (Bd (M_isMet y4.2 a5) fun y7 => if y7 = 0 then (if a4 = (-1 : Int32) then (j1 a3 a5) else (j1 a3 a4)) else (Bd (M_ofWant y4.2 a5 (3 : Int32)) fun y8 => Lt ((a3 + y8)) fun y9 => j1 y9 a4)) else (j1 a3 a4))) FU a1 a2 (0 : Int32))) n w f s0 = some (f, sm') ∧ R8 W H nk nc nl nw np cE sm' := by
  refine lo3 (Q := fun o => ∃ sm', o = some (f, sm') ∧ R8 W H nk nc nl nw np cE sm') (I := fun m a b s => ∃ d gc, m = e - d ∧ d ≤ 1000 ∧ b = f ∧ Dt W H nk (nI d) c2 m1 gc s) ?_ n (e - d) _ _ _ hn ⟨d, gc, rfl, hd, rfl, D⟩
  rintro m rf a b s ⟨d, gc, rfl, hd, rfl, D⟩ ih
  rw [Lt_e, show s.1 1 0 = nI d from D.2.2.2.2, hye, ite_iff (me_lt he (by omega))]
  by_cases q : e ≤ d
  · obtain ⟨q1, k1, k2⟩ := th_end R (tw_D t2 D)
    have k3 : R8 W H nk nc nl nw np cE q1 := by
      obtain ⟨q2, j1, j2⟩ := th_end R (⟨aE, (tw_D t2 D).2⟩ : TW sc0 sm0 cE s)
      rw [k1] at j1
      cases j1
      exact j2
    rw [if_pos q, k1, Bd_some, if_neg hx]
    exact ⟨q1, rfl, k3⟩
  · obtain ⟨v, c3, m3, _, g2, g3⟩ := dawn_t D T h5 1 (Or.inr rfl)
    obtain ⟨c4, m4, _, k2, k3⟩ := dusk_t g3 T h5
    rw [nI_1] at k3
    have T3 := Dt_T g3 T
    obtain ⟨D3, V3, t3, h3⟩ := me_day g3.1 T3
    rw [if_neg q, g2, Bd_some]
    dsimp only
    rw [me_m T3.w10 T3.w' (fun i hi => (h3 i hi).2.1) (fun i hi => (h3 i hi).2.2.2.1) (fun i hi => (h3 i hi).2.2.2.2.2) (K := fun a3 a4 => Bd (M_goesOut m3) fun s5 => rf a3 a4 s5), k2, Bd_some, if_neg hf]
    exact ih (e - (d + 1)) _ _ _ (by omega) ⟨d + 1, c4, rfl, by omega, rfl, k3⟩
theorem s_meets : Sim_meets Rel := by
  rintro sc sm x ⟨W, H, nk, nc, nl, nw, np, R⟩
  have h10 : ¬ (1 : Int32) = 0 := by decide
  have h00 : (0 : Int32) = 0 := rfl
  have R' := R8_told R
  obtain ⟨CB, hc0⟩ : ∃ q, C_X9_meets sc x = q := ⟨_, rfl⟩
  obtain ⟨MB, hm0⟩ : ∃ q, M_meets sm x = q := ⟨_, rfl⟩
  rw [hc0, hm0]
  unfold C_X9_meets at hc0
  unfold M_meets at hm0
  rw [Lt_e, Lt_e] at hm0
  rw [Lt_e, Lt_e] at hc0
  generalize ups sm 0 0 0 = m0 at *
  rcases in01 m0 x with b | ⟨hx, b⟩
  · have hx : ¬ x = 0 ∧ ¬ x = 1 := by
      constructor
      · rintro rfl
        exact absurd b (by unfold M_isIn; decide)
      · rintro rfl
        exact absurd b (by unfold M_isIn; decide)
    rw [if_neg hx.1, if_neg hx.2] at hc0
    rw [b, if_pos h00] at hm0
    exact ⟨-1, _, m0, hc0.symm, hm0.symm, W, H, nk, nc, nl, nw, np, R'⟩
  rw [b, if_neg h10] at hm0
  obtain ⟨x', hx'⟩ : ∃ x' : Int32, x' = if x = 0 then 1 else 0 := ⟨_, rfl⟩
  have hx0 : x' = 0 ↔ ¬ x = 0 := by
    rw [hx']
    by_cases h : x = 0
    · rw [if_pos h]; simp [h]
    · rw [if_neg h]; simp [h]
  have hC : (Bd (C_X6_meeting sc x') fun y1 => some (y1.1, y1.2)) = CB := by
    rw [← hc0, hx']
    rcases hx with rfl | rfl
    · rfl
    · rw [if_neg h10, if_neg h10, if_pos (rfl : (1 : Int32) = 1), if_neg h10]
  clear hc0
  unfold C_X6_meeting at hC
  obtain ⟨e, he, l1, l2⟩ := last_sim R'.T (fun a1 => Bd (C_X1_copy sc 72 1) fun s1 => Lt ((s1.1 1 2)) fun y1 => lpK3 (C := Int32 × ST) (fun (rec2 : Int32 → Int32 → ST → Option (Int32 × ST)) (a3 : Int32) (a4 : Int32) (s2 : ST) => if a1 < a4 then (if x' = 0 then (some ((-1 : Int32), s2)) else (some (a3, s2))) else (Bd (C_X8_dawn_t s2 (1 : Int32)) fun y2 => lpK2 (C := Int32 × ST) (fun (rec3 : Int32 → Int32 → Option (Int32 × ST)) (a5 : Int32) (a6 : Int32) => if (y2.2.1 19 2) ≤ a6 then (Bd (C_X8_dusk_t y2.2) fun s3 => rec2 a5 (a4 + (1 : Int32)) s3) else (Bd (C_X4_of y2.2 19 a6 (2 : Int32)) fun y3 => Lt (fun (a7 : Int32) => (rec3 a7 (a6 + (1 : Int32)) : Option (Int32 × ST))) fun j1 => if y3 = a4 then (Bd (C_X6_isMet y2.2 a6) fun y4 => if y4 = 0 then (if x' = 0 then (some (a6, y2.2)) else (j1 a5)) else (Bd (C_X4_of y2.2 19 a6 (3 : Int32)) fun y5 => Lt ((a5 + y5)) fun y6 => j1 y6)) else (j1 a5))) FU a3 (0 : Int32))) FU (0 : Int32) y1 s1)
  obtain ⟨m1, e1, t1⟩ := th_begin sc m0
  obtain ⟨c2, e2, t2, D, T⟩ := th_copy R' t1
  obtain ⟨d0, hd0, ed0⟩ := R'.d
  have ed1 : c2.1 1 2 = nI d0 := by
    rw [(t2.1.1 1 (by decide)).1, ← ed0]
    exact R'.L.day
  rw [l1, e2, Bd_some, Lt_e, ed1] at hC
  rw [l2, Bd_some, e1, Bd_some] at hm0
  rw [ed0] at D
  have h5 : m1.1 0 5 = 1 := t2.1.2.2.2.1
  suffices hh : ∃ r sc' sm', lpK3 (C := Int32 × ST) (fun (rec2 : Int32 → Int32 → ST → Option (Int32 × ST)) (a3 : Int32) (a4 : Int32) (s2 : ST) => if (nI e - 1) < a4 then (if x' = 0 then (some ((-1 : Int32), s2)) else (some (a3, s2))) else (Bd (C_X8_dawn_t s2 (1 : Int32)) fun y2 => lpK2 (C := Int32 × ST) (fun (rec3 : Int32 → Int32 → Option (Int32 × ST)) (a5 : Int32) (a6 : Int32) => if (y2.2.1 19 2) ≤ a6 then (Bd (C_X8_dusk_t y2.2) fun s3 => rec2 a5 (a4 + (1 : Int32)) s3) else (Bd (C_X4_of y2.2 19 a6 (2 : Int32)) fun y3 => Lt (fun (a7 : Int32) => (rec3 a7 (a6 + (1 : Int32)) : Option (Int32 × ST))) fun j1 => if y3 = a4 then (Bd (C_X6_isMet y2.2 a6) fun y4 => if y4 = 0 then (if x' = 0 then (some (a6, y2.2)) else (j1 a5)) else (Bd (C_X4_of y2.2 19 a6 (3 : Int32)) fun y5 => Lt ((a5 + y5)) fun y6 => j1 y6)) else (j1 a5))) FU a3 (0 : Int32))) FU (0 : Int32) (nI d0) c2 = some (r, sc') ∧ MB = some (r, sm') ∧ Rel sc' sm' by
    obtain ⟨r, c, s, k1, k2, k3⟩ := hh
    rw [k1, Bd_some] at hC
    exact ⟨r, c, s, hC.symm, k2, k3⟩
  rw [← hm0]
  clear hC hm0 l1 l2
  refine lkg33 (Q := fun oc om => ∃ r sc' sm', oc = some (r, sc') ∧ om = some (r, sm') ∧ Rel sc' sm') (I := fun m a1 a2 s1 b1 b2 s2 => ∃ d, m = e - d ∧ d ≤ 1000 ∧ a2 = nI d ∧ a1 = b1 ∧ (x' = 0 → b2 = -1) ∧ Dt W H nk (nI d) c2 m1 s1 s2) ?_ FU (e - d0) _ _ _ _ _ _ (by unfold FU; omega) ⟨d0, rfl, by omega, rfl, rfl, fun _ => rfl, D⟩
  rintro m rf rg a1 a2 s1 b1 b2 s2 ⟨n', hn', hrg⟩ ⟨d, rfl, hd, rfl, rfl, hb2, D1⟩ ih
  rw [Lt_e, show s2.1 1 0 = nI d from D1.2.2.2.2, ite_iff (me_lt he (by omega)), ite_iff (me_lt he (by omega))]
  by_cases q : e ≤ d
  · obtain ⟨q1, k1, R4⟩ := th_end R' (tw_D t2.1 D1)
    rw [if_pos q, if_pos q, k1, Bd_some]
    by_cases h0 : x = 0
    · rw [if_neg (fun h => (hx0.mp h) h0), if_pos h0]
      exact ⟨_, _, _, rfl, rfl, W, H, nk, nc, nl, nw, np, R4⟩
    · rw [if_pos (hx0.mpr h0), if_neg h0, hb2 (hx0.mpr h0)]
      exact ⟨_, _, _, rfl, rfl, W, H, nk, nc, nl, nw, np, R4⟩
  · obtain ⟨v, c3, m3, g1, g2, g3⟩ := dawn_t D1 T h5 1 (Or.inr rfl)
    obtain ⟨c4, m4, k1, k2, k3⟩ := dusk_t g3 T h5
    rw [nI_1] at k3
    have T3 := Dt_T g3 T
    obtain ⟨D3, V3, t3, h3⟩ := me_day g3.1 T3
    rw [if_neg q, if_neg q, g1, g2, Bd_some, Bd_some]
    dsimp only
    rw [me_m T3.w10 T3.w' (fun i hi => (h3 i hi).2.1) (fun i hi => (h3 i hi).2.2.2.1) (fun i hi => (h3 i hi).2.2.2.2.2) (K := fun a3 a4 => Bd (M_goesOut m3) fun s5 => rg a3 a4 s5), me_c T3.w10 T3.w (fun i hi => (h3 i hi).1) (fun i hi => (h3 i hi).2.2.1) (fun i hi => (h3 i hi).2.2.2.2.1) (K := fun a5 => Bd (C_X8_dusk_t c3) fun s3 => rf a5 (nI d + 1) s3), k1, k2, Bd_some, Bd_some, show m3.1 1 0 = nI d from g3.2.2.2.2, nI_1]
    by_cases hX : x' = 0 ∧ ¬ meX (nI d) D3 t3 nw = -1
    · rw [if_pos hX, hb2 hX.1, if_pos rfl, hrg]
      obtain ⟨sm', j1, j2⟩ := me_rest (e := e) (x := x) (ye := nI e - 1) R' t2.1 (tw_D t2.1 g3).1 T h5 (hx0.mp hX.1) he rfl (meX (nI d) D3 t3 nw) hX.2 n' (d + 1) (meW (nI d) D3 V3 t3 a1 nw) m4 c4 (by omega) (by omega) k3
      exact ⟨_, c3, sm', rfl, j1, W, H, nk, nc, nl, nw, np, j2⟩
    · rw [if_neg hX]
      refine ih (e - (d + 1)) _ _ _ _ _ _ (by omega) ⟨d + 1, rfl, by omega, rfl, rfl, fun h => ?_, k3⟩
      rw [if_pos (hb2 h)]
      exact Classical.byContradiction (fun h2 => hX ⟨h, h2⟩)
