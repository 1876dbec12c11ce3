/-! # stage 2: the law reckoned -/
def agr (W : List Nat) (s s' : ST) : Prop := ∀ c, c ∉ W → s'.1 c = s.1 c ∧ s'.2 c = s.2 c
theorem agr.rf {W : List Nat} {s : ST} : agr W s s := fun _ _ => ⟨rfl, rfl⟩
theorem agr.tr {W : List Nat} {a b c : ST} (h : agr W a b) (k : agr W b c) : agr W a c := fun x hx => ⟨(k x hx).1.trans (h x hx).1, (k x hx).2.trans (h x hx).2⟩
theorem agr.mono {W V : List Nat} {a b : ST} (h : agr W a b) (hs : ∀ x, x ∈ W → x ∈ V) : agr V a b := fun x hx => h x (fun q => hx (hs x q))
theorem agr.ups {W : List Nat} {a b : ST} {c i : Nat} {x : Int32} (h : agr W a b) (hc : c ∈ W) : agr W a (ups b c i x) := fun d hd => by
  have : d ≠ c := fun e => hd (e ▸ hc)
  exact ⟨(ups_ne this).trans (h d hd).1, (h d hd).2⟩
theorem agr.upl {W : List Nat} {a b : ST} {c i : Nat} {x : Int64} (h : agr W a b) (hc : c ∈ W) : agr W a (upl b c i x) := fun d hd => by
  have : d ≠ c := fun e => hd (e ▸ hc)
  exact ⟨(h d hd).1, (upl_ne this).trans (h d hd).2⟩
theorem agr.upr {W : List Nat} {a b : ST} {c : Nat} {f : Nat → Int32} (h : agr W a b) (hc : c ∈ W) : agr W a (upr b c f) := fun d hd => by
  have : d ≠ c := fun e => hd (e ▸ hc)
  exact ⟨(upr_ne this).trans (h d hd).1, (h d hd).2⟩
def tyS (o a : Int32) (τ : List Nat) : Option (List Nat) :=
  if o = 0 then (if τ.length < 60 then some ((if a = 0 then 0 else 2) :: τ) else none)
  else if o = 1 then (if τ.length < 60 then some (0 :: τ) else none)
  else if o = 9 then (match τ with | 1 :: r => some (1 :: r) | _ => none)
  else if o = 10 ∨ o = 11 then (match τ with | 1 :: 1 :: r => some (1 :: r) | _ => none)
  else if o = 5 then (match τ with | 2 :: _ :: r => some (0 :: r) | _ => none)
  else if o = 6 ∨ o = 7 ∨ o = 8 then (match τ with | _ :: _ :: r => some (1 :: r) | _ => none)
  else (match τ with | _ :: _ :: r => some (0 :: r) | _ => none)
def tyR (op ar : Nat → Int32) : Nat → Nat → List Nat → Option (List Nat)
  | 0, _, τ => some τ
  | n + 1, i, τ => (tyS (op i) (ar i) τ).bind (tyR op ar n (i + 1))
def vt (t : Nat) (v : Int32) : Prop := (t = 1 → v = 0 ∨ v = 1) ∧ (t = 2 → ¬ v = 0)
theorem vt_0 (v : Int32) : vt 0 v := ⟨fun h => absurd h (by decide), fun h => absurd h (by decide)⟩
def SR : List Nat → (Nat → Int32) → (Nat → Int32) → Prop
  | [], _, _ => True
  | t :: r, c, m => c r.length = m r.length ∧ vt t (m r.length) ∧ SR r c m
theorem SR_upd {c m : Nat → Int32} {i : Nat} {x y : Int32} : ∀ {τ : List Nat}, SR τ c m → τ.length ≤ i → SR τ (upd c i x) (upd m i y)
  | [], _, _ => trivial
  | t :: r, ⟨h1, h2, h3⟩, hi => by
    have hi : r.length + 1 ≤ i := hi
    have e1 : upd c i x r.length = c r.length := if_neg (by omega)
    have e2 : upd m i y r.length = m r.length := if_neg (by omega)
    refine ⟨by rw [e1, e2, h1], by rw [e2]; exact h2, SR_upd h3 (by omega)⟩
theorem SR_top {t : Nat} {r : List Nat} {c m : Nat → Int32} {x : Int32} (h : SR r c m) (ht : vt t x) : SR (t :: r) (upd c r.length x) (upd m r.length x) :=
  ⟨by rw [show upd c r.length x r.length = x from if_pos rfl, show upd m r.length x r.length = x from if_pos rfl], by rw [show upd m r.length x r.length = x from if_pos rfl]; exact ht, SR_upd h (Nat.le_refl _)⟩
def PR (c o a : Int32) : Prop :=
  (o = 0 ∧ ∃ n, n ≤ 9999 ∧ a = nI n ∧ c = nI n) ∨ (o = 1 ∧ ∃ n, n < 8 ∧ a = nI n ∧ c = -1 - nI n) ∨ (o = 9 ∧ c = -18) ∨
  (o = 2 ∧ c = -9) ∨ (o = 3 ∧ c = -10) ∨ (o = 4 ∧ c = -11) ∨ (o = 5 ∧ c = -12) ∨ (o = 6 ∧ c = -13) ∨ (o = 7 ∧ c = -14) ∨ (o = 8 ∧ c = -15) ∨ (o = 10 ∧ c = -16) ∨ (o = 11 ∧ c = -17)
theorem lk33 {C D A1 A2 A3 B1 B2 B3 : Type} {F : (A1 → A2 → A3 → Option C) → A1 → A2 → A3 → Option C} {G : (B1 → B2 → B3 → Option D) → B1 → B2 → B3 → Option D} (Q : Option C → Option D → Prop) (I : Nat → A1 → A2 → A3 → B1 → B2 → B3 → Prop)
    (h : ∀ (m : Nat) (rf : A1 → A2 → A3 → Option C) (rg : B1 → B2 → B3 → Option D) (a1 : A1) (a2 : A2) (a3 : A3) (b1 : B1) (b2 : B2) (b3 : B3), I m a1 a2 a3 b1 b2 b3 → (∀ m' a1 a2 a3 b1 b2 b3, m' < m → I m' a1 a2 a3 b1 b2 b3 → Q (rf a1 a2 a3) (rg b1 b2 b3)) → Q (F rf a1 a2 a3) (G rg b1 b2 b3)) :
    ∀ (n m : Nat) (a1 : A1) (a2 : A2) (a3 : A3) (b1 : B1) (b2 : B2) (b3 : B3), m < n → I m a1 a2 a3 b1 b2 b3 → Q (lpK3 F n a1 a2 a3) (lpK3 G n b1 b2 b3) := by
  intro n
  induction n with
  | zero => intro m _ _ _ _ _ _ hm; omega
  | succ n ih =>
    intro m a1 a2 a3 b1 b2 b3 hm hI
    exact h m (lpK3 F n) (lpK3 G n) a1 a2 a3 b1 b2 b3 hI (fun m' a1 a2 a3 b1 b2 b3 hlt hI' => ih m' a1 a2 a3 b1 b2 b3 (by omega) hI')
theorem n_and01 : ∀ x y : Int32, (x = 0 ∨ x = 1) → (y = 0 ∨ y = 1) → x &&& y = x * y ∧ (x * y = 0 ∨ x * y = 1) := by
  rintro x y (rfl | rfl) (rfl | rfl) <;> decide
theorem n_or01 : ∀ x y : Int32, (x = 0 ∨ x = 1) → (y = 0 ∨ y = 1) → (if x + y ≤ 0 then (0 : Int32) else 1) = x ||| y ∧ (x ||| y = 0 ∨ x ||| y = 1) := by
  rintro x y (rfl | rfl) (rfl | rfl) <;> decide
theorem i_nle {x y : Int32} : ¬ x ≤ y ↔ y < x := by
  rw [fa_le, fa_lt]
  omega
theorem n_nle9 {n : Nat} (h : n < 2 ^ 31) : ¬ nI n ≤ (-9 : Int32) := by
  intro q
  rw [fa_le, nI_toInt h] at q
  have e : (-9 : Int32).toInt = -9 := by decide
  omega
theorem join_two {sc sm : ST} {c o a x y : Int32} {t1 t2 : Nat} {r τ' : List Nat} (hp : PR c o a) (h0 : ¬ o = 0) (h1 : ¬ o = 1) (h9 : ¬ o = 9) (ht : tyS o a (t1 :: t2 :: r) = some τ') (hy : vt t1 y) (hx : vt t2 x) : ∃ v t, τ' = t :: r ∧ vt t v ∧ C_X2_join sc c x y = some v ∧ M_twoOf sm o x y = some v := by
  rcases hp with ⟨rfl, _⟩ | ⟨rfl, _⟩ | ⟨rfl, _⟩ | ⟨rfl, rfl⟩ | ⟨rfl, rfl⟩ | ⟨rfl, rfl⟩ | ⟨rfl, rfl⟩ | ⟨rfl, rfl⟩ | ⟨rfl, rfl⟩ | ⟨rfl, rfl⟩ | ⟨rfl, rfl⟩ | ⟨rfl, rfl⟩
  · exact absurd rfl h0
  · exact absurd rfl h1
  · exact absurd rfl h9
  · simp [tyS] at ht
    exact ⟨x + y, 0, ht.symm, vt_0 _, by unfold C_X2_join; simp, by unfold M_twoOf; simp⟩
  · simp [tyS] at ht
    exact ⟨x - y, 0, ht.symm, vt_0 _, by unfold C_X2_join; simp, by unfold M_twoOf; simp⟩
  · simp [tyS] at ht
    exact ⟨x * y, 0, ht.symm, vt_0 _, by unfold C_X2_join; simp, by unfold M_twoOf; simp⟩
  · have ht2 : t1 = 2 ∧ τ' = 0 :: r := by
      unfold tyS at ht
      rw [if_neg (by decide), if_neg (by decide), if_neg (by decide), if_neg (by decide), if_pos rfl] at ht
      split at ht
      · rename_i e
        cases e
        cases ht
        exact ⟨rfl, rfl⟩
      · cases ht
    obtain ⟨rfl, rfl⟩ := ht2
    have hy0 := hy.2 rfl
    exact ⟨x / y, 0, rfl, vt_0 _, by unfold C_X2_join Gz; simp [hy0], by unfold M_twoOf Gz; simp [hy0]⟩
  · simp [tyS] at ht
    refine ⟨if y ≤ x then 0 else 1, 1, ht.symm, ⟨fun _ => by split <;> simp, fun h => by cases h⟩, by unfold C_X2_join; simp; split <;> rfl, by unfold M_twoOf; simp; split <;> rfl⟩
  · simp [tyS] at ht
    refine ⟨if x = y then 1 else 0, 1, ht.symm, ⟨fun _ => by split <;> simp, fun h => by cases h⟩, by unfold C_X2_join; simp; split <;> rfl, by unfold M_twoOf; simp; split <;> rfl⟩
  · simp [tyS] at ht
    refine ⟨if x ≤ y then 0 else 1, 1, ht.symm, ⟨fun _ => by split <;> simp, fun h => by cases h⟩, by unfold C_X2_join; simp; split <;> rfl, by unfold M_twoOf; simp; split <;> rfl⟩
  · have ht2 : t1 = 1 ∧ t2 = 1 ∧ τ' = 1 :: r := by
      unfold tyS at ht
      rw [if_neg (by decide), if_neg (by decide), if_neg (by decide), if_pos (by decide)] at ht
      split at ht
      · rename_i e
        cases e
        cases ht
        exact ⟨rfl, rfl, rfl⟩
      · cases ht
    obtain ⟨rfl, rfl, rfl⟩ := ht2
    obtain ⟨e1, e2⟩ := n_and01 x y (hx.1 rfl) (hy.1 rfl)
    exact ⟨x * y, 1, rfl, ⟨fun _ => e2, fun h => by cases h⟩, by unfold C_X2_join; simp [e1], by unfold M_twoOf; simp⟩
  · have ht2 : t1 = 1 ∧ t2 = 1 ∧ τ' = 1 :: r := by
      unfold tyS at ht
      rw [if_neg (by decide), if_neg (by decide), if_neg (by decide), if_pos (by decide)] at ht
      split at ht
      · rename_i e
        cases e
        cases ht
        exact ⟨rfl, rfl, rfl⟩
      · cases ht
    obtain ⟨rfl, rfl, rfl⟩ := ht2
    obtain ⟨e1, e2⟩ := n_or01 x y (hx.1 rfl) (hy.1 rfl)
    refine ⟨x ||| y, 1, rfl, ⟨fun _ => e2, fun h => by cases h⟩, by unfold C_X2_join; simp, ?_⟩
    rw [← e1]
    unfold M_twoOf
    rw [if_neg (by decide), if_neg (by decide), if_neg (by decide), if_neg (by decide), if_neg (by decide), if_neg (by decide), if_neg (by decide), if_neg (by decide)]
    split <;> rfl
theorem tyR_s {op ar : Nat → Int32} {n i : Nat} {τ τf : List Nat} (h : tyR op ar (n + 1) i τ = some τf) : ∃ τ', tyS (op i) (ar i) τ = some τ' ∧ tyR op ar n (i + 1) τ' = some τf := Option.bind_eq_some_iff.mp h
theorem n_m1n (n : Nat) : nI (n + 1) + (-1 : Int32) = nI n := n_m1 (x := n + 1) (by omega)
theorem n_sub1 (n : Nat) : nI (n + 1) - (1 : Int32) = nI n := nI_pred n
/-- the same row of the law, reckoned by both -/
theorem reckon {sc sm : ST} {a b : Nat} {t : Nat} (hab : a ≤ b) (hb : b ≤ 400) (hp : ∀ i, a ≤ i → i < b → PR (sc.1 16 i) (sm.1 13 (400 + i)) (sm.1 14 (400 + i))) (hv : ∀ i, i < 8 → sc.1 17 i = sm.1 20 i) (ht : tyR (fun j => sm.1 13 (400 + j)) (fun j => sm.1 14 (400 + j)) (b - a) a [] = some [t]) :
    ∃ v sc' sm', C_X2_reckon sc (nI a) (nI b) = some (v, sc') ∧ M_runs sm 1 (nI a) (nI b) = some (v, sm') ∧ agr [18] sc sc' ∧ agr [21] sm sm' ∧ vt t v := by
  unfold C_X2_reckon M_runs
  simp only [Lt_n]
  have e0 : imx (0 : Int32) (nI a) = nI a := by
    unfold imx
    by_cases h : (0 : Int32) < nI a
    · rw [if_pos h]
    · rw [if_neg h]
      have h2 : a = 0 := by
        rw [show (0 : Int32) = nI 0 from rfl, nI_ltI (by decide) (by omega)] at h
        omega
      rw [h2]
      rfl
  have e1 : ∀ x, (400 : Int32) * 1 + nI x = nI (400 + x) := fun x => by
    rw [show (400 : Int32) * 1 = nI 400 from by decide, nI_add]
  rw [e0, e1, e1]
  refine lk33 (Q := fun oc om => ∃ v sc' sm', oc = some (v, sc') ∧ om = some (v, sm') ∧ agr [18] sc sc' ∧ agr [21] sm sm' ∧ vt t v) (I := fun m a1 a2 s1 b1 b2 s2 => ∃ i τ, a ≤ i ∧ i + m = b ∧ a2 = nI i ∧ b2 = nI (400 + i) ∧ τ.length ≤ 60 ∧ a1 = nI τ.length ∧ b1 = nI τ.length ∧ SR τ (s1.1 18) (s2.1 21) ∧ tyR (fun j => sm.1 13 (400 + j)) (fun j => sm.1 14 (400 + j)) m i τ = some [t] ∧ agr [18] sc s1 ∧ agr [21] sm s2) ?_ FU (b - a) _ _ _ _ _ _ (by unfold FU; omega) ⟨a, [], Nat.le_refl _, by omega, rfl, rfl, by decide, rfl, rfl, trivial, ht, agr.rf, agr.rf⟩
  rintro m rf rg a1 a2 s1 b1 b2 s2 ⟨i, τ, hai, him, rfl, rfl, hl, rfl, rfl, hS, hT, hA, hB⟩ ih
  cases m with
  | zero =>
    have hib : i = b := by omega
    subst hib
    have hτ : τ = [t] := by
      simp only [tyR] at hT
      exact Option.some.inj hT
    subst hτ
    have hq1 : nI i ≤ nI i := by rw [nI_leI (by omega) (by omega)]; omega
    have hq3 : nI (400 + i) ≤ nI (400 + i) := by rw [nI_leI (by omega) (by omega)]; omega
    rw [if_pos hq1, if_pos hq3]
    obtain ⟨h1, h2, _⟩ := hS
    exact ⟨_, s1, s2, by rw [show s1.1 18 0 = s2.1 21 0 from h1], rfl, hA, hB, h2⟩
  | succ m =>
    have hib : i < b := by omega
    obtain ⟨τ', hs, hT'⟩ := tyR_s hT
    have hpi := hp i hai hib
    have e16 : s1.1 16 = sc.1 16 := (hA 16 (by decide)).1
    have e17 : s1.1 17 = sc.1 17 := (hA 17 (by decide)).1
    have e13 : s2.1 13 = sm.1 13 := (hB 13 (by decide)).1
    have e14 : s2.1 14 = sm.1 14 := (hB 14 (by decide)).1
    have e20 : s2.1 20 = sm.1 20 := (hB 20 (by decide)).1
    have hq1 : ¬ nI b ≤ nI i := by rw [nI_leI (by omega) (by omega)]; omega
    have hq2 : ¬ (400 : Int32) ≤ nI i := by rw [show (400 : Int32) = nI 400 from rfl, nI_leI (by omega) (by omega)]; omega
    have hq3 : ¬ nI (400 + b) ≤ nI (400 + i) := by rw [nI_leI (by omega) (by omega)]; omega
    rw [if_neg hq1, if_neg hq2, if_neg hq3]
    rw [Gl_n (by omega) (by decide), Gl_n (by omega) (by decide), e16, e13]
    have key : ∀ (x : Int32) (t' : Nat) (r : List Nat) , τ' = t' :: r → r.length < 60 → SR r (s1.1 18) (s2.1 21) → vt t' x → (∃ v sc' sm', rf (nI (r.length + 1)) (nI (i + 1)) (ups s1 18 r.length x) = some (v, sc') ∧ rg (nI (r.length + 1)) (nI (400 + i + 1)) (ups s2 21 r.length x) = some (v, sm') ∧ agr [18] sc sc' ∧ agr [21] sm sm' ∧ vt t v) := by
      intro x t' r hτ' hrl hr hx
      refine ih m _ _ _ _ _ _ (Nat.lt_succ_self m) ⟨i + 1, t' :: r, by omega, by omega, rfl, rfl, hrl, rfl, rfl, ?_, by rw [← hτ']; exact hT', hA.ups (by decide), hB.ups (by decide)⟩
      rw [ups_eq, ups_eq]
      exact SR_top hr hx
    have hone : nI i + (1 : Int32) = nI (i + 1) := nI_1 i
    have hone2 : nI (400 + i) + (1 : Int32) = nI (400 + i + 1) := nI_1 _
    by_cases h0 : sm.1 13 (400 + i) = 0
    · obtain ⟨n, hn, ha, hc⟩ : ∃ n, n ≤ 9999 ∧ sm.1 14 (400 + i) = nI n ∧ sc.1 16 i = nI n := by
        rcases hpi with ⟨_, h⟩ | ⟨h, _⟩ | ⟨h, _⟩ | ⟨h, _⟩ | ⟨h, _⟩ | ⟨h, _⟩ | ⟨h, _⟩ | ⟨h, _⟩ | ⟨h, _⟩ | ⟨h, _⟩ | ⟨h, _⟩ | ⟨h, _⟩
        · exact h
        all_goals (rw [h] at h0; exact absurd h0 (by decide))
      have hτl : τ.length < 60 ∧ τ' = (if sm.1 14 (400 + i) = 0 then 0 else 2) :: τ := by
        unfold tyS at hs
        rw [if_pos h0] at hs
        split at hs
        · rename_i q
          exact ⟨q, (Option.some.inj hs).symm⟩
        · cases hs
      rw [if_pos h0, Gl_n (by omega) (by decide), e13, if_pos h0, Gl_n (by omega) (by decide), e14, hc, if_neg (n_nle9 (by omega)), if_neg (by rw [show (64 : Int32) = nI 64 from rfl, nI_leI (by omega) (by omega)]; omega), if_neg (nI_pos (by omega)), Gs_n (by omega) (by decide), Gs_n (by omega) (by decide), hone, hone2, nI_1, ha]
      refine key (nI n) _ τ hτl.2 hτl.1 hS ⟨fun h => ?_, fun h => ?_⟩
      · split at h <;> cases h
      · rw [← ha]
        intro q
        rw [if_pos q] at h
        cases h
    · by_cases h1 : sm.1 13 (400 + i) = 1
      · obtain ⟨n, hn, ha, hc⟩ : ∃ n, n < 8 ∧ sm.1 14 (400 + i) = nI n ∧ sc.1 16 i = -1 - nI n := by
          rcases hpi with ⟨h, _⟩ | ⟨_, h⟩ | ⟨h, _⟩ | ⟨h, _⟩ | ⟨h, _⟩ | ⟨h, _⟩ | ⟨h, _⟩ | ⟨h, _⟩ | ⟨h, _⟩ | ⟨h, _⟩ | ⟨h, _⟩ | ⟨h, _⟩
          · exact absurd h h0
          · exact h
          all_goals (rw [h] at h1; exact absurd h1 (by decide))
        have hτl : τ.length < 60 ∧ τ' = 0 :: τ := by
          unfold tyS at hs
          rw [if_neg h0, if_pos h1] at hs
          split at hs
          · rename_i q
            exact ⟨q, (Option.some.inj hs).symm⟩
          · cases hs
        have n1 : ∀ n, n < 8 → ¬ (-1 - nI n : Int32) ≤ -9 ∧ (-1 - nI n : Int32) < 0 ∧ (-1 : Int32) - (-1 - nI n) = nI n := by decide +kernel
        obtain ⟨q1, q2, q3⟩ := n1 n hn
        rw [if_neg h0, Gl_n (by omega) (by decide), e13, if_pos h1, Gl_n (by omega) (by decide), e13, if_neg h0, Gl_n (by omega) (by decide), e14, ha, Gl_n (by omega) (by decide), e20, hc, if_neg q1, if_neg (by rw [show (64 : Int32) = nI 64 from rfl, nI_leI (by omega) (by omega)]; omega), if_pos q2, q3, Gl_n (by omega) (by decide), e17, Gs_n (by omega) (by decide), Gs_n (by omega) (by decide), hone, hone2, nI_1, hv n hn]
        exact key _ _ τ hτl.2 hτl.1 hS (vt_0 _)
      · rw [if_neg h0, Gl_n (by omega) (by decide), e13, if_neg h1, Gl_n (by omega) (by decide), e13]
        by_cases h9 : sm.1 13 (400 + i) = 9
        · have hc : sc.1 16 i = -18 := by
            rcases hpi with ⟨h, _⟩ | ⟨h, _⟩ | ⟨_, h⟩ | ⟨h, _⟩ | ⟨h, _⟩ | ⟨h, _⟩ | ⟨h, _⟩ | ⟨h, _⟩ | ⟨h, _⟩ | ⟨h, _⟩ | ⟨h, _⟩ | ⟨h, _⟩
            · exact absurd h h0
            · exact absurd h h1
            · exact h
            all_goals (rw [h] at h9; exact absurd h9 (by decide))
          obtain ⟨r, hτ, hτ'⟩ : ∃ r, τ = 1 :: r ∧ τ' = 1 :: r := by
            unfold tyS at hs
            rw [if_neg h0, if_neg h1, if_pos h9] at hs
            split at hs
            · rename_i r
              exact ⟨r, rfl, (Option.some.inj hs).symm⟩
            · cases hs
          subst hτ
          obtain ⟨k1, k2, k3⟩ := hS
          have hl2 : r.length + 1 ≤ 60 := hl
          rw [if_pos h9, hc, if_pos (by decide), if_pos rfl]
          simp only [List.length_cons]
          rw [if_neg (nI_nle (by omega) (by omega)), n_sub1, Gl_n (by omega) (by decide), Gs_n (by omega) (by decide), Gl_n (by omega) (by decide), Gs_n (by omega) (by decide), hone, hone2, k1]
          refine key _ 1 r hτ' (by omega) k3 ⟨fun _ => ?_, fun h => by cases h⟩
          rcases k2.1 rfl with q | q <;> rw [q] <;> decide
        · rw [if_neg h9]
          have hc : sc.1 16 i ≤ -9 ∧ ¬ sc.1 16 i = -18 := by
            rcases hpi with ⟨h, _⟩ | ⟨h, _⟩ | ⟨h, _⟩ | ⟨_, h⟩ | ⟨_, h⟩ | ⟨_, h⟩ | ⟨_, h⟩ | ⟨_, h⟩ | ⟨_, h⟩ | ⟨_, h⟩ | ⟨_, h⟩ | ⟨_, h⟩
            · exact absurd h h0
            · exact absurd h h1
            · exact absurd h h9
            all_goals (rw [h]; decide)
          obtain ⟨t1, t2, r, hτ⟩ : ∃ t1 t2 r, τ = t1 :: t2 :: r := by
            unfold tyS at hs
            rw [if_neg h0, if_neg h1, if_neg h9] at hs
            split at hs
            · split at hs
              · exact ⟨_, _, _, rfl⟩
              · cases hs
            · split at hs
              · split at hs
                · exact ⟨_, _, _, rfl⟩
                · cases hs
              · split at hs
                · split at hs
                  · exact ⟨_, _, _, rfl⟩
                  · cases hs
                · split at hs
                  · exact ⟨_, _, _, rfl⟩
                  · cases hs
          subst hτ
          obtain ⟨k1, k2, k3, k4, k5⟩ := hS
          simp only [List.length_cons] at k1 k2
          obtain ⟨v, t', hτ', hvt, hj1, hj2⟩ := join_two (sc := s1) (sm := s2) hpi h0 h1 h9 hs k2 k4
          have hl2 : r.length + 1 + 1 ≤ 60 := hl
          rw [if_pos hc.1, if_neg hc.2]
          simp only [List.length_cons]
          rw [if_neg (by rw [show (1 : Int32) = nI 1 from rfl, nI_leI (by omega) (by omega)]; omega), n_m1n, n_sub1, n_sub1, n_sub1, Gl_n (by omega) (by decide), Gl_n (by omega) (by decide), Gl_n (by omega) (by decide), Gl_n (by omega) (by decide), Gl_n (by omega) (by decide), e13, k1, k3, hj1, Bd_some, hj2, Bd_some, Gs_n (by omega) (by decide), Gs_n (by omega) (by decide), hone, hone2]
          exact key v t' r hτ' (by omega) k5 hvt
