/-! # stage 2: gets -/
theorem LD_clear {W H nk b : Nat} {sc sm sc' sm' : ST} (L : LD W H nk b sc sm) (c1 : sc'.1 = sc.1) (c7 : sc'.2 b 7 = sc.2 b 7) (c8 : sc'.2 b 8 = 0) (c9 : sc'.2 b 9 = 0) (m0 : sm'.1 0 = sm.1 0) (m4 : sm'.1 4 = sm.1 4) (m1 : ∀ k, (¬ (69 ≤ k ∧ k < 133) ∧ ¬ (197 ≤ k ∧ k < 261)) → sm'.1 1 k = sm.1 1 k) (z : ∀ k, k < 64 → sm'.1 1 (69 + k) = 0 ∧ sm'.1 1 (197 + k) = 0) : LD W H nk b sc' sm' := by
  refine ⟨by rw [c1]; exact L.w, by rw [m0]; exact L.w', by rw [c1]; exact L.h, by rw [m0]; exact L.h', L.W2, L.W7, L.H2, L.H7, L.n8, by rw [c1, m1 0 (by omega)]; exact L.day, by rw [c1, m1 3 (by omega)]; exact L.wind, by rw [c1, m0]; exact L.birds, by rw [c1, m1 4 (by omega)]; exact L.harm, by rw [c1, m1 1 (by omega)]; exact L.draws, fun k hk hcc => ?_, fun k hk => ?_, fun k hk => ?_, fun k hk h => ?_, fun k hk _ => (z k hk).1, fun k hk h => ?_, fun k hk _ => (z k hk).2⟩
  · rw [c1, m1 (5 + k) (by omega)]; exact L.wet k hk hcc
  · rw [m4, c7]; exact L.hed k hk
  · rw [c7]; exact L.hcl k hk
  · rw [c8, bq_0] at h; cases h
  · rw [c9, bq_0] at h; cases h
theorem m_clear {s : ST} {C : Type} {K : ST → Option C} : lpK2 (C := C) (fun (rec1 : Int32 → ST → Option C) (a1 : Int32) (s3 : ST) => if (64 : Int32) ≤ a1 then (K s3) else (Gs s3 1 389 ((69 : Int32) + a1) (0 : Int32) fun s8 => Gs s8 1 389 ((197 : Int32) + a1) (0 : Int32) fun s9 => rec1 (a1 + (1 : Int32)) s9)) FU (0 : Int32) s = K (upr s 1 (fun k => if (69 ≤ k ∧ k < 69 + 64) ∨ (197 ≤ k ∧ k < 197 + 64) then 0 else s.1 1 k)) := by
  refine lo2 (Q := fun r => r = K (upr s 1 (fun k => if (69 ≤ k ∧ k < 69 + 64) ∨ (197 ≤ k ∧ k < 197 + 64) then 0 else s.1 1 k))) (I := fun m a st => ∃ i, i + m = 64 ∧ a = nI i ∧ st = upr s 1 (fun k => if (69 ≤ k ∧ k < 69 + i) ∨ (197 ≤ k ∧ k < 197 + i) then 0 else s.1 1 k)) ?_ FU 64 _ _ (by unfold FU; omega) ⟨0, by omega, rfl, ?_⟩
  · rintro m rf a st ⟨i, him, rfl, rfl⟩ ih
    cases m with
    | zero =>
      have hi : i = 64 := by omega
      subst hi
      rw [if_pos (by decide)]
    | succ m =>
      have hi : i < 64 := by omega
      rw [if_neg (n_not64 hi), show (69 : Int32) + nI i = nI (69 + i) from nI_add 69 i, show (197 : Int32) + nI i = nI (197 + i) from nI_add 197 i, Gs_n (by omega) (by decide), Gs_n (by omega) (by decide), nI_1, ups_upr, ups_upr]
      refine ih m _ _ (Nat.lt_succ_self m) ⟨i + 1, by omega, rfl, ?_⟩
      congr 1
      funext k
      unfold upd
      dsimp only
      by_cases q1 : k = 197 + i
      · rw [if_pos q1, if_pos (by omega)]
      · rw [if_neg q1]
        by_cases q2 : k = 69 + i
        · rw [if_pos q2, if_pos (by omega)]
        · rw [if_neg q2]
          by_cases q3 : (69 ≤ k ∧ k < 69 + i) ∨ (197 ≤ k ∧ k < 197 + i)
          · rw [if_pos q3, if_pos (by omega)]
          · rw [if_neg q3, if_neg (by omega)]
  · have e : (fun k => if (69 ≤ k ∧ k < 69 + 0) ∨ (197 ≤ k ∧ k < 197 + 0) then 0 else s.1 1 k) = s.1 1 := by
      funext k
      exact if_neg (by omega)
    rw [e, upr_self]
theorem lp3_s {C A1 A2 A3 : Type} (F : (A1 → A2 → A3 → Option C) → A1 → A2 → A3 → Option C) (n : Nat) (a : A1) (b : A2) (c : A3) : lpK3 F (n + 1) a b c = F (lpK3 F n) a b c := (rfl)
theorem ift2 {A : Type} (p : Bool) (x y : A) : (if (if p = true then (1 : Int32) else 0) = 1 then x else y) = if p = true then x else y := by
  cases p with
  | true => rw [if_pos (rfl : true = true), if_pos (rfl : (1 : Int32) = 1), if_pos (rfl : true = true)]
  | false => rw [if_neg (by decide : ¬ false = true), if_neg (by decide : ¬ (0 : Int32) = 1), if_neg (by decide : ¬ false = true)]
theorem s_gets : Sim_gets Rel := by
  rintro sc sm x y z ⟨W, H, nk, nc, nl, nw, np, R⟩
  have h10 : ¬ (1 : Int32) = 0 := by decide
  have h00 : (0 : Int32) = 0 := rfl
  have R' := R8_told R
  have L := R'.L
  obtain ⟨CB, hc0⟩ : ∃ q, C_X9_gets sc x y z = q := ⟨_, rfl⟩
  obtain ⟨MB, hm0⟩ : ∃ q, M_gets sm x y z = q := ⟨_, rfl⟩
  rw [hc0, hm0]
  unfold C_X9_gets at hc0
  unfold M_gets at hm0
  rw [Lt_e] at hc0
  rw [Lt_e, Lt_e, R'.T.k'] at hm0
  rcases in_kind R'.T (ups sm 0 0 0) x with ⟨a, b⟩ | ⟨n, hn, rfl, a, b⟩
  · rw [a, if_pos h00] at hc0
    rw [b, if_pos h00] at hm0
    exact ⟨-1, _, _, hc0.symm, hm0.symm, W, H, nk, nc, nl, nw, np, R'⟩
  rw [a, if_neg h10, Lt_e] at hc0
  rw [b, if_neg h10, Lt_e] at hm0
  rcases in_cell R'.L y with ⟨a, b, _⟩ | ⟨k, hk, hc, rfl, a, b⟩
  · rw [a, if_pos h00] at hc0
    rw [b, if_pos h00] at hm0
    exact ⟨-1, _, _, hc0.symm, hm0.symm, W, H, nk, nc, nl, nw, np, R'⟩
  rw [a, if_neg h10, Lt_e, c_hasHedge hk] at hc0
  rw [b, if_neg h10, Lt_e] at hm0
  have hM : ∀ {A : Type} (u v : A), (if (ups sm 0 0 0).1 4 k = 1 then u else v) = if bq (sc.2 1 7) k = true then u else v := by
    intro A u v
    rw [L.hed k hk]
    exact ift2 _ u v
  cases q7 : bq (sc.2 1 7) k with
  | true =>
    rw [q7, ift1] at hc0
    rw [Gl_n hk (by decide), hM, q7, if_pos (rfl : true = true)] at hm0
    refine ⟨-1, _, ups sm 0 0 0, hc0.symm, ?_, W, H, nk, nc, nl, nw, np, R'⟩
    rw [← hm0]
    rcases in_cell R'.L z with ⟨_, b, _⟩ | ⟨j, hj, hjc, rfl, _, b⟩
    · rw [b, if_pos h00]
    · rw [b, if_neg h10]
      split <;> rfl
  | false =>
  rw [q7, ift0, Lt_e] at hc0
  rw [Gl_n hk (by decide), hM, q7, if_neg (by decide : ¬ false = true)] at hm0
  rcases in_cell R'.L z with ⟨a, b, _⟩ | ⟨j, hj, hjc, rfl, a, b⟩
  · rw [a, if_pos h00] at hc0
    rw [b, if_pos h00] at hm0
    exact ⟨-1, _, _, hc0.symm, hm0.symm, W, H, nk, nc, nl, nw, np, R'⟩
  rw [a, if_neg h10] at hc0
  rw [b, if_neg h10] at hm0
  by_cases hkj : nI k = nI j
  · rw [if_pos hkj] at hc0 hm0
    exact ⟨-1, _, _, hc0.symm, hm0.symm, W, H, nk, nc, nl, nw, np, R'⟩
  rw [if_neg hkj] at hc0 hm0
  obtain ⟨m1, e1, t1⟩ := th_begin sc (ups sm 0 0 0)
  obtain ⟨c2, e2, t2, D, T⟩ := th_copy R' t1
  rw [e1, Bd_some, m_clear] at hm0
  have D2 : Dt W H nk ((ups sm 0 0 0).1 1 0) c2 m1 (C_X1_clearSeedsAndStorms c2 72) (upr m1 1 (fun k => if (69 ≤ k ∧ k < 69 + 64) ∨ (197 ≤ k ∧ k < 197 + 64) then 0 else m1.1 1 k)) := by
    have ec : C_X1_clearSeedsAndStorms c2 72 = upl (upl c2 72 8 0) 72 9 0 := rfl
    rw [ec]
    refine ⟨LD_clear D.1 rfl (by simp [upl_at]) (by simp [upl_at]) (by simp [upl_at]) (upr_ne (by decide)) (upr_ne (by decide)) (fun k hk => by rw [upr_eq, if_neg (by omega)]) (fun k hk => by rw [upr_eq, if_pos (by omega), if_pos (by omega)]; exact ⟨rfl, rfl⟩), (agr.rf.upl (by decide)).upl (by decide), agr.rf.upr (by decide), trivial, by rw [upr_eq, if_neg (by omega)]; exact D.2.2.2.2⟩
  obtain ⟨c3, c3', m3, x1, x2, x3, D3⟩ := lay_t D2 t2.1.2.2.2.1 hk hc hn 0
  have x2 : c3 = c3' := x2
  subst x2
  rw [x3, Bd_some] at hm0
  unfold C_X6_getting at hc0
  rw [e2, Bd_some, Lt_e, x1, Bd_some] at hc0
  suffices hh : ∃ r sc' sm', lpK2 (C := Int32 × ST) (fun (rec1 : Int32 → ST → Option (Int32 × ST)) (a1 : Int32) (s4 : ST) => if (99 : Int32) < a1 then (some ((-1 : Int32), s4)) else (Bd (C_X8_dawn_t s4 (0 : Int32)) fun y1 => Lt (C_X1_hasStorm y1.2 72 (nI j)) fun y2 => if y2 = 0 then (Bd (C_X8_dusk_t y1.2) fun s5 => rec1 (a1 + (1 : Int32)) s5) else (some (a1, y1.2)))) FU (1 : Int32) c3 = some (r, sc') ∧ MB = some (r, sm') ∧ Rel sc' sm' by
    obtain ⟨r, c, s, k1, k2, k3⟩ := hh
    rw [k1, Bd_some] at hc0
    exact ⟨r, c, s, hc0.symm, k2, k3⟩
  rw [← hm0]
  clear hc0 hm0
  refine lkg23 (Q := fun oc om => ∃ r sc' sm', oc = some (r, sc') ∧ om = some (r, sm') ∧ Rel sc' sm') (I := fun m a s1 b1 b2 s2 => ∃ i dy, i + m = 99 ∧ a = nI (i + 1) ∧ b1 = nI i ∧ b2 = 0 ∧ Dt W H nk dy c2 m1 s1 s2) ?_ FU 99 _ _ _ _ _ (by unfold FU; omega) ⟨0, _, by omega, rfl, rfl, rfl, D3⟩
  rintro m rf rg a s1 b1 b2 s2 ⟨n', hn', hrg⟩ ⟨i, dy, him, rfl, rfl, rfl, D4⟩ ih
  rw [Lt_e, if_pos h00]
  cases m with
  | zero =>
    have hi : i = 99 := by omega
    subst hi
    obtain ⟨q, e5, R4⟩ := th_end R' (tw_D t2.1 D4)
    rw [if_pos (by decide), if_pos (by decide), e5, Bd_some, if_pos h00]
    exact ⟨_, _, _, rfl, rfl, W, H, nk, nc, nl, nw, np, R4⟩
  | succ m =>
    have hi : i < 99 := by omega
    have hq1 : ¬ (99 : Int32) < nI (i + 1) := by rw [show (99 : Int32) = nI 99 from rfl, nI_ltI (by decide) (by omega)]; omega
    have hq2 : ¬ (99 : Int32) ≤ nI i := nle_t hi (by decide)
    obtain ⟨v, c5, m5, g1, g2, g3⟩ := dawn_t D4 T t2.1.2.2.2.1 0 (Or.inl rfl)
    obtain ⟨c6, m6, k1, k2, k3⟩ := dusk_t g3 T t2.1.2.2.2.1
    rw [if_neg hq1, if_neg hq2, g1, Bd_some, Lt_e, c_storm_is hj, Lt_e, g2, Bd_some, m_stormOf hj, Bd_some, Lt_e, storm_is g3.1 hj]
    dsimp only
    rw [k1, k2, Bd_some, Bd_some, Bd_some, nI_1, nI_1]
    cases q9 : bq (c5.2 72 9) j with
    | false =>
      have hf : ¬ false = true := by decide
      rw [if_neg hf, if_neg hf]
      exact ih m _ _ _ _ _ (Nat.lt_succ_self m) ⟨i + 1, _, by omega, rfl, rfl, rfl, k3⟩
    | true =>
      rw [if_pos (rfl : true = true), if_pos (rfl : true = true)]
      obtain ⟨n2, rfl⟩ : ∃ n2, n' = n2 + 1 := ⟨n' - 1, by omega⟩
      have tw5 : TW sc (ups sm 0 0 0) c5 m6 := ⟨(tw_D t2.1 g3).1, (tw_D t2.1 k3).2⟩
      obtain ⟨q, e5, R4⟩ := th_end R' tw5
      refine ⟨nI (i + 1), c5, q, rfl, ?_, W, H, nk, nc, nl, nw, np, R4⟩
      rw [hrg, lp3_s, Lt_e, if_neg h10, e5, Bd_some, if_neg h10]
