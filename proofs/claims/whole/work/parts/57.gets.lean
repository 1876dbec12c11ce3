/-! # stage 2: gets -/
theorem LD_clear {W H nk b : Nat} {sc sm sc' sm' : ST} (L : LD W H nk b sc sm) (c1 : sc'.1 = sc.1) (c7 : sc'.2 b 7 = sc.2 b 7) (c8 : sc'.2 b 8 = 0) (c9 : sc'.2 b 9 = 0) (m0 : sm'.1 0 = sm.1 0) (m4 : sm'.1 4 = sm.1 4) (m1 : ∀ k, (¬ (69 ≤ k ∧ k < 133) ∧ ¬ (197 ≤ k ∧ k < 261)) → sm'.1 1 k = sm.1 1 k) (z : ∀ k, k < 64 → sm'.1 1 (69 + k) = 0 ∧ sm'.1 1 (197 + k) = 0) : LD W H nk b sc' sm' := by
  refine ⟨by rw [c1]; exact L.w, by rw [m0]; exact L.w', by rw [c1]; exact L.h, by rw [m0]; exact L.h', L.W2, L.W7, L.H2, L.H7, L.n8, by rw [c1, m1 0 (by omega)]; exact L.day, by rw [c1, m1 3 (by omega)]; exact L.wind, by rw [c1, m0]; exact L.birds, by rw [c1, m1 4 (by omega)]; exact L.harm, by rw [c1, m1 1 (by omega)]; exact L.draws, fun k hk hcc => ?_, fun k hk => ?_, fun k hk => ?_, fun k hk h => ?_, fun k hk _ => (z k hk).1, fun k hk h => ?_, fun k hk _ => (z k hk).2⟩
  · rw [c1, m1 (5 + k) (by omega)]; exact L.wet k hk hcc
  · rw [m4, c7]; exact L.hed k hk
  · rw [c7]; exact L.hcl k hk
  · rw [c8, bq_0] at h; cases h
  · rw [c9, bq_0] at h; cases h
theorem m_clear {s : ST} {C : Type} {K : ST → Option C} : lpK2 (C := C) (fun (rec1 : Int32 → ST → Option C) (a1 : Int32) (s3 : ST) => if (64 : Int32) ≤ a1 then (K s3) else (Gs s3 1 389 ((69 : Int32) + a1) (0 : Int32) fun s8 => Gs s8 1 389 ((197 : Int32) + a1) (0 : Int32) fun s9 => rec1 (a1 + (1 : Int32)) s9)) FU (0 : Int32) s = K (upr s 1 (fun k => if (69 ≤ k ∧ k < 69 + 64) ∨ (197 ≤ k ∧ k < 197 + 64) then 0 else s.1 1 k)) := by
  refine lo2 (Q := fun r => r = K (upr s 1 (fun k => if (69 ≤ k ∧ k < 69 + 64) ∨ (197 ≤ k ∧ k < 197 + 64) then 0 else s.1 1 k))) (I := fun m a st => ∃ i, i + m = 64 ∧ a = nI i ∧ st = upr s 1 (fun k => if (69 ≤ k ∧ k < 69 + i) ∨ (197 ≤ k ∧ k < 197 + i) then 0 else s.1 1 k)) ?_ FU 64 _ _ (by unfold FU; omega) ⟨0, by omega, rfl, ?_⟩
  · rintro m rf a st ⟨i, him, rfl, rfl⟩ ih
    cases m with
    | zero =>
      have hi : i = 64 := by omega
      subst hi
      rw [if_pos (by decide)]
    | succ m =>
      have hi : i < 64 := by omega
      rw [if_neg (n_not64 hi), show (69 : Int32) + nI i = nI (69 + i) from nI_add 69 i, show (197 : Int32) + nI i = nI (197 + i) from nI_add 197 i, Gs_n (by omega) (by decide), Gs_n (by omega) (by decide), nI_1, ups_upr, ups_upr]
      refine ih m _ _ (Nat.lt_succ_self m) ⟨i + 1, by omega, rfl, ?_⟩
      congr 1
      funext k
      unfold upd
      dsimp only
      by_cases q1 : k = 197 + i
      · rw [if_pos q1, if_pos (by omega)]
      · rw [if_neg q1]
        by_cases q2 : k = 69 + i
        · rw [if_pos q2, if_pos (by omega)]
        · rw [if_neg q2]
          by_cases q3 : (69 ≤ k ∧ k < 69 + i) ∨ (197 ≤ k ∧ k < 197 + i)
          · rw [if_pos q3, if_pos (by omega)]
          · rw [if_neg q3, if_neg (by omega)]
  · have e : (fun k => if (69 ≤ k ∧ k < 69 + 0) ∨ (197 ≤ k ∧ k < 197 + 0) then 0 else s.1 1 k) = s.1 1 := by
      funext k
      exact if_neg (by omega)
    rw [e, upr_self]
theorem lp3_s {C A1 A2 A3 : Type} (F : (A1 → A2 → A3 → Option C) → A1 → A2 → A3 → Option C) (n : Nat) (a : A1) (b : A2) (c : A3) : lpK3 F (n + 1) a b c = F (lpK3 F n) a b c := (rfl)
theorem ift2 {A : Type} (p : Bool) (x y : A) : (if (if p = true then (1 : Int32) else 0) = 1 then x else y) = if p = true then x else y := by
  cases p with
  | true => rw [if_pos (rfl : true = true), if_pos (rfl : (1 : Int32) = 1), if_pos (rfl : true = true)]
  | false => rw [if_neg (by decide : ¬ false = true), if_neg (by decide : ¬ (0 : Int32) = 1), if_neg (by decide : ¬ false = true)]
theorem s_gets : Sim_gets Rel := by
  rintro sc sm x y z ⟨W, H, nk, nc, nl, nw, np, R⟩
  have h10 : ¬ (1 : Int32) = 0 := by decide
  have h00 : (0 : Int32) = 0 := rfl
  have R' := R8_told R
  have L := R'.L
  unfold C_X9_gets M_gets
  simp only [Lt_n]
  sorry
