/-! # stage 2: conditions are read -/
def raG : (Int32 → Int32 → ST → Option (Int32 × ST)) → Int32 → Int32 → ST → Option (Int32 × ST) := (fun (rec1 : Int32 → Int32 → ST → Option (Int32 × ST)) (a1 : Int32) (a2 : Int32) (s2 : ST) => if a2 = 0 then (Lt (M_isWord s2 (4 : Int32)) fun y1 => if y1 = 0 then (Lt (M_isWord s2 (3 : Int32)) fun y2 => if y2 = 0 then (Bd (M_settles s2 (10 : Int32)) fun s3 => Bd (M_settles s3 (11 : Int32)) fun s4 => if a1 = 0 then (some ((0 : Int32), s4)) else (Lt (M_isSign s4 (41 : Int32)) fun y3 => if y3 = 0 then (Lt (M_errs s4 (1 : Int32)) fun y5 => some (y5.1, y5.2)) else (Lt (ups s4 0 29 ((s4.1 0 29) - (1 : Int32))) fun s5 => Lt ((a1 - (1 : Int32))) fun y4 => Lt (ups s5 0 27 ((s5.1 0 27) - (1 : Int32))) fun s6 => Bd (M_settles s6 (9 : Int32)) fun s7 => Bd (M_reads s7) fun s8 => rec1 y4 a2 s8))) else (Bd (M_settles s2 (10 : Int32)) fun s9 => Bd (M_settles s9 (11 : Int32)) fun s10 => Bd (M_waits s10 (11 : Int32)) fun s11 => Bd (M_reads s11) fun s12 => rec1 a1 (1 : Int32) s12)) else (Bd (M_settles s2 (10 : Int32)) fun s13 => Bd (M_waits s13 (10 : Int32)) fun s14 => Bd (M_reads s14) fun s15 => rec1 a1 (1 : Int32) s15)) else (Lt (M_isWord s2 (5 : Int32)) fun y6 => Lt (if (s2.1 0 27) = (8 : Int32) then (Lt (M_errs s2 (3 : Int32)) fun y8 => some (y8.1, y8.2)) else (Lt (ups s2 0 27 ((s2.1 0 27) + (1 : Int32))) fun s16 => Lt (fun (a3 : Int32) => (Lt (fun (a4 : Int32) => (Bd (M_waits s16 a4) fun s17 => Bd (M_reads s17) fun s18 => rec1 a3 a2 s18 : Option (Int32 × ST))) fun j3 => if y6 = 0 then (j3 (12 : Int32)) else (j3 (9 : Int32)) : Option (Int32 × ST))) fun j2 => if y6 = 0 then (Lt ((a1 + (1 : Int32))) fun y7 => j2 y7) else (j2 a1)) : Option (Int32 × ST)) fun j1 => if y6 = 0 then (Lt (M_isSign s2 (40 : Int32)) fun y9 => if y9 = 0 then (Bd (M_readCompared s2) fun y10 => if y10.1 = (-1 : Int32) then (some ((-1 : Int32), y10.2)) else (Bd (M_settles y10.2 (9 : Int32)) fun s19 => rec1 a1 (0 : Int32) s19)) else (j1)) else (j1)))
theorem readAny_m (s : ST) : M_readAny s = lpK3 raG FU (0 : Int32) (1 : Int32) (ups s 0 29 0) := by
  unfold M_readAny raG
  rw [Lt_e]
theorem hd_ne {x y : Int32} {l : List Int32} (h : x ≠ y) : (x :: l).head? ≠ some y := fun e => h (Option.some.inj e)
def ccF (rp : ST → Int32 → Option ST) (x1 : Int32) : (Int32 → Int32 → ST → Option ST) → Int32 → Int32 → ST → Option ST := (fun (rec1 : Int32 → Int32 → ST → Option (ST)) (a1 : Int32) (a2 : Int32) (s2 : ST) => if (400 : Int32) ≤ a2 then (some s2) else (Bd (C_X5_takesWord s2 27) fun y1 => Lt (fun (a3 : Int32) (s3 : ST) => (rec1 a3 (a2 + (1 : Int32)) s3 : Option (ST))) fun j1 => if y1.1 = 0 then (Lt (fun (s4 : ST) => (Bd (C_X5_takesWord s4 28) fun y2 => if y2.1 = 0 then (some y2.2) else (Bd (rp y2.2 x1) fun s5 => j1 y2.1 s5) : Option (ST))) fun j2 => if a1 = 0 then (j2 y1.2) else (Bd (C_X2_emit y1.2 (-17 : Int32)) fun s6 => j2 s6)) else (Bd (rp y1.2 x1) fun s7 => Bd (C_X2_emit s7 (-16 : Int32)) fun s8 => j1 a1 s8)))
theorem readCond_c (rp : ST → Int32 → Option ST) (s : ST) (x : Int32) : F_X3_readCondition rp s x = Bd (rp s x) fun s1 => lpK3 (ccF rp x) FU (0 : Int32) (0 : Int32) s1 := (rfl)
theorem RP_s (n : Nat) (s : ST) (x : Int32) : RP (n + 1) s x = F_X3_readPart (RP n) (F_X3_readCondition (RP n)) s x := (rfl)
def raE (R : Int32 → Int32 → ST → Option (Int32 × ST)) (b : Int32) (s4 : ST) : Option (Int32 × ST) := if b = 0 then some ((0 : Int32), s4) else (if M_isSign s4 41 = 0 then some ((M_errs s4 1).1, (M_errs s4 1).2) else Bd (M_settles (ups (ups s4 0 29 (s4.1 0 29 - 1)) 0 27 ((ups s4 0 29 (s4.1 0 29 - 1)).1 0 27 - 1)) 9) fun s7 => Bd (M_reads s7) fun s8 => R (b - 1) 0 s8)
theorem ra_cmp {R : Int32 → Int32 → ST → Option (Int32 × ST)} {b : Int32} {s : ST} (h1 : M_isWord s 5 = 0) (h2 : M_isSign s 40 = 0) : raG R b 1 s = Bd (M_readCompared s) fun y10 => if y10.1 = (-1 : Int32) then some ((-1 : Int32), y10.2) else Bd (M_settles y10.2 9) fun s19 => R b 0 s19 := by
  unfold raG
  simp only [Lt_n, i10, h1, h2, ↓reduceIte]
theorem ra_full {R : Int32 → Int32 → ST → Option (Int32 × ST)} {b : Int32} {s : ST} (h : M_isWord s 5 = 1 ∨ (M_isWord s 5 = 0 ∧ M_isSign s 40 = 1)) (h8 : s.1 0 27 = 8) : raG R b 1 s = some ((M_errs s 3).1, (M_errs s 3).2) := by
  unfold raG
  rcases h with h1 | ⟨h1, h2⟩
  · simp only [Lt_n, i10, h1, h8, ↓reduceIte]
  · simp only [Lt_n, i10, h1, h2, h8, ↓reduceIte]
theorem ra_not {R : Int32 → Int32 → ST → Option (Int32 × ST)} {b : Int32} {s : ST} (h1 : M_isWord s 5 = 1) (h8 : ¬ s.1 0 27 = 8) : raG R b 1 s = Bd (M_waits (ups s 0 27 (s.1 0 27 + 1)) 9) fun s17 => Bd (M_reads s17) fun s18 => R b 1 s18 := by
  unfold raG
  simp only [Lt_n, i10, h1, h8, ↓reduceIte]
theorem ra_open {R : Int32 → Int32 → ST → Option (Int32 × ST)} {b : Int32} {s : ST} (h1 : M_isWord s 5 = 0) (h2 : M_isSign s 40 = 1) (h8 : ¬ s.1 0 27 = 8) : raG R b 1 s = Bd (M_waits (ups s 0 27 (s.1 0 27 + 1)) 12) fun s17 => Bd (M_reads s17) fun s18 => R (b + 1) 1 s18 := by
  unfold raG
  simp only [Lt_n, i10, h1, h2, h8, ↓reduceIte]
theorem ra_and {R : Int32 → Int32 → ST → Option (Int32 × ST)} {b : Int32} {s : ST} (h1 : M_isWord s 4 = 1) : raG R b 0 s = Bd (M_settles s 10) fun s13 => Bd (M_waits s13 10) fun s14 => Bd (M_reads s14) fun s15 => R b 1 s15 := by
  unfold raG
  simp only [Lt_n, i10, h1, ↓reduceIte]
theorem ra_or {R : Int32 → Int32 → ST → Option (Int32 × ST)} {b : Int32} {s : ST} (h1 : M_isWord s 4 = 0) (h2 : M_isWord s 3 = 1) : raG R b 0 s = Bd (M_settles s 10) fun s9 => Bd (M_settles s9 11) fun s10 => Bd (M_waits s10 11) fun s11 => Bd (M_reads s11) fun s12 => R b 1 s12 := by
  unfold raG
  simp only [Lt_n, i10, h1, h2, ↓reduceIte]
theorem ra_end {R : Int32 → Int32 → ST → Option (Int32 × ST)} {b : Int32} {s : ST} (h1 : M_isWord s 4 = 0) (h2 : M_isWord s 3 = 0) : raG R b 0 s = Bd (M_settles s 10) fun s3 => Bd (M_settles s3 11) fun s4 => raE R b s4 := by
  unfold raG raE
  simp only [Lt_n, h1, h2, ↓reduceIte]
theorem cc_and {rp : ST → Int32 → Option ST} {x w c : Int32} {R : Int32 → Int32 → ST → Option ST} {s s1 : ST} (hc : ¬ (400 : Int32) ≤ c) (h : C_X5_takesWord s 27 = some (1, s1)) : ccF rp x R w c s = Bd (rp s1 x) fun s7 => Bd (C_X2_emit s7 (-16 : Int32)) fun s8 => R w (c + 1) s8 := by
  unfold ccF
  simp only [Lt_n, hc, h, Bd_some, i10, ↓reduceIte]
def cc2 (rp : ST → Int32 → Option ST) (x c : Int32) (R : Int32 → Int32 → ST → Option ST) (s4 : ST) : Option ST := Bd (C_X5_takesWord s4 28) fun y2 => if y2.1 = 0 then some y2.2 else Bd (rp y2.2 x) fun s5 => R y2.1 (c + 1) s5
theorem cc_or {rp : ST → Int32 → Option ST} {x w c : Int32} {R : Int32 → Int32 → ST → Option ST} {s : ST} (hc : ¬ (400 : Int32) ≤ c) (h : C_X5_takesWord s 27 = some (0, s)) : ccF rp x R w c s = if w = 0 then cc2 rp x c R s else Bd (C_X2_emit s (-17 : Int32)) fun s6 => cc2 rp x c R s6 := by
  unfold ccF cc2
  simp only [Lt_n, hc, h, Bd_some, ↓reduceIte]
theorem fz_cc {rp : ST → Int32 → Option ST} {x w c : Int32} {N : Nat} {s : ST} (h : FZ s) (hN : 0 < N) : ∃ s', lpK3 (ccF rp x) N w c s = some s' ∧ FZ s' ∧ ff s s' := by
  obtain ⟨N', rfl⟩ : ∃ y, N = y + 1 := ⟨N - 1, by omega⟩
  rw [lp3_s]
  by_cases q : (400 : Int32) ≤ c
  · unfold ccF
    simp only [Lt_n, q, ↓reduceIte]
    exact ⟨s, rfl, h, agr.rf⟩
  · rw [cc_or q (fm_takesWord h.1 27)]
    by_cases g : w = 0
    · rw [if_pos g]
      unfold cc2
      rw [fm_takesWord h.1, Bd_some]
      (try dsimp only)
      rw [if_pos i00]
      exact ⟨s, rfl, h, agr.rf⟩
    · obtain ⟨s4, e1, e2, e3⟩ := fz_emit h (-17)
      rw [if_neg g, e1, Bd_some]
      unfold cc2
      rw [fm_takesWord e2.1, Bd_some]
      (try dsimp only)
      rw [if_pos i00]
      exact ⟨s4, rfl, e2, e3⟩
def LQ (f : Nat → Nat) (n T : Nat) (Z : Nat → Nat → Nat) (a i k : Nat) (τ : List Nat) (l : List Int32) (d : Nat) (sc sm : ST) : Prop := SY f n T Z i sc sm ∧ LN a k τ sc sm ∧ PN l sm ∧ sm.1 0 27 = nI d
theorem LQ.k400 {f : Nat → Nat} {n T : Nat} {Z : Nat → Nat → Nat} {a i k d : Nat} {τ : List Nat} {l : List Int32} {sc sm : ST} (h : LQ f n T Z a i k τ l d sc sm) : i ≤ 400 := h.1.i400
theorem LQ.mv {f : Nat → Nat} {n T : Nat} {Z : Nat → Nat → Nat} {a i j k d : Nat} {τ : List Nat} {l : List Int32} {sc sm sc' sm' : ST} (h : LQ f n T Z a i k τ l d sc sm) (hs : SY f n T Z j sc' sm') (p : fc sc sc') (q : fm sm sm') : LQ f n T Z a j k τ l d sc' sm' := by
  obtain ⟨_, h2, h3, h4⟩ := h
  refine ⟨hs, h2.mv (by rw [(p.1 60 (by decide)).1]) (fun j _ => by rw [(p.1 63 (by decide)).1]) (q.2 26 (by decide)) (fun j _ => by rw [(q.1 13 (by decide)).1, (q.1 14 (by decide)).1]; exact ⟨rfl, rfl⟩), h3.mv (q.2 29 (by decide)) (q.1 15 (by decide)).1, by rw [q.2 27 (by decide)]; exact h4⟩
theorem LQ.fz {f : Nat → Nat} {n T : Nat} {Z : Nat → Nat → Nat} {a i k p d : Nat} {τ : List Nat} {l : List Int32} {sc sm sc' sm' : ST} (h : LQ f n T Z a i k τ l d sc sm) (hk : k + p ≤ i) (b : FS sc' sm') (q : fc sc sc') : FZ sc' := ⟨b.m, k, by have := h.1.i400; omega, by rw [(q.1 60 (by decide)).1]; exact h.2.1.1.1⟩
/-- a part, with m NOTs that wait for it -/
def PARTc (f : Nat → Nat) (n T : Nat) (Z : Nat → Nat → Nat) (M : Nat) : Prop := ∀ (a i k p m d r b n1 : Nat) (τ : List Nat) (l : List Int32) (sc sm : ST), T - i ≤ M → LQ f n T Z a i k τ (List.replicate m 9 ++ l) (d + m) sc sm → k + (p + m) ≤ i → l.head? ≠ some 9 → τ.length ≤ 2 * (d + m) + 2 → (List.replicate m (9 : Int32) ++ l).length ≤ 3 * (d + m) + 2 → d + m ≤ 8 → 9 ≤ r + (d + m) → b ≤ d → 2 * (T - i) + 1 < n1 →
  (∃ j k' n1' sc' sm', i < j ∧ k ≤ k' ∧ (Bd (RP r sc (nI (d + m))) (emN m)) = some sc' ∧ lpK3 raG n1 (nI b) 1 sm = lpK3 raG n1' (nI b) 0 sm' ∧ LQ f n T Z a j k' (1 :: τ) l d sc' sm' ∧ k' + p ≤ j ∧ 2 * (T - j) < n1' ∧ lq k sc sc' sm sm') ∨
  (∃ sc' sm', (Bd (RP r sc (nI (d + m))) (emN m)) = some sc' ∧ lpK3 raG n1 (nI b) 1 sm = some (-1, sm') ∧ FS sc' sm' ∧ FZ sc' ∧ lq 0 sc sc' sm sm')
/-- a condition, up to where it ends -/
def CONDc (f : Nat → Nat) (n T : Nat) (Z : Nat → Nat → Nat) (M : Nat) : Prop := ∀ (a i k p d r b n1 : Nat) (τ : List Nat) (l : List Int32) (sc sm : ST), T - i ≤ M → LQ f n T Z a i k τ l d sc sm → k + p ≤ i → (l.head? ≠ some 9 ∧ l.head? ≠ some 10 ∧ l.head? ≠ some 11) → τ.length ≤ 2 * d → l.length ≤ 3 * d → d ≤ 8 → 9 ≤ r + d → b ≤ d → 2 * (T - i) + 1 < n1 →
  (∃ j k' n1' sc' sm', i < j ∧ k ≤ k' ∧ F_X3_readCondition (RP r) sc (nI d) = some sc' ∧ lpK3 raG n1 (nI b) 1 sm = raE (lpK3 raG n1') (nI b) sm' ∧ LQ f n T Z a j k' (1 :: τ) l d sc' sm' ∧ k' + p ≤ j ∧ 2 * (T - j) ≤ n1' ∧ lq k sc sc' sm sm') ∨
  (∃ sc' sm', F_X3_readCondition (RP r) sc (nI d) = some sc' ∧ lpK3 raG n1 (nI b) 1 sm = some (-1, sm') ∧ FS sc' sm' ∧ FZ sc' ∧ lq 0 sc sc' sm sm')
theorem sm_word' {f : Nat → Nat} {n T : Nat} {Z : Nat → Nat → Nat} {i w : Nat} {sc sm sm2 : ST} (h : SY f n T Z i sc sm2) (hw : w < 1000) (e15 : sm.1 0 15 = sm2.1 0 15) (e16 : sm.1 0 16 = sm2.1 0 16) : M_isWord sm (nI w) = if Z 3 i = 2 ∧ Z 4 i = w then 1 else 0 := by
  rw [← sm_word h hw]
  unfold M_isWord
  rw [e15, e16]
/-- the loop of a condition: sm2 is the reference's state when the AND that waits is settled -/
theorem cond_loop {f : Nat → Nat} {n T : Nat} {Z : Nat → Nat → Nat} {M a p d r b : Nat} {τ : List Nat} {l : List Int32} (hP : PARTc f n T Z M) (hl : l.head? ≠ some 9 ∧ l.head? ≠ some 10 ∧ l.head? ≠ some 11) (hτ : τ.length ≤ 2 * d) (hll : l.length ≤ 3 * d) (hd : d ≤ 8) (hr : 9 ≤ r + d) (hbd : b ≤ d) : ∀ (m i k c w N n1 : Nat) (sc sm sm2 : ST), T - i = m → m ≤ M → m < N → 2 * m < n1 → w ≤ 1 → M_settles sm 10 = some sm2 → sm.1 0 15 = sm2.1 0 15 → sm.1 0 16 = sm2.1 0 16 → LQ f n T Z a i k (1 :: (List.replicate w 1 ++ τ)) (List.replicate w 11 ++ l) d sc sm2 → k + (p + w) ≤ i → 2 * c + 1 ≤ i →
  (∃ j k' n1' sc' sm', i ≤ j ∧ k ≤ k' ∧ lpK3 (ccF (RP r) (nI d)) N (nI w) (nI c) sc = some sc' ∧ lpK3 raG n1 (nI b) 0 sm = raE (lpK3 raG n1') (nI b) sm' ∧ LQ f n T Z a j k' (1 :: τ) l d sc' sm' ∧ k' + p ≤ j ∧ 2 * (T - j) ≤ n1' ∧ lq k sc sc' sm2 sm') ∨
  (∃ sc' sm', lpK3 (ccF (RP r) (nI d)) N (nI w) (nI c) sc = some sc' ∧ lpK3 raG n1 (nI b) 0 sm = some (-1, sm') ∧ FS sc' sm' ∧ FZ sc' ∧ lq 0 sc sc' sm2 sm') := by
  intro m
  induction m using Nat.strongRecOn with
  | ind m ih =>
  intro i k c w N n1 sc sm sm2 hm hM hN hn1 hw hset e15 e16 h hk hc
  have hs := h.1
  have hi := hs.i400
  have hiT := hs.2.2.1
  have hT401 := hs.1.2.2.1
  obtain ⟨N', rfl⟩ : ∃ x, N = x + 1 := ⟨N - 1, by omega⟩
  obtain ⟨n1', rfl⟩ : ∃ x, n1 = x + 1 := ⟨n1 - 1, by omega⟩
  have w4 : M_isWord sm 4 = if Z 3 i = 2 ∧ Z 4 i = 4 then 1 else 0 := sm_word' hs (w := 4) (by decide) e15 e16
  have w3 : M_isWord sm 3 = if Z 3 i = 2 ∧ Z 4 i = 3 then 1 else 0 := sm_word' hs (w := 3) (by decide) e15 e16
  have c4 := c400 hc hi
  have hlen : (List.replicate w (11 : Int32) ++ l).length ≤ 3 * d + w := by rw [List.length_append, List.length_replicate]; omega
  have htau : (1 :: (List.replicate w 1 ++ τ)).length ≤ 2 * d + 1 + w := by rw [List.length_cons, List.length_append, List.length_replicate]; omega
  have hw0 : nI w = 0 ↔ w = 0 := nI_eq (b := 0) (by omega) (by decide)
  have head11 : (List.replicate w (11 : Int32) ++ l).head? ≠ some 10 ∧ (List.replicate w (11 : Int32) ++ l).head? ≠ some 9 := by
    rcases (by omega : w = 0 ∨ w = 1) with rfl | rfl
    · exact ⟨hl.2.1, hl.1⟩
    · exact ⟨hd_ne (l := l) (by decide), hd_ne (l := l) (by decide)⟩
  rw [lp3_s, lp3_s]
  by_cases ga : Z 3 i = 2 ∧ Z 4 i = 4
  · -- and
    obtain ⟨m3, x1, x2, x3⟩ := m_waits (x := 10) h.2.2.1 (by omega)
    have hs3 : SY f n T Z i sc m3 := by rw [x3]; exact (hs.w (by decide)).w0 (by decide)
    obtain ⟨c4', m4, z1, z2, z3, z4, z5⟩ := sy_adv hs3 (by omega)
    have h3 : LQ f n T Z a i k (1 :: (List.replicate w 1 ++ τ)) (10 :: (List.replicate w 11 ++ l)) d sc m3 := ⟨hs3, h.2.1.mv rfl (fun _ _ => rfl) (by rw [x3, rd1, if_neg (by decide), ups_ne (by decide)]) (fun j _ => by rw [x3, ups_ne (by decide), ups_ne (by decide), ups_ne (by decide), ups_ne (by decide)]; exact ⟨rfl, rfl⟩), x2, by rw [x3, rd1, if_neg (by decide), ups_ne (by decide)]; exact h.2.2.2⟩
    have h4 := h3.mv z3 z4 z5
    have fr3 : lq k sc c4' sm2 m4 := by
      have g1 : lq k sc sc sm2 m3 := by
        rw [x3]
        exact ⟨⟨agr.rf, fun _ _ => rfl, fun _ _ => rfl⟩, (agr.rf.ups (by decide)).ups (by decide), fun j hj => by rw [rd1, if_neg (by rintro rfl; exact hj (by decide)), ups_ne (by decide)], fun j _ => by rw [ups_ne (by decide), ups_ne (by decide), ups_ne (by decide), ups_ne (by decide)]; exact ⟨rfl, rfl⟩⟩
      exact g1.tr (fcm_lfs (k := k) z4 z5).q (Nat.le_refl _)
    rw [cc_and c4 (tw_yes hs (x := 27) (by decide) ga z1), ra_and (by rw [w4, if_pos ga]), hset, Bd_some, x1, Bd_some, z2, Bd_some, nI_1]
    rcases hP a (i + 1) k (p + w + 1) 0 d r b n1' (1 :: (List.replicate w 1 ++ τ)) (10 :: (List.replicate w 11 ++ l)) c4' m4 (by omega) h4 (by omega) (hd_ne (by decide)) (by omega) (show (10 :: (List.replicate w (11 : Int32) ++ l)).length ≤ 3 * (d + 0) + 2 by rw [List.length_cons]; omega) (by omega) (by omega) hbd (by omega) with ⟨j, k', n2, c5, m5, u1, u2, u3, u4, u5, u6, u7, u8⟩ | ⟨c5, m5, u1, u2, u3, u4, u5⟩
    · have hj := u5.1.i400
      have u3' : RP r c4' (nI d) = some c5 := by
        cases hrp : RP r c4' (nI d) with
        | none => rw [show d + 0 = d from rfl, hrp] at u3; cases u3
        | some v => rw [show d + 0 = d from rfl, hrp, Bd_some] at u3; exact u3
      obtain ⟨c6, m6, v1, v2, v3, v4, v5, v6⟩ := se_op (x := -16) (o := 10) u5.2.1 u5.2.2.1 (by decide) head11.1 (by omega) PR_10 (ty_10 _)
      have hs6 : SY f n T Z j c6 m6 := (u5.1.fr (v6.1.mono (by decide)) (fun q hq => v6.2.1 q (by simp only [List.mem_cons, List.not_mem_nil, or_false, not_or] at hq ⊢; omega))).fx v5.1
      have h6 : LQ f n T Z a j (k' + 1) (1 :: (List.replicate w 1 ++ τ)) (List.replicate w 11 ++ l) d c6 m6 := ⟨hs6, v3, v4, by rw [v6.2.1 27 (by decide)]; exact u5.2.2.2⟩
      have f56 : lq k' c5 c6 m5 m6 := ⟨⟨v5.1.mono (by decide), fun q _ => by rw [(v5.1 49 (by decide)).1], v5.2⟩, v6.1.mono (by decide), fun q hq => v6.2.1 q (by simp only [List.mem_cons, List.not_mem_nil, or_false, not_or] at hq ⊢; omega), v6.2.2⟩
      have fr : lq k sc c6 sm2 m6 := (fr3.tr u8 (by omega)).tr f56 (by omega)
      rw [u3', Bd_some, v1, Bd_some, u4]
      rcases ih (T - j) (by omega) j (k' + 1) (c + 1) w N' n2 c6 m5 m6 rfl (by omega) (by omega) u7 hw v2 (by rw [v6.2.1 15 (by decide)]) (by rw [v6.2.1 16 (by decide)]) h6 (by omega) (by omega) with ⟨j2, k2, n3, c7, m7, y1, y2, y3, y4, y5, y6, y7, y8⟩ | ⟨c7, m7, y1, y2, y3, y4, y5⟩
      · exact Or.inl ⟨j2, k2, n3, c7, m7, by omega, by omega, y3, y4, y5, y6, y7, fr.tr y8 (by omega)⟩
      · exact Or.inr ⟨c7, m7, y1, y2, y3, y4, (fr.le (Nat.zero_le _)).tr y5 (Nat.le_refl _)⟩
    · have u1' : RP r c4' (nI d) = some c5 := by
        cases hrp : RP r c4' (nI d) with
        | none => rw [show d + 0 = d from rfl, hrp] at u1; cases u1
        | some v => rw [show d + 0 = d from rfl, hrp, Bd_some] at u1; exact u1
      obtain ⟨c6, v1, v2, v3⟩ := fz_emit u4 (-16)
      obtain ⟨c7, y1, y2, y3⟩ := fz_cc (rp := RP r) (x := nI d) (w := nI w) (c := nI (c + 1)) (N := N') v2 (by omega)
      rw [u1', Bd_some, v1, Bd_some, y1, u2]
      exact Or.inr ⟨c7, m5, rfl, rfl, (u3.ff v3).ff y3, y2, (((fr3.le (Nat.zero_le _)).tr u5 (Nat.le_refl _)).tr (ff_lq v3) (Nat.le_refl _)).tr (ff_lq y3) (Nat.le_refl _)⟩
  · -- no and: what waits as OR is settled
    obtain ⟨c3, m3, k3, hce, hme, h3, f3, hk3, hk3'⟩ : ∃ c3 m3 k3, (if nI w = 0 then some sc else C_X2_emit sc (-17)) = some c3 ∧ M_settles sm2 11 = some m3 ∧ LQ f n T Z a i k3 (1 :: τ) l d c3 m3 ∧ lq k sc c3 sm2 m3 ∧ k ≤ k3 ∧ k3 + p ≤ i := by
      rcases (by omega : w = 0 ∨ w = 1) with rfl | rfl
      · exact ⟨sc, sm2, k, if_pos rfl, se_none h.2.2.1 hl.2.2, h, lq.rf, Nat.le_refl _, by omega⟩
      · obtain ⟨c6, m6, v1, v2, v3, v4, v5, v6⟩ := se_op (x := -17) (o := 11) (l := l) h.2.1 h.2.2.1 (by decide) hl.2.2 (by omega) PR_11 (ty_11 τ)
        have hs6 : SY f n T Z i c6 m6 := (hs.fr (v6.1.mono (by decide)) (fun q hq => v6.2.1 q (by simp only [List.mem_cons, List.not_mem_nil, or_false, not_or] at hq ⊢; omega))).fx v5.1
        exact ⟨c6, m6, k + 1, by rw [if_neg (by decide)]; exact v1, v2, ⟨hs6, v3, v4, by rw [v6.2.1 27 (by decide)]; exact h.2.2.2⟩, ⟨⟨v5.1.mono (by decide), fun q _ => by rw [(v5.1 49 (by decide)).1], v5.2⟩, v6.1.mono (by decide), fun q hq => v6.2.1 q (by simp only [List.mem_cons, List.not_mem_nil, or_false, not_or] at hq ⊢; omega), v6.2.2⟩, by omega, by omega⟩
    have hC : ccF (RP r) (nI d) (lpK3 (ccF (RP r) (nI d)) N') (nI w) (nI c) sc = cc2 (RP r) (nI d) (nI c) (lpK3 (ccF (RP r) (nI d)) N') c3 := by
      rw [cc_or c4 (tw_no hs (x := 27) (by decide) ga)]
      by_cases g : nI w = 0
      · rw [if_pos g] at hce ⊢
        cases hce
        rfl
      · rw [if_neg g] at hce ⊢
        rw [hce, Bd_some]
    rw [hC]
    have hs3 := h3.1
    by_cases go : Z 3 i = 2 ∧ Z 4 i = 3
    · -- or
      obtain ⟨m4, x1, x2, x3⟩ := m_waits (x := 11) h3.2.2.1 (by omega)
      have hs4 : SY f n T Z i c3 m4 := by rw [x3]; exact (hs3.w (by decide)).w0 (by decide)
      obtain ⟨c5, m5, z1, z2, z3, z4, z5⟩ := sy_adv hs4 (by omega)
      have h4 : LQ f n T Z a i k3 (1 :: τ) (11 :: l) d c3 m4 := ⟨hs4, h3.2.1.mv rfl (fun _ _ => rfl) (by rw [x3, rd1, if_neg (by decide), ups_ne (by decide)]) (fun j _ => by rw [x3, ups_ne (by decide), ups_ne (by decide), ups_ne (by decide), ups_ne (by decide)]; exact ⟨rfl, rfl⟩), x2, by rw [x3, rd1, if_neg (by decide), ups_ne (by decide)]; exact h3.2.2.2⟩
      have h5 := h4.mv z3 z4 z5
      have fr3 : lq k sc c5 sm2 m5 := by
        have g1 : lq k3 c3 c3 m3 m4 := by
          rw [x3]
          exact ⟨⟨agr.rf, fun _ _ => rfl, fun _ _ => rfl⟩, (agr.rf.ups (by decide)).ups (by decide), fun j hj => by rw [rd1, if_neg (by rintro rfl; exact hj (by decide)), ups_ne (by decide)], fun j _ => by rw [ups_ne (by decide), ups_ne (by decide), ups_ne (by decide), ups_ne (by decide)]; exact ⟨rfl, rfl⟩⟩
        exact (f3.tr g1 hk3).tr (fcm_lfs (k := k3) z4 z5).q (by omega)
      have tw : C_X5_takesWord c3 28 = some (1, c5) := tw_yes hs3 (x := 28) (by decide) go z1
      rw [ra_or (by rw [w4, if_neg ga]) (by rw [w3, if_pos go]), hset, Bd_some, hme, Bd_some, x1, Bd_some, z2, Bd_some]
      unfold cc2
      rw [tw, Bd_some]
      (try dsimp only)
      rw [if_neg i10, nI_1]
      rcases hP a (i + 1) k3 (p + 1) 0 d r b n1' (1 :: τ) (11 :: l) c5 m5 (by omega) h5 (by omega) (hd_ne (by decide)) (show (1 :: τ).length ≤ 2 * (d + 0) + 2 by rw [List.length_cons]; omega) (show (11 :: l).length ≤ 3 * (d + 0) + 2 by rw [List.length_cons]; omega) (by omega) (by omega) hbd (by omega) with ⟨j, k', n2, c6, m6, u1, u2, u3, u4, u5, u6, u7, u8⟩ | ⟨c6, m6, u1, u2, u3, u4, u5⟩
      · have u3' : RP r c5 (nI d) = some c6 := by
          cases hrp : RP r c5 (nI d) with
          | none => rw [show d + 0 = d from rfl, hrp] at u3; cases u3
          | some v => rw [show d + 0 = d from rfl, hrp, Bd_some] at u3; exact u3
        have hse : M_settles m6 10 = some m6 := se_none u5.2.2.1 (hd_ne (by decide))
        have fr : lq k sc c6 sm2 m6 := fr3.tr u8 (by omega)
        rw [u3', Bd_some, u4]
        rcases ih (T - j) (by omega) j k' (c + 1) 1 N' n2 c6 m6 m6 rfl (by omega) (by omega) u7 (Nat.le_refl _) hse rfl rfl u5 (by omega) (by omega) with ⟨j2, k2, n3, c7, m7, y1, y2, y3, y4, y5, y6, y7, y8⟩ | ⟨c7, m7, y1, y2, y3, y4, y5⟩
        · exact Or.inl ⟨j2, k2, n3, c7, m7, by omega, by omega, y3, y4, y5, y6, y7, fr.tr y8 (by omega)⟩
        · exact Or.inr ⟨c7, m7, y1, y2, y3, y4, (fr.le (Nat.zero_le _)).tr y5 (Nat.le_refl _)⟩
      · have u1' : RP r c5 (nI d) = some c6 := by
          cases hrp : RP r c5 (nI d) with
          | none => rw [show d + 0 = d from rfl, hrp] at u1; cases u1
          | some v => rw [show d + 0 = d from rfl, hrp, Bd_some] at u1; exact u1
        obtain ⟨c7, y1, y2, y3⟩ := fz_cc (rp := RP r) (x := nI d) (w := 1) (c := nI (c + 1)) (N := N') u4 (by omega)
        rw [u1', Bd_some, y1, u2]
        exact Or.inr ⟨c7, m6, rfl, rfl, u3.ff y3, y2, ((fr3.le (Nat.zero_le _)).tr u5 (Nat.le_refl _)).tr (ff_lq y3) (Nat.le_refl _)⟩
    · -- the end of the condition
      rw [ra_end (by rw [w4, if_neg ga]) (by rw [w3, if_neg go]), hset, Bd_some, hme, Bd_some]
      refine Or.inl ⟨i, k3, n1', c3, m3, Nat.le_refl _, hk3, ?_, rfl, h3, hk3', by omega, f3⟩
      unfold cc2
      rw [tw_no hs3 (x := 28) (by decide) go, Bd_some]
      (try dsimp only)
      rw [if_pos i00]
theorem cond_of {f : Nat → Nat} {n T : Nat} {Z : Nat → Nat → Nat} {M : Nat} (hP : PARTc f n T Z M) : CONDc f n T Z M := by
  intro a i k p d r b n1 τ l sc sm hM h hk hl hτ hll hd hr hbd hn1
  have hT401 := h.1.1.2.2.1
  rw [readCond_c]
  rcases hP a i k p 0 d r b n1 τ l sc sm hM h (by omega) hl.1 (by omega) (show (List.replicate 0 (9 : Int32) ++ l).length ≤ 3 * (d + 0) + 2 by show l.length ≤ _; omega) (by omega) (by omega) hbd hn1 with ⟨j, k', n2, c6, m6, u1, u2, u3, u4, u5, u6, u7, u8⟩ | ⟨c6, m6, u1, u2, u3, u4, u5⟩
  · have u3' : RP r sc (nI d) = some c6 := by
      cases hrp : RP r sc (nI d) with
      | none => rw [show d + 0 = d from rfl, hrp] at u3; cases u3
      | some v => rw [show d + 0 = d from rfl, hrp, Bd_some] at u3; exact u3
    have hse : M_settles m6 10 = some m6 := se_none u5.2.2.1 hl.2.1
    rw [u3', Bd_some, u4]
    rcases cond_loop (p := p) (b := b) (r := r) hP hl hτ hll hd hr hbd (T - j) j k' 0 0 FU n2 c6 m6 m6 rfl (by omega) (by unfold FU; omega) u7 (by omega) hse rfl rfl u5 (by omega) (by omega) with ⟨j2, k2, n3, c7, m7, y1, y2, y3, y4, y5, y6, y7, y8⟩ | ⟨c7, m7, y1, y2, y3, y4, y5⟩
    · exact Or.inl ⟨j2, k2, n3, c7, m7, by omega, by omega, y3, y4, y5, y6, y7, u8.tr y8 (by omega)⟩
    · exact Or.inr ⟨c7, m7, y1, y2, y3, y4, (u8.le (Nat.zero_le _)).tr y5 (Nat.le_refl _)⟩
  · have u1' : RP r sc (nI d) = some c6 := by
      cases hrp : RP r sc (nI d) with
      | none => rw [show d + 0 = d from rfl, hrp] at u1; cases u1
      | some v => rw [show d + 0 = d from rfl, hrp, Bd_some] at u1; exact u1
    obtain ⟨c7, y1, y2, y3⟩ := fz_cc (rp := RP r) (x := nI d) (w := 0) (c := 0) (N := FU) u4 (by unfold FU; omega)
    rw [u1', Bd_some, y1, u2]
    exact Or.inr ⟨c7, m6, rfl, rfl, u3.ff y3, y2, u5.tr (ff_lq y3) (Nat.le_refl _)⟩
