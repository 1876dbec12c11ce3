/-! # stage 2: a law is read -/
def lawF (K : ST → Option (Int32 × ST)) : (Int32 → ST → Option (Int32 × ST)) → Int32 → ST → Option (Int32 × ST) := (fun (rec1 : Int32 → ST → Option (Int32 × ST)) (a1 : Int32) (s2 : ST) => Lt (K s2 : Option (Int32 × ST)) fun j1 => if (400 : Int32) ≤ a1 then (j1) else (Lt (C_X5_goesOn s2) fun y1 => if y1 = 0 then (j1) else (Bd (C_X5_takesHead s2 17 61) fun y2 => Lt (fun (a2 : Int32) => (Lt (fun (s4 : ST) => (Lt ((s4.1 60 2)) fun y3 => Bd (C_X3_readSum s4) fun s5 => Lt ((s5.1 60 2)) fun y4 => Bd (C_X5_takesWord s5 19) fun y5 => Lt (fun (s6 : ST) => (Bd (C_X5_needSign s6 (59 : Int32)) fun s7 => Lt (fun (s8 : ST) => (rec1 (a1 + (1 : Int32)) s8 : Option (Int32 × ST))) fun j5 => if (s7.1 49 8) = 0 then (Bd (C_X4_add s7 61 a2 y3 y4 (s7.1 60 2)) fun s9 => j5 s9) else (j5 s7) : Option (Int32 × ST))) fun j4 => if y5.1 = 0 then (j4 y5.2) else (Bd (C_X3_readCondition y5.2 (0 : Int32)) fun s10 => j4 s10) : Option (Int32 × ST))) fun j3 => if a2 = (1 : Int32) then (Bd (C_X5_takesHead y2.2 18 61) fun y6 => if y6.1 = 0 then (Bd (C_X5_fail y6.2 (1 : Int32)) fun s11 => j3 s11) else (j3 y6.2)) else (j3 y2.2) : Option (Int32 × ST))) fun j2 => if y2.1 = 0 then (j2 (1 : Int32)) else (j2 (0 : Int32)))))
def lawG : (Int32 → ST → Option (Int32 × ST)) → Int32 → ST → Option (Int32 × ST) := (fun (rec1 : Int32 → ST → Option (Int32 × ST)) (a1 : Int32) (s1 : ST) => Lt (M_isLineWord s1) fun y1 => if y1 = 0 then (if (s1.1 0 15) = 0 then (some (a1, s1)) else (Lt (M_errs s1 (1 : Int32)) fun y2 => some (y2.1, y2.2))) else (if a1 = (16 : Int32) then (Lt (M_errs s1 (3 : Int32)) fun y10 => some (y10.1, y10.2)) else (Lt (((32 : Int32) + a1)) fun y3 => Gs s1 9 48 y3 (s1.1 0 16) fun s2 => Bd (M_reads s2) fun s3 => Gs s3 10 48 y3 (s3.1 0 26) fun s4 => Bd (M_readSum s4) fun y4 => if y4.1 = (-1 : Int32) then (some ((-1 : Int32), y4.2)) else (Gs y4.2 11 48 y3 (y4.2.1 0 26) fun s5 => Lt (M_isWord s5 (2 : Int32)) fun y5 => Lt (fun (s6 : ST) => (Gs s6 12 48 y3 (s6.1 0 26) fun s7 => Lt (M_isSign s7 (59 : Int32)) fun y6 => if y6 = 0 then (Lt (M_errs s7 (1 : Int32)) fun y8 => some (y8.1, y8.2)) else (Bd (M_reads s7) fun s8 => Lt ((a1 + (1 : Int32))) fun y7 => rec1 y7 s8) : Option (Int32 × ST))) fun j1 => if y5 = 0 then (j1 s5) else (Bd (M_reads s5) fun s9 => Bd (M_readAny s9) fun y9 => if y9.1 = (-1 : Int32) then (some ((-1 : Int32), y9.2)) else (j1 y9.2))))))
theorem readLaw_m (s : ST) : M_readLaw s = lpK2 lawG FU (0 : Int32) s := (rfl)
theorem readLaw_c (s : ST) : C_X3_readLaw s = lpK2 (lawF (fun s2 => if (s2.1 49 8) = 0 then (Bd (C_X2_copy s2 13 60) fun s3 => some ((s3.1 61 2), s3)) else (some ((-1 : Int32), s2)))) FU (0 : Int32) (C_X2_clear s 60) := by
  unfold C_X3_readLaw lawF
  rw [Lt_e]
def cEnd (R : Int32 → ST → Option (Int32 × ST)) (c a2 y3 y4 : Int32) (s6 : ST) : Option (Int32 × ST) := Bd (C_X5_needSign s6 (59 : Int32)) fun s7 => if (s7.1 49 8) = 0 then (Bd (C_X4_add s7 61 a2 y3 y4 (s7.1 60 2)) fun s9 => R (c + (1 : Int32)) s9) else R (c + (1 : Int32)) s7
def cTail (R : Int32 → ST → Option (Int32 × ST)) (c a2 : Int32) (s4 : ST) : Option (Int32 × ST) := Bd (C_X3_readSum s4) fun s5 => Bd (C_X5_takesWord s5 19) fun y5 => if y5.1 = 0 then cEnd R c a2 (s4.1 60 2) (s5.1 60 2) y5.2 else (Bd (C_X3_readCondition y5.2 (0 : Int32)) fun s10 => cEnd R c a2 (s4.1 60 2) (s5.1 60 2) s10)
def mEnd (R : Int32 → ST → Option (Int32 × ST)) (w : Int32) (s6 : ST) : Option (Int32 × ST) := Gs s6 12 48 ((32 : Int32) + w) (s6.1 0 26) fun s7 => if M_isSign s7 (59 : Int32) = 0 then some ((M_errs s7 (1 : Int32)).1, (M_errs s7 (1 : Int32)).2) else (Bd (M_reads s7) fun s8 => R (w + (1 : Int32)) s8)
def mTail (R : Int32 → ST → Option (Int32 × ST)) (w : Int32) (s5 : ST) : Option (Int32 × ST) := if M_isWord s5 (2 : Int32) = 0 then mEnd R w s5 else (Bd (M_reads s5) fun s9 => Bd (M_readAny s9) fun y9 => if y9.1 = (-1 : Int32) then (some ((-1 : Int32), y9.2)) else mEnd R w y9.2)
theorem n01 : ¬ (0 : Int32) = 1 := by decide
theorem lf_17 {K : ST → Option (Int32 × ST)} {R : Int32 → ST → Option (Int32 × ST)} {c : Int32} {s s' : ST} (hc : ¬ (400 : Int32) ≤ c) (g : C_X5_goesOn s = 1) (h : C_X5_takesHead s 17 61 = some (1, s')) : lawF K R c s = cTail R c 0 s' := by
  unfold lawF cTail cEnd
  simp only [Lt_n, hc, g, h, Bd_some, i10, n01, ↓reduceIte]
theorem lf_18 {K : ST → Option (Int32 × ST)} {R : Int32 → ST → Option (Int32 × ST)} {c : Int32} {s s' : ST} (hc : ¬ (400 : Int32) ≤ c) (g : C_X5_goesOn s = 1) (h : C_X5_takesHead s 17 61 = some (0, s)) (h2 : C_X5_takesHead s 18 61 = some (1, s')) : lawF K R c s = cTail R c 1 s' := by
  unfold lawF cTail cEnd
  simp only [Lt_n, hc, g, h, h2, Bd_some, i10, n01, ↓reduceIte]
theorem lf_no {K : ST → Option (Int32 × ST)} {R : Int32 → ST → Option (Int32 × ST)} {c : Int32} {s s' : ST} (hc : ¬ (400 : Int32) ≤ c) (g : C_X5_goesOn s = 1) (h : C_X5_takesHead s 17 61 = some (0, s)) (h2 : C_X5_takesHead s 18 61 = some (0, s)) (h3 : C_X5_fail s 1 = some s') : lawF K R c s = cTail R c 1 s' := by
  unfold lawF cTail cEnd
  simp only [Lt_n, hc, g, h, h2, h3, Bd_some, i10, n01, ↓reduceIte]
theorem lf_end {K : ST → Option (Int32 × ST)} {R : Int32 → ST → Option (Int32 × ST)} {c : Int32} {s : ST} (g : C_X5_goesOn s = 0) : lawF K R c s = K s := by
  unfold lawF
  simp only [Lt_n, g, ↓reduceIte]
  split <;> rfl
theorem lg_no {R : Int32 → ST → Option (Int32 × ST)} {w : Int32} {s : ST} (h0 : M_isWord s 0 = 0) (h1 : M_isWord s 1 = 0) : lawG R w s = if (s.1 0 15) = 0 then some (w, s) else some ((M_errs s (1 : Int32)).1, (M_errs s (1 : Int32)).2) := by
  unfold lawG M_isLineWord
  simp only [Lt_n, h0, h1, ↓reduceIte]
theorem lg_full {R : Int32 → ST → Option (Int32 × ST)} {s : ST} (h : M_isWord s 0 = 1 ∨ (M_isWord s 0 = 0 ∧ M_isWord s 1 = 1)) : lawG R 16 s = some ((M_errs s (3 : Int32)).1, (M_errs s (3 : Int32)).2) := by
  unfold lawG M_isLineWord
  rcases h with h | ⟨h, h1⟩
  · simp only [Lt_n, h, i10, ↓reduceIte]
  · simp only [Lt_n, h, h1, i10, ↓reduceIte]
theorem lg_line {R : Int32 → ST → Option (Int32 × ST)} {w : Int32} {s : ST} (h : M_isWord s 0 = 1 ∨ (M_isWord s 0 = 0 ∧ M_isWord s 1 = 1)) (hw : ¬ w = 16) : lawG R w s = Gs s 9 48 ((32 : Int32) + w) (s.1 0 16) fun s2 => Bd (M_reads s2) fun s3 => Gs s3 10 48 ((32 : Int32) + w) (s3.1 0 26) fun s4 => Bd (M_readSum s4) fun y4 => if y4.1 = (-1 : Int32) then (some ((-1 : Int32), y4.2)) else (Gs y4.2 11 48 ((32 : Int32) + w) (y4.2.1 0 26) fun s5 => mTail R w s5) := by
  unfold lawG M_isLineWord mTail mEnd
  rcases h with h | ⟨h, h1⟩
  · simp only [Lt_n, h, hw, i10, ↓reduceIte]
  · simp only [Lt_n, h, h1, hw, i10, ↓reduceIte]
theorem ff.g {s s' : ST} (h : ff s s') : gc s s' := ⟨h.mono (by decide), fun j _ => by rw [(h 49 (by decide)).1], fun c hc => by rw [(h c (by simp only [List.mem_cons, List.not_mem_nil, or_false] at hc ⊢; omega)).1]⟩
theorem lq.gc {k : Nat} {sc sc' sm sm' : ST} (h : lq k sc sc' sm sm') : gc sc sc' := ⟨h.1.1.mono (by decide), h.1.2.1, fun c hc => by rw [(h.1.1 c (by simp only [List.mem_cons, List.not_mem_nil, or_false] at hc ⊢; omega)).1]⟩
theorem lq.gm {k : Nat} {sc sc' sm sm' : ST} (h : lq k sc sc' sm sm') : gm sm sm' :=
  ⟨h.2.1.mono (by decide), fun j hj => h.2.2.1 j (by simp only [List.mem_cons, List.not_mem_nil, or_false, not_or] at hj ⊢; omega), fun c hc i _ => by rw [(h.2.1 c (by simp only [List.mem_cons, List.not_mem_nil, or_false] at hc ⊢; omega)).1], fun c hc i hi => by
    simp only [List.mem_cons, List.not_mem_nil, or_false] at hc
    rcases hc with rfl | rfl
    · exact (h.2.2.2 i (by omega)).1
    · exact (h.2.2.2 i (by omega)).2, fun i _ => by rw [(h.2.1 16 (by decide)).1], fun i _ => by rw [(h.2.1 17 (by decide)).1], fun i _ => by rw [(h.2.1 18 (by decide)).1], fun i _ => by rw [(h.2.1 19 (by decide)).1]⟩
theorem cEnd_dead {R : Int32 → ST → Option (Int32 × ST)} {c a2 y3 y4 : Int32} {s : ST} (h : FM s) : cEnd R c a2 y3 y4 s = R (c + 1) s := by
  unfold cEnd
  rw [fm_needSign h, Bd_some, if_neg h.1]
theorem cTail_dead {R : Int32 → ST → Option (Int32 × ST)} {c a2 : Int32} {s : ST} (h : FZ s) : ∃ s', cTail R c a2 s = R (c + 1) s' ∧ FZ s' ∧ ff s s' := by
  obtain ⟨s1, e1, e2, e3⟩ := fz_sum h
  refine ⟨s1, ?_, e2, e3⟩
  unfold cTail
  rw [e1, Bd_some, fm_takesWord e2.1, Bd_some]
  (try dsimp only)
  rw [if_pos i00, cEnd_dead e2.1]
/-- a line of the draft -/
def LL (k : Nat) (sc sm : ST) (r : Nat) : Prop := ∃ w p q t t1, w ≤ 1 ∧ p ≤ q ∧ q ≤ t ∧ t ≤ k ∧ sc.1 62 (4 * r) = nI w ∧ sc.1 62 (4 * r + 1) = nI p ∧ sc.1 62 (4 * r + 2) = nI q ∧ sc.1 62 (4 * r + 3) = nI t ∧ sm.1 9 (32 + r) = nI w ∧ sm.1 10 (32 + r) = nI p ∧ sm.1 11 (32 + r) = nI q ∧ sm.1 12 (32 + r) = nI t ∧ tyR (fun j => sm.1 13 (800 + j)) (fun j => sm.1 14 (800 + j)) (q - p) p [] = some [t1] ∧ (q < t → tyR (fun j => sm.1 13 (800 + j)) (fun j => sm.1 14 (800 + j)) (t - q) q [] = some [1])
theorem LL.mv {k k' r : Nat} {sc sm sc' sm' : ST} (h : LL k sc sm r) (hk : k ≤ k') (c62 : ∀ j, j < 4 * r + 4 → sc'.1 62 j = sc.1 62 j) (m9 : sm'.1 9 (32 + r) = sm.1 9 (32 + r)) (m10 : sm'.1 10 (32 + r) = sm.1 10 (32 + r)) (m11 : sm'.1 11 (32 + r) = sm.1 11 (32 + r)) (m12 : sm'.1 12 (32 + r) = sm.1 12 (32 + r)) (mm : ∀ j, j < 800 + k → sm'.1 13 j = sm.1 13 j ∧ sm'.1 14 j = sm.1 14 j) : LL k' sc' sm' r := by
  obtain ⟨w, p, q, t, t1, h1, h2, h3, h4, h5, h6, h7, h8, h9, h10, h11, h12, h13, h14⟩ := h
  refine ⟨w, p, q, t, t1, h1, h2, h3, by omega, by rw [c62 _ (by omega)]; exact h5, by rw [c62 _ (by omega)]; exact h6, by rw [c62 _ (by omega)]; exact h7, by rw [c62 _ (by omega)]; exact h8, m9.trans h9, m10.trans h10, m11.trans h11, m12.trans h12, ?_, fun g => ?_⟩
  · exact (tyR_cong (fun j j1 j2 => mm _ (by omega))).trans h13
  · exact (tyR_cong (fun j j1 j2 => mm _ (by omega))).trans (h14 g)
def DL (w k : Nat) (sc sm : ST) : Prop := w ≤ 16 ∧ sc.1 61 0 = nI 16 ∧ sc.1 61 2 = nI w ∧ LC k sc sm ∧ sm.1 0 27 = 0 ∧ ∀ r, r < w → LL k sc sm r
/-- the end of a line -/
theorem lw_end {f : Nat → Nat} {n T : Nat} {Z : Nat → Nat → Nat} {j k w v p q t1 c : Nat} {sc sm : ST} {R R' : Int32 → ST → Option (Int32 × ST)} (h : SY f n T Z j sc sm) (D : DL w k sc sm) (hw : w < 16) (hk : k ≤ 400) (hv : v ≤ 1) (hpq : p ≤ q) (hqk : q ≤ k) (m9 : sm.1 9 (32 + w) = nI v) (m10 : sm.1 10 (32 + w) = nI p) (m11 : sm.1 11 (32 + w) = nI q) (t13 : tyR (fun j => sm.1 13 (800 + j)) (fun j => sm.1 14 (800 + j)) (q - p) p [] = some [t1]) (t14 : q < k → tyR (fun j => sm.1 13 (800 + j)) (fun j => sm.1 14 (800 + j)) (k - q) q [] = some [1]) :
  (∃ sc' sm', cEnd R (nI c) (nI v) (nI p) (nI q) sc = R (nI (c + 1)) sc' ∧ mEnd R' (nI w) sm = R' (nI (w + 1)) sm' ∧ SY f n T Z (j + 1) sc' sm' ∧ DL (w + 1) k sc' sm' ∧ gc sc sc' ∧ gm sm sm') ∨ (∃ sc' sm', cEnd R (nI c) (nI v) (nI p) (nI q) sc = R (nI (c + 1)) sc' ∧ mEnd R' (nI w) sm = some (-1, sm') ∧ FS sc' sm' ∧ gc sc sc' ∧ gm sm sm') := by
  obtain ⟨D1, D2, D3, ⟨D4, D5, D6⟩, D7, D8⟩ := D
  have h4 : SY f n T Z j sc (ups sm 12 (32 + w) (nI k)) := h.w (by decide)
  have s59 : M_isSign (ups sm 12 (32 + w) (nI k)) 59 = if Z 3 j = 4 ∧ Z 4 j = 59 then 1 else 0 := sm_sign h4 (c := 59) (by decide)
  have g4 : gm sm (ups sm 12 (32 + w) (nI k)) := gm.rf.wr (Or.inr (Or.inl ⟨by decide, by omega⟩))
  unfold mEnd
  rw [D5, show (32 : Int32) + nI w = nI (32 + w) from nI_add 32 w, Gs_n (by omega) (by decide)]
  by_cases g : Z 3 j = 4 ∧ Z 4 j = 59
  · obtain ⟨c5, m5, z1, z2, z3, z4, z5⟩ := sy_adv h4 (by omega)
    have ns : C_X5_needSign sc 59 = some c5 := by
      unfold C_X5_needSign
      rw [show C_X5_takesSign sc 59 = some (1, c5) from ts_yes h4 (c := 59) (by decide) (by decide) g z1, Bd_some]
      (try dsimp only)
      rw [if_neg i10]
    have r60 : c5.1 60 = sc.1 60 := (z4.1 60 (by decide)).1
    have r61 : c5.1 61 = sc.1 61 := (z4.1 61 (by decide)).1
    have r62 : c5.1 62 = sc.1 62 := (z4.1 62 (by decide)).1
    have r63 : c5.1 63 = sc.1 63 := (z4.1 63 (by decide)).1
    have n9 : m5.1 9 = sm.1 9 := by rw [(z5.1 9 (by decide)).1, ups_ne (by decide)]
    have n10 : m5.1 10 = sm.1 10 := by rw [(z5.1 10 (by decide)).1, ups_ne (by decide)]
    have n11 : m5.1 11 = sm.1 11 := by rw [(z5.1 11 (by decide)).1, ups_ne (by decide)]
    have n12 : ∀ i, m5.1 12 i = if i = 32 + w then nI k else sm.1 12 i := fun i => by rw [(z5.1 12 (by decide)).1, rd1]
    have n13 : m5.1 13 = sm.1 13 := by rw [(z5.1 13 (by decide)).1, ups_ne (by decide)]
    have n14 : m5.1 14 = sm.1 14 := by rw [(z5.1 14 (by decide)).1, ups_ne (by decide)]
    rw [s59, if_pos g, if_neg i10, z2, Bd_some, nI_1]
    unfold cEnd
    rw [ns, Bd_some, if_pos z3.2.2.2.2.2.1, r60, D4, c_add (b := 61) (r := w) (M := 16) (by rw [r61]; exact D3) (by rw [r61]; exact D2) hw (by decide) rfl, Bd_some, nI_1]
    have c62 : ∀ i, (ups (ups (ups (ups (ups c5 (61 + 1) (4 * w) (nI v)) (61 + 1) (4 * w + 1) (nI p)) (61 + 1) (4 * w + 2) (nI q)) (61 + 1) (4 * w + 3) (nI k)) 61 2 (nI (w + 1))).1 62 i = if i = 4 * w + 3 then nI k else if i = 4 * w + 2 then nI q else if i = 4 * w + 1 then nI p else if i = 4 * w then nI v else sc.1 62 i := fun i => by
      rw [ups_ne (by decide), rd1, rd1, rd1, rd1, r62]
    refine Or.inl ⟨_, m5, rfl, rfl, ((((z3.wc (c := 62) (k := 4 * w) (x := nI v) (by decide)).wc (c := 62) (k := 4 * w + 1) (x := nI p) (by decide)).wc (c := 62) (k := 4 * w + 2) (x := nI q) (by decide)).wc (c := 62) (k := 4 * w + 3) (x := nI k) (by decide)).wc (c := 61) (k := 2) (x := nI (w + 1)) (by decide), ⟨by omega, ?_, by rw [rd1, if_pos rfl], ⟨?_, ?_, fun i hi => ?_⟩, ?_, fun r hr => ?_⟩, z4.g.tr (gc.add (b := 61) (by decide)), g4.tr z5.g⟩
    · rw [ups_z (by decide), ups_ne (by decide), ups_ne (by decide), ups_ne (by decide), ups_ne (by decide), r61]; exact D2
    · rw [ups_ne (by decide), ups_ne (by decide), ups_ne (by decide), ups_ne (by decide), ups_ne (by decide), r60]; exact D4
    · rw [z5.2 26 (by decide), ups_ne (by decide)]; exact D5
    · rw [ups_ne (by decide), ups_ne (by decide), ups_ne (by decide), ups_ne (by decide), ups_ne (by decide), r63, n13, n14]; exact D6 i hi
    · rw [z5.2 27 (by decide), ups_ne (by decide)]; exact D7
    · by_cases e : r = w
      · subst e
        refine ⟨v, p, q, k, t1, hv, hpq, hqk, Nat.le_refl _, ?_, ?_, ?_, ?_, by rw [n9]; exact m9, by rw [n10]; exact m10, by rw [n11]; exact m11, by rw [n12, if_pos rfl], by rw [n13, n14]; exact t13, by rw [n13, n14]; exact t14⟩
        · rw [c62, if_neg (by omega), if_neg (by omega), if_neg (by omega), if_pos rfl]
        · rw [c62, if_neg (by omega), if_neg (by omega), if_pos rfl]
        · rw [c62, if_neg (by omega), if_pos rfl]
        · rw [c62, if_pos rfl]
      · exact (D8 r (by omega)).mv (Nat.le_refl _) (fun i hi => by rw [c62, if_neg (by omega), if_neg (by omega), if_neg (by omega), if_neg (by omega)]) (by rw [n9]) (by rw [n10]) (by rw [n11]) (by rw [n12, if_neg (by omega)]) (fun i _ => by rw [n13, n14]; exact ⟨rfl, rfl⟩)
  · obtain ⟨c5, m5, b1, b2, b3, b4, b5⟩ := sy_fail h4 1 k1
    have ns : C_X5_needSign sc 59 = some c5 := by
      unfold C_X5_needSign
      rw [show C_X5_takesSign sc 59 = some (0, sc) from ts_no h4 (c := 59) (by decide) (by decide) g, Bd_some]
      (try dsimp only)
      rw [if_pos i00, b1, Bd_some]
    rw [s59, if_neg g, if_pos i00, b2]
    unfold cEnd
    rw [ns, Bd_some, if_neg b3.1, nI_1]
    exact Or.inr ⟨c5, m5, rfl, rfl, b3, b4.g, g4.tr b5.g⟩
/-- the rows of a draft, when more is emitted -/
theorem DL.rows {w k k' : Nat} {sc sm sc' sm' : ST} (D : ∀ r, r < w → LL k sc sm r) (hk : k ≤ k') (c62 : sc'.1 62 = sc.1 62) (mr : ∀ c, c ∈ [9, 10, 11, 12] → ∀ i, i < 32 + w → sm'.1 c i = sm.1 c i) (mm : ∀ j, j < 800 + k → sm'.1 13 j = sm.1 13 j ∧ sm'.1 14 j = sm.1 14 j) : ∀ r, r < w → LL k' sc' sm' r := fun r hr =>
  (D r hr).mv hk (fun _ _ => by rw [c62]) (mr 9 (by decide) _ (by omega)) (mr 10 (by decide) _ (by omega)) (mr 11 (by decide) _ (by omega)) (mr 12 (by decide) _ (by omega)) mm
/-- a line, from behind its sum -/
theorem lw_tail {f : Nat → Nat} {n T : Nat} {Z : Nat → Nat → Nat} {j k w v p t1 c : Nat} {sc sm : ST} {R R' : Int32 → ST → Option (Int32 × ST)} (h : SY f n T Z j sc sm) (D : DL w k sc sm) (hw : w < 16) (hk : k ≤ j) (hv : v ≤ 1) (hpq : p ≤ k) (m9 : sm.1 9 (32 + w) = nI v) (m10 : sm.1 10 (32 + w) = nI p) (m11 : sm.1 11 (32 + w) = nI k) (t13 : tyR (fun j => sm.1 13 (800 + j)) (fun j => sm.1 14 (800 + j)) (k - p) p [] = some [t1]) :
  (∃ j' k' sc' sm', j < j' ∧ k' ≤ j' ∧ (Bd (C_X5_takesWord sc 19) fun y5 => if y5.1 = 0 then cEnd R (nI c) (nI v) (nI p) (nI k) y5.2 else (Bd (C_X3_readCondition y5.2 (0 : Int32)) fun s10 => cEnd R (nI c) (nI v) (nI p) (nI k) s10)) = R (nI (c + 1)) sc' ∧ mTail R' (nI w) sm = R' (nI (w + 1)) sm' ∧ SY f n T Z j' sc' sm' ∧ DL (w + 1) k' sc' sm' ∧ gc sc sc' ∧ gm sm sm') ∨ (∃ sc' sm', (Bd (C_X5_takesWord sc 19) fun y5 => if y5.1 = 0 then cEnd R (nI c) (nI v) (nI p) (nI k) y5.2 else (Bd (C_X3_readCondition y5.2 (0 : Int32)) fun s10 => cEnd R (nI c) (nI v) (nI p) (nI k) s10)) = R (nI (c + 1)) sc' ∧ mTail R' (nI w) sm = some (-1, sm') ∧ FS sc' sm' ∧ gc sc sc' ∧ gm sm sm') := by
  have hj := h.i400
  have hjT := h.2.2.1
  have hT401 := h.1.2.2.1
  have w2 : M_isWord sm 2 = if Z 3 j = 2 ∧ Z 4 j = 2 then 1 else 0 := sm_word h (w := 2) (by decide)
  unfold mTail
  by_cases g : Z 3 j = 2 ∧ Z 4 j = 2
  · obtain ⟨c2, m2, z1, z2, z3, z4, z5⟩ := sy_adv h (by omega)
    have tw : C_X5_takesWord sc 19 = some (1, c2) := tw_yes h (x := 19) (by decide) g z1
    obtain ⟨D1, D2, D3, D4, D7, D8⟩ := D
    have hL : LN k k [] sc sm := ⟨D4, Nat.le_refl _, by rw [Nat.sub_self]; rfl⟩
    have h2 : LQ f n T Z k (j + 1) k [] [] 0 c2 (ups m2 0 29 0) := ⟨z3.w0 (by decide), hL.mv (by rw [(z4.1 60 (by decide)).1]) (fun i _ => by rw [(z4.1 63 (by decide)).1]) (by rw [rd1, if_neg (by decide), z5.2 26 (by decide)]) (fun i _ => by rw [ups_ne (by decide), ups_ne (by decide), (z5.1 13 (by decide)).1, (z5.1 14 (by decide)).1]; exact ⟨rfl, rfl⟩), ⟨by rw [rd1, if_pos rfl]; rfl, trivial, Nat.zero_le _⟩, by rw [rd1, if_neg (by decide), z5.2 27 (by decide)]; exact D7⟩
    have f29 : gm sm (ups m2 0 29 0) := (z5.g).wr (Or.inl ⟨rfl, by decide⟩)
    have rc : C_X3_readCondition c2 0 = F_X3_readCondition (RP 12) c2 (nI 0) := rfl
    rw [w2, if_pos g, if_neg i10, tw, Bd_some, z2, Bd_some, readAny_m, rc]
    (try dsimp only)
    rw [if_neg i10]
    rcases (cond_all (f := f) (n := n) (T := T) (Z := Z) T k (j + 1) k 0 0 12 0 FU [] [] c2 (ups m2 0 29 0) (by omega) h2 (by omega) ⟨by decide, by decide, by decide⟩ (Nat.zero_le _) (Nat.zero_le _) (by decide) (by decide) (by decide) (by unfold FU; omega)).symm with ⟨c3, m3, u1, u2, u3, u4, u5⟩ | ⟨j2, k2, n2, c3, m3, u1, u2, u3, u4, u5, u6, u7, u8⟩
    · have u2' : lpK3 raG FU 0 1 (ups m2 0 29 0) = some (-1, m3) := u2
      rw [u1, Bd_some, cEnd_dead u4.1, nI_1, u2', Bd_some]
      (try dsimp only)
      rw [if_pos (rfl : (-1 : Int32) = -1)]
      exact Or.inr ⟨c3, m3, rfl, rfl, u3, z4.g.tr u5.gc, f29.tr u5.gm⟩
    · have u4' : lpK3 raG FU 0 1 (ups m2 0 29 0) = some (0, m3) := u4.trans (by unfold raE; exact if_pos (show nI 0 = 0 from rfl))
      have hj2 := u5.1.i400
      have q9 : ∀ cc, cc ∈ [9, 10, 11, 12] → m3.1 cc = sm.1 cc := fun cc hc => by
        simp only [List.mem_cons, List.not_mem_nil, or_false] at hc
        rw [(u8.2.1 cc (by simp only [List.mem_cons, List.not_mem_nil, or_false]; omega)).1, ups_ne (by omega), (z5.1 cc (by simp only [List.mem_cons, List.not_mem_nil, or_false]; omega)).1]
      have q13 : ∀ i, i < 800 + k → m3.1 13 i = sm.1 13 i ∧ m3.1 14 i = sm.1 14 i := fun i hi => by
        have := u8.2.2.2 i hi
        rw [ups_ne (by decide), ups_ne (by decide), (z5.1 13 (by decide)).1, (z5.1 14 (by decide)).1] at this
        exact this
      have gC : gc sc c3 := z4.g.tr u8.gc
      have gM : gm sm m3 := f29.tr u8.gm
      have D3' : DL w k2 c3 m3 := ⟨D1, by rw [(u8.1.1 61 (by decide)).1, (z4.1 61 (by decide)).1]; exact D2, by rw [(u8.1.1 61 (by decide)).1, (z4.1 61 (by decide)).1]; exact D3, u5.2.1.1, u5.2.2.2, DL.rows D8 u2 (by rw [(u8.1.1 62 (by decide)).1, (z4.1 62 (by decide)).1]) (fun cc hc i _ => by rw [q9 cc hc]) q13⟩
      have ty := u5.2.1.2.2
      rcases lw_end (c := c) (R := R) (R' := R') (v := v) (p := p) (q := k) (t1 := t1) u5.1 D3' hw (by omega) hv hpq u2 (by rw [q9 9 (by decide)]; exact m9) (by rw [q9 10 (by decide)]; exact m10) (by rw [q9 11 (by decide)]; exact m11) ((tyR_cong (fun i i1 i2 => q13 _ (by omega))).trans t13) (fun _ => ty) with ⟨c4, m4, y1, y2, y3, y4, y5, y6⟩ | ⟨c4, m4, y1, y2, y3, y4, y5⟩
      · rw [u3, Bd_some, y1, u4', Bd_some]
        (try dsimp only)
        rw [if_neg (show ¬ (0 : Int32) = -1 by decide), y2]
        exact Or.inl ⟨j2 + 1, k2, c4, m4, by omega, by omega, rfl, rfl, y3, y4, gC.tr y5, gM.tr y6⟩
      · rw [u3, Bd_some, y1, u4', Bd_some]
        (try dsimp only)
        rw [if_neg (show ¬ (0 : Int32) = -1 by decide), y2]
        exact Or.inr ⟨c4, m4, rfl, rfl, y3, gC.tr y4, gM.tr y5⟩
  · have tw : C_X5_takesWord sc 19 = some (0, sc) := tw_no h (x := 19) (by decide) g
    rw [w2, if_neg g, if_pos i00, tw, Bd_some]
    (try dsimp only)
    rw [if_pos i00]
    rcases lw_end (c := c) (R := R) (R' := R') (v := v) (p := p) (q := k) (t1 := t1) h D hw (by omega) hv hpq (Nat.le_refl _) m9 m10 m11 t13 (fun q => absurd q (Nat.lt_irrefl _)) with ⟨c4, m4, y1, y2, y3, y4, y5, y6⟩ | ⟨c4, m4, y1, y2, y3, y4, y5⟩
    · exact Or.inl ⟨j + 1, k, c4, m4, by omega, by omega, y1, y2, y3, y4, y5, y6⟩
    · exact Or.inr ⟨c4, m4, y1, y2, y3, y4, y5⟩
theorem lw_head {f : Nat → Nat} {n T : Nat} {Z : Nat → Nat → Nat} {i w c : Nat} {sc sm : ST} {K : ST → Option (Int32 × ST)} {R : Int32 → ST → Option (Int32 × ST)} (h : SY f n T Z i sc sm) (hc : ¬ (400 : Int32) ≤ nI c) (h2 : sc.1 61 2 = nI w) (h0 : sc.1 61 0 = nI 16) (hw : w ≤ 16) (gE : ¬ Z 3 i = 0) :
  (¬ (Z 3 i = 2 ∧ Z 4 i ≤ 1) ∧ ∃ a2 sc' sm', lawF K R (nI c) sc = cTail R (nI c) a2 sc' ∧ M_errs sm 1 = (-1, sm') ∧ FS sc' sm' ∧ fc sc sc' ∧ fm sm sm') ∨ ((Z 3 i = 2 ∧ Z 4 i ≤ 1) ∧ w = 16 ∧ ∃ a2 sc' sm', lawF K R (nI c) sc = cTail R (nI c) a2 sc' ∧ M_errs sm 3 = (-1, sm') ∧ FS sc' sm' ∧ fc sc sc' ∧ fm sm sm') ∨ ((Z 3 i = 2 ∧ Z 4 i ≤ 1) ∧ w < 16 ∧ ∃ sc' sm', lawF K R (nI c) sc = cTail R (nI c) (nI (Z 4 i)) sc' ∧ M_reads sm = some sm' ∧ SY f n T Z (i + 1) sc' sm' ∧ fc sc sc' ∧ fm sm sm') := by
  have go : C_X5_goesOn sc = 1 := by rw [sy_goesOn h, if_neg gE]
  rcases sy_head h (x := 17) (by decide) h2 h0 hw (by decide) with ⟨q, e⟩ | ⟨q, qr, t1, t2, e, e3, e4, e5, e6⟩ | ⟨q, qr, t1, t2, e, e3, e4, e5, e6⟩
  · have q : ¬ (Z 3 i = 2 ∧ Z 4 i = 0) := q
    rcases sy_head h (x := 18) (by decide) h2 h0 hw (by decide) with ⟨q', e'⟩ | ⟨q', qr, t1, t2, e', e3, e4, e5, e6⟩ | ⟨q', qr, t1, t2, e', e3, e4, e5, e6⟩
    · have q' : ¬ (Z 3 i = 2 ∧ Z 4 i = 1) := q'
      obtain ⟨c5, m5, b1, b2, b3, b4, b5⟩ := sy_fail h 1 k1
      exact Or.inl ⟨by omega, 1, c5, m5, lf_no hc go e e' b1, b2, b3, b4, b5⟩
    · have q' : Z 3 i = 2 ∧ Z 4 i = 1 := q'
      exact Or.inr (Or.inl ⟨by omega, qr, 1, t1, t2, lf_18 hc go e e', e3, e4, e5, e6⟩)
    · have q' : Z 3 i = 2 ∧ Z 4 i = 1 := q'
      exact Or.inr (Or.inr ⟨by omega, qr, t1, t2, by rw [q'.2]; exact lf_18 hc go e e', e3, e4, e5, e6⟩)
  · have q : Z 3 i = 2 ∧ Z 4 i = 0 := q
    exact Or.inr (Or.inl ⟨by omega, qr, 0, t1, t2, lf_17 hc go e, e3, e4, e5, e6⟩)
  · have q : Z 3 i = 2 ∧ Z 4 i = 0 := q
    exact Or.inr (Or.inr ⟨by omega, qr, t1, t2, by rw [q.2]; exact lf_17 hc go e, e3, e4, e5, e6⟩)
/-- all lines -/
theorem laws_loop {f : Nat → Nat} {n T : Nat} {Z : Nat → Nat → Nat} {sc sm : ST} {K : ST → Option (Int32 × ST)} (h : SY f n T Z 0 sc sm) (D : DL 0 0 sc sm) : (∃ w k j sc' sm', lpK2 (lawF K) FU (0 : Int32) sc = K sc' ∧ lpK2 lawG FU (0 : Int32) sm = some (nI w, sm') ∧ SY f n T Z j sc' sm' ∧ DL w k sc' sm' ∧ k ≤ 400 ∧ gc sc sc' ∧ gm sm sm') ∨ (∃ sc' sm', lpK2 (lawF K) FU (0 : Int32) sc = K sc' ∧ lpK2 lawG FU (0 : Int32) sm = some (-1, sm') ∧ FS sc' sm' ∧ gc sc sc' ∧ gm sm sm') := by
  refine lkb22 (Q := fun oc om => (∃ w k j sc' sm', oc = K sc' ∧ om = some (nI w, sm') ∧ SY f n T Z j sc' sm' ∧ DL w k sc' sm' ∧ k ≤ 400 ∧ gc sc sc' ∧ gm sm sm') ∨ (∃ sc' sm', oc = K sc' ∧ om = some (-1, sm') ∧ FS sc' sm' ∧ gc sc sc' ∧ gm sm sm')) (I := fun m a1 s1 b1 s2 => ∃ i c w k, i + m = T ∧ c ≤ i ∧ k ≤ i ∧ a1 = nI c ∧ b1 = nI w ∧ SY f n T Z i s1 s2 ∧ DL w k s1 s2 ∧ gc sc s1 ∧ gm sm s2) ?_ FU T _ _ _ _ (by have := h.1.2.2.1; unfold FU; omega) ⟨0, 0, 0, 0, by omega, Nat.le_refl _, Nat.le_refl _, rfl, rfl, h, D, gc.rf, gm.rf⟩
  rintro m n' rf rg a1 s1 b1 s2 hmn hrf hrg ⟨i, c, w, k, him, hci, hki, rfl, rfl, h1, D1, g1, g2⟩ ih
  have hiT := h1.2.2.1
  have hi400 := h1.i400
  have hT401 := h1.1.2.2.1
  have w0 : M_isWord s2 0 = if Z 3 i = 2 ∧ Z 4 i = 0 then 1 else 0 := sm_word h1 (w := 0) (by decide)
  have w1 : M_isWord s2 1 = if Z 3 i = 2 ∧ Z 4 i = 1 then 1 else 0 := sm_word h1 (w := 1) (by decide)
  have bad : ∀ s, FM s → rf (nI (c + 1)) s = K s := fun s fb => by
    obtain ⟨n2, rfl⟩ : ∃ n2, n' = n2 + 1 := ⟨n' - 1, by omega⟩
    rw [hrf, lp2_s', lf_end (fm_goesOn fb)]
  by_cases gE : Z 3 i = 0
  · have e0 : s2.1 0 15 = (0 : Int32) := (sm_tok h1 (c := 0) (by decide)).mpr gE
    rw [lf_end (by rw [sy_goesOn h1, if_pos gE]), lg_no (by rw [w0, if_neg (by omega)]) (by rw [w1, if_neg (by omega)]), if_pos e0]
    exact Or.inl ⟨w, k, i, s1, s2, rfl, rfl, h1, D1, by omega, g1, g2⟩
  have hc400 : ¬ (400 : Int32) ≤ nI c := nle_t (n := 400) (by
    have q := h1.row.2
    have := h1.tk.1
    omega) (by decide)
  have isW : Z 3 i = 2 ∧ Z 4 i ≤ 1 → M_isWord s2 0 = 1 ∨ (M_isWord s2 0 = 0 ∧ M_isWord s2 1 = 1) := fun q => by
    rw [w0, w1]
    by_cases e : Z 4 i = 0
    · rw [if_pos ⟨q.1, e⟩]; exact Or.inl rfl
    · rw [if_neg (by omega), if_pos (by omega)]; exact Or.inr ⟨rfl, rfl⟩
  have dead : ∀ a2 t1, FM t1 → fc s1 t1 → ∃ t, cTail rf (nI c) a2 t1 = K t ∧ FM t ∧ ff t1 t := fun a2 t1 fb fr => by
    obtain ⟨t, x1, x2, x3⟩ := cTail_dead (R := rf) (c := nI c) (a2 := a2) (s := t1) ⟨fb, k, by omega, by rw [(fr.1 60 (by decide)).1]; exact D1.2.2.2.1.1⟩
    exact ⟨t, by rw [x1, nI_1, bad t x2.1], x2.1, x3⟩
  rcases lw_head (K := K) (R := rf) h1 hc400 D1.2.2.1 D1.2.1 D1.1 gE with ⟨q, a2, t1, t2, e, e3, e4, e5, e6⟩ | ⟨q, qr, a2, t1, t2, e, e3, e4, e5, e6⟩ | ⟨q, qr, _⟩
  · obtain ⟨t, x1, x2, x3⟩ := dead a2 t1 e4.m e5
    have n0 : ¬ s2.1 0 15 = (0 : Int32) := fun z => gE ((sm_tok h1 (c := 0) (by decide)).mp z)
    rw [e, x1, lg_no (by rw [w0, if_neg (by omega)]) (by rw [w1, if_neg (by omega)]), if_neg n0, e3]
    exact Or.inr ⟨t, t2, rfl, rfl, e4.ff x3, (g1.tr e5.g).tr x3.g, g2.tr e6.g⟩
  · obtain ⟨t, x1, x2, x3⟩ := dead a2 t1 e4.m e5
    rw [e, x1, qr, show nI 16 = (16 : Int32) from rfl, lg_full (isW q), e3]
    exact Or.inr ⟨t, t2, rfl, rfl, e4.ff x3, (g1.tr e5.g).tr x3.g, g2.tr e6.g⟩
  · -- a line
    have e16 := h1.2.2.2.2.2.2.2.2.2.2 (by omega)
    have hw16 : ¬ nI w = (16 : Int32) := fun z => by
      have := (nI_eq (b := 16) (by omega) (by decide)).mp z
      omega
    have a32 : (32 : Int32) + nI w = nI (32 + w) := nI_add 32 w
    have h1' : SY f n T Z i s1 (ups s2 9 (32 + w) (nI (Z 4 i))) := h1.w (by decide)
    have gA : gm s2 (ups s2 9 (32 + w) (nI (Z 4 i))) := gm.rf.wr (Or.inr (Or.inl ⟨by decide, by omega⟩))
    rw [lg_line (isW q) hw16, e16, a32, Gs_n (by omega) (by decide)]
    obtain ⟨t1, t2, e, e3, e4, e5, e6⟩ : ∃ sc' sm', lawF K rf (nI c) s1 = cTail rf (nI c) (nI (Z 4 i)) sc' ∧ M_reads (ups s2 9 (32 + w) (nI (Z 4 i))) = some sm' ∧ SY f n T Z (i + 1) sc' sm' ∧ fc s1 sc' ∧ fm (ups s2 9 (32 + w) (nI (Z 4 i))) sm' := by
      rcases lw_head (K := K) (R := rf) h1' hc400 D1.2.2.1 D1.2.1 D1.1 gE with ⟨q', _⟩ | ⟨_, qr', _⟩ | ⟨_, _, x⟩
      · exact absurd q q'
      · omega
      · exact x
    obtain ⟨D1a, D2, D3, D4, D7, D8⟩ := D1
    have t26 : t2.1 0 26 = nI k := by rw [e6.2 26 (by decide), ups_ne (by decide)]; exact D4.2.1
    rw [e3, Bd_some, t26, Gs_n (by omega) (by decide), e]
    obtain ⟨t3, ht3⟩ : ∃ x, x = ups t2 10 (32 + w) (nI k) := ⟨_, rfl⟩
    rw [← ht3]
    have hs3 : SY f n T Z (i + 1) t1 t3 := by rw [ht3]; exact e4.w (by decide)
    have c13 : t3.1 13 = s2.1 13 := by rw [ht3, ups_ne (by decide), (e6.1 13 (by decide)).1, ups_ne (by decide)]
    have c14 : t3.1 14 = s2.1 14 := by rw [ht3, ups_ne (by decide), (e6.1 14 (by decide)).1, ups_ne (by decide)]
    have c9 : ∀ x, t3.1 9 x = if x = 32 + w then nI (Z 4 i) else s2.1 9 x := fun x => by rw [ht3, ups_ne (by decide), (e6.1 9 (by decide)).1, rd1]
    have c10 : ∀ x, t3.1 10 x = if x = 32 + w then nI k else s2.1 10 x := fun x => by rw [ht3, rd1, (e6.1 10 (by decide)).1, ups_ne (by decide)]
    have c11 : t3.1 11 = s2.1 11 := by rw [ht3, ups_ne (by decide), (e6.1 11 (by decide)).1, ups_ne (by decide)]
    have c12 : t3.1 12 = s2.1 12 := by rw [ht3, ups_ne (by decide), (e6.1 12 (by decide)).1, ups_ne (by decide)]
    have x26 : t3.1 0 26 = nI k := by rw [ht3, ups_ne (by decide)]; exact t26
    have x27 : t3.1 0 27 = 0 := by rw [ht3, ups_ne (by decide), e6.2 27 (by decide), ups_ne (by decide)]; exact D7
    have y60 : t1.1 60 2 = nI k := by rw [(e5.1 60 (by decide)).1]; exact D4.1
    have g3 : gm s2 t3 := by rw [ht3]; exact (gA.tr e6.g).wr (Or.inr (Or.inl ⟨by decide, by omega⟩))
    have L3 : L0 f n T Z k (i + 1) k [] t1 t3 := ⟨hs3, ⟨y60, x26, fun j hj => by rw [(e5.1 63 (by decide)).1, c13, c14]; exact D4.2.2 j hj⟩, Nat.le_refl _, by rw [Nat.sub_self]; rfl⟩
    clear ht3
    unfold cTail
    rcases (l_esum (p := 0) L3 (by omega) (by decide)).symm with ⟨c4, m4, u1, u2, u3, u4, u5⟩ | ⟨j, k', t', c4, m4, u1, u2, u3, u4, u5, u6, u7⟩
    · rw [u1, Bd_some, fm_takesWord u4.1, Bd_some]
      (try dsimp only)
      rw [if_pos i00, cEnd_dead u4.1, nI_1, bad c4 u4.1, u2, Bd_some]
      (try dsimp only)
      rw [if_pos (rfl : (-1 : Int32) = -1)]
      exact Or.inr ⟨c4, m4, rfl, rfl, u3, (g1.tr e5.g).tr u5.q.gc, (g2.tr g3).tr u5.q.gm⟩
    · have hj := u5.1.i400
      have b26 : m4.1 0 26 = nI k' := u5.2.1.2.1
      have b60 : c4.1 60 2 = nI k' := u5.2.1.1
      obtain ⟨m5, hm5⟩ : ∃ x, x = ups m4 11 (32 + w) (nI k') := ⟨_, rfl⟩
      have hs5 : SY f n T Z j c4 m5 := by rw [hm5]; exact u5.1.w (by decide)
      have d13 : m5.1 13 = m4.1 13 := by rw [hm5, ups_ne (by decide)]
      have d14 : m5.1 14 = m4.1 14 := by rw [hm5, ups_ne (by decide)]
      have d9 : ∀ x, m5.1 9 x = if x = 32 + w then nI (Z 4 i) else s2.1 9 x := fun x => by rw [hm5, ups_ne (by decide), (u7.2.1 9 (by decide)).1, c9]
      have d10 : ∀ x, m5.1 10 x = if x = 32 + w then nI k else s2.1 10 x := fun x => by rw [hm5, ups_ne (by decide), (u7.2.1 10 (by decide)).1, c10]
      have d11 : ∀ x, m5.1 11 x = if x = 32 + w then nI k' else s2.1 11 x := fun x => by rw [hm5, rd1, (u7.2.1 11 (by decide)).1, c11]
      have d12 : m5.1 12 = s2.1 12 := by rw [hm5, ups_ne (by decide), (u7.2.1 12 (by decide)).1, c12]
      have g5 : gm s2 m5 := by rw [hm5]; exact (g3.tr u7.q.gm).wr (Or.inr (Or.inl ⟨by decide, by omega⟩))
      have gC : gc s1 c4 := e5.g.tr u7.q.gc
      have D5 : DL w k' c4 m5 := ⟨D1a, by rw [(u7.1.1 61 (by decide)).1, (e5.1 61 (by decide)).1]; exact D2, by rw [(u7.1.1 61 (by decide)).1, (e5.1 61 (by decide)).1]; exact D3, ⟨b60, by rw [hm5, ups_ne (by decide)]; exact b26, fun x hx => by rw [d13, d14]; exact u5.2.1.2.2 x hx⟩, by rw [hm5, ups_ne (by decide), u7.2.2.1 27 (by decide)]; exact x27, DL.rows D8 u2 (by rw [(u7.1.1 62 (by decide)).1, (e5.1 62 (by decide)).1]) (fun cc hc x hx => by
        simp only [List.mem_cons, List.not_mem_nil, or_false] at hc
        rcases hc with rfl | rfl | rfl | rfl
        · rw [d9, if_neg (by omega)]
        · rw [d10, if_neg (by omega)]
        · rw [d11, if_neg (by omega)]
        · rw [d12]) (fun x hx => by
          have := u7.2.2.2 x hx
          rw [d13, d14, this.1, this.2, c13, c14]; exact ⟨rfl, rfl⟩)⟩
      rw [u3, Bd_some, y60, b60, u4, Bd_some]
      (try dsimp only)
      rw [if_neg (show ¬ (0 : Int32) = -1 by decide), b26, Gs_n (by omega) (by decide), ← hm5]
      rcases lw_tail (c := c) (R := rf) (R' := rg) (v := Z 4 i) (p := k) (t1 := t') hs5 D5 qr (by omega) q.2 u2 (by rw [d9, if_pos rfl]) (by rw [d10, if_pos rfl]) (by rw [d11, if_pos rfl]) (by rw [d13, d14]; exact u5.2.2.2) with ⟨j', k2, c6, m6, v1, v2, v3, v4, v5, v6, v7, v8⟩ | ⟨c6, m6, v3, v4, v5, v6, v7⟩
      · have := ih (T - j') (nI (c + 1)) c6 (nI (w + 1)) m6 (by have := v5.2.2.1; omega) ⟨j', c + 1, w + 1, k2, by have := v5.2.2.1; omega, by omega, v2, rfl, rfl, v5, v6, (g1.tr gC).tr v7, (g2.tr g5).tr v8⟩
        rw [v3, v4]
        exact this
      · rw [v3, v4]
        exact Or.inr ⟨c6, m6, bad c6 v5.m, rfl, v5, (g1.tr gC).tr v6, (g2.tr g5).tr v7⟩
