/-! # stage 2: wants are read -/
theorem m_cell1 {sm sm1 : ST} {w : Int32} (h : M_readWord sm w = some (0, sm1)) : M_readCell sm w = (if (sm1.1 0 15) = 3 then (Lt (M_isCell sm1 (sm1.1 0 16)) fun y2 => if y2 = 0 then (Lt (M_errs sm1 (2 : Int32)) fun y4 => some (y4.1, y4.2)) else (Lt ((sm1.1 0 16)) fun y3 => Bd (M_reads sm1) fun s1 => some (y3, s1))) else (Lt (M_errs sm1 (1 : Int32)) fun y5 => some (y5.1, y5.2))) := by
  unfold M_readCell
  rw [h, Bd_some, if_neg (show ¬ (0 : Int32) = -1 by decide)]
theorem m_cell0 {sm sm1 : ST} {w : Int32} (h : M_readWord sm w = some (-1, sm1)) : M_readCell sm w = some (-1, sm1) := by
  unfold M_readCell
  rw [h, Bd_some, if_pos rfl]
/-- a word and a cell -/
theorem sy_cell {f : Nat → Nat} {n T : Nat} {Z : Nat → Nat → Nat} {i x w W H : Nat} {sc sm : ST} (h : SY f n T Z i sc sm) (hx : x < 30) (hw : wn x = w) (wh : WH W H sc sm) : (∃ c s1 sc' sm', c < 64 ∧ cl W H c ∧ C_X5_needWord sc x = some s1 ∧ C_X3_needCell s1 = some (nI c, sc') ∧ M_readCell sm (nI w) = some (nI c, sm') ∧ SY f n T Z (i + 2) sc' sm' ∧ fc sc sc' ∧ fm sm sm') ∨ (∃ s1 sc' sm', C_X5_needWord sc x = some s1 ∧ C_X3_needCell s1 = some (0, sc') ∧ M_readCell sm (nI w) = some (-1, sm') ∧ FS sc' sm' ∧ fc sc sc' ∧ fm sm sm') := by
  rcases sy_needWord h hx hw with ⟨s1, m1, _, e1, e2, a3, a4, a5⟩ | ⟨s1, m1, e1, e2, b3, b4, b5⟩
  · rcases sy_needCell a3 (wh.mv a4 a5) with ⟨c, sc', sm', c1, c2, c3, c4, c5, c6, c7⟩ | ⟨sc', sm', c3, c4, c5, c6, c7⟩
    · exact Or.inl ⟨c, s1, sc', sm', c1, c2, e1, c3, (m_cell1 e2).trans c4, c5, a4.tr c6, a5.tr c7⟩
    · exact Or.inr ⟨s1, sc', sm', e1, c3, (m_cell1 e2).trans c4, c5, a4.tr c6, a5.tr c7⟩
  · exact Or.inr ⟨s1, s1, m1, e1, fm_needCell b3.m, m_cell0 e2, b3, b4, b5⟩
theorem p_want2 {f : Nat → Nat} {n T : Nat} {Z : Nat → Nat → Nat} {i W H p : Nat} {s5 s2 : ST} {C : Type} {K : Int32 → Int32 → Int32 → ST → Option C} (h : SY f n T Z i s5 s2) (wh : WH W H s5 s2) (hp : 40 ≤ p) (hp2 : p + 3 < 80) (hx : ¬ s2.1 18 p = -1) :
    (∃ j c d v s9 sm', i < j ∧ c < 64 ∧ cl W H c ∧ d ≤ 999 ∧ 1 ≤ v ∧ v ≤ 99 ∧ (Bd (C_X5_needWord s5 8) fun s6 => Bd (C_X3_needCell s6) fun y4 => Bd (C_X5_needWord y4.2 9) fun s7 => Bd (C_X5_needNumber s7 (0 : Int32) (999 : Int32)) fun y5 => Bd (C_X5_needWord y5.2 10) fun s8 => Bd (C_X5_needNumber s8 (1 : Int32) (99 : Int32)) fun y6 => Bd (C_X5_needSign y6.2 (59 : Int32)) fun s9 => K y4.1 y5.1 y6.1 s9) = K (nI c) (nI d) (nI v) s9 ∧ (Gl s2 18 80 (nI p) fun y3 => if y3 = (-1 : Int32) then (some ((-1 : Int32), s2)) else (Bd (M_readCell s2 (21 : Int32)) fun y4 => Gs y4.2 18 80 ((nI p) + (1 : Int32)) y4.1 fun s3 => Gl s3 18 80 ((nI p) + (1 : Int32)) fun y5 => if y5 = (-1 : Int32) then (some ((-1 : Int32), s3)) else (Bd (M_readTold s3 (22 : Int32) (0 : Int32) (999 : Int32)) fun y6 => Gs y6.2 18 80 ((nI p) + (2 : Int32)) y6.1 fun s4 => Gl s4 18 80 ((nI p) + (2 : Int32)) fun y7 => if y7 = (-1 : Int32) then (some ((-1 : Int32), s4)) else (Bd (M_readTold s4 (23 : Int32) (1 : Int32) (99 : Int32)) fun y8 => Gs y8.2 18 80 ((nI p) + (3 : Int32)) y8.1 fun s5 => Gl s5 18 80 ((nI p) + (3 : Int32)) fun y9 => if y9 = (-1 : Int32) then (some ((-1 : Int32), s5)) else (Bd (M_readMark s5 (59 : Int32)) fun y10 => some (y10.1, y10.2)))))) = some (0, sm') ∧ SY f n T Z j s9 sm' ∧ fc s5 s9 ∧ gm s2 sm' ∧ ∀ k, sm'.1 18 k = if k = p + 3 then nI v else if k = p + 2 then nI d else if k = p + 1 then nI c else s2.1 18 k) ∨ (∃ c d v s9 sm', (Bd (C_X5_needWord s5 8) fun s6 => Bd (C_X3_needCell s6) fun y4 => Bd (C_X5_needWord y4.2 9) fun s7 => Bd (C_X5_needNumber s7 (0 : Int32) (999 : Int32)) fun y5 => Bd (C_X5_needWord y5.2 10) fun s8 => Bd (C_X5_needNumber s8 (1 : Int32) (99 : Int32)) fun y6 => Bd (C_X5_needSign y6.2 (59 : Int32)) fun s9 => K y4.1 y5.1 y6.1 s9) = K c d v s9 ∧ (Gl s2 18 80 (nI p) fun y3 => if y3 = (-1 : Int32) then (some ((-1 : Int32), s2)) else (Bd (M_readCell s2 (21 : Int32)) fun y4 => Gs y4.2 18 80 ((nI p) + (1 : Int32)) y4.1 fun s3 => Gl s3 18 80 ((nI p) + (1 : Int32)) fun y5 => if y5 = (-1 : Int32) then (some ((-1 : Int32), s3)) else (Bd (M_readTold s3 (22 : Int32) (0 : Int32) (999 : Int32)) fun y6 => Gs y6.2 18 80 ((nI p) + (2 : Int32)) y6.1 fun s4 => Gl s4 18 80 ((nI p) + (2 : Int32)) fun y7 => if y7 = (-1 : Int32) then (some ((-1 : Int32), s4)) else (Bd (M_readTold s4 (23 : Int32) (1 : Int32) (99 : Int32)) fun y8 => Gs y8.2 18 80 ((nI p) + (3 : Int32)) y8.1 fun s5 => Gl s5 18 80 ((nI p) + (3 : Int32)) fun y9 => if y9 = (-1 : Int32) then (some ((-1 : Int32), s5)) else (Bd (M_readMark s5 (59 : Int32)) fun y10 => some (y10.1, y10.2)))))) = some (-1, sm') ∧ FS s9 sm' ∧ fc s5 s9 ∧ gm s2 sm') := by
  have hm1 : (-1 : Int32) = -1 := rfl
  have q1 : nI p + (1 : Int32) = nI (p + 1) := nI_1 p
  have q2 : nI p + (2 : Int32) = nI (p + 2) := nI_add p 2
  have q3 : nI p + (3 : Int32) = nI (p + 3) := nI_add p 3
  have wr : ∀ k, 40 ≤ k → ∀ {s s' : ST} {x : Int32}, gm s s' → gm s (ups s' 18 k x) := fun k hk s s' x hg => hg.wr (Or.inr (Or.inr (Or.inr (Or.inr (Or.inr (Or.inr (Or.inl ⟨rfl, hk⟩)))))))
  rw [Gl_n (by omega) (by decide), if_neg hx, q1, q2, q3]
  rcases (sy_cell h (x := 8) (w := 21) (by decide) rfl wh).symm with ⟨s6, t6, m6, c3, c4, c5, b6, p6, q6⟩ | ⟨c, s6, t6, m6, c1, c2, c3, c4, c5, h6, p6, q6⟩
  · have fb := b6.m
    rw [show M_readCell s2 21 = some (-1, m6) from c5, c3, Bd_some, Bd_some, c4, Bd_some]
    (try dsimp only)
    rw [Gs_n (by omega) (by decide), Gl_n (by omega) (by decide), ups_self, if_pos hm1, fm_needWord fb, Bd_some, fm_needNumber fb, Bd_some]
    (try dsimp only)
    rw [fm_needWord fb, Bd_some, fm_needNumber fb, Bd_some]
    (try dsimp only)
    rw [fm_needSign fb, Bd_some]
    exact Or.inr ⟨0, 0, 0, t6, _, rfl, rfl, b6.w (by decide), p6, wr _ (by omega) q6.g⟩
  rw [show M_readCell s2 21 = some (nI c, m6) from c5, c3, Bd_some, Bd_some, c4, Bd_some]
  (try dsimp only)
  rw [Gs_n (by omega) (by decide), Gl_n (by omega) (by decide), ups_self, if_neg (n_nI_m1 (by omega))]
  have h6' := h6.w (c := 18) (k := p + 1) (x := nI c) (by decide)
  rcases (sy_told h6' (x := 9) (w := 22) (by decide) rfl 0 999).symm with ⟨s7, t7, m7, d3, d4, d5, b7, p7, q7⟩ | ⟨d, s7, t7, m7, hd, d1, d2, d3, d4, d5, h7, p7, q7⟩
  · have fb := b7.m
    rw [show M_readTold (ups m6 18 (p + 1) (nI c)) 22 0 999 = some (-1, m7) from d5, d3, Bd_some, Bd_some, d4, Bd_some]
    (try dsimp only)
    rw [Gs_n (by omega) (by decide), Gl_n (by omega) (by decide), ups_self, if_pos hm1, fm_needWord fb, Bd_some, fm_needNumber fb, Bd_some]
    (try dsimp only)
    rw [fm_needSign fb, Bd_some]
    exact Or.inr ⟨nI c, 0, 0, t7, _, rfl, rfl, b7.w (by decide), p6.tr p7, wr _ (by omega) ((wr _ (by omega) q6.g).tr q7.g)⟩
  rw [show M_readTold (ups m6 18 (p + 1) (nI c)) 22 0 999 = some (nI d, m7) from d5, d3, Bd_some, Bd_some, d4, Bd_some]
  (try dsimp only)
  rw [Gs_n (by omega) (by decide), Gl_n (by omega) (by decide), ups_self, if_neg (n_nI_m1 (by omega))]
  have h7' := h7.w (c := 18) (k := p + 2) (x := nI d) (by decide)
  rcases (sy_told h7' (x := 10) (w := 23) (by decide) rfl 1 99).symm with ⟨s8, t8, m8, e3, e4, e5, b8, p8, q8⟩ | ⟨v, s8, t8, m8, hv, e1, e2, e3, e4, e5, h8, p8, q8⟩
  · have fb := b8.m
    rw [show M_readTold (ups m7 18 (p + 2) (nI d)) 23 1 99 = some (-1, m8) from e5, e3, Bd_some, Bd_some, e4, Bd_some]
    (try dsimp only)
    rw [Gs_n (by omega) (by decide), Gl_n (by omega) (by decide), ups_self, if_pos hm1, fm_needSign fb, Bd_some]
    exact Or.inr ⟨nI c, nI d, 0, t8, _, rfl, rfl, b8.w (by decide), (p6.tr p7).tr p8, wr _ (by omega) ((wr _ (by omega) ((wr _ (by omega) q6.g).tr q7.g)).tr q8.g)⟩
  rw [show M_readTold (ups m7 18 (p + 2) (nI d)) 23 1 99 = some (nI v, m8) from e5, e3, Bd_some, Bd_some, e4, Bd_some]
  (try dsimp only)
  rw [Gs_n (by omega) (by decide), Gl_n (by omega) (by decide), ups_self, if_neg (n_nI_m1 (by omega))]
  have h8' := h8.w (c := 18) (k := p + 3) (x := nI v) (by decide)
  have gm8 : gm s2 (ups m8 18 (p + 3) (nI v)) := wr _ (by omega) ((wr _ (by omega) ((wr _ (by omega) q6.g).tr q7.g)).tr q8.g)
  rcases (sy_needSign h8' (c := 59) (by decide) (by decide)).symm with ⟨s9, m9, f1, f2, f3, p9, q9⟩ | ⟨s9, m9, _, f1, f2, h9, p9, q9⟩
  · rw [show C_X5_needSign t8 59 = some s9 from f1, show M_readMark (ups m8 18 (p + 3) (nI v)) 59 = some (-1, m9) from f2, Bd_some, Bd_some]
    exact Or.inr ⟨nI c, nI d, nI v, s9, m9, rfl, rfl, f3, ((p6.tr p7).tr p8).tr p9, gm8.tr q9.g⟩
  rw [show C_X5_needSign t8 59 = some s9 from f1, show M_readMark (ups m8 18 (p + 3) (nI v)) 59 = some (0, m9) from f2, Bd_some, Bd_some]
  have b2 : 1 ≤ v := by
    rcases Nat.eq_zero_or_pos v with z | z
    · rw [z] at e1; exact absurd (by decide) e1
    · exact z
  refine Or.inl ⟨i + 2 + 2 + 2 + 1, c, d, v, s9, m9, by omega, c1, c2, (n_le hd (by decide)).mp d2, b2, (n_le hv (by decide)).mp e2, rfl, rfl, h9, ((p6.tr p7).tr p8).tr p9, gm8.tr q9.g, fun k => ?_⟩
  rw [(q9.1 18 (by decide)).1, rd1, (q8.1 18 (by decide)).1, rd1, (q7.1 18 (by decide)).1, rd1, (q6.1 18 (by decide)).1]
def DWt (W H nk w : Nat) (sc sm : ST) : Prop :=
  w ≤ 10 ∧ sc.1 66 0 = nI 10 ∧ sc.1 66 2 = nI w ∧ nk ≤ 8 ∧ sc.1 9 2 = nI nk ∧ sm.1 0 34 = nI nk ∧ WH W H sc sm ∧
  (∀ r, r < w → ∃ c d v, c < 64 ∧ cl W H c ∧ d ≤ 999 ∧ 1 ≤ v ∧ v ≤ 99 ∧ sc.1 67 (4 * r + 1) = nI c ∧ sc.1 67 (4 * r + 2) = nI d ∧ sc.1 67 (4 * r + 3) = nI v ∧ sm.1 18 (40 + 4 * r + 1) = nI c ∧ sm.1 18 (40 + 4 * r + 2) = nI d ∧ sm.1 18 (40 + 4 * r + 3) = nI v ∧ ((sc.1 67 (4 * r) = -1 ∧ sm.1 18 (40 + 4 * r) = 8) ∨ ∃ n, n < nk ∧ sc.1 67 (4 * r) = nI n ∧ sm.1 18 (40 + 4 * r) = nI n))
theorem WH.g {W H : Nat} {sc sm sc' sm' : ST} (h : WH W H sc sm) (a : gc sc sc') (b : gm sm sm') : WH W H sc' sm' := by
  unfold WH at h ⊢
  rw [(a.1 1 (by decide)).1, b.2.1 6 (by decide), b.2.1 7 (by decide)]
  exact h
/-- one want, from behind its first word -/
theorem p_want {f : Nat → Nat} {n T : Nat} {Z : Nat → Nat → Nat} {i w W H nk : Nat} {sc sm s1 m1 : ST} {C : Type} {K : ST → Option C} (h0 : SY f n T Z i sc sm) (g : Z 3 i = 2 ∧ Z 4 i = 19) (hm : M_reads sm = some m1) (h : SY f n T Z (i + 1) s1 m1) (p0 : fc sc s1) (q0 : fm sm m1) (D : DWt W H nk w sc sm) (hw : w < 10) : (∃ j sc' sm', i < j ∧ (Bd (C_X5_takesWord s1 7) fun y3 => Lt (fun (a2 : Int32) (s5 : ST) => (Bd (C_X5_needWord s5 8) fun s6 => Bd (C_X3_needCell s6) fun y4 => Bd (C_X5_needWord y4.2 9) fun s7 => Bd (C_X5_needNumber s7 (0 : Int32) (999 : Int32)) fun y5 => Bd (C_X5_needWord y5.2 10) fun s8 => Bd (C_X5_needNumber s8 (1 : Int32) (99 : Int32)) fun y6 => Bd (C_X5_needSign y6.2 (59 : Int32)) fun s9 => if (s9.1 49 8) = 0 then (Bd (C_X4_add s9 66 a2 y4.1 y5.1 y6.1) fun s11 => K s11) else (K s9) )) fun j3 => if y3.1 = 0 then (Bd (C_X3_needKind y3.2 9) fun y7 => j3 y7.1 y7.2) else (j3 (-1 : Int32) y3.2)) = K sc' ∧ M_readWant sm (nI (40 + 4 * w)) = some (0, sm') ∧ SY f n T Z j sc' sm' ∧ DWt W H nk (w + 1) sc' sm' ∧ gc sc sc' ∧ gm sm sm') ∨ (∃ sc' sm', (Bd (C_X5_takesWord s1 7) fun y3 => Lt (fun (a2 : Int32) (s5 : ST) => (Bd (C_X5_needWord s5 8) fun s6 => Bd (C_X3_needCell s6) fun y4 => Bd (C_X5_needWord y4.2 9) fun s7 => Bd (C_X5_needNumber s7 (0 : Int32) (999 : Int32)) fun y5 => Bd (C_X5_needWord y5.2 10) fun s8 => Bd (C_X5_needNumber s8 (1 : Int32) (99 : Int32)) fun y6 => Bd (C_X5_needSign y6.2 (59 : Int32)) fun s9 => if (s9.1 49 8) = 0 then (Bd (C_X4_add s9 66 a2 y4.1 y5.1 y6.1) fun s11 => K s11) else (K s9) )) fun j3 => if y3.1 = 0 then (Bd (C_X3_needKind y3.2 9) fun y7 => j3 y7.1 y7.2) else (j3 (-1 : Int32) y3.2)) = K sc' ∧ M_readWant sm (nI (40 + 4 * w)) = some (-1, sm') ∧ FS sc' sm' ∧ gc sc sc' ∧ gm sm sm') := by
  obtain ⟨D1, D2, D3, D4, D5, D6, D7, D8⟩ := D
  have hm1 : (-1 : Int32) = -1 := rfl
  have e20 : ∀ (s : ST), SY f n T Z (i + 1) s1 s → M_isWord s 20 = if Z 3 (i + 1) = 2 ∧ Z 4 (i + 1) = 20 then 1 else 0 := fun s hs => sm_word hs (w := 20) (by decide)
  have h' := h.w (c := 18) (k := 40 + 4 * w) (x := 8) (by decide)
  have wr : ∀ k, 40 ≤ k → ∀ {s s' : ST} {x : Int32}, gm s s' → gm s (ups s' 18 k x) := fun k hk s s' x hg => hg.wr (Or.inr (Or.inr (Or.inr (Or.inr (Or.inr (Or.inr (Or.inl ⟨rfl, hk⟩)))))))
  have g0 : gm sm (ups m1 18 (40 + 4 * w) 8) := wr _ (by omega) q0.g
  have w19 : M_readWord sm 19 = some (0, m1) := sm_read1 (w := 19) h0 g hm
  -- the rest, with the kind a on the class's side and x on the reference's
  have rest : ∀ (j : Nat) (a x : Int32) (s5 s2 : ST), i < j → SY f n T Z j s5 s2 → fc sc s5 → gm sm s2 → s2.1 18 (40 + 4 * w) = x → (∀ k, k ≠ 40 + 4 * w → s2.1 18 k = sm.1 18 k) → ((a = -1 ∧ x = 8) ∨ ∃ n, n < nk ∧ a = nI n ∧ x = nI n) → ((∃ j sc' sm', i < j ∧ (Bd (C_X5_needWord s5 8) fun s6 => Bd (C_X3_needCell s6) fun y4 => Bd (C_X5_needWord y4.2 9) fun s7 => Bd (C_X5_needNumber s7 (0 : Int32) (999 : Int32)) fun y5 => Bd (C_X5_needWord y5.2 10) fun s8 => Bd (C_X5_needNumber s8 (1 : Int32) (99 : Int32)) fun y6 => Bd (C_X5_needSign y6.2 (59 : Int32)) fun s9 => if (s9.1 49 8) = 0 then (Bd (C_X4_add s9 66 a y4.1 y5.1 y6.1) fun s11 => K s11) else (K s9) ) = K sc' ∧ (Gl s2 18 80 (nI (40 + 4 * w)) fun y3 => if y3 = (-1 : Int32) then (some ((-1 : Int32), s2)) else (Bd (M_readCell s2 (21 : Int32)) fun y4 => Gs y4.2 18 80 ((nI (40 + 4 * w)) + (1 : Int32)) y4.1 fun s3 => Gl s3 18 80 ((nI (40 + 4 * w)) + (1 : Int32)) fun y5 => if y5 = (-1 : Int32) then (some ((-1 : Int32), s3)) else (Bd (M_readTold s3 (22 : Int32) (0 : Int32) (999 : Int32)) fun y6 => Gs y6.2 18 80 ((nI (40 + 4 * w)) + (2 : Int32)) y6.1 fun s4 => Gl s4 18 80 ((nI (40 + 4 * w)) + (2 : Int32)) fun y7 => if y7 = (-1 : Int32) then (some ((-1 : Int32), s4)) else (Bd (M_readTold s4 (23 : Int32) (1 : Int32) (99 : Int32)) fun y8 => Gs y8.2 18 80 ((nI (40 + 4 * w)) + (3 : Int32)) y8.1 fun s5 => Gl s5 18 80 ((nI (40 + 4 * w)) + (3 : Int32)) fun y9 => if y9 = (-1 : Int32) then (some ((-1 : Int32), s5)) else (Bd (M_readMark s5 (59 : Int32)) fun y10 => some (y10.1, y10.2)))))) = some (0, sm') ∧ SY f n T Z j sc' sm' ∧ DWt W H nk (w + 1) sc' sm' ∧ gc sc sc' ∧ gm sm sm') ∨ (∃ sc' sm', (Bd (C_X5_needWord s5 8) fun s6 => Bd (C_X3_needCell s6) fun y4 => Bd (C_X5_needWord y4.2 9) fun s7 => Bd (C_X5_needNumber s7 (0 : Int32) (999 : Int32)) fun y5 => Bd (C_X5_needWord y5.2 10) fun s8 => Bd (C_X5_needNumber s8 (1 : Int32) (99 : Int32)) fun y6 => Bd (C_X5_needSign y6.2 (59 : Int32)) fun s9 => if (s9.1 49 8) = 0 then (Bd (C_X4_add s9 66 a y4.1 y5.1 y6.1) fun s11 => K s11) else (K s9) ) = K sc' ∧ (Gl s2 18 80 (nI (40 + 4 * w)) fun y3 => if y3 = (-1 : Int32) then (some ((-1 : Int32), s2)) else (Bd (M_readCell s2 (21 : Int32)) fun y4 => Gs y4.2 18 80 ((nI (40 + 4 * w)) + (1 : Int32)) y4.1 fun s3 => Gl s3 18 80 ((nI (40 + 4 * w)) + (1 : Int32)) fun y5 => if y5 = (-1 : Int32) then (some ((-1 : Int32), s3)) else (Bd (M_readTold s3 (22 : Int32) (0 : Int32) (999 : Int32)) fun y6 => Gs y6.2 18 80 ((nI (40 + 4 * w)) + (2 : Int32)) y6.1 fun s4 => Gl s4 18 80 ((nI (40 + 4 * w)) + (2 : Int32)) fun y7 => if y7 = (-1 : Int32) then (some ((-1 : Int32), s4)) else (Bd (M_readTold s4 (23 : Int32) (1 : Int32) (99 : Int32)) fun y8 => Gs y8.2 18 80 ((nI (40 + 4 * w)) + (3 : Int32)) y8.1 fun s5 => Gl s5 18 80 ((nI (40 + 4 * w)) + (3 : Int32)) fun y9 => if y9 = (-1 : Int32) then (some ((-1 : Int32), s5)) else (Bd (M_readMark s5 (59 : Int32)) fun y10 => some (y10.1, y10.2)))))) = some (-1, sm') ∧ FS sc' sm' ∧ gc sc sc' ∧ gm sm sm')) := by
    intro j a x s5 s2 hj hs hp hq hx hx2 hax
    have hxm : ¬ s2.1 18 (40 + 4 * w) = -1 := by
      rw [hx]
      rcases hax with ⟨_, e⟩ | ⟨n, hn, _, e⟩
      · rw [e]; decide
      · rw [e]; exact n_nI_m1 (by omega)
    rcases p_want2 (p := 40 + 4 * w) (K := fun y4 y5 y6 s9 => if (s9.1 49 8) = 0 then (Bd (C_X4_add s9 66 a y4 y5 y6) fun s11 => K s11) else (K s9)) hs (D7.g hp.g hq) (by omega) (by omega) hxm with ⟨j2, c, d, v, s9, sm', b1, b2, b3, b4, b5, b6, b7, b8, b9, b10, b11, b12⟩ | ⟨c, d, v, s9, sm', b7, b8, b9, b10, b11⟩
    · have r66 : s9.1 66 = sc.1 66 := by rw [(b10.1 66 (by decide)).1, (hp.1 66 (by decide)).1]
      have r67 : s9.1 67 = sc.1 67 := by rw [(b10.1 67 (by decide)).1, (hp.1 67 (by decide)).1]
      have gE : gm sm sm' := hq.tr b11
      have gC := (hp.tr b10).g.tr (gc.add (s := s9) (b := 66) (k1 := 4 * w) (k2 := 4 * w + 1) (k3 := 4 * w + 2) (k4 := 4 * w + 3) (x := a) (y := nI c) (z := nI d) (w := nI v) (u := nI (w + 1)) (by decide))
      refine Or.inl ⟨j2, _, sm', by omega, b7.trans ?_, b8, ((((b9.wc (c := 67) (k := 4 * w) (x := a) (by decide)).wc (c := 67) (k := 4 * w + 1) (x := nI c) (by decide)).wc (c := 67) (k := 4 * w + 2) (x := nI d) (by decide)).wc (c := 67) (k := 4 * w + 3) (x := nI v) (by decide)).wc (c := 66) (k := 2) (x := nI (w + 1)) (by decide), ?_, gC, gE⟩
      · (try dsimp only)
        rw [if_pos b9.2.2.2.2.2.1, c_add (b := 66) (r := w) (M := 10) (by rw [r66]; exact D3) (by rw [r66]; exact D2) hw (by decide) rfl, Bd_some]
      · refine ⟨by omega, ?_, by rw [rd1, if_pos rfl], D4, ?_, by rw [gE.2.1 34 (by decide)]; exact D6, D7.g gC gE, fun r hr => ?_⟩
        · rw [ups_z (by decide), ups_ne (by decide), ups_ne (by decide), ups_ne (by decide), ups_ne (by decide), r66]; exact D2
        · rw [(gC.1 9 (by decide)).1]; exact D5
        · have c67 : ∀ k, (ups (ups (ups (ups (ups s9 (66 + 1) (4 * w) a) (66 + 1) (4 * w + 1) (nI c)) (66 + 1) (4 * w + 2) (nI d)) (66 + 1) (4 * w + 3) (nI v)) 66 2 (nI (w + 1))).1 67 k = if k = 4 * w + 3 then nI v else if k = 4 * w + 2 then nI d else if k = 4 * w + 1 then nI c else if k = 4 * w then a else sc.1 67 k := fun k => by
            rw [ups_ne (by decide), rd1, rd1, rd1, rd1, r67]
          rw [c67, c67, c67, c67, b12, b12, b12, b12]
          by_cases e : r = w
          · subst e
            refine ⟨c, d, v, b2, b3, b4, b5, b6, ?_, ?_, ?_, ?_, ?_, ?_, ?_⟩
            · rw [if_neg (by omega), if_neg (by omega), if_pos rfl]
            · rw [if_neg (by omega), if_pos rfl]
            · rw [if_pos rfl]
            · rw [if_neg (by omega), if_neg (by omega), if_pos rfl]
            · rw [if_neg (by omega), if_pos rfl]
            · rw [if_pos rfl]
            · rw [if_neg (by omega), if_neg (by omega), if_neg (by omega), if_pos rfl, if_neg (by omega), if_neg (by omega), if_neg (by omega), hx]
              exact hax
          · rw [if_neg (by omega), if_neg (by omega), if_neg (by omega), if_neg (by omega), if_neg (by omega), if_neg (by omega), if_neg (by omega), if_neg (by omega), if_neg (by omega), if_neg (by omega), if_neg (by omega), if_neg (by omega), if_neg (by omega), if_neg (by omega), if_neg (by omega), if_neg (by omega), if_neg (by omega), if_neg (by omega), if_neg (by omega), if_neg (by omega), if_neg (by omega), if_neg (by omega), if_neg (by omega), if_neg (by omega), if_neg (by omega), if_neg (by omega), if_neg (by omega), if_neg (by omega), hx2 _ (by omega), hx2 _ (by omega), hx2 _ (by omega), hx2 _ (by omega)]
            exact D8 r (by omega)
    · refine Or.inr ⟨s9, sm', b7.trans ?_, b8, b9, (hp.tr b10).g, hq.tr b11⟩
      (try dsimp only)
      rw [if_neg b9.1]
  unfold M_readWant
  rw [w19, Bd_some]
  (try dsimp only)
  rw [if_neg (show ¬ (0 : Int32) = -1 by decide), Gs_n (by omega) (by decide), Lt_e, Lt_e, e20 _ h']
  rcases sy_takesWord h' (x := 7) (by decide) with ⟨gq, e⟩ | ⟨s5, m5, gq, e, a2, a3, a4, a5⟩
  · have gq : ¬ (Z 3 (i + 1) = 2 ∧ Z 4 (i + 1) = 20) := gq
    have e34 : (ups m1 18 (40 + 4 * w) 8).1 0 34 = nI nk := by rw [ups_ne (by decide), q0.2 34 (by decide)]; exact D6
    have c9 : s1.1 9 2 = nI nk := by rw [(p0.1 9 (by decide)).1]; exact D5
    rw [e, Bd_some, Lt_e, if_neg gq, if_pos i00, e34]
    (try dsimp only)
    unfold C_X3_needKind
    rw [if_pos i00, c9]
    rcases sy_needNumber h' 0 (nI nk - 1) with ⟨v, s5, m5, hv, _, c1, c2, c3, c4, _, c5, c6, c7⟩ | ⟨s5, m5, c3, c4, c5, c6, c7⟩
    · rw [c3, c4, Bd_some, Bd_some, Bd_some]
      (try dsimp only)
      rw [Gs_n (by omega) (by decide)]
      exact rest (i + 1 + 1) (nI v) (nI v) s5 (ups m5 18 (40 + 4 * w) (nI v)) (by omega) (c5.w (by decide)) (p0.tr c6) (wr _ (by omega) (g0.tr c7.g)) (by rw [rd1, if_pos rfl]) (fun k hk => by rw [rd1, if_neg hk, (c7.1 18 (by decide)).1, rd1, if_neg hk, (q0.1 18 (by decide)).1]) (Or.inr ⟨v, v_lt hv (by omega) c2, rfl, rfl⟩)
    · have fb := c5.m
      rw [c3, c4, Bd_some, Bd_some, Bd_some]
      (try dsimp only)
      rw [Gs_n (by omega) (by decide), Gl_n (by omega) (by decide), ups_self, if_pos hm1, fm_needWord fb, Bd_some, fm_needCell fb, Bd_some]
      (try dsimp only)
      rw [fm_needWord fb, Bd_some, fm_needNumber fb, Bd_some]
      (try dsimp only)
      rw [fm_needWord fb, Bd_some, fm_needNumber fb, Bd_some]
      (try dsimp only)
      rw [fm_needSign fb, Bd_some, if_neg fb.1]
      exact Or.inr ⟨s5, _, rfl, rfl, c5.w (by decide), (p0.tr c6).g, wr _ (by omega) (g0.tr c7.g)⟩
  · have gq : Z 3 (i + 1) = 2 ∧ Z 4 (i + 1) = 20 := gq
    rw [e, Bd_some, Lt_e, if_pos gq, if_neg i10, a2, Bd_some]
    (try dsimp only)
    rw [if_neg i10]
    exact rest (i + 1 + 1) (-1) 8 s5 m5 (by omega) a3 (p0.tr a4) (g0.tr a5.g) (by rw [(a5.1 18 (by decide)).1, rd1, if_pos rfl]) (fun k hk => by rw [(a5.1 18 (by decide)).1, rd1, if_neg hk, (q0.1 18 (by decide)).1]) (Or.inl ⟨rfl, rfl⟩)
