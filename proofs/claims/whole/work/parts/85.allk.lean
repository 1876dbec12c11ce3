/-! # stage 2: the text of the kinds -/
theorem sy_fcw {f : Nat → Nat} {n T : Nat} {Z : Nat → Nat → Nat} {i x : Nat} {sc sm s1 : ST} (h : SY f n T Z i sc sm) (hx : x < 30) (e : C_X5_needWord sc x = some s1) : fc sc s1 := by
  rcases sy_needWord h hx rfl with ⟨s, _, _, e1, _, _, a, _⟩ | ⟨s, _, e1, _, _, a, _⟩
  · rw [e1] at e; cases e; exact a
  · rw [e1] at e; cases e; exact a
theorem v_lt {v a : Nat} (hv : v ≤ 9999) (ha : a ≤ 9999) (h : nI v ≤ nI a - 1) : v < a := (n_le1 hv ha).mp h
theorem p_crossing {f : Nat → Nat} {n T : Nat} {Z : Nat → Nat → Nat} {i a b : Nat} {sc sm s1 m1 : ST} (h0 : SY f n T Z i sc sm) (g : Z 3 i = 2 ∧ Z 4 i = 16) (hm : M_reads sm = some m1) (h : SY f n T Z (i + 1) s1 m1) (p0 : fc sc s1) (q0 : fm sm m1) (D : DK a b sc sm) (hb : b < 10) : (∃ j sc' sm', i < j ∧ C_X3_readCrossing s1 = some sc' ∧ M_readCrossing sm = some (0, sm') ∧ SY f n T Z j sc' sm' ∧ DK a (b + 1) sc' sm' ∧ gc sc sc' ∧ gm sm sm') ∨ (∃ sc' sm', C_X3_readCrossing s1 = some sc' ∧ M_readCrossing sm = some (-1, sm') ∧ FS sc' sm' ∧ gc sc sc' ∧ gm sm sm') := by
  obtain ⟨D1, D2, D3, D4, D5, D6, D7, D8, D9, D10⟩ := D
  have h8 : ¬ nI b = (10 : Int32) := fun q => by
    have := (nI_eq (b := 10) (by omega) (by decide)).mp q
    omega
  have hat : (30 : Int32) + (3 : Int32) * nI b = nI (30 + 3 * b) := by
    rw [show (30 : Int32) = nI 30 from rfl, show (3 : Int32) = nI 3 from rfl, nI_mul, nI_add]
  have hm1 : (-1 : Int32) = -1 := rfl
  have i30 : ¬ (3 : Int32) ≤ 0 := by decide
  have i31 : ¬ (3 : Int32) ≤ 0 + 1 := by decide
  have i32 : ¬ (3 : Int32) ≤ 0 + 1 + 1 := by decide
  have i33 : (3 : Int32) ≤ 0 + 1 + 1 + 1 := by decide
  have z1 : ¬ (0 : Int32) + 1 = 0 := by decide
  have z2 : ¬ (0 : Int32) + 1 + 1 = 0 := by decide
  have y1 : (0 : Int32) + 1 = 1 := by decide
  have y2 : ¬ (0 : Int32) + 1 + 1 = 1 := by decide
  have k0 : nI (30 + 3 * b) + (0 : Int32) = nI (30 + 3 * b) := nI_add _ 0
  have k1 : nI (30 + 3 * b) + ((0 : Int32) + 1) = nI (30 + 3 * b + 1) := nI_add _ 1
  have k2 : nI (30 + 3 * b) + ((0 : Int32) + 1 + 1) = nI (30 + 3 * b + 2) := nI_add _ 2
  have wr : ∀ k, k ≤ 2 → ∀ {s s' : ST} {x : Int32}, gm s s' → gm s (ups s' 17 (30 + 3 * b + k) x) := fun k _ s s' x hg => hg.wr (Or.inr (Or.inr (Or.inr (Or.inr (Or.inr (Or.inl ⟨rfl, by omega⟩))))))
  have t1 : M_readTold sm 16 0 (nI a - 1) = Bd (M_readNumber m1 0 (nI a - 1)) fun y2 => some (y2.1, y2.2) := m_told1 (sm_read1 (w := 16) h0 g hm)
  have c56 : s1.1 56 2 = nI a := by rw [(p0.1 56 (by decide)).1]; exact D5
  unfold C_X3_readCrossing M_readCrossing C_X3_needKind
  rw [D8, if_neg h8, Lt_e, hat, FU_5, lp2_s]
  (try dsimp only)
  rw [if_neg i30, Lt_e, if_pos i00]
  (try dsimp only)
  rw [D7, k0, t1, c56]
  rcases (sy_needNumber h 0 (nI a - 1)).symm with ⟨s2, m2, c3, c4, c5, p2, q2⟩ | ⟨v1, s2, m2, hv1, _, c1, c2, c3, c4, _, h2, p2, q2⟩
  · have fb := c5.m
    rw [c3, c4, Bd_some, Bd_some, Bd_some, Bd_some]
    (try dsimp only)
    rw [Gs_n (by omega) (by decide), Gl_n (by omega) (by decide), ups_self, if_pos hm1, fm_needWord fb, Bd_some, fm_needNumber fb, Bd_some, Bd_some]
    (try dsimp only)
    rw [fm_needWord fb, Bd_some, fm_needNumber fb, Bd_some, Bd_some]
    (try dsimp only)
    rw [fm_needSign fb, Bd_some, if_neg fb.1]
    exact Or.inr ⟨s2, _, rfl, rfl, c5.w (by decide), (p0.tr p2).g, wr 0 (by decide) (q0.tr q2).g⟩
  have b1 := v_lt hv1 (by omega) c2
  have u2 := q0.tr q2
  have w2 := p0.tr p2
  have d38 : (ups m2 17 (30 + 3 * b) (nI v1)).1 0 38 = nI a := by rw [ups_ne (by decide), u2.2 38 (by decide)]; exact D7
  rw [c3, c4, Bd_some, Bd_some, Bd_some, Bd_some]
  (try dsimp only)
  rw [Gs_n (by omega) (by decide), Gl_n (by omega) (by decide), ups_self, if_neg (n_nI_m1 (by omega)), lp2_s]
  (try dsimp only)
  rw [if_neg i31, Lt_e, if_neg z1, if_pos y1]
  (try dsimp only)
  rw [d38, k1]
  have h2' := h2.w (c := 17) (k := 30 + 3 * b) (x := nI v1) (by decide)
  rcases (sy_told h2' (x := 4) (w := 17) (by decide) rfl 0 (nI a - 1)).symm with ⟨s3, s4, m4, d3, d4, d5, d6, p4, q4⟩ | ⟨v2, s3, s4, m4, hv2, d1, d2, d3, d4, d5, h4, p4, q4⟩
  · have fb := d6.m
    have c3' : s3.1 56 2 = nI a := by rw [((sy_fcw h2' (by decide) d3).1 56 (by decide)).1, (w2.1 56 (by decide)).1]; exact D5
    rw [show M_readTold (ups m2 17 (30 + 3 * b) (nI v1)) 17 0 (nI a - 1) = some (-1, m4) from d5, d3, Bd_some, Bd_some, c3', d4, Bd_some, Bd_some]
    (try dsimp only)
    rw [Gs_n (by omega) (by decide), Gl_n (by omega) (by decide), ups_self, if_pos hm1, fm_needWord fb, Bd_some, fm_needNumber fb, Bd_some, Bd_some]
    (try dsimp only)
    rw [fm_needSign fb, Bd_some, if_neg fb.1]
    exact Or.inr ⟨s4, _, rfl, rfl, d6.w (by decide), (w2.tr p4).g, wr 1 (by decide) ((wr 0 (by decide) u2.g).tr q4.g)⟩
  have b2 := v_lt hv2 (by omega) d2
  have c3' : s3.1 56 2 = nI a := by rw [((sy_fcw h2' (by decide) d3).1 56 (by decide)).1, (w2.1 56 (by decide)).1]; exact D5
  have w4 := w2.tr p4
  have d38' : (ups m4 17 (30 + 3 * b + 1) (nI v2)).1 0 38 = nI a := by rw [ups_ne (by decide), q4.2 38 (by decide)]; exact d38
  rw [show M_readTold (ups m2 17 (30 + 3 * b) (nI v1)) 17 0 (nI a - 1) = some (nI v2, m4) from d5, d3, Bd_some, Bd_some, c3', d4, Bd_some, Bd_some]
  (try dsimp only)
  rw [Gs_n (by omega) (by decide), Gl_n (by omega) (by decide), ups_self, if_neg (n_nI_m1 (by omega)), lp2_s]
  (try dsimp only)
  rw [if_neg i32, Lt_e, if_neg z2, if_neg y2]
  (try dsimp only)
  rw [d38', k2]
  have h4' := h4.w (c := 17) (k := 30 + 3 * b + 1) (x := nI v2) (by decide)
  rcases (sy_told h4' (x := 5) (w := 18) (by decide) rfl 0 (nI a - 1)).symm with ⟨s5, s6, m6, e3, e4, e5, e6, p6, q6⟩ | ⟨v3, s5, s6, m6, hv3, e1, e2, e3, e4, e5, h6, p6, q6⟩
  · have fb := e6.m
    have c5' : s5.1 56 2 = nI a := by rw [((sy_fcw h4' (by decide) e3).1 56 (by decide)).1, (w4.1 56 (by decide)).1]; exact D5
    rw [show M_readTold (ups m4 17 (30 + 3 * b + 1) (nI v2)) 18 0 (nI a - 1) = some (-1, m6) from e5, e3, Bd_some, Bd_some, c5', e4, Bd_some, Bd_some]
    (try dsimp only)
    rw [Gs_n (by omega) (by decide), Gl_n (by omega) (by decide), ups_self, if_pos hm1, fm_needSign fb, Bd_some, if_neg fb.1]
    exact Or.inr ⟨s6, _, rfl, rfl, e6.w (by decide), (w4.tr p6).g, wr 2 (by decide) ((wr 1 (by decide) ((wr 0 (by decide) u2.g).tr q4.g)).tr q6.g)⟩
  have b3 := v_lt hv3 (by omega) e2
  have c5' : s5.1 56 2 = nI a := by rw [((sy_fcw h4' (by decide) e3).1 56 (by decide)).1, (w4.1 56 (by decide)).1]; exact D5
  rw [show M_readTold (ups m4 17 (30 + 3 * b + 1) (nI v2)) 18 0 (nI a - 1) = some (nI v3, m6) from e5, e3, Bd_some, Bd_some, c5', e4, Bd_some, Bd_some]
  (try dsimp only)
  rw [Gs_n (by omega) (by decide), Gl_n (by omega) (by decide), ups_self, if_neg (n_nI_m1 (by omega)), lp2_s]
  (try dsimp only)
  rw [if_pos i33]
  have h6' := h6.w (c := 17) (k := 30 + 3 * b + 2) (x := nI v3) (by decide)
  have gm6 : gm sm (ups m6 17 (30 + 3 * b + 2) (nI v3)) := wr 2 (by decide) ((wr 1 (by decide) ((wr 0 (by decide) u2.g).tr q4.g)).tr q6.g)
  rcases (sy_needSign h6' (c := 59) (by decide) (by decide)).symm with ⟨s7, m7, f1, f2, f3, p7, q7⟩ | ⟨s7, m7, _, f1, f2, h7, p7, q7⟩
  · rw [show C_X5_needSign s6 59 = some s7 from f1, show M_readMark (ups m6 17 (30 + 3 * b + 2) (nI v3)) 59 = some (-1, m7) from f2, Bd_some, Bd_some, if_neg f3.1]
    (try dsimp only)
    rw [if_pos hm1]
    exact Or.inr ⟨s7, m7, rfl, rfl, f3, ((w4.tr p6).tr p7).g, gm6.tr q7.g⟩
  rw [show C_X5_needSign s6 59 = some s7 from f1, show M_readMark (ups m6 17 (30 + 3 * b + 2) (nI v3)) 59 = some (0, m7) from f2, Bd_some, Bd_some, if_pos h7.2.2.2.2.2.1]
  (try dsimp only)
  rw [if_neg (show ¬ (0 : Int32) = -1 by decide), Lt_e]
  have pc := (w4.tr p6).tr p7
  have r56 : s7.1 56 = sc.1 56 := (pc.1 56 (by decide)).1
  have r57 : s7.1 57 = sc.1 57 := (pc.1 57 (by decide)).1
  have r58 : s7.1 58 = sc.1 58 := (pc.1 58 (by decide)).1
  have r59 : s7.1 59 = sc.1 59 := (pc.1 59 (by decide)).1
  rw [c_add (b := 58) (r := b) (M := 10) (by rw [r58]; exact D6) (by rw [r58]; exact D4) hb (by decide) rfl, Bd_some]
  have m38 : m7.1 0 38 = nI a := by
    rw [q7.2 38 (by decide), ups_ne (by decide), q6.2 38 (by decide)]
    exact d38'
  have m39 : m7.1 0 39 = nI b := by
    rw [q7.2 39 (by decide), ups_ne (by decide), q6.2 39 (by decide), ups_ne (by decide), q4.2 39 (by decide), ups_ne (by decide), u2.2 39 (by decide)]
    exact D8
  have m17 : ∀ k, m7.1 17 k = if k = 30 + 3 * b + 2 then nI v3 else if k = 30 + 3 * b + 1 then nI v2 else if k = 30 + 3 * b then nI v1 else sm.1 17 k := fun k => by
    rw [(q7.1 17 (by decide)).1, rd1, (q6.1 17 (by decide)).1, rd1, (q4.1 17 (by decide)).1, rd1, (u2.1 17 (by decide)).1]
  have m16 : m7.1 16 = sm.1 16 := by
    rw [(q7.1 16 (by decide)).1, ups_ne (by decide), (q6.1 16 (by decide)).1, ups_ne (by decide), (q4.1 16 (by decide)).1, ups_ne (by decide), (u2.1 16 (by decide)).1]
  refine Or.inl ⟨i + 1 + 1 + 2 + 2 + 1, _, _, by omega, rfl, rfl, ?_, ?_, pc.g.tr (gc.add (b := 58) (by decide)), (gm6.tr q7.g).wr (Or.inl ⟨rfl, by decide⟩)⟩
  · exact (((((h7.wc (c := 59) (by decide)).wc (c := 59) (by decide)).wc (c := 59) (by decide)).wc (c := 59) (by decide)).wc (c := 58) (by decide)).w0 (by decide)
  · refine ⟨D1, by omega, ?_, ?_, ?_, ?_, ?_, ?_, fun r hr => ?_, fun r hr => ?_⟩
    · rw [ups_ne (by decide), ups_ne (by decide), ups_ne (by decide), ups_ne (by decide), ups_ne (by decide), r56]; exact D3
    · rw [ups_z (by decide), ups_ne (by decide), ups_ne (by decide), ups_ne (by decide), ups_ne (by decide), r58]; exact D4
    · rw [ups_ne (by decide), ups_ne (by decide), ups_ne (by decide), ups_ne (by decide), ups_ne (by decide), r56]; exact D5
    · rw [rd1, if_pos rfl]
    · rw [rd1, if_neg (by decide), m38]
    · rw [rd1, if_pos rfl, m39, nI_1]
    · rw [ups_ne (by decide), ups_ne (by decide), ups_ne (by decide), ups_ne (by decide), ups_ne (by decide), r57, ups_ne (by decide), m16]
      exact D9 r hr
    · have c59 : ∀ k, (ups (ups (ups (ups (ups s7 (58 + 1) (4 * b) (nI v1)) (58 + 1) (4 * b + 1) (nI v2)) (58 + 1) (4 * b + 2) (nI v3)) (58 + 1) (4 * b + 3) 0) 58 2 (nI (b + 1))).1 59 k = if k = 4 * b + 3 then 0 else if k = 4 * b + 2 then nI v3 else if k = 4 * b + 1 then nI v2 else if k = 4 * b then nI v1 else sc.1 59 k := fun k => by
        rw [ups_ne (by decide), rd1, rd1, rd1, rd1, r59]
      rw [c59, c59, c59, ups_ne (by decide), m17, m17, m17]
      by_cases e : r = b
      · subst e
        refine ⟨v1, v2, v3, b1, b2, b3, ?_, ?_, ?_, ?_, ?_, ?_⟩
        · rw [if_neg (by omega), if_neg (by omega), if_neg (by omega), if_pos rfl]
        · rw [if_neg (by omega), if_neg (by omega), if_pos rfl]
        · rw [if_neg (by omega), if_pos rfl]
        · rw [if_neg (by omega), if_neg (by omega), if_pos rfl]
        · rw [if_neg (by omega), if_pos rfl]
        · rw [if_pos rfl]
      · rw [if_neg (by omega), if_neg (by omega), if_neg (by omega), if_neg (by omega), if_neg (by omega), if_neg (by omega), if_neg (by omega), if_neg (by omega), if_neg (by omega), if_neg (by omega), if_neg (by omega), if_neg (by omega), if_neg (by omega), if_neg (by omega), if_neg (by omega), if_neg (by omega), if_neg (by omega), if_neg (by omega), if_neg (by omega), if_neg (by omega), if_neg (by omega)]
        exact D10 r (by omega)
theorem lp2_s' {C A1 A2 : Type} (F : (A1 → A2 → Option C) → A1 → A2 → Option C) (n : Nat) (a : A1) (b : A2) : lpK2 F (n + 1) a b = F (lpK2 F n) a b := (rfl)
/-- the end of a text: nothing more, or what can't stand there -/
theorem p_end {f : Nat → Nat} {n T : Nat} {Z : Nat → Nat → Nat} {i : Nat} {sc sm : ST} (h : SY f n T Z i sc sm) (x : Int32) : (Z 3 i = 0 ∧ (if sm.1 0 15 = 0 then some (x, sm) else Lt (M_errs sm 1) fun y6 => some (y6.1, y6.2)) = some (x, sm)) ∨ (¬ Z 3 i = 0 ∧ ∃ sc' sm', C_X5_fail sc 1 = some sc' ∧ (if sm.1 0 15 = 0 then some (x, sm) else Lt (M_errs sm 1) fun y6 => some (y6.1, y6.2)) = some (-1, sm') ∧ FS sc' sm' ∧ fc sc sc' ∧ fm sm sm') := by
  have e0 : sm.1 0 15 = (0 : Int32) ↔ Z 3 i = 0 := sm_tok h (c := 0) (by decide)
  by_cases g : Z 3 i = 0
  · exact Or.inl ⟨g, if_pos (e0.mpr g)⟩
  · obtain ⟨sc', sm', b1, b2, b3, b4, b5⟩ := sy_fail h 1 k1
    exact Or.inr ⟨g, sc', sm', b1, by rw [if_neg (fun q => g (e0.mp q)), Lt_e, b2], b3, b4, b5⟩
theorem kinds_loop {f : Nat → Nat} {n T : Nat} {Z : Nat → Nat → Nat} {sc sm : ST} {K : ST → Option (Int32 × ST)} (h : SY f n T Z 0 sc sm) (D : DK 0 0 sc sm) : (∃ a b j sc' sm', lpK2 (C := Int32 × ST) (fun (rec1 : Int32 → ST → Option (Int32 × ST)) (a1 : Int32) (s3 : ST) => Lt (K s3 : Option (Int32 × ST)) fun j1 => if (400 : Int32) ≤ a1 then (j1) else (Lt (C_X5_goesOn s3) fun y1 => if y1 = 0 then (j1) else (Bd (C_X5_takesHead s3 0 56) fun y2 => Lt (fun (s6 : ST) => (rec1 (a1 + (1 : Int32)) s6 : Option (Int32 × ST))) fun j2 => if y2.1 = 0 then (Bd (C_X5_takesHead y2.2 1 58) fun y3 => if y3.1 = 0 then (Bd (C_X5_fail y3.2 (1 : Int32)) fun s7 => j2 s7) else (Bd (C_X3_readCrossing y3.2) fun s8 => j2 s8)) else (Bd (C_X3_readKind y2.2) fun s9 => j2 s9)))) FU (0 : Int32) sc = K sc' ∧ lpK1 (C := Int32 × ST) (fun (rec1 : ST → Option (Int32 × ST)) (s3 : ST) => Lt (M_isWord s3 (6 : Int32)) fun y1 => Lt (Lt (M_isWord s3 (6 : Int32)) fun y2 => Lt (fun (a1 : Int32) (s4 : ST) => (if a1 = (-1 : Int32) then (some ((-1 : Int32), s4)) else (rec1 s4) : Option (Int32 × ST))) fun j2 => if y2 = 0 then (Bd (M_readCrossing s3) fun y3 => j2 y3.1 y3.2) else (Bd (M_readKind s3) fun y4 => j2 y4.1 y4.2) : Option (Int32 × ST)) fun j1 => if y1 = 0 then (Lt (M_isWord s3 (16 : Int32)) fun y5 => if y5 = 0 then (if (s3.1 0 15) = 0 then (some (((s3.1 0 38) + (s3.1 0 39)), s3)) else (Lt (M_errs s3 (1 : Int32)) fun y6 => some (y6.1, y6.2))) else (j1)) else (j1)) FU sm = some (nI (a + b), sm') ∧ SY f n T Z j sc' sm' ∧ DK a b sc' sm' ∧ gc sc sc' ∧ gm sm sm') ∨ (∃ sc' sm', lpK2 (C := Int32 × ST) (fun (rec1 : Int32 → ST → Option (Int32 × ST)) (a1 : Int32) (s3 : ST) => Lt (K s3 : Option (Int32 × ST)) fun j1 => if (400 : Int32) ≤ a1 then (j1) else (Lt (C_X5_goesOn s3) fun y1 => if y1 = 0 then (j1) else (Bd (C_X5_takesHead s3 0 56) fun y2 => Lt (fun (s6 : ST) => (rec1 (a1 + (1 : Int32)) s6 : Option (Int32 × ST))) fun j2 => if y2.1 = 0 then (Bd (C_X5_takesHead y2.2 1 58) fun y3 => if y3.1 = 0 then (Bd (C_X5_fail y3.2 (1 : Int32)) fun s7 => j2 s7) else (Bd (C_X3_readCrossing y3.2) fun s8 => j2 s8)) else (Bd (C_X3_readKind y2.2) fun s9 => j2 s9)))) FU (0 : Int32) sc = K sc' ∧ lpK1 (C := Int32 × ST) (fun (rec1 : ST → Option (Int32 × ST)) (s3 : ST) => Lt (M_isWord s3 (6 : Int32)) fun y1 => Lt (Lt (M_isWord s3 (6 : Int32)) fun y2 => Lt (fun (a1 : Int32) (s4 : ST) => (if a1 = (-1 : Int32) then (some ((-1 : Int32), s4)) else (rec1 s4) : Option (Int32 × ST))) fun j2 => if y2 = 0 then (Bd (M_readCrossing s3) fun y3 => j2 y3.1 y3.2) else (Bd (M_readKind s3) fun y4 => j2 y4.1 y4.2) : Option (Int32 × ST)) fun j1 => if y1 = 0 then (Lt (M_isWord s3 (16 : Int32)) fun y5 => if y5 = 0 then (if (s3.1 0 15) = 0 then (some (((s3.1 0 38) + (s3.1 0 39)), s3)) else (Lt (M_errs s3 (1 : Int32)) fun y6 => some (y6.1, y6.2))) else (j1)) else (j1)) FU sm = some (-1, sm') ∧ FS sc' sm' ∧ gc sc sc' ∧ gm sm sm') := by
  refine lkb21 (Q := fun oc om => (∃ a b j sc' sm', oc = K sc' ∧ om = some (nI (a + b), sm') ∧ SY f n T Z j sc' sm' ∧ DK a b sc' sm' ∧ gc sc sc' ∧ gm sm sm') ∨ (∃ sc' sm', oc = K sc' ∧ om = some (-1, sm') ∧ FS sc' sm' ∧ gc sc sc' ∧ gm sm sm')) (I := fun m a1 s1 s2 => ∃ i c a b, i + m = T ∧ c ≤ i ∧ a1 = nI c ∧ SY f n T Z i s1 s2 ∧ DK a b s1 s2 ∧ gc sc s1 ∧ gm sm s2) ?_ FU T _ _ _ (by have := h.1.2.2.1; unfold FU; omega) ⟨0, 0, 0, 0, by omega, Nat.le_refl _, rfl, h, D, gc.rf, gm.rf⟩
  rintro m n' rf rg a1 s1 s2 hmn hrf hrg ⟨i, c, a, b, him, hci, rfl, h1, D1, g1, g2⟩ ih
  have hiT := h1.2.2.1
  have hi400 := h1.i400
  have e10 : nI 10 = (10 : Int32) := rfl
  have e8 : nI 8 = (8 : Int32) := rfl
  have w6 : M_isWord s2 6 = if Z 3 i = 2 ∧ Z 4 i = 6 then 1 else 0 := sm_word h1 (w := 6) (by decide)
  have w16 : M_isWord s2 16 = if Z 3 i = 2 ∧ Z 4 i = 16 then 1 else 0 := sm_word h1 (w := 16) (by decide)
  -- where a fault has been found the class's loop ends
  have bad : ∀ s, FM s → rf (nI c + 1) s = K s := fun s fb => by
    obtain ⟨n2, rfl⟩ : ∃ n2, n' = n2 + 1 := ⟨n' - 1, by omega⟩
    rw [hrf, lp2_s']
    (try dsimp only)
    rw [Lt_e, Lt_e, fm_goesOn fb, if_pos i00]
    split <;> rfl
  rw [Lt_e, Lt_e, Lt_e, Lt_e, w6, sy_goesOn h1]
  have e56 := D1.2.2.2.2.1
  have e58 := D1.2.2.2.2.2.1
  have e560 := D1.2.2.1
  have e580 := D1.2.2.2.1
  by_cases gE : Z 3 i = 0
  · have n6 : ¬ (Z 3 i = 2 ∧ Z 4 i = 6) := fun q => by omega
    have n16 : ¬ (Z 3 i = 2 ∧ Z 4 i = 16) := fun q => by omega
    have e0 : s2.1 0 15 = (0 : Int32) := (sm_tok h1 (c := 0) (by decide)).mpr gE
    rw [if_neg n6, if_pos i00, if_pos gE, if_pos i00]
    refine Or.inl ⟨a, b, i, s1, s2, ?_, ?_, h1, D1, g1, g2⟩
    · split <;> rfl
    · rw [Lt_e, w16, if_neg n16, if_pos i00, if_pos e0, D1.2.2.2.2.2.2.1, D1.2.2.2.2.2.2.2.1, nI_add]
  · have hi1 : i + 1 < T := by
      have q := h1.row.2
      have := h1.tk.1
      omega
    rw [if_neg gE, if_neg i10, if_neg (show ¬ (400 : Int32) ≤ nI c from nle_t (n := 400) (by have := h1.1.2.2.1; omega) (by decide))]
    rcases sy_head h1 (x := 0) (b := 56) (by decide) e56 e560 D1.1 (by decide) with ⟨q, e⟩ | ⟨q, qr, t1, t2, e, e3, e4, e5, e6⟩ | ⟨q, qr, t1, t2, e, e3, e4, e5, e6⟩
    · have q : ¬ (Z 3 i = 2 ∧ Z 4 i = 6) := q
      rw [e, Bd_some, Lt_e, if_neg q, if_pos i00]
      (try dsimp only)
      rw [if_pos i00]
      rcases sy_head h1 (x := 1) (b := 58) (by decide) e58 e580 D1.2.1 (by decide) with ⟨q', e⟩ | ⟨q', qr, t1, t2, e, e3, e4, e5, e6⟩ | ⟨q', qr, t1, t2, e, e3, e4, e5, e6⟩
      · have q' : ¬ (Z 3 i = 2 ∧ Z 4 i = 16) := q'
        rw [e, Bd_some, Lt_e, w16, if_neg q', if_pos i00]
        (try dsimp only)
        rw [if_pos i00]
        rcases p_end h1 (s2.1 0 38 + s2.1 0 39) with ⟨z, _⟩ | ⟨_, t1, t2, b1, b2, b3, b4, b5⟩
        · exact absurd z gE
        · rw [b1, Bd_some, bad t1 b3.m]
          exact Or.inr ⟨t1, t2, rfl, b2, b3, g1.tr b4.g, g2.tr b5.g⟩
      · have q' : Z 3 i = 2 ∧ Z 4 i = 16 := q'
        have nf : M_readCrossing s2 = some (-1, t2) := by
          unfold M_readCrossing
          rw [D1.2.2.2.2.2.2.2.1, qr, if_pos e10, Lt_e, e3]
        have cf : C_X3_readCrossing t1 = some t1 := by
          have fb := e4.m
          unfold C_X3_readCrossing
          rw [fm_needKind fb, Bd_some]
          (try dsimp only)
          rw [fm_needWord fb, Bd_some, fm_needKind fb, Bd_some]
          (try dsimp only)
          rw [fm_needWord fb, Bd_some, fm_needKind fb, Bd_some]
          (try dsimp only)
          rw [fm_needSign fb, Bd_some, if_neg fb.1]
        rw [e, Bd_some, Lt_e, w16, if_pos q', if_neg i10]
        (try dsimp only)
        rw [if_neg i10, cf, Bd_some, bad t1 e4.m]
        refine Or.inr ⟨t1, t2, rfl, ?_, e4, g1.tr e5.g, g2.tr e6.g⟩
        rw [Lt_e, Lt_e, if_pos i00, nf, Bd_some]
        exact if_pos rfl
      · have q' : Z 3 i = 2 ∧ Z 4 i = 16 := q'
        rw [e, Bd_some, Lt_e, w16, if_pos q', if_neg i10]
        (try dsimp only)
        rw [if_neg i10]
        rcases p_crossing h1 q' e3 e4 e5 e6 D1 qr with ⟨j, sc', sm', hj, x1, x2, x3, x4, x5, x6⟩ | ⟨sc', sm', x1, x2, x3, x5, x6⟩
        · rw [x1, Bd_some, nI_1]
          have := ih (T - j) (nI (c + 1)) sc' sm' (by have := x3.2.2.1; omega) ⟨j, c + 1, a, b + 1, by have := x3.2.2.1; omega, by omega, rfl, x3, x4, g1.tr x5, g2.tr x6⟩
          have em : ∀ (o : Option (Int32 × ST)), rg sm' = o → (Lt (0 : Int32) fun y2 => Lt (fun (a1 : Int32) (s4 : ST) => (if a1 = (-1 : Int32) then (some ((-1 : Int32), s4)) else (rg s4) : Option (Int32 × ST))) fun j2 => if y2 = 0 then (Bd (M_readCrossing s2) fun y3 => j2 y3.1 y3.2) else (Bd (M_readKind s2) fun y4 => j2 y4.1 y4.2)) = o := fun o ho => by
            rw [Lt_e, Lt_e, if_pos i00, x2, Bd_some]
            (try dsimp only)
            rw [if_neg (show ¬ (0 : Int32) = -1 by decide)]
            exact ho
          rcases this with ⟨a', b', j', sc2, sm2, y1, y2, y3⟩ | ⟨sc2, sm2, y1, y2, y3⟩
          · exact Or.inl ⟨a', b', j', sc2, sm2, y1, em _ y2, y3⟩
          · exact Or.inr ⟨sc2, sm2, y1, em _ y2, y3⟩
        · rw [x1, Bd_some, bad sc' x3.m]
          refine Or.inr ⟨sc', sm', rfl, ?_, x3, g1.tr x5, g2.tr x6⟩
          rw [Lt_e, Lt_e, if_pos i00, x2, Bd_some]
          exact if_pos rfl
    · have q : Z 3 i = 2 ∧ Z 4 i = 6 := q
      have nf : M_readKind s2 = some (-1, t2) := by
        unfold M_readKind
        rw [D1.2.2.2.2.2.2.1, qr, if_pos e8, Lt_e, e3]
      have cf : C_X3_readKind t1 = some t1 := by
        have fb := e4.m
        unfold C_X3_readKind
        rw [fm_needNumber fb, Bd_some]
        (try dsimp only)
        rw [fm_needWord fb, Bd_some, fm_needNumber fb, Bd_some]
        (try dsimp only)
        rw [fm_needWord fb, Bd_some, fm_needNumber fb, Bd_some]
        (try dsimp only)
        rw [fm_needSign fb, Bd_some, if_neg fb.1]
      rw [e, Bd_some, Lt_e, if_pos q, if_neg i10]
      (try dsimp only)
      rw [if_neg i10, cf, Bd_some, bad t1 e4.m]
      refine Or.inr ⟨t1, t2, rfl, ?_, e4, g1.tr e5.g, g2.tr e6.g⟩
      rw [Lt_e, Lt_e, if_neg i10, nf, Bd_some]
      exact if_pos rfl
    · have q : Z 3 i = 2 ∧ Z 4 i = 6 := q
      rw [e, Bd_some, Lt_e, if_pos q, if_neg i10]
      (try dsimp only)
      rw [if_neg i10]
      rcases p_kind h1 q e3 e4 e5 e6 D1 qr with ⟨j, sc', sm', hj, x1, x2, x3, x4, x5, x6⟩ | ⟨sc', sm', x1, x2, x3, x5, x6⟩
      · rw [x1, Bd_some, nI_1]
        have := ih (T - j) (nI (c + 1)) sc' sm' (by have := x3.2.2.1; omega) ⟨j, c + 1, a + 1, b, by have := x3.2.2.1; omega, by omega, rfl, x3, x4, g1.tr x5, g2.tr x6⟩
        have em : ∀ (o : Option (Int32 × ST)), rg sm' = o → (Lt (1 : Int32) fun y2 => Lt (fun (a1 : Int32) (s4 : ST) => (if a1 = (-1 : Int32) then (some ((-1 : Int32), s4)) else (rg s4) : Option (Int32 × ST))) fun j2 => if y2 = 0 then (Bd (M_readCrossing s2) fun y3 => j2 y3.1 y3.2) else (Bd (M_readKind s2) fun y4 => j2 y4.1 y4.2)) = o := fun o ho => by
          rw [Lt_e, Lt_e, if_neg i10, x2, Bd_some]
          (try dsimp only)
          rw [if_neg (show ¬ (0 : Int32) = -1 by decide)]
          exact ho
        rcases this with ⟨a', b', j', sc2, sm2, y1, y2, y3⟩ | ⟨sc2, sm2, y1, y2, y3⟩
        · exact Or.inl ⟨a', b', j', sc2, sm2, y1, em _ y2, y3⟩
        · exact Or.inr ⟨sc2, sm2, y1, em _ y2, y3⟩
      · rw [x1, Bd_some, bad sc' x3.m]
        refine Or.inr ⟨sc', sm', rfl, ?_, x3, g1.tr x5, g2.tr x6⟩
        rw [Lt_e, Lt_e, if_neg i10, x2, Bd_some]
        exact if_pos rfl
