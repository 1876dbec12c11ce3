/-! # stage 2: the text of the wants -/
theorem wants_loop {f : Nat → Nat} {n T W H nk : Nat} {Z : Nat → Nat → Nat} {sc sm : ST} {K : ST → Option (Int32 × ST)} (h : SY f n T Z 0 sc sm) (D : DWt W H nk 0 sc sm) : (∃ w j sc' sm', lpK2 (C := Int32 × ST) (fun (rec1 : Int32 → ST → Option (Int32 × ST)) (a1 : Int32) (s2 : ST) => Lt (K s2 : Option (Int32 × ST)) fun j1 => if (400 : Int32) ≤ a1 then (j1) else (Lt (C_X5_goesOn s2) fun y1 => if y1 = 0 then (j1) else (Bd (C_X5_takesHead s2 6 66) fun y2 => Lt (fun (s4 : ST) => (Bd (C_X5_takesWord s4 7) fun y3 => Lt (fun (a2 : Int32) (s5 : ST) => (Bd (C_X5_needWord s5 8) fun s6 => Bd (C_X3_needCell s6) fun y4 => Bd (C_X5_needWord y4.2 9) fun s7 => Bd (C_X5_needNumber s7 (0 : Int32) (999 : Int32)) fun y5 => Bd (C_X5_needWord y5.2 10) fun s8 => Bd (C_X5_needNumber s8 (1 : Int32) (99 : Int32)) fun y6 => Bd (C_X5_needSign y6.2 (59 : Int32)) fun s9 => Lt (fun (s10 : ST) => (rec1 (a1 + (1 : Int32)) s10 : Option (Int32 × ST))) fun j4 => if (s9.1 49 8) = 0 then (Bd (C_X4_add s9 66 a2 y4.1 y5.1 y6.1) fun s11 => j4 s11) else (j4 s9) : Option (Int32 × ST))) fun j3 => if y3.1 = 0 then (Bd (C_X3_needKind y3.2 9) fun y7 => j3 y7.1 y7.2) else (j3 (-1 : Int32) y3.2) : Option (Int32 × ST))) fun j2 => if y2.1 = 0 then (Bd (C_X5_fail y2.2 (1 : Int32)) fun s12 => j2 s12) else (j2 y2.2)))) FU (0 : Int32) sc = K sc' ∧ lpK2 (C := Int32 × ST) (fun (rec1 : Int32 → ST → Option (Int32 × ST)) (a1 : Int32) (s1 : ST) => Lt (M_isWord s1 (19 : Int32)) fun y1 => if y1 = 0 then (if (s1.1 0 15) = 0 then (some (a1, s1)) else (Lt (M_errs s1 (1 : Int32)) fun y2 => some (y2.1, y2.2))) else (if a1 = (10 : Int32) then (Lt (M_errs s1 (3 : Int32)) fun y5 => some (y5.1, y5.2)) else (Bd (M_readWant s1 ((40 : Int32) + ((4 : Int32) * a1))) fun y3 => if y3.1 = (-1 : Int32) then (some ((-1 : Int32), y3.2)) else (Lt ((a1 + (1 : Int32))) fun y4 => rec1 y4 y3.2)))) FU (0 : Int32) sm = some (nI w, sm') ∧ SY f n T Z j sc' sm' ∧ DWt W H nk w sc' sm' ∧ gc sc sc' ∧ gm sm sm') ∨ (∃ sc' sm', lpK2 (C := Int32 × ST) (fun (rec1 : Int32 → ST → Option (Int32 × ST)) (a1 : Int32) (s2 : ST) => Lt (K s2 : Option (Int32 × ST)) fun j1 => if (400 : Int32) ≤ a1 then (j1) else (Lt (C_X5_goesOn s2) fun y1 => if y1 = 0 then (j1) else (Bd (C_X5_takesHead s2 6 66) fun y2 => Lt (fun (s4 : ST) => (Bd (C_X5_takesWord s4 7) fun y3 => Lt (fun (a2 : Int32) (s5 : ST) => (Bd (C_X5_needWord s5 8) fun s6 => Bd (C_X3_needCell s6) fun y4 => Bd (C_X5_needWord y4.2 9) fun s7 => Bd (C_X5_needNumber s7 (0 : Int32) (999 : Int32)) fun y5 => Bd (C_X5_needWord y5.2 10) fun s8 => Bd (C_X5_needNumber s8 (1 : Int32) (99 : Int32)) fun y6 => Bd (C_X5_needSign y6.2 (59 : Int32)) fun s9 => Lt (fun (s10 : ST) => (rec1 (a1 + (1 : Int32)) s10 : Option (Int32 × ST))) fun j4 => if (s9.1 49 8) = 0 then (Bd (C_X4_add s9 66 a2 y4.1 y5.1 y6.1) fun s11 => j4 s11) else (j4 s9) : Option (Int32 × ST))) fun j3 => if y3.1 = 0 then (Bd (C_X3_needKind y3.2 9) fun y7 => j3 y7.1 y7.2) else (j3 (-1 : Int32) y3.2) : Option (Int32 × ST))) fun j2 => if y2.1 = 0 then (Bd (C_X5_fail y2.2 (1 : Int32)) fun s12 => j2 s12) else (j2 y2.2)))) FU (0 : Int32) sc = K sc' ∧ lpK2 (C := Int32 × ST) (fun (rec1 : Int32 → ST → Option (Int32 × ST)) (a1 : Int32) (s1 : ST) => Lt (M_isWord s1 (19 : Int32)) fun y1 => if y1 = 0 then (if (s1.1 0 15) = 0 then (some (a1, s1)) else (Lt (M_errs s1 (1 : Int32)) fun y2 => some (y2.1, y2.2))) else (if a1 = (10 : Int32) then (Lt (M_errs s1 (3 : Int32)) fun y5 => some (y5.1, y5.2)) else (Bd (M_readWant s1 ((40 : Int32) + ((4 : Int32) * a1))) fun y3 => if y3.1 = (-1 : Int32) then (some ((-1 : Int32), y3.2)) else (Lt ((a1 + (1 : Int32))) fun y4 => rec1 y4 y3.2)))) FU (0 : Int32) sm = some (-1, sm') ∧ FS sc' sm' ∧ gc sc sc' ∧ gm sm sm') := by
  refine lkb22 (Q := fun oc om => (∃ w j sc' sm', oc = K sc' ∧ om = some (nI w, sm') ∧ SY f n T Z j sc' sm' ∧ DWt W H nk w sc' sm' ∧ gc sc sc' ∧ gm sm sm') ∨ (∃ sc' sm', oc = K sc' ∧ om = some (-1, sm') ∧ FS sc' sm' ∧ gc sc sc' ∧ gm sm sm')) (I := fun m a1 s1 b1 s2 => ∃ i c w, i + m = T ∧ c ≤ i ∧ a1 = nI c ∧ b1 = nI w ∧ SY f n T Z i s1 s2 ∧ DWt W H nk w s1 s2 ∧ gc sc s1 ∧ gm sm s2) ?_ FU T _ _ _ _ (by have := h.1.2.2.1; unfold FU; omega) ⟨0, 0, 0, by omega, Nat.le_refl _, rfl, rfl, h, D, gc.rf, gm.rf⟩
  rintro m n' rf rg a1 s1 b1 s2 hmn hrf hrg ⟨i, c, w, him, hci, rfl, rfl, h1, D1, g1, g2⟩ ih
  have hiT := h1.2.2.1
  have hi400 := h1.i400
  have e10 : nI 10 = (10 : Int32) := rfl
  have w19 : M_isWord s2 19 = if Z 3 i = 2 ∧ Z 4 i = 19 then 1 else 0 := sm_word h1 (w := 19) (by decide)
  have bad : ∀ s, FM s → rf (nI c + 1) s = K s := fun s fb => by
    obtain ⟨n2, rfl⟩ : ∃ n2, n' = n2 + 1 := ⟨n' - 1, by omega⟩
    rw [hrf, lp2_s']
    (try dsimp only)
    rw [Lt_e, Lt_e, fm_goesOn fb, if_pos i00]
    split <;> rfl
  rw [Lt_e, Lt_e, Lt_e, w19, sy_goesOn h1]
  by_cases gE : Z 3 i = 0
  · have n19 : ¬ (Z 3 i = 2 ∧ Z 4 i = 19) := fun q => by omega
    have e0 : s2.1 0 15 = (0 : Int32) := (sm_tok h1 (c := 0) (by decide)).mpr gE
    rw [if_neg n19, if_pos i00, if_pos gE, if_pos i00, if_pos e0]
    refine Or.inl ⟨w, i, s1, s2, ?_, rfl, h1, D1, g1, g2⟩
    split <;> rfl
  · have hi1 : i + 1 < T := by
      have q := h1.row.2
      have := h1.tk.1
      omega
    rw [if_neg gE, if_neg i10, if_neg (show ¬ (400 : Int32) ≤ nI c from nle_t (n := 400) (by have := h1.1.2.2.1; omega) (by decide))]
    rcases sy_head h1 (x := 6) (b := 66) (by decide) D1.2.2.1 D1.2.1 D1.1 (by decide) with ⟨q, e⟩ | ⟨q, qr, t1, t2, e, e3, e4, e5, e6⟩ | ⟨q, qr, t1, t2, e, e3, e4, e5, e6⟩
    · have q : ¬ (Z 3 i = 2 ∧ Z 4 i = 19) := q
      rw [e, Bd_some, Lt_e, if_neg q, if_pos i00]
      (try dsimp only)
      rw [if_pos i00]
      rcases p_end h1 (nI w) with ⟨z, _⟩ | ⟨_, t1, t2, b1, b2, b3, b4, b5⟩
      · exact absurd z gE
      · have fb := b3.m
        rw [b1, Bd_some]
        (try dsimp only)
        rw [fm_takesWord fb, Bd_some, Lt_e]
        (try dsimp only)
        rw [if_pos i00, fm_needKind fb, Bd_some]
        (try dsimp only)
        rw [fm_needWord fb, Bd_some, fm_needCell fb, Bd_some]
        (try dsimp only)
        rw [fm_needWord fb, Bd_some, fm_needNumber fb, Bd_some]
        (try dsimp only)
        rw [fm_needWord fb, Bd_some, fm_needNumber fb, Bd_some]
        (try dsimp only)
        rw [fm_needSign fb, Bd_some, Lt_e, if_neg fb.1]
        exact Or.inr ⟨t1, t2, bad t1 fb, b2, b3, g1.tr b4.g, g2.tr b5.g⟩
    · have q : Z 3 i = 2 ∧ Z 4 i = 19 := q
      have fb := e4.m
      rw [e, Bd_some, Lt_e, if_pos q, if_neg i10, qr, if_pos e10]
      (try dsimp only)
      rw [if_neg i10, fm_takesWord fb, Bd_some, Lt_e]
      (try dsimp only)
      rw [if_pos i00, fm_needKind fb, Bd_some]
      (try dsimp only)
      rw [fm_needWord fb, Bd_some, fm_needCell fb, Bd_some]
      (try dsimp only)
      rw [fm_needWord fb, Bd_some, fm_needNumber fb, Bd_some]
      (try dsimp only)
      rw [fm_needWord fb, Bd_some, fm_needNumber fb, Bd_some]
      (try dsimp only)
      rw [fm_needSign fb, Bd_some, Lt_e, if_neg fb.1, Lt_e, e3]
      exact Or.inr ⟨t1, t2, bad t1 fb, rfl, e4, g1.tr e5.g, g2.tr e6.g⟩
    · have q : Z 3 i = 2 ∧ Z 4 i = 19 := q
      have hw10 : ¬ nI w = (10 : Int32) := fun z => by
        have := (nI_eq (b := 10) (by omega) (by decide)).mp z
        omega
      have h4 : (40 : Int32) + (4 : Int32) * nI w = nI (40 + 4 * w) := by
        rw [show (40 : Int32) = nI 40 from rfl, show (4 : Int32) = nI 4 from rfl, nI_mul, nI_add]
      rw [e, Bd_some, Lt_e, if_pos q, if_neg i10, if_neg hw10, h4]
      (try dsimp only)
      rw [if_neg i10]
      rcases p_want (K := fun s => rf (nI c + 1) s) h1 q e3 e4 e5 e6 D1 qr with ⟨j, sc', sm', hj, x1, x2, x3, x4, x5, x6⟩ | ⟨sc', sm', x1, x2, x3, x5, x6⟩
      · have := ih (T - j) (nI (c + 1)) sc' (nI (w + 1)) sm' (by have := x3.2.2.1; omega) ⟨j, c + 1, w + 1, by have := x3.2.2.1; omega, by omega, rfl, rfl, x3, x4, g1.tr x5, g2.tr x6⟩
        rw [← nI_1 c] at this
        rw [x2, Bd_some]
        (try dsimp only)
        rw [if_neg (show ¬ (0 : Int32) = -1 by decide), Lt_e, nI_1 w]
        rcases this with ⟨w', j', sc2, sm2, y1, y2, y3⟩ | ⟨sc2, sm2, y1, y2, y3⟩
        · exact Or.inl ⟨w', j', sc2, sm2, x1.trans y1, y2, y3⟩
        · exact Or.inr ⟨sc2, sm2, x1.trans y1, y2, y3⟩
      · rw [x2, Bd_some]
        (try dsimp only)
        rw [if_pos (rfl : (-1 : Int32) = -1)]
        exact Or.inr ⟨sc', sm', x1.trans (bad sc' x3.m), rfl, x3, g1.tr x5, g2.tr x6⟩
