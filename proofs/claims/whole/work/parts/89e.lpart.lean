/-! # stage 2: a part of a condition is read -/
theorem rp_not {rp rc : ST → Int32 → Option ST} {s s4 : ST} {x : Int32} (h1 : C_X5_hasWord s 29 = some 1) (h8 : x < 8) (h2 : C_X5_needWord s 29 = some s4) : F_X3_readPart rp rc s x = Bd (rp s4 (x + 1)) fun s5 => Bd (C_X2_emit s5 (-18 : Int32)) fun s6 => some s6 := by
  unfold F_X3_readPart
  simp only [Lt_n, h1, h2, h8, Bd_some, i10, ↓reduceIte]
theorem rp_full {rp rc : ST → Int32 → Option ST} {s s7 : ST} {x : Int32} (h : C_X5_hasWord s 29 = some 1 ∨ (C_X5_hasWord s 29 = some 0 ∧ C_X5_hasSign s 40 = some 1)) (h8 : ¬ x < 8) (h2 : C_X5_fail s 3 = some s7) : F_X3_readPart rp rc s x = some s7 := by
  unfold F_X3_readPart
  rcases h with h1 | ⟨h1, h3⟩
  · simp only [Lt_n, h1, h2, h8, Bd_some, i10, ↓reduceIte]
  · simp only [Lt_n, h1, h2, h3, h8, Bd_some, i10, ↓reduceIte]
theorem rp_open {rp rc : ST → Int32 → Option ST} {s s1 : ST} {x : Int32} (h1 : C_X5_hasWord s 29 = some 0) (h3 : C_X5_hasSign s 40 = some 1) (h8 : x < 8) (h2 : C_X5_needSign s 40 = some s1) : F_X3_readPart rp rc s x = Bd (rc s1 (x + 1)) fun s2 => Bd (C_X5_needSign s2 (41 : Int32)) fun s3 => some s3 := by
  unfold F_X3_readPart
  simp only [Lt_n, h1, h2, h3, h8, Bd_some, i10, ↓reduceIte]
theorem rp_cmp {rp rc : ST → Int32 → Option ST} {s : ST} {x : Int32} (h1 : C_X5_hasWord s 29 = some 0) (h3 : C_X5_hasSign s 40 = some 0) : F_X3_readPart rp rc s x = cmpC s := by
  unfold F_X3_readPart cmpC
  simp only [Lt_n, h1, h3, Bd_some, ↓reduceIte]
theorem bd_em (o : Option ST) (m : Nat) : (Bd (Bd o fun s5 => Bd (C_X2_emit s5 (-18 : Int32)) fun s6 => some s6) (emN m)) = Bd o (emN (m + 1)) := by
  cases o with
  | none => rfl
  | some s =>
    rw [Bd_some, Bd_some]
    show _ = (Bd (C_X2_emit s (-18)) fun s' => emN m s')
    cases C_X2_emit s (-18) with
    | none => rfl
    | some v => rfl
theorem raE_no {R : Int32 → Int32 → ST → Option (Int32 × ST)} {b : Int32} {s4 s' : ST} (hb : ¬ b = 0) (h : M_isSign s4 41 = 0) (e : M_errs s4 1 = (-1, s')) : raE R b s4 = some (-1, s') := by
  unfold raE
  rw [if_neg hb, if_pos h, e]
theorem raE_yes {R : Int32 → Int32 → ST → Option (Int32 × ST)} {b : Int32} {s4 s7 s8 : ST} (hb : ¬ b = 0) (h : M_isSign s4 41 = 1) (e : M_settles (ups (ups s4 0 29 (s4.1 0 29 - 1)) 0 27 ((ups s4 0 29 (s4.1 0 29 - 1)).1 0 27 - 1)) 9 = some s7) (e2 : M_reads s7 = some s8) : raE R b s4 = R (b - 1) 0 s8 := by
  unfold raE
  rw [if_neg hb, if_neg (by rw [h]; exact i10), e, Bd_some, e2, Bd_some]
theorem sn_lq {k : Nat} {sc sc' sm sm' : ST} (v : agr [60, 63] sc sc' ∧ ∀ j, j < k → sc'.1 63 j = sc.1 63 j) (w : agr [0, 13, 14] sm sm' ∧ (∀ j, j ∉ [26, 27, 29] → sm'.1 0 j = sm.1 0 j) ∧ ∀ j, j < 800 + k → sm'.1 13 j = sm.1 13 j ∧ sm'.1 14 j = sm.1 14 j) : lq k sc sc' sm sm' :=
  ⟨⟨v.1.mono (by decide), fun q _ => by rw [(v.1 49 (by decide)).1], v.2⟩, w.1.mono (by decide), fun q hq => w.2.1 q (by simp only [List.mem_cons, List.not_mem_nil, or_false, not_or] at hq ⊢; omega), w.2.2⟩
theorem SY.sn {f : Nat → Nat} {n T : Nat} {Z : Nat → Nat → Nat} {i k : Nat} {sc sm sm' : ST} (h : SY f n T Z i sc sm) (w : agr [0, 13, 14] sm sm' ∧ (∀ j, j ∉ [26, 27, 29] → sm'.1 0 j = sm.1 0 j) ∧ ∀ j, j < 800 + k → sm'.1 13 j = sm.1 13 j ∧ sm'.1 14 j = sm.1 14 j) : SY f n T Z i sc sm' :=
  h.fr (w.1.mono (by decide)) (fun q hq => w.2.1 q (by simp only [List.mem_cons, List.not_mem_nil, or_false, not_or] at hq ⊢; omega))
theorem part_all {f : Nat → Nat} {n T : Nat} {Z : Nat → Nat → Nat} : ∀ M, PARTc f n T Z M := by
  intro M
  induction M with
  | zero =>
    intro a i k p m d r b n1 τ l sc sm hM h
    have := h.1.2.2.1
    omega
  | succ M ih =>
  intro a i k p m d r b n1 τ l sc sm hM h hk hl hτ hll hd hr hb hn1
  have hs := h.1
  have hi := hs.i400
  have hiT := hs.2.2.1
  have hT401 := hs.1.2.2.1
  obtain ⟨r', rfl⟩ : ∃ x, r = x + 1 := ⟨r - 1, by omega⟩
  obtain ⟨n1', rfl⟩ : ∃ x, n1 = x + 1 := ⟨n1 - 1, by omega⟩
  have w5 : M_isWord sm 5 = if Z 3 i = 2 ∧ Z 4 i = 5 then 1 else 0 := sm_word hs (w := 5) (by decide)
  have s40 : M_isSign sm 40 = if Z 3 i = 4 ∧ Z 4 i = 40 then 1 else 0 := sm_sign hs (c := 40) (by decide)
  have cw : C_X5_hasWord sc 29 = some (if Z 3 i = 2 ∧ Z 4 i = 5 then 1 else 0) := sy_word hs (x := 29) (by decide)
  have cs : C_X5_hasSign sc 40 = some (if Z 3 i = 4 ∧ Z 4 i = 40 then 1 else 0) := sy_sign hs (c := 40) (by decide) (by decide)
  have h27 : sm.1 0 27 = nI (d + m) := h.2.2.2
  have e8 : sm.1 0 27 = 8 ↔ d + m = 8 := by rw [h27]; exact nI_eq (b := 8) (by omega) (by decide)
  have x8 : nI (d + m) < (8 : Int32) ↔ d + m < 8 := by rw [show (8 : Int32) = nI 8 from rfl, nI_ltI (by omega) (by decide)]
  rw [RP_s, lp3_s]
  by_cases gc : ¬ (Z 3 i = 2 ∧ Z 4 i = 5) ∧ ¬ (Z 3 i = 4 ∧ Z 4 i = 40)
  · -- a comparison
    obtain ⟨ga, go⟩ := gc
    rw [if_neg ga] at w5 cw
    rw [if_neg go] at s40 cs
    rw [rp_cmp cw cs, ra_cmp w5 s40]
    rcases (l_cmp (f := f) (n := n) (T := T) (Z := Z) (p := p + m) (show L0 f n T Z a i k τ sc sm from ⟨hs, h.2.1.1, h.2.1.2⟩) (by omega) (by omega)).symm with ⟨c1, m1, u1, u2, u3, u4, u5⟩ | ⟨j, k', c1, m1, u1, u2, u3, u4, u5, u6, u7⟩
    · obtain ⟨c2, v1, v2, v3⟩ := fz_emN m u4
      rw [u1, Bd_some, v1, u2, Bd_some]
      (try dsimp only)
      rw [if_pos (rfl : (-1 : Int32) = -1)]
      exact Or.inr ⟨c2, m1, rfl, rfl, u3.ff v3, v2, u5.q.tr (ff_lq v3) (Nat.le_refl _)⟩
    · have hj := u5.1.i400
      have p1 : PN (List.replicate m 9 ++ l) m1 := h.2.2.1.mv (u7.2.2.1 29 (by decide)) (u7.2.1 15 (by decide)).1
      obtain ⟨c2, m2, v1, v2, v3, v4, v5, v6, v7⟩ := se_not hl m k' d FU c1 m1 ⟨u5.2.1, u5.2.2⟩ p1 (by rw [u7.2.2.1 27 (by decide)]; exact h27) (by omega) (by omega) (by unfold FU; omega)
      rw [u3, Bd_some, v1, u4, Bd_some]
      (try dsimp only)
      rw [if_neg (show ¬ (0 : Int32) = -1 by decide), settles_e, v2, Bd_some]
      exact Or.inl ⟨j, k' + m, n1', c2, m2, u1, by omega, rfl, rfl, ⟨(u5.1.sn v7).fx v6.1, v3, v4, v5⟩, by omega, by omega, (u7.q.tr (sn_lq v6 v7) (by omega))⟩
  by_cases g8 : d + m = 8
  · -- too deep
    obtain ⟨c1, m1, b1, b2, b3, b4, b5⟩ := sy_fail hs 3 k3
    obtain ⟨c2, v1, v2, v3⟩ := fz_emN m (h.fz (p := 0) (by omega) b3 b4)
    have y1 : C_X5_hasWord sc 29 = some 1 ∨ (C_X5_hasWord sc 29 = some 0 ∧ C_X5_hasSign sc 40 = some 1) := by
      by_cases ga : Z 3 i = 2 ∧ Z 4 i = 5
      · rw [if_pos ga] at cw; exact Or.inl cw
      · have go : Z 3 i = 4 ∧ Z 4 i = 40 := Classical.not_not.mp fun q => gc ⟨ga, q⟩
        rw [if_neg ga] at cw; rw [if_pos go] at cs; exact Or.inr ⟨cw, cs⟩
    have y2 : M_isWord sm 5 = 1 ∨ (M_isWord sm 5 = 0 ∧ M_isSign sm 40 = 1) := by
      by_cases ga : Z 3 i = 2 ∧ Z 4 i = 5
      · rw [if_pos ga] at w5; exact Or.inl w5
      · have go : Z 3 i = 4 ∧ Z 4 i = 40 := Classical.not_not.mp fun q => gc ⟨ga, q⟩
        rw [if_neg ga] at w5; rw [if_pos go] at s40; exact Or.inr ⟨w5, s40⟩
    rw [rp_full y1 (fun q => by have := x8.mp q; omega) b1, Bd_some, v1, ra_full y2 (e8.mpr g8), b2]
    exact Or.inr ⟨c2, m1, rfl, rfl, b3.ff v3, v2, (fcm_lfs (k := 0) b4 b5).q.tr (ff_lq v3) (Nat.le_refl _)⟩
  have hll' : (List.replicate m (9 : Int32) ++ l).length < 40 := by omega
  have hn : nI (d + m) + 1 = nI (d + m + 1) := nI_1 (d + m)
  have p0 : ∀ x : Int32, PN (List.replicate m 9 ++ l) (ups sm 0 27 x) := fun x => h.2.2.1.mv (by rw [rd1, if_neg (by decide)]) (by rw [ups_ne (by decide)])
  by_cases ga : Z 3 i = 2 ∧ Z 4 i = 5
  · -- not
    rw [if_pos ga] at w5 cw
    obtain ⟨m1, x1, x2, x3⟩ := m_waits (x := 9) (p0 (nI (d + m + 1))) hll'
    have hs1 : SY f n T Z i sc m1 := by rw [x3]; exact ((hs.w0 (by decide)).w (by decide)).w0 (by decide)
    obtain ⟨c2, m2, z1, z2, z3, z4, z5⟩ := sy_adv hs1 (by omega)
    have nw : C_X5_needWord sc 29 = some c2 := by
      unfold C_X5_needWord
      rw [tw_yes hs (x := 29) (by decide) ga z1, Bd_some]
      (try dsimp only)
      rw [if_neg i10]
    have h1 : LQ f n T Z a i k τ (List.replicate (m + 1) 9 ++ l) (d + (m + 1)) sc m1 := ⟨hs1, h.2.1.mv rfl (fun _ _ => rfl) (by rw [x3, rd1, if_neg (by decide), ups_ne (by decide), rd1, if_neg (by decide)]) (fun j _ => by rw [x3, ups_ne (by decide), ups_ne (by decide), ups_ne (by decide), ups_ne (by decide), ups_ne (by decide), ups_ne (by decide)]; exact ⟨rfl, rfl⟩), x2, by rw [x3, rd1, if_neg (by decide), ups_ne (by decide), rd1, if_pos rfl]; rfl⟩
    have h2 := h1.mv z3 z4 z5
    have g1 : lq k sc sc sm m1 := by
      rw [x3]
      exact ⟨⟨agr.rf, fun _ _ => rfl, fun _ _ => rfl⟩, ((agr.rf.ups (by decide)).ups (by decide)).ups (by decide), fun j hj => by rw [rd1, if_neg (by rintro rfl; exact hj (by decide)), ups_ne (by decide), rd1, if_neg (by rintro rfl; exact hj (by decide))], fun j _ => by rw [ups_ne (by decide), ups_ne (by decide), ups_ne (by decide), ups_ne (by decide), ups_ne (by decide), ups_ne (by decide)]; exact ⟨rfl, rfl⟩⟩
    have g2 : lq k sc c2 sm m2 := g1.tr (fcm_lfs (k := k) z4 z5).q (Nat.le_refl _)
    rw [rp_not cw (x8.mpr (by omega)) nw, bd_em, ra_not w5 (fun q => g8 (e8.mp q)), h27, hn, x1, Bd_some, z2, Bd_some]
    have hlen1 : (List.replicate (m + 1) (9 : Int32) ++ l).length = (List.replicate m (9 : Int32) ++ l).length + 1 := rfl
    rcases ih a (i + 1) k p (m + 1) d r' b n1' τ l c2 m2 (by omega) h2 (by omega) hl (by omega) (by omega) (by omega) (by omega) hb (by omega) with ⟨j, k', n2, c3, m3, u1, u2, u3, u4, u5, u6, u7, u8⟩ | ⟨c3, m3, u1, u2, u3, u4, u5⟩
    · exact Or.inl ⟨j, k', n2, c3, m3, by omega, u2, u3, u4, u5, u6, u7, g2.tr u8 (Nat.le_refl _)⟩
    · exact Or.inr ⟨c3, m3, u1, u2, u3, u4, (g2.le (Nat.zero_le _)).tr u5 (Nat.le_refl _)⟩
  · -- a parenthesis
    have go : Z 3 i = 4 ∧ Z 4 i = 40 := Classical.not_not.mp fun q => gc ⟨ga, q⟩
    rw [if_neg ga] at w5 cw
    rw [if_pos go] at s40 cs
    obtain ⟨m1, x1, x2, x3⟩ := m_waits (x := 12) (p0 (nI (d + m + 1))) hll'
    have hs1 : SY f n T Z i sc m1 := by rw [x3]; exact ((hs.w0 (by decide)).w (by decide)).w0 (by decide)
    obtain ⟨c2, m2, z1, z2, z3, z4, z5⟩ := sy_adv hs1 (by omega)
    have nw : C_X5_needSign sc 40 = some c2 := by
      unfold C_X5_needSign
      rw [show C_X5_takesSign sc 40 = some (1, c2) from ts_yes hs (c := 40) (by decide) (by decide) go z1, Bd_some]
      (try dsimp only)
      rw [if_neg i10]
    have h1 : LQ f n T Z a i k τ (12 :: (List.replicate m 9 ++ l)) (d + m + 1) sc m1 := ⟨hs1, h.2.1.mv rfl (fun _ _ => rfl) (by rw [x3, rd1, if_neg (by decide), ups_ne (by decide), rd1, if_neg (by decide)]) (fun j _ => by rw [x3, ups_ne (by decide), ups_ne (by decide), ups_ne (by decide), ups_ne (by decide), ups_ne (by decide), ups_ne (by decide)]; exact ⟨rfl, rfl⟩), x2, by rw [x3, rd1, if_neg (by decide), ups_ne (by decide), rd1, if_pos rfl]⟩
    have h2 := h1.mv z3 z4 z5
    have g1 : lq k sc sc sm m1 := by
      rw [x3]
      exact ⟨⟨agr.rf, fun _ _ => rfl, fun _ _ => rfl⟩, ((agr.rf.ups (by decide)).ups (by decide)).ups (by decide), fun j hj => by rw [rd1, if_neg (by rintro rfl; exact hj (by decide)), ups_ne (by decide), rd1, if_neg (by rintro rfl; exact hj (by decide))], fun j _ => by rw [ups_ne (by decide), ups_ne (by decide), ups_ne (by decide), ups_ne (by decide), ups_ne (by decide), ups_ne (by decide)]; exact ⟨rfl, rfl⟩⟩
    have g2 : lq k sc c2 sm m2 := g1.tr (fcm_lfs (k := k) z4 z5).q (Nat.le_refl _)
    rw [rp_open cw cs (x8.mpr (by omega)) nw, ra_open w5 s40 (fun q => g8 (e8.mp q)), h27, hn, x1, Bd_some, z2, Bd_some, show nI b + 1 = nI (b + 1) from nI_1 b]
    have hb0 : ¬ nI (b + 1) = 0 := fun q => by have := (nI_eq (a := b + 1) (b := 0) (by omega) (by decide)).mp q; omega
    have hb1 : nI (b + 1) - 1 = nI b := n_sub1 b
    rcases (cond_of ih a (i + 1) k (p + m) (d + m + 1) r' (b + 1) n1' τ (12 :: (List.replicate m 9 ++ l)) c2 m2 (by omega) h2 (by omega) ⟨hd_ne (by decide), hd_ne (by decide), hd_ne (by decide)⟩ (by omega) (by rw [List.length_cons]; omega) (by omega) (by omega) (by omega) (by omega)).symm with ⟨c3, m3, u1, u2, u3, u4, u5⟩ | ⟨j, k', n2, c3, m3, u1, u2, u3, u4, u5, u6, u7, u8⟩
    · obtain ⟨c4, v1, v2, v3⟩ := fz_emN m u4
      rw [u1, Bd_some, fm_needSign u4.1, Bd_some, Bd_some, v1, u2]
      exact Or.inr ⟨c4, m3, rfl, rfl, u3.ff v3, v2, ((g2.le (Nat.zero_le _)).tr u5 (Nat.le_refl _)).tr (ff_lq v3) (Nat.le_refl _)⟩
    · have hj := u5.1.i400
      have hjT := u5.1.2.2.1
      have s41 : M_isSign m3 41 = if Z 3 j = 4 ∧ Z 4 j = 41 then 1 else 0 := sm_sign u5.1 (c := 41) (by decide)
      rw [u3, Bd_some, u4]
      by_cases gp : Z 3 j = 4 ∧ Z 4 j = 41
      · rw [if_pos gp] at s41
        obtain ⟨c4, m4', y1, _, y3', y4, _⟩ := sy_adv u5.1 (by omega)
        have nw2 : C_X5_needSign c3 41 = some c4 := by
          unfold C_X5_needSign
          rw [show C_X5_takesSign c3 41 = some (1, c4) from ts_yes u5.1 (c := 41) (by decide) (by decide) gp y1, Bd_some]
          (try dsimp only)
          rw [if_neg i10]
        -- the parenthesis goes, and what waits before it is settled
        obtain ⟨m5, hm5⟩ : ∃ x, x = ups (ups m3 0 29 (m3.1 0 29 - 1)) 0 27 ((ups m3 0 29 (m3.1 0 29 - 1)).1 0 27 - 1) := ⟨_, rfl⟩
        have a29 : m3.1 0 29 - 1 = nI (List.replicate m (9 : Int32) ++ l).length := by rw [u5.2.2.1.1]; exact n_sub1 _
        have a27 : m3.1 0 27 - 1 = nI (d + m) := by rw [u5.2.2.2]; exact n_sub1 _
        have p5 : PN (List.replicate m 9 ++ l) m5 := ⟨by rw [hm5, rd1, if_neg (by decide), rd1, if_pos rfl, a29], by rw [hm5, ups_ne (by decide), ups_ne (by decide)]; exact u5.2.2.1.2.1.2, by omega⟩
        have q5 : m5.1 0 27 = nI (d + m) := by rw [hm5, rd1, if_pos rfl, rd1, if_neg (by decide), a27]
        have l5 : LN a k' (1 :: τ) c4 m5 := u5.2.1.mv (by rw [(y4.1 60 (by decide)).1]) (fun j _ => by rw [(y4.1 63 (by decide)).1]) (by rw [hm5, rd1, if_neg (by decide), rd1, if_neg (by decide)]) (fun j _ => by rw [hm5, ups_ne (by decide), ups_ne (by decide), ups_ne (by decide), ups_ne (by decide)]; exact ⟨rfl, rfl⟩)
        have hs5 : SY f n T Z j c3 m5 := by rw [hm5]; exact (u5.1.w0 (by decide)).w0 (by decide)
        have f5 : lq k' c3 c3 m3 m5 := by
          rw [hm5]
          exact ⟨⟨agr.rf, fun _ _ => rfl, fun _ _ => rfl⟩, (agr.rf.ups (by decide)).ups (by decide), fun j hj => by rw [rd1, if_neg (by rintro rfl; exact hj (by decide)), rd1, if_neg (by rintro rfl; exact hj (by decide))], fun j _ => by rw [ups_ne (by decide), ups_ne (by decide), ups_ne (by decide), ups_ne (by decide)]; exact ⟨rfl, rfl⟩⟩
        obtain ⟨c6, m6, v1, v2, v3, v4, v5, v6, v7⟩ := se_not hl m k' d FU c4 m5 l5 p5 q5 (by omega) (by omega) (by unfold FU; omega)
        obtain ⟨c4', m7, t1, t2, t3, t4, t5⟩ := sy_adv (hs5.sn v7) (by omega)
        have ec : c4' = c4 := Option.some.inj (t1.symm.trans y1)
        rw [ec] at t3 t4
        have l7 : LN a (k' + m) (1 :: τ) c6 m7 := v3.mv rfl (fun _ _ => rfl) (t5.2 26 (by decide)) (fun j _ => by rw [(t5.1 13 (by decide)).1, (t5.1 14 (by decide)).1]; exact ⟨rfl, rfl⟩)
        have p7 : PN l m7 := v4.mv (t5.2 29 (by decide)) (t5.1 15 (by decide)).1
        have fr : lq k sc c6 sm m7 := by
          have f1 : lq k sc c3 sm m3 := g2.tr u8 (by omega)
          have f2 : lq k c3 c4 m6 m7 := (fcm_lfs (k := k) t4 t5).q
          have f3 : lq k' c4 c6 m5 m6 := sn_lq v6 v7
          have f4 : lq k' c3 c4 m3 m3 := ⟨⟨y4.1.mono (by decide), fun j hj => y4.2 j hj, fun j _ => by rw [(y4.1 63 (by decide)).1]⟩, agr.rf, fun _ _ => rfl, fun _ _ => ⟨rfl, rfl⟩⟩
          have f6 : lq k' c4 c4 m3 m5 := ⟨⟨agr.rf, fun _ _ => rfl, fun _ _ => rfl⟩, f5.2⟩
          have f7 : lq k c6 c6 m6 m7 := ⟨⟨agr.rf, fun _ _ => rfl, fun _ _ => rfl⟩, f2.2⟩
          exact (((f1.tr f4 (by omega)).tr f6 (by omega)).tr f3 (by omega)).tr f7 (Nat.le_refl _)
        rw [nw2, Bd_some, Bd_some, v1, raE_yes hb0 s41 (by rw [← hm5, settles_e]; exact v2) t2, hb1]
        exact Or.inl ⟨j + 1, k' + m, n2, c6, m7, by omega, by omega, rfl, rfl, ⟨t3.fx v6.1, l7, p7, by rw [t5.2 27 (by decide)]; exact v5⟩, by omega, by omega, fr⟩
      · rw [if_neg gp] at s41
        obtain ⟨c4, m4, b1, b2, b3, b4, b5⟩ := sy_fail u5.1 1 k1
        have nw2 : C_X5_needSign c3 41 = some c4 := by
          unfold C_X5_needSign
          rw [show C_X5_takesSign c3 41 = some (0, c3) from ts_no u5.1 (c := 41) (by decide) (by decide) gp, Bd_some]
          (try dsimp only)
          rw [if_pos i00, b1, Bd_some]
        obtain ⟨c5, v1, v2, v3⟩ := fz_emN m (u5.fz (p := 0) (by omega) b3 b4)
        rw [nw2, Bd_some, Bd_some, v1, raE_no hb0 s41 b2]
        exact Or.inr ⟨c5, m4, rfl, rfl, b3.ff v3, v2, (((g2.le (Nat.zero_le _)).tr (u8.le (Nat.zero_le _)) (Nat.le_refl _)).tr (fcm_lfs (k := 0) b4 b5).q (Nat.le_refl _)).tr (ff_lq v3) (Nat.le_refl _)⟩
theorem cond_all {f : Nat → Nat} {n T : Nat} {Z : Nat → Nat → Nat} (M : Nat) : CONDc f n T Z M := cond_of (part_all M)
