/-! # stage 2: text -/
theorem nI_nm1 {n : Nat} (h : n < 1000) : ¬ nI n = (-1 : Int32) := n_nI_m1 (by omega)
theorem ct_out {s s1 : ST} {x : Int32} (e1 : C_X5_begin s = some s1) (h0 : ¬ x = 0) (h1 : ¬ x = 1) (h2 : ¬ x = 2) (h3 : ¬ x = 3) : C_X9_text s x = some (-1, ups s1 49 1 0) := by
  unfold C_X9_text
  simp only [Lt_n, e1, Bd_some, h0, h1, h2, h3, ↓reduceIte]
theorem ct_0b {s s1 s2 : ST} (e1 : C_X5_begin s = some s1) (e2 : C_X3_readKinds s1 = some (-1, s2)) : C_X9_text s 0 = some (-1, ups s2 49 1 0) := by
  unfold C_X9_text
  simp only [Lt_n, e1, e2, Bd_some, ↓reduceIte]
theorem ct_0 {s s1 s2 : ST} {r : Int32} (e1 : C_X5_begin s = some s1) (e2 : C_X3_readKinds s1 = some (r, s2)) (hr : ¬ r = -1) : C_X9_text s 0 = some (r, ups (C_X0_forget (C_X4_clear (C_X4_clear (C_X1_clearSeedsAndStorms s2 1) 19) 21)) 49 1 0) := by
  unfold C_X9_text
  simp only [Lt_n, e1, e2, Bd_some, hr, ↓reduceIte]
theorem q10 : ¬ (1 : Int32) = 0 := by decide
theorem q12 : ¬ (1 : Int32) = 2 := by decide
theorem q13 : ¬ (1 : Int32) = 3 := by decide
theorem q20 : ¬ (2 : Int32) = 0 := by decide
theorem q21 : ¬ (2 : Int32) = 1 := by decide
theorem q23 : ¬ (2 : Int32) = 3 := by decide
theorem q30 : ¬ (3 : Int32) = 0 := by decide
theorem q31 : ¬ (3 : Int32) = 1 := by decide
theorem q32 : ¬ (3 : Int32) = 2 := by decide
theorem ct_1b {s s1 s2 : ST} (e1 : C_X5_begin s = some s1) (e2 : C_X3_readLaw s1 = some (-1, s2)) : C_X9_text s 1 = some (-1, ups s2 49 1 0) := by
  unfold C_X9_text
  simp only [Lt_n, e1, e2, Bd_some, q10, ↓reduceIte]
theorem ct_1 {s s1 s2 : ST} {r : Int32} (e1 : C_X5_begin s = some s1) (e2 : C_X3_readLaw s1 = some (r, s2)) (hr : ¬ r = -1) : C_X9_text s 1 = some (r, ups s2 49 1 0) := by
  unfold C_X9_text
  simp only [Lt_n, e1, e2, Bd_some, q10, q13, hr, ↓reduceIte]
theorem ct_2b {s s1 s2 : ST} (e1 : C_X5_begin s = some s1) (e2 : C_X3_readWants s1 = some (-1, s2)) : C_X9_text s 2 = some (-1, ups s2 49 1 0) := by
  unfold C_X9_text
  simp only [Lt_n, e1, e2, Bd_some, q20, q21, ↓reduceIte]
theorem ct_2 {s s1 s2 : ST} {r : Int32} (e1 : C_X5_begin s = some s1) (e2 : C_X3_readWants s1 = some (r, s2)) (hr : ¬ r = -1) : C_X9_text s 2 = some (r, ups s2 49 1 0) := by
  unfold C_X9_text
  simp only [Lt_n, e1, e2, Bd_some, q20, q21, q23, hr, ↓reduceIte]
theorem ct_3b {s s1 s2 : ST} (e1 : C_X5_begin s = some s1) (e2 : C_X3_readPlan s1 = some (-1, s2)) : C_X9_text s 3 = some (-1, ups s2 49 1 0) := by
  unfold C_X9_text
  simp only [Lt_n, e1, e2, Bd_some, q30, q31, q32, ↓reduceIte]
theorem ct_3 {s s1 s2 : ST} {r : Int32} (e1 : C_X5_begin s = some s1) (e2 : C_X3_readPlan s1 = some (r, s2)) (hr : ¬ r = -1) : C_X9_text s 3 = some (r, ups (C_X0_forget s2) 49 1 0) := by
  unfold C_X9_text
  simp only [Lt_n, e1, e2, Bd_some, q30, q31, q32, hr, ↓reduceIte]
def m6of (sm : ST) : ST := ups (ups (ups (ups (ups (ups sm 0 0 0) 0 32 0) 0 33 (-1)) 0 13 0) 0 26 0) 0 27 0
theorem mt_out {s : ST} {x : Int32} (h : M_isIn (m6of s) x 0 3 = 0) : M_text s x = some (-1, ups (m6of s) 0 12 0) := by
  unfold m6of at h
  unfold M_text m6of
  simp only [Lt_n, h, ↓reduceIte]
theorem mt_bad {s m : ST} {x : Int32} (h : M_isIn (m6of s) x 0 3 = 1) (e : M_readsText (m6of s) x = some (-1, m)) : M_text s x = some (-1, ups (ups (ups m 0 32 (m.1 0 30)) 0 33 ((ups m 0 32 (m.1 0 30)).1 0 31)) 0 12 0) := by
  unfold m6of at h e
  unfold M_text
  simp only [Lt_n, h, e, Bd_some, i10, ↓reduceIte]
theorem mt_law {s m m2 : ST} {r : Int32} (e : M_readsText (m6of s) 1 = some (r, m)) (hr : ¬ r = -1) (e2 : M_takesLaw (ups m 0 12 0) r = some m2) : M_text s 1 = some (r, m2) := by
  have h : M_isIn (m6of s) 1 0 3 = 1 := rfl
  unfold m6of at h e
  unfold M_text
  simp only [Lt_n, h, e, Bd_some, i10, hr, e2, ↓reduceIte]
theorem mt_oth {s m m2 : ST} {r x : Int32} (h : M_isIn (m6of s) x 0 3 = 1) (hx : ¬ x = 1) (e : M_readsText (m6of s) x = some (r, m)) (hr : ¬ r = -1) (e2 : M_takesOther (ups m 0 12 0) x r = some m2) : M_text s x = some (r, m2) := by
  unfold m6of at h e
  unfold M_text
  simp only [Lt_n, h, e, Bd_some, i10, hx, hr, e2, ↓reduceIte]
theorem mr_0 {s m8 m : ST} {r : Int32} (e : M_reads (ups s 0 25 0) = some m8) (e2 : M_readAllKinds m8 = some (r, m)) : M_readsText s 0 = some (r, m) := by
  unfold M_readsText
  simp only [Lt_n, e, e2, Bd_some, ↓reduceIte]
theorem mr_1 {s m8 m : ST} {r : Int32} (e : M_reads (ups s 0 25 1) = some m8) (e2 : M_readLaw m8 = some (r, m)) : M_readsText s 1 = some (r, m) := by
  unfold M_readsText
  simp only [Lt_n, e, e2, Bd_some, q10, q12, q13, ↓reduceIte]
theorem mr_2 {s m8 m : ST} {r : Int32} (e : M_reads (ups s 0 25 2) = some m8) (e2 : M_readWants m8 = some (r, m)) : M_readsText s 2 = some (r, m) := by
  unfold M_readsText
  simp only [Lt_n, e, e2, Bd_some, q20, ↓reduceIte]
theorem mr_3 {s m8 m : ST} {r : Int32} (e : M_reads (ups s 0 25 3) = some m8) (e2 : M_readPlan m8 = some (r, m)) : M_readsText s 3 = some (r, m) := by
  unfold M_readsText
  simp only [Lt_n, e, e2, Bd_some, q30, q32, ↓reduceIte]
theorem text_bad {W H nk nc nl nw np : Nat} {sc sm s m : ST} (R : R8 W H nk nc nl nw np sc sm) (c : tc sc s) (d : tm sm m) (h : FS s m) : Rel (ups s 49 1 0) (ups (ups (ups m 0 32 (m.1 0 30)) 0 33 ((ups m 0 32 (m.1 0 30)).1 0 31)) 0 12 0) :=
  text_keep R c ((d.u0 (by decide)).u0 (by decide)) (by rw [rd2, if_neg (by decide), if_pos rfl]; exact h.2.2.1) (by rw [rd1, if_pos rfl, rd1, if_neg (by decide)]; exact h.2.2.2)
theorem oth0 {s m2 : ST} {r : Int32} (e : M_takesKinds s = some m2) : M_takesOther s 0 r = some m2 := by
  have q02 : ¬ (0 : Int32) = 2 := by decide
  have q03 : ¬ (0 : Int32) = 3 := by decide
  unfold M_takesOther
  simp only [Lt_n, e, Bd_some, q02, q03, ↓reduceIte]
theorem s_text : Sim_text Rel := by
  rintro sc sm x ⟨W, H, nk, nc, nl, nw, np, R⟩
  obtain ⟨n, hn, hc1, hm12, hb⟩ := R.P.n
  obtain ⟨f, hf⟩ : ∃ f : Nat → Nat, ∀ i, i < n → sc.1 50 i = nI (f i) ∧ sm.1 6 i = nI (f i) ∧ f i < 256 := ⟨fun i => (sm.1 6 i).toNatClampNeg, fun i hi => by
    obtain ⟨e, b, hb2, eb⟩ := hb i hi
    rw [e]
    dsimp only
    rw [eb, nI_clamp (by omega)]
    exact ⟨rfl, rfl, hb2⟩⟩
  have C0 : CTP f n sc := ⟨hc1, hn, fun j hj => (hf j hj).1, fun j hj => (hf j hj).2.2⟩
  obtain ⟨s1, T, Z, e1, ct, a1, _, z6, z7, z8, z9⟩ := c_cut C0
  have tc1 : tc sc s1 := ⟨a1.mono (by decide), fun c hc => by rw [(a1 c (by simp only [List.mem_cons, List.not_mem_nil, or_false] at hc ⊢; omega)).1]⟩
  have rtm : RT f n sm := ⟨hm12, hn, fun j hj => (hf j hj).2.1, fun j hj => (hf j hj).2.2, R.w⟩
  have rt6 : RT f n (m6of sm) := (((((rtm.ups (by decide)).ups (by decide)).ups (by decide)).ups (by decide)).ups (by decide)).ups (by decide)
  have tm6 : tm sm (m6of sm) := ((((((tm.of0 (s := sm) agr.rf (fun _ _ => rfl)).u0 (by decide)).u0 (by decide)).u0 (by decide)).u0 (by decide)).u0 (by decide)).u0 (by decide)
  have v32 : (m6of sm).1 0 32 = 0 := by
    unfold m6of
    rw [rd3, if_neg (by decide), if_neg (by decide), if_neg (by decide), rd2, if_neg (by decide), if_pos rfl]
  have v33 : (m6of sm).1 0 33 = -1 := by
    unfold m6of
    rw [rd3, if_neg (by decide), if_neg (by decide), if_neg (by decide), rd2, if_pos rfl]
  have v13 : (m6of sm).1 0 13 = 0 := by
    unfold m6of
    rw [rd3, if_neg (by decide), if_neg (by decide), if_pos rfl]
  have v26 : (m6of sm).1 0 26 = 0 := by
    unfold m6of
    rw [rd3, if_neg (by decide), if_pos rfl]
  have v27 : (m6of sm).1 0 27 = 0 := by
    unfold m6of
    rw [rd3, if_pos rfl]
  have T0 := (ct.2.2.2.2.2 0 ct.2.1).1.1
  have h401 := ct.2.2.1
  -- the first token
  have first : ∃ m8, M_reads (ups (m6of sm) 0 25 x) = some m8 ∧ SY f n T Z 0 s1 m8 ∧ tm sm m8 ∧ m8.1 0 32 = 0 ∧ m8.1 0 33 = -1 ∧ m8.1 0 25 = x ∧ m8.1 0 26 = 0 ∧ m8.1 0 27 = 0 ∧ ∀ j, j ∉ [0, 12, 13, 14, 15, 16, 25, 26, 27, 29, 30, 31, 32, 33, 38, 39] → m8.1 0 j = sm.1 0 j := by
    have rt7 : RT f n (ups (m6of sm) 0 25 x) := rt6.ups (by decide)
    obtain ⟨m8, er, r8, p13, p14, p15, p16⟩ := m_reads rt7 (by rw [rd1, if_neg (by decide), v13, ct.2.2.2.2.1]; rfl) T0
    have t8 : tm sm m8 := (tm6.u0 (j := 25) (x := x) (by decide)).tr (tm.of0 r8.1 (fun j hj => r8.2 j (by simp only [List.mem_cons, List.not_mem_nil, or_false, not_or] at hj ⊢; omega)))
    exact ⟨m8, er, ⟨ct, rt7.rs r8, ct.2.1, z6, z7, z8, z9, p13, p14, p15, p16⟩, t8, by rw [r8.2 32 (by decide), rd1, if_neg (by decide)]; exact v32, by rw [r8.2 33 (by decide), rd1, if_neg (by decide)]; exact v33, by rw [r8.2 25 (by decide), rd1, if_pos rfl], by rw [r8.2 26 (by decide), rd1, if_neg (by decide)]; exact v26, by rw [r8.2 27 (by decide), rd1, if_neg (by decide)]; exact v27, t8.2.1⟩
  have kz : ∀ c, c ∈ [56, 58, 61, 66, 68] → s1.1 c 0 = sc.1 c 0 := tc1.2
  have wh : ∀ {s m : ST}, s.1 1 = sc.1 1 → m.1 0 6 = sm.1 0 6 → m.1 0 7 = sm.1 0 7 → WH W H s m := fun g1 g2 g3 => by
    unfold WH
    rw [g1, g2, g3]
    exact ⟨R.L.w, R.L.h, R.L.w', R.L.h', R.L.W7, R.L.H7⟩
  by_cases x0 : x = 0
  · subst x0
    obtain ⟨m8, er, hs, t8, u32, u33, u25, u26, u27, u0⟩ := first
    have h : SY f n T Z 0 (ups (ups s1 56 2 0) 58 2 0) (ups (ups m8 0 38 0) 0 39 0) := (((hs.wc (by decide)).wc (by decide)).w0 (by decide)).w0 (by decide)
    have D : DK 0 0 (ups (ups s1 56 2 0) 58 2 0) (ups (ups m8 0 38 0) 0 39 0) := ⟨by decide, by decide, by rw [ups_ne (by decide), rd1, if_neg (by decide), kz 56 (by decide)]; exact R.K.k56, by rw [rd1, if_neg (by decide), ups_ne (by decide), kz 58 (by decide)]; exact R.K.k58, by rw [ups_ne (by decide), rd1, if_pos rfl]; rfl, by rw [rd1, if_pos rfl]; rfl, by rw [rd2, if_neg (by decide), if_pos rfl]; rfl, by rw [rd2, if_pos rfl]; rfl, fun r hr => absurd hr (Nat.not_lt_zero r), fun r hr => absurd hr (Nat.not_lt_zero r)⟩
    have tcb : tc s1 (ups (ups s1 56 2 0) 58 2 0) := ⟨(agr.rf.ups (by decide)).ups (by decide), fun c _ => by rw [ups_z (by decide), ups_z (by decide)]⟩
    have tmb : tm sm (ups (ups m8 0 38 0) 0 39 0) := (t8.u0 (by decide)).u0 (by decide)
    rcases kinds_loop (K := fun s3 => if (s3.1 49 8) = 0 then (Bd (C_X4_copy s3 9 56) fun s4 => Bd (C_X4_copy s4 11 58) fun s5 => some (((s5.1 9 2) + (s5.1 11 2)), s5)) else (some ((-1 : Int32), s3))) h D with ⟨a, b, j, s', m', w1, w2, w3, w4, w5, w6⟩ | ⟨s', m', w1, w2, w3, w5, w6⟩
    · have g8 : s'.1 49 8 = 0 := w3.2.2.2.2.2.1
      have g9 : s'.1 49 9 = -1 := w3.2.2.2.2.2.2.1
      obtain ⟨s2, m2, y1, y2, y3⟩ := text_kinds R ((tc1.tr tcb).tr w5.t) (tmb.tr w6.t) (by rw [g8, w6.2.1 32 (by decide), rd2, if_neg (by decide), if_neg (by decide), u32]) (by rw [g9, w6.2.1 33 (by decide), rd2, if_neg (by decide), if_neg (by decide), u33]) w4
      have ek : C_X3_readKinds s1 = some (nI (a + b), s2) := by
        unfold C_X3_readKinds
        rw [Lt_e, Lt_e]
        exact w1.trans ((if_pos g8).trans y1)
      have em : M_readAllKinds m8 = some (nI (a + b), m') := by
        unfold M_readAllKinds
        rw [Lt_e, Lt_e]
        exact w2
      have hab : ¬ nI (a + b) = (-1 : Int32) := nI_nm1 (by have := w4.1; have := w4.2.1; omega)
      exact ⟨_, _, _, ct_0 e1 ek hab, mt_oth rfl (by decide) (mr_0 er em) hab (oth0 y2), y3⟩
    · have ek : C_X3_readKinds s1 = some (-1, s') := by
        unfold C_X3_readKinds
        rw [Lt_e, Lt_e]
        exact w1.trans (if_neg w3.1)
      have em : M_readAllKinds m8 = some (-1, m') := by
        unfold M_readAllKinds
        rw [Lt_e, Lt_e]
        exact w2
      exact ⟨_, _, _, ct_0b e1 ek, mt_bad rfl (mr_0 er em), text_bad R ((tc1.tr tcb).tr w5.t) (tmb.tr w6.t) w3⟩
  by_cases x1 : x = 1
  · subst x1
    obtain ⟨m8, er, hs, t8, u32, u33, u25, u26, u27, u0⟩ := first
    have h : SY f n T Z 0 (ups (ups s1 61 2 0) 60 2 0) m8 := (hs.wc (by decide)).wc (by decide)
    have D : DL 0 0 (ups (ups s1 61 2 0) 60 2 0) m8 := ⟨by decide, by rw [ups_ne (by decide), rd1, if_neg (by decide), kz 61 (by decide)]; exact R.K.k61, by rw [ups_ne (by decide), rd1, if_pos rfl]; rfl, ⟨by rw [rd1, if_pos rfl]; rfl, by rw [u26]; rfl, fun r hr => absurd hr (Nat.not_lt_zero r)⟩, u27, fun r hr => absurd hr (Nat.not_lt_zero r)⟩
    have tcb : tc s1 (ups (ups s1 61 2 0) 60 2 0) := ⟨(agr.rf.ups (by decide)).ups (by decide), fun c _ => by rw [ups_z (by decide), ups_z (by decide)]⟩
    rcases laws_loop (K := fun s2 => if (s2.1 49 8) = 0 then (Bd (C_X2_copy s2 13 60) fun s3 => some ((s3.1 61 2), s3)) else (some ((-1 : Int32), s2))) h D with ⟨w, k, j, s', m', w1, w2, w3, w4, wk, w5, w6⟩ | ⟨s', m', w1, w2, w3, w5, w6⟩
    · have g8 : s'.1 49 8 = 0 := w3.2.2.2.2.2.1
      have g9 : s'.1 49 9 = -1 := w3.2.2.2.2.2.2.1
      obtain ⟨s2, m2, y1, yr, y2, y3⟩ := text_law R ((tc1.tr tcb).tr w5.t) (t8.tr w6.t) (by rw [g8, w6.2.1 32 (by decide), u32]) (by rw [g9, w6.2.1 33 (by decide), u33]) w4 wk (by rw [w6.2.1 25 (by decide), u25])
      have ek : C_X3_readLaw s1 = some (nI w, s2) := by
        rw [readLaw_c]
        exact w1.trans ((if_pos g8).trans (by rw [y1, Bd_some, yr]))
      have em : M_readLaw m8 = some (nI w, m') := by rw [readLaw_m]; exact w2
      have hab : ¬ nI w = (-1 : Int32) := nI_nm1 (by have := w4.1; omega)
      exact ⟨_, _, _, ct_1 e1 ek hab, mt_law (mr_1 er em) hab y2, y3⟩
    · have ek : C_X3_readLaw s1 = some (-1, s') := by
        rw [readLaw_c]
        exact w1.trans (if_neg w3.1)
      have em : M_readLaw m8 = some (-1, m') := by rw [readLaw_m]; exact w2
      exact ⟨_, _, _, ct_1b e1 ek, mt_bad rfl (mr_1 er em), text_bad R ((tc1.tr tcb).tr w5.t) (t8.tr w6.t) w3⟩
  by_cases x2 : x = 2
  · subst x2
    obtain ⟨m8, er, hs, t8, u32, u33, u25, u26, u27, u0⟩ := first
    have h : SY f n T Z 0 (ups s1 66 2 0) m8 := hs.wc (by decide)
    have D : DWt W H nk 0 (ups s1 66 2 0) m8 := ⟨by decide, by rw [rd1, if_neg (by decide), kz 66 (by decide)]; exact R.K.k66, by rw [rd1, if_pos rfl]; rfl, R.T.k8, by rw [ups_ne (by decide), (a1 9 (by decide)).1]; exact R.T.k, by rw [u0 34 (by decide)]; exact R.T.k', wh (by rw [ups_ne (by decide), (a1 1 (by decide)).1]) (u0 6 (by decide)) (u0 7 (by decide)), fun r hr => absurd hr (Nat.not_lt_zero r)⟩
    have tcb : tc s1 (ups s1 66 2 0) := ⟨agr.rf.ups (by decide), fun c _ => by rw [ups_z (by decide)]⟩
    rcases wants_loop (K := fun s2 => if (s2.1 49 8) = 0 then (Bd (C_X4_copy s2 19 66) fun s3 => some ((s3.1 19 2), s3)) else (some ((-1 : Int32), s2))) h D with ⟨w, j, s', m', w1, w2, w3, w4, w5, w6⟩ | ⟨s', m', w1, w2, w3, w5, w6⟩
    · have g8 : s'.1 49 8 = 0 := w3.2.2.2.2.2.1
      have g9 : s'.1 49 9 = -1 := w3.2.2.2.2.2.2.1
      obtain ⟨s2, m2, y1, yr, y2, y3⟩ := text_wants R ((tc1.tr tcb).tr w5.t) (t8.tr w6.t) (by rw [g8, w6.2.1 32 (by decide), u32]) (by rw [g9, w6.2.1 33 (by decide), u33]) w4
      have ek : C_X3_readWants s1 = some (nI w, s2) := by
        unfold C_X3_readWants
        rw [Lt_e]
        exact w1.trans ((if_pos g8).trans (by rw [y1, Bd_some, yr]))
      have em : M_readWants m8 = some (nI w, m') := by unfold M_readWants; exact w2
      have hab : ¬ nI w = (-1 : Int32) := nI_nm1 (by have := w4.1; omega)
      exact ⟨_, _, _, ct_2 e1 ek hab, mt_oth rfl (by decide) (mr_2 er em) hab y2, y3⟩
    · have ek : C_X3_readWants s1 = some (-1, s') := by
        unfold C_X3_readWants
        rw [Lt_e]
        exact w1.trans (if_neg w3.1)
      have em : M_readWants m8 = some (-1, m') := by unfold M_readWants; exact w2
      exact ⟨_, _, _, ct_2b e1 ek, mt_bad rfl (mr_2 er em), text_bad R ((tc1.tr tcb).tr w5.t) (t8.tr w6.t) w3⟩
  by_cases x3 : x = 3
  · subst x3
    obtain ⟨m8, er, hs, t8, u32, u33, u25, u26, u27, u0⟩ := first
    have h : SY f n T Z 0 (ups s1 68 2 0) m8 := hs.wc (by decide)
    have D : DPl W H nk 0 (ups s1 68 2 0) m8 := ⟨by decide, by rw [rd1, if_neg (by decide), kz 68 (by decide)]; exact R.K.k68, by rw [rd1, if_pos rfl]; rfl, R.T.k8, by rw [ups_ne (by decide), (a1 9 (by decide)).1]; exact R.T.k, by rw [u0 34 (by decide)]; exact R.T.k', wh (by rw [ups_ne (by decide), (a1 1 (by decide)).1]) (u0 6 (by decide)) (u0 7 (by decide)), fun r hr => absurd hr (Nat.not_lt_zero r)⟩
    have tcb : tc s1 (ups s1 68 2 0) := ⟨agr.rf.ups (by decide), fun c _ => by rw [ups_z (by decide)]⟩
    rcases plan_loop (K := fun s2 => if (s2.1 49 8) = 0 then (Bd (C_X4_copy s2 21 68) fun s3 => some ((s3.1 21 2), s3)) else (some ((-1 : Int32), s2))) h D with ⟨w, j, s', m', w1, w2, w3, w4, w5, w6⟩ | ⟨s', m', w1, w2, w3, w5, w6⟩
    · have g8 : s'.1 49 8 = 0 := w3.2.2.2.2.2.1
      have g9 : s'.1 49 9 = -1 := w3.2.2.2.2.2.2.1
      obtain ⟨s2, m2, y1, yr, y2, y3⟩ := text_plan R ((tc1.tr tcb).tr w5.t) (t8.tr w6.t) (by rw [g8, w6.2.1 32 (by decide), u32]) (by rw [g9, w6.2.1 33 (by decide), u33]) w4
      have ek : C_X3_readPlan s1 = some (nI w, s2) := by
        unfold C_X3_readPlan
        rw [Lt_e]
        exact w1.trans ((if_pos g8).trans (by rw [y1, Bd_some, yr]))
      have em : M_readPlan m8 = some (nI w, m') := by unfold M_readPlan; exact w2
      have hab : ¬ nI w = (-1 : Int32) := nI_nm1 (by have := w4.1; omega)
      exact ⟨_, _, _, ct_3 e1 ek hab, mt_oth rfl (by decide) (mr_3 er em) hab y2, y3⟩
    · have ek : C_X3_readPlan s1 = some (-1, s') := by
        unfold C_X3_readPlan
        rw [Lt_e]
        exact w1.trans (if_neg w3.1)
      have em : M_readPlan m8 = some (-1, m') := by unfold M_readPlan; exact w2
      exact ⟨_, _, _, ct_3b e1 ek, mt_bad rfl (mr_3 er em), text_bad R ((tc1.tr tcb).tr w5.t) (t8.tr w6.t) w3⟩
  · -- no sort of text
    have hin : M_isIn (m6of sm) x 0 3 = 0 := by
      rcases in03 (m6of sm) x with a | ⟨w, hw, e, _⟩
      · exact a
      · exfalso
        rcases (by omega : w = 0 ∨ w = 1 ∨ w = 2 ∨ w = 3) with rfl | rfl | rfl | rfl
        · exact x0 e
        · exact x1 e
        · exact x2 e
        · exact x3 e
    exact ⟨_, _, _, ct_out e1 x0 x1 x2 x3, mt_out hin, text_keep R tc1 tm6 (by rw [z8, v32]) (by rw [z9, v33])⟩
