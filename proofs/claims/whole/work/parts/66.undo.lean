/-! # stage 2: undo -/
theorem cut_nI {a b : Nat} (h : a ≤ b) (hb : b < 2 ^ 31) : imx (0 : Int32) (imn (nI a) (nI b)) = nI a := by
  have e : imn (nI a) (nI b) = nI a := by
    unfold imn
    rw [if_neg]
    rw [nI_ltI hb (by omega)]
    omega
  rw [e]
  unfold imx
  by_cases q : (0 : Int32) < nI a
  · exact if_pos q
  · rw [if_neg q]
    have : ¬ nI 0 < nI a := q
    rw [nI_ltI (by omega) (by omega)] at this
    have : a = 0 := by omega
    rw [this]
    rfl
theorem m_back {s : ST} {j : Nat} (hj : j < 6) (h3 : s.1 0 3 = nI j) : lpK2 (C := Int32 × ST) (fun (rec1 : Int32 → ST → Option (Int32 × ST)) (a1 : Int32) (s3 : ST) => if (389 : Int32) ≤ a1 then (some ((1 : Int32), s3)) else (Gl s3 2 2334 (((389 : Int32) * (s3.1 0 3)) + a1) fun y1 => Gs s3 1 389 a1 y1 fun s4 => rec1 (a1 + (1 : Int32)) s4)) FU (0 : Int32) s = some (1, upr s 1 (fun k => if 0 ≤ k ∧ k < 0 + 389 then s.1 2 (389 * j + (k - 0)) else s.1 1 k)) := by
  refine cp_loop (s := s) (B := 1) (oB := 0) (N := 389) (v := fun k => s.1 2 (389 * j + k)) (K := fun s1 => some (1, s1)) (by decide) (fun rec i f hi hf => ?_) (fun rec f => ?_)
  · rw [if_neg (show ¬ (389 : Int32) ≤ nI i from nle_t (n := 389) hi (by decide)), upr_ne (by decide), h3, show (389 : Int32) * nI j = nI (389 * j) from nI_mul 389 j, nI_add, Gl_n (by omega) (by decide), Gs_n hi (by decide), nI_1, upr_ne (by decide), Nat.zero_add]
  · rw [if_pos (show (389 : Int32) ≤ nI 389 from le_t (n := 389) (by decide))]
theorem s_undo : Sim_undo Rel := by
  rintro sc sm ⟨W, H, nk, nc, nl, nw, np, R⟩
  have R' := R8_told R
  obtain ⟨CB, hc0⟩ : ∃ q, C_X9_undo sc = q := ⟨_, rfl⟩
  obtain ⟨MB, hm0⟩ : ∃ q, M_undo sm = q := ⟨_, rfl⟩
  rw [hc0, hm0]
  unfold C_X9_undo C_X0_goBack at hc0
  unfold M_undo at hm0
  rw [Lt_e] at hm0
  generalize ups sm 0 0 0 = m at *
  obtain ⟨o, u, ho, hu, g1, g2, g3, g4⟩ := R'.S.h
  obtain ⟨u', f, hu', k1, k2, k3, k4⟩ := R'.hl
  have eu : u' = u := by
    rw [g3] at k1
    exact ((nI_eq (by omega) (by omega)).mp k1).symm
  subst eu
  rw [g2] at hc0
  rw [g3] at hm0
  cases u' with
  | zero =>
    have hz : nI 0 = (0 : Int32) := rfl
    rw [if_pos hz, Bd_some] at hc0
    rw [if_pos hz] at hm0
    exact ⟨0, sc, m, hc0.symm.trans (congrArg some (Prod.ext (by decide : (0 : Int32) &&& 1 = 0) rfl)), hm0.symm, W, H, nk, nc, nl, nw, np, R'⟩
  | succ j =>
    have hn : ¬ nI (j + 1) = (0 : Int32) := by
      intro e
      have : nI (j + 1) = nI 0 := e
      rw [nI_eq (by omega) (by omega)] at this
      omega
    rw [if_neg hn] at hc0 hm0
    have hm : (o + j) % 6 < 6 := Nat.mod_lt _ (by decide)
    obtain ⟨x1, ⟨d, hd, x2⟩, x3⟩ := g4 j (by omega)
    obtain ⟨y1, y2⟩ := k2 j (by omega)
    rw [n_sub1] at hc0 hm0
    rw [Lt_e, m_back (j := j) (by omega) (by rw [rd1, if_pos rfl])] at hm0
    obtain ⟨s2, f1, f2, f3, f4, f5⟩ := copyL (s := ups sc 80 3 (nI j)) (b := 1) (x := 83 + 7 * ((o + j) % 6)) (Or.inl (by omega))
    rw [Lt_e, rd1, if_neg (by decide), g1, rd1, if_pos rfl, nI_add, n_mod6 (by omega), Lt_e, Ga_n hm] at hc0
    unfold C_X4_cut at hc0
    simp only [Lt_n] at hc0
    have f2' : ∀ c, 8 ≤ c ∨ c = 0 → c ≠ 80 → s2.1 c = sc.1 c ∧ s2.2 c = sc.2 c := fun c hc h80 => by
      have a := f2 c (by simp only [List.mem_cons, List.not_mem_nil, or_false]; omega)
      exact ⟨by rw [a.1, ups_ne h80], a.2⟩
    obtain ⟨n, hn150, z1, z2, z3⟩ := R'.B
    have hfn : f (j + 1) = n := by
      rw [z2] at k4
      exact ((nI_eq (by omega) (by omega)).mp k4).symm
    have hjn : f j ≤ n := by omega
    rw [f1, Bd_some, Gl_n hm (by decide), (f2' 82 (by omega) (by decide)).1, x3, y1, (f2' 23 (by omega) (by decide)).1, z1, cut_nI hjn (by omega), Bd_some] at hc0
    have c23 : ∀ i, (ups s2 23 2 (nI (f j))).1 23 i = if i = 2 then nI (f j) else sc.1 23 i := fun i => by rw [rd1, (f2' 23 (by omega) (by decide)).1]
    have cc : ∀ c, c ≠ 23 → (ups s2 23 2 (nI (f j))).1 c = s2.1 c := fun c h => ups_ne h
    have cc2 : (ups s2 23 2 (nI (f j))).2 = s2.2 := rfl
    have c80 : ∀ i, s2.1 80 i = if i = 3 then nI j else sc.1 80 i := fun i => by rw [(f2 80 (by decide)).1, rd1]
    have m1 : ∀ k, k < 389 → (upr (ups m 0 3 (nI j)) 1 (fun k => if 0 ≤ k ∧ k < 0 + 389 then (ups m 0 3 (nI j)).1 2 (389 * j + (k - 0)) else (ups m 0 3 (nI j)).1 1 k)).1 1 k = m.1 2 (389 * j + k) := fun k hk => by
      rw [upr_eq]
      rw [if_pos (by omega), ups_ne (by decide)]
      rfl
    have m0 : ∀ i, (upr (ups m 0 3 (nI j)) 1 (fun k => if 0 ≤ k ∧ k < 0 + 389 then (ups m 0 3 (nI j)).1 2 (389 * j + (k - 0)) else (ups m 0 3 (nI j)).1 1 k)).1 0 i = if i = 3 then nI j else m.1 0 i := fun i => by rw [upr_ne (by decide), rd1]
    have mm : agr [0, 1] m (upr (ups m 0 3 (nI j)) 1 (fun k => if 0 ≤ k ∧ k < 0 + 389 then (ups m 0 3 (nI j)).1 2 (389 * j + (k - 0)) else (ups m 0 3 (nI j)).1 1 k)) := (agr.rf.ups (by decide)).upr (by decide)
    generalize ups s2 23 2 (nI (f j)) = sc' at *
    generalize upr (ups m 0 3 (nI j)) 1 (fun k => if 0 ≤ k ∧ k < 0 + 389 then (ups m 0 3 (nI j)).1 2 (389 * j + (k - 0)) else (ups m 0 3 (nI j)).1 1 k) = sm' at *
    have m03 : sm'.1 0 3 = nI j := by rw [m0, if_pos rfl]
    refine ⟨1, sc', sm', hc0.symm.trans (congrArg some (Prod.ext (by decide : (1 : Int32) &&& 1 = 1) rfl)), hm0.symm, W, H, nk, nc, nl, nw, np, ?_⟩
    have L2 : LD W H nk 1 s2 (upr m 1 (fun k => m.1 2 (389 * j + k))) := copy_LD f3 f4 f5 (LD_agr x1 (fun c hc => ups_ne (by simp only [List.mem_cons, List.not_mem_nil, or_false] at hc; omega)) rfl (fun _ _ => rfl) rfl rfl)
    have L3 : LD W H nk 1 sc' sm' := LD_agr9 L2 (fun i hi => cc _ (by omega)) (by rw [cc2]) (fun i hi => by
      rw [m0, upr_ne (by decide), if_neg]
      rintro rfl
      exact absurd hi (by decide)) (fun i hi => by rw [m1 i hi, upr_eq]) (by rw [(mm 4 (by decide)).1, upr_ne (by decide)])
    have B' : BK 23 sc' sm' := ⟨f j, by omega, by rw [c23, if_pos rfl], by rw [m1 2 (by decide), y1], fun i hi jj hjj => by rw [cc 24 (by decide), (f2' 24 (by omega) (by decide)).1, (mm 5 (by decide)).1]; exact z3 i (by omega) jj hjj⟩
    refine R8_land R' (fun c hc => ⟨by rw [cc c (by omega), (f2' c (by omega) (by omega)).1], by rw [cc2, (f2' c (by omega) (by omega)).2]⟩) (by rw [c23, if_neg (by decide)]) (mm.mono (by decide)) (fun i hi => ?_) L3 B' ⟨d, hd, by rw [m1 0 (by decide)]; exact x2⟩ ?_ ⟨j, f, by omega, m03, fun i hi => ?_, by omega, by rw [m1 2 (by decide), y1]⟩
    · rw [m0, if_neg]
      rintro rfl
      exact hi (by decide)
    · refine ⟨o, j, ho, by omega, by rw [cc 80 (by decide), c80, if_neg (by decide), g1], by rw [cc 80 (by decide), c80, if_pos rfl], m03, fun i hi => ?_⟩
      obtain ⟨w1, ⟨d', hd', w2⟩, w3⟩ := g4 i (by omega)
      have hmi : (o + i) % 6 < 6 := Nat.mod_lt _ (by decide)
      refine ⟨LD_agr9 w1 (fun c hc => by rw [cc _ (by omega), (f2' _ (by omega) (by omega)).1]) (by rw [cc2, (f2' _ (by omega) (by omega)).2]) (fun c hc => ?_) (fun c hc => by rw [upr_eq, upr_eq, (mm 2 (by decide)).1]) (by rw [upr_ne (by decide), upr_ne (by decide), (mm 4 (by decide)).1]), ⟨d', hd', by rw [(mm 2 (by decide)).1]; exact w2⟩, by rw [cc 82 (by decide), (f2' 82 (by omega) (by decide)).1, (mm 2 (by decide)).1]; exact w3⟩
      rw [upr_ne (by decide), upr_ne (by decide), m0, if_neg]
      rintro rfl
      exact absurd hc (by decide)
    · rw [(mm 2 (by decide)).1]
      exact k2 i (by omega)
