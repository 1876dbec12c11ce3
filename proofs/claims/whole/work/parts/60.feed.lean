/-! # stage 2: feed, set, land -/
def bt (x : Int32) (i : Nat) : Bool := x.toBitVec.getLsbD i
theorem b_ext {x y : Int32} (h : ∀ i, i < 32 → bt x i = bt y i) : x = y := Int32.toBitVec_inj.mp (BitVec.eq_of_getLsbD_eq (fun i hi => h i hi))
theorem b_and (x y : Int32) (i : Nat) : bt (x &&& y) i = (bt x i && bt y i) := by unfold bt; rw [Int32.toBitVec_and, BitVec.getLsbD_and]
theorem b_big {x : Int32} {i : Nat} (h : 32 ≤ i) : bt x i = false := BitVec.getLsbD_of_ge _ _ h
theorem b_255 (i : Nat) : bt 255 i = decide (i < 8) := by
  rcases Nat.lt_or_ge i 32 with h | h
  · exact (by decide +kernel : ∀ i, i < 32 → bt 255 i = decide (i < 8)) i h
  · rw [b_big h, decide_eq_false (by omega)]
theorem s_l : ∀ n, n < 32 → ((nI n &&& 31).toBitVec.smod 32).toNat = n := by decide +kernel
theorem s_u : ∀ n, n < 32 → (((nI n).toUInt32 &&& Int32.toUInt32 31).toBitVec % 32).toNat = n := by decide +kernel
theorem b_ushr (n : Nat) (hn : n < 32) (x : Int32) (i : Nat) : bt ((x.toUInt32 >>> ((nI n).toUInt32 &&& Int32.toUInt32 31)).toInt32) i = bt x (n + i) := by
  show (x.toUInt32 >>> ((nI n).toUInt32 &&& Int32.toUInt32 31)).toBitVec.getLsbD i = x.toUInt32.toBitVec.getLsbD (n + i)
  rw [UInt32.toBitVec_shiftRight]
  show (x.toUInt32.toBitVec >>> (((nI n).toUInt32 &&& Int32.toUInt32 31).toBitVec % 32).toNat).getLsbD i = _
  rw [s_u n hn, BitVec.getLsbD_ushiftRight]
theorem b_sshr (n : Nat) (hn : n < 32) (x : Int32) {i : Nat} (hi : i < 32) : bt (x >>> (nI n &&& 31)) i = if n + i < 32 then bt x (n + i) else bt x 31 := by
  unfold bt
  rw [Int32.toBitVec_shiftRight]
  show (x.toBitVec.sshiftRight ((nI n &&& 31).toBitVec.smod 32).toNat).getLsbD i = _
  rw [s_l n hn, BitVec.getLsbD_sshiftRight, BitVec.msb_eq_getLsbD_last]
  simp [hi]
theorem byte_eq (x : Int32) (a : Nat) (ha : a ≤ 24) : iush x (nI a) &&& (255 : Int32) = (x >>> (nI a &&& 31)) &&& (255 : Int32) := by
  refine b_ext (fun i hi => ?_)
  rw [b_and, b_and, b_255]
  show (bt ((x.toUInt32 >>> ((nI a).toUInt32 &&& Int32.toUInt32 31)).toInt32) i && _) = _
  rw [b_ushr a (by omega) x i, b_sshr a (by omega) x hi]
  by_cases h : i < 8
  · rw [if_pos (by omega)]
  · simp [h]
theorem byte_lt (x : Int32) : ∃ b, b < 256 ∧ x &&& (255 : Int32) = nI b := by
  refine ⟨(x.toBitVec.toNat) % 256, Nat.mod_lt _ (by decide), ?_⟩
  apply Int32.toBitVec_inj.mp
  rw [Int32.toBitVec_and]
  apply BitVec.eq_of_toNat_eq
  show (x.toBitVec &&& BitVec.ofNat 32 255).toNat = (BitVec.ofNat 32 _).toNat
  rw [BitVec.toNat_and, BitVec.toNat_ofNat, BitVec.toNat_ofNat, show (255 % 2 ^ 32 : Nat) = 2 ^ 8 - 1 from rfl, Nat.and_two_pow_sub_one_eq_mod]
  omega
theorem R8_tape {W H nk nc nl nw np : Nat} {sc sm sc' sm' : ST} (R : R8 W H nk nc nl nw np sc sm) (a : agr [49, 50, 51, 52, 53] sc sc') (b0 : ∀ i, i ∈ [3, 5, 6, 7, 8, 34, 36, 40, 42, 51] → sm'.1 0 i = sm.1 0 i) (b : agr [0, 6] sm sm') (P : TP sc' sm') : R8 W H nk nc nl nw np sc' sm' :=
  ⟨LD_agr R.L (fun c hc => (a c (by simp only [List.mem_cons, List.not_mem_nil, or_false] at hc ⊢; omega)).1) (a 1 (by decide)).2 (fun i hi => b0 i (by simp only [List.mem_cons, List.not_mem_nil, or_false] at hi ⊢; omega)) (b 1 (by decide)).1 (b 4 (by decide)).1, TD_agr R.T (fun c hc => (a c (by simp only [List.mem_cons, List.not_mem_nil, or_false] at hc ⊢; omega)).1) (fun i hi => b0 i (by simp only [List.mem_cons, List.not_mem_nil, or_false] at hi ⊢; omega)) (fun c hc => (b c (by simp only [List.mem_cons, List.not_mem_nil, or_false] at hc ⊢; omega)).1), BK_agr R.B (by rw [(a 23 (by decide)).1]) (a 24 (by decide)).1 (by rw [(b 1 (by decide)).1]) (b 5 (by decide)).1, by rw [(b 1 (by decide)).1]; exact R.d, KS_agr R.K (fun c hc => by rw [(a c (by simp only [List.mem_cons, List.not_mem_nil, or_false] at hc ⊢; omega)).1]), P, HS_agr R.S (a 80 (by decide)).1 (a 82 (by decide)).1 (fun c h1 h2 => a c (by simp only [List.mem_cons, List.not_mem_nil, or_false]; omega)) (b0 3 (by decide)) (fun i hi => b0 i (by simp only [List.mem_cons, List.not_mem_nil, or_false] at hi ⊢; omega)) (b 2 (by decide)).1 (b 4 (by decide)).1, HL_agr R.hl (by rw [(b 1 (by decide)).1]) (b 2 (by decide)).1 (b0 3 (by decide)), IM_agr R.I (by rw [(a 0 (by decide)).1]) (fun c h1 h2 _ _ => a c (by simp only [List.mem_cons, List.not_mem_nil, or_false]; omega)) (b0 51 (by decide)) (b 23 (by decide)).1, by rw [b0 5 (by decide)]; exact R.z, fun i hi => by rw [(b 7 (by decide)).1]; exact R.w i hi⟩
/-- one byte more on both tapes -/
theorem put_byte {n : Nat} {v : Int32} {sc sm : ST} (hn : n < 400) (c1 : sc.1 49 1 = nI n) (m12 : sm.1 0 12 = nI n) (eq : ∀ i, i < n → sc.1 50 i = sm.1 6 i ∧ ∃ b, b < 256 ∧ sm.1 6 i = nI b) (hv : ∃ b, b < 256 ∧ v = nI b) {A B : Type} (f : ST → Option A) (g : ST → Option B) :
    ∃ sc' sm', (Gs sc 50 400 (sc.1 49 1) v fun s2 => f (ups s2 49 1 ((s2.1 49 1) + (1 : Int32)))) = f sc' ∧ (Gs sm 6 400 (sm.1 0 12) v fun s2 => g (ups s2 0 12 ((s2.1 0 12) + (1 : Int32)))) = g sm' ∧ sc'.1 49 1 = nI (n + 1) ∧ sm'.1 0 12 = nI (n + 1) ∧ (∀ i, i < n + 1 → sc'.1 50 i = sm'.1 6 i ∧ ∃ b, b < 256 ∧ sm'.1 6 i = nI b) ∧ agr [49, 50] sc sc' ∧ agr [0, 6] sm sm' ∧ (∀ i, i ≠ 1 → sc'.1 49 i = sc.1 49 i) ∧ ∀ i, i ≠ 12 → sm'.1 0 i = sm.1 0 i := by
  rw [c1, m12, Gs_n hn (by decide), Gs_n hn (by decide)]
  refine ⟨_, _, rfl, rfl, ?_, ?_, fun i hi => ?_, (agr.rf.ups (by decide)).ups (by decide), (agr.rf.ups (by decide)).ups (by decide), fun i hi => ?_, fun i hi => ?_⟩
  · rw [rd1, if_pos rfl, ups_ne (by decide), c1, nI_1]
  · rw [rd1, if_pos rfl, ups_ne (by decide), m12, nI_1]
  · rw [show ∀ y, (ups (ups sc 50 n v) 49 1 y).1 50 = (ups sc 50 n v).1 50 from fun y => ups_ne (by decide), show ∀ y, (ups (ups sm 6 n v) 0 12 y).1 6 = (ups sm 6 n v).1 6 from fun y => ups_ne (by decide), rd1, rd1]
    by_cases q : i = n
    · rw [if_pos q, if_pos q]
      exact ⟨rfl, hv⟩
    · rw [if_neg q, if_neg q]
      exact eq i (by omega)
  · rw [rd1, if_neg hi, ups_ne (by decide)]
  · rw [rd1, if_neg hi, ups_ne (by decide)]
def ak : Nat → Int32
  | 0 => 24 | 1 => 16 | 2 => 8 | 3 => 0 | _ => -8
theorem append_sim {n : Nat} (x : Int32) {sc sm : ST} (hn : n + 4 ≤ 400) (c1 : sc.1 49 1 = nI n) (m12 : sm.1 0 12 = nI n) (eq : ∀ i, i < n → sc.1 50 i = sm.1 6 i ∧ ∃ b, b < 256 ∧ sm.1 6 i = nI b) :
    ∃ sc' sm', C_X5_append sc x = some sc' ∧ M_types sm x = some sm' ∧ sc'.1 49 1 = nI (n + 4) ∧ sm'.1 0 12 = nI (n + 4) ∧ (∀ i, i < n + 4 → sc'.1 50 i = sm'.1 6 i ∧ ∃ b, b < 256 ∧ sm'.1 6 i = nI b) ∧ agr [49, 50] sc sc' ∧ agr [0, 6] sm sm' ∧ (∀ i, i ≠ 1 → sc'.1 49 i = sc.1 49 i) ∧ ∀ i, i ≠ 12 → sm'.1 0 i = sm.1 0 i := by
  have hroom : C_X5_hasRoom sc 4 = 1 := by
    unfold C_X5_hasRoom
    rw [c1, show (4 : Int32) = nI 4 from rfl, nI_add, if_neg]
    rw [show (400 : Int32) = nI 400 from rfl, nI_ltI (by decide) (by omega)]
    omega
  have bl := fun a => byte_lt (x >>> (a &&& 31))
  unfold C_X5_append M_types
  rw [Lt_e, hroom, if_neg (by decide : ¬ (1 : Int32) = 0)]
  have hak : ∀ i, i < 4 → ¬ ak i < 0 ∧ ak i + -8 = ak (i + 1) ∧ iush x (ak i) &&& (255 : Int32) = (x >>> (ak i &&& 31)) &&& (255 : Int32) := by
    intro i hi
    rcases (by omega : i = 0 ∨ i = 1 ∨ i = 2 ∨ i = 3) with rfl | rfl | rfl | rfl
    · exact ⟨by decide, by decide, byte_eq x 24 (by decide)⟩
    · exact ⟨by decide, by decide, byte_eq x 16 (by decide)⟩
    · exact ⟨by decide, by decide, byte_eq x 8 (by decide)⟩
    · exact ⟨by decide, by decide, byte_eq x 0 (by decide)⟩
  refine lk22 (Q := fun oc om => ∃ sc' sm', oc = some sc' ∧ om = some sm' ∧ sc'.1 49 1 = nI (n + 4) ∧ sm'.1 0 12 = nI (n + 4) ∧ (∀ i, i < n + 4 → sc'.1 50 i = sm'.1 6 i ∧ ∃ b, b < 256 ∧ sm'.1 6 i = nI b) ∧ agr [49, 50] sc sc' ∧ agr [0, 6] sm sm' ∧ (∀ i, i ≠ 1 → sc'.1 49 i = sc.1 49 i) ∧ ∀ i, i ≠ 12 → sm'.1 0 i = sm.1 0 i)
    (I := fun m a s1 b s2 => ∃ i, i + m = 4 ∧ a = ak i ∧ b = ak i ∧ s1.1 49 1 = nI (n + i) ∧ s2.1 0 12 = nI (n + i) ∧ (∀ j, j < n + i → s1.1 50 j = s2.1 6 j ∧ ∃ b, b < 256 ∧ s2.1 6 j = nI b) ∧ agr [49, 50] sc s1 ∧ agr [0, 6] sm s2 ∧ (∀ i, i ≠ 1 → s1.1 49 i = sc.1 49 i) ∧ ∀ i, i ≠ 12 → s2.1 0 i = sm.1 0 i) ?_ FU 4 _ _ _ _ (by unfold FU; omega) ⟨0, by omega, rfl, rfl, c1, m12, eq, agr.rf, agr.rf, fun _ _ => rfl, fun _ _ => rfl⟩
  rintro m rf rg a s1 b s2 ⟨i, him, rfl, rfl, u1, u2, u3, u4, u5, u6, u7⟩ ih
  cases m with
  | zero =>
    have hi : i = 4 := by omega
    subst hi
    rw [if_pos (by decide), if_pos (by decide)]
    exact ⟨s1, s2, rfl, rfl, u1, u2, u3, u4, u5, u6, u7⟩
  | succ m =>
    obtain ⟨k1, k2, k3⟩ := hak i (by omega)
    rw [if_neg k1, if_neg k1, k3]
    simp only [Lt_n]
    obtain ⟨p2, q2, g1, g2, v1, v2, v3, v4, v5, v6, v7⟩ := put_byte (by omega) u1 u2 u3 (bl (ak i)) (fun s => rf (ak i + -8) s) (fun s => rg (ak i + -8) s)
    rw [g1, g2]
    exact ih m _ _ _ _ (Nat.lt_succ_self m) ⟨i + 1, by omega, k2, k2, v1, v2, v3, u4.tr v4, u5.tr v5, fun i hi => by rw [v6 i hi, u6 i hi], fun i hi => by rw [v7 i hi, u7 i hi]⟩
theorem s_feed : Sim_feed Rel := by
  rintro sc sm x1 x2 x3 x4 x5 ⟨W, H, nk, nc, nl, nw, np, R⟩
  have R' := R8_told R
  obtain ⟨n, hn, t1, t2, t3⟩ := R'.P.n
  unfold C_X9_feed M_feed
  rw [Lt_e, Lt_e, t2]
  have hroom : C_X5_hasRoom sc 20 = if n ≤ 380 then 1 else 0 := by
    unfold C_X5_hasRoom
    rw [t1, show (20 : Int32) = nI 20 from rfl, nI_add, show (400 : Int32) = nI 400 from rfl, ite_iff (nI_ltI (by decide) (by omega))]
    by_cases h : n ≤ 380
    · rw [if_neg (by omega), if_pos h]
    · rw [if_pos (by omega), if_neg h]
  rw [hroom, show (380 : Int32) = nI 380 from rfl, ite_iff (nI_leI (by omega) (by decide))]
  by_cases h : n ≤ 380
  · rw [if_pos h, if_pos h, if_neg (by decide : ¬ (1 : Int32) = 0)]
    obtain ⟨c1, m1, a1, a2, a3, a4, a5, a6, a7, a8, a9⟩ := append_sim x1 (by omega) t1 t2 t3
    obtain ⟨c2, m2, b1, b2, b3, b4, b5, b6, b7, b8, b9⟩ := append_sim x2 (by omega) a3 a4 a5
    obtain ⟨c3, m3, d1, d2, d3, d4, d5, d6, d7, d8, d9⟩ := append_sim x3 (by omega) b3 b4 b5
    obtain ⟨c4, m4, e1, e2, e3, e4, e5, e6, e7, e8, e9⟩ := append_sim x4 (by omega) d3 d4 d5
    obtain ⟨c5, m5, f1, f2, f3, f4, f5, f6, f7, f8, f9⟩ := append_sim x5 (by omega) e3 e4 e5
    rw [a1, Bd_some, b1, Bd_some, d1, Bd_some, e1, Bd_some, f1, Bd_some, a2, Bd_some, b2, Bd_some, d2, Bd_some, e2, Bd_some, f2, Bd_some, f3, f4]
    have g8 : ∀ i, i ≠ 1 → c5.1 49 i = sc.1 49 i := fun i hi => by rw [f8 i hi, e8 i hi, d8 i hi, b8 i hi, a8 i hi]
    have g9 : ∀ i, i ≠ 12 → m5.1 0 i = (ups sm 0 0 0).1 0 i := fun i hi => by rw [f9 i hi, e9 i hi, d9 i hi, b9 i hi, a9 i hi]
    have g6 : agr [49, 50] sc c5 := (((a6.tr b6).tr d6).tr e6).tr f6
    have g7 : agr [0, 6] (ups sm 0 0 0) m5 := (((a7.tr b7).tr d7).tr e7).tr f7
    exact ⟨_, c5, m5, rfl, rfl, W, H, nk, nc, nl, nw, np, R8_tape R' (g6.mono (by decide)) (fun i hi => g9 i (by simp only [List.mem_cons, List.not_mem_nil, or_false] at hi; omega)) g7 ⟨⟨_, by omega, f3, f4, f5⟩, by rw [g8 8 (by decide), g9 32 (by decide)]; exact R'.P.f, by rw [g8 9 (by decide), g9 33 (by decide)]; exact R'.P.p⟩⟩
  · rw [if_neg h, if_neg h, if_pos (rfl : (0 : Int32) = 0)]
    exact ⟨-1, _, _, rfl, rfl, W, H, nk, nc, nl, nw, np, R'⟩
