/-! # stage 2: a day, mode t -/
def Dt (W H nk : Nat) (dy : Int32) (sc0 sm0 sc sm : ST) : Prop := LD W H nk 72 sc sm ∧ agr [17, 18, 72, 73, 74, 75, 76, 77, 78] sc0 sc ∧ agr [1, 20, 21] sm0 sm ∧ NBt sc sm ∧ sm.1 1 0 = dy
theorem Dt_5 {W H nk : Nat} {dy : Int32} {sc0 sm0 sc sm : ST} (D : Dt W H nk dy sc0 sm0 sc sm) (h5 : sm0.1 0 5 = 1) : sm.1 0 5 = 1 := by rw [(D.2.2.1 0 (by decide)).1]; exact h5
theorem Dt_T {W H nk nc nl nw np : Nat} {dy : Int32} {sc0 sm0 sc sm : ST} (D : Dt W H nk dy sc0 sm0 sc sm) (T : TD W H nk nc nl nw np 8 sc0 sm0) : TD W H nk nc nl nw np 8 sc sm := TD_8 T D.2.1 D.2.2.1 (by decide) (by decide)
theorem Dt_ag {W H nk : Nat} {dy : Int32} {sc0 sm0 sc sm sc' sm' : ST} (D : Dt W H nk dy sc0 sm0 sc sm) (a : agr [17, 18] sc sc') (b : agr [20, 21] sm sm') : Dt W H nk dy sc0 sm0 sc' sm' :=
  ⟨LD_b D.1 a b (by decide) (by decide), D.2.1.tr (a.mono (by decide)), D.2.2.1.tr (b.mono (by decide)), NBt_agr D.2.2.2.1 (a 23 (by decide)).1 (a 24 (by decide)).1 (by rw [(b 1 (by decide)).1]) (b 5 (by decide)).1 (b 2 (by decide)).1 (b 0 (by decide)).1, by rw [(b 1 (by decide)).1]; exact D.2.2.2.2⟩
theorem noted_t {sc sm : ST} (B : NBt sc sm) (hd : sc.1 72 2 = sm.1 1 0) (h5 : sm.1 0 5 = 1) (w c n : Int32) : ∃ sc' sm', C_X8_note_t sc w c n = sc' ∧ M_notes sm w c n = some sm' ∧ NBt sc' sm' ∧ agr [] sc sc' ∧ agr [] sm sm' ∧ ∀ i, i ≠ 2 → sm'.1 1 i = sm.1 1 i := by
  exact ⟨sc, sm, rfl, m_notes_t h5 w c n, trivial, agr.rf, agr.rf, fun _ _ => rfl⟩
/-- a seed laid, and told -/
theorem lay_t {W H nk k n : Nat} {dy : Int32} {sc0 sm0 sc sm : ST} (D : Dt W H nk dy sc0 sm0 sc sm) (h5 : sm0.1 0 5 = 1) (hk : k < 64) (hc : cl W H k) (hn : n < nk) (w : Int32) : ∃ sc1 sc' sm', C_X1_laySeed sc 72 (nI n) (nI k) = some sc1 ∧ C_X8_note_t sc1 w (nI k) (nI n) = sc' ∧ M_falls sm (nI n) (nI k) w = some sm' ∧ Dt W H nk dy sc0 sm0 sc' sm' := by
  have L := D.1
  have q5 := Dt_5 D h5
  have e1 := c_lay (x := nI n) L.w L.h L.W7 L.H7 hk hc
  have E1 : ∀ c, c ∉ [72, 74, 75] → (ups (ups (upl sc 72 8 (sc.2 72 8 ||| bit1 k)) (72 + 2) k (nI n)) (72 + 3) k (sc.1 72 2)).1 c = sc.1 c := fun c hc => by
    simp only [List.mem_cons, List.not_mem_nil, or_false, not_or] at hc
    rw [ups_ne hc.2.2, ups_ne hc.2.1, upl_1]
  obtain ⟨sc', sm', n1, n2, n3, n4, n5, n6⟩ := noted_t (sc := ups (ups (upl sc 72 8 (sc.2 72 8 ||| bit1 k)) (72 + 2) k (nI n)) (72 + 3) k (sc.1 72 2)) (sm := ups (ups sm 1 (69 + k) (nI (n + 1))) 1 (133 + k) (sm.1 1 0)) (NBt_agr D.2.2.2.1 (E1 23 (by decide)) (E1 24 (by decide)) (by rw [rd2, if_neg (by omega), if_neg (by omega)]) rfl rfl rfl) (by
      rw [ups_ne (by decide), ups_ne (by decide), upl_1, L.day, rd2, if_neg (by omega), if_neg (by omega)]) q5 w (nI k) (nI n)
  refine ⟨_, sc', sm', e1, n1, ?_, ?_, ?_, ?_, n3, by rw [n6 0 (by decide), rd2, if_neg (by omega), if_neg (by omega)]; exact D.2.2.2.2⟩
  · unfold M_falls
    rw [show (69 : Int32) = nI 69 from rfl, show (133 : Int32) = nI 133 from rfl, nI_add, nI_add, Gs_n (by omega) (by decide), Lt_e, nI_1, Gs_n (by omega) (by decide)]
    have : (ups sm 1 (69 + k) (nI (n + 1))).1 1 0 = sm.1 1 0 := by rw [rd1, if_neg (by omega)]
    rw [this, n2, Bd_some]
  · have F : ∀ c, c ∉ [] → sc'.1 c = (ups (ups (upl sc 72 8 (sc.2 72 8 ||| bit1 k)) (72 + 2) k (nI n)) (72 + 3) k (sc.1 72 2)).1 c := fun c h => (n4 c h).1
    have F2 : sc'.2 72 = (upl sc 72 8 (sc.2 72 8 ||| bit1 k)).2 72 := (n4 72 (by decide)).2
    have P := sd_set (sc' := sc') (sm' := sm') L hk hc hn (by rw [F2]; simp [upl_at]) (by
        rw [F _ (by decide), ups_ne (by decide), ups_eq]
        rfl) (by
        rw [F _ (by decide), ups_eq, ups_ne (by decide)]
        rfl) (fun j hj => by
        rw [n6 _ (by omega), rd2, if_neg (by omega), ite_iff (by omega : 69 + j = 69 + k ↔ j = k)]) (fun j hj => by
        rw [n6 _ (by omega), rd2, ite_iff (by omega : 133 + j = 133 + k ↔ j = k), if_neg (by omega : ¬ 133 + j = 69 + k)])
    exact LD_sdchg L (by rw [F _ (by decide), ups_ne (by decide), ups_ne (by decide)]; rfl) (fun i hi => by rw [F2]; simp [upl_at, hi]) (by rw [F _ (by decide), ups_ne (by decide), ups_ne (by decide)]; rfl) (by rw [F _ (by decide), ups_ne (by decide), ups_ne (by decide)]; rfl) (by rw [F _ (by decide), ups_ne (by decide), ups_ne (by decide)]; rfl) (by rw [F _ (by decide), ups_ne (by decide), ups_ne (by decide)]; rfl) ((n5 0 (by decide)).1) ((n5 4 (by decide)).1) (fun i h2 hi => by
        rw [n6 i h2, rd2, if_neg (by omega), if_neg (by omega)]) P.1 P.2
  · exact (((D.2.1.upl (by decide)).ups (by decide)).ups (by decide)).tr (n4.mono (by decide))
  · exact ((D.2.2.1.ups (by decide)).ups (by decide)).tr (n5.mono (by decide))
/-- both lift the seed at k, whatever was asked and told between -/
theorem lift_t {W H nk k : Nat} {dy : Int32} {sc0 sm0 sc sm sc' sm' : ST} (D : Dt W H nk dy sc0 sm0 sc sm) (hk : k < 64) (a : agr [17, 18] (upl sc 72 8 (sc.2 72 8 &&& (bit1 k ^^^ (-1 : Int64)))) sc') (b : agr [1, 20, 21] sm sm') (b1 : ∀ i, i ≠ 2 → sm'.1 1 i = if i = 69 + k then 0 else sm.1 1 i) (nb : NBt sc' sm') : Dt W H nk dy sc0 sm0 sc' sm' := by
  have L := D.1
  have F : ∀ c, c ∉ [17, 18] → sc'.1 c = sc.1 c := fun c h => (a c h).1
  have F2 : sc'.2 72 = (upl sc 72 8 (sc.2 72 8 &&& (bit1 k ^^^ (-1 : Int64)))).2 72 := (a 72 (by decide)).2
  have P := sd_clr (sc' := sc') (sm' := sm') L hk (by rw [F2]; simp [upl_at]) (F _ (by decide)) (F _ (by decide)) (fun j hj => by
      rw [b1 _ (by omega)]
      by_cases q : j = k
      · rw [if_pos (by omega), if_pos q]
      · rw [if_neg (by omega), if_neg q]) (fun j hj => by rw [b1 _ (by omega), if_neg (by omega)])
  refine ⟨LD_sdchg L (F _ (by decide)) (fun i hi => by rw [F2]; simp [upl_at, hi]) (F _ (by decide)) (F _ (by decide)) (F _ (by decide)) (F _ (by decide)) (b 0 (by decide)).1 (b 4 (by decide)).1 (fun i h2 hi => by rw [b1 i h2, if_neg (by omega)]) P.1 P.2, (D.2.1.upl (c := 72) (by decide)).tr (a.mono (by decide)), D.2.2.1.tr (b.mono (by decide)), nb, by rw [b1 0 (by decide), if_neg (by omega)]; exact D.2.2.2.2⟩
/-- a storm raised, and told -/
theorem raise_t {W H nk k n g : Nat} {e : Int32} {dy : Int32} {sc0 sm0 sc sm : ST} (D : Dt W H nk dy sc0 sm0 sc sm) (h5 : sm0.1 0 5 = 1) (hk : k < 64) (hc : cl W H k) (hn : n < nk) (hg1 : 1 ≤ g) (hg9 : g ≤ 9) (he : M_ofKind sm (nI n) 1 = some e) (hfr : ∀ s : ST, s.1 16 = sm.1 16 → M_ofKind s (nI n) 1 = some e) (w : Int32) : ∃ sc1 sc' sm', C_X1_raiseStorm sc 72 (nI n) (nI k) (nI g) ((sc.1 72 2 + e) - 1) = some sc1 ∧ C_X8_note_t sc1 2 (nI k) (nI n) = sc' ∧ M_storms sm (nI k) (nI n) (nI g) = some sm' ∧ Dt W H nk dy sc0 sm0 sc' sm' := by
  have L := D.1
  have q5 := Dt_5 D h5
  have e1 := c_raise (x := nI n) (g := nI g) (e := (sc.1 72 2 + e) - 1) L.w L.h L.W7 L.H7 hk hc
  generalize hs1 : ups (ups (ups (upl sc 72 9 (sc.2 72 9 ||| bit1 k)) (72 + 4) k (nI n)) (72 + 5) k (nI g)) (72 + 6) k ((sc.1 72 2 + e) - 1) = sc1 at e1
  have E1 : ∀ c, c ∉ [76, 77, 78] → sc1.1 c = sc.1 c := fun c hc => by
    simp only [List.mem_cons, List.not_mem_nil, or_false, not_or] at hc
    rw [← hs1, ups_ne hc.2.2, ups_ne hc.2.1, ups_ne hc.1, upl_1]
  have E2 : sc1.2 72 = (upl sc 72 9 (sc.2 72 9 ||| bit1 k)).2 72 := by rw [← hs1]; rfl
  obtain ⟨sc', sm', n1, n2, n3, n4, n5, n6⟩ := noted_t (sc := sc1) (sm := ups (ups (ups sm 1 (197 + k) (nI (n + 1))) 1 (261 + k) (nI g)) 1 (325 + k) ((sm.1 1 0 + e) - 1)) (NBt_agr D.2.2.2.1 (E1 23 (by decide)) (E1 24 (by decide)) (by rw [rd3, if_neg (by omega), if_neg (by omega), if_neg (by omega)]) rfl rfl rfl) (by
      rw [E1 _ (by decide), L.day, rd3, if_neg (by omega), if_neg (by omega), if_neg (by omega)]) q5 2 (nI k) (nI n)
  refine ⟨_, sc', sm', e1, n1, ?_, ?_, ?_, ?_, n3, by rw [n6 0 (by decide), rd3, if_neg (by omega), if_neg (by omega), if_neg (by omega)]; exact D.2.2.2.2⟩
  · unfold M_storms
    rw [show (197 : Int32) = nI 197 from rfl, show (261 : Int32) = nI 261 from rfl, show (325 : Int32) = nI 325 from rfl, nI_add, nI_add, nI_add, nI_1, Gs_n (by omega) (by decide), Gs_n (by omega) (by decide), Lt_e, hfr _ (by simp [ups_ne]), Bd_some, Gs_n (by omega) (by decide)]
    have : (ups (ups sm 1 (197 + k) (nI (n + 1))) 1 (261 + k) (nI g)).1 1 0 = sm.1 1 0 := by
      rw [rd2, if_neg (by omega), if_neg (by omega)]
    rw [this, n2, Bd_some]
  · have F : ∀ c, c ∉ [] → sc'.1 c = sc1.1 c := fun c h => (n4 c h).1
    have F2 : sc'.2 72 = (upl sc 72 9 (sc.2 72 9 ||| bit1 k)).2 72 := (n4 72 (by decide)).2.trans E2
    have P := st_set (sc' := sc') (sm' := sm') (e := (sm.1 1 0 + e) - 1) L hk hc hn hg1 hg9 (by rw [F2]; simp [upl_at]) (by
        rw [F _ (by decide), ← hs1, ups_ne (by decide), ups_ne (by decide), ups_eq]
        rfl) (by
        rw [F _ (by decide), ← hs1, ups_ne (by decide), ups_eq, ups_ne (by decide)]
        rfl) (by
        rw [F _ (by decide), ← hs1, ups_eq, ups_ne (by decide), ups_ne (by decide), L.day]
        rfl) (fun j hj => by
        rw [n6 _ (by omega), rd3, if_neg (by omega), if_neg (by omega), ite_iff (by omega : 197 + j = 197 + k ↔ j = k)]) (fun j hj => by
        rw [n6 _ (by omega), rd3, if_neg (by omega), ite_iff (by omega : 261 + j = 261 + k ↔ j = k), if_neg (by omega : ¬ 261 + j = 197 + k)]) (fun j hj => by
        rw [n6 _ (by omega), rd3, ite_iff (by omega : 325 + j = 325 + k ↔ j = k), if_neg (by omega : ¬ 325 + j = 261 + k), if_neg (by omega : ¬ 325 + j = 197 + k)])
    exact LD_stchg L (by rw [F _ (by decide), E1 _ (by decide)]) (fun i hi => by rw [F2]; simp [upl_at, hi]) (by rw [F _ (by decide), E1 _ (by decide)]) (by rw [F _ (by decide), E1 _ (by decide)]) (by rw [F _ (by decide), E1 _ (by decide)]) ((n5 0 (by decide)).1) ((n5 4 (by decide)).1) (fun i h2 hi => by
        rw [n6 i h2, rd3, if_neg (by omega), if_neg (by omega), if_neg (by omega)]) P.1 P.2
  · refine D.2.1.tr ((?_ : agr [17, 18, 72, 73, 74, 75, 76, 77, 78] sc sc1).tr (n4.mono (by decide)))
    rw [← hs1]
    exact (((agr.rf.upl (by decide)).ups (by decide)).ups (by decide)).ups (by decide)
  · exact (((D.2.2.1.ups (by decide)).ups (by decide)).ups (by decide)).tr (n5.mono (by decide))
/-- a storm gone, and told -/
theorem end_t {W H nk k : Nat} {dy : Int32} {sc0 sm0 sc sm : ST} (D : Dt W H nk dy sc0 sm0 sc sm) (h5 : sm0.1 0 5 = 1) (hk : k < 64) (x : Int32) : ∃ sc' sm1, C_X8_note_t (C_X1_endStorm sc 72 (nI k)) 4 (nI k) x = sc' ∧ M_notes sm 4 (nI k) x = some sm1 ∧ Dt W H nk dy sc0 sm0 sc' (ups (ups sm1 1 (197 + k) 0) 1 (261 + k) 0) ∧ sc'.1 76 = sc.1 76 := by
  have L := D.1
  have q5 := Dt_5 D h5
  have e1 : C_X1_endStorm sc 72 (nI k) = upl sc 72 9 (sc.2 72 9 &&& (bit1 k ^^^ (-1 : Int64))) := rfl
  rw [e1]
  obtain ⟨sc', sm', n1, n2, n3, n4, n5, n6⟩ := noted_t (sc := upl sc 72 9 (sc.2 72 9 &&& (bit1 k ^^^ (-1 : Int64)))) (sm := sm) (NBt_agr D.2.2.2.1 rfl rfl rfl rfl rfl rfl) L.day q5 4 (nI k) x
  have F : ∀ c, c ∉ [] → sc'.1 c = sc.1 c := fun c h => (n4 c h).1
  have F2 : sc'.2 72 = (upl sc 72 9 (sc.2 72 9 &&& (bit1 k ^^^ (-1 : Int64)))).2 72 := (n4 72 (by decide)).2
  refine ⟨sc', sm', n1, n2, ⟨?_, ?_, ?_, ?_, by rw [rd2, if_neg (by omega), if_neg (by omega), n6 0 (by decide)]; exact D.2.2.2.2⟩, F _ (by decide)⟩
  · have P := st_clr (sc' := sc') (sm' := ups (ups sm' 1 (197 + k) 0) 1 (261 + k) 0) L hk (by rw [F2]; simp [upl_at]) (F _ (by decide)) (F _ (by decide)) (F _ (by decide)) (fun j hj => by
        rw [rd2, if_neg (by omega), ite_iff (by omega : 197 + j = 197 + k ↔ j = k), n6 _ (by omega)]) (fun j hj => by
        rw [rd2, ite_iff (by omega : 261 + j = 261 + k ↔ j = k), if_neg (by omega : ¬ 261 + j = 197 + k), n6 _ (by omega)]) (fun j hj => by
        rw [rd2, if_neg (by omega), if_neg (by omega), n6 _ (by omega)])
    exact LD_stchg L (F _ (by decide)) (fun i hi => by rw [F2]; simp [upl_at, hi]) (F _ (by decide)) (F _ (by decide)) (F _ (by decide)) ((n5 0 (by decide)).1) ((n5 4 (by decide)).1) (fun i h2 hi => by
        rw [rd2, if_neg (by omega), if_neg (by omega), n6 i h2]) P.1 P.2
  · exact (D.2.1.upl (c := 72) (by decide)).tr (n4.mono (by decide))
  · exact ((D.2.2.1.tr (n5.mono (by decide))).ups (by decide)).ups (by decide)
  · exact NBt_agr n3 rfl rfl (by rw [rd2, if_neg (by omega), if_neg (by omega)]) rfl rfl rfl

