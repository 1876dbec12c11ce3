/-! # stage 2: who -/
/-- the gust is a function of what stands there: neither side's scratch matters -/
theorem gust_fn {W H nk nc nl nw np k : Nat} {sc sm : ST} (L : LD W H nk 1 sc sm) (T : TD W H nk nc nl nw np 8 sc sm) (hk : k < 64) (hc : cl W H k) : ∃ G : Int32 → Int32 → Int32, (∀ x s sc', agr [17, 18] sc sc' → ∃ sc'', C_X2_ask sc' 0 1 x (nI k) s = some (G x s, sc'') ∧ agr [17, 18] sc sc'') ∧ ∀ x s sm', agr [0, 20, 21] sm sm' → (∀ i, i ∉ [48, 49] → sm'.1 0 i = sm.1 0 i) → ∃ sm'', M_gustOf sm' x (nI k) s = some (G x s, sm'') ∧ agr [0, 20, 21] sm sm'' ∧ sm''.1 0 = sm'.1 0 := by
  have base : ∀ x s, ∃ v sc' sm', C_X2_ask sc 0 1 x (nI k) s = some (v, sc') ∧ M_gustOf sm x (nI k) s = some (v, sm') := fun x s => by
    obtain ⟨v, c1, m1, g1, g2, _⟩ := gust_sim (b := 1) (Or.inl rfl) L.lw T hk hc x s
    exact ⟨v, c1, m1, g1, g2⟩
  obtain ⟨G, hG⟩ : ∃ G : Int32 → Int32 → Int32, ∀ x s, ∃ sc' sm', C_X2_ask sc 0 1 x (nI k) s = some (G x s, sc') ∧ M_gustOf sm x (nI k) s = some (G x s, sm') := ⟨fun x s => (base x s).choose, fun x s => (base x s).choose_spec⟩
  refine ⟨G, fun x s sc' a => ?_, fun x s sm' a b0 => ?_⟩
  · obtain ⟨_, m0, _, h2⟩ := hG x s
    have L' : LD W H nk 1 sc' sm := LD_agr L (fun c hc => (a c (by simp only [List.mem_cons, List.not_mem_nil, or_false] at hc ⊢; omega)).1) (a 1 (by decide)).2 (fun _ _ => rfl) rfl rfl
    have T' : TD W H nk nc nl nw np 8 sc' sm := TD_agr T (fun c hc => (a c (by simp only [List.mem_cons, List.not_mem_nil, or_false] at hc ⊢; omega)).1) (fun _ _ => rfl) (fun _ _ => rfl)
    obtain ⟨v, c1, m1, g1, g2, a1, _⟩ := gust_sim (b := 1) (Or.inl rfl) L'.lw T' hk hc x s
    have e : v = G x s := congrArg Prod.fst (Option.some.inj (g2.symm.trans h2))
    exact ⟨c1, by rw [g1, e], a.tr a1⟩
  · obtain ⟨c0, _, h1, _⟩ := hG x s
    have L' : LD W H nk 1 sc sm' := LD_agr L (fun _ _ => rfl) rfl (fun i hi => b0 i (by simp only [List.mem_cons, List.not_mem_nil, or_false] at hi ⊢; omega)) (a 1 (by decide)).1 (a 4 (by decide)).1
    have T' : TD W H nk nc nl nw np 8 sc sm' := TD_agr T (fun _ _ => rfl) (fun i hi => b0 i (by simp only [List.mem_cons, List.not_mem_nil, or_false] at hi ⊢; omega)) (fun c hc => (a c (by simp only [List.mem_cons, List.not_mem_nil, or_false] at hc ⊢; omega)).1)
    obtain ⟨v, c1, m1, g1, g2, _, a2, _⟩ := gust_sim (b := 1) (Or.inl rfl) L'.lw T' hk hc x s
    have e : v = G x s := congrArg Prod.fst (Option.some.inj (g1.symm.trans h1))
    exact ⟨m1, by rw [g2, e], a.tr (a2.mono (by decide)), (a2 0 (by decide)).1⟩
theorem fb_ct_none {p : Nat → Bool} : ∀ {t : Nat}, fb_ct p t = 0 → ∀ j, j < t → p j = false
  | 0, _, j, hj => absurd hj (Nat.not_lt_zero j)
  | t + 1, h, j, hj => by
    rw [fb_ct_succ] at h
    have h1 : fb_ct p t = 0 := by omega
    by_cases e : j = t
    · subst e
      cases q : p j with
      | false => rfl
      | true =>
        rw [q, if_pos rfl] at h
        omega
    · exact fb_ct_none h1 j (by omega)
/-- a row of places without a hit adds nothing -/
theorem fb_ct_skip {p : Nat → Bool} {t d : Nat} (h : ∀ j, t ≤ j → j < t + d → p j = false) : fb_ct p (t + d) = fb_ct p t := by
  rw [fb_ct_split, fb_ct_zero (fun k hk => h (t + k) (by omega) (by omega)), Nat.add_zero]
