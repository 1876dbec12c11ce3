/-! # stage 2: the first states -/
theorem first_rel : ∃ sc0, C_X1_begin sc00 1 5 4 = some sc0 ∧ Rel sc0 sm00 := by
  obtain ⟨sc0, b0, b1, b2, b3, b4, b5, b6, b7, b8, b9, b10, b11, b12⟩ := c_begin (sc := sc00) (W := 5) (H := 4)
  have e : ∀ c, c ∉ [1, 2] → sc0.1 c = sc00.1 c := fun c hc => (b12 c hc).1
  have m1 : ∀ k, sm00.1 1 k = 0 := fun k => rfl
  have L : LD 5 4 0 1 sc0 sm00 := by
    refine ⟨b1, by decide +kernel, b2, by decide +kernel, by decide, by decide, by decide, by decide, by decide, b3, ⟨1, by decide, b4, by decide +kernel⟩, ⟨0, by decide, b5, by decide +kernel⟩, b6, b7.trans (by decide +kernel), fun k hk _ => ⟨3, by decide, b8 k hk, by rw [m1]; rfl⟩, fun k hk => by rw [b9, bq_0]; rfl, fun k hk h => ?_, fun k hk h => ?_, fun k hk _ => m1 _, fun k hk h => ?_, fun k hk _ => m1 _⟩
    · rw [b9, bq_0] at h; cases h
    · rw [b10, bq_0] at h; cases h
    · rw [b11, bq_0] at h; cases h
  have z : ∀ c, c ∈ [9, 11, 14, 19, 21, 23] → sc0.1 c 2 = 0 := fun c hc => by
    have h : ∀ c, c ∈ [9, 11, 14, 19, 21, 23] → sc00.1 c 2 = 0 := by decide +kernel
    rw [e c (by simp only [List.mem_cons, List.not_mem_nil, or_false] at hc ⊢; omega)]
    exact h c hc
  have T : TD 5 4 0 0 0 0 0 8 sc0 sm00 := ⟨z 9 (by decide), by decide +kernel, by decide, fun i hi => absurd hi (Nat.not_lt_zero i), z 11 (by decide), by decide +kernel, by decide, fun i hi => absurd hi (Nat.not_lt_zero i), z 14 (by decide), by decide +kernel, by decide, fun i hi => absurd hi (Nat.not_lt_zero i), z 19 (by decide), by decide +kernel, by decide, fun i hi => absurd hi (Nat.not_lt_zero i), z 21 (by decide), by decide +kernel, by decide, fun i hi => absurd hi (Nat.not_lt_zero i)⟩
  have B : BK 23 sc0 sm00 := ⟨0, by decide, z 23 (by decide), m1 2, fun i hi => absurd hi (Nat.not_lt_zero i)⟩
  have m3 : sm00.1 0 3 = 0 := by decide +kernel
  refine ⟨sc0, b0, 5, 4, 0, 0, 0, 0, 0, L, T, B, ⟨0, by decide, m1 0⟩, ?_, ?_, ?_, HL_0 m3 B, ?_, by decide +kernel, fun i hi => ?_⟩
  · have k : KS sc00 := by
      refine ⟨?_, ?_, ?_, ?_, ?_, ?_, ?_, ?_, ?_, ?_, ?_, ?_, ?_, ?_, ?_, ?_, ?_⟩ <;> decide +kernel
    exact KS_agr k (fun c hc => by rw [e c (by simp only [List.mem_cons, List.not_mem_nil, or_false] at hc ⊢; omega)])
  · refine ⟨⟨0, by decide, ?_, by decide +kernel, fun i hi => absurd hi (Nat.not_lt_zero i)⟩, ?_, ?_⟩
    · rw [e 49 (by decide)]; decide +kernel
    · rw [e 49 (by decide)]; decide +kernel
    · rw [e 49 (by decide)]; decide +kernel
  · refine ⟨0, 0, by decide, by decide, ?_, ?_, m3, fun j hj => absurd hj (Nat.not_lt_zero j)⟩
    · rw [e 80 (by decide)]; decide +kernel
    · rw [e 80 (by decide)]; decide +kernel
  · have h51 : sm00.1 0 51 = 0 := by decide +kernel
    refine ⟨?_, Or.inl h51, fun h => ?_⟩
    · rw [e 0 (by decide), h51]; decide +kernel
    · rw [h51] at h
      exact absurd h (by decide)
  · have h : ∀ i, i < 150 → sm00.1 7 i = wdL.getD i 0 := by decide +kernel
    exact h i hi
