/-! PURE 21: rate; what a call that changes the market owes -/
theorem Rel.mkM {σ τ : Mem} (h : Rel σ) (c : ∀ a i : Int, ¬ (scr a i ∨ (10 ≤ a ∧ a ≤ 29) ∨ a = 121) → τ a i = σ a i) (hM : RelM τ) : Rel τ := by
  obtain ⟨hF, -, hI, hS⟩ := h
  have r : ∀ a : Int, (a = 0 ∨ a = 1 ∨ (30 ≤ a ∧ a ≤ 40) ∨ (80 ≤ a ∧ a ≤ 116) ∨ (a = 122 ∨ (124 ≤ a ∧ a ≤ 129))) → τ a = σ a := fun a q => funext fun i => c a i (by unfold scr; omega)
  have e7 : ∀ i : Int, (i = 6 ∨ i = 7 ∨ i = 8 ∨ i = 9 ∨ i = 11 ∨ i = 12 ∨ i = 13) → τ 72 i = σ 72 i := fun i q => c 72 i (by unfold scr; omega)
  have e12 : ∀ i : Int, (i = 9 ∨ i = 17 ∨ i = 18 ∨ i = 19 ∨ i = 20) → τ 120 i = σ 120 i := fun i q => c 120 i (by unfold scr; omega)
  refine ⟨?_, hM, ?_, ?_⟩
  · unfold RelF
    rw [r 0 (by omega), e7 6 (by omega), e7 7 (by omega), e7 8 (by omega), e7 9 (by omega), e7 11 (by omega), e7 12 (by omega), e7 13 (by omega), e12 9 (by omega), e12 17 (by omega), e12 18 (by omega), e12 19 (by omega), e12 20 (by omega)]
    exact hF
  · unfold RelI CI
    rw [r 0 (by omega), r 122 (by omega), r 30 (by omega)]
    intro q
    obtain ⟨n, m, hO, hC⟩ := hI q
    refine ⟨n, m, hO, hC.1, hC.2.1, hC.2.2.1, fun k hk => ?_, fun j hj => ?_⟩
    · rw [r 31 (by omega), r 32 (by omega), r 33 (by omega)]
      exact hC.2.2.2.1 k hk
    · have hm := hO.1.2.1
      rw [r 34 (by omega), r 35 (by omega), r (36 + 1 + j) (by omega)]
      exact hC.2.2.2.2 j hj
  · intro d hd
    unfold ShR FitR
    rw [r 124 (by omega), r 125 (by omega), r 126 (by omega), r 127 (by omega), r 128 (by omega), r 129 (by omega), r (80 + 2 * d) (by omega), r (100 + 2 * d) (by omega), r (80 + 2 * d + 1) (by omega)]
    exact hS d hd
