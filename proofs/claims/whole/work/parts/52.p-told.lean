/-! PURE 12: in least terms -/
def eu (x y : Int) : Nat → Int × Int
  | 0 => (x, y)
  | k + 1 => ((eu x y k).2, (eu x y k).1.tmod (eu x y k).2)
theorem eu_in {x y A : Int} (hx : 0 ≤ x ∧ x ≤ A) (hy : 0 ≤ y ∧ y ≤ A) : ∀ k, (0 ≤ (eu x y k).1 ∧ (eu x y k).1 ≤ A) ∧ (0 ≤ (eu x y k).2 ∧ (eu x y k).2 ≤ A)
  | 0 => ⟨hx, hy⟩
  | k + 1 => by
    have h := eu_in hx hy k
    refine ⟨h.2, ?_⟩
    show 0 ≤ (eu x y k).1.tmod (eu x y k).2 ∧ (eu x y k).1.tmod (eu x y k).2 ≤ A
    rw [Int.tmod_eq_emod_of_nonneg h.1.1]
    by_cases e : (eu x y k).2 = 0
    · rw [e, Int.emod_zero]
      exact h.1
    · have h1 := Int.emod_nonneg (eu x y k).1 e
      have h2 := Int.emod_lt_of_pos (eu x y k).1 (b := (eu x y k).2) (by omega)
      omega
theorem mod_half {a b : Int} (h0 : 0 < b) (h1 : b < a) : 2 * (a % b) < a := by
  have h2 := Int.emod_nonneg a (b := b) (by omega)
  have h3 := Int.emod_lt_of_pos a (b := b) h0
  have h4 := Int.emod_add_mul_ediv a b
  have h5 : 1 ≤ a / b := by
    rw [Int.le_ediv_iff_mul_le h0]
    omega
  have h6 : b * 1 ≤ b * (a / b) := Int.mul_le_mul_of_nonneg_left h5 (by omega)
  omega
def p2 : Nat → Int
  | 0 => 1
  | t + 1 => 2 * p2 t
theorem eu_ends {x y A : Int} (hx : 0 ≤ x ∧ x ≤ A) (hy : 0 ≤ y ∧ y ≤ A) : ∀ (t k : Nat), (eu x y k).2 < p2 t → ∃ K, (k ≤ K ∧ K ≤ k + 2 * t) ∧ (eu x y K).2 = 0 ∧ ∀ j, k ≤ j → j < K → (eu x y j).2 ≠ 0
  | 0, k, h => ⟨k, by omega, by have := (eu_in hx hy k).2.1; have h' : (eu x y k).2 < 1 := h; omega, fun j h1 h2 => absurd h2 (by omega)⟩
  | t + 1, k, h => by
    have h0 := eu_in hx hy k
    by_cases e0 : (eu x y k).2 = 0
    · exact ⟨k, by omega, e0, fun j h1 h2 => absurd h2 (by omega)⟩
    by_cases e1 : (eu x y (k + 1)).2 = 0
    · refine ⟨k + 1, by omega, e1, fun j h1 h2 => ?_⟩
      have : j = k := by omega
      rw [this]
      exact e0
    have h1 := eu_in hx hy (k + 1)
    have e3 : (eu x y (k + 1)).2 = (eu x y k).1 % (eu x y k).2 := Int.tmod_eq_emod_of_nonneg h0.1.1
    have e4 : (eu x y (k + 2)).2 = (eu x y k).2 % (eu x y (k + 1)).2 := Int.tmod_eq_emod_of_nonneg h0.2.1
    have h3 := Int.emod_lt_of_pos (eu x y k).1 (b := (eu x y k).2) (by omega)
    rw [← e3] at h3
    have h4 := mod_half (a := (eu x y k).2) (b := (eu x y (k + 1)).2) (by omega) h3
    rw [← e4] at h4
    have h' : (eu x y k).2 < 2 * p2 t := h
    obtain ⟨K, hK, hz, hj⟩ := eu_ends hx hy t (k + 2) (by omega)
    refine ⟨K, by omega, hz, fun j h1 h2 => ?_⟩
    by_cases ea : j = k
    · rw [ea]
      exact e0
    by_cases eb : j = k + 1
    · rw [eb]
      exact e1
    · exact hj j (by omega) h2
/-- the two common divisors -/
theorem two_gcd {x y : Int} (hx : 0 ≤ x ∧ x ≤ 4611686018427387904) (hy : 1 ≤ y ∧ y ≤ 1099511627775) : ∃ r, 1 ≤ r ∧ r ≤ 4611686018427387904 ∧ ∀ σ : Mem, (itr (fun z : Int × Int × Int × Mem => f_X11_commonDivisor_9 z.1 z.2.1 z.2.2.1 z.2.2.2) FU (x, y, 0, σ)) = some (r, σ) ∧ (itr (fun z : Int × Int × Mem => f_X12_common_17 z.1 z.2.1 z.2.2) FU (x, y, σ)) = some (r, σ) := by
  have hy' : 0 ≤ y ∧ y ≤ 4611686018427387904 := by omega
  obtain ⟨K, hK, hz, hj⟩ := eu_ends hx hy' 40 0 (show y < p2 40 by
    have : p2 40 = 1099511627776 := by decide
    omega)
  have hK1 : K ≠ 0 := fun e => by
    rw [e] at hz
    have hz' : y = 0 := hz
    omega
  have hr : (eu x y K).1 ≠ 0 := by
    obtain ⟨k, rfl⟩ : ∃ k, K = k + 1 := ⟨K - 1, by omega⟩
    exact hj k (by omega) (by omega)
  have hi := eu_in hx hy'
  have hiK := hi K
  refine ⟨(eu x y K).1, by omega, hiK.1.2, fun σ => ⟨?_, ?_⟩⟩
  · refine itr_for0 (fun k => ((eu x y k).1, (eu x y k).2, (k : Int), σ)) K _ (by omega) (fun k hk => ?_) ?_
    · have h := hi k
      show f_X11_commonDivisor_9 (eu x y k).1 (eu x y k).2 (k : Int) σ = _
      unfold f_X11_commonDivisor_9
      rw [s32_of (z := (k : Int)) (by omega) (by omega), if_neg (by omega), s64_of (z := (eu x y k).2) (by omega) (by omega), if_neg (hj k (by omega) hk), if_neg (hj k (by omega) hk), s64_of (z := (eu x y k).1) (by omega) (by omega)]
      rfl
    · show f_X11_commonDivisor_9 (eu x y K).1 (eu x y K).2 (K : Int) σ = _
      unfold f_X11_commonDivisor_9
      by_cases e : 100 ≤ s32 (K : Int)
      · rw [if_pos e]
      · rw [if_neg e, hz, if_pos (by decide)]
  · refine itr_for0 (fun k => ((eu x y k).1, (eu x y k).2, σ)) K _ (by omega) (fun k hk => ?_) ?_
    · have h := hi k
      show f_X12_common_17 (eu x y k).1 (eu x y k).2 σ = _
      unfold f_X12_common_17
      rw [s64_of (z := (eu x y k).2) (by omega) (by omega), if_neg (hj k (by omega) hk), if_neg (hj k (by omega) hk), s64_of (z := (eu x y k).1) (by omega) (by omega)]
      rfl
    · show f_X12_common_17 (eu x y K).1 (eu x y K).2 σ = _
      unfold f_X12_common_17
      rw [hz, if_pos (by decide)]
/-- a fraction in least terms: the two agree -/
theorem two_told {x y v : Int} (hx : -4611686018427387904 ≤ x ∧ x ≤ 4611686018427387904) (hy : 1 ≤ y ∧ y ≤ 1099511627775) : ∃ r, ∀ σ τ : Mem, f_X11_inLeastTerms x y v σ = some (r, σ) ∧ f_X12_told x y v τ = some (r, τ) := by
  have hab : ab64 y = y := by
    unfold ab64
    rw [s64_of (z := y) (by omega) (by omega), if_pos (by omega)]
  obtain ⟨z, hz0, hz1, hz2⟩ : ∃ z : Int, (0 ≤ z ∧ z ≤ 4611686018427387904) ∧ ab64 x = z ∧ ((0 ≤ x ∧ z = x) ∨ (x < 0 ∧ z = -x)) := by
    unfold ab64
    rw [s64_of (z := x) (by omega) (by omega)]
    by_cases h0 : 0 < x
    · exact ⟨x, by omega, if_pos h0, Or.inl ⟨by omega, rfl⟩⟩
    · refine ⟨-x, by omega, if_neg h0, ?_⟩
      by_cases h1 : x = 0
      · exact Or.inl ⟨by omega, by omega⟩
      · exact Or.inr ⟨by omega, rfl⟩
  obtain ⟨r, hr1, hr2, hg⟩ := two_gcd hz0 hy
  have hr0 : ¬ r = 0 := by omega
  have e3 : s64 r = r := s64_of (by omega) (by omega)
  refine ⟨if s32 v = 0 then x.tdiv r else y.tdiv r, fun σ τ => ⟨?_, ?_⟩⟩
  · unfold f_X11_inLeastTerms f_X11_commonDivisor
    rw [hab, hz1, (hg σ).1, lb_some]
    show ob (some (r, σ)) _ = _
    rw [ob_some, e3, if_neg hr0]
    by_cases hv : s32 v = 0
    · rw [if_pos hv, if_pos hv, if_neg hr0, s64_of (z := x) (by omega) (by omega)]
    · rw [if_neg hv, if_neg hv, if_neg hr0, s64_of (z := y) (by omega) (by omega)]
  · unfold f_X12_told f_X12_common
    rw [s64_of (z := x) (by omega) (by omega)]
    have e : (if 0 ≤ x then (lb (itr (fun z => f_X12_common_17 z.1 z.2.1 z.2.2) FU (x, y, τ)) (fun q5 => (fun (y7 : Int) (σ8 : Mem) => some (y7, σ8)) q5.1 q5.2)) else (lb (itr (fun z => f_X12_common_17 z.1 z.2.1 z.2.2) FU (-x, y, τ)) (fun q9 => (fun (y11 : Int) (σ12 : Mem) => some (y11, σ12)) q9.1 q9.2))) = some (r, τ) := by
      rcases hz2 with ⟨h0, e0⟩ | ⟨h0, e0⟩
      · rw [if_pos h0, ← e0, (hg τ).2, lb_some]
      · rw [if_neg (by omega), ← e0, (hg τ).2, lb_some]
    rw [e, ob_some, e3]
    by_cases hv : s32 v = 0
    · rw [if_pos hv, if_pos hv, if_neg hr0]
    · rw [if_neg hv, if_neg hv, if_neg hr0, s64_of (z := y) (by omega) (by omega)]
