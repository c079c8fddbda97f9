/-! PURE 22: sort -/
theorem op_sort {σ : Mem} (h : Rel σ) {v w : Int} (hv : s32 v = v) (hw : s32 w = w) : Op σ (f_X11_sort v w) (f_X12_sort v w) := by
  unfold Op f_X11_sort f_X12_sort
  have w1 := s32_lo w
  have w2 := s32_hi w
  rw [hw] at w1 w2
  by_cases q : σ 0 6 = 0
  · refine ⟨-3, σ, σ, ?_, ?_, h⟩
    · rw [q, if_pos s32_0]
    · rw [m_closed h q, ob_some, if_pos s32_0]
  · obtain ⟨e1, n, m, hO, hB, hM, e6, e7⟩ := h.mk2 q
    have hn := hO.1.1
    rw [e1, if_neg (by decide), c_sortAt hO.1 hB hv, ob_some, hw]
    by_cases c1 : 0 ≤ v ∧ v < (n : Int)
    · obtain ⟨k, hk, rfl⟩ : ∃ k : Nat, k < n ∧ v = k := ⟨v.toNat, by omega, by omega⟩
      have h4 := fin4 hk hn.2
      have qk := hB.1.2.2.2.1 k hk
      rw [bi_t c1, if_neg (by decide), hv]
      by_cases c2 : 0 ≤ w ∧ w ≤ 2
      · have hc : w = 0 ∨ w = 1 ∨ w = 2 := by omega
        have t : 0 ≤ 3 + 4 * w + (k : Int) ∧ 3 + 4 * w + (k : Int) < 39 := by omega
        refine ⟨σ 121 (3 + 4 * w + k), σ, σ, ?_, ?_, h⟩
        · rcases hc with rfl | rfl | rfl
          · rw [if_pos rfl, if_pos h4, qk.1]
            rfl
          · rw [if_neg (by decide), if_pos rfl, if_pos h4, qk.2.1]
            rfl
          · rw [if_neg (by decide), if_neg (by decide), if_pos rfl, if_pos h4, qk.2.2]
            rfl
        · rw [m_openAt hM, ob_some, if_neg (by decide), m_sortAt hM hv, ob_some, bi_t c1, if_neg (by decide), m_isInT (a := w) (by omega) (by omega) (by omega), ob_some, bi_t c2, if_neg (by decide), s32_of (z := 3 + 4 * w + (k : Int)) (by clear hv; omega) (by clear hv; omega), if_pos t]
      · refine ⟨-1, σ, σ, ?_, ?_, h⟩
        · rw [if_neg (by omega), if_neg (by omega), if_neg (by omega)]
        · rw [m_openAt hM, ob_some, if_neg (by decide), m_sortAt hM hv, ob_some, bi_t c1, if_neg (by decide), m_isInT (a := w) (by omega) (by omega) (by omega), ob_some, bi_f c2, if_pos s32_0]
    · refine ⟨-1, σ, σ, ?_, ?_, h⟩
      · rw [bi_f c1, if_pos s32_0]
      · rw [m_openAt hM, ob_some, if_neg (by decide), m_sortAt hM hv, ob_some, bi_f c1, if_pos s32_0]
