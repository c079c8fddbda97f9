/-! PURE 26: change, cost -/
theorem op_change {σ : Mem} (h : Rel σ) {v w x : Int} (hv : s32 v = v) (hw : s32 w = w) (hx : s32 x = x) : Op σ (f_X11_change v w x) (f_X12_change v w x) := by
  have x1 := s32_lo x
  have x2 := s32_hi x
  rw [hx] at x1 x2
  unfold Op f_X11_change f_X12_change
  by_cases q : σ 0 6 = 0
  · refine ⟨-3, σ, σ, ?_, ?_, h⟩
    · rw [q, if_pos s32_0]
    · rw [m_closed h q, ob_some, if_pos s32_0]
  · obtain ⟨e1, n, m, hO, hB, hM, e6, e7⟩ := h.mk2 q
    have hn := hO.1.1
    have hm := hO.1.2.1
    rw [e1, if_neg (by decide), c_sortAt hO.1 hB hv, ob_some, hx]
    by_cases c1 : 0 ≤ v ∧ v < (n : Int)
    · obtain ⟨k, hk, rfl⟩ : ∃ k : Nat, k < n ∧ v = k := ⟨v.toNat, by clear hw hx; omega, by clear hw hx; omega⟩
      have h4 := fin4 hk hn.2
      have qk := hB.1.2.2.2.1 k hk
      have t7 : 0 ≤ 7 + (k : Int) ∧ 7 + (k : Int) < 39 := by clear hv hw hx; omega
      have t11 : 0 ≤ 11 + (k : Int) ∧ 11 + (k : Int) < 39 := by clear hv hw hx; omega
      rw [bi_t c1, if_neg (by decide), c_isBit' hw, ob_some, hv]
      by_cases c2 : w = 0 ∨ w = 1
      · rw [bi_t c2, if_neg (by decide)]
        by_cases c3 : 0 ≤ x ∧ x ≤ 999
        · rw [if_neg (show ¬ x < 0 by clear hv hw hx; omega), if_pos c3.2]
          by_cases c4 : w = 0
          · have hR : Rel (ups (ups σ 12 k (x - 0)) 121 (7 + k) x) := h.one e1 hO hB.1 (Or.inl ⟨k, hk, rfl, rfl, rfl, rfl⟩) (hO.up (Or.inl ⟨k, hk, Or.inl rfl, c3⟩))
            rw [Int.sub_zero] at hR
            have hMu := hM.up (a := 12) (i := k) (v := x) ⟨by decide, by decide⟩
            have e121 : ups σ 12 k x 121 = σ 121 := ups_ne (by decide)
            refine ⟨σ 121 (7 + k), ups σ 12 k x, ups (ups σ 12 k x) 121 (7 + k) x, ?_, ?_, hR⟩
            · rw [hw, if_pos c4, if_pos h4, qk.2.1]
              show (if w = 0 then some (σ 121 (7 + (k : Int)), ups σ 12 k x) else some (σ 121 (7 + (k : Int)), ups σ 13 k x)) = _
              rw [if_pos c4]
            · rw [m_openAt hMu, ob_some, if_neg (by decide), m_sortAt hMu hv, ob_some, bi_t c1, if_neg (by decide), m_bitAt hw, ob_some, bi_t c2, if_neg (by decide), m_isInT (a := x) ⟨x1, x2⟩ (by decide) (by decide), ob_some, bi_t c3, if_neg (by decide), hw, if_pos c4, m_becomes t7, ob_some, e121]
          · have hR : Rel (ups (ups σ 13 k (x - 0)) 121 (11 + k) x) := h.one e1 hO hB.1 (Or.inr (Or.inl ⟨k, hk, rfl, rfl, rfl, rfl⟩)) (hO.up (Or.inl ⟨k, hk, Or.inr rfl, c3⟩))
            rw [Int.sub_zero] at hR
            have hMu := hM.up (a := 13) (i := k) (v := x) ⟨by decide, by decide⟩
            have e121 : ups σ 13 k x 121 = σ 121 := ups_ne (by decide)
            refine ⟨σ 121 (11 + k), ups σ 13 k x, ups (ups σ 13 k x) 121 (11 + k) x, ?_, ?_, hR⟩
            · rw [hw, if_neg c4, if_pos h4, qk.2.2]
              show (if w = 0 then some (σ 121 (11 + (k : Int)), ups σ 12 k x) else some (σ 121 (11 + (k : Int)), ups σ 13 k x)) = _
              rw [if_neg c4]
            · rw [m_openAt hMu, ob_some, if_neg (by decide), m_sortAt hMu hv, ob_some, bi_t c1, if_neg (by decide), m_bitAt hw, ob_some, bi_t c2, if_neg (by decide), m_isInT (a := x) ⟨x1, x2⟩ (by decide) (by decide), ob_some, bi_t c3, if_neg (by decide), hw, if_neg c4, m_becomes t11, ob_some, e121]
        · refine ⟨-1, σ, σ, ?_, ?_, h⟩
          · by_cases c5 : x < 0
            · rw [if_pos c5]
            · rw [if_neg c5, if_neg (by clear hv hw hx; omega)]
          · rw [m_openAt hM, ob_some, if_neg (by decide), m_sortAt hM hv, ob_some, bi_t c1, if_neg (by decide), m_bitAt hw, ob_some, bi_t c2, if_neg (by decide), m_isInT (a := x) ⟨x1, x2⟩ (by decide) (by decide), ob_some, bi_f c3, if_pos s32_0]
      · refine ⟨-1, σ, σ, ?_, ?_, h⟩
        · rw [bi_f c2, if_pos s32_0]
        · rw [m_openAt hM, ob_some, if_neg (by decide), m_sortAt hM hv, ob_some, bi_t c1, if_neg (by decide), m_bitAt hw, ob_some, bi_f c2, if_pos s32_0]
    · refine ⟨-1, σ, σ, ?_, ?_, h⟩
      · rw [bi_f c1, if_pos s32_0]
      · rw [m_openAt hM, ob_some, if_neg (by decide), m_sortAt hM hv, ob_some, bi_f c1, if_pos s32_0]
theorem op_cost {σ : Mem} (h : Rel σ) {v w x : Int} (hv : s32 v = v) (hw : s32 w = w) (hx : s32 x = x) : Op σ (f_X11_cost v w x) (f_X12_cost v w x) := by
  have x1 := s32_lo x
  have x2 := s32_hi x
  rw [hx] at x1 x2
  unfold Op f_X11_cost f_X12_cost
  by_cases q : σ 0 6 = 0
  · refine ⟨-3, σ, σ, ?_, ?_, h⟩
    · rw [q, if_pos s32_0]
    · rw [m_closed h q, ob_some, if_pos s32_0]
  · obtain ⟨e1, n, m, hO, hB, hM, e6, e7⟩ := h.mk2 q
    have hn := hO.1.1
    have hm := hO.1.2.1
    have hs0 := hO.1.2.2.1
    rw [e1, if_neg (by decide), c_markAt hO.1 hB hv, ob_some, hx, hw]
    by_cases c1 : 0 ≤ v ∧ v < (m : Int)
    · obtain ⟨j, hj, rfl⟩ : ∃ j : Nat, j < m ∧ v = j := ⟨v.toNat, by clear hw hx; omega, by clear hw hx; omega⟩
      have h4 := fin4 hj hm.2
      have qj := hB.1.2.2.2.2 j hj
      have t15 : 0 ≤ 15 + (j : Int) ∧ 15 + (j : Int) < 39 := by clear hv hw hx; omega
      have un : s32 (n : Int) = n := s32_of (by clear hv hw hx; omega) (by clear hv hw hx; omega)
      rw [bi_t c1, if_neg (by decide)]
      by_cases c2 : w = -1
      · by_cases c3 : 0 ≤ x ∧ x ≤ 99
        · have hR : Rel (ups (ups σ 14 j (x - 0)) 121 (15 + j) x) := h.one e1 hO hB.1 (Or.inr (Or.inr (Or.inl ⟨j, hj, rfl, rfl, rfl, rfl⟩))) (hO.up (Or.inr (Or.inl ⟨j, hj, rfl, c3⟩)))
          rw [Int.sub_zero] at hR
          have hMu := hM.up (a := 14) (i := j) (v := x) ⟨by decide, by decide⟩
          have e121 : ups σ 14 j x 121 = σ 121 := ups_ne (by decide)
          refine ⟨σ 121 (15 + j), ups σ 14 j x, ups (ups σ 14 j x) 121 (15 + j) x, ?_, ?_, hR⟩
          · unfold f_X11_changeUse
            rw [if_pos c3.1, if_pos c2, hx, if_pos c3.2, hv, if_pos h4, qj.1]
            rfl
          · rw [m_openAt hMu, ob_some, if_neg (by decide), m_markAt hMu hv, ob_some, bi_t c1, if_neg (by decide), if_neg (by clear hv hw hx un; omega), e121, hs0, un, if_neg (by clear hv hw hx un; omega), if_neg (by clear hv hw hx un; omega), m_isInT (a := x) ⟨x1, x2⟩ (by decide) (by decide), ob_some, bi_t c3, if_neg (by decide), if_neg (by clear hv hw hx un; omega), m_becomes t15, ob_some, e121]
        · refine ⟨-1, σ, σ, ?_, ?_, h⟩
          · by_cases c5 : 0 ≤ x
            · unfold f_X11_changeUse
              rw [if_pos c5, if_pos c2, hx, if_neg (by clear hv hw hx un; omega), ob_some]
            · rw [if_neg c5]
          · rw [m_openAt hM, ob_some, if_neg (by decide), m_markAt hM hv, ob_some, bi_t c1, if_neg (by decide), if_neg (by clear hv hw hx un; omega), hs0, un, if_neg (by clear hv hw hx un; omega), if_neg (by clear hv hw hx un; omega), m_isInT (a := x) ⟨x1, x2⟩ (by decide) (by decide), ob_some, bi_f c3, if_pos s32_0]
      · by_cases c3 : 0 ≤ w ∧ w < (n : Int)
        · obtain ⟨k, hk, rfl⟩ : ∃ k : Nat, k < n ∧ w = k := ⟨w.toNat, by clear hv hx un hw; omega, by clear hv hx un hw; omega⟩
          have k4 := fin4 hk hn.2
          have t5 : 0 ≤ 19 + 4 * (j : Int) + (k : Int) ∧ 19 + 4 * (j : Int) + (k : Int) < 39 := by clear hv hw hx un; omega
          by_cases c4 : 0 ≤ x ∧ x ≤ 999
          · have hR : Rel (ups (ups σ (17 + j) k (x - 0)) 121 (19 + 4 * j + k) x) := h.one e1 hO hB.1 (Or.inr (Or.inr (Or.inr (Or.inr ⟨j, k, hj, hk, rfl, rfl, rfl, rfl⟩)))) (hO.up (Or.inr (Or.inr (Or.inr ⟨j, k, hj, hk, rfl, c4⟩))))
            rw [Int.sub_zero] at hR
            have hMu := hM.up (a := 17 + j) (i := k) (v := x) ⟨by clear hv hw hx un; omega, by clear hv hw hx un; omega⟩
            have e121 : ups σ (17 + j) k x 121 = σ 121 := ups_ne (by clear hv hw hx un; omega)
            refine ⟨σ 121 (19 + 4 * j + k), ups σ (17 + j) k x, ups (ups σ (17 + j) k x) 121 (19 + 4 * j + k) x, ?_, ?_, hR⟩
            · rw [if_pos c4.1, if_neg c2, c_sortAt hO.1 hB hw, ob_some, bi_t c3, if_neg (by decide), if_pos c4.2, hv, if_pos h4, if_pos k4, hB.1.cost h.1.2.2.2.2.1.2.2 hj hk]
              rfl
            · rw [m_openAt hMu, ob_some, if_neg (by decide), m_markAt hMu hv, ob_some, bi_t c1, if_neg (by decide), if_neg (by clear hv hw hx un; omega), e121, hs0, un, if_neg (by clear hv hw hx un; omega), if_pos c3.1, m_isInT (a := x) ⟨x1, x2⟩ (by decide) (by decide), ob_some, bi_t c4, if_neg (by decide), if_pos c3.1, m_becomes t5, ob_some, e121]
          · refine ⟨-1, σ, σ, ?_, ?_, h⟩
            · by_cases c5 : 0 ≤ x
              · rw [if_pos c5, if_neg c2, c_sortAt hO.1 hB hw, ob_some, bi_t c3, if_neg (by decide), if_neg (by clear hv hw hx un; omega)]
              · rw [if_neg c5]
            · rw [m_openAt hM, ob_some, if_neg (by decide), m_markAt hM hv, ob_some, bi_t c1, if_neg (by decide), if_neg (by clear hv hw hx un; omega), hs0, un, if_neg (by clear hv hw hx un; omega), if_pos c3.1, m_isInT (a := x) ⟨x1, x2⟩ (by decide) (by decide), ob_some, bi_f c4, if_pos s32_0]
        · refine ⟨-1, σ, σ, ?_, ?_, h⟩
          · by_cases c5 : 0 ≤ x
            · rw [if_pos c5, if_neg c2, c_sortAt hO.1 hB hw, ob_some, bi_f c3, if_pos s32_0]
            · rw [if_neg c5]
          · rw [m_openAt hM, ob_some, if_neg (by decide), m_markAt hM hv, ob_some, bi_t c1, if_neg (by decide), hs0, un]
            by_cases c6 : w < -1
            · rw [if_pos c6]
            · rw [if_neg c6, if_pos (by clear hv hw hx un; omega)]
    · refine ⟨-1, σ, σ, ?_, ?_, h⟩
      · rw [bi_f c1, if_pos s32_0]
      · rw [m_openAt hM, ob_some, if_neg (by decide), m_markAt hM hv, ob_some, bi_f c1, if_pos s32_0]
