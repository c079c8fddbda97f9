/-! PURE 26: change, cost -/
theorem op_change {σ : Mem} (h : Rel σ) {v w x : Int} (hv : s32 v = v) (hw : s32 w = w) (hx : s32 x = x) : Op σ (f_X11_change v w x) (f_X12_change v w x) := by
  have x1 := s32_lo x
  have x2 := s32_hi x
  rw [hx] at x1 x2
  unfold Op f_X11_change f_X12_change
  by_cases q : σ 0 6 = 0
  · refine ⟨-3, σ, σ, ?_, ?_, h⟩
    · rw [q, if_pos s32_0]
    · rw [m_closed h q, ob_some, if_pos s32_0]
  · obtain ⟨e1, n, m, hO, hB, hM, e6, e7⟩ := h.mk2 q
    have hn := hO.1.1
    have hm := hO.1.2.1
    rw [e1, if_neg (by decide), c_sortAt hO.1 hB hv, ob_some, hx]
    by_cases c1 : 0 ≤ v ∧ v < (n : Int)
    · obtain ⟨k, hk, rfl⟩ : ∃ k : Nat, k < n ∧ v = k := ⟨v.toNat, by clear hw hx; omega, by clear hw hx; omega⟩
      have h4 := fin4 hk hn.2
      have qk := hB.1.2.2.2.1 k hk
      have t7 : 0 ≤ 7 + (k : Int) ∧ 7 + (k : Int) < 39 := by clear hv hw hx; omega
      have t11 : 0 ≤ 11 + (k : Int) ∧ 11 + (k : Int) < 39 := by clear hv hw hx; omega
      rw [bi_t c1, if_neg (by decide), c_isBit' hw, ob_some, hv]
      by_cases c2 : w = 0 ∨ w = 1
      · rw [bi_t c2, if_neg (by decide)]
        by_cases c3 : 0 ≤ x ∧ x ≤ 999
        · rw [if_neg (show ¬ x < 0 by clear hv hw hx; omega), if_pos c3.2]
          by_cases c4 : w = 0
          · have hR : Rel (ups (ups σ 12 k (x - 0)) 121 (7 + k) x) := h.one e1 hO hB.1 (Or.inl ⟨k, hk, rfl, rfl, rfl, rfl⟩) (hO.up (Or.inl ⟨k, hk, Or.inl rfl, c3⟩))
            rw [Int.sub_zero] at hR
            have hMu := hM.up (a := 12) (i := k) (v := x) ⟨by decide, by decide⟩
            have e121 : ups σ 12 k x 121 = σ 121 := ups_ne (by decide)
            refine ⟨σ 121 (7 + k), ups σ 12 k x, ups (ups σ 12 k x) 121 (7 + k) x, ?_, ?_, hR⟩
            · rw [hw, if_pos c4, if_pos h4, qk.2.1]
              show (if w = 0 then some (σ 121 (7 + (k : Int)), ups σ 12 k x) else some (σ 121 (7 + (k : Int)), ups σ 13 k x)) = _
              rw [if_pos c4]
            · rw [m_openAt hMu, ob_some, if_neg (by decide), m_sortAt hMu hv, ob_some, bi_t c1, if_neg (by decide), m_bitAt hw, ob_some, bi_t c2, if_neg (by decide), m_isInT (a := x) ⟨x1, x2⟩ (by decide) (by decide), ob_some, bi_t c3, if_neg (by decide), hw, if_pos c4, m_becomes t7, ob_some, e121]
          · have hR : Rel (ups (ups σ 13 k (x - 0)) 121 (11 + k) x) := h.one e1 hO hB.1 (Or.inr (Or.inl ⟨k, hk, rfl, rfl, rfl, rfl⟩)) (hO.up (Or.inl ⟨k, hk, Or.inr rfl, c3⟩))
            rw [Int.sub_zero] at hR
            have hMu := hM.up (a := 13) (i := k) (v := x) ⟨by decide, by decide⟩
            have e121 : ups σ 13 k x 121 = σ 121 := ups_ne (by decide)
            refine ⟨σ 121 (11 + k), ups σ 13 k x, ups (ups σ 13 k x) 121 (11 + k) x, ?_, ?_, hR⟩
            · rw [hw, if_neg c4, if_pos h4, qk.2.2]
              show (if w = 0 then some (σ 121 (11 + (k : Int)), ups σ 12 k x) else some (σ 121 (11 + (k : Int)), ups σ 13 k x)) = _
              rw [if_neg c4]
            · rw [m_openAt hMu, ob_some, if_neg (by decide), m_sortAt hMu hv, ob_some, bi_t c1, if_neg (by decide), m_bitAt hw, ob_some, bi_t c2, if_neg (by decide), m_isInT (a := x) ⟨x1, x2⟩ (by decide) (by decide), ob_some, bi_t c3, if_neg (by decide), hw, if_neg c4, m_becomes t11, ob_some, e121]
        · refine ⟨-1, σ, σ, ?_, ?_, h⟩
          · by_cases c5 : x < 0
            · rw [if_pos c5]
            · rw [if_neg c5, if_neg (by clear hv hw hx; omega)]
          · rw [m_openAt hM, ob_some, if_neg (by decide), m_sortAt hM hv, ob_some, bi_t c1, if_neg (by decide), m_bitAt hw, ob_some, bi_t c2, if_neg (by decide), m_isInT (a := x) ⟨x1, x2⟩ (by decide) (by decide), ob_some, bi_f c3, if_pos s32_0]
      · refine ⟨-1, σ, σ, ?_, ?_, h⟩
        · rw [bi_f c2, if_pos s32_0]
        · rw [m_openAt hM, ob_some, if_neg (by decide), m_sortAt hM hv, ob_some, bi_t c1, if_neg (by decide), m_bitAt hw, ob_some, bi_f c2, if_pos s32_0]
    · refine ⟨-1, σ, σ, ?_, ?_, h⟩
      · rw [bi_f c1, if_pos s32_0]
      · rw [m_openAt hM, ob_some, if_neg (by decide), m_sortAt hM hv, ob_some, bi_f c1, if_pos s32_0]
