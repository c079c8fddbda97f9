/-! PURE 23: mark -/
theorem op_mark {σ : Mem} (h : Rel σ) {v w : Int} (hv : s32 v = v) (hw : s32 w = w) : Op σ (f_X11_mark v w) (f_X12_mark v w) := by
  unfold Op f_X11_mark f_X12_mark
  by_cases q : σ 0 6 = 0
  · refine ⟨-3, σ, σ, ?_, ?_, h⟩
    · rw [q, if_pos s32_0]
    · rw [m_closed h q, ob_some, if_pos s32_0]
  · obtain ⟨e1, n, m, hO, hB, hM, e6, e7⟩ := h.mk2 q
    have hn := hO.1.1
    have hm := hO.1.2.1
    have hs0 := hO.1.2.2.1
    rw [e1, if_neg (by decide), c_markAt hO.1 hB hv, ob_some, hw]
    by_cases c1 : 0 ≤ v ∧ v < (m : Int)
    · obtain ⟨j, hj, rfl⟩ : ∃ j : Nat, j < m ∧ v = j := ⟨v.toNat, by omega, by omega⟩
      have h4 := fin4 hj hm.2
      have qj := hB.1.2.2.2.2 j hj
      have a2 := hO.1.2.2.2.2.2.2 j hj
      have pre : ∀ f : Int → Mem → Option (Int × Mem), (ob (f_X12_isOpen σ) fun r2 σ1 => if (s32 r2) = 0 then (some ((-3), σ1)) else (ob (f_X12_isMark j σ1) fun r6 σ5 => if (s32 r6) = 0 then (some ((-1), σ5)) else f r6 σ5)) = f 1 σ := fun f => by
        rw [m_openAt hM, ob_some, if_neg (by decide), m_markAt hM hv, ob_some, bi_t c1, if_neg (by decide)]
      have t35 : 0 ≤ 35 + (j : Int) ∧ 35 + (j : Int) < 39 := by clear hv hw pre; omega
      have t15 : 0 ≤ 15 + (j : Int) ∧ 15 + (j : Int) < 39 := by clear hv hw pre; omega
      have u35 : s32 (35 + (j : Int)) = 35 + (j : Int) := s32_of (by clear hv hw pre; omega) (by clear hv hw pre; omega)
      have u15 : s32 (15 + (j : Int)) = 15 + (j : Int) := s32_of (by clear hv hw pre u35; omega) (by clear hv hw pre u35; omega)
      rw [bi_t c1, if_neg (by decide), hv]
      by_cases d2 : w = -2
      · subst d2
        refine ⟨if σ 121 (35 + j) = 0 then -4 else σ 121 (35 + j) - 1, σ, σ, ?_, ?_, h⟩
        · unfold f_X4_toldAt
          rw [if_pos rfl, hv, if_pos h4, show (10 : Int) + 5 = 15 from rfl, qj.2.1, s32_of (z := σ 121 (35 + (j : Int)) - 1) (by clear hv hw pre u35 u15; omega) (by clear hv hw pre u35 u15; omega)]
          by_cases e : σ 121 (35 + (j : Int)) = 0
          · rw [if_pos (by clear hv hw pre u35 u15; omega), if_pos e, ob_some]
          · rw [if_neg (by clear hv hw pre u35 u15; omega), if_neg e, ob_some]
        · rw [pre, if_neg (by decide), hs0, s32_of (z := (n : Int)) (by clear hv hw pre u35 u15; omega) (by clear hv hw pre u35 u15; omega), if_pos (by clear hv hw pre u35 u15; omega), if_pos rfl, u35, if_pos t35, s32_of (z := σ 121 (35 + (j : Int))) (by clear hv hw pre u35 u15; omega) (by clear hv hw pre u35 u15; omega)]
          by_cases e : σ 121 (35 + (j : Int)) = 0
          · rw [if_pos e, if_pos e]
          · rw [if_neg e, if_neg e]
      · rw [if_neg d2]
        by_cases d1 : w = -1
        · subst d1
          refine ⟨σ 121 (15 + j), σ, σ, ?_, ?_, h⟩
          · rw [if_pos rfl, if_pos h4, qj.1]
          · rw [pre, if_neg (by decide), hs0, s32_of (z := (n : Int)) (by clear hv hw pre u35 u15; omega) (by clear hv hw pre u35 u15; omega), if_pos (by clear hv hw pre u35 u15; omega), if_neg (by decide), if_pos rfl, u15, if_pos t15]
        · rw [if_neg d1, c_sortAt hO.1 hB hw, ob_some]
          by_cases c3 : 0 ≤ w ∧ w < (n : Int)
          · obtain ⟨k, hk, rfl⟩ : ∃ k : Nat, k < n ∧ w = k := ⟨w.toNat, by clear hv pre u35 u15 hw; omega, by clear hv pre u35 u15 hw; omega⟩
            have k4 := fin4 hk hn.2
            have t5 : 0 ≤ 19 + 4 * (j : Int) + (k : Int) ∧ 19 + 4 * (j : Int) + (k : Int) < 39 := by clear hv hw pre u35 u15; omega
            refine ⟨σ 121 (19 + 4 * j + k), σ, σ, ?_, ?_, h⟩
            · rw [bi_t c3, if_neg (by decide), if_pos h4, if_pos k4, hB.1.cost h.1.2.2.2.2.1.2.2 hj hk]
            · rw [pre, if_neg (by clear hv hw pre u35 u15; omega), hs0, s32_of (z := (n : Int)) (by clear hv hw pre u35 u15; omega) (by clear hv hw pre u35 u15; omega), if_pos c3.2, if_neg d2, if_neg d1, s32_of (z := 19 + 4 * (j : Int) + (k : Int)) (by clear hv hw pre u35 u15; omega) (by clear hv hw pre u35 u15; omega), if_pos t5]
          · refine ⟨-1, σ, σ, ?_, ?_, h⟩
            · rw [bi_f c3, if_pos s32_0]
            · rw [pre, hs0, s32_of (z := (n : Int)) (by clear hv hw pre u35 u15; omega) (by clear hv hw pre u35 u15; omega)]
              by_cases c4 : w < -2
              · rw [if_pos c4]
              · rw [if_neg c4, if_neg (by clear hv hw pre u35 u15; omega)]
    · refine ⟨-1, σ, σ, ?_, ?_, h⟩
      · rw [bi_f c1, if_pos s32_0]
      · rw [m_openAt hM, ob_some, if_neg (by decide), m_markAt hM hv, ob_some, bi_f c1, if_pos s32_0]
