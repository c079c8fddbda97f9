/-! PURE 25: think -/
theorem Okx.up {n m : Nat} {s : Int → Int} (h : Okx n m s) {p v : Int} (hp : (∃ k : Nat, k < n ∧ (p = 7 + k ∨ p = 11 + k) ∧ 0 ≤ v ∧ v ≤ 999) ∨ (∃ j : Nat, j < m ∧ p = 15 + j ∧ 0 ≤ v ∧ v ≤ 99) ∨ (∃ j : Nat, j < m ∧ p = 35 + j ∧ 0 ≤ v ∧ v ≤ n) ∨ (∃ j k : Nat, j < m ∧ k < n ∧ p = 19 + 4 * j + k ∧ 0 ≤ v ∧ v ≤ 999)) : Okx n m (upr s p v) := by
  have hn := h.1.1
  have hm := h.1.2.1
  have hpr : 7 ≤ p := by
    rcases hp with ⟨k, w⟩ | ⟨k, w⟩ | ⟨k, w⟩ | ⟨j, k, w⟩ <;> omega
  refine ⟨⟨hn, hm, ?_, ?_, ?_, fun k hk => ?_, fun j hj => ?_⟩, ?_, fun j hj k hk => ?_⟩
  · rw [upr_ne (by omega)]
    exact h.1.2.2.1
  · rw [upr_ne (by omega)]
    exact h.1.2.2.2.1
  · rw [upr_ne (by omega)]
    exact h.1.2.2.2.2.1
  · have q := h.1.2.2.2.2.2.1 k hk
    unfold upr
    rcases hp with ⟨k', w⟩ | ⟨k', w⟩ | ⟨k', w⟩ | ⟨j', k', w⟩ <;> refine ⟨?_, ?_, ?_⟩ <;> (repeat' split) <;> omega
  · have q := h.1.2.2.2.2.2.2 j hj
    unfold upr
    refine ⟨?_, ?_, fun k hk => ?_⟩
    · rcases hp with ⟨k', w⟩ | ⟨k', w⟩ | ⟨k', w⟩ | ⟨j', k', w⟩ <;> (repeat' split) <;> omega
    · rcases hp with ⟨k', w⟩ | ⟨k', w⟩ | ⟨k', w⟩ | ⟨j', k', w⟩ <;> (repeat' split) <;> omega
    · have q2 := q.2.2 k hk
      rcases hp with ⟨k', w⟩ | ⟨k', w⟩ | ⟨k', w⟩ | ⟨j', k', w⟩ <;> (repeat' split) <;> omega
  · rw [sumI_congr (g := fun k => s (3 + k)) (fun k hk => upr_ne (by omega))]
    exact h.2.1
  · have q2 := h.2.2 j hj k hk
    unfold upr
    rcases hp with ⟨k', w⟩ | ⟨k', w⟩ | ⟨k', w⟩ | ⟨j', k', w⟩ <;> (repeat' split) <;> omega
theorem m_becomes {σ : Mem} {p v : Int} (hp : 0 ≤ p ∧ p < 39) : f_X12_becomes p v σ = some (σ 121 p, ups σ 121 p v) := by
  unfold f_X12_becomes
  rw [s32_of (z := p) (by omega) (by omega), if_pos hp]
theorem MS.up {σ : Mem} {n m : Nat} (h : MS σ n m) {a i v : Int} (ha : a ≠ 120 ∧ a ≠ 121) : MS (ups σ a i v) n m := by
  unfold MS Md
  rw [show ups σ a i v 121 = σ 121 from ups_ne (fun e => ha.2 e.symm), show ups σ a i v 120 = σ 120 from ups_ne (fun e => ha.1 e.symm)]
  exact h
theorem op_think {σ : Mem} (h : Rel σ) {v w : Int} (hv : s32 v = v) (hw : s32 w = w) : Op σ (f_X11_think v w) (f_X12_think v w) := by
  unfold Op f_X11_think f_X12_think
  by_cases q : σ 0 6 = 0
  · refine ⟨-3, σ, σ, ?_, ?_, h⟩
    · rw [q, if_pos s32_0]
    · rw [m_closed h q, ob_some, if_pos s32_0]
  · obtain ⟨e1, n, m, hO, hB, hM, e6, e7⟩ := h.mk2 q
    have hn := hO.1.1
    have hm := hO.1.2.1
    have hs0 := hO.1.2.2.1
    rw [e1, if_neg (by decide), c_markAt hO.1 hB hv, ob_some, hw]
    by_cases c1 : 0 ≤ v ∧ v < (m : Int)
    · obtain ⟨j, hj, rfl⟩ : ∃ j : Nat, j < m ∧ v = j := ⟨v.toNat, by omega, by omega⟩
      have h4 := fin4 hj hm.2
      have qj := hB.1.2.2.2.2 j hj
      have a2 := (hO.1.2.2.2.2.2.2 j hj).2.1
      have t35 : 0 ≤ 35 + (j : Int) ∧ 35 + (j : Int) < 39 := by clear hv hw; omega
      have u35 : s32 (σ 121 (35 + (j : Int))) = σ 121 (35 + (j : Int)) := s32_of (by clear hv hw; omega) (by clear hv hw; omega)
      have u34 : s32 (σ 121 (35 + (j : Int)) - 1) = σ 121 (35 + (j : Int)) - 1 := s32_of (by clear hv hw u35; omega) (by clear hv hw u35; omega)
      have un : s32 (n : Int) = n := s32_of (by clear hv hw u35 u34; omega) (by clear hv hw u35 u34; omega)
      have told : f_X4_toldAt 10 j σ = some (if σ 121 (35 + j) = 0 then -4 else σ 121 (35 + j) - 1, σ) := by
        unfold f_X4_toldAt
        rw [hv, if_pos h4, show (10 : Int) + 5 = 15 from rfl, qj.2.1, u34]
        by_cases e : σ 121 (35 + (j : Int)) = 0
        · rw [if_pos (by clear hv hw u35 un u34; omega), if_pos e]
        · rw [if_neg (by clear hv hw u35 un u34; omega), if_neg e]
      rw [bi_t c1, if_neg (by decide), hv, told]
      by_cases c3 : -1 ≤ w ∧ w < (n : Int)
      · have hR : Rel (ups (ups σ 15 j (w + 1 - 1)) 121 (35 + j) (w + 1)) := h.one e1 hO hB.1 (Or.inr (Or.inr (Or.inr (Or.inl ⟨j, hj, rfl, rfl, rfl, rfl⟩)))) (hO.up (Or.inr (Or.inr (Or.inl ⟨j, hj, rfl, by clear hv hw u35 un u34 told; omega, by clear hv hw u35 un u34 told; omega⟩))))
        rw [show w + 1 - 1 = w by clear hv hw u35 un u34 told; omega] at hR
        have hMu := hM.up (a := 15) (i := j) (v := w) ⟨by decide, by decide⟩
        have e121 : ups σ 15 j w 121 = σ 121 := ups_ne (by decide)
        refine ⟨if σ 121 (35 + j) = 0 then -4 else σ 121 (35 + j) - 1, ups σ 15 j w, ups (ups σ 15 j w) 121 (35 + j) (w + 1), ?_, ?_, hR⟩
        · by_cases d1 : w = -1
          · rw [if_pos d1, ob_some, if_pos h4]
          · rw [if_neg d1, c_sortAt hO.1 hB hw, ob_some, bi_t (by clear hv hw u35 un u34 told; omega), if_neg (by decide), told, ob_some, if_pos h4]
        · rw [m_openAt hMu, ob_some, if_neg (by decide), m_markAt hMu hv, ob_some, bi_t c1, if_neg (by decide), if_neg (by clear hv hw u35 un u34 told; omega), e121, hs0, un, if_pos c3.2, m_becomes t35, ob_some, e121, u35]
          by_cases e : σ 121 (35 + (j : Int)) = 0
          · rw [if_pos e, if_pos e]
          · rw [if_neg e, if_neg e]
      · refine ⟨-1, σ, σ, ?_, ?_, h⟩
        · rw [if_neg (by clear hv hw u35 un u34 told; omega), c_sortAt hO.1 hB hw, ob_some, bi_f (by clear hv hw u35 un u34 told; omega), if_pos s32_0]
        · rw [m_openAt hM, ob_some, if_neg (by decide), m_markAt hM hv, ob_some, bi_t c1, if_neg (by decide), hs0, un]
          by_cases c4 : w < -1
          · rw [if_pos c4]
          · rw [if_neg c4, if_neg (by clear hv hw u35 un u34 told; omega)]
    · refine ⟨-1, σ, σ, ?_, ?_, h⟩
      · rw [bi_f c1, if_pos s32_0]
      · rw [m_openAt hM, ob_some, if_neg (by decide), m_markAt hM hv, ob_some, bi_f c1, if_pos s32_0]
