/-! PURE 21: rate; what a call that changes the market owes -/
theorem Rel.mkM {σ τ : Mem} (h : Rel σ) (c : ∀ a i : Int, ¬ (scr a i ∨ (10 ≤ a ∧ a ≤ 29) ∨ a = 121) → τ a i = σ a i) (hM : RelM τ) : Rel τ := by
  obtain ⟨hF, -, hI, hS⟩ := h
  have r : ∀ a : Int, (a = 0 ∨ a = 1 ∨ (30 ≤ a ∧ a ≤ 40) ∨ (80 ≤ a ∧ a ≤ 116) ∨ (a = 122 ∨ (124 ≤ a ∧ a ≤ 129))) → τ a = σ a := fun a q => funext fun i => c a i (by unfold scr; omega)
  have e7 : ∀ i : Int, (i = 6 ∨ i = 7 ∨ i = 8 ∨ i = 9 ∨ i = 11 ∨ i = 12 ∨ i = 13) → τ 72 i = σ 72 i := fun i q => c 72 i (by unfold scr; omega)
  have e12 : ∀ i : Int, (i = 9 ∨ i = 17 ∨ i = 18 ∨ i = 19 ∨ i = 20) → τ 120 i = σ 120 i := fun i q => c 120 i (by unfold scr; omega)
  refine ⟨?_, hM, ?_, ?_⟩
  · unfold RelF
    rw [r 0 (by omega), e7 6 (by omega), e7 7 (by omega), e7 8 (by omega), e7 9 (by omega), e7 11 (by omega), e7 12 (by omega), e7 13 (by omega), e12 9 (by omega), e12 17 (by omega), e12 18 (by omega), e12 19 (by omega), e12 20 (by omega)]
    exact hF
  · unfold RelI CI
    rw [r 0 (by omega), r 122 (by omega), r 30 (by omega)]
    intro q
    obtain ⟨n, m, hO, hC⟩ := hI q
    refine ⟨n, m, hO, hC.1, hC.2.1, hC.2.2.1, fun k hk => ?_, fun j hj => ?_⟩
    · rw [r 31 (by omega), r 32 (by omega), r 33 (by omega)]
      exact hC.2.2.2.1 k hk
    · have hm := hO.1.2.1
      rw [r 34 (by omega), r 35 (by omega), r (36 + 1 + j) (by omega)]
      exact hC.2.2.2.2 j hj
  · intro d hd
    unfold ShR FitR
    rw [r 124 (by omega), r 125 (by omega), r 126 (by omega), r 127 (by omega), r 128 (by omega), r 129 (by omega), r (80 + 2 * d) (by omega), r (100 + 2 * d) (by omega), r (80 + 2 * d + 1) (by omega)]
    exact hS d hd
theorem upr_at (r : Int → Int) (i v : Int) : upr r i v i = v := by simp [upr]
theorem upr_ne {r : Int → Int} {i v j : Int} (h : j ≠ i) : upr r i v j = r j := by simp [upr, h]
theorem op_rate {σ : Mem} (h : Rel σ) {v : Int} (hv : s32 v = v) : Op σ (f_X11_rate v) (f_X12_rate v) := by
  unfold Op f_X11_rate f_X12_rate
  have v1 := s32_lo v
  have v2 := s32_hi v
  rw [hv] at v1 v2
  by_cases q : σ 0 6 = 0
  · refine ⟨-3, σ, σ, ?_, ?_, h⟩
    · rw [q, if_pos s32_0]
    · rw [m_closed h q, ob_some, if_pos s32_0]
  · obtain ⟨e1, n, m, hO, hB, hM, e6, e7⟩ := h.mk2 q
    have hn := hO.1.1
    have hm := hO.1.2.1
    rw [e1, if_neg (by decide), hv]
    by_cases c1 : v < 0
    · refine ⟨-1, σ, σ, by rw [if_pos c1], ?_, h⟩
      rw [m_openAt hM, ob_some, if_neg (by decide), m_isInT (by omega) (by omega) (by omega), ob_some, bi_f (by omega), if_pos s32_0]
    · by_cases c2 : v ≤ 100
      · have hMu : MS (ups σ 10 2 v) n m := by
          unfold MS Md
          rw [show ups σ 10 2 v 121 = σ 121 from ups_ne (by decide), show ups σ 10 2 v 120 = σ 120 from ups_ne (by decide)]
          exact hM
        refine ⟨σ 121 2, ups σ 10 2 v, ups (ups σ 10 2 v) 121 2 v, ?_, ?_, ?_⟩
        · rw [if_neg c1, if_pos c2]
          show some (σ 10 2, ups σ 10 2 v) = _
          rw [hB.1.2.2.1]
        · rw [m_openAt hMu, ob_some, if_neg (by decide), m_isInT (by omega) (by omega) (by omega), ob_some, bi_t (by omega), if_neg (by decide)]
          unfold f_X12_becomes
          rw [if_pos (by decide)]
          rfl
        · have hF9 := h.1.2.2.2.2.1.2.2
          have t : ∀ a : Int, a ≠ 10 → a ≠ 121 → ups (ups σ 10 2 v) 121 2 v a = σ a := fun a p1 p2 => by rw [ups_ne p2, ups_ne p1]
          have t121 : ups (ups σ 10 2 v) 121 2 v 121 = upr (σ 121) 2 v := by rw [ups_self, ups_ne (show (121 : Int) ≠ 10 by decide)]
          have t10 : ups (ups σ 10 2 v) 121 2 v 10 = upr (σ 10) 2 v := by rw [ups_ne (show (10 : Int) ≠ 121 by decide), ups_self]
          have o : ∀ i : Int, i ≠ 2 → upr (σ 121) 2 v i = σ 121 i := fun i p => upr_ne p
          refine h.mkM (fun a i p => by rw [t a (fun z => p (by omega)) (fun z => p (by omega))]) ?_
          refine Or.inr ⟨by rw [t 0 (by decide) (by decide)]; exact e1, n, m, ?_, ?_⟩
          · rw [t121]
            refine ⟨⟨hO.1.1, hO.1.2.1, ?_, ?_, ?_, fun k hk => ?_, fun j hj => ?_⟩, ?_, fun j hj k hk => ?_⟩
            · rw [o 0 (by decide)]
              exact hO.1.2.2.1
            · rw [o 1 (by decide)]
              exact hO.1.2.2.2.1
            · rw [upr_at]
              omega
            · rw [o (3 + k) (by omega), o (7 + k) (by omega), o (11 + k) (by omega)]
              exact hO.1.2.2.2.2.2.1 k hk
            · rw [o (15 + j) (by omega), o (35 + j) (by omega)]
              refine ⟨(hO.1.2.2.2.2.2.2 j hj).1, (hO.1.2.2.2.2.2.2 j hj).2.1, fun k hk => ?_⟩
              rw [o (19 + 4 * j + k) (by omega)]
              exact (hO.1.2.2.2.2.2.2 j hj).2.2 k hk
            · rw [sumI_congr (g := fun k => σ 121 (3 + k)) (fun k hk => o (3 + k) (by omega))]
              exact hO.2.1
            · rw [o (19 + 4 * j + k) (by omega)]
              exact hO.2.2 j hj k hk
          · unfold CK
            rw [t121, t10, t 11 (by decide) (by decide), t 12 (by decide) (by decide), t 13 (by decide) (by decide), t 14 (by decide) (by decide), t 15 (by decide) (by decide), t 72 (by decide) (by decide), upr_at, upr_at, upr_ne (show (0 : Int) ≠ 2 by decide), upr_ne (show (1 : Int) ≠ 2 by decide)]
            refine ⟨hB.1.1, hB.1.2.1, rfl, fun k hk => ?_, fun j hj => ?_⟩
            · rw [o (3 + k) (by omega), o (7 + k) (by omega), o (11 + k) (by omega)]
              exact hB.1.2.2.2.1 k hk
            · rw [o (15 + j) (by omega), o (35 + j) (by omega)]
              refine ⟨(hB.1.2.2.2.2 j hj).1, (hB.1.2.2.2.2 j hj).2.1, fun k hk => ?_⟩
              rw [o (19 + 4 * j + k) (by omega), t (16 + 1 + j) (by omega) (by omega)]
              exact (hB.1.2.2.2.2 j hj).2.2 k hk
      · refine ⟨-1, σ, σ, by rw [if_neg c1, if_neg c2], ?_, h⟩
        rw [m_openAt hM, ob_some, if_neg (by decide), m_isInT (by omega) (by omega) (by omega), ob_some, bi_f (by omega), if_pos s32_0]
