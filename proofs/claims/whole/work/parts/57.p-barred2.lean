/-! PURE 17: barred, asked -/
theorem c_sureFault {σ : Mem} {n m : Nat} {s : Int → Int} (e1 : σ 0 6 = 1) (h : Okm n m s) (hb : CB σ n m s 1 1 0) (e6 : σ 72 6 = 0) (e7 : σ 72 7 = 0) {v : Int} (hv : s32 v = v) : ∃ σ', f_X11_sureFitFault v σ = some (if isF n m v then (if SU 1 1 0 s 0 0 v n m then 0 else -3) else -1, σ') ∧ CO σ σ' ∧ (isF n m v → CG σ' n m s 0 v 1 1 0) := by
  unfold f_X11_sureFitFault f_X11_fitFault
  rw [e1, if_neg (by decide), c_fitAt h hb hv, ob_some]
  by_cases c1 : isF n m v
  · obtain ⟨σ', e, hC, hb', he, hg⟩ := c_sureAt h hb e6 e7 hv
    rw [bi_t c1, if_neg (by decide), ob_some, if_pos s32_0, e, ob_some, if_pos c1]
    refine ⟨σ', ?_, hC.co, hg⟩
    by_cases c2 : SU 1 1 0 s 0 0 v n m
    · rw [bi_t c2, if_neg (by decide), if_pos c2]
    · rw [bi_f c2, if_pos s32_0, if_neg c2]
  · rw [bi_f c1, if_pos s32_0, ob_some, if_neg (by decide), if_neg c1]
    exact ⟨σ, rfl, CO.rf, fun w => absurd w c1⟩
theorem op_barred {σ : Mem} (h : Rel σ) {v w x : Int} (hv : s32 v = v) (hw : s32 w = w) (hx : s32 x = x) : Op σ (f_X11_barred v w x) (f_X12_barred v w x) := by
  unfold Op f_X11_barred f_X12_barred
  by_cases q : σ 0 6 = 0
  · refine ⟨-3, σ, σ, ?_, ?_, h⟩
    · rw [q, if_pos s32_0]
    · rw [m_closed h q, ob_some, if_pos s32_0]
  · obtain ⟨e1, n, m, hO, hB, hM, e6, e7⟩ := h.mk2 q
    have hn := hO.1.1
    have hm := hO.1.2.1
    have h9 := h.1.2.2.2.2.1.2.2
    rw [e1, if_neg (by decide), c_markAt hO.1 hB hw, ob_some]
    by_cases c2 : 0 ≤ w ∧ w < (m : Int)
    · rw [bi_t c2, if_neg (by decide), c_sortAt hO.1 hB hx, ob_some]
      by_cases c3 : 0 ≤ x ∧ x < (n : Int)
      · rw [bi_t c3, if_neg (by decide)]
        obtain ⟨σ1, ef, hC, hg⟩ := c_sureFault e1 hO.1 hB e6 e7 hv
        have hM1 := hM.co hC
        have e121 : σ1 121 = σ 121 := hC.row 121 (fun i => by unfold scr; omega)
        rw [ef, ob_some]
        by_cases c1 : isF n m v
        · obtain ⟨a, b, es⟩ := m_sureAt hM1 hv
          rw [e121] at es
          have hC2 : CO σ (ab σ1 a b) := hC.tr ab_co
          have hM2 := hM.co hC2
          have hf121 : (ab σ1 a b) 121 = σ 121 := by rw [ab_s, e121]
          by_cases c4 : SU 1 1 0 (σ 121) 0 0 v n m
          · have hg' := hg c1
            obtain ⟨j, hj, rfl⟩ : ∃ j : Nat, j < m ∧ w = j := ⟨w.toNat, by omega, by omega⟩
            obtain ⟨k, hk, rfl⟩ : ∃ k : Nat, k < n ∧ x = k := ⟨x.toNat, by omega, by omega⟩
            have p4 := p5_in n hn.2
            have f1 : v ≤ 2147483647 := by have := c1.2.1; omega
            have j4 : j < 4 := Nat.lt_of_lt_of_le hj hm.2
            have em := m_isMade (σ := ab σ1 a b) (v := v) (j := (j : Int)) (n := n) hM2.1.2.2.1 hn.2 c1.1 f1 hw
            by_cases c5 : mad v j n = true
            · refine ⟨-3, σ1, ab σ1 a b, ?_, ?_, h.co hC2⟩
              · rw [if_pos c1, if_pos c4, if_pos s32_0, c_isMade hg'.2.1.1 j4, ob_some, bi_t c5, if_neg (by decide)]
              · rw [m_openAt hM1, ob_some, if_neg (by decide), m_fitAt hM1 hv, ob_some, bi_t c1, if_neg (by decide), m_markAt hM1 hw, ob_some, bi_t c2, if_neg (by decide), m_sortAt hM1 hx, ob_some, bi_t c3, if_neg (by decide), es, ob_some, bi_t c4, if_neg (by decide), em, ob_some, bi_t c5, if_neg (by decide)]
            · obtain ⟨a2, b2, eb⟩ := m_isBarred hM2 c1 hj hk
              rw [hf121] at eb
              have h91 : σ1 72 9 = 0 := (hC.at 72 9 (by unfold scr; omega)).trans h9
              refine ⟨bi (brd (σ 121) v j k n), σ1, ab (ab σ1 a b) a2 b2, ?_, ?_, h.co (hC2.tr ab_co)⟩
              · rw [if_pos c1, if_pos c4, if_pos s32_0, c_isMade hg'.2.1.1 j4, ob_some, bi_f c5, if_pos s32_0, c_isBarred hO.1 hg' h91 c1 hj hk, ob_some]
                by_cases c6 : brd (σ 121) v j k n
                · rw [bi_t c6, if_neg (by decide)]
                · rw [bi_f c6, if_pos s32_0]
              · rw [m_openAt hM1, ob_some, if_neg (by decide), m_fitAt hM1 hv, ob_some, bi_t c1, if_neg (by decide), m_markAt hM1 hw, ob_some, bi_t c2, if_neg (by decide), m_sortAt hM1 hx, ob_some, bi_t c3, if_neg (by decide), es, ob_some, bi_t c4, if_neg (by decide), em, ob_some, bi_f c5, if_pos s32_0, eb, ob_some]
                by_cases c6 : brd (σ 121) v j k n
                · rw [bi_t c6, if_neg (by decide)]
                · rw [bi_f c6, if_pos s32_0]
          · refine ⟨-3, σ1, ab σ1 a b, ?_, ?_, h.co hC2⟩
            · rw [if_pos c1, if_neg c4, if_neg (by decide)]
            · rw [m_openAt hM1, ob_some, if_neg (by decide), m_fitAt hM1 hv, ob_some, bi_t c1, if_neg (by decide), m_markAt hM1 hw, ob_some, bi_t c2, if_neg (by decide), m_sortAt hM1 hx, ob_some, bi_t c3, if_neg (by decide), es, ob_some, bi_f c4, if_pos s32_0]
        · refine ⟨-1, σ1, σ1, ?_, ?_, h.co hC⟩
          · rw [if_neg c1, if_neg (by decide)]
          · rw [m_openAt hM1, ob_some, if_neg (by decide), m_fitAt hM1 hv, ob_some, bi_f c1, if_pos s32_0]
      · refine ⟨-1, σ, σ, by rw [bi_f c3, if_pos s32_0], ?_, h⟩
        rw [m_openAt hM, ob_some, if_neg (by decide), m_fitAt hM hv, ob_some]
        by_cases c1 : isF n m v
        · rw [bi_t c1, if_neg (by decide), m_markAt hM hw, ob_some, bi_t c2, if_neg (by decide), m_sortAt hM hx, ob_some, bi_f c3, if_pos s32_0]
        · rw [bi_f c1, if_pos s32_0]
    · refine ⟨-1, σ, σ, by rw [bi_f c2, if_pos s32_0], ?_, h⟩
      rw [m_openAt hM, ob_some, if_neg (by decide), m_fitAt hM hv, ob_some]
      by_cases c1 : isF n m v
      · rw [bi_t c1, if_neg (by decide), m_markAt hM hw, ob_some, bi_f c2, if_pos s32_0]
      · rw [bi_f c1, if_pos s32_0]
