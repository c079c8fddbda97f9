/-! PURE 13: pay, gets, falls' first words -/
theorem fin4 {j m : Nat} (h : j < m) (h4 : m ≤ 4) : 0 ≤ (j : Int) ∧ (j : Int) < 4 := by omega
theorem m_openAt {σ : Mem} {n m : Nat} (h : MS σ n m) : f_X12_isOpen σ = some (1, σ) := by
  have hn := h.1.1
  have e := h.1.2.2.1
  rw [m_isOpen (by rw [e]; omega), bi_t (by rw [e]; omega)]
theorem m_closed {σ : Mem} (h : Rel σ) (q : σ 0 6 = 0) : f_X12_isOpen σ = some (0, σ) := by
  have hn := h.no q
  rw [m_isOpen (by omega), bi_f (by omega)]
theorem m_fitAt {σ : Mem} {n m : Nat} (h : MS σ n m) {v : Int} (hv : s32 v = v) : f_X12_isFit v σ = some (bi (isF n m v), σ) := by
  have hn := h.1.1
  have hm := h.1.2.1
  rw [m_isFit h.1.2.2.1 h.1.2.2.2.1 hn.2 hm.2 (by rw [h.2.2.1]; omega) hv]
  congr 2
  refine bi_congr ⟨fun w => w.1, fun w => ⟨w, fun k hk => ?_⟩⟩
  have hz : ∀ j : Nat, j < 5 → bt 0 j = 0 := by decide +kernel
  have a := dg_in v k
  obtain ⟨j, hj, ej⟩ : ∃ j : Nat, j < 5 ∧ dg v k = j := ⟨(dg v k).toNat, by omega, by omega⟩
  right
  rw [h.2.2.1, ej]
  exact hz j hj
theorem m_sortAt {σ : Mem} {n m : Nat} (h : MS σ n m) {v : Int} (hv : s32 v = v) : f_X12_isSort v σ = some (bi (0 ≤ v ∧ v < (n : Int)), σ) := by
  have hn := h.1.1
  have e := h.1.2.2.1
  rw [m_isSort hv (by rw [e]; omega), e]
theorem m_markAt {σ : Mem} {n m : Nat} (h : MS σ n m) {v : Int} (hv : s32 v = v) : f_X12_isMark v σ = some (bi (0 ≤ v ∧ v < (m : Int)), σ) := by
  have hm := h.1.2.1
  have e := h.1.2.2.2.1
  rw [m_isMark hv (by rw [e]; omega), e]
theorem m_bitAt {σ : Mem} {v : Int} (hv : s32 v = v) : f_X12_isIn (s32 v) 0 1 σ = some (bi (v = 0 ∨ v = 1), σ) := by
  have v1 := s32_lo v
  have v2 := s32_hi v
  rw [m_isInT ⟨v1, v2⟩ (by omega) (by omega), hv]
  congr 2
  exact bi_congr (by omega)
theorem c_fitAt {σ : Mem} {n m : Nat} {s : Int → Int} {W S K : Int} (h : Okm n m s) (hb : CB σ n m s W S K) {v : Int} (hv : s32 v = v) : f_X4_hasFit 10 v σ = some (bi (isF n m v), σ) := c_hasFit' hb.1.1 hb.1.2.1 h.1.2 h.2.1.2 hv
theorem c_sortAt {σ : Mem} {n m : Nat} {s : Int → Int} {W S K : Int} (h : Okm n m s) (hb : CB σ n m s W S K) {v : Int} (hv : s32 v = v) : f_X4_hasSort 10 v σ = some (bi (0 ≤ v ∧ v < (n : Int)), σ) := by
  have hn := h.1
  rw [c_hasSort' hv (by rw [hb.1.1]; omega), hb.1.1]
theorem c_markAt {σ : Mem} {n m : Nat} {s : Int → Int} {W S K : Int} (h : Okm n m s) (hb : CB σ n m s W S K) {v : Int} (hv : s32 v = v) : f_X4_hasMark 10 v σ = some (bi (0 ≤ v ∧ v < (m : Int)), σ) := by
  have hm := h.2.1
  rw [c_hasMark' hv (by rw [hb.1.2.1]; omega), hb.1.2.1]
theorem op_pay {σ : Mem} (h : Rel σ) {v w b : Int} (hv : s32 v = v) (hw : s32 w = w) (hb : s32 b = b) : Op σ (f_X11_pay v w b) (f_X12_pay v w b) := by
  unfold Op f_X11_pay f_X12_pay
  by_cases q : σ 0 6 = 0
  · refine ⟨-4611686018427387904, σ, σ, ?_, ?_, h⟩
    · rw [q, if_pos s32_0]
    · rw [m_closed h q, ob_some, if_pos s32_0]
  · obtain ⟨e1, n, m, hO, hB, hM, e6, e7⟩ := h.mk2 q
    have hn := hO.1.1
    have hm := hO.1.2.1
    rw [e1, if_neg (by decide), c_fitAt hO.1 hB hv, ob_some]
    by_cases c1 : isF n m v
    · rw [bi_t c1, if_neg (by decide), c_markAt hO.1 hB hw, ob_some]
      by_cases c2 : 0 ≤ w ∧ w < (m : Int)
      · rw [bi_t c2, if_neg (by decide), c_isBit' hb, ob_some]
        by_cases c3 : b = 0 ∨ b = 1
        · obtain ⟨σ1, ew, hg, hB1, hC⟩ := c_weighed hO.1 hB c1
          have hM1 := hM.co hC.co
          have e121 : σ1 121 = σ 121 := hC.co.row 121 (fun i => by unfold scr; omega)
          obtain ⟨j, hj, rfl⟩ : ∃ j : Nat, j < m ∧ w = j := ⟨w.toNat, by omega, by omega⟩
          have g1 := pyT_in hO.1 0 v hj
          have g2 := pyU_in hO.1 v j
          obtain ⟨r, hr⟩ := two_told (x := pyT (σ 121) 0 v j n) (y := pyU (σ 121) v j n) (v := b) (by omega) (by omega)
          have p4 := p5_in n hn.2
          refine ⟨r, σ1, ab σ1 (pyT (σ 121) 0 v j n) (pyU (σ 121) v j n), ?_, ?_, (h.co hC.co).co ab_co⟩
          · have hgj := hg.2.1.2 j hj
            rw [e6, s32_0] at hgj
            rw [bi_t c3, if_neg (by decide), ew, ob_some, hw, if_pos (fin4 hj hm.2), hgj.1, hgj.2, (hr σ1 σ1).1, ob_some]
          · have ep := m_findPay (σ := σ1) (n := n) (m := m) hM1.1 c1.1 (by have := c1.2.1; omega) hj
            rw [e121, hM1.2.2.2, s32_0] at ep
            rw [m_openAt hM1, ob_some, if_neg (by decide), m_fitAt hM1 hv, ob_some, bi_t c1, if_neg (by decide), m_markAt hM1 hw, ob_some, bi_t c2, if_neg (by decide), m_bitAt hb, ob_some, bi_t c3, if_neg (by decide), ep, ob_some, ab_21, ab_22, (hr σ _).2, ob_some]
        · rw [bi_f c3]
          refine ⟨-4611686018427387904, σ, σ, by rw [if_pos s32_0], ?_, h⟩
          rw [m_openAt hM, ob_some, if_neg (by decide), m_fitAt hM hv, ob_some, bi_t c1, if_neg (by decide), m_markAt hM hw, ob_some, bi_t c2, if_neg (by decide), m_bitAt hb, ob_some, bi_f c3, if_pos s32_0]
      · rw [bi_f c2]
        refine ⟨-4611686018427387904, σ, σ, by rw [if_pos s32_0], ?_, h⟩
        rw [m_openAt hM, ob_some, if_neg (by decide), m_fitAt hM hv, ob_some, bi_t c1, if_neg (by decide), m_markAt hM hw, ob_some, bi_f c2, if_pos s32_0]
    · rw [bi_f c1]
      refine ⟨-4611686018427387904, σ, σ, by rw [if_pos s32_0], ?_, h⟩
      rw [m_openAt hM, ob_some, if_neg (by decide), m_fitAt hM hv, ob_some, bi_f c1, if_pos s32_0]
