/-! PURE 14: gets, years' middle -/
theorem c_ownTop {σ : Mem} {n m : Nat} {s : Int → Int} {op fit W S K : Int} (h : Okm n m s) (hg : CG σ n m s op fit W S K) (hF : isF n m fit) {k : Nat} (hk : k < n) : f_X7_ownTop k σ = some (gtp W S K s op fit k (dg fit k) n, σ) := by
  have h4 := fin4 hk h.1.2
  unfold f_X7_ownTop
  rw [s32_of (z := (k : Int)) (by omega) (by omega), if_pos h4, hg.2.1.1.1 k hk, c_topAt h hg hk (isF_dg hF hk), ob_some]
theorem c_ownUnder {σ : Mem} {n m : Nat} {s : Int → Int} {op fit W S K : Int} (h : Okm n m s) (hg : CG σ n m s op fit W S K) (hF : isF n m fit) {k : Nat} (hk : k < n) : f_X7_ownUnder k σ = some (gun W s fit (dg fit k) n, σ) := by
  have h4 := fin4 hk h.1.2
  unfold f_X7_ownUnder
  rw [s32_of (z := (k : Int)) (by omega) (by omega), if_pos h4, hg.2.1.1.1 k hk, c_underAt h hg (isF_dg hF hk), ob_some]
theorem op_gets {σ : Mem} (h : Rel σ) {v w b : Int} (hv : s32 v = v) (hw : s32 w = w) (hb : s32 b = b) : Op σ (f_X11_gets v w b) (f_X12_gets v w b) := by
  unfold Op f_X11_gets f_X12_gets
  by_cases q : σ 0 6 = 0
  · refine ⟨-4611686018427387904, σ, σ, ?_, ?_, h⟩
    · rw [q, if_pos s32_0]
    · rw [m_closed h q, ob_some, if_pos s32_0]
  · obtain ⟨e1, n, m, hO, hB, hM, e6, e7⟩ := h.mk2 q
    have hn := hO.1.1
    have hm := hO.1.2.1
    rw [e1, if_neg (by decide), c_fitAt hO.1 hB hv, ob_some]
    by_cases c1 : isF n m v
    · rw [bi_t c1, if_neg (by decide), c_sortAt hO.1 hB hw, ob_some]
      by_cases c2 : 0 ≤ w ∧ w < (n : Int)
      · rw [bi_t c2, if_neg (by decide), c_isBit' hb, ob_some]
        by_cases c3 : b = 0 ∨ b = 1
        · obtain ⟨σ1, ew, hg, hB1, hC⟩ := c_weighed hO.1 hB c1
          rw [e6, s32_0] at hg
          have hM1 := hM.co hC.co
          have e121 : σ1 121 = σ 121 := hC.co.row 121 (fun i => by unfold scr; omega)
          obtain ⟨k, hk, rfl⟩ : ∃ k : Nat, k < n ∧ w = k := ⟨w.toNat, by omega, by omega⟩
          have hdg := isF_dg c1 hk
          have hs := hM1.2.1.wsk hM1.1.2.2.2.2.1
          have g1 := gtp_in hO.1 hs 0 v hk hdg
          have g2 := gun_in hO.1 hs v (dg v k)
          obtain ⟨r, hr⟩ := two_told (x := gtp 1 1 0 (σ 121) 0 v k (dg v k) n) (y := gun 1 (σ 121) v (dg v k) n) (v := b) (by omega) (by omega)
          have p4 := p5_in n hn.2
          have f1 : v ≤ 2147483647 := by have := c1.2.1; omega
          have k4 : k ≤ 4 := Nat.le_trans (Nat.le_of_lt hk) hn.2
          refine ⟨r, σ1, ab σ1 (gtp 1 1 0 (σ 121) 0 v k (dg v k) n) (gun 1 (σ 121) v (dg v k) n), ?_, ?_, (h.co hC.co).co ab_co⟩
          · rw [bi_t c3, if_neg (by decide), ew, ob_some, c_ownTop hO.1 hg c1 hk, ob_some, c_ownUnder hO.1 hg c1 hk, ob_some, (hr σ1 σ1).1, ob_some]
          · have ep := m_findGets (σ := σ1) (n := n) (m := m) hM1.1 hM1.2.1 c1.1 f1 hk hdg
            rw [e121, hM1.2.2.2, s32_0] at ep
            rw [m_openAt hM1, ob_some, if_neg (by decide), m_fitAt hM1 hv, ob_some, bi_t c1, if_neg (by decide), m_sortAt hM1 hw, ob_some, bi_t c2, if_neg (by decide), m_bitAt hb, ob_some, bi_t c3, if_neg (by decide), m_made c1.1 f1 k4, ob_some, ep, ob_some, ab_21, ab_22, (hr σ _).2, ob_some]
        · rw [bi_f c3]
          refine ⟨-4611686018427387904, σ, σ, by rw [if_pos s32_0], ?_, h⟩
          rw [m_openAt hM, ob_some, if_neg (by decide), m_fitAt hM hv, ob_some, bi_t c1, if_neg (by decide), m_sortAt hM hw, ob_some, bi_t c2, if_neg (by decide), m_bitAt hb, ob_some, bi_f c3, if_pos s32_0]
      · rw [bi_f c2]
        refine ⟨-4611686018427387904, σ, σ, by rw [if_pos s32_0], ?_, h⟩
        rw [m_openAt hM, ob_some, if_neg (by decide), m_fitAt hM hv, ob_some, bi_t c1, if_neg (by decide), m_sortAt hM hw, ob_some, bi_f c2, if_pos s32_0]
    · rw [bi_f c1]
      refine ⟨-4611686018427387904, σ, σ, by rw [if_pos s32_0], ?_, h⟩
      rw [m_openAt hM, ob_some, if_neg (by decide), m_fitAt hM hv, ob_some, bi_f c1, if_pos s32_0]
