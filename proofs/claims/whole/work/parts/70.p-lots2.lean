/-! PURE 30: lots, standing, asked -/
theorem op_lots {σ : Mem} (h : Rel σ) {v w x b : Int} (hv : s32 v = v) (hw : s32 w = w) (hx : s32 x = x) (hb : s32 b = b) : Op σ (f_X11_lots v w x b) (f_X12_lots v w x b) := by
  unfold Op f_X11_lots f_X12_lots
  by_cases q : σ 0 6 = 0
  · refine ⟨-4611686018427387904, σ, σ, ?_, ?_, h⟩
    · rw [q, if_pos s32_0]
    · rw [m_closed h q, ob_some, if_pos s32_0]
  · obtain ⟨e1, n, m, hO, hB, hM, e6, e7⟩ := h.mk2 q
    have hn := hO.1.1
    have hm := hO.1.2.1
    have hF9 := h.1.2.2.2.2.1.2.2
    rw [e1, if_neg (by decide), c_fitAt hO.1 hB hv, ob_some]
    by_cases c1 : isF n m v
    · rw [bi_t c1, if_neg (by decide), c_sortAt hO.1 hB hw, ob_some]
      by_cases c2 : 0 ≤ w ∧ w < (n : Int)
      · rw [bi_t c2, if_neg (by decide), c_markAt hO.1 hB hx, ob_some]
        by_cases c4 : 0 ≤ x ∧ x < (m : Int)
        · rw [bi_t c4, if_neg (by decide), c_isBit' hb, ob_some]
          by_cases c3 : b = 0 ∨ b = 1
          · have p4 := p5_in n hn.2
            have f1 : v ≤ 2147483647 := by have := c1.2.1; clear hv hw hx hb; omega
            obtain ⟨σ1, el, hL, hC⟩ := c_lay hB.1.1 hn.2 c1.1 f1
            obtain ⟨k, hk, rfl⟩ : ∃ k : Nat, k < n ∧ w = k := ⟨w.toNat, by clear hv hw hx hb; omega, by clear hv hw hx hb; omega⟩
            obtain ⟨j, hj, rfl⟩ : ∃ j : Nat, j < m ∧ x = j := ⟨x.toNat, by clear hv hw hx hb; omega, by clear hv hw hx hb; omega⟩
            obtain ⟨σ2, ed, hC2, -, hT⟩ := c_drawsLots hO.1 (hB.1.cs hC hm.2) ((hC.at 72 9 (by clear hv hw hx hb; omega)).trans hF9) hL c1 hk hj
            have hCO := hC.co.tr hC2.co
            have hM2 := hM.co hCO
            have e121 : σ2 121 = σ 121 := hCO.row 121 (fun i => by unfold scr; omega)
            obtain ⟨u, y, em, hT2⟩ := m_findLots hM2.1 c1 hk hj (σ2 120 21) (σ2 120 22)
            rw [ab_of, e121] at em
            rw [e121] at hT2
            by_cases c5 : DL (σ 121) v j k n
            · obtain ⟨t1, t2⟩ := hT c5
              obtain ⟨t3, t4⟩ := hT2 c5
              obtain ⟨a, ha, ea⟩ : ∃ a : Nat, a < m ∧ dg v k = a := ⟨(dg v k).toNat, by have := isF_dg c1 hk; have := c5.1; clear hv hw hx hb; omega, by have := dg_in v k; clear hv hw hx hb; omega⟩
              have lv := lvl_in hO.1 hk hj ha ea
              have lu := loU_in hO.1 hk lv
              have hU : 1 ≤ lotU (σ 121) v j k ∧ lotU (σ 121) v j k ≤ 500000 := by
                have z1 := c5.2.2.1
                have z2 := c5.2.2.2
                refine ⟨by clear hv hw hx hb; omega, ?_⟩
                unfold lotU
                split <;> (clear hv hw hx hb; omega)
              obtain ⟨r, hr⟩ := two_told (x := lotT (σ 121) v j k n) (y := lotU (σ 121) v j k) (v := b) (by have z1 := c5.2.2.1; have z2 := c5.2.2.2; clear hv hw hx hb; omega) (by clear hv hw hx hb; omega)
              refine ⟨r, σ2, ab σ2 u y, ?_, ?_, (h.co hCO).co ab_co⟩
              · rw [bi_t c3, if_neg (by decide), el, ob_some, ed, ob_some, bi_t c5, if_neg (by decide), t1, t2, (hr σ2 σ2).1, ob_some]
              · rw [m_openAt hM2, ob_some, if_neg (by decide), m_fitAt hM2 hv, ob_some, bi_t c1, if_neg (by decide), m_sortAt hM2 hw, ob_some, bi_t c2, if_neg (by decide), m_markAt hM2 hx, ob_some, bi_t c4, if_neg (by decide), m_bitAt hb, ob_some, bi_t c3, if_neg (by decide), em, ob_some, bi_t c5, if_neg (by decide), ab_21, ab_22, t3, t4, (hr σ2 _).2, ob_some]
            · refine ⟨-4611686018427387904, σ2, ab σ2 u y, ?_, ?_, (h.co hCO).co ab_co⟩
              · rw [bi_t c3, if_neg (by decide), el, ob_some, ed, ob_some, bi_f c5, if_pos s32_0]
              · rw [m_openAt hM2, ob_some, if_neg (by decide), m_fitAt hM2 hv, ob_some, bi_t c1, if_neg (by decide), m_sortAt hM2 hw, ob_some, bi_t c2, if_neg (by decide), m_markAt hM2 hx, ob_some, bi_t c4, if_neg (by decide), m_bitAt hb, ob_some, bi_t c3, if_neg (by decide), em, ob_some, bi_f c5, if_pos s32_0]
          · rw [bi_f c3]
            refine ⟨-4611686018427387904, σ, σ, by rw [if_pos s32_0], ?_, h⟩
            rw [m_openAt hM, ob_some, if_neg (by decide), m_fitAt hM hv, ob_some, bi_t c1, if_neg (by decide), m_sortAt hM hw, ob_some, bi_t c2, if_neg (by decide), m_markAt hM hx, ob_some, bi_t c4, if_neg (by decide), m_bitAt hb, ob_some, bi_f c3, if_pos s32_0]
        · rw [bi_f c4]
          refine ⟨-4611686018427387904, σ, σ, by rw [if_pos s32_0], ?_, h⟩
          rw [m_openAt hM, ob_some, if_neg (by decide), m_fitAt hM hv, ob_some, bi_t c1, if_neg (by decide), m_sortAt hM hw, ob_some, bi_t c2, if_neg (by decide), m_markAt hM hx, ob_some, bi_f c4, if_pos s32_0]
      · rw [bi_f c2]
        refine ⟨-4611686018427387904, σ, σ, by rw [if_pos s32_0], ?_, h⟩
        rw [m_openAt hM, ob_some, if_neg (by decide), m_fitAt hM hv, ob_some, bi_t c1, if_neg (by decide), m_sortAt hM hw, ob_some, bi_f c2, if_pos s32_0]
    · rw [bi_f c1]
      refine ⟨-4611686018427387904, σ, σ, by rw [if_pos s32_0], ?_, h⟩
      rw [m_openAt hM, ob_some, if_neg (by decide), m_fitAt hM hv, ob_some, bi_f c1, if_pos s32_0]
/-- how many ways -/
def wyM (s : Int → Int) (fit : Int) (n : Nat) (k : Nat) : Nat → Int
  | 0 => 0
  | j + 1 => wyM s fit n k j + bi (DL s fit j k n)
def wyS (s : Int → Int) (fit : Int) (n m : Nat) : Nat → Int
  | 0 => 0
  | k + 1 => wyS s fit n m k + wyM s fit n k m
def wyF (s : Int → Int) (n m : Nat) : Nat → Int
  | 0 => 0
  | f + 1 => wyF s n m f + (if isF n m (f : Int) then wyS s f n m n else 0)
theorem c_waysByLots {σ : Mem} {n m : Nat} {s : Int → Int} {fit : Int} (h : Okm n m s) (hc : CK σ n m s) (h9 : σ 72 9 = 0) (hL : LY σ n fit) (hF : isF n m fit) : ∃ τ, f_X7_waysByLots σ = some (wyS s fit n m n, τ) ∧ CS σ τ := by
  have hn := h.1
  have hm := h.2.1
  have inner : ∀ (k : Nat) (x : Int) (τ : Mem), k < n → CS σ τ → LY τ n fit → ∃ b, itr (fun z => f_X7_waysByLots_17 k z.1 z.2.1 z.2.2) FU (x, 0, τ) = some b ∧ ∃ υ, b = (x + wyM s fit n k m, υ) ∧ CS σ υ ∧ LY υ n fit := by
    intro k x τ hk hC hLt
    refine itr_forH (fun j z => ∃ υ, z = (x + wyM s fit n k j, (j : Int), υ) ∧ CS σ υ ∧ LY υ n fit) _ m (by omega) ⟨τ, by show _ = (x + 0, _, _); rw [Int.add_zero]; rfl, hC, hLt⟩ (fun j hj z hz => ?_) (fun z hz => ?_)
    · obtain ⟨υ, rfl, hC1, hL1⟩ := hz
      have hc1 := hc.cs hC1 hm.2
      obtain ⟨υ', e, hC2, hL2, -⟩ := c_drawsLots h hc1 ((hC1.at 72 9 (by omega)).trans h9) hL1 hF hk hj
      refine ⟨(x + wyM s fit n k (j + 1), ((j + 1 : Nat) : Int), υ'), ?_, υ', rfl, hC1.tr hC2, hL2⟩
      show f_X7_waysByLots_17 k (x + wyM s fit n k j) (j : Int) υ = some (Sum.inl (x + (wyM s fit n k j + bi (DL s fit j k n)), ((j + 1 : Nat) : Int), υ'))
      unfold f_X7_waysByLots_17
      rw [hc1.2.1, s32_of (z := (m : Int)) (by omega) (by omega), s32_of (z := (j : Int)) (by omega) (by omega), if_neg (by omega), e, ob_some]
      by_cases c : DL s fit j k n
      · rw [bi_t c, if_neg (by decide), Int.add_assoc]
        rfl
      · rw [bi_f c, if_pos s32_0, Int.add_zero]
        rfl
    · obtain ⟨υ, rfl, hC1, hL1⟩ := hz
      have hc1 := hc.cs hC1 hm.2
      refine ⟨(x + wyM s fit n k m, υ), ?_, υ, rfl, hC1, hL1⟩
      show f_X7_waysByLots_17 k (x + wyM s fit n k m) (m : Int) υ = _
      unfold f_X7_waysByLots_17
      rw [hc1.2.1, if_pos (Int.le_refl _)]
  have hl : ∃ b, itr (fun z => f_X7_waysByLots_4 z.1 z.2.1 z.2.2) FU (0, 0, σ) = some b ∧ ∃ υ, b = (wyS s fit n m n, υ) ∧ CS σ υ := by
    refine itr_forH (fun k z => ∃ υ, z = (wyS s fit n m k, (k : Int), υ) ∧ CS σ υ ∧ LY υ n fit) _ n (by omega) ⟨σ, rfl, CS.rf, hL⟩ (fun k hk z hz => ?_) (fun z hz => ?_)
    · obtain ⟨υ, rfl, hC1, hL1⟩ := hz
      have hc1 := hc.cs hC1 hm.2
      obtain ⟨b, e, υ', rfl, hC2, hL2⟩ := inner k (wyS s fit n m k) υ hk hC1 hL1
      refine ⟨(wyS s fit n m (k + 1), ((k + 1 : Nat) : Int), υ'), ?_, υ', rfl, hC2, hL2⟩
      show f_X7_waysByLots_4 (wyS s fit n m k) (k : Int) υ = some (Sum.inl (wyS s fit n m k + wyM s fit n k m, ((k + 1 : Nat) : Int), υ'))
      unfold f_X7_waysByLots_4
      rw [hc1.1, s32_of (z := (n : Int)) (by omega) (by omega), s32_of (z := (k : Int)) (by omega) (by omega), if_neg (by omega), e, lb_some]
      rfl
    · obtain ⟨υ, rfl, hC1, hL1⟩ := hz
      have hc1 := hc.cs hC1 hm.2
      refine ⟨(wyS s fit n m n, υ), ?_, υ, rfl, hC1⟩
      show f_X7_waysByLots_4 (wyS s fit n m n) (n : Int) υ = _
      unfold f_X7_waysByLots_4
      rw [hc1.1, if_pos (Int.le_refl _)]
  obtain ⟨b, e, υ, rfl, hC⟩ := hl
  refine ⟨υ, ?_, hC⟩
  unfold f_X7_waysByLots
  rw [e, lb_some]
theorem m_ways {σ : Mem} {n m : Nat} (hM : MS σ n m) {fit : Int} (hF : isF n m fit) {x : Int} : ∃ u v, itr (fun z => f_X12_standing_24 fit z.1 z.2.1 z.2.2) FU (x, 0, σ) = some (x + wyS (σ 121) fit n m n, ab σ u v) := by
  have h := hM.1
  have hn := h.1
  have hm := h.2.1
  have p4 := p5_in n hn.2
  have hv : s32 fit = fit := s32_of (by have := hF.1; omega) (by have := hF.2.1; omega)
  have inner : ∀ (k : Nat) (x u v : Int), k < n → ∃ b, itr (fun z => f_X12_standing_45 fit k z.1 z.2.1 z.2.2) FU (x, 0, ab σ u v) = some b ∧ ∃ u' v', b = (x + wyM (σ 121) fit n k m, ab σ u' v') := by
    intro k x u v hk
    refine itr_forH (fun j z => ∃ u' v', z = (x + wyM (σ 121) fit n k j, (j : Int), ab σ u' v')) _ m (by omega) ⟨u, v, by show _ = (x + 0, _, _); rw [Int.add_zero]; rfl⟩ (fun j hj z hz => ?_) (fun z hz => ?_)
    · obtain ⟨u1, v1, rfl⟩ := hz
      obtain ⟨u2, v2, e, -⟩ := m_findLots h hF hk hj u1 v1
      refine ⟨(x + wyM (σ 121) fit n k (j + 1), ((j + 1 : Nat) : Int), ab σ u2 v2), ?_, u2, v2, rfl⟩
      show f_X12_standing_45 fit k (x + wyM (σ 121) fit n k j) (j : Int) (ab σ u1 v1) = some (Sum.inl (x + (wyM (σ 121) fit n k j + bi (DL (σ 121) fit j k n)), ((j + 1 : Nat) : Int), ab σ u2 v2))
      unfold f_X12_standing_45
      rw [ab_s, h.2.2.2.1, s32_of (z := (m : Int)) (by omega) (by omega), s32_of (z := (j : Int)) (by omega) (by omega), if_neg (by omega), e, ob_some]
      by_cases c : DL (σ 121) fit j k n
      · rw [bi_t c, if_neg (by decide), Int.add_assoc]
        rfl
      · rw [bi_f c, if_pos s32_0, Int.add_assoc]
        rfl
    · obtain ⟨u1, v1, rfl⟩ := hz
      refine ⟨_, ?_, u1, v1, rfl⟩
      show f_X12_standing_45 fit k (x + wyM (σ 121) fit n k m) (m : Int) (ab σ u1 v1) = _
      unfold f_X12_standing_45
      rw [ab_s, h.2.2.2.1, if_pos (Int.le_refl _)]
  have hl : ∃ b, itr (fun z => f_X12_standing_24 fit z.1 z.2.1 z.2.2) FU (x, 0, σ) = some b ∧ ∃ u v, b = (x + wyS (σ 121) fit n m n, ab σ u v) := by
    refine itr_forH (fun k z => ∃ u v, z = (x + wyS (σ 121) fit n m k, (k : Int), ab σ u v)) _ n (by omega) ⟨σ 120 21, σ 120 22, by rw [ab_of]; show _ = (x + 0, _, _); rw [Int.add_zero]; rfl⟩ (fun k hk z hz => ?_) (fun z hz => ?_)
    · obtain ⟨u, v, rfl⟩ := hz
      have hM1 := hM.co (ab_co (x := u) (y := v))
      obtain ⟨b, e, u2, v2, rfl⟩ := inner k (x + wyS (σ 121) fit n m k) u v hk
      refine ⟨(x + wyS (σ 121) fit n m (k + 1), ((k + 1 : Nat) : Int), ab σ u2 v2), ?_, u2, v2, rfl⟩
      show f_X12_standing_24 fit (x + wyS (σ 121) fit n m k) (k : Int) (ab σ u v) = some (Sum.inl (x + (wyS (σ 121) fit n m k + wyM (σ 121) fit n k m), ((k + 1 : Nat) : Int), ab σ u2 v2))
      unfold f_X12_standing_24
      rw [m_fitAt hM1 hv, ab_s, h.2.2.1, s32_of (z := (n : Int)) (by omega) (by omega), s32_of (z := (k : Int)) (by omega) (by omega), if_neg (by omega), ob_some, bi_t hF, if_neg (by decide), e, lb_some, Int.add_assoc]
      rfl
    · obtain ⟨u, v, rfl⟩ := hz
      refine ⟨_, ?_, u, v, rfl⟩
      show f_X12_standing_24 fit (x + wyS (σ 121) fit n m n) (n : Int) (ab σ u v) = _
      unfold f_X12_standing_24
      rw [ab_s, h.2.2.1, if_pos (Int.le_refl _)]
  obtain ⟨b, e, u, v, rfl⟩ := hl
  exact ⟨u, v, e⟩
theorem m_waysNo {σ : Mem} {n m : Nat} (hM : MS σ n m) {fit : Int} (hv : s32 fit = fit) (hF : ¬ isF n m fit) {x : Int} : itr (fun z => f_X12_standing_24 fit z.1 z.2.1 z.2.2) FU (x, 0, σ) = some (x, σ) := by
  have hn := hM.1.1
  refine itr_for0 (fun _ => (x, 0, σ)) 0 _ (by omega) (fun k hk => absurd hk (Nat.not_lt_zero _)) ?_
  show f_X12_standing_24 fit x 0 σ = _
  unfold f_X12_standing_24
  rw [m_fitAt hM hv, hM.1.2.2.1, s32_of (z := (n : Int)) (by omega) (by omega), s32_0, if_neg (by omega), ob_some, bi_f hF, if_pos s32_0]
theorem op_standing {σ : Mem} (h : Rel σ) : Op σ (f_X11_standing) (f_X12_standing) := by
  unfold Op f_X11_standing f_X12_standing
  by_cases q : σ 0 6 = 0
  · refine ⟨-3, σ, σ, ?_, ?_, h⟩
    · rw [q, if_pos s32_0]
    · rw [m_closed h q, ob_some, if_pos s32_0]
  · obtain ⟨e1, n, m, hO, hB, hM, e6, e7⟩ := h.mk2 q
    have hn := hO.1.1
    have hm := hO.1.2.1
    have hF9 := h.1.2.2.2.2.1.2.2
    have p4 := p5_in n hn.2
    obtain ⟨T, hT⟩ : ∃ T : Nat, p5 n = T := ⟨(p5 n).toNat, by omega⟩
    have lc : ∃ b, itr (fun z => f_X11_standing_22 (p5 n) z.1 z.2.1 z.2.2) FU (0, 0, σ) = some b ∧ ∃ τ, b = (wyF (σ 121) n m T, τ) ∧ CS σ τ := by
      refine itr_forH (fun f z => ∃ τ, z = (wyF (σ 121) n m f, (f : Int), τ) ∧ CS σ τ) _ T (by omega) ⟨σ, rfl, CS.rf⟩ (fun f hf z hz => ?_) (fun z hz => ?_)
      · obtain ⟨τ, rfl, hC⟩ := hz
        have hv : s32 (f : Int) = f := s32_of (by omega) (by omega)
        have hb1 := hB.cs hC hm.2
        by_cases c1 : isF n m (f : Int)
        · obtain ⟨τ1, el, hL, hC1⟩ := c_lay hb1.1.1 hn.2 c1.1 (by have := c1.2.1; omega)
          have hC2 := hC.tr hC1
          obtain ⟨τ2, ew, hC3⟩ := c_waysByLots hO.1 (hB.1.cs hC2 hm.2) ((hC2.at 72 9 (by omega)).trans hF9) hL c1
          refine ⟨(wyF (σ 121) n m (f + 1), ((f + 1 : Nat) : Int), τ2), ?_, τ2, rfl, hC2.tr hC3⟩
          show f_X11_standing_22 (p5 n) (wyF (σ 121) n m f) (f : Int) τ = some (Sum.inl (wyF (σ 121) n m f + (if isF n m (f : Int) then wyS (σ 121) f n m n else 0), ((f + 1 : Nat) : Int), τ2))
          unfold f_X11_standing_22
          rw [hv, s32_of (z := p5 n) (by omega) (by omega), if_neg (by omega), c_fitAt hO.1 hb1 hv, ob_some, bi_t c1, if_neg (by decide), el, ob_some, ew, ob_some, if_pos c1]
          rfl
        · refine ⟨(wyF (σ 121) n m (f + 1), ((f + 1 : Nat) : Int), τ), ?_, τ, rfl, hC⟩
          show f_X11_standing_22 (p5 n) (wyF (σ 121) n m f) (f : Int) τ = some (Sum.inl (wyF (σ 121) n m f + (if isF n m (f : Int) then wyS (σ 121) f n m n else 0), ((f + 1 : Nat) : Int), τ))
          unfold f_X11_standing_22
          rw [hv, s32_of (z := p5 n) (by omega) (by omega), if_neg (by omega), c_fitAt hO.1 hb1 hv, ob_some, bi_f c1, if_pos s32_0, if_neg c1, Int.add_zero]
          rfl
      · obtain ⟨τ, rfl, hC⟩ := hz
        refine ⟨_, ?_, τ, rfl, hC⟩
        show f_X11_standing_22 (p5 n) (wyF (σ 121) n m T) (T : Int) τ = _
        unfold f_X11_standing_22
        rw [hT, if_pos (Int.le_refl _)]
    obtain ⟨b, eb, τ, rfl, hC⟩ := lc
    have hMt := hM.co hC.co
    have e121 : τ 121 = σ 121 := hC.co.row 121 (fun i => by unfold scr; omega)
    have lm : ∃ b, itr (fun z => f_X12_standing_14 z.1 z.2.1 z.2.2) FU (0, 0, τ) = some b ∧ ∃ u v, b = (wyF (σ 121) n m T, ab τ u v) := by
      refine itr_forH (fun f z => ∃ u v, z = (wyF (σ 121) n m f, (f : Int), ab τ u v)) _ T (by omega) ⟨τ 120 21, τ 120 22, by rw [ab_of]; rfl⟩ (fun f hf z hz => ?_) (fun z hz => ?_)
      · obtain ⟨u, v, rfl⟩ := hz
        have hv : s32 (f : Int) = f := s32_of (by omega) (by omega)
        have hM1 := hMt.co (ab_co (x := u) (y := v))
        have hi : ∃ u' v', itr (fun z => f_X12_standing_24 f z.1 z.2.1 z.2.2) FU (wyF (σ 121) n m f, 0, ab τ u v) = some (wyF (σ 121) n m f + (if isF n m (f : Int) then wyS (σ 121) f n m n else 0), ab τ u' v') := by
          by_cases c1 : isF n m (f : Int)
          · obtain ⟨u', v', e⟩ := m_ways hM1 c1 (x := wyF (σ 121) n m f)
            rw [ab_ab, ab_s, e121] at e
            rw [if_pos c1]
            exact ⟨u', v', e⟩
          · rw [if_neg c1, Int.add_zero]
            exact ⟨u, v, m_waysNo hM1 hv c1⟩
        obtain ⟨u', v', e⟩ := hi
        refine ⟨(wyF (σ 121) n m (f + 1), ((f + 1 : Nat) : Int), ab τ u' v'), ?_, u', v', rfl⟩
        show f_X12_standing_14 (wyF (σ 121) n m f) (f : Int) (ab τ u v) = some (Sum.inl (wyF (σ 121) n m f + (if isF n m (f : Int) then wyS (σ 121) f n m n else 0), ((f + 1 : Nat) : Int), ab τ u' v'))
        unfold f_X12_standing_14
        rw [m_fits hM1.1.2.2.1 hn.2, ob_some, hv, s32_of (z := p5 n) (by omega) (by omega), if_neg (by omega), e, lb_some]
        rfl
      · obtain ⟨u, v, rfl⟩ := hz
        have hM1 := hMt.co (ab_co (x := u) (y := v))
        refine ⟨_, ?_, u, v, rfl⟩
        show f_X12_standing_14 (wyF (σ 121) n m T) (T : Int) (ab τ u v) = _
        unfold f_X12_standing_14
        rw [m_fits hM1.1.2.2.1 hn.2, ob_some, hT, if_pos (Int.le_refl _)]
    obtain ⟨b, em, u, v, rfl⟩ := lm
    refine ⟨wyF (σ 121) n m T, τ, ab τ u v, ?_, ?_, (h.co hC.co).co ab_co⟩
    · rw [e1, if_neg (by decide), c_fitNumbers' hB.1.1 hn.2, ob_some, eb, lb_some]
    · rw [m_openAt hMt, ob_some, if_neg (by decide), em, lb_some]
