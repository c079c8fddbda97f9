/-! PURE 28: gain, losers -/
def mnS (s : Int → Int) (n : Nat) : Int := sumI (fun k => s (3 + k) * s (7 + k)) n
theorem mnS_in {n m : Nat} {s : Int → Int} (h : Okm n m s) {k : Nat} (hk : k ≤ n) : 0 ≤ mnS s k ∧ mnS s k ≤ 399600 := by
  have a1 := sumI_ge (a := 0) (f := fun k => s (3 + k) * s (7 + k)) (n := k) (fun i hi => by
    have q := h.2.2.2.2.2.1 i (by omega)
    exact (mul_in (a := s (3 + i)) (b := s (7 + i)) ⟨by omega, q.1.2⟩ q.2.1).1)
  have a2 := sumI_le (a := 99900) (f := fun k => s (3 + k) * s (7 + k)) (n := k) (fun i hi => by
    have q := h.2.2.2.2.2.1 i (by omega)
    have := mul_in (a := s (3 + i)) (b := s (7 + i)) ⟨by omega, q.1.2⟩ q.2.1
    omega)
  have := h.1
  unfold mnS
  omega
theorem c_meanWorth {σ : Mem} {n m : Nat} {s : Int → Int} (h : Okm n m s) (hc : CK σ n m s) : f_X4_meanWorth 10 σ = some (mnS s n, σ) := by
  have hn := h.1
  have hl : itr (fun z => f_X4_meanWorth_4 10 z.1 z.2.1 z.2.2) FU (0, 0, σ) = some (mnS s n, σ) := by
    refine itr_for0 (fun k => (mnS s k, (k : Int), σ)) n _ (by omega) (fun k hk => ?_) ?_
    · have q := hc.2.2.2.1 k hk
      have h4 := fin4 hk hn.2
      show f_X4_meanWorth_4 10 (mnS s k) (k : Int) σ = some (Sum.inl (mnS s k + s (3 + k) * s (7 + k), ((k + 1 : Nat) : Int), σ))
      unfold f_X4_meanWorth_4
      rw [hc.1, s32_of (z := (n : Int)) (by omega) (by omega), s32_of (z := (k : Int)) (by omega) (by omega), if_neg (by omega), if_pos h4, show (10 : Int) + 1 = 11 from rfl, show (10 : Int) + 2 = 12 from rfl, q.1, q.2.1]
      rfl
    · show f_X4_meanWorth_4 10 (mnS s n) (n : Int) σ = _
      unfold f_X4_meanWorth_4
      rw [hc.1, if_pos (Int.le_refl _)]
  unfold f_X4_meanWorth
  rw [hl, lb_some]
/-- what one has beside: with nothing seen in hundredths, with all seen -/
def bsd (s : Int → Int) (k : Nat) (w : Int) (n : Nat) : Int :=
  if w = 0 then (if 100 * s (11 + k) ≤ mnS s n then mnS s n else 100 * s (11 + k)) else (if s (11 + k) ≤ s (7 + k) then s (7 + k) else s (11 + k))
def gnc (w : Int) : Int := if w = 0 then 1 else 100
def gnT (W S K : Int) (s : Int → Int) (op fit : Int) (k : Nat) (w : Int) (n : Nat) : Int := (if w = 0 then 100 else 1) * gtp W S K s op fit k (dg fit k) n - bsd s k w n * gun W s fit (dg fit k) n
def gnU (W : Int) (s : Int → Int) (fit : Int) (k : Nat) (w : Int) (n : Nat) : Int := (if w = 0 then 100 else 1) * gun W s fit (dg fit k) n
theorem gnc_or (w : Int) : gnc w = 1 ∨ gnc w = 100 := by
  unfold gnc
  split
  · exact Or.inl rfl
  · exact Or.inr rfl
theorem bsd_in {n m : Nat} {s : Int → Int} (h : Okm n m s) {k : Nat} (hk : k < n) (w : Int) : 0 ≤ bsd s k w n ∧ bsd s k w n ≤ 399600 := by
  have a := mnS_in h (Nat.le_refl n)
  have q := h.2.2.2.2.2.1 k hk
  unfold bsd
  (repeat' split) <;> omega
theorem gnT_in {n m : Nat} {s : Int → Int} (h : Okm n m s) {W S K : Int} (hw : WSK W S K) (op : Int) {fit : Int} (hF : isF n m fit) {k : Nat} (hk : k < n) (w : Int) : -300000000000 ≤ gnT W S K s op fit k w n ∧ gnT W S K s op fit k w n ≤ 300000000000 := by
  have hdg := isF_dg hF hk
  have g1 := gtp_in h hw op fit hk hdg
  have g2 := gun_in h hw fit (dg fit k)
  have b := bsd_in h hk w
  have c := mul_in (a := bsd s k w n) (b := gun W s fit (dg fit k) n) b ⟨by omega, g2.2⟩
  unfold gnT
  split <;> omega
theorem gnU_in {n m : Nat} {s : Int → Int} (h : Okm n m s) {W S K : Int} (hw : WSK W S K) (fit : Int) (k : Nat) (w : Int) : 1 ≤ gnU W s fit k w n ∧ gnU W s fit k w n ≤ 4000000 := by
  have g2 := gun_in h hw fit (dg fit k)
  unfold gnU
  split <;> omega
theorem c_gainTop {σ : Mem} {n m : Nat} {s : Int → Int} {op fit W S K : Int} (h : Okm n m s) (hg : CG σ n m s op fit W S K) (hF : isF n m fit) {k : Nat} (hk : k < n) {w : Int} (hw : w = 0 ∨ w = 1) : f_X7_gainTop k w σ = some (gnc w * gnT W S K s op fit k w n, σ) := by
  have hn := h.1
  have h4 := fin4 hk hn.2
  have q := h.2.2.2.2.2.1 k hk
  have qc := hg.1.2.2.2.1 k hk
  have a := mnS_in h (Nat.le_refl n)
  unfold f_X7_gainTop gnT gnc bsd mx64
  rcases hw with rfl | rfl
  · rw [if_pos s32_0, c_meanWorth h hg.1, ob_some, s32_of (z := (k : Int)) (by omega) (by omega), if_pos h4, qc.2.2]
    simp only [vl, ↓reduceIte]
    rw [c_ownTop h hg hF hk, ob_some, c_ownUnder h hg hF hk, ob_some, s32_of (z := mnS s n) (by omega) (by omega), s32_of (z := 100 * s (11 + (k : Int))) (by omega) (by omega), s64_of (z := mnS s n) (by omega) (by omega), s64_of (z := 100 * s (11 + (k : Int))) (by omega) (by omega), Int.one_mul]
    congr 3
    congr 1
    by_cases e : 100 * s (11 + (k : Int)) ≤ mnS s n
    · rw [if_pos e]
      split <;> omega
    · rw [if_neg e, if_neg (by omega)]
  · have e1 : ¬ s32 1 = 0 := by decide
    have e2 : ¬ (1 : Int) = 0 := by decide
    rw [if_neg e1, s32_of (z := (k : Int)) (by omega) (by omega), if_pos h4, qc.2.2, qc.2.1]
    simp only [vl]
    rw [c_ownTop h hg hF hk, ob_some, c_ownUnder h hg hF hk, ob_some, s32_of (z := 100 * s (7 + (k : Int))) (by omega) (by omega), s32_of (z := 100 * s (11 + (k : Int))) (by omega) (by omega), s64_of (z := 100 * s (7 + (k : Int))) (by omega) (by omega), s64_of (z := 100 * s (11 + (k : Int))) (by omega) (by omega), if_neg e2, if_neg e2, if_neg e2, Int.one_mul, Int.mul_sub]
    congr 3
    rw [← Int.mul_assoc]
    congr 1
    by_cases e : s (11 + (k : Int)) ≤ s (7 + (k : Int))
    · rw [if_pos e]
      split <;> omega
    · rw [if_neg e, if_neg (by omega)]
theorem c_gainUnder {σ : Mem} {n m : Nat} {s : Int → Int} {op fit W S K : Int} (h : Okm n m s) (hg : CG σ n m s op fit W S K) (hF : isF n m fit) {k : Nat} (hk : k < n) {w : Int} (hw : w = 0 ∨ w = 1) : f_X7_gainUnder k σ = some (gnc w * gnU W s fit k w n, σ) := by
  unfold f_X7_gainUnder gnU gnc
  rw [c_ownUnder h hg hF hk, ob_some]
  rcases hw with rfl | rfl
  · rw [if_pos rfl, if_pos rfl, Int.one_mul]
  · rw [if_neg (by decide), if_neg (by decide), Int.one_mul]
theorem m_findGain {σ : Mem} {n m : Nat} (h : Okm n m (σ 121)) {W S K : Int} (hd : Md σ W S K) {fit : Int} (hF : isF n m fit) {k : Nat} (hk : k < n) {w : Int} (hw : w = 0 ∨ w = 1) (x y : Int) : f_X12_findGain fit k w (ab σ x y) = some (0, ab σ (gnT W S K (σ 121) (s32 (σ 120 18)) fit k w n) (gnU W (σ 121) fit k w n)) := by
  have hn := h.1
  have p4 := p5_in n hn.2
  have f1 : fit ≤ 2147483647 := by have := hF.2.1; omega
  have k4 : k ≤ 4 := by omega
  have q := h.2.2.2.2.2.1 k hk
  have a := mnS_in h (Nat.le_refl n)
  have t7 : 0 ≤ 7 + (k : Int) ∧ 7 + (k : Int) < 39 := by omega
  have t11 : 0 ≤ 11 + (k : Int) ∧ 11 + (k : Int) < 39 := by omega
  unfold f_X12_findGain
  rw [m_made hF.1 f1 k4, ob_some, m_findGets_ab h hd hF.1 f1 hk (isF_dg hF hk), ob_some, s32_of (z := 7 + (k : Int)) (by omega) (by omega), if_pos t7, ab_s, s32_of (z := σ 121 (7 + (k : Int))) (by omega) (by omega)]
  unfold gnT gnU bsd
  rcases hw with rfl | rfl
  · have hl : ∀ u v : Int, itr (fun z => f_X12_findGain_41 k 100 z.1 z.2.1 z.2.2) FU (0, 0, ab σ u v) = some (mnS (σ 121) n, ab σ u v) := fun u v => by
      refine itr_for0 (fun i => (mnS (σ 121) i, (i : Int), ab σ u v)) n _ (by omega) (fun i hi => ?_) ?_
      · have q := h.2.2.2.2.2.1 i hi
        have t3 : 0 ≤ 3 + (i : Int) ∧ 3 + (i : Int) < 39 := by omega
        have t7 : 0 ≤ 7 + (i : Int) ∧ 7 + (i : Int) < 39 := by omega
        show f_X12_findGain_41 k 100 (mnS (σ 121) i) (i : Int) (ab σ u v) = some (Sum.inl (mnS (σ 121) i + σ 121 (3 + i) * σ 121 (7 + i), ((i + 1 : Nat) : Int), ab σ u v))
        unfold f_X12_findGain_41
        rw [ab_s, h.2.2.1, s32_of (z := (n : Int)) (by omega) (by omega), s32_of (z := (i : Int)) (by omega) (by omega), if_neg (by omega), s32_of (z := 3 + (i : Int)) (by omega) (by omega), if_pos t3, s32_of (z := 7 + (i : Int)) (by omega) (by omega), if_pos t7, s32_of (z := σ 121 (3 + (i : Int))) (by omega) (by omega), s32_of (z := σ 121 (7 + (i : Int))) (by omega) (by omega)]
        rfl
      · show f_X12_findGain_41 k 100 (mnS (σ 121) n) (n : Int) (ab σ u v) = _
        unfold f_X12_findGain_41
        rw [ab_s, h.2.2.1, if_pos (Int.le_refl _)]
    simp only [vl, ↓reduceIte]
    rw [if_pos s32_0, hl, lb_some]
    simp only [stp, ab_s, ab_21, ab_22, ab_u1, ab_u2]
    rw [s32_of (z := 11 + (k : Int)) (by omega) (by omega), if_pos t11, s32_of (z := σ 121 (11 + (k : Int))) (by omega) (by omega), s64_of (z := σ 121 (11 + (k : Int)) * 100) (by omega) (by omega), s64_of (z := mnS (σ 121) n) (by omega) (by omega)]
    by_cases e : 100 * σ 121 (11 + (k : Int)) ≤ mnS (σ 121) n
    · rw [if_pos e, if_pos (by omega), Int.mul_comm _ 100, Int.mul_comm _ 100]
    · rw [if_neg e, if_neg (by omega), Int.mul_comm _ 100, Int.mul_comm _ 100, Int.mul_comm _ 100]
  · have e1 : ¬ s32 1 = 0 := by decide
    have e2 : ¬ (1 : Int) = 0 := by decide
    simp only [vl]
    rw [if_neg e1, if_neg e2, if_neg e2]
    simp only [stp, ab_s, ab_21, ab_22, ab_u1, ab_u2, Int.mul_one, Int.one_mul]
    rw [s32_of (z := 11 + (k : Int)) (by omega) (by omega), if_pos t11, s32_of (z := σ 121 (11 + (k : Int))) (by omega) (by omega), s64_of (z := σ 121 (11 + (k : Int))) (by omega) (by omega), s64_of (z := σ 121 (7 + (k : Int))) (by omega) (by omega)]
    by_cases e : σ 121 (11 + (k : Int)) ≤ σ 121 (7 + (k : Int))
    · rw [if_pos e, if_pos e]
    · rw [if_neg e, if_neg e]
theorem op_gain {σ : Mem} (h : Rel σ) {v w x b : Int} (hv : s32 v = v) (hw : s32 w = w) (hx : s32 x = x) (hb : s32 b = b) : Op σ (f_X11_gain v w x b) (f_X12_gain v w x b) := by
  unfold Op f_X11_gain f_X12_gain
  by_cases q : σ 0 6 = 0
  · refine ⟨-4611686018427387904, σ, σ, ?_, ?_, h⟩
    · rw [q, if_pos s32_0]
    · rw [m_closed h q, ob_some, if_pos s32_0]
  · obtain ⟨e1, n, m, hO, hB, hM, e6, e7⟩ := h.mk2 q
    have hn := hO.1.1
    have hm := hO.1.2.1
    rw [e1, if_neg (by decide), c_fitAt hO.1 hB hv, ob_some]
    by_cases c1 : isF n m v
    · rw [bi_t c1, if_neg (by decide), c_sortAt hO.1 hB hw, ob_some]
      by_cases c2 : 0 ≤ w ∧ w < (n : Int)
      · rw [bi_t c2, if_neg (by decide), c_isBit' hx, ob_some]
        by_cases c4 : x = 0 ∨ x = 1
        · rw [bi_t c4, if_neg (by decide), c_isBit' hb, ob_some]
          by_cases c3 : b = 0 ∨ b = 1
          · obtain ⟨σ1, ew, hg, hB1, hC⟩ := c_weighed hO.1 hB c1
            rw [e6, s32_0] at hg
            have hM1 := hM.co hC.co
            have e121 : σ1 121 = σ 121 := hC.co.row 121 (fun i => by unfold scr; omega)
            obtain ⟨k, hk, rfl⟩ : ∃ k : Nat, k < n ∧ w = k := ⟨w.toNat, by clear hv hw hx hb; omega, by clear hv hw hx hb; omega⟩
            have g1 := gnT_in hO.1 wsk1 0 c1 hk x
            have g2 := gnU_in hO.1 wsk1 v k x
            obtain ⟨r, hr⟩ := two_told_c (x := gnT 1 1 0 (σ 121) 0 v k x n) (y := gnU 1 (σ 121) v k x n) (v := b) (gnc_or x) (by clear hv hw hx hb; omega) (by clear hv hw hx hb; omega)
            refine ⟨r, σ1, ab σ1 (gnT 1 1 0 (σ 121) 0 v k x n) (gnU 1 (σ 121) v k x n), ?_, ?_, (h.co hC.co).co ab_co⟩
            · rw [bi_t c3, if_neg (by decide), ew, ob_some, c_gainTop hO.1 hg c1 hk c4, ob_some, c_gainUnder hO.1 hg c1 hk c4, ob_some, (hr _ σ1).1, ob_some]
            · have ep := m_findGain (σ := σ1) hM1.1 hM1.2.1 c1 hk c4 (σ1 120 21) (σ1 120 22)
              rw [ab_of, e121, hM1.2.2.2, s32_0] at ep
              rw [m_openAt hM1, ob_some, if_neg (by decide), m_fitAt hM1 hv, ob_some, bi_t c1, if_neg (by decide), m_sortAt hM1 hw, ob_some, bi_t c2, if_neg (by decide), m_bitAt hx, ob_some, bi_t c4, if_neg (by decide), m_bitAt hb, ob_some, bi_t c3, if_neg (by decide), ep, ob_some, ab_21, ab_22, (hr σ _).2, ob_some]
          · rw [bi_f c3]
            refine ⟨-4611686018427387904, σ, σ, by rw [if_pos s32_0], ?_, h⟩
            rw [m_openAt hM, ob_some, if_neg (by decide), m_fitAt hM hv, ob_some, bi_t c1, if_neg (by decide), m_sortAt hM hw, ob_some, bi_t c2, if_neg (by decide), m_bitAt hx, ob_some, bi_t c4, if_neg (by decide), m_bitAt hb, ob_some, bi_f c3, if_pos s32_0]
        · rw [bi_f c4]
          refine ⟨-4611686018427387904, σ, σ, by rw [if_pos s32_0], ?_, h⟩
          rw [m_openAt hM, ob_some, if_neg (by decide), m_fitAt hM hv, ob_some, bi_t c1, if_neg (by decide), m_sortAt hM hw, ob_some, bi_t c2, if_neg (by decide), m_bitAt hx, ob_some, bi_f c4, if_pos s32_0]
      · rw [bi_f c2]
        refine ⟨-4611686018427387904, σ, σ, by rw [if_pos s32_0], ?_, h⟩
        rw [m_openAt hM, ob_some, if_neg (by decide), m_fitAt hM hv, ob_some, bi_t c1, if_neg (by decide), m_sortAt hM hw, ob_some, bi_f c2, if_pos s32_0]
    · rw [bi_f c1]
      refine ⟨-4611686018427387904, σ, σ, by rw [if_pos s32_0], ?_, h⟩
      rw [m_openAt hM, ob_some, if_neg (by decide), m_fitAt hM hv, ob_some, bi_f c1, if_pos s32_0]
/-- who loses, as bits -/
def lsr (s : Int → Int) (fit w : Int) (n : Nat) : Nat → Int
  | 0 => 0
  | k + 1 => if 0 ≤ gnT 1 1 0 s 0 fit k w n then lsr s fit w n k else or32 (lsr s fit w n k) (shl32 1 k)
theorem lsr_in (s : Int → Int) (fit w : Int) (n : Nat) : ∀ k : Nat, k ≤ 4 → 0 ≤ lsr s fit w n k ∧ lsr s fit w n k < 16
  | 0, _ => ⟨Int.le_refl _, show (0 : Int) < 16 by decide⟩
  | k + 1, hk => by
    have ih := lsr_in s fit w n k (by omega)
    unfold lsr
    split
    · exact ih
    · exact (bt_set (p := (k : Int)) (j := 0) ih (by omega) (by omega)).2
theorem or_0' : ∀ x : Nat, x < 16 → or32 x 0 = x := by decide +kernel
theorem or_0 {x : Int} (h : 0 ≤ x ∧ x < 16) : or32 x 0 = x := by
  obtain ⟨a, ha, rfl⟩ := nat_lt_cases h
  exact or_0' a ha
theorem gnc_sign {w x : Int} (h : -300000000000 ≤ x ∧ x ≤ 300000000000) : 0 ≤ s64 (gnc w * x) ↔ 0 ≤ x := by
  rcases gnc_or w with e | e <;> rw [e, s64_of (by omega) (by omega)] <;> omega
theorem op_losers {σ : Mem} (h : Rel σ) {v x : Int} (hv : s32 v = v) (hx : s32 x = x) : Op σ (f_X11_losers v x) (f_X12_losers v x) := by
  unfold Op f_X11_losers f_X12_losers f_X11_fitFault
  by_cases q : σ 0 6 = 0
  · refine ⟨-3, σ, σ, ?_, ?_, h⟩
    · rw [q, if_pos s32_0, ob_some, if_neg (by decide)]
    · rw [m_closed h q, ob_some, if_pos s32_0]
  · obtain ⟨e1, n, m, hO, hB, hM, e6, e7⟩ := h.mk2 q
    have hn := hO.1.1
    have hm := hO.1.2.1
    rw [e1, if_neg (by decide), c_fitAt hO.1 hB hv, ob_some]
    by_cases c1 : isF n m v
    · rw [bi_t c1, if_neg (by decide), ob_some, if_pos s32_0, c_isBit' hx, ob_some]
      by_cases c4 : x = 0 ∨ x = 1
      · obtain ⟨σ1, ew, hg, hB1, hC⟩ := c_weighed hO.1 hB c1
        rw [e6, s32_0] at hg
        have hM1 := hM.co hC.co
        have e121 : σ1 121 = σ 121 := hC.co.row 121 (fun i => by unfold scr; omega)
        have lc : itr (fun z => f_X11_losers_35 x z.1 z.2.1 z.2.2) FU (0, 0, σ1) = some (lsr (σ 121) v x n n, σ1) := by
          refine itr_for0 (fun k => (lsr (σ 121) v x n k, (k : Int), σ1)) n _ (by omega) (fun k hk => ?_) ?_
          · have g1 := gnT_in hO.1 wsk1 0 c1 hk x
            show f_X11_losers_35 x (lsr (σ 121) v x n k) (k : Int) σ1 = some (Sum.inl ((if 0 ≤ gnT 1 1 0 (σ 121) 0 v k x n then lsr (σ 121) v x n k else or32 (lsr (σ 121) v x n k) (shl32 1 k)), ((k + 1 : Nat) : Int), σ1))
            unfold f_X11_losers_35
            rw [hg.1.1, s32_of (z := (n : Int)) (by clear hv hx; omega) (by clear hv hx; omega), s32_of (z := (k : Int)) (by clear hv hx; omega) (by clear hv hx; omega), if_neg (by clear hv hx; omega), c_gainTop hO.1 hg c1 hk c4, ob_some]
            by_cases e : 0 ≤ gnT 1 1 0 (σ 121) 0 v k x n
            · rw [if_pos e, if_pos ((gnc_sign g1).mpr e)]
              rfl
            · rw [if_neg e, if_neg (fun z => e ((gnc_sign g1).mp z))]
              rfl
          · show f_X11_losers_35 x (lsr (σ 121) v x n n) (n : Int) σ1 = _
            unfold f_X11_losers_35
            rw [hg.1.1, if_pos (Int.le_refl _)]
        have lm : ∃ b, itr (fun z => f_X12_losers_35 v x z.1 z.2.1 z.2.2) FU (0, 0, σ1) = some b ∧ ∃ u y, b = (lsr (σ 121) v x n n, ab σ1 u y) := by
          refine itr_forH (fun k z => ∃ u y, z = (lsr (σ 121) v x n k, (k : Int), ab σ1 u y)) _ n (by clear hv hx; omega) ⟨σ1 120 21, σ1 120 22, by rw [ab_of]; rfl⟩ (fun k hk z hz => ?_) (fun z hz => ?_)
          · obtain ⟨u, y, rfl⟩ := hz
            have g1 := gnT_in hO.1 wsk1 0 c1 hk x
            have li := lsr_in (σ 121) v x n k (by clear hv hx; omega)
            have ep := m_findGain (σ := σ1) hM1.1 hM1.2.1 c1 hk c4 u y
            rw [e121, hM1.2.2.2, s32_0] at ep
            refine ⟨(lsr (σ 121) v x n (k + 1), ((k + 1 : Nat) : Int), ab σ1 (gnT 1 1 0 (σ 121) 0 v k x n) (gnU 1 (σ 121) v k x n)), ?_, _, _, rfl⟩
            show f_X12_losers_35 v x (lsr (σ 121) v x n k) (k : Int) (ab σ1 u y) = some (Sum.inl ((if 0 ≤ gnT 1 1 0 (σ 121) 0 v k x n then lsr (σ 121) v x n k else or32 (lsr (σ 121) v x n k) (shl32 1 k)), ((k + 1 : Nat) : Int), ab σ1 (gnT 1 1 0 (σ 121) 0 v k x n) (gnU 1 (σ 121) v k x n)))
            unfold f_X12_losers_35
            rw [ab_s, e121, hO.1.2.2.1, s32_of (z := (n : Int)) (by clear hv hx; omega) (by clear hv hx; omega), s32_of (z := (k : Int)) (by clear hv hx; omega) (by clear hv hx; omega), if_neg (by clear hv hx; omega), ep, ob_some, ab_21, s64_of (z := gnT 1 1 0 (σ 121) 0 v k x n) (by clear hv hx; omega) (by clear hv hx; omega), or_0 li]
            by_cases e : 0 ≤ gnT 1 1 0 (σ 121) 0 v k x n
            · rw [if_pos e, if_pos e]
              rfl
            · rw [if_neg e, if_neg e]
              rfl
          · obtain ⟨u, y, rfl⟩ := hz
            refine ⟨_, ?_, u, y, rfl⟩
            show f_X12_losers_35 v x (lsr (σ 121) v x n n) (n : Int) (ab σ1 u y) = _
            unfold f_X12_losers_35
            rw [ab_s, e121, hO.1.2.2.1, if_pos (Int.le_refl _)]
        obtain ⟨b, eb, u, y, rfl⟩ := lm
        refine ⟨lsr (σ 121) v x n n, σ1, ab σ1 u y, ?_, ?_, (h.co hC.co).co ab_co⟩
        · rw [bi_t c4, if_neg (by decide), ew, ob_some, lc, lb_some]
        · rw [m_openAt hM1, ob_some, if_neg (by decide), m_fitAt hM1 hv, ob_some, bi_t c1, if_neg (by decide), m_bitAt hx, ob_some, bi_t c4, if_neg (by decide), eb, lb_some]
      · refine ⟨-1, σ, σ, by rw [bi_f c4, if_pos s32_0], ?_, h⟩
        rw [m_openAt hM, ob_some, if_neg (by decide), m_fitAt hM hv, ob_some, bi_t c1, if_neg (by decide), m_bitAt hx, ob_some, bi_f c4, if_pos s32_0]
    · refine ⟨-1, σ, σ, ?_, ?_, h⟩
      · rw [bi_f c1, if_pos s32_0, ob_some, if_neg (by decide)]
      · rw [m_openAt hM, ob_some, if_neg (by decide), m_fitAt hM hv, ob_some, bi_f c1, if_pos s32_0]
