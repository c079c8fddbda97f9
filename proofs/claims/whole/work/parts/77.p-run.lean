/-! PURE 37: run, count -/
def cm (s : Int → Int) (k : Nat) : Int := sumI (fun k => s (3 + k)) k
theorem cm_in {n m : Nat} {s : Int → Int} (h : Okm n m s) : ∀ k : Nat, k ≤ n → 0 ≤ cm s k ∧ cm s k ≤ 100 * (k : Int)
  | 0, _ => by simp [cm, sumI]
  | k + 1, hk => by
    have ih := cm_in h k (by omega)
    have q := (h.2.2.2.2.2.1 k (by omega)).1
    have e : cm s (k + 1) = cm s k + s (3 + k) := rfl
    rw [e]
    omega
/-- the sort that is drawn -/
def sdP (s : Int → Int) (d : Int) (k : Nat) : Bool := decide (d < cm s (k + 1))
def sd (s : Int → Int) (d : Int) (n : Nat) : Nat := match fst? (sdP s d) 0 (n - 1) with | some j => j | none => n - 1
theorem sd_lt {s : Int → Int} {d : Int} {n : Nat} (hn : 1 ≤ n) : sd s d n < n := by
  unfold sd
  split
  · rename_i j hj
    have := (fst?_some hj).2.1
    omega
  · omega
theorem c_sortDrawn {σ : Mem} {n m : Nat} {s : Int → Int} (h : Okx n m s) (hc : CK σ n m s) {d : Int} (hd : 0 ≤ d ∧ d < 100) : f_X4_sortDrawn 10 d σ = some (((sd s d n : Nat) : Int), σ) := by
  have hn := h.1.1
  have body : ∀ k : Nat, k < n → f_X4_sortDrawn_4 10 d (cm s k) (k : Int) σ = (if sdP s d k = true then some (.inr (.inl ((k : Int), σ))) else some (.inl (cm s (k + 1), (k : Int) + 1, σ))) := by
    intro k hk
    have q := (hc.2.2.2.1 k hk).1
    have h4 := fin4 hk hn.2
    have c1 := cm_in h.1 (k + 1) (by omega)
    have e : cm s (k + 1) = cm s k + s (3 + k) := rfl
    unfold f_X4_sortDrawn_4
    rw [hc.1, s32_of (z := (n : Int)) (by omega) (by omega), s32_of (z := (k : Int)) (by omega) (by omega), if_neg (by omega), if_pos h4, show (10 : Int) + 1 = 11 from rfl, q, ← e]
    simp only [vl]
    rw [s32_of (z := cm s (k + 1)) (by omega) (by omega), s32_of (z := d) (by omega) (by omega)]
    by_cases c : d < cm s (k + 1)
    · rw [if_neg (by omega), if_pos (show sdP s d k = true from decide_eq_true c)]
    · rw [if_pos (by omega), if_neg (show ¬ sdP s d k = true from fun z => c (of_decide_eq_true z))]
  have last : sdP s d (n - 1) = true := by
    refine decide_eq_true ?_
    rw [show n - 1 + 1 = n by omega]
    have : cm s n = 100 := h.2.1
    omega
  have hl := itr_fst0 (f := fun z : Int × Int × Mem => f_X4_sortDrawn_4 10 d z.1 z.2.1 z.2.2) (sdP s d) (fun k => (cm s k, (k : Int), σ)) (n - 1) (fun k => Sum.inl ((k : Int), σ)) (Sum.inl (((n - 1 : Nat) : Int), σ)) (by omega) (fun k hk hp => by
    show f_X4_sortDrawn_4 10 d (cm s k) (k : Int) σ = _
    rw [body k (by omega), if_neg (by rw [hp]; decide)]
    rfl) (fun k hk hp => by
    show f_X4_sortDrawn_4 10 d (cm s k) (k : Int) σ = _
    rw [body k (by omega), if_pos hp]) (by
    show f_X4_sortDrawn_4 10 d (cm s (n - 1)) ((n - 1 : Nat) : Int) σ = _
    rw [body (n - 1) (by omega), if_pos last])
  unfold f_X4_sortDrawn sd
  cases hf : fst? (sdP s d) 0 (n - 1) with
  | some j =>
    rw [hf] at hl
    rw [show itr (fun z : Int × Int × Mem => f_X4_sortDrawn_4 10 d z.1 z.2.1 z.2.2) FU (0, 0, σ) = some (Sum.inl ((j : Int), σ)) from hl, lb_some, Sum.elim_inl]
  | none =>
    rw [hf] at hl
    rw [show itr (fun z : Int × Int × Mem => f_X4_sortDrawn_4 10 d z.1 z.2.1 z.2.2) FU (0, 0, σ) = some (Sum.inl (((n - 1 : Nat) : Int), σ)) from hl, lb_some, Sum.elim_inl]
theorem m_drawnSort {σ : Mem} {n m : Nat} (h : Okx n m (σ 121)) {d : Int} (hd : 0 ≤ d ∧ d < 100) (p1 p2 p4 p5 p6 p7 : Int) : itr (fun z => f_X12_run_87 p1 p2 p4 p5 p6 p7 z.1 z.2.1 z.2.2) FU (d, 0, σ) = some (((sd (σ 121) d n : Nat) : Int), σ) := by
  have hn := h.1.1
  have body : ∀ k : Nat, k < n → f_X12_run_87 p1 p2 p4 p5 p6 p7 (d - cm (σ 121) k) (k : Int) σ = (if sdP (σ 121) d k = true then some (.inr ((k : Int), σ)) else some (.inl (d - cm (σ 121) (k + 1), (k : Int) + 1, σ))) := by
    intro k hk
    have q := (h.1.2.2.2.2.2.1 k hk).1
    have t3 : 0 ≤ 3 + (k : Int) ∧ 3 + (k : Int) < 39 := by omega
    have c0 := cm_in h.1 k (by omega)
    have c1 := cm_in h.1 (k + 1) (by omega)
    have e : cm (σ 121) (k + 1) = cm (σ 121) k + σ 121 (3 + k) := rfl
    unfold f_X12_run_87
    rw [s32_of (z := 3 + (k : Int)) (by omega) (by omega), if_pos t3, s32_of (z := d - cm (σ 121) k) (by omega) (by omega), s32_of (z := σ 121 (3 + (k : Int))) (by omega) (by omega)]
    by_cases c : d < cm (σ 121) (k + 1)
    · rw [if_pos (by omega), if_pos (show sdP (σ 121) d k = true from decide_eq_true c)]
    · rw [if_neg (by omega), if_neg (show ¬ sdP (σ 121) d k = true from fun z => c (of_decide_eq_true z)), e, ← Int.sub_sub]
  have last : sdP (σ 121) d (n - 1) = true := by
    refine decide_eq_true ?_
    rw [show n - 1 + 1 = n by omega]
    have : cm (σ 121) n = 100 := h.2.1
    omega
  have hl := itr_fst0 (f := fun z : Int × Int × Mem => f_X12_run_87 p1 p2 p4 p5 p6 p7 z.1 z.2.1 z.2.2) (sdP (σ 121) d) (fun k => (d - cm (σ 121) k, (k : Int), σ)) (n - 1) (fun k => ((k : Int), σ)) ((((n - 1 : Nat) : Int), σ)) (by omega) (fun k hk hp => by
    show f_X12_run_87 p1 p2 p4 p5 p6 p7 (d - cm (σ 121) k) (k : Int) σ = _
    rw [body k (by omega), if_neg (by rw [hp]; decide)]
    rfl) (fun k hk hp => by
    show f_X12_run_87 p1 p2 p4 p5 p6 p7 (d - cm (σ 121) k) (k : Int) σ = _
    rw [body k (by omega), if_pos hp]) (by
    show f_X12_run_87 p1 p2 p4 p5 p6 p7 (d - cm (σ 121) (n - 1)) ((n - 1 : Nat) : Int) σ = _
    rw [body (n - 1) (by omega), if_pos last])
  have e0 : d - cm (σ 121) 0 = d := Int.sub_zero d
  unfold sd
  cases hf : fst? (sdP (σ 121) d) 0 (n - 1) with
  | some j =>
    rw [hf, e0] at hl
    exact hl
  | none =>
    rw [hf, e0] at hl
    exact hl
/-- the seeds, and what is drawn by them -/
def sdz (z : Int) : Nat → Int
  | 0 => z
  | i + 1 => sdz z i * 1103515245 + 12345
def dwn (w : Int) : Int := (s32 ((s32 (and32 w 2147483647)).tdiv 65536)).tmod 100
theorem and_pos (w : Int) : 0 ≤ and32 w 2147483647 ∧ and32 w 2147483647 ≤ 2147483647 := by
  unfold and32
  have h1 : (iI w &&& iI 2147483647).toInt = ((iI w).toBitVec &&& 2147483647#32).toInt := rfl
  have h2 : ((iI w).toBitVec &&& 2147483647#32).msb = false := by
    rw [BitVec.msb_and]
    have : (2147483647#32).msb = false := by decide
    rw [this, Bool.and_false]
  rw [h1, BitVec.toInt_eq_toNat_of_msb h2]
  have h3 : ((iI w).toBitVec &&& 2147483647#32).toNat ≤ 2147483647 := by
    rw [BitVec.toNat_and]
    exact Nat.and_le_right
  omega
theorem dwn_in (w : Int) : 0 ≤ dwn w ∧ dwn w < 100 := by
  have h := and_pos w
  unfold dwn
  rw [s32_of (z := and32 w 2147483647) (by omega) (by omega), Int.tdiv_eq_ediv_of_nonneg h.1, s32_of (by omega) (by omega), Int.tmod_eq_emod_of_nonneg (by omega)]
  omega
def rnC (s : Int → Int) (fit z mk : Int) (n : Nat) : Nat → Int
  | 0 => 0
  | i + 1 => rnC s fit z mk n i + (if dg fit (sd s (dwn (sdz z (i + 1))) n) = mk then 1 else 0)
theorem op_run {σ : Mem} (h : Rel σ) {v w x y : Int} (hv : s32 v = v) (hw : s32 w = w) (hx : s32 x = x) (hy : s32 y = y) : Op σ (f_X11_run v w x y) (f_X12_run v w x y) := by
  have w1 := s32_lo w
  have w2 := s32_hi w
  rw [hw] at w1 w2
  have y1 := s32_lo y
  have y2 := s32_hi y
  rw [hy] at y1 y2
  unfold Op f_X11_run f_X12_run
  by_cases q : σ 0 6 = 0
  · refine ⟨-3, σ, σ, ?_, ?_, h⟩
    · rw [q, if_pos s32_0]
    · rw [m_closed h q, ob_some, if_pos s32_0]
  · obtain ⟨e1, n, m, hO, hB, hM, e6, e7⟩ := h.mk2 q
    have hn := hO.1.1
    have hm := hO.1.2.1
    rw [e1, if_neg (by decide), c_fitAt hO.1 hB hv, ob_some, hw, hy]
    by_cases c1 : isF n m v
    · rw [bi_t c1, if_neg (by decide)]
      by_cases c2 : 1 ≤ w ∧ w ≤ 99
      · rw [if_neg (show ¬ w < 1 by clear hv hw hx hy; omega), if_neg (show ¬ 99 < w by clear hv hw hx hy; omega)]
        by_cases c3 : 0 ≤ y ∧ y ≤ 4
        · rw [if_neg (show ¬ y < 0 by clear hv hw hx hy; omega), if_pos c3.2]
          have p4 := p5_in n hn.2
          have f1 : v ≤ 2147483647 := by have := c1.2.1; clear hv hw hx hy; omega
          obtain ⟨σ1, el, hL, hC⟩ := c_lay hB.1.1 hn.2 c1.1 f1
          have hM1 := hM.co hC.co
          have hc1 := hB.1.cs hC hm.2
          have e121 : σ1 121 = σ 121 := hC.co.row 121 (fun i => by unfold scr; omega)
          obtain ⟨N, rfl⟩ : ∃ N : Nat, w = N := ⟨w.toNat, by clear hv hw hx hy; omega⟩
          have sd4 : ∀ d, sd (σ 121) d n < n := fun d => sd_lt hn.1
          have lc : itr (fun z => f_X11_run_62 N y z.1 z.2.1 z.2.2.1 z.2.2.2) FU (x, 0, 0, σ1) = some (rnC (σ 121) v x y n N, σ1) := by
            refine itr_for0 (fun i => (sdz x i, rnC (σ 121) v x y n i, (i : Int), σ1)) N _ (by clear hv hw hx hy; omega) (fun i hi => ?_) ?_
            · have hdg := dg_in v (sd (σ 121) (dwn (sdz x (i + 1))) n)
              have s4 := fin4 (sd4 (dwn (sdz x (i + 1)))) hn.2
              show f_X11_run_62 N y (sdz x i) (rnC (σ 121) v x y n i) (i : Int) σ1 = some (Sum.inl (sdz x (i + 1), rnC (σ 121) v x y n i + (if dg v (sd (σ 121) (dwn (sdz x (i + 1))) n) = y then 1 else 0), ((i + 1 : Nat) : Int), σ1))
              unfold f_X11_run_62
              rw [hw, s32_of (z := (i : Int)) (by clear hv hw hx hy; omega) (by clear hv hw hx hy; omega), if_neg (by clear hv hw hx hy; omega)]
              show ob (f_X4_sortDrawn 10 (dwn (sdz x (i + 1))) σ1) _ = _
              rw [c_sortDrawn hO hc1 (dwn_in _), ob_some, s32_of (z := ((sd (σ 121) (dwn (sdz x (i + 1))) n : Nat) : Int)) (by clear hv hw hx hy; omega) (by clear hv hw hx hy; omega), if_pos s4, hL.1 _ (sd4 _), s32_of (z := dg v (sd (σ 121) (dwn (sdz x (i + 1))) n)) (by clear hv hw hx hy; omega) (by clear hv hw hx hy; omega), hy]
              by_cases c : dg v (sd (σ 121) (dwn (sdz x (i + 1))) n) = y
              · rw [if_pos c, if_pos c]
                rfl
              · rw [if_neg c, if_neg c, Int.add_zero]
                rfl
            · show f_X11_run_62 N y (sdz x N) (rnC (σ 121) v x y n N) (N : Int) σ1 = _
              unfold f_X11_run_62
              rw [if_pos (Int.le_refl _)]
          have lm : itr (fun z => f_X12_run_54 v N y z.1 z.2.1 z.2.2.1 z.2.2.2) FU (x, 0, 0, σ1) = some (rnC (σ 121) v x y n N, σ1) := by
            refine itr_for0 (fun i => (sdz x i, rnC (σ 121) v x y n i, (i : Int), σ1)) N _ (by clear hv hw hx hy; omega) (fun i hi => ?_) ?_
            · have hdg := dg_in v (sd (σ 121) (dwn (sdz x (i + 1))) n)
              have s4 : sd (σ 121) (dwn (sdz x (i + 1))) n ≤ 4 := by have := sd4 (dwn (sdz x (i + 1))); clear hv hw hx hy; omega
              have ed := fun p5 p6 p7 => m_drawnSort (σ := σ1) (n := n) (m := m) (by rw [e121]; exact hO) (dwn_in (sdz x (i + 1))) v N y p5 p6 p7
              rw [e121] at ed
              show f_X12_run_54 v N y (sdz x i) (rnC (σ 121) v x y n i) (i : Int) σ1 = some (Sum.inl (sdz x (i + 1), rnC (σ 121) v x y n i + (if dg v (sd (σ 121) (dwn (sdz x (i + 1))) n) = y then 1 else 0), ((i + 1 : Nat) : Int), σ1))
              unfold f_X12_run_54
              rw [hw, s32_of (z := (i : Int)) (by clear hv hw hx hy; omega) (by clear hv hw hx hy; omega), if_neg (by clear hv hw hx hy; omega)]
              show lb (itr (fun z => f_X12_run_87 v N y (sdz x (i + 1)) (rnC (σ 121) v x y n i) (i : Int) z.1 z.2.1 z.2.2) FU (dwn (sdz x (i + 1)), 0, σ1)) _ = _
              rw [ed, lb_some]
              show ob (f_X12_made v ((sd (σ 121) (dwn (sdz x (i + 1))) n : Nat) : Int) σ1) _ = _
              rw [m_made c1.1 f1 s4, ob_some, s32_of (z := dg v (sd (σ 121) (dwn (sdz x (i + 1))) n)) (by clear hv hw hx hy; omega) (by clear hv hw hx hy; omega), hy]
              by_cases c : dg v (sd (σ 121) (dwn (sdz x (i + 1))) n) = y
              · rw [if_pos c, if_pos c]
                rfl
              · rw [if_neg c, if_neg c]
                rfl
            · show f_X12_run_54 v N y (sdz x N) (rnC (σ 121) v x y n N) (N : Int) σ1 = _
              unfold f_X12_run_54
              rw [if_pos (Int.le_refl _)]
          refine ⟨rnC (σ 121) v x y n N, σ1, σ1, ?_, ?_, h.co hC.co⟩
          · rw [el, ob_some, lc, lb_some]
          · rw [m_openAt hM1, ob_some, if_neg (by decide), m_fitAt hM1 hv, ob_some, bi_t c1, if_neg (by decide), m_isInT ⟨w1, w2⟩ (by decide) (by decide), ob_some, bi_t c2, if_neg (by decide), m_isInT ⟨y1, y2⟩ (by decide) (by decide), ob_some, bi_t c3, if_neg (by decide), lm, lb_some]
        · refine ⟨-1, σ, σ, ?_, ?_, h⟩
          · by_cases c4 : y < 0
            · rw [if_pos c4]
            · rw [if_neg c4, if_neg (by clear hv hw hx hy; omega)]
          · rw [m_openAt hM, ob_some, if_neg (by decide), m_fitAt hM hv, ob_some, bi_t c1, if_neg (by decide), m_isInT ⟨w1, w2⟩ (by decide) (by decide), ob_some, bi_t c2, if_neg (by decide), m_isInT ⟨y1, y2⟩ (by decide) (by decide), ob_some, bi_f c3, if_pos s32_0]
      · refine ⟨-1, σ, σ, ?_, ?_, h⟩
        · by_cases c4 : w < 1
          · rw [if_pos c4]
          · rw [if_neg c4, if_pos (by clear hv hw hx hy; omega)]
        · rw [m_openAt hM, ob_some, if_neg (by decide), m_fitAt hM hv, ob_some, bi_t c1, if_neg (by decide), m_isInT ⟨w1, w2⟩ (by decide) (by decide), ob_some, bi_f c2, if_pos s32_0]
    · refine ⟨-1, σ, σ, by rw [bi_f c1, if_pos s32_0], ?_, h⟩
      rw [m_openAt hM, ob_some, if_neg (by decide), m_fitAt hM hv, ob_some, bi_f c1, if_pos s32_0]
/-- what is counted, market or none -/
def CNT (σ : Mem) (n m : Nat) : Prop := n ≤ 4 ∧ m ≤ 4 ∧ σ 10 0 = n ∧ σ 10 1 = m ∧ σ 121 0 = n ∧ σ 121 1 = m ∧ (∀ k : Nat, k < n → σ 12 k = σ 121 (7 + k)) ∧ ∀ j : Nat, j < m → σ 15 j = σ 121 (35 + j) - 1 ∧ (0 ≤ σ 121 (35 + j) ∧ σ 121 (35 + j) ≤ 4) ∧ ∀ k : Nat, k < n → σ (16 + 1 + j) k = σ 121 (19 + 4 * j + k)
theorem Rel.cnt {σ : Mem} (h : Rel σ) : ∃ n m, CNT σ n m := by
  by_cases q : σ 0 6 = 0
  · have hn := h.no q
    exact ⟨0, 0, by omega, by omega, hn.2.2.1, hn.2.2.2, hn.1, hn.2.1, fun k hk => absurd hk (Nat.not_lt_zero _), fun j hj => absurd hj (Nat.not_lt_zero _)⟩
  · obtain ⟨e1, n, m, hO, hB, hM, e6, e7⟩ := h.mk2 q
    have h9 := h.1.2.2.2.2.1.2.2
    have hn := hO.1.1
    refine ⟨n, m, hO.1.1.2, hO.1.2.1.2, hB.1.1, hB.1.2.1, hO.1.2.2.1, hO.1.2.2.2.1, fun k hk => (hB.1.2.2.2.1 k hk).2.1, fun j hj => ⟨(hB.1.2.2.2.2 j hj).2.1, ?_, fun k hk => hB.1.cost h9 hj hk⟩⟩
    have := (hO.1.2.2.2.2.2.2 j hj).2.1
    omega
def tlC (s : Int → Int) : Nat → Int
  | 0 => 0
  | j + 1 => tlC s j + (if s (35 + j) ≤ 0 then 0 else 1)
def cstC (s : Int → Int) (n : Nat) : Nat → Int
  | 0 => 0
  | j + 1 => cstC s n j + sumI (fun k => s (19 + 4 * j + k)) n
theorem op_count {σ : Mem} (h : Rel σ) {v : Int} (hv : s32 v = v) : Op σ (f_X11_count v) (f_X12_count v) := by
  obtain ⟨n, m, hn, hm, c0, c1, m0, m1, hw, ht⟩ := h.cnt
  unfold Op f_X11_count f_X12_count
  rw [hv]
  by_cases d0 : v = 0
  · exact ⟨n, σ, σ, by rw [if_pos d0, c0], by rw [if_pos d0, m0], h⟩
  · rw [if_neg d0]
    by_cases d1 : v = 1
    · exact ⟨m, σ, σ, by rw [if_pos d1, c1], by rw [if_neg d0, if_pos d1, m1], h⟩
    · rw [if_neg d1]
      by_cases d2 : v = 2
      · have lc : itr (fun z => f_X4_toldThoughts_4 10 z.1 z.2.1 z.2.2) FU (0, 0, σ) = some (tlC (σ 121) m, σ) := by
          refine itr_for0 (fun j => (tlC (σ 121) j, (j : Int), σ)) m _ (by omega) (fun j hj => ?_) ?_
          · have q := ht j hj
            have j4 := fin4 hj hm
            show f_X4_toldThoughts_4 10 (tlC (σ 121) j) (j : Int) σ = some (Sum.inl (tlC (σ 121) j + (if σ 121 (35 + j) ≤ 0 then 0 else 1), ((j + 1 : Nat) : Int), σ))
            unfold f_X4_toldThoughts_4
            rw [c1, s32_of (z := (m : Int)) (by clear hv; omega) (by clear hv; omega), s32_of (z := (j : Int)) (by clear hv; omega) (by clear hv; omega), if_neg (by clear hv; omega), if_pos j4, show (10 : Int) + 5 = 15 from rfl, q.1, s32_of (z := σ 121 (35 + (j : Int)) - 1) (by clear hv; omega) (by clear hv; omega)]
            by_cases e : σ 121 (35 + (j : Int)) ≤ 0
            · rw [if_pos e, if_pos (by clear hv; omega), Int.add_zero]
              rfl
            · rw [if_neg e, if_neg (by clear hv; omega)]
              rfl
          · show f_X4_toldThoughts_4 10 (tlC (σ 121) m) (m : Int) σ = _
            unfold f_X4_toldThoughts_4
            rw [c1, if_pos (Int.le_refl _)]
        have lm : itr (fun z => f_X12_count_52 z.1 z.2.1 z.2.2) FU (0, 0, σ) = some (tlC (σ 121) m, σ) := by
          refine itr_for0 (fun j => (tlC (σ 121) j, (j : Int), σ)) m _ (by omega) (fun j hj => ?_) ?_
          · have q := ht j hj
            have t35 : 0 ≤ 35 + (j : Int) ∧ 35 + (j : Int) < 39 := by clear hv; omega
            show f_X12_count_52 (tlC (σ 121) j) (j : Int) σ = some (Sum.inl (tlC (σ 121) j + (if σ 121 (35 + j) ≤ 0 then 0 else 1), ((j + 1 : Nat) : Int), σ))
            unfold f_X12_count_52
            rw [m1, s32_of (z := (m : Int)) (by clear hv; omega) (by clear hv; omega), s32_of (z := (j : Int)) (by clear hv; omega) (by clear hv; omega), if_neg (by clear hv; omega), s32_of (z := 35 + (j : Int)) (by clear hv; omega) (by clear hv; omega), if_pos t35, s32_of (z := σ 121 (35 + (j : Int))) (by clear hv; omega) (by clear hv; omega)]
            by_cases e : σ 121 (35 + (j : Int)) ≤ 0
            · rw [if_pos e, if_pos e]
              rfl
            · rw [if_neg e, if_neg e]
              rfl
          · show f_X12_count_52 (tlC (σ 121) m) (m : Int) σ = _
            unfold f_X12_count_52
            rw [m1, if_pos (Int.le_refl _)]
        refine ⟨tlC (σ 121) m, σ, σ, ?_, ?_, h⟩
        · rw [if_pos d2]
          unfold f_X4_toldThoughts
          rw [lc, lb_some, ob_some]
        · rw [if_neg d0, if_neg d1, if_pos d2, lm, lb_some]
      · rw [if_neg d2]
        by_cases d3 : v = 3
        · have lc : itr (fun z => f_X4_allWorth_4 10 z.1 z.2.1 z.2.2) FU (0, 0, σ) = some (sumI (fun k => σ 121 (7 + k)) n, σ) := by
            refine itr_for0 (fun k => (sumI (fun k => σ 121 (7 + k)) k, (k : Int), σ)) n _ (by omega) (fun k hk => ?_) ?_
            · have k4 := fin4 hk hn
              show f_X4_allWorth_4 10 (sumI (fun k => σ 121 (7 + k)) k) (k : Int) σ = some (Sum.inl (sumI (fun k => σ 121 (7 + k)) k + σ 121 (7 + k), ((k + 1 : Nat) : Int), σ))
              unfold f_X4_allWorth_4
              rw [c0, s32_of (z := (n : Int)) (by clear hv; omega) (by clear hv; omega), s32_of (z := (k : Int)) (by clear hv; omega) (by clear hv; omega), if_neg (by clear hv; omega), if_pos k4, show (10 : Int) + 2 = 12 from rfl, hw k hk]
              rfl
            · show f_X4_allWorth_4 10 (sumI (fun k => σ 121 (7 + k)) n) (n : Int) σ = _
              unfold f_X4_allWorth_4
              rw [c0, if_pos (Int.le_refl _)]
          have lm : itr (fun z => f_X12_count_92 z.1 z.2.1 z.2.2) FU (0, 0, σ) = some (sumI (fun k => σ 121 (7 + k)) n, σ) := by
            refine itr_for0 (fun k => (sumI (fun k => σ 121 (7 + k)) k, (k : Int), σ)) n _ (by omega) (fun k hk => ?_) ?_
            · have t7 : 0 ≤ 7 + (k : Int) ∧ 7 + (k : Int) < 39 := by clear hv; omega
              show f_X12_count_92 (sumI (fun k => σ 121 (7 + k)) k) (k : Int) σ = some (Sum.inl (sumI (fun k => σ 121 (7 + k)) k + σ 121 (7 + k), ((k + 1 : Nat) : Int), σ))
              unfold f_X12_count_92
              rw [m0, s32_of (z := (n : Int)) (by clear hv; omega) (by clear hv; omega), s32_of (z := (k : Int)) (by clear hv; omega) (by clear hv; omega), if_neg (by clear hv; omega), s32_of (z := 7 + (k : Int)) (by clear hv; omega) (by clear hv; omega), if_pos t7]
              rfl
            · show f_X12_count_92 (sumI (fun k => σ 121 (7 + k)) n) (n : Int) σ = _
              unfold f_X12_count_92
              rw [m0, if_pos (Int.le_refl _)]
          refine ⟨sumI (fun k => σ 121 (7 + k)) n, σ, σ, ?_, ?_, h⟩
          · rw [if_pos d3]
            unfold f_X4_allWorth
            rw [lc, lb_some, ob_some]
          · rw [if_neg d0, if_neg d1, if_neg d2, if_pos d3, lm, lb_some]
        · rw [if_neg d3]
          by_cases d4 : v = 4
          · have ic : ∀ (j : Nat) (x : Int), j < m → itr (fun z => f_X4_allCosts_14 10 j z.1 z.2.1 z.2.2) FU (x, 0, σ) = some (x + sumI (fun k => σ 121 (19 + 4 * j + k)) n, σ) := fun j x hj => by
              have e : itr (fun z => f_X4_allCosts_14 10 j z.1 z.2.1 z.2.2) FU (x + sumI (fun k => σ 121 (19 + 4 * j + k)) 0, ((0 : Nat) : Int), σ) = some (x + sumI (fun k => σ 121 (19 + 4 * j + k)) n, σ) := by
                refine itr_for0 (fun k => (x + sumI (fun k => σ 121 (19 + 4 * j + k)) k, (k : Int), σ)) n _ (by omega) (fun k hk => ?_) ?_
                · have k4 := fin4 hk hn
                  have j4 := fin4 hj hm
                  show f_X4_allCosts_14 10 j (x + sumI (fun k => σ 121 (19 + 4 * j + k)) k) (k : Int) σ = some (Sum.inl (x + (sumI (fun k => σ 121 (19 + 4 * j + k)) k + σ 121 (19 + 4 * j + k)), ((k + 1 : Nat) : Int), σ))
                  unfold f_X4_allCosts_14
                  rw [c0, s32_of (z := (n : Int)) (by clear hv; omega) (by clear hv; omega), s32_of (z := (k : Int)) (by clear hv; omega) (by clear hv; omega), if_neg (by clear hv; omega), s32_of (z := (j : Int)) (by clear hv; omega) (by clear hv; omega), if_pos j4, if_pos k4, show (10 : Int) + 6 + 1 + (j : Int) = 16 + 1 + j by clear hv; omega, (ht j hj).2.2 k hk, ← Int.add_assoc]
                  rfl
                · show f_X4_allCosts_14 10 j (x + sumI (fun k => σ 121 (19 + 4 * j + k)) n) (n : Int) σ = _
                  unfold f_X4_allCosts_14
                  rw [c0, if_pos (Int.le_refl _)]
              have e0 : x + sumI (fun k => σ 121 (19 + 4 * (j : Int) + k)) 0 = x := Int.add_zero x
              rw [e0] at e
              exact e
            have lc : itr (fun z => f_X4_allCosts_4 10 z.1 z.2.1 z.2.2) FU (0, 0, σ) = some (cstC (σ 121) n m, σ) := by
              refine itr_for0 (fun j => (cstC (σ 121) n j, (j : Int), σ)) m _ (by omega) (fun j hj => ?_) ?_
              · show f_X4_allCosts_4 10 (cstC (σ 121) n j) (j : Int) σ = some (Sum.inl (cstC (σ 121) n j + sumI (fun k => σ 121 (19 + 4 * j + k)) n, ((j + 1 : Nat) : Int), σ))
                unfold f_X4_allCosts_4
                rw [c1, s32_of (z := (m : Int)) (by clear hv; omega) (by clear hv; omega), s32_of (z := (j : Int)) (by clear hv; omega) (by clear hv; omega), if_neg (by clear hv; omega), ic j _ hj, lb_some]
                rfl
              · show f_X4_allCosts_4 10 (cstC (σ 121) n m) (m : Int) σ = _
                unfold f_X4_allCosts_4
                rw [c1, if_pos (Int.le_refl _)]
            have im : ∀ (j : Nat) (x : Int), j < m → itr (fun z => f_X12_count_137 j z.1 z.2.1 z.2.2) FU (x, 0, σ) = some (x + sumI (fun k => σ 121 (19 + 4 * j + k)) n, σ) := fun j x hj => by
              have e : itr (fun z => f_X12_count_137 j z.1 z.2.1 z.2.2) FU (x + sumI (fun k => σ 121 (19 + 4 * j + k)) 0, ((0 : Nat) : Int), σ) = some (x + sumI (fun k => σ 121 (19 + 4 * j + k)) n, σ) := by
                refine itr_for0 (fun k => (x + sumI (fun k => σ 121 (19 + 4 * j + k)) k, (k : Int), σ)) n _ (by omega) (fun k hk => ?_) ?_
                · have t5 : 0 ≤ 19 + 4 * (j : Int) + (k : Int) ∧ 19 + 4 * (j : Int) + (k : Int) < 39 := by clear hv; omega
                  show f_X12_count_137 j (x + sumI (fun k => σ 121 (19 + 4 * j + k)) k) (k : Int) σ = some (Sum.inl (x + (sumI (fun k => σ 121 (19 + 4 * j + k)) k + σ 121 (19 + 4 * j + k)), ((k + 1 : Nat) : Int), σ))
                  unfold f_X12_count_137
                  rw [m0, s32_of (z := (n : Int)) (by clear hv; omega) (by clear hv; omega), s32_of (z := (k : Int)) (by clear hv; omega) (by clear hv; omega), if_neg (by clear hv; omega), s32_of (z := 19 + 4 * (j : Int) + (k : Int)) (by clear hv; omega) (by clear hv; omega), if_pos t5, ← Int.add_assoc]
                  rfl
                · show f_X12_count_137 j (x + sumI (fun k => σ 121 (19 + 4 * j + k)) n) (n : Int) σ = _
                  unfold f_X12_count_137
                  rw [m0, if_pos (Int.le_refl _)]
              have e0 : x + sumI (fun k => σ 121 (19 + 4 * (j : Int) + k)) 0 = x := Int.add_zero x
              rw [e0] at e
              exact e
            have lm : itr (fun z => f_X12_count_124 z.1 z.2.1 z.2.2) FU (0, 0, σ) = some (cstC (σ 121) n m, σ) := by
              refine itr_for0 (fun j => (cstC (σ 121) n j, (j : Int), σ)) m _ (by omega) (fun j hj => ?_) ?_
              · show f_X12_count_124 (cstC (σ 121) n j) (j : Int) σ = some (Sum.inl (cstC (σ 121) n j + sumI (fun k => σ 121 (19 + 4 * j + k)) n, ((j + 1 : Nat) : Int), σ))
                unfold f_X12_count_124
                rw [m1, s32_of (z := (m : Int)) (by clear hv; omega) (by clear hv; omega), s32_of (z := (j : Int)) (by clear hv; omega) (by clear hv; omega), if_neg (by clear hv; omega), im j _ hj, lb_some]
                rfl
              · show f_X12_count_124 (cstC (σ 121) n m) (m : Int) σ = _
                unfold f_X12_count_124
                rw [m1, if_pos (Int.le_refl _)]
            refine ⟨cstC (σ 121) n m, σ, σ, ?_, ?_, h⟩
            · rw [if_pos d4]
              unfold f_X4_allCosts
              rw [lc, lb_some, ob_some]
            · rw [if_neg d0, if_neg d1, if_neg d2, if_neg d3, if_pos d4, lm, lb_some]
          · exact ⟨-1, σ, σ, by rw [if_neg d4], by rw [if_neg d0, if_neg d1, if_neg d2, if_neg d3, if_neg d4], h⟩
