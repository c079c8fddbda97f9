/-! PURE 20: falls, asked -/
theorem m_drawn {σ : Mem} {n m : Nat} (hM : MS σ n m) {fit : Int} (hF : isF n m fit) {j : Nat} (hj : j < m) (u v : Int) : ∃ x y, itr (fun z => f_X12_fallsBy_89 fit j (lnv (σ 121) (Pb (σ 121) fit j n) n) z.1 z.2) FU (0, ab σ u v) = some (if drw (σ 121) fit j n = -4 then Sum.inr (ab σ x y) else Sum.inl (10 * (j : Int) + drw (σ 121) fit j n, ab σ x y)) := by
  have h := hM.1
  have hn := h.1
  have hm := h.2.1
  have li := lni_in (σ 121) (Pb (σ 121) fit j n) n
  have p4 := p5_in n hn.2
  have f1 : fit ≤ 2147483647 := by have := hF.2.1; omega
  unfold drw lnv
  by_cases e0 : lni (σ 121) (Pb (σ 121) fit j n) n = -4
  · rw [if_pos e0, if_pos e0]
    refine ⟨u, v, ?_⟩
    rw [if_pos rfl]
    refine itr_for0 (fun _ => (0, ab σ u v)) 0 _ (by omega) (fun k hk => absurd hk (Nat.not_lt_zero _)) ?_
    show f_X12_fallsBy_89 fit j (-1) 0 (ab σ u v) = _
    unfold f_X12_fallsBy_89
    rw [ab_s, h.2.2.1, s32_of (z := (n : Int)) (by omega) (by omega), s32_0, if_neg (by omega), if_pos (by decide)]
  · obtain ⟨i, hi, ei⟩ : ∃ i : Nat, i < n ∧ lni (σ 121) (Pb (σ 121) fit j n) n = i := ⟨(lni (σ 121) (Pb (σ 121) fit j n) n).toNat, by omega, by omega⟩
    rw [if_neg e0, if_neg e0, ei]
    have a1 := (h.2.2.2.2.2.1 i hi).2.1
    have a2 := (h.2.2.2.2.2.2 j hj).1
    have body : ∀ (k : Nat) (x y : Int), k < n → ∃ x' y', f_X12_fallsBy_89 fit j (σ 121 (7 + i)) (k : Int) (ab σ x y) = (if Pd (σ 121) fit j (σ 121 (7 + i)) n k = true then some (.inr (.inl (10 * (j : Int) + (k : Int), ab σ x' y'))) else some (.inl ((k : Int) + 1, ab σ x' y'))) := by
      intro k x y hk
      have k4 : k ≤ 4 := by omega
      have a3 := (h.2.2.2.2.2.2 j hj).2.2 k hk
      have hdg := isF_dg hF hk
      have g1 := gtp_in h wsk1 0 fit hk hdg
      have g2 := gun_in h wsk1 fit (dg fit k)
      have c1 := mul_abs (x := σ 121 (7 + i) + σ 121 (15 + j) - σ 121 (19 + 4 * j + k)) (by omega) g2
      have ep := m_findGets_ab h hM.2.1 hF.1 f1 hk hdg x y
      rw [hM.2.2.2, s32_0] at ep
      have t3 : 0 ≤ 15 + (j : Int) ∧ 15 + (j : Int) < 39 := by omega
      have t5 : 0 ≤ 19 + 4 * (j : Int) + (k : Int) ∧ 19 + 4 * (j : Int) + (k : Int) < 39 := by omega
      refine ⟨gtp 1 1 0 (σ 121) 0 fit k (dg fit k) n, gun 1 (σ 121) fit (dg fit k) n, ?_⟩
      unfold f_X12_fallsBy_89
      rw [ab_s, h.2.2.1, s32_of (z := (n : Int)) (by omega) (by omega), s32_of (z := (k : Int)) (by omega) (by omega), if_neg (by omega), s32_of (z := σ 121 (7 + (i : Int))) (by omega) (by omega), if_neg (by omega), m_made hF.1 f1 k4, ob_some, ep, ob_some, s32_of (z := 15 + (j : Int)) (by omega) (by omega), if_pos t3, s32_of (z := 19 + 4 * (j : Int) + (k : Int)) (by omega) (by omega), if_pos t5, ab_21, ab_22, ab_s, s32_of (z := σ 121 (7 + i) + σ 121 (15 + j) - σ 121 (19 + 4 * j + k)) (by omega) (by omega), s64_of (z := gtp 1 1 0 (σ 121) 0 fit k (dg fit k) n) (by omega) (by omega), s64_of c1.1 c1.2]
      by_cases e : (σ 121 (7 + (i : Int)) + σ 121 (15 + j) - σ 121 (19 + 4 * j + k)) * gun 1 (σ 121) fit (dg fit k) n ≤ gtp 1 1 0 (σ 121) 0 fit k (dg fit k) n
      · rw [if_pos e, if_neg (show ¬ Pd (σ 121) fit j (σ 121 (7 + i)) n k = true from fun w => of_decide_eq_true w e)]
      · rw [if_neg e, if_pos (show Pd (σ 121) fit j (σ 121 (7 + i)) n k = true from decide_eq_true e)]
    have hl : ∃ b, itr (fun z : Int × Mem => f_X12_fallsBy_89 fit j (σ 121 (7 + i)) z.1 z.2) FU (0, ab σ u v) = some b ∧ (match fst? (Pd (σ 121) fit j (σ 121 (7 + i)) n) 0 n with | some k => ∃ x y, b = Sum.inl (10 * (j : Int) + (k : Int), ab σ x y) | none => ∃ x y, b = Sum.inr (ab σ x y)) := by
      refine itr_fstH (Pd (σ 121) fit j (σ 121 (7 + i)) n) (fun k z => ∃ x y, z = ((k : Int), ab σ x y)) (fun k b => ∃ x y, b = Sum.inl (10 * (j : Int) + (k : Int), ab σ x y)) (fun b => ∃ x y, b = Sum.inr (ab σ x y)) n (by omega) ⟨u, v, rfl⟩ (fun k hk z hz hp => ?_) (fun k hk z hz hp => ?_) (fun z hz => ?_)
      · obtain ⟨x, y, rfl⟩ := hz
        obtain ⟨x', y', e⟩ := body k x y hk
        rw [if_neg (by rw [hp]; decide)] at e
        exact ⟨_, e, x', y', rfl⟩
      · obtain ⟨x, y, rfl⟩ := hz
        obtain ⟨x', y', e⟩ := body k x y hk
        rw [if_pos hp] at e
        exact ⟨_, e, x', y', rfl⟩
      · obtain ⟨x, y, rfl⟩ := hz
        refine ⟨_, ?_, x, y, rfl⟩
        show f_X12_fallsBy_89 fit j (σ 121 (7 + i)) (n : Int) (ab σ x y) = _
        unfold f_X12_fallsBy_89
        rw [ab_s, h.2.2.1, if_pos (Int.le_refl _)]
    obtain ⟨b, eb, hb⟩ := hl
    cases hf : fst? (Pd (σ 121) fit j (σ 121 (7 + i)) n) 0 n with
    | some k =>
      rw [hf] at hb
      obtain ⟨x, y, rfl⟩ := hb
      refine ⟨x, y, ?_⟩
      show _ = some (if (k : Int) = -4 then _ else Sum.inl (10 * (j : Int) + (k : Int), ab σ x y))
      rw [eb, if_neg (by omega)]
    | none =>
      rw [hf] at hb
      obtain ⟨x, y, rfl⟩ := hb
      refine ⟨x, y, ?_⟩
      show _ = some (if (-4 : Int) = -4 then Sum.inr (ab σ x y) else _)
      rw [eb, if_pos rfl]
theorem m_fallsBy {σ : Mem} {n m : Nat} (hM : MS σ n m) {fit : Int} (hF : isF n m fit) : ∃ x y, f_X12_fallsBy fit σ = some (flb (σ 121) fit n m, ab σ x y) := by
  have h := hM.1
  have hn := h.1
  have hm := h.2.1
  have p4 := p5_in n hn.2
  have f1 : fit ≤ 2147483647 := by have := hF.2.1; omega
  have body : ∀ (j : Nat) (u v : Int), j < m → ∃ x y, f_X12_fallsBy_2 fit (j : Int) (ab σ u v) = (if Pf (σ 121) fit n j = true then some (.inr (.inl (10 * (j : Int) + drw (σ 121) fit j n, ab σ x y))) else some (.inl ((j : Int) + 1, ab σ x y))) := by
    intro j u v hj
    have hM1 := hM.co (ab_co (x := u) (y := v))
    have em := m_isMade (σ := ab σ u v) (v := fit) (j := (j : Int)) (n := n) hM1.1.2.2.1 hn.2 hF.1 f1 (s32_of (by omega) (by omega))
    unfold f_X12_fallsBy_2
    rw [ab_s, h.2.2.2.1, s32_of (z := (m : Int)) (by omega) (by omega), s32_of (z := (j : Int)) (by omega) (by omega), if_neg (by omega), em, ob_some]
    by_cases e1 : mad fit j n = true
    · rw [bi_t e1, if_neg (by decide)]
      refine ⟨u, v, ?_⟩
      rw [if_neg (show ¬ Pf (σ 121) fit n j = true from fun w => (of_decide_eq_true w).1 e1)]
    · obtain ⟨a, b, e3⟩ := m_least hM hF hj u v
      obtain ⟨c, d, e4⟩ := m_drawn hM hF hj a b
      rw [bi_f e1, if_pos s32_0, e3, lb_some]
      refine ⟨c, d, ?_⟩
      show lb (itr (fun z => f_X12_fallsBy_89 fit j (lnv (σ 121) (Pb (σ 121) fit j n) n) z.1 z.2) FU (0, ab σ a b)) _ = _
      rw [e4, lb_some]
      by_cases e2 : drw (σ 121) fit j n = -4
      · rw [if_pos e2, Sum.elim_inr, if_neg (show ¬ Pf (σ 121) fit n j = true from fun w => (of_decide_eq_true w).2 e2)]
      · rw [if_neg e2, Sum.elim_inl, if_pos (show Pf (σ 121) fit n j = true from decide_eq_true ⟨e1, e2⟩)]
  have hl : ∃ b, itr (fun z : Int × Mem => f_X12_fallsBy_2 fit z.1 z.2) FU (0, σ) = some b ∧ (match fst? (Pf (σ 121) fit n) 0 m with | some j => ∃ x y, b = Sum.inl (10 * (j : Int) + drw (σ 121) fit j n, ab σ x y) | none => ∃ x y, b = Sum.inr (ab σ x y)) := by
    refine itr_fstH (Pf (σ 121) fit n) (fun j z => ∃ x y, z = ((j : Int), ab σ x y)) (fun j b => ∃ x y, b = Sum.inl (10 * (j : Int) + drw (σ 121) fit j n, ab σ x y)) (fun b => ∃ x y, b = Sum.inr (ab σ x y)) m (by omega) ⟨σ 120 21, σ 120 22, by rw [ab_of]; rfl⟩ (fun k hk z hz hp => ?_) (fun k hk z hz hp => ?_) (fun z hz => ?_)
    · obtain ⟨x, y, rfl⟩ := hz
      obtain ⟨x', y', e⟩ := body k x y hk
      rw [if_neg (by rw [hp]; decide)] at e
      exact ⟨_, e, x', y', rfl⟩
    · obtain ⟨x, y, rfl⟩ := hz
      obtain ⟨x', y', e⟩ := body k x y hk
      rw [if_pos hp] at e
      exact ⟨_, e, x', y', rfl⟩
    · obtain ⟨x, y, rfl⟩ := hz
      refine ⟨_, ?_, x, y, rfl⟩
      show f_X12_fallsBy_2 fit (m : Int) (ab σ x y) = _
      unfold f_X12_fallsBy_2
      rw [ab_s, h.2.2.2.1, if_pos (Int.le_refl _)]
  obtain ⟨b, eb, hb⟩ := hl
  unfold f_X12_fallsBy flb
  cases hf : fst? (Pf (σ 121) fit n) 0 m with
  | some k =>
    rw [hf] at hb
    obtain ⟨x, y, rfl⟩ := hb
    exact ⟨x, y, by rw [eb, lb_some, Sum.elim_inl]⟩
  | none =>
    rw [hf] at hb
    obtain ⟨x, y, rfl⟩ := hb
    exact ⟨x, y, by rw [eb, lb_some, Sum.elim_inr]⟩
theorem op_falls {σ : Mem} (h : Rel σ) {v : Int} (hv : s32 v = v) : Op σ (f_X11_falls v) (f_X12_falls v) := by
  unfold Op f_X11_falls f_X12_falls
  by_cases q : σ 0 6 = 0
  · refine ⟨-3, σ, σ, ?_, ?_, h⟩
    · unfold f_X11_sureFitFault f_X11_fitFault
      rw [q, if_pos s32_0, ob_some, if_neg (by decide), ob_some, if_neg (by decide)]
    · rw [m_closed h q, ob_some, if_pos s32_0]
  · obtain ⟨e1, n, m, hO, hB, hM, e6, e7⟩ := h.mk2 q
    have h9 := h.1.2.2.2.2.1.2.2
    obtain ⟨σ1, ef, hC, hg⟩ := c_sureFault e1 hO.1 hB e6 e7 hv
    have hM1 := hM.co hC
    have e121 : σ1 121 = σ 121 := hC.row 121 (fun i => by unfold scr; omega)
    rw [ef, ob_some]
    by_cases c1 : isF n m v
    · obtain ⟨a, b, es⟩ := m_sureAt hM1 hv
      rw [e121] at es
      have hC2 : CO σ (ab σ1 a b) := hC.tr ab_co
      have hM2 := hM.co hC2
      have hf121 : (ab σ1 a b) 121 = σ 121 := by rw [ab_s, e121]
      by_cases c4 : SU 1 1 0 (σ 121) 0 0 v n m
      · obtain ⟨a2, b2, eb⟩ := m_fallsBy hM2 c1
        rw [hf121] at eb
        have h91 : σ1 72 9 = 0 := (hC.at 72 9 (by unfold scr; omega)).trans h9
        refine ⟨flb (σ 121) v n m, σ1, ab (ab σ1 a b) a2 b2, ?_, ?_, h.co (hC2.tr ab_co)⟩
        · rw [if_pos c1, if_pos c4, if_pos s32_0, c_fallsBy hO.1 (hg c1) h91 c1, ob_some]
        · rw [m_openAt hM1, ob_some, if_neg (by decide), m_fitAt hM1 hv, ob_some, bi_t c1, if_neg (by decide), es, ob_some, bi_t c4, if_neg (by decide), eb, ob_some]
      · refine ⟨-3, σ1, ab σ1 a b, ?_, ?_, h.co hC2⟩
        · rw [if_pos c1, if_neg c4, if_neg (by decide)]
        · rw [m_openAt hM1, ob_some, if_neg (by decide), m_fitAt hM1 hv, ob_some, bi_t c1, if_neg (by decide), es, ob_some, bi_f c4, if_pos s32_0]
    · refine ⟨-1, σ1, σ1, ?_, ?_, h.co hC⟩
      · rw [if_neg c1, if_neg (by decide)]
      · rw [m_openAt hM1, ob_some, if_neg (by decide), m_fitAt hM1 hv, ob_some, bi_f c1, if_pos s32_0]
