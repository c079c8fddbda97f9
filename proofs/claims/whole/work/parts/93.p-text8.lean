/-! PURE 53: all statements on both sides -/
def MX (μ μ' : Mem) : Prop := ∀ a i : Int, ¬ (a = 123 ∨ a = 130 ∨ (a = 120 ∧ (i = 11 ∨ i = 14 ∨ i = 15))) → μ' a i = μ a i
theorem MT.mx {μ μ' : Mem} {d N : Nat} {t : Nat → Int} (h : MT μ d t N) (f : MX μ μ') : MT μ' d t N := by
  obtain ⟨h1, h2, h3, h4, h5⟩ := h
  exact ⟨h1, h2, (f 120 12 (by omega)).trans h3, (f 120 13 (by omega)).trans h4, fun p hp => (f 127 _ (by omega)).trans (h5 p hp)⟩
noncomputable abbrev mk91 (z : Int × Mem) : Option ((Int × Mem) ⊕ ((Int × Mem) ⊕ (Int × Mem))) := f_X12_market_91 z.1 z.2
theorem two_run {u : Int} {t : Nat → Int} {N d : Nat} : ∀ (g p : Nat) (τ : Mem) (s : Nat) (μ : Mem) (F n m : Nat), CT τ u t N → τ 70 2 = 0 → τ 70 8 = -1 → τ 70 7 = s → p < N → N - p < g → N - p < F → syn t N g p = none → MT μ d t N → μ 120 11 = p → FMk τ n m (μ 123) → OkR n m (μ 123) → ∃ (τ' : Mem) (s' : Nat), Go (rfc u) (N - p) ((p : Int), τ) ((N : Int), τ') ∧ τ' 70 2 = 0 ∧ τ' 70 7 = s' ∧ (s < s' ∧ s' ≤ s + (N - p)) ∧ (∀ a i : Int, ¬ (50 ≤ a ∧ a ≤ 71 ∧ ¬ (a = 50 ∧ i = 2)) → τ' a i = τ a i) ∧ ∃ μ' : Mem, MX μ μ' ∧ ((itr mk91 F ((s : Int), μ) = some (.inr ((s' : Int), μ')) ∧ τ' 70 8 = -1 ∧ ∃ n' m', FMk τ' n' m' (μ' 123) ∧ OkR n' m' (μ' 123)) ∨ (∃ x : Nat, x < N ∧ itr mk91 F ((s : Int), μ) = some (.inl (-2000 - (x : Int), μ')) ∧ τ' 70 8 = x))
  | 0, p, τ, s, μ, F, n, m, _, _, _, _, _, hg, _, _, _, _, _, _ => absurd hg (Nat.not_lt_zero _)
  | g + 1, p, τ, s, μ, 0, n, m, _, _, _, _, _, _, hF, _, _, _, _, _ => absurd hF (Nat.not_lt_zero _)
  | g + 1, p, τ, s, μ, F + 1, n, m, hT, h2, h8, h7, hp, hg, hF, hs, hM, h11, hK, hO => by
    have hN := hT.1.1
    have b := psm_b hT.1 (Nat.le_of_lt hp)
    unfold syn at hs
    by_cases w : (psm t p).1 = true
    · rw [if_pos w] at hs
      have bw := b.1.2.2 w
      obtain ⟨μ1, em, hR⟩ := m_stmt hM (fun _ _ _ => rfl) h11 (Nat.le_of_lt hp)
      have r123 : μ1 123 = μ 123 := funext fun i => hR.1 123 i (by omega)
      obtain ⟨r, μ2, τ1, g1, ⟨t1, t2, t3⟩, ec, hm2, hcase⟩ := (c_turn hT h2 hp w).2 h8 μ1 n m (by rw [r123]; exact hK) (by rw [r123]; exact hO) hR.2.2.1 hR.2.2.2
      have X2 : MX μ μ2 := fun a i y => by
        rw [hm2 a (by omega)]
        exact hR.1 a i (by omega)
      have e7 : τ1 70 7 = ((s + 1 : Nat) : Int) := by rw [t2, h7]; rfl
      have st : mk91 ((s : Int), μ) = ob (f_X12_comes (t p) μ1) fun r48 σ47 => if (s32 r48) = 0 then (some (.inr (.inl (((-2000) - (μ 120 11)), σ47)))) else (some (.inl (((s : Int) + 1), σ47))) := by
        show f_X12_market_91 (s : Int) μ = _
        unfold f_X12_market_91
        rw [hM.2.2.2.1, h11, s32_of (z := (N : Int)) (by omega) (by omega), s32_of (z := (p : Int)) (by omega) (by omega), if_neg (by omega), m_sign0 hM (fun _ _ _ => rfl) h11 (Nat.le_of_lt hp), ob_some, em, ob_some]
      rw [ec, ob_some, h11] at st
      rcases hcase with ⟨rfl, hx⟩ | ⟨rfl, hx, n', m', hK', hO'⟩
      · rw [if_pos s32_0] at st
        by_cases w2 : (psm t p).2.1 < N
        · rw [if_pos w2] at hs
          obtain ⟨τ', s', r1, r2, r3, r4, r5, r6⟩ := c_untrue g (psm t p).2.1 τ1 (s + 1) (hT.fr2 t3) t1 (by rw [hx]; omega) e7 w2 (by omega) hs
          exact ⟨τ', s', (g1.tr r1).cast (by omega), r2, r4, by omega, fun a i y => (r6 a i y).trans (t3 a i y), μ2, X2, Or.inr ⟨p, hp, itr_out st, r3.trans hx⟩⟩
        · have e : (psm t p).2.1 = N := by omega
          rw [e] at g1
          exact ⟨τ1, s + 1, g1, t1, e7, by omega, t3, μ2, X2, Or.inr ⟨p, hp, itr_out st, hx⟩⟩
      · rw [if_neg (by decide)] at st
        have st' : mk91 ((s : Int), μ) = some (.inl (((s + 1 : Nat) : Int), μ2)) := st
        have h11' : μ2 120 11 = ((psm t p).2.1 : Nat) := by
          rw [hm2 120 (by decide)]
          exact hR.2.1
        by_cases w2 : (psm t p).2.1 < N
        · rw [if_pos w2] at hs
          obtain ⟨τ', s', r1, r2, r4, r5, r6, μ', r7, r8⟩ := two_run g (psm t p).2.1 τ1 (s + 1) μ2 F n' m' (hT.fr2 t3) t1 hx e7 w2 (by omega) (by omega) hs (hM.mx X2) h11' hK' hO'
          exact ⟨τ', s', (g1.tr r1).cast (by clear r8; omega), r2, r4, by clear r8; omega, fun a i y => (r6 a i y).trans (t3 a i y), μ', fun a i y => (r7 a i y).trans (X2 a i y), by rw [itr_in st']; exact r8⟩
        · have e : (psm t p).2.1 = N := by omega
          rw [e] at g1 h11'
          refine ⟨τ1, s + 1, g1, t1, e7, by omega, t3, μ2, X2, Or.inl ⟨?_, hx, n', m', hK', hO'⟩⟩
          rw [itr_in st', show F = F - 1 + 1 by omega]
          refine itr_out ?_
          show f_X12_market_91 _ μ2 = _
          unfold f_X12_market_91
          rw [(hM.mx X2).2.2.2.1, h11', if_pos (Int.le_refl _)]
    · rw [if_neg w] at hs
      cases hs
theorem m_phase1 {σ : Mem} {d N : Nat} {t : Nat → Int} (hT : MT σ d t N) : ∀ (g p : Nat) (μ : Mem) (F : Nat), MF σ μ → μ 120 11 = p → p ≤ N → N - p < g → N - p < F → ∃ q' μ', itr (fun z => f_X12_market_36 z) F μ = some q' ∧ MF σ μ' ∧ (syn t N g p = none → q' = .inr μ') ∧ ∀ q, syn t N g p = some q → q' = .inl (-1000 - (q : Int), μ')
  | 0, p, μ, F, _, _, _, hg, _ => absurd hg (Nat.not_lt_zero _)
  | g + 1, p, μ, 0, _, _, _, _, hF => absurd hF (Nat.not_lt_zero _)
  | g + 1, p, μ, F + 1, hM, h11, hp, hg, hF => by
    have hN := hT.2.1.1
    have b := psm_b hT.2.1 hp
    obtain ⟨μ1, em, hR⟩ := m_stmt hT hM h11 hp
    have e13 : μ1 120 13 = N := (hR.1 120 13 (by omega)).trans hT.2.2.2.1
    unfold syn
    have st : f_X12_market_36 μ = if (s32 (bi ((psm t p).1 = true))) = 0 then (some (.inr (.inl (((-1000) - (μ1 120 11)), μ1)))) else (if (s32 (μ1 120 11)) < (s32 (μ1 120 13)) then (some (.inl μ1)) else (some (.inr (.inr μ1)))) := by
      unfold f_X12_market_36
      rw [em, ob_some]
    rw [hR.2.1, e13, s32_of (z := (N : Int)) (by omega) (by omega), s32_of (z := ((psm t p).2.1 : Int)) (by omega) (by omega)] at st
    by_cases w : (psm t p).1 = true
    · rw [if_pos w]
      have bw := b.1.2.2 w
      rw [bi_t w, if_neg (by decide)] at st
      by_cases w2 : (psm t p).2.1 < N
      · rw [if_pos w2]
        rw [if_pos (by omega)] at st
        obtain ⟨q', μ', r1, r2, r3⟩ := m_phase1 hT g (psm t p).2.1 μ1 F hR.1 hR.2.1 (by omega) (by omega) (by omega)
        exact ⟨q', μ', by rw [itr_in (y := μ1) st]; exact r1, r2, r3⟩
      · rw [if_neg w2]
        rw [if_neg (by omega)] at st
        exact ⟨_, μ1, itr_out st, hR.1, fun _ => rfl, fun q h => by cases h⟩
    · rw [if_neg w]
      rw [bi_f w, if_pos s32_0] at st
      refine ⟨_, μ1, itr_out st, hR.1, fun h => (by cases h), fun q h => ?_⟩
      rw [← Option.some.inj h]
theorem m_zero {μ : Mem} : ∃ b, itr (fun z => f_X12_market_65 z.1 z.2) FU (0, μ) = some b ∧ ((∀ a : Int, a ≠ 123 → b a = μ a) ∧ ∀ i : Nat, i < 39 → b 123 i = 0) := by
  refine itr_forH (fun k z => ∃ κ, z = ((k : Int), κ) ∧ (∀ a : Int, a ≠ 123 → κ a = μ a) ∧ ∀ i : Nat, i < k → κ 123 i = 0) _ 39 (by decide) ⟨_, rfl, fun _ _ => rfl, fun i hi => absurd hi (Nat.not_lt_zero _)⟩ (fun k hk z hz => ?_) (fun z hz => ?_)
  · obtain ⟨κ, rfl, h1, h2⟩ := hz
    have k4 : 0 ≤ (k : Int) ∧ (k : Int) < 39 := by omega
    refine ⟨((k : Int) + 1, ups κ 123 k 0), ?_, _, rfl, fun a w => ?_, fun i hi => ?_⟩
    · show f_X12_market_65 (k : Int) κ = _
      unfold f_X12_market_65
      rw [s32_of (z := (k : Int)) (by omega) (by omega), if_neg (by omega), if_pos k4]
    · rw [ups_ne w]
      exact h1 a w
    · by_cases e : i = k
      · rw [e, ups_at]
      · rw [ups_ni (by omega)]
        exact h2 i (by omega)
  · obtain ⟨κ, rfl, h1, h2⟩ := hz
    refine ⟨κ, ?_, h1, h2⟩
    show f_X12_market_65 ((39 : Nat) : Int) κ = _
    unfold f_X12_market_65
    rw [if_pos (by decide)]
theorem OkR.sum {n m : Nat} {R : Int → Int} (h : OkR n m R) : 0 ≤ sumI (fun k => R (3 + k)) n ∧ sumI (fun k => R (3 + k)) n ≤ 400 := by
  have h1 := sumI_ge (n := n) (f := fun k => R (3 + k)) (a := 0) (fun k hk => by have := h.2.2.2.2.1 k hk; omega)
  have h2 := sumI_le (n := n) (f := fun k => R (3 + k)) (a := 100) (fun k hk => by have := h.2.2.2.2.1 k hk; omega)
  have := h.1.1
  omega
theorem c_isWhole {τ : Mem} {n m : Nat} {R : Int → Int} (hK : FMk τ n m R) (hO : OkR n m R) : f_X4_isWhole 50 τ = some (bi (sumI (fun k => R (3 + k)) n = 100 ∧ 0 < m), τ) := by
  have hn := hO.1.1
  have hm := hO.1.2
  have hs := hO.sum
  have l : itr (fun z => f_X4_isWhole_4 50 z.1 z.2.1 z.2.2) FU (0, 0, τ) = some (sumI (fun k => R (3 + k)) n, τ) := by
    refine itr_for0 (fun k => (sumI (fun k => R (3 + k)) k, (k : Int), τ)) n _ (by omega) (fun k hk => ?_) ?_
    · show f_X4_isWhole_4 50 _ (k : Int) τ = _
      unfold f_X4_isWhole_4
      rw [hK.1, s32_of (z := (n : Int)) (by omega) (by omega), s32_of (z := (k : Int)) (by omega) (by omega), if_neg (by omega), if_pos (by omega)]
      simp only [vl]
      rw [show τ (50 + 1) k = R (3 + k) from (hK.2.2.1 k hk).1]
      rfl
    · show f_X4_isWhole_4 50 _ (n : Int) τ = _
      unfold f_X4_isWhole_4
      rw [hK.1, if_pos (Int.le_refl _)]
  unfold f_X4_isWhole
  rw [l, lb_some]
  dsimp only
  rw [s32_of (z := sumI (fun k => R (3 + k)) n) (by omega) (by omega), hK.2.1, s32_of (z := (m : Int)) (by omega) (by omega)]
  by_cases c : sumI (fun k => R (3 + k)) n = 100
  · rw [if_pos c]
    by_cases c2 : 0 < m
    · rw [if_neg (by omega), bi_t ⟨c, c2⟩]
    · rw [if_pos (by omega), bi_f (fun z => c2 z.2)]
  · rw [if_neg c, bi_f (fun z => c z.1)]
theorem m_sum {μ : Mem} {y : Int} {n m : Nat} (hO : OkR n m (μ 123)) : itr (fun z => f_X12_market_148 y z.1 z.2.1 z.2.2) FU (0, 0, μ) = some (sumI (fun k => μ 123 (3 + k)) n, μ) := by
  have hn := hO.1.1
  refine itr_for0 (fun k => (sumI (fun k => μ 123 (3 + k)) k, (k : Int), μ)) n _ (by omega) (fun k hk => ?_) ?_
  · show f_X12_market_148 y _ (k : Int) μ = _
    unfold f_X12_market_148
    rw [hO.2.1, s32_of (z := (n : Int)) (by omega) (by omega), s32_of (z := (k : Int)) (by omega) (by omega), s32_of (z := 3 + (k : Int)) (by omega) (by omega), if_neg (by omega), if_pos (by omega)]
    rfl
  · show f_X12_market_148 y _ (n : Int) μ = _
    unfold f_X12_market_148
    rw [hO.2.1, if_pos (Int.le_refl _)]
theorem m_take {μ : Mem} {y : Int} : ∃ b, itr (fun z => f_X12_market_202 y z.1 z.2) FU (0, μ) = some b ∧ ((∀ a : Int, a ≠ 121 → b a = μ a) ∧ ∀ i : Nat, i < 39 → b 121 i = μ 123 i) := by
  refine itr_forH (fun k z => ∃ κ, z = ((k : Int), κ) ∧ (∀ a : Int, a ≠ 121 → κ a = μ a) ∧ ∀ i : Nat, i < k → κ 121 i = μ 123 i) _ 39 (by decide) ⟨_, rfl, fun _ _ => rfl, fun i hi => absurd hi (Nat.not_lt_zero _)⟩ (fun k hk z hz => ?_) (fun z hz => ?_)
  · obtain ⟨κ, rfl, h1, h2⟩ := hz
    have k4 : 0 ≤ (k : Int) ∧ (k : Int) < 39 := by omega
    refine ⟨((k : Int) + 1, ups κ 121 k (μ 123 k)), ?_, _, rfl, fun a w => ?_, fun i hi => ?_⟩
    · show f_X12_market_202 y (k : Int) κ = _
      unfold f_X12_market_202
      rw [s32_of (z := (k : Int)) (by omega) (by omega), if_neg (by omega), if_pos k4, h1 123 (by decide)]
    · rw [ups_ne w]
      exact h1 a w
    · by_cases e : i = k
      · rw [e, ups_at]
      · rw [ups_ni (by omega)]
        exact h2 i (by omega)
  · obtain ⟨κ, rfl, h1, h2⟩ := hz
    refine ⟨κ, ?_, h1, h2⟩
    show f_X12_market_202 y ((39 : Nat) : Int) κ = _
    unfold f_X12_market_202
    rw [if_pos (by decide)]
