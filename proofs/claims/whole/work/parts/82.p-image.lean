/-! PURE 42: image, restore, two marks in one -/
theorem cpy_ne {σ : Mem} {a sp b dp n x : Int} (h : x ≠ b) : cpy σ a sp b dp n x = σ x := by
  funext j
  unfold cpy
  rw [if_neg (fun z => h z.1)]
theorem cpy_in {σ : Mem} {a b n i : Int} (h : 0 ≤ i ∧ i < n) : cpy σ a 0 b 0 n b i = σ a i := by
  unfold cpy
  rw [if_pos ⟨rfl, h.1, by omega⟩, show (0 : Int) + (i - 0) = i by omega]
theorem c_takeFrom {σ : Mem} {t u : Int} (ht : t + 10 < u ∨ u + 10 < t) : ∃ τ, f_X4_takeFrom t u σ = some (0, τ) ∧ (∀ a : Int, ¬ (t ≤ a ∧ a ≤ t + 10) → τ a = σ a) ∧ (τ t 0 = σ u 0 ∧ τ t 1 = σ u 1 ∧ τ t 2 = σ u 2) ∧ (∀ r i : Int, (1 ≤ r ∧ r ≤ 5) → (0 ≤ i ∧ i < 4) → τ (t + r) i = σ (u + r) i) ∧ ∀ j : Nat, j < 4 → ∀ i : Int, (0 ≤ i ∧ i < 4) → τ (t + 6 + 1 + j) i = σ (u + 6 + 1 + j) i := by
  obtain ⟨σ8, h8⟩ : ∃ σ8, σ8 = cpy (cpy (cpy (cpy (cpy (ups (ups (ups σ t 0 (σ u 0)) t 1 (σ u 1)) t 2 (σ u 2)) (u + 1) 0 (t + 1) 0 4) (u + 2) 0 (t + 2) 0 4) (u + 3) 0 (t + 3) 0 4) (u + 4) 0 (t + 4) 0 4) (u + 5) 0 (t + 5) 0 4 := ⟨_, rfl⟩
  have f0 : ∀ a : Int, ¬ (t ≤ a ∧ a ≤ t + 5) → σ8 a = σ a := fun a q => by
    rw [h8, cpy_ne (by omega), cpy_ne (by omega), cpy_ne (by omega), cpy_ne (by omega), cpy_ne (by omega), ups_ne (by omega), ups_ne (by omega), ups_ne (by omega)]
  have ft : σ8 t 0 = σ u 0 ∧ σ8 t 1 = σ u 1 ∧ σ8 t 2 = σ u 2 := by
    rw [h8, cpy_ne (by omega), cpy_ne (by omega), cpy_ne (by omega), cpy_ne (by omega), cpy_ne (by omega)]
    refine ⟨?_, ?_, ?_⟩
    · rw [ups_ni (by decide), ups_ni (by decide), ups_at]
    · rw [ups_ni (by decide), ups_at]
    · rw [ups_at]
  have fr : ∀ r i : Int, (1 ≤ r ∧ r ≤ 5) → (0 ≤ i ∧ i < 4) → σ8 (t + r) i = σ (u + r) i := fun r i hr hi => by
    have hc : r = 1 ∨ r = 2 ∨ r = 3 ∨ r = 4 ∨ r = 5 := by omega
    rcases hc with rfl | rfl | rfl | rfl | rfl
    · rw [h8, cpy_ne (by omega), cpy_ne (by omega), cpy_ne (by omega), cpy_ne (by omega), cpy_in hi, ups_ne (by omega), ups_ne (by omega), ups_ne (by omega)]
    · rw [h8, cpy_ne (by omega), cpy_ne (by omega), cpy_ne (by omega), cpy_in hi, cpy_ne (by omega), ups_ne (by omega), ups_ne (by omega), ups_ne (by omega)]
    · rw [h8, cpy_ne (by omega), cpy_ne (by omega), cpy_in hi, cpy_ne (by omega), cpy_ne (by omega), ups_ne (by omega), ups_ne (by omega), ups_ne (by omega)]
    · rw [h8, cpy_ne (by omega), cpy_in hi, cpy_ne (by omega), cpy_ne (by omega), cpy_ne (by omega), ups_ne (by omega), ups_ne (by omega), ups_ne (by omega)]
    · rw [h8, cpy_in hi, cpy_ne (by omega), cpy_ne (by omega), cpy_ne (by omega), cpy_ne (by omega), ups_ne (by omega), ups_ne (by omega), ups_ne (by omega)]
  have hl : ∃ b, itr (fun z => f_X4_takeFrom_96 t u z.1 z.2) FU (0, σ8) = some b ∧ ((∀ a : Int, ¬ (t + 7 ≤ a ∧ a ≤ t + 10) → b a = σ8 a) ∧ ∀ j : Nat, j < 4 → ∀ i : Int, (0 ≤ i ∧ i < 4) → b (t + 6 + 1 + j) i = σ8 (u + 6 + 1 + j) i) := by
    refine itr_forH (fun k z => ∃ τ, z = ((k : Int), τ) ∧ (∀ a : Int, ¬ (t + 7 ≤ a ∧ a ≤ t + 10) → τ a = σ8 a) ∧ ∀ j : Nat, j < k → ∀ i : Int, (0 ≤ i ∧ i < 4) → τ (t + 6 + 1 + j) i = σ8 (u + 6 + 1 + j) i) _ 4 (by decide) ⟨σ8, rfl, fun _ _ => rfl, fun j hj => absurd hj (Nat.not_lt_zero _)⟩ (fun k hk z hz => ?_) (fun z hz => ?_)
    · obtain ⟨τ, rfl, h1, h2⟩ := hz
      have k4 : 0 ≤ (k : Int) ∧ (k : Int) < 4 := by omega
      have uk : s32 (k : Int) = k := s32_of (by omega) (by omega)
      refine ⟨((k : Int) + 1, cpy τ (u + 6 + 1 + k) 0 (t + 6 + 1 + k) 0 4), ?_, _, rfl, fun a q => ?_, fun j hj i hi => ?_⟩
      · show f_X4_takeFrom_96 t u (k : Int) τ = _
        unfold f_X4_takeFrom_96
        rw [uk, if_neg (by clear uk; omega), if_pos k4]
      · rw [cpy_ne (by clear uk; omega)]
        exact h1 a q
      · by_cases e : j = k
        · rw [e, cpy_in hi, h1 _ (by clear uk; omega)]
        · rw [cpy_ne (by clear uk; omega)]
          exact h2 j (by clear uk; omega) i hi
    · obtain ⟨τ, rfl, h1, h2⟩ := hz
      refine ⟨τ, ?_, h1, h2⟩
      show f_X4_takeFrom_96 t u ((4 : Nat) : Int) τ = _
      unfold f_X4_takeFrom_96
      rw [if_pos (by decide)]
  obtain ⟨b, e, h1, h2⟩ := hl
  refine ⟨b, ?_, fun a q => (h1 a (by omega)).trans (f0 a (by omega)), ?_, fun r i hr hi => by rw [h1 _ (by omega)]; exact fr r i hr hi, fun j hj i hi => by rw [h2 j hj i hi, f0 _ (by omega)]⟩
  · unfold f_X4_takeFrom
    simp only [stp]
    rw [show ups σ t 0 (σ u 0) u = σ u from ups_ne (by omega), show ups (ups σ t 0 (σ u 0)) t 1 (σ u 1) u = σ u from (ups_ne (by omega)).trans (ups_ne (by omega)), ← h8, e, lb_some]
  · rw [h1 t (by omega)]
    exact ft
theorem Okx.congr {n m : Nat} {s s' : Int → Int} (h : Okx n m s) (e : ∀ i : Int, 0 ≤ i ∧ i < 39 → s' i = s i) : Okx n m s' := by
  have hn := h.1.1
  have hm := h.1.2.1
  refine ⟨⟨hn, hm, ?_, ?_, ?_, fun k hk => ?_, fun j hj => ?_⟩, ?_, fun j hj k hk => ?_⟩
  · rw [e 0 (by decide)]; exact h.1.2.2.1
  · rw [e 1 (by decide)]; exact h.1.2.2.2.1
  · rw [e 2 (by decide)]; exact h.1.2.2.2.2.1
  · rw [e _ (by omega), e _ (by omega), e _ (by omega)]
    exact h.1.2.2.2.2.2.1 k hk
  · rw [e _ (by omega), e _ (by omega)]
    refine ⟨(h.1.2.2.2.2.2.2 j hj).1, (h.1.2.2.2.2.2.2 j hj).2.1, fun k hk => ?_⟩
    rw [e _ (by omega)]
    exact (h.1.2.2.2.2.2.2 j hj).2.2 k hk
  · rw [sumI_congr (g := fun k => s (3 + k)) (fun k hk => e _ (by omega))]
    exact h.2.1
  · rw [e _ (by omega)]
    exact h.2.2 j hj k hk
theorem op_image {σ : Mem} (h : Rel σ) : Op σ (f_X11_image) (f_X12_image) := by
  unfold Op f_X11_image f_X12_image
  by_cases q : σ 0 6 = 0
  · refine ⟨-3, σ, σ, ?_, ?_, h⟩
    · rw [q, if_pos s32_0]
    · rw [m_closed h q, ob_some, if_pos s32_0]
  · obtain ⟨e1, n, m, hO, hB, hM, e6, e7⟩ := h.mk2 q
    have hn := hO.1.1
    have hm := hO.1.2.1
    have h9 := h.1.2.2.2.2.1.2.2
    obtain ⟨τ, et, t0, tt, tr, tc⟩ := c_takeFrom (σ := σ) (t := 30) (u := 10) (by decide)
    have r : ∀ a : Int, a < 30 ∨ 40 < a → τ a = σ a := fun a w => t0 a (by omega)
    have hMt : MS (ups τ 0 7 1) n m := by
      unfold MS Md
      rw [ups_ne (show (121 : Int) ≠ 0 by decide), ups_ne (show (120 : Int) ≠ 0 by decide), r 121 (by decide), r 120 (by decide)]
      exact hM
    have lm : ∃ b, itr (fun z => f_X12_image_12 z.1 z.2) FU (0, ups τ 0 7 1) = some b ∧ ((∀ a : Int, a ≠ 122 → b a = ups τ 0 7 1 a) ∧ ∀ i : Nat, i < 39 → b 122 i = σ 121 i) := by
      refine itr_forH (fun k z => ∃ κ, z = ((k : Int), κ) ∧ (∀ a : Int, a ≠ 122 → κ a = ups τ 0 7 1 a) ∧ ∀ i : Nat, i < k → κ 122 i = σ 121 i) _ 39 (by decide) ⟨_, rfl, fun _ _ => rfl, fun i hi => absurd hi (Nat.not_lt_zero _)⟩ (fun k hk z hz => ?_) (fun z hz => ?_)
      · obtain ⟨κ, rfl, h1, h2⟩ := hz
        have k4 : 0 ≤ (k : Int) ∧ (k : Int) < 39 := by omega
        have uk : s32 (k : Int) = k := s32_of (by omega) (by omega)
        have e121 : κ 121 = σ 121 := by rw [h1 121 (by decide), ups_ne (by decide), r 121 (by decide)]
        refine ⟨((k : Int) + 1, ups κ 122 k (σ 121 k)), ?_, _, rfl, fun a w => ?_, fun i hi => ?_⟩
        · show f_X12_image_12 (k : Int) κ = _
          unfold f_X12_image_12
          rw [uk, if_neg (by clear uk; omega), if_pos k4, e121]
        · rw [ups_ne w]
          exact h1 a w
        · by_cases e : i = k
          · rw [e, ups_at]
          · rw [ups_ni (by clear uk; omega)]
            exact h2 i (by clear uk; omega)
      · obtain ⟨κ, rfl, h1, h2⟩ := hz
        refine ⟨κ, ?_, h1, h2⟩
        show f_X12_image_12 ((39 : Nat) : Int) κ = _
        unfold f_X12_image_12
        rw [if_pos (by decide)]
    obtain ⟨κ, ek, k1, k2⟩ := lm
    obtain ⟨ρ, hρ⟩ : ∃ ρ, ρ = ups κ 120 9 1 := ⟨_, rfl⟩
    have p : ∀ a : Int, a ≠ 0 → a ≠ 120 → a ≠ 122 → (a < 30 ∨ 40 < a) → ρ a = σ a := fun a w1 w2 w3 w4 => by rw [hρ, ups_ne w2, k1 a w3, ups_ne w1, r a w4]
    have p0 : ∀ i : Int, i ≠ 7 → ρ 0 i = σ 0 i := fun i w => by rw [hρ, ups_ne (by decide), k1 0 (by decide), ups_ni w, r 0 (by decide)]
    have p07 : ρ 0 7 = 1 := by rw [hρ, ups_ne (by decide), k1 0 (by decide), ups_at]
    have p12 : ∀ i : Int, i ≠ 9 → ρ 120 i = σ 120 i := fun i w => by rw [hρ, ups_ni w, k1 120 (by decide), ups_ne (by decide), r 120 (by decide)]
    have p129 : ρ 120 9 = 1 := by rw [hρ, ups_at]
    have p30 : ∀ a : Int, (30 ≤ a ∧ a ≤ 40) → ρ a = τ a := fun a w => by rw [hρ, ups_ne (by omega), k1 a (by omega), ups_ne (by omega)]
    have p122 : ∀ i : Int, 0 ≤ i ∧ i < 39 → ρ 122 i = σ 121 i := fun i w => by
      obtain ⟨j, rfl⟩ : ∃ j : Nat, i = j := ⟨i.toNat, by omega⟩
      rw [hρ, ups_ne (by decide), k2 j (by omega)]
    refine ⟨n, ups τ 0 7 1, ρ, ?_, ?_, ?_⟩
    · rw [e1, if_neg (by decide), et, ob_some]
      show some (ups τ 0 7 1 30 0, ups τ 0 7 1) = _
      rw [ups_ne (by decide), tt.1, hB.1.1]
    · rw [m_openAt hMt, ob_some, if_neg (by decide), ek, lb_some]
      show some (ups κ 120 9 1 121 0, ups κ 120 9 1) = _
      rw [← hρ, p 121 (by decide) (by decide) (by decide) (by decide), hO.1.2.2.1]
    · obtain ⟨hF, hMM, hI, hS⟩ := h
      refine ⟨?_, ?_, fun _ => ⟨n, m, hO.congr p122, ?_⟩, fun d hd => ?_⟩
      · unfold RelF
        rw [p0 6 (by decide), p07, p129, p12 17 (by decide), p12 18 (by decide), p12 19 (by decide), p12 20 (by decide), p 72 (by decide) (by decide) (by decide) (by decide)]
        exact ⟨hF.1, Or.inr ⟨rfl, e1⟩, rfl, hF.2.2.2⟩
      · right
        have e121 : ρ 121 = σ 121 := p 121 (by decide) (by decide) (by decide) (by decide)
        refine ⟨(p0 6 (by decide)).trans e1, n, m, by rw [e121]; exact hO, ?_⟩
        rw [e121]
        exact hB.1.of hm.2 (fun a w => p a (by omega) (by omega) (by omega) (by omega)) (by rw [p 72 (by decide) (by decide) (by decide) (by decide)]) (by rw [p 72 (by decide) (by decide) (by decide) (by decide)])
      · refine ⟨?_, ?_, ?_, fun k hk => ?_, fun j hj => ?_⟩
        · rw [p30 30 (by decide), tt.1]; exact hB.1.1
        · rw [p30 30 (by decide), tt.2.1]; exact hB.1.2.1
        · rw [p30 30 (by decide), tt.2.2, p122 2 (by decide)]; exact hB.1.2.2.1
        · have z1 := tr 1 k (by decide) (by omega)
          have z2 := tr 2 k (by decide) (by omega)
          have z3 := tr 3 k (by decide) (by omega)
          rw [p30 31 (by decide), p30 32 (by decide), p30 33 (by decide), show τ 31 k = σ 11 k from z1, show τ 32 k = σ 12 k from z2, show τ 33 k = σ 13 k from z3, p122 _ (by omega), p122 _ (by omega), p122 _ (by omega)]
          exact hB.1.2.2.2.1 k hk
        · have z1 := tr 4 j (by decide) (by omega)
          have z2 := tr 5 j (by decide) (by omega)
          rw [p30 34 (by decide), p30 35 (by decide), show τ 34 j = σ 14 j from z1, show τ 35 j = σ 15 j from z2, p122 _ (by omega), p122 _ (by omega)]
          refine ⟨(hB.1.2.2.2.2 j hj).1, (hB.1.2.2.2.2 j hj).2.1, fun k hk => ?_⟩
          rw [p30 (36 + 1 + j) (by omega), p122 _ (by omega), ← hB.1.cost h9 hj hk]
          exact tc j (by omega) k (by omega)
      · have z := hS d hd
        unfold ShR FitR at z ⊢
        rw [p 124 (by decide) (by decide) (by decide) (by decide), p 125 (by decide) (by decide) (by decide) (by decide), p 126 (by decide) (by decide) (by decide) (by decide), p 127 (by decide) (by decide) (by decide) (by decide), p 128 (by decide) (by decide) (by decide) (by decide), p 129 (by decide) (by decide) (by decide) (by decide), p (80 + 2 * d) (by omega) (by omega) (by omega) (by omega), p (100 + 2 * d) (by omega) (by omega) (by omega) (by omega), p (80 + 2 * d + 1) (by omega) (by omega) (by omega) (by omega)]
        exact z
theorem op_restore {σ : Mem} (h : Rel σ) : Op σ (f_X11_restore) (f_X12_restore) := by
  unfold Op f_X11_restore f_X12_restore
  have hF := h.1
  by_cases q : σ 0 7 = 0
  · refine ⟨-3, σ, σ, ?_, ?_, h⟩
    · rw [q, if_pos s32_0]
    · rw [hF.2.2.1, q, if_pos s32_0]
  · have q1 : σ 0 7 = 1 ∧ σ 0 6 = 1 := by
      rcases hF.2.1 with w | w
      · exact absurd w q
      · exact w
    obtain ⟨n, m, hO, hC⟩ := h.2.2.1 q1.1
    have hn := hO.1.1
    have hm := hO.1.2.1
    have h9 := hF.2.2.2.2.1.2.2
    obtain ⟨τ, et, t0, tt, tr, tc⟩ := c_takeFrom (σ := σ) (t := 10) (u := 30) (by decide)
    have r : ∀ a : Int, a < 10 ∨ 20 < a → τ a = σ a := fun a w => t0 a (by omega)
    have lm : ∃ b, itr (fun z => f_X12_restore_12 z.1 z.2) FU (0, τ) = some b ∧ ((∀ a : Int, a ≠ 121 → b a = τ a) ∧ ∀ i : Nat, i < 39 → b 121 i = σ 122 i) := by
      refine itr_forH (fun k z => ∃ κ, z = ((k : Int), κ) ∧ (∀ a : Int, a ≠ 121 → κ a = τ a) ∧ ∀ i : Nat, i < k → κ 121 i = σ 122 i) _ 39 (by decide) ⟨_, rfl, fun _ _ => rfl, fun i hi => absurd hi (Nat.not_lt_zero _)⟩ (fun k hk z hz => ?_) (fun z hz => ?_)
      · obtain ⟨κ, rfl, h1, h2⟩ := hz
        have k4 : 0 ≤ (k : Int) ∧ (k : Int) < 39 := by omega
        have uk : s32 (k : Int) = k := s32_of (by omega) (by omega)
        have e122 : κ 122 = σ 122 := by rw [h1 122 (by decide), r 122 (by decide)]
        refine ⟨((k : Int) + 1, ups κ 121 k (σ 122 k)), ?_, _, rfl, fun a w => ?_, fun i hi => ?_⟩
        · show f_X12_restore_12 (k : Int) κ = _
          unfold f_X12_restore_12
          rw [uk, if_neg (by clear uk; omega), if_pos k4, e122]
        · rw [ups_ne w]
          exact h1 a w
        · by_cases e : i = k
          · rw [e, ups_at]
          · rw [ups_ni (by clear uk; omega)]
            exact h2 i (by clear uk; omega)
      · obtain ⟨κ, rfl, h1, h2⟩ := hz
        refine ⟨κ, ?_, h1, h2⟩
        show f_X12_restore_12 ((39 : Nat) : Int) κ = _
        unfold f_X12_restore_12
        rw [if_pos (by decide)]
    obtain ⟨κ, ek, k1, k2⟩ := lm
    have p : ∀ a : Int, a ≠ 121 → (a < 10 ∨ 20 < a) → κ a = σ a := fun a w3 w4 => by rw [k1 a w3, r a w4]
    have p10 : ∀ a : Int, (10 ≤ a ∧ a ≤ 20) → κ a = τ a := fun a w => k1 a (by omega)
    have p121 : ∀ i : Int, 0 ≤ i ∧ i < 39 → κ 121 i = σ 122 i := fun i w => by
      obtain ⟨j, rfl⟩ : ∃ j : Nat, i = j := ⟨i.toNat, by omega⟩
      rw [k2 j (by omega)]
    have hOk : Okx n m (κ 121) := hO.congr p121
    refine ⟨n, τ, κ, ?_, ?_, h.mkM (fun a i w => ?_) (Or.inr ⟨?_, n, m, hOk, ?_, ?_, ?_, fun k hk => ?_, fun j hj => ?_⟩)⟩
    · rw [q1.1, if_neg (by decide), et, ob_some, tt.1, hC.1]
    · rw [r 120 (by decide), hF.2.2.1, q1.1, if_neg (by decide), ek, lb_some]
      show some (κ 121 0, κ) = _
      rw [hOk.1.2.2.1]
    · rw [p a (by omega) (by omega)]
    · rw [p 0 (by decide) (by decide)]
      exact q1.2
    · rw [p10 10 (by decide), tt.1]; exact hC.1
    · rw [p10 10 (by decide), tt.2.1]; exact hC.2.1
    · rw [p10 10 (by decide), tt.2.2, p121 2 (by decide)]; exact hC.2.2.1
    · have z1 := tr 1 k (by decide) (by omega)
      have z2 := tr 2 k (by decide) (by omega)
      have z3 := tr 3 k (by decide) (by omega)
      rw [p10 11 (by decide), p10 12 (by decide), p10 13 (by decide), show τ 11 k = σ 31 k from z1, show τ 12 k = σ 32 k from z2, show τ 13 k = σ 33 k from z3, p121 _ (by omega), p121 _ (by omega), p121 _ (by omega)]
      exact hC.2.2.2.1 k hk
    · have z1 := tr 4 j (by decide) (by omega)
      have z2 := tr 5 j (by decide) (by omega)
      rw [p10 14 (by decide), p10 15 (by decide), show τ 14 j = σ 34 j from z1, show τ 15 j = σ 35 j from z2, p121 _ (by omega), p121 _ (by omega), p 72 (by decide) (by decide), h9]
      refine ⟨(hC.2.2.2.2 j hj).1, (hC.2.2.2.2 j hj).2.1, fun k hk => ?_⟩
      rw [p10 (16 + 1 + j) (by omega), p121 _ (by omega), ← (hC.2.2.2.2 j hj).2.2 k hk]
      have := tc j (by omega) k (by omega)
      have this' : τ (16 + 1 + j) k = σ (36 + 1 + j) k := this
      rw [this']
      split <;> omega
