/-! PURE 39: shelves: row, put -/
/-- one shelf has changed -/
theorem Rel.shelf {σ τ : Mem} (h : Rel σ) {d : Nat} (hd : d < 8) (hc : ∀ a i : Int, ¬ (scr a i ∨ a = 80 + 2 * d ∨ a = 81 + 2 * d ∨ a = 100 + 2 * d ∨ ((a = 124 ∨ a = 125 ∨ a = 126 ∨ a = 128 ∨ a = 129) ∧ i = d) ∨ (a = 127 ∧ 120 * (d : Int) ≤ i ∧ i < 120 * (d : Int) + 120)) → τ a i = σ a i) (hs : ShR τ d) : Rel τ := by
  obtain ⟨hF, hM, hI, hS⟩ := h
  have r : ∀ a : Int, (a = 0 ∨ a = 1 ∨ (10 ≤ a ∧ a ≤ 40) ∨ (a = 121 ∨ a = 122)) → τ a = σ a := fun a q => funext fun i => hc a i (by unfold scr; omega)
  have e7 : ∀ i : Int, (i = 6 ∨ i = 7 ∨ i = 8 ∨ i = 9 ∨ i = 11 ∨ i = 12 ∨ i = 13) → τ 72 i = σ 72 i := fun i q => hc 72 i (by unfold scr; omega)
  have e12 : ∀ i : Int, (i = 9 ∨ i = 17 ∨ i = 18 ∨ i = 19 ∨ i = 20) → τ 120 i = σ 120 i := fun i q => hc 120 i (by unfold scr; omega)
  refine ⟨?_, ?_, ?_, ?_⟩
  · unfold RelF
    rw [r 0 (by omega), e7 6 (by omega), e7 7 (by omega), e7 8 (by omega), e7 9 (by omega), e7 11 (by omega), e7 12 (by omega), e7 13 (by omega), e12 9 (by omega), e12 17 (by omega), e12 18 (by omega), e12 19 (by omega), e12 20 (by omega)]
    exact hF
  · unfold RelM CK
    rw [r 0 (by omega), r 121 (by omega), r 10 (by omega)]
    rcases hM with q | ⟨q, n, m, hO, hC⟩
    · exact Or.inl q
    · refine Or.inr ⟨q, n, m, hO, hC.1, hC.2.1, hC.2.2.1, fun k hk => ?_, fun j hj => ?_⟩
      · rw [r 11 (by omega), r 12 (by omega), r 13 (by omega)]
        exact hC.2.2.2.1 k hk
      · have hm := hO.1.2.1
        rw [r 14 (by omega), r 15 (by omega), r (16 + 1 + j) (by omega), e7 8 (by omega), e7 9 (by omega)]
        exact hC.2.2.2.2 j hj
  · unfold RelI CI
    rw [r 0 (by omega), r 122 (by omega), r 30 (by omega)]
    intro q
    obtain ⟨n, m, hO, hC⟩ := hI q
    refine ⟨n, m, hO, hC.1, hC.2.1, hC.2.2.1, fun k hk => ?_, fun j hj => ?_⟩
    · rw [r 31 (by omega), r 32 (by omega), r 33 (by omega)]
      exact hC.2.2.2.1 k hk
    · have hm := hO.1.2.1
      rw [r 34 (by omega), r 35 (by omega), r (36 + 1 + j) (by omega)]
      exact hC.2.2.2.2 j hj
  · intro d' hd'
    by_cases e : d' = d
    · rw [e]
      exact hs
    · have q := hS d' hd'
      have w : ∀ a : Int, (a = 80 + 2 * d' ∨ a = 80 + 2 * d' + 1 ∨ a = 100 + 2 * d') → τ a = σ a := fun a z => funext fun i => hc a i (by unfold scr; omega)
      have w2 : ∀ a : Int, (a = 124 ∨ a = 125 ∨ a = 126 ∨ a = 128 ∨ a = 129) → τ a d' = σ a d' := fun a z => hc a d' (by unfold scr; omega)
      have w3 : ∀ j : Nat, j < 120 → τ 127 (120 * d' + j) = σ 127 (120 * d' + j) := fun j hj => hc 127 _ (by unfold scr; omega)
      unfold ShR FitR at q ⊢
      rw [w (80 + 2 * d') (by omega), w (100 + 2 * d') (by omega), w (80 + 2 * d' + 1) (by omega), w2 124 (by omega), w2 125 (by omega), w2 126 (by omega), w2 128 (by omega), w2 129 (by omega)]
      rcases q with q | q | q
      · exact Or.inl q
      · exact Or.inr (Or.inl q)
      · refine Or.inr (Or.inr ⟨q.1, q.2.1, q.2.2.1, q.2.2.2.1, q.2.2.2.2.1, q.2.2.2.2.2.1, fun j hj => ?_⟩)
        rw [w3 j hj]
        exact q.2.2.2.2.2.2 j hj
theorem ShR.kd {σ : Mem} {d : Int} (h : ShR σ d) : (σ 124 d = 0 ∧ σ (80 + 2 * d) 1 = -1 ∧ σ (80 + 2 * d) 3 = 0) ∨ (σ 124 d = 1 ∧ σ (80 + 2 * d) 1 = -1 ∧ σ (80 + 2 * d) 3 = 1) ∨ (σ 124 d = 2 ∧ σ (80 + 2 * d) 1 = σ 125 d ∧ (0 ≤ σ 125 d ∧ σ 125 d ≤ 2) ∧ σ (80 + 2 * d) 3 = 0 ∧ σ (80 + 2 * d) 2 = σ 126 d ∧ 0 ≤ σ 126 d ∧ σ 126 d ≤ 120) := by
  rcases h with q | q | q
  · exact Or.inl q
  · exact Or.inr (Or.inl ⟨q.1, q.2.1, q.2.2.1⟩)
  · exact Or.inr (Or.inr ⟨q.1, q.2.2.1, q.2.2.2.1, q.2.1, q.2.2.2.2.1, q.2.2.2.2.2.1⟩)
theorem c_isBare {σ : Mem} {d : Int} (h : ShR σ d) : f_X8_isBare (80 + 2 * d) σ = some (bi (σ 124 d = 0), σ) := by
  unfold f_X8_isBare
  rcases h.kd with ⟨k1, k2, k3⟩ | ⟨k1, k2, k3⟩ | ⟨k1, k2, k4, k3, -⟩
  · rw [if_pos k3, k2, if_pos (by decide), bi_t k1]
  · rw [if_neg (by omega), bi_f (by omega)]
  · rw [if_pos k3, k2, s32_of (by omega) (by omega), if_neg (by omega), bi_f (by omega)]
theorem c_holdsRow {σ : Mem} {d : Int} (h : ShR σ d) : f_X8_holdsRow (80 + 2 * d) σ = some (bi (σ 124 d = 2), σ) := by
  unfold f_X8_holdsRow
  rcases h.kd with ⟨k1, k2, k3⟩ | ⟨k1, k2, k3⟩ | ⟨k1, k2, k4, k3, -⟩
  · rw [k2, if_pos (by decide), bi_f (by omega)]
  · rw [k2, if_pos (by decide), bi_f (by omega)]
  · rw [k2, s32_of (by omega) (by omega), if_neg (by omega), bi_t k1]
theorem c_holdsRowOf {σ : Mem} {d v : Int} (h : ShR σ d) (hv : s32 v = v) : f_X8_holdsRowOf (80 + 2 * d) v σ = some (bi (σ 124 d = 2 ∧ σ 125 d = v), σ) := by
  unfold f_X8_holdsRowOf
  rw [c_holdsRow h, ob_some]
  by_cases c : σ 124 d = 2
  · rcases h.kd with ⟨k1, k2, k3⟩ | ⟨k1, k2, k3⟩ | ⟨k1, k2, k4, k3, -⟩
    · omega
    · omega
    · rw [bi_t c, if_neg (by decide), k2, s32_of (z := σ 125 d) (by clear hv; omega) (by clear hv; omega), hv]
      by_cases e : σ 125 d = v
      · rw [if_pos e, bi_t ⟨c, e⟩]
      · rw [if_neg e, bi_f (fun z => e z.2)]
  · rw [bi_f c, if_pos s32_0, bi_f (fun z => c z.1)]
theorem c_hasPlaces {σ : Mem} {d v w : Int} (h : ShR σ d) (h2 : σ 124 d = 2) (hv : s32 v = v) (hw : s32 w = w) : f_X8_hasPlaces (80 + 2 * d) v w σ = some (bi ((0 ≤ v ∧ 0 ≤ w) ∧ v + w ≤ σ 126 d), σ) := by
  have k : σ (80 + 2 * d) 2 = σ 126 d ∧ 0 ≤ σ 126 d ∧ σ 126 d ≤ 120 := by
    rcases h.kd with q | q | q
    · omega
    · omega
    · exact q.2.2.2.2
  unfold f_X8_hasPlaces
  rw [hv, hw, k.1, s32_of (z := σ 126 d) (by clear hv hw; omega) (by clear hv hw; omega)]
  by_cases c1 : v < 0
  · rw [if_pos c1, bi_f (by clear hv hw; omega)]
  · rw [if_neg c1]
    by_cases c2 : w < 0
    · rw [if_pos c2, bi_f (by clear hv hw; omega)]
    · rw [if_neg c2]
      by_cases c3 : σ 126 d < w
      · rw [if_pos c3, bi_f (by clear hv hw; omega)]
      · rw [if_neg c3, s32_of (z := σ 126 d - w) (by clear hv hw; omega) (by clear hv hw; omega)]
        by_cases c4 : σ 126 d - w < v
        · rw [if_pos c4, bi_f (by clear hv hw; omega)]
        · rw [if_neg c4, bi_t (by clear hv hw; omega)]
theorem m_wrongRow {σ : Mem} (h : RelS σ) {d : Nat} (hd : d < 8) {v : Int} (hv : s32 v = v) : f_X12_wrongRow d v σ = some (if σ 124 d = 0 then -11 else if σ 124 d = 2 ∧ (v < 0 ∨ σ 125 d = v) then 0 else -12, σ) := by
  have q := (h d hd).kd
  have hd' : s32 (d : Int) = d := s32_of (by clear hv; omega) (by clear hv; omega)
  have d8 : 0 ≤ (d : Int) ∧ (d : Int) < 8 := by clear hv hd'; omega
  unfold f_X12_wrongRow
  rw [m_isShelf hd', ob_some, bi_t (by clear hv hd'; omega), if_neg (by decide), hd', if_pos d8]
  have k : 0 ≤ σ 124 d ∧ σ 124 d ≤ 2 := by clear hv hd'; omega
  rw [s32_of (z := σ 124 d) (by clear hv hd'; omega) (by clear hv hd'; omega), hv]
  by_cases c1 : σ 124 d = 0
  · rw [if_pos c1, if_pos c1]
  · rw [if_neg c1, if_neg c1]
    by_cases c2 : σ 124 d = 2
    · rw [if_pos c2]
      by_cases c3 : v < 0
      · rw [if_pos c3, if_pos ⟨c2, Or.inl c3⟩]
      · rw [if_neg c3, s32_of (z := σ 125 d) (by clear hv hd'; omega) (by clear hv hd'; omega)]
        by_cases c4 : σ 125 d = v
        · rw [if_pos c4, if_pos ⟨c2, Or.inr c4⟩]
        · rw [if_neg c4, if_neg (by clear hv hd'; omega)]
    · rw [if_neg c2, if_neg (by clear hv hd'; omega)]
theorem m_wrongNo {σ : Mem} {d v : Int} (hd : s32 d = d) (h : ¬ (0 ≤ d ∧ d ≤ 7)) : f_X12_wrongRow d v σ = some (-1, σ) := by
  unfold f_X12_wrongRow
  rw [m_isShelf hd, ob_some, bi_f h, if_pos s32_0]
theorem m_wrong0 {σ : Mem} (h : RelS σ) {d : Nat} (hd : d < 8) {v : Int} (hv : s32 v = v) (k : σ 124 d = 0) : f_X12_wrongRow d v σ = some (-11, σ) := by
  rw [m_wrongRow h hd hv, if_pos k]
theorem m_wrongOk {σ : Mem} (h : RelS σ) {d : Nat} (hd : d < 8) {v : Int} (hv : s32 v = v) (k : σ 124 d = 2) (k2 : v < 0 ∨ σ 125 d = v) : f_X12_wrongRow d v σ = some (0, σ) := by
  rw [m_wrongRow h hd hv, if_neg (by clear hv; omega), if_pos ⟨k, k2⟩]
theorem m_wrong12 {σ : Mem} (h : RelS σ) {d : Nat} (hd : d < 8) {v : Int} (hv : s32 v = v) (k : ¬ σ 124 d = 0) (k2 : ¬ (σ 124 d = 2 ∧ (v < 0 ∨ σ 125 d = v))) : f_X12_wrongRow d v σ = some (-12, σ) := by
  rw [m_wrongRow h hd hv, if_neg k, if_neg k2]
/-- a row of zeros -/
theorem c_fill {σ : Mem} (u : Int) : ∃ τ, f_J7_fill_53178 u 0 σ = some (0, τ) ∧ (∀ a i : Int, ¬ (a = u ∧ 0 ≤ i ∧ i < 120) → τ a i = σ a i) ∧ ∀ i : Nat, i < 120 → τ u i = 0 := by
  have hl : ∃ b, itr (fun z => f_J7_fill_53178_5 u 0 120 z.1 z.2) FU (0, σ) = some b ∧ ((∀ a i : Int, ¬ (a = u ∧ 0 ≤ i ∧ i < 120) → b a i = σ a i) ∧ ∀ i : Nat, i < 120 → b u i = 0) := by
    refine itr_forH (fun k z => ∃ τ, z = ((k : Int), τ) ∧ (∀ a i : Int, ¬ (a = u ∧ 0 ≤ i ∧ i < (k : Int)) → τ a i = σ a i) ∧ ∀ i : Nat, i < k → τ u i = 0) _ 120 (by decide) ⟨σ, rfl, fun _ _ _ => rfl, fun i hi => absurd hi (Nat.not_lt_zero _)⟩ (fun k hk z hz => ?_) (fun z hz => ?_)
    · obtain ⟨τ, rfl, h1, h2⟩ := hz
      have k4 : 0 ≤ (k : Int) ∧ (k : Int) < 120 := by omega
      refine ⟨((k : Int) + 1, ups τ u k 0), ?_, ups τ u k 0, rfl, fun a i q => ?_, fun i hi => ?_⟩
      · show f_J7_fill_53178_5 u 0 120 (k : Int) τ = _
        unfold f_J7_fill_53178_5
        rw [s32_of (z := (k : Int)) (by omega) (by omega), if_neg (show ¬ s32 120 ≤ (k : Int) by rw [s32_of (by decide) (by decide)]; omega), if_pos k4]
      · unfold ups
        rw [if_neg (fun z => q ⟨z.1, by omega, by omega⟩)]
        exact h1 a i (fun z => q ⟨z.1, by omega, by omega⟩)
      · by_cases e : i = k
        · rw [e, ups_at]
        · rw [ups_ni (by omega)]
          exact h2 i (by omega)
    · obtain ⟨τ, rfl, h1, h2⟩ := hz
      refine ⟨τ, ?_, h1, h2⟩
      show f_J7_fill_53178_5 u 0 120 ((120 : Nat) : Int) τ = _
      unfold f_J7_fill_53178_5
      rw [if_pos (by decide)]
  obtain ⟨b, e, h1, h2⟩ := hl
  refine ⟨b, ?_, h1, h2⟩
  unfold f_J7_fill_53178
  rw [e, lb_some]
theorem op_row {σ : Mem} (h : Rel σ) {v w x : Int} (hv : s32 v = v) (hw : s32 w = w) (hx : s32 x = x) : Op σ (f_X11_row v w x) (f_X12_row v w x) := by
  have w1 := s32_lo w
  have w2 := s32_hi w
  rw [hw] at w1 w2
  unfold Op f_X11_row f_X12_row
  rw [c_isShelf' hv, ob_some, hv, hw, hx]
  by_cases c1 : 0 ≤ v ∧ v ≤ 7
  · obtain ⟨d, hd, rfl⟩ : ∃ d : Nat, d < 8 ∧ v = d := ⟨v.toNat, by clear hv hw hx; omega, by clear hv hw hx; omega⟩
    have d8 : 0 ≤ (d : Int) ∧ (d : Int) < 8 := by clear hv hw hx; omega
    rw [bi_t c1, if_neg (by decide)]
    by_cases c2 : 0 ≤ w ∧ w ≤ 2
    · rw [if_neg (show ¬ w < 0 by clear hv hw hx; omega), if_neg (show ¬ 2 < w by clear hv hw hx; omega)]
      by_cases c3 : x ≤ 120
      · rw [if_pos c3]
        by_cases c4 : 0 ≤ x
        · rw [if_pos c4, if_pos d8]
          unfold f_X8_holdRow f_X8_clear
          simp only [stp, ob_some]
          obtain ⟨τ, hτ⟩ : ∃ τ, τ = ups (ups (ups (ups (ups σ (80 + 2 * (d : Int)) 1 (-1)) (80 + 2 * (d : Int)) 2 0) (80 + 2 * (d : Int)) 3 0) (80 + 2 * (d : Int)) 1 w) (80 + 2 * (d : Int)) 2 x := ⟨_, rfl⟩
          rw [← hτ]
          obtain ⟨υ, ef, hf1, hf2⟩ := c_fill (σ := τ) (80 + 2 * (d : Int) + 1)
          have t0 : ∀ a i : Int, a ≠ 80 + 2 * (d : Int) → τ a i = σ a i := fun a i q => by rw [hτ, ups_ne q, ups_ne q, ups_ne q, ups_ne q, ups_ne q]
          have t1 : τ (80 + 2 * (d : Int)) 1 = w := by rw [hτ, ups_ni (by decide), ups_at]
          have t2 : τ (80 + 2 * (d : Int)) 2 = x := by rw [hτ, ups_at]
          have t3 : τ (80 + 2 * (d : Int)) 3 = 0 := by rw [hτ, ups_ni (by decide), ups_ni (by decide), ups_at]
          have u0 : ∀ a i : Int, a ≠ 80 + 2 * (d : Int) → a ≠ 81 + 2 * (d : Int) → υ a i = σ a i := fun a i q1 q2 => (hf1 a i (fun z => q2 (by rw [z.1]; clear hv hw hx; omega))).trans (t0 a i q1)
          have lm : ∃ b, itr (fun z => f_X12_row_58 d z.1 z.2) FU (0, ups (ups (ups υ 124 d 2) 125 d w) 126 d x) = some b ∧ ((∀ a i : Int, ¬ (a = 127 ∧ 120 * (d : Int) ≤ i ∧ i < 120 * (d : Int) + 120) → b a i = ups (ups (ups υ 124 d 2) 125 d w) 126 d x a i) ∧ ∀ i : Nat, i < 120 → b 127 (120 * d + i) = 0) := by
            refine itr_forH (fun k z => ∃ ρ, z = ((k : Int), ρ) ∧ (∀ a i : Int, ¬ (a = 127 ∧ 120 * (d : Int) ≤ i ∧ i < 120 * (d : Int) + k) → ρ a i = ups (ups (ups υ 124 d 2) 125 d w) 126 d x a i) ∧ ∀ i : Nat, i < k → ρ 127 (120 * d + i) = 0) _ 120 (by decide) ⟨_, rfl, fun _ _ _ => rfl, fun i hi => absurd hi (Nat.not_lt_zero _)⟩ (fun k hk z hz => ?_) (fun z hz => ?_)
            · obtain ⟨ρ, rfl, h1, h2⟩ := hz
              have k4 : 0 ≤ 120 * (d : Int) + (k : Int) ∧ 120 * (d : Int) + (k : Int) < 960 := by clear hv hw hx; omega
              refine ⟨((k : Int) + 1, ups ρ 127 (120 * d + k) 0), ?_, _, rfl, fun a i q => ?_, fun i hi => ?_⟩
              · show f_X12_row_58 d (k : Int) ρ = _
                unfold f_X12_row_58
                rw [s32_of (z := (k : Int)) (by clear hv hw hx; omega) (by clear hv hw hx; omega), if_neg (by clear hv hw hx; omega), s32_of (z := 120 * (d : Int) + (k : Int)) (by clear hv hw hx; omega) (by clear hv hw hx; omega), if_pos k4]
              · have e : ups ρ 127 (120 * (d : Int) + k) 0 a i = ρ a i := by
                  unfold ups
                  rw [if_neg (fun z => q ⟨z.1, by clear hv hw hx; omega, by clear hv hw hx; omega⟩)]
                rw [e]
                exact h1 a i (fun z => q ⟨z.1, by clear hv hw hx; omega, by clear hv hw hx; omega⟩)
              · by_cases e : i = k
                · rw [e, ups_at]
                · rw [ups_ni (by clear hv hw hx; omega)]
                  exact h2 i (by clear hv hw hx; omega)
            · obtain ⟨ρ, rfl, h1, h2⟩ := hz
              refine ⟨ρ, ?_, h1, h2⟩
              show f_X12_row_58 d ((120 : Nat) : Int) ρ = _
              unfold f_X12_row_58
              rw [if_pos (by decide)]
          obtain ⟨ρ, er, hr1, hr2⟩ := lm
          have r0 : ∀ a i : Int, a ≠ 124 → a ≠ 125 → a ≠ 126 → a ≠ 127 → ρ a i = υ a i := fun a i q1 q2 q3 q4 => (hr1 a i (fun z => q4 z.1)).trans (by rw [ups_ne q3, ups_ne q2, ups_ne q1])
          have r124 : ∀ i : Int, ρ 124 i = if i = d then 2 else υ 124 i := fun i => (hr1 124 i (fun z => by have := z.1; clear hv hw hx; omega)).trans (by rw [ups_ne (by decide), ups_ne (by decide), ups_self]; rfl)
          have r125 : ∀ i : Int, ρ 125 i = if i = d then w else υ 125 i := fun i => (hr1 125 i (fun z => by have := z.1; clear hv hw hx; omega)).trans (by rw [ups_ne (by decide), ups_self, ups_ne (by decide)]; rfl)
          have r126 : ∀ i : Int, ρ 126 i = if i = d then x else υ 126 i := fun i => (hr1 126 i (fun z => by have := z.1; clear hv hw hx; omega)).trans (by rw [ups_self, ups_ne (by decide), ups_ne (by decide)]; rfl)
          have hR : Rel ρ := by
            refine h.shelf hd (fun a i q => ?_) (Or.inr (Or.inr ⟨?_, ?_, ?_, ?_, ?_, ?_, fun j hj => ?_⟩))
            · by_cases z4 : a = 124
              · subst z4
                rw [r124, if_neg (by clear hv hw hx; omega)]
                exact u0 _ _ (by clear hv hw hx; omega) (by clear hv hw hx; omega)
              · by_cases z5 : a = 125
                · subst z5
                  rw [r125, if_neg (by clear hv hw hx; omega)]
                  exact u0 _ _ (by clear hv hw hx; omega) (by clear hv hw hx; omega)
                · by_cases z6 : a = 126
                  · subst z6
                    rw [r126, if_neg (by clear hv hw hx; omega)]
                    exact u0 _ _ (by clear hv hw hx; omega) (by clear hv hw hx; omega)
                  · by_cases z7 : a = 127
                    · subst z7
                      rw [hr1 127 i (by clear hv hw hx; omega), ups_ne (by decide), ups_ne (by decide), ups_ne (by decide)]
                      exact u0 _ _ (by clear hv hw hx; omega) (by clear hv hw hx; omega)
                    · rw [r0 a i z4 z5 z6 z7]
                      exact u0 _ _ (by clear hv hw hx; omega) (by clear hv hw hx; omega)
            · rw [r124, if_pos rfl]
            · rw [r0 _ _ (by clear hv hw hx; omega) (by clear hv hw hx; omega) (by clear hv hw hx; omega) (by clear hv hw hx; omega), hf1 _ _ (by clear hv hw hx; omega), t3]
            · rw [r0 _ _ (by clear hv hw hx; omega) (by clear hv hw hx; omega) (by clear hv hw hx; omega) (by clear hv hw hx; omega), hf1 _ _ (by clear hv hw hx; omega), t1, r125, if_pos rfl]
            · rw [r125, if_pos rfl]
              exact c2
            · rw [r0 _ _ (by clear hv hw hx; omega) (by clear hv hw hx; omega) (by clear hv hw hx; omega) (by clear hv hw hx; omega), hf1 _ _ (by clear hv hw hx; omega), t2, r126, if_pos rfl]
            · rw [r126, if_pos rfl]
              exact ⟨c4, c3⟩
            · rw [r0 _ _ (by clear hv hw hx; omega) (by clear hv hw hx; omega) (by clear hv hw hx; omega) (by clear hv hw hx; omega), hf2 j hj, hr2 j hj]
              exact ⟨rfl, by decide, by decide⟩
          refine ⟨0, υ, ρ, by rw [ef, ob_some, ob_some], ?_, hR⟩
          rw [m_isShelf hv, ob_some, bi_t c1, if_neg (by decide), m_isInT ⟨w1, w2⟩ (by decide) (by decide), ob_some, bi_t c2, if_neg (by decide), if_pos c3, if_pos c4, if_pos d8, er, lb_some]
        · refine ⟨-14, σ, σ, by rw [if_neg c4], ?_, h⟩
          rw [m_isShelf hv, ob_some, bi_t c1, if_neg (by decide), m_isInT ⟨w1, w2⟩ (by decide) (by decide), ob_some, bi_t c2, if_neg (by decide), if_pos c3, if_neg c4]
      · refine ⟨-1, σ, σ, by rw [if_neg c3], ?_, h⟩
        rw [m_isShelf hv, ob_some, bi_t c1, if_neg (by decide), m_isInT ⟨w1, w2⟩ (by decide) (by decide), ob_some, bi_t c2, if_neg (by decide), if_neg c3]
    · refine ⟨-1, σ, σ, ?_, ?_, h⟩
      · by_cases c5 : w < 0
        · rw [if_pos c5]
        · rw [if_neg c5, if_pos (by clear hv hw hx; omega)]
      · rw [m_isShelf hv, ob_some, bi_t c1, if_neg (by decide), m_isInT ⟨w1, w2⟩ (by decide) (by decide), ob_some, bi_f c2, if_pos s32_0]
  · refine ⟨-1, σ, σ, by rw [bi_f c1, if_pos s32_0], ?_, h⟩
    rw [m_isShelf hv, ob_some, bi_f c1, if_pos s32_0]
theorem b8_in (v : Int) : inI (b8 v) := by
  unfold b8 inI
  have h1 := Int32.le_toInt ((iI v).toInt8.toInt32)
  have h2 := Int32.toInt_lt ((iI v).toInt8.toInt32)
  omega
theorem h16_in (v : Int) : inI (h16 v) := by
  unfold h16 inI
  have h1 := Int32.le_toInt ((iI v).toInt16.toInt32)
  have h2 := Int32.toInt_lt ((iI v).toInt16.toInt32)
  omega
/-- one element of a row has changed -/
theorem Rel.elem {σ : Mem} (h : Rel σ) {d : Nat} (hd : d < 8) (h2 : σ 124 d = 2) {i : Nat} (hi : i < 120) {z : Int} (hz : inI z) : Rel (ups (ups σ (80 + 2 * d + 1) i z) 127 (120 * d + i) z) := by
  have q := h.2.2.2 d hd
  have q2 : σ (80 + 2 * (d : Int)) 3 = 0 ∧ σ (80 + 2 * (d : Int)) 1 = σ 125 d ∧ (0 ≤ σ 125 d ∧ σ 125 d ≤ 2) ∧ σ (80 + 2 * (d : Int)) 2 = σ 126 d ∧ (0 ≤ σ 126 d ∧ σ 126 d ≤ 120) ∧ ∀ j : Nat, j < 120 → σ (80 + 2 * (d : Int) + 1) j = σ 127 (120 * d + j) ∧ inI (σ 127 (120 * d + j)) := by
    rcases q with w | w | w
    · omega
    · omega
    · exact w.2
  have r : ∀ a : Int, a ≠ 80 + 2 * d + 1 → a ≠ 127 → ups (ups σ (80 + 2 * d + 1) i z) 127 (120 * d + i) z a = σ a := fun a w1 w2 => by rw [ups_ne w2, ups_ne w1]
  refine h.shelf hd (fun a j w => ?_) (Or.inr (Or.inr ⟨?_, ?_, ?_, ?_, ?_, ?_, fun j hj => ?_⟩))
  · unfold ups
    rw [if_neg (fun y => w (by omega)), if_neg (fun y => w (by omega))]
  · rw [r 124 (by omega) (by omega)]
    exact h2
  · rw [r _ (by omega) (by omega)]
    exact q2.1
  · rw [r _ (by omega) (by omega), r 125 (by omega) (by omega)]
    exact q2.2.1
  · rw [r 125 (by omega) (by omega)]
    exact q2.2.2.1
  · rw [r _ (by omega) (by omega), r 126 (by omega) (by omega)]
    exact q2.2.2.2.1
  · rw [r 126 (by omega) (by omega)]
    exact q2.2.2.2.2.1
  · rw [ups_ne (show 80 + 2 * (d : Int) + 1 ≠ 127 by omega)]
    by_cases e : j = i
    · subst e
      rw [ups_at, ups_at]
      exact ⟨rfl, hz⟩
    · rw [ups_ni (by omega), ups_ni (by omega), ups_ne (show (127 : Int) ≠ 80 + 2 * d + 1 by omega)]
      exact q2.2.2.2.2.2 j hj
theorem op_put {σ : Mem} (h : Rel σ) {v w x : Int} (hv : s32 v = v) (hw : s32 w = w) (hx : s32 x = x) : Op σ (f_X11_put v w x) (f_X12_put v w x) := by
  have w1 := s32_lo w
  have w2 := s32_hi w
  rw [hw] at w1 w2
  have x1 := s32_lo x
  have x2 := s32_hi x
  rw [hx] at x1 x2
  unfold Op f_X11_put f_X12_put
  rw [c_isShelf' hv, ob_some, hv]
  by_cases c1 : 0 ≤ v ∧ v ≤ 7
  · obtain ⟨d, hd, rfl⟩ : ∃ d : Nat, d < 8 ∧ v = d := ⟨v.toNat, by clear hv hw hx; omega, by clear hv hw hx; omega⟩
    have d8 : 0 ≤ (d : Int) ∧ (d : Int) < 8 := by clear hv hw hx; omega
    have hS := h.2.2.2 d hd
    rw [bi_t c1, if_neg (by decide), if_pos d8, c_isBare hS, ob_some]
    by_cases k0 : σ 124 d = 0
    · refine ⟨-11, σ, σ, by rw [bi_t k0, if_neg (by decide)], ?_, h⟩
      rw [m_wrong0 h.2.2.2 hd (by decide) k0, ob_some, if_neg (by decide)]
    · rw [bi_f k0, if_pos s32_0, c_holdsRow hS, ob_some]
      by_cases k2 : σ 124 d = 2
      · rw [bi_t k2, if_neg (by decide), c_hasPlaces hS k2 hw (by decide), ob_some]
        have kk := hS.kd
        have k6 : σ (80 + 2 * (d : Int)) 1 = σ 125 d ∧ (0 ≤ σ 125 d ∧ σ 125 d ≤ 2) ∧ 0 ≤ σ 126 d ∧ σ 126 d ≤ 120 := by
          rcases kk with z | z | z
          · clear hv hw hx
            omega
          · clear hv hw hx
            omega
          · exact ⟨z.2.1, z.2.2.1, z.2.2.2.2.2⟩
        have hmw : f_X12_wrongRow d (-1) = fun τ => f_X12_wrongRow d (-1) τ := rfl
        by_cases c2 : 0 ≤ w ∧ w < σ 126 d
        · obtain ⟨i, hi, rfl⟩ : ∃ i : Nat, i < 120 ∧ w = i := ⟨w.toNat, by clear hv hw hx; omega, by clear hv hw hx; omega⟩
          have i120 : 0 ≤ (i : Int) ∧ (i : Int) < 120 := by clear hv hw hx; omega
          have i960 : 0 ≤ 120 * (d : Int) + (i : Int) ∧ 120 * (d : Int) + (i : Int) < 960 := by clear hv hw hx; omega
          have u9 : s32 (120 * (d : Int) + (i : Int)) = 120 * (d : Int) + (i : Int) := s32_of (by clear hv hw hx; omega) (by clear hv hw hx; omega)
          obtain ⟨z, hz, ec, em⟩ : ∃ z, inI z ∧ f_X8_setValue (80 + 2 * (d : Int)) i x σ = some (0, ups σ (80 + 2 * d + 1) i z) ∧ ∀ τ : Mem, τ 125 d = σ 125 d → (if (s32 (τ 125 (d : Int))) = 0 then (if 0 ≤ (s32 ((120 * (d : Int)) + i)) ∧ (s32 ((120 * (d : Int)) + i)) < 960 then stp (ups τ 127 (s32 ((120 * (d : Int)) + i)) (b8 x)) fun σ17 => some ((0 : Int), σ17) else none) else (if (s32 (τ 125 (d : Int))) = 1 then (if 0 ≤ (s32 ((120 * (d : Int)) + i)) ∧ (s32 ((120 * (d : Int)) + i)) < 960 then stp (ups τ 127 (s32 ((120 * (d : Int)) + i)) (h16 x)) fun σ15 => some (0, σ15) else none) else (if 0 ≤ (s32 ((120 * (d : Int)) + i)) ∧ (s32 ((120 * (d : Int)) + i)) < 960 then stp (ups τ 127 (s32 ((120 * (d : Int)) + i)) x) fun σ13 => some (0, σ13) else none))) = some (0, ups τ 127 (120 * d + i) z) := by
            unfold f_X8_setValue
            rw [k6.1, hw, s32_of (z := σ 125 d) (by clear hv hw hx u9; omega) (by clear hv hw hx u9; omega)]
            by_cases e0 : σ 125 d = 0
            · refine ⟨b8 x, b8_in x, by rw [if_pos e0, if_pos i120], fun τ hτ => ?_⟩
              rw [hτ, s32_of (z := σ 125 d) (by clear hv hw hx u9; omega) (by clear hv hw hx u9; omega), if_pos e0, u9, if_pos i960]
            · by_cases e1 : σ 125 d = 1
              · refine ⟨h16 x, h16_in x, by rw [if_neg e0, if_pos e1, if_pos i120], fun τ hτ => ?_⟩
                rw [hτ, s32_of (z := σ 125 d) (by clear hv hw hx u9; omega) (by clear hv hw hx u9; omega), if_neg e0, if_pos e1, u9, if_pos i960]
              · refine ⟨x, ⟨x1, x2⟩, by rw [if_neg e0, if_neg e1, if_pos i120], fun τ hτ => ?_⟩
                rw [hτ, s32_of (z := σ 125 d) (by clear hv hw hx u9; omega) (by clear hv hw hx u9; omega), if_neg e0, if_neg e1, u9, if_pos i960]
          have r : ∀ a : Int, a ≠ 80 + 2 * d + 1 → ups σ (80 + 2 * d + 1) i z a = σ a := fun a w => ups_ne w
          refine ⟨0, ups σ (80 + 2 * d + 1) i z, ups (ups σ (80 + 2 * d + 1) i z) 127 (120 * d + i) z, ?_, ?_, h.elem hd k2 hi hz⟩
          · rw [bi_t (by clear hv hw hx u9; omega), if_neg (by decide), ec, ob_some]
          · have hSm : RelS (ups σ (80 + 2 * d + 1) i z) ∨ True := Or.inr trivial
            have hwr : f_X12_wrongRow d (-1) (ups σ (80 + 2 * d + 1) i z) = some (0, ups σ (80 + 2 * d + 1) i z) := by
              unfold f_X12_wrongRow
              rw [m_isShelf hv, ob_some, bi_t c1, if_neg (by decide), hv, if_pos d8, r 124 (by clear hv hw hx u9; omega), k2, if_neg (by decide), if_pos (by decide), if_pos (by decide)]
            rw [hwr, ob_some, if_pos s32_0, if_pos d8, r 126 (by clear hv hw hx u9; omega), s32_of (z := σ 126 d - 1) (by clear hv hw hx u9; omega) (by clear hv hw hx u9; omega), hw, m_isInT ⟨w1, w2⟩ (by decide) (by clear hv hw hx u9; omega), ob_some, bi_t (by clear hv hw hx u9; omega), if_neg (by decide)]
            exact em _ (by rw [r 125 (by clear hv hw hx u9; omega)])
        · refine ⟨-13, σ, σ, by rw [bi_f (by clear hv hw hx; omega), if_pos s32_0], ?_, h⟩
          rw [m_wrongOk h.2.2.2 hd (by decide) k2 (Or.inl (by decide)), ob_some, if_pos s32_0, if_pos d8, s32_of (z := σ 126 d - 1) (by clear hv hw hx; omega) (by clear hv hw hx; omega), hw, m_isInT ⟨w1, w2⟩ (by decide) (by clear hv hw hx; omega), ob_some, bi_f (by clear hv hw hx; omega), if_pos s32_0]
      · refine ⟨-12, σ, σ, by rw [bi_f k2, if_pos s32_0], ?_, h⟩
        rw [m_wrong12 h.2.2.2 hd (by decide) k0 (fun z => k2 z.1), ob_some, if_neg (by decide)]
  · refine ⟨-1, σ, σ, by rw [bi_f c1, if_pos s32_0], ?_, h⟩
    rw [m_wrongNo hv c1, ob_some, if_neg (by decide)]
