/-! PURE 47: a statement, the model's reading -/
theorem prs_b {t : Nat → Int} {N : Nat} {most least : Int} (h : TX t N) (hml : least ≤ most ∧ most ≤ 120) : ∀ (g p k : Nat) (nums : Nat → Int), p ≤ N → N - p < g → k ≤ 120 → (∀ j, j < k → 0 ≤ nums j ∧ nums j ≤ 999) → (p ≤ (prs t most least g p k nums).2.1 ∧ (prs t most least g p k nums).2.1 ≤ N ∧ ((prs t most least g p k nums).1 = true → p < (prs t most least g p k nums).2.1 ∧ least ≤ ((prs t most least g p k nums).2.2.1 : Int))) ∧ k ≤ (prs t most least g p k nums).2.2.1 ∧ (prs t most least g p k nums).2.2.1 ≤ 120 ∧ ∀ j, j < (prs t most least g p k nums).2.2.1 → 0 ≤ (prs t most least g p k nums).2.2.2 j ∧ (prs t most least g p k nums).2.2.2 j ≤ 999
  | 0, p, k, nums, _, hg, _, _ => absurd hg (Nat.not_lt_zero _)
  | g + 1, p, k, nums, hp, hg, hk, hn => by
    have lt : ∀ q, ¬ t q = -1000 → q < N := fun q hq => by
      rcases Nat.lt_or_ge q N with z | z
      · exact z
      · exact absurd (h.2.2 q z) hq
    unfold prs
    by_cases c : (k : Int) < most ∧ ((k : Int) < least ∨ t p = 32)
    · rw [if_pos c]
      by_cases c2 : t p = 32
      · rw [if_pos c2]
        have l := lt p (by rw [c2]; decide)
        by_cases c3 : (nmb t (p + 1)).1 = true
        · rw [if_pos c3]
          have b := nmb_t h c3
          have z := prs_b h hml g (nmb t (p + 1)).2.1 (k + 1) (fun j => if j = k then (nmb t (p + 1)).2.2 else nums j) b.2.1.2 (by omega) (by omega) (fun j hj => by
            show 0 ≤ (if j = k then _ else _) ∧ (if j = k then _ else _) ≤ (999 : Int)
            by_cases e : j = k
            · rw [if_pos e]
              exact b.2.2
            · rw [if_neg e]
              exact hn j (by omega))
          obtain ⟨⟨z1, z2, z3⟩, z4, z5, z6⟩ := z
          exact ⟨⟨by omega, z2, fun w => ⟨by have := z3 w; omega, (z3 w).2⟩⟩, by omega, z5, z6⟩
        · rw [if_neg c3]
          have b := nmb_f c3
          dsimp only
          rw [b.2]
          exact ⟨⟨by omega, by omega, fun w => by cases w⟩, Nat.le_refl _, hk, hn⟩
      · rw [if_neg c2]
        exact ⟨⟨Nat.le_refl _, hp, fun w => by cases w⟩, Nat.le_refl _, hk, hn⟩
    · rw [if_neg c]
      by_cases c2 : t p = 59
      · rw [if_pos c2]
        have l := lt p (by rw [c2]; decide)
        exact ⟨⟨by dsimp only; omega, by dsimp only; omega, fun _ => ⟨by dsimp only; omega, by
          dsimp only
          rcases Int.lt_or_le (k : Int) least with w | w
          · exact absurd ⟨by omega, Or.inl w⟩ c
          · exact w⟩⟩, Nat.le_refl _, hk, hn⟩
      · rw [if_neg c2]
        exact ⟨⟨Nat.le_refl _, hp, fun w => by cases w⟩, Nat.le_refl _, hk, hn⟩
theorem lst_b (c : Int) : 1 ≤ lst c ∧ lst c ≤ mst c ∧ mst c ≤ 120 ∧ 2 ≤ mst c := by
  unfold lst mst
  split <;> split <;> (try split) <;> omega
theorem psm_b {t : Nat → Int} {N p : Nat} (h : TX t N) (hp : p ≤ N) : (p ≤ (psm t p).2.1 ∧ (psm t p).2.1 ≤ N ∧ ((psm t p).1 = true → p < (psm t p).2.1 ∧ lst (t p) ≤ ((psm t p).2.2.1 : Int) ∧ (t p = 115 ∨ t p = 109 ∨ t p = 116))) ∧ (psm t p).2.2.1 ≤ 120 ∧ ∀ j, j < (psm t p).2.2.1 → 0 ≤ (psm t p).2.2.2 j ∧ (psm t p).2.2.2 j ≤ 999 := by
  unfold psm
  by_cases c : t p = 115 ∨ t p = 109 ∨ t p = 116
  · rw [if_pos c]
    have l : p < N := by
      rcases Nat.lt_or_ge p N with z | z
      · exact z
      · have := h.2.2 p z
        omega
    have hN := h.1
    by_cases c3 : (nmb t (p + 1)).1 = true
    · rw [if_pos c3]
      have b := nmb_t h c3
      have z := prs_b h ⟨(lst_b (t p)).2.1, (lst_b (t p)).2.2.1⟩ 200 (nmb t (p + 1)).2.1 1 (fun _ => (nmb t (p + 1)).2.2) b.2.1.2 (by omega) (by omega) (fun j _ => b.2.2)
      obtain ⟨⟨z1, z2, z3⟩, z4, z5, z6⟩ := z
      exact ⟨⟨by omega, z2, fun w => ⟨by have := z3 w; omega, (z3 w).2, c⟩⟩, z5, z6⟩
    · rw [if_neg c3]
      have b := nmb_f c3
      dsimp only
      rw [b.2]
      exact ⟨⟨by omega, by omega, fun w => by cases w⟩, by omega, fun j hj => absurd hj (Nat.not_lt_zero _)⟩
  · rw [if_neg c]
    exact ⟨⟨Nat.le_refl _, hp, fun w => by cases w⟩, by dsimp only; omega, fun j hj => absurd hj (Nat.not_lt_zero _)⟩
theorem m_sign0 {σ μ : Mem} {d N p : Nat} {t : Nat → Int} (hT : MT σ d t N) (hQ : MF σ μ) (h11 : μ 120 11 = p) (hp : p ≤ N) : f_X12_sign μ = some (t p, μ) := by
  obtain ⟨hd, hX, h12, h13, hv⟩ := hT
  have hN := hX.1
  have e12 : μ 120 12 = 120 * (d : Int) := (hQ 120 12 (by omega)).trans h12
  have e13 : μ 120 13 = N := (hQ 120 13 (by omega)).trans h13
  unfold f_X12_sign
  rw [e13, h11, e12, s32_of (z := (N : Int)) (by omega) (by omega), s32_of (z := (p : Int)) (by omega) (by omega), s32_of (z := 120 * (d : Int) + (p : Int)) (by omega) (by omega)]
  by_cases c : p < N
  · rw [if_neg (by omega), if_pos (by omega), hQ 127 _ (by omega), hv p c]
  · rw [if_pos (by omega), hX.2.2 p (by omega)]
theorem MR.to {σ μ : Mem} {p q k : Nat} {nums : Nat → Int} (h : MR σ μ p k nums) : MR σ (ups μ 120 11 (q : Int)) q k nums := by
  refine ⟨h.1.up (by omega), ups_at .., ?_, fun j hj => ?_⟩
  · rw [ups_ni (by decide)]
    exact h.2.2.1
  · rw [ups_ne (by decide)]
    exact h.2.2.2 j hj
abbrev RS (q : (Int × Mem) ⊕ Mem) : Option (Int × Mem) := Sum.elim (fun a => some a) (fun b => some ((0 : Int), b)) q
theorem m_rest {σ : Mem} {d N : Nat} {t : Nat → Int} (hT : MT σ d t N) {most least : Int} (hml : least ≤ most ∧ most ≤ 120 ∧ 0 ≤ least) : ∀ (g p k : Nat) (nums : Nat → Int) (μ : Mem) (F : Nat), MR σ μ p k nums → p ≤ N → N - p < g → N - p < F → 1 ≤ k → k ≤ 120 → ∃ q μ', itr (fun z => f_X12_readsStatement_84 most least z) F μ = some q ∧ RS q = some (bi ((prs t most least g p k nums).1 = true), μ') ∧ MR σ μ' (prs t most least g p k nums).2.1 (prs t most least g p k nums).2.2.1 (prs t most least g p k nums).2.2.2
  | 0, p, k, nums, μ, F, _, _, hg, _, _, _ => absurd hg (Nat.not_lt_zero _)
  | g + 1, p, k, nums, μ, 0, _, _, _, hF, _, _ => absurd hF (Nat.not_lt_zero _)
  | g + 1, p, k, nums, μ, F + 1, hQ, hp, hg, hF, hk1, hk => by
    have lt : ∀ q, ¬ t q = -1000 → q < N := fun q hq => by
      rcases Nat.lt_or_ge q N with z | z
      · exact z
      · exact absurd (hT.2.1.2.2 q z) hq
    have e15 : s32 (μ 120 15) = k := by
      rw [hQ.2.2.1]
      exact s32_of (by omega) (by omega)
    have em : s32 most = most := s32_of (by omega) (by omega)
    have el : s32 least = least := s32_of (by omega) (by omega)
    have tk59 := m_takes hT hQ hp (c := 59) (by decide)
    have tk32 := m_takes hT hQ hp (c := 32) (by decide)
    unfold prs
    by_cases c : (k : Int) < most ∧ ((k : Int) < least ∨ t p = 32)
    · rw [if_pos c]
      have n1 : ¬ most ≤ (k : Int) := by omega
      by_cases c2 : t p = 32
      · have l := lt p (by rw [c2]; decide)
        rw [if_pos c2] at tk32 ⊢
        have Q1 : MR σ (ups μ 120 11 ((p + 1 : Nat) : Int)) (p + 1) k nums := hQ.to
        by_cases c3 : (nmb t (p + 1)).1 = true
        · rw [if_pos c3]
          have b := nmb_t hT.2.1 c3
          obtain ⟨μ2, e2, Q2⟩ := m_number hT Q1 (by omega) (by omega) c3
          have st : f_X12_readsStatement_84 most least μ = some (.inl μ2) := by
            unfold f_X12_readsStatement_84
            rw [e15, em, el, if_neg n1]
            by_cases c4 : (k : Int) < least
            · rw [if_pos c4, tk32, ob_some, if_neg (by decide), e2, ob_some, if_neg (by decide)]
            · rw [if_neg c4, m_sign hT hQ hp, ob_some, hT.2.1.s32, if_pos c2, tk32, ob_some, if_neg (by decide), e2, ob_some, if_neg (by decide)]
          obtain ⟨q, μ', h1, h2, h3⟩ := m_rest hT hml g (nmb t (p + 1)).2.1 (k + 1) _ μ2 F Q2 b.2.1.2 (by omega) (by omega) (by omega) (by omega)
          exact ⟨q, μ', by rw [itr_in (y := μ2) st]; exact h1, h2, h3⟩
        · rw [if_neg c3]
          have b := nmb_f c3
          have e2 := m_number_f hT Q1 (by omega) c3
          refine ⟨.inr (ups μ 120 11 ((p + 1 : Nat) : Int)), ups μ 120 11 ((p + 1 : Nat) : Int), itr_out ?_, rfl, by rw [b.2]; exact Q1⟩
          unfold f_X12_readsStatement_84
          rw [e15, em, el, if_neg n1]
          by_cases c4 : (k : Int) < least
          · rw [if_pos c4, tk32, ob_some, if_neg (by decide), e2, ob_some, if_pos s32_0]
          · rw [if_neg c4, m_sign hT hQ hp, ob_some, hT.2.1.s32, if_pos c2, tk32, ob_some, if_neg (by decide), e2, ob_some, if_pos s32_0]
      · rw [if_neg c2] at tk32 ⊢
        refine ⟨.inr μ, μ, itr_out ?_, rfl, hQ⟩
        unfold f_X12_readsStatement_84
        rw [e15, em, el, if_neg n1, if_pos (by omega), tk32, ob_some, if_pos s32_0]
    · rw [if_neg c]
      have way : f_X12_readsStatement_84 most least μ = ob (f_X12_takes 59 μ) fun r46 σ45 => if s32 r46 = 0 ∨ s32 r46 = 1 then some (.inr (.inl (r46, σ45))) else none := by
        unfold f_X12_readsStatement_84
        rw [e15, em, el]
        by_cases c4 : most ≤ (k : Int)
        · rw [if_pos c4]
        · rw [if_neg c4, if_neg (by omega), m_sign hT hQ hp, ob_some, hT.2.1.s32, if_neg (by omega)]
      by_cases c2 : t p = 59
      · rw [if_pos c2] at tk59 ⊢
        refine ⟨.inl (1, ups μ 120 11 ((p + 1 : Nat) : Int)), ups μ 120 11 ((p + 1 : Nat) : Int), itr_out ?_, rfl, hQ.to⟩
        show f_X12_readsStatement_84 most least μ = _
        rw [way, tk59, ob_some, if_pos (by decide)]
      · rw [if_neg c2] at tk59 ⊢
        refine ⟨.inl (0, μ), μ, itr_out ?_, rfl, hQ⟩
        show f_X12_readsStatement_84 most least μ = _
        rw [way, tk59, ob_some, if_pos (by decide)]
theorem m_stmt {σ μ : Mem} {d N p : Nat} {t : Nat → Int} (hT : MT σ d t N) (hQ : MF σ μ) (h11 : μ 120 11 = p) (hp : p ≤ N) : ∃ μ', f_X12_readsStatement μ = some (bi ((psm t p).1 = true), μ') ∧ MR σ μ' (psm t p).2.1 (psm t p).2.2.1 (psm t p).2.2.2 := by
  have hN := hT.2.1.1
  have Q0 : MR σ (ups μ 120 15 0) p 0 (fun _ => 0) := ⟨hQ.up (by omega), (ups_ni (by decide)).trans h11, ups_at .., fun j hj => absurd hj (Nat.not_lt_zero _)⟩
  have Q1 : MR σ (ups (ups μ 120 15 0) 120 11 ((p + 1 : Nat) : Int)) (p + 1) 0 (fun _ => 0) := Q0.to
  have e11 : ups μ 120 15 0 120 11 + 1 = ((p + 1 : Nat) : Int) := by
    rw [Q0.2.1]
    rfl
  unfold f_X12_readsStatement psm
  rw [m_sign0 hT hQ h11 hp, ob_some, hT.2.1.s32]
  simp only [stp]
  rw [e11]
  by_cases c : t p = 115 ∨ t p = 109 ∨ t p = 116
  · rw [if_pos c]
    have l : p < N := by
      rcases Nat.lt_or_ge p N with z | z
      · exact z
      · have := hT.2.1.2.2 p z
        omega
    by_cases c3 : (nmb t (p + 1)).1 = true
    · rw [if_pos c3]
      have b := nmb_t hT.2.1 c3
      obtain ⟨μ2, e2, Q2⟩ := m_number hT Q1 (by omega) (by omega) c3
      have Q3 : MR σ μ2 (nmb t (p + 1)).2.1 1 (fun _ => (nmb t (p + 1)).2.2) := ⟨Q2.1, Q2.2.1, Q2.2.2.1, fun j hj => by
        have e : j = 0 := by omega
        rw [Q2.2.2.2 j hj, e]
        rfl⟩
      obtain ⟨q, μ', h1, h2, h3⟩ := m_rest hT (most := mst (t p)) (least := lst (t p)) ⟨(lst_b (t p)).2.1, (lst_b (t p)).2.2.1, by have := (lst_b (t p)).1; omega⟩ 200 _ 1 _ μ2 FU Q3 b.2.1.2 (by omega) (FU_lt (by omega)) (by omega) (by omega)
      refine ⟨μ', ?_, h3⟩
      rcases c with c | c | c
      · rw [c] at h1 ⊢
        rw [if_pos rfl, e2, ob_some, if_neg (by decide), if_pos rfl, if_neg (by decide)]
        rw [show f_X12_readsStatement_84 3 3 = f_X12_readsStatement_84 (mst 115) (lst 115) from rfl, h1, lb_some]
        rw [c] at h2
        exact h2
      · rw [c] at h1 ⊢
        rw [if_neg (by decide), if_pos rfl, e2, ob_some, if_neg (by decide), if_neg (by decide), if_neg (by decide), if_pos rfl]
        rw [show f_X12_readsStatement_84 120 1 = f_X12_readsStatement_84 (mst 109) (lst 109) from rfl, h1, lb_some]
        rw [c] at h2
        exact h2
      · rw [c] at h1 ⊢
        rw [if_neg (by decide), if_neg (by decide), if_pos rfl, e2, ob_some, if_neg (by decide), if_neg (by decide), if_pos rfl, if_neg (by decide)]
        rw [show f_X12_readsStatement_84 2 2 = f_X12_readsStatement_84 (mst 116) (lst 116) from rfl, h1, lb_some]
        rw [c] at h2
        exact h2
    · rw [if_neg c3]
      have b := nmb_f c3
      have e2 := m_number_f hT Q1 (by omega) c3
      refine ⟨ups (ups μ 120 15 0) 120 11 ((p + 1 : Nat) : Int), ?_, by rw [b.2]; exact Q1⟩
      rcases c with c | c | c
      · rw [c, if_pos rfl, e2, ob_some, if_pos s32_0]
        rfl
      · rw [c, if_neg (by decide), if_pos rfl, e2, ob_some, if_pos s32_0]
        rfl
      · rw [c, if_neg (by decide), if_neg (by decide), if_pos rfl, e2, ob_some, if_pos s32_0]
        rfl
  · rw [if_neg c]
    refine ⟨ups μ 120 15 0, ?_, Q0⟩
    rw [if_neg (by omega), if_neg (by omega), if_neg (by omega)]
    rfl
