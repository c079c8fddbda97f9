/-! PURE 19: what a lot falls by, both -/
theorem c_fallsBy {σ : Mem} {n m : Nat} {s : Int → Int} {fit : Int} (h : Okm n m s) (hg : CG σ n m s 0 fit 1 1 0) (h9 : σ 72 9 = 0) (hF : isF n m fit) : f_X7_fallsBy σ = some (flb s fit n m, σ) := by
  have hn := h.1
  have hm := h.2.1
  have body : ∀ j : Nat, j < m → f_X7_fallsBy_2 (j : Int) σ = (if Pf s fit n j = true then some (.inr (.inl (10 * (j : Int) + drw s fit j n, σ))) else some (.inl ((j : Int) + 1, σ))) := by
    intro j hj
    have hj4 := fin4 hj hm.2
    have dr := drw_in s fit j n
    unfold f_X7_fallsBy_2
    rw [hg.1.2.1, s32_of (z := (m : Int)) (by omega) (by omega), s32_of (z := (j : Int)) (by omega) (by omega), if_neg (by omega), c_isMade hg.2.1.1 (by omega), ob_some]
    by_cases e1 : mad fit j n = true
    · rw [bi_t e1, if_neg (by decide), if_neg (show ¬ Pf s fit n j = true from fun w => (of_decide_eq_true w).1 e1)]
    · rw [bi_f e1, if_pos s32_0, c_firstDrawn h hg h9 hF hj, ob_some, s32_of (z := drw s fit j n) (by omega) (by omega)]
      by_cases e2 : drw s fit j n = -4
      · rw [if_pos e2, if_neg (show ¬ Pf s fit n j = true from fun w => (of_decide_eq_true w).2 e2)]
      · rw [if_neg e2, if_pos (show Pf s fit n j = true from decide_eq_true ⟨e1, e2⟩)]
  have hl := itr_fst0 (f := fun z : Int × Mem => f_X7_fallsBy_2 z.1 z.2) (Pf s fit n) (fun j => ((j : Int), σ)) m (fun j => Sum.inl (10 * (j : Int) + drw s fit j n, σ)) (Sum.inr σ) (by omega) (fun j hj hp => by
    show f_X7_fallsBy_2 (j : Int) σ = _
    rw [body j hj, if_neg (by rw [hp]; decide)]
    rfl) (fun j hj hp => by
    show f_X7_fallsBy_2 (j : Int) σ = _
    rw [body j hj, if_pos hp]) (by
    show f_X7_fallsBy_2 (m : Int) σ = _
    unfold f_X7_fallsBy_2
    rw [hg.1.2.1, if_pos (Int.le_refl _)])
  unfold f_X7_fallsBy flb
  cases hf : fst? (Pf s fit n) 0 m with
  | some j =>
    rw [hf] at hl
    rw [show itr (fun z : Int × Mem => f_X7_fallsBy_2 z.1 z.2) FU (0, σ) = some (Sum.inl (10 * (j : Int) + drw s fit j n, σ)) from hl, lb_some, Sum.elim_inl]
  | none =>
    rw [hf] at hl
    rw [show itr (fun z : Int × Mem => f_X7_fallsBy_2 z.1 z.2) FU (0, σ) = some (Sum.inr σ) from hl, lb_some, Sum.elim_inr]
/-- the value behind lni -/
def lnv (s : Int → Int) (P : Nat → Bool) (k : Nat) : Int := if lni s P k = -4 then -1 else s (7 + lni s P k)
theorem m_least {σ : Mem} {n m : Nat} (hM : MS σ n m) {fit : Int} (hF : isF n m fit) {j : Nat} (hj : j < m) (u v : Int) : ∃ x y, itr (fun z => f_X12_fallsBy_29 fit j z.1 z.2.1 z.2.2) FU (-1, 0, ab σ u v) = some (lnv (σ 121) (Pb (σ 121) fit j n) n, ab σ x y) := by
  have h := hM.1
  have hn := h.1
  have hb : ∃ b, itr (fun z => f_X12_fallsBy_29 fit j z.1 z.2.1 z.2.2) FU (-1, 0, ab σ u v) = some b ∧ (∃ x y, b = (lnv (σ 121) (Pb (σ 121) fit j n) n, ab σ x y)) := by
    refine itr_forH (fun k z => ∃ x y, z = (lnv (σ 121) (Pb (σ 121) fit j n) k, (k : Int), ab σ x y)) (fun b => ∃ x y, b = (lnv (σ 121) (Pb (σ 121) fit j n) n, ab σ x y)) n (by omega) ⟨u, v, rfl⟩ (fun k hk z hz => ?_) (fun z hz => ?_)
    · obtain ⟨x, y, rfl⟩ := hz
      have li := lni_in (σ 121) (Pb (σ 121) fit j n) k
      obtain ⟨x', y', eb⟩ := m_isBarred (hM.co (ab_co (x := x) (y := y))) hF hj hk
      rw [ab_ab, ab_s] at eb
      have a2 := (h.2.2.2.2.2.1 k hk).2.1
      have t7 : 0 ≤ 7 + (k : Int) ∧ 7 + (k : Int) < 39 := by omega
      refine ⟨(lnv (σ 121) (Pb (σ 121) fit j n) (k + 1), ((k + 1 : Nat) : Int), ab σ x' y'), ?_, x', y', rfl⟩
      show f_X12_fallsBy_29 fit j (lnv (σ 121) (Pb (σ 121) fit j n) k) (k : Int) (ab σ x y) = _
      unfold f_X12_fallsBy_29
      rw [ab_s, h.2.2.1, s32_of (z := (n : Int)) (by omega) (by omega), s32_of (z := (k : Int)) (by omega) (by omega), if_neg (by omega), eb, ob_some, ab_s, s32_of (z := 7 + (k : Int)) (by omega) (by omega), if_pos t7, if_pos t7, s32_of (z := σ 121 (7 + (k : Int))) (by omega) (by omega)]
      have e1 : lni (σ 121) (Pb (σ 121) fit j n) (k + 1) = if lni (σ 121) (Pb (σ 121) fit j n) k = -4 then (if Pb (σ 121) fit j n k = true then -4 else (k : Int)) else if σ 121 (7 + lni (σ 121) (Pb (σ 121) fit j n) k) ≤ σ 121 (7 + k) then lni (σ 121) (Pb (σ 121) fit j n) k else if Pb (σ 121) fit j n k = true then lni (σ 121) (Pb (σ 121) fit j n) k else (k : Int) := rfl
      have hP : Pb (σ 121) fit j n k = true ↔ brd (σ 121) fit j k n := ⟨fun w => of_decide_eq_true w, fun w => decide_eq_true w⟩
      unfold lnv
      by_cases e0 : lni (σ 121) (Pb (σ 121) fit j n) k = -4
      · rw [if_pos e0] at e1
        rw [if_pos e0, if_pos (show s32 (-1) < 0 by decide)]
        by_cases ebr : brd (σ 121) fit j k n
        · rw [if_pos (hP.mpr ebr)] at e1
          rw [bi_t ebr, if_neg (by decide), if_pos e1]
          rfl
        · rw [if_neg (fun w => ebr (hP.mp w))] at e1
          rw [bi_f ebr, if_pos s32_0, e1, if_neg (by omega)]
          rfl
      · obtain ⟨i, hi, ei⟩ : ∃ i : Nat, i < k ∧ lni (σ 121) (Pb (σ 121) fit j n) k = i := ⟨(lni (σ 121) (Pb (σ 121) fit j n) k).toNat, by omega, by omega⟩
        have a1 := (h.2.2.2.2.2.1 i (by omega)).2.1
        rw [if_neg e0, ei] at e1
        rw [if_neg e0, ei, s32_of (z := σ 121 (7 + (i : Int))) (by omega) (by omega), if_neg (show ¬ σ 121 (7 + (i : Int)) < 0 by omega)]
        by_cases el : σ 121 (7 + (i : Int)) ≤ σ 121 (7 + (k : Int))
        · rw [if_pos el] at e1
          rw [if_pos el, e1, if_neg (show ¬ (i : Int) = -4 by omega)]
          split <;> rfl
        · rw [if_neg el] at e1
          rw [if_neg el]
          by_cases ebr : brd (σ 121) fit j k n
          · rw [if_pos (hP.mpr ebr)] at e1
            rw [bi_t ebr, if_neg (by decide), e1, if_neg (show ¬ (i : Int) = -4 by omega)]
            rfl
          · rw [if_neg (fun w => ebr (hP.mp w))] at e1
            rw [bi_f ebr, if_pos s32_0, e1, if_neg (show ¬ (k : Int) = -4 by omega)]
            rfl
    · obtain ⟨x, y, rfl⟩ := hz
      refine ⟨_, ?_, x, y, rfl⟩
      show f_X12_fallsBy_29 fit j (lnv (σ 121) (Pb (σ 121) fit j n) n) (n : Int) (ab σ x y) = _
      unfold f_X12_fallsBy_29
      rw [ab_s, h.2.2.1, if_pos (Int.le_refl _)]
  obtain ⟨b, e, x, y, rfl⟩ := hb
  exact ⟨x, y, e⟩
