/-! PURE 6: the class weighs a fit -/
theorem c_leastWorth {σ : Mem} {n m : Nat} {s : Int → Int} (h : Okm n m s) (hc : CK σ n m s) : f_X4_leastWorth 10 σ = some (lwS s n, σ) := by
  have hn := h.1
  have hl : itr (fun z => f_X4_leastWorth_6 10 z.1 z.2.1 z.2.2) FU (999, 0, σ) = some (lwS s n, σ) := by
    refine itr_for0 (fun k => (lwS s k, (k : Int), σ)) n _ (by omega) (fun k hk => ?_) ?_
    · have a1 := lwS_in h k (by omega)
      have a2 := (h.2.2.2.2.2.1 k hk).2.1
      have a3 := (hc.2.2.2.1 k hk).2.1
      show f_X4_leastWorth_6 10 (lwS s k) (k : Int) σ = some (Sum.inl ((if s (7 + k) < lwS s k then s (7 + k) else lwS s k), ((k + 1 : Nat) : Int), σ))
      unfold f_X4_leastWorth_6 mn32
      rw [hc.1, s32_of (z := (n : Int)) (by omega) (by omega), s32_of (z := (k : Int)) (by omega) (by omega), if_neg (by omega), if_pos (by omega), show (10 : Int) + 2 = 12 from rfl, a3, s32_of (z := s (7 + (k : Int))) (by omega) (by omega), s32_of (z := lwS s k) (by omega) (by omega)]
      rfl
    · show f_X4_leastWorth_6 10 (lwS s n) (n : Int) σ = _
      unfold f_X4_leastWorth_6
      rw [hc.1, if_pos (Int.le_refl _)]
  unfold f_X4_leastWorth
  rw [hl, lb_some]
theorem c_thoughtWorth {σ : Mem} {n m : Nat} {s : Int → Int} (h : Okm n m s) (hc : CK σ n m s) {j : Nat} (hj : j < m) : f_X7_thoughtWorth j σ = some (thW s (s32 (σ 72 6)) j n, σ) := by
  have hn := h.1
  have hm := h.2.1
  have a1 := (hc.2.2.2.2 j hj).2.1
  have a2 := (h.2.2.2.2.2.2 j hj).2.1
  unfold f_X7_thoughtWorth thW
  rw [s32_of (z := (j : Int)) (by omega) (by omega), if_pos (by omega)]
  simp only [vl]
  rw [c_leastWorth h hc, ob_some, a1]
  by_cases e : s32 (σ 72 6) = 0
  · rw [if_pos e, c_hasSort' (s32_of (by omega) (by omega)) (by rw [hc.1]; omega), ob_some, hc.1]
    by_cases e2 : s (35 + j) ≤ 0
    · rw [bi_f (by omega), if_pos (by decide), if_pos e2, c_leastWorth h hc, ob_some]
    · rw [bi_t (by omega), if_neg (by decide), if_neg e2, if_pos e]
      obtain ⟨i, hi, ei⟩ : ∃ i : Nat, i < n ∧ s (35 + j) - 1 = i := ⟨(s (35 + j) - 1).toNat, by omega, by omega⟩
      rw [ei, s32_of (z := (i : Int)) (by omega) (by omega), if_pos (by omega), (hc.2.2.2.1 i hi).2.1, show 7 + s (35 + (j : Int)) - 1 = 7 + (i : Int) by omega]
  · rw [if_neg e]
    split
    · rfl
    · rfl
theorem c_payMakers {σ : Mem} {n m : Nat} {s : Int → Int} (h : Okm n m s) (hc : CK σ n m s) {fit : Int} (hL : LY σ n fit) {j : Nat} (hj : j < m) : f_X7_payMakers j σ = some (0, ups (ups σ 74 j (pT s fit j n + pU s fit j n * s (15 + j))) 75 j (pU s fit j n)) := by
  have hn := h.1
  have hm := h.2.1
  have a0 := (h.2.2.2.2.2.2 j hj).1
  have a1 := (hc.2.2.2.2 j hj).1
  have hl : itr (fun z => f_X7_payMakers_8 j z.1 z.2.1 z.2.2.1 z.2.2.2) FU (0, 0, 0, σ) = some (pU s fit j n, pT s fit j n, σ) := by
    refine itr_for0 (fun k => (pU s fit j k, pT s fit j k, (k : Int), σ)) n _ (by omega) (fun k hk => ?_) ?_
    · have a2 := dg_in fit k
      have a3 := hL.1 k hk
      have a4 := hc.2.2.2.1 k hk
      have q := h.2.2.2.2.2.1 k hk
      have a5 := mul_in (a := s (3 + k)) (b := s (7 + k)) ⟨by omega, q.1.2⟩ q.2.1
      show f_X7_payMakers_8 j (pU s fit j k) (pT s fit j k) (k : Int) σ = some (Sum.inl (pU s fit j k + (if dg fit k = j then s (3 + k) else 0), pT s fit j k + (if dg fit k = j then s (3 + k) * s (7 + k) else 0), ((k + 1 : Nat) : Int), σ))
      unfold f_X7_payMakers_8
      rw [hc.1, s32_of (z := (n : Int)) (by omega) (by omega), s32_of (z := (k : Int)) (by omega) (by omega), if_neg (by omega), if_pos (by omega), a3, s32_of (z := dg fit k) (by omega) (by omega), s32_of (z := (j : Int)) (by omega) (by omega)]
      by_cases e : dg fit k = j
      · simp only [if_pos e, vl]
        rw [a4.1, a4.2.1, s32_of (z := s (3 + (k : Int))) (by omega) (by omega), s32_of (z := s (3 + (k : Int)) * s (7 + (k : Int))) (by omega) (by omega)]
        rfl
      · simp only [if_neg e, Int.add_zero]
        rfl
    · show f_X7_payMakers_8 j (pU s fit j n) (pT s fit j n) (n : Int) σ = _
      unfold f_X7_payMakers_8
      rw [hc.1, if_pos (Int.le_refl _)]
  unfold f_X7_payMakers
  rw [hl, lb_some]
  simp only [stp]
  rw [s32_of (z := (j : Int)) (by omega) (by omega), if_pos (by omega), a1, s32_of (z := s (15 + (j : Int))) (by omega) (by omega)]
/-- a fit has been weighed -/
def WG (σ : Mem) (n m : Nat) (s : Int → Int) (op fit : Int) : Prop := LY σ n fit ∧ ∀ j : Nat, j < m → σ 74 j = pyT s op fit j n ∧ σ 75 j = pyU s fit j n
theorem LY.cs2 {σ τ : Mem} {n : Nat} {fit : Int} (h : LY σ n fit) (e1 : τ 73 = σ 73) (e2 : τ 72 10 = σ 72 10) : LY τ n fit := by
  unfold LY
  rw [e1, e2]
  exact h
theorem c_weigh {σ : Mem} {n m : Nat} {s : Int → Int} (h : Okm n m s) (hc : CK σ n m s) {fit : Int} (h0 : 0 ≤ fit) (h1 : fit ≤ 2147483647) : ∃ σ', f_X7_weigh fit σ = some (0, σ') ∧ WG σ' n m s (s32 (σ 72 6)) fit ∧ CS σ σ' := by
  have hn := h.1
  have hm := h.2.1
  obtain ⟨σ1, e1, hL, hC⟩ := c_lay hc.1 hn.2 h0 h1
  have hl : ∃ b : Mem, itr (fun z => f_X7_weigh_7 z.1 z.2) FU (0, σ1) = some b ∧ (WG b n m s (s32 (σ 72 6)) fit ∧ CS σ b) := by
    refine itr_tot (fun z : Int × Mem => ∃ k : Nat, k ≤ m ∧ z.1 = k ∧ LY z.2 n fit ∧ (∀ j : Nat, j < k → z.2 74 j = pyT s (s32 (σ 72 6)) fit j n ∧ z.2 75 j = pyU s fit j n) ∧ CS σ z.2) (fun z => m - z.1.toNat) _ ?_ FU _ ⟨0, Nat.zero_le _, rfl, hL, fun j hj => absurd hj (Nat.not_lt_zero _), hC⟩ (FU_lt (by show m - Int.toNat 0 < 100000; omega))
    rintro ⟨x, τ⟩ ⟨k, hk, ex, hL1, hP, hC1⟩
    simp only at ex hL1 hP hC1
    subst ex
    have hc1 := hc.cs hC1 hm.2
    have e6 : τ 72 6 = σ 72 6 := hC1.at 72 6 (by omega)
    by_cases hkm : k < m
    · left
      simp only
      unfold f_X7_weigh_7
      have b1 := hc1.2.2.2.2 k hkm
      have b2 := (h.2.2.2.2.2.2 k hkm).1
      have b3 := thW_in h (s32 (σ 72 6)) hkm
      rw [hc1.2.1, s32_of (z := (m : Int)) (by omega) (by omega), s32_of (z := (k : Int)) (by omega) (by omega), if_neg (by omega), c_isMade hL1 (by omega), ob_some]
      by_cases hmd : mad fit k n = true
      · have hpu : ¬ pU s fit k n = 0 := fun q => (pU_pos h fit k).mp q (mad_iff.mp hmd)
        rw [bi_t hmd, if_neg (by decide), c_payMakers h hc1 hL1 hkm, ob_some]
        refine ⟨_, rfl, ⟨k + 1, hkm, rfl, hL1.cs2 ?_ ?_, fun j hj => ?_, (hC1.up (by omega)).up (by omega)⟩, by show m - (((k : Int) + 1)).toNat < m - ((k : Int)).toNat; omega⟩
        · dsimp only; rw [ups_ne (by omega), ups_ne (by omega)]
        · dsimp only; rw [ups_ne (by omega), ups_ne (by omega)]
        · show ups (ups τ 74 k (pT s fit k n + pU s fit k n * s (15 + k))) 75 k (pU s fit k n) 74 j = _ ∧ ups (ups τ 74 k (pT s fit k n + pU s fit k n * s (15 + k))) 75 k (pU s fit k n) 75 j = _
          rw [ups_ne (by omega)]
          unfold ups
          by_cases e : j = k
          · subst e
            rw [if_pos ⟨rfl, rfl⟩, if_pos ⟨rfl, rfl⟩]
            unfold pyT pyU
            rw [if_neg hpu, if_neg hpu, Int.mul_comm (pU s fit j n)]
            exact ⟨rfl, rfl⟩
          · rw [if_neg (by omega), if_neg (by omega), if_neg (by omega)]
            exact hP j (by omega)
      · have hpu : pU s fit k n = 0 := (pU_pos h fit k).mpr (fun q => hmd (mad_iff.mpr q))
        rw [bi_f hmd, if_pos (by decide), c_thoughtWorth h hc1 hkm, ob_some, e6, if_pos (by omega), b1.1]
        simp only [stp]
        rw [s32_of (z := thW s (s32 (σ 72 6)) k n + s (15 + (k : Int))) (by omega) (by omega)]
        refine ⟨_, rfl, ⟨k + 1, hkm, rfl, hL1.cs2 ?_ ?_, fun j hj => ?_, (hC1.up (by omega)).up (by omega)⟩, by show m - (((k : Int) + 1)).toNat < m - ((k : Int)).toNat; omega⟩
        · dsimp only; rw [ups_ne (by omega), ups_ne (by omega)]
        · dsimp only; rw [ups_ne (by omega), ups_ne (by omega)]
        · show ups (ups τ 74 k (thW s (s32 (σ 72 6)) k n + s (15 + k))) 75 k 1 74 j = _ ∧ ups (ups τ 74 k (thW s (s32 (σ 72 6)) k n + s (15 + k))) 75 k 1 75 j = _
          rw [ups_ne (by omega)]
          unfold ups
          by_cases e : j = k
          · subst e
            rw [if_pos ⟨rfl, rfl⟩, if_pos ⟨rfl, rfl⟩]
            unfold pyT pyU
            rw [if_pos hpu, if_pos hpu, Int.mul_one]
            exact ⟨rfl, rfl⟩
          · rw [if_neg (by omega), if_neg (by omega), if_neg (by omega)]
            exact hP j (by omega)
    · right
      have ek : k = m := by omega
      subst ek
      simp only
      unfold f_X7_weigh_7
      rw [hc1.2.1, if_pos (Int.le_refl _)]
      exact ⟨τ, rfl, ⟨hL1, hP⟩, hC1⟩
  obtain ⟨b, e2, hW, hC2⟩ := hl
  refine ⟨b, ?_, hW, hC2⟩
  unfold f_X7_weigh
  rw [e1, ob_some, e2, lb_some]
