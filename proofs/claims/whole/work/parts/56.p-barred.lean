/-! PURE 16: barred -/
def mwS (s : Int → Int) : Nat → Int
  | 0 => 0
  | k + 1 => if mwS s k < s (7 + k) then s (7 + k) else mwS s k
theorem mwS_in {n m : Nat} {s : Int → Int} (h : Okm n m s) : ∀ k, k ≤ n → 0 ≤ mwS s k ∧ mwS s k ≤ 999
  | 0, _ => ⟨Int.le_refl 0, show (0 : Int) ≤ 999 by decide⟩
  | k + 1, hk => by
    have ih := mwS_in h k (by omega)
    have a2 := (h.2.2.2.2.2.1 k (by omega)).2.1
    unfold mwS
    split <;> omega
theorem c_mostWorth {σ : Mem} {n m : Nat} {s : Int → Int} (h : Okm n m s) (hc : CK σ n m s) : f_X4_mostWorth 10 σ = some (mwS s n, σ) := by
  have hn := h.1
  have hl : itr (fun z => f_X4_mostWorth_4 10 z.1 z.2.1 z.2.2) FU (0, 0, σ) = some (mwS s n, σ) := by
    refine itr_for0 (fun k => (mwS s k, (k : Int), σ)) n _ (by omega) (fun k hk => ?_) ?_
    · have a1 := mwS_in h k (by omega)
      have a2 := (h.2.2.2.2.2.1 k hk).2.1
      have a3 := (hc.2.2.2.1 k hk).2.1
      have h4 := fin4 hk hn.2
      show f_X4_mostWorth_4 10 (mwS s k) (k : Int) σ = some (Sum.inl ((if mwS s k < s (7 + k) then s (7 + k) else mwS s k), ((k + 1 : Nat) : Int), σ))
      unfold f_X4_mostWorth_4 mx32
      rw [hc.1, s32_of (z := (n : Int)) (by omega) (by omega), s32_of (z := (k : Int)) (by omega) (by omega), if_neg (by omega), if_pos h4, show (10 : Int) + 2 = 12 from rfl, a3, s32_of (z := s (7 + (k : Int))) (by omega) (by omega), s32_of (z := mwS s k) (by omega) (by omega)]
      rfl
    · show f_X4_mostWorth_4 10 (mwS s n) (n : Int) σ = _
      unfold f_X4_mostWorth_4
      rw [hc.1, if_pos (Int.le_refl _)]
  unfold f_X4_mostWorth
  rw [hl, lb_some]
abbrev brd (s : Int → Int) (fit j : Int) (k : Nat) (n : Nat) : Prop := ¬ gtp 1 1 0 s 0 fit k (dg fit k) n ≤ (mwS s n + s (15 + j) - s (19 + 4 * j + k)) * gun 1 s fit (dg fit k) n
theorem wsk1 : WSK 1 1 0 := ⟨by omega, by omega, by omega⟩
theorem c_isBarred {σ : Mem} {n m : Nat} {s : Int → Int} {fit : Int} (h : Okm n m s) (hg : CG σ n m s 0 fit 1 1 0) (h9 : σ 72 9 = 0) (hF : isF n m fit) {j : Nat} (hj : j < m) {k : Nat} (hk : k < n) : f_X7_isBarred j k σ = some (bi (brd s fit j k n), σ) := by
  have hn := h.1
  have hm := h.2.1
  have hk4 := fin4 hk hn.2
  have hj4 := fin4 hj hm.2
  have a1 := mwS_in h n (Nat.le_refl _)
  have a2 := (h.2.2.2.2.2.2 j hj).1
  have a3 := (h.2.2.2.2.2.2 j hj).2.2 k hk
  have hdg := isF_dg hF hk
  have g1 := gtp_in h wsk1 0 fit hk hdg
  have g2 := gun_in h wsk1 fit (dg fit k)
  have c1 := mul_abs (x := mwS s n + s (15 + j) - s (19 + 4 * j + k)) (by omega) g2
  unfold f_X7_isBarred
  rw [c_mostWorth h hg.1, ob_some, s32_of (z := (j : Int)) (by omega) (by omega), if_pos hj4, s32_of (z := (k : Int)) (by omega) (by omega), if_pos hk4, (hg.1.2.2.2.2 j hj).1, hg.1.cost h9 hj hk, c_ownUnder h hg hF hk]
  show ob (some (gun 1 s fit (dg fit k) n, σ)) _ = _
  rw [ob_some, c_ownTop h hg hF hk, ob_some]
  rw [s32_of (z := mwS s n + s (15 + j) - s (19 + 4 * j + k)) (by omega) (by omega)]
  show (if s64 (gtp 1 1 0 s 0 fit k (dg fit k) n) ≤ s64 ((mwS s n + s (15 + j) - s (19 + 4 * j + k)) * gun 1 s fit (dg fit k) n) then some (0, σ) else some (1, σ)) = _
  rw [s64_of (z := gtp 1 1 0 s 0 fit k (dg fit k) n) (by omega) (by omega), s64_of c1.1 c1.2]
  by_cases e : gtp 1 1 0 s 0 fit k (dg fit k) n ≤ (mwS s n + s (15 + j) - s (19 + 4 * j + k)) * gun 1 s fit (dg fit k) n
  · rw [if_pos e, bi_f (fun w => w e)]
  · rw [if_neg e, bi_t e]
theorem m_isBarred {σ : Mem} {n m : Nat} (hM : MS σ n m) {fit : Int} (hF : isF n m fit) {j : Nat} (hj : j < m) {k : Nat} (hk : k < n) : ∃ x y, f_X12_isBarred fit j k σ = some (bi (brd (σ 121) fit j k n), ab σ x y) := by
  have h := hM.1
  have hn := h.1
  have hm := h.2.1
  have hk4 := fin4 hk hn.2
  have hj4 := fin4 hj hm.2
  have a1 := mwS_in h n (Nat.le_refl _)
  have a2 := (h.2.2.2.2.2.2 j hj).1
  have a3 := (h.2.2.2.2.2.2 j hj).2.2 k hk
  have hdg := isF_dg hF hk
  have g1 := gtp_in h wsk1 0 fit hk hdg
  have g2 := gun_in h wsk1 fit (dg fit k)
  have c1 := mul_abs (x := mwS (σ 121) n + σ 121 (15 + j) - σ 121 (19 + 4 * j + k)) (by omega) g2
  have p4 := p5_in n hn.2
  have f1 : fit ≤ 2147483647 := by have := hF.2.1; omega
  have k4 : k ≤ 4 := by omega
  have ep := m_findGets (σ := σ) (n := n) (m := m) h hM.2.1 hF.1 f1 hk hdg
  rw [hM.2.2.2, s32_0] at ep
  refine ⟨gtp 1 1 0 (σ 121) 0 fit k (dg fit k) n, gun 1 (σ 121) fit (dg fit k) n, ?_⟩
  have hl : itr (fun z => f_X12_isBarred_6 fit j k z.1 z.2.1 z.2.2) FU (0, 0, σ) = some (mwS (σ 121) n, σ) := by
    refine itr_for0 (fun i => (mwS (σ 121) i, (i : Int), σ)) n _ (by omega) (fun i hi => ?_) ?_
    · have a1 := mwS_in h i (by omega)
      have a2 := (h.2.2.2.2.2.1 i hi).2.1
      have t7 : 0 ≤ 7 + (i : Int) ∧ 7 + (i : Int) < 39 := by omega
      show f_X12_isBarred_6 fit j k (mwS (σ 121) i) (i : Int) σ = some (Sum.inl ((if mwS (σ 121) i < σ 121 (7 + i) then σ 121 (7 + i) else mwS (σ 121) i), ((i + 1 : Nat) : Int), σ))
      unfold f_X12_isBarred_6
      rw [h.2.2.1, s32_of (z := (n : Int)) (by omega) (by omega), s32_of (z := (i : Int)) (by omega) (by omega), if_neg (by omega), s32_of (z := 7 + (i : Int)) (by omega) (by omega), if_pos t7, s32_of (z := σ 121 (7 + (i : Int))) (by omega) (by omega), s32_of (z := mwS (σ 121) i) (by omega) (by omega)]
      by_cases e : σ 121 (7 + (i : Int)) ≤ mwS (σ 121) i
      · rw [if_pos e, if_neg (by omega)]
        rfl
      · rw [if_neg e, if_pos (by omega)]
        rfl
    · show f_X12_isBarred_6 fit j k (mwS (σ 121) n) (n : Int) σ = _
      unfold f_X12_isBarred_6
      rw [h.2.2.1, if_pos (Int.le_refl _)]
  have t3 : 0 ≤ 15 + (j : Int) ∧ 15 + (j : Int) < 39 := by omega
  have t5 : 0 ≤ 19 + 4 * (j : Int) + (k : Int) ∧ 19 + 4 * (j : Int) + (k : Int) < 39 := by omega
  unfold f_X12_isBarred
  rw [hl, lb_some]
  show ob (f_X12_made fit k σ) _ = _
  rw [m_made hF.1 f1 k4, ob_some, ep, ob_some, s32_of (z := 15 + (j : Int)) (by omega) (by omega), if_pos t3, s32_of (z := 19 + 4 * (j : Int) + (k : Int)) (by omega) (by omega), if_pos t5, ab_21, ab_22, ab_s, s32_of (z := mwS (σ 121) n + σ 121 (15 + j) - σ 121 (19 + 4 * j + k)) (by omega) (by omega), s64_of (z := gtp 1 1 0 (σ 121) 0 fit k (dg fit k) n) (by omega) (by omega), s64_of c1.1 c1.2]
  by_cases e : gtp 1 1 0 (σ 121) 0 fit k (dg fit k) n ≤ (mwS (σ 121) n + σ 121 (15 + j) - σ 121 (19 + 4 * j + k)) * gun 1 (σ 121) fit (dg fit k) n
  · rw [if_pos e, bi_f (fun w => w e)]
  · rw [if_neg e, bi_t e]
