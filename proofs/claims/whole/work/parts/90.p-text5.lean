/-! PURE 50: what a statement tells, on both sides -/
theorem ups_nn {σ : Mem} {a i v x j : Int} (h : ¬ (x = a ∧ j = i)) : ups σ a i v x j = σ x j := by
  unfold ups
  rw [if_neg h]
/-- the market found so far is the row R -/
def FMk (τ : Mem) (n m : Nat) (R : Int → Int) : Prop := τ 50 0 = n ∧ τ 50 1 = m ∧ (∀ k : Nat, k < n → τ 51 k = R (3 + k) ∧ τ 52 k = R (7 + k) ∧ τ 53 k = R (11 + k)) ∧ ∀ j : Nat, j < m → τ 54 j = R (15 + j) ∧ τ 55 j = R (35 + j) - 1 ∧ ∀ k : Nat, k < n → τ (56 + 1 + j) k = R (19 + 4 * j + k)
def OkR (n m : Nat) (R : Int → Int) : Prop := (n ≤ 4 ∧ m ≤ 4) ∧ R 0 = n ∧ R 1 = m ∧ R 2 = 0 ∧ (∀ k : Nat, k < n → (1 ≤ R (3 + k) ∧ R (3 + k) ≤ 100) ∧ (0 ≤ R (7 + k) ∧ R (7 + k) ≤ 999) ∧ (0 ≤ R (11 + k) ∧ R (11 + k) ≤ 999)) ∧ (∀ j : Nat, j < m → (0 ≤ R (15 + j) ∧ R (15 + j) ≤ 99) ∧ (0 ≤ R (35 + j) ∧ R (35 + j) ≤ n) ∧ ∀ k : Nat, k < n → 0 ≤ R (19 + 4 * j + k) ∧ R (19 + 4 * j + k) ≤ 999) ∧ ∀ j : Nat, m ≤ j → j < 4 → R (35 + j) = 0
/-- numbers read, on both sides -/
def NB (τ μ : Mem) (k : Nat) (nums : Nat → Int) : Prop := k ≤ 120 ∧ (∀ j, j < k → 0 ≤ nums j ∧ nums j ≤ 999) ∧ (∀ j : Nat, j < k → j < 5 → τ 71 j = nums j) ∧ ∀ j : Nat, j < k → μ 130 j = nums j
def Cm (τ μ τ' μ' : Mem) (r : Int) : Prop := (∀ a i : Int, ¬ (50 ≤ a ∧ a ≤ 60 ∧ ¬ (a = 50 ∧ i = 2)) → τ' a i = τ a i) ∧ (∀ a : Int, a ≠ 123 → μ' a = μ a) ∧ (r = 0 ∨ (r = 1 ∧ ∃ n' m', FMk τ' n' m' (μ' 123) ∧ OkR n' m' (μ' 123)))
theorem two_sort {τ μ : Mem} {n m k : Nat} {nums : Nat → Int} (hF : FMk τ n m (μ 123)) (hO : OkR n m (μ 123)) (hN : NB τ μ k nums) (hk : 3 ≤ k) : ∃ r τ' μ', f_X4_addSort 50 (τ 71 0) (τ 71 1) (τ 71 2) τ = some (r, τ') ∧ f_X12_comes 115 μ = some (r, μ') ∧ Cm τ μ τ' μ' r := by
  obtain ⟨⟨hn, hm⟩, o0, o1, o2, oS, oM, oT⟩ := hO
  obtain ⟨f0, f1, fS, fM⟩ := hF
  obtain ⟨hk2, nb, n1, n2⟩ := hN
  have b0 := nb 0 (by omega)
  have b1 := nb 1 (by omega)
  have b2 := nb 2 (by omega)
  have a0 : τ 71 0 = nums 0 := n1 0 (by omega) (by omega)
  have a1 : τ 71 1 = nums 1 := n1 1 (by omega) (by omega)
  have a2 : τ 71 2 = nums 2 := n1 2 (by omega) (by omega)
  have c0 : μ 130 0 = nums 0 := n2 0 (by omega)
  have c1 : μ 130 1 = nums 1 := n2 1 (by omega)
  have c2 : μ 130 2 = nums 2 := n2 2 (by omega)
  have sn : s32 (n : Int) = n := s32_of (by omega) (by omega)
  have sm : s32 (m : Int) = m := s32_of (by omega) (by omega)
  unfold f_X4_addSort f_X12_comes
  rw [if_pos (show s32 115 = 115 by decide), a0, a1, a2, c0, f0, f1, o0, o1, sn, sm, s32_of (z := nums 0) (by clear sn sm; omega) (by clear sn sm; omega), m_isInT (by clear sn sm; omega) (by decide) (by decide)]
  have none1 : Cm τ μ τ μ 0 := ⟨fun _ _ _ => rfl, fun _ _ => rfl, Or.inl rfl⟩
  by_cases q1 : (n : Int) = 4
  · exact ⟨0, τ, μ, by rw [if_pos q1], by rw [if_pos q1], none1⟩
  rw [if_neg q1, if_neg q1]
  by_cases q2 : 0 < (m : Int)
  · exact ⟨0, τ, μ, by rw [if_pos q2], by rw [if_pos q2], none1⟩
  rw [if_neg q2, if_neg q2, ob_some]
  by_cases q3 : 1 ≤ nums 0 ∧ nums 0 ≤ 100
  · obtain ⟨m0, rfl⟩ : ∃ m0 : Nat, m = 0 := ⟨0, by clear sn sm; omega⟩
    have n4 : 0 ≤ (n : Int) ∧ (n : Int) < 4 := by clear sn sm; omega
    have s3 : s32 (3 + (n : Int)) = 3 + n := s32_of (by clear sn sm; omega) (by clear sn sm; omega)
    have s7 : s32 (7 + (n : Int)) = 7 + n := s32_of (by clear sn sm s3; omega) (by clear sn sm s3; omega)
    have s11 : s32 (11 + (n : Int)) = 11 + n := s32_of (by clear sn sm s3 s7; omega) (by clear sn sm s3 s7; omega)
    have j3 : 0 ≤ 3 + (n : Int) ∧ 3 + (n : Int) < 39 := by clear sn sm s3 s7 s11; omega
    have j7 : 0 ≤ 7 + (n : Int) ∧ 7 + (n : Int) < 39 := by clear sn sm s3 s7 s11; omega
    have j11 : 0 ≤ 11 + (n : Int) ∧ 11 + (n : Int) < 39 := by clear sn sm s3 s7 s11; omega
    rw [bi_t q3, if_neg (show ¬ s32 1 = 0 by decide), if_neg (show ¬ nums 0 < 1 by clear sn sm s3 s7 s11; omega), if_pos q3.2, if_pos n4, s3, s7, s11, if_pos j3]
    simp only [stp]
    rw [if_pos j7, if_pos j11, c0, show ups μ 123 (3 + (n : Int)) (nums 0) 130 = μ 130 from ups_ne (by decide), c1, show ups (ups μ 123 (3 + (n : Int)) (nums 0)) 123 (7 + (n : Int)) (nums 1) 130 = μ 130 from (ups_ne (by decide)).trans (ups_ne (by decide)), c2, show ups τ (50 + 1) n (nums 0) 50 = τ 50 from ups_ne (by decide), f0, sn, if_pos n4, show ups (ups τ (50 + 1) n (nums 0)) (50 + 2) n (nums 1) 50 = τ 50 from (ups_ne (by decide)).trans (ups_ne (by decide)), f0, sn, if_pos n4, show ups (ups (ups τ (50 + 1) n (nums 0)) (50 + 2) n (nums 1)) (50 + 3) n (nums 2) 50 = τ 50 from (ups_ne (by decide)).trans ((ups_ne (by decide)).trans (ups_ne (by decide))), f0, ups_ni (show (0 : Int) ≠ 11 + n by clear sn sm s3 s7 s11; omega), ups_ni (show (0 : Int) ≠ 7 + n by clear sn sm s3 s7 s11; omega), ups_ni (show (0 : Int) ≠ 3 + n by clear sn sm s3 s7 s11; omega), o0]
    clear sn sm s3 s7 s11
    refine ⟨1, _, _, rfl, rfl, fun a i w => ?_, fun a w => ?_, Or.inr ⟨rfl, n + 1, 0, ⟨?_, ?_, fun i hi => ?_, fun j hj => absurd hj (Nat.not_lt_zero _)⟩, ⟨by omega, by omega⟩, ?_, ?_, ?_, fun i hi => ?_, fun j hj => absurd hj (Nat.not_lt_zero _), fun j _ hj => ?_⟩⟩
    · rw [ups_nn (by omega), ups_nn (by omega), ups_nn (by omega), ups_nn (by omega)]
    · rw [ups_ne w, ups_ne w, ups_ne w, ups_ne w]
    · rw [ups_at]; rfl
    · rw [ups_ni (by decide), ups_ne (by decide), ups_ne (by decide), ups_ne (by decide)]
      exact f1
    · by_cases e : i = n
      · rw [e]
        refine ⟨?_, ?_, ?_⟩
        · rw [ups_ne (by decide), ups_ne (by decide), ups_ne (by decide)]
          rw [show ups τ (50 + 1) n (nums 0) 51 n = nums 0 from ups_at .., ups_ni (by omega), ups_ni (by omega), ups_ni (by omega), ups_at]
        · rw [ups_ne (by decide), ups_ne (by decide)]
          rw [show ups (ups τ (50 + 1) n (nums 0)) (50 + 2) n (nums 1) 52 n = nums 1 from ups_at .., ups_ni (by omega), ups_ni (by omega), ups_at]
        · rw [ups_ne (by decide)]
          rw [show ups (ups (ups τ (50 + 1) n (nums 0)) (50 + 2) n (nums 1)) (50 + 3) n (nums 2) 53 n = nums 2 from ups_at .., ups_ni (by omega), ups_at]
      · have z := fS i (by omega)
        refine ⟨?_, ?_, ?_⟩
        · rw [ups_nn (by omega), ups_nn (by omega), ups_nn (by omega), ups_nn (by omega), ups_nn (by omega), ups_nn (by omega), ups_nn (by omega), ups_nn (by omega)]
          exact z.1
        · rw [ups_nn (by omega), ups_nn (by omega), ups_nn (by omega), ups_nn (by omega), ups_nn (by omega), ups_nn (by omega), ups_nn (by omega), ups_nn (by omega)]
          exact z.2.1
        · rw [ups_nn (by omega), ups_nn (by omega), ups_nn (by omega), ups_nn (by omega), ups_nn (by omega), ups_nn (by omega), ups_nn (by omega), ups_nn (by omega)]
          exact z.2.2
    · rw [ups_at]; rfl
    · rw [ups_ni (by decide), ups_ni (by omega), ups_ni (by omega), ups_ni (by omega)]
      exact o1
    · rw [ups_ni (by decide), ups_ni (by omega), ups_ni (by omega), ups_ni (by omega)]
      exact o2
    · by_cases e : i = n
      · rw [e]
        refine ⟨?_, ?_, ?_⟩
        · rw [ups_ni (by omega), ups_ni (by omega), ups_ni (by omega), ups_at]
          exact q3
        · rw [ups_ni (by omega), ups_ni (by omega), ups_at]
          exact b1
        · rw [ups_ni (by omega), ups_at]
          exact b2
      · have z := oS i (by omega)
        rw [ups_ni (show (3 : Int) + i ≠ 0 by omega), ups_ni (show (3 : Int) + i ≠ 11 + n by omega), ups_ni (show (3 : Int) + i ≠ 7 + n by omega), ups_ni (show (3 : Int) + i ≠ 3 + n by omega)]
        rw [ups_ni (show (7 : Int) + i ≠ 0 by omega), ups_ni (show (7 : Int) + i ≠ 11 + n by omega), ups_ni (show (7 : Int) + i ≠ 7 + n by omega), ups_ni (show (7 : Int) + i ≠ 3 + n by omega)]
        rw [ups_ni (show (11 : Int) + i ≠ 0 by omega), ups_ni (show (11 : Int) + i ≠ 11 + n by omega), ups_ni (show (11 : Int) + i ≠ 7 + n by omega), ups_ni (show (11 : Int) + i ≠ 3 + n by omega)]
        exact z
    · rw [ups_ni (by omega), ups_ni (by omega), ups_ni (by omega), ups_ni (by omega)]
      exact oT j (by omega) hj
  · refine ⟨0, τ, μ, ?_, by rw [bi_f q3, if_pos s32_0], none1⟩
    by_cases q4 : nums 0 < 1
    · rw [if_pos q4]
    · rw [if_neg q4, if_neg (by clear sn sm; omega)]
theorem two_tell {τ μ : Mem} {n m k : Nat} {nums : Nat → Int} (hF : FMk τ n m (μ 123)) (hO : OkR n m (μ 123)) (hN : NB τ μ k nums) (hk : 2 ≤ k) : ∃ r τ' μ', f_X4_tell 50 (τ 71 0) (τ 71 1) τ = some (r, τ') ∧ f_X12_comes 116 μ = some (r, μ') ∧ Cm τ μ τ' μ' r := by
  obtain ⟨⟨hn, hm⟩, o0, o1, o2, oS, oM, oT⟩ := hO
  obtain ⟨f0, f1, fS, fM⟩ := hF
  obtain ⟨hk2, nb, n1, n2⟩ := hN
  have b0 := nb 0 (by omega)
  have b1 := nb 1 (by omega)
  have a0 : τ 71 0 = nums 0 := n1 0 (by omega) (by omega)
  have a1 : τ 71 1 = nums 1 := n1 1 (by omega) (by omega)
  have c0 : μ 130 0 = nums 0 := n2 0 (by omega)
  have c1 : μ 130 1 = nums 1 := n2 1 (by omega)
  obtain ⟨x, hx⟩ : ∃ x : Nat, nums 0 = x := ⟨(nums 0).toNat, by omega⟩
  rw [hx] at b0 a0 c0
  have sn : s32 (n : Int) = n := s32_of (by omega) (by omega)
  have sm : s32 (m : Int) = m := s32_of (by omega) (by omega)
  have s0 : s32 (x : Int) = x := s32_of (by omega) (by omega)
  have s1 : s32 (nums 1) = nums 1 := s32_of (by omega) (by omega)
  unfold f_X4_tell f_X12_comes
  rw [if_neg (show ¬ s32 116 = 115 by decide), if_pos (show s32 116 = 116 by decide), a0, a1, c0, c1, o0, o1, sn, sm, s0, s1, c_hasMark' s0 (by rw [f1]; clear sn sm s0 s1; omega), ob_some, c_hasSort' s1 (by rw [f0]; clear sn sm s0 s1; omega), ob_some, f0, f1]
  have none1 : Cm τ μ τ μ 0 := ⟨fun _ _ _ => rfl, fun _ _ => rfl, Or.inl rfl⟩
  by_cases q1 : (x : Int) < m
  · rw [bi_t (by clear sn sm s0 s1; omega), if_neg (show ¬ s32 1 = 0 by decide), if_neg (show ¬ (m : Int) ≤ x by clear sn sm s0 s1; omega)]
    by_cases q2 : nums 1 < n
    · have s35 : s32 (35 + (x : Int)) = 35 + x := s32_of (by clear sn sm s0 s1; omega) (by clear sn sm s0 s1; omega)
      have j35 : 0 ≤ 35 + (x : Int) ∧ 35 + (x : Int) < 39 := by clear sn sm s0 s1 s35; omega
      have x4 : 0 ≤ (x : Int) ∧ (x : Int) < 4 := by clear sn sm s0 s1 s35; omega
      rw [bi_t (by clear sn sm s0 s1 s35; omega), if_neg (show ¬ s32 1 = 0 by decide), if_pos q2, if_pos x4, s35, if_pos j35]
      clear sn sm s0 s1 s35
      simp only [stp]
      refine ⟨1, _, _, rfl, rfl, fun a i w => ?_, fun a w => ?_, Or.inr ⟨rfl, n, m, ⟨?_, ?_, fun i hi => ?_, fun j hj => ?_⟩, ⟨hn, hm⟩, ?_, ?_, ?_, fun i hi => ?_, fun j hj => ?_, fun j hj hj4 => ?_⟩⟩
      · rw [ups_nn (by omega)]
      · rw [ups_ne w]
      · rw [ups_ne (by decide)]; exact f0
      · rw [ups_ne (by decide)]; exact f1
      · rw [ups_ne (show (51 : Int) ≠ 50 + 5 by decide), ups_ne (show (52 : Int) ≠ 50 + 5 by decide), ups_ne (show (53 : Int) ≠ 50 + 5 by decide), ups_ni (by omega), ups_ni (by omega), ups_ni (by omega)]
        exact fS i hi
      · have z := fM j hj
        refine ⟨?_, ?_, fun i hi => ?_⟩
        · rw [ups_ne (show (54 : Int) ≠ 50 + 5 by decide), ups_ni (by omega)]
          exact z.1
        · by_cases e : j = x
          · rw [e, show ups τ (50 + 5) x (nums 1) 55 x = nums 1 from ups_at .., ups_at]
            omega
          · rw [show ups τ (50 + 5) x (nums 1) 55 j = τ 55 j from ups_ni (by omega), ups_ni (by omega)]
            exact z.2.1
        · rw [ups_ne (by omega), ups_ni (by omega)]
          exact z.2.2 i hi
      · rw [ups_ni (by omega)]; exact o0
      · rw [ups_ni (by omega)]; exact o1
      · rw [ups_ni (by omega)]; exact o2
      · rw [ups_ni (by omega), ups_ni (by omega), ups_ni (by omega)]
        exact oS i hi
      · have z := oM j hj
        refine ⟨?_, ?_, fun i hi => ?_⟩
        · rw [ups_ni (by omega)]
          exact z.1
        · by_cases e : j = x
          · rw [e, ups_at]
            omega
          · rw [ups_ni (by omega)]
            exact z.2.1
        · rw [ups_ni (by omega)]
          exact z.2.2 i hi
      · rw [ups_ni (by omega)]
        exact oT j hj hj4
    · exact ⟨0, τ, μ, by rw [bi_f (by clear sn sm s0 s1; omega), if_pos s32_0], by rw [if_neg q2], none1⟩
  · exact ⟨0, τ, μ, by rw [bi_f (by clear sn sm s0 s1; omega), if_pos s32_0], by rw [if_pos (show (m : Int) ≤ x by clear sn sm s0 s1; omega)], none1⟩
