/-! PURE 51: a mark told, on both sides -/
theorem two_mark {τ μ : Mem} {n m k : Nat} {nums : Nat → Int} (hF : FMk τ n m (μ 123)) (hO : OkR n m (μ 123)) (hN : NB τ μ k nums) (hk : 1 ≤ k) (h4 : τ 70 4 = k) (h15 : μ 120 15 = k) : ∃ r τ' μ', f_X4_addMark 50 71 (τ 70 4) τ = some (r, τ') ∧ f_X12_comes 109 μ = some (r, μ') ∧ Cm τ μ τ' μ' r := by
  obtain ⟨⟨hn, hm⟩, o0, o1, o2, oS, oM, oT⟩ := hO
  obtain ⟨f0, f1, fS, fM⟩ := hF
  obtain ⟨hk2, nb, n1, n2⟩ := hN
  have b0 := nb 0 (by omega)
  have a0 : τ 71 0 = nums 0 := n1 0 (by omega) (by omega)
  have c0 : μ 130 0 = nums 0 := n2 0 (by omega)
  have sn : s32 (n : Int) = n := s32_of (by omega) (by omega)
  have sm : s32 (m : Int) = m := s32_of (by omega) (by omega)
  have sk : s32 (k : Int) = k := s32_of (by omega) (by omega)
  have s0 : s32 (nums 0) = nums 0 := s32_of (by omega) (by omega)
  have sn1 : s32 (1 + (n : Int)) = 1 + n := s32_of (by clear sn sm sk s0; omega) (by clear sn sm sk s0; omega)
  unfold f_X4_addMark f_X12_comes
  rw [if_neg (show ¬ s32 109 = 115 by decide), if_neg (show ¬ s32 109 = 116 by decide), a0, c0, h4, h15, f0, f1, o0, o1, sm, sk, s0, Int.add_comm (n : Int) 1, sn1]
  have none1 : Cm τ μ τ μ 0 := ⟨fun _ _ _ => rfl, fun _ _ => rfl, Or.inl rfl⟩
  clear s0
  by_cases q1 : (m : Int) = 4
  · exact ⟨0, τ, μ, by rw [if_pos q1], by rw [if_pos q1], none1⟩
  rw [if_neg q1, if_neg q1]
  by_cases q2 : 99 < nums 0
  · exact ⟨0, τ, μ, by rw [if_pos q2], by rw [if_pos q2], none1⟩
  rw [if_neg q2, if_neg q2]
  by_cases q3 : (k : Int) = 1 + n
  · have m4 : 0 ≤ (m : Int) ∧ (m : Int) < 4 := by clear sn sm sk sn1; omega
    have s15 : s32 (15 + (m : Int)) = 15 + m := s32_of (by clear sn sm sk sn1; omega) (by clear sn sm sk sn1; omega)
    have j15 : 0 ≤ 15 + (m : Int) ∧ 15 + (m : Int) < 39 := by clear sn sm sk sn1 s15; omega
    rw [if_pos q3, if_pos q3, if_pos m4, s15, if_pos j15]
    simp only [stp]
    rw [show ups τ (50 + 4) m (nums 0) 50 = τ 50 from ups_ne (by decide), f1, sm, if_pos m4]
    clear s15
    obtain ⟨τ1, e1⟩ : ∃ τ1, τ1 = ups (ups τ (50 + 4) m (nums 0)) (50 + 5) m (-1) := ⟨_, rfl⟩
    obtain ⟨μ1, d1⟩ : ∃ μ1, μ1 = ups μ 123 (15 + (m : Int)) (nums 0) := ⟨_, rfl⟩
    rw [← e1, ← d1]
    have t1 : ∀ a i : Int, a ≠ 54 → a ≠ 55 → τ1 a i = τ a i := fun a i w1 w2 => by rw [e1, ups_nn (by omega), ups_nn (by omega)]
    have u1 : ∀ a i : Int, ¬ (a = 123 ∧ i = 15 + m) → μ1 a i = μ a i := fun a i w => by rw [d1, ups_nn w]
    have lc : ∃ b, itr (fun z => f_X4_addMark_52 50 71 z.1 z.2) FU (0, τ1) = some b ∧ ((∀ a i : Int, ¬ (a = 56 + 1 + m ∧ 0 ≤ i ∧ i < n) → b a i = τ1 a i) ∧ ∀ j : Nat, j < n → b (56 + 1 + m) j = nums (1 + j)) := by
      refine itr_forH (fun x z => ∃ κ, z = ((x : Int), κ) ∧ (∀ a i : Int, ¬ (a = 56 + 1 + m ∧ 0 ≤ i ∧ i < n) → κ a i = τ1 a i) ∧ ∀ j : Nat, j < x → κ (56 + 1 + m) j = nums (1 + j)) _ n (by clear sn sm sk sn1; omega) ⟨τ1, rfl, fun _ _ _ => rfl, fun j hj => absurd hj (Nat.not_lt_zero _)⟩ (fun x hx z hz => ?_) (fun z hz => ?_)
      · obtain ⟨κ, rfl, h1, h2⟩ := hz
        have x4 : 0 ≤ (x : Int) ∧ (x : Int) < 4 := by clear sn sm sk sn1; omega
        have x5 : 0 ≤ 1 + (x : Int) ∧ 1 + (x : Int) < 5 := by clear sn sm sk sn1; omega
        have e71 : κ 71 (1 + (x : Int)) = nums (1 + x) := by
          rw [h1 71 _ (by clear sn sm sk sn1; omega), t1 71 _ (by decide) (by decide), show (1 : Int) + (x : Int) = ((1 + x : Nat) : Int) by clear sn sm sk sn1; omega]
          exact n1 (1 + x) (by clear sn sm sk sn1; omega) (by clear sn sm sk sn1; omega)
        have ux : s32 (x : Int) = x := s32_of (by clear sn sm sk sn1; omega) (by clear sn sm sk sn1; omega)
        have ux1 : s32 (1 + (x : Int)) = 1 + x := s32_of (by clear sn sm sk sn1 ux; omega) (by clear sn sm sk sn1 ux; omega)
        refine ⟨((x : Int) + 1, ups κ (50 + 6 + 1 + m) x (nums (1 + x))), ?_, _, rfl, fun a i w => ?_, fun j hj => ?_⟩
        · show f_X4_addMark_52 50 71 (x : Int) κ = _
          unfold f_X4_addMark_52
          rw [h1 50 0 (by clear sn sm sk sn1 ux ux1; omega), h1 50 1 (by clear sn sm sk sn1 ux ux1; omega), t1 50 0 (by decide) (by decide), t1 50 1 (by decide) (by decide), f0, f1, sn, sm, ux, ux1, if_neg (by clear sn sm sk sn1 ux ux1; omega), if_pos m4, if_pos x5, if_pos x4, e71]
        · rw [ups_nn (by clear sn sm sk sn1 ux ux1; omega)]
          exact h1 a i w
        · by_cases e : j = x
          · rw [e]
            exact ups_at ..
          · rw [ups_nn (by clear sn sm sk sn1 ux ux1; omega)]
            exact h2 j (by clear sn sm sk sn1 ux ux1; omega)
      · obtain ⟨κ, rfl, h1, h2⟩ := hz
        refine ⟨κ, ?_, h1, h2⟩
        show f_X4_addMark_52 50 71 (n : Int) κ = _
        unfold f_X4_addMark_52
        rw [h1 50 0 (by clear sn sm sk sn1; omega), t1 50 0 (by decide) (by decide), f0, if_pos (Int.le_refl _)]
    have lm : ∃ b, itr (fun z => f_X12_comes_221 m z.1 z.2) FU (0, μ1) = some b ∧ ((∀ a i : Int, ¬ (a = 123 ∧ 19 + 4 * (m : Int) ≤ i ∧ i < 19 + 4 * (m : Int) + n) → b a i = μ1 a i) ∧ ∀ j : Nat, j < n → b 123 (19 + 4 * m + j) = nums (1 + j)) := by
      refine itr_forH (fun x z => ∃ κ, z = ((x : Int), κ) ∧ (∀ a i : Int, ¬ (a = 123 ∧ 19 + 4 * (m : Int) ≤ i ∧ i < 19 + 4 * (m : Int) + n) → κ a i = μ1 a i) ∧ ∀ j : Nat, j < x → κ 123 (19 + 4 * m + j) = nums (1 + j)) _ n (by clear sn sm sk sn1; omega) ⟨μ1, rfl, fun _ _ _ => rfl, fun j hj => absurd hj (Nat.not_lt_zero _)⟩ (fun x hx z hz => ?_) (fun z hz => ?_)
      · obtain ⟨κ, rfl, h1, h2⟩ := hz
        have x5 : 0 ≤ 1 + (x : Int) ∧ 1 + (x : Int) < 120 := by clear sn sm sk sn1; omega
        have x39 : 0 ≤ 19 + 4 * (m : Int) + x ∧ 19 + 4 * (m : Int) + x < 39 := by clear sn sm sk sn1; omega
        have e130 : κ 130 (1 + (x : Int)) = nums (1 + x) := by
          rw [h1 130 _ (by clear sn sm sk sn1; omega), u1 130 _ (by clear sn sm sk sn1; omega), show (1 : Int) + (x : Int) = ((1 + x : Nat) : Int) by clear sn sm sk sn1; omega]
          exact n2 (1 + x) (by clear sn sm sk sn1; omega)
        have ux : s32 (x : Int) = x := s32_of (by clear sn sm sk sn1; omega) (by clear sn sm sk sn1; omega)
        have ux1 : s32 (1 + (x : Int)) = 1 + x := s32_of (by clear sn sm sk sn1 ux; omega) (by clear sn sm sk sn1 ux; omega)
        have ux2 : s32 (19 + 4 * (m : Int) + x) = 19 + 4 * m + x := s32_of (by clear sn sm sk sn1 ux ux1; omega) (by clear sn sm sk sn1 ux ux1; omega)
        refine ⟨((x : Int) + 1, ups κ 123 (19 + 4 * m + x) (nums (1 + x))), ?_, _, rfl, fun a i w => ?_, fun j hj => ?_⟩
        · show f_X12_comes_221 m (x : Int) κ = _
          unfold f_X12_comes_221
          rw [h1 123 0 (by clear sn sm sk sn1 ux ux1 ux2; omega), u1 123 0 (by clear sn sm sk sn1 ux ux1 ux2; omega), o0, sn, ux, ux1, ux2, if_neg (by clear sn sm sk sn1 ux ux1 ux2; omega), if_pos x5, if_pos x39, e130]
        · rw [ups_nn (by clear sn sm sk sn1 ux ux1 ux2; omega)]
          exact h1 a i w
        · by_cases e : j = x
          · rw [e]
            exact ups_at ..
          · rw [ups_nn (by clear sn sm sk sn1 ux ux1 ux2; omega)]
            exact h2 j (by clear sn sm sk sn1 ux ux1 ux2; omega)
      · obtain ⟨κ, rfl, h1, h2⟩ := hz
        refine ⟨κ, ?_, h1, h2⟩
        show f_X12_comes_221 m (n : Int) κ = _
        unfold f_X12_comes_221
        rw [h1 123 0 (by clear sn sm sk sn1; omega), u1 123 0 (by clear sn sm sk sn1; omega), o0, if_pos (Int.le_refl _)]
    clear sn sm sk sn1
    obtain ⟨κ, ek, k1, k2⟩ := lc
    obtain ⟨ρ, er, p1, p2⟩ := lm
    rw [ek, er, lb_some, lb_some, k1 50 1 (by omega), t1 50 1 (by decide) (by decide), f1, p1 123 1 (by omega), u1 123 1 (by omega), o1]
    have K : ∀ a i : Int, ¬ (a = 54 ∨ a = 55 ∨ a = 56 + 1 + m) → κ a i = τ a i := fun a i w => (k1 a i (by omega)).trans (t1 a i (by omega) (by omega))
    have P : ∀ a i : Int, ¬ (a = 123 ∧ (i = 15 + m ∨ (19 + 4 * (m : Int) ≤ i ∧ i < 19 + 4 * (m : Int) + n))) → ρ a i = μ a i := fun a i w => (p1 a i (by omega)).trans (u1 a i (by omega))
    have K4 : ∀ i : Int, i ≠ m → κ 54 i = τ 54 i ∧ κ 55 i = τ 55 i := fun i w => by
      rw [k1 54 i (by omega), k1 55 i (by omega), e1]
      exact ⟨by rw [ups_nn (by omega), ups_nn (by omega)], by rw [ups_nn (by omega), ups_nn (by omega)]⟩
    have K4m : κ 54 m = nums 0 ∧ κ 55 m = -1 := by
      rw [k1 54 m (by omega), k1 55 m (by omega), e1]
      exact ⟨by rw [ups_nn (by omega)]; exact ups_at .., ups_at ..⟩
    have P15 : ρ 123 (15 + m) = nums 0 := by
      rw [p1 123 _ (by omega), d1]
      exact ups_at ..
    refine ⟨1, _, _, rfl, rfl, fun a i w => ?_, fun a w => ?_, Or.inr ⟨rfl, n, m + 1, ⟨?_, ?_, fun i hi => ?_, fun j hj => ?_⟩, ⟨hn, by omega⟩, ?_, ?_, ?_, fun i hi => ?_, fun j hj => ?_, fun j hj hj4 => ?_⟩⟩
    · rw [ups_nn (by omega)]
      exact K a i (by omega)
    · rw [ups_ne w]
      exact funext fun i => P a i (fun z => w z.1)
    · rw [ups_nn (by omega), K 50 0 (by omega)]
      exact f0
    · rw [ups_at]
      rfl
    · rw [ups_nn (by omega), ups_nn (by omega), ups_nn (by omega), ups_nn (by omega), ups_nn (by omega), ups_nn (by omega), K 51 i (by omega), K 52 i (by omega), K 53 i (by omega), P 123 _ (by omega), P 123 _ (by omega), P 123 _ (by omega)]
      exact fS i hi
    · by_cases e : j = m
      · rw [e]
        refine ⟨?_, ?_, fun i hi => ?_⟩
        · rw [ups_nn (by omega), ups_nn (by omega), K4m.1, P15]
        · rw [ups_nn (by omega), ups_nn (by omega), K4m.2, P 123 _ (by omega), oT m (Nat.le_refl _) (by omega)]
          rfl
        · rw [ups_nn (by omega), ups_nn (by omega), k2 i hi, p2 i hi]
      · have z := fM j (by omega)
        refine ⟨?_, ?_, fun i hi => ?_⟩
        · rw [ups_nn (by omega), ups_nn (by omega), (K4 j (by omega)).1, P 123 _ (by omega)]
          exact z.1
        · rw [ups_nn (by omega), ups_nn (by omega), (K4 j (by omega)).2, P 123 _ (by omega)]
          exact z.2.1
        · rw [ups_nn (by omega), ups_nn (by omega), K _ _ (by omega), P 123 _ (by omega)]
          exact z.2.2 i hi
    · rw [ups_nn (by omega), P 123 _ (by omega)]
      exact o0
    · rw [ups_at]
      rfl
    · rw [ups_nn (by omega), P 123 _ (by omega)]
      exact o2
    · rw [ups_nn (by omega), ups_nn (by omega), ups_nn (by omega), P 123 _ (by omega), P 123 _ (by omega), P 123 _ (by omega)]
      exact oS i hi
    · by_cases e : j = m
      · rw [e]
        refine ⟨?_, ?_, fun i hi => ?_⟩
        · rw [ups_nn (by omega), P15]
          omega
        · rw [ups_nn (by omega), P 123 _ (by omega), oT m (Nat.le_refl _) (by omega)]
          omega
        · rw [ups_nn (by omega), p2 i hi]
          exact nb (1 + i) (by omega)
      · have z := oM j (by omega)
        refine ⟨?_, ?_, fun i hi => ?_⟩
        · rw [ups_nn (by omega), P 123 _ (by omega)]
          exact z.1
        · rw [ups_nn (by omega), P 123 _ (by omega)]
          exact z.2.1
        · rw [ups_nn (by omega), P 123 _ (by omega)]
          exact z.2.2 i hi
    · rw [ups_nn (by omega), P 123 _ (by omega)]
      exact oT j (by omega) hj4
  · exact ⟨0, τ, μ, by rw [if_neg q3], by rw [if_neg q3], none1⟩
