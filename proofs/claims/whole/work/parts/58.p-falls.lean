/-! PURE 18: what a lot falls by -/
def lni (s : Int → Int) (P : Nat → Bool) : Nat → Int
  | 0 => -4
  | k + 1 => if lni s P k = -4 then (if P k = true then -4 else (k : Int)) else if s (7 + lni s P k) ≤ s (7 + k) then lni s P k else if P k = true then lni s P k else (k : Int)
theorem lni_in (s : Int → Int) (P : Nat → Bool) : ∀ k : Nat, lni s P k = -4 ∨ (0 ≤ lni s P k ∧ lni s P k < (k : Int))
  | 0 => Or.inl rfl
  | k + 1 => by
    have ih := lni_in s P k
    unfold lni
    split
    · split <;> omega
    · split
      · omega
      · split <;> omega
def Pb (s : Int → Int) (fit j : Int) (n : Nat) (k : Nat) : Bool := decide (brd s fit j k n)
def Pd (s : Int → Int) (fit j w : Int) (n : Nat) (k : Nat) : Bool := decide (¬ (w + s (15 + j) - s (19 + 4 * j + k)) * gun 1 s fit (dg fit k) n ≤ gtp 1 1 0 s 0 fit k (dg fit k) n)
def drw (s : Int → Int) (fit j : Int) (n : Nat) : Int := if lni s (Pb s fit j n) n = -4 then -4 else match fst? (Pd s fit j (s (7 + lni s (Pb s fit j n) n)) n) 0 n with | some k => (k : Int) | none => -4
theorem drw_in (s : Int → Int) (fit j : Int) (n : Nat) : drw s fit j n = -4 ∨ (0 ≤ drw s fit j n ∧ drw s fit j n < (n : Int)) := by
  unfold drw
  split
  · exact Or.inl rfl
  · split
    · rename_i k hk
      have := fst?_some hk
      omega
    · exact Or.inl rfl
def Pf (s : Int → Int) (fit : Int) (n : Nat) (j : Nat) : Bool := decide (¬ mad fit j n = true ∧ ¬ drw s fit j n = -4)
def flb (s : Int → Int) (fit : Int) (n m : Nat) : Int := match fst? (Pf s fit n) 0 m with | some j => 10 * (j : Int) + drw s fit j n | none => -4
theorem c_leastNotBarred {σ : Mem} {n m : Nat} {s : Int → Int} {fit : Int} (h : Okm n m s) (hg : CG σ n m s 0 fit 1 1 0) (h9 : σ 72 9 = 0) (hF : isF n m fit) {j : Nat} (hj : j < m) : f_X7_leastNotBarred j σ = some (lni s (Pb s fit j n) n, σ) := by
  have hn := h.1
  have hl : itr (fun z => f_X7_leastNotBarred_5 j z.1 z.2.1 z.2.2) FU (-4, 0, σ) = some (lni s (Pb s fit j n) n, σ) := by
    refine itr_for0 (fun k => (lni s (Pb s fit j n) k, (k : Int), σ)) n _ (by omega) (fun k hk => ?_) ?_
    · have li := lni_in s (Pb s fit j n) k
      have h4 := fin4 hk hn.2
      show f_X7_leastNotBarred_5 j (lni s (Pb s fit j n) k) (k : Int) σ = some (Sum.inl (lni s (Pb s fit j n) (k + 1), ((k + 1 : Nat) : Int), σ))
      unfold f_X7_leastNotBarred_5
      rw [hg.1.1, s32_of (z := (n : Int)) (by omega) (by omega), s32_of (z := (k : Int)) (by omega) (by omega), if_neg (by omega), s32_of (z := lni s (Pb s fit j n) k) (by omega) (by omega), c_isBarred h hg h9 hF hj hk, ob_some]
      show _ = some (Sum.inl ((if lni s (Pb s fit j n) k = -4 then (if Pb s fit j n k = true then -4 else (k : Int)) else if s (7 + lni s (Pb s fit j n) k) ≤ s (7 + k) then lni s (Pb s fit j n) k else if Pb s fit j n k = true then lni s (Pb s fit j n) k else (k : Int)), ((k + 1 : Nat) : Int), σ))
      by_cases e0 : lni s (Pb s fit j n) k = -4
      · rw [if_pos e0, if_pos e0]
        by_cases eb : brd s fit j k n
        · rw [bi_t eb, if_neg (by decide), if_pos (show Pb s fit j n k = true from decide_eq_true eb), e0]
          rfl
        · rw [bi_f eb, if_pos s32_0, if_neg (show ¬ Pb s fit j n k = true from fun w => eb (of_decide_eq_true w))]
          rfl
      · obtain ⟨i, hi, ei⟩ : ∃ i : Nat, i < k ∧ lni s (Pb s fit j n) k = i := ⟨(lni s (Pb s fit j n) k).toNat, by omega, by omega⟩
        have i4 := fin4 (show i < n by omega) hn.2
        have a1 := (h.2.2.2.2.2.1 i (by omega)).2.1
        have a2 := (h.2.2.2.2.2.1 k hk).2.1
        rw [if_neg e0, if_neg e0, ei, if_pos h4, if_pos i4, (hg.1.2.2.2.1 i (by omega)).2.1, (hg.1.2.2.2.1 k hk).2.1, s32_of (z := s (7 + (i : Int))) (by omega) (by omega), s32_of (z := s (7 + (k : Int))) (by omega) (by omega)]
        by_cases el : s (7 + (i : Int)) ≤ s (7 + (k : Int))
        · rw [if_pos el, if_pos el]
          rfl
        · rw [if_neg el, if_neg el]
          by_cases eb : brd s fit j k n
          · rw [bi_t eb, if_neg (by decide), if_pos (show Pb s fit j n k = true from decide_eq_true eb)]
            rfl
          · rw [bi_f eb, if_pos s32_0, if_neg (show ¬ Pb s fit j n k = true from fun w => eb (of_decide_eq_true w))]
            rfl
    · show f_X7_leastNotBarred_5 j (lni s (Pb s fit j n) n) (n : Int) σ = _
      unfold f_X7_leastNotBarred_5
      rw [hg.1.1, if_pos (Int.le_refl _)]
  unfold f_X7_leastNotBarred
  rw [hl, lb_some]
theorem c_firstDrawn {σ : Mem} {n m : Nat} {s : Int → Int} {fit : Int} (h : Okm n m s) (hg : CG σ n m s 0 fit 1 1 0) (h9 : σ 72 9 = 0) (hF : isF n m fit) {j : Nat} (hj : j < m) : f_X7_firstDrawn j σ = some (drw s fit j n, σ) := by
  have hn := h.1
  have hm := h.2.1
  have li := lni_in s (Pb s fit j n) n
  unfold f_X7_firstDrawn
  rw [c_leastNotBarred h hg h9 hF hj, ob_some, s32_of (z := lni s (Pb s fit j n) n) (by omega) (by omega)]
  unfold drw
  by_cases e0 : lni s (Pb s fit j n) n = -4
  · rw [if_pos e0, if_pos e0]
  · obtain ⟨i, hi, ei⟩ : ∃ i : Nat, i < n ∧ lni s (Pb s fit j n) n = i := ⟨(lni s (Pb s fit j n) n).toNat, by omega, by omega⟩
    rw [if_neg e0, if_neg e0, ei]
    have hj4 := fin4 hj hm.2
    have hi4 := fin4 hi hn.2
    have a2 := (h.2.2.2.2.2.2 j hj).1
    have a1 := (h.2.2.2.2.2.1 i hi).2.1
    have body : ∀ k : Nat, k < n → f_X7_firstDrawn_17 j i (k : Int) σ = (if Pd s fit j (s (7 + i)) n k = true then some (.inr (.inl ((k : Int), σ))) else some (.inl ((k : Int) + 1, σ))) := by
      intro k hk
      have hk4 := fin4 hk hn.2
      have a3 := (h.2.2.2.2.2.2 j hj).2.2 k hk
      have hdg := isF_dg hF hk
      have g1 := gtp_in h wsk1 0 fit hk hdg
      have g2 := gun_in h wsk1 fit (dg fit k)
      have c1 := mul_abs (x := s (7 + i) + s (15 + j) - s (19 + 4 * j + k)) (by omega) g2
      unfold f_X7_firstDrawn_17
      rw [hg.1.1, s32_of (z := (n : Int)) (by omega) (by omega), s32_of (z := (k : Int)) (by omega) (by omega), if_neg (by omega), s32_of (z := (i : Int)) (by omega) (by omega), if_pos hi4, s32_of (z := (j : Int)) (by omega) (by omega), if_pos hj4, if_pos hk4, (hg.1.2.2.2.1 i hi).2.1, (hg.1.2.2.2.2 j hj).1, hg.1.cost h9 hj hk, c_ownUnder h hg hF hk]
      rw [s32_of (z := s (7 + (i : Int)) + s (15 + j) - s (19 + 4 * j + k)) (by omega) (by omega)]
      show ob (some (gun 1 s fit (dg fit k) n, σ)) _ = _
      rw [ob_some, c_ownTop h hg hF hk, ob_some, s64_of (z := gtp 1 1 0 s 0 fit k (dg fit k) n) (by omega) (by omega)]
      rw [s64_of c1.1 c1.2]
      by_cases e : (s (7 + (i : Int)) + s (15 + j) - s (19 + 4 * j + k)) * gun 1 s fit (dg fit k) n ≤ gtp 1 1 0 s 0 fit k (dg fit k) n
      · rw [if_pos e, if_neg (show ¬ Pd s fit j (s (7 + i)) n k = true from fun w => of_decide_eq_true w e)]
      · rw [if_neg e, if_pos (show Pd s fit j (s (7 + i)) n k = true from decide_eq_true e)]
    have hl := itr_fst0 (f := fun z : Int × Mem => f_X7_firstDrawn_17 j i z.1 z.2) (Pd s fit j (s (7 + i)) n) (fun k => ((k : Int), σ)) n (fun k => Sum.inl ((k : Int), σ)) (Sum.inr σ) (by omega) (fun k hk hp => by
      show f_X7_firstDrawn_17 j i (k : Int) σ = _
      rw [body k hk, if_neg (by rw [hp]; decide)]
      rfl) (fun k hk hp => by
      show f_X7_firstDrawn_17 j i (k : Int) σ = _
      rw [body k hk, if_pos hp]) (by
      show f_X7_firstDrawn_17 j i (n : Int) σ = _
      unfold f_X7_firstDrawn_17
      rw [hg.1.1, if_pos (Int.le_refl _)])
    cases hf : fst? (Pd s fit j (s (7 + i)) n) 0 n with
    | some k =>
      rw [hf] at hl
      rw [show itr (fun z : Int × Mem => f_X7_firstDrawn_17 j i z.1 z.2) FU (0, σ) = some (Sum.inl ((k : Int), σ)) from hl, lb_some, Sum.elim_inl]
    | none =>
      rw [hf] at hl
      rw [show itr (fun z : Int × Mem => f_X7_firstDrawn_17 j i z.1 z.2) FU (0, σ) = some (Sum.inr σ) from hl, lb_some, Sum.elim_inr]
