/-! PURE 3: pays, what is got -/
theorem mul_in {a b A B : Int} (ha : 0 ≤ a ∧ a ≤ A) (hb : 0 ≤ b ∧ b ≤ B) : 0 ≤ a * b ∧ a * b ≤ A * B :=
  ⟨Int.mul_nonneg ha.1 hb.1, Int.mul_le_mul ha.2 hb.2 hb.1 (Int.le_trans ha.1 ha.2)⟩
/-- a market in the model's row; n sorts, m marks -/
def Okm (n m : Nat) (s : Int → Int) : Prop := (1 ≤ n ∧ n ≤ 4) ∧ (1 ≤ m ∧ m ≤ 4) ∧ s 0 = n ∧ s 1 = m ∧ (0 ≤ s 2 ∧ s 2 ≤ 100) ∧
  (∀ k : Nat, k < n → (1 ≤ s (3 + k) ∧ s (3 + k) ≤ 100) ∧ (0 ≤ s (7 + k) ∧ s (7 + k) ≤ 999) ∧ (0 ≤ s (11 + k) ∧ s (11 + k) ≤ 999)) ∧
  (∀ j : Nat, j < m → (0 ≤ s (15 + j) ∧ s (15 + j) ≤ 99) ∧ (0 ≤ s (35 + j) ∧ s (35 + j) ≤ n) ∧ ∀ k : Nat, k < n → 0 ≤ s (19 + 4 * j + k) ∧ s (19 + 4 * j + k) ≤ 1998)
/-- the least worth -/
def lwS (s : Int → Int) : Nat → Int
  | 0 => 999
  | k + 1 => if s (7 + k) < lwS s k then s (7 + k) else lwS s k
theorem lwS_in {n m : Nat} {s : Int → Int} (h : Okm n m s) : ∀ k, k ≤ n → 0 ≤ lwS s k ∧ lwS s k ≤ 999
  | 0, _ => by simp [lwS]
  | k + 1, hk => by
    have h1 := lwS_in h k (by omega)
    have h2 := (h.2.2.2.2.2.1 k (by omega)).2.1
    unfold lwS
    split <;> omega
/-- how much chance makes a mark, and what it is worth -/
def pU (s : Int → Int) (fit : Int) (j : Int) (n : Nat) : Int := sumI (fun k => if dg fit k = j then s (3 + k) else 0) n
def pT (s : Int → Int) (fit : Int) (j : Int) (n : Nat) : Int := sumI (fun k => if dg fit k = j then s (3 + k) * s (7 + k) else 0) n
theorem pU_in {n m : Nat} {s : Int → Int} (h : Okm n m s) (fit j : Int) {k : Nat} (hk : k ≤ n) : 0 ≤ pU s fit j k ∧ pU s fit j k ≤ 400 := by
  have a1 := sumI_ge (a := 0) (f := fun k => if dg fit k = j then s (3 + k) else 0) (n := k) (fun i hi => by
    have := (h.2.2.2.2.2.1 i (by omega)).1
    split <;> omega)
  have a2 := sumI_le (a := 100) (f := fun k => if dg fit k = j then s (3 + k) else 0) (n := k) (fun i hi => by
    have := (h.2.2.2.2.2.1 i (by omega)).1
    split <;> omega)
  have := h.1
  unfold pU
  omega
theorem pT_in {n m : Nat} {s : Int → Int} (h : Okm n m s) (fit j : Int) {k : Nat} (hk : k ≤ n) : 0 ≤ pT s fit j k ∧ pT s fit j k ≤ 399600 := by
  have a1 := sumI_ge (a := 0) (f := fun k => if dg fit k = j then s (3 + k) * s (7 + k) else 0) (n := k) (fun i hi => by
    have q := h.2.2.2.2.2.1 i (by omega)
    have := mul_in (a := s (3 + i)) (b := s (7 + i)) ⟨by omega, q.1.2⟩ q.2.1
    split <;> omega)
  have a2 := sumI_le (a := 99900) (f := fun k => if dg fit k = j then s (3 + k) * s (7 + k) else 0) (n := k) (fun i hi => by
    have q := h.2.2.2.2.2.1 i (by omega)
    have := mul_in (a := s (3 + i)) (b := s (7 + i)) ⟨by omega, q.1.2⟩ q.2.1
    split <;> omega)
  have := h.1
  unfold pT
  omega
/-- below the line: 1 where nobody makes it -/
def pyU (s : Int → Int) (fit j : Int) (n : Nat) : Int := if pU s fit j n = 0 then 1 else pU s fit j n
/-- the worth that is thought at a mark -/
def thW (s : Int → Int) (op : Int) (j : Int) (n : Nat) : Int := if s (35 + j) ≤ 0 then lwS s n else if op = 0 then s (7 + s (35 + j) - 1) else lwS s n
def pyT (s : Int → Int) (op fit j : Int) (n : Nat) : Int := (if pU s fit j n = 0 then thW s op j n else pT s fit j n) + s (15 + j) * pyU s fit j n
theorem pyU_in {n m : Nat} {s : Int → Int} (h : Okm n m s) (fit j : Int) : 1 ≤ pyU s fit j n ∧ pyU s fit j n ≤ 400 := by
  have := pU_in h fit j (Nat.le_refl n)
  unfold pyU
  split <;> omega
theorem thW_in {n m : Nat} {s : Int → Int} (h : Okm n m s) (op : Int) {j : Nat} (hj : j < m) : 0 ≤ thW s op j n ∧ thW s op j n ≤ 999 := by
  have h1 := lwS_in h n (Nat.le_refl n)
  have h2 := (h.2.2.2.2.2.2 j hj).2.1
  unfold thW
  split
  · exact h1
  · split
    · obtain ⟨i, hi, e⟩ : ∃ i : Nat, i < n ∧ s (35 + j) - 1 = i := ⟨(s (35 + j) - 1).toNat, by omega, by omega⟩
      have := (h.2.2.2.2.2.1 i hi).2.1
      rw [show 7 + s (35 + (j : Int)) - 1 = 7 + (i : Int) by omega]
      exact this
    · exact h1
theorem pyT_in {n m : Nat} {s : Int → Int} (h : Okm n m s) (op fit : Int) {j : Nat} (hj : j < m) : 0 ≤ pyT s op fit j n ∧ pyT s op fit j n ≤ 439200 := by
  have h1 := pT_in h fit j (Nat.le_refl n)
  have h2 := thW_in h op hj
  have h3 := pyU_in h fit j
  have h4 := mul_in (a := s (15 + j)) (b := pyU s fit j n) (h.2.2.2.2.2.2 j hj).1 ⟨by omega, h3.2⟩
  unfold pyT
  split <;> omega
/-- above and below of the model -/
def ab (σ : Mem) (x y : Int) : Mem := fun a i => if a = 120 ∧ i = 21 then x else if a = 120 ∧ i = 22 then y else σ a i
theorem ab_21 (σ : Mem) (x y : Int) : ab σ x y 120 21 = x := by simp [ab]
theorem ab_22 (σ : Mem) (x y : Int) : ab σ x y 120 22 = y := by simp [ab]
theorem ab_ne {σ : Mem} {x y a : Int} (h : a ≠ 120) : ab σ x y a = σ a := by
  funext i
  simp [ab, h]
theorem ab_ni {σ : Mem} {x y i : Int} (h : i ≠ 21 ∧ i ≠ 22) : ab σ x y 120 i = σ 120 i := by simp [ab, h]
theorem ab_ab (σ : Mem) (x y u v : Int) : ab (ab σ x y) u v = ab σ u v := by
  funext a i
  unfold ab
  by_cases h1 : a = 120 ∧ i = 21
  · simp [h1]
  · by_cases h2 : a = 120 ∧ i = 22
    · simp [h2]
    · simp [h1, h2]
theorem ab_u1 (σ : Mem) (x y u : Int) : ups (ab σ x y) 120 21 u = ab σ u y := by
  funext a i
  unfold ups ab
  by_cases h1 : a = 120 ∧ i = 21
  · simp [h1]
  · simp [h1]
theorem ab_u2 (σ : Mem) (x y u : Int) : ups (ab σ x y) 120 22 u = ab σ x u := by
  funext a i
  unfold ups ab
  by_cases h1 : a = 120 ∧ i = 21
  · simp [h1]
  · by_cases h2 : a = 120 ∧ i = 22
    · simp [h2]
    · simp [h1, h2]
theorem ab_of (σ : Mem) : ab σ (σ 120 21) (σ 120 22) = σ := by
  funext a i
  unfold ab
  split
  · rename_i h
    rw [h.1, h.2]
  · split
    · rename_i h
      rw [h.1, h.2]
    · rfl
theorem ab_1 (σ : Mem) (u : Int) : ups σ 120 21 u = ab σ u (σ 120 22) := by
  have := ab_u1 σ (σ 120 21) (σ 120 22) u
  rwa [ab_of] at this
theorem ab_s (σ : Mem) (x y : Int) : ab σ x y 121 = σ 121 := ab_ne (by decide)
theorem m_leastWorth {σ : Mem} {n m : Nat} (h : Okm n m (σ 121)) : f_X12_leastWorth σ = some (lwS (σ 121) n, σ) := by
  have hn := h.1
  have h0 := h.2.2.1
  have hl : itr (fun z => f_X12_leastWorth_10 z.1 z.2.1 z.2.2) FU (σ 121 7, 1, σ) = some (lwS (σ 121) n, σ) := by
    have e1 : σ 121 7 = lwS (σ 121) 1 := by
      have q := (h.2.2.2.2.2.1 0 (by omega)).2.1
      have e : σ 121 (7 + ((0 : Nat) : Int)) = σ 121 7 := rfl
      rw [e] at q
      show σ 121 7 = if σ 121 (7 + ((0 : Nat) : Int)) < 999 then σ 121 (7 + ((0 : Nat) : Int)) else 999
      rw [e]
      split <;> omega
    rw [e1]
    refine itr_for (fun k => (lwS (σ 121) k, (k : Int), σ)) n (lwS (σ 121) n, σ) (fun k hk => ?_) ?_ FU 1 (by omega) (FU_lt (by omega))
    · have a1 := lwS_in h k (by omega)
      have a2 := (h.2.2.2.2.2.1 k hk).2.1
      show f_X12_leastWorth_10 (lwS (σ 121) k) (k : Int) σ = _
      unfold f_X12_leastWorth_10
      rw [h0, s32_of (z := (n : Int)) (by omega) (by omega), s32_of (z := (k : Int)) (by omega) (by omega), if_neg (by omega), s32_of (z := 7 + (k : Int)) (by omega) (by omega), if_pos (by omega), s32_of (z := lwS (σ 121) k) (by omega) (by omega), s32_of (z := σ 121 (7 + (k : Int))) (by omega) (by omega)]
      show _ = some (Sum.inl ((if σ 121 (7 + (k : Int)) < lwS (σ 121) k then σ 121 (7 + (k : Int)) else lwS (σ 121) k), ((k + 1 : Nat) : Int), σ))
      split
      · rw [if_neg (by omega)]
        rfl
      · rw [if_pos (by omega)]
        rfl
    · show f_X12_leastWorth_10 (lwS (σ 121) n) (n : Int) σ = _
      unfold f_X12_leastWorth_10
      rw [h0, if_pos (Int.le_refl _)]
  unfold f_X12_leastWorth
  rw [hl, lb_some]
theorem m_findPay {σ : Mem} {n m : Nat} (h : Okm n m (σ 121)) {fit : Int} (hf0 : 0 ≤ fit) (hf1 : fit ≤ 2147483647) {j : Nat} (hj : j < m) : f_X12_findPay fit j σ = some (0, ab σ (pyT (σ 121) (s32 (σ 120 18)) fit j n) (pyU (σ 121) fit j n)) := by
  have hn := h.1
  have hm := h.2.1
  have h0 := h.2.2.1
  have hl : itr (fun z => f_X12_findPay_12 fit (j : Int) z.1 z.2) FU (0, ab σ 0 0) = some (ab σ (pT (σ 121) fit j n) (pU (σ 121) fit j n)) := by
    refine itr_for0 (fun k => ((k : Int), ab σ (pT (σ 121) fit j k) (pU (σ 121) fit j k))) n _ (by omega) (fun k hk => ?_) ?_
    · have a3 := dg_in fit k
      have q := h.2.2.2.2.2.1 k hk
      show f_X12_findPay_12 fit (j : Int) (k : Int) (ab σ (pT (σ 121) fit j k) (pU (σ 121) fit j k)) = _
      unfold f_X12_findPay_12
      rw [ab_s, h0, s32_of (z := (n : Int)) (by omega) (by omega), s32_of (z := (k : Int)) (by omega) (by omega), if_neg (by omega), m_made hf0 hf1 (by omega), ob_some, s32_of (z := dg fit k) (by omega) (by omega), s32_of (z := (j : Int)) (by omega) (by omega)]
      show _ = some (Sum.inl (((k + 1 : Nat) : Int), ab σ (pT (σ 121) fit j k + (if dg fit k = j then σ 121 (3 + k) * σ 121 (7 + k) else 0)) (pU (σ 121) fit j k + (if dg fit k = j then σ 121 (3 + k) else 0))))
      by_cases e : dg fit k = j
      · simp only [if_pos e]
        rw [s32_of (z := 3 + (k : Int)) (by omega) (by omega), s32_of (z := 7 + (k : Int)) (by omega) (by omega), if_pos (by omega), if_pos (by omega)]
        simp only [stp, ab_s, ab_21, ab_22, ab_u1, ab_u2]
        rw [s32_of (z := σ 121 (3 + (k : Int))) (by omega) (by omega), s32_of (z := σ 121 (7 + (k : Int))) (by omega) (by omega)]
        rfl
      · simp only [if_neg e, Int.add_zero]
        rfl
    · show f_X12_findPay_12 fit (j : Int) (n : Int) (ab σ (pT (σ 121) fit j n) (pU (σ 121) fit j n)) = _
      unfold f_X12_findPay_12
      rw [ab_s, h0, if_pos (Int.le_refl _)]
  have b1 := pU_in h fit j (Nat.le_refl n)
  have b2 := (h.2.2.2.2.2.2 j hj).1
  have b3 := (h.2.2.2.2.2.2 j hj).2.1
  have b4 := lwS_in h n (Nat.le_refl n)
  unfold f_X12_findPay
  simp only [stp, ab_1 σ 0, ab_u2]
  rw [hl, lb_some]
  simp only [ab_22, ab_21, ab_u1, ab_u2, ab_s]
  rw [s64_of (z := pU (σ 121) fit j n) (by omega) (by omega), s32_of (z := 35 + (j : Int)) (by omega) (by omega), s32_of (z := 15 + (j : Int)) (by omega) (by omega), s32_of (z := σ 121 (15 + (j : Int))) (by omega) (by omega), s32_of (z := σ 121 (35 + (j : Int))) (by omega) (by omega)]
  unfold pyT pyU thW
  by_cases e : pU (σ 121) fit j n = 0
  · simp only [if_pos e]
    rw [if_pos (by omega)]
    have hlw : ∀ x y : Int, f_X12_leastWorth (ab σ x y) = some (lwS (σ 121) n, ab σ x y) := fun x y => by
      have := m_leastWorth (σ := ab σ x y) (n := n) (m := m) (by rw [ab_s]; exact h)
      rwa [ab_s] at this
    by_cases e2 : σ 121 (35 + j) ≤ 0
    · simp only [if_pos e2]
      rw [hlw, ob_some]
      simp only [ab_22, ab_21, ab_u1, ab_u2, ab_s]
      rw [if_pos (by omega), s32_of (z := lwS (σ 121) n) (by omega) (by omega), s32_of (z := σ 121 (15 + (j : Int))) (by omega) (by omega)]
    · simp only [if_neg e2]
      rw [show ab σ (pT (σ 121) fit j n) 1 120 18 = σ 120 18 from ab_ni (by decide)]
      by_cases e3 : s32 (σ 120 18) = 0
      · simp only [if_pos e3]
        obtain ⟨i, hi, ei⟩ : ∃ i : Nat, i < n ∧ σ 121 (35 + j) - 1 = i := ⟨(σ 121 (35 + j) - 1).toNat, by omega, by omega⟩
        have q := (h.2.2.2.2.2.1 i hi).2.1
        have e7 : 7 + σ 121 (35 + (j : Int)) - 1 = 7 + (i : Int) := by omega
        rw [e7, s32_of (z := 7 + (i : Int)) (by omega) (by omega), if_pos (by omega), if_pos (by omega), s32_of (z := σ 121 (7 + (i : Int))) (by omega) (by omega)]
      · simp only [if_neg e3]
        rw [hlw, ob_some]
        simp only [ab_22, ab_21, ab_u1, ab_u2, ab_s]
        rw [if_pos (by omega), s32_of (z := lwS (σ 121) n) (by omega) (by omega), s32_of (z := σ 121 (15 + (j : Int))) (by omega) (by omega)]
  · simp only [if_neg e]
    rw [if_pos (by omega)]
