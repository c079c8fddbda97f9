/-! PURE 4: what is got; who would rather -/
/-- hundredths known, summed over years -/
def shS (r : Int) : Nat → Int
  | 0 => 0
  | y + 1 => shS r y + (if r * (y : Int) ≤ 100 then r * (y : Int) else 100)
theorem shS_in {r : Int} (h : 0 ≤ r ∧ r ≤ 100) : ∀ y : Nat, 0 ≤ shS r y ∧ shS r y ≤ 100 * (y : Int)
  | 0 => by simp [shS]
  | y + 1 => by
    have h1 := shS_in h y
    have h2 := Int.mul_nonneg h.1 (Int.natCast_nonneg y)
    show 0 ≤ shS r y + (if r * (y : Int) ≤ 100 then r * (y : Int) else 100) ∧ shS r y + (if r * (y : Int) ≤ 100 then r * (y : Int) else 100) ≤ _
    split <;> omega
/-- above and below of what sort k gets at a (4: away); W the scale, S the years, K what is known -/
def gtp (W S K : Int) (s : Int → Int) (op fit : Int) (k : Nat) (a : Int) (n : Nat) : Int :=
  if a = 4 then S * s (11 + k) else (W * S - K) * pyT s op fit a n + K * (s (7 + k) + s (15 + a)) * pyU s fit a n - s (19 + 4 * a + k) * (pyU s fit a n * W)
def gun (W : Int) (s : Int → Int) (fit a : Int) (n : Nat) : Int := if a = 4 then 1 else pyU s fit a n * W
/-- the mode of counting: at once, or over years -/
def Md (σ : Mem) (W S K : Int) : Prop := (σ 120 19 = 1 ∧ σ 120 20 = 0 ∧ W = 1 ∧ S = 1 ∧ K = 0) ∨ ((1 < σ 120 19 ∧ σ 120 19 ≤ 12) ∧ σ 120 20 = 1 ∧ W = 100 ∧ S = σ 120 19 ∧ K = shS (σ 121 2) (σ 120 19).toNat)
/-- bounds of the three -/
def WSK (W S K : Int) : Prop := (1 ≤ W ∧ W ≤ 100) ∧ (1 ≤ S ∧ S ≤ 12) ∧ (0 ≤ K ∧ K ≤ W * S)
theorem Md.wsk {σ : Mem} {W S K : Int} (h : Md σ W S K) (hr : 0 ≤ σ 121 2 ∧ σ 121 2 ≤ 100) : WSK W S K := by
  rcases h with ⟨-, -, rfl, rfl, rfl⟩ | ⟨h1, -, rfl, h2, h3⟩
  · refine ⟨by omega, by omega, by omega⟩
  · have := shS_in hr (σ 120 19).toNat
    refine ⟨by omega, by omega, by omega⟩
theorem gun_in {n m : Nat} {s : Int → Int} (h : Okm n m s) {W S K : Int} (hw : WSK W S K) (fit a : Int) : 1 ≤ gun W s fit a n ∧ gun W s fit a n ≤ 40000 := by
  have h1 := pyU_in h fit a
  have h2 := mul_in (a := pyU s fit a n) (b := W) ⟨by omega, h1.2⟩ ⟨by have := hw.1.1; omega, hw.1.2⟩
  unfold gun
  split
  · omega
  · refine ⟨?_, h2.2⟩
    have h3 : 1 * 1 ≤ pyU s fit a n * W := Int.mul_le_mul h1.1 hw.1.1 (by omega) (by omega)
    omega
theorem gtp_in {n m : Nat} {s : Int → Int} (h : Okm n m s) {W S K : Int} (hw : WSK W S K) (op fit : Int) {k : Nat} (hk : k < n) {a : Int} (ha : a = 4 ∨ (0 ≤ a ∧ a < (m : Int))) : -100000000 ≤ gtp W S K s op fit k a n ∧ gtp W S K s op fit k a n ≤ 2000000000 := by
  have q := h.2.2.2.2.2.1 k hk
  have h0 := mul_in (a := W) (b := S) ⟨by have := hw.1.1; omega, hw.1.2⟩ ⟨by have := hw.2.1.1; omega, hw.2.1.2⟩
  unfold gtp
  split
  · have := mul_in (a := S) (b := s (11 + k)) ⟨by have := hw.2.1.1; omega, hw.2.1.2⟩ q.2.2
    omega
  · obtain ⟨j, hj, rfl⟩ : ∃ j : Nat, j < m ∧ a = j := ⟨a.toNat, by omega, by omega⟩
    have q2 := h.2.2.2.2.2.2 j hj
    have h1 := pyT_in h op fit hj
    have h2 := pyU_in h fit j
    have h3 := q2.2.2 k hk
    have h4 := mul_in (a := W * S - K) (b := pyT s op fit j n) (A := 1200) ⟨by have := hw.2.2.2; omega, by have := hw.2.2.1; omega⟩ h1
    have h5 := mul_in (a := K) (b := s (7 + k) + s (15 + j)) (A := 1200) (B := 1098) ⟨hw.2.2.1, by have := hw.2.2.2; omega⟩ ⟨by omega, by omega⟩
    have h6 := mul_in (a := K * (s (7 + k) + s (15 + j))) (b := pyU s fit j n) h5 ⟨by omega, h2.2⟩
    have h7 := mul_in (a := pyU s fit j n) (b := W) ⟨by omega, h2.2⟩ ⟨by have := hw.1.1; omega, hw.1.2⟩
    have h8 := mul_in (a := s (19 + 4 * (j : Int) + k)) (b := pyU s fit j n * W) h3 h7
    omega
theorem m_findGets {σ : Mem} {n m : Nat} (h : Okm n m (σ 121)) {W S K : Int} (hm : Md σ W S K) {fit : Int} (hf0 : 0 ≤ fit) (hf1 : fit ≤ 2147483647) {k : Nat} (hk : k < n) {a : Int} (ha : a = 4 ∨ (0 ≤ a ∧ a < (m : Int))) :
    f_X12_findGets fit k a σ = some (0, ab σ (gtp W S K (σ 121) (s32 (σ 120 18)) fit k a n) (gun W (σ 121) fit a n)) := by
  have hn := h.1
  have q := h.2.2.2.2.2.1 k hk
  have h19 : 1 ≤ σ 120 19 ∧ σ 120 19 ≤ 12 := by
    rcases hm with ⟨h1, -⟩ | ⟨h1, -⟩ <;> omega
  unfold f_X12_findGets
  rcases ha with rfl | ha
  · rw [if_pos (by decide), s32_of (z := 11 + (k : Int)) (by omega) (by omega), if_pos (by omega)]
    simp only [stp]
    rw [s32_of (z := σ 120 19) (by omega) (by omega), s32_of (z := σ 121 (11 + (k : Int))) (by omega) (by omega), ab_1, ab_u2]
    have hS : S = σ 120 19 := by
      rcases hm with ⟨h1, -, -, h2, -⟩ | ⟨-, -, -, h2, -⟩ <;> omega
    unfold gtp gun
    rw [if_pos rfl, if_pos rfl, hS]
  · obtain ⟨j, hj, rfl⟩ : ∃ j : Nat, j < m ∧ a = j := ⟨a.toNat, by omega, by omega⟩
    have q2 := h.2.2.2.2.2.2 j hj
    have q3 := q2.2.2 k hk
    have hm2 := h.2.1
    have t3 : 0 ≤ 7 + (k : Int) ∧ 7 + (k : Int) < 39 := by omega
    have t4 : 0 ≤ 15 + (j : Int) ∧ 15 + (j : Int) < 39 := by omega
    have t5 : 0 ≤ 19 + 4 * (j : Int) + (k : Int) ∧ 19 + 4 * (j : Int) + (k : Int) < 39 := by omega
    rw [s32_of (z := (j : Int)) (by omega) (by omega), if_neg (by omega), m_findPay h hf0 hf1 hj, ob_some]
    simp only [stp, ab_s, ab_21, ab_22, ab_u1, ab_u2]
    rw [show ab σ (pyT (σ 121) (s32 (σ 120 18)) fit j n) (pyU (σ 121) fit j n) 120 19 = σ 120 19 from ab_ni (by decide), show ab σ (pyT (σ 121) (s32 (σ 120 18)) fit j n) (pyU (σ 121) fit j n) 120 20 = σ 120 20 from ab_ni (by decide), s32_of (z := σ 120 19) (by omega) (by omega)]
    have w1 : -2147483648 ≤ 19 + 4 * (j : Int) + (k : Int) ∧ 19 + 4 * (j : Int) + (k : Int) ≤ 2147483647 := by omega
    have w2 : -2147483648 ≤ σ 121 (19 + 4 * (j : Int) + (k : Int)) ∧ σ 121 (19 + 4 * (j : Int) + (k : Int)) ≤ 2147483647 := by omega
    unfold gtp gun
    rw [if_neg (show ¬ ((j : Int) = 4) by omega), if_neg (show ¬ ((j : Int) = 4) by omega)]
    rcases hm with ⟨h1, h2, rfl, rfl, rfl⟩ | ⟨h1, h2, rfl, rfl, rfl⟩
    · rw [h1, h2, if_neg (by decide), if_pos (by decide), s32_of w1.1 w1.2, if_pos t5, s32_of w2.1 w2.2]
      simp
    · rw [if_pos (by omega)]
      have hr := h.2.2.2.2.1
      have hl : ∀ x y : Int, itr (fun z => f_X12_findGets_58 k j z.1 z.2.1 z.2.2) FU (0, 0, ab σ x y) = some (shS (σ 121 2) (σ 120 19).toNat, ab σ x y) := fun x y => by
        refine itr_for0 (fun i => (shS (σ 121 2) i, (i : Int), ab σ x y)) (σ 120 19).toNat _ (by omega) (fun i hi => ?_) ?_
        · have b1 := shS_in hr i
          have b2 := mul_in (a := σ 121 2) (b := (i : Int)) (B := 12) hr ⟨by omega, by omega⟩
          show f_X12_findGets_58 k j (shS (σ 121 2) i) (i : Int) (ab σ x y) = _
          unfold f_X12_findGets_58
          rw [show ab σ x y 120 19 = σ 120 19 from ab_ni (by decide), ab_s, s32_of (z := σ 120 19) (by omega) (by omega), s32_of (z := (i : Int)) (by omega) (by omega), if_neg (by omega), s32_of (z := σ 121 2 * (i : Int)) (by omega) (by omega)]
          show _ = some (Sum.inl (shS (σ 121 2) i + (if σ 121 2 * (i : Int) ≤ 100 then σ 121 2 * (i : Int) else 100), ((i + 1 : Nat) : Int), ab σ x y))
          split <;> rfl
        · show f_X12_findGets_58 k j (shS (σ 121 2) (σ 120 19).toNat) (((σ 120 19).toNat : Nat) : Int) (ab σ x y) = _
          unfold f_X12_findGets_58
          rw [show ab σ x y 120 19 = σ 120 19 from ab_ni (by decide), s32_of (z := σ 120 19) (by omega) (by omega), s32_of (z := (((σ 120 19).toNat : Nat) : Int)) (by omega) (by omega), if_pos (by omega)]
      rw [hl, lb_some]
      have b1 := shS_in hr (σ 120 19).toNat
      simp only [ab_s, ab_21, ab_22, ab_u1, ab_u2]
      rw [show ab σ (pyT (σ 121) (s32 (σ 120 18)) fit j n) (pyU (σ 121) fit j n) 120 19 = σ 120 19 from ab_ni (by decide), s32_of (z := σ 120 19) (by omega) (by omega), s32_of (z := 7 + (k : Int)) (by omega) (by omega), s32_of (z := 15 + (j : Int)) (by omega) (by omega), if_pos t3, if_pos t4, s32_of (z := shS (σ 121 2) (σ 120 19).toNat) (by omega) (by omega), s32_of (z := σ 121 (7 + (k : Int)) + σ 121 (15 + (j : Int))) (by omega) (by omega), s32_of w1.1 w1.2, if_pos t5, s32_of w2.1 w2.2]
