/-! PURE 2: small methods of both sides -/
def bi (p : Prop) [Decidable p] : Int := if p then 1 else 0
theorem bi_in (p : Prop) [Decidable p] : 0 ≤ bi p ∧ bi p ≤ 1 := by
  unfold bi
  split <;> omega
theorem s32_bi (p : Prop) [Decidable p] : s32 (bi p) = bi p := by
  have := bi_in p
  exact s32_of (by omega) (by omega)
theorem bi0 (p : Prop) [Decidable p] : (s32 (bi p) = 0) = ¬ p := by
  rw [s32_bi]
  unfold bi
  split <;> simp [*]
theorem bi01 (p : Prop) [Decidable p] : (s32 (bi p) = 0 ∨ s32 (bi p) = 1) = True := by
  have := bi_in p
  rw [s32_bi]
  simp only [eq_iff_iff, iff_true]
  omega
theorem nd_f {p : Prop} [Decidable p] (h : (!decide p) = false) : p := by
  by_cases q : p
  · exact q
  · rw [decide_eq_false q] at h
    cases h
theorem nd_t {p : Prop} [Decidable p] (h : (!decide p) = true) : ¬ p := by
  by_cases q : p
  · rw [decide_eq_true q] at h
    cases h
  · exact q
theorem dd_f {p : Prop} [Decidable p] (h : decide p = false) : ¬ p := of_decide_eq_false h
theorem dd_t {p : Prop} [Decidable p] (h : decide p = true) : p := of_decide_eq_true h
theorem ob_some {β : Type} (r : Int) (σ : Mem) (f : Int → Mem → Option β) : ob (some (r, σ)) f = f r σ := rfl
theorem lb_some {α β : Type} (q : α) (f : α → Option β) : lb (some q) f = f q := rfl
theorem ite_t {α : Sort _} {c : Prop} [Decidable c] {a b : α} (h : c) : (if c then a else b) = a := if_pos h
theorem ite_f {α : Sort _} {c : Prop} [Decidable c] {a b : α} (h : ¬ c) : (if c then a else b) = b := if_neg h
theorem bi_t {p : Prop} [Decidable p] (h : p) : bi p = 1 := if_pos h
theorem bi_f {p : Prop} [Decidable p] (h : ¬ p) : bi p = 0 := if_neg h
theorem m_isIn {a b c : Int} {σ : Mem} (ha : s64 a = a) (hb : s64 b = b) (hc : s64 c = c) : f_X12_isIn a b c σ = some (bi (b ≤ a ∧ a ≤ c), σ) := by
  unfold f_X12_isIn bi
  rw [ha, hb, hc]
  split
  · rw [if_neg (by omega)]
  · split
    · rw [if_neg (by omega)]
    · rw [if_pos (by omega)]
theorem m_isInT {a b c : Int} {σ : Mem} (ha : -2147483648 ≤ a ∧ a ≤ 2147483647) (hb : -2147483648 ≤ b ∧ b ≤ 2147483647) (hc : -2147483648 ≤ c ∧ c ≤ 2147483647) : f_X12_isIn a b c σ = some (bi (b ≤ a ∧ a ≤ c), σ) :=
  m_isIn (s64_of (by omega) (by omega)) (s64_of (by omega) (by omega)) (s64_of (by omega) (by omega))
theorem m_isSort {v : Int} {σ : Mem} (hv : s32 v = v) (h : 0 ≤ σ 121 0 ∧ σ 121 0 ≤ 4) : f_X12_isSort v σ = some (bi (0 ≤ v ∧ v < σ 121 0), σ) := by
  have h1 := s32_lo v
  have h2 := s32_hi v
  unfold f_X12_isSort
  rw [hv] at h1 h2 ⊢
  rw [s32_of (z := σ 121 0 - 1) (by omega) (by omega), m_isInT ⟨h1, h2⟩ (by omega) (by omega), ob_some, if_pos (by rw [bi01]; trivial)]
  simp only [Int.le_sub_one_iff]
theorem m_isMark {v : Int} {σ : Mem} (hv : s32 v = v) (h : 0 ≤ σ 121 1 ∧ σ 121 1 ≤ 4) : f_X12_isMark v σ = some (bi (0 ≤ v ∧ v < σ 121 1), σ) := by
  have h1 := s32_lo v
  have h2 := s32_hi v
  unfold f_X12_isMark
  rw [hv] at h1 h2 ⊢
  rw [s32_of (z := σ 121 1 - 1) (by omega) (by omega), m_isInT ⟨h1, h2⟩ (by omega) (by omega), ob_some, if_pos (by rw [bi01]; trivial)]
  simp only [Int.le_sub_one_iff]
theorem m_isShelf {v : Int} {σ : Mem} (hv : s32 v = v) : f_X12_isShelf v σ = some (bi (0 ≤ v ∧ v ≤ 7), σ) := by
  have h1 := s32_lo v
  have h2 := s32_hi v
  unfold f_X12_isShelf
  rw [hv] at h1 h2 ⊢
  rw [m_isInT ⟨h1, h2⟩ (by omega) (by omega), ob_some, if_pos (by rw [bi01]; trivial)]
theorem m_isOpen {σ : Mem} (h : 0 ≤ σ 121 0 ∧ σ 121 0 ≤ 4) : f_X12_isOpen σ = some (bi (0 < σ 121 0), σ) := by
  unfold f_X12_isOpen bi
  rw [s32_of (by omega) (by omega)]
  split
  · rw [if_neg (by omega)]
  · rw [if_pos (by omega)]
theorem m_made {fit : Int} {σ : Mem} {k : Nat} (h0 : 0 ≤ fit) (h1 : fit ≤ 2147483647) (hk : k ≤ 4) : f_X12_made fit k σ = some (dg fit k, σ) := by
  have hl : itr (fun z => f_X12_made_4 (k : Int) z.1 z.2.1 z.2.2) FU (fit, 0, σ) = some (dv fit k, σ) := by
    refine itr_for0 (fun j => (dv fit j, (j : Int), σ)) k (dv fit k, σ) (by omega) (fun j hj => ?_) ?_
    · have a1 := dv_pos h0 j
      have a2 := dv_le h0 j
      show f_X12_made_4 (k : Int) (dv fit j) (j : Int) σ = _
      unfold f_X12_made_4
      rw [s32_of (z := (k : Int)) (by omega) (by omega), s32_of (z := (j : Int)) (by omega) (by omega), s32_of (z := dv fit j) (by omega) (by omega), if_neg (by omega), td5 a1]
      rfl
    · show f_X12_made_4 (k : Int) (dv fit k) (k : Int) σ = _
      unfold f_X12_made_4
      rw [if_pos (Int.le_refl _)]
  have a1 := dv_pos h0 k
  have a2 := dv_le h0 k
  unfold f_X12_made
  rw [hl, lb_some]
  show some (((s32 (dv fit k)).tmod 5), σ) = _
  rw [s32_of (z := dv fit k) (by omega) (by omega), tm5 a1]
  rfl
theorem m_fits {σ : Mem} {n : Nat} (hn : σ 121 0 = n) (h4 : n ≤ 4) : f_X12_fits σ = some (p5 n, σ) := by
  have hl : itr (fun z => f_X12_fits_4 z.1 z.2.1 z.2.2) FU (1, 0, σ) = some (p5 n, σ) := by
    refine itr_for0 (fun j => (p5 j, (j : Int), σ)) n (p5 n, σ) (by omega) (fun j hj => ?_) ?_
    · show f_X12_fits_4 (p5 j) (j : Int) σ = _
      unfold f_X12_fits_4
      rw [hn, s32_of (z := (n : Int)) (by omega) (by omega), s32_of (z := (j : Int)) (by omega) (by omega), if_neg (by omega)]
      rfl
    · show f_X12_fits_4 (p5 n) (n : Int) σ = _
      unfold f_X12_fits_4
      rw [hn, if_pos (Int.le_refl _)]
  unfold f_X12_fits
  rw [hl, lb_some]
theorem c_hasSort' {t v : Int} {σ : Mem} (hv : s32 v = v) (h : 0 ≤ σ t 0 ∧ σ t 0 ≤ 4) : f_X4_hasSort t v σ = some (bi (0 ≤ v ∧ v < σ t 0), σ) := by
  unfold f_X4_hasSort bi
  rw [hv, s32_of (z := σ t 0) (by omega) (by omega)]
  split
  · rw [if_neg (by omega)]
  · split
    · rw [if_neg (by omega)]
    · rw [if_pos (by omega)]
theorem c_hasMark' {t v : Int} {σ : Mem} (hv : s32 v = v) (h : 0 ≤ σ t 1 ∧ σ t 1 ≤ 4) : f_X4_hasMark t v σ = some (bi (0 ≤ v ∧ v < σ t 1), σ) := by
  unfold f_X4_hasMark bi
  rw [hv, s32_of (z := σ t 1) (by omega) (by omega)]
  split
  · rw [if_neg (by omega)]
  · split
    · rw [if_neg (by omega)]
    · rw [if_pos (by omega)]
theorem c_fitNumbers' {t : Int} {σ : Mem} {n : Nat} (hn : σ t 0 = n) (h4 : n ≤ 4) : f_X4_fitNumbers t σ = some (p5 n, σ) := by
  have hl : itr (fun z => f_X4_fitNumbers_4 t z.1 z.2.1 z.2.2) FU (1, 0, σ) = some (p5 n, σ) := by
    refine itr_for0 (fun j => (p5 j, (j : Int), σ)) n (p5 n, σ) (by omega) (fun j hj => ?_) ?_
    · show f_X4_fitNumbers_4 t (p5 j) (j : Int) σ = _
      unfold f_X4_fitNumbers_4
      rw [hn, s32_of (z := (n : Int)) (by omega) (by omega), s32_of (z := (j : Int)) (by omega) (by omega), if_neg (by omega)]
      rfl
    · show f_X4_fitNumbers_4 t (p5 n) (n : Int) σ = _
      unfold f_X4_fitNumbers_4
      rw [hn, if_pos (Int.le_refl _)]
  unfold f_X4_fitNumbers
  rw [hl, lb_some]
theorem c_isShelf' {v : Int} {σ : Mem} (hv : s32 v = v) : f_X11_isShelf v σ = some (bi (0 ≤ v ∧ v ≤ 7), σ) := by
  unfold f_X11_isShelf bi
  rw [hv]
  split
  · rw [if_neg (by omega)]
  · split
    · rw [if_neg (by omega)]
    · rw [if_pos (by omega)]
theorem c_isBit' {v : Int} {σ : Mem} (hv : s32 v = v) : f_X11_isBit v σ = some (bi (v = 0 ∨ v = 1), σ) := by
  unfold f_X11_isBit bi
  rw [hv]
  split
  · rw [if_pos (by omega)]
  · split
    · rw [if_pos (by omega)]
    · rw [if_neg (by omega)]
theorem c_isSpan' {v : Int} {σ : Mem} (hv : s32 v = v) : f_X11_isSpan v σ = some (bi (1 ≤ v ∧ v ≤ 12), σ) := by
  unfold f_X11_isSpan bi
  rw [hv]
  repeat' split
  all_goals first | rfl | (exfalso; omega)
/-- fits: a number whose digits are marks, or away -/
abbrev isF (n m : Nat) (fit : Int) : Prop := 0 ≤ fit ∧ fit < p5 n ∧ ∀ k, k < n → dg fit k = 4 ∨ dg fit k < (m : Int)
/-- bit j of a small number -/
def bt (x j : Int) : Int := and32 (shr32 x j) 1
theorem nat_lt_cases {x : Int} {N : Nat} (h : 0 ≤ x ∧ x < N) : ∃ k : Nat, k < N ∧ x = k := ⟨x.toNat, by omega, by omega⟩
theorem bt_in' : ∀ x : Nat, x < 16 → ∀ j : Nat, j < 5 → bt x j = 0 ∨ bt x j = 1 := by decide +kernel
theorem bt_in {x j : Int} (h : 0 ≤ x ∧ x < 16) (hj : 0 ≤ j ∧ j < 5) : bt x j = 0 ∨ bt x j = 1 := by
  obtain ⟨a, ha, rfl⟩ := nat_lt_cases h
  obtain ⟨b, hb, rfl⟩ := nat_lt_cases hj
  exact bt_in' a ha b hb
theorem bt_set' : ∀ x : Nat, x < 16 → ∀ p : Nat, p < 4 → ∀ j : Nat, j < 4 → bt (or32 x (shl32 1 p)) j = (if p = j then 1 else bt x j) ∧ 0 ≤ or32 x (shl32 1 p) ∧ or32 x (shl32 1 p) < 16 := by decide +kernel
theorem bt_set {x p j : Int} (h : 0 ≤ x ∧ x < 16) (hp : 0 ≤ p ∧ p < 4) (hj : 0 ≤ j ∧ j < 4) : bt (or32 x (shl32 1 p)) j = (if p = j then 1 else bt x j) ∧ 0 ≤ or32 x (shl32 1 p) ∧ or32 x (shl32 1 p) < 16 := by
  obtain ⟨a, ha, rfl⟩ := nat_lt_cases h
  obtain ⟨b, hb, rfl⟩ := nat_lt_cases hp
  obtain ⟨c, hc, rfl⟩ := nat_lt_cases hj
  have := bt_set' a ha b hb c hc
  simp only [Int.ofNat_inj] at this ⊢
  exact this
theorem and_bt' : ∀ x : Nat, x < 16 → ∀ y : Nat, y < 16 → (and32 x y = 0 ↔ ∀ j : Nat, j < 4 → bt x j = 0 ∨ bt y j = 0) := by decide +kernel
theorem and_bt {x y : Int} (h : 0 ≤ x ∧ x < 16) (hy : 0 ≤ y ∧ y < 16) : and32 x y = 0 ↔ ∀ j : Nat, j < 4 → bt x j = 0 ∨ bt y j = 0 := by
  obtain ⟨a, ha, rfl⟩ := nat_lt_cases h
  obtain ⟨b, hb, rfl⟩ := nat_lt_cases hy
  exact and_bt' a ha b hb
theorem s32_and (x y : Int) : s32 (and32 x y) = and32 x y := by
  unfold and32
  exact s32_of (Int32.le_toInt _) (by have := Int32.toInt_lt (iI x &&& iI y); omega)
theorem s32_or (x y : Int) : s32 (or32 x y) = or32 x y := by
  unfold or32
  exact s32_of (Int32.le_toInt _) (by have := Int32.toInt_lt (iI x ||| iI y); omega)
theorem c_hasFit' {t v : Int} {σ : Mem} {n m : Nat} (hn : σ t 0 = n) (hm : σ t 1 = m) (h4 : n ≤ 4) (m4 : m ≤ 4) (hv : s32 v = v) : f_X4_hasFit t v σ = some (bi (isF n m v), σ) := by
  have v1 := s32_lo v
  have v2 := s32_hi v
  unfold f_X4_hasFit
  rw [hv] at v1 v2 ⊢
  by_cases h0 : 0 ≤ v
  · rw [if_pos h0]
    have hl : itr (fun z => f_X4_hasFit_10 t z.1 z.2.1 z.2.2) FU (v, 0, σ) = some (match fst? (fun j => !decide (dg v j = 4 ∨ dg v j < (m : Int))) 0 n with | some j => .inl (0, σ) | none => .inr (dv v n, σ)) := by
      refine itr_fst0 (fun j => !decide (dg v j = 4 ∨ dg v j < (m : Int))) (fun j => (dv v j, (j : Int), σ)) n (fun _ => Sum.inl (0, σ)) (Sum.inr (dv v n, σ)) (by omega) (fun j hj hp => ?_) (fun j hj hp => ?_) ?_
      · have a1 := dv_pos h0 j
        have a2 := dv_le h0 j
        have a3 := dg_in v j
        have hp2 : dg v j = 4 ∨ dg v j < (m : Int) := nd_f hp
        show f_X4_hasFit_10 t (dv v j) (j : Int) σ = _
        unfold f_X4_hasFit_10
        rw [hn, hm, s32_of (z := (n : Int)) (by omega) (by omega), s32_of (z := (j : Int)) (by omega) (by omega), s32_of (z := dv v j) (by omega) (by omega), s32_of (z := (m : Int)) (by omega) (by omega), if_neg (by omega), tm5 a1, td5 a1]
        simp only [vl, show dv v j % 5 = dg v j from rfl]
        rw [s32_of (z := dg v j) (by omega) (by omega)]
        split
        · rfl
        · rw [if_pos (by omega)]
          rfl
      · have a1 := dv_pos h0 j
        have a2 := dv_le h0 j
        have a3 := dg_in v j
        have hp2 : ¬ (dg v j = 4 ∨ dg v j < (m : Int)) := nd_t hp
        show f_X4_hasFit_10 t (dv v j) (j : Int) σ = _
        unfold f_X4_hasFit_10
        rw [hn, hm, s32_of (z := (n : Int)) (by omega) (by omega), s32_of (z := (j : Int)) (by omega) (by omega), s32_of (z := dv v j) (by omega) (by omega), s32_of (z := (m : Int)) (by omega) (by omega), if_neg (by omega), tm5 a1, td5 a1]
        simp only [vl, show dv v j % 5 = dg v j from rfl]
        rw [s32_of (z := dg v j) (by omega) (by omega), if_neg (by omega), if_neg (by omega)]
      · show f_X4_hasFit_10 t (dv v n) (n : Int) σ = _
        unfold f_X4_hasFit_10
        rw [hn, if_pos (Int.le_refl _)]
    have a1 := dv_pos h0 n
    have a2 := dv_le h0 n
    have a4 := dv_zero h0 h4
    rw [hl, lb_some]
    cases hf : fst? (fun j => !decide (dg v j = 4 ∨ dg v j < (m : Int))) 0 n with
    | some j =>
      obtain ⟨-, h2, h3⟩ := fst?_some hf
      have h5 : ¬ (dg v j = 4 ∨ dg v j < (m : Int)) := nd_t h3
      show some (0, σ) = _
      rw [bi_f (fun q => h5 (q.2.2 j (by omega)))]
    | none =>
      rw [fst?_none] at hf
      show (if (s32 (dv v n)) = 0 then (some (1, σ)) else (some (0, σ))) = _
      rw [s32_of (z := dv v n) (by omega) (by omega)]
      by_cases h6 : dv v n = 0
      · rw [if_pos h6, bi_t ⟨h0, a4.mp h6, fun k hk => nd_f (hf k (by omega) (by omega))⟩]
      · rw [if_neg h6, bi_f (fun q => h6 (a4.mpr q.2.1))]
  · rw [if_neg h0, bi_f (fun q => h0 q.1)]
theorem m_isFit {v : Int} {σ : Mem} {n m : Nat} (hn : σ 121 0 = n) (hm : σ 121 1 = m) (h4 : n ≤ 4) (m4 : m ≤ 4) (hb : 0 ≤ σ 120 17 ∧ σ 120 17 < 16) (hv : s32 v = v) : f_X12_isFit v σ = some (bi (isF n m v ∧ ∀ k, k < n → dg v k = 4 ∨ bt (σ 120 17) (dg v k) = 0), σ) := by
  have v1 := s32_lo v
  have v2 := s32_hi v
  have q5 := p5_in n h4
  unfold f_X12_isFit
  rw [hv] at v1 v2 ⊢
  rw [m_fits hn h4, ob_some, s32_of (z := p5 n - 1) (by omega) (by omega), m_isInT ⟨v1, v2⟩ (by omega) (by omega), ob_some]
  by_cases h0 : 0 ≤ v ∧ v ≤ p5 n - 1
  · rw [bi_t h0, if_neg (by decide)]
    have hl : itr (fun z => f_X12_isFit_20 v z.1 z.2) FU (0, σ) = some (match fst? (fun j => !decide (dg v j = 4 ∨ (dg v j < (m : Int) ∧ bt (σ 120 17) (dg v j) = 0))) 0 n with | some j => .inl (0, σ) | none => .inr σ) := by
      refine itr_fst0 (fun j => !decide (dg v j = 4 ∨ (dg v j < (m : Int) ∧ bt (σ 120 17) (dg v j) = 0))) (fun j => ((j : Int), σ)) n (fun _ => Sum.inl (0, σ)) (Sum.inr σ) (by omega) (fun j hj hp => ?_) (fun j hj hp => ?_) ?_
      · have a3 := dg_in v j
        have hp2 : dg v j = 4 ∨ (dg v j < (m : Int) ∧ bt (σ 120 17) (dg v j) = 0) := nd_f hp
        show f_X12_isFit_20 v (j : Int) σ = _
        unfold f_X12_isFit_20
        rw [hn, s32_of (z := (n : Int)) (by omega) (by omega), s32_of (z := (j : Int)) (by omega) (by omega), if_neg (by omega), m_made h0.1 (by omega) (by omega), ob_some, s32_of (z := dg v j) (by omega) (by omega)]
        split
        · rfl
        · rw [m_made h0.1 (by omega) (by omega), ob_some, hm, s32_of (z := (m : Int)) (by omega) (by omega), s32_of (z := dg v j) (by omega) (by omega), if_neg (by omega), m_made h0.1 (by omega) (by omega), ob_some]
          show (if s32 (bt (σ 120 17) (dg v j)) = 1 then _ else _) = _
          rw [if_neg]
          · rfl
          · rcases hp2 with h | h
            · omega
            · rw [h.2]
              decide
      · have a3 := dg_in v j
        have hp2 : ¬ (dg v j = 4 ∨ (dg v j < (m : Int) ∧ bt (σ 120 17) (dg v j) = 0)) := nd_t hp
        show f_X12_isFit_20 v (j : Int) σ = _
        unfold f_X12_isFit_20
        rw [hn, s32_of (z := (n : Int)) (by omega) (by omega), s32_of (z := (j : Int)) (by omega) (by omega), if_neg (by omega), m_made h0.1 (by omega) (by omega), ob_some, s32_of (z := dg v j) (by omega) (by omega), if_neg (by omega), m_made h0.1 (by omega) (by omega), ob_some, hm, s32_of (z := (m : Int)) (by omega) (by omega), s32_of (z := dg v j) (by omega) (by omega)]
        split
        · rfl
        · rw [m_made h0.1 (by omega) (by omega), ob_some]
          show (if s32 (bt (σ 120 17) (dg v j)) = 1 then _ else _) = _
          have hbt := bt_in hb (j := dg v j) (by omega)
          rw [if_pos]
          rcases hbt with h | h
          · exact absurd (Or.inr ⟨by omega, h⟩) hp2
          · rw [h]
            decide
      · show f_X12_isFit_20 v (n : Int) σ = _
        unfold f_X12_isFit_20
        rw [hn, if_pos (Int.le_refl _)]
    rw [hl, lb_some]
    cases hf : fst? (fun j => !decide (dg v j = 4 ∨ (dg v j < (m : Int) ∧ bt (σ 120 17) (dg v j) = 0))) 0 n with
    | some j =>
      obtain ⟨-, h2, h3⟩ := fst?_some hf
      have h5 : ¬ (dg v j = 4 ∨ (dg v j < (m : Int) ∧ bt (σ 120 17) (dg v j) = 0)) := nd_t h3
      show some (0, σ) = _
      rw [bi_f (fun q => h5 (by
        have w1 := q.1.2.2 j (by omega)
        have w2 := q.2 j (by omega)
        omega))]
    | none =>
      rw [fst?_none] at hf
      show some (1, σ) = _
      have hf2 : ∀ k, k < n → dg v k = 4 ∨ (dg v k < (m : Int) ∧ bt (σ 120 17) (dg v k) = 0) := fun k hk => nd_f (hf k (by omega) (by omega))
      rw [bi_t ⟨⟨h0.1, by omega, fun k hk => by have := hf2 k hk; omega⟩, fun k hk => by have := hf2 k hk; omega⟩]
  · rw [bi_f h0, if_pos (by decide), bi_f (fun q => h0 ⟨q.1.1, by have := q.1.2.1; omega⟩)]
/-- who makes a mark -/
def mad (fit j : Int) : Nat → Bool
  | 0 => false
  | k + 1 => mad fit j k || decide (dg fit k = j)
theorem mad_iff {fit j : Int} : ∀ {n : Nat}, mad fit j n = true ↔ ∃ k, k < n ∧ dg fit k = j
  | 0 => by simp [mad]
  | n + 1 => by
    show (mad fit j n || decide (dg fit n = j)) = true ↔ _
    rw [Bool.or_eq_true, mad_iff (n := n), decide_eq_true_iff]
    constructor
    · rintro (⟨k, a, b⟩ | h)
      · exact ⟨k, by omega, b⟩
      · exact ⟨n, by omega, h⟩
    · rintro ⟨k, a, b⟩
      rcases Nat.lt_or_ge k n with q | q
      · exact Or.inl ⟨k, q, b⟩
      · exact Or.inr (by rw [show n = k by omega]; exact b)
theorem m_isMade {v j : Int} {σ : Mem} {n : Nat} (hn : σ 121 0 = n) (h4 : n ≤ 4) (h0 : 0 ≤ v) (h1 : v ≤ 2147483647) (hj : s32 j = j) : f_X12_isMade v j σ = some (bi (mad v j n = true), σ) := by
  have hl : itr (fun z => f_X12_isMade_5 v j z.1 z.2.1 z.2.2) FU (0, 0, σ) = some (bi (mad v j n = true), σ) := by
    refine itr_for0 (fun i => (bi (mad v j i = true), (i : Int), σ)) n _ (by omega) (fun i hi => ?_) ?_
    · have a3 := dg_in v i
      show f_X12_isMade_5 v j (bi (mad v j i = true)) (i : Int) σ = some (Sum.inl (bi ((mad v j i || decide (dg v i = j)) = true), ((i + 1 : Nat) : Int), σ))
      unfold f_X12_isMade_5
      rw [hn, s32_of (z := (n : Int)) (by omega) (by omega), s32_of (z := (i : Int)) (by omega) (by omega), if_neg (by omega)]
      by_cases h : mad v j i = true
      · rw [bi_t h, if_neg (by decide), h]
        rfl
      · have h' : mad v j i = false := by simpa using h
        rw [bi_f h, if_pos (by decide), m_made h0 h1 (by omega), ob_some, hj, s32_of (z := dg v i) (by omega) (by omega), h']
        by_cases e : dg v i = j
        · rw [if_pos e, decide_eq_true e]
          rfl
        · rw [if_neg e, decide_eq_false e]
          rfl
    · show f_X12_isMade_5 v j (bi (mad v j n = true)) (n : Int) σ = _
      unfold f_X12_isMade_5
      rw [hn, if_pos (Int.le_refl _)]
  unfold f_X12_isMade
  rw [hl, lb_some]
  show (if s32 (bi (mad v j n = true)) = 0 ∨ s32 (bi (mad v j n = true)) = 1 then some ((bi (mad v j n = true)), σ) else none) = _
  rw [if_pos (by rw [bi01]; trivial)]
