/-! PURE 8: rather, sure, on both sides -/
theorem c_firstRather {σ : Mem} {n m : Nat} {s : Int → Int} {op fit W S K : Int} (h : Okm n m s) (hg : CG σ n m s op fit W S K) (hF : isF n m fit) (hb : 0 ≤ σ 72 7 ∧ σ 72 7 < 16) : f_X7_firstRather σ = some (rth W S K s op (σ 72 7) fit n m, σ) := by
  have hn := h.1
  have hm := h.2.1
  have hl : itr (fun z => f_X7_firstRather_2 z.1 z.2) FU (0, σ) = some (match fst? (fun k => decide (¬ lur W S K s op (σ 72 7) fit n m k = -4)) 0 n with | some k => Sum.inl (10 * (k : Int) + lur W S K s op (σ 72 7) fit n m k, σ) | none => Sum.inr σ) := by
    refine itr_fst0 (fun k => decide (¬ lur W S K s op (σ 72 7) fit n m k = -4)) (fun k => ((k : Int), σ)) n (fun k => Sum.inl (10 * (k : Int) + lur W S K s op (σ 72 7) fit n m k, σ)) (Sum.inr σ) (by omega) (fun k hk hp => ?_) (fun k hk hp => ?_) ?_
    · have hp2 := dd_f hp
      have hp3 : lur W S K s op (σ 72 7) fit n m k = -4 := Decidable.not_not.mp hp2
      show f_X7_firstRather_2 (k : Int) σ = _
      unfold f_X7_firstRather_2
      rw [hg.1.1, s32_of (z := (n : Int)) (by omega) (by omega), s32_of (z := (k : Int)) (by omega) (by omega), if_neg (by omega), c_firstLure h hg hF hb hk, ob_some, hp3, if_pos (by decide)]
      rfl
    · have hp2 := dd_t hp
      have hi := lur_in W S K s op (σ 72 7) fit n m hm.2 k
      show f_X7_firstRather_2 (k : Int) σ = _
      unfold f_X7_firstRather_2
      rw [hg.1.1, s32_of (z := (n : Int)) (by omega) (by omega), s32_of (z := (k : Int)) (by omega) (by omega), if_neg (by omega), c_firstLure h hg hF hb hk, ob_some, s32_of (z := lur W S K s op (σ 72 7) fit n m k) (by omega) (by omega), if_neg hp2]
    · show f_X7_firstRather_2 (n : Int) σ = _
      unfold f_X7_firstRather_2
      rw [hg.1.1, if_pos (Int.le_refl _)]
  unfold f_X7_firstRather rth
  cases hf : fst? (fun k => decide (¬ lur W S K s op (σ 72 7) fit n m k = -4)) 0 n with
  | some k =>
    rw [hf] at hl
    rw [show itr (fun z => f_X7_firstRather_2 z.1 z.2) FU (0, σ) = some (Sum.inl (10 * (k : Int) + lur W S K s op (σ 72 7) fit n m k, σ)) from hl, lb_some, Sum.elim_inl]
  | none =>
    rw [hf] at hl
    rw [show itr (fun z => f_X7_firstRather_2 z.1 z.2) FU (0, σ) = some (Sum.inr σ) from hl, lb_some, Sum.elim_inr]
theorem rth_in (W S K : Int) (s : Int → Int) (op bars fit : Int) (n m : Nat) (hn : n ≤ 4) (hm : m ≤ 4) : rth W S K s op bars fit n m = -4 ∨ (0 ≤ rth W S K s op bars fit n m ∧ rth W S K s op bars fit n m ≤ 44) := by
  unfold rth
  split
  · rename_i k hk
    obtain ⟨h1, h2, h3⟩ := fst?_some hk
    have h4 := dd_t h3
    have h5 := lur_in W S K s op bars fit n m hm k
    omega
  · omega
/-- a fit is sure -/
abbrev sur (W S K : Int) (s : Int → Int) (op bars fit : Int) (n m : Nat) : Prop := (∀ k, k < n → dg fit k = 4 ∨ bt bars (dg fit k) = 0) ∧ rth W S K s op bars fit n m = -4
theorem c_isSure {σ : Mem} {n m : Nat} {s : Int → Int} {op fit W S K : Int} (h : Okm n m s) (hg : CG σ n m s op fit W S K) (hF : isF n m fit) (hb : 0 ≤ σ 72 7 ∧ σ 72 7 < 16) [Decidable (sur W S K s op (σ 72 7) fit n m)] : f_X7_isSure σ = some (bi (sur W S K s op (σ 72 7) fit n m), σ) := by
  have hn := h.1
  have hm := h.2.1
  have hL := hg.2.1.1
  have hr := rth_in W S K s op (σ 72 7) fit n m hn.2 hm.2
  have hbar : and32 (σ 72 10) (σ 72 7) = 0 ↔ ∀ k, k < n → dg fit k = 4 ∨ bt (σ 72 7) (dg fit k) = 0 := by
    rw [and_bt hL.2.1 hb]
    constructor
    · intro q k hk
      have a := isF_dg hF hk
      rcases a with a | a
      · exact Or.inl a
      · right
        obtain ⟨j, hj, ej⟩ : ∃ j : Nat, j < m ∧ dg fit k = j := ⟨(dg fit k).toNat, by omega, by omega⟩
        rw [ej]
        rcases q j (by omega) with w | w
        · have := (hL.2.2 j (by omega)).mpr ⟨k, hk, ej⟩
          rw [w] at this
          cases this
        · exact w
    · intro q j hj
      by_cases w : bt (σ 72 10) j = 0
      · exact Or.inl w
      · right
        have w1 : bt (σ 72 10) j = 1 := by
          have := bt_in hL.2.1 (j := (j : Int)) (by omega)
          omega
        obtain ⟨k, hk, ek⟩ := (hL.2.2 j hj).mp w1
        have := q k hk
        rw [ek] at this
        rcases this with u | u
        · omega
        · exact u
  unfold f_X7_isSure
  rw [s32_and]
  by_cases e : and32 (σ 72 10) (σ 72 7) = 0
  · rw [if_pos e, c_firstRather h hg hF hb, ob_some, s32_of (z := rth W S K s op (σ 72 7) fit n m) (by omega) (by omega)]
    by_cases e2 : rth W S K s op (σ 72 7) fit n m = -4
    · rw [if_pos e2, bi_t ⟨hbar.mp e, e2⟩]
    · rw [if_neg e2, bi_f (fun q => e2 q.2)]
  · rw [if_neg e, bi_f (fun q => e (hbar.mpr q.1))]
theorem fst?_min {P : Nat → Bool} : ∀ {m k j : Nat}, fst? P k m = some j → ∀ i, k ≤ i → i < j → P i = false
  | 0, _, _, h => by cases h
  | m + 1, k, j, h => by
    unfold fst? at h
    by_cases hp : P k = true
    · rw [if_pos hp] at h
      cases h
      intro i h1 h2
      omega
    · rw [if_neg hp] at h
      intro i h1 h2
      by_cases e : i = k
      · subst e
        simpa using hp
      · exact fst?_min h i (by omega) h2
theorem fst?_eq {P : Nat → Bool} : ∀ {m k j : Nat}, k ≤ j → j < k + m → P j = true → (∀ i, k ≤ i → i < j → P i = false) → fst? P k m = some j
  | 0, _, _, h1, h2, _, _ => by omega
  | m + 1, k, j, h1, h2, h3, h4 => by
    unfold fst?
    by_cases e : k = j
    · subst e
      rw [if_pos h3]
    · rw [if_neg (by rw [h4 k (Nat.le_refl _) (by omega)]; decide)]
      exact fst?_eq (by omega) (by omega) h3 (fun i a b => h4 i (by omega) b)
theorem gun_4 (W : Int) (s : Int → Int) (fit : Int) (n : Nat) : gun W s fit 4 n = 1 := if_pos rfl
/-- marks in their order, then away: as one search of five -/
def P5 (W S K : Int) (s : Int → Int) (op bars fit : Int) (n m : Nat) (k : Nat) (x : Nat) : Bool := decide ((x = 4 ∨ (x < m ∧ ¬ bt bars x = 1)) ∧ ¬ gtp W S K s op fit k x n * gun W s fit (dg fit k) n ≤ gtp W S K s op fit k (dg fit k) n * gun W s fit x n)
theorem lur_5 (W S K : Int) (s : Int → Int) (op bars fit : Int) (n m : Nat) (hm : m ≤ 4) (hb : 0 ≤ bars ∧ bars < 16) (k : Nat) :
    lur W S K s op bars fit n m k = match fst? (P5 W S K s op bars fit n m k) 0 5 with
      | some x => (x : Int)
      | none => -4 := by
  unfold lur
  cases hf : fst? (fun j => decide (bt bars j = 0 ∧ ¬ gtp W S K s op fit k j n * gun W s fit (dg fit k) n ≤ gtp W S K s op fit k (dg fit k) n * gun W s fit j n)) 0 m with
  | some j =>
    obtain ⟨h1, h2, h3⟩ := fst?_some hf
    have h4 := fst?_min hf
    have h5 := dd_t h3
    have e : fst? (P5 W S K s op bars fit n m k) 0 5 = some j := by
      refine fst?_eq (by omega) (by omega) ?_ (fun i a b => ?_)
      · exact decide_eq_true ⟨Or.inr ⟨by omega, by rw [h5.1]; decide⟩, h5.2⟩
      · have h6 := dd_f (h4 i a b)
        have h7 := bt_in hb (j := (i : Int)) (by omega)
        refine decide_eq_false (fun q => h6 ⟨?_, q.2⟩)
        rcases q.1 with w | w
        · omega
        · omega
    rw [e]
  | none =>
    rw [fst?_none] at hf
    have hno : ∀ i, i < 4 → P5 W S K s op bars fit n m k i = false := fun i hi => by
      refine decide_eq_false (fun q => ?_)
      rcases q.1 with w | w
      · omega
      · have h6 := dd_f (hf i (by omega) (by omega))
        have h7 := bt_in hb (j := (i : Int)) (by omega)
        exact h6 ⟨by omega, q.2⟩
    by_cases e4 : gtp W S K s op fit k 4 n * gun W s fit (dg fit k) n ≤ gtp W S K s op fit k (dg fit k) n
    · have e : fst? (P5 W S K s op bars fit n m k) 0 5 = none := by
        rw [fst?_none]
        intro i _ hi
        by_cases h4 : i = 4
        · subst h4
          refine decide_eq_false (fun q => q.2 ?_)
          show gtp W S K s op fit k 4 n * gun W s fit (dg fit k) n ≤ gtp W S K s op fit k (dg fit k) n * gun W s fit 4 n
          rw [gun_4, Int.mul_one]
          exact e4
        · exact hno i (by omega)
      rw [e]
      exact if_pos e4
    · have e : fst? (P5 W S K s op bars fit n m k) 0 5 = some 4 := by
        refine fst?_eq (by omega) (by omega) ?_ (fun i _ hi => hno i hi)
        refine decide_eq_true ⟨Or.inl rfl, ?_⟩
        show ¬ gtp W S K s op fit k 4 n * gun W s fit (dg fit k) n ≤ gtp W S K s op fit k (dg fit k) n * gun W s fit 4 n
        rw [gun_4, Int.mul_one]
        exact e4
      rw [e]
      exact if_neg e4
theorem Md.ab {σ : Mem} {W S K x y : Int} (h : Md σ W S K) : Md (ab σ x y) W S K := by
  unfold Md
  rw [ab_ni (by decide), ab_ni (by decide), ab_s]
  exact h
theorem m_findGets_ab {σ : Mem} {n m : Nat} (h : Okm n m (σ 121)) {W S K : Int} (hm : Md σ W S K) {fit : Int} (hf0 : 0 ≤ fit) (hf1 : fit ≤ 2147483647) {k : Nat} (hk : k < n) {a : Int} (ha : a = 4 ∨ (0 ≤ a ∧ a < (m : Int))) (x y : Int) :
    f_X12_findGets fit k a (ab σ x y) = some (0, ab σ (gtp W S K (σ 121) (s32 (σ 120 18)) fit k a n) (gun W (σ 121) fit a n)) := by
  have e := m_findGets (σ := ab σ x y) (n := n) (m := m) (by rw [ab_s]; exact h) (Md.ab (x := x) (y := y) hm) hf0 hf1 hk ha
  rw [ab_ab, ab_s, show ab σ x y 120 18 = σ 120 18 from ab_ni (by decide)] at e
  exact e
theorem m_ratherOf {σ : Mem} {n m : Nat} (h : Okm n m (σ 121)) {W S K : Int} (hd : Md σ W S K) {fit : Int} (hF : isF n m fit) (hb : 0 ≤ σ 120 17 ∧ σ 120 17 < 16) : ∃ x y, f_X12_ratherOf fit σ = some (rth W S K (σ 121) (s32 (σ 120 18)) (σ 120 17) fit n m, ab σ x y) := by
  have hn := h.1
  have hm := h.2.1
  have hr := hd.wsk h.2.2.2.2.1
  have p4 := p5_in n hn.2
  have f0 := hF.1
  have f1 : fit ≤ 2147483647 := by have := hF.2.1; omega
  have hl : ∃ b, itr (fun z => f_X12_ratherOf_2 fit z.1 z.2) FU (0, σ) = some b ∧ (match fst? (fun k => decide (¬ lur W S K (σ 121) (s32 (σ 120 18)) (σ 120 17) fit n m k = -4)) 0 n with | some k => ∃ x y, b = Sum.inl (10 * (k : Int) + lur W S K (σ 121) (s32 (σ 120 18)) (σ 120 17) fit n m k, ab σ x y) | none => ∃ x y, b = Sum.inr (ab σ x y)) := by
    have inner : ∀ (k : Nat) (x y : Int), k < n → ∃ x' y', f_X12_ratherOf_2 fit k (ab σ x y) = some (if lur W S K (σ 121) (s32 (σ 120 18)) (σ 120 17) fit n m k = -4 then Sum.inl ((k : Int) + 1, ab σ x' y') else Sum.inr (Sum.inl (10 * (k : Int) + lur W S K (σ 121) (s32 (σ 120 18)) (σ 120 17) fit n m k, ab σ x' y'))) := by
      intro k x y hk
      have hdg := isF_dg hF hk
      have g1 := gtp_in h hr (s32 (σ 120 18)) fit hk hdg
      have g2 := gun_in h hr fit (dg fit k)
      have hi : ∃ b, itr (fun z => f_X12_ratherOf_37 fit k (gtp W S K (σ 121) (s32 (σ 120 18)) fit k (dg fit k) n) (gun W (σ 121) fit (dg fit k) n) z.1 z.2) FU (0, ab σ (gtp W S K (σ 121) (s32 (σ 120 18)) fit k (dg fit k) n) (gun W (σ 121) fit (dg fit k) n)) = some b ∧ (match fst? (P5 W S K (σ 121) (s32 (σ 120 18)) (σ 120 17) fit n m k) 0 5 with | some j => ∃ u v, b = Sum.inl (10 * (k : Int) + (j : Int), ab σ u v) | none => ∃ u v, b = Sum.inr (ab σ u v)) := by
        refine itr_fstH (P5 W S K (σ 121) (s32 (σ 120 18)) (σ 120 17) fit n m k) (fun i z => ∃ u v, z = ((i : Int), ab σ u v)) (fun j b => ∃ u v, b = Sum.inl (10 * (k : Int) + (j : Int), ab σ u v)) (fun b => ∃ u v, b = Sum.inr (ab σ u v)) 5 (by omega) ⟨_, _, rfl⟩ (fun i hi z hz hp => ?_) (fun i hi z hz hp => ?_) (fun z hz => ?_)
        · obtain ⟨u, v, rfl⟩ := hz
          have hp2 := dd_f hp
          show ∃ y', f_X12_ratherOf_37 fit k _ _ (i : Int) (ab σ u v) = some (Sum.inl y') ∧ ∃ u' v', y' = (((i + 1 : Nat) : Int), ab σ u' v')
          unfold f_X12_ratherOf_37
          rw [s32_of (z := (i : Int)) (by omega) (by omega), if_neg (by omega)]
          by_cases e4 : i = 4
          · subst e4
            have b1 := gtp_in h hr (s32 (σ 120 18)) fit hk (a := 4) (Or.inl rfl)
            have c1 := mul_abs b1 g2
            have hle : gtp W S K (σ 121) (s32 (σ 120 18)) fit k 4 n * gun W (σ 121) fit (dg fit k) n ≤ gtp W S K (σ 121) (s32 (σ 120 18)) fit k (dg fit k) n * gun W (σ 121) fit 4 n := by
              rcases Int.lt_or_le (gtp W S K (σ 121) (s32 (σ 120 18)) fit k (dg fit k) n * gun W (σ 121) fit 4 n) (gtp W S K (σ 121) (s32 (σ 120 18)) fit k 4 n * gun W (σ 121) fit (dg fit k) n) with q | q
              · exact absurd ⟨Or.inl rfl, Int.not_le.mpr q⟩ hp2
              · exact q
            have c2 := mul_abs g1 (gun_in h hr fit 4)
            rw [if_pos (by decide), show ((4 : Nat) : Int) = 4 from rfl, m_findGets_ab h hd f0 f1 hk (Or.inl rfl), ob_some, ab_21, ab_22, s64_of c1.1 c1.2, s64_of c2.1 c2.2, if_pos hle]
            exact ⟨_, rfl, _, _, rfl⟩
          · rw [if_neg (by omega), m_isMark (s32_of (by omega) (by omega)) (by rw [ab_s, h.2.2.2.1]; omega), ob_some, ab_s, h.2.2.2.1]
            by_cases em : i < m
            · rw [bi_t (by omega), if_neg (by decide), show ab σ u v 120 17 = σ 120 17 from ab_ni (by decide)]
              have hbt := bt_in hb (j := (i : Int)) (by omega)
              show ∃ y', (if s32 (bt (σ 120 17) i) = 1 then _ else _) = some (Sum.inl y') ∧ _
              rw [show s32 (bt (σ 120 17) i) = bt (σ 120 17) i from s32_and _ _]
              by_cases eb : bt (σ 120 17) i = 1
              · rw [if_pos eb]
                exact ⟨_, rfl, _, _, rfl⟩
              · have b0 : (i : Int) = 4 ∨ (0 ≤ (i : Int) ∧ (i : Int) < (m : Int)) := by omega
                have b1 := gtp_in h hr (s32 (σ 120 18)) fit hk b0
                have c1 := mul_abs b1 g2
                have hle : gtp W S K (σ 121) (s32 (σ 120 18)) fit k i n * gun W (σ 121) fit (dg fit k) n ≤ gtp W S K (σ 121) (s32 (σ 120 18)) fit k (dg fit k) n * gun W (σ 121) fit i n := by
                  rcases Int.lt_or_le (gtp W S K (σ 121) (s32 (σ 120 18)) fit k (dg fit k) n * gun W (σ 121) fit i n) (gtp W S K (σ 121) (s32 (σ 120 18)) fit k i n * gun W (σ 121) fit (dg fit k) n) with q | q
                  · exact absurd ⟨Or.inr ⟨em, eb⟩, Int.not_le.mpr q⟩ hp2
                  · exact q
                have c2 := mul_abs g1 (gun_in h hr fit i)
                rw [if_neg eb, m_findGets_ab h hd f0 f1 hk b0, ob_some, ab_21, ab_22, s64_of c1.1 c1.2, s64_of c2.1 c2.2, if_pos hle]
                exact ⟨_, rfl, _, _, rfl⟩
            · rw [bi_f (by omega), if_pos (by decide)]
              exact ⟨_, rfl, _, _, rfl⟩
        · obtain ⟨u, v, rfl⟩ := hz
          have hp2 := dd_t hp
          show ∃ y', f_X12_ratherOf_37 fit k _ _ (i : Int) (ab σ u v) = some (Sum.inr y') ∧ ∃ u' v', y' = Sum.inl (10 * (k : Int) + (i : Int), ab σ u' v')
          unfold f_X12_ratherOf_37
          rw [s32_of (z := (i : Int)) (by omega) (by omega), if_neg (by omega)]
          have b0 : (i : Int) = 4 ∨ (0 ≤ (i : Int) ∧ (i : Int) < (m : Int)) := by
            rcases hp2.1 with w | w <;> omega
          have b1 := gtp_in h hr (s32 (σ 120 18)) fit hk b0
          have c1 := mul_abs b1 g2
          have c2 := mul_abs g1 (gun_in h hr fit i)
          by_cases e4 : i = 4
          · rw [if_pos (by omega), m_findGets_ab h hd f0 f1 hk b0, ob_some, ab_21, ab_22, s64_of c1.1 c1.2, s64_of c2.1 c2.2, if_neg hp2.2]
            exact ⟨_, rfl, _, _, rfl⟩
          · have em : i < m ∧ ¬ bt (σ 120 17) i = 1 := by
              rcases hp2.1 with w | w
              · exact absurd w e4
              · exact w
            rw [if_neg (by omega), m_isMark (s32_of (by omega) (by omega)) (by rw [ab_s, h.2.2.2.1]; omega), ob_some, ab_s, h.2.2.2.1, bi_t (by omega), if_neg (by decide), show ab σ u v 120 17 = σ 120 17 from ab_ni (by decide)]
            show ∃ y', (if s32 (bt (σ 120 17) i) = 1 then _ else _) = some (Sum.inr y') ∧ _
            rw [show s32 (bt (σ 120 17) i) = bt (σ 120 17) i from s32_and _ _, if_neg em.2, m_findGets_ab h hd f0 f1 hk b0, ob_some, ab_21, ab_22, s64_of c1.1 c1.2, s64_of c2.1 c2.2, if_neg hp2.2]
            exact ⟨_, rfl, _, _, rfl⟩
        · obtain ⟨u, v, rfl⟩ := hz
          refine ⟨Sum.inr (ab σ u v), ?_, u, v, rfl⟩
          show f_X12_ratherOf_37 fit k _ _ ((5 : Nat) : Int) (ab σ u v) = _
          unfold f_X12_ratherOf_37
          rw [if_pos (by decide)]
      obtain ⟨b, eb, hbb⟩ := hi
      unfold f_X12_ratherOf_2
      rw [ab_s, h.2.2.1, s32_of (z := (n : Int)) (by omega) (by omega), s32_of (z := (k : Int)) (by omega) (by omega), if_neg (by omega), m_made f0 f1 (by omega), ob_some, m_findGets_ab h hd f0 f1 hk hdg, ob_some, ab_21, ab_22, eb, lb_some, lur_5 W S K (σ 121) (s32 (σ 120 18)) (σ 120 17) fit n m hm.2 hb k]
      cases hf : fst? (P5 W S K (σ 121) (s32 (σ 120 18)) (σ 120 17) fit n m k) 0 5 with
      | some j =>
        rw [hf] at hbb
        obtain ⟨u, v, rfl⟩ := hbb
        refine ⟨u, v, ?_⟩
        rw [Sum.elim_inl]
        show _ = some (if (j : Int) = -4 then _ else Sum.inr (Sum.inl (10 * (k : Int) + (j : Int), ab σ u v)))
        rw [if_neg (by omega)]
      | none =>
        rw [hf] at hbb
        obtain ⟨u, v, rfl⟩ := hbb
        refine ⟨u, v, ?_⟩
        rw [Sum.elim_inr]
        show _ = some (if (-4 : Int) = -4 then Sum.inl ((k : Int) + 1, ab σ u v) else _)
        rw [if_pos rfl]
    refine itr_fstH (fun k => decide (¬ lur W S K (σ 121) (s32 (σ 120 18)) (σ 120 17) fit n m k = -4)) (fun k z => ∃ x y, z = ((k : Int), ab σ x y)) (fun k b => ∃ x y, b = Sum.inl (10 * (k : Int) + lur W S K (σ 121) (s32 (σ 120 18)) (σ 120 17) fit n m k, ab σ x y)) (fun b => ∃ x y, b = Sum.inr (ab σ x y)) n (by omega) ⟨σ 120 21, σ 120 22, by rw [ab_of]; rfl⟩ (fun k hk z hz hp => ?_) (fun k hk z hz hp => ?_) (fun z hz => ?_)
    · obtain ⟨x, y, rfl⟩ := hz
      obtain ⟨x', y', e⟩ := inner k x y hk
      rw [if_pos (Decidable.not_not.mp (dd_f hp))] at e
      exact ⟨_, e, x', y', rfl⟩
    · obtain ⟨x, y, rfl⟩ := hz
      obtain ⟨x', y', e⟩ := inner k x y hk
      rw [if_neg (dd_t hp)] at e
      exact ⟨_, e, x', y', rfl⟩
    · obtain ⟨x, y, rfl⟩ := hz
      refine ⟨Sum.inr (ab σ x y), ?_, x, y, rfl⟩
      show f_X12_ratherOf_2 fit (n : Int) (ab σ x y) = _
      unfold f_X12_ratherOf_2
      rw [ab_s, h.2.2.1, if_pos (Int.le_refl _)]
  obtain ⟨b, e, hbb⟩ := hl
  unfold f_X12_ratherOf rth
  cases hf : fst? (fun k => decide (¬ lur W S K (σ 121) (s32 (σ 120 18)) (σ 120 17) fit n m k = -4)) 0 n with
  | some k =>
    rw [hf] at hbb
    obtain ⟨x, y, rfl⟩ := hbb
    refine ⟨x, y, ?_⟩
    rw [e, lb_some, Sum.elim_inl]
  | none =>
    rw [hf] at hbb
    obtain ⟨x, y, rfl⟩ := hbb
    refine ⟨x, y, ?_⟩
    rw [e, lb_some, Sum.elim_inr]
