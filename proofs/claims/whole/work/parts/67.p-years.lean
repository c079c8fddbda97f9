/-! PURE 27: fractions with a factor; years, rather over years -/
theorem eu_mul {c x y : Int} (hc : 0 < c) : ∀ k, eu (c * x) (c * y) k = (c * (eu x y k).1, c * (eu x y k).2)
  | 0 => rfl
  | k + 1 => by
    show ((eu (c * x) (c * y) k).2, (eu (c * x) (c * y) k).1.tmod (eu (c * x) (c * y) k).2) = (c * (eu x y k).2, c * ((eu x y k).1.tmod (eu x y k).2))
    rw [eu_mul hc k]
    show (c * (eu x y k).2, (c * (eu x y k).1).tmod (c * (eu x y k).2)) = _
    rw [Int.mul_tmod_mul_of_pos _ _ hc]
theorem c_ne0 {c a : Int} (hc : c = 1 ∨ c = 100) (h : a ≠ 0) : c * a ≠ 0 := by
  rcases hc with rfl | rfl <;> omega
theorem two_gcd_c {c x y : Int} (hc : c = 1 ∨ c = 100) (hx : 0 ≤ x ∧ x ≤ 40000000000000000) (hy : 1 ≤ y ∧ y ≤ 10995116277) : ∃ r, 1 ≤ r ∧ r ≤ 40000000000000000 ∧ ∀ σ : Mem, (itr (fun z : Int × Int × Int × Mem => f_X11_commonDivisor_9 z.1 z.2.1 z.2.2.1 z.2.2.2) FU (c * x, c * y, 0, σ)) = some (c * r, σ) ∧ (itr (fun z : Int × Int × Mem => f_X12_common_17 z.1 z.2.1 z.2.2) FU (x, y, σ)) = some (r, σ) := by
  have hy' : 0 ≤ y ∧ y ≤ 40000000000000000 := by omega
  have hc0 : 0 < c := by omega
  obtain ⟨K, hK, hz, hj⟩ := eu_ends hx hy' 40 0 (show y < p2 40 by
    have : p2 40 = 1099511627776 := by decide
    omega)
  have hK1 : K ≠ 0 := fun e => by
    rw [e] at hz
    have hz' : y = 0 := hz
    omega
  have hr : (eu x y K).1 ≠ 0 := by
    obtain ⟨k, rfl⟩ : ∃ k, K = k + 1 := ⟨K - 1, by omega⟩
    exact hj k (by omega) (by omega)
  have hi := eu_in hx hy'
  have hiK := hi K
  refine ⟨(eu x y K).1, by omega, hiK.1.2, fun σ => ⟨?_, ?_⟩⟩
  · refine itr_for0 (fun k => (c * (eu x y k).1, c * (eu x y k).2, (k : Int), σ)) K _ (by omega) (fun k hk => ?_) ?_
    · have h := hi k
      have hn := c_ne0 hc (hj k (by omega) hk)
      have b1 : -9223372036854775808 ≤ c * (eu x y k).1 ∧ c * (eu x y k).1 ≤ 9223372036854775807 := by rcases hc with rfl | rfl <;> omega
      have b2 : -9223372036854775808 ≤ c * (eu x y k).2 ∧ c * (eu x y k).2 ≤ 9223372036854775807 := by rcases hc with rfl | rfl <;> omega
      show f_X11_commonDivisor_9 (c * (eu x y k).1) (c * (eu x y k).2) (k : Int) σ = _
      unfold f_X11_commonDivisor_9
      rw [s32_of (z := (k : Int)) (by omega) (by omega), if_neg (by omega), s64_of b2.1 b2.2, if_neg hn, if_neg hn, s64_of b1.1 b1.2, Int.mul_tmod_mul_of_pos _ _ hc0]
      rfl
    · show f_X11_commonDivisor_9 (c * (eu x y K).1) (c * (eu x y K).2) (K : Int) σ = _
      unfold f_X11_commonDivisor_9
      by_cases e : 100 ≤ s32 (K : Int)
      · rw [if_pos e]
      · rw [if_neg e, hz, Int.mul_zero, if_pos (by decide)]
  · refine itr_for0 (fun k => ((eu x y k).1, (eu x y k).2, σ)) K _ (by omega) (fun k hk => ?_) ?_
    · have h := hi k
      show f_X12_common_17 (eu x y k).1 (eu x y k).2 σ = _
      unfold f_X12_common_17
      rw [s64_of (z := (eu x y k).2) (by omega) (by omega), if_neg (hj k (by omega) hk), if_neg (hj k (by omega) hk), s64_of (z := (eu x y k).1) (by omega) (by omega)]
      rfl
    · show f_X12_common_17 (eu x y K).1 (eu x y K).2 σ = _
      unfold f_X12_common_17
      rw [hz, if_pos (by decide)]
/-- a fraction in least terms, the class's c times as much above and below -/
theorem two_told_c {c x y v : Int} (hc : c = 1 ∨ c = 100) (hx : -40000000000000000 ≤ x ∧ x ≤ 40000000000000000) (hy : 1 ≤ y ∧ y ≤ 10995116277) : ∃ r, ∀ σ τ : Mem, f_X11_inLeastTerms (c * x) (c * y) v σ = some (r, σ) ∧ f_X12_told x y v τ = some (r, τ) := by
  have hc0 : 0 < c := by omega
  have hab : ab64 (c * y) = c * y := by
    unfold ab64
    rcases hc with rfl | rfl
    · rw [s64_of (by omega) (by omega), if_pos (by omega)]
    · rw [s64_of (by omega) (by omega), if_pos (by omega)]
  obtain ⟨z, hz0, hz1, hz2⟩ : ∃ z : Int, (0 ≤ z ∧ z ≤ 40000000000000000) ∧ ab64 (c * x) = c * z ∧ ((0 ≤ x ∧ z = x) ∨ (x < 0 ∧ z = -x)) := by
    unfold ab64
    rcases Int.lt_or_le x 0 with h0 | h0
    · refine ⟨-x, by omega, ?_, Or.inr ⟨h0, rfl⟩⟩
      rcases hc with rfl | rfl
      · rw [s64_of (by omega) (by omega), if_neg (by omega)]
        omega
      · rw [s64_of (by omega) (by omega), if_neg (by omega)]
        omega
    · refine ⟨x, by omega, ?_, Or.inl ⟨h0, rfl⟩⟩
      rcases hc with rfl | rfl
      · rw [s64_of (by omega) (by omega)]
        split <;> omega
      · rw [s64_of (by omega) (by omega)]
        split <;> omega
  obtain ⟨r, hr1, hr2, hg⟩ := two_gcd_c hc hz0 hy
  have hr0 : ¬ r = 0 := by omega
  have hcr : ¬ c * r = 0 := c_ne0 hc hr0
  have e3 : s64 r = r := s64_of (by omega) (by omega)
  have e4 : s64 (c * r) = c * r := by rcases hc with rfl | rfl <;> exact s64_of (by omega) (by omega)
  have e5 : s64 (c * x) = c * x := by rcases hc with rfl | rfl <;> exact s64_of (by omega) (by omega)
  have e6 : s64 (c * y) = c * y := by rcases hc with rfl | rfl <;> exact s64_of (by omega) (by omega)
  refine ⟨if s32 v = 0 then x.tdiv r else y.tdiv r, fun σ τ => ⟨?_, ?_⟩⟩
  · unfold f_X11_inLeastTerms f_X11_commonDivisor
    rw [hab, hz1, (hg σ).1, lb_some]
    show ob (some (c * r, σ)) _ = _
    rw [ob_some, e4, if_neg hcr]
    by_cases hv : s32 v = 0
    · rw [if_pos hv, if_pos hv, if_neg hcr, e5, Int.mul_tdiv_mul_of_pos _ _ hc0]
    · rw [if_neg hv, if_neg hv, if_neg hcr, e6, Int.mul_tdiv_mul_of_pos _ _ hc0]
  · unfold f_X12_told f_X12_common
    rw [s64_of (z := x) (by omega) (by omega)]
    have e : (if 0 ≤ x then (lb (itr (fun z => f_X12_common_17 z.1 z.2.1 z.2.2) FU (x, y, τ)) (fun q5 => (fun (y7 : Int) (σ8 : Mem) => some (y7, σ8)) q5.1 q5.2)) else (lb (itr (fun z => f_X12_common_17 z.1 z.2.1 z.2.2) FU (-x, y, τ)) (fun q9 => (fun (y11 : Int) (σ12 : Mem) => some (y11, σ12)) q9.1 q9.2))) = some (r, τ) := by
      rcases hz2 with ⟨h0, e0⟩ | ⟨h0, e0⟩
      · rw [if_pos h0, ← e0, (hg τ).2, lb_some]
      · rw [if_neg (by omega), ← e0, (hg τ).2, lb_some]
    rw [e, ob_some, e3]
    by_cases hv : s32 v = 0
    · rw [if_pos hv, if_pos hv, if_neg hr0]
    · rw [if_neg hv, if_neg hv, if_neg hr0, s64_of (z := y) (by omega) (by omega)]
/-- over one year: a hundred times as much at the marks -/
def c100 (a : Int) : Int := if a = 4 then 1 else 100
theorem c100_or (a : Int) : c100 a = 1 ∨ c100 a = 100 := by
  unfold c100
  split
  · exact Or.inl rfl
  · exact Or.inr rfl
theorem gtp_100 (s : Int → Int) (op fit : Int) (k : Nat) (a : Int) (n : Nat) : gtp 100 1 0 s op fit k a n = c100 a * gtp 1 1 0 s op fit k a n := by
  unfold gtp c100
  by_cases e : a = 4
  · rw [if_pos e, if_pos e, if_pos e]
    omega
  · rw [if_neg e, if_neg e, if_neg e]
    have e1 : s (19 + 4 * a + k) * (pyU s fit a n * 100) = 100 * (s (19 + 4 * a + k) * (pyU s fit a n * 1)) := by
      rw [Int.mul_one, ← Int.mul_assoc, Int.mul_comm]
    rw [e1]
    simp only [Int.zero_mul]
    omega
theorem gun_100 (s : Int → Int) (fit a : Int) (n : Nat) : gun 100 s fit a n = c100 a * gun 1 s fit a n := by
  unfold gun c100
  split <;> omega
theorem cmp_100 {c d x y u v : Int} (hc : c = 1 ∨ c = 100) (hd : d = 1 ∨ d = 100) : (c * x) * (d * y) ≤ (d * u) * (c * v) ↔ x * y ≤ u * v := by
  have e1 : (c * x) * (d * y) = (c * d) * (x * y) := by
    rw [Int.mul_assoc, Int.mul_assoc, Int.mul_left_comm x]
  have e2 : (d * u) * (c * v) = (c * d) * (u * v) := by
    rw [Int.mul_comm c d, Int.mul_assoc, Int.mul_assoc, Int.mul_left_comm u]
  rw [e1, e2]
  refine Int.mul_le_mul_left ?_
  rcases hc with rfl | rfl <;> rcases hd with rfl | rfl <;> decide
theorem lur_100 (s : Int → Int) (op bars fit : Int) (n m : Nat) (k : Nat) : lur 100 1 0 s op bars fit n m k = lur 1 1 0 s op bars fit n m k := by
  have e : ∀ j : Int, gtp 100 1 0 s op fit k j n * gun 100 s fit (dg fit k) n ≤ gtp 100 1 0 s op fit k (dg fit k) n * gun 100 s fit j n ↔ gtp 1 1 0 s op fit k j n * gun 1 s fit (dg fit k) n ≤ gtp 1 1 0 s op fit k (dg fit k) n * gun 1 s fit j n := fun j => by
    rw [gtp_100, gtp_100, gun_100, gun_100]
    exact cmp_100 (c100_or _) (c100_or _)
  have e4 := e 4
  rw [gun_4, gun_4, Int.mul_one, Int.mul_one] at e4
  unfold lur
  rw [fst?_congr (Q := fun j => decide (bt bars j = 0 ∧ ¬ gtp 1 1 0 s op fit k j n * gun 1 s fit (dg fit k) n ≤ gtp 1 1 0 s op fit k (dg fit k) n * gun 1 s fit j n)) (fun j _ _ => decide_eq_decide.mpr (and_congr Iff.rfl (not_congr (e j))))]
  split
  · rfl
  · by_cases q : gtp 1 1 0 s op fit k 4 n * gun 1 s fit (dg fit k) n ≤ gtp 1 1 0 s op fit k (dg fit k) n
    · rw [if_pos q, if_pos (e4.mpr q)]
    · rw [if_neg q, if_neg (fun z => q (e4.mp z))]
theorem rth_100 (s : Int → Int) (op bars fit : Int) (n m : Nat) : rth 100 1 0 s op bars fit n m = rth 1 1 0 s op bars fit n m := by
  unfold rth
  rw [fst?_congr (Q := fun k => decide (¬ lur 1 1 0 s op bars fit n m k = -4)) (fun j _ _ => by rw [lur_100])]
  split
  · rw [lur_100]
  · rfl
theorem ups_ups (σ : Mem) (a i u v : Int) : ups (ups σ a i u) a i v = ups σ a i v := by
  funext x j
  unfold ups
  by_cases h : x = a ∧ j = i
  · rw [if_pos h, if_pos h]
  · rw [if_neg h, if_neg h, if_neg h]
theorem ups_at (σ : Mem) (a i v : Int) : ups σ a i v a i = v := if_pos ⟨rfl, rfl⟩
theorem ups_ni {σ : Mem} {a i v j : Int} (h : j ≠ i) : ups σ a i v a j = σ a j := if_neg (fun z => h z.2)
theorem c_lookOver {σ : Mem} {v : Int} (hv : 1 ≤ v ∧ v ≤ 12) (hr : 0 ≤ σ 10 2 ∧ σ 10 2 ≤ 100) : f_X7_lookOver v σ = some (0, ups (ups (ups σ 72 11 100) 72 12 v) 72 13 (shS (σ 10 2) v.toNat)) := by
  have v1 : s32 v = v := s32_of (by omega) (by omega)
  have hl : itr (fun z => f_X7_lookOver_20 v z.1 z.2) FU (0, ups (ups (ups σ 72 11 100) 72 12 v) 72 13 0) = some (ups (ups (ups σ 72 11 100) 72 12 v) 72 13 (shS (σ 10 2) v.toNat)) := by
    refine itr_for0 (fun k => ((k : Int), ups (ups (ups σ 72 11 100) 72 12 v) 72 13 (shS (σ 10 2) k))) v.toNat _ (by omega) (fun k hk => ?_) ?_
    · have b := shS_in hr k
      have b2 := mul_in (a := σ 10 2) (b := (k : Int)) (B := 12) hr ⟨by omega, by omega⟩
      show f_X7_lookOver_20 v (k : Int) (ups (ups (ups σ 72 11 100) 72 12 v) 72 13 (shS (σ 10 2) k)) = some (Sum.inl (((k + 1 : Nat) : Int), ups (ups (ups σ 72 11 100) 72 12 v) 72 13 (shS (σ 10 2) k + (if σ 10 2 * (k : Int) ≤ 100 then σ 10 2 * (k : Int) else 100))))
      unfold f_X7_lookOver_20 mn32
      rw [v1, s32_of (z := (k : Int)) (by omega) (by omega), if_neg (by omega)]
      simp only [stp]
      rw [ups_at, ups_ups, ups_ne (show (10 : Int) ≠ 72 by decide), ups_ne (show (10 : Int) ≠ 72 by decide), ups_ne (show (10 : Int) ≠ 72 by decide), s32_of (z := σ 10 2 * (k : Int)) (by omega) (by omega), s32_of (z := (100 : Int)) (by decide) (by decide)]
      by_cases e : σ 10 2 * (k : Int) ≤ 100
      · rw [if_pos e]
        by_cases e' : σ 10 2 * (k : Int) < 100
        · rw [if_pos e', s32_of (by omega) (by omega)]
          rfl
        · rw [if_neg e', s32_of (by omega) (by omega), show σ 10 2 * (k : Int) = 100 by omega]
          rfl
      · rw [if_neg e, if_neg (by omega), s32_of (by omega) (by omega)]
        rfl
    · show f_X7_lookOver_20 v (v.toNat : Int) _ = _
      unfold f_X7_lookOver_20
      rw [v1, s32_of (z := (v.toNat : Int)) (by omega) (by omega), if_pos (by omega)]
  unfold f_X7_lookOver
  simp only [stp]
  rw [v1, hl, lb_some]
theorem once_back {σ : Mem} {x y z : Int} (h11 : σ 72 11 = 1) (h12 : σ 72 12 = 1) (h13 : σ 72 13 = 0) : f_X7_lookAtOnce (ups (ups (ups σ 72 11 x) 72 12 y) 72 13 z) = some (0, σ) := by
  unfold f_X7_lookAtOnce
  simp only [stp]
  congr 2
  funext a i
  unfold ups
  by_cases e1 : a = 72 ∧ i = 13
  · rw [if_pos e1, e1.1, e1.2, h13]
  · rw [if_neg e1]
    by_cases e2 : a = 72 ∧ i = 12
    · rw [if_pos e2, e2.1, e2.2, h12]
    · rw [if_neg e2]
      by_cases e3 : a = 72 ∧ i = 11
      · rw [if_pos e3, e3.1, e3.2, h11]
      · rw [if_neg e3, if_neg e1, if_neg e2, if_neg e3]
/-- the model's mode over years -/
def ovr (σ : Mem) (v : Int) : Mem := ups (ups σ 120 19 v) 120 20 (if v ≤ 1 then 0 else 1)
theorem m_over {σ : Mem} {v : Int} (hv : s32 v = v) : f_X12_over v σ = some (0, ovr σ v) := by
  unfold f_X12_over ovr
  simp only [stp]
  rw [hv]
  split <;> rfl
theorem m_over1 {σ : Mem} {v x y : Int} (h19 : σ 120 19 = 1) (h20 : σ 120 20 = 0) : f_X12_over 1 (ab (ovr σ v) x y) = some (0, ab σ x y) := by
  rw [m_over (by decide)]
  congr 2
  funext a i
  show (if a = 120 ∧ i = 20 then 0 else if a = 120 ∧ i = 19 then 1 else if a = 120 ∧ i = 21 then x else if a = 120 ∧ i = 22 then y else if a = 120 ∧ i = 20 then (if v ≤ 1 then 0 else 1) else if a = 120 ∧ i = 19 then v else σ a i) = (if a = 120 ∧ i = 21 then x else if a = 120 ∧ i = 22 then y else σ a i)
  by_cases e1 : a = 120 ∧ i = 20
  · rw [if_pos e1, e1.1, e1.2, if_neg (by decide), if_neg (by decide), h20]
  · rw [if_neg e1]
    by_cases e2 : a = 120 ∧ i = 19
    · rw [if_pos e2, e2.1, e2.2, if_neg (by decide), if_neg (by decide), h19]
    · rw [if_neg e2, if_neg e1, if_neg e2]
theorem ovr_ne {σ : Mem} {v a : Int} (h : a ≠ 120) : ovr σ v a = σ a := by
  unfold ovr
  rw [ups_ne h, ups_ne h]
theorem ovr_ni {σ : Mem} {v i : Int} (h : i ≠ 19 ∧ i ≠ 20) : ovr σ v 120 i = σ 120 i := by
  unfold ovr
  rw [ups_ni h.2, ups_ni h.1]
theorem ovr_19 (σ : Mem) (v : Int) : ovr σ v 120 19 = v := by
  unfold ovr
  rw [ups_ni (by decide), ups_at]
theorem ovr_20 (σ : Mem) (v : Int) : ovr σ v 120 20 = if v ≤ 1 then 0 else 1 := by
  unfold ovr
  rw [ups_at]
/-- the two modes of counting agree, but for a factor -/
theorem over_c {n m : Nat} {s : Int → Int} (h : Okm n m s) {v : Int} (hv : 1 ≤ v ∧ v ≤ 12) : ∃ W S K, WSK W S K ∧ ((v = 1 ∧ W = 1 ∧ S = 1 ∧ K = 0) ∨ (1 < v ∧ W = 100 ∧ S = v ∧ K = shS (s 2) v.toNat)) ∧ (∀ (op fit : Int) (k : Nat) (a : Int), ∃ c, (c = 1 ∨ c = 100) ∧ gtp 100 v (shS (s 2) v.toNat) s op fit k a n = c * gtp W S K s op fit k a n ∧ gun 100 s fit a n = c * gun W s fit a n) ∧ (∀ op bars fit : Int, rth 100 v (shS (s 2) v.toNat) s op bars fit n m = rth W S K s op bars fit n m) ∧ WSK 100 v (shS (s 2) v.toNat) := by
  have b := shS_in h.2.2.2.2.1 v.toNat
  have hw : WSK 100 v (shS (s 2) v.toNat) := ⟨by omega, by omega, by omega⟩
  by_cases e : v = 1
  · subst e
    have e2 : shS (s 2) (1 : Int).toNat = 0 := by
      show (0 : Int) + (if s 2 * ((0 : Nat) : Int) ≤ 100 then s 2 * ((0 : Nat) : Int) else 100) = 0
      rw [Int.natCast_zero, Int.mul_zero]
      rfl
    rw [e2] at hw ⊢
    exact ⟨1, 1, 0, wsk1, Or.inl ⟨rfl, rfl, rfl, rfl⟩, fun op fit k a => ⟨c100 a, c100_or a, gtp_100 s op fit k a n, gun_100 s fit a n⟩, fun op bars fit => rth_100 s op bars fit n m, hw⟩
  · exact ⟨100, v, shS (s 2) v.toNat, hw, Or.inr ⟨by omega, rfl, rfl, rfl⟩, fun op fit k a => ⟨1, Or.inl rfl, by omega, by omega⟩, fun op bars fit => rfl, hw⟩
theorem CG.over {σ : Mem} {n m : Nat} {s : Int → Int} {op fit W S K : Int} (m4 : m ≤ 4) (hg : CG σ n m s op fit 1 1 0) (hw : WSK W S K) : CG (ups (ups (ups σ 72 11 W) 72 12 S) 72 13 K) n m s op fit W S K := by
  obtain ⟨hc, hwg, h8, -, -, -, -⟩ := hg
  have r : ∀ a : Int, a ≠ 72 → ups (ups (ups σ 72 11 W) 72 12 S) 72 13 K a = σ a := fun a h => by rw [ups_ne h, ups_ne h, ups_ne h]
  have t : ∀ i : Int, i ≠ 11 ∧ i ≠ 12 ∧ i ≠ 13 → ups (ups (ups σ 72 11 W) 72 12 S) 72 13 K 72 i = σ 72 i := fun i h => by rw [ups_ni h.2.2, ups_ni h.2.1, ups_ni h.1]
  refine ⟨?_, ?_, ?_, ?_, ?_, ?_, hw⟩
  · obtain ⟨h1, h2, h3, h4, h5⟩ := hc
    refine ⟨?_, ?_, ?_, fun k hk => ?_, fun j hj => ?_⟩
    · rw [r 10 (by decide)]; exact h1
    · rw [r 10 (by decide)]; exact h2
    · rw [r 10 (by decide)]; exact h3
    · rw [r 11 (by decide), r 12 (by decide), r 13 (by decide)]
      exact h4 k hk
    · rw [r 14 (by decide), r 15 (by decide), t 8 (by decide), t 9 (by decide)]
      refine ⟨(h5 j hj).1, (h5 j hj).2.1, fun k hk => ?_⟩
      rw [r (16 + 1 + j) (by omega)]
      exact (h5 j hj).2.2 k hk
  · refine ⟨⟨fun k hk => ?_, ?_, fun j hj => ?_⟩, fun j hj => ?_⟩
    · rw [r 73 (by decide)]
      exact hwg.1.1 k hk
    · rw [t 10 (by decide)]
      exact hwg.1.2.1
    · rw [t 10 (by decide)]
      exact hwg.1.2.2 j hj
    · rw [r 74 (by decide), r 75 (by decide)]
      exact hwg.2 j hj
  · rw [t 8 (by decide)]
    exact h8
  · rw [ups_ni (by decide), ups_ni (by decide), ups_at]
  · rw [ups_ni (by decide), ups_at]
  · rw [ups_at]
theorem Md.over {σ : Mem} {v W S K : Int} {s : Int → Int} (es : σ 121 = s) (hv : 1 ≤ v ∧ v ≤ 12) (h : (v = 1 ∧ W = 1 ∧ S = 1 ∧ K = 0) ∨ (1 < v ∧ W = 100 ∧ S = v ∧ K = shS (s 2) v.toNat)) : Md (ovr σ v) W S K := by
  unfold Md
  rw [ovr_19, ovr_20, ovr_ne (by decide), es]
  rcases h with ⟨h1, h2, h3, h4⟩ | ⟨h1, h2, h3, h4⟩
  · left
    subst h1
    exact ⟨rfl, by decide, h2, h3, h4⟩
  · right
    rw [if_neg (by omega)]
    exact ⟨⟨h1, hv.2⟩, rfl, h2, h3, h4⟩
theorem op_years {σ : Mem} (h : Rel σ) {v w x b : Int} (hv : s32 v = v) (hw : s32 w = w) (hx : s32 x = x) (hb : s32 b = b) : Op σ (f_X11_years v w x b) (f_X12_years v w x b) := by
  have x1 := s32_lo x
  have x2 := s32_hi x
  rw [hx] at x1 x2
  unfold Op f_X11_years f_X12_years
  by_cases q : σ 0 6 = 0
  · refine ⟨-4611686018427387904, σ, σ, ?_, ?_, h⟩
    · rw [q, if_pos s32_0]
    · rw [m_closed h q, ob_some, if_pos s32_0]
  · obtain ⟨e1, n, m, hO, hB, hM, e6, e7⟩ := h.mk2 q
    have hn := hO.1.1
    have hm := hO.1.2.1
    rw [e1, if_neg (by decide), c_fitAt hO.1 hB hv, ob_some]
    by_cases c1 : isF n m v
    · rw [bi_t c1, if_neg (by decide), c_sortAt hO.1 hB hw, ob_some]
      by_cases c2 : 0 ≤ w ∧ w < (n : Int)
      · rw [bi_t c2, if_neg (by decide), c_isSpan' hx, ob_some]
        by_cases c4 : 1 ≤ x ∧ x ≤ 12
        · rw [bi_t c4, if_neg (by decide), c_isBit' hb, ob_some]
          by_cases c3 : b = 0 ∨ b = 1
          · obtain ⟨σ1, ew, hg, hB1, hC⟩ := c_weighed hO.1 hB c1
            rw [e6, s32_0] at hg
            have hM1 := hM.co hC.co
            have e121 : σ1 121 = σ 121 := hC.co.row 121 (fun i => by unfold scr; omega)
            obtain ⟨k, hk, rfl⟩ : ∃ k : Nat, k < n ∧ w = k := ⟨w.toNat, by clear hv hw hx hb; omega, by clear hv hw hx hb; omega⟩
            have hdg := isF_dg c1 hk
            obtain ⟨W, S, K, hwk, hcase, hcc, -, hwk2⟩ := over_c hO.1 c4
            obtain ⟨c, hc, ec1, ec2⟩ := hcc 0 v k (dg v k)
            have g1 := gtp_in hO.1 hwk 0 v hk hdg
            have g2 := gun_in hO.1 hwk v (dg v k)
            obtain ⟨r, hr⟩ := two_told_c (x := gtp W S K (σ 121) 0 v k (dg v k) n) (y := gun W (σ 121) v (dg v k) n) (v := b) hc (by clear hv hw hx hb; omega) (by clear hv hw hx hb; omega)
            have p4 := p5_in n hn.2
            have f1 : v ≤ 2147483647 := by have := c1.2.1; clear hv hw hx hb; omega
            have k4 : k ≤ 4 := Nat.le_trans (Nat.le_of_lt hk) hn.2
            have r10 : σ1 10 2 = σ 121 2 := (hC.at 10 2 (by omega)).trans hB.1.2.2.1
            refine ⟨r, σ1, ab σ1 (gtp W S K (σ 121) 0 v k (dg v k) n) (gun W (σ 121) v (dg v k) n), ?_, ?_, (h.co hC.co).co ab_co⟩
            · have hgo := CG.over hm.2 hg hwk2
              rw [bi_t c3, if_neg (by decide), ew, ob_some, c_lookOver c4 (by rw [r10]; exact hO.1.2.2.2.2.1), ob_some, r10, c_ownTop hO.1 hgo c1 hk, ob_some, c_ownUnder hO.1 hgo c1 hk, ob_some, ec1, ec2, (hr _ σ1).1, ob_some, once_back hB1.2.2.1 hB1.2.2.2.1 hB1.2.2.2.2.1, ob_some]
            · have hmd : Md (ovr σ1 x) W S K := Md.over e121 c4 hcase
              have o121 : ovr σ1 x 121 = σ 121 := (ovr_ne (by decide)).trans e121
              have ep := m_findGets (σ := ovr σ1 x) (n := n) (m := m) (by rw [o121]; exact hO.1) hmd c1.1 f1 hk hdg
              rw [o121, ovr_ni (by decide), hM1.2.2.2, s32_0] at ep
              have hS19 : σ1 120 19 = 1 ∧ σ1 120 20 = 0 := by
                rcases hM1.2.1 with ⟨z1, z2, -⟩ | ⟨z1, z2, z3, -⟩
                · exact ⟨z1, z2⟩
                · cases z3
              rw [m_openAt hM1, ob_some, if_neg (by decide), m_fitAt hM1 hv, ob_some, bi_t c1, if_neg (by decide), m_sortAt hM1 hw, ob_some, bi_t c2, if_neg (by decide), hx, m_isInT ⟨x1, x2⟩ (by decide) (by decide), ob_some, bi_t c4, if_neg (by decide), m_bitAt hb, ob_some, bi_t c3, if_neg (by decide), m_over hx, ob_some, m_made c1.1 f1 k4, ob_some, ep, ob_some, m_over1 hS19.1 hS19.2, ob_some, ab_21, ab_22, (hr σ _).2, ob_some]
          · rw [bi_f c3]
            refine ⟨-4611686018427387904, σ, σ, by rw [if_pos s32_0], ?_, h⟩
            rw [m_openAt hM, ob_some, if_neg (by decide), m_fitAt hM hv, ob_some, bi_t c1, if_neg (by decide), m_sortAt hM hw, ob_some, bi_t c2, if_neg (by decide), hx, m_isInT ⟨x1, x2⟩ (by decide) (by decide), ob_some, bi_t c4, if_neg (by decide), m_bitAt hb, ob_some, bi_f c3, if_pos s32_0]
        · rw [bi_f c4]
          refine ⟨-4611686018427387904, σ, σ, by rw [if_pos s32_0], ?_, h⟩
          rw [m_openAt hM, ob_some, if_neg (by decide), m_fitAt hM hv, ob_some, bi_t c1, if_neg (by decide), m_sortAt hM hw, ob_some, bi_t c2, if_neg (by decide), hx, m_isInT ⟨x1, x2⟩ (by decide) (by decide), ob_some, bi_f c4, if_pos s32_0]
      · rw [bi_f c2]
        refine ⟨-4611686018427387904, σ, σ, by rw [if_pos s32_0], ?_, h⟩
        rw [m_openAt hM, ob_some, if_neg (by decide), m_fitAt hM hv, ob_some, bi_t c1, if_neg (by decide), m_sortAt hM hw, ob_some, bi_f c2, if_pos s32_0]
    · rw [bi_f c1]
      refine ⟨-4611686018427387904, σ, σ, by rw [if_pos s32_0], ?_, h⟩
      rw [m_openAt hM, ob_some, if_neg (by decide), m_fitAt hM hv, ob_some, bi_f c1, if_pos s32_0]
theorem op_ratherOver {σ : Mem} (h : Rel σ) {v x : Int} (hv : s32 v = v) (hx : s32 x = x) : Op σ (f_X11_ratherOver v x) (f_X12_ratherOver v x) := by
  have x1 := s32_lo x
  have x2 := s32_hi x
  rw [hx] at x1 x2
  unfold Op f_X11_ratherOver f_X12_ratherOver f_X11_fitFault
  by_cases q : σ 0 6 = 0
  · refine ⟨-3, σ, σ, ?_, ?_, h⟩
    · rw [q, if_pos s32_0, ob_some, if_neg (by decide)]
    · rw [m_closed h q, ob_some, if_pos s32_0]
  · obtain ⟨e1, n, m, hO, hB, hM, e6, e7⟩ := h.mk2 q
    have hn := hO.1.1
    have hm := hO.1.2.1
    rw [e1, if_neg (by decide), c_fitAt hO.1 hB hv, ob_some]
    by_cases c1 : isF n m v
    · rw [bi_t c1, if_neg (by decide), ob_some, if_pos s32_0, c_isSpan' hx, ob_some]
      by_cases c4 : 1 ≤ x ∧ x ≤ 12
      · obtain ⟨σ1, ew, hg, hB1, hC⟩ := c_weighed hO.1 hB c1
        rw [e6, s32_0] at hg
        have hM1 := hM.co hC.co
        have e121 : σ1 121 = σ 121 := hC.co.row 121 (fun i => by unfold scr; omega)
        obtain ⟨W, S, K, hwk, hcase, -, hrt, hwk2⟩ := over_c hO.1 c4
        have r10 : σ1 10 2 = σ 121 2 := (hC.at 10 2 (by omega)).trans hB.1.2.2.1
        have hmd : Md (ovr σ1 x) W S K := Md.over e121 c4 hcase
        have o121 : ovr σ1 x 121 = σ 121 := (ovr_ne (by decide)).trans e121
        obtain ⟨u, y, er⟩ := m_ratherOf (σ := ovr σ1 x) (n := n) (m := m) (by rw [o121]; exact hO.1) hmd c1 (by rw [ovr_ni (by decide), hM1.2.2.1]; omega)
        rw [o121, ovr_ni (by decide), ovr_ni (by decide), hM1.2.2.2, hM1.2.2.1, s32_0] at er
        have hS19 : σ1 120 19 = 1 ∧ σ1 120 20 = 0 := by
          rcases hM1.2.1 with ⟨z1, z2, -⟩ | ⟨z1, z2, z3, -⟩
          · exact ⟨z1, z2⟩
          · cases z3
        have h77 : σ1 72 7 = 0 := (hC.at 72 7 (by omega)).trans e7
        refine ⟨rth W S K (σ 121) 0 0 v n m, σ1, ab σ1 u y, ?_, ?_, (h.co hC.co).co ab_co⟩
        · have hgo := CG.over hm.2 hg hwk2
          have u7 : ups (ups (ups σ1 72 11 100) 72 12 x) 72 13 (shS (σ 121 2) x.toNat) 72 7 = 0 := by
            rw [ups_ni (by decide), ups_ni (by decide), ups_ni (by decide), h77]
          have ef := c_firstRather hO.1 hgo c1 (by rw [u7]; omega)
          rw [u7] at ef
          rw [bi_t c4, if_neg (by decide), ew, ob_some, c_lookOver c4 (by rw [r10]; exact hO.1.2.2.2.2.1), ob_some, r10, ef, ob_some, once_back hB1.2.2.1 hB1.2.2.2.1 hB1.2.2.2.2.1, ob_some, hrt]
        · rw [m_openAt hM1, ob_some, if_neg (by decide), m_fitAt hM1 hv, ob_some, bi_t c1, if_neg (by decide), hx, m_isInT ⟨x1, x2⟩ (by decide) (by decide), ob_some, bi_t c4, if_neg (by decide), m_over hx, ob_some, er, ob_some, m_over1 hS19.1 hS19.2, ob_some]
      · refine ⟨-1, σ, σ, by rw [bi_f c4, if_pos s32_0], ?_, h⟩
        rw [m_openAt hM, ob_some, if_neg (by decide), m_fitAt hM hv, ob_some, bi_t c1, if_neg (by decide), hx, m_isInT ⟨x1, x2⟩ (by decide) (by decide), ob_some, bi_f c4, if_pos s32_0]
    · refine ⟨-1, σ, σ, ?_, ?_, h⟩
      · rw [bi_f c1, if_pos s32_0, ob_some, if_neg (by decide)]
      · rw [m_openAt hM, ob_some, if_neg (by decide), m_fitAt hM hv, ob_some, bi_f c1, if_pos s32_0]
