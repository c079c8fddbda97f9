/-! PURE 38: just not -/
theorem gun1_in {n m : Nat} {s : Int → Int} (h : Okm n m s) (fit a : Int) : 1 ≤ gun 1 s fit a n ∧ gun 1 s fit a n ≤ 400 := by
  have h1 := pyU_in h fit a
  unfold gun
  split <;> omega
theorem gtp1_in {n m : Nat} {s : Int → Int} (h : Okm n m s) (op fit : Int) {k : Nat} (hk : k < n) {a : Int} (ha : a = 4 ∨ (0 ≤ a ∧ a < (m : Int))) : -800000 ≤ gtp 1 1 0 s op fit k a n ∧ gtp 1 1 0 s op fit k a n ≤ 800000 := by
  have q := h.2.2.2.2.2.1 k hk
  unfold gtp
  by_cases c : a = 4
  · rw [if_pos c]
    omega
  · rw [if_neg c]
    obtain ⟨j, hj, rfl⟩ : ∃ j : Nat, j < m ∧ a = j := ⟨a.toNat, by omega, by omega⟩
    have h1 := pyT_in h op fit hj
    have h2 := pyU_in h fit j
    have h3 := (h.2.2.2.2.2.2 j hj).2.2 k hk
    have h8 := mul_in (a := s (19 + 4 * (j : Int) + k)) (b := pyU s fit j n) h3 ⟨by omega, h2.2⟩
    simp only [Int.zero_mul, Int.mul_one]
    omega
def jsT (s : Int → Int) (fit : Int) (n k : Nat) (a : Int) : Int := gtp 1 1 0 s 0 fit k (dg fit k) n * gun 1 s fit a n - gtp 1 1 0 s 0 fit k a n * gun 1 s fit (dg fit k) n
def jsU (s : Int → Int) (fit : Int) (n k : Nat) (a : Int) : Int := gun 1 s fit (dg fit k) n * gun 1 s fit a n
def js (s : Int → Int) (fit : Int) (n k : Nat) (p : Int × Int × Int) (a : Int) : Int × Int × Int :=
  if a = dg fit k then p else if p.1 = -4 then (10 * (k : Int) + a, jsT s fit n k a, jsU s fit n k a) else if p.2.1 * jsU s fit n k a ≤ jsT s fit n k a * p.2.2 then p else (10 * (k : Int) + a, jsT s fit n k a, jsU s fit n k a)
def JB (p : Int × Int × Int) : Prop := (p.1 = -4 ∨ (0 ≤ p.1 ∧ p.1 ≤ 44)) ∧ (-640000000 ≤ p.2.1 ∧ p.2.1 ≤ 640000000) ∧ (1 ≤ p.2.2 ∧ p.2.2 ≤ 160000)
theorem jsT_in {n m : Nat} {s : Int → Int} (h : Okm n m s) {fit : Int} (hF : isF n m fit) {k : Nat} (hk : k < n) {a : Int} (ha : a = 4 ∨ (0 ≤ a ∧ a < (m : Int))) : -640000000 ≤ jsT s fit n k a ∧ jsT s fit n k a ≤ 640000000 := by
  have g1 := gtp1_in h 0 fit hk (isF_dg hF hk)
  have g2 := gun1_in h fit a
  have g3 := gtp1_in h 0 fit hk ha
  have g4 := gun1_in h fit (dg fit k)
  have c1 := mul_in2 (a := gun 1 s fit a n) (b := gtp 1 1 0 s 0 fit k (dg fit k) n) (A := 400) (B := 800000) (by omega) (by omega)
  have c2 := mul_in2 (a := gun 1 s fit (dg fit k) n) (b := gtp 1 1 0 s 0 fit k a n) (A := 400) (B := 800000) (by omega) (by omega)
  unfold jsT
  rw [Int.mul_comm (gtp 1 1 0 s 0 fit k (dg fit k) n), Int.mul_comm (gtp 1 1 0 s 0 fit k a n)]
  omega
theorem jsU_in {n m : Nat} {s : Int → Int} (h : Okm n m s) (fit : Int) (k : Nat) (a : Int) : 1 ≤ jsU s fit n k a ∧ jsU s fit n k a ≤ 160000 := by
  have g2 := gun1_in h fit a
  have g4 := gun1_in h fit (dg fit k)
  have c1 := mul_in (a := gun 1 s fit (dg fit k) n) (b := gun 1 s fit a n) (A := 400) (B := 400) (by omega) (by omega)
  have c2 : 1 * 1 ≤ gun 1 s fit (dg fit k) n * gun 1 s fit a n := Int.mul_le_mul g4.1 g2.1 (by omega) (by omega)
  unfold jsU
  omega
theorem js_JB {n m : Nat} {s : Int → Int} (h : Okm n m s) {fit : Int} (hF : isF n m fit) {k : Nat} (hk : k < n) {a : Int} (ha : a = 4 ∨ (0 ≤ a ∧ a < (m : Int))) {p : Int × Int × Int} (hp : JB p) : JB (js s fit n k p a) := by
  have hn := h.1
  have hm := h.2.1
  have a1 := jsT_in h hF hk ha
  have a2 := jsU_in h fit k a
  have new : JB (10 * (k : Int) + a, jsT s fit n k a, jsU s fit n k a) := ⟨Or.inr ⟨by show 0 ≤ 10 * (k : Int) + a; omega, by show 10 * (k : Int) + a ≤ 44; omega⟩, a1, a2⟩
  unfold js
  (repeat' split)
  · exact hp
  · exact new
  · exact hp
  · exact new
theorem JB.mul {p : Int × Int × Int} (hp : JB p) {t u : Int} (ht : -640000000 ≤ t ∧ t ≤ 640000000) (hu : 1 ≤ u ∧ u ≤ 160000) : s64 (p.2.1 * u) = p.2.1 * u ∧ s64 (t * p.2.2) = t * p.2.2 := by
  have c1 := mul_in2 (a := u) (b := p.2.1) (A := 160000) (B := 640000000) (by omega) hp.2.1
  have c2 := mul_in2 (a := p.2.2) (b := t) (A := 160000) (B := 640000000) (by have := hp.2.2; omega) ht
  rw [Int.mul_comm p.2.1, Int.mul_comm t]
  exact ⟨s64_of (by omega) (by omega), s64_of (by omega) (by omega)⟩
/-- over the marks, in their order -/
def jm (s : Int → Int) (fit : Int) (n k : Nat) (p : Int × Int × Int) : Nat → Int × Int × Int
  | 0 => p
  | j + 1 => js s fit n k (jm s fit n k p j) (j : Int)
theorem jm_JB {n m : Nat} {s : Int → Int} (h : Okm n m s) {fit : Int} (hF : isF n m fit) {k : Nat} (hk : k < n) {p : Int × Int × Int} (hp : JB p) : ∀ j : Nat, j ≤ m → JB (jm s fit n k p j)
  | 0, _ => hp
  | j + 1, hj => js_JB h hF hk (Or.inr ⟨by omega, by omega⟩) (jm_JB h hF hk hp j (by omega))
def jk (s : Int → Int) (fit : Int) (n m : Nat) : Nat → Int × Int × Int
  | 0 => (-4, 0, 1)
  | k + 1 => js s fit n k (jm s fit n k (jk s fit n m k) m) 4
theorem jk_JB {n m : Nat} {s : Int → Int} (h : Okm n m s) {fit : Int} (hF : isF n m fit) : ∀ k : Nat, k ≤ n → JB (jk s fit n m k)
  | 0, _ => ⟨Or.inl rfl, (by decide : (-640000000 : Int) ≤ 0 ∧ (0 : Int) ≤ 640000000), (by decide : (1 : Int) ≤ 1 ∧ (1 : Int) ≤ 160000)⟩
  | k + 1, hk => js_JB h hF (by omega) (Or.inl rfl) (jm_JB h hF (by omega) (jk_JB h hF k (by omega)) m (Nat.le_refl m))
theorem c_loss {σ : Mem} {n m : Nat} {s : Int → Int} {fit : Int} (h : Okm n m s) (hg : CG σ n m s 0 fit 1 1 0) (hF : isF n m fit) {k : Nat} (hk : k < n) {j : Nat} (hj : j < m) {p : Int × Int × Int} (hp : JB p) : f_X7_leastLoss_26 k p.1 p.2.1 p.2.2 (j : Int) σ = some (Sum.inl ((js s fit n k p j).1, (js s fit n k p j).2.1, (js s fit n k p j).2.2, (j : Int) + 1, σ)) := by
  have hn := h.1
  have hm := h.2.1
  have k4 := fin4 hk hn.2
  have hd := dg_in fit k
  have ja : (j : Int) = 4 ∨ (0 ≤ (j : Int) ∧ (j : Int) < (m : Int)) := by omega
  have a1 := jsT_in h hF hk ja
  have a2 := jsU_in h fit k (j : Int)
  have hmu := hp.mul a1 a2
  unfold f_X7_leastLoss_26
  rw [hg.1.2.1, s32_of (z := (m : Int)) (by omega) (by omega), s32_of (z := (j : Int)) (by omega) (by omega), if_neg (by omega), if_neg (by omega), c_ownTop h hg hF hk, ob_some, c_underAt h hg ja, ob_some, c_topAt h hg hk ja, ob_some, c_ownUnder h hg hF hk, ob_some]
  simp only [vl]
  rw [c_ownUnder h hg hF hk, ob_some, c_underAt h hg ja, ob_some, s32_of (z := (k : Int)) (by omega) (by omega), hg.2.1.1.1 k hk, s32_of (z := dg fit k) (by omega) (by omega), s32_of (z := p.1) (by have := hp.1; omega) (by have := hp.1; omega)]
  show (if p.1 = -4 then (if 0 ≤ (k : Int) ∧ (k : Int) < 4 then if (j : Int) = dg fit k then some (Sum.inl (p.1, p.2.1, p.2.2, (j : Int) + 1, σ)) else some (Sum.inl (10 * (k : Int) + j, jsT s fit n k j, jsU s fit n k j, (j : Int) + 1, σ)) else none) else (if s64 (p.2.1 * jsU s fit n k j) ≤ s64 (jsT s fit n k j * p.2.2) then (if 0 ≤ (k : Int) ∧ (k : Int) < 4 then if (j : Int) = dg fit k then some (Sum.inl (p.1, p.2.1, p.2.2, (j : Int) + 1, σ)) else some (Sum.inl (p.1, p.2.1, p.2.2, (j : Int) + 1, σ)) else none) else (if 0 ≤ (k : Int) ∧ (k : Int) < 4 then if (j : Int) = dg fit k then some (Sum.inl (p.1, p.2.1, p.2.2, (j : Int) + 1, σ)) else some (Sum.inl (10 * (k : Int) + j, jsT s fit n k j, jsU s fit n k j, (j : Int) + 1, σ)) else none))) = _
  rw [hmu.1, hmu.2, if_pos k4, if_pos k4]
  unfold js
  by_cases c1 : (j : Int) = dg fit k
  · simp only [if_pos c1]
    (repeat' split) <;> rfl
  · simp only [if_neg c1]
    by_cases c2 : p.1 = -4
    · simp only [if_pos c2]
    · simp only [if_neg c2]
      by_cases c3 : p.2.1 * jsU s fit n k j ≤ jsT s fit n k j * p.2.2
      · simp only [if_pos c3]
      · simp only [if_neg c3]
theorem c_loss4 {σ : Mem} {n m : Nat} {s : Int → Int} {fit : Int} (h : Okm n m s) (hg : CG σ n m s 0 fit 1 1 0) (hF : isF n m fit) {k : Nat} (hk : k < n) {p : Int × Int × Int} (hp : JB p) : f_X7_leastLoss_26 k p.1 p.2.1 p.2.2 (m : Int) σ = some (Sum.inl ((js s fit n k p 4).1, (js s fit n k p 4).2.1, (js s fit n k p 4).2.2, (m : Int) + 1, σ)) := by
  have hn := h.1
  have hm := h.2.1
  have k4 := fin4 hk hn.2
  have hd := dg_in fit k
  have ja : (4 : Int) = 4 ∨ (0 ≤ (4 : Int) ∧ (4 : Int) < (m : Int)) := Or.inl rfl
  have a1 := jsT_in h hF hk ja
  have a2 := jsU_in h fit k 4
  have hmu := hp.mul a1 a2
  unfold f_X7_leastLoss_26
  rw [hg.1.2.1, if_neg (Int.lt_irrefl _), if_pos rfl, c_ownTop h hg hF hk, ob_some, c_underAt h hg ja, ob_some, c_topAt h hg hk ja, ob_some, c_ownUnder h hg hF hk, ob_some]
  simp only [vl]
  rw [c_ownUnder h hg hF hk, ob_some, c_underAt h hg ja, ob_some, s32_of (z := (k : Int)) (by omega) (by omega), hg.2.1.1.1 k hk, s32_of (z := dg fit k) (by omega) (by omega), s32_of (z := p.1) (by have := hp.1; omega) (by have := hp.1; omega)]
  show (if p.1 = -4 then (if 0 ≤ (k : Int) ∧ (k : Int) < 4 then if 4 = dg fit k then some (Sum.inl (p.1, p.2.1, p.2.2, (m : Int) + 1, σ)) else some (Sum.inl (10 * (k : Int) + 4, jsT s fit n k 4, jsU s fit n k 4, (m : Int) + 1, σ)) else none) else (if s64 (p.2.1 * jsU s fit n k 4) ≤ s64 (jsT s fit n k 4 * p.2.2) then (if 0 ≤ (k : Int) ∧ (k : Int) < 4 then if 4 = dg fit k then some (Sum.inl (p.1, p.2.1, p.2.2, (m : Int) + 1, σ)) else some (Sum.inl (p.1, p.2.1, p.2.2, (m : Int) + 1, σ)) else none) else (if 0 ≤ (k : Int) ∧ (k : Int) < 4 then if 4 = dg fit k then some (Sum.inl (p.1, p.2.1, p.2.2, (m : Int) + 1, σ)) else some (Sum.inl (10 * (k : Int) + 4, jsT s fit n k 4, jsU s fit n k 4, (m : Int) + 1, σ)) else none))) = _
  rw [hmu.1, hmu.2, if_pos k4, if_pos k4]
  unfold js
  by_cases c1 : 4 = dg fit k
  · simp only [if_pos c1]
    (repeat' split) <;> rfl
  · simp only [if_neg c1]
    by_cases c2 : p.1 = -4
    · simp only [if_pos c2]
    · simp only [if_neg c2]
      by_cases c3 : p.2.1 * jsU s fit n k 4 ≤ jsT s fit n k 4 * p.2.2
      · simp only [if_pos c3]
      · simp only [if_neg c3]
theorem c_leastLoss {σ : Mem} {n m : Nat} {s : Int → Int} {fit : Int} (h : Okm n m s) (hg : CG σ n m s 0 fit 1 1 0) (hF : isF n m fit) : f_X7_leastLoss σ = some ((jk s fit n m n).1, σ) := by
  have hn := h.1
  have hm := h.2.1
  have inner : ∀ (k : Nat) (p : Int × Int × Int), k < n → JB p → itr (fun z => f_X7_leastLoss_26 k z.1 z.2.1 z.2.2.1 z.2.2.2.1 z.2.2.2.2) FU (p.1, p.2.1, p.2.2, 0, σ) = some ((js s fit n k (jm s fit n k p m) 4).1, (js s fit n k (jm s fit n k p m) 4).2.1, (js s fit n k (jm s fit n k p m) 4).2.2, σ) := by
    intro k p hk hp
    obtain ⟨b, e, hb⟩ := itr_forH (f := fun z : Int × Int × Int × Int × Mem => f_X7_leastLoss_26 k z.1 z.2.1 z.2.2.1 z.2.2.2.1 z.2.2.2.2) (fun j z => ∃ r : Int × Int × Int, z = (r.1, r.2.1, r.2.2, (j : Int), σ) ∧ ((j ≤ m ∧ r = jm s fit n k p j) ∨ (j = m + 1 ∧ r = js s fit n k (jm s fit n k p m) 4))) (fun b => b = ((js s fit n k (jm s fit n k p m) 4).1, (js s fit n k (jm s fit n k p m) 4).2.1, (js s fit n k (jm s fit n k p m) 4).2.2, σ)) (m + 1) (by omega) (x := (p.1, p.2.1, p.2.2, 0, σ)) ⟨p, rfl, Or.inl ⟨Nat.zero_le _, rfl⟩⟩ (fun j hj z hz => by
      obtain ⟨r, rfl, hr⟩ := hz
      have hr2 : r = jm s fit n k p j := by
        rcases hr with w | w
        · exact w.2
        · omega
      have hJ := jm_JB h hF hk hp j (by omega)
      rw [← hr2] at hJ
      by_cases e : j < m
      · refine ⟨_, c_loss h hg hF hk e hJ, js s fit n k r j, rfl, Or.inl ⟨by omega, ?_⟩⟩
        rw [hr2]
        rfl
      · have e2 : j = m := by omega
        subst e2
        refine ⟨_, c_loss4 h hg hF hk hJ, js s fit n k r 4, rfl, Or.inr ⟨rfl, by rw [hr2]⟩⟩) (fun z hz => by
      obtain ⟨r, rfl, hr⟩ := hz
      have hr2 : r = js s fit n k (jm s fit n k p m) 4 := by
        rcases hr with w | w
        · omega
        · exact w.2
      refine ⟨_, ?_, rfl⟩
      show f_X7_leastLoss_26 k r.1 r.2.1 r.2.2 ((m + 1 : Nat) : Int) σ = _
      unfold f_X7_leastLoss_26
      rw [hg.1.2.1, s32_of (z := (m : Int)) (by omega) (by omega), s32_of (z := ((m + 1 : Nat) : Int)) (by omega) (by omega), if_pos (by omega), hr2])
    rw [e, hb]
  have outer : itr (fun z => f_X7_leastLoss_11 z.1 z.2.1 z.2.2.1 z.2.2.2.1 z.2.2.2.2) FU (-4, 0, 1, 0, σ) = some ((jk s fit n m n).1, σ) := by
    refine itr_for0 (fun k => ((jk s fit n m k).1, (jk s fit n m k).2.1, (jk s fit n m k).2.2, (k : Int), σ)) n _ (by omega) (fun k hk => ?_) ?_
    · show f_X7_leastLoss_11 (jk s fit n m k).1 (jk s fit n m k).2.1 (jk s fit n m k).2.2 (k : Int) σ = _
      unfold f_X7_leastLoss_11
      rw [hg.1.1, s32_of (z := (n : Int)) (by omega) (by omega), s32_of (z := (k : Int)) (by omega) (by omega), if_neg (by omega), inner k _ hk (jk_JB h hF k (by omega)), lb_some]
      rfl
    · show f_X7_leastLoss_11 (jk s fit n m n).1 (jk s fit n m n).2.1 (jk s fit n m n).2.2 (n : Int) σ = _
      unfold f_X7_leastLoss_11
      rw [hg.1.1, if_pos (Int.le_refl _)]
  unfold f_X7_leastLoss
  rw [outer, lb_some]
theorem m_loss {σ : Mem} {n m : Nat} (hM : MS σ n m) {fit : Int} (hF : isF n m fit) {k : Nat} (hk : k < n) {a : Nat} (ha : a = 4 ∨ a < m) {p : Int × Int × Int} (hp : JB p) (x y : Int) : ∃ u v, f_X12_justNot_81 fit k (gtp 1 1 0 (σ 121) 0 fit k (dg fit k) n) (gun 1 (σ 121) fit (dg fit k) n) p.1 p.2.1 p.2.2 (a : Int) (ab σ x y) = some (Sum.inl ((js (σ 121) fit n k p a).1, (js (σ 121) fit n k p a).2.1, (js (σ 121) fit n k p a).2.2, (a : Int) + 1, ab σ u v)) := by
  have h := hM.1
  have hn := h.1
  have hm := h.2.1
  have p4 := p5_in n hn.2
  have f1 : fit ≤ 2147483647 := by have := hF.2.1; omega
  have hd := dg_in fit k
  have ja : (a : Int) = 4 ∨ (0 ≤ (a : Int) ∧ (a : Int) < (m : Int)) := by omega
  have a1 := jsT_in h hF hk ja
  have a2 := jsU_in h fit k (a : Int)
  have hmu := hp.mul a1 a2
  have eg := m_findGets_ab h hM.2.1 hF.1 f1 hk ja x y
  rw [hM.2.2.2, s32_0] at eg
  unfold f_X12_justNot_81
  rw [s32_of (z := (a : Int)) (by omega) (by omega), if_neg (by omega), m_made hF.1 f1 (by omega), ob_some, s32_of (z := dg fit k) (by omega) (by omega)]
  unfold js
  by_cases c1 : (a : Int) = dg fit k
  · refine ⟨x, y, ?_⟩
    simp only [if_pos c1]
  · refine ⟨gtp 1 1 0 (σ 121) 0 fit k a n, gun 1 (σ 121) fit a n, ?_⟩
    rw [if_neg c1]
    have tail : (if s32 p.1 < 0 then some (Sum.inl (10 * (k : Int) + a, gtp 1 1 0 (σ 121) 0 fit k (dg fit k) n * ab σ (gtp 1 1 0 (σ 121) 0 fit k a n) (gun 1 (σ 121) fit a n) 120 22 - ab σ (gtp 1 1 0 (σ 121) 0 fit k a n) (gun 1 (σ 121) fit a n) 120 21 * gun 1 (σ 121) fit (dg fit k) n, gun 1 (σ 121) fit (dg fit k) n * ab σ (gtp 1 1 0 (σ 121) 0 fit k a n) (gun 1 (σ 121) fit a n) 120 22, (a : Int) + 1, ab σ (gtp 1 1 0 (σ 121) 0 fit k a n) (gun 1 (σ 121) fit a n))) else if s64 ((gtp 1 1 0 (σ 121) 0 fit k (dg fit k) n * ab σ (gtp 1 1 0 (σ 121) 0 fit k a n) (gun 1 (σ 121) fit a n) 120 22 - ab σ (gtp 1 1 0 (σ 121) 0 fit k a n) (gun 1 (σ 121) fit a n) 120 21 * gun 1 (σ 121) fit (dg fit k) n) * p.2.2) < s64 (p.2.1 * (gun 1 (σ 121) fit (dg fit k) n * ab σ (gtp 1 1 0 (σ 121) 0 fit k a n) (gun 1 (σ 121) fit a n) 120 22)) then some (Sum.inl (10 * (k : Int) + a, gtp 1 1 0 (σ 121) 0 fit k (dg fit k) n * ab σ (gtp 1 1 0 (σ 121) 0 fit k a n) (gun 1 (σ 121) fit a n) 120 22 - ab σ (gtp 1 1 0 (σ 121) 0 fit k a n) (gun 1 (σ 121) fit a n) 120 21 * gun 1 (σ 121) fit (dg fit k) n, gun 1 (σ 121) fit (dg fit k) n * ab σ (gtp 1 1 0 (σ 121) 0 fit k a n) (gun 1 (σ 121) fit a n) 120 22, (a : Int) + 1, ab σ (gtp 1 1 0 (σ 121) 0 fit k a n) (gun 1 (σ 121) fit a n))) else some (Sum.inl (p.1, p.2.1, p.2.2, (a : Int) + 1, ab σ (gtp 1 1 0 (σ 121) 0 fit k a n) (gun 1 (σ 121) fit a n))) : Option ((Int × Int × Int × Int × Mem) ⊕ (Int × Int × Int × Mem))) = some (Sum.inl ((if (a : Int) = dg fit k then p else if p.1 = -4 then (10 * (k : Int) + a, jsT (σ 121) fit n k a, jsU (σ 121) fit n k a) else if p.2.1 * jsU (σ 121) fit n k a ≤ jsT (σ 121) fit n k a * p.2.2 then p else (10 * (k : Int) + a, jsT (σ 121) fit n k a, jsU (σ 121) fit n k a)).1, (if (a : Int) = dg fit k then p else if p.1 = -4 then (10 * (k : Int) + a, jsT (σ 121) fit n k a, jsU (σ 121) fit n k a) else if p.2.1 * jsU (σ 121) fit n k a ≤ jsT (σ 121) fit n k a * p.2.2 then p else (10 * (k : Int) + a, jsT (σ 121) fit n k a, jsU (σ 121) fit n k a)).2.1, (if (a : Int) = dg fit k then p else if p.1 = -4 then (10 * (k : Int) + a, jsT (σ 121) fit n k a, jsU (σ 121) fit n k a) else if p.2.1 * jsU (σ 121) fit n k a ≤ jsT (σ 121) fit n k a * p.2.2 then p else (10 * (k : Int) + a, jsT (σ 121) fit n k a, jsU (σ 121) fit n k a)).2.2, (a : Int) + 1, ab σ (gtp 1 1 0 (σ 121) 0 fit k a n) (gun 1 (σ 121) fit a n))) := by
      rw [ab_21, ab_22]
      show (if s32 p.1 < 0 then some (Sum.inl (10 * (k : Int) + a, jsT (σ 121) fit n k a, jsU (σ 121) fit n k a, (a : Int) + 1, ab σ (gtp 1 1 0 (σ 121) 0 fit k a n) (gun 1 (σ 121) fit a n))) else if s64 (jsT (σ 121) fit n k a * p.2.2) < s64 (p.2.1 * jsU (σ 121) fit n k a) then some (Sum.inl (10 * (k : Int) + a, jsT (σ 121) fit n k a, jsU (σ 121) fit n k a, (a : Int) + 1, ab σ (gtp 1 1 0 (σ 121) 0 fit k a n) (gun 1 (σ 121) fit a n))) else some (Sum.inl (p.1, p.2.1, p.2.2, (a : Int) + 1, ab σ (gtp 1 1 0 (σ 121) 0 fit k a n) (gun 1 (σ 121) fit a n)))) = _
      rw [hmu.1, hmu.2, s32_of (z := p.1) (by have := hp.1; omega) (by have := hp.1; omega)]
      simp only [if_neg c1]
      by_cases c2 : p.1 = -4
      · simp only [if_pos c2]
        rw [if_pos (by omega)]
      · simp only [if_neg c2]
        rw [if_neg (by have := hp.1; omega)]
        by_cases c3 : p.2.1 * jsU (σ 121) fit n k a ≤ jsT (σ 121) fit n k a * p.2.2
        · simp only [if_pos c3]
          rw [if_neg (by omega)]
        · simp only [if_neg c3]
          rw [if_pos (by omega)]
    by_cases c4 : (a : Int) = 4
    · rw [if_pos c4, eg, ob_some]
      exact tail
    · rw [if_neg c4, m_isMark (s32_of (by omega) (by omega)) (by rw [ab_s, h.2.2.2.1]; omega), ob_some, ab_s, h.2.2.2.1, bi_t (by omega), if_neg (by decide), eg, ob_some]
      exact tail
theorem m_lossNo {σ : Mem} {n m : Nat} (hM : MS σ n m) {fit : Int} (hF : isF n m fit) {k : Nat} (hk : k < n) {a : Nat} (ha : ¬ a < m) (h4 : a < 4) (p : Int × Int × Int) (q1 q2 x y : Int) : f_X12_justNot_81 fit k q1 q2 p.1 p.2.1 p.2.2 (a : Int) (ab σ x y) = some (Sum.inl (p.1, p.2.1, p.2.2, (a : Int) + 1, ab σ x y)) := by
  have h := hM.1
  have hn := h.1
  have hm := h.2.1
  have p4 := p5_in n hn.2
  have f1 : fit ≤ 2147483647 := by have := hF.2.1; omega
  have hd := isF_dg hF hk
  unfold f_X12_justNot_81
  rw [s32_of (z := (a : Int)) (by omega) (by omega), if_neg (by omega), m_made hF.1 f1 (by omega), ob_some, s32_of (z := dg fit k) (by omega) (by omega), if_neg (by omega), if_neg (by omega), m_isMark (s32_of (by omega) (by omega)) (by rw [ab_s, h.2.2.2.1]; omega), ob_some, ab_s, h.2.2.2.1, bi_f (by omega), if_pos s32_0]
theorem m_leastLoss {σ : Mem} {n m : Nat} (hM : MS σ n m) {fit : Int} (hF : isF n m fit) : ∃ x y, itr (fun z => f_X12_justNot_42 fit z.1 z.2.1 z.2.2.1 z.2.2.2.1 z.2.2.2.2) FU (-4, 0, 1, 0, σ) = some ((jk (σ 121) fit n m n).1, ab σ x y) := by
  have h := hM.1
  have hn := h.1
  have hm := h.2.1
  have p4 := p5_in n hn.2
  have f1 : fit ≤ 2147483647 := by have := hF.2.1; omega
  have inner : ∀ (k : Nat) (p : Int × Int × Int) (x y : Int), k < n → JB p → ∃ b, itr (fun z => f_X12_justNot_81 fit k (gtp 1 1 0 (σ 121) 0 fit k (dg fit k) n) (gun 1 (σ 121) fit (dg fit k) n) z.1 z.2.1 z.2.2.1 z.2.2.2.1 z.2.2.2.2) FU (p.1, p.2.1, p.2.2, 0, ab σ x y) = some b ∧ ∃ u v, b = ((js (σ 121) fit n k (jm (σ 121) fit n k p m) 4).1, (js (σ 121) fit n k (jm (σ 121) fit n k p m) 4).2.1, (js (σ 121) fit n k (jm (σ 121) fit n k p m) 4).2.2, ab σ u v) := by
    intro k p x y hk hp
    refine itr_forH (fun j z => ∃ (r : Int × Int × Int) (u v : Int), z = (r.1, r.2.1, r.2.2, (j : Int), ab σ u v) ∧ ((j ≤ m ∧ r = jm (σ 121) fit n k p j) ∨ (m < j ∧ j ≤ 4 ∧ r = jm (σ 121) fit n k p m) ∨ (j = 5 ∧ r = js (σ 121) fit n k (jm (σ 121) fit n k p m) 4))) _ 5 (by omega) ⟨p, x, y, rfl, Or.inl ⟨Nat.zero_le _, rfl⟩⟩ (fun j hj z hz => ?_) (fun z hz => ?_)
    · obtain ⟨r, u, v, rfl, hr⟩ := hz
      by_cases e4 : j = 4
      · subst e4
        have hr2 : r = jm (σ 121) fit n k p m := by
          rcases hr with w | w | w
          · rw [w.2, show m = 4 by omega]
          · exact w.2.2
          · omega
        have hJ := jm_JB h hF hk hp m (Nat.le_refl m)
        rw [← hr2] at hJ
        obtain ⟨u', v', e⟩ := m_loss hM hF hk (a := 4) (Or.inl rfl) hJ u v
        refine ⟨_, e, js (σ 121) fit n k r 4, u', v', rfl, Or.inr (Or.inr ⟨rfl, by rw [hr2]⟩)⟩
      · by_cases e : j < m
        · have hr2 : r = jm (σ 121) fit n k p j := by
            rcases hr with w | w | w
            · exact w.2
            · omega
            · omega
          have hJ := jm_JB h hF hk hp j (by omega)
          rw [← hr2] at hJ
          obtain ⟨u', v', e2⟩ := m_loss hM hF hk (a := j) (Or.inr e) hJ u v
          refine ⟨_, e2, js (σ 121) fit n k r j, u', v', rfl, Or.inl ⟨by omega, ?_⟩⟩
          rw [hr2]
          rfl
        · have hr2 : r = jm (σ 121) fit n k p m := by
            rcases hr with w | w | w
            · rw [w.2, show j = m by omega]
            · exact w.2.2
            · omega
          refine ⟨_, m_lossNo hM hF hk (a := j) e (by omega) r _ _ u v, r, u, v, rfl, Or.inr (Or.inl ⟨by omega, by omega, hr2⟩)⟩
    · obtain ⟨r, u, v, rfl, hr⟩ := hz
      have hr2 : r = js (σ 121) fit n k (jm (σ 121) fit n k p m) 4 := by
        rcases hr with w | w | w
        · omega
        · omega
        · exact w.2
      refine ⟨(r.1, r.2.1, r.2.2, ab σ u v), ?_, u, v, by rw [hr2]⟩
      show f_X12_justNot_81 fit k _ _ r.1 r.2.1 r.2.2 ((5 : Nat) : Int) (ab σ u v) = _
      unfold f_X12_justNot_81
      rw [if_pos (by decide)]
  have hl : ∃ b, itr (fun z => f_X12_justNot_42 fit z.1 z.2.1 z.2.2.1 z.2.2.2.1 z.2.2.2.2) FU (-4, 0, 1, 0, σ) = some b ∧ ∃ x y, b = ((jk (σ 121) fit n m n).1, ab σ x y) := by
    refine itr_forH (fun k z => ∃ x y, z = ((jk (σ 121) fit n m k).1, (jk (σ 121) fit n m k).2.1, (jk (σ 121) fit n m k).2.2, (k : Int), ab σ x y)) _ n (by omega) ⟨σ 120 21, σ 120 22, by rw [ab_of]; rfl⟩ (fun k hk z hz => ?_) (fun z hz => ?_)
    · obtain ⟨x, y, rfl⟩ := hz
      have eg := m_findGets_ab h hM.2.1 hF.1 f1 hk (isF_dg hF hk) x y
      rw [hM.2.2.2, s32_0] at eg
      obtain ⟨b, eb, u, v, rfl⟩ := inner k (jk (σ 121) fit n m k) (gtp 1 1 0 (σ 121) 0 fit k (dg fit k) n) (gun 1 (σ 121) fit (dg fit k) n) hk (jk_JB h hF k (by omega))
      refine ⟨((jk (σ 121) fit n m (k + 1)).1, (jk (σ 121) fit n m (k + 1)).2.1, (jk (σ 121) fit n m (k + 1)).2.2, ((k + 1 : Nat) : Int), ab σ u v), ?_, u, v, rfl⟩
      show f_X12_justNot_42 fit (jk (σ 121) fit n m k).1 (jk (σ 121) fit n m k).2.1 (jk (σ 121) fit n m k).2.2 (k : Int) (ab σ x y) = _
      unfold f_X12_justNot_42
      rw [ab_s, h.2.2.1, s32_of (z := (n : Int)) (by omega) (by omega), s32_of (z := (k : Int)) (by omega) (by omega), if_neg (by omega), m_made hF.1 f1 (by omega), ob_some, eg, ob_some, ab_21, ab_22, eb, lb_some]
      rfl
    · obtain ⟨x, y, rfl⟩ := hz
      refine ⟨_, ?_, x, y, rfl⟩
      show f_X12_justNot_42 fit (jk (σ 121) fit n m n).1 (jk (σ 121) fit n m n).2.1 (jk (σ 121) fit n m n).2.2 (n : Int) (ab σ x y) = _
      unfold f_X12_justNot_42
      rw [ab_s, h.2.2.1, if_pos (Int.le_refl _)]
  obtain ⟨b, e, x, y, rfl⟩ := hl
  exact ⟨x, y, e⟩
theorem op_justNot {σ : Mem} (h : Rel σ) {v : Int} (hv : s32 v = v) : Op σ (f_X11_justNot v) (f_X12_justNot v) := by
  unfold Op f_X11_justNot f_X12_justNot
  by_cases q : σ 0 6 = 0
  · refine ⟨-3, σ, σ, ?_, ?_, h⟩
    · unfold f_X11_sureFitFault f_X11_fitFault
      rw [q, if_pos s32_0, ob_some, if_neg (by decide), ob_some, if_neg (by decide)]
    · rw [m_closed h q, ob_some, if_pos s32_0]
  · obtain ⟨e1, n, m, hO, hB, hM, e6, e7⟩ := h.mk2 q
    obtain ⟨σ1, ef, hC, hg⟩ := c_sureFault e1 hO.1 hB e6 e7 hv
    have hM1 := hM.co hC
    have e121 : σ1 121 = σ 121 := hC.row 121 (fun i => by unfold scr; omega)
    rw [ef, ob_some]
    by_cases c1 : isF n m v
    · obtain ⟨a, b, es⟩ := m_sureAt hM1 hv
      rw [e121] at es
      have hC2 : CO σ (ab σ1 a b) := hC.tr ab_co
      have hM2 := hM.co hC2
      have hf121 : (ab σ1 a b) 121 = σ 121 := by rw [ab_s, e121]
      by_cases c4 : SU 1 1 0 (σ 121) 0 0 v n m
      · obtain ⟨a2, b2, eb⟩ := m_leastLoss hM2 c1
        rw [hf121] at eb
        refine ⟨(jk (σ 121) v n m n).1, σ1, ab (ab σ1 a b) a2 b2, ?_, ?_, h.co (hC2.tr ab_co)⟩
        · rw [if_pos c1, if_pos c4, if_pos s32_0, c_leastLoss hO.1 (hg c1) c1, ob_some]
        · rw [m_openAt hM1, ob_some, if_neg (by decide), m_fitAt hM1 hv, ob_some, bi_t c1, if_neg (by decide), es, ob_some, bi_t c4, if_neg (by decide), eb, lb_some]
      · refine ⟨-3, σ1, ab σ1 a b, ?_, ?_, h.co hC2⟩
        · rw [if_pos c1, if_neg c4, if_neg (by decide)]
        · rw [m_openAt hM1, ob_some, if_neg (by decide), m_fitAt hM1 hv, ob_some, bi_t c1, if_neg (by decide), es, ob_some, bi_f c4, if_pos s32_0]
    · refine ⟨-1, σ1, σ1, ?_, ?_, h.co hC⟩
      · rw [if_neg c1, if_neg (by decide)]
      · rw [m_openAt hM1, ob_some, if_neg (by decide), m_fitAt hM1 hv, ob_some, bi_f c1, if_pos s32_0]
