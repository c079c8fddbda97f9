/-! PURE 41: keep, breadth, toss; the class's side by hand -/
def ftM (fit : Int) : Nat → Int
  | 0 => 0
  | k + 1 => if dg fit k = 4 then ftM fit k else or32 (ftM fit k) (shl32 1 (dg fit k))
def ftA (fit : Int) : Nat → Int
  | 0 => 0
  | k + 1 => ftA fit k + (if dg fit k = 4 then 1 else 0)
/-- a fit has come onto shelf d -/
def hfM (σ : Mem) (d k fit made stayed sorts : Int) : Mem := fun a i =>
  if a = 80 + 2 * d ∧ i = 1 then -1 else if a = 80 + 2 * d ∧ i = 2 then 0 else if a = 80 + 2 * d ∧ i = 3 then 1 else if a = 100 + 2 * d ∧ 0 ≤ i ∧ i ≤ 4 then (if i = 0 then k else if i = 1 then fit else if i = 2 then made else if i = 3 then stayed else sorts) else σ a i
noncomputable def f_X11_keep (v1 v2 v3 v4 : Int) (σ : Mem) : Option (Int × Mem) :=
  ob (f_X11_isShelf v1 σ) fun r σ1 => if s32 r = 0 then some (-1, σ1) else ob (f_X11_isBit v2 σ1) fun r2 σ2 => if s32 r2 = 0 then some (-1, σ2) else if s32 v2 = 0 then (if 0 ≤ s32 v1 ∧ s32 v1 < 8 then ob (f_X8_clear (80 + 2 * s32 v1) σ2) fun _ σ3 => some (0, σ3) else none) else if s32 (σ2 0 6) = 0 then some (-3, σ2) else if s32 v3 < 0 then some (-1, σ2) else if 5 < s32 v3 then some (-1, σ2) else ob (f_X4_hasFit 10 v4 σ2) fun r4 σ4 => if s32 r4 = 0 then some (-1, σ4) else if 0 ≤ s32 v1 ∧ s32 v1 < 8 then some (0, hfM σ4 (s32 v1) (s32 v3) v4 (jbc (ftM v4 (σ4 10 0).toNat)) (ftA v4 (σ4 10 0).toNat) (σ4 10 0)) else none
def brF (r : Int → Int) : Int := if r 0 = 0 then r 2 else if r 0 = 1 then 2 * r 2 else if r 0 = 2 then r 2 + 5 else if r 0 = 3 then r 2 + r 3 else if r 0 = 4 then 2 * r 2 + 1 else 2 * (r 2 + 5)
def toF (r : Int → Int) : Int := if r 0 = 3 ∨ ¬ r 3 < r 4 then -15 else if r 0 = 4 then 1000 + r 1 else if r 0 = 5 then r 2 else r 1
noncomputable def f_X11_breadth (v : Int) (σ : Mem) : Option (Int × Mem) :=
  ob (f_X11_heldFitFault v σ) fun r σ1 => if s32 r = 0 then (if 0 ≤ s32 v ∧ s32 v < 8 then some (brF (σ1 (100 + 2 * s32 v)), σ1) else none) else some (r, σ1)
noncomputable def f_X11_toss (v : Int) (σ : Mem) : Option (Int × Mem) :=
  ob (f_X11_heldFitFault v σ) fun r σ1 => if s32 r = 0 then (if 0 ≤ s32 v ∧ s32 v < 8 then some (toF (σ1 (100 + 2 * s32 v)), σ1) else none) else some (r, σ1)
theorem c_held {σ : Mem} (h : Rel σ) {d : Nat} (hd : d < 8) : f_X11_heldFitFault d σ = some (if σ 124 d = 0 then -11 else if σ 124 d = 1 then 0 else -12, σ) := by
  have hS := h.2.2.2 d hd
  have hv : s32 (d : Int) = d := s32_of (by omega) (by omega)
  have d8 : 0 ≤ (d : Int) ∧ (d : Int) < 8 := by clear hv; omega
  unfold f_X11_heldFitFault
  rw [c_isShelf' hv, ob_some, bi_t (by clear hv; omega), if_neg (by decide), hv, if_pos d8, c_isBare hS, ob_some]
  rcases hS.kd with ⟨k1, k2, k3⟩ | ⟨k1, k2, k3⟩ | ⟨k1, k2, k4, k3, -⟩
  · rw [bi_t k1, if_neg (by decide), if_pos k1]
  · rw [bi_f (by clear hv; omega), if_pos s32_0, k3, if_neg (by decide), if_neg (by clear hv; omega), if_pos k1]
  · rw [bi_f (by clear hv; omega), if_pos s32_0, if_pos k3, if_neg (by clear hv; omega), if_neg (by clear hv; omega)]
theorem c_heldNo {σ : Mem} {v : Int} (hv : s32 v = v) (c : ¬ (0 ≤ v ∧ v ≤ 7)) : f_X11_heldFitFault v σ = some (-1, σ) := by
  unfold f_X11_heldFitFault
  rw [c_isShelf' hv, ob_some, bi_f c, if_pos s32_0]
theorem m_wrongKept {σ : Mem} (h : Rel σ) {d : Nat} (hd : d < 8) : f_X12_wrongKept d σ = some (if σ 124 d = 0 then -11 else if σ 124 d = 1 then 0 else -12, σ) := by
  have hS := h.2.2.2 d hd
  have kk := hS.kd
  have hv : s32 (d : Int) = d := s32_of (by omega) (by omega)
  have d8 : 0 ≤ (d : Int) ∧ (d : Int) < 8 := by clear hv; omega
  unfold f_X12_wrongKept
  rw [m_isShelf hv, ob_some, bi_t (by clear hv; omega), if_neg (by decide), hv, if_pos d8, s32_of (z := σ 124 d) (by clear hv; omega) (by clear hv; omega)]
  by_cases k0 : σ 124 d = 0
  · rw [if_pos k0, if_pos k0]
  · rw [if_neg k0, if_neg k0]
    by_cases k1 : σ 124 d = 1
    · rw [if_pos k1, if_pos k1]
    · rw [if_neg k1, if_neg k1]
theorem ShR.fit {σ : Mem} {d : Int} (h : ShR σ d) (h1 : σ 124 d = 1) : FitR σ d := by
  rcases h with w | w | w
  · omega
  · exact w.2.2.2
  · omega
theorem op_breadth {σ : Mem} (h : Rel σ) {v : Int} (hv : s32 v = v) : Op σ (f_X11_breadth v) (f_X12_breadth v) := by
  unfold Op f_X11_breadth f_X12_breadth
  by_cases c : 0 ≤ v ∧ v ≤ 7
  · obtain ⟨d, hd, rfl⟩ : ∃ d : Nat, d < 8 ∧ v = d := ⟨v.toNat, by clear hv; omega, by clear hv; omega⟩
    have d8 : 0 ≤ (d : Int) ∧ (d : Int) < 8 := by clear hv; omega
    rw [c_held h hd, ob_some, hv, if_pos d8]
    by_cases k0 : σ 124 d = 0
    · refine ⟨-11, σ, σ, by rw [if_pos k0, if_neg (by decide)], by rw [m_wrongKept h hd, ob_some, if_pos k0, if_neg (by decide)], h⟩
    · by_cases k1 : σ 124 d = 1
      · have hf := (h.2.2.2 d hd).fit k1
        refine ⟨brF (σ (100 + 2 * (d : Int))), σ, σ, by rw [if_neg k0, if_pos k1, if_pos s32_0], ?_, h⟩
        rw [m_wrongKept h hd, ob_some, if_neg k0, if_pos k1, if_pos s32_0, if_pos d8, hf.2.2.2.2.2.1]
        rfl
      · refine ⟨-12, σ, σ, by rw [if_neg k0, if_neg k1, if_neg (by decide)], by rw [m_wrongKept h hd, ob_some, if_neg k0, if_neg k1, if_neg (by decide)], h⟩
  · refine ⟨-1, σ, σ, by rw [c_heldNo hv c, ob_some, if_neg (by decide)], ?_, h⟩
    unfold f_X12_wrongKept
    rw [m_isShelf hv, ob_some, bi_f c, if_pos s32_0, ob_some, if_neg (by decide)]
theorem op_toss {σ : Mem} (h : Rel σ) {v : Int} (hv : s32 v = v) : Op σ (f_X11_toss v) (f_X12_toss v) := by
  unfold Op f_X11_toss f_X12_toss
  by_cases c : 0 ≤ v ∧ v ≤ 7
  · obtain ⟨d, hd, rfl⟩ : ∃ d : Nat, d < 8 ∧ v = d := ⟨v.toNat, by clear hv; omega, by clear hv; omega⟩
    have d8 : 0 ≤ (d : Int) ∧ (d : Int) < 8 := by clear hv; omega
    rw [c_held h hd, ob_some, hv, if_pos d8]
    by_cases k0 : σ 124 d = 0
    · refine ⟨-11, σ, σ, by rw [if_pos k0, if_neg (by decide)], by rw [m_wrongKept h hd, ob_some, if_pos k0, if_neg (by decide)], h⟩
    · by_cases k1 : σ 124 d = 1
      · have hf := (h.2.2.2 d hd).fit k1
        refine ⟨toF (σ (100 + 2 * (d : Int))), σ, σ, by rw [if_neg k0, if_pos k1, if_pos s32_0], ?_, h⟩
        rw [m_wrongKept h hd, ob_some, if_neg k0, if_pos k1, if_pos s32_0, if_pos d8, hf.2.2.2.2.2.2]
        rfl
      · refine ⟨-12, σ, σ, by rw [if_neg k0, if_neg k1, if_neg (by decide)], by rw [m_wrongKept h hd, ob_some, if_neg k0, if_neg k1, if_neg (by decide)], h⟩
  · refine ⟨-1, σ, σ, by rw [c_heldNo hv c, ob_some, if_neg (by decide)], ?_, h⟩
    unfold f_X12_wrongKept
    rw [m_isShelf hv, ob_some, bi_f c, if_pos s32_0, ob_some, if_neg (by decide)]
/-- the mask of a fit, and how many marks it makes -/
theorem ftM_in {n m : Nat} {fit : Int} (hm : m ≤ 4) (hF : isF n m fit) : ∀ k : Nat, k ≤ n → (0 ≤ ftM fit k ∧ ftM fit k < 16) ∧ ∀ j : Nat, j < 4 → (bt (ftM fit k) j = 1 ↔ ∃ i, i < k ∧ dg fit i = j)
  | 0, _ => by
    have hz : ∀ j : Nat, j < 4 → bt 0 j = 0 := by decide +kernel
    refine ⟨⟨Int.le_refl _, show (0 : Int) < 16 by decide⟩, fun j hj => ?_⟩
    show bt 0 j = 1 ↔ _
    rw [hz j hj]
    constructor
    · intro q
      cases q
    · rintro ⟨i, hi, -⟩
      exact absurd hi (Nat.not_lt_zero _)
  | k + 1, hk => by
    have ih := ftM_in hm hF k (by omega)
    have hd := isF_dg hF (k := k) (by omega)
    unfold ftM
    by_cases e4 : dg fit k = 4
    · rw [if_pos e4]
      refine ⟨ih.1, fun j hj => ?_⟩
      rw [ih.2 j hj]
      constructor
      · rintro ⟨i, hi, e⟩
        exact ⟨i, by omega, e⟩
      · rintro ⟨i, hi, e⟩
        rcases Nat.lt_or_ge i k with q | q
        · exact ⟨i, q, e⟩
        · rw [show i = k by omega] at e
          omega
    · rw [if_neg e4]
      have hb := fun (j : Int) (hj : 0 ≤ j ∧ j < 4) => bt_set (p := dg fit k) ih.1 (by omega) hj
      refine ⟨(hb 0 (by decide)).2, fun j hj => ?_⟩
      rw [(hb j (by omega)).1]
      by_cases e : dg fit k = j
      · rw [if_pos e]
        exact ⟨fun _ => ⟨k, by omega, e⟩, fun _ => rfl⟩
      · rw [if_neg e, ih.2 j hj]
        constructor
        · rintro ⟨i, hi, e2⟩
          exact ⟨i, by omega, e2⟩
        · rintro ⟨i, hi, e2⟩
          rcases Nat.lt_or_ge i k with q | q
          · exact ⟨i, q, e2⟩
          · rw [show i = k by omega] at e2
            exact absurd e2 e
theorem ftA_in (fit : Int) : ∀ k : Nat, 0 ≤ ftA fit k ∧ ftA fit k ≤ (k : Int)
  | 0 => ⟨Int.le_refl _, Int.le_refl _⟩
  | k + 1 => by
    have ih := ftA_in fit k
    unfold ftA
    split <;> omega
theorem ftA_all (fit : Int) : ∀ k : Nat, ftA fit k = k ↔ ∀ i, i < k → dg fit i = 4
  | 0 => ⟨fun _ i hi => absurd hi (Nat.not_lt_zero _), fun _ => rfl⟩
  | k + 1 => by
    have ih := ftA_all fit k
    have h1 := ftA_in fit k
    unfold ftA
    constructor
    · intro q i hi
      by_cases e : dg fit k = 4
      · rw [if_pos e] at q
        by_cases e2 : i = k
        · rw [e2]
          exact e
        · exact ih.mp (by omega) i (by omega)
      · rw [if_neg e] at q
        omega
    · intro q
      rw [if_pos (q k (by omega)), ih.mpr (fun i hi => q i (by omega))]
      omega
/-- how many marks are made, counted mark by mark -/
def mny (fit : Int) (n : Nat) : Nat → Int
  | 0 => 0
  | j + 1 => mny fit n j + bi (mad fit j n = true)
theorem mny_pc {n m : Nat} {fit : Int} (hm : 1 ≤ m ∧ m ≤ 4) (hF : isF n m fit) : pc (ftM fit n) = mny fit n m := by
  have h := ftM_in hm.2 hF n (Nat.le_refl n)
  have hb : ∀ j : Nat, j < 4 → bt (ftM fit n) j = bi (mad fit j n = true) := fun j hj => by
    by_cases c : mad fit j n = true
    · rw [bi_t c]
      exact (h.2 j hj).mpr (mad_iff.mp c)
    · rw [bi_f c]
      have := bt_in h.1 (j := (j : Int)) (by omega)
      rcases this with w | w
      · exact w
      · exact absurd (mad_iff.mpr ((h.2 j hj).mp w)) c
  have hz : ∀ j : Nat, m ≤ j → j < 4 → bi (mad fit j n = true) = 0 := fun j h1 h2 => by
    refine bi_f (fun c => ?_)
    obtain ⟨k, hk, e⟩ := mad_iff.mp c
    have := isF_dg hF hk
    omega
  have h0 := hb 0 (by omega)
  have h1 := hb 1 (by omega)
  have h2 := hb 2 (by omega)
  have h3 := hb 3 (by omega)
  unfold pc
  rw [show bt (ftM fit n) 0 = _ from h0, show bt (ftM fit n) 1 = _ from h1, show bt (ftM fit n) 2 = _ from h2, show bt (ftM fit n) 3 = _ from h3]
  have m1 : mny fit n 1 = bi (mad fit ((0 : Nat) : Int) n = true) := Int.zero_add _
  have m2 : mny fit n 2 = mny fit n 1 + bi (mad fit ((1 : Nat) : Int) n = true) := rfl
  have m3 : mny fit n 3 = mny fit n 2 + bi (mad fit ((2 : Nat) : Int) n = true) := rfl
  have m4 : mny fit n 4 = mny fit n 3 + bi (mad fit ((3 : Nat) : Int) n = true) := rfl
  have hc : m = 1 ∨ m = 2 ∨ m = 3 ∨ m = 4 := by omega
  rcases hc with rfl | rfl | rfl | rfl
  · rw [hz 1 (by omega) (by omega), hz 2 (by omega) (by omega), hz 3 (by omega) (by omega), m1]
    omega
  · rw [hz 2 (by omega) (by omega), hz 3 (by omega) (by omega), m2, m1]
    omega
  · rw [hz 3 (by omega) (by omega), m3, m2, m1]
    omega
  · rw [m4, m3, m2, m1]
theorem mny_in (fit : Int) (n : Nat) : ∀ j : Nat, 0 ≤ mny fit n j ∧ mny fit n j ≤ (j : Int)
  | 0 => ⟨Int.le_refl _, Int.le_refl _⟩
  | j + 1 => by
    have ih := mny_in fit n j
    have b := bi_in (mad fit j n = true)
    unfold mny
    omega
theorem mny_mem (fit : Int) (n : Nat) : ∀ {m j : Nat}, j < m → mad fit j n = true → 1 ≤ mny fit n m
  | 0, _, h, _ => absurd h (Nat.not_lt_zero _)
  | m + 1, j, h, c => by
    have b := bi_in (mad fit m n = true)
    have i := mny_in fit n m
    unfold mny
    by_cases e : j = m
    · subst e
      rw [bi_t c]
      omega
    · have := mny_mem fit n (m := m) (j := j) (by omega) c
      omega
theorem mny_zero {n m : Nat} {fit : Int} (hm : m ≤ 4) (hF : isF n m fit) : mny fit n m = 0 ↔ ∀ i, i < n → dg fit i = 4 := by
  constructor
  · intro q i hi
    rcases isF_dg hF hi with w | w
    · exact w
    · obtain ⟨j, hj, ej⟩ : ∃ j : Nat, j < m ∧ dg fit i = j := ⟨(dg fit i).toNat, by omega, by omega⟩
      have := mny_mem fit n hj (mad_iff.mpr ⟨i, hi, ej⟩)
      omega
  · intro q
    have key : ∀ j : Nat, j ≤ 4 → mny fit n j = 0 := by
      intro j
      induction j with
      | zero => intro _; rfl
      | succ j ih =>
        intro hj
        show mny fit n j + bi (mad fit j n = true) = 0
        rw [ih (by omega), bi_f]
        · rfl
        · intro c
          obtain ⟨k, hk, e⟩ := mad_iff.mp c
          have := q k hk
          omega
    exact key m hm
def bk (k many away : Int) : Int := if k = 0 then many else if k = 1 then 2 * many else if k = 2 then many + 5 else if k = 3 then many + away else if k = 4 then 2 * many + 1 else 2 * (many + 5)
def tk (k many fit : Int) : Int := if k = 3 then -15 else if many = 0 then -15 else if k = 4 then 1000 + fit else if k = 5 then many else fit
theorem m_keep84 {σ : Mem} {n m : Nat} (h0 : σ 121 0 = n) (h1 : σ 121 1 = m) (hn : n ≤ 4) (hm : m ≤ 4) {fit : Int} (f0 : 0 ≤ fit) (f1 : fit ≤ 2147483647) (p1 p3 p6 : Int) : itr (fun z => f_X12_keep_84 p1 p3 fit p6 z.1 z.2.1 z.2.2) FU (0, 0, σ) = some (mny fit n m, σ) := by
  refine itr_for0 (fun j => (mny fit n j, (j : Int), σ)) m _ (by omega) (fun j hj => ?_) ?_
  · show f_X12_keep_84 p1 p3 fit p6 (mny fit n j) (j : Int) σ = some (Sum.inl (mny fit n j + bi (mad fit j n = true), ((j + 1 : Nat) : Int), σ))
    unfold f_X12_keep_84
    rw [h1, s32_of (z := (m : Int)) (by omega) (by omega), s32_of (z := (j : Int)) (by omega) (by omega), if_neg (by omega), m_isMade h0 hn f0 f1 (s32_of (by omega) (by omega)), ob_some]
    by_cases c : mad fit j n = true
    · rw [bi_t c, if_neg (by decide)]
      rfl
    · rw [bi_f c, if_pos s32_0]
      rfl
  · show f_X12_keep_84 p1 p3 fit p6 (mny fit n m) (m : Int) σ = _
    unfold f_X12_keep_84
    rw [h1, if_pos (Int.le_refl _)]
theorem m_keep125 {σ : Mem} {n : Nat} (h0 : σ 121 0 = n) (hn : n ≤ 4) {fit : Int} (f0 : 0 ≤ fit) (f1 : fit ≤ 2147483647) (p1 p3 p5 : Int) : itr (fun z => f_X12_keep_125 p1 p3 fit p5 z.1 z.2.1 z.2.2) FU (0, 0, σ) = some (ftA fit n, σ) := by
  refine itr_for0 (fun j => (ftA fit j, (j : Int), σ)) n _ (by omega) (fun j hj => ?_) ?_
  · have hd := dg_in fit j
    show f_X12_keep_125 p1 p3 fit p5 (ftA fit j) (j : Int) σ = some (Sum.inl (ftA fit j + (if dg fit j = 4 then 1 else 0), ((j + 1 : Nat) : Int), σ))
    unfold f_X12_keep_125
    rw [h0, s32_of (z := (n : Int)) (by omega) (by omega), s32_of (z := (j : Int)) (by omega) (by omega), if_neg (by omega), m_made f0 f1 (by omega), ob_some, s32_of (z := dg fit j) (by omega) (by omega)]
    by_cases c : dg fit j = 4
    · rw [if_pos c, if_pos c]
      rfl
    · rw [if_neg c, if_neg c]
      rfl
  · show f_X12_keep_125 p1 p3 fit p5 (ftA fit n) (n : Int) σ = _
    unfold f_X12_keep_125
    rw [h0, if_pos (Int.le_refl _)]
theorem u_0 : s32 0 = 0 := s32_0
theorem u_1 : s32 1 = 1 := by decide
theorem u_2 : s32 2 = 2 := by decide
theorem u_3 : s32 3 = 3 := by decide
theorem u_4 : s32 4 = 4 := by decide
theorem u_5 : s32 5 = 5 := by decide
theorem m_keep {σ : Mem} {n m : Nat} (hM : MS σ n m) {d : Nat} (hd : d < 8) {k : Int} (hk : 0 ≤ k ∧ k ≤ 5) {fit : Int} (hv : s32 fit = fit) (hF : isF n m fit) : f_X12_keep d 1 k fit σ = some (0, ups (ups (ups σ 124 d 1) 128 d (bk k (mny fit n m) (ftA fit n))) 129 d (tk k (mny fit n m) fit)) := by
  have h := hM.1
  have hn := h.1
  have hm := h.2.1
  have p4 := p5_in n hn.2
  have f0 := hF.1
  have f1 : fit ≤ 2147483647 := by have := hF.2.1; clear hv; omega
  have d8 : 0 ≤ (d : Int) ∧ (d : Int) < 8 := by clear hv; omega
  have d8a := d8.1
  have d8b := d8.2
  have ud : s32 (d : Int) = d := s32_of (by clear hv; omega) (by clear hv; omega)
  have my := mny_in fit n m
  have um : s32 (mny fit n m) = mny fit n m := s32_of (by clear hv ud; omega) (by clear hv ud; omega)
  have uk : s32 k = k := s32_of (by clear hv ud um; omega) (by clear hv ud um; omega)
  have e121 : ups σ 124 d 1 121 = σ 121 := ups_ne (by decide)
  have l84 := fun p1 p3 p6 => m_keep84 (σ := ups σ 124 d 1) (by rw [e121]; exact h.2.2.1) (by rw [e121]; exact h.2.2.2.1) hn.2 hm.2 f0 f1 p1 p3 p6
  have l125 := fun p1 p3 p5 => m_keep125 (σ := ups σ 124 d 1) (by rw [e121]; exact h.2.2.1) hn.2 f0 f1 p1 p3 p5
  unfold f_X12_keep
  rw [m_isShelf ud, ob_some, bi_t (by clear hv ud um uk; omega), if_neg (by decide), u_1, m_isInT (by decide) (by decide) (by decide), ob_some, bi_t (by decide), if_neg (by decide), if_pos rfl, m_openAt hM, ob_some, if_neg (by decide), if_pos rfl, uk, m_isInT (by clear hv ud um uk; omega) (by decide) (by decide), ob_some, bi_t hk, if_neg (by decide), m_fitAt hM hv, ob_some, bi_t hF, if_neg (by decide), ud, if_pos d8]
  simp only [stp]
  rw [if_neg (by decide), l84, lb_some]
  dsimp only
  rw [l125, lb_some]
  dsimp only
  rw [um]
  have hc : k = 0 ∨ k = 1 ∨ k = 2 ∨ k = 3 ∨ k = 4 ∨ k = 5 := by clear hv ud um uk; omega
  unfold bk tk
  generalize mny fit n m = M
  generalize ftA fit n = A
  rcases hc with rfl | rfl | rfl | rfl | rfl | rfl <;> simp only [↓reduceIte, Int.reduceEq, d8a, d8b, and_self] <;> (try (split <;> rfl)) <;> rfl
theorem op_keep {σ : Mem} (h : Rel σ) {v w x y : Int} (hv : s32 v = v) (hw : s32 w = w) (hx : s32 x = x) (hy : s32 y = y) : Op σ (f_X11_keep v w x y) (f_X12_keep v w x y) := by
  have x1 := s32_lo x
  have x2 := s32_hi x
  rw [hx] at x1 x2
  unfold Op
  by_cases c1 : 0 ≤ v ∧ v ≤ 7
  · obtain ⟨d, hd, rfl⟩ : ∃ d : Nat, d < 8 ∧ v = d := ⟨v.toNat, by clear hv hw hx hy; omega, by clear hv hw hx hy; omega⟩
    have d8 : 0 ≤ (d : Int) ∧ (d : Int) < 8 := by clear hv hw hx hy; omega
    by_cases c2 : w = 0 ∨ w = 1
    · by_cases w0 : w = 0
      · subst w0
        have hc : f_X11_keep d 0 x y σ = some (0, ups (ups (ups σ (80 + 2 * (d : Int)) 1 (-1)) (80 + 2 * (d : Int)) 2 0) (80 + 2 * (d : Int)) 3 0) := by
          unfold f_X11_keep f_X8_clear
          rw [c_isShelf' hv, ob_some, bi_t c1, if_neg (by decide), c_isBit' hw, ob_some, bi_t c2, if_neg (by decide), if_pos s32_0, hv, if_pos d8]
          rfl
        obtain ⟨τ, hτ⟩ : ∃ τ, τ = ups (ups (ups σ (80 + 2 * (d : Int)) 1 (-1)) (80 + 2 * (d : Int)) 2 0) (80 + 2 * (d : Int)) 3 0 := ⟨_, rfl⟩
        rw [← hτ] at hc
        have t0 : ∀ a : Int, a ≠ 80 + 2 * (d : Int) → τ a = σ a := fun a q => by rw [hτ, ups_ne q, ups_ne q, ups_ne q]
        refine ⟨0, τ, ups τ 124 d 0, hc, ?_, ?_⟩
        · unfold f_X12_keep
          rw [m_isShelf hv, ob_some, bi_t c1, if_neg (by decide), u_0, m_isInT (by decide) (by decide) (by decide), ob_some, bi_t (by decide), if_neg (by decide), if_neg (by decide), if_neg (by decide), hv, if_pos d8]
          simp only [stp, ↓reduceIte]
        · refine h.shelf hd (fun a i q => ?_) (Or.inl ⟨ups_at _ _ _ _, ?_, ?_⟩)
          · have e : ups τ 124 d 0 a i = τ a i := by
              unfold ups
              rw [if_neg (by clear hv hw hx hy; omega)]
            rw [e, t0 a (fun z => q (by clear hv hw hx hy; omega))]
          · rw [ups_ne (by clear hv hw hx hy; omega), hτ, ups_ni (by decide), ups_ni (by decide), ups_at]
          · rw [ups_ne (by clear hv hw hx hy; omega), hτ, ups_at]
      · have w1 : w = 1 := by clear hv hw hx hy; omega
        subst w1
        by_cases q : σ 0 6 = 0
        · refine ⟨-3, σ, σ, ?_, ?_, h⟩
          · unfold f_X11_keep
            rw [c_isShelf' hv, ob_some, bi_t c1, if_neg (by decide), c_isBit' hw, ob_some, bi_t c2, if_neg (by decide), if_neg (by decide), q, if_pos s32_0]
          · unfold f_X12_keep
            rw [m_isShelf hv, ob_some, bi_t c1, if_neg (by decide), u_1, m_isInT (by decide) (by decide) (by decide), ob_some, bi_t (by decide), if_neg (by decide), if_pos rfl, m_closed h q, ob_some, if_pos s32_0]
        · obtain ⟨e1, n, m, hO, hB, hM, e6, e7⟩ := h.mk2 q
          have hn := hO.1.1
          have hm := hO.1.2.1
          by_cases c3 : 0 ≤ x ∧ x ≤ 5
          · by_cases c4 : isF n m y
            · have p4 := p5_in n hn.2
              have hc : f_X11_keep d 1 x y σ = some (0, hfM σ d x y (mny y n m) (ftA y n) n) := by
                unfold f_X11_keep
                rw [c_isShelf' hv, ob_some, bi_t c1, if_neg (by decide), c_isBit' hw, ob_some, bi_t c2, if_neg (by decide), if_neg (by decide), e1, if_neg (by decide), hx, if_neg (by clear hv hw hx hy; omega), if_neg (by clear hv hw hx hy; omega), c_fitAt hO.1 hB hy, ob_some, bi_t c4, if_neg (by decide), hv, if_pos d8, hB.1.1, Int.toNat_natCast, jbc_pc (ftM_in hm.2 c4 n (Nat.le_refl n)).1, mny_pc hm c4]
              obtain ⟨τ, hτ⟩ : ∃ τ, τ = hfM σ d x y (mny y n m) (ftA y n) n := ⟨_, rfl⟩
              rw [← hτ] at hc
              have t0 : ∀ a : Int, a ≠ 80 + 2 * (d : Int) → a ≠ 100 + 2 * (d : Int) → τ a = σ a := fun a q1 q2 => by
                rw [hτ]
                funext i
                unfold hfM
                rw [if_neg (fun z => q1 z.1), if_neg (fun z => q1 z.1), if_neg (fun z => q1 z.1), if_neg (fun z => q2 z.1)]
              have hM1 : MS τ n m := by
                unfold MS Md
                rw [t0 121 (by clear hv hw hx hy; omega) (by clear hv hw hx hy; omega), t0 120 (by clear hv hw hx hy; omega) (by clear hv hw hx hy; omega)]
                exact hM
              have em := m_keep hM1 hd c3 hy c4
              have ny := mny_in y n m
              have ay := ftA_in y n
              have f1 : y ≤ 625 := by have := c4.2.1; clear hv hw hx hy; omega
              have az := ftA_all y n
              have mz := mny_zero hm.2 c4
              refine ⟨0, τ, _, hc, em, ?_⟩
              have r0 : ∀ a : Int, a ≠ 124 → a ≠ 128 → a ≠ 129 → ups (ups (ups τ 124 d 1) 128 d (bk x (mny y n m) (ftA y n))) 129 d (tk x (mny y n m) y) a = τ a := fun a q1 q2 q3 => by rw [ups_ne q3, ups_ne q2, ups_ne q1]
              refine h.shelf hd (fun a i z => ?_) (Or.inr (Or.inl ⟨?_, ?_, ?_, ?_⟩))
              · have e : ups (ups (ups τ 124 d 1) 128 d (bk x (mny y n m) (ftA y n))) 129 d (tk x (mny y n m) y) a i = τ a i := by
                  unfold ups
                  rw [if_neg (by clear hv hw hx hy; omega), if_neg (by clear hv hw hx hy; omega), if_neg (by clear hv hw hx hy; omega)]
                rw [e, t0 a (fun y => z (by clear hv hw hx hy; omega)) (fun y => z (by clear hv hw hx hy; omega))]
              · rw [ups_ne (by decide), ups_ne (by decide), ups_at]
              · rw [r0 _ (by clear hv hw hx hy; omega) (by clear hv hw hx hy; omega) (by clear hv hw hx hy; omega), hτ]
                unfold hfM
                rw [if_pos ⟨rfl, rfl⟩]
              · rw [r0 _ (by clear hv hw hx hy; omega) (by clear hv hw hx hy; omega) (by clear hv hw hx hy; omega), hτ]
                unfold hfM
                rw [if_neg (by clear hv hw hx hy; omega), if_neg (by clear hv hw hx hy; omega), if_pos ⟨rfl, rfl⟩]
              · have g : ∀ i : Int, 0 ≤ i ∧ i ≤ 4 → ups (ups (ups τ 124 d 1) 128 d (bk x (mny y n m) (ftA y n))) 129 d (tk x (mny y n m) y) (100 + 2 * d) i = if i = 0 then x else if i = 1 then y else if i = 2 then mny y n m else if i = 3 then ftA y n else n := fun i hi => by
                  rw [r0 _ (by clear hv hw hx hy; omega) (by clear hv hw hx hy; omega) (by clear hv hw hx hy; omega), hτ]
                  unfold hfM
                  rw [if_neg (by clear hv hw hx hy; omega), if_neg (by clear hv hw hx hy; omega), if_neg (by clear hv hw hx hy; omega), if_pos ⟨rfl, hi⟩]
                have g0 := g 0 (by decide)
                have g1 := g 1 (by decide)
                have g2 := g 2 (by decide)
                have g3 := g 3 (by decide)
                have g4 := g 4 (by decide)
                simp only [↓reduceIte, Int.reduceEq] at g0 g1 g2 g3 g4
                unfold FitR
                rw [g0, g1, g2, g3, g4, ups_at, ups_ne (show (128 : Int) ≠ 129 by decide), ups_at]
                have hz : mny y n m = 0 ↔ ftA y n = n := mz.trans az.symm
                refine ⟨c3, ⟨c4.1, f1⟩, ⟨ny.1, by clear hv hw hx hy; omega⟩, ⟨ay.1, by clear hv hw hx hy; omega⟩, ⟨by clear hv hw hx hy; omega, by clear hv hw hx hy; omega⟩, rfl, ?_⟩
                unfold tk
                by_cases k3 : x = 3
                · rw [if_pos k3, if_pos (Or.inl k3)]
                · rw [if_neg k3]
                  by_cases k0 : mny y n m = 0
                  · have := hz.mp k0
                    rw [if_pos k0, if_pos (Or.inr (by clear hv hw hx hy; omega))]
                  · have k9 : ¬ ftA y n = n := fun z => k0 (hz.mpr z)
                    rw [if_neg k0, if_neg (show ¬ (x = 3 ∨ ¬ ftA y n < n) by clear hv hw hx hy; omega)]
            · refine ⟨-1, σ, σ, ?_, ?_, h⟩
              · unfold f_X11_keep
                rw [c_isShelf' hv, ob_some, bi_t c1, if_neg (by decide), c_isBit' hw, ob_some, bi_t c2, if_neg (by decide), if_neg (by decide), e1, if_neg (by decide), hx, if_neg (by clear hv hw hx hy; omega), if_neg (by clear hv hw hx hy; omega), c_fitAt hO.1 hB hy, ob_some, bi_f c4, if_pos s32_0]
              · unfold f_X12_keep
                rw [m_isShelf hv, ob_some, bi_t c1, if_neg (by decide), u_1, m_isInT (by decide) (by decide) (by decide), ob_some, bi_t (by decide), if_neg (by decide), if_pos rfl, m_openAt hM, ob_some, if_neg (by decide), if_pos rfl, hx, m_isInT ⟨x1, x2⟩ (by decide) (by decide), ob_some, bi_t c3, if_neg (by decide), m_fitAt hM hy, ob_some, bi_f c4, if_pos s32_0]
          · refine ⟨-1, σ, σ, ?_, ?_, h⟩
            · unfold f_X11_keep
              rw [c_isShelf' hv, ob_some, bi_t c1, if_neg (by decide), c_isBit' hw, ob_some, bi_t c2, if_neg (by decide), if_neg (by decide), e1, if_neg (by decide), hx]
              by_cases c5 : x < 0
              · rw [if_pos c5]
              · rw [if_neg c5, if_pos (by clear hv hw hx hy; omega)]
            · unfold f_X12_keep
              rw [m_isShelf hv, ob_some, bi_t c1, if_neg (by decide), u_1, m_isInT (by decide) (by decide) (by decide), ob_some, bi_t (by decide), if_neg (by decide), if_pos rfl, m_openAt hM, ob_some, if_neg (by decide), if_pos rfl, hx, m_isInT ⟨x1, x2⟩ (by decide) (by decide), ob_some, bi_f c3, if_pos s32_0]
    · refine ⟨-1, σ, σ, ?_, ?_, h⟩
      · unfold f_X11_keep
        rw [c_isShelf' hv, ob_some, bi_t c1, if_neg (by decide), c_isBit' hw, ob_some, bi_f c2, if_pos s32_0]
      · unfold f_X12_keep
        rw [m_isShelf hv, ob_some, bi_t c1, if_neg (by decide), m_bitAt hw, ob_some, bi_f c2, if_pos s32_0]
  · refine ⟨-1, σ, σ, ?_, ?_, h⟩
    · unfold f_X11_keep
      rw [c_isShelf' hv, ob_some, bi_f c1, if_pos s32_0]
    · unfold f_X12_keep
      rw [m_isShelf hv, ob_some, bi_f c1, if_pos s32_0]
