/-! PURE 15: waste -/
theorem CK.cost {σ : Mem} {n m : Nat} {s : Int → Int} (h : CK σ n m s) (h9 : σ 72 9 = 0) {j k : Nat} (hj : j < m) (hk : k < n) : σ (16 + 1 + j) k = s (19 + 4 * j + k) := by
  have q := (h.2.2.2.2 j hj).2.2 k hk
  rw [h9] at q
  split at q <;> omega
def wst (s : Int → Int) (fit : Int) : Nat → Int
  | 0 => 0
  | k + 1 => wst s fit k + (if dg fit k = 4 then 0 else s (3 + k) * s (19 + 4 * dg fit k + k))
theorem wst_in {n m : Nat} {s : Int → Int} (h : Okm n m s) {fit : Int} (hF : isF n m fit) : ∀ k : Nat, k ≤ n → 0 ≤ wst s fit k ∧ wst s fit k ≤ 199800 * (k : Int)
  | 0, _ => ⟨Int.le_refl _, Int.le_refl _⟩
  | k + 1, hk => by
    have ih := wst_in h hF k (by omega)
    unfold wst
    have hd := isF_dg hF (k := k) (by omega)
    have q := h.2.2.2.2.2.1 k (by omega)
    by_cases e : dg fit k = 4
    · rw [if_pos e]
      omega
    · rw [if_neg e]
      obtain ⟨j, hj, ej⟩ : ∃ j : Nat, j < m ∧ dg fit k = j := ⟨(dg fit k).toNat, by omega, by omega⟩
      have q2 := (h.2.2.2.2.2.2 j hj).2.2 k (by omega)
      rw [ej]
      have b := mul_in (a := s (3 + k)) (b := s (19 + 4 * (j : Int) + k)) (A := 100) (B := 1998) (by omega) q2
      omega
theorem c_wasted {σ : Mem} {n m : Nat} {s : Int → Int} (h : Okm n m s) (hc : CK σ n m s) (h9 : σ 72 9 = 0) {fit : Int} (hL : LY σ n fit) (hF : isF n m fit) : f_X7_wasted σ = some (wst s fit n, σ) := by
  have hn := h.1
  have hm := h.2.1
  unfold f_X7_wasted
  rw [show itr (fun z : Int × Int × Mem => f_X7_wasted_4 z.1 z.2.1 z.2.2) FU (0, 0, σ) = some (wst s fit n, σ) from
    itr_for0 (fun k => (wst s fit k, (k : Int), σ)) n _ (by omega) (fun k hk => by
      show f_X7_wasted_4 (wst s fit k) (k : Int) σ = some (Sum.inl (wst s fit k + _, ((k + 1 : Nat) : Int), σ))
      have hd := isF_dg hF hk
      have h4 := fin4 hk hn.2
      unfold f_X7_wasted_4
      rw [hc.1, s32_of (z := (n : Int)) (by omega) (by omega), s32_of (z := (k : Int)) (by omega) (by omega), if_neg (by omega), if_pos h4, hL.1 k hk, s32_of (z := dg fit k) (by omega) (by omega)]
      by_cases e : dg fit k = 4
      · rw [if_pos e, if_pos e, Int.add_zero]
        rfl
      · obtain ⟨j, hj, ej⟩ : ∃ j : Nat, j < m ∧ dg fit k = j := ⟨(dg fit k).toNat, by omega, by omega⟩
        rw [if_neg e, if_neg e, if_pos (by omega), ej, hc.cost h9 hj hk, (hc.2.2.2.1 k hk).1]
        rfl) (by
      show f_X7_wasted_4 (wst s fit n) (n : Int) σ = _
      unfold f_X7_wasted_4
      rw [hc.1, if_pos (Int.le_refl _)]), lb_some]
theorem m_wasteOf {σ : Mem} {n m : Nat} (h : Okm n m (σ 121)) {fit : Int} (hF : isF n m fit) : f_X12_wasteOf fit σ = some (wst (σ 121) fit n, σ) := by
  have hn := h.1
  have hm := h.2.1
  have p4 := p5_in n hn.2
  have f1 : fit ≤ 2147483647 := by have := hF.2.1; omega
  unfold f_X12_wasteOf
  rw [show itr (fun z : Int × Int × Mem => f_X12_wasteOf_4 fit z.1 z.2.1 z.2.2) FU (0, 0, σ) = some (wst (σ 121) fit n, σ) from
    itr_for0 (fun k => (wst (σ 121) fit k, (k : Int), σ)) n _ (by omega) (fun k hk => by
      show f_X12_wasteOf_4 fit (wst (σ 121) fit k) (k : Int) σ = some (Sum.inl (wst (σ 121) fit k + _, ((k + 1 : Nat) : Int), σ))
      have hd := isF_dg hF hk
      have h4 := fin4 hk hn.2
      have k4 : k ≤ 4 := by omega
      unfold f_X12_wasteOf_4
      rw [h.2.2.1, s32_of (z := (n : Int)) (by omega) (by omega), s32_of (z := (k : Int)) (by omega) (by omega), if_neg (by omega), m_made hF.1 f1 k4, ob_some, s32_of (z := dg fit k) (by omega) (by omega)]
      by_cases e : dg fit k = 4
      · rw [if_pos e, if_pos e]
        rfl
      · obtain ⟨j, hj, ej⟩ : ∃ j : Nat, j < m ∧ dg fit k = j := ⟨(dg fit k).toNat, by omega, by omega⟩
        have t3 : 0 ≤ 3 + (k : Int) ∧ 3 + (k : Int) < 39 := by omega
        have t5 : 0 ≤ 19 + 4 * (j : Int) + (k : Int) ∧ 19 + 4 * (j : Int) + (k : Int) < 39 := by omega
        rw [if_neg e, if_neg e, s32_of (z := 3 + (k : Int)) (by omega) (by omega), if_pos t3, m_made hF.1 f1 k4, ob_some, ej, s32_of (z := 19 + 4 * (j : Int) + (k : Int)) (by omega) (by omega), if_pos t5]
        rfl) (by
      show f_X12_wasteOf_4 fit (wst (σ 121) fit n) (n : Int) σ = _
      unfold f_X12_wasteOf_4
      rw [h.2.2.1, if_pos (Int.le_refl _)]), lb_some]
theorem op_waste {σ : Mem} (h : Rel σ) {v : Int} (hv : s32 v = v) : Op σ (f_X11_waste v) (f_X12_waste v) := by
  unfold Op f_X11_waste f_X12_waste f_X11_fitFault
  by_cases q : σ 0 6 = 0
  · refine ⟨-3, σ, σ, ?_, ?_, h⟩
    · rw [q, if_pos s32_0, ob_some, if_neg (by decide)]
    · rw [m_closed h q, ob_some, if_pos s32_0]
  · obtain ⟨e1, n, m, hO, hB, hM, e6, e7⟩ := h.mk2 q
    have hn := hO.1.1
    have hF9 := h.1.2.2.2.2.1.2.2
    rw [e1, if_neg (by decide), c_fitAt hO.1 hB hv, ob_some]
    by_cases c1 : isF n m v
    · have p4 := p5_in n hn.2
      have f1 : v ≤ 2147483647 := by have := c1.2.1; omega
      obtain ⟨σ1, el, hL, hC⟩ := c_lay hB.1.1 hn.2 c1.1 f1
      have hM1 := hM.co hC.co
      have e121 : σ1 121 = σ 121 := hC.co.row 121 (fun i => by unfold scr; omega)
      refine ⟨wst (σ 121) v n, σ1, σ1, ?_, ?_, h.co hC.co⟩
      · rw [bi_t c1, if_neg (by decide), ob_some, if_pos s32_0, el, ob_some, c_wasted hO.1 (hB.1.cs hC hO.1.2.1.2) ((hC.at 72 9 (by omega)).trans hF9) hL c1, ob_some]
      · rw [m_openAt hM1, ob_some, if_neg (by decide), m_fitAt hM1 hv, ob_some, bi_t c1, if_neg (by decide), m_wasteOf hM1.1 c1, ob_some, e121]
    · refine ⟨-1, σ, σ, ?_, ?_, h⟩
      · rw [bi_f c1, if_pos s32_0, ob_some, if_neg (by decide)]
      · rw [m_openAt hM, ob_some, if_neg (by decide), m_fitAt hM hv, ob_some, bi_f c1, if_pos s32_0]
