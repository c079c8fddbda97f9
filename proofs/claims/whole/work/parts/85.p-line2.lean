/-! PURE 45: makes, loses, broken -/
def lfa (σ : Mem) (v : Int) (m : Nat) : Int := if 0 ≤ v ∧ v ≤ 7 then (if σ 124 v = 0 then -11 else if σ 124 v = 2 ∧ σ 125 v = 1 then (if σ 126 v = m ∧ fst? (lnB (fun j => σ 127 (120 * v + j))) 0 m = none then 0 else -13) else -12) else -1
theorem lfa_or (σ : Mem) (v : Int) (m : Nat) : s32 (lfa σ v m) = lfa σ v m := by
  unfold lfa
  (repeat' split) <;> decide
theorem lfa_co {σ τ : Mem} (c : CO σ τ) (v : Int) (m : Nat) : lfa τ v m = lfa σ v m := by
  unfold lfa
  rw [c.row 124 (fun i => by unfold scr; omega), c.row 125 (fun i => by unfold scr; omega), c.row 126 (fun i => by unfold scr; omega), c.row 127 (fun i => by unfold scr; omega)]
theorem c_lineFault {σ : Mem} {n m : Nat} (h : Rel σ) (e1 : σ 0 6 = 1) (hO : Okx n m (σ 121)) (hB : CB σ n m (σ 121) 1 1 0) {v : Int} (hv : s32 v = v) : ∃ τ, f_X11_lineFault v σ = some (lfa σ v m, τ) ∧ CO σ τ ∧ (lfa σ v m = 0 → ∃ d : Nat, d < 8 ∧ v = d ∧ LN (fun j => σ 127 (120 * d + j)) m ∧ LR τ n m (σ 121) (fun j => σ 127 (120 * d + j))) := by
  have hm := hO.1.2.1
  have h9 := h.1.2.2.2.2.1.2.2
  unfold f_X11_lineFault lfa
  rw [e1, if_neg (by decide), c_isShelf' hv, ob_some]
  by_cases c1 : 0 ≤ v ∧ v ≤ 7
  · obtain ⟨d, hd, rfl⟩ : ∃ d : Nat, d < 8 ∧ v = d := ⟨v.toNat, by clear hv; omega, by clear hv; omega⟩
    have d8 : 0 ≤ (d : Int) ∧ (d : Int) < 8 := by clear hv; omega
    have hS := h.2.2.2 d hd
    rw [bi_t c1, if_neg (by decide), hv, if_pos d8, c_isBare hS, ob_some, if_pos c1]
    by_cases k0 : σ 124 d = 0
    · rw [bi_t k0, if_neg (by decide), if_pos k0]
      exact ⟨σ, rfl, CO.rf, fun z => absurd z (by decide)⟩
    · rw [bi_f k0, if_pos s32_0, if_neg k0, c_holdsRowOf hS (by decide), ob_some]
      by_cases k2 : σ 124 d = 2 ∧ σ 125 d = 1
      · have rd := hS.row k2.1
        rw [bi_t k2, if_neg (by decide), if_pos k2]
        by_cases k6 : σ 126 d = m
        · obtain ⟨τ, e, hC, hL⟩ := c_readLine (σ := σ) (s := σ 121) (L := fun j => σ 127 (120 * d + j)) hO.1 (hB.1.cl h9) (t := 80 + 2 * (d : Int)) (by clear hv; omega) (by rw [rd.2.2.2.1, k6]) rd.2.2.2.2.2
          rw [e, ob_some]
          by_cases k8 : fst? (lnB (fun j => σ 127 (120 * (d : Int) + j))) 0 m = none
          · rw [if_pos k8, if_neg (by decide), if_pos ⟨k6, k8⟩]
            exact ⟨τ, rfl, hC, fun _ => ⟨d, hd, rfl, (hL k8).1, (hL k8).2⟩⟩
          · rw [if_neg k8, if_pos s32_0, if_neg (fun z => k8 z.2)]
            exact ⟨τ, rfl, hC, fun z => absurd z (by decide)⟩
        · have e : f_X3_readFrom (80 + 2 * (d : Int)) σ = some (0, σ) := by
            have s126 := rd.2.2.2.2.1
            unfold f_X3_readFrom
            rw [rd.2.2.2.1, hB.1.2.1, s32_of (z := σ 126 d) (by clear hv; omega) (by clear hv; omega), s32_of (z := (m : Int)) (by clear hv; omega) (by clear hv; omega), if_neg k6]
          rw [e, ob_some, if_pos s32_0, if_neg (fun z => k6 z.1)]
          exact ⟨σ, rfl, CO.rf, fun z => absurd z (by decide)⟩
      · rw [bi_f k2, if_pos s32_0, if_neg k2]
        exact ⟨σ, rfl, CO.rf, fun z => absurd z (by decide)⟩
  · rw [bi_f c1, if_pos s32_0, if_neg c1]
    exact ⟨σ, rfl, CO.rf, fun z => absurd z (by decide)⟩
theorem m_wrongLine {σ : Mem} {n m : Nat} (h : Rel σ) (hO : Okx n m (σ 121)) {v : Int} (hv : s32 v = v) : f_X12_wrongLine v σ = some (lfa σ v m, σ) := by
  have hm := hO.1.2.1
  have m1 := hO.1.2.2.2.1
  unfold f_X12_wrongLine lfa
  by_cases c1 : 0 ≤ v ∧ v ≤ 7
  · obtain ⟨d, hd, rfl⟩ : ∃ d : Nat, d < 8 ∧ v = d := ⟨v.toNat, by clear hv; omega, by clear hv; omega⟩
    have d8 : 0 ≤ (d : Int) ∧ (d : Int) < 8 := by clear hv; omega
    have hS := h.2.2.2 d hd
    rw [if_pos c1]
    by_cases k0 : σ 124 d = 0
    · rw [m_wrong0 h.2.2.2 hd (by decide) k0, ob_some, if_neg (by decide), if_pos k0]
    · rw [if_neg k0]
      by_cases k2 : σ 124 d = 2 ∧ σ 125 d = 1
      · have rd := hS.row k2.1
        have s126 := rd.2.2.2.2.1
        have um : s32 (m : Int) = m := s32_of (by clear hv; omega) (by clear hv; omega)
        have u6 : s32 (σ 126 d) = σ 126 d := s32_of (by clear hv um; omega) (by clear hv um; omega)
        rw [m_wrongOk h.2.2.2 hd (by decide) k2.1 (Or.inr k2.2), ob_some, if_pos s32_0, hv, if_pos d8, if_pos k2, u6, m1, um]
        by_cases k6 : σ 126 d = m
        · rw [if_pos k6]
          have body : ∀ j : Nat, j < m → f_X12_wrongLine_33 d (j : Int) σ = (if lnB (fun j => σ 127 (120 * (d : Int) + j)) j = true then some (Sum.inr (Sum.inl (-13, σ))) else some (Sum.inl ((j : Int) + 1, σ))) := by
            intro j hj
            have v2 := (rd.2.2.2.2.2 j (by clear hv um u6; omega)).2
            unfold inI at v2
            have t9 : 0 ≤ 120 * (d : Int) + (j : Int) ∧ 120 * (d : Int) + (j : Int) < 960 := by clear hv um u6; omega
            unfold f_X12_wrongLine_33
            rw [hv, if_pos d8, u6, k6, s32_of (z := (j : Int)) (by clear hv um u6; omega) (by clear hv um u6; omega), if_neg (by clear hv um u6; omega), s32_of (z := 120 * (d : Int) + (j : Int)) (by clear hv um u6; omega) (by clear hv um u6; omega), if_pos t9, s32_of (z := σ 127 (120 * (d : Int) + j)) v2.1 v2.2, m_isInT v2 (by decide) (by decide), ob_some]
            by_cases c : 0 ≤ σ 127 (120 * (d : Int) + j) ∧ σ 127 (120 * (d : Int) + j) ≤ 1999
            · rw [bi_t c, if_neg (by decide), if_neg (show ¬ lnB (fun j => σ 127 (120 * (d : Int) + j)) j = true from fun z => of_decide_eq_true z c)]
            · rw [bi_f c, if_pos s32_0, if_pos (show lnB (fun j => σ 127 (120 * (d : Int) + j)) j = true from decide_eq_true c)]
          have hl := itr_fst0 (f := fun z : Int × Mem => f_X12_wrongLine_33 d z.1 z.2) (lnB (fun j => σ 127 (120 * (d : Int) + j))) (fun j => ((j : Int), σ)) m (fun _ => Sum.inl (-13, σ)) (Sum.inr σ) (by clear hv um u6; omega) (fun j hj hp => by
            show f_X12_wrongLine_33 d (j : Int) σ = _
            rw [body j hj, if_neg (by rw [hp]; decide)]
            rfl) (fun j hj hp => by
            show f_X12_wrongLine_33 d (j : Int) σ = _
            rw [body j hj, if_pos hp]) (by
            show f_X12_wrongLine_33 d (m : Int) σ = _
            unfold f_X12_wrongLine_33
            rw [hv, if_pos d8, k6, if_pos (Int.le_refl _)])
          cases hf : fst? (lnB (fun j => σ 127 (120 * (d : Int) + j))) 0 m with
          | some j =>
            rw [hf] at hl
            rw [show itr (fun z : Int × Mem => f_X12_wrongLine_33 d z.1 z.2) FU (0, σ) = some (Sum.inl (-13, σ)) from hl, lb_some, Sum.elim_inl, if_neg (fun z => by cases z.2)]
          | none =>
            rw [hf] at hl
            rw [show itr (fun z : Int × Mem => f_X12_wrongLine_33 d z.1 z.2) FU (0, σ) = some (Sum.inr σ) from hl, lb_some, Sum.elim_inr, if_pos ⟨k6, rfl⟩]
        · rw [if_neg k6, if_neg (fun z => k6 z.1)]
      · rw [m_wrong12 h.2.2.2 hd (by decide) k0 (fun z => k2 ⟨z.1, by rcases z.2 with y | y; exact absurd y (by decide); exact y⟩), ob_some, if_neg (by decide), if_neg k2]
  · rw [m_wrongNo hv c1, ob_some, if_neg (by decide), if_neg c1]
theorem op_makes {σ : Mem} (h : Rel σ) {v w : Int} (hv : s32 v = v) (hw : s32 w = w) : Op σ (f_X11_makes v w) (f_X12_makes v w) := by
  unfold Op f_X11_makes f_X12_makes
  by_cases q : σ 0 6 = 0
  · refine ⟨-3, σ, σ, ?_, ?_, h⟩
    · rw [q, if_pos s32_0]
    · rw [m_closed h q, ob_some, if_pos s32_0]
  · obtain ⟨e1, n, m, hO, hB, hM, e6, e7⟩ := h.mk2 q
    have hn := hO.1.1
    have hm := hO.1.2.1
    rw [e1, if_neg (by decide), c_sortAt hO.1 hB hw, ob_some]
    by_cases c2 : 0 ≤ w ∧ w < (n : Int)
    · obtain ⟨τ, e, hC, hL⟩ := c_lineFault h e1 hO hB hv
      have hR := h.co hC
      have hMt := hM.co hC
      have e121 : τ 121 = σ 121 := hC.row 121 (fun i => by unfold scr; omega)
      have e127 : τ 127 = σ 127 := hC.row 127 (fun i => by unfold scr; omega)
      have em := m_wrongLine hR (m := m) (n := n) (by rw [e121]; exact hO) hv
      rw [lfa_co hC] at em
      rw [bi_t c2, if_neg (by decide), e, ob_some, lfa_or]
      by_cases c1 : 0 ≤ v ∧ v ≤ 7
      · by_cases k : lfa σ v m = 0
        · obtain ⟨d, hd, rfl, hLN, hLR⟩ := hL k
          obtain ⟨k', hk, rfl⟩ : ∃ k' : Nat, k' < n ∧ w = k' := ⟨w.toNat, by clear hv hw; omega, by clear hv hw; omega⟩
          have k4 := fin4 hk hn.2
          have emk := m_makesBy (σ := τ) (n := n) (m := m) hd (by rw [e121]; exact hO.1) (by rw [e127]; exact hLN) hk
          rw [e121, e127] at emk
          refine ⟨mkb (σ 121) (fun j => σ 127 (120 * d + j)) k' m, τ, τ, ?_, ?_, hR⟩
          · rw [if_pos k, hw, if_pos k4, (hLR.2.2 k' hk).1]
          · rw [m_openAt hMt, ob_some, if_neg (by decide), m_isShelf hv, ob_some, bi_t c1, if_neg (by decide), m_sortAt hMt hw, ob_some, bi_t c2, if_neg (by decide), em, ob_some, lfa_or, if_pos k, emk, ob_some]
        · refine ⟨lfa σ v m, τ, τ, by rw [if_neg k], ?_, hR⟩
          rw [m_openAt hMt, ob_some, if_neg (by decide), m_isShelf hv, ob_some, bi_t c1, if_neg (by decide), m_sortAt hMt hw, ob_some, bi_t c2, if_neg (by decide), em, ob_some, lfa_or, if_neg k]
      · have k : lfa σ v m = -1 := if_neg c1
        refine ⟨-1, τ, τ, by rw [k, if_neg (by decide)], ?_, hR⟩
        rw [m_openAt hMt, ob_some, if_neg (by decide), m_isShelf hv, ob_some, bi_f c1, if_pos s32_0]
    · refine ⟨-1, σ, σ, by rw [bi_f c2, if_pos s32_0], ?_, h⟩
      rw [m_openAt hM, ob_some, if_neg (by decide), m_isShelf hv, ob_some]
      by_cases c1 : 0 ≤ v ∧ v ≤ 7
      · rw [bi_t c1, if_neg (by decide), m_sortAt hM hw, ob_some, bi_f c2, if_pos s32_0]
      · rw [bi_f c1, if_pos s32_0]
/-- what the buyers have left at a mark, sorts 0 .. k-1 -/
def lsS (s L : Int → Int) (m : Nat) (j : Int) (k : Nat) : Int := sumI (fun k => if mkb s L k m = j then s (3 + k) * (s (7 + k) + s (15 + j) - L j) else 0) k
def lsP (s L : Int → Int) (n m : Nat) (j : Nat) : Bool := decide (lsS s L m (j : Int) n < 0)
theorem lsS_in {n m : Nat} {s L : Int → Int} (h : Okm n m s) (hL : LN L m) {j : Nat} (hj : j < m) {k : Nat} (hk : k ≤ n) : -1600000 ≤ lsS s L m j k ∧ lsS s L m j k ≤ 1600000 := by
  have q2 := (h.2.2.2.2.2.2 j hj).1
  have q3 := hL j hj
  have t : ∀ i : Nat, i < k → -400000 ≤ (if mkb s L i m = (j : Int) then s (3 + i) * (s (7 + i) + s (15 + j) - L j) else 0) ∧ (if mkb s L i m = (j : Int) then s (3 + i) * (s (7 + i) + s (15 + j) - L j) else 0) ≤ 400000 := fun i hi => by
    have q := h.2.2.2.2.2.1 i (by omega)
    have c := mul_in2 (a := s (3 + i)) (b := s (7 + i) + s (15 + j) - L j) (A := 100) (B := 4000) (by omega) (by omega)
    split <;> omega
  have a1 := sumI_ge (a := -400000) (f := fun i => if mkb s L i m = (j : Int) then s (3 + i) * (s (7 + i) + s (15 + j) - L j) else 0) (n := k) (fun i hi => (t i hi).1)
  have a2 := sumI_le (a := 400000) (f := fun i => if mkb s L i m = (j : Int) then s (3 + i) * (s (7 + i) + s (15 + j) - L j) else 0) (n := k) (fun i hi => (t i hi).2)
  have := h.1
  unfold lsS
  omega
theorem c_surplus {σ : Mem} {n m : Nat} {s : Int → Int} (h : Okm n m s) (hc : CL σ n m s) {k : Nat} (hk : k < n) {j : Nat} (hj : j < m) (p : Int) : f_X3_surplus k j p σ = some (s (3 + k) * (s (7 + k) + s (15 + j) - p), σ) := by
  have hn := h.1
  have hm := h.2.1
  have k4 := fin4 hk hn.2
  have j4 := fin4 hj hm.2
  unfold f_X3_surplus
  rw [s32_of (z := (k : Int)) (by omega) (by omega), if_pos k4, s32_of (z := (j : Int)) (by omega) (by omega), if_pos j4, (hc.2.2.1 k hk).1, (hc.2.2.1 k hk).2.1, (hc.2.2.2 j hj).1]
theorem c_firstLoss {σ : Mem} {n m : Nat} {s L : Int → Int} (h : Okm n m s) (hL : LN L m) (hR : LR σ n m s L) : f_X3_firstLoss σ = some (res? (fst? (lsP s L n m) 0 m), σ) := by
  have hn := h.1
  have hm := h.2.1
  have inner : ∀ j : Nat, j < m → itr (fun z => f_X3_firstLoss_17 j z.1 z.2.1 z.2.2) FU (0, 0, σ) = some (lsS s L m j n, σ) := fun j hj => by
    refine itr_for0 (fun k => (lsS s L m j k, (k : Int), σ)) n _ (by omega) (fun k hk => ?_) ?_
    · have k4 := fin4 hk hn.2
      have j4 := fin4 hj hm.2
      have mi := mkb_in (L := L) h k
      show f_X3_firstLoss_17 j (lsS s L m j k) (k : Int) σ = some (Sum.inl (lsS s L m j k + (if mkb s L k m = (j : Int) then s (3 + k) * (s (7 + k) + s (15 + j) - L j) else 0), ((k + 1 : Nat) : Int), σ))
      unfold f_X3_firstLoss_17
      rw [hR.1.1, s32_of (z := (n : Int)) (by omega) (by omega), s32_of (z := (k : Int)) (by omega) (by omega), if_neg (by omega), if_pos k4, (hR.2.2 k hk).1, s32_of (z := mkb s L k m) (by omega) (by omega), s32_of (z := (j : Int)) (by omega) (by omega)]
      by_cases c : mkb s L k m = (j : Int)
      · rw [if_pos c, if_pos c, if_pos j4, hR.2.1 j hj, c_surplus h hR.1 hk hj, ob_some]
        rfl
      · rw [if_neg c, if_neg c, Int.add_zero]
        rfl
    · show f_X3_firstLoss_17 j (lsS s L m j n) (n : Int) σ = _
      unfold f_X3_firstLoss_17
      rw [hR.1.1, if_pos (Int.le_refl _)]
  have body : ∀ j : Nat, j < m → f_X3_firstLoss_2 (j : Int) σ = (if lsP s L n m j = true then some (.inr (.inl ((j : Int), σ))) else some (.inl ((j : Int) + 1, σ))) := by
    intro j hj
    have li := lsS_in h hL hj (Nat.le_refl n)
    unfold f_X3_firstLoss_2
    rw [hR.1.2.1, s32_of (z := (m : Int)) (by omega) (by omega), s32_of (z := (j : Int)) (by omega) (by omega), if_neg (by omega), inner j hj, lb_some]
    dsimp only
    rw [s32_of (z := lsS s L m j n) (by omega) (by omega)]
    by_cases c : lsS s L m j n < 0
    · rw [if_neg (by omega), if_pos (show lsP s L n m j = true from decide_eq_true c)]
    · rw [if_pos (by omega), if_neg (show ¬ lsP s L n m j = true from fun z => c (of_decide_eq_true z))]
  have hl := itr_fst0 (f := fun z : Int × Mem => f_X3_firstLoss_2 z.1 z.2) (lsP s L n m) (fun j => ((j : Int), σ)) m (fun j => Sum.inl ((j : Int), σ)) (Sum.inr σ) (by omega) (fun j hj hp => by
    show f_X3_firstLoss_2 (j : Int) σ = _
    rw [body j hj, if_neg (by rw [hp]; decide)]
    rfl) (fun j hj hp => by
    show f_X3_firstLoss_2 (j : Int) σ = _
    rw [body j hj, if_pos hp]) (by
    show f_X3_firstLoss_2 (m : Int) σ = _
    unfold f_X3_firstLoss_2
    rw [hR.1.2.1, if_pos (Int.le_refl _)])
  unfold f_X3_firstLoss
  cases hf : fst? (lsP s L n m) 0 m with
  | some j =>
    rw [hf] at hl
    rw [show itr (fun z : Int × Mem => f_X3_firstLoss_2 z.1 z.2) FU (0, σ) = some (Sum.inl ((j : Int), σ)) from hl, lb_some, Sum.elim_inl]
    rfl
  | none =>
    rw [hf] at hl
    rw [show itr (fun z : Int × Mem => f_X3_firstLoss_2 z.1 z.2) FU (0, σ) = some (Sum.inr σ) from hl, lb_some, Sum.elim_inr]
    rfl
theorem m_firstLoss {σ : Mem} {n m : Nat} {d : Nat} (hd : d < 8) (h : Okm n m (σ 121)) (hL : LN (fun j => σ 127 (120 * d + j)) m) : lb (itr (fun z => f_X12_loses_24 d z.1 z.2) FU (0, σ)) (fun q31 => Sum.elim (fun a34 => some a34) (fun b34 => (fun (σ33 : Mem) => some ((-4), σ33)) b34) q31) = some (res? (fst? (lsP (σ 121) (fun j => σ 127 (120 * d + j)) n m) 0 m), σ) := by
  have hn := h.1
  have hm := h.2.1
  have inner : ∀ j : Nat, j < m → itr (fun z => f_X12_loses_40 d j z.1 z.2.1 z.2.2) FU (0, 0, σ) = some (lsS (σ 121) (fun j => σ 127 (120 * d + j)) m j n, σ) := fun j hj => by
    refine itr_for0 (fun k => (lsS (σ 121) (fun j => σ 127 (120 * d + j)) m j k, (k : Int), σ)) n _ (by omega) (fun k hk => ?_) ?_
    · have mi := mkb_in (L := fun j => σ 127 (120 * d + j)) h k
      have t3 : 0 ≤ 3 + (k : Int) ∧ 3 + (k : Int) < 39 := by omega
      have t7 : 0 ≤ 7 + (k : Int) ∧ 7 + (k : Int) < 39 := by omega
      have t15 : 0 ≤ 15 + (j : Int) ∧ 15 + (j : Int) < 39 := by omega
      have t9 : 0 ≤ 120 * (d : Int) + (j : Int) ∧ 120 * (d : Int) + (j : Int) < 960 := by omega
      show f_X12_loses_40 d j (lsS (σ 121) (fun j => σ 127 (120 * d + j)) m j k) (k : Int) σ = some (Sum.inl (lsS (σ 121) (fun j => σ 127 (120 * d + j)) m j k + (if mkb (σ 121) (fun j => σ 127 (120 * d + j)) k m = (j : Int) then σ 121 (3 + k) * (σ 121 (7 + k) + σ 121 (15 + j) - σ 127 (120 * d + j)) else 0), ((k + 1 : Nat) : Int), σ))
      unfold f_X12_loses_40
      rw [h.2.2.1, s32_of (z := (n : Int)) (by omega) (by omega), s32_of (z := (k : Int)) (by omega) (by omega), if_neg (by omega), m_makesBy hd h hL hk, ob_some, s32_of (z := mkb (σ 121) (fun j => σ 127 (120 * d + j)) k m) (by omega) (by omega), s32_of (z := (j : Int)) (by omega) (by omega)]
      by_cases c : mkb (σ 121) (fun j => σ 127 (120 * d + j)) k m = (j : Int)
      · rw [if_pos c, if_pos c, s32_of (z := 3 + (k : Int)) (by omega) (by omega), if_pos t3, s32_of (z := 7 + (k : Int)) (by omega) (by omega), if_pos t7, s32_of (z := 15 + (j : Int)) (by omega) (by omega), if_pos t15, s32_of (z := 120 * (d : Int) + (j : Int)) (by omega) (by omega), if_pos t9]
        rfl
      · rw [if_neg c, if_neg c]
        rfl
    · show f_X12_loses_40 d j (lsS (σ 121) (fun j => σ 127 (120 * d + j)) m j n) (n : Int) σ = _
      unfold f_X12_loses_40
      rw [h.2.2.1, if_pos (Int.le_refl _)]
  have body : ∀ j : Nat, j < m → f_X12_loses_24 d (j : Int) σ = (if lsP (σ 121) (fun j => σ 127 (120 * d + j)) n m j = true then some (.inr (.inl ((j : Int), σ))) else some (.inl ((j : Int) + 1, σ))) := by
    intro j hj
    have li := lsS_in h hL hj (Nat.le_refl n)
    unfold f_X12_loses_24
    rw [h.2.2.2.1, s32_of (z := (m : Int)) (by omega) (by omega), s32_of (z := (j : Int)) (by omega) (by omega), if_neg (by omega), inner j hj, lb_some]
    dsimp only
    rw [s32_of (z := lsS (σ 121) (fun j => σ 127 (120 * d + j)) m j n) (by omega) (by omega)]
    by_cases c : lsS (σ 121) (fun j => σ 127 (120 * d + j)) m j n < 0
    · rw [if_neg (by omega), if_pos (show lsP (σ 121) (fun j => σ 127 (120 * d + j)) n m j = true from decide_eq_true c)]
    · rw [if_pos (by omega), if_neg (show ¬ lsP (σ 121) (fun j => σ 127 (120 * d + j)) n m j = true from fun z => c (of_decide_eq_true z))]
  have hl := itr_fst0 (f := fun z : Int × Mem => f_X12_loses_24 d z.1 z.2) (lsP (σ 121) (fun j => σ 127 (120 * d + j)) n m) (fun j => ((j : Int), σ)) m (fun j => Sum.inl ((j : Int), σ)) (Sum.inr σ) (by omega) (fun j hj hp => by
    show f_X12_loses_24 d (j : Int) σ = _
    rw [body j hj, if_neg (by rw [hp]; decide)]
    rfl) (fun j hj hp => by
    show f_X12_loses_24 d (j : Int) σ = _
    rw [body j hj, if_pos hp]) (by
    show f_X12_loses_24 d (m : Int) σ = _
    unfold f_X12_loses_24
    rw [h.2.2.2.1, if_pos (Int.le_refl _)])
  cases hf : fst? (lsP (σ 121) (fun j => σ 127 (120 * d + j)) n m) 0 m with
  | some j =>
    rw [hf] at hl
    rw [show itr (fun z : Int × Mem => f_X12_loses_24 d z.1 z.2) FU (0, σ) = some (Sum.inl ((j : Int), σ)) from hl, lb_some, Sum.elim_inl]
    rfl
  | none =>
    rw [hf] at hl
    rw [show itr (fun z : Int × Mem => f_X12_loses_24 d z.1 z.2) FU (0, σ) = some (Sum.inr σ) from hl, lb_some, Sum.elim_inr]
    rfl
theorem op_loses {σ : Mem} (h : Rel σ) {v : Int} (hv : s32 v = v) : Op σ (f_X11_loses v) (f_X12_loses v) := by
  unfold Op f_X11_loses f_X12_loses
  by_cases q : σ 0 6 = 0
  · refine ⟨-3, σ, σ, ?_, ?_, h⟩
    · unfold f_X11_lineFault
      rw [q, if_pos s32_0, ob_some, if_neg (by decide)]
    · rw [m_closed h q, ob_some, if_pos s32_0]
  · obtain ⟨e1, n, m, hO, hB, hM, e6, e7⟩ := h.mk2 q
    obtain ⟨τ, e, hC, hL⟩ := c_lineFault h e1 hO hB hv
    have hR := h.co hC
    have hMt := hM.co hC
    have e121 : τ 121 = σ 121 := hC.row 121 (fun i => by unfold scr; omega)
    have e127 : τ 127 = σ 127 := hC.row 127 (fun i => by unfold scr; omega)
    have em := m_wrongLine hR (m := m) (n := n) (by rw [e121]; exact hO) hv
    rw [lfa_co hC] at em
    rw [e, ob_some, lfa_or]
    by_cases k : lfa σ v m = 0
    · obtain ⟨d, hd, rfl, hLN, hLR⟩ := hL k
      have emk := m_firstLoss (σ := τ) (n := n) (m := m) hd (by rw [e121]; exact hO.1) (by rw [e127]; exact hLN)
      rw [e121, e127] at emk
      refine ⟨res? (fst? (lsP (σ 121) (fun j => σ 127 (120 * d + j)) n m) 0 m), τ, τ, ?_, ?_, hR⟩
      · rw [if_pos k, c_firstLoss hO.1 hLN hLR, ob_some]
      · rw [m_openAt hMt, ob_some, if_neg (by decide), em, ob_some, lfa_or, if_pos k, emk]
    · refine ⟨lfa σ v m, τ, τ, by rw [if_neg k], ?_, hR⟩
      rw [m_openAt hMt, ob_some, if_neg (by decide), em, ob_some, lfa_or, if_neg k]
/-- what an offer earns -/
def ern (s L : Int → Int) (m : Nat) (j : Int) (p : Int) (k : Nat) : Int := sumI (fun k => if p - s (19 + 4 * j + k) ≤ bl s L k (mkb s L k m) then 0 else s (3 + k) * (s (7 + k) + s (15 + j) - p)) k
def erP (s L : Int → Int) (n m : Nat) (j : Nat) (p : Nat) : Bool := decide (0 < ern s L m (j : Int) (p : Int) n)
theorem ern_in {n m : Nat} {s L : Int → Int} (h : Okm n m s) {j : Nat} (hj : j < m) {p : Nat} (hp : p < 2000) {k : Nat} (hk : k ≤ n) : -1600000 ≤ ern s L m j p k ∧ ern s L m j p k ≤ 1600000 := by
  have q2 := (h.2.2.2.2.2.2 j hj).1
  have t : ∀ i : Nat, i < k → -400000 ≤ (if (p : Int) - s (19 + 4 * j + i) ≤ bl s L i (mkb s L i m) then 0 else s (3 + i) * (s (7 + i) + s (15 + j) - p)) ∧ (if (p : Int) - s (19 + 4 * j + i) ≤ bl s L i (mkb s L i m) then 0 else s (3 + i) * (s (7 + i) + s (15 + j) - p)) ≤ 400000 := fun i hi => by
    have q := h.2.2.2.2.2.1 i (by omega)
    have c := mul_in2 (a := s (3 + i)) (b := s (7 + i) + s (15 + j) - p) (A := 100) (B := 4000) (by omega) (by omega)
    split <;> omega
  have a1 := sumI_ge (a := -400000) (f := fun i => if (p : Int) - s (19 + 4 * j + i) ≤ bl s L i (mkb s L i m) then 0 else s (3 + i) * (s (7 + i) + s (15 + j) - p)) (n := k) (fun i hi => (t i hi).1)
  have a2 := sumI_le (a := 400000) (f := fun i => if (p : Int) - s (19 + 4 * j + i) ≤ bl s L i (mkb s L i m) then 0 else s (3 + i) * (s (7 + i) + s (15 + j) - p)) (n := k) (fun i hi => (t i hi).2)
  have := h.1
  unfold ern
  omega
theorem mwS_ge {s : Int → Int} : ∀ {n k : Nat}, k < n → s (7 + k) ≤ mwS s n
  | 0, _, h => absurd h (Nat.not_lt_zero _)
  | n + 1, k, h => by
    unfold mwS
    by_cases e : k = n
    · subst e
      split <;> omega
    · have := mwS_ge (s := s) (n := n) (k := k) (by omega)
      split <;> omega
/-- who offers as much as the best work is worth earns nothing -/
theorem erP_far {n m : Nat} {s L : Int → Int} (h : Okm n m s) (j : Nat) {p : Nat} (hp : mwS s n + s (15 + j) ≤ (p : Int)) : erP s L n m j p = false := by
  refine decide_eq_false (fun z => ?_)
  have a2 := sumI_le (a := 0) (f := fun i => if (p : Int) - s (19 + 4 * j + i) ≤ bl s L i (mkb s L i m) then 0 else s (3 + i) * (s (7 + i) + s (15 + j) - p)) (n := n) (fun i hi => by
    have q := h.2.2.2.2.2.1 i hi
    have g := mwS_ge (s := s) hi
    split
    · omega
    · have c := mul_in (a := s (3 + i)) (b := p - (s (7 + i) + s (15 + j))) (A := 100) (B := p - (s (7 + i) + s (15 + j))) (by omega) (by omega)
      have e : s (3 + (i : Int)) * (s (7 + i) + s (15 + j) - p) = -(s (3 + i) * (p - (s (7 + i) + s (15 + j)))) := by
        rw [← Int.mul_neg]
        congr 1
        omega
      rw [e]
      omega)
  unfold ern at z
  omega
theorem fst?_ext {P : Nat → Bool} {E N : Nat} (h : E ≤ N) (hf : ∀ i, E ≤ i → i < N → P i = false) : fst? P 0 E = fst? P 0 N := by
  cases hN : fst? P 0 N with
  | some j =>
    obtain ⟨h1, h2, h3⟩ := fst?_some hN
    have hj : j < E := by
      rcases Nat.lt_or_ge j E with q | q
      · exact q
      · rw [hf j q (by omega)] at h3
        cases h3
    exact fst?_eq (Nat.zero_le j) (by omega) h3 (fun i a b => fst?_min hN i a b)
  | none =>
    rw [fst?_none] at hN ⊢
    exact fun i a b => hN i a (by omega)
/-- the first offer that breaks a line -/
def ofr (s L : Int → Int) (n m : Nat) (j : Nat) : Option Nat := fst? (erP s L n m j) 0 2000
def brk (s L : Int → Int) (n m : Nat) : Int := match fst? (fun j => (ofr s L n m j).isSome) 0 m with | some j => 10000 * (j : Int) + res? (ofr s L n m j) | none => -4
theorem c_earned {σ : Mem} {n m : Nat} {s L : Int → Int} (h : Okm n m s) (hL : LN L m) (hR : LR σ n m s L) {j : Nat} (hj : j < m) {p : Nat} (hp : p < 2000) : f_X3_earned j p σ = some (ern s L m j p n, σ) := by
  have hn := h.1
  have hm := h.2.1
  have hl : itr (fun z => f_X3_earned_5 j p z.1 z.2.1 z.2.2) FU (0, 0, σ) = some (ern s L m j p n, σ) := by
    refine itr_for0 (fun k => (ern s L m j p k, (k : Int), σ)) n _ (by omega) (fun k hk => ?_) ?_
    · have k4 := fin4 hk hn.2
      have j4 := fin4 hj hm.2
      have mi := mkb_in (L := L) h k
      have b1 := bl_in h hL hk mi
      have q := (h.2.2.2.2.2.2 j hj).2.2 k hk
      show f_X3_earned_5 j p (ern s L m j p k) (k : Int) σ = some (Sum.inl (ern s L m j p k + (if (p : Int) - s (19 + 4 * j + k) ≤ bl s L k (mkb s L k m) then 0 else s (3 + k) * (s (7 + k) + s (15 + j) - p)), ((k + 1 : Nat) : Int), σ))
      unfold f_X3_earned_5
      rw [hR.1.1, s32_of (z := (n : Int)) (by omega) (by omega), s32_of (z := (k : Int)) (by omega) (by omega), if_neg (by omega), s32_of (z := (j : Int)) (by omega) (by omega), if_pos j4, if_pos k4, (hR.1.2.2.2 j hj).2 k hk, (hR.2.2 k hk).2, s32_of (z := (p : Int) - s (19 + 4 * (j : Int) + k)) (by omega) (by omega), s32_of (z := bl s L k (mkb s L k m)) (by omega) (by omega)]
      by_cases c : (p : Int) - s (19 + 4 * (j : Int) + k) ≤ bl s L k (mkb s L k m)
      · rw [if_pos c, if_pos c, Int.add_zero]
        rfl
      · rw [if_neg c, if_neg c, c_surplus h hR.1 hk hj, ob_some]
        rfl
    · show f_X3_earned_5 j p (ern s L m j p n) (n : Int) σ = _
      unfold f_X3_earned_5
      rw [hR.1.1, if_pos (Int.le_refl _)]
  unfold f_X3_earned
  rw [hl, lb_some]
theorem LR.ck {σ : Mem} {n m : Nat} {s L : Int → Int} (h : Okm n m s) (hR : LR σ n m s L) : f_X4_mostWorth 10 σ = some (mwS s n, σ) := by
  have hn := h.1
  have hl : itr (fun z => f_X4_mostWorth_4 10 z.1 z.2.1 z.2.2) FU (0, 0, σ) = some (mwS s n, σ) := by
    refine itr_for0 (fun k => (mwS s k, (k : Int), σ)) n _ (by omega) (fun k hk => ?_) ?_
    · have a1 := mwS_in h k (by omega)
      have a2 := (h.2.2.2.2.2.1 k hk).2.1
      have a3 := (hR.1.2.2.1 k hk).2.1
      have h4 := fin4 hk hn.2
      show f_X4_mostWorth_4 10 (mwS s k) (k : Int) σ = some (Sum.inl ((if mwS s k < s (7 + k) then s (7 + k) else mwS s k), ((k + 1 : Nat) : Int), σ))
      unfold f_X4_mostWorth_4 mx32
      rw [hR.1.1, s32_of (z := (n : Int)) (by omega) (by omega), s32_of (z := (k : Int)) (by omega) (by omega), if_neg (by omega), if_pos h4, show (10 : Int) + 2 = 12 from rfl, a3, s32_of (z := s (7 + (k : Int))) (by omega) (by omega), s32_of (z := mwS s k) (by omega) (by omega)]
      rfl
    · show f_X4_mostWorth_4 10 (mwS s n) (n : Int) σ = _
      unfold f_X4_mostWorth_4
      rw [hR.1.1, if_pos (Int.le_refl _)]
  unfold f_X4_mostWorth
  rw [hl, lb_some]
theorem c_firstOffer {σ : Mem} {n m : Nat} {s L : Int → Int} (h : Okm n m s) (hL : LN L m) (hR : LR σ n m s L) : f_X3_firstOffer σ = some (brk s L n m, σ) := by
  have hn := h.1
  have hm := h.2.1
  have mw := mwS_in h n (Nat.le_refl n)
  have inner : ∀ j : Nat, j < m → itr (fun z => f_X3_firstOffer_33 j (mwS s n + s (15 + j)) z.1 z.2) FU (0, σ) = some (match ofr s L n m j with | some p => Sum.inl (10000 * (j : Int) + (p : Int), σ) | none => Sum.inr σ) := fun j hj => by
    have q := (h.2.2.2.2.2.2 j hj).1
    obtain ⟨E, hE⟩ : ∃ E : Nat, mwS s n + s (15 + j) = E := ⟨(mwS s n + s (15 + j)).toNat, by omega⟩
    have e2 : ofr s L n m j = fst? (erP s L n m j) 0 E := (fst?_ext (by omega) (fun i h1 h2 => erP_far h j (by omega))).symm
    rw [e2, hE]
    refine itr_fst0 (f := fun z : Int × Mem => f_X3_firstOffer_33 j E z.1 z.2) (erP s L n m j) (fun p => ((p : Int), σ)) E (fun p => Sum.inl (10000 * (j : Int) + (p : Int), σ)) (Sum.inr σ) (by omega) (fun p hp hpp => ?_) (fun p hp hpp => ?_) ?_
    · have er := ern_in (L := L) h hj (p := p) (by omega) (Nat.le_refl n)
      have hc := of_decide_eq_false hpp
      show f_X3_firstOffer_33 j E (p : Int) σ = _
      unfold f_X3_firstOffer_33
      rw [s32_of (z := (E : Int)) (by omega) (by omega), s32_of (z := (p : Int)) (by omega) (by omega), if_neg (by omega), c_earned h hL hR hj (by omega), ob_some, s32_of (z := ern s L m j p n) (by omega) (by omega), if_pos (by omega)]
      rfl
    · have er := ern_in (L := L) h hj (p := p) (by omega) (Nat.le_refl n)
      have hc := of_decide_eq_true hpp
      show f_X3_firstOffer_33 j E (p : Int) σ = _
      unfold f_X3_firstOffer_33
      rw [s32_of (z := (E : Int)) (by omega) (by omega), s32_of (z := (p : Int)) (by omega) (by omega), if_neg (by omega), c_earned h hL hR hj (by omega), ob_some, s32_of (z := ern s L m j p n) (by omega) (by omega), if_neg (by omega)]
    · show f_X3_firstOffer_33 j E (E : Int) σ = _
      unfold f_X3_firstOffer_33
      rw [if_pos (Int.le_refl _)]
  have body : ∀ j : Nat, j < m → f_X3_firstOffer_2 (j : Int) σ = (if (ofr s L n m j).isSome = true then some (.inr (.inl (10000 * (j : Int) + res? (ofr s L n m j), σ))) else some (.inl ((j : Int) + 1, σ))) := by
    intro j hj
    have j4 := fin4 hj hm.2
    unfold f_X3_firstOffer_2
    rw [hR.1.2.1, s32_of (z := (m : Int)) (by omega) (by omega), s32_of (z := (j : Int)) (by omega) (by omega), if_neg (by omega), hR.ck h, ob_some, if_pos j4, (hR.1.2.2.2 j hj).1]
    simp only [vl]
    rw [inner j hj, lb_some]
    cases ofr s L n m j with
    | some p => rfl
    | none => rfl
  have hl := itr_fst0 (f := fun z : Int × Mem => f_X3_firstOffer_2 z.1 z.2) (fun j => (ofr s L n m j).isSome) (fun j => ((j : Int), σ)) m (fun j => Sum.inl (10000 * (j : Int) + res? (ofr s L n m j), σ)) (Sum.inr σ) (by omega) (fun j hj hp => by
    show f_X3_firstOffer_2 (j : Int) σ = _
    rw [body j hj, if_neg (by rw [hp]; decide)]
    rfl) (fun j hj hp => by
    show f_X3_firstOffer_2 (j : Int) σ = _
    rw [body j hj, if_pos hp]) (by
    show f_X3_firstOffer_2 (m : Int) σ = _
    unfold f_X3_firstOffer_2
    rw [hR.1.2.1, if_pos (Int.le_refl _)])
  unfold f_X3_firstOffer brk
  cases hf : fst? (fun j => (ofr s L n m j).isSome) 0 m with
  | some j =>
    rw [hf] at hl
    rw [show itr (fun z : Int × Mem => f_X3_firstOffer_2 z.1 z.2) FU (0, σ) = some (Sum.inl (10000 * (j : Int) + res? (ofr s L n m j), σ)) from hl, lb_some, Sum.elim_inl]
  | none =>
    rw [hf] at hl
    rw [show itr (fun z : Int × Mem => f_X3_firstOffer_2 z.1 z.2) FU (0, σ) = some (Sum.inr σ) from hl, lb_some, Sum.elim_inr]
theorem m_firstOffer {σ : Mem} {n m : Nat} {d : Nat} (hd : d < 8) (h : Okm n m (σ 121)) (hL : LN (fun j => σ 127 (120 * d + j)) m) : lb (itr (fun z => f_X12_broken_24 d z.1 z.2) FU (0, σ)) (fun q44 => Sum.elim (fun a47 => some a47) (fun b47 => (fun (σ46 : Mem) => some ((-4), σ46)) b47) q44) = some (brk (σ 121) (fun j => σ 127 (120 * d + j)) n m, σ) := by
  obtain ⟨L, hLd⟩ : ∃ L : Int → Int, L = fun j => σ 127 (120 * d + j) := ⟨_, rfl⟩
  rw [← hLd] at hL ⊢
  have hn := h.1
  have hm := h.2.1
  have hmk : ∀ k : Nat, k < n → f_X12_makesBy d k σ = some (mkb (σ 121) L k m, σ) := fun k hk => by
    rw [hLd]
    exact m_makesBy hd h (by rw [← hLd]; exact hL) hk
  have hbl : ∀ (k : Nat) (a : Int), k < n → (a = 4 ∨ (0 ≤ a ∧ a < (m : Int))) → f_X12_byLine d k a σ = some (bl (σ 121) L k a, σ) := fun k a hk ha => by
    rw [hLd]
    exact m_byLine hd h hk ha
  have sum : ∀ (j : Nat) (p : Nat), j < m → p < 2000 → itr (fun z => f_X12_broken_51 d j p z.1 z.2.1 z.2.2) FU (0, 0, σ) = some (ern (σ 121) L m j p n, σ) := fun j p hj hp => by
    refine itr_for0 (fun k => (ern (σ 121) L m j p k, (k : Int), σ)) n _ (by omega) (fun k hk => ?_) ?_
    · have mi := mkb_in (L := L) h k
      have b1 := bl_in h hL hk mi
      have q := (h.2.2.2.2.2.2 j hj).2.2 k hk
      have t3 : 0 ≤ 3 + (k : Int) ∧ 3 + (k : Int) < 39 := by omega
      have t7 : 0 ≤ 7 + (k : Int) ∧ 7 + (k : Int) < 39 := by omega
      have t15 : 0 ≤ 15 + (j : Int) ∧ 15 + (j : Int) < 39 := by omega
      have t5 : 0 ≤ 19 + 4 * (j : Int) + (k : Int) ∧ 19 + 4 * (j : Int) + (k : Int) < 39 := by omega
      show f_X12_broken_51 d j p (ern (σ 121) L m j p k) (k : Int) σ = some (Sum.inl (ern (σ 121) L m j p k + (if (p : Int) - σ 121 (19 + 4 * j + k) ≤ bl (σ 121) L k (mkb (σ 121) L k m) then 0 else σ 121 (3 + k) * (σ 121 (7 + k) + σ 121 (15 + j) - p)), ((k + 1 : Nat) : Int), σ))
      unfold f_X12_broken_51
      rw [h.2.2.1, s32_of (z := (n : Int)) (by omega) (by omega), s32_of (z := (k : Int)) (by omega) (by omega), if_neg (by omega), s32_of (z := 19 + 4 * (j : Int) + (k : Int)) (by omega) (by omega), if_pos t5, hmk k hk, ob_some, hbl k _ hk mi, ob_some, s32_of (z := (p : Int) - σ 121 (19 + 4 * (j : Int) + k)) (by omega) (by omega), s32_of (z := bl (σ 121) L k (mkb (σ 121) L k m)) (by omega) (by omega)]
      by_cases c : (p : Int) - σ 121 (19 + 4 * (j : Int) + k) ≤ bl (σ 121) L k (mkb (σ 121) L k m)
      · rw [if_pos c, if_pos c]
        rfl
      · rw [if_neg c, if_neg c, s32_of (z := 3 + (k : Int)) (by omega) (by omega), if_pos t3, s32_of (z := 7 + (k : Int)) (by omega) (by omega), if_pos t7, s32_of (z := 15 + (j : Int)) (by omega) (by omega), if_pos t15]
        rfl
    · show f_X12_broken_51 d j p (ern (σ 121) L m j p n) (n : Int) σ = _
      unfold f_X12_broken_51
      rw [h.2.2.1, if_pos (Int.le_refl _)]
  have inner : ∀ j : Nat, j < m → itr (fun z => f_X12_broken_37 d j z.1 z.2) FU (0, σ) = some (match ofr (σ 121) L n m j with | some p => Sum.inl (10000 * (j : Int) + (p : Int), σ) | none => Sum.inr σ) := fun j hj => by
    refine itr_fst0 (f := fun z : Int × Mem => f_X12_broken_37 d j z.1 z.2) (erP (σ 121) L n m j) (fun p => ((p : Int), σ)) 2000 (fun p => Sum.inl (10000 * (j : Int) + (p : Int), σ)) (Sum.inr σ) (by omega) (fun p hp hpp => ?_) (fun p hp hpp => ?_) ?_
    · have er := ern_in (L := L) h hj hp (Nat.le_refl n)
      have hc := of_decide_eq_false hpp
      show f_X12_broken_37 d j (p : Int) σ = _
      unfold f_X12_broken_37
      rw [s32_of (z := (p : Int)) (by omega) (by omega), if_neg (by omega), sum j p hj hp, lb_some]
      dsimp only
      rw [s32_of (z := ern (σ 121) L m j p n) (by omega) (by omega), if_pos (by omega)]
      rfl
    · have er := ern_in (L := L) h hj hp (Nat.le_refl n)
      have hc := of_decide_eq_true hpp
      show f_X12_broken_37 d j (p : Int) σ = _
      unfold f_X12_broken_37
      rw [s32_of (z := (p : Int)) (by omega) (by omega), if_neg (by omega), sum j p hj hp, lb_some]
      dsimp only
      rw [s32_of (z := ern (σ 121) L m j p n) (by omega) (by omega), if_neg (by omega)]
    · show f_X12_broken_37 d j ((2000 : Nat) : Int) σ = _
      unfold f_X12_broken_37
      rw [if_pos (by decide)]
  have body : ∀ j : Nat, j < m → f_X12_broken_24 d (j : Int) σ = (if (ofr (σ 121) L n m j).isSome = true then some (.inr (.inl (10000 * (j : Int) + res? (ofr (σ 121) L n m j), σ))) else some (.inl ((j : Int) + 1, σ))) := by
    intro j hj
    unfold f_X12_broken_24
    rw [h.2.2.2.1, s32_of (z := (m : Int)) (by omega) (by omega), s32_of (z := (j : Int)) (by omega) (by omega), if_neg (by omega), inner j hj, lb_some]
    cases ofr (σ 121) L n m j with
    | some p => rfl
    | none => rfl
  have hl := itr_fst0 (f := fun z : Int × Mem => f_X12_broken_24 d z.1 z.2) (fun j => (ofr (σ 121) L n m j).isSome) (fun j => ((j : Int), σ)) m (fun j => Sum.inl (10000 * (j : Int) + res? (ofr (σ 121) L n m j), σ)) (Sum.inr σ) (by omega) (fun j hj hp => by
    show f_X12_broken_24 d (j : Int) σ = _
    rw [body j hj, if_neg (by rw [hp]; decide)]
    rfl) (fun j hj hp => by
    show f_X12_broken_24 d (j : Int) σ = _
    rw [body j hj, if_pos hp]) (by
    show f_X12_broken_24 d (m : Int) σ = _
    unfold f_X12_broken_24
    rw [h.2.2.2.1, if_pos (Int.le_refl _)])
  unfold brk
  cases hf : fst? (fun j => (ofr (σ 121) L n m j).isSome) 0 m with
  | some j =>
    rw [hf] at hl
    rw [show itr (fun z : Int × Mem => f_X12_broken_24 d z.1 z.2) FU (0, σ) = some (Sum.inl (10000 * (j : Int) + res? (ofr (σ 121) L n m j), σ)) from hl, lb_some, Sum.elim_inl]
  | none =>
    rw [hf] at hl
    rw [show itr (fun z : Int × Mem => f_X12_broken_24 d z.1 z.2) FU (0, σ) = some (Sum.inr σ) from hl, lb_some, Sum.elim_inr]
theorem op_broken {σ : Mem} (h : Rel σ) {v : Int} (hv : s32 v = v) : Op σ (f_X11_broken v) (f_X12_broken v) := by
  unfold Op f_X11_broken f_X12_broken
  by_cases q : σ 0 6 = 0
  · refine ⟨-3, σ, σ, ?_, ?_, h⟩
    · unfold f_X11_lineFault
      rw [q, if_pos s32_0, ob_some, if_neg (by decide)]
    · rw [m_closed h q, ob_some, if_pos s32_0]
  · obtain ⟨e1, n, m, hO, hB, hM, e6, e7⟩ := h.mk2 q
    obtain ⟨τ, e, hC, hL⟩ := c_lineFault h e1 hO hB hv
    have hR := h.co hC
    have hMt := hM.co hC
    have e121 : τ 121 = σ 121 := hC.row 121 (fun i => by unfold scr; omega)
    have e127 : τ 127 = σ 127 := hC.row 127 (fun i => by unfold scr; omega)
    have em := m_wrongLine hR (m := m) (n := n) (by rw [e121]; exact hO) hv
    rw [lfa_co hC] at em
    rw [e, ob_some, lfa_or]
    by_cases k : lfa σ v m = 0
    · obtain ⟨d, hd, rfl, hLN, hLR⟩ := hL k
      have emk := m_firstOffer (σ := τ) (n := n) (m := m) hd (by rw [e121]; exact hO.1) (by rw [e127]; exact hLN)
      rw [e121, e127] at emk
      refine ⟨brk (σ 121) (fun j => σ 127 (120 * d + j)) n m, τ, τ, ?_, ?_, hR⟩
      · rw [if_pos k, c_firstOffer hO.1 hLN hLR, ob_some]
      · rw [m_openAt hMt, ob_some, if_neg (by decide), em, ob_some, lfa_or, if_pos k, emk]
    · refine ⟨lfa σ v m, τ, τ, by rw [if_neg k], ?_, hR⟩
      rw [m_openAt hMt, ob_some, if_neg (by decide), em, ob_some, lfa_or, if_neg k]
