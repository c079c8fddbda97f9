/-! PURE 10: how the two sides agree between calls -/
/-- a market as it is kept: chances together 100, costs to 999 -/
def Okx (n m : Nat) (s : Int → Int) : Prop := Okm n m s ∧ sumI (fun k => s (3 + k)) n = 100 ∧ ∀ j : Nat, j < m → ∀ k : Nat, k < n → s (19 + 4 * j + k) ≤ 999
/-- the class's kept market (at 30) is s -/
def CI (σ : Mem) (n m : Nat) (s : Int → Int) : Prop := σ 30 0 = n ∧ σ 30 1 = m ∧ σ 30 2 = s 2 ∧
  (∀ k : Nat, k < n → σ 31 k = s (3 + k) ∧ σ 32 k = s (7 + k) ∧ σ 33 k = s (11 + k)) ∧
  (∀ j : Nat, j < m → σ 34 j = s (15 + j) ∧ σ 35 j = s (35 + j) - 1 ∧ ∀ k : Nat, k < n → σ (36 + 1 + j) k = s (19 + 4 * j + k))
def RelF (σ : Mem) : Prop := (σ 0 6 = 0 ∨ σ 0 6 = 1) ∧ (σ 0 7 = 0 ∨ (σ 0 7 = 1 ∧ σ 0 6 = 1)) ∧ σ 120 9 = σ 0 7 ∧ (σ 120 17 = 0 ∧ σ 120 18 = 0 ∧ σ 120 19 = 1 ∧ σ 120 20 = 0) ∧ (σ 72 6 = 0 ∧ σ 72 7 = 0 ∧ σ 72 9 = 0) ∧ (0 ≤ σ 72 8 ∧ σ 72 8 < 4) ∧ (σ 72 11 = 1 ∧ σ 72 12 = 1 ∧ σ 72 13 = 0)
def RelM (σ : Mem) : Prop := (σ 0 6 = 0 ∧ σ 121 0 = 0 ∧ σ 121 1 = 0 ∧ σ 10 0 = 0 ∧ σ 10 1 = 0) ∨ (σ 0 6 = 1 ∧ ∃ n m, Okx n m (σ 121) ∧ CK σ n m (σ 121))
def RelI (σ : Mem) : Prop := σ 0 7 = 1 → ∃ n m, Okx n m (σ 122) ∧ CI σ n m (σ 122)
def inI (z : Int) : Prop := -2147483648 ≤ z ∧ z ≤ 2147483647
def FitR (σ : Mem) (d : Int) : Prop := (0 ≤ σ (100 + 2 * d) 0 ∧ σ (100 + 2 * d) 0 ≤ 5) ∧ (0 ≤ σ (100 + 2 * d) 1 ∧ σ (100 + 2 * d) 1 ≤ 625) ∧ (0 ≤ σ (100 + 2 * d) 2 ∧ σ (100 + 2 * d) 2 ≤ 4) ∧ (0 ≤ σ (100 + 2 * d) 3 ∧ σ (100 + 2 * d) 3 ≤ 4) ∧ (0 ≤ σ (100 + 2 * d) 4 ∧ σ (100 + 2 * d) 4 ≤ 4) ∧
  σ 128 d = (if σ (100 + 2 * d) 0 = 0 then σ (100 + 2 * d) 2 else if σ (100 + 2 * d) 0 = 1 then 2 * σ (100 + 2 * d) 2 else if σ (100 + 2 * d) 0 = 2 then σ (100 + 2 * d) 2 + 5 else if σ (100 + 2 * d) 0 = 3 then σ (100 + 2 * d) 2 + σ (100 + 2 * d) 3 else if σ (100 + 2 * d) 0 = 4 then 2 * σ (100 + 2 * d) 2 + 1 else 2 * (σ (100 + 2 * d) 2 + 5)) ∧
  σ 129 d = (if σ (100 + 2 * d) 0 = 3 ∨ ¬ σ (100 + 2 * d) 3 < σ (100 + 2 * d) 4 then -15 else if σ (100 + 2 * d) 0 = 4 then 1000 + σ (100 + 2 * d) 1 else if σ (100 + 2 * d) 0 = 5 then σ (100 + 2 * d) 2 else σ (100 + 2 * d) 1)
def ShR (σ : Mem) (d : Int) : Prop :=
  (σ 124 d = 0 ∧ σ (80 + 2 * d) 1 = -1 ∧ σ (80 + 2 * d) 3 = 0) ∨
  (σ 124 d = 1 ∧ σ (80 + 2 * d) 1 = -1 ∧ σ (80 + 2 * d) 3 = 1 ∧ FitR σ d) ∨
  (σ 124 d = 2 ∧ σ (80 + 2 * d) 3 = 0 ∧ σ (80 + 2 * d) 1 = σ 125 d ∧ (0 ≤ σ 125 d ∧ σ 125 d ≤ 2) ∧ σ (80 + 2 * d) 2 = σ 126 d ∧ (0 ≤ σ 126 d ∧ σ 126 d ≤ 120) ∧ ∀ j : Nat, j < 120 → σ (80 + 2 * d + 1) j = σ 127 (120 * d + j) ∧ inI (σ 127 (120 * d + j)))
def RelS (σ : Mem) : Prop := ∀ d : Nat, d < 8 → ShR σ d
def Rel (σ : Mem) : Prop := RelF σ ∧ RelM σ ∧ RelI σ ∧ RelS σ
/-- scratch of both sides -/
def scr (a i : Int) : Prop := (50 ≤ a ∧ a ≤ 71) ∨ (73 ≤ a ∧ a ≤ 79) ∨ (a = 72 ∧ (i = 4 ∨ i = 5 ∨ i = 10)) ∨ (a = 120 ∧ ((10 ≤ i ∧ i ≤ 15) ∨ i = 21 ∨ i = 22)) ∨ a = 123 ∨ 130 ≤ a
def CO (σ σ' : Mem) : Prop := ∀ a i, ¬ scr a i → σ' a i = σ a i
theorem CO.rf {σ : Mem} : CO σ σ := fun _ _ _ => rfl
theorem CO.tr {σ τ υ : Mem} (h : CO σ τ) (g : CO τ υ) : CO σ υ := fun a i q => (g a i q).trans (h a i q)
theorem CS.co {σ τ : Mem} (h : CS σ τ) : CO σ τ := fun a i q => h a i (fun z => q (by unfold scr; omega))
theorem ab_co {σ : Mem} {x y : Int} : CO σ (ab σ x y) := fun a i q => by
  unfold ab
  rw [if_neg (fun z => q (by unfold scr; omega)), if_neg (fun z => q (by unfold scr; omega))]
theorem CO.up {σ τ : Mem} {a i v : Int} (h : CO σ τ) (q : scr a i) : CO σ (ups τ a i v) := by
  intro x j hx
  unfold ups
  rw [if_neg (fun z => hx (by rw [z.1, z.2]; exact q))]
  exact h x j hx
theorem CO.row {σ τ : Mem} (h : CO σ τ) (a : Int) (q : ∀ i, ¬ scr a i) : τ a = σ a := funext fun i => h a i (q i)
theorem CO.at {σ τ : Mem} (h : CO σ τ) (a i : Int) (q : ¬ scr a i) : τ a i = σ a i := h a i q
theorem Rel.co {σ τ : Mem} (h : Rel σ) (c : CO σ τ) : Rel τ := by
  obtain ⟨hF, hM, hI, hS⟩ := h
  have r : ∀ a : Int, (a = 0 ∨ a = 1 ∨ (10 ≤ a ∧ a ≤ 40) ∨ (80 ≤ a ∧ a ≤ 116) ∨ (a = 121 ∨ a = 122 ∨ (124 ≤ a ∧ a ≤ 129))) → τ a = σ a := fun a q => c.row a (fun i => by unfold scr; omega)
  have e7 : ∀ i : Int, (i = 6 ∨ i = 7 ∨ i = 8 ∨ i = 9 ∨ i = 11 ∨ i = 12 ∨ i = 13) → τ 72 i = σ 72 i := fun i q => c.at 72 i (by unfold scr; omega)
  have e12 : ∀ i : Int, (i = 9 ∨ i = 17 ∨ i = 18 ∨ i = 19 ∨ i = 20) → τ 120 i = σ 120 i := fun i q => c.at 120 i (by unfold scr; omega)
  refine ⟨?_, ?_, ?_, ?_⟩
  · unfold RelF
    rw [r 0 (by omega), e7 6 (by omega), e7 7 (by omega), e7 8 (by omega), e7 9 (by omega), e7 11 (by omega), e7 12 (by omega), e7 13 (by omega), e12 9 (by omega), e12 17 (by omega), e12 18 (by omega), e12 19 (by omega), e12 20 (by omega)]
    exact hF
  · unfold RelM CK
    rw [r 0 (by omega), r 121 (by omega), r 10 (by omega)]
    rcases hM with q | ⟨q, n, m, hO, hC⟩
    · exact Or.inl q
    · refine Or.inr ⟨q, n, m, hO, hC.1, hC.2.1, hC.2.2.1, fun k hk => ?_, fun j hj => ?_⟩
      · rw [r 11 (by omega), r 12 (by omega), r 13 (by omega)]
        exact hC.2.2.2.1 k hk
      · have hm := hO.1.2.1
        rw [r 14 (by omega), r 15 (by omega), r (16 + 1 + j) (by omega), e7 8 (by omega), e7 9 (by omega)]
        exact hC.2.2.2.2 j hj
  · unfold RelI CI
    rw [r 0 (by omega), r 122 (by omega), r 30 (by omega)]
    intro q
    obtain ⟨n, m, hO, hC⟩ := hI q
    refine ⟨n, m, hO, hC.1, hC.2.1, hC.2.2.1, fun k hk => ?_, fun j hj => ?_⟩
    · rw [r 31 (by omega), r 32 (by omega), r 33 (by omega)]
      exact hC.2.2.2.1 k hk
    · have hm := hO.1.2.1
      rw [r 34 (by omega), r 35 (by omega), r (36 + 1 + j) (by omega)]
      exact hC.2.2.2.2 j hj
  · intro d hd
    unfold ShR FitR
    rw [r 124 (by omega), r 125 (by omega), r 126 (by omega), r 127 (by omega), r 128 (by omega), r 129 (by omega), r (80 + 2 * d) (by omega), r (100 + 2 * d) (by omega), r (80 + 2 * d + 1) (by omega)]
    exact hS d hd
/-- what a market's call stands on -/
theorem Rel.mkt {σ : Mem} (h : Rel σ) (q : ¬ σ 0 6 = 0) : σ 0 6 = 1 ∧ ∃ n m, Okx n m (σ 121) ∧ CB σ n m (σ 121) 1 1 0 ∧ Md σ 1 1 0 := by
  obtain ⟨hF, hM, -, -⟩ := h
  rcases hM with ⟨e, -⟩ | ⟨e, n, m, hO, hC⟩
  · exact absurd e q
  · refine ⟨e, n, m, hO, ⟨hC, hF.2.2.2.2.2.1, hF.2.2.2.2.2.2.1, hF.2.2.2.2.2.2.2.1, hF.2.2.2.2.2.2.2.2, ⟨by omega, by omega, by omega⟩, ?_⟩, Or.inl ⟨hF.2.2.2.1.2.2.1, hF.2.2.2.1.2.2.2, rfl, rfl, rfl⟩⟩
    rw [hF.2.2.2.2.1.2.1]
    omega
theorem Rel.no {σ : Mem} (h : Rel σ) (q : σ 0 6 = 0) : σ 121 0 = 0 ∧ σ 121 1 = 0 ∧ σ 10 0 = 0 ∧ σ 10 1 = 0 := by
  rcases h.2.1 with ⟨e, w⟩ | ⟨e, -⟩
  · exact w
  · omega
theorem rel_0 : s32 0 = 0 := s32_0
/-- what each call owes: the same answer, and agreement behind it -/
def Op (σ : Mem) (f g : Mem → Option (Int × Mem)) : Prop := ∃ r σ1 σ2, f σ = some (r, σ1) ∧ g σ1 = some (r, σ2) ∧ Rel σ2
theorem op_rather {σ : Mem} (h : Rel σ) {v : Int} (hv : s32 v = v) : Op σ (f_X11_rather v) (f_X12_rather v) := by
  have hF := h.1
  unfold Op
  by_cases q : σ 0 6 = 0
  · have hn := h.no q
    refine ⟨-3, σ, σ, ?_, ?_, h⟩
    · unfold f_X11_rather f_X11_fitFault
      rw [q, if_pos s32_0, ob_some, if_neg (by decide)]
    · unfold f_X12_rather
      rw [m_isOpen (by omega), ob_some, bi_f (by omega), if_pos (by decide)]
  · obtain ⟨e1, n, m, hO, hB, hD⟩ := h.mkt q
    have hn := hO.1.1
    have hm := hO.1.2.1
    have hs0 := hO.1.2.2.1
    have hs1 := hO.1.2.2.2.1
    by_cases hf : isF n m v
    · obtain ⟨σ1, ew, hg, hB1, hC⟩ := c_weighed hO.1 hB hf
      have e121 : σ1 121 = σ 121 := hC.co.row 121 (fun i => by unfold scr; omega)
      have e120 : ∀ i, ¬ ((10 ≤ i ∧ i ≤ 15) ∨ i = 21 ∨ i = 22) → σ1 120 i = σ 120 i := fun i w => hC.co.at 120 i (by unfold scr; omega)
      have hD1 : Md σ1 1 1 0 := by
        unfold Md
        rw [e120 19 (by omega), e120 20 (by omega), e121]
        exact hD
      obtain ⟨x, y, em⟩ := m_ratherOf (σ := σ1) (n := n) (m := m) (by rw [e121]; exact hO.1) hD1 hf (by rw [e120 17 (by omega), hF.2.2.2.1.1]; omega)
      refine ⟨rth 1 1 0 (σ 121) 0 0 v n m, σ1, ab σ1 x y, ?_, ?_, (h.co hC.co).co ab_co⟩
      · unfold f_X11_rather f_X11_fitFault
        rw [e1, if_neg (by decide), c_hasFit' hB.1.1 hB.1.2.1 hn.2 hm.2 hv, ob_some, bi_t hf, if_neg (by decide), ob_some, if_pos s32_0, ew, ob_some, c_firstRather hO.1 hg hf hB1.2.2.2.2.2.2, ob_some, hF.2.2.2.2.1.1, s32_0, hC.at 72 7 (by omega), hF.2.2.2.2.1.2.1]
      · unfold f_X12_rather
        rw [m_isOpen (by rw [e121, hs0]; omega), ob_some, e121, hs0, bi_t (by omega), if_neg (by decide), m_isFit (by rw [e121]; exact hs0) (by rw [e121]; exact hs1) hn.2 hm.2 (by rw [e120 17 (by omega), hF.2.2.2.1.1]; omega) hv, ob_some, bi_t ⟨hf, fun k hk => by
          have hz : ∀ j : Nat, j < 5 → bt 0 j = 0 := by decide +kernel
          have a := dg_in v k
          obtain ⟨j, hj, ej⟩ : ∃ j : Nat, j < 5 ∧ dg v k = j := ⟨(dg v k).toNat, by omega, by omega⟩
          right
          rw [e120 17 (by omega), hF.2.2.2.1.1, ej]
          exact hz j hj⟩, if_neg (by decide), em, ob_some, e121, e120 18 (by omega), e120 17 (by omega), hF.2.2.2.1.1, hF.2.2.2.1.2.1, s32_0]
    · refine ⟨-1, σ, σ, ?_, ?_, h⟩
      · unfold f_X11_rather f_X11_fitFault
        rw [e1, if_neg (by decide), c_hasFit' hB.1.1 hB.1.2.1 hn.2 hm.2 hv, ob_some, bi_f hf, if_pos (by decide), ob_some, if_neg (by decide)]
      · unfold f_X12_rather
        rw [m_isOpen (by rw [hs0]; omega), ob_some, hs0, bi_t (by omega), if_neg (by decide), m_isFit hs0 hs1 hn.2 hm.2 (by rw [hF.2.2.2.1.1]; omega) hv, ob_some, bi_f (fun w => hf w.1), if_pos (by decide)]
