/-! PURE 33: best tax -/
theorem Rel.set8 {σ : Mem} (h : Rel σ) {v : Int} (hv : 0 ≤ v ∧ v < 4) : Rel (ups σ 72 8 v) := by
  obtain ⟨hF, hM, hI, hS⟩ := h
  have h9 := hF.2.2.2.2.1.2.2
  have r : ∀ a : Int, a ≠ 72 → ups σ 72 8 v a = σ a := fun a q => ups_ne q
  have e7 : ∀ i : Int, i ≠ 8 → ups σ 72 8 v 72 i = σ 72 i := fun i q => ups_ni q
  refine ⟨?_, ?_, ?_, ?_⟩
  · unfold RelF
    rw [r 0 (by decide), r 120 (by decide), e7 6 (by decide), e7 7 (by decide), e7 9 (by decide), e7 11 (by decide), e7 12 (by decide), e7 13 (by decide), ups_at]
    exact ⟨hF.1, hF.2.1, hF.2.2.1, hF.2.2.2.1, hF.2.2.2.2.1, hv, hF.2.2.2.2.2.2⟩
  · rcases hM with q | ⟨q, n, m, hO, hC⟩
    · left
      rw [r 0 (by decide), r 121 (by decide), r 10 (by decide)]
      exact q
    · right
      have hm := hO.1.2.1
      refine ⟨by rw [r 0 (by decide)]; exact q, n, m, by rw [r 121 (by decide)]; exact hO, ?_⟩
      rw [r 121 (by decide)]
      refine ⟨by rw [r 10 (by decide)]; exact hC.1, by rw [r 10 (by decide)]; exact hC.2.1, by rw [r 10 (by decide)]; exact hC.2.2.1, fun k hk => ?_, fun j hj => ?_⟩
      · rw [r 11 (by decide), r 12 (by decide), r 13 (by decide)]
        exact hC.2.2.2.1 k hk
      · rw [r 14 (by decide), r 15 (by decide)]
        refine ⟨(hC.2.2.2.2 j hj).1, (hC.2.2.2.2 j hj).2.1, fun k hk => ?_⟩
        rw [r (16 + 1 + j) (by omega), e7 9 (by decide), h9, hC.cost h9 hj hk]
        split <;> omega
  · unfold RelI CI
    rw [r 0 (by decide), r 122 (by decide), r 30 (by decide), r 31 (by decide), r 32 (by decide), r 33 (by decide), r 34 (by decide), r 35 (by decide)]
    intro q
    obtain ⟨n, m, hO, hC⟩ := hI q
    have hm := hO.1.2.1
    refine ⟨n, m, hO, hC.1, hC.2.1, hC.2.2.1, hC.2.2.2.1, fun j hj => ?_⟩
    rw [r (36 + 1 + j) (by omega)]
    exact hC.2.2.2.2 j hj
  · intro d hd
    unfold ShR FitR
    rw [r 124 (by decide), r 125 (by decide), r 126 (by decide), r 127 (by decide), r 128 (by decide), r 129 (by decide), r (80 + 2 * d) (by omega), r (100 + 2 * d) (by omega), r (80 + 2 * d + 1) (by omega)]
    exact hS d hd
/-- the model's row while a mark is taxed, its sorts lo .. hi-1 -/
def tmm (ρ : Mem) (v t lo hi : Int) : Mem := fun a i => if a = 121 ∧ 19 + 4 * v + lo ≤ i ∧ i < 19 + 4 * v + hi then ρ a i + t else ρ a i
theorem tmm_ne {ρ : Mem} {v t lo hi a : Int} (h : a ≠ 121) : tmm ρ v t lo hi a = ρ a := by
  funext i
  unfold tmm
  rw [if_neg (fun z => h z.1)]
theorem tmm_in {ρ : Mem} {v t lo hi i : Int} (h : 19 + 4 * v + lo ≤ i ∧ i < 19 + 4 * v + hi) : tmm ρ v t lo hi 121 i = ρ 121 i + t := if_pos ⟨rfl, h⟩
theorem tmm_out {ρ : Mem} {v t lo hi i : Int} (h : ¬ (19 + 4 * v + lo ≤ i ∧ i < 19 + 4 * v + hi)) : tmm ρ v t lo hi 121 i = ρ 121 i := if_neg (fun z => h z.2)
theorem tmm_nil {ρ : Mem} {v t lo hi : Int} (h : hi ≤ lo) : tmm ρ v t lo hi = ρ := by
  funext a i
  unfold tmm
  rw [if_neg (fun z => by have := z.2; omega)]
theorem tmm_up {ρ : Mem} {v t : Int} {k : Nat} {w : Int} (hw : w = ρ 121 (19 + 4 * v + k) + t) : ups (tmm ρ v t 0 k) 121 (19 + 4 * v + k) w = tmm ρ v t 0 ((k + 1 : Nat) : Int) := by
  funext a i
  unfold ups tmm
  try dsimp only
  by_cases e : a = 121 ∧ i = 19 + 4 * v + k
  · rw [if_pos e, if_pos ⟨e.1, by omega, by omega⟩, e.1, e.2, hw]
  · rw [if_neg e]
    by_cases e2 : a = 121 ∧ 19 + 4 * v + 0 ≤ i ∧ i < 19 + 4 * v + (k : Int)
    · rw [if_pos e2, if_pos ⟨e2.1, by omega, by omega⟩]
    · rw [if_neg e2, if_neg (fun z => e2 ⟨z.1, by omega, by have h1 := z.2.2; have h2 : ¬ i = 19 + 4 * v + k := fun y => e ⟨z.1, y⟩; omega⟩)]
theorem tmm_dn {ρ : Mem} {v t x y : Int} {k n : Nat} {w : Int} (hw : w = ρ 121 (19 + 4 * v + k)) : ups (ab (tmm ρ v t k n) x y) 121 (19 + 4 * v + k) w = ab (tmm ρ v t ((k + 1 : Nat) : Int) n) x y := by
  funext a i
  unfold ups ab tmm
  try dsimp only
  by_cases e : a = 121 ∧ i = 19 + 4 * v + k
  · rw [if_pos e, if_neg (by omega), if_neg (by omega), if_neg (by omega), e.1, e.2, hw]
  · rw [if_neg e]
    by_cases z1 : a = 120 ∧ i = 21
    · rw [if_pos z1, if_pos z1]
    · rw [if_neg z1, if_neg z1]
      by_cases z2 : a = 120 ∧ i = 22
      · rw [if_pos z2, if_pos z2]
      · rw [if_neg z2, if_neg z2]
        by_cases e2 : a = 121 ∧ 19 + 4 * v + ((k + 1 : Nat) : Int) ≤ i ∧ i < 19 + 4 * v + (n : Int)
        · rw [if_pos e2, if_pos ⟨e2.1, by omega, by omega⟩]
        · have e3 : ¬ (a = 121 ∧ 19 + 4 * v + (k : Int) ≤ i ∧ i < 19 + 4 * v + (n : Int)) := fun z => e2 ⟨z.1, by have h2 : ¬ i = 19 + 4 * v + k := fun y => e ⟨z.1, y⟩; omega, by omega⟩
          rw [if_neg e2, if_neg e3]
theorem Okx.tax {n m : Nat} {ρ : Mem} (h : Okx n m (ρ 121)) {j : Nat} (hj : j < m) {t : Int} (ht : 0 ≤ t ∧ t ≤ 90) : Okm n m (tmm ρ j t 0 n 121) := by
  have hn := h.1.1
  have hm := h.1.2.1
  refine ⟨hn, hm, ?_, ?_, ?_, fun k hk => ?_, fun i hi => ?_⟩
  · rw [tmm_out (by omega)]
    exact h.1.2.2.1
  · rw [tmm_out (by omega)]
    exact h.1.2.2.2.1
  · rw [tmm_out (by omega)]
    exact h.1.2.2.2.2.1
  · rw [tmm_out (by omega), tmm_out (by omega), tmm_out (by omega)]
    exact h.1.2.2.2.2.2.1 k hk
  · rw [tmm_out (by omega), tmm_out (by omega)]
    refine ⟨(h.1.2.2.2.2.2.2 i hi).1, (h.1.2.2.2.2.2.2 i hi).2.1, fun k hk => ?_⟩
    have q := (h.1.2.2.2.2.2.2 i hi).2.2 k hk
    have q2 := h.2.2 i hi k hk
    by_cases e : i = j
    · subst e
      rw [tmm_in (by omega)]
      omega
    · rw [tmm_out (by omega)]
      exact q
/-- one more tried, with its least waste -/
def updt (b l t w : Int) : Int × Int := if w = -4 then (b, l) else if l = -4 ∨ w < l then (t, w) else (b, l)
theorem updt_in {b l t w : Int} (h : (b = -4 ∧ l = -4) ∨ (0 ≤ b ∧ b ≤ 90 ∧ 0 ≤ l ∧ l ≤ 1000000)) (ht : 0 ≤ t ∧ t ≤ 90) (hw : w = -4 ∨ (0 ≤ w ∧ w ≤ 1000000)) : ((updt b l t w).1 = -4 ∧ (updt b l t w).2 = -4) ∨ (0 ≤ (updt b l t w).1 ∧ (updt b l t w).1 ≤ 90 ∧ 0 ≤ (updt b l t w).2 ∧ (updt b l t w).2 ≤ 1000000) := by
  unfold updt
  split
  · exact h
  · split
    · right
      exact ⟨ht.1, ht.2, by show 0 ≤ w; omega, by show w ≤ 1000000; omega⟩
    · exact h
/-- behind one more fit that is sure -/
theorem updt_st {b l t w g : Int} (h : (b = -4 ∧ l = -4) ∨ (0 ≤ b ∧ b ≤ 90 ∧ 0 ≤ l ∧ l ≤ 1000000)) (ht : 0 ≤ t ∧ t ≤ 90) (hw : w = -4 ∨ (0 ≤ w ∧ w ≤ 1000000)) (hg : 0 ≤ g ∧ g ≤ 1000000) : updt b l t (if w = -4 then g else if w ≤ g then w else g) = if (updt b l t w).1 < 0 then (t, g) else if g < (updt b l t w).2 then (t, g) else updt b l t w := by
  unfold updt
  by_cases c1 : w = -4
  · rw [if_pos c1, if_pos c1, if_neg (by omega)]
    by_cases c2 : l = -4
    · rw [if_pos (Or.inl c2), if_pos (by show b < 0; omega)]
    · rw [if_neg (show ¬ b < 0 by omega)]
      by_cases c3 : g < l
      · rw [if_pos (Or.inr c3), if_pos c3]
      · rw [if_neg (by omega), if_neg c3]
  · rw [if_neg c1, if_neg c1]
    by_cases c2 : l = -4 ∨ w < l
    · rw [if_pos c2, if_neg (show ¬ t < 0 by omega)]
      by_cases c3 : w ≤ g
      · rw [if_pos c3, if_neg c1, if_pos c2, if_neg (show ¬ g < w by omega)]
      · rw [if_neg c3, if_neg (by omega), if_pos (by omega), if_pos (show g < w by omega)]
    · rw [if_neg c2, if_neg (show ¬ b < 0 by omega)]
      by_cases c3 : g < l
      · rw [if_pos c3, if_neg (show ¬ w ≤ g by omega), if_neg (by omega), if_pos (by omega)]
      · rw [if_neg c3]
        by_cases c4 : w ≤ g
        · rw [if_pos c4, if_neg c1, if_neg c2]
        · rw [if_neg c4, if_neg (by omega), if_neg (by omega)]
def btT (R : Nat → Int) : Nat → Int × Int
  | 0 => (-4, -4)
  | k + 1 => updt (btT R k).1 (btT R k).2 (10 * (k : Int)) (R k)
theorem btT_in {R : Nat → Int} (hR : ∀ k, k < 10 → R k = -4 ∨ (0 ≤ R k ∧ R k ≤ 1000000)) : ∀ k : Nat, k ≤ 10 → ((btT R k).1 = -4 ∧ (btT R k).2 = -4) ∨ (0 ≤ (btT R k).1 ∧ (btT R k).1 ≤ 90 ∧ 0 ≤ (btT R k).2 ∧ (btT R k).2 ≤ 1000000)
  | 0, _ => Or.inl ⟨rfl, rfl⟩
  | k + 1, hk => updt_in (btT_in hR k (by omega)) (by omega) (hR k (by omega))
theorem CS.re {σ τ : Mem} {a i v w : Int} (h : CS (ups σ a i w) τ) : CS (ups σ a i v) (ups τ a i v) := by
  intro x j z
  by_cases e : x = a ∧ j = i
  · rw [e.1, e.2, ups_at, ups_at]
  · have h1 := h x j z
    unfold ups at h1 ⊢
    rw [if_neg e] at h1 ⊢
    rw [if_neg e]
    exact h1
theorem m_taxUp {κ : Mem} {n : Nat} (h0 : κ 121 0 = n) (hn : n ≤ 4) {j : Nat} (hj : j < 4) (hd : ∀ k : Nat, k < n → κ 131 k = κ 121 (19 + 4 * j + k)) (t a1 a2 a3 a4 : Int) : itr (fun z => f_X12_bestTax_103 j a1 a2 a3 t a4 z.1 z.2) FU (0, κ) = some (tmm κ j t 0 n) := by
  have e : itr (fun z : Int × Mem => f_X12_bestTax_103 j a1 a2 a3 t a4 z.1 z.2) FU (((0 : Nat) : Int), tmm κ j t 0 ((0 : Nat) : Int)) = some (tmm κ j t 0 n) := by
    refine itr_for0 (fun k => ((k : Int), tmm κ j t 0 k)) n _ (by omega) (fun k hk => ?_) ?_
    · have t5 : 0 ≤ 19 + 4 * (j : Int) + (k : Int) ∧ 19 + 4 * (j : Int) + (k : Int) < 39 := by omega
      have k4 := fin4 hk hn
      show f_X12_bestTax_103 j a1 a2 a3 t a4 (k : Int) (tmm κ j t 0 k) = _
      unfold f_X12_bestTax_103
      rw [tmm_out (by omega), h0, s32_of (z := (n : Int)) (by omega) (by omega), s32_of (z := (k : Int)) (by omega) (by omega), if_neg (by omega), if_pos k4, s32_of (z := 19 + 4 * (j : Int) + (k : Int)) (by omega) (by omega), if_pos t5, tmm_ne (show (131 : Int) ≠ 121 by decide), hd k hk]
      simp only [stp]
      rw [tmm_up rfl]
      rfl
    · show f_X12_bestTax_103 j a1 a2 a3 t a4 (n : Int) (tmm κ j t 0 n) = _
      unfold f_X12_bestTax_103
      rw [tmm_out (by omega), h0, if_pos (Int.le_refl _)]
  rw [tmm_nil (show ((0 : Nat) : Int) ≤ 0 by decide)] at e
  exact e
theorem m_taxDn {κ : Mem} {n : Nat} (h0 : κ 121 0 = n) (hn : n ≤ 4) {j : Nat} (hj : j < 4) (hd : ∀ k : Nat, k < n → κ 131 k = κ 121 (19 + 4 * j + k)) (t x y a1 a2 a3 a4 a5 a6 : Int) : itr (fun z => f_X12_bestTax_155 j a1 a2 a3 a4 a5 a6 z.1 z.2) FU (0, ab (tmm κ j t 0 n) x y) = some (ab κ x y) := by
  have e : itr (fun z : Int × Mem => f_X12_bestTax_155 j a1 a2 a3 a4 a5 a6 z.1 z.2) FU (((0 : Nat) : Int), ab (tmm κ j t ((0 : Nat) : Int) n) x y) = some (ab (tmm κ j t n n) x y) := by
    refine itr_for0 (fun k => ((k : Int), ab (tmm κ j t k n) x y)) n _ (by omega) (fun k hk => ?_) ?_
    · have t5 : 0 ≤ 19 + 4 * (j : Int) + (k : Int) ∧ 19 + 4 * (j : Int) + (k : Int) < 39 := by omega
      have k4 := fin4 hk hn
      show f_X12_bestTax_155 j a1 a2 a3 a4 a5 a6 (k : Int) (ab (tmm κ j t k n) x y) = _
      unfold f_X12_bestTax_155
      rw [ab_s, tmm_out (by omega), h0, s32_of (z := (n : Int)) (by omega) (by omega), s32_of (z := (k : Int)) (by omega) (by omega), if_neg (by omega), if_pos k4, s32_of (z := 19 + 4 * (j : Int) + (k : Int)) (by omega) (by omega), if_pos t5, show ab (tmm κ j t k n) x y 131 = tmm κ j t k n 131 from ab_ne (by decide), tmm_ne (show (131 : Int) ≠ 121 by decide), hd k hk]
      simp only [stp]
      rw [tmm_dn rfl]
      rfl
    · show f_X12_bestTax_155 j a1 a2 a3 a4 a5 a6 (n : Int) (ab (tmm κ j t n n) x y) = _
      unfold f_X12_bestTax_155
      rw [ab_s, tmm_out (by omega), h0, if_pos (Int.le_refl _)]
  rw [tmm_nil (show (n : Int) ≤ n by omega)] at e
  exact e
theorem MS.md {σ : Mem} {n m : Nat} (h : MS σ n m) : σ 120 19 = 1 ∧ σ 120 20 = 0 := by
  rcases h.2.1 with ⟨z1, z2, -⟩ | ⟨z1, z2, z3, -⟩
  · exact ⟨z1, z2⟩
  · cases z3
/-- what the model asks at one tax: all fits -/
theorem m_tax {ρ : Mem} {n m : Nat} (hM : MS ρ n m) (hO : Okx n m (ρ 121)) {j : Nat} (hj : j < m) (hd : ∀ k : Nat, k < n → ρ 131 k = ρ 121 (19 + 4 * j + k)) {t : Int} (ht : 0 ≤ t ∧ t ≤ 90) {b l : Int} (hbl : (b = -4 ∧ l = -4) ∨ (0 ≤ b ∧ b ≤ 90 ∧ 0 ≤ l ∧ l ≤ 1000000)) (p : Int) {T : Nat} (hT : p5 n = T) : ∃ x y, itr (fun z => f_X12_bestTax_91 j p t z.1 z.2.1 z.2.2.1 z.2.2.2) FU (b, l, 0, ρ) = some ((updt b l t (lwF (SUb (tmm ρ j t 0 n 121) 0 0 n m) (fun f => wst (ρ 121) f n) T)).1, (updt b l t (lwF (SUb (tmm ρ j t 0 n 121) 0 0 n m) (fun f => wst (ρ 121) f n) T)).2, ab ρ x y) := by
  have hn := hO.1.1
  have hm := hO.1.2.1
  have p4 := p5_in n hn.2
  have hmd := hM.md
  have hg : ∀ f : Nat, isF n m (f : Int) → 0 ≤ wst (ρ 121) f n ∧ wst (ρ 121) f n ≤ 1000000 := fun f hF => by
    have := wst_in hO.1 hF n (Nat.le_refl n)
    omega
  have hOt := hO.tax hj ht
  have hl : ∃ c, itr (fun z => f_X12_bestTax_91 j p t z.1 z.2.1 z.2.2.1 z.2.2.2) FU (b, l, 0, ρ) = some c ∧ ∃ x y, c = ((updt b l t (lwF (SUb (tmm ρ j t 0 n 121) 0 0 n m) (fun f => wst (ρ 121) f n) T)).1, (updt b l t (lwF (SUb (tmm ρ j t 0 n 121) 0 0 n m) (fun f => wst (ρ 121) f n) T)).2, ab ρ x y) := by
    refine itr_forH (fun f z => ∃ x y, z = ((updt b l t (lwF (SUb (tmm ρ j t 0 n 121) 0 0 n m) (fun f => wst (ρ 121) f n) f)).1, (updt b l t (lwF (SUb (tmm ρ j t 0 n 121) 0 0 n m) (fun f => wst (ρ 121) f n) f)).2, (f : Int), ab ρ x y)) _ T (by omega) ⟨ρ 120 21, ρ 120 22, by rw [ab_of]; rfl⟩ (fun f hf z hz => ?_) (fun z hz => ?_)
    · obtain ⟨x, y, rfl⟩ := hz
      have hf' : s32 (f : Int) = f := s32_of (by omega) (by omega)
      have li := lwF_in (P := SUb (tmm ρ j t 0 n 121) 0 0 n m) (g := fun f => wst (ρ 121) f n) (T := T) (fun f _ hp => hg f (of_decide_eq_true hp).1) f (by omega)
      have h121 : ab ρ x y 121 = ρ 121 := ab_s ρ x y
      have h131 : ab ρ x y 131 = ρ 131 := ab_ne (by decide)
      have hdk : ∀ k : Nat, k < n → ab ρ x y 131 k = ab ρ x y 121 (19 + 4 * j + k) := fun k hk => by
        rw [h121, h131]
        exact hd k hk
      have ht121 : tmm (ab ρ x y) j t 0 n 121 = tmm ρ j t 0 n 121 := by
        funext i
        unfold tmm
        rw [h121]
      have hX : MSx (tmm (ab ρ x y) j t 0 n) n m 0 0 := by
        unfold MSx
        rw [ht121, show tmm (ab ρ x y) j t 0 n 120 17 = 0 from (congrFun (tmm_ne (by decide)) 17).trans ((ab_ni (by decide)).trans hM.2.2.1), show tmm (ab ρ x y) j t 0 n 120 18 = 0 from (congrFun (tmm_ne (by decide)) 18).trans ((ab_ni (by decide)).trans hM.2.2.2)]
        exact ⟨hOt, Or.inl ⟨(congrFun (tmm_ne (by decide)) 19).trans ((ab_ni (by decide)).trans hmd.1), (congrFun (tmm_ne (by decide)) 20).trans ((ab_ni (by decide)).trans hmd.2), rfl, rfl, rfl⟩, rfl, rfl⟩
      obtain ⟨u, w, e⟩ := m_sureX hX (by decide) hf'
      rw [s32_0, ht121] at e
      have hup := fun a1 a2 a3 a4 => m_taxUp (κ := ab ρ x y) (by rw [h121]; exact hO.1.2.2.1) hn.2 (j := j) (by omega) hdk t a1 a2 a3 a4
      have hdn := fun a1 a2 a3 a4 a5 a6 => m_taxDn (κ := ab ρ x y) (by rw [h121]; exact hO.1.2.2.1) hn.2 (j := j) (by omega) hdk t u w a1 a2 a3 a4 a5 a6
      have es := updt_st hbl ht li (g := wst (ρ 121) f n)
      have ui := updt_in hbl ht li
      refine ⟨((updt b l t (lwF (SUb (tmm ρ j t 0 n 121) 0 0 n m) (fun f => wst (ρ 121) f n) (f + 1))).1, (updt b l t (lwF (SUb (tmm ρ j t 0 n 121) 0 0 n m) (fun f => wst (ρ 121) f n) (f + 1))).2, ((f + 1 : Nat) : Int), ab ρ u w), ?_, u, w, rfl⟩
      show f_X12_bestTax_91 j p t (updt b l t (lwF (SUb (tmm ρ j t 0 n 121) 0 0 n m) (fun f => wst (ρ 121) f n) f)).1 (updt b l t (lwF (SUb (tmm ρ j t 0 n 121) 0 0 n m) (fun f => wst (ρ 121) f n) f)).2 (f : Int) (ab ρ x y) = some (Sum.inl ((updt b l t (if SUb (tmm ρ j t 0 n 121) 0 0 n m f = true then (if lwF (SUb (tmm ρ j t 0 n 121) 0 0 n m) (fun f => wst (ρ 121) f n) f = -4 then wst (ρ 121) f n else if lwF (SUb (tmm ρ j t 0 n 121) 0 0 n m) (fun f => wst (ρ 121) f n) f ≤ wst (ρ 121) f n then lwF (SUb (tmm ρ j t 0 n 121) 0 0 n m) (fun f => wst (ρ 121) f n) f else wst (ρ 121) f n) else lwF (SUb (tmm ρ j t 0 n 121) 0 0 n m) (fun f => wst (ρ 121) f n) f)).1, (updt b l t (if SUb (tmm ρ j t 0 n 121) 0 0 n m f = true then (if lwF (SUb (tmm ρ j t 0 n 121) 0 0 n m) (fun f => wst (ρ 121) f n) f = -4 then wst (ρ 121) f n else if lwF (SUb (tmm ρ j t 0 n 121) 0 0 n m) (fun f => wst (ρ 121) f n) f ≤ wst (ρ 121) f n then lwF (SUb (tmm ρ j t 0 n 121) 0 0 n m) (fun f => wst (ρ 121) f n) f else wst (ρ 121) f n) else lwF (SUb (tmm ρ j t 0 n 121) 0 0 n m) (fun f => wst (ρ 121) f n) f)).2, ((f + 1 : Nat) : Int), ab ρ u w))
      generalize lwF (SUb (tmm ρ j t 0 n 121) 0 0 n m) (fun f => wst (ρ 121) f n) f = L at li es ui ⊢
      unfold f_X12_bestTax_91
      rw [m_fits (n := n) (by rw [h121]; exact hO.1.2.2.1) hn.2, ob_some, hf', s32_of (z := p5 n) (by clear hf'; omega) (by clear hf'; omega), if_neg (by clear hf'; omega), hup, lb_some]
      dsimp only
      rw [e, ob_some, hdn, lb_some, ab_ab]
      by_cases c : SU 1 1 0 (tmm ρ j t 0 n 121) 0 0 (f : Int) n m
      · have q := hg f c.1
        have ew := m_wasteOf (σ := ab ρ u w) (n := n) (m := m) (by rw [ab_s]; exact hO.1) c.1
        rw [ab_s] at ew
        rw [if_pos (show SUb (tmm ρ j t 0 n 121) 0 0 n m f = true from decide_eq_true c), es q, bi_t c, if_neg (by decide)]
        generalize updt b l t L = d at ui ⊢
        obtain ⟨d1, d2⟩ := d
        simp only at ui ⊢
        rw [s32_of (z := d1) (by clear hf'; omega) (by clear hf'; omega)]
        by_cases g1 : d1 < 0
        · rw [if_pos g1, if_pos g1, ew, ob_some]
          rfl
        · rw [if_neg g1, if_neg g1, ew, ob_some, s32_of (z := wst (ρ 121) f n) (by clear hf'; omega) (by clear hf'; omega), s32_of (z := d2) (by clear hf'; omega) (by clear hf'; omega)]
          by_cases g2 : wst (ρ 121) f n < d2
          · rw [if_pos g2, if_pos g2, ew, ob_some]
            rfl
          · rw [if_neg g2, if_neg g2]
            rfl
      · rw [if_neg (show ¬ SUb (tmm ρ j t 0 n 121) 0 0 n m f = true from fun z => c (of_decide_eq_true z)), bi_f c, if_pos s32_0]
        rfl
    · obtain ⟨x, y, rfl⟩ := hz
      refine ⟨_, ?_, x, y, rfl⟩
      show f_X12_bestTax_91 j p t _ _ (T : Int) (ab ρ x y) = _
      unfold f_X12_bestTax_91
      rw [m_fits (n := n) (by rw [ab_s]; exact hO.1.2.2.1) hn.2, ob_some, hT, if_pos (Int.le_refl _)]
  obtain ⟨c, e, x, y, rfl⟩ := hl
  exact ⟨x, y, e⟩
theorem tax_eq {ρ κ : Mem} {j t : Int} {n : Nat} (h : κ 121 = ρ 121) : tmm κ j t 0 n 121 = tmm ρ j t 0 n 121 := by
  funext i
  unfold tmm
  rw [h]
theorem op_bestTax {σ : Mem} (h : Rel σ) {w v : Int} (hw : s32 w = w) (hv : s32 v = v) : Op σ (f_X11_bestTax w v) (f_X12_bestTax w v) := by
  unfold Op f_X11_bestTax f_X12_bestTax
  by_cases q : σ 0 6 = 0
  · refine ⟨-3, σ, σ, ?_, ?_, h⟩
    · rw [q, if_pos s32_0]
    · rw [m_closed h q, ob_some, if_pos s32_0]
  · obtain ⟨e1, n, m, hO, hB, hM, e6, e7⟩ := h.mk2 q
    have hn := hO.1.1
    have hm := hO.1.2.1
    have h9 := h.1.2.2.2.2.1.2.2
    have p4 := p5_in n hn.2
    obtain ⟨T, hT⟩ : ∃ T : Nat, p5 n = T := ⟨(p5 n).toNat, by clear hv hw; omega⟩
    have hg : ∀ f : Nat, isF n m (f : Int) → 0 ≤ wst (σ 121) f n ∧ wst (σ 121) f n ≤ 1000000 := fun f hF => by
      have := wst_in hO.1 hF n (Nat.le_refl n)
      clear hv hw
      omega
    rw [e1, if_neg (by decide), c_markAt hO.1 hB hw, ob_some]
    by_cases c2 : 0 ≤ w ∧ w < (m : Int)
    · rw [bi_t c2, if_neg (by decide), c_isBit' hv, ob_some]
      by_cases c1 : v = 0 ∨ v = 1
      · obtain ⟨j, hj, rfl⟩ : ∃ j : Nat, j < m ∧ w = j := ⟨w.toNat, by clear hv hw; omega, by clear hv hw; omega⟩
        rw [bi_t c1, if_neg (by decide)]
        simp only [stp]
        obtain ⟨R, hRd⟩ : ∃ R : Nat → Int, R = fun x : Nat => lwF (SUb (tmm σ j (10 * (x : Int)) 0 n 121) 0 0 n m) (fun f => wst (σ 121) f n) T := ⟨_, rfl⟩
        have hR : ∀ k, k < 10 → R k = -4 ∨ (0 ≤ R k ∧ R k ≤ 1000000) := fun k _ => by
          rw [hRd]
          exact lwF_in (P := SUb (tmm σ j (10 * (k : Int)) 0 n 121) 0 0 n m) (g := fun f => wst (σ 121) f n) (T := T) (fun f _ hp => hg f (of_decide_eq_true hp).1) T (Nat.le_refl T)
        have hj4 : 0 ≤ (j : Int) ∧ (j : Int) < 4 := by clear hv hw; omega
        have h8 := h.set8 hj4
        have k9 : ups σ 72 8 j 72 9 = 0 := (ups_ni (by decide)).trans h9
        have lc : ∃ b, itr (fun z => f_X11_bestTax_48 v z.1 z.2.1 z.2.2.1 z.2.2.2) FU (-4, -4, 0, ups σ 72 8 j) = some b ∧ ∃ τ, b = ((btT R 10).1, (btT R 10).2, τ) ∧ CO (ups σ 72 8 j) (ups τ 72 9 0) := by
          refine itr_forH (fun k z => ∃ τ w, z = ((btT R k).1, (btT R k).2, 10 * (k : Int), τ) ∧ CS (ups (ups σ 72 8 j) 72 9 w) τ) _ 10 (by decide) ⟨ups σ 72 8 j, 0, rfl, ?_⟩ (fun k hk z hz => ?_) (fun z hz => ?_)
          · have : ups (ups σ 72 8 j) 72 9 0 = ups σ 72 8 j := by
              funext a i
              by_cases z : a = 72 ∧ i = 9
              · rw [z.1, z.2, ups_at, k9]
              · show (if a = 72 ∧ i = 9 then 0 else ups σ 72 8 j a i) = _
                rw [if_neg z]
            rw [this]
            exact CS.rf
          · obtain ⟨τ, w, rfl, hC⟩ := hz
            have hk' : s32 (10 * (k : Int)) = 10 * (k : Int) := s32_of (by clear hv hw; omega) (by clear hv hw; omega)
            have ht : 0 ≤ 10 * (k : Int) ∧ 10 * (k : Int) ≤ 90 := by clear hv hw hk'; omega
            have hCk := hC.re (v := 10 * (k : Int))
            have hOt := hO.tax hj ht
            have hB0 : CB (ups (ups σ 72 8 j) 72 9 (10 * (k : Int))) n m (tmm σ j (10 * (k : Int)) 0 n 121) 1 1 0 := by
              have r : ∀ a : Int, a ≠ 72 → ups (ups σ 72 8 j) 72 9 (10 * (k : Int)) a = σ a := fun a q => by rw [ups_ne q, ups_ne q]
              have e7' : ∀ i : Int, i ≠ 8 ∧ i ≠ 9 → ups (ups σ 72 8 j) 72 9 (10 * (k : Int)) 72 i = σ 72 i := fun i q => by rw [ups_ni q.2, ups_ni q.1]
              refine ⟨⟨?_, ?_, ?_, fun i hi => ?_, fun i hi => ?_⟩, ?_, ?_, ?_, ?_, wsk1, ?_⟩
              · rw [r 10 (by decide)]; exact hB.1.1
              · rw [r 10 (by decide)]; exact hB.1.2.1
              · rw [r 10 (by decide), tmm_out (by clear hv hw hk'; omega)]; exact hB.1.2.2.1
              · rw [r 11 (by decide), r 12 (by decide), r 13 (by decide), tmm_out (by clear hv hw hk'; omega), tmm_out (by clear hv hw hk'; omega), tmm_out (by clear hv hw hk'; omega)]
                exact hB.1.2.2.2.1 i hi
              · rw [r 14 (by decide), r 15 (by decide), tmm_out (by clear hv hw hk'; omega), tmm_out (by clear hv hw hk'; omega)]
                refine ⟨(hB.1.2.2.2.2 i hi).1, (hB.1.2.2.2.2 i hi).2.1, fun k' hk2 => ?_⟩
                rw [r (16 + 1 + i) (by clear hv hw hk'; omega), ups_at, ups_ni (by decide), ups_at, hB.1.cost h9 hi hk2]
                by_cases e : i = j
                · subst e
                  rw [if_pos rfl, tmm_in (by clear hv hw hk'; omega)]
                · rw [if_neg (by clear hv hw hk'; omega), tmm_out (by clear hv hw hk'; omega), Int.add_zero]
              · rw [ups_ni (by decide), ups_at]; exact hj4
              · rw [e7' 11 (by decide)]; exact hB.2.2.1
              · rw [e7' 12 (by decide)]; exact hB.2.2.2.1
              · rw [e7' 13 (by decide)]; exact hB.2.2.2.2.1
              · rw [e7' 7 (by decide), e7]; decide
            have hBk := hB0.cs hCk hm.2
            have k10 : ∀ a : Int, 10 ≤ a ∧ a ≤ 20 → ∀ i, ups τ 72 9 (10 * (k : Int)) a i = σ a i := fun a ha i => (hCk.at a i (by clear hv hw hk'; omega)).trans (by rw [ups_ne (by clear hv hw hk'; omega), ups_ne (by clear hv hw hk'; omega)])
            obtain ⟨τ', e, hC'⟩ := c_leastWaste (s0 := σ 121) (bars := 0) hOt hBk ((hCk.at 72 6 (by clear hv hw hk'; omega)).trans ((ups_ni (by decide)).trans ((ups_ni (by decide)).trans e6))) ((hCk.at 72 7 (by clear hv hw hk'; omega)).trans ((ups_ni (by decide)).trans ((ups_ni (by decide)).trans e7))) (fun i hi => (k10 11 (by decide) i).trans (hB.1.2.2.2.1 i hi).1) (fun j' hj' i hi => (k10 (16 + 1 + j') (by clear hv hw hk'; omega) i).trans (hB.1.cost h9 hj' hi)) hg hT
            have er : lwF (SUb (tmm σ j (10 * (k : Int)) 0 n 121) 0 0 n m) (fun f => wst (σ 121) f n) T = R k := by rw [hRd]
            rw [er] at e
            have hRk := hR k hk
            have hI := btT_in hR k (by clear hv hw hk'; omega)
            refine ⟨((btT R (k + 1)).1, (btT R (k + 1)).2, 10 * (k : Int) + 10, τ'), ?_, τ', 10 * (k : Int), by rw [show 10 * (k : Int) + 10 = 10 * ((k + 1 : Nat) : Int) by clear hv hw hk'; omega], hCk.tr hC'⟩
            show f_X11_bestTax_48 v (btT R k).1 (btT R k).2 (10 * (k : Int)) τ = some (Sum.inl ((updt (btT R k).1 (btT R k).2 (10 * (k : Int)) (R k)).1, (updt (btT R k).1 (btT R k).2 (10 * (k : Int)) (R k)).2, 10 * (k : Int) + 10, τ'))
            generalize btT R k = p at hI ⊢
            obtain ⟨x, y⟩ := p
            simp only at hI ⊢
            unfold f_X11_bestTax_48 updt
            rw [hk', if_neg (by clear hv hw hk'; omega)]
            simp only [stp]
            rw [e, ob_some, s32_of (z := R k) (by clear hv hw hk'; omega) (by clear hv hw hk'; omega), s32_of (z := y) (by clear hv hw hk'; omega) (by clear hv hw hk'; omega)]
            by_cases d0 : R k = -4
            · rw [if_pos d0, if_pos d0]
            · rw [if_neg d0, if_neg d0]
              by_cases d1 : y = -4
              · rw [if_pos d1, if_pos (Or.inl d1)]
              · rw [if_neg d1]
                by_cases d2 : y ≤ R k
                · rw [if_pos d2, if_neg (by clear hv hw hk'; omega)]
                · rw [if_neg d2, if_pos (by clear hv hw hk'; omega)]
          · obtain ⟨τ, w, rfl, hC⟩ := hz
            refine ⟨_, ?_, τ, rfl, CO.back k9 hC.co⟩
            show f_X11_bestTax_48 v _ _ (10 * ((10 : Nat) : Int)) τ = _
            unfold f_X11_bestTax_48
            rw [if_pos (by decide)]
        obtain ⟨b, eb, τ, rfl, hCO⟩ := lc
        have hrel := h8.co hCO
        have e121 : ups τ 72 9 0 121 = σ 121 := (hCO.row 121 (fun i => by unfold scr; omega)).trans (ups_ne (by decide))
        have hM1 : MS (ups τ 72 9 0) n m := (hM.up (a := 72) (i := 8) (v := (j : Int)) ⟨by decide, by decide⟩).co hCO
        rw [eb, lb_some]
        refine ⟨if v = 0 then (btT R 10).1 else (btT R 10).2, ups τ 72 9 0, ?_⟩
        have fin : ∃ υ, f_X12_bestTax j v (ups τ 72 9 0) = some (if v = 0 then (btT R 10).1 else (btT R 10).2, υ) ∧ CO (ups τ 72 9 0) υ := by
          generalize ups τ 72 9 0 = ρ at hM1 e121
          have hdr : ∃ b, itr (fun z => f_X12_bestTax_40 j v (-4) (-4) z.1 z.2) FU (0, ρ) = some b ∧ CO ρ b ∧ ∀ k : Nat, k < n → b 131 k = ρ 121 (19 + 4 * j + k) := by
            refine itr_forH (fun k z => ∃ υ, z = ((k : Int), υ) ∧ CO ρ υ ∧ ∀ i : Nat, i < k → υ 131 i = ρ 121 (19 + 4 * j + i)) _ n (by clear hv hw; omega) ⟨ρ, rfl, CO.rf, fun i hi => absurd hi (Nat.not_lt_zero _)⟩ (fun k hk z hz => ?_) (fun z hz => ?_)
            · obtain ⟨υ, rfl, hC, hd⟩ := hz
              have r121 : υ 121 = ρ 121 := hC.row 121 (fun i => by unfold scr; omega)
              have t5 : 0 ≤ 19 + 4 * (j : Int) + (k : Int) ∧ 19 + 4 * (j : Int) + (k : Int) < 39 := by clear hv hw; omega
              have k4 := fin4 hk hn.2
              refine ⟨((k : Int) + 1, ups υ 131 k (ρ 121 (19 + 4 * j + k))), ?_, _, rfl, hC.up (by unfold scr; omega), fun i hi => ?_⟩
              · show f_X12_bestTax_40 j v (-4) (-4) (k : Int) υ = _
                unfold f_X12_bestTax_40
                rw [r121, e121, hO.1.2.2.1, s32_of (z := (n : Int)) (by clear hv hw; omega) (by clear hv hw; omega), s32_of (z := (k : Int)) (by clear hv hw; omega) (by clear hv hw; omega), if_neg (by clear hv hw; omega), s32_of (z := 19 + 4 * (j : Int) + (k : Int)) (by clear hv hw; omega) (by clear hv hw; omega), if_pos t5, if_pos k4]
              · by_cases e : i = k
                · subst e
                  rw [ups_at]
                · rw [ups_ni (by clear hv hw; omega)]
                  exact hd i (by clear hv hw; omega)
            · obtain ⟨υ, rfl, hC, hd⟩ := hz
              have r121 : υ 121 = ρ 121 := hC.row 121 (fun i => by unfold scr; omega)
              refine ⟨υ, ?_, hC, hd⟩
              show f_X12_bestTax_40 j v (-4) (-4) (n : Int) υ = _
              unfold f_X12_bestTax_40
              rw [r121, e121, hO.1.2.2.1, if_pos (Int.le_refl _)]
          obtain ⟨κ, ek, hCk, hdk⟩ := hdr
          have k121 : κ 121 = ρ 121 := hCk.row 121 (fun i => by unfold scr; omega)
          have hMk := hM1.co hCk
          have lm : ∃ b, itr (fun z => f_X12_bestTax_81 j v z.1 z.2.1 z.2.2.1 z.2.2.2) FU (-4, -4, 0, κ) = some b ∧ ∃ x y, b = ((btT R 10).1, (btT R 10).2, ab κ x y) := by
            refine itr_forH (fun k z => ∃ x y, z = ((btT R k).1, (btT R k).2, 10 * (k : Int), ab κ x y)) _ 10 (by decide) ⟨κ 120 21, κ 120 22, by rw [ab_of]; rfl⟩ (fun k hk z hz => ?_) (fun z hz => ?_)
            · obtain ⟨x, y, rfl⟩ := hz
              have hk' : s32 (10 * (k : Int)) = 10 * (k : Int) := s32_of (by clear hv hw; omega) (by clear hv hw; omega)
              have a121 : ab κ x y 121 = σ 121 := by rw [ab_s, k121, e121]
              have hI := btT_in hR k (by clear hv hw hk'; omega)
              obtain ⟨u, z, e⟩ := m_tax (ρ := ab κ x y) (hMk.co ab_co) (by rw [a121]; exact hO) hj (fun i hi => by rw [show ab κ x y 131 = κ 131 from ab_ne (by decide), a121, hdk i hi, e121]) (t := 10 * (k : Int)) (by clear hv hw hk'; omega) hI v hT
              rw [a121, tax_eq (ρ := σ) a121, ab_ab] at e
              have er : lwF (SUb (tmm σ j (10 * (k : Int)) 0 n 121) 0 0 n m) (fun f => wst (σ 121) f n) T = R k := by rw [hRd]
              rw [er] at e
              refine ⟨((btT R (k + 1)).1, (btT R (k + 1)).2, 10 * (k : Int) + 10, ab κ u z), ?_, u, z, by rw [show 10 * (k : Int) + 10 = 10 * ((k + 1 : Nat) : Int) by clear hv hw hk'; omega]⟩
              show f_X12_bestTax_81 j v (btT R k).1 (btT R k).2 (10 * (k : Int)) (ab κ x y) = some (Sum.inl ((updt (btT R k).1 (btT R k).2 (10 * (k : Int)) (R k)).1, (updt (btT R k).1 (btT R k).2 (10 * (k : Int)) (R k)).2, 10 * (k : Int) + 10, ab κ u z))
              unfold f_X12_bestTax_81
              rw [hk', if_neg (by clear hv hw hk'; omega), e, lb_some]
            · obtain ⟨x, y, rfl⟩ := hz
              refine ⟨_, ?_, x, y, rfl⟩
              show f_X12_bestTax_81 j v _ _ (10 * ((10 : Nat) : Int)) _ = _
              unfold f_X12_bestTax_81
              rw [if_pos (by decide)]
          obtain ⟨b, em, x, y, rfl⟩ := lm
          refine ⟨ab κ x y, ?_, hCk.tr ab_co⟩
          unfold f_X12_bestTax
          rw [m_openAt hM1, ob_some, if_neg (by decide), m_markAt hM1 hw, ob_some, bi_t c2, if_neg (by decide), m_bitAt hv, ob_some, bi_t c1, if_neg (by decide), ek, lb_some]
          dsimp only
          rw [em, lb_some]
          show (if s32 v = 0 then _ else _) = _
          rw [hv]
          split <;> rfl
        obtain ⟨υ, ef, hCO2⟩ := fin
        unfold f_X12_bestTax at ef
        refine ⟨υ, ?_, ef, hrel.co hCO2⟩
        show (if s32 v = 0 then _ else _) = _
        rw [hv]
        split <;> rfl
      · refine ⟨-1, σ, σ, by rw [bi_f c1, if_pos s32_0], ?_, h⟩
        rw [m_openAt hM, ob_some, if_neg (by decide), m_markAt hM hw, ob_some, bi_t c2, if_neg (by decide), m_bitAt hv, ob_some, bi_f c1, if_pos s32_0]
    · refine ⟨-1, σ, σ, by rw [bi_f c2, if_pos s32_0], ?_, h⟩
      rw [m_openAt hM, ob_some, if_neg (by decide), m_markAt hM hw, ob_some, bi_f c2, if_pos s32_0]
