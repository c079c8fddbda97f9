/-! PURE 43: two marks in one -/
def mnI (c x : Int) : Int := if x ≤ c then x else c
theorem mnI_in {c x : Int} (hc : 0 ≤ c) (hx : 0 ≤ x) : 0 ≤ mnI c x ∧ mnI c x ≤ c := by
  unfold mnI
  split <;> omega
theorem c_mn {c x : Int} (hc : 0 ≤ c ∧ c ≤ 999) (hx : 0 ≤ x ∧ x ≤ 10000) : mn32 c x = mnI c x := by
  unfold mn32 mnI
  rw [s32_of (z := c) (by omega) (by omega), s32_of (z := x) (by omega) (by omega)]
  by_cases e : x ≤ c
  · rw [if_pos e]
    split <;> omega
  · rw [if_neg e, if_neg (by omega)]
theorem m_lesser {c x : Int} {σ : Mem} (hc : 0 ≤ c ∧ c ≤ 999) (hx : 0 ≤ x ∧ x ≤ 10000) : f_X12_lesser c x σ = some (mnI c x, σ) := by
  unfold f_X12_lesser mnI
  rw [s32_of (z := c) (by omega) (by omega), s32_of (z := x) (by omega) (by omega)]
  split <;> rfl
theorem op_inOne {σ : Mem} (h : Rel σ) {v w : Int} (hv : s32 v = v) (hw : s32 w = w) : Op σ (f_X11_inOne v w) (f_X12_inOne v w) := by
  unfold Op f_X11_inOne f_X12_inOne
  by_cases q : σ 0 6 = 0
  · refine ⟨-3, σ, σ, ?_, ?_, h⟩
    · rw [q, if_pos s32_0]
    · rw [m_closed h q, ob_some, if_pos s32_0]
  · obtain ⟨e1, n, m, hO, hB, hM, e6, e7⟩ := h.mk2 q
    have hn := hO.1.1
    have hm := hO.1.2.1
    have h9 := h.1.2.2.2.2.1.2.2
    have m1 := hO.1.2.2.2.1
    have um : s32 (m : Int) = m := s32_of (by clear hv hw; omega) (by clear hv hw; omega)
    have un : s32 (n : Int) = n := s32_of (by clear hv hw um; omega) (by clear hv hw um; omega)
    rw [e1, if_neg (by decide), c_markAt hO.1 hB hv, ob_some]
    by_cases c1 : 0 ≤ v ∧ v < (m : Int)
    · rw [bi_t c1, if_neg (by decide), c_markAt hO.1 hB hw, ob_some]
      by_cases c2 : 0 ≤ w ∧ w < (m : Int)
      · rw [bi_t c2, if_neg (by decide), hv, hw]
        by_cases c3 : v = w
        · refine ⟨-1, σ, σ, by rw [if_pos c3], ?_, h⟩
          rw [m_openAt hM, ob_some, if_neg (by decide), m_markAt hM hv, ob_some, bi_t c1, if_neg (by decide), m_markAt hM hw, ob_some, bi_t c2, if_neg (by decide), if_pos c3]
        · rw [if_neg c3]
          obtain ⟨a, ha, rfl⟩ : ∃ a : Nat, a < m ∧ v = a := ⟨v.toNat, by clear hv hw um un; omega, by clear hv hw um un; omega⟩
          obtain ⟨b, hb, rfl⟩ : ∃ b : Nat, b < m ∧ w = b := ⟨w.toNat, by clear hv hw um un; omega, by clear hv hw um un; omega⟩
          unfold f_X4_join
          rw [hB.1.2.1, um]
          by_cases c4 : m = 4
          · refine ⟨-2, σ, σ, ?_, ?_, h⟩
            · rw [if_pos (by clear hv hw um un; omega), ob_some]
            · rw [m_openAt hM, ob_some, if_neg (by decide), m_markAt hM hv, ob_some, bi_t c1, if_neg (by decide), m_markAt hM hw, ob_some, bi_t c2, if_neg (by decide), if_neg c3, m1, um, if_pos (by clear hv hw um un; omega)]
          · have a4 := fin4 ha hm.2
            have b4 := fin4 hb hm.2
            have m4 : 0 ≤ (m : Int) ∧ (m : Int) < 4 := by clear hv hw um un; omega
            have qa := hO.1.2.2.2.2.2.2 a ha
            have qb := hO.1.2.2.2.2.2.2 b hb
            have ca := hB.1.2.2.2.2 a ha
            have cb := hB.1.2.2.2.2 b hb
            obtain ⟨us, hus⟩ : ∃ us, us = mnI 99 (σ 121 (15 + a) + σ 121 (15 + b)) := ⟨_, rfl⟩
            have us_in : 0 ≤ us ∧ us ≤ 99 := by
              rw [hus]
              exact mnI_in (by decide) (by clear hv hw um un; omega)
            obtain ⟨cs, hcs⟩ : ∃ cs : Nat → Int, cs = fun i : Nat => mnI 999 (σ 121 (19 + 4 * a + i) + σ 121 (19 + 4 * b + i)) := ⟨_, rfl⟩
            have cs_in : ∀ i, i < n → 0 ≤ cs i ∧ cs i ≤ 999 := fun i hi => by
              have z1 := qa.2.2 i hi
              have z2 := qb.2.2 i hi
              rw [hcs]
              exact mnI_in (by decide) (by clear hv hw um un; omega)
            obtain ⟨σ7, h7⟩ : ∃ σ7, σ7 = ups (ups σ 14 m us) 15 m (-1) := ⟨_, rfl⟩
            have r7 : ∀ x : Int, x ≠ 14 → x ≠ 15 → σ7 x = σ x := fun x w1 w2 => by rw [h7, ups_ne w2, ups_ne w1]
            have lc : ∃ τ, itr (fun z => f_X4_join_50 10 a b z.1 z.2) FU (0, σ7) = some τ ∧ ((∀ x : Int, x ≠ 17 + m → τ x = σ7 x) ∧ ∀ i : Nat, i < n → τ (17 + m) i = cs i) := by
              refine itr_forH (fun k z => ∃ τ, z = ((k : Int), τ) ∧ (∀ x : Int, x ≠ 17 + m → τ x = σ7 x) ∧ ∀ i : Nat, i < k → τ (17 + m) i = cs i) _ n (by clear hv hw um un; omega) ⟨σ7, rfl, fun _ _ => rfl, fun i hi => absurd hi (Nat.not_lt_zero _)⟩ (fun k hk z hz => ?_) (fun z hz => ?_)
              · obtain ⟨τ, rfl, z1, z2⟩ := hz
                have k4 := fin4 hk hn.2
                have uk : s32 (k : Int) = k := s32_of (by clear hv hw um un; omega) (by clear hv hw um un; omega)
                have t10 : τ 10 = σ 10 := (z1 10 (by clear hv hw um un uk; omega)).trans (r7 10 (by decide) (by decide))
                have ta : τ (16 + 1 + a) k = σ 121 (19 + 4 * a + k) := by
                  rw [z1 _ (by clear hv hw um un uk; omega), r7 _ (by clear hv hw um un uk; omega) (by clear hv hw um un uk; omega)]
                  exact hB.1.cost h9 ha hk
                have tb : τ (16 + 1 + b) k = σ 121 (19 + 4 * b + k) := by
                  rw [z1 _ (by clear hv hw um un uk; omega), r7 _ (by clear hv hw um un uk; omega) (by clear hv hw um un uk; omega)]
                  exact hB.1.cost h9 hb hk
                have y1 := qa.2.2 k hk
                have y2 := qb.2.2 k hk
                refine ⟨((k : Int) + 1, ups τ (17 + m) k (cs k)), ?_, _, rfl, fun x w => ?_, fun i hi => ?_⟩
                · show f_X4_join_50 10 a b (k : Int) τ = _
                  unfold f_X4_join_50
                  rw [t10, hB.1.1, hB.1.2.1, un, uk, um, hv, hw, if_neg (by clear hv hw um un uk; omega), if_pos m4, if_pos a4, if_pos k4, if_pos b4]
                  simp only [stp]
                  rw [show (10 : Int) + 6 + 1 + (a : Int) = 16 + 1 + a by clear hv hw um un uk; omega, show (10 : Int) + 6 + 1 + (b : Int) = 16 + 1 + b by clear hv hw um un uk; omega, show (10 : Int) + 6 + 1 + (m : Int) = 17 + m by clear hv hw um un uk; omega, ta, tb, c_mn (by decide) (by clear hv hw um un uk; omega), hcs]
                · rw [ups_ne w]
                  exact z1 x w
                · by_cases e : i = k
                  · rw [e, ups_at]
                  · rw [ups_ni (by clear hv hw um un uk; omega)]
                    exact z2 i (by clear hv hw um un uk; omega)
              · obtain ⟨τ, rfl, z1, z2⟩ := hz
                have t10 : τ 10 = σ 10 := (z1 10 (by clear hv hw um un; omega)).trans (r7 10 (by decide) (by decide))
                refine ⟨τ, ?_, z1, z2⟩
                show f_X4_join_50 10 a b (n : Int) τ = _
                unfold f_X4_join_50
                rw [t10, hB.1.1, if_pos (Int.le_refl _)]
            obtain ⟨τ, et, t1, t2⟩ := lc
            have t10 : τ 10 = σ 10 := (t1 10 (by clear hv hw um un; omega)).trans (r7 10 (by decide) (by decide))
            obtain ⟨υ, hυ⟩ : ∃ υ, υ = ups τ 10 1 ((m : Int) + 1) := ⟨_, rfl⟩
            have u0 : ∀ x : Int, x ≠ 10 → x ≠ 14 → x ≠ 15 → x ≠ 17 + m → υ x = σ x := fun x w1 w2 w3 w4 => by rw [hυ, ups_ne w1, t1 x w4, r7 x w2 w3]
            have hMu : MS υ n m := by
              unfold MS Md
              rw [u0 121 (by decide) (by decide) (by decide) (by clear hv hw um un; omega), u0 120 (by decide) (by decide) (by decide) (by clear hv hw um un; omega)]
              exact hM
            have v121 : υ 121 = σ 121 := u0 121 (by decide) (by decide) (by decide) (by clear hv hw um un; omega)
            have lm : ∃ κ, itr (fun z => f_X12_inOne_84 a b m z.1 z.2) FU (0, ups υ 121 (15 + m) us) = some κ ∧ ((∀ x : Int, x ≠ 121 → κ x = υ x) ∧ (∀ i : Int, ¬ (i = 15 + m ∨ (19 + 4 * (m : Int) ≤ i ∧ i < 19 + 4 * (m : Int) + n)) → κ 121 i = σ 121 i) ∧ κ 121 (15 + m) = us ∧ ∀ i : Nat, i < n → κ 121 (19 + 4 * m + i) = cs i) := by
              refine itr_forH (fun k z => ∃ κ, z = ((k : Int), κ) ∧ (∀ x : Int, x ≠ 121 → κ x = υ x) ∧ (∀ i : Int, ¬ (i = 15 + m ∨ (19 + 4 * (m : Int) ≤ i ∧ i < 19 + 4 * (m : Int) + n)) → κ 121 i = σ 121 i) ∧ κ 121 (15 + m) = us ∧ ∀ i : Nat, i < k → κ 121 (19 + 4 * m + i) = cs i) _ n (by clear hv hw um un; omega) ⟨_, rfl, fun x w => ups_ne w, fun i w => ?_, ups_at _ _ _ _, fun i hi => absurd hi (Nat.not_lt_zero _)⟩ (fun k hk z hz => ?_) (fun z hz => ?_)
              · rw [ups_ni (fun z => w (Or.inl z)), v121]
              · obtain ⟨κ, rfl, z1, z2, z3, z4⟩ := hz
                have uk : s32 (k : Int) = k := s32_of (by clear hv hw um un; omega) (by clear hv hw um un; omega)
                have y1 := qa.2.2 k hk
                have y2 := qb.2.2 k hk
                have ta : 0 ≤ 19 + 4 * (a : Int) + (k : Int) ∧ 19 + 4 * (a : Int) + (k : Int) < 39 := by clear hv hw um un uk; omega
                have tb : 0 ≤ 19 + 4 * (b : Int) + (k : Int) ∧ 19 + 4 * (b : Int) + (k : Int) < 39 := by clear hv hw um un uk; omega
                have tm : 0 ≤ 19 + 4 * (m : Int) + (k : Int) ∧ 19 + 4 * (m : Int) + (k : Int) < 39 := by clear hv hw um un uk; omega
                refine ⟨((k : Int) + 1, ups κ 121 (19 + 4 * m + k) (cs k)), ?_, _, rfl, fun x w => ?_, fun i w => ?_, ?_, fun i hi => ?_⟩
                · show f_X12_inOne_84 a b m (k : Int) κ = _
                  unfold f_X12_inOne_84
                  rw [z2 0 (by clear hv hw um un uk; omega), hO.1.2.2.1, un, uk, if_neg (by clear hv hw um un uk; omega), s32_of (z := 19 + 4 * (a : Int) + (k : Int)) (by clear hv hw um un uk; omega) (by clear hv hw um un uk; omega), if_pos ta, s32_of (z := 19 + 4 * (b : Int) + (k : Int)) (by clear hv hw um un uk; omega) (by clear hv hw um un uk; omega), if_pos tb, z2 (19 + 4 * (a : Int) + k) (by clear hv hw um un uk; omega), z2 (19 + 4 * (b : Int) + k) (by clear hv hw um un uk; omega), m_lesser (by decide) (by clear hv hw um un uk; omega), ob_some, s32_of (z := 19 + 4 * (m : Int) + (k : Int)) (by clear hv hw um un uk; omega) (by clear hv hw um un uk; omega), if_pos tm, hcs]
                · rw [ups_ne w]
                  exact z1 x w
                · rw [ups_ni (fun z => w (by clear hv hw um un uk; omega))]
                  exact z2 i w
                · rw [ups_ni (by clear hv hw um un uk; omega)]
                  exact z3
                · by_cases e : i = k
                  · rw [e, ups_at]
                  · rw [ups_ni (by clear hv hw um un uk; omega)]
                    exact z4 i (by clear hv hw um un uk; omega)
              · obtain ⟨κ, rfl, z1, z2, z3, z4⟩ := hz
                refine ⟨κ, ?_, z1, z2, z3, z4⟩
                show f_X12_inOne_84 a b m (n : Int) κ = _
                unfold f_X12_inOne_84
                rw [z2 0 (by clear hv hw um un; omega), hO.1.2.2.1, if_pos (Int.le_refl _)]
            obtain ⟨κ, ek, k1, k2, k3, k4⟩ := lm
            obtain ⟨ρ, hρ⟩ : ∃ ρ, ρ = ups (ups κ 121 (35 + m) 0) 121 1 ((m : Int) + 1) := ⟨_, rfl⟩
            have p0 : ∀ x : Int, x ≠ 121 → ρ x = υ x := fun x w => by rw [hρ, ups_ne w, ups_ne w, k1 x w]
            have p1 : ρ 121 1 = (m : Int) + 1 := by rw [hρ, ups_at]
            have p35 : ρ 121 (35 + m) = 0 := by rw [hρ, ups_ni (by clear hv hw um un; omega), ups_at]
            have p15 : ρ 121 (15 + m) = us := by rw [hρ, ups_ni (by clear hv hw um un; omega), ups_ni (by clear hv hw um un; omega), k3]
            have pc4 : ∀ i : Nat, i < n → ρ 121 (19 + 4 * m + i) = cs i := fun i hi => by rw [hρ, ups_ni (by clear hv hw um un; omega), ups_ni (by clear hv hw um un; omega), k4 i hi]
            have pe : ∀ i : Int, i ≠ 1 → i ≠ 15 + m → i ≠ 35 + m → ¬ (19 + 4 * (m : Int) ≤ i ∧ i < 19 + 4 * (m : Int) + n) → ρ 121 i = σ 121 i := fun i w1 w2 w3 w4 => by
              rw [hρ, ups_ni w1, ups_ni w3, k2 i (fun z => by rcases z with z | z; exact w2 z; exact w4 z)]
            refine ⟨m, υ, ρ, ?_, ?_, h.mkM (fun x i w => ?_) (Or.inr ⟨?_, n, m + 1, ?_, ?_⟩)⟩
            · rw [if_neg (by clear hv hw um un; omega), hv, if_pos a4, hw, if_pos b4, if_pos m4, show (10 : Int) + 4 = 14 from rfl, show (10 : Int) + 5 = 15 from rfl, ca.1, cb.1, c_mn (by decide) (by clear hv hw um un; omega), ← hus]
              simp only [stp]
              rw [ups_ne (show (10 : Int) ≠ 14 by decide), hB.1.2.1, um, if_pos m4, ← h7, et, lb_some]
              show ob (some ((ups τ 10 1 (τ 10 1 + 1)) 10 1 - 1, ups τ 10 1 (τ 10 1 + 1))) _ = _
              rw [ob_some, t10, hB.1.2.1, ups_at, ← hυ, show (m : Int) + 1 - 1 = m by clear hv hw um un; omega]
            · have tA : 0 ≤ 15 + (a : Int) ∧ 15 + (a : Int) < 39 := by clear hv hw um un; omega
              have tB : 0 ≤ 15 + (b : Int) ∧ 15 + (b : Int) < 39 := by clear hv hw um un; omega
              have tM : 0 ≤ 15 + (m : Int) ∧ 15 + (m : Int) < 39 := by clear hv hw um un; omega
              have tT : 0 ≤ 35 + (m : Int) ∧ 35 + (m : Int) < 39 := by clear hv hw um un; omega
              rw [m_openAt hMu, ob_some, if_neg (by decide), m_markAt hMu hv, ob_some, bi_t c1, if_neg (by decide), m_markAt hMu hw, ob_some, bi_t c2, if_neg (by decide), if_neg c3, v121, m1, um, if_neg (by clear hv hw um un; omega), s32_of (z := 15 + (a : Int)) (by clear hv hw um un; omega) (by clear hv hw um un; omega), if_pos tA, s32_of (z := 15 + (b : Int)) (by clear hv hw um un; omega) (by clear hv hw um un; omega), if_pos tB, m_lesser (by decide) (by clear hv hw um un; omega), ob_some, ← hus, s32_of (z := 15 + (m : Int)) (by clear hv hw um un; omega) (by clear hv hw um un; omega), if_pos tM]
              simp only [stp]
              rw [ek, lb_some]
              rw [s32_of (z := 35 + (m : Int)) (by clear hv hw um un; omega) (by clear hv hw um un; omega), if_pos tT]
              rw [ups_ni (show (1 : Int) ≠ 35 + m by clear hv hw um un; omega), k2 1 (by clear hv hw um un; omega), m1, ← hρ]
            · rw [p0 x (fun z => w (by clear hv hw um un; omega)), u0 x (fun z => w (by clear hv hw um un; omega)) (fun z => w (by clear hv hw um un; omega)) (fun z => w (by clear hv hw um un; omega)) (fun z => w (by clear hv hw um un; omega))]
            · rw [p0 0 (by decide), u0 0 (by decide) (by decide) (by decide) (by clear hv hw um un; omega)]
              exact e1
            · refine ⟨⟨hn, ⟨by clear hv hw um un; omega, by clear hv hw um un; omega⟩, ?_, ?_, ?_, fun k hk => ?_, fun j hj => ?_⟩, ?_, fun j hj k hk => ?_⟩
              · rw [pe 0 (by decide) (by clear hv hw um un; omega) (by clear hv hw um un; omega) (by clear hv hw um un; omega)]; exact hO.1.2.2.1
              · rw [p1]; clear hv hw um un; omega
              · rw [pe 2 (by decide) (by clear hv hw um un; omega) (by clear hv hw um un; omega) (by clear hv hw um un; omega)]; exact hO.1.2.2.2.2.1
              · rw [pe _ (by clear hv hw um un; omega) (by clear hv hw um un; omega) (by clear hv hw um un; omega) (by clear hv hw um un; omega), pe _ (by clear hv hw um un; omega) (by clear hv hw um un; omega) (by clear hv hw um un; omega) (by clear hv hw um un; omega), pe _ (by clear hv hw um un; omega) (by clear hv hw um un; omega) (by clear hv hw um un; omega) (by clear hv hw um un; omega)]
                exact hO.1.2.2.2.2.2.1 k hk
              · by_cases e : j = m
                · subst e
                  rw [p15, p35]
                  refine ⟨us_in, ⟨Int.le_refl _, by clear hv hw um un; omega⟩, fun k hk => ?_⟩
                  have := cs_in k hk
                  rw [pc4 k hk]
                  clear hv hw um un
                  omega
                · have qj := hO.1.2.2.2.2.2.2 j (by clear hv hw um un; omega)
                  rw [pe _ (by clear hv hw um un; omega) (by clear hv hw um un; omega) (by clear hv hw um un; omega) (by clear hv hw um un; omega), pe _ (by clear hv hw um un; omega) (by clear hv hw um un; omega) (by clear hv hw um un; omega) (by clear hv hw um un; omega)]
                  refine ⟨qj.1, qj.2.1, fun k hk => ?_⟩
                  rw [pe _ (by clear hv hw um un; omega) (by clear hv hw um un; omega) (by clear hv hw um un; omega) (by clear hv hw um un; omega)]
                  exact qj.2.2 k hk
              · rw [sumI_congr (g := fun k => σ 121 (3 + k)) (fun k hk => pe _ (by clear hv hw um un; omega) (by clear hv hw um un; omega) (by clear hv hw um un; omega) (by clear hv hw um un; omega))]
                exact hO.2.1
              · by_cases e : j = m
                · subst e
                  rw [pc4 k hk]
                  exact (cs_in k hk).2
                · rw [pe _ (by clear hv hw um un; omega) (by clear hv hw um un; omega) (by clear hv hw um un; omega) (by clear hv hw um un; omega)]
                  exact hO.2.2 j (by clear hv hw um un; omega) k hk
            · have u10 : ∀ i : Int, i ≠ 1 → υ 10 i = σ 10 i := fun i w => by rw [hυ, ups_ni w, t10]
              have u14 : ∀ i : Int, υ 14 i = if i = m then us else σ 14 i := fun i => by
                rw [hυ, ups_ne (by decide), t1 14 (by clear hv hw um un; omega), h7, ups_ne (by decide), ups_self]
                rfl
              have u15 : ∀ i : Int, υ 15 i = if i = m then -1 else σ 15 i := fun i => by
                rw [hυ, ups_ne (by decide), t1 15 (by clear hv hw um un; omega), h7, ups_self, ups_ne (by decide)]
                rfl
              have u72 : υ 72 = σ 72 := u0 72 (by decide) (by decide) (by decide) (by clear hv hw um un; omega)
              refine ⟨?_, ?_, ?_, fun k hk => ?_, fun j hj => ?_⟩
              · rw [p0 10 (by decide), u10 0 (by decide)]; exact hB.1.1
              · rw [p0 10 (by decide), hυ, ups_at]; clear hv hw um un; omega
              · rw [p0 10 (by decide), u10 2 (by decide), pe 2 (by decide) (by clear hv hw um un; omega) (by clear hv hw um un; omega) (by clear hv hw um un; omega)]; exact hB.1.2.2.1
              · rw [p0 11 (by decide), p0 12 (by decide), p0 13 (by decide), u0 11 (by decide) (by decide) (by decide) (by clear hv hw um un; omega), u0 12 (by decide) (by decide) (by decide) (by clear hv hw um un; omega), u0 13 (by decide) (by decide) (by decide) (by clear hv hw um un; omega), pe _ (by clear hv hw um un; omega) (by clear hv hw um un; omega) (by clear hv hw um un; omega) (by clear hv hw um un; omega), pe _ (by clear hv hw um un; omega) (by clear hv hw um un; omega) (by clear hv hw um un; omega) (by clear hv hw um un; omega), pe _ (by clear hv hw um un; omega) (by clear hv hw um un; omega) (by clear hv hw um un; omega) (by clear hv hw um un; omega)]
                exact hB.1.2.2.2.1 k hk
              · rw [p0 14 (by decide), p0 15 (by decide), p0 72 (by decide), u72, h9, u14, u15, p0 (16 + 1 + j) (by clear hv hw um un; omega)]
                by_cases e : j = m
                · subst e
                  rw [if_pos rfl, if_pos rfl, p15, p35]
                  refine ⟨rfl, by decide, fun k hk => ?_⟩
                  rw [pc4 k hk, show 16 + 1 + (j : Int) = 17 + j by clear hv hw um un; omega, hυ, ups_ne (by clear hv hw um un; omega), t2 k hk]
                  split <;> (clear hv hw um un; omega)
                · have qj := hB.1.2.2.2.2 j (by clear hv hw um un; omega)
                  rw [if_neg (by clear hv hw um un; omega), if_neg (by clear hv hw um un; omega), pe _ (by clear hv hw um un; omega) (by clear hv hw um un; omega) (by clear hv hw um un; omega) (by clear hv hw um un; omega), pe _ (by clear hv hw um un; omega) (by clear hv hw um un; omega) (by clear hv hw um un; omega) (by clear hv hw um un; omega)]
                  refine ⟨qj.1, qj.2.1, fun k hk => ?_⟩
                  have := hB.1.cost h9 (show j < m by clear hv hw um un; omega) hk
                  rw [u0 (16 + 1 + j) (by clear hv hw um un; omega) (by clear hv hw um un; omega) (by clear hv hw um un; omega) (by clear hv hw um un; omega), pe _ (by clear hv hw um un; omega) (by clear hv hw um un; omega) (by clear hv hw um un; omega) (by clear hv hw um un; omega), this]
                  split <;> (clear hv hw um un; omega)
      · refine ⟨-1, σ, σ, by rw [bi_f c2, if_pos s32_0], ?_, h⟩
        rw [m_openAt hM, ob_some, if_neg (by decide), m_markAt hM hv, ob_some, bi_t c1, if_neg (by decide), m_markAt hM hw, ob_some, bi_f c2, if_pos s32_0]
    · refine ⟨-1, σ, σ, by rw [bi_f c1, if_pos s32_0], ?_, h⟩
      rw [m_openAt hM, ob_some, if_neg (by decide), m_markAt hM hv, ob_some, bi_f c1, if_pos s32_0]
