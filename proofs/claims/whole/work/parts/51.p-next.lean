/-! PURE 11: next -/
def MS (σ : Mem) (n m : Nat) : Prop := Okm n m (σ 121) ∧ Md σ 1 1 0 ∧ σ 120 17 = 0 ∧ σ 120 18 = 0
theorem MS.co {σ τ : Mem} {n m : Nat} (h : MS σ n m) (c : CO σ τ) : MS τ n m := by
  have e121 : τ 121 = σ 121 := c.row 121 (fun i => by unfold scr; omega)
  have e120 : ∀ i, ¬ ((10 ≤ i ∧ i ≤ 15) ∨ i = 21 ∨ i = 22) → τ 120 i = σ 120 i := fun i w => c.at 120 i (by unfold scr; omega)
  unfold MS Md
  rw [e120 19 (by omega), e120 20 (by omega), e120 17 (by omega), e120 18 (by omega), e121]
  exact h
theorem Rel.mk2 {σ : Mem} (h : Rel σ) (q : ¬ σ 0 6 = 0) : σ 0 6 = 1 ∧ ∃ n m, Okx n m (σ 121) ∧ CB σ n m (σ 121) 1 1 0 ∧ MS σ n m ∧ σ 72 6 = 0 ∧ σ 72 7 = 0 := by
  obtain ⟨e1, n, m, hO, hB, hD⟩ := h.mkt q
  have hF := h.1
  exact ⟨e1, n, m, hO, hB, ⟨hO.1, hD, hF.2.2.2.1.1, hF.2.2.2.1.2.1⟩, hF.2.2.2.2.1.1, hF.2.2.2.2.1.2.1⟩
/-- is a fit sure, asked of the model -/
theorem m_sureAt {σ : Mem} {n m : Nat} (h : MS σ n m) {fit : Int} (hv : s32 fit = fit) : ∃ x y, f_X12_isSure fit σ = some (bi (SU 1 1 0 (σ 121) 0 0 fit n m), ab σ x y) := by
  obtain ⟨x, y, e⟩ := m_isSure h.1 h.2.1 hv (by rw [h.2.2.1]; omega)
  rw [h.2.2.1, h.2.2.2, s32_0] at e
  exact ⟨x, y, e⟩
/-- is a fit sure, asked of the class -/
theorem c_sureAt {σ : Mem} {n m : Nat} {s : Int → Int} (h : Okm n m s) (hb : CB σ n m s 1 1 0) (e6 : σ 72 6 = 0) (e7 : σ 72 7 = 0) {fit : Int} (hv : s32 fit = fit) : ∃ σ', f_X11_isSureFit fit σ = some (bi (SU 1 1 0 s 0 0 fit n m), σ') ∧ CS σ σ' ∧ CB σ' n m s 1 1 0 ∧ (σ' 72 6 = 0 ∧ σ' 72 7 = 0) ∧ (isF n m fit → CG σ' n m s 0 fit 1 1 0) := by
  obtain ⟨σ', e, hC, hb', hg⟩ := c_isSureFit h hb hv
  rw [e6, e7, s32_0] at e
  rw [e6, s32_0] at hg
  exact ⟨σ', e, hC, hb', ⟨(hC.at 72 6 (by omega)).trans e6, (hC.at 72 7 (by omega)).trans e7⟩, hg⟩
theorem m_next1 {σ : Mem} {n m : Nat} (h : MS σ n m) {p x : Int} (hp : s32 p = p) (h0 : 0 < x ∨ (p = -1 ∧ x = 0)) (h1 : x < p5 n) : ∃ u v, f_X12_next_21 p x σ = some (if SU 1 1 0 (σ 121) 0 0 x n m then Sum.inr (Sum.inl (x, ab σ u v)) else Sum.inl (x + 1, ab σ u v)) := by
  have hn := h.1.1
  have p4 := p5_in n hn.2
  have hx : s32 x = x := s32_of (by omega) (by omega)
  obtain ⟨u, v, e⟩ := m_sureAt h hx
  refine ⟨u, v, ?_⟩
  unfold f_X12_next_21
  rw [hx, hp]
  have body : (ob (f_X12_fits σ) fun r27 σ26 => if x < (s32 r27) then (ob (f_X12_isSure x σ26) fun r31 σ30 => if (s32 r31) = 0 then (some (Sum.inl ((x + 1), σ30))) else (some (.inr (.inl (x, σ30))))) else (some (.inr (.inl ((-4), σ26))))) = (some (if SU 1 1 0 (σ 121) 0 0 x n m then Sum.inr (Sum.inl (x, ab σ u v)) else Sum.inl (x + 1, ab σ u v)) : Option ((Int × Mem) ⊕ ((Int × Mem) ⊕ (Mem)))) := by
    rw [m_fits h.1.2.2.1 hn.2, ob_some, s32_of (z := p5 n) (by omega) (by omega), if_pos h1, e, ob_some]
    by_cases hs : SU 1 1 0 (σ 121) 0 0 x n m
    · rw [bi_t hs, if_neg (by decide), if_pos hs]
    · rw [bi_f hs, if_pos (by decide), if_neg hs]
  by_cases hx0 : 0 < x
  · rw [if_pos hx0]
    exact body
  · rw [if_neg hx0, if_pos (show p = -1 by omega), if_pos (show x = 0 by omega)]
    exact body
theorem m_next2 {σ : Mem} {n m : Nat} (h : MS σ n m) {p x : Int} (h0 : 0 < x) (h1 : ¬ x < p5 n) (h2 : x ≤ 2147483647) : f_X12_next_21 p x σ = some (Sum.inr (Sum.inl (-4, σ))) := by
  have hn := h.1.1
  have p4 := p5_in n hn.2
  unfold f_X12_next_21
  rw [s32_of (z := x) (by omega) h2, if_pos h0, m_fits h.1.2.2.1 hn.2, ob_some, s32_of (z := p5 n) (by omega) (by omega), if_neg h1]
theorem op_next {σ : Mem} (h : Rel σ) {v : Int} (hv : s32 v = v) : Op σ (f_X11_next v) (f_X12_next v) := by
  unfold Op
  by_cases q : σ 0 6 = 0
  · have hn := h.no q
    refine ⟨-3, σ, σ, ?_, ?_, h⟩
    · unfold f_X11_next
      rw [q, if_pos s32_0]
    · unfold f_X12_next
      rw [m_isOpen (by omega), ob_some, bi_f (by omega), if_pos (by decide)]
  · obtain ⟨e1, n, m, hO, hB, hM, e6, e7⟩ := h.mk2 q
    have hn := hO.1.1
    have hm := hO.1.2.1
    have hs0 := hO.1.2.2.1
    have p4 := p5_in n hn.2
    have v1 := s32_lo v
    have v2 := s32_hi v
    rw [hv] at v1 v2
    unfold f_X11_next f_X12_next
    rw [e1, if_neg (by decide), hv]
    by_cases hlo : -1 ≤ v
    · rw [if_pos hlo, c_fitNumbers' hB.1.1 hn.2, ob_some, s32_of (z := p5 n) (by omega) (by omega)]
      by_cases hhi : v < p5 n
      · obtain ⟨T, hT⟩ : ∃ T : Nat, p5 n = v + 1 + T := ⟨(p5 n - (v + 1)).toNat, by omega⟩
        have lc : ∃ b, itr (fun z => f_X11_next_37 (p5 n) z.1 z.2) FU (v + 1, σ) = some b ∧ (match fst? (fun k => decide (SU 1 1 0 (σ 121) 0 0 (v + 1 + (k : Int)) n m)) 0 T with | some k => ∃ τ, b = Sum.inl (v + 1 + (k : Int), τ) ∧ CO σ τ | none => ∃ τ, b = Sum.inr τ ∧ CO σ τ) := by
          refine itr_fstH (fun k => decide (SU 1 1 0 (σ 121) 0 0 (v + 1 + (k : Int)) n m)) (fun k z => ∃ τ, z = (v + 1 + (k : Int), τ) ∧ CB τ n m (σ 121) 1 1 0 ∧ (τ 72 6 = 0 ∧ τ 72 7 = 0) ∧ CO σ τ) (fun k b => ∃ τ, b = Sum.inl (v + 1 + (k : Int), τ) ∧ CO σ τ) (fun b => ∃ τ, b = Sum.inr τ ∧ CO σ τ) T (by omega) ⟨σ, by rw [show v + 1 + ((0 : Nat) : Int) = v + 1 by omega], hB, ⟨e6, e7⟩, CO.rf⟩ (fun k hk z hz hp => ?_) (fun k hk z hz hp => ?_) (fun z hz => ?_)
          · obtain ⟨τ, rfl, hb, he, hc⟩ := hz
            have hx : s32 (v + 1 + (k : Int)) = v + 1 + (k : Int) := s32_of (by omega) (by omega)
            obtain ⟨τ', e, hC, hb', he', -⟩ := c_sureAt hO.1 hb he.1 he.2 hx
            refine ⟨(v + 1 + (k : Int) + 1, τ'), ?_, τ', by rw [show v + 1 + (k : Int) + 1 = v + 1 + ((k + 1 : Nat) : Int) by omega], hb', he', hc.tr hC.co⟩
            show f_X11_next_37 (p5 n) (v + 1 + (k : Int)) τ = _
            unfold f_X11_next_37
            rw [hx, s32_of (z := p5 n) (by omega) (by omega), if_neg (by omega), e, ob_some, bi_f (dd_f hp), if_pos (by decide)]
          · obtain ⟨τ, rfl, hb, he, hc⟩ := hz
            have hx : s32 (v + 1 + (k : Int)) = v + 1 + (k : Int) := s32_of (by omega) (by omega)
            obtain ⟨τ', e, hC, hb', he', -⟩ := c_sureAt hO.1 hb he.1 he.2 hx
            refine ⟨Sum.inl (v + 1 + (k : Int), τ'), ?_, τ', rfl, hc.tr hC.co⟩
            show f_X11_next_37 (p5 n) (v + 1 + (k : Int)) τ = _
            unfold f_X11_next_37
            rw [hx, s32_of (z := p5 n) (by omega) (by omega), if_neg (by omega), e, ob_some, bi_t (dd_t hp), if_neg (by decide)]
          · obtain ⟨τ, rfl, hb, he, hc⟩ := hz
            refine ⟨Sum.inr τ, ?_, τ, rfl, hc⟩
            show f_X11_next_37 (p5 n) (v + 1 + (T : Int)) τ = _
            unfold f_X11_next_37
            rw [s32_of (z := v + 1 + (T : Int)) (by omega) (by omega), s32_of (z := p5 n) (by omega) (by omega), if_pos (by omega)]
        obtain ⟨b, eb, hb⟩ := lc
        rw [if_pos hhi, eb, lb_some]
        have lm : ∀ τ : Mem, CO σ τ → ∃ b, itr (fun z => f_X12_next_21 v z.1 z.2) FU (v + 1, τ) = some b ∧ (match fst? (fun k => decide (SU 1 1 0 (σ 121) 0 0 (v + 1 + (k : Int)) n m)) 0 T with | some k => ∃ u, b = Sum.inl (v + 1 + (k : Int), u) ∧ CO σ u | none => ∃ u, b = Sum.inl (-4, u) ∧ CO σ u) := by
          intro τ hτ
          refine itr_fstH (fun k => decide (SU 1 1 0 (σ 121) 0 0 (v + 1 + (k : Int)) n m)) (fun k z => ∃ τ, z = (v + 1 + (k : Int), τ) ∧ CO σ τ) (fun k b => ∃ τ, b = Sum.inl (v + 1 + (k : Int), τ) ∧ CO σ τ) (fun b => ∃ τ, b = Sum.inl (-4, τ) ∧ CO σ τ) T (by omega) ⟨τ, by rw [show v + 1 + ((0 : Nat) : Int) = v + 1 by omega], hτ⟩ (fun k hk z hz hp => ?_) (fun k hk z hz hp => ?_) (fun z hz => ?_)
          · obtain ⟨τ, rfl, hc⟩ := hz
            have e121 : τ 121 = σ 121 := hc.row 121 (fun i => by unfold scr; omega)
            obtain ⟨u, w, e⟩ := m_next1 (hM.co hc) (p := v) (x := v + 1 + (k : Int)) hv (by omega) (by omega)
            rw [e121, if_neg (dd_f hp)] at e
            exact ⟨(v + 1 + (k : Int) + 1, ab τ u w), e, ab τ u w, by rw [show v + 1 + (k : Int) + 1 = v + 1 + ((k + 1 : Nat) : Int) by omega], hc.tr ab_co⟩
          · obtain ⟨τ, rfl, hc⟩ := hz
            have e121 : τ 121 = σ 121 := hc.row 121 (fun i => by unfold scr; omega)
            obtain ⟨u, w, e⟩ := m_next1 (hM.co hc) (p := v) (x := v + 1 + (k : Int)) hv (by omega) (by omega)
            rw [e121, if_pos (dd_t hp)] at e
            exact ⟨Sum.inl (v + 1 + (k : Int), ab τ u w), e, ab τ u w, rfl, hc.tr ab_co⟩
          · obtain ⟨τ, rfl, hc⟩ := hz
            exact ⟨Sum.inl (-4, τ), m_next2 (hM.co hc) (by omega) (by omega) (by omega), τ, rfl, hc⟩
        cases hf : fst? (fun k => decide (SU 1 1 0 (σ 121) 0 0 (v + 1 + (k : Int)) n m)) 0 T with
        | some k =>
          rw [hf] at hb
          obtain ⟨τ, rfl, hc⟩ := hb
          obtain ⟨b2, eb2, hb2⟩ := lm τ hc
          rw [hf] at hb2
          obtain ⟨u, rfl, hu⟩ := hb2
          refine ⟨v + 1 + (k : Int), τ, u, by rw [Sum.elim_inl], ?_, h.co hu⟩
          have e121 : τ 121 = σ 121 := hc.row 121 (fun i => by unfold scr; omega)
          rw [m_isOpen (by rw [e121, hs0]; omega), ob_some, bi_t (by rw [e121, hs0]; omega), if_neg (by decide), if_pos hlo, eb2, lb_some, Sum.elim_inl]
        | none =>
          rw [hf] at hb
          obtain ⟨τ, rfl, hc⟩ := hb
          obtain ⟨b2, eb2, hb2⟩ := lm τ hc
          rw [hf] at hb2
          obtain ⟨u, rfl, hu⟩ := hb2
          refine ⟨-4, τ, u, by rw [Sum.elim_inr], ?_, h.co hu⟩
          have e121 : τ 121 = σ 121 := hc.row 121 (fun i => by unfold scr; omega)
          rw [m_isOpen (by rw [e121, hs0]; omega), ob_some, bi_t (by rw [e121, hs0]; omega), if_neg (by decide), if_pos hlo, eb2, lb_some, Sum.elim_inl]
      · refine ⟨-4, σ, σ, by rw [if_neg hhi], ?_, h⟩
        rw [m_isOpen (by rw [hs0]; omega), ob_some, bi_t (by rw [hs0]; omega), if_neg (by decide), if_pos hlo]
        by_cases hmx : v = 2147483647
        · subst hmx
          rw [show itr (fun z => f_X12_next_21 2147483647 z.1 z.2) FU (2147483647 + 1, σ) = some (Sum.inr σ) from itr_for0 (fun _ => ((2147483647 : Int) + 1, σ)) 0 _ (by omega) (fun k hk => absurd hk (Nat.not_lt_zero _)) (by
            show f_X12_next_21 2147483647 (2147483647 + 1) σ = _
            unfold f_X12_next_21
            rw [if_neg (by decide), if_neg (by decide)]), lb_some, Sum.elim_inr]
        · rw [show itr (fun z => f_X12_next_21 v z.1 z.2) FU (v + 1, σ) = some (Sum.inl (-4, σ)) from itr_for0 (fun _ => (v + 1, σ)) 0 _ (by omega) (fun k hk => absurd hk (Nat.not_lt_zero _)) (m_next2 hM (by omega) (by omega) (by omega)), lb_some, Sum.elim_inl]
    · refine ⟨-1, σ, σ, by rw [if_neg hlo], ?_, h⟩
      rw [m_isOpen (by rw [hs0]; omega), ob_some, bi_t (by rw [hs0]; omega), if_neg (by decide), if_neg hlo]
