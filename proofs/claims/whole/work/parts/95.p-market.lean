/-! PURE 55: market, both sides -/
theorem syn_b {t : Nat → Int} {N : Nat} (h : TX t N) : ∀ (g p q : Nat), p ≤ N → syn t N g p = some q → q ≤ N
  | 0, p, q, _, hs => by cases hs
  | g + 1, p, q, hp, hs => by
    have b := psm_b h hp
    unfold syn at hs
    by_cases w : (psm t p).1 = true
    · rw [if_pos w] at hs
      by_cases w2 : (psm t p).2.1 < N
      · rw [if_pos w2] at hs
        exact syn_b h g _ q (by omega) hs
      · rw [if_neg w2] at hs
        cases hs
    · rw [if_neg w] at hs
      have e : (psm t p).2.1 = q := Option.some.inj hs
      omega
theorem Go.det {α β : Type} {f : α → Option (α ⊕ β)} {k : Nat} {x y z : α} {b c : β} (g : Go f k x y) (g' : Go f k x z) (e : f y = some (.inr b)) (e' : f z = some (.inr c)) : b = c := by
  have h1 := (g (0 + 1)).symm.trans (g' (0 + 1))
  rw [itr_out e, itr_out e'] at h1
  exact Option.some.inj h1
theorem OkR.okx {n m : Nat} {R : Int → Int} (h : OkR n m R) (hs : sumI (fun k => R (3 + k)) n = 100) (hm : 0 < m) : Okx n m R := by
  obtain ⟨⟨h1, h2⟩, o0, o1, o2, oS, oM, oT⟩ := h
  have hn : 1 ≤ n := by
    rcases Nat.eq_zero_or_pos n with z | z
    · subst z
      cases hs
    · exact z
  refine ⟨⟨⟨hn, h1⟩, ⟨hm, h2⟩, o0, o1, by omega, oS, fun j hj => ⟨(oM j hj).1, (oM j hj).2.1, fun k hk => ?_⟩⟩, hs, fun j hj k hk => ((oM j hj).2.2 k hk).2⟩
  have := (oM j hj).2.2 k hk
  omega
theorem MX.co {μ μ' : Mem} (h : MX μ μ') : CO μ μ' := fun a i w => h a i (by unfold scr at w; omega)
theorem syn_0 {t : Nat → Int} (h : TX t 0) : syn t 0 200 0 = some 0 := by
  have e : t 0 = -1000 := h.2.2 0 (Nat.le_refl _)
  have e2 : psm t 0 = (false, 0, 0, fun _ => 0) := by
    unfold psm
    rw [e, if_neg (by decide)]
  show (if (psm t 0).1 = true then _ else _) = _
  rw [e2, if_neg (by decide)]
theorem op_market {σ : Mem} (h : Rel σ) {v : Int} (hv : s32 v = v) : Op σ (f_X11_market v) (f_X12_market v) := by
  unfold Op f_X11_market
  rw [c_isShelf' hv, ob_some, hv]
  by_cases c1 : 0 ≤ v ∧ v ≤ 7
  · obtain ⟨d, hd, rfl⟩ : ∃ d : Nat, d < 8 ∧ v = d := ⟨v.toNat, by clear hv; omega, by clear hv; omega⟩
    have d8 : 0 ≤ (d : Int) ∧ (d : Int) < 8 := by clear hv; omega
    have hS := h.2.2.2 d hd
    rw [bi_t c1, if_neg (by decide), if_pos d8, c_isBare hS, ob_some]
    by_cases k0 : σ 124 d = 0
    · refine ⟨-11, σ, σ, by rw [bi_t k0, if_neg (by decide)], ?_, h⟩
      unfold f_X12_market
      rw [m_wrong0 h.2.2.2 hd (by decide) k0, ob_some, if_neg (by decide)]
    rw [bi_f k0, if_pos s32_0, c_holdsRowOf hS (by decide), ob_some]
    by_cases k2 : σ 124 d = 2 ∧ σ 125 d = 0
    · rw [bi_t k2, if_neg (by decide)]
      clear hv
      obtain ⟨b1, b2⟩ : (0 ≤ σ 126 d ∧ σ 126 d ≤ 120) ∧ (σ (80 + 2 * d) 2 = σ 126 d ∧ ∀ j : Nat, j < 120 → σ (80 + 2 * d + 1) j = σ 127 (120 * d + j) ∧ inI (σ 127 (120 * d + j))) := by
        rcases hS with ⟨z, -⟩ | ⟨z, -⟩ | ⟨-, -, -, -, z1, z2, z3⟩
        · omega
        · omega
        · exact ⟨z2, z1, z3⟩
      obtain ⟨N, hN⟩ : ∃ N : Nat, σ 126 d = N := ⟨(σ 126 d).toNat, by omega⟩
      rw [hN] at b1 b2
      obtain ⟨t, ht⟩ : ∃ t : Nat → Int, t = fun p => if p < N then σ 127 (120 * d + p) else -1000 := ⟨_, rfl⟩
      have tp : ∀ p : Nat, p < N → σ 127 (120 * d + p) = t p := fun p hp => by rw [ht]; exact (if_pos hp).symm
      have hX : TX t N := ⟨by omega, fun p hp => by rw [← tp p hp]; exact (b2.2 p (by omega)).2, fun p hp => by rw [ht]; exact if_neg (by omega)⟩
      have hT : CT σ (80 + 2 * (d : Int)) t N := ⟨hX, by omega, b2.1, fun p hp => (b2.2 p (by omega)).1.trans (tp p hp)⟩
      have mm : ∀ σ1 : Mem, (∀ a : Int, ((80 ≤ a ∧ a ≤ 116) ∨ (124 ≤ a ∧ a ≤ 129)) → σ1 a = σ a) → _ := fun σ1 f => m_market (σ := σ1) (d := d) (N := N) (t := t) (h.2.2.2.of f) hd (by rw [f 124 (by omega)]; exact k2.1) (by rw [f 125 (by omega)]; exact k2.2) hX (by rw [f 126 (by omega)]; exact hN) (fun p hp => by rw [f 127 (by omega)]; exact tp p hp)
      have row : ∀ τ : Mem, (∀ a i : Int, ¬ (50 ≤ a ∧ a ≤ 71) → τ a i = σ a i) → ∀ a : Int, ((80 ≤ a ∧ a ≤ 116) ∨ (124 ≤ a ∧ a ≤ 129)) → τ a = σ a := fun τ f a q => funext fun i => f a i (by omega)
      have frc : ∀ τ : Mem, (∀ a i : Int, ¬ (50 ≤ a ∧ a ≤ 71) → τ a i = σ a i) → CO σ τ := fun τ f a i q => f a i (fun z => q (by unfold scr; omega))
      by_cases hN0 : N = 0
      · subst hN0
        obtain ⟨μ', e, hC⟩ := (mm (rd0 σ) (row _ (rd0_fr σ))).1 0 (syn_0 hX)
        refine ⟨-1000, rd0 σ, μ', ?_, (by rw [e]; rfl), (h.co (frc _ (rd0_fr σ))).co hC⟩
        rw [c_readNo hT, ob_some, if_pos (by decide)]
      rcases hs : syn t N 200 0 with _ | q
      · have r0 := rd0_at σ
        have hT0 : CT (rd0 σ) (80 + 2 * (d : Int)) t N := hT.fr3 (rd0_fr σ)
        have run : ∀ μ3 : Mem, MT μ3 d t N → μ3 120 11 = 0 → (∀ i : Nat, i < 39 → μ3 123 i = 0) → _ := fun μ3 z1 z2 z3 => two_run (u := 80 + 2 * (d : Int)) 200 0 (rd0 σ) 0 μ3 FU 0 0 hT0 r0.1 r0.2.2.1 r0.2.1 (by omega) (by omega) (FU_lt (by omega)) hs z1 z2 (FMk.no ⟨r0.2.2.2.1, r0.2.2.2.2.1⟩) (OkR.no z3)
        obtain ⟨hM0, h11⟩ := mk0_MT hd hX hN tp
        obtain ⟨τ', s', g1, t2, t7, sb, fr, μ0, -, alt⟩ := run (fun a i => if a = 123 then 0 else mk0 σ d a i) (hM0.mx (fun a i w => if_neg (by omega))) ((if_neg (by decide)).trans h11) (fun i _ => if_pos rfl)
        have fr1 : ∀ a i : Int, ¬ (50 ≤ a ∧ a ≤ 71) → τ' a i = rd0 σ a i := fun a i w => fr a i (by omega)
        have frs : ∀ a i : Int, ¬ (50 ≤ a ∧ a ≤ 71) → τ' a i = σ a i := fun a i w => (fr1 a i w).trans (rd0_fr σ a i w)
        have run2 : ∀ μ3 : Mem, MT μ3 d t N → μ3 120 11 = 0 → (∀ i : Nat, i < 39 → μ3 123 i = 0) → ∃ μ' : Mem, MX μ3 μ' ∧ ((itr mk91 FU (0, μ3) = some (.inr ((s' : Int), μ')) ∧ τ' 70 8 = -1 ∧ ∃ n' m', FMk τ' n' m' (μ' 123) ∧ OkR n' m' (μ' 123)) ∨ (∃ x : Nat, x < N ∧ itr mk91 FU (0, μ3) = some (.inl (-2000 - (x : Int), μ')) ∧ τ' 70 8 = x)) := fun μ3 z1 z2 z3 => by
          obtain ⟨τ2, s2, g2, u2, u7, -, fr2, μ', hx, alt2⟩ := run μ3 z1 z2 z3
          have fr3 : ∀ a i : Int, ¬ (50 ≤ a ∧ a ≤ 71) → τ2 a i = rd0 σ a i := fun a i w => fr2 a i (by omega)
          have e := Go.det g1 g2 (rfc_end (hT0.fr3 fr1)) (rfc_end (hT0.fr3 fr3))
          have e' : τ' = τ2 := Sum.inr.inj e
          subst e'
          have es : s2 = s' := by omega
          subst es
          exact ⟨μ', hx, alt2⟩
        have rE := c_readEnd hT g1 fr1 t2 t7 (by omega)
        rcases alt with ⟨-, h8, n, m, hK, hO⟩ | ⟨x, hx, -, h8⟩
        · rw [h8, if_pos (by decide), c_isWhole hK hO, ob_some] at rE
          by_cases P : sumI (fun k => μ0 123 (3 + k)) n = 100 ∧ 0 < m
          · -- a market is told
            rw [bi_t P, if_neg (by decide), t7] at rE
            obtain ⟨κ, et, q0, qt, qr, qc⟩ := c_takeFrom (σ := τ') (t := 10) (u := 50) (by decide)
            obtain ⟨σ1, h1⟩ : ∃ σ1, σ1 = ups κ 0 6 1 := ⟨_, rfl⟩
            have s1 : ∀ a i : Int, ¬ (a = 0 ∧ i = 6) → ¬ (10 ≤ a ∧ a ≤ 20) → σ1 a i = τ' a i := fun a i w1 w2 => by
              rw [h1, ups_nn w1, q0 a (by omega)]
            have s2 : ∀ a i : Int, (10 ≤ a ∧ a ≤ 20) → σ1 a i = κ a i := fun a i w => by rw [h1, ups_nn (by omega)]
            obtain ⟨μ3, m1, m2, m3, m4, m5⟩ := (mm σ1 (fun a q => funext fun i => (s1 a i (by omega) (by omega)).trans (frs a i (by omega)))).2 hs
            obtain ⟨μ', hx, alt2⟩ := run2 μ3 m1 m2 m3
            rcases alt2 with ⟨e91, -, n2, m2', hK2, hO2⟩ | ⟨x, _, -, h8'⟩
            · have eP := c_isWhole hK2 hO2
              rw [c_isWhole hK hO, bi_t P] at eP
              by_cases P2 : sumI (fun k => μ' 123 (3 + k)) n2 = 100 ∧ 0 < m2'
              · obtain ⟨ρ, er, p1, p2⟩ := m_take (μ := μ') (y := (s' : Int))
                have hm9 := hO2.1
                have PP : ∀ i : Int, 0 ≤ i ∧ i < 39 → ρ 121 i = μ' 123 i := fun i w => by
                  obtain ⟨j, rfl⟩ : ∃ j : Nat, i = j := ⟨i.toNat, by omega⟩
                  exact p2 j (by omega)
                have pa : ∀ a i : Int, a ≠ 121 → ¬ scr a i → ρ a i = σ1 a i := fun a i w1 w2 => by
                  rw [p1 a w1, hx.co a i w2, m4 a i w2]
                have p10 : ∀ a i : Int, (10 ≤ a ∧ a ≤ 20) → ρ a i = κ a i := fun a i w => by
                  rw [pa a i (by omega) (by unfold scr; omega), s2 a i w]
                refine ⟨s', σ1, ρ, ?_, ?_, h.mk6 (fun a i w => ?_) ?_ (Or.inr ⟨?_, n2, m2', (hO2.okx P2.1 P2.2).congr PP, ?_, ?_, ?_, fun k hk => ?_, fun j hj => ?_⟩)⟩
                · rw [rE, ob_some, s32_of (z := (s' : Int)) (by omega) (by omega), if_neg (by omega), et, ob_some, h1]
                · rw [m5]
                  unfold mkE
                  rw [e91, lb_some]
                  show lb (itr (fun z => f_X12_market_148 (s' : Int) z.1 z.2.1 z.2.2) FU (0, 0, μ')) _ = _
                  rw [m_sum hO2, lb_some]
                  show (if s32 (sumI (fun k => μ' 123 (3 + k)) n2) = 100 then (if s32 (μ' 123 1) = 0 then some (-3000, μ') else lb (itr (fun z => f_X12_market_202 (s' : Int) z.1 z.2) FU (0, μ')) (fun q67 => some ((s' : Int), q67))) else some (-3000, μ')) = _
                  rw [P2.1, if_pos (by decide), hO2.2.2.1, s32_of (z := (m2' : Int)) (by omega) (by omega), if_neg (by omega), er, lb_some]
                · rw [pa a i (fun z => w (Or.inr (Or.inr (Or.inl z)))) (fun z => w (Or.inl z)), s1 a i (fun z => w (Or.inr (Or.inr (Or.inr z)))) (fun z => w (Or.inr (Or.inl ⟨z.1, by omega⟩)))]
                  exact frs a i (fun z => w (Or.inl (by unfold scr; omega)))
                · rw [pa 0 6 (by decide) (by unfold scr; omega), h1]
                  exact ups_at ..
                · rw [pa 0 6 (by decide) (by unfold scr; omega), h1]
                  exact ups_at ..
                · rw [p10 10 0 (by decide), qt.1]; exact hK2.1
                · rw [p10 10 1 (by decide), qt.2.1]; exact hK2.2.1
                · rw [p10 10 2 (by decide), qt.2.2, fr 50 2 (by omega), r0.2.2.2.2.2, PP 2 (by decide), hO2.2.2.2.1]
                · have z1 := qr 1 k (by decide) (by omega)
                  have z2 := qr 2 k (by decide) (by omega)
                  have z3 := qr 3 k (by decide) (by omega)
                  rw [p10 11 _ (by decide), p10 12 _ (by decide), p10 13 _ (by decide), show κ 11 k = τ' 51 k from z1, show κ 12 k = τ' 52 k from z2, show κ 13 k = τ' 53 k from z3, PP _ (by omega), PP _ (by omega), PP _ (by omega)]
                  exact hK2.2.2.1 k hk
                · have z1 := qr 4 j (by decide) (by omega)
                  have z2 := qr 5 j (by decide) (by omega)
                  have h9 := h.1.2.2.2.2.1.2.2
                  have e9 : ρ 72 9 = 0 := by
                    rw [pa 72 9 (by decide) (by unfold scr; omega), s1 72 9 (by omega) (by omega), frs 72 9 (by omega)]
                    exact h9
                  rw [p10 14 _ (by decide), p10 15 _ (by decide), show κ 14 j = τ' 54 j from z1, show κ 15 j = τ' 55 j from z2, PP _ (by omega), PP _ (by omega), e9]
                  refine ⟨(hK2.2.2.2 j hj).1, (hK2.2.2.2 j hj).2.1, fun k hk => ?_⟩
                  have z3 := qc j (by omega) k (by omega)
                  have z4 : κ (16 + 1 + j) k = τ' (56 + 1 + j) k := z3
                  rw [p10 (16 + 1 + j) _ (by omega), z4, PP _ (by omega), ← (hK2.2.2.2 j hj).2.2 k hk]
                  split <;> omega
              · rw [bi_f P2] at eP
                exact absurd (show (1 : Int) = 0 from congrArg (fun z : Option (Int × Mem) => z.elim 0 (fun y => y.1)) eP) (by decide)
            · omega
          · rw [bi_f P, if_pos s32_0] at rE
            obtain ⟨μ3, m1, m2, m3, m4, m5⟩ := (mm τ' (row _ frs)).2 hs
            obtain ⟨μ', hx, alt2⟩ := run2 μ3 m1 m2 m3
            rcases alt2 with ⟨e91, -, n2, m2', hK2, hO2⟩ | ⟨x, _, -, h8'⟩
            · have eP := c_isWhole hK2 hO2
              rw [c_isWhole hK hO, bi_f P] at eP
              have hm9 := hO2.1
              have hs9 := hO2.sum
              by_cases P2 : sumI (fun k => μ' 123 (3 + k)) n2 = 100 ∧ 0 < m2'
              · rw [bi_t P2] at eP
                exact absurd (show (0 : Int) = 1 from congrArg (fun z : Option (Int × Mem) => z.elim 0 (fun y => y.1)) eP) (by decide)
              · refine ⟨-3000, τ', μ', by rw [rE, ob_some, if_pos (by decide)], ?_, ((h.co (frc _ frs)).co m4).co hx.co⟩
                rw [m5]
                unfold mkE
                rw [e91, lb_some]
                show lb (itr (fun z => f_X12_market_148 (s' : Int) z.1 z.2.1 z.2.2) FU (0, 0, μ')) _ = _
                rw [m_sum hO2, lb_some]
                show (if s32 (sumI (fun k => μ' 123 (3 + k)) n2) = 100 then (if s32 (μ' 123 1) = 0 then some (-3000, μ') else lb (itr (fun z => f_X12_market_202 (s' : Int) z.1 z.2) FU (0, μ')) (fun q67 => some ((s' : Int), q67))) else some (-3000, μ')) = _
                rw [s32_of (z := sumI (fun k => μ' 123 (3 + k)) n2) (by omega) (by omega), hO2.2.2.1, s32_of (z := (m2' : Int)) (by omega) (by omega)]
                by_cases P3 : sumI (fun k => μ' 123 (3 + k)) n2 = 100
                · rw [if_pos P3, if_pos (by omega)]
                · rw [if_neg P3]
            · omega
        · rw [h8, s32_of (z := (x : Int)) (by omega) (by omega), if_neg (by omega)] at rE
          obtain ⟨μ3, m1, m2, m3, m4, m5⟩ := (mm τ' (row _ frs)).2 hs
          obtain ⟨μ', hx2, alt2⟩ := run2 μ3 m1 m2 m3
          rcases alt2 with ⟨-, h8', -⟩ | ⟨x', _, e91, h8'⟩
          · omega
          · have ex : x' = x := by omega
            rw [ex] at e91
            refine ⟨-2000 - (x : Int), τ', μ', ?_, ?_, ((h.co (frc _ frs)).co m4).co hx2.co⟩
            · rw [rE, ob_some, s32_of (z := -2000 - (x : Int)) (by omega) (by omega), if_pos (by omega)]
            · rw [m5]
              unfold mkE
              rw [e91, lb_some]
              rfl
      · have hq := syn_b hX 200 0 q (Nat.zero_le _) hs
        obtain ⟨τ', e1, fr⟩ := c_readBad hT (by omega) hs
        obtain ⟨μ', e, hC⟩ := (mm τ' (row _ fr)).1 q hs
        refine ⟨-1000 - (q : Int), τ', μ', ?_, e, (h.co (frc _ fr)).co hC⟩
        rw [e1, ob_some, s32_of (z := -1000 - (q : Int)) (by omega) (by omega), if_pos (by omega)]
    · refine ⟨-12, σ, σ, by rw [bi_f k2, if_pos s32_0], ?_, h⟩
      unfold f_X12_market
      rw [m_wrong12 h.2.2.2 hd (by decide) k0 (by clear hv; omega), ob_some, if_neg (by decide)]
  · refine ⟨-1, σ, σ, by rw [bi_f c1, if_pos s32_0], ?_, h⟩
    unfold f_X12_market
    rw [m_wrongNo hv c1, ob_some, if_neg (by decide)]
