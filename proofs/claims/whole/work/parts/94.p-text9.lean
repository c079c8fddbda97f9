/-! PURE 54: market -/
theorem RelS.of {σ τ : Mem} (h : RelS σ) (r : ∀ a : Int, ((80 ≤ a ∧ a ≤ 116) ∨ (124 ≤ a ∧ a ≤ 129)) → τ a = σ a) : RelS τ := by
  intro d hd
  unfold ShR FitR
  rw [r 124 (by omega), r 125 (by omega), r 126 (by omega), r 127 (by omega), r 128 (by omega), r 129 (by omega), r (80 + 2 * d) (by omega), r (100 + 2 * d) (by omega), r (80 + 2 * d + 1) (by omega)]
  exact h d hd
theorem Rel.mk6 {σ τ : Mem} (h : Rel σ) (c : ∀ a i : Int, ¬ (scr a i ∨ (10 ≤ a ∧ a ≤ 29) ∨ a = 121 ∨ (a = 0 ∧ i = 6)) → τ a i = σ a i) (h6 : τ 0 6 = 1) (hM : RelM τ) : Rel τ := by
  obtain ⟨hF, -, hI, hS⟩ := h
  have r : ∀ a : Int, ((30 ≤ a ∧ a ≤ 40) ∨ (80 ≤ a ∧ a ≤ 116) ∨ (a = 122 ∨ (124 ≤ a ∧ a ≤ 129))) → τ a = σ a := fun a q => funext fun i => c a i (by unfold scr; omega)
  have e7 : ∀ i : Int, (i = 6 ∨ i = 7 ∨ i = 8 ∨ i = 9 ∨ i = 11 ∨ i = 12 ∨ i = 13) → τ 72 i = σ 72 i := fun i q => c 72 i (by unfold scr; omega)
  have e12 : ∀ i : Int, (i = 9 ∨ i = 17 ∨ i = 18 ∨ i = 19 ∨ i = 20) → τ 120 i = σ 120 i := fun i q => c 120 i (by unfold scr; omega)
  have e07 : τ 0 7 = σ 0 7 := c 0 7 (by unfold scr; omega)
  refine ⟨?_, hM, ?_, hS.of (fun a q => r a (by omega))⟩
  · unfold RelF
    rw [h6, e07, e7 6 (by omega), e7 7 (by omega), e7 8 (by omega), e7 9 (by omega), e7 11 (by omega), e7 12 (by omega), e7 13 (by omega), e12 9 (by omega), e12 17 (by omega), e12 18 (by omega), e12 19 (by omega), e12 20 (by omega)]
    refine ⟨Or.inr rfl, ?_, hF.2.2⟩
    rcases hF.2.1 with w | w
    · exact Or.inl w
    · exact Or.inr ⟨w.1, rfl⟩
  · unfold RelI CI
    rw [e07, r 122 (by omega), r 30 (by omega)]
    intro q
    obtain ⟨n, m, hO, hC⟩ := hI q
    refine ⟨n, m, hO, hC.1, hC.2.1, hC.2.2.1, fun k hk => ?_, fun j hj => ?_⟩
    · rw [r 31 (by omega), r 32 (by omega), r 33 (by omega)]
      exact hC.2.2.2.1 k hk
    · have hm := hO.1.2.1
      rw [r 34 (by omega), r 35 (by omega), r (36 + 1 + j) (by omega)]
      exact hC.2.2.2.2 j hj
/-- the reader, set anew -/
def rd0 (σ : Mem) : Mem := ups (ups (ups (ups (ups (ups σ 50 0 0) 50 1 0) 50 2 0) 70 2 0) 70 7 0) 70 8 (-1)
theorem rd0_fr (σ : Mem) : ∀ a i : Int, ¬ (50 ≤ a ∧ a ≤ 71) → rd0 σ a i = σ a i := fun a i w => by
  unfold rd0
  rw [ups_nn (by omega), ups_nn (by omega), ups_nn (by omega), ups_nn (by omega), ups_nn (by omega), ups_nn (by omega)]
theorem rd0_at (σ : Mem) : rd0 σ 70 2 = 0 ∧ rd0 σ 70 7 = 0 ∧ rd0 σ 70 8 = -1 ∧ rd0 σ 50 0 = 0 ∧ rd0 σ 50 1 = 0 ∧ rd0 σ 50 2 = 0 := by
  unfold rd0
  refine ⟨?_, ?_, ?_, ?_, ?_, ?_⟩
  · rw [ups_nn (by omega), ups_nn (by omega), ups_at]
  · rw [ups_nn (by omega), ups_at]
  · rw [ups_at]
  · rw [ups_nn (by omega), ups_nn (by omega), ups_nn (by omega), ups_nn (by omega), ups_nn (by omega), ups_at]
  · rw [ups_nn (by omega), ups_nn (by omega), ups_nn (by omega), ups_nn (by omega), ups_at]
  · rw [ups_nn (by omega), ups_nn (by omega), ups_nn (by omega), ups_at]
theorem FMk.no {τ : Mem} {R : Int → Int} (h : τ 50 0 = 0 ∧ τ 50 1 = 0) : FMk τ 0 0 R := ⟨h.1, h.2, fun k hk => absurd hk (Nat.not_lt_zero _), fun k hk => absurd hk (Nat.not_lt_zero _)⟩
theorem OkR.no {R : Int → Int} (h : ∀ i : Nat, i < 39 → R i = 0) : OkR 0 0 R := by
  refine ⟨⟨by omega, by omega⟩, h 0 (by omega), h 1 (by omega), h 2 (by omega), fun k hk => absurd hk (Nat.not_lt_zero _), fun k hk => absurd hk (Nat.not_lt_zero _), fun j _ hj => ?_⟩
  rw [show (35 : Int) + (j : Int) = ((35 + j : Nat) : Int) by omega]
  exact h (35 + j) (by omega)
theorem c_readFrom {σ : Mem} {u : Int} : f_X6_readFrom u σ = lb (itr (fun z => f_X6_readFrom_24 u z.1 z.2) FU (0, rd0 σ)) (fun q19 => Sum.elim (fun a29 => some a29) (fun σ21 => if (s32 (σ21 70 2)) = 0 then (if (s32 (σ21 70 7)) = 0 then (some (((-1000) - (σ21 u 2)), σ21)) else (if (s32 (σ21 70 8)) < 0 then (ob (f_X4_isWhole 50 σ21) fun r26 σ25 => if (s32 r26) = 0 then (some ((-3000), σ25)) else (some ((σ25 70 7), σ25))) else (some (((-2000) - (σ21 70 8)), σ21)))) else (some (((-1000) - (σ21 u 2)), σ21))) q19) := rfl
theorem rfc_end {τ : Mem} {u : Int} {t : Nat → Int} {N : Nat} (h : CT τ u t N) : rfc u ((N : Int), τ) = some (.inr (.inr τ)) := by
  show f_X6_readFrom_24 u (N : Int) τ = _
  unfold f_X6_readFrom_24
  rw [h.2.2.1, if_pos (Int.le_refl _)]
theorem Go.end {α β : Type} {f : α → Option (α ⊕ β)} {k : Nat} {x y : α} {b : β} (h : Go f k x y) (e : f y = some (.inr b)) (hk : k < 1000) : itr f FU x = some b := by
  rw [show FU = (99999 - k) + 1 + k by unfold FU; omega, h]
  exact itr_out e
theorem CT.fr3 {τ0 τ : Mem} {u : Int} {t : Nat → Int} {N : Nat} (h : CT τ0 u t N) (f : ∀ a i : Int, ¬ (50 ≤ a ∧ a ≤ 71) → τ a i = τ0 a i) : CT τ u t N := by
  obtain ⟨h1, h2, h3, h4⟩ := h
  exact ⟨h1, h2, (f u 2 (by omega)).trans h3, fun p hp => (f (u + 1) p (by omega)).trans (h4 p hp)⟩
theorem c_readNo {σ : Mem} {u : Int} {t : Nat → Int} (hT : CT σ u t 0) : f_X6_readFrom u σ = some (-1000, rd0 σ) := by
  have hT0 : CT (rd0 σ) u t 0 := hT.fr3 (rd0_fr σ)
  have g : Go (rfc u) 0 ((0 : Nat), rd0 σ) (((0 : Nat) : Int), rd0 σ) := Go.rf
  have e := g.end (rfc_end hT0) (by omega)
  rw [c_readFrom, show itr (fun z => f_X6_readFrom_24 u z.1 z.2) FU (0, rd0 σ) = some (.inr (rd0 σ)) from e, lb_some]
  show (if (s32 (rd0 σ 70 2)) = 0 then (if (s32 (rd0 σ 70 7)) = 0 then (some (((-1000) - (rd0 σ u 2)), rd0 σ)) else (if (s32 (rd0 σ 70 8)) < 0 then (ob (f_X4_isWhole 50 (rd0 σ)) fun r26 σ25 => if (s32 r26) = 0 then (some ((-3000), σ25)) else (some ((σ25 70 7), σ25))) else (some (((-2000) - (rd0 σ 70 8)), rd0 σ)))) else (some (((-1000) - (rd0 σ u 2)), rd0 σ))) = _
  rw [(rd0_at σ).1, (rd0_at σ).2.1, if_pos s32_0, if_pos s32_0, hT0.2.2.1]
  rfl
theorem c_readEnd {σ τ' : Mem} {u : Int} {t : Nat → Int} {N s' : Nat} (hT : CT σ u t N) (g : Go (rfc u) N ((0 : Int), rd0 σ) ((N : Int), τ')) (fr : ∀ a i : Int, ¬ (50 ≤ a ∧ a ≤ 71) → τ' a i = rd0 σ a i) (h2 : τ' 70 2 = 0) (h7 : τ' 70 7 = s') (hs : 0 < s' ∧ s' ≤ 1000) : f_X6_readFrom u σ = if (s32 (τ' 70 8)) < 0 then (ob (f_X4_isWhole 50 τ') fun r26 σ25 => if (s32 r26) = 0 then (some ((-3000), σ25)) else (some ((σ25 70 7), σ25))) else (some (((-2000) - (τ' 70 8)), τ')) := by
  have hN := hT.1.1
  have hT' : CT τ' u t N := (hT.fr3 (rd0_fr σ)).fr3 fr
  have e := g.end (rfc_end hT') (by omega)
  rw [c_readFrom, show itr (fun z => f_X6_readFrom_24 u z.1 z.2) FU (0, rd0 σ) = some (.inr τ') from e, lb_some]
  show (if (s32 (τ' 70 2)) = 0 then (if (s32 (τ' 70 7)) = 0 then (some (((-1000) - (τ' u 2)), τ')) else (if (s32 (τ' 70 8)) < 0 then (ob (f_X4_isWhole 50 τ') fun r26 σ25 => if (s32 r26) = 0 then (some ((-3000), σ25)) else (some ((σ25 70 7), σ25))) else (some (((-2000) - (τ' 70 8)), τ')))) else (some (((-1000) - (τ' u 2)), τ'))) = _
  rw [h2, h7, if_pos s32_0, s32_of (z := (s' : Int)) (by omega) (by omega), if_neg (by omega)]
theorem c_readBad {σ : Mem} {u : Int} {t : Nat → Int} {N q : Nat} (hT : CT σ u t N) (hN0 : 0 < N) (hs : syn t N 200 0 = some q) : ∃ τ', f_X6_readFrom u σ = some (-1000 - (q : Int), τ') ∧ ∀ a i : Int, ¬ (50 ≤ a ∧ a ≤ 71) → τ' a i = σ a i := by
  have hN := hT.1.1
  have hT0 : CT (rd0 σ) u t N := hT.fr3 (rd0_fr σ)
  have r := rd0_at σ
  obtain ⟨τ', b1, b2, b3, b4⟩ := c_bad 200 0 (rd0 σ) q hT0 r.1 (Or.inr ⟨r.2.2.1, 0, 0, fun _ => 0, FMk.no ⟨r.2.2.2.1, r.2.2.2.2.1⟩, OkR.no (fun _ _ => rfl)⟩) hN0 (by omega) hs
  have fr : ∀ a i : Int, ¬ (50 ≤ a ∧ a ≤ 71) → τ' a i = σ a i := fun a i w => (b3 a i (by omega)).trans (rd0_fr σ a i w)
  refine ⟨τ', ?_, fr⟩
  rcases b4 with ⟨b4, b5⟩ | ⟨b4, b5⟩
  · have e := Go.end (x := ((0 : Int), rd0 σ)) b2 b5 (by omega)
    rw [c_readFrom, show itr (fun z => f_X6_readFrom_24 u z.1 z.2) FU (0, rd0 σ) = some (.inl (-1000 - (q : Int), τ')) from e, lb_some]
    rfl
  · have hT' : CT τ' u t N := hT.fr3 fr
    rw [b4] at b2 ⊢
    have e := Go.end (x := ((0 : Int), rd0 σ)) b2 (rfc_end hT') (by omega)
    rw [c_readFrom, show itr (fun z => f_X6_readFrom_24 u z.1 z.2) FU (0, rd0 σ) = some (.inr τ') from e, lb_some]
    show (if (s32 (τ' 70 2)) = 0 then (if (s32 (τ' 70 7)) = 0 then (some (((-1000) - (τ' u 2)), τ')) else (if (s32 (τ' 70 8)) < 0 then (ob (f_X4_isWhole 50 τ') fun r26 σ25 => if (s32 r26) = 0 then (some ((-3000), σ25)) else (some ((σ25 70 7), σ25))) else (some (((-2000) - (τ' 70 8)), τ')))) else (some (((-1000) - (τ' u 2)), τ'))) = _
    rw [b5.s.1, if_neg b5.s.2, hT'.2.2.1]
/-- the model's text, laid -/
def mk0 (σ : Mem) (d : Nat) : Mem := ups (ups (ups σ 120 12 (120 * (d : Int))) 120 13 (σ 126 d)) 120 11 0
theorem mk0_fr (σ : Mem) (d : Nat) : ∀ a i : Int, ¬ (a = 120 ∧ (i = 11 ∨ i = 12 ∨ i = 13)) → mk0 σ d a i = σ a i := fun a i w => by
  unfold mk0
  rw [ups_nn (by omega), ups_nn (by omega), ups_nn (by omega)]
theorem mk0_MT {σ : Mem} {d N : Nat} {t : Nat → Int} (hd : d < 8) (hX : TX t N) (h6 : σ 126 d = N) (hv : ∀ p : Nat, p < N → σ 127 (120 * d + p) = t p) : MT (mk0 σ d) d t N ∧ mk0 σ d 120 11 = 0 := by
  refine ⟨⟨hd, hX, ?_, ?_, fun p hp => ?_⟩, ups_at ..⟩
  · unfold mk0
    rw [ups_nn (by omega), ups_nn (by omega), ups_at]
  · unfold mk0
    rw [ups_nn (by omega), ups_at]
    exact h6
  · rw [mk0_fr σ d 127 _ (by omega)]
    exact hv p hp
noncomputable def mkE (μ : Mem) : Option (Int × Mem) := lb (itr mk91 FU (0, μ)) (fun q51 => Sum.elim (fun a70 => some a70) (fun b70 => lb (itr (fun z => f_X12_market_148 b70.1 z.1 z.2.1 z.2.2) FU (0, 0, b70.2)) (fun q58 => if (s32 q58.1) = 100 then (if (s32 (q58.2 123 1)) = 0 then (some ((-3000), q58.2)) else (lb (itr (fun z => f_X12_market_202 b70.1 z.1 z.2) FU (0, q58.2)) (fun q67 => some (b70.1, q67)))) else (some ((-3000), q58.2)))) q51)
theorem m_market {σ : Mem} {d N : Nat} {t : Nat → Int} (hS : RelS σ) (hd : d < 8) (h4 : σ 124 d = 2) (h5 : σ 125 d = 0) (hX : TX t N) (h6 : σ 126 d = N) (hv : ∀ p : Nat, p < N → σ 127 (120 * d + p) = t p) : (∀ q, syn t N 200 0 = some q → ∃ μ', f_X12_market d σ = some (-1000 - (q : Int), μ') ∧ CO σ μ') ∧ (syn t N 200 0 = none → ∃ μ3, MT μ3 d t N ∧ μ3 120 11 = 0 ∧ (∀ i : Nat, i < 39 → μ3 123 i = 0) ∧ CO σ μ3 ∧ f_X12_market d σ = mkE μ3) := by
  have hN := hX.1
  have hd' : s32 (d : Int) = d := s32_of (by omega) (by omega)
  have d8 : 0 ≤ (d : Int) ∧ (d : Int) < 8 := by clear hd'; omega
  obtain ⟨hT, h11⟩ := mk0_MT hd hX h6 hv
  obtain ⟨q', μ', p1, p2, p3, p4⟩ := m_phase1 hT 200 0 (mk0 σ d) FU (fun _ _ _ => rfl) h11 (Nat.zero_le _) (by clear hd'; omega) (FU_lt (by clear hd'; omega))
  have hC : CO σ μ' := fun a i w => by
    unfold scr at w
    rw [p2 a i (by clear hd'; omega), mk0_fr σ d a i (by clear hd'; omega)]
  have start : f_X12_market d σ = lb (itr (fun z => f_X12_market_36 z) FU (mk0 σ d)) (fun q19 => Sum.elim (fun a71 => some a71) (fun σ21 => lb (itr (fun z => f_X12_market_65 z.1 z.2) FU (0, σ21)) (fun q25 => mkE (ups q25 120 11 0))) q19) := by
    unfold f_X12_market
    rw [m_wrongOk hS hd (by decide) h4 (Or.inr h5), ob_some, if_pos s32_0, hd']
    simp only [stp]
    rw [if_pos d8, ups_ne (show (126 : Int) ≠ 120 by decide)]
    rfl
  rw [p1, lb_some] at start
  constructor
  · intro q hq
    rw [p4 q hq] at start
    exact ⟨μ', start, hC⟩
  · intro hq
    rw [p3 hq] at start
    obtain ⟨b, e, b1, b2⟩ := m_zero (μ := μ')
    have start' : f_X12_market d σ = lb (itr (fun z => f_X12_market_65 z.1 z.2) FU (0, μ')) (fun q25 => mkE (ups q25 120 11 0)) := start
    rw [e, lb_some] at start'
    refine ⟨ups b 120 11 0, ?_, ups_at .., fun i hi => ?_, ?_, start'⟩
    · obtain ⟨t1, t2, t3, t4, t5⟩ := hT
      refine ⟨t1, t2, ?_, ?_, fun p hp => ?_⟩
      · rw [ups_nn (by clear hd'; omega), b1 120 (by decide), p2 120 12 (by clear hd'; omega)]
        exact t3
      · rw [ups_nn (by clear hd'; omega), b1 120 (by decide), p2 120 13 (by clear hd'; omega)]
        exact t4
      · rw [ups_nn (by clear hd'; omega), b1 127 (by decide), p2 127 _ (by clear hd'; omega)]
        exact t5 p hp
    · rw [ups_nn (by clear hd'; omega)]
      exact b2 i hi
    · refine CO.up (fun a i w => ?_) (by unfold scr; clear hd'; omega)
      rw [b1 a (fun z => w (by unfold scr; clear hd'; omega))]
      exact hC a i w
