/-! PURE 9: sure fits, counted; waste -/
abbrev SU (W S K : Int) (s : Int → Int) (op bars fit : Int) (n m : Nat) : Prop := isF n m fit ∧ (∀ k, k < n → dg fit k = 4 ∨ bt bars (dg fit k) = 0) ∧ rth W S K s op bars fit n m = -4
theorem bi_congr {p q : Prop} [Decidable p] [Decidable q] (h : p ↔ q) : bi p = bi q := by
  by_cases e : p
  · rw [bi_t e, bi_t (h.mp e)]
  · rw [bi_f e, bi_f (fun z => e (h.mpr z))]
theorem m_isSure {σ : Mem} {n m : Nat} (h : Okm n m (σ 121)) {W S K : Int} (hd : Md σ W S K) {fit : Int} (hv : s32 fit = fit) (hb : 0 ≤ σ 120 17 ∧ σ 120 17 < 16) : ∃ x y, f_X12_isSure fit σ = some (bi (SU W S K (σ 121) (s32 (σ 120 18)) (σ 120 17) fit n m), ab σ x y) := by
  have hn := h.1
  have hm := h.2.1
  unfold f_X12_isSure
  rw [m_isFit h.2.2.1 h.2.2.2.1 hn.2 hm.2 hb hv, ob_some]
  by_cases hF : isF n m fit ∧ ∀ k, k < n → dg fit k = 4 ∨ bt (σ 120 17) (dg fit k) = 0
  · obtain ⟨x, y, e⟩ := m_ratherOf h hd hF.1 hb
    have hr := rth_in W S K (σ 121) (s32 (σ 120 18)) (σ 120 17) fit n m hn.2 hm.2
    rw [bi_t hF, if_neg (by decide), e, ob_some, s32_of (z := rth W S K (σ 121) (s32 (σ 120 18)) (σ 120 17) fit n m) (by omega) (by omega)]
    refine ⟨x, y, ?_⟩
    by_cases e2 : rth W S K (σ 121) (s32 (σ 120 18)) (σ 120 17) fit n m = -4
    · rw [if_pos e2, bi_t ⟨hF.1, hF.2, e2⟩]
    · rw [if_neg e2, bi_f (fun q => e2 q.2.2)]
  · rw [bi_f hF, if_pos (by decide), bi_f (fun q => hF ⟨q.1, q.2.1⟩)]
    exact ⟨σ 120 21, σ 120 22, by rw [ab_of]⟩
theorem m_isSure_ab {σ : Mem} {n m : Nat} (h : Okm n m (σ 121)) {W S K : Int} (hd : Md σ W S K) {fit : Int} (hv : s32 fit = fit) (hb : 0 ≤ σ 120 17 ∧ σ 120 17 < 16) (u v : Int) : ∃ x y, f_X12_isSure fit (ab σ u v) = some (bi (SU W S K (σ 121) (s32 (σ 120 18)) (σ 120 17) fit n m), ab σ x y) := by
  obtain ⟨x, y, e⟩ := m_isSure (σ := ab σ u v) (n := n) (m := m) (by rw [ab_s]; exact h) (Md.ab (x := u) (y := v) hd) hv (by rw [ab_ni (by decide)]; exact hb)
  rw [ab_ab, ab_s, show ab σ u v 120 18 = σ 120 18 from ab_ni (by decide), show ab σ u v 120 17 = σ 120 17 from ab_ni (by decide)] at e
  exact ⟨x, y, e⟩
/-- the class before it weighs -/
def CB (σ : Mem) (n m : Nat) (s : Int → Int) (W S K : Int) : Prop := CK σ n m s ∧ (0 ≤ σ 72 8 ∧ σ 72 8 < 4) ∧ σ 72 11 = W ∧ σ 72 12 = S ∧ σ 72 13 = K ∧ WSK W S K ∧ (0 ≤ σ 72 7 ∧ σ 72 7 < 16)
theorem CB.cs {σ τ : Mem} {n m : Nat} {s : Int → Int} {W S K : Int} (h : CB σ n m s W S K) (c : CS σ τ) (m4 : m ≤ 4) : CB τ n m s W S K := by
  obtain ⟨h1, h2, h3, h4, h5, h6, h7⟩ := h
  refine ⟨h1.cs c m4, ?_, ?_, ?_, ?_, h6, ?_⟩
  · rw [c.at 72 8 (by omega)]
    exact h2
  · rw [c.at 72 11 (by omega)]
    exact h3
  · rw [c.at 72 12 (by omega)]
    exact h4
  · rw [c.at 72 13 (by omega)]
    exact h5
  · rw [c.at 72 7 (by omega)]
    exact h7
theorem CB.cg {σ : Mem} {n m : Nat} {s : Int → Int} {W S K op fit : Int} (h : CB σ n m s W S K) (hw : WG σ n m s op fit) : CG σ n m s op fit W S K := ⟨h.1, hw, h.2.1, h.2.2.1, h.2.2.2.1, h.2.2.2.2.1, h.2.2.2.2.2.1⟩
/-- the class weighs, and is ready to be asked -/
theorem c_weighed {σ : Mem} {n m : Nat} {s : Int → Int} {W S K : Int} (h : Okm n m s) (hb : CB σ n m s W S K) {fit : Int} (hF : isF n m fit) : ∃ σ', f_X7_weigh fit σ = some (0, σ') ∧ CG σ' n m s (s32 (σ 72 6)) fit W S K ∧ CB σ' n m s W S K ∧ CS σ σ' := by
  have p4 := p5_in n h.1.2
  obtain ⟨σ', e, hw, hC⟩ := c_weigh h hb.1 hF.1 (by have := hF.2.1; omega)
  have hb' := hb.cs hC h.2.1.2
  exact ⟨σ', e, hb'.cg hw, hb', hC⟩
theorem c_isSureFit {σ : Mem} {n m : Nat} {s : Int → Int} {W S K : Int} (h : Okm n m s) (hb : CB σ n m s W S K) {fit : Int} (hv : s32 fit = fit) : ∃ σ', f_X11_isSureFit fit σ = some (bi (SU W S K s (s32 (σ 72 6)) (σ 72 7) fit n m), σ') ∧ CS σ σ' ∧ CB σ' n m s W S K ∧ (isF n m fit → CG σ' n m s (s32 (σ 72 6)) fit W S K) := by
  have hn := h.1
  have hm := h.2.1
  unfold f_X11_isSureFit
  rw [c_hasFit' hb.1.1 hb.1.2.1 hn.2 hm.2 hv, ob_some]
  by_cases hF : isF n m fit
  · obtain ⟨σ', e, hg, hb', hC⟩ := c_weighed h hb hF
    rw [bi_t hF, if_neg (by decide), e, ob_some, c_isSure h hg hF hb'.2.2.2.2.2.2, ob_some, if_pos (by rw [bi01]; trivial)]
    refine ⟨σ', ?_, hC, hb', fun _ => hg⟩
    rw [hC.at 72 7 (by omega)]
    congr 2
    exact bi_congr ⟨fun q => ⟨hF, q.1, q.2⟩, fun q => ⟨q.2.1, q.2.2⟩⟩
  · rw [bi_f hF, if_pos (by decide)]
    exact ⟨σ, by rw [bi_f (fun q => hF q.1)], CS.rf, hb, fun q => absurd q hF⟩
