/-! PURE 31: all, bars -/
theorem CK.of {σ τ : Mem} {n m : Nat} {s : Int → Int} (h : CK σ n m s) (m4 : m ≤ 4) (hr : ∀ a : Int, 10 ≤ a ∧ a ≤ 20 → τ a = σ a) (h8 : τ 72 8 = σ 72 8) (h9 : τ 72 9 = σ 72 9) : CK τ n m s := by
  obtain ⟨h1, h2, h3, h4, h5⟩ := h
  refine ⟨by rw [hr 10 (by omega)]; exact h1, by rw [hr 10 (by omega)]; exact h2, by rw [hr 10 (by omega)]; exact h3, fun k hk => ?_, fun j hj => ?_⟩
  · rw [hr 11 (by omega), hr 12 (by omega), hr 13 (by omega)]
    exact h4 k hk
  · rw [hr 14 (by omega), hr 15 (by omega), h8, h9, hr (16 + 1 + j) (by omega)]
    exact h5 j hj
theorem CB.set {σ : Mem} {n m : Nat} {s : Int → Int} {W S K i v : Int} (h : CB σ n m s W S K) (m4 : m ≤ 4) (hi : i = 6 ∨ (i = 7 ∧ 0 ≤ v ∧ v < 16)) : CB (ups σ 72 i v) n m s W S K := by
  obtain ⟨h1, h2, h3, h4, h5, h6, h7⟩ := h
  refine ⟨h1.of m4 (fun a ha => ups_ne (by omega)) (ups_ni (by omega)) (ups_ni (by omega)), ?_, ?_, ?_, ?_, h6, ?_⟩
  · rw [ups_ni (by omega)]
    exact h2
  · rw [ups_ni (by omega)]
    exact h3
  · rw [ups_ni (by omega)]
    exact h4
  · rw [ups_ni (by omega)]
    exact h5
  · rcases hi with rfl | ⟨rfl, h8⟩
    · rw [ups_ni (by omega)]
      exact h7
    · rw [ups_at]
      exact h8
theorem CO.back {σ τ : Mem} {a i v w : Int} (hw : σ a i = w) (h : CO (ups σ a i v) τ) : CO σ (ups τ a i w) := by
  intro x j q
  by_cases e : x = a ∧ j = i
  · rw [e.1, e.2, ups_at, hw]
  · have h1 := h x j q
    unfold ups at h1 ⊢
    rw [if_neg e] at h1 ⊢
    exact h1
/-- the model is set to bars and to open thoughts -/
def MSx (σ : Mem) (n m : Nat) (bars op : Int) : Prop := Okm n m (σ 121) ∧ Md σ 1 1 0 ∧ σ 120 17 = bars ∧ σ 120 18 = op
theorem MSx.ab {σ : Mem} {n m : Nat} {bars op x y : Int} (h : MSx σ n m bars op) : MSx (ab σ x y) n m bars op := by
  unfold MSx
  rw [ab_s, ab_ni (by decide), ab_ni (by decide)]
  exact ⟨h.1, h.2.1.ab, h.2.2.1, h.2.2.2⟩
theorem MS.x {σ : Mem} {n m : Nat} (h : MS σ n m) : MSx σ n m 0 0 := h
theorem MSx.set17 {σ : Mem} {n m : Nat} {bars op : Int} (h : MSx σ n m bars op) (v : Int) : MSx (ups σ 120 17 v) n m v op := by
  unfold MSx Md
  rw [ups_ni (by decide), ups_ni (by decide), ups_at, ups_ni (by decide), ups_ne (by decide)]
  exact ⟨h.1, h.2.1, rfl, h.2.2.2⟩
theorem MSx.set18 {σ : Mem} {n m : Nat} {bars op : Int} (h : MSx σ n m bars op) (v : Int) : MSx (ups σ 120 18 v) n m bars v := by
  unfold MSx Md
  rw [ups_ni (by decide), ups_ni (by decide), ups_ni (by decide), ups_at, ups_ne (by decide)]
  exact ⟨h.1, h.2.1, h.2.2.1, rfl⟩
theorem m_sureX {σ : Mem} {n m : Nat} {bars op : Int} (h : MSx σ n m bars op) (hb : 0 ≤ bars ∧ bars < 16) {fit : Int} (hv : s32 fit = fit) : ∃ x y, f_X12_isSure fit σ = some (bi (SU 1 1 0 (σ 121) (s32 op) bars fit n m), ab σ x y) := by
  obtain ⟨x, y, e⟩ := m_isSure h.1 h.2.1 hv (by rw [h.2.2.1]; exact hb)
  rw [h.2.2.1, h.2.2.2] at e
  exact ⟨x, y, e⟩
theorem c_sureX {σ : Mem} {n m : Nat} {s : Int → Int} {op bars : Int} (h : Okm n m s) (hb : CB σ n m s 1 1 0) (e6 : σ 72 6 = op) (e7 : σ 72 7 = bars) {fit : Int} (hv : s32 fit = fit) : ∃ σ', f_X11_isSureFit fit σ = some (bi (SU 1 1 0 s (s32 op) bars fit n m), σ') ∧ CS σ σ' ∧ CB σ' n m s 1 1 0 ∧ (σ' 72 6 = op ∧ σ' 72 7 = bars) ∧ (isF n m fit → CG σ' n m s (s32 op) fit 1 1 0) := by
  obtain ⟨σ', e, hC, hb', hg⟩ := c_isSureFit h hb hv
  rw [e6, e7] at e
  rw [e6] at hg
  exact ⟨σ', e, hC, hb', ⟨(hC.at 72 6 (by omega)).trans e6, (hC.at 72 7 (by omega)).trans e7⟩, hg⟩
/-- how many of 0 .. f-1 -/
def cnF (P : Nat → Bool) : Nat → Int
  | 0 => 0
  | f + 1 => cnF P f + (if P f = true then 1 else 0)
def SUb (s : Int → Int) (op bars : Int) (n m : Nat) (f : Nat) : Bool := decide (SU 1 1 0 s op bars (f : Int) n m)
def SUf (s : Int → Int) (n m : Nat) (f : Nat) : Bool := decide (SU 1 1 0 s 0 0 (f : Int) n m ∧ flb s (f : Int) n m = -4)
theorem m_sure {σ : Mem} {n m : Nat} {bars op : Int} (h : MSx σ n m bars op) (hb : 0 ≤ bars ∧ bars < 16) {T : Nat} (hT : p5 n = T) : ∃ x y, f_X12_sure σ = some (cnF (SUb (σ 121) (s32 op) bars n m) T, ab σ x y) := by
  have hn := h.1.1
  have p4 := p5_in n hn.2
  have hl : ∃ b, itr (fun z => f_X12_sure_4 z.1 z.2.1 z.2.2) FU (0, 0, σ) = some b ∧ ∃ x y, b = (cnF (SUb (σ 121) (s32 op) bars n m) T, ab σ x y) := by
    refine itr_forH (fun f z => ∃ x y, z = (cnF (SUb (σ 121) (s32 op) bars n m) f, (f : Int), ab σ x y)) _ T (by omega) ⟨σ 120 21, σ 120 22, by rw [ab_of]; rfl⟩ (fun f hf z hz => ?_) (fun z hz => ?_)
    · obtain ⟨x, y, rfl⟩ := hz
      have hv : s32 (f : Int) = f := s32_of (by omega) (by omega)
      have h1 := h.ab (x := x) (y := y)
      obtain ⟨u, v, e⟩ := m_sureX h1 hb hv
      rw [ab_ab, ab_s] at e
      refine ⟨(cnF (SUb (σ 121) (s32 op) bars n m) (f + 1), ((f + 1 : Nat) : Int), ab σ u v), ?_, u, v, rfl⟩
      show f_X12_sure_4 (cnF (SUb (σ 121) (s32 op) bars n m) f) (f : Int) (ab σ x y) = some (Sum.inl (cnF (SUb (σ 121) (s32 op) bars n m) f + (if SUb (σ 121) (s32 op) bars n m f = true then 1 else 0), ((f + 1 : Nat) : Int), ab σ u v))
      unfold f_X12_sure_4
      rw [m_fits h1.1.2.2.1 hn.2, ob_some, hv, s32_of (z := p5 n) (by omega) (by omega), if_neg (by omega), e, ob_some]
      by_cases c : SU 1 1 0 (σ 121) (s32 op) bars (f : Int) n m
      · rw [bi_t c, if_neg (by decide), if_pos (show SUb (σ 121) (s32 op) bars n m f = true from decide_eq_true c)]
        rfl
      · rw [bi_f c, if_pos s32_0, if_neg (show ¬ SUb (σ 121) (s32 op) bars n m f = true from fun z => c (of_decide_eq_true z))]
        rfl
    · obtain ⟨x, y, rfl⟩ := hz
      have h1 := h.ab (x := x) (y := y)
      refine ⟨_, ?_, x, y, rfl⟩
      show f_X12_sure_4 (cnF (SUb (σ 121) (s32 op) bars n m) T) (T : Int) (ab σ x y) = _
      unfold f_X12_sure_4
      rw [m_fits h1.1.2.2.1 hn.2, ob_some, hT, if_pos (Int.le_refl _)]
  obtain ⟨b, e, x, y, rfl⟩ := hl
  refine ⟨x, y, ?_⟩
  unfold f_X12_sure
  rw [e, lb_some]
theorem shl_p2' : ∀ m : Nat, m < 5 → shl32 1 m = p2 m := by decide +kernel
theorem p2_in' : ∀ m : Nat, m < 5 → 1 ≤ p2 m ∧ p2 m ≤ 16 := by decide
theorem op_bars {σ : Mem} (h : Rel σ) {v : Int} (hv : s32 v = v) : Op σ (f_X11_bars v) (f_X12_bars v) := by
  have v1 := s32_lo v
  have v2 := s32_hi v
  rw [hv] at v1 v2
  unfold Op f_X11_bars f_X12_bars
  by_cases q : σ 0 6 = 0
  · refine ⟨-3, σ, σ, ?_, ?_, h⟩
    · rw [q, if_pos s32_0]
    · rw [m_closed h q, ob_some, if_pos s32_0]
  · obtain ⟨e1, n, m, hO, hB, hM, e6, e7⟩ := h.mk2 q
    have hn := hO.1.1
    have hm := hO.1.2.1
    have p4 := p5_in n hn.2
    have P2 := p2_in' m (by clear hv; omega)
    have eP := shl_p2' m (by clear hv; omega)
    obtain ⟨T, hT⟩ : ∃ T : Nat, p5 n = T := ⟨(p5 n).toNat, by clear hv; omega⟩
    rw [e1, if_neg (by decide), hv]
    have hin : f_X12_isIn v 0 (s32 (shl32 1 (σ 121 1) - 2)) = fun τ => some (bi (0 ≤ v ∧ v ≤ p2 m - 2), τ) := by
      funext τ
      rw [hO.1.2.2.2.1, eP, s32_of (by clear hv; omega) (by clear hv; omega), m_isInT ⟨v1, v2⟩ (by decide) (by clear hv; omega)]
    by_cases c1 : v < 0
    · refine ⟨-1, σ, σ, by rw [if_pos c1], ?_, h⟩
      rw [m_openAt hM, ob_some, if_neg (by decide), hin, ob_some, bi_f (by clear hv hin; omega), if_pos s32_0]
    · rw [if_neg c1]
      unfold f_X4_allMarks
      rw [ob_some, hB.1.2.1, eP, s32_of (z := p2 m - 1) (by clear hv hin; omega) (by clear hv hin; omega)]
      by_cases c2 : v < p2 m - 1
      · rw [if_pos c2]
        simp only [stp]
        have hb : 0 ≤ v ∧ v < 16 := by clear hv hin; omega
        have hB1 := hB.set hm.2 (i := 7) (v := v) (Or.inr ⟨rfl, hb⟩)
        have hl : ∃ b, itr (fun z => f_X11_bars_48 (p5 n) z.1 z.2.1 z.2.2) FU (0, 0, ups σ 72 7 v) = some b ∧ ∃ τ, b = (cnF (SUb (σ 121) 0 v n m) T, τ) ∧ CS (ups σ 72 7 v) τ := by
          refine itr_forH (fun f z => ∃ τ, z = (cnF (SUb (σ 121) 0 v n m) f, (f : Int), τ) ∧ CS (ups σ 72 7 v) τ) _ T (by clear hv hin; omega) ⟨_, rfl, CS.rf⟩ (fun f hf z hz => ?_) (fun z hz => ?_)
          · obtain ⟨τ, rfl, hC⟩ := hz
            have hf' : s32 (f : Int) = f := s32_of (by clear hv hin; omega) (by clear hv hin; omega)
            obtain ⟨τ', e, hC', -, -, -⟩ := c_sureX hO.1 (hB1.cs hC hm.2) ((hC.at 72 6 (by clear hv hin; omega)).trans ((ups_ni (by decide)).trans e6)) ((hC.at 72 7 (by clear hv hin; omega)).trans (ups_at _ _ _ _)) hf'
            rw [s32_0] at e
            refine ⟨(cnF (SUb (σ 121) 0 v n m) (f + 1), ((f + 1 : Nat) : Int), τ'), ?_, τ', rfl, hC.tr hC'⟩
            show f_X11_bars_48 (p5 n) (cnF (SUb (σ 121) 0 v n m) f) (f : Int) τ = some (Sum.inl (cnF (SUb (σ 121) 0 v n m) f + (if SUb (σ 121) 0 v n m f = true then 1 else 0), ((f + 1 : Nat) : Int), τ'))
            unfold f_X11_bars_48
            rw [hf', s32_of (z := p5 n) (by clear hv hin hf'; omega) (by clear hv hin hf'; omega), if_neg (by clear hv hin hf'; omega), e, ob_some]
            by_cases c : SU 1 1 0 (σ 121) 0 v (f : Int) n m
            · rw [bi_t c, if_neg (by decide), if_pos (show SUb (σ 121) 0 v n m f = true from decide_eq_true c)]
              rfl
            · rw [bi_f c, if_pos s32_0, if_neg (show ¬ SUb (σ 121) 0 v n m f = true from fun z => c (of_decide_eq_true z)), Int.add_zero]
              rfl
          · obtain ⟨τ, rfl, hC⟩ := hz
            refine ⟨_, ?_, τ, rfl, hC⟩
            show f_X11_bars_48 (p5 n) (cnF (SUb (σ 121) 0 v n m) T) (T : Int) τ = _
            unfold f_X11_bars_48
            rw [hT, if_pos (Int.le_refl _)]
        obtain ⟨b, eb, τ, rfl, hC⟩ := hl
        have hCO : CO σ (ups τ 72 7 0) := CO.back e7 hC.co
        have hM1 := hM.co hCO
        have e121 : ups τ 72 7 0 121 = σ 121 := hCO.row 121 (fun i => by unfold scr; omega)
        obtain ⟨x, y, es⟩ := m_sure ((hM1.x).set17 v) hb hT
        have e17 : ups τ 72 7 0 120 17 = 0 := hM1.2.2.1
        refine ⟨cnF (SUb (σ 121) 0 v n m) T, ups τ 72 7 0, ups (ab (ups (ups τ 72 7 0) 120 17 v) x y) 120 17 0, ?_, ?_, h.co (hCO.tr (CO.back e17 ab_co))⟩
        · rw [c_fitNumbers' (n := n) (by rw [ups_ne (by decide)]; exact hB.1.1) hn.2, ob_some, eb, lb_some]
        · rw [m_openAt hM1, ob_some, if_neg (by decide), e121, hin, ob_some, bi_t (by clear hv hin; omega), if_neg (by decide), es, ob_some, ups_ne (show (121 : Int) ≠ 120 by decide), e121, s32_0]
      · refine ⟨-1, σ, σ, by rw [if_neg c2], ?_, h⟩
        rw [m_openAt hM, ob_some, if_neg (by decide), hin, ob_some, bi_f (by clear hv hin; omega), if_pos s32_0]
theorem op_all {σ : Mem} (h : Rel σ) {v : Int} (hv : s32 v = v) : Op σ (f_X11_all v) (f_X12_all v) := by
  have v1 := s32_lo v
  have v2 := s32_hi v
  rw [hv] at v1 v2
  unfold Op f_X11_all f_X12_all
  by_cases q : σ 0 6 = 0
  · refine ⟨-3, σ, σ, ?_, ?_, h⟩
    · rw [q, if_pos s32_0]
    · rw [m_closed h q, ob_some, if_pos s32_0]
  · obtain ⟨e1, n, m, hO, hB, hM, e6, e7⟩ := h.mk2 q
    have hn := hO.1.1
    have hm := hO.1.2.1
    have h9 := h.1.2.2.2.2.1.2.2
    have p4 := p5_in n hn.2
    obtain ⟨T, hT⟩ : ∃ T : Nat, p5 n = T := ⟨(p5 n).toNat, by clear hv; omega⟩
    rw [e1, if_neg (by decide), hv]
    by_cases c1 : 0 ≤ v ∧ v ≤ 2
    · rw [if_neg (show ¬ v < 0 by clear hv; omega), if_pos c1.2]
      have key : ∀ (op : Int) (P : Nat → Bool), s32 op = op → (v = 1 ∧ op = 1 ∨ ¬ v = 1 ∧ op = 0) → (v = 2 ∧ P = SUf (σ 121) n m ∨ ¬ v = 2 ∧ P = SUb (σ 121) op 0 n m) → ∃ b, itr (fun z => f_X11_all_51 v (p5 n) z.1 z.2.1 z.2.2) FU (0, 0, ups σ 72 6 op) = some b ∧ ∃ τ, b = (cnF P T, τ) ∧ CS (ups σ 72 6 op) τ := by
        intro op P hop hvo hP
        have hB1 := hB.set hm.2 (i := 6) (v := op) (Or.inl rfl)
        refine itr_forH (fun f z => ∃ τ, z = (cnF P f, (f : Int), τ) ∧ CS (ups σ 72 6 op) τ) _ T (by clear hv; omega) ⟨_, rfl, CS.rf⟩ (fun f hf z hz => ?_) (fun z hz => ?_)
        · obtain ⟨τ, rfl, hC⟩ := hz
          have hf' : s32 (f : Int) = f := s32_of (by clear hv; omega) (by clear hv; omega)
          obtain ⟨τ', e, hC', hb', -, hg⟩ := c_sureX hO.1 (hB1.cs hC hm.2) ((hC.at 72 6 (by clear hv; omega)).trans (ups_at _ _ _ _)) ((hC.at 72 7 (by clear hv; omega)).trans ((ups_ni (by decide)).trans e7)) hf'
          rw [hop] at e hg
          refine ⟨(cnF P (f + 1), ((f + 1 : Nat) : Int), τ'), ?_, τ', rfl, hC.tr hC'⟩
          show f_X11_all_51 v (p5 n) (cnF P f) (f : Int) τ = some (Sum.inl (cnF P f + (if P f = true then 1 else 0), ((f + 1 : Nat) : Int), τ'))
          unfold f_X11_all_51
          rw [hf', s32_of (z := p5 n) (by clear hv hf'; omega) (by clear hv hf'; omega), if_neg (by clear hv hf'; omega), e, ob_some, hv]
          by_cases c : SU 1 1 0 (σ 121) op 0 (f : Int) n m
          · rw [bi_t c, if_neg (by decide)]
            rcases hP with ⟨e2, rfl⟩ | ⟨e2, rfl⟩
            · have o0 : op = 0 := by clear hv hf' hop; omega
              subst o0
              have h91 : τ' 72 9 = 0 := ((hC.tr hC').at 72 9 (by clear hv hf' hop; omega)).trans ((ups_ni (by decide)).trans h9)
              rw [if_pos e2, c_fallsBy hO.1 (hg c.1) h91 c.1, ob_some]
              have fi : flb (σ 121) (f : Int) n m = -4 ∨ (0 ≤ flb (σ 121) (f : Int) n m ∧ flb (σ 121) (f : Int) n m ≤ 44) := by
                unfold flb
                split
                · rename_i j hj
                  have w1 := (fst?_some hj).2.1
                  have w2 := drw_in (σ 121) (f : Int) (j : Int) n
                  have w3 := (of_decide_eq_true (fst?_some hj).2.2).2
                  clear hv hf' hop
                  omega
                · exact Or.inl rfl
              rw [s32_of (z := flb (σ 121) (f : Int) n m) (by clear hv hf' hop; omega) (by clear hv hf' hop; omega)]
              by_cases c9 : flb (σ 121) (f : Int) n m = -4
              · rw [if_pos c9, if_pos (show SUf (σ 121) n m f = true from decide_eq_true ⟨c, c9⟩)]
                rfl
              · rw [if_neg c9, if_neg (show ¬ SUf (σ 121) n m f = true from fun z => c9 (of_decide_eq_true z).2), Int.add_zero]
                rfl
            · rw [if_neg e2, if_pos (show SUb (σ 121) op 0 n m f = true from decide_eq_true c)]
              rfl
          · have hPf : ¬ P f = true := by
              rcases hP with ⟨e2, rfl⟩ | ⟨e2, rfl⟩
              · have o0 : op = 0 := by clear hv hf' hop; omega
                subst o0
                exact fun z => c (of_decide_eq_true z).1
              · exact fun z => c (of_decide_eq_true z)
            rw [bi_f c, if_pos s32_0, if_neg hPf, Int.add_zero]
            rfl
        · obtain ⟨τ, rfl, hC⟩ := hz
          refine ⟨_, ?_, τ, rfl, hC⟩
          show f_X11_all_51 v (p5 n) (cnF P T) (T : Int) τ = _
          unfold f_X11_all_51
          rw [hT, if_pos (Int.le_refl _)]
      have m2 : ∀ (τ : Mem), MS τ n m → τ 121 = σ 121 → v = 2 → ∃ x y, itr (fun z => f_X12_all_59 v z.1 z.2.1 z.2.2) FU (0, 0, τ) = some (cnF (SUf (σ 121) n m) T, ab τ x y) := by
        intro τ hMt et ev
        have hl : ∃ b, itr (fun z => f_X12_all_59 v z.1 z.2.1 z.2.2) FU (0, 0, τ) = some b ∧ ∃ x y, b = (cnF (SUf (σ 121) n m) T, ab τ x y) := by
          refine itr_forH (fun f z => ∃ x y, z = (cnF (SUf (σ 121) n m) f, (f : Int), ab τ x y)) _ T (by clear hv; omega) ⟨τ 120 21, τ 120 22, by rw [ab_of]; rfl⟩ (fun f hf z hz => ?_) (fun z hz => ?_)
          · obtain ⟨x, y, rfl⟩ := hz
            have hf' : s32 (f : Int) = f := s32_of (by clear hv; omega) (by clear hv; omega)
            have h1 := hMt.co (ab_co (x := x) (y := y))
            obtain ⟨u, w, e⟩ := m_sureAt h1 hf'
            rw [ab_ab, ab_s, et] at e
            by_cases c : SU 1 1 0 (σ 121) 0 0 (f : Int) n m
            · obtain ⟨u2, w2, e3⟩ := m_fallsBy (hMt.co (ab_co (x := u) (y := w))) c.1
              rw [ab_ab, ab_s, et] at e3
              refine ⟨(cnF (SUf (σ 121) n m) (f + 1), ((f + 1 : Nat) : Int), ab τ u2 w2), ?_, u2, w2, rfl⟩
              show f_X12_all_59 v (cnF (SUf (σ 121) n m) f) (f : Int) (ab τ x y) = some (Sum.inl (cnF (SUf (σ 121) n m) f + (if SUf (σ 121) n m f = true then 1 else 0), ((f + 1 : Nat) : Int), ab τ u2 w2))
              unfold f_X12_all_59
              rw [m_fits h1.1.2.2.1 hn.2, ob_some, hf', s32_of (z := p5 n) (by clear hv hf'; omega) (by clear hv hf'; omega), if_neg (by clear hv hf'; omega), hv, if_pos ev, e, ob_some, bi_t c, if_neg (by decide), e3, ob_some]
              have fi : flb (σ 121) (f : Int) n m = -4 ∨ (0 ≤ flb (σ 121) (f : Int) n m ∧ flb (σ 121) (f : Int) n m ≤ 44) := by
                unfold flb
                split
                · rename_i j hj
                  have w1 := (fst?_some hj).2.1
                  have w2 := drw_in (σ 121) (f : Int) (j : Int) n
                  have w3 := (of_decide_eq_true (fst?_some hj).2.2).2
                  clear hv hf'
                  omega
                · exact Or.inl rfl
              rw [s32_of (z := flb (σ 121) (f : Int) n m) (by clear hv hf'; omega) (by clear hv hf'; omega)]
              by_cases c9 : flb (σ 121) (f : Int) n m = -4
              · rw [if_pos c9, if_pos (show SUf (σ 121) n m f = true from decide_eq_true ⟨c, c9⟩)]
                rfl
              · rw [if_neg c9, if_neg (show ¬ SUf (σ 121) n m f = true from fun z => c9 (of_decide_eq_true z).2)]
                rfl
            · refine ⟨(cnF (SUf (σ 121) n m) (f + 1), ((f + 1 : Nat) : Int), ab τ u w), ?_, u, w, rfl⟩
              show f_X12_all_59 v (cnF (SUf (σ 121) n m) f) (f : Int) (ab τ x y) = some (Sum.inl (cnF (SUf (σ 121) n m) f + (if SUf (σ 121) n m f = true then 1 else 0), ((f + 1 : Nat) : Int), ab τ u w))
              unfold f_X12_all_59
              rw [m_fits h1.1.2.2.1 hn.2, ob_some, hf', s32_of (z := p5 n) (by clear hv hf'; omega) (by clear hv hf'; omega), if_neg (by clear hv hf'; omega), hv, if_pos ev, e, ob_some, bi_f c, if_pos s32_0, if_neg (show ¬ SUf (σ 121) n m f = true from fun z => c (of_decide_eq_true z).1)]
              rfl
          · obtain ⟨x, y, rfl⟩ := hz
            have h1 := hMt.co (ab_co (x := x) (y := y))
            refine ⟨_, ?_, x, y, rfl⟩
            show f_X12_all_59 v (cnF (SUf (σ 121) n m) T) (T : Int) (ab τ x y) = _
            unfold f_X12_all_59
            rw [m_fits h1.1.2.2.1 hn.2, ob_some, hT, if_pos (Int.le_refl _)]
        obtain ⟨b, e, x, y, rfl⟩ := hl
        exact ⟨x, y, e⟩
      have m1 : ∀ (τ : Mem) (x : Int), Okm n m (τ 121) → ¬ v = 2 → itr (fun z => f_X12_all_59 v z.1 z.2.1 z.2.2) FU (x, 0, τ) = some (x, τ) := by
        intro τ x hk ev
        refine itr_for0 (fun _ => (x, 0, τ)) 0 _ (by clear hv; omega) (fun k hk => absurd hk (Nat.not_lt_zero _)) ?_
        show f_X12_all_59 v x 0 τ = _
        unfold f_X12_all_59
        rw [m_fits hk.2.2.1 hn.2, ob_some, s32_of (z := p5 n) (by clear hv; omega) (by clear hv; omega), s32_0, if_neg (by clear hv; omega), hv, if_neg ev]
      by_cases d1 : v = 1
      · obtain ⟨b, eb, τ, rfl, hC⟩ := key 1 (SUb (σ 121) 1 0 n m) (by decide) (Or.inl ⟨d1, rfl⟩) (Or.inr ⟨by clear hv; omega, rfl⟩)
        have hCO : CO σ (ups τ 72 6 0) := CO.back e6 hC.co
        have hM1 := hM.co hCO
        have e121 : ups τ 72 6 0 121 = σ 121 := hCO.row 121 (fun i => by unfold scr; omega)
        obtain ⟨x, y, es⟩ := m_sure ((hM1.x).set18 1) (by decide) hT
        have e18 : ups τ 72 6 0 120 18 = 0 := hM1.2.2.2
        rw [ups_ne (show (121 : Int) ≠ 120 by decide), e121] at es
        have hCO2 : CO σ (ups (ab (ups (ups τ 72 6 0) 120 18 1) x y) 120 18 0) := hCO.tr (CO.back e18 ab_co)
        refine ⟨cnF (SUb (σ 121) 1 0 n m) T, ups τ 72 6 0, ups (ab (ups (ups τ 72 6 0) 120 18 1) x y) 120 18 0, ?_, ?_, h.co hCO2⟩
        · rw [if_pos d1]
          simp only [stp]
          rw [c_fitNumbers' (n := n) (by rw [ups_ne (by decide)]; exact hB.1.1) hn.2, ob_some, eb, lb_some]
        · rw [m_openAt hM1, ob_some, if_neg (by decide), m_isInT ⟨v1, v2⟩ (by decide) (by decide), ob_some, bi_t c1, if_neg (by decide), if_pos d1]
          simp only [stp]
          rw [if_neg (by clear hv; omega), es, ob_some, m1 _ _ (hM.co hCO2).1 (by clear hv; omega), lb_some]
          rfl
      · by_cases d2 : v = 2
        · obtain ⟨b, eb, τ, rfl, hC⟩ := key 0 (SUf (σ 121) n m) (by decide) (Or.inr ⟨d1, rfl⟩) (Or.inl ⟨d2, rfl⟩)
          have hCO : CO σ (ups τ 72 6 0) := CO.back e6 hC.co
          have hM1 := hM.co hCO
          have e121 : ups τ 72 6 0 121 = σ 121 := hCO.row 121 (fun i => by unfold scr; omega)
          have e18 : ups τ 72 6 0 120 18 = 0 := hM1.2.2.2
          have hz : ups (ups (ups τ 72 6 0) 120 18 0) 120 18 0 = ups τ 72 6 0 := by
            rw [ups_ups]
            funext a i
            by_cases w : a = 120 ∧ i = 18
            · rw [w.1, w.2, ups_at, e18]
            · show (if a = 120 ∧ i = 18 then 0 else ups τ 72 6 0 a i) = _
              rw [if_neg w]
          obtain ⟨x, y, es⟩ := m2 (ups τ 72 6 0) hM1 e121 d2
          refine ⟨cnF (SUf (σ 121) n m) T, ups τ 72 6 0, ab (ups τ 72 6 0) x y, ?_, ?_, (h.co hCO).co ab_co⟩
          · rw [if_neg d1]
            simp only [stp]
            rw [c_fitNumbers' (n := n) (by rw [ups_ne (by decide)]; exact hB.1.1) hn.2, ob_some, eb, lb_some]
          · rw [m_openAt hM1, ob_some, if_neg (by decide), m_isInT ⟨v1, v2⟩ (by decide) (by decide), ob_some, bi_t c1, if_neg (by decide), if_neg d1]
            simp only [stp]
            rw [if_pos d2, hz, es, lb_some]
        · obtain ⟨b, eb, τ, rfl, hC⟩ := key 0 (SUb (σ 121) 0 0 n m) (by decide) (Or.inr ⟨d1, rfl⟩) (Or.inr ⟨d2, rfl⟩)
          have hCO : CO σ (ups τ 72 6 0) := CO.back e6 hC.co
          have hM1 := hM.co hCO
          have e121 : ups τ 72 6 0 121 = σ 121 := hCO.row 121 (fun i => by unfold scr; omega)
          obtain ⟨x, y, es⟩ := m_sure ((hM1.x).set18 0) (by decide) hT
          have e18 : ups τ 72 6 0 120 18 = 0 := hM1.2.2.2
          rw [ups_ne (show (121 : Int) ≠ 120 by decide), e121, s32_0] at es
          have hCO2 : CO σ (ups (ab (ups (ups τ 72 6 0) 120 18 0) x y) 120 18 0) := hCO.tr (CO.back e18 ab_co)
          refine ⟨cnF (SUb (σ 121) 0 0 n m) T, ups τ 72 6 0, ups (ab (ups (ups τ 72 6 0) 120 18 0) x y) 120 18 0, ?_, ?_, h.co hCO2⟩
          · rw [if_neg d1]
            simp only [stp]
            rw [c_fitNumbers' (n := n) (by rw [ups_ne (by decide)]; exact hB.1.1) hn.2, ob_some, eb, lb_some]
          · rw [m_openAt hM1, ob_some, if_neg (by decide), m_isInT ⟨v1, v2⟩ (by decide) (by decide), ob_some, bi_t c1, if_neg (by decide), if_neg d1]
            simp only [stp]
            rw [if_neg d2, es, ob_some, m1 _ _ (hM.co hCO2).1 d2, lb_some]
    · refine ⟨-1, σ, σ, ?_, ?_, h⟩
      · by_cases c2 : v < 0
        · rw [if_pos c2]
        · rw [if_neg c2, if_neg (by clear hv; omega)]
      · rw [m_openAt hM, ob_some, if_neg (by decide), m_isInT ⟨v1, v2⟩ (by decide) (by decide), ob_some, bi_f c1, if_pos s32_0]
