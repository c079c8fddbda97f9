/-! PURE 35: moved -/
theorem CS.both {σ τ : Mem} {a i v : Int} (h : CS σ τ) : CS (ups σ a i v) (ups τ a i v) := by
  intro x j z
  by_cases e : x = a ∧ j = i
  · rw [e.1, e.2, ups_at, ups_at]
  · have h1 := h x j z
    unfold ups
    rw [if_neg e, if_neg e]
    exact h1
/-- chance moved: t hundredths of sort k to sort l -/
def mvR (s : Int → Int) (k l : Nat) (t : Int) : Int → Int := upr (upr s (3 + k) (s (3 + k) - t)) (3 + l) (s (3 + l) + t)
def mvM (σ : Mem) (k l : Nat) (u v : Int) : Mem := ups (ups σ 11 k u) 11 l v
theorem mvR_k {s : Int → Int} {k l : Nat} (hkl : k ≠ l) (t : Int) : mvR s k l t (3 + k) = s (3 + k) - t := by
  unfold mvR
  rw [upr_ne (by omega), upr_at]
theorem mvR_l {s : Int → Int} {k l : Nat} (t : Int) : mvR s k l t (3 + l) = s (3 + l) + t := by
  unfold mvR
  rw [upr_at]
theorem mvR_ne {s : Int → Int} {k l : Nat} {t i : Int} (h1 : i ≠ 3 + k) (h2 : i ≠ 3 + l) : mvR s k l t i = s i := by
  unfold mvR
  rw [upr_ne h2, upr_ne h1]
theorem sumI_mem2 {f : Nat → Int} : ∀ {n i j : Nat}, (∀ k, k < n → 0 ≤ f k) → i < n → j < n → i ≠ j → f i + f j ≤ sumI f n
  | 0, _, _, _, h, _, _ => absurd h (Nat.not_lt_zero _)
  | n + 1, i, j, h0, hi, hj, hne => by
    have h2 := h0 n (by omega)
    show f i + f j ≤ sumI f n + f n
    by_cases e1 : i = n
    · have := sumI_mem (f := f) (n := n) (j := j) (fun k hk => h0 k (by omega)) (by omega)
      rw [e1]
      omega
    · by_cases e2 : j = n
      · have := sumI_mem (f := f) (n := n) (j := i) (fun k hk => h0 k (by omega)) (by omega)
        rw [e2]
        omega
      · have := sumI_mem2 (f := f) (n := n) (i := i) (j := j) (fun k hk => h0 k (by omega)) (by omega) (by omega) hne
        omega
theorem Okx.moved {n m : Nat} {s : Int → Int} (h : Okx n m s) {k l : Nat} (hk : k < n) (hl : l < n) (hkl : k ≠ l) {t : Int} (ht : 0 ≤ t ∧ t < s (3 + k)) : Okm n m (mvR s k l t) := by
  have hn := h.1.1
  have hm := h.1.2.1
  have hs := sumI_mem2 (f := fun k => s (3 + k)) (n := n) (fun i hi => by have := (h.1.2.2.2.2.2.1 i hi).1; show 0 ≤ s (3 + (i : Int)); omega) hk hl hkl
  rw [h.2.1] at hs
  have hs' : s (3 + (k : Int)) + s (3 + (l : Int)) ≤ 100 := hs
  refine ⟨hn, hm, ?_, ?_, ?_, fun i hi => ?_, fun j hj => ?_⟩
  · rw [mvR_ne (by omega) (by omega)]
    exact h.1.2.2.1
  · rw [mvR_ne (by omega) (by omega)]
    exact h.1.2.2.2.1
  · rw [mvR_ne (by omega) (by omega)]
    exact h.1.2.2.2.2.1
  · have q := h.1.2.2.2.2.2.1 i hi
    rw [mvR_ne (i := 7 + (i : Int)) (by omega) (by omega), mvR_ne (i := 11 + (i : Int)) (by omega) (by omega)]
    refine ⟨?_, q.2⟩
    by_cases e1 : i = k
    · subst e1
      rw [mvR_k hkl]
      omega
    · by_cases e2 : i = l
      · subst e2
        rw [mvR_l]
        omega
      · rw [mvR_ne (by omega) (by omega)]
        exact q.1
  · rw [mvR_ne (by omega) (by omega), mvR_ne (by omega) (by omega)]
    refine ⟨(h.1.2.2.2.2.2.2 j hj).1, (h.1.2.2.2.2.2.2 j hj).2.1, fun i hi => ?_⟩
    rw [mvR_ne (by omega) (by omega)]
    exact (h.1.2.2.2.2.2.2 j hj).2.2 i hi
theorem CB.moved {σ : Mem} {n m : Nat} {s : Int → Int} (hm : m ≤ 4) (hn : n ≤ 4) (h : CB σ n m s 1 1 0) {k l : Nat} (hk : k < n) (hl : l < n) (hkl : k ≠ l) (t : Int) : CB (mvM σ k l (s (3 + k) - t) (s (3 + l) + t)) n m (mvR s k l t) 1 1 0 := by
  obtain ⟨⟨c1, c2, c3, c4, c5⟩, h2, h3, h4, h5, h6, h7⟩ := h
  have r : ∀ a : Int, a ≠ 11 → mvM σ k l (s (3 + k) - t) (s (3 + l) + t) a = σ a := fun a q => by
    unfold mvM
    rw [ups_ne q, ups_ne q]
  refine ⟨⟨?_, ?_, ?_, fun i hi => ?_, fun j hj => ?_⟩, ?_, ?_, ?_, ?_, h6, ?_⟩
  · rw [r 10 (by decide)]; exact c1
  · rw [r 10 (by decide)]; exact c2
  · rw [r 10 (by decide), mvR_ne (by omega) (by omega)]; exact c3
  · rw [r 12 (by decide), r 13 (by decide), mvR_ne (i := 7 + (i : Int)) (by omega) (by omega), mvR_ne (i := 11 + (i : Int)) (by omega) (by omega)]
    refine ⟨?_, (c4 i hi).2⟩
    unfold mvM
    by_cases e1 : i = k
    · subst e1
      rw [mvR_k hkl, ups_ni (by omega), ups_at]
    · by_cases e2 : i = l
      · subst e2
        rw [mvR_l, ups_at]
      · rw [mvR_ne (by omega) (by omega), ups_ni (by omega), ups_ni (by omega)]
        exact (c4 i hi).1
  · rw [r 14 (by decide), r 15 (by decide), r 72 (by decide), r (16 + 1 + j) (by omega), mvR_ne (by omega) (by omega), mvR_ne (by omega) (by omega)]
    refine ⟨(c5 j hj).1, (c5 j hj).2.1, fun i hi => ?_⟩
    rw [mvR_ne (by omega) (by omega)]
    exact (c5 j hj).2.2 i hi
  · rw [r 72 (by decide)]; exact h2
  · rw [r 72 (by decide)]; exact h3
  · rw [r 72 (by decide)]; exact h4
  · rw [r 72 (by decide)]; exact h5
  · rw [r 72 (by decide)]; exact h7
theorem mvM_again {σ : Mem} {k l : Nat} (hkl : k ≠ l) (u v u' v' : Int) : ups (ups (mvM σ k l u v) 11 k u') 11 l v' = mvM σ k l u' v' := by
  funext a i
  unfold mvM ups
  try dsimp only
  by_cases e1 : a = 11 ∧ i = l
  · rw [if_pos e1, if_pos e1]
  · rw [if_neg e1, if_neg e1]
    by_cases e2 : a = 11 ∧ i = k
    · rw [if_pos e2, if_pos e2, if_neg e1]
    · rw [if_neg e2, if_neg e2, if_neg e1, if_neg e2]
/-- 1 more than what a search gives -/
def res1 (o : Option Nat) : Int := match o with | some t => (t : Int) + 1 | none => -4
theorem op_moved {σ : Mem} (h : Rel σ) {v w x : Int} (hv : s32 v = v) (hw : s32 w = w) (hx : s32 x = x) : Op σ (f_X11_moved v w x) (f_X12_moved v w x) := by
  unfold Op f_X11_moved f_X12_moved
  by_cases q : σ 0 6 = 0
  · refine ⟨-3, σ, σ, ?_, ?_, h⟩
    · rw [q, if_pos s32_0]
    · rw [m_closed h q, ob_some, if_pos s32_0]
  · obtain ⟨e1, n, m, hO, hB, hM, e6, e7⟩ := h.mk2 q
    have hn := hO.1.1
    have hm := hO.1.2.1
    rw [e1, if_neg (by decide), c_fitAt hO.1 hB hv, ob_some]
    by_cases c1 : isF n m v
    · rw [bi_t c1, if_neg (by decide), c_sortAt hO.1 hB hw, ob_some]
      by_cases c2 : 0 ≤ w ∧ w < (n : Int)
      · rw [bi_t c2, if_neg (by decide), c_sortAt hO.1 hB hx, ob_some]
        by_cases c3 : 0 ≤ x ∧ x < (n : Int)
        · rw [bi_t c3, if_neg (by decide), hw, hx]
          by_cases c4 : w = x
          · refine ⟨-1, σ, σ, by rw [if_pos c4], ?_, h⟩
            rw [m_openAt hM, ob_some, if_neg (by decide), m_fitAt hM hv, ob_some, bi_t c1, if_neg (by decide), m_sortAt hM hw, ob_some, bi_t c2, if_neg (by decide), m_sortAt hM hx, ob_some, bi_t c3, if_neg (by decide), if_pos c4]
          · obtain ⟨σ1, ew, hC, hB1, he, -⟩ := c_sureAt hO.1 hB e6 e7 hv
            obtain ⟨k, hk, rfl⟩ : ∃ k : Nat, k < n ∧ w = k := ⟨w.toNat, by clear hv hw hx; omega, by clear hv hw hx; omega⟩
            obtain ⟨l, hl, rfl⟩ : ∃ l : Nat, l < n ∧ x = l := ⟨x.toNat, by clear hv hw hx; omega, by clear hv hw hx; omega⟩
            have hkl : k ≠ l := fun z => c4 (by rw [z])
            have k4 := fin4 hk hn.2
            have l4 := fin4 hl hn.2
            have qk := (hO.1.2.2.2.2.2.1 k hk).1
            have ql := (hO.1.2.2.2.2.2.1 l hl).1
            obtain ⟨N, hN⟩ : ∃ N : Nat, σ 121 (3 + k) - 1 = N := ⟨(σ 121 (3 + k) - 1).toNat, by clear hv hw hx; omega⟩
            have c11k : σ1 11 k = σ 121 (3 + k) := (hB1.1.2.2.2.1 k hk).1
            have c11l : σ1 11 l = σ 121 (3 + l) := (hB1.1.2.2.2.1 l hl).1
            obtain ⟨P, hP⟩ : ∃ P : Nat → Bool, P = fun t : Nat => decide (¬ bi (SU 1 1 0 (mvR (σ 121) k l ((t : Int) + 1)) 0 0 v n m) = bi (SU 1 1 0 (σ 121) 0 0 v n m)) := ⟨_, rfl⟩
            have hs := sumI_mem2 (f := fun k => σ 121 (3 + k)) (n := n) (fun i hi => by have := (hO.1.2.2.2.2.2.1 i hi).1; show 0 ≤ σ 121 (3 + (i : Int)); clear hv hw hx; omega) hk hl hkl
            rw [hO.2.1] at hs
            have hs' : σ 121 (3 + (k : Int)) + σ 121 (3 + (l : Int)) ≤ 100 := hs
            have lc : ∃ b, itr (fun z => f_X11_moved_77 v k l (bi (SU 1 1 0 (σ 121) 0 0 v n m)) (N : Int) z.1 z.2.1 z.2.2) FU (0, -4, σ1) = some b ∧ ∃ (t : Nat) (τ : Mem), b = ((t : Int), res1 (fst? P 0 N), τ) ∧ t ≤ N ∧ CS (mvM σ1 k l (σ 121 (3 + k) - t) (σ 121 (3 + l) + t)) τ := by
              refine itr_tot (fun z : Int × Int × Mem => ∃ t : Nat, t ≤ N ∧ z.1 = t ∧ CS (mvM σ1 k l (σ 121 (3 + k) - t) (σ 121 (3 + l) + t)) z.2.2 ∧ ((z.2.1 = -4 ∧ ∀ i, i < t → P i = false) ∨ (∃ i : Nat, t = i + 1 ∧ z.2.1 = (i : Int) + 1 ∧ P i = true ∧ ∀ j, j < i → P j = false))) (fun z => N - z.1.toNat) _ ?_ FU _ ⟨0, Nat.zero_le _, rfl, ?_, Or.inl ⟨rfl, fun i hi => absurd hi (Nat.not_lt_zero _)⟩⟩ (FU_lt (by show N - Int.toNat 0 < 100000; clear hv hw hx; omega))
              · rintro ⟨y1, y2, τ⟩ ⟨t, ht, rfl, hCt, hc⟩
                simp only at hCt hc ⊢
                have ut : s32 (t : Int) = t := s32_of (by clear hv hw hx; omega) (by clear hv hw hx; omega)
                have uN : s32 (N : Int) = N := s32_of (by clear hv hw hx ut; omega) (by clear hv hw hx ut; omega)
                unfold f_X11_moved_77
                rw [ut, uN]
                rcases hc with ⟨rfl, hi⟩ | ⟨i, rfl, rfl, hp, hi⟩
                · by_cases e : t < N
                  · left
                    rw [if_neg (by clear hv hw hx ut uN; omega), if_pos (by decide)]
                    have t1 : τ 11 k = σ 121 (3 + k) - t := by
                      rw [hCt.at 11 k (by clear hv hw hx ut uN; omega)]
                      unfold mvM
                      rw [ups_ni (by clear hv hw hx ut uN; omega), ups_at]
                    have t2 : τ 11 l = σ 121 (3 + l) + t := by
                      rw [hCt.at 11 l (by clear hv hw hx ut uN; omega)]
                      unfold mvM
                      rw [ups_at]
                    have hmv : f_X4_moveChance 10 k l 1 τ = some (0, ups (ups τ 11 k (σ 121 (3 + k) - ((t + 1 : Nat) : Int))) 11 l (σ 121 (3 + l) + ((t + 1 : Nat) : Int))) := by
                      unfold f_X4_moveChance
                      rw [hw, if_pos k4, hx]
                      simp only [stp]
                      rw [if_pos l4, show (10 : Int) + 1 = 11 from rfl, ups_ni (show (l : Int) ≠ k by clear hv hw hx ut uN; omega), t1, t2, show σ 121 (3 + (k : Int)) - (t : Int) - 1 = σ 121 (3 + k) - ((t + 1 : Nat) : Int) by clear hv hw hx ut uN; omega, show σ 121 (3 + (l : Int)) + (t : Int) + 1 = σ 121 (3 + l) + ((t + 1 : Nat) : Int) by clear hv hw hx ut uN; omega]
                    have hC1 := (hCt.both (a := 11) (i := k) (v := σ 121 (3 + k) - ((t + 1 : Nat) : Int))).both (a := 11) (i := l) (v := σ 121 (3 + l) + ((t + 1 : Nat) : Int))
                    rw [mvM_again hkl] at hC1
                    have hBt := (hB1.moved hm.2 hn.2 hk hl hkl ((t + 1 : Nat) : Int)).cs hC1 hm.2
                    have hOt := hO.moved hk hl hkl (t := ((t + 1 : Nat) : Int)) (by clear hv hw hx ut uN; omega)
                    have r72 : ∀ i, mvM σ1 k l (σ 121 (3 + k) - ((t + 1 : Nat) : Int)) (σ 121 (3 + l) + ((t + 1 : Nat) : Int)) 72 i = σ1 72 i := fun i => by
                      unfold mvM
                      rw [ups_ne (by decide), ups_ne (by decide)]
                    obtain ⟨τ', es, hC2, -, -, -⟩ := c_sureAt hOt hBt ((hC1.at 72 6 (by clear hv hw hx ut uN; omega)).trans ((r72 6).trans he.1)) ((hC1.at 72 7 (by clear hv hw hx ut uN; omega)).trans ((r72 7).trans he.2)) hv
                    rw [hmv, ob_some, es, ob_some, s32_bi, s32_bi]
                    have eP : P t = decide (¬ bi (SU 1 1 0 (mvR (σ 121) k l ((t + 1 : Nat) : Int)) 0 0 v n m) = bi (SU 1 1 0 (σ 121) 0 0 v n m)) := by
                      rw [hP]
                      rfl
                    by_cases c : bi (SU 1 1 0 (mvR (σ 121) k l ((t + 1 : Nat) : Int)) 0 0 v n m) = bi (SU 1 1 0 (σ 121) 0 0 v n m)
                    · rw [if_pos c]
                      refine ⟨_, rfl, ⟨t + 1, by clear hv hw hx ut uN; omega, rfl, hC1.tr hC2, Or.inl ⟨rfl, fun i h1 => ?_⟩⟩, by show N - ((t : Int) + 1).toNat < N - (t : Int).toNat; clear hv hw hx ut uN; omega⟩
                      by_cases e3 : i = t
                      · rw [e3, eP]
                        exact decide_eq_false (fun z => z c)
                      · exact hi i (by clear hv hw hx ut uN; omega)
                    · rw [if_neg c]
                      refine ⟨_, rfl, ⟨t + 1, by clear hv hw hx ut uN; omega, rfl, hC1.tr hC2, Or.inr ⟨t, rfl, rfl, ?_, hi⟩⟩, by show N - ((t : Int) + 1).toNat < N - (t : Int).toNat; clear hv hw hx ut uN; omega⟩
                      rw [eP]
                      exact decide_eq_true c
                  · right
                    have e2 : t = N := by clear hv hw hx ut uN; omega
                    subst e2
                    rw [if_pos (Int.le_refl _)]
                    refine ⟨_, rfl, t, τ, ?_, ht, hCt⟩
                    rw [fst?_none.mpr (fun j h1 h2 => hi j (by clear hv hw hx ut uN; omega))]
                    rfl
                · right
                  have ui : s32 ((i : Int) + 1) = (i : Int) + 1 := s32_of (by clear hv hw hx ut uN; omega) (by clear hv hw hx ut uN; omega)
                  have er : res1 (fst? P 0 N) = (i : Int) + 1 := by
                    rw [fst?_eq (Nat.zero_le i) (by clear hv hw hx ut uN ui; omega) hp (fun j _ h2 => hi j h2)]
                    rfl
                  rw [ui, if_neg (show ¬ (i : Int) + 1 = -4 by clear hv hw hx ut uN ui; omega)]
                  refine ⟨(((i + 1 : Nat) : Int), (i : Int) + 1, τ), by split <;> rfl, i + 1, τ, by rw [er], ht, hCt⟩
              · have : mvM σ1 k l (σ 121 (3 + k) - ((0 : Nat) : Int)) (σ 121 (3 + l) + ((0 : Nat) : Int)) = σ1 := by
                  unfold mvM
                  rw [ups_same (v := σ 121 (3 + k) - ((0 : Nat) : Int)) (by rw [c11k]; clear hv hw hx; omega), ups_same (v := σ 121 (3 + l) + ((0 : Nat) : Int)) (by rw [c11l]; clear hv hw hx; omega)]
                rw [this]
                exact CS.rf
            obtain ⟨b, eb, t, τ, rfl, htN, hCt⟩ := lc
            have ut : s32 (t : Int) = t := s32_of (by clear hv hw hx; omega) (by clear hv hw hx; omega)
            have t1 : τ 11 k = σ 121 (3 + k) - t := by
              rw [hCt.at 11 k (by clear hv hw hx ut; omega)]
              unfold mvM
              rw [ups_ni (by clear hv hw hx ut; omega), ups_at]
            have t2 : τ 11 l = σ 121 (3 + l) + t := by
              rw [hCt.at 11 l (by clear hv hw hx ut; omega)]
              unfold mvM
              rw [ups_at]
            have hmv : f_X4_moveChance 10 l k t τ = some (0, ups (ups τ 11 l (σ 121 (3 + l))) 11 k (σ 121 (3 + k))) := by
              unfold f_X4_moveChance
              rw [hx, if_pos l4, hw]
              simp only [stp]
              rw [if_pos k4, show (10 : Int) + 1 = 11 from rfl, ups_ni (show (k : Int) ≠ l by clear hv hw hx ut; omega), t1, t2, show σ 121 (3 + (k : Int)) - (t : Int) + t = σ 121 (3 + k) by clear hv hw hx ut; omega, show σ 121 (3 + (l : Int)) + (t : Int) - t = σ 121 (3 + l) by clear hv hw hx ut; omega]
            obtain ⟨υ, hυ⟩ : ∃ υ, υ = ups (ups τ 11 l (σ 121 (3 + l))) 11 k (σ 121 (3 + k)) := ⟨_, rfl⟩
            have hCO : CO σ1 υ := by
              have hC1 := (hCt.both (a := 11) (i := l) (v := σ 121 (3 + l))).both (a := 11) (i := k) (v := σ 121 (3 + k))
              have : ups (ups (mvM σ1 k l (σ 121 (3 + k) - t) (σ 121 (3 + l) + t)) 11 l (σ 121 (3 + l))) 11 k (σ 121 (3 + k)) = σ1 := by
                funext a i
                unfold mvM ups
                try dsimp only
                by_cases z1 : a = 11 ∧ i = k
                · rw [if_pos z1, z1.1, z1.2, c11k]
                · rw [if_neg z1]
                  by_cases z2 : a = 11 ∧ i = l
                  · rw [if_pos z2, z2.1, z2.2, c11l]
                  · rw [if_neg z2, if_neg z2, if_neg z1]
              rw [this] at hC1
              rw [hυ]
              exact hC1.co
            rw [← hυ] at hmv
            have hCO2 := hC.co.tr hCO
            have hM1 := hM.co hCO2
            have e121 : υ 121 = σ 121 := hCO2.row 121 (fun i => by unfold scr; omega)
            obtain ⟨a0, b0, es⟩ := m_sureAt hM1 hv
            rw [e121] at es
            have t3k : 0 ≤ 3 + (k : Int) ∧ 3 + (k : Int) < 39 := by clear hv hw hx ut; omega
            have t3l : 0 ≤ 3 + (l : Int) ∧ 3 + (l : Int) < 39 := by clear hv hw hx ut; omega
            have u3k : s32 (3 + (k : Int)) = 3 + (k : Int) := s32_of (by clear hv hw hx ut; omega) (by clear hv hw hx ut; omega)
            have u3l : s32 (3 + (l : Int)) = 3 + (l : Int) := s32_of (by clear hv hw hx ut u3k; omega) (by clear hv hw hx ut u3k; omega)
            have hs2 : ∀ (ρ : Mem) (u z x y u' z' : Int), ups (ups (ab (ups (ups ρ 121 (3 + k) u) 121 (3 + l) z) x y) 121 (3 + k) u') 121 (3 + l) z' = ab (ups (ups ρ 121 (3 + k) u') 121 (3 + l) z') x y := by
              intro ρ u z x y u' z'
              funext a i
              unfold ups ab
              try dsimp only
              by_cases z1 : a = 121 ∧ i = 3 + (l : Int)
              · rw [if_pos z1, if_neg (by have := z1.1; clear hv hw hx ut u3k u3l; omega), if_neg (by have := z1.1; clear hv hw hx ut u3k u3l; omega), if_pos z1]
              · rw [if_neg z1, if_neg z1, if_neg z1]
                by_cases z2 : a = 121 ∧ i = 3 + (k : Int)
                · rw [if_pos z2, if_neg (by have := z2.1; clear hv hw hx ut u3k u3l; omega), if_neg (by have := z2.1; clear hv hw hx ut u3k u3l; omega), if_pos z2]
                · rw [if_neg z2, if_neg z2, if_neg z2]
            have lm : ∃ b, itr (fun z => f_X12_moved_75 v k l (bi (SU 1 1 0 (σ 121) 0 0 v n m)) (σ 121 (3 + k)) (σ 121 (3 + l)) z.1 z.2.1 z.2.2) FU (-4, 1, ab υ a0 b0) = some b ∧ ∃ u z x y, b = (res1 (fst? P 0 N), ab (ups (ups υ 121 (3 + k) u) 121 (3 + l) z) x y) := by
              refine itr_tot (fun z : Int × Int × Mem => (∃ u z' x y, z.2.2 = ab (ups (ups υ 121 (3 + k) u) 121 (3 + l) z') x y) ∧ ((z.1 = -4 ∧ ∃ t : Nat, t ≤ N ∧ z.2.1 = (t : Int) + 1 ∧ ∀ i, i < t → P i = false) ∨ (∃ t : Nat, t < N ∧ z.1 = (t : Int) + 1 ∧ z.2.1 = (t : Int) + 2 ∧ P t = true ∧ ∀ i, i < t → P i = false))) (fun z => N + 3 - z.2.1.toNat) _ ?_ FU _ ⟨⟨σ 121 (3 + k), σ 121 (3 + l), a0, b0, ?_⟩, Or.inl ⟨rfl, 0, Nat.zero_le _, rfl, fun i hi => absurd hi (Nat.not_lt_zero _)⟩⟩ (FU_lt (by show N + 3 - Int.toNat 1 < 100000; clear hv hw hx ut u3k u3l; omega))
              · rintro ⟨y1, y2, κ⟩ ⟨⟨u, z, x, y, rfl⟩, hc⟩
                simp only at hc ⊢
                have ua : s32 (σ 121 (3 + (k : Int))) = σ 121 (3 + k) := s32_of (by clear hv hw hx ut u3k u3l; omega) (by clear hv hw hx ut u3k u3l; omega)
                unfold f_X12_moved_75
                rw [ua]
                rcases hc with ⟨rfl, t, ht, rfl, hi⟩ | ⟨t, ht, rfl, rfl, hp, hi⟩
                · have ut1 : s32 ((t : Int) + 1) = (t : Int) + 1 := s32_of (by clear hv hw hx ut u3k u3l ua; omega) (by clear hv hw hx ut u3k u3l ua; omega)
                  rw [ut1]
                  by_cases e : t < N
                  · left
                    rw [if_neg (by clear hv hw hx ut u3k u3l ua ut1; omega), if_neg (by decide), u3k, if_pos t3k, u3l]
                    simp only [stp]
                    rw [if_pos t3l, hs2]
                    have hOt := hO.moved hk hl hkl (t := (t : Int) + 1) (by clear hv hw hx ut u3k u3l ua ut1; omega)
                    have r121 : ups (ups υ 121 (3 + k) (σ 121 (3 + k) - ((t : Int) + 1))) 121 (3 + l) (σ 121 (3 + l) + ((t : Int) + 1)) 121 = mvR (σ 121) k l ((t : Int) + 1) := by
                      rw [ups_self, ups_self, e121]
                      rfl
                    have hX : MSx (ab (ups (ups υ 121 (3 + k) (σ 121 (3 + k) - ((t : Int) + 1))) 121 (3 + l) (σ 121 (3 + l) + ((t : Int) + 1))) x y) n m 0 0 := by
                      refine MSx.ab ⟨by rw [r121]; exact hOt, Or.inl ⟨?_, ?_, rfl, rfl, rfl⟩, ?_, ?_⟩
                      · rw [ups_ne (by decide), ups_ne (by decide)]; exact hM1.md.1
                      · rw [ups_ne (by decide), ups_ne (by decide)]; exact hM1.md.2
                      · rw [ups_ne (by decide), ups_ne (by decide)]; exact hM1.2.2.1
                      · rw [ups_ne (by decide), ups_ne (by decide)]; exact hM1.2.2.2
                    obtain ⟨u', z', e3⟩ := m_sureX hX (by decide) hv
                    rw [s32_0, ab_s, r121, ab_ab] at e3
                    rw [e3, ob_some, s32_bi, s32_bi]
                    have eP : P t = decide (¬ bi (SU 1 1 0 (mvR (σ 121) k l ((t : Int) + 1)) 0 0 v n m) = bi (SU 1 1 0 (σ 121) 0 0 v n m)) := by
                      rw [hP]
                    by_cases c : bi (SU 1 1 0 (mvR (σ 121) k l ((t : Int) + 1)) 0 0 v n m) = bi (SU 1 1 0 (σ 121) 0 0 v n m)
                    · rw [if_pos c]
                      refine ⟨_, rfl, ⟨⟨_, _, u', z', rfl⟩, Or.inl ⟨rfl, t + 1, by clear hv hw hx ut u3k u3l ua ut1; omega, rfl, fun i h1 => ?_⟩⟩, by show N + 3 - ((t : Int) + 1 + 1).toNat < N + 3 - ((t : Int) + 1).toNat; clear hv hw hx ut u3k u3l ua ut1; omega⟩
                      by_cases e4 : i = t
                      · rw [e4, eP]
                        exact decide_eq_false (fun z => z c)
                      · exact hi i (by clear hv hw hx ut u3k u3l ua ut1; omega)
                    · rw [if_neg c]
                      refine ⟨_, rfl, ⟨⟨_, _, u', z', rfl⟩, Or.inr ⟨t, e, rfl, by show (t : Int) + 1 + 1 = (t : Int) + 2; clear hv hw hx ut u3k u3l ua ut1; omega, ?_, hi⟩⟩, by show N + 3 - ((t : Int) + 1 + 1).toNat < N + 3 - ((t : Int) + 1).toNat; clear hv hw hx ut u3k u3l ua ut1; omega⟩
                      rw [eP]
                      exact decide_eq_true c
                  · right
                    rw [if_pos (by clear hv hw hx ut u3k u3l ua ut1; omega)]
                    refine ⟨_, rfl, u, z, x, y, ?_⟩
                    rw [fst?_none.mpr (fun j h1 h2 => hi j (by clear hv hw hx ut u3k u3l ua ut1; omega))]
                    rfl
                · right
                  have ut1 : s32 ((t : Int) + 1) = (t : Int) + 1 := s32_of (by clear hv hw hx ut u3k u3l ua; omega) (by clear hv hw hx ut u3k u3l ua; omega)
                  have er : res1 (fst? P 0 N) = (t : Int) + 1 := by
                    rw [fst?_eq (Nat.zero_le t) (by clear hv hw hx ut u3k u3l ua ut1; omega) hp (fun j _ h2 => hi j h2)]
                    rfl
                  rw [ut1, if_pos (show 0 ≤ (t : Int) + 1 by clear hv hw hx ut u3k u3l ua ut1; omega)]
                  refine ⟨((t : Int) + 1, ab (ups (ups υ 121 (3 + k) u) 121 (3 + l) z) x y), by split <;> rfl, u, z, x, y, by rw [er]⟩
              · rw [ups_same (a := 121) (i := 3 + (k : Int)) (by rw [e121]), ups_same (a := 121) (i := 3 + (l : Int)) (by rw [e121])]
            obtain ⟨b, em, u, z, x, y, rfl⟩ := lm
            have back : ups (ups (ab (ups (ups υ 121 (3 + k) u) 121 (3 + l) z) x y) 121 (3 + k) (σ 121 (3 + k))) 121 (3 + l) (σ 121 (3 + l)) = ab υ x y := by
              rw [hs2, ups_same (a := 121) (i := 3 + (k : Int)) (by rw [e121]), ups_same (a := 121) (i := 3 + (l : Int)) (by rw [e121])]
            refine ⟨res1 (fst? P 0 N), υ, ab υ x y, ?_, ?_, (h.co hCO2).co ab_co⟩
            · rw [if_neg c4, ew, ob_some, if_pos k4, show (σ1 11 k) - 1 = N from by rw [c11k]; exact hN]
              simp only [vl]
              rw [eb, lb_some, hmv, ob_some]
            · rw [m_openAt hM1, ob_some, if_neg (by decide), m_fitAt hM1 hv, ob_some, bi_t c1, if_neg (by decide), m_sortAt hM1 hw, ob_some, bi_t c2, if_neg (by decide), m_sortAt hM1 hx, ob_some, bi_t c3, if_neg (by decide), if_neg c4, es, ob_some, u3k, if_pos t3k, u3l, ab_s, e121]
              simp only [vl]
              rw [if_pos t3l, em, lb_some, if_pos t3k]
              simp only [stp]
              rw [if_pos t3l, back]
        · refine ⟨-1, σ, σ, by rw [bi_f c3, if_pos s32_0], ?_, h⟩
          rw [m_openAt hM, ob_some, if_neg (by decide), m_fitAt hM hv, ob_some, bi_t c1, if_neg (by decide), m_sortAt hM hw, ob_some, bi_t c2, if_neg (by decide), m_sortAt hM hx, ob_some, bi_f c3, if_pos s32_0]
      · refine ⟨-1, σ, σ, by rw [bi_f c2, if_pos s32_0], ?_, h⟩
        rw [m_openAt hM, ob_some, if_neg (by decide), m_fitAt hM hv, ob_some, bi_t c1, if_neg (by decide), m_sortAt hM hw, ob_some, bi_f c2, if_pos s32_0]
    · refine ⟨-1, σ, σ, by rw [bi_f c1, if_pos s32_0], ?_, h⟩
      rw [m_openAt hM, ob_some, if_neg (by decide), m_fitAt hM hv, ob_some, bi_f c1, if_pos s32_0]
