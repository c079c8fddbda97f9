/-! PURE 32: the least waste; least bar, best tax -/
def lwF (P : Nat → Bool) (g : Nat → Int) : Nat → Int
  | 0 => -4
  | f + 1 => if P f = true then (if lwF P g f = -4 then g f else if lwF P g f ≤ g f then lwF P g f else g f) else lwF P g f
theorem lwF_in {P : Nat → Bool} {g : Nat → Int} {T : Nat} (hg : ∀ f, f < T → P f = true → 0 ≤ g f ∧ g f ≤ 1000000) : ∀ f, f ≤ T → lwF P g f = -4 ∨ (0 ≤ lwF P g f ∧ lwF P g f ≤ 1000000)
  | 0, _ => Or.inl rfl
  | f + 1, hf => by
    have ih := lwF_in hg f (by omega)
    unfold lwF
    by_cases c : P f = true
    · have q := hg f (by omega) c
      rw [if_pos c]
      (repeat' split) <;> omega
    · rw [if_neg c]
      exact ih
/-- waste, seen without a tax -/
theorem c_wasted2 {σ : Mem} {n m : Nat} {s : Int → Int} (hn : n ≤ 4) (hm : m ≤ 4) (h0 : σ 10 0 = n) (hch : ∀ k : Nat, k < n → σ 11 k = s (3 + k)) (hco : ∀ j : Nat, j < m → ∀ k : Nat, k < n → σ (16 + 1 + j) k = s (19 + 4 * j + k)) {fit : Int} (hL : LY σ n fit) (hF : isF n m fit) : f_X7_wasted σ = some (wst s fit n, σ) := by
  unfold f_X7_wasted
  rw [show itr (fun z : Int × Int × Mem => f_X7_wasted_4 z.1 z.2.1 z.2.2) FU (0, 0, σ) = some (wst s fit n, σ) from
    itr_for0 (fun k => (wst s fit k, (k : Int), σ)) n _ (by omega) (fun k hk => by
      show f_X7_wasted_4 (wst s fit k) (k : Int) σ = some (Sum.inl (wst s fit k + _, ((k + 1 : Nat) : Int), σ))
      have hd := isF_dg hF hk
      have h4 := fin4 hk hn
      unfold f_X7_wasted_4
      rw [h0, s32_of (z := (n : Int)) (by omega) (by omega), s32_of (z := (k : Int)) (by omega) (by omega), if_neg (by omega), if_pos h4, hL.1 k hk, s32_of (z := dg fit k) (by omega) (by omega)]
      by_cases e : dg fit k = 4
      · rw [if_pos e, if_pos e, Int.add_zero]
        rfl
      · obtain ⟨j, hj, ej⟩ : ∃ j : Nat, j < m ∧ dg fit k = j := ⟨(dg fit k).toNat, by omega, by omega⟩
        rw [if_neg e, if_neg e, if_pos (by omega), ej, hco j hj k hk, hch k hk]
        rfl) (by
      show f_X7_wasted_4 (wst s fit n) (n : Int) σ = _
      unfold f_X7_wasted_4
      rw [h0, if_pos (Int.le_refl _)]), lb_some]
theorem c_leastWaste {σ : Mem} {n m : Nat} {s s0 : Int → Int} {bars : Int} (h : Okm n m s) (hB : CB σ n m s 1 1 0) (e6 : σ 72 6 = 0) (e7 : σ 72 7 = bars) (hch : ∀ k : Nat, k < n → σ 11 k = s0 (3 + k)) (hco : ∀ j : Nat, j < m → ∀ k : Nat, k < n → σ (16 + 1 + j) k = s0 (19 + 4 * j + k)) (hg : ∀ f : Nat, isF n m (f : Int) → 0 ≤ wst s0 f n ∧ wst s0 f n ≤ 1000000) {T : Nat} (hT : p5 n = T) : ∃ τ, f_X11_leastWaste σ = some (lwF (SUb s 0 bars n m) (fun f => wst s0 f n) T, τ) ∧ CS σ τ := by
  have hn := h.1
  have hm := h.2.1
  have p4 := p5_in n hn.2
  have hl : ∃ b, itr (fun z => f_X11_leastWaste_13 (p5 n) z.1 z.2.1 z.2.2) FU (-4, 0, σ) = some b ∧ ∃ τ, b = (lwF (SUb s 0 bars n m) (fun f => wst s0 f n) T, τ) ∧ CS σ τ := by
    refine itr_forH (fun f z => ∃ τ, z = (lwF (SUb s 0 bars n m) (fun f => wst s0 f n) f, (f : Int), τ) ∧ CS σ τ) _ T (by omega) ⟨_, rfl, CS.rf⟩ (fun f hf z hz => ?_) (fun z hz => ?_)
    · obtain ⟨τ, rfl, hC⟩ := hz
      have hf' : s32 (f : Int) = f := s32_of (by omega) (by omega)
      have li := lwF_in (P := SUb s 0 bars n m) (g := fun f => wst s0 f n) (T := T) (fun f _ hp => hg f (of_decide_eq_true hp).1) f (by omega)
      obtain ⟨τ', e, hC', -, -, hgg⟩ := c_sureX h (hB.cs hC hm.2) ((hC.at 72 6 (by omega)).trans e6) ((hC.at 72 7 (by omega)).trans e7) hf'
      rw [s32_0] at e hgg
      refine ⟨(lwF (SUb s 0 bars n m) (fun f => wst s0 f n) (f + 1), ((f + 1 : Nat) : Int), τ'), ?_, τ', rfl, hC.tr hC'⟩
      show f_X11_leastWaste_13 (p5 n) (lwF (SUb s 0 bars n m) (fun f => wst s0 f n) f) (f : Int) τ = some (Sum.inl ((if SUb s 0 bars n m f = true then (if lwF (SUb s 0 bars n m) (fun f => wst s0 f n) f = -4 then wst s0 f n else if lwF (SUb s 0 bars n m) (fun f => wst s0 f n) f ≤ wst s0 f n then lwF (SUb s 0 bars n m) (fun f => wst s0 f n) f else wst s0 f n) else lwF (SUb s 0 bars n m) (fun f => wst s0 f n) f), ((f + 1 : Nat) : Int), τ'))
      unfold f_X11_leastWaste_13
      rw [hf', s32_of (z := p5 n) (by omega) (by omega), if_neg (by omega), e, ob_some]
      by_cases c : SU 1 1 0 s 0 bars (f : Int) n m
      · have hC2 := hC.tr hC'
        have q := hg f c.1
        rw [bi_t c, if_neg (by decide), if_pos (show SUb s 0 bars n m f = true from decide_eq_true c), c_wasted2 hn.2 hm.2 ((hC2.at 10 0 (by omega)).trans hB.1.1) (fun k hk => (hC2.at 11 k (by omega)).trans (hch k hk)) (fun j hj k hk => (hC2.at (16 + 1 + j) k (by omega)).trans (hco j hj k hk)) (hgg c.1).2.1.1 c.1, ob_some, s32_of (z := wst s0 f n) (by omega) (by omega), s32_of (z := lwF (SUb s 0 bars n m) (fun f => wst s0 f n) f) (by omega) (by omega)]
        by_cases d1 : lwF (SUb s 0 bars n m) (fun f => wst s0 f n) f = -4
        · rw [if_pos d1, if_pos d1]
          rfl
        · rw [if_neg d1, if_neg d1]
          by_cases d2 : lwF (SUb s 0 bars n m) (fun f => wst s0 f n) f ≤ wst s0 f n
          · rw [if_pos d2, if_pos d2]
            rfl
          · rw [if_neg d2, if_neg d2]
            rfl
      · rw [bi_f c, if_pos s32_0, if_neg (show ¬ SUb s 0 bars n m f = true from fun z => c (of_decide_eq_true z))]
        rfl
    · obtain ⟨τ, rfl, hC⟩ := hz
      refine ⟨_, ?_, τ, rfl, hC⟩
      show f_X11_leastWaste_13 (p5 n) _ (T : Int) τ = _
      unfold f_X11_leastWaste_13
      rw [hT, if_pos (Int.le_refl _)]
  obtain ⟨b, e, τ, rfl, hC⟩ := hl
  refine ⟨τ, ?_, hC⟩
  unfold f_X11_leastWaste
  rw [c_fitNumbers' hB.1.1 hn.2, ob_some, e, lb_some]
theorem m_leastWaste {σ : Mem} {n m : Nat} {bars : Int} (h : MSx σ n m bars 0) (hb : 0 ≤ bars ∧ bars < 16) {T : Nat} (hT : p5 n = T) : ∃ x y, f_X12_leastWaste σ = some (lwF (SUb (σ 121) 0 bars n m) (fun f => wst (σ 121) f n) T, ab σ x y) := by
  have hn := h.1.1
  have p4 := p5_in n hn.2
  have hg : ∀ f : Nat, isF n m (f : Int) → 0 ≤ wst (σ 121) f n ∧ wst (σ 121) f n ≤ 1000000 := fun f hF => by
    have := wst_in h.1 hF n (Nat.le_refl n)
    omega
  have hl : ∃ b, itr (fun z => f_X12_leastWaste_5 z.1 z.2.1 z.2.2) FU (-4, 0, σ) = some b ∧ ∃ x y, b = (lwF (SUb (σ 121) 0 bars n m) (fun f => wst (σ 121) f n) T, ab σ x y) := by
    refine itr_forH (fun f z => ∃ x y, z = (lwF (SUb (σ 121) 0 bars n m) (fun f => wst (σ 121) f n) f, (f : Int), ab σ x y)) _ T (by omega) ⟨σ 120 21, σ 120 22, by rw [ab_of]; rfl⟩ (fun f hf z hz => ?_) (fun z hz => ?_)
    · obtain ⟨x, y, rfl⟩ := hz
      have hf' : s32 (f : Int) = f := s32_of (by omega) (by omega)
      have li := lwF_in (P := SUb (σ 121) 0 bars n m) (g := fun f => wst (σ 121) f n) (T := T) (fun f _ hp => hg f (of_decide_eq_true hp).1) f (by omega)
      have h1 := h.ab (x := x) (y := y)
      obtain ⟨u, v, e⟩ := m_sureX h1 hb hf'
      rw [ab_ab, ab_s, s32_0] at e
      refine ⟨(lwF (SUb (σ 121) 0 bars n m) (fun f => wst (σ 121) f n) (f + 1), ((f + 1 : Nat) : Int), ab σ u v), ?_, u, v, rfl⟩
      show f_X12_leastWaste_5 (lwF (SUb (σ 121) 0 bars n m) (fun f => wst (σ 121) f n) f) (f : Int) (ab σ x y) = some (Sum.inl ((if SUb (σ 121) 0 bars n m f = true then (if lwF (SUb (σ 121) 0 bars n m) (fun f => wst (σ 121) f n) f = -4 then wst (σ 121) f n else if lwF (SUb (σ 121) 0 bars n m) (fun f => wst (σ 121) f n) f ≤ wst (σ 121) f n then lwF (SUb (σ 121) 0 bars n m) (fun f => wst (σ 121) f n) f else wst (σ 121) f n) else lwF (SUb (σ 121) 0 bars n m) (fun f => wst (σ 121) f n) f), ((f + 1 : Nat) : Int), ab σ u v))
      unfold f_X12_leastWaste_5
      rw [m_fits h1.1.2.2.1 hn.2, ob_some, hf', s32_of (z := p5 n) (by omega) (by omega), if_neg (by omega), e, ob_some]
      by_cases c : SU 1 1 0 (σ 121) 0 bars (f : Int) n m
      · have q := hg f c.1
        have ew := m_wasteOf (σ := ab σ u v) (n := n) (m := m) (by rw [ab_s]; exact h.1) c.1
        rw [ab_s] at ew
        rw [bi_t c, if_neg (by decide), if_pos (show SUb (σ 121) 0 bars n m f = true from decide_eq_true c), s32_of (z := lwF (SUb (σ 121) 0 bars n m) (fun f => wst (σ 121) f n) f) (by omega) (by omega)]
        by_cases d1 : lwF (SUb (σ 121) 0 bars n m) (fun f => wst (σ 121) f n) f = -4
        · rw [if_pos d1, if_pos (by omega), ew, ob_some]
          rfl
        · rw [if_neg d1, if_neg (by omega), ew, ob_some, s32_of (z := wst (σ 121) f n) (by omega) (by omega)]
          by_cases d2 : lwF (SUb (σ 121) 0 bars n m) (fun f => wst (σ 121) f n) f ≤ wst (σ 121) f n
          · rw [if_pos d2, if_pos d2]
            rfl
          · rw [if_neg d2, if_neg d2, ew, ob_some]
            rfl
      · rw [bi_f c, if_pos s32_0, if_neg (show ¬ SUb (σ 121) 0 bars n m f = true from fun z => c (of_decide_eq_true z))]
        rfl
    · obtain ⟨x, y, rfl⟩ := hz
      have h1 := h.ab (x := x) (y := y)
      refine ⟨_, ?_, x, y, rfl⟩
      show f_X12_leastWaste_5 _ (T : Int) (ab σ x y) = _
      unfold f_X12_leastWaste_5
      rw [m_fits h1.1.2.2.1 hn.2, ob_some, hT, if_pos (Int.le_refl _)]
  obtain ⟨b, e, x, y, rfl⟩ := hl
  refine ⟨x, y, ?_⟩
  unfold f_X12_leastWaste
  rw [e, lb_some]
/-- bits of a small number -/
def pc (x : Int) : Int := bt x 0 + bt x 1 + bt x 2 + bt x 3
def jbc (v : Int) : Int := (fun w1 : Int => (fun w2 : Int => (fun w3 : Int => (fun w4 : Int => (fun w5 : Int => and32 w5 63) (w4 + (ushr32 w4 16))) (w3 + (ushr32 w3 8))) (and32 (w2 + (ushr32 w2 4)) 252645135)) ((and32 w1 858993459) + (and32 (ushr32 w1 2) 858993459))) (v - (and32 (ushr32 v 1) 1431655765))
theorem c_bitCount (v : Int) (σ : Mem) : f_J6_bitCount_0f7a4 v σ = some (jbc v, σ) := rfl
theorem jbc_pc' : ∀ x : Nat, x < 16 → jbc x = pc x := by decide +kernel
theorem jbc_pc {x : Int} (h : 0 ≤ x ∧ x < 16) : jbc x = pc x := by
  obtain ⟨a, ha, rfl⟩ := nat_lt_cases h
  exact jbc_pc' a ha
theorem pc_in' : ∀ x : Nat, x < 16 → 0 ≤ pc x ∧ pc x ≤ 4 := by decide +kernel
theorem pc_in {x : Int} (h : 0 ≤ x ∧ x < 16) : 0 ≤ pc x ∧ pc x ≤ 4 := by
  obtain ⟨a, ha, rfl⟩ := nat_lt_cases h
  exact pc_in' a ha
theorem pc_sh' : ∀ x : Nat, x < 16 → 0 < x → and32 x 1 + pc (shr32 x 1) = pc x ∧ 0 ≤ shr32 x 1 ∧ shr32 x 1 < x := by decide +kernel
theorem pc_sh {x : Int} (h : 0 ≤ x ∧ x < 16) (h0 : 0 < x) : and32 x 1 + pc (shr32 x 1) = pc x ∧ 0 ≤ shr32 x 1 ∧ shr32 x 1 < x := by
  obtain ⟨a, ha, rfl⟩ := nat_lt_cases h
  exact pc_sh' a ha (by omega)
theorem m_bits {v : Int} (hv : 0 ≤ v ∧ v < 16) (σ : Mem) : f_X12_bits v σ = some (pc v, σ) := by
  have hl : ∃ b, itr (fun z => f_X12_bits_4 z.1 z.2.1 z.2.2) FU (0, v, σ) = some b ∧ b = (pc v, σ) := by
    refine itr_tot (fun z : Int × Int × Mem => (0 ≤ z.2.1 ∧ z.2.1 < 16) ∧ z.1 + pc z.2.1 = pc v ∧ z.2.2 = σ) (fun z => z.2.1.toNat) _ ?_ FU _ ⟨hv, Int.zero_add _, rfl⟩ (FU_lt (by show v.toNat < 100000; omega))
    rintro ⟨x, y, τ⟩ ⟨h1, h2, h3⟩
    simp only at h1 h2 h3
    subst h3
    simp only
    unfold f_X12_bits_4
    rw [s32_of (z := y) (by omega) (by omega)]
    by_cases c : y ≤ 0
    · right
      have y0 : y = 0 := by omega
      subst y0
      have z0 : pc 0 = 0 := by decide +kernel
      rw [if_pos c]
      refine ⟨_, rfl, ?_⟩
      rw [← h2, z0, Int.add_zero]
    · left
      have w := pc_sh h1 (by omega)
      rw [if_neg c]
      exact ⟨_, rfl, ⟨⟨w.2.1, by show shr32 y 1 < 16; omega⟩, by show x + and32 y 1 + pc (shr32 y 1) = pc v; omega, rfl⟩, by show (shr32 y 1).toNat < y.toNat; omega⟩
  obtain ⟨b, e, rfl⟩ := hl
  unfold f_X12_bits
  rw [e, lb_some]
/-- the least bar so far, and its waste -/
def lbB (R : Nat → Int) : Nat → Int × Int
  | 0 => (-4, -4)
  | k + 1 => if R k = -4 then lbB R k else if (lbB R k).2 = -4 ∨ R k < (lbB R k).2 ∨ (R k = (lbB R k).2 ∧ pc k < pc (lbB R k).1) then ((k : Int), R k) else lbB R k
theorem lbB_in {R : Nat → Int} (hR : ∀ k, R k = -4 ∨ (0 ≤ R k ∧ R k ≤ 1000000)) : ∀ k : Nat, k ≤ 16 → ((lbB R k).1 = -4 ∧ (lbB R k).2 = -4) ∨ ((0 ≤ (lbB R k).1 ∧ (lbB R k).1 < 16) ∧ (0 ≤ (lbB R k).2 ∧ (lbB R k).2 ≤ 1000000))
  | 0, _ => Or.inl ⟨rfl, rfl⟩
  | k + 1, hk => by
    have ih := lbB_in hR k (by omega)
    have r := hR k
    unfold lbB
    by_cases c : R k = -4
    · rw [if_pos c]
      exact ih
    · rw [if_neg c]
      split
      · right
        refine ⟨⟨?_, ?_⟩, ?_⟩
        · show (0 : Int) ≤ k
          omega
        · show (k : Int) < 16
          omega
        · show 0 ≤ R k ∧ R k ≤ 1000000
          omega
      · exact ih
theorem op_leastBar {σ : Mem} (h : Rel σ) {v : Int} (hv : s32 v = v) : Op σ (f_X11_leastBar v) (f_X12_leastBar v) := by
  unfold Op f_X11_leastBar f_X12_leastBar
  by_cases q : σ 0 6 = 0
  · refine ⟨-3, σ, σ, ?_, ?_, h⟩
    · rw [q, if_pos s32_0]
    · rw [m_closed h q, ob_some, if_pos s32_0]
  · obtain ⟨e1, n, m, hO, hB, hM, e6, e7⟩ := h.mk2 q
    have hn := hO.1.1
    have hm := hO.1.2.1
    have h9 := h.1.2.2.2.2.1.2.2
    have p4 := p5_in n hn.2
    have P2 := p2_in' m (by clear hv; omega)
    have eP := shl_p2' m (by clear hv; omega)
    obtain ⟨T, hT⟩ : ∃ T : Nat, p5 n = T := ⟨(p5 n).toNat, by clear hv; omega⟩
    obtain ⟨U, hU⟩ : ∃ U : Nat, p2 m - 1 = U := ⟨(p2 m - 1).toNat, by clear hv; omega⟩
    have hg : ∀ f : Nat, isF n m (f : Int) → 0 ≤ wst (σ 121) f n ∧ wst (σ 121) f n ≤ 1000000 := fun f hF => by
      have := wst_in hO.1 hF n (Nat.le_refl n)
      clear hv
      omega
    rw [e1, if_neg (by decide), c_isBit' hv, ob_some]
    by_cases c1 : v = 0 ∨ v = 1
    · rw [bi_t c1, if_neg (by decide)]
      obtain ⟨R, hRd⟩ : ∃ R : Nat → Int, R = fun x : Nat => lwF (SUb (σ 121) 0 (x : Int) n m) (fun f => wst (σ 121) f n) T := ⟨_, rfl⟩
      have hR : ∀ k, R k = -4 ∨ (0 ≤ R k ∧ R k ≤ 1000000) := fun k => by
        rw [hRd]
        exact lwF_in (P := SUb (σ 121) 0 (k : Int) n m) (g := fun f => wst (σ 121) f n) (T := T) (fun f _ hp => hg f (of_decide_eq_true hp).1) T (Nat.le_refl T)
      have lc : ∃ b, itr (fun z => f_X11_leastBar_28 v z.1 z.2.1 z.2.2.1 z.2.2.2) FU (-4, -4, 0, σ) = some b ∧ ∃ τ, b = ((lbB R U).1, (lbB R U).2, τ) ∧ CO σ (ups τ 72 7 0) := by
        refine itr_forH (fun k z => ∃ τ w, z = ((lbB R k).1, (lbB R k).2, (k : Int), τ) ∧ CS (ups σ 72 7 w) τ) _ U (by clear hv; omega) ⟨σ, 0, rfl, ?_⟩ (fun k hk z hz => ?_) (fun z hz => ?_)
        · have : ups σ 72 7 0 = σ := by
            funext a i
            by_cases w : a = 72 ∧ i = 7
            · rw [w.1, w.2, ups_at, e7]
            · show (if a = 72 ∧ i = 7 then 0 else σ a i) = _
              rw [if_neg w]
          rw [this]
          exact CS.rf
        · obtain ⟨τ, w, rfl, hC⟩ := hz
          have hk' : s32 (k : Int) = k := s32_of (by clear hv; omega) (by clear hv; omega)
          have hkb : 0 ≤ (k : Int) ∧ (k : Int) < 16 := by clear hv hk'; omega
          have hCk : CS (ups σ 72 7 k) (ups τ 72 7 k) := by
            intro a i z
            by_cases e : a = 72 ∧ i = 7
            · rw [e.1, e.2, ups_at, ups_at]
            · have := hC a i z
              unfold ups at this ⊢
              rw [if_neg e] at this ⊢
              rw [if_neg e]
              exact this
          have hBk := (hB.set hm.2 (i := 7) (v := (k : Int)) (Or.inr ⟨rfl, hkb⟩)).cs hCk hm.2
          have t10 : τ 10 1 = m := (hC.at 10 1 (by clear hv; omega)).trans ((congrFun (ups_ne (by decide)) 1).trans hB.1.2.1)
          obtain ⟨τ', e, hC'⟩ := c_leastWaste (s0 := σ 121) (bars := (k : Int)) hO.1 hBk ((hCk.at 72 6 (by clear hv; omega)).trans ((ups_ni (by decide)).trans e6)) (ups_at _ _ _ _) (fun i hi => hBk.1.2.2.2.1 i hi |>.1) (fun j hj i hi => hBk.1.cost ((hCk.at 72 9 (by clear hv; omega)).trans ((ups_ni (by decide)).trans h9)) hj hi) hg hT
          have er : lwF (SUb (σ 121) 0 (k : Int) n m) (fun f => wst (σ 121) f n) T = R k := by rw [hRd]
          rw [er] at e
          have hRk := hR k
          have hI := lbB_in hR k (by clear hv hk'; omega)
          refine ⟨((lbB R (k + 1)).1, (lbB R (k + 1)).2, ((k + 1 : Nat) : Int), τ'), ?_, τ', k, rfl, hCk.tr hC'⟩
          show f_X11_leastBar_28 v (lbB R k).1 (lbB R k).2 (k : Int) τ = some (Sum.inl ((if R k = -4 then lbB R k else if (lbB R k).2 = -4 ∨ R k < (lbB R k).2 ∨ (R k = (lbB R k).2 ∧ pc k < pc (lbB R k).1) then ((k : Int), R k) else lbB R k).1, (if R k = -4 then lbB R k else if (lbB R k).2 = -4 ∨ R k < (lbB R k).2 ∨ (R k = (lbB R k).2 ∧ pc k < pc (lbB R k).1) then ((k : Int), R k) else lbB R k).2, ((k + 1 : Nat) : Int), τ'))
          generalize lbB R k = p at hI ⊢
          obtain ⟨x, y⟩ := p
          simp only at hI ⊢
          unfold f_X11_leastBar_28 f_X4_allMarks
          rw [ob_some, t10, eP, s32_of (z := p2 m - 1) (by clear hv hk'; omega) (by clear hv hk'; omega), hk', if_neg (by clear hv hk'; omega)]
          simp only [stp]
          rw [e, ob_some, c_bitCount, ob_some, c_bitCount, ob_some, s32_of (z := R k) (by clear hv hk'; omega) (by clear hv hk'; omega), s32_of (z := y) (by clear hv hk'; omega) (by clear hv hk'; omega)]
          by_cases d0 : R k = -4
          · rw [if_pos d0]
            by_cases d1 : R k = y
            · rw [if_pos d1, if_pos d0, if_pos d0]
              split <;> rfl
            · rw [if_neg d1, if_pos d0]
              rfl
          · rw [if_neg d0]
            by_cases d1 : R k = y
            · have hb : 0 ≤ x ∧ x < 16 := by clear hv hk'; omega
              have k1 := pc_in hkb
              have k2 := pc_in hb
              rw [if_pos d1, if_neg d0, if_neg d0, jbc_pc hkb, jbc_pc hb, s32_of (z := pc (k : Int)) (by clear hv hk'; omega) (by clear hv hk'; omega), s32_of (z := pc x) (by clear hv hk'; omega) (by clear hv hk'; omega), if_neg (show ¬ y = -4 by clear hv hk'; omega), if_neg (show ¬ y = -4 by clear hv hk'; omega), if_neg (show ¬ R k < y by clear hv hk'; omega), if_neg (show ¬ R k < y by clear hv hk'; omega)]
              by_cases d2 : pc x ≤ pc (k : Int)
              · rw [if_pos d2, if_neg (show ¬ (y = -4 ∨ R k < y ∨ (R k = y ∧ pc (k : Int) < pc x)) by clear hv hk'; omega)]
                rfl
              · rw [if_neg d2, if_pos (show (y = -4 ∨ R k < y ∨ (R k = y ∧ pc (k : Int) < pc x)) by clear hv hk'; omega)]
                rfl
            · rw [if_neg d1, if_neg d0]
              by_cases d2 : y = -4
              · rw [if_pos d2, if_pos (Or.inl d2)]
                rfl
              · rw [if_neg d2]
                by_cases d3 : R k < y
                · rw [if_pos d3, if_pos (Or.inr (Or.inl d3))]
                  rfl
                · rw [if_neg d3, if_neg (show ¬ (y = -4 ∨ R k < y ∨ (R k = y ∧ pc (k : Int) < pc x)) by clear hv hk'; omega)]
                  rfl
        · obtain ⟨τ, w, rfl, hC⟩ := hz
          have t10 : τ 10 1 = m := (hC.at 10 1 (by clear hv; omega)).trans ((congrFun (ups_ne (by decide)) 1).trans hB.1.2.1)
          refine ⟨_, ?_, τ, rfl, CO.back e7 hC.co⟩
          show f_X11_leastBar_28 v _ _ (U : Int) τ = _
          unfold f_X11_leastBar_28 f_X4_allMarks
          rw [ob_some, t10, eP, hU, if_pos (Int.le_refl _)]
      obtain ⟨b, eb, τ, rfl, hCO⟩ := lc
      have hM1 := hM.co hCO
      have e121 : ups τ 72 7 0 121 = σ 121 := hCO.row 121 (fun i => by unfold scr; omega)
      have e17 : ups τ 72 7 0 120 17 = 0 := hM1.2.2.1
      have lm : ∃ b, itr (fun z => f_X12_leastBar_31 v z.1 z.2.1 z.2.2.1 z.2.2.2) FU (-4, -4, 0, ups τ 72 7 0) = some b ∧ ∃ υ, b = ((lbB R U).1, (lbB R U).2, υ) ∧ CO (ups τ 72 7 0) (ups υ 120 17 0) := by
        generalize ups τ 72 7 0 = ρ at hM1 e121 e17
        refine itr_forH (fun k z => ∃ υ w, z = ((lbB R k).1, (lbB R k).2, (k : Int), υ) ∧ ∃ x y, υ = ab (ups ρ 120 17 w) x y) _ U (by clear hv; omega) ⟨ρ, 0, rfl, ρ 120 21, ρ 120 22, ?_⟩ (fun k hk z hz => ?_) (fun z hz => ?_)
        · have : ups ρ 120 17 0 = ρ := by
            funext a i
            by_cases w : a = 120 ∧ i = 17
            · rw [w.1, w.2, ups_at, e17]
            · show (if a = 120 ∧ i = 17 then 0 else ρ a i) = _
              rw [if_neg w]
          rw [this, ab_of]
        · obtain ⟨υ, w, rfl, x, y, rfl⟩ := hz
          have hk' : s32 (k : Int) = k := s32_of (by clear hv; omega) (by clear hv; omega)
          have hkb : 0 ≤ (k : Int) ∧ (k : Int) < 16 := by clear hv hk'; omega
          have hs : ups (ab (ups ρ 120 17 w) x y) 120 17 k = ab (ups ρ 120 17 k) x y := by
            funext a i
            show (if a = 120 ∧ i = 17 then (k : Int) else if a = 120 ∧ i = 21 then x else if a = 120 ∧ i = 22 then y else if a = 120 ∧ i = 17 then w else ρ a i) = (if a = 120 ∧ i = 21 then x else if a = 120 ∧ i = 22 then y else if a = 120 ∧ i = 17 then (k : Int) else ρ a i)
            by_cases z1 : a = 120 ∧ i = 17
            · rw [if_pos z1, if_neg (by clear hv hk'; omega), if_neg (by clear hv hk'; omega), if_pos z1]
            · rw [if_neg z1, if_neg z1, if_neg z1]
          have hX : MSx (ab (ups ρ 120 17 k) x y) n m k 0 := ((hM1.x).set17 k).ab
          obtain ⟨u1, u2, e⟩ := m_leastWaste hX hkb hT
          have r121 : ab (ups ρ 120 17 k) x y 121 = σ 121 := by rw [ab_s, ups_ne (by decide), e121]
          have w121 : ab (ups ρ 120 17 w) x y 121 = σ 121 := by rw [ab_s, ups_ne (by decide), e121]
          have er : lwF (SUb (σ 121) 0 (k : Int) n m) (fun f => wst (σ 121) f n) T = R k := by rw [hRd]
          rw [r121, er, ab_ab] at e
          have hRk := hR k
          have hI := lbB_in hR k (by clear hv hk'; omega)
          refine ⟨((lbB R (k + 1)).1, (lbB R (k + 1)).2, ((k + 1 : Nat) : Int), ab (ups ρ 120 17 k) u1 u2), ?_, _, k, rfl, u1, u2, rfl⟩
          show f_X12_leastBar_31 v (lbB R k).1 (lbB R k).2 (k : Int) (ab (ups ρ 120 17 w) x y) = some (Sum.inl ((if R k = -4 then lbB R k else if (lbB R k).2 = -4 ∨ R k < (lbB R k).2 ∨ (R k = (lbB R k).2 ∧ pc k < pc (lbB R k).1) then ((k : Int), R k) else lbB R k).1, (if R k = -4 then lbB R k else if (lbB R k).2 = -4 ∨ R k < (lbB R k).2 ∨ (R k = (lbB R k).2 ∧ pc k < pc (lbB R k).1) then ((k : Int), R k) else lbB R k).2, ((k + 1 : Nat) : Int), ab (ups ρ 120 17 k) u1 u2))
          generalize lbB R k = p at hI ⊢
          obtain ⟨p1, p2'⟩ := p
          simp only at hI ⊢
          unfold f_X12_leastBar_31
          rw [w121, hO.1.2.2.2.1, eP, s32_of (z := p2 m - 1) (by clear hv hk'; omega) (by clear hv hk'; omega), hk', if_neg (by clear hv hk'; omega)]
          simp only [stp]
          rw [hs, e, ob_some, s32_of (z := R k) (by clear hv hk'; omega) (by clear hv hk'; omega), s32_of (z := p1) (by clear hv hk'; omega) (by clear hv hk'; omega), s32_of (z := p2') (by clear hv hk'; omega) (by clear hv hk'; omega)]
          by_cases d0 : R k = -4
          · rw [if_pos d0, if_pos (by clear hv hk'; omega)]
            rfl
          · rw [if_neg d0, if_neg (by clear hv hk'; omega)]
            by_cases d2 : p2' = -4
            · rw [if_pos (show p1 < 0 by clear hv hk'; omega), if_pos (Or.inl d2)]
              rfl
            · have hb : 0 ≤ p1 ∧ p1 < 16 := by clear hv hk'; omega
              have k1 := pc_in hkb
              have k2 := pc_in hb
              rw [if_neg (show ¬ p1 < 0 by clear hv hk'; omega)]
              by_cases d3 : p2' < R k
              · rw [if_pos d3, if_neg (show ¬ (p2' = -4 ∨ R k < p2' ∨ (R k = p2' ∧ pc (k : Int) < pc p1)) by clear hv hk'; omega)]
                rfl
              · rw [if_neg d3]
                by_cases d1 : R k = p2'
                · rw [if_pos d1, m_bits hkb, ob_some, m_bits hb, ob_some, s32_of (z := pc (k : Int)) (by clear hv hk'; omega) (by clear hv hk'; omega), s32_of (z := pc p1) (by clear hv hk'; omega) (by clear hv hk'; omega)]
                  by_cases d4 : pc (k : Int) < pc p1
                  · rw [if_pos d4, if_pos (Or.inr (Or.inr ⟨d1, d4⟩))]
                    rfl
                  · rw [if_neg d4, if_neg (show ¬ (p2' = -4 ∨ R k < p2' ∨ (R k = p2' ∧ pc (k : Int) < pc p1)) by clear hv hk'; omega)]
                    rfl
                · rw [if_neg d1, if_pos (show (p2' = -4 ∨ R k < p2' ∨ (R k = p2' ∧ pc (k : Int) < pc p1)) by clear hv hk'; omega)]
                  rfl
        · obtain ⟨υ, w, rfl, x, y, rfl⟩ := hz
          have w121 : ab (ups ρ 120 17 w) x y 121 = σ 121 := by rw [ab_s, ups_ne (by decide), e121]
          refine ⟨_, ?_, ab (ups ρ 120 17 w) x y, rfl, CO.back e17 ab_co⟩
          show f_X12_leastBar_31 v (lbB R U).1 (lbB R U).2 (U : Int) (ab (ups ρ 120 17 w) x y) = _
          unfold f_X12_leastBar_31
          rw [w121, hO.1.2.2.2.1, eP, hU, if_pos (Int.le_refl _)]
      obtain ⟨b, em, υ, rfl, hCO2⟩ := lm
      refine ⟨if v = 0 then (lbB R U).1 else (lbB R U).2, ups τ 72 7 0, ups υ 120 17 0, ?_, ?_, (h.co hCO).co hCO2⟩
      · rw [eb, lb_some]
        simp only [stp]
        rw [hv]
        split <;> rfl
      · rw [m_openAt hM1, ob_some, if_neg (by decide), m_bitAt hv, ob_some, bi_t c1, if_neg (by decide), em, lb_some]
        simp only [stp]
        rw [hv]
        split <;> rfl
    · refine ⟨-1, σ, σ, by rw [bi_f c1, if_pos s32_0], ?_, h⟩
      rw [m_openAt hM, ob_some, if_neg (by decide), m_bitAt hv, ob_some, bi_f c1, if_pos s32_0]
