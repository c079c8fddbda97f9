/-! PURE 44: a line of pay -/
def bl (s : Int → Int) (L : Int → Int) (k : Nat) (a : Int) : Int := if a = 4 then s (11 + k) else L a - s (19 + 4 * a + k)
def bst (s : Int → Int) (L : Int → Int) (k : Nat) : Nat → Int
  | 0 => 0
  | j + 1 => if j = 0 then 0 else if bl s L k (j : Int) ≤ bl s L k (bst s L k j) then bst s L k j else (j : Int)
def mkb (s : Int → Int) (L : Int → Int) (k m : Nat) : Int := if s (11 + k) ≤ bl s L k (bst s L k m) then bst s L k m else 4
theorem bst_in (s : Int → Int) (L : Int → Int) (k : Nat) : ∀ j : Nat, 1 ≤ j → 0 ≤ bst s L k j ∧ bst s L k j < (j : Int)
  | 0, h => absurd h (by decide)
  | j + 1, _ => by
    unfold bst
    by_cases e : j = 0
    · rw [if_pos e]
      omega
    · have ih := bst_in s L k j (by omega)
      rw [if_neg e]
      split <;> omega
/-- a line that may be read -/
def LN (L : Int → Int) (m : Nat) : Prop := ∀ j : Nat, j < m → 0 ≤ L j ∧ L j ≤ 1999
theorem bl_in {n m : Nat} {s L : Int → Int} (h : Okm n m s) (hL : LN L m) {k : Nat} (hk : k < n) {a : Int} (ha : a = 4 ∨ (0 ≤ a ∧ a < (m : Int))) : -2000 ≤ bl s L k a ∧ bl s L k a ≤ 2000 := by
  have q := h.2.2.2.2.2.1 k hk
  unfold bl
  by_cases c : a = 4
  · rw [if_pos c]
    omega
  · rw [if_neg c]
    obtain ⟨j, hj, rfl⟩ : ∃ j : Nat, j < m ∧ a = j := ⟨a.toNat, by omega, by omega⟩
    have q2 := (h.2.2.2.2.2.2 j hj).2.2 k hk
    have q3 := hL j hj
    omega
theorem mkb_in {n m : Nat} {s L : Int → Int} (h : Okm n m s) (k : Nat) : mkb s L k m = 4 ∨ (0 ≤ mkb s L k m ∧ mkb s L k m < (m : Int)) := by
  have hm := h.2.1
  have b := bst_in s L k m hm.1
  unfold mkb
  split
  · exact Or.inr b
  · exact Or.inl rfl
/-- the class's market, without scales -/
def CL (σ : Mem) (n m : Nat) (s : Int → Int) : Prop := σ 10 0 = n ∧ σ 10 1 = m ∧ (∀ k : Nat, k < n → σ 11 k = s (3 + k) ∧ σ 12 k = s (7 + k) ∧ σ 13 k = s (11 + k)) ∧ ∀ j : Nat, j < m → σ 14 j = s (15 + j) ∧ ∀ k : Nat, k < n → σ (16 + 1 + j) k = s (19 + 4 * j + k)
theorem CK.cl {σ : Mem} {n m : Nat} {s : Int → Int} (h : CK σ n m s) (h9 : σ 72 9 = 0) : CL σ n m s := ⟨h.1, h.2.1, h.2.2.2.1, fun j hj => ⟨(h.2.2.2.2 j hj).1, fun k hk => h.cost h9 hj hk⟩⟩
theorem CL.of {σ τ : Mem} {n m : Nat} {s : Int → Int} (h : CL σ n m s) (m4 : m ≤ 4) (e : ∀ a : Int, 10 ≤ a ∧ a ≤ 20 → τ a = σ a) : CL τ n m s := by
  refine ⟨by rw [e 10 (by decide)]; exact h.1, by rw [e 10 (by decide)]; exact h.2.1, fun k hk => ?_, fun j hj => ?_⟩
  · rw [e 11 (by decide), e 12 (by decide), e 13 (by decide)]
    exact h.2.2.1 k hk
  · rw [e 14 (by decide), e (16 + 1 + j) (by omega)]
    exact h.2.2.2 j hj
theorem c_settle {σ : Mem} {n m : Nat} {s L : Int → Int} (h : Okm n m s) (hc : CL σ n m s) (hL : LN L m) (h77 : ∀ j : Nat, j < m → σ 77 j = L j) {k : Nat} (hk : k < n) : ∃ τ, f_X3_settle k σ = some (0, τ) ∧ τ 78 k = mkb s L k m ∧ τ 79 k = bl s L k (mkb s L k m) ∧ ∀ a i : Int, ¬ ((a = 78 ∨ a = 79) ∧ i = k) → τ a i = σ a i := by
  have hn := h.1
  have hm := h.2.1
  have k4 := fin4 hk hn.2
  have uk : s32 (k : Int) = k := s32_of (by omega) (by omega)
  have hl : ∃ b, itr (fun z => f_X3_settle_33 k z.1 z.2) FU (1, ups (ups σ 78 k 0) 79 k (L 0 - s (19 + 4 * 0 + k))) = some b ∧ (b 78 k = bst s L k m ∧ b 79 k = bl s L k (bst s L k m) ∧ ∀ a i : Int, ¬ ((a = 78 ∨ a = 79) ∧ i = k) → b a i = σ a i) := by
    refine itr_forH (fun j z => ∃ τ, z = ((j : Int) + 1, τ) ∧ τ 78 k = bst s L k (j + 1) ∧ τ 79 k = bl s L k (bst s L k (j + 1)) ∧ ∀ a i : Int, ¬ ((a = 78 ∨ a = 79) ∧ i = k) → τ a i = σ a i) _ (m - 1) (by clear uk; omega) ⟨_, rfl, ?_, ?_, fun a i w => ?_⟩ (fun j hj z hz => ?_) (fun z hz => ?_)
    · rw [ups_ne (by decide), ups_at]
      rfl
    · rw [ups_at]
      rfl
    · unfold ups
      rw [if_neg (by clear uk; omega), if_neg (by clear uk; omega)]
    · obtain ⟨τ, rfl, t8, t9, t0⟩ := hz
      have t10 : τ 10 1 = m := (t0 10 1 (by clear uk; omega)).trans hc.2.1
      have t77 : τ 77 ((j + 1 : Nat) : Int) = L ((j + 1 : Nat) : Int) := (t0 77 _ (by clear uk; omega)).trans (h77 (j + 1) (by clear uk; omega))
      have t16 : τ (16 + 1 + ((j + 1 : Nat) : Int)) k = s (19 + 4 * ((j + 1 : Nat) : Int) + k) := (t0 _ _ (by clear uk; omega)).trans ((hc.2.2.2 (j + 1) (by clear uk; omega)).2 k hk)
      have j4 : 0 ≤ ((j + 1 : Nat) : Int) ∧ ((j + 1 : Nat) : Int) < 4 := by clear uk; omega
      have hb := bst_in s L k (j + 1) (by clear uk; omega)
      have b1 := bl_in h hL hk (a := bst s L k (j + 1)) (Or.inr (by clear uk; omega))
      have b2 := bl_in h hL hk (a := ((j + 1 : Nat) : Int)) (Or.inr (by clear uk; omega))
      have e2 : bl s L k ((j + 1 : Nat) : Int) = L ((j + 1 : Nat) : Int) - s (19 + 4 * ((j + 1 : Nat) : Int) + k) := if_neg (by clear uk; omega)
      have en : bst s L k (j + 1 + 1) = if bl s L k ((j + 1 : Nat) : Int) ≤ bl s L k (bst s L k (j + 1)) then bst s L k (j + 1) else ((j + 1 : Nat) : Int) := if_neg (by clear uk; omega)
      have ej : (j : Int) + 1 = ((j + 1 : Nat) : Int) := by clear uk; omega
      have uj : s32 ((j + 1 : Nat) : Int) = ((j + 1 : Nat) : Int) := s32_of (by clear uk; omega) (by clear uk; omega)
      have um : s32 (m : Int) = m := s32_of (by clear uk uj; omega) (by clear uk uj; omega)
      show ∃ y, f_X3_settle_33 k ((j : Int) + 1) τ = some (Sum.inl y) ∧ _
      rw [ej]
      unfold f_X3_settle_33
      rw [t10, um, uj, if_neg (by clear uk uj um; omega), if_pos j4, uk, if_pos k4]
      simp only [vl]
      rw [t77, t16, t9, ← e2, s32_of (z := bl s L k ((j + 1 : Nat) : Int)) (by clear uk uj um; omega) (by clear uk uj um; omega), s32_of (z := bl s L k (bst s L k (j + 1))) (by clear uk uj um; omega) (by clear uk uj um; omega)]
      by_cases c : bl s L k ((j + 1 : Nat) : Int) ≤ bl s L k (bst s L k (j + 1))
      · rw [if_pos c] at en
        rw [if_pos c]
        exact ⟨_, rfl, τ, rfl, by rw [en]; exact t8, by rw [en]; exact t9, t0⟩
      · rw [if_neg c] at en
        rw [if_neg c]
        refine ⟨_, rfl, _, rfl, ?_, ?_, fun a i w => ?_⟩
        · rw [ups_ne (by decide), ups_at, en]
        · rw [ups_at, en]
        · unfold ups
          rw [if_neg (by clear uk uj um; omega), if_neg (by clear uk uj um; omega)]
          exact t0 a i w
    · obtain ⟨τ, rfl, t8, t9, t0⟩ := hz
      have t10 : τ 10 1 = m := (t0 10 1 (by clear uk; omega)).trans hc.2.1
      rw [show m - 1 + 1 = m by clear uk; omega] at t8 t9
      refine ⟨τ, ?_, t8, t9, t0⟩
      show f_X3_settle_33 k (((m - 1 : Nat) : Int) + 1) τ = _
      unfold f_X3_settle_33
      rw [t10, show ((m - 1 : Nat) : Int) + 1 = m by clear uk; omega, if_pos (Int.le_refl _)]
  obtain ⟨b, e, b8, b9, b0⟩ := hl
  have hb := bst_in s L k m hm.1
  have b1 := bl_in h hL hk (a := bst s L k m) (Or.inr hb)
  have q := h.2.2.2.2.2.1 k hk
  have t13 : b 13 k = s (11 + k) := (b0 13 k (by clear uk; omega)).trans (hc.2.2.1 k hk).2.2
  unfold f_X3_settle
  rw [uk, if_pos k4]
  simp only [stp]
  have e77 : ups σ 78 k 0 77 0 = L 0 := by rw [ups_ne (by decide)]; exact h77 0 (by clear uk; omega)
  have e16 : ups σ 78 k 0 (16 + 1 + 0) k = s (19 + 4 * 0 + k) := by
    rw [ups_ne (by decide)]
    exact (hc.2.2.2 0 (by clear uk; omega)).2 k hk
  rw [e77, e16, e, lb_some, if_pos k4, t13, b9, s32_of (z := s (11 + (k : Int))) (by clear uk; omega) (by clear uk; omega), s32_of (z := bl s L k (bst s L k m)) (by clear uk; omega) (by clear uk; omega)]
  unfold mkb
  by_cases c : s (11 + (k : Int)) ≤ bl s L k (bst s L k m)
  · rw [if_pos c, if_pos c]
    exact ⟨b, rfl, b8, b9, b0⟩
  · rw [if_neg c, if_neg c]
    have u13 : ups b 78 k 4 13 k = s (11 + k) := by rw [ups_ne (by decide)]; exact t13
    rw [u13]
    refine ⟨_, rfl, ?_, ?_, fun a i w => ?_⟩
    · rw [ups_ne (by decide), ups_at]
    · rw [ups_at]
      exact (if_pos rfl).symm
    · unfold ups
      rw [if_neg (by clear uk; omega), if_neg (by clear uk; omega)]
      exact b0 a i w
/-- the line lies ready -/
def LR (σ : Mem) (n m : Nat) (s L : Int → Int) : Prop := CL σ n m s ∧ (∀ j : Nat, j < m → σ 77 j = L j) ∧ ∀ k : Nat, k < n → σ 78 k = mkb s L k m ∧ σ 79 k = bl s L k (mkb s L k m)
def lnB (L : Int → Int) (j : Nat) : Bool := decide (¬ (0 ≤ L j ∧ L j ≤ 1999))
theorem c_readLine {σ : Mem} {n m : Nat} {s L : Int → Int} (h : Okm n m s) (hc : CL σ n m s) {t : Int} (ht : 80 ≤ t) (hs : σ t 2 = m) (hv : ∀ j : Nat, j < 120 → σ (t + 1) j = L j ∧ inI (L j)) : ∃ τ, f_X3_readFrom t σ = some (if fst? (lnB L) 0 m = none then 1 else 0, τ) ∧ CO σ τ ∧ (fst? (lnB L) 0 m = none → LN L m ∧ LR τ n m s L) := by
  have hn := h.1
  have hm := h.2.1
  have um : s32 (m : Int) = m := s32_of (by omega) (by omega)
  have hl : ∃ b, itr (fun z => f_X3_readFrom_18 t z.1 z.2) FU (0, σ) = some b ∧ (match fst? (lnB L) 0 m with | some _ => ∃ τ, b = Sum.inl (0, τ) ∧ CO σ τ | none => ∃ τ, b = Sum.inr τ ∧ (∀ a : Int, a ≠ 77 → τ a = σ a) ∧ ∀ j : Nat, j < m → τ 77 j = L j) := by
    have body : ∀ (j : Nat) (τ : Mem), j < m → (∀ a : Int, a ≠ 77 → τ a = σ a) → f_X3_readFrom_18 t (j : Int) τ = (if lnB L j = true then some (Sum.inr (Sum.inl (0, τ))) else some (Sum.inl ((j : Int) + 1, ups τ 77 j (L j)))) := by
      intro j τ hj t0
      have j4 := fin4 hj hm.2
      have j120 : 0 ≤ (j : Int) ∧ (j : Int) < 120 := by clear um; omega
      have v := hv j (by clear um; omega)
      have vi := v.2
      unfold inI at vi
      unfold f_X3_readFrom_18
      rw [t0 10 (by decide), hc.2.1, um, s32_of (z := (j : Int)) (by clear um; omega) (by clear um; omega), if_neg (by clear um; omega), if_pos j120]
      simp only [vl]
      rw [t0 (t + 1) (by clear um; omega), v.1, s32_of (z := L (j : Int)) vi.1 vi.2]
      by_cases c1 : L (j : Int) < 0
      · rw [if_pos c1, if_pos (show lnB L j = true from decide_eq_true (by clear um; omega))]
      · rw [if_neg c1]
        by_cases c2 : L (j : Int) ≤ 1999
        · rw [if_pos c2, if_pos j4, if_neg (show ¬ lnB L j = true from fun z => of_decide_eq_true z (by clear um; omega))]
        · rw [if_neg c2, if_pos (show lnB L j = true from decide_eq_true (by clear um; omega))]
    refine itr_fstH (lnB L) (fun j z => ∃ τ : Mem, z = ((j : Int), τ) ∧ (∀ a : Int, a ≠ 77 → τ a = σ a) ∧ ∀ i : Nat, i < j → τ 77 i = L i) (fun _ b => ∃ τ, b = Sum.inl (0, τ) ∧ CO σ τ) (fun b => ∃ τ : Mem, b = Sum.inr τ ∧ (∀ a : Int, a ≠ 77 → τ a = σ a) ∧ ∀ j : Nat, j < m → τ 77 j = L j) m (by clear um; omega) ⟨σ, rfl, fun _ _ => rfl, fun i hi => absurd hi (Nat.not_lt_zero _)⟩ (fun j hj z hz hp => ?_) (fun j hj z hz hp => ?_) (fun z hz => ?_)
    · obtain ⟨τ, rfl, t0, t7⟩ := hz
      refine ⟨((j : Int) + 1, ups τ 77 j (L j)), ?_, _, rfl, fun a w => ?_, fun i hi => ?_⟩
      · show f_X3_readFrom_18 t (j : Int) τ = _
        rw [body j τ hj t0, if_neg (by rw [hp]; decide)]
      · rw [ups_ne w]
        exact t0 a w
      · by_cases e : i = j
        · rw [e, ups_at]
        · rw [ups_ni (by clear um; omega)]
          exact t7 i (by clear um; omega)
    · obtain ⟨τ, rfl, t0, t7⟩ := hz
      refine ⟨Sum.inl (0, τ), ?_, τ, rfl, fun a i w => ?_⟩
      · show f_X3_readFrom_18 t (j : Int) τ = _
        rw [body j τ hj t0, if_pos hp]
      · rw [t0 a (fun z => w (by unfold scr; clear um; omega))]
    · obtain ⟨τ, rfl, t0, t7⟩ := hz
      refine ⟨Sum.inr τ, ?_, τ, rfl, t0, t7⟩
      show f_X3_readFrom_18 t (m : Int) τ = _
      unfold f_X3_readFrom_18
      rw [t0 10 (by decide), hc.2.1, if_pos (Int.le_refl _)]
  obtain ⟨b, e, hb⟩ := hl
  unfold f_X3_readFrom
  rw [hs, hc.2.1, if_pos rfl, e, lb_some]
  cases hf : fst? (lnB L) 0 m with
  | some j =>
    rw [hf] at hb
    obtain ⟨τ, rfl, hC⟩ := hb
    exact ⟨τ, by rw [Sum.elim_inl, if_neg (by simp)], hC, fun z => by cases z⟩
  | none =>
    rw [hf] at hb
    obtain ⟨τ, rfl, t0, t7⟩ := hb
    have hL : LN L m := by
      rw [fst?_none] at hf
      intro j hj
      exact Decidable.not_not.mp (of_decide_eq_false (hf j (by clear um; omega) (by clear um; omega)))
    have hct : CL τ n m s := hc.of hm.2 (fun a ha => t0 a (by clear um; omega))
    have hl2 : ∃ b, itr (fun z => f_X3_readFrom_64 t z.1 z.2) FU (0, τ) = some b ∧ ((∀ a i : Int, ¬ (a = 78 ∨ a = 79) → b a i = τ a i) ∧ ∀ k : Nat, k < n → b 78 k = mkb s L k m ∧ b 79 k = bl s L k (mkb s L k m)) := by
      refine itr_forH (fun k z => ∃ υ, z = ((k : Int), υ) ∧ (∀ a i : Int, ¬ (a = 78 ∨ a = 79) → υ a i = τ a i) ∧ ∀ i : Nat, i < k → υ 78 i = mkb s L i m ∧ υ 79 i = bl s L i (mkb s L i m)) _ n (by clear um; omega) ⟨τ, rfl, fun _ _ _ => rfl, fun i hi => absurd hi (Nat.not_lt_zero _)⟩ (fun k hk z hz => ?_) (fun z hz => ?_)
      · obtain ⟨υ, rfl, u0, u8⟩ := hz
        have ur : ∀ a : Int, ¬ (a = 78 ∨ a = 79) → υ a = τ a := fun a w => funext fun i => u0 a i w
        obtain ⟨υ', e2, w8, w9, w0⟩ := c_settle h (hct.of hm.2 (fun a ha => ur a (by clear um; omega))) hL (fun j hj => by rw [ur 77 (by decide)]; exact t7 j hj) hk
        refine ⟨((k : Int) + 1, υ'), ?_, υ', rfl, fun a i w => (w0 a i (by clear um; omega)).trans (u0 a i w), fun i hi => ?_⟩
        · show f_X3_readFrom_64 t (k : Int) υ = _
          unfold f_X3_readFrom_64
          rw [ur 10 (by decide), hct.1, s32_of (z := (n : Int)) (by clear um; omega) (by clear um; omega), s32_of (z := (k : Int)) (by clear um; omega) (by clear um; omega), if_neg (by clear um; omega), e2, ob_some]
        · by_cases e3 : i = k
          · rw [e3]
            exact ⟨w8, w9⟩
          · rw [w0 78 i (by clear um; omega), w0 79 i (by clear um; omega)]
            exact u8 i (by clear um; omega)
      · obtain ⟨υ, rfl, u0, u8⟩ := hz
        have ur : ∀ a : Int, ¬ (a = 78 ∨ a = 79) → υ a = τ a := fun a w => funext fun i => u0 a i w
        refine ⟨υ, ?_, u0, u8⟩
        show f_X3_readFrom_64 t (n : Int) υ = _
        unfold f_X3_readFrom_64
        rw [ur 10 (by decide), hct.1, if_pos (Int.le_refl _)]
    obtain ⟨b2, e2, w0, w8⟩ := hl2
    have wr : ∀ a : Int, ¬ (a = 78 ∨ a = 79) → b2 a = τ a := fun a w => funext fun i => w0 a i w
    refine ⟨b2, ?_, fun a i w => ?_, fun _ => ⟨hL, hct.of hm.2 (fun a ha => wr a (by clear um; omega)), fun j hj => ?_, w8⟩⟩
    · rw [Sum.elim_inr, if_pos rfl]
      show lb (itr (fun z => f_X3_readFrom_64 t z.1 z.2) FU (0, τ)) _ = _
      rw [e2, lb_some]
    · rw [wr a (fun z => w (by unfold scr; clear um; omega)), t0 a (fun z => w (by unfold scr; clear um; omega))]
    · rw [wr 77 (by decide)]
      exact t7 j hj
theorem m_byLine {σ : Mem} {n m : Nat} {d : Nat} (hd : d < 8) (h : Okm n m (σ 121)) {k : Nat} (hk : k < n) {a : Int} (ha : a = 4 ∨ (0 ≤ a ∧ a < (m : Int))) : f_X12_byLine d k a σ = some (bl (σ 121) (fun j => σ 127 (120 * d + j)) k a, σ) := by
  have hn := h.1
  have hm := h.2.1
  unfold f_X12_byLine bl
  rcases ha with rfl | ha
  · have t : 0 ≤ 11 + (k : Int) ∧ 11 + (k : Int) < 39 := by omega
    rw [if_pos (by decide), if_pos rfl, s32_of (z := 11 + (k : Int)) (by omega) (by omega), if_pos t]
  · have t1 : 0 ≤ 120 * (d : Int) + a ∧ 120 * (d : Int) + a < 960 := by omega
    have t2 : 0 ≤ 19 + 4 * a + (k : Int) ∧ 19 + 4 * a + (k : Int) < 39 := by omega
    have a4 : ¬ a = 4 := by omega
    rw [s32_of (z := a) (by omega) (by omega), if_neg a4, if_neg a4, s32_of (z := 120 * (d : Int) + a) (by omega) (by omega), if_pos t1, s32_of (z := 19 + 4 * a + (k : Int)) (by omega) (by omega), if_pos t2]
theorem m_makesBy {σ : Mem} {n m : Nat} {d : Nat} (hd : d < 8) (h : Okm n m (σ 121)) (hL : LN (fun j => σ 127 (120 * d + j)) m) {k : Nat} (hk : k < n) : f_X12_makesBy d k σ = some (mkb (σ 121) (fun j => σ 127 (120 * d + j)) k m, σ) := by
  have hn := h.1
  have hm := h.2.1
  have hl : itr (fun z => f_X12_makesBy_5 d k z.1 z.2.1 z.2.2) FU (0, 1, σ) = some (bst (σ 121) (fun j => σ 127 (120 * d + j)) k m, σ) := by
    have e : itr (fun z => f_X12_makesBy_5 d k z.1 z.2.1 z.2.2) FU (bst (σ 121) (fun j => σ 127 (120 * d + j)) k (0 + 1), ((0 + 1 : Nat) : Int), σ) = some (bst (σ 121) (fun j => σ 127 (120 * d + j)) k m, σ) := by
      refine itr_for0 (fun j => (bst (σ 121) (fun j => σ 127 (120 * d + j)) k (j + 1), ((j + 1 : Nat) : Int), σ)) (m - 1) _ (by omega) (fun j hj => ?_) ?_
      · have hb := bst_in (σ 121) (fun j => σ 127 (120 * d + j)) k (j + 1) (by omega)
        have a1 : bst (σ 121) (fun j => σ 127 (120 * d + j)) k (j + 1) = 4 ∨ (0 ≤ bst (σ 121) (fun j => σ 127 (120 * d + j)) k (j + 1) ∧ bst (σ 121) (fun j => σ 127 (120 * d + j)) k (j + 1) < (m : Int)) := Or.inr (by omega)
        have a2 : ((j + 1 : Nat) : Int) = 4 ∨ (0 ≤ ((j + 1 : Nat) : Int) ∧ ((j + 1 : Nat) : Int) < (m : Int)) := Or.inr (by omega)
        have b1 := bl_in h hL hk a1
        have b2 := bl_in h hL hk a2
        show f_X12_makesBy_5 d k (bst (σ 121) (fun j => σ 127 (120 * d + j)) k (j + 1)) ((j + 1 : Nat) : Int) σ = some (Sum.inl ((if j + 1 = 0 then 0 else if bl (σ 121) (fun j => σ 127 (120 * d + j)) k ((j + 1 : Nat) : Int) ≤ bl (σ 121) (fun j => σ 127 (120 * d + j)) k (bst (σ 121) (fun j => σ 127 (120 * d + j)) k (j + 1)) then bst (σ 121) (fun j => σ 127 (120 * d + j)) k (j + 1) else ((j + 1 : Nat) : Int)), ((j + 1 + 1 : Nat) : Int), σ))
        unfold f_X12_makesBy_5
        rw [h.2.2.2.1, s32_of (z := (m : Int)) (by omega) (by omega), s32_of (z := ((j + 1 : Nat) : Int)) (by omega) (by omega), if_neg (by omega), m_byLine hd h hk a2, ob_some, m_byLine hd h hk a1, ob_some, if_neg (show ¬ j + 1 = 0 by omega), s32_of (z := bl (σ 121) (fun j => σ 127 (120 * d + j)) k ((j + 1 : Nat) : Int)) (by omega) (by omega), s32_of (z := bl (σ 121) (fun j => σ 127 (120 * d + j)) k (bst (σ 121) (fun j => σ 127 (120 * d + j)) k (j + 1))) (by omega) (by omega)]
        by_cases c : bl (σ 121) (fun j => σ 127 (120 * d + j)) k ((j + 1 : Nat) : Int) ≤ bl (σ 121) (fun j => σ 127 (120 * d + j)) k (bst (σ 121) (fun j => σ 127 (120 * d + j)) k (j + 1))
        · rw [if_pos c, if_pos c]
          rfl
        · rw [if_neg c, if_neg c]
          rfl
      · show f_X12_makesBy_5 d k (bst (σ 121) (fun j => σ 127 (120 * d + j)) k (m - 1 + 1)) ((m - 1 + 1 : Nat) : Int) σ = _
        unfold f_X12_makesBy_5
        rw [h.2.2.2.1, show m - 1 + 1 = m by omega, if_pos (Int.le_refl _)]
    exact e
  have hb := bst_in (σ 121) (fun j => σ 127 (120 * d + j)) k m hm.1
  have b1 := bl_in h hL hk (a := bst (σ 121) (fun j => σ 127 (120 * d + j)) k m) (Or.inr hb)
  have q := h.2.2.2.2.2.1 k hk
  have t : 0 ≤ 11 + (k : Int) ∧ 11 + (k : Int) < 39 := by omega
  unfold f_X12_makesBy mkb
  rw [hl, lb_some]
  dsimp only
  rw [s32_of (z := 11 + (k : Int)) (by omega) (by omega), if_pos t, m_byLine hd h hk (Or.inr hb), ob_some, s32_of (z := σ 121 (11 + (k : Int))) (by omega) (by omega), s32_of (z := bl (σ 121) (fun j => σ 127 (120 * d + j)) k (bst (σ 121) (fun j => σ 127 (120 * d + j)) k m)) (by omega) (by omega)]
  split <;> rfl
