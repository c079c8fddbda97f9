/-! PURE 7: loops with states said by a relation; who would rather -/
theorem itr_fstH' {α β : Type} {f : α → Option (α ⊕ β)} (P : Nat → Bool) (J : Nat → α → Prop) (Rt : Nat → β → Prop) (Re : β → Prop) (n : Nat) (hs : ∀ k, k < n → ∀ x, J k x → P k = false → ∃ y, f x = some (.inl y) ∧ J (k + 1) y) (ht : ∀ k, k < n → ∀ x, J k x → P k = true → ∃ b, f x = some (.inr b) ∧ Rt k b) (hx : ∀ x, J n x → ∃ b, f x = some (.inr b) ∧ Re b) : ∀ (m k N : Nat) (x : α), k + m = n → m < N → J k x → ∃ b, itr f N x = some b ∧ (match fst? P k m with | some j => Rt j b | none => Re b)
  | _, _, 0, _, _, h, _ => absurd h (Nat.not_lt_zero _)
  | 0, k, N + 1, x, hk, hn, hJ => by
    have e : k = n := by omega
    subst e
    unfold itr
    obtain ⟨b, e, hb⟩ := hx x hJ
    rw [e]
    exact ⟨b, rfl, hb⟩
  | m + 1, k, N + 1, x, hk, hn, hJ => by
    unfold itr
    unfold fst?
    by_cases hp : P k = true
    · obtain ⟨b, e, hb⟩ := ht k (by omega) x hJ hp
      rw [e, if_pos hp]
      exact ⟨b, rfl, hb⟩
    · have hp2 : P k = false := by simpa using hp
      obtain ⟨y, e, hy⟩ := hs k (by omega) x hJ hp2
      rw [e, if_neg hp]
      exact itr_fstH' P J Rt Re n hs ht hx m (k + 1) N y (by omega) (by omega) hy
theorem itr_fstH {α β : Type} {f : α → Option (α ⊕ β)} (P : Nat → Bool) (J : Nat → α → Prop) (Rt : Nat → β → Prop) (Re : β → Prop) (n : Nat) (hn : n < 100000) {x : α} (h0 : J 0 x) (hs : ∀ k, k < n → ∀ x, J k x → P k = false → ∃ y, f x = some (.inl y) ∧ J (k + 1) y) (ht : ∀ k, k < n → ∀ x, J k x → P k = true → ∃ b, f x = some (.inr b) ∧ Rt k b) (hx : ∀ x, J n x → ∃ b, f x = some (.inr b) ∧ Re b) : ∃ b, itr f FU x = some b ∧ (match fst? P 0 n with | some j => Rt j b | none => Re b) :=
  itr_fstH' P J Rt Re n hs ht hx n 0 FU x (by omega) (FU_lt hn) h0
theorem itr_forH' {α β : Type} {f : α → Option (α ⊕ β)} (J : Nat → α → Prop) (Re : β → Prop) (n : Nat) (hs : ∀ k, k < n → ∀ x, J k x → ∃ y, f x = some (.inl y) ∧ J (k + 1) y) (hx : ∀ x, J n x → ∃ b, f x = some (.inr b) ∧ Re b) : ∀ (m k N : Nat) (x : α), k + m = n → m < N → J k x → ∃ b, itr f N x = some b ∧ Re b
  | _, _, 0, _, _, h, _ => absurd h (Nat.not_lt_zero _)
  | 0, k, N + 1, x, hk, hn, hJ => by
    have e : k = n := by omega
    subst e
    unfold itr
    obtain ⟨b, e, hb⟩ := hx x hJ
    rw [e]
    exact ⟨b, rfl, hb⟩
  | m + 1, k, N + 1, x, hk, hn, hJ => by
    unfold itr
    obtain ⟨y, e, hy⟩ := hs k (by omega) x hJ
    rw [e]
    exact itr_forH' J Re n hs hx m (k + 1) N y (by omega) (by omega) hy
theorem itr_forH {α β : Type} {f : α → Option (α ⊕ β)} (J : Nat → α → Prop) (Re : β → Prop) (n : Nat) (hn : n < 100000) {x : α} (h0 : J 0 x) (hs : ∀ k, k < n → ∀ x, J k x → ∃ y, f x = some (.inl y) ∧ J (k + 1) y) (hx : ∀ x, J n x → ∃ b, f x = some (.inr b) ∧ Re b) : ∃ b, itr f FU x = some b ∧ Re b :=
  itr_forH' J Re n hs hx n 0 FU x (by omega) (FU_lt hn) h0
theorem mul_abs {x y : Int} (hx : -100000000 ≤ x ∧ x ≤ 2000000000) (hy : 1 ≤ y ∧ y ≤ 40000) : -9223372036854775808 ≤ x * y ∧ x * y ≤ 9223372036854775807 := by
  have h1 := Int.mul_le_mul_of_nonneg_right hx.1 (show 0 ≤ y by omega)
  have h2 := Int.mul_le_mul_of_nonneg_right hx.2 (show 0 ≤ y by omega)
  omega
/-- the first mark (4: away) at which sort k would get more; -4: none -/
def lur (W S K : Int) (s : Int → Int) (op bars fit : Int) (n m : Nat) (k : Nat) : Int :=
  match fst? (fun j => decide (bt bars j = 0 ∧ ¬ gtp W S K s op fit k j n * gun W s fit (dg fit k) n ≤ gtp W S K s op fit k (dg fit k) n * gun W s fit j n)) 0 m with
  | some j => j
  | none => if gtp W S K s op fit k 4 n * gun W s fit (dg fit k) n ≤ gtp W S K s op fit k (dg fit k) n then -4 else 4
def rth (W S K : Int) (s : Int → Int) (op bars fit : Int) (n m : Nat) : Int :=
  match fst? (fun k => decide (¬ lur W S K s op bars fit n m k = -4)) 0 n with
  | some k => 10 * (k : Int) + lur W S K s op bars fit n m k
  | none => -4
theorem lur_in (W S K : Int) (s : Int → Int) (op bars fit : Int) (n m : Nat) (hm : m ≤ 4) (k : Nat) : lur W S K s op bars fit n m k = -4 ∨ (0 ≤ lur W S K s op bars fit n m k ∧ lur W S K s op bars fit n m k ≤ 4) := by
  unfold lur
  split
  · rename_i j hj
    have := (fst?_some hj).2.1
    omega
  · split <;> omega
/-- the class has weighed, and counts so -/
def CG (σ : Mem) (n m : Nat) (s : Int → Int) (op fit W S K : Int) : Prop := CK σ n m s ∧ WG σ n m s op fit ∧ (0 ≤ σ 72 8 ∧ σ 72 8 < 4) ∧ σ 72 11 = W ∧ σ 72 12 = S ∧ σ 72 13 = K ∧ WSK W S K
theorem c_topAt {σ : Mem} {n m : Nat} {s : Int → Int} {op fit W S K : Int} (h : Okm n m s) (hg : CG σ n m s op fit W S K) {k : Nat} (hk : k < n) {a : Int} (ha : a = 4 ∨ (0 ≤ a ∧ a < (m : Int))) : f_X7_topAt k a σ = some (gtp W S K s op fit k a n, σ) := by
  obtain ⟨hc, hw, ht, h11, h12, h13, hwk⟩ := hg
  have hn := h.1
  have hm := h.2.1
  have q := h.2.2.2.2.2.1 k hk
  have q1 := hc.2.2.2.1 k hk
  unfold f_X7_topAt gtp
  rcases ha with rfl | ha
  · rw [if_pos (by decide), if_pos rfl, s32_of (z := (k : Int)) (by omega) (by omega), if_pos (by omega), q1.2.2, s32_of (z := s (11 + (k : Int))) (by omega) (by omega), h12]
  · obtain ⟨j, hj, rfl⟩ : ∃ j : Nat, j < m ∧ a = j := ⟨a.toNat, by omega, by omega⟩
    have q2 := h.2.2.2.2.2.2 j hj
    have q3 := q2.2.2 k hk
    have q4 := hc.2.2.2.2 j hj
    have q5 := q4.2.2 k hk
    have q6 := hw.2 j hj
    rw [s32_of (z := (j : Int)) (by omega) (by omega), if_neg (show ¬ ((j : Int) = 4) by omega), if_neg (show ¬ ((j : Int) = 4) by omega), if_pos (by omega), s32_of (z := (k : Int)) (by omega) (by omega), if_pos (by omega), s32_of (z := σ 72 8) (by omega) (by omega)]
    simp only [vl]
    rw [q1.2.1, q4.1, q6.1, q6.2, h11, h12, h13, s32_of (z := s (7 + (k : Int)) + s (15 + (j : Int))) (by omega) (by omega)]
    have e3 : W * s (19 + 4 * (j : Int) + k) * pyU s fit j n = s (19 + 4 * (j : Int) + k) * (pyU s fit j n * W) := by
      rw [Int.mul_comm W, Int.mul_assoc, Int.mul_comm W]
    by_cases e : (j : Int) = σ 72 8
    · rw [if_pos e] at q5
      rw [if_pos e, q5, s32_of (z := s (19 + 4 * (j : Int) + (k : Int))) (by omega) (by omega), e3]
    · rw [if_neg e] at q5
      rw [if_neg e, q5, s32_of (z := s (19 + 4 * (j : Int) + (k : Int))) (by omega) (by omega), e3]
theorem c_underAt {σ : Mem} {n m : Nat} {s : Int → Int} {op fit W S K : Int} (h : Okm n m s) (hg : CG σ n m s op fit W S K) {a : Int} (ha : a = 4 ∨ (0 ≤ a ∧ a < (m : Int))) : f_X7_underAt a σ = some (gun W s fit a n, σ) := by
  obtain ⟨hc, hw, ht, h11, h12, h13, hwk⟩ := hg
  have hm := h.2.1
  unfold f_X7_underAt gun
  rcases ha with rfl | ha
  · rw [if_pos (by decide), if_pos rfl]
  · obtain ⟨j, hj, rfl⟩ : ∃ j : Nat, j < m ∧ a = j := ⟨a.toNat, by omega, by omega⟩
    rw [s32_of (z := (j : Int)) (by omega) (by omega), if_neg (show ¬ ((j : Int) = 4) by omega), if_neg (show ¬ ((j : Int) = 4) by omega), if_pos (by omega), (hw.2 j hj).2, h11, Int.mul_comm]
/-- a digit of a fit is a mark, or away -/
theorem isF_dg {n m : Nat} {fit : Int} (h : isF n m fit) {k : Nat} (hk : k < n) : dg fit k = 4 ∨ (0 ≤ dg fit k ∧ dg fit k < (m : Int)) := by
  have a := dg_in fit k
  have b := h.2.2 k hk
  omega
theorem c_firstLure {σ : Mem} {n m : Nat} {s : Int → Int} {op fit W S K : Int} (h : Okm n m s) (hg : CG σ n m s op fit W S K) (hF : isF n m fit) (hb : 0 ≤ σ 72 7 ∧ σ 72 7 < 16) {k : Nat} (hk : k < n) : f_X7_firstLure k σ = some (lur W S K s op (σ 72 7) fit n m k, σ) := by
  have hn := h.1
  have hm := h.2.1
  have hd := isF_dg hF hk
  have a1 := gtp_in h hg.2.2.2.2.2.2 op fit hk hd
  have a2 := gun_in h hg.2.2.2.2.2.2 fit (dg fit k)
  have e73 := hg.2.1.1.1 k hk
  unfold f_X7_firstLure
  rw [s32_of (z := (k : Int)) (by omega) (by omega), if_pos (by omega), e73, c_topAt h hg hk hd, ob_some, e73, c_underAt h hg hd, ob_some]
  have hl : itr (fun z => f_X7_firstLure_27 k (gtp W S K s op fit k (dg fit k) n) (gun W s fit (dg fit k) n) z.1 z.2) FU (0, σ) = some (match fst? (fun j => decide (bt (σ 72 7) j = 0 ∧ ¬ gtp W S K s op fit k j n * gun W s fit (dg fit k) n ≤ gtp W S K s op fit k (dg fit k) n * gun W s fit j n)) 0 m with | some j => Sum.inl ((j : Int), σ) | none => Sum.inr σ) := by
    refine itr_fst0 (fun j => decide (bt (σ 72 7) j = 0 ∧ ¬ gtp W S K s op fit k j n * gun W s fit (dg fit k) n ≤ gtp W S K s op fit k (dg fit k) n * gun W s fit j n)) (fun j => ((j : Int), σ)) m (fun j => Sum.inl ((j : Int), σ)) (Sum.inr σ) (by omega) (fun j hj hp => ?_) (fun j hj hp => ?_) ?_
    · have hp2 := dd_f hp
      have hj4 : (j : Int) = 4 ∨ (0 ≤ (j : Int) ∧ (j : Int) < (m : Int)) := by omega
      have b1 := gtp_in h hg.2.2.2.2.2.2 op fit hk hj4
      have b2 := gun_in h hg.2.2.2.2.2.2 fit j
      have b3 := bt_in hb (j := (j : Int)) (by omega)
      show f_X7_firstLure_27 k (gtp W S K s op fit k (dg fit k) n) (gun W s fit (dg fit k) n) (j : Int) σ = _
      unfold f_X7_firstLure_27
      rw [hg.1.2.1, s32_of (z := (m : Int)) (by omega) (by omega), s32_of (z := (j : Int)) (by omega) (by omega), if_neg (by omega), s32_and]
      show (if bt (σ 72 7) j = 0 then _ else _) = _
      by_cases e : bt (σ 72 7) j = 0
      · have hle : gtp W S K s op fit k j n * gun W s fit (dg fit k) n ≤ gtp W S K s op fit k (dg fit k) n * gun W s fit j n := by
          rcases Int.lt_or_le (gtp W S K s op fit k (dg fit k) n * gun W s fit j n) (gtp W S K s op fit k j n * gun W s fit (dg fit k) n) with q | q
          · exact absurd ⟨e, Int.not_le.mpr q⟩ hp2
          · exact q
        have c1 := mul_abs b1 a2
        have c2 := mul_abs a1 b2
        rw [if_pos e, c_topAt h hg hk hj4, ob_some, c_underAt h hg hj4, ob_some, s64_of c1.1 c1.2, s64_of c2.1 c2.2, if_pos hle]
        rfl
      · rw [if_neg e]
        rfl
    · have hp2 := dd_t hp
      have hj4 : (j : Int) = 4 ∨ (0 ≤ (j : Int) ∧ (j : Int) < (m : Int)) := by omega
      have b1 := gtp_in h hg.2.2.2.2.2.2 op fit hk hj4
      have b2 := gun_in h hg.2.2.2.2.2.2 fit j
      have c1 := mul_abs b1 a2
      have c2 := mul_abs a1 b2
      show f_X7_firstLure_27 k (gtp W S K s op fit k (dg fit k) n) (gun W s fit (dg fit k) n) (j : Int) σ = _
      unfold f_X7_firstLure_27
      rw [hg.1.2.1, s32_of (z := (m : Int)) (by omega) (by omega), s32_of (z := (j : Int)) (by omega) (by omega), if_neg (by omega), s32_and]
      show (if bt (σ 72 7) j = 0 then _ else _) = _
      rw [if_pos hp2.1, c_topAt h hg hk hj4, ob_some, c_underAt h hg hj4, ob_some, s64_of c1.1 c1.2, s64_of c2.1 c2.2, if_neg hp2.2]
    · show f_X7_firstLure_27 k _ _ (m : Int) σ = _
      unfold f_X7_firstLure_27
      rw [hg.1.2.1, if_pos (Int.le_refl _)]
  have e9 : s64 (gtp W S K s op fit k (dg fit k) n) = gtp W S K s op fit k (dg fit k) n := s64_of (by omega) (by omega)
  have b1 := gtp_in h hg.2.2.2.2.2.2 op fit hk (a := 4) (Or.inl rfl)
  have c1 := mul_abs b1 a2
  unfold lur
  cases hf : fst? (fun j => decide (bt (σ 72 7) j = 0 ∧ ¬ gtp W S K s op fit k j n * gun W s fit (dg fit k) n ≤ gtp W S K s op fit k (dg fit k) n * gun W s fit j n)) 0 m with
  | some j =>
    rw [hf] at hl
    rw [show itr (fun z => f_X7_firstLure_27 k (gtp W S K s op fit k (dg fit k) n) (gun W s fit (dg fit k) n) z.1 z.2) FU (0, σ) = some (Sum.inl ((j : Int), σ)) from hl, lb_some, Sum.elim_inl]
  | none =>
    rw [hf] at hl
    rw [show itr (fun z => f_X7_firstLure_27 k (gtp W S K s op fit k (dg fit k) n) (gun W s fit (dg fit k) n) z.1 z.2) FU (0, σ) = some (Sum.inr σ) from hl, lb_some, Sum.elim_inr]
    show ob _ _ = _
    rw [c_topAt h hg hk (Or.inl rfl), ob_some, s64_of c1.1 c1.2, e9]
    dsimp only
    split <;> rfl
