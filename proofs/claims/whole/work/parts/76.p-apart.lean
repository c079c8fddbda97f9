/-! PURE 36: apart -/
abbrev AP (fit : Int) (n : Nat) : Prop := ∀ k, k < n → ¬ dg fit k = 4 ∧ ∀ i, i < k → ¬ dg fit i = dg fit k
theorem ap1 : ∀ a, a < 5 → ((if a = 0 then 1 else 0) + (if a = 1 then 1 else 0) + (if a = 2 then 1 else 0) + (if a = 3 then 1 else 0) = (1 : Int) ↔ ¬ a = 4) := by decide +kernel
theorem ap2 : ∀ a, a < 5 → ∀ b, b < 5 → ((if a = 0 ∨ b = 0 then 1 else 0) + (if a = 1 ∨ b = 1 then 1 else 0) + (if a = 2 ∨ b = 2 then 1 else 0) + (if a = 3 ∨ b = 3 then 1 else 0) = (2 : Int) ↔ (¬ a = 4 ∧ ¬ b = 4 ∧ ¬ a = b)) := by decide +kernel
def ap3b (a b c : Nat) : Bool := decide ((if a = 0 ∨ b = 0 ∨ c = 0 then 1 else 0) + (if a = 1 ∨ b = 1 ∨ c = 1 then 1 else 0) + (if a = 2 ∨ b = 2 ∨ c = 2 then 1 else 0) + (if a = 3 ∨ b = 3 ∨ c = 3 then 1 else 0) = (3 : Int)) == decide (¬ a = 4 ∧ ¬ b = 4 ∧ ¬ c = 4 ∧ ¬ a = b ∧ ¬ a = c ∧ ¬ b = c)
theorem ap3b_t : ∀ a, a < 5 → ∀ b, b < 5 → ∀ c, c < 5 → ap3b a b c = true := by decide +kernel
theorem ap3 (a : Nat) (ha : a < 5) (b : Nat) (hb : b < 5) (c : Nat) (hc : c < 5) : ((if a = 0 ∨ b = 0 ∨ c = 0 then 1 else 0) + (if a = 1 ∨ b = 1 ∨ c = 1 then 1 else 0) + (if a = 2 ∨ b = 2 ∨ c = 2 then 1 else 0) + (if a = 3 ∨ b = 3 ∨ c = 3 then 1 else 0) = (3 : Int) ↔ (¬ a = 4 ∧ ¬ b = 4 ∧ ¬ c = 4 ∧ ¬ a = b ∧ ¬ a = c ∧ ¬ b = c)) :=
  decide_eq_decide.mp (eq_of_beq (ap3b_t a ha b hb c hc))
def ap4b (a b c d : Nat) : Bool := decide ((if a = 0 ∨ b = 0 ∨ c = 0 ∨ d = 0 then 1 else 0) + (if a = 1 ∨ b = 1 ∨ c = 1 ∨ d = 1 then 1 else 0) + (if a = 2 ∨ b = 2 ∨ c = 2 ∨ d = 2 then 1 else 0) + (if a = 3 ∨ b = 3 ∨ c = 3 ∨ d = 3 then 1 else 0) = (4 : Int)) == decide (¬ a = 4 ∧ ¬ b = 4 ∧ ¬ c = 4 ∧ ¬ d = 4 ∧ ¬ a = b ∧ ¬ a = c ∧ ¬ b = c ∧ ¬ a = d ∧ ¬ b = d ∧ ¬ c = d)
theorem ap4b_t : ∀ a, a < 5 → ∀ b, b < 5 → ∀ c, c < 5 → ∀ d, d < 5 → ap4b a b c d = true := by decide +kernel
theorem ap4 (a : Nat) (ha : a < 5) (b : Nat) (hb : b < 5) (c : Nat) (hc : c < 5) (d : Nat) (hd : d < 5) : ((if a = 0 ∨ b = 0 ∨ c = 0 ∨ d = 0 then 1 else 0) + (if a = 1 ∨ b = 1 ∨ c = 1 ∨ d = 1 then 1 else 0) + (if a = 2 ∨ b = 2 ∨ c = 2 ∨ d = 2 then 1 else 0) + (if a = 3 ∨ b = 3 ∨ c = 3 ∨ d = 3 then 1 else 0) = (4 : Int) ↔ (¬ a = 4 ∧ ¬ b = 4 ∧ ¬ c = 4 ∧ ¬ d = 4 ∧ ¬ a = b ∧ ¬ a = c ∧ ¬ b = c ∧ ¬ a = d ∧ ¬ b = d ∧ ¬ c = d)) :=
  decide_eq_decide.mp (eq_of_beq (ap4b_t a ha b hb c hc d hd))
theorem bt_ite {x : Int} (hx : 0 ≤ x ∧ x < 16) {j : Nat} (hj : j < 4) {q : Prop} [Decidable q] (h : bt x j = 1 ↔ q) : bt x j = if q then 1 else 0 := by
  have := bt_in hx (j := (j : Int)) (by omega)
  by_cases c : q
  · rw [if_pos c]
    exact h.mpr c
  · rw [if_neg c]
    rcases this with w | w
    · exact w
    · exact absurd (h.mp w) c
theorem pc_AP {x fit : Int} {n : Nat} (hx : 0 ≤ x ∧ x < 16) (hn : 1 ≤ n ∧ n ≤ 4) (hb : ∀ j : Nat, j < 4 → (bt x j = 1 ↔ ∃ k, k < n ∧ dg fit k = j)) : pc x = n ↔ AP fit n := by
  have hd : ∀ k : Nat, ∃ a : Nat, a < 5 ∧ dg fit k = a := fun k => nat_lt_cases (N := 5) (dg_in fit k)
  obtain ⟨a, ha, ea⟩ := hd 0
  obtain ⟨b, hb', eb⟩ := hd 1
  obtain ⟨c, hc, ec⟩ := hd 2
  obtain ⟨d, hd', ed⟩ := hd 3
  have hc4 : n = 1 ∨ n = 2 ∨ n = 3 ∨ n = 4 := by omega
  unfold pc
  rcases hc4 with rfl | rfl | rfl | rfl
  · have hj : ∀ j : Nat, j < 4 → bt x j = if a = j then 1 else 0 := fun j hj => bt_ite hx hj ((hb j hj).trans ⟨fun ⟨k, hk, e⟩ => by
      have k0 : k = 0 := by omega
      subst k0
      omega, fun e => ⟨0, by omega, by omega⟩⟩)
    have h0 := hj 0 (by omega)
    have h1 := hj 1 (by omega)
    have h2 := hj 2 (by omega)
    have h3 := hj 3 (by omega)
    rw [show bt x 0 = _ from h0, show bt x 1 = _ from h1, show bt x 2 = _ from h2, show bt x 3 = _ from h3]
    refine (ap1 a ha).trans ⟨fun w k hk => ?_, fun w => ?_⟩
    · have k0 : k = 0 := by omega
      subst k0
      exact ⟨by omega, fun i hi => absurd hi (Nat.not_lt_zero _)⟩
    · have := (w 0 (by omega)).1
      omega
  · have hj : ∀ j : Nat, j < 4 → bt x j = if a = j ∨ b = j then 1 else 0 := fun j hj => bt_ite hx hj ((hb j hj).trans ⟨fun ⟨k, hk, e⟩ => by
      have k0 : k = 0 ∨ k = 1 := by omega
      rcases k0 with rfl | rfl <;> omega, fun e => by
      rcases e with e | e
      · exact ⟨0, by omega, by omega⟩
      · exact ⟨1, by omega, by omega⟩⟩)
    have h0 := hj 0 (by omega)
    have h1 := hj 1 (by omega)
    have h2 := hj 2 (by omega)
    have h3 := hj 3 (by omega)
    rw [show bt x 0 = _ from h0, show bt x 1 = _ from h1, show bt x 2 = _ from h2, show bt x 3 = _ from h3]
    refine (ap2 a ha b hb').trans ⟨fun w k hk => ?_, fun w => ?_⟩
    · have k0 : k = 0 ∨ k = 1 := by omega
      rcases k0 with rfl | rfl
      · exact ⟨by omega, fun i hi => absurd hi (Nat.not_lt_zero _)⟩
      · refine ⟨by omega, fun i hi => ?_⟩
        have i0 : i = 0 := by omega
        subst i0
        omega
    · have w0 := (w 0 (by omega)).1
      have w1 := (w 1 (by omega)).1
      have w2 := (w 1 (by omega)).2 0 (by omega)
      omega
  · have hj : ∀ j : Nat, j < 4 → bt x j = if a = j ∨ b = j ∨ c = j then 1 else 0 := fun j hj => bt_ite hx hj ((hb j hj).trans ⟨fun ⟨k, hk, e⟩ => by
      have k0 : k = 0 ∨ k = 1 ∨ k = 2 := by omega
      rcases k0 with rfl | rfl | rfl <;> omega, fun e => by
      rcases e with e | e | e
      · exact ⟨0, by omega, by omega⟩
      · exact ⟨1, by omega, by omega⟩
      · exact ⟨2, by omega, by omega⟩⟩)
    have h0 := hj 0 (by omega)
    have h1 := hj 1 (by omega)
    have h2 := hj 2 (by omega)
    have h3 := hj 3 (by omega)
    rw [show bt x 0 = _ from h0, show bt x 1 = _ from h1, show bt x 2 = _ from h2, show bt x 3 = _ from h3]
    refine (ap3 a ha b hb' c hc).trans ⟨fun w k hk => ?_, fun w => ?_⟩
    · have k0 : k = 0 ∨ k = 1 ∨ k = 2 := by omega
      rcases k0 with rfl | rfl | rfl
      · exact ⟨by omega, fun i hi => absurd hi (Nat.not_lt_zero _)⟩
      · refine ⟨by omega, fun i hi => ?_⟩
        have i0 : i = 0 := by omega
        subst i0
        omega
      · refine ⟨by omega, fun i hi => ?_⟩
        have i0 : i = 0 ∨ i = 1 := by omega
        rcases i0 with rfl | rfl <;> omega
    · have w0 := (w 0 (by omega)).1
      have w1 := (w 1 (by omega)).1
      have w2 := (w 2 (by omega)).1
      have w3 := (w 1 (by omega)).2 0 (by omega)
      have w4 := (w 2 (by omega)).2 0 (by omega)
      have w5 := (w 2 (by omega)).2 1 (by omega)
      omega
  · have hj : ∀ j : Nat, j < 4 → bt x j = if a = j ∨ b = j ∨ c = j ∨ d = j then 1 else 0 := fun j hj => bt_ite hx hj ((hb j hj).trans ⟨fun ⟨k, hk, e⟩ => by
      have k0 : k = 0 ∨ k = 1 ∨ k = 2 ∨ k = 3 := by omega
      rcases k0 with rfl | rfl | rfl | rfl <;> omega, fun e => by
      rcases e with e | e | e | e
      · exact ⟨0, by omega, by omega⟩
      · exact ⟨1, by omega, by omega⟩
      · exact ⟨2, by omega, by omega⟩
      · exact ⟨3, by omega, by omega⟩⟩)
    have h0 := hj 0 (by omega)
    have h1 := hj 1 (by omega)
    have h2 := hj 2 (by omega)
    have h3 := hj 3 (by omega)
    rw [show bt x 0 = _ from h0, show bt x 1 = _ from h1, show bt x 2 = _ from h2, show bt x 3 = _ from h3]
    refine (ap4 a ha b hb' c hc d hd').trans ⟨fun w k hk => ?_, fun w => ?_⟩
    · have k0 : k = 0 ∨ k = 1 ∨ k = 2 ∨ k = 3 := by omega
      rcases k0 with rfl | rfl | rfl | rfl
      · exact ⟨by omega, fun i hi => absurd hi (Nat.not_lt_zero _)⟩
      · refine ⟨by omega, fun i hi => ?_⟩
        have i0 : i = 0 := by omega
        subst i0
        omega
      · refine ⟨by omega, fun i hi => ?_⟩
        have i0 : i = 0 ∨ i = 1 := by omega
        rcases i0 with rfl | rfl <;> omega
      · refine ⟨by omega, fun i hi => ?_⟩
        have i0 : i = 0 ∨ i = 1 ∨ i = 2 := by omega
        rcases i0 with rfl | rfl | rfl <;> omega
    · have w0 := (w 0 (by omega)).1
      have w1 := (w 1 (by omega)).1
      have w2 := (w 2 (by omega)).1
      have w6 := (w 3 (by omega)).1
      have w3 := (w 1 (by omega)).2 0 (by omega)
      have w4 := (w 2 (by omega)).2 0 (by omega)
      have w5 := (w 2 (by omega)).2 1 (by omega)
      have w7 := (w 3 (by omega)).2 0 (by omega)
      have w8 := (w 3 (by omega)).2 1 (by omega)
      have w9 := (w 3 (by omega)).2 2 (by omega)
      omega
theorem c_tells {σ : Mem} {n : Nat} (h0 : σ 10 0 = n) (hn : 1 ≤ n ∧ n ≤ 4) {fit : Int} (f0 : 0 ≤ fit) (f1 : fit ≤ 2147483647) : ∃ τ, f_X7_tellsAllApart fit σ = some (bi (AP fit n), τ) ∧ CS σ τ := by
  obtain ⟨τ, e, hL, hC⟩ := c_lay h0 hn.2 f0 f1
  have t0 : τ 10 0 = n := (hC.at 10 0 (by omega)).trans h0
  have hp := pc_in hL.2.1
  refine ⟨τ, ?_, hC⟩
  unfold f_X7_tellsAllApart
  rw [e, ob_some, c_bitCount, ob_some, jbc_pc hL.2.1, t0, s32_of (z := pc (τ 72 10)) (by omega) (by omega), s32_of (z := (n : Int)) (by omega) (by omega)]
  have hA := pc_AP hL.2.1 hn hL.2.2
  by_cases c : AP fit n
  · rw [if_pos (hA.mpr c), bi_t c]
  · rw [if_neg (fun z => c (hA.mp z)), bi_f c]
theorem m_isApart {σ : Mem} {n : Nat} (h0 : σ 121 0 = n) (hn : n ≤ 4) {fit : Int} (f0 : 0 ≤ fit) (f1 : fit ≤ 2147483647) : f_X12_isApart fit σ = some (bi (AP fit n), σ) := by
  have hl : ∃ b, itr (fun z => f_X12_isApart_4 fit z.1 z.2.1 z.2.2) FU (0, 0, σ) = some b ∧ (match fst? (fun k => decide (¬ (¬ dg fit k = 4 ∧ ∀ i, i < k → ¬ dg fit i = dg fit k))) 0 n with | some k => b = Sum.inl (0, σ) | none => b = Sum.inr σ) := by
    have step : ∀ k : Nat, k < n → ∀ x : Int, (0 ≤ x ∧ x < 16) → (∀ j : Nat, j < 4 → (bt x j = 1 ↔ ∃ i, i < k ∧ dg fit i = j)) → f_X12_isApart_4 fit x (k : Int) σ = (if ¬ dg fit k = 4 ∧ ∀ i, i < k → ¬ dg fit i = dg fit k then some (Sum.inl (or32 x (shl32 1 (dg fit k)), (k : Int) + 1, σ)) else some (Sum.inr (Sum.inl (0, σ)))) := by
      intro k hk x hx hb
      have hd := dg_in fit k
      unfold f_X12_isApart_4
      rw [h0, s32_of (z := (n : Int)) (by omega) (by omega), s32_of (z := (k : Int)) (by omega) (by omega), if_neg (by omega), m_made f0 f1 (by omega), ob_some, s32_of (z := dg fit k) (by omega) (by omega)]
      by_cases e4 : dg fit k = 4
      · rw [if_pos e4, if_neg (fun z => z.1 e4)]
      · obtain ⟨j, hj, ej⟩ : ∃ j : Nat, j < 4 ∧ dg fit k = j := ⟨(dg fit k).toNat, by omega, by omega⟩
        rw [if_neg e4]
        show (if s32 (bt x (dg fit k)) = 1 then _ else _) = _
        rw [show s32 (bt x (dg fit k)) = bt x (dg fit k) from s32_and _ _]
        by_cases c : bt x (dg fit k) = 1
        · rw [if_pos c, if_neg]
          rw [ej] at c
          obtain ⟨i, hi, ei⟩ := (hb j hj).mp c
          exact fun z => z.2 i hi (by rw [ei, ej])
        · rw [if_neg c, if_pos]
          rw [ej] at c
          exact ⟨e4, fun i hi z => c ((hb j hj).mpr ⟨i, hi, by rw [z, ej]⟩)⟩
    refine itr_fstH (fun k => decide (¬ (¬ dg fit k = 4 ∧ ∀ i, i < k → ¬ dg fit i = dg fit k))) (fun k z => ∃ x : Int, z = (x, (k : Int), σ) ∧ (0 ≤ x ∧ x < 16) ∧ ∀ j : Nat, j < 4 → (bt x j = 1 ↔ ∃ i, i < k ∧ dg fit i = j)) (fun _ b => b = Sum.inl (0, σ)) (fun b => b = Sum.inr σ) n (by omega) ⟨0, rfl, by decide, ?_⟩ (fun k hk z hz hp => ?_) (fun k hk z hz hp => ?_) (fun z hz => ?_)
    · have hz : ∀ j : Nat, j < 4 → bt 0 j = 0 := by decide +kernel
      intro j hj
      rw [hz j hj]
      constructor
      · intro q
        cases q
      · rintro ⟨i, hi, -⟩
        exact absurd hi (Nat.not_lt_zero _)
    · obtain ⟨x, rfl, hx, hb⟩ := hz
      have hp2 := Decidable.not_not.mp (dd_f hp)
      have hd := dg_in fit k
      have w := fun (j : Int) (hj : 0 ≤ j ∧ j < 4) => bt_set (x := x) (p := dg fit k) hx (by have := hp2.1; omega) hj
      refine ⟨(or32 x (shl32 1 (dg fit k)), (k : Int) + 1, σ), ?_, _, rfl, (w 0 (by decide)).2, fun j hj => ?_⟩
      · have := step k hk x hx hb
        rw [if_pos hp2] at this
        exact this
      · rw [(w j (by omega)).1]
        by_cases e : dg fit k = j
        · rw [if_pos e]
          exact ⟨fun _ => ⟨k, by omega, e⟩, fun _ => rfl⟩
        · rw [if_neg e, hb j hj]
          constructor
          · rintro ⟨i, hi, e2⟩
            exact ⟨i, by omega, e2⟩
          · rintro ⟨i, hi, e2⟩
            rcases Nat.lt_or_ge i k with q | q
            · exact ⟨i, q, e2⟩
            · rw [show i = k by omega] at e2
              exact absurd e2 e
    · obtain ⟨x, rfl, hx, hb⟩ := hz
      have hp2 := dd_t hp
      refine ⟨Sum.inl (0, σ), ?_, rfl⟩
      have := step k hk x hx hb
      rw [if_neg hp2] at this
      exact this
    · obtain ⟨x, rfl, hx, hb⟩ := hz
      refine ⟨Sum.inr σ, ?_, rfl⟩
      show f_X12_isApart_4 fit x (n : Int) σ = _
      unfold f_X12_isApart_4
      rw [h0, if_pos (Int.le_refl _)]
  obtain ⟨b, e, hb⟩ := hl
  unfold f_X12_isApart
  rw [e, lb_some]
  cases hf : fst? (fun k => decide (¬ (¬ dg fit k = 4 ∧ ∀ i, i < k → ¬ dg fit i = dg fit k))) 0 n with
  | some k =>
    rw [hf] at hb
    have hb' : b = Sum.inl (0, σ) := hb
    rw [hb', Sum.elim_inl, bi_f]
    obtain ⟨h1, h2, h3⟩ := fst?_some hf
    exact fun z => (dd_t h3) (z k (by omega))
  | none =>
    rw [hf] at hb
    have hb' : b = Sum.inr σ := hb
    rw [hb', Sum.elim_inr, bi_t]
    rw [fst?_none] at hf
    exact fun k hk => Decidable.not_not.mp (dd_f (hf k (by omega) (by omega)))
/-- the best of 0 .. f-1 -/
def apF (P : Nat → Bool) (g : Int → Int) : Nat → Int
  | 0 => -4
  | f + 1 => if P f = true then (if apF P g f = -4 then (f : Int) else if g (apF P g f) ≤ g (f : Int) then apF P g f else (f : Int)) else apF P g f
theorem apF_in {P : Nat → Bool} {g : Int → Int} {Q : Int → Prop} (hQ : ∀ f : Nat, P f = true → Q (f : Int)) : ∀ f : Nat, apF P g f = -4 ∨ (0 ≤ apF P g f ∧ apF P g f < (f : Int) ∧ Q (apF P g f))
  | 0 => Or.inl rfl
  | f + 1 => by
    have ih := apF_in (g := g) hQ f
    have mine : P f = true → (0 ≤ (f : Int) ∧ (f : Int) < ((f + 1 : Nat) : Int) ∧ Q (f : Int)) := fun c => ⟨by omega, by omega, hQ f c⟩
    have up : apF P g f = -4 ∨ (0 ≤ apF P g f ∧ apF P g f < ((f + 1 : Nat) : Int) ∧ Q (apF P g f)) := by
      rcases ih with q | q
      · exact Or.inl q
      · exact Or.inr ⟨q.1, by omega, q.2.2⟩
    unfold apF
    by_cases c : P f = true
    · rw [if_pos c]
      by_cases c2 : apF P g f = -4
      · rw [if_pos c2]
        exact Or.inr (mine c)
      · rw [if_neg c2]
        by_cases c3 : g (apF P g f) ≤ g (f : Int)
        · rw [if_pos c3]
          exact up
        · rw [if_neg c3]
          exact Or.inr (mine c)
    · rw [if_neg c]
      exact up
def apB (s : Int → Int) (n m : Nat) (f : Nat) : Bool := decide (AP (f : Int) n ∧ SU 1 1 0 s 0 0 (f : Int) n m)
theorem op_apart {σ : Mem} (h : Rel σ) : Op σ (f_X11_apart) (f_X12_apart) := by
  unfold Op f_X11_apart f_X12_apart
  by_cases q : σ 0 6 = 0
  · refine ⟨-3, σ, σ, ?_, ?_, h⟩
    · rw [q, if_pos s32_0]
    · rw [m_closed h q, ob_some, if_pos s32_0]
  · obtain ⟨e1, n, m, hO, hB, hM, e6, e7⟩ := h.mk2 q
    have hn := hO.1.1
    have hm := hO.1.2.1
    have hF9 := h.1.2.2.2.2.1.2.2
    have p4 := p5_in n hn.2
    obtain ⟨T, hT⟩ : ∃ T : Nat, p5 n = T := ⟨(p5 n).toNat, by omega⟩
    have hg : ∀ f : Int, isF n m f → 0 ≤ wst (σ 121) f n ∧ wst (σ 121) f n ≤ 1000000 := fun f hF => by
      have := wst_in hO.1 hF n (Nat.le_refl n)
      omega
    have hin := fun f => apF_in (P := apB (σ 121) n m) (g := fun f => wst (σ 121) f n) (Q := isF n m) (fun f hp => (of_decide_eq_true hp).2.1) f
    have lc : ∃ b, itr (fun z => f_X11_apart_26 (p5 n) z.1 z.2.1 z.2.2.1 z.2.2.2) FU (-4, 0, 0, σ) = some b ∧ ∃ τ, b = (apF (apB (σ 121) n m) (fun f => wst (σ 121) f n) T, τ) ∧ CS σ τ := by
      refine itr_forH (fun f z => ∃ τ, z = (apF (apB (σ 121) n m) (fun f => wst (σ 121) f n) f, (if apF (apB (σ 121) n m) (fun f => wst (σ 121) f n) f = -4 then 0 else wst (σ 121) (apF (apB (σ 121) n m) (fun f => wst (σ 121) f n) f) n), (f : Int), τ) ∧ CS σ τ) _ T (by omega) ⟨σ, rfl, CS.rf⟩ (fun f hf z hz => ?_) (fun z hz => ?_)
      · obtain ⟨τ, rfl, hC⟩ := hz
        have hv : s32 (f : Int) = f := s32_of (by omega) (by omega)
        have hb1 := hB.cs hC hm.2
        have hinf := hin f
        have goal : ∀ τ', CS σ τ' → f_X11_apart_26 (p5 n) (apF (apB (σ 121) n m) (fun f => wst (σ 121) f n) f) (if apF (apB (σ 121) n m) (fun f => wst (σ 121) f n) f = -4 then 0 else wst (σ 121) (apF (apB (σ 121) n m) (fun f => wst (σ 121) f n) f) n) (f : Int) τ = some (Sum.inl (apF (apB (σ 121) n m) (fun f => wst (σ 121) f n) (f + 1), (if apF (apB (σ 121) n m) (fun f => wst (σ 121) f n) (f + 1) = -4 then 0 else wst (σ 121) (apF (apB (σ 121) n m) (fun f => wst (σ 121) f n) (f + 1)) n), ((f + 1 : Nat) : Int), τ')) → ∃ y, f_X11_apart_26 (p5 n) (apF (apB (σ 121) n m) (fun f => wst (σ 121) f n) f) (if apF (apB (σ 121) n m) (fun f => wst (σ 121) f n) f = -4 then 0 else wst (σ 121) (apF (apB (σ 121) n m) (fun f => wst (σ 121) f n) f) n) (f : Int) τ = some (Sum.inl y) ∧ ∃ τ, y = (apF (apB (σ 121) n m) (fun f => wst (σ 121) f n) (f + 1), (if apF (apB (σ 121) n m) (fun f => wst (σ 121) f n) (f + 1) = -4 then 0 else wst (σ 121) (apF (apB (σ 121) n m) (fun f => wst (σ 121) f n) (f + 1)) n), ((f + 1 : Nat) : Int), τ) ∧ CS σ τ := fun τ' h1 h2 => ⟨_, h2, τ', rfl, h1⟩
        have en : apF (apB (σ 121) n m) (fun f => wst (σ 121) f n) (f + 1) = if apB (σ 121) n m f = true then (if apF (apB (σ 121) n m) (fun f => wst (σ 121) f n) f = -4 then (f : Int) else if wst (σ 121) (apF (apB (σ 121) n m) (fun f => wst (σ 121) f n) f) n ≤ wst (σ 121) (f : Int) n then apF (apB (σ 121) n m) (fun f => wst (σ 121) f n) f else (f : Int)) else apF (apB (σ 121) n m) (fun f => wst (σ 121) f n) f := rfl
        have no : ¬ (AP (f : Int) n ∧ SU 1 1 0 (σ 121) 0 0 (f : Int) n m) → apF (apB (σ 121) n m) (fun f => wst (σ 121) f n) (f + 1) = apF (apB (σ 121) n m) (fun f => wst (σ 121) f n) f := fun z => by
          rw [en, if_neg (show ¬ apB (σ 121) n m f = true from fun y => z (of_decide_eq_true y))]
        show ∃ y, f_X11_apart_26 (p5 n) (apF (apB (σ 121) n m) (fun f => wst (σ 121) f n) f) (if apF (apB (σ 121) n m) (fun f => wst (σ 121) f n) f = -4 then 0 else wst (σ 121) (apF (apB (σ 121) n m) (fun f => wst (σ 121) f n) f) n) (f : Int) τ = some (Sum.inl y) ∧ _
        by_cases c1 : isF n m (f : Int)
        · obtain ⟨τ1, et, hC1⟩ := c_tells hb1.1.1 ⟨hn.1, hn.2⟩ c1.1 (by have := c1.2.1; omega)
          have hC2 := hC.tr hC1
          by_cases c2 : AP (f : Int) n
          · obtain ⟨τ2, es, hC3, -, -, hgg⟩ := c_sureAt hO.1 (hB.cs hC2 hm.2) ((hC2.at 72 6 (by omega)).trans e6) ((hC2.at 72 7 (by omega)).trans e7) hv
            have hC4 := hC2.tr hC3
            by_cases c3 : SU 1 1 0 (σ 121) 0 0 (f : Int) n m
            · refine goal τ2 hC4 ?_
              have hwf := hg (f : Int) c1
              rw [en, if_pos (show apB (σ 121) n m f = true from decide_eq_true ⟨c2, c3⟩)]
              unfold f_X11_apart_26
              rw [hv, s32_of (z := p5 n) (by omega) (by omega), if_neg (by omega), c_fitAt hO.1 hb1 hv, ob_some, bi_t c1, if_neg (by decide), et, ob_some, bi_t c2, if_neg (by decide), es, ob_some, bi_t c3, if_neg (by decide), c_wasted hO.1 (hB.1.cs hC4 hm.2) ((hC4.at 72 9 (by omega)).trans hF9) (hgg c1).2.1.1 c1, ob_some, s32_of (z := wst (σ 121) (f : Int) n) (by omega) (by omega)]
              rcases hinf with e4 | ⟨i1, i2, i3⟩
              · rw [e4, if_pos (by decide), if_pos rfl, if_neg (by omega)]
                rfl
              · have hw2 := hg _ i3
                rw [s32_of (z := apF (apB (σ 121) n m) (fun f => wst (σ 121) f n) f) (by omega) (by omega), if_neg (show ¬ apF (apB (σ 121) n m) (fun f => wst (σ 121) f n) f = -4 by omega), if_neg (show ¬ apF (apB (σ 121) n m) (fun f => wst (σ 121) f n) f = -4 by omega), if_neg (show ¬ apF (apB (σ 121) n m) (fun f => wst (σ 121) f n) f = -4 by omega), s32_of (z := wst (σ 121) (apF (apB (σ 121) n m) (fun f => wst (σ 121) f n) f) n) (by omega) (by omega)]
                by_cases c5 : wst (σ 121) (apF (apB (σ 121) n m) (fun f => wst (σ 121) f n) f) n ≤ wst (σ 121) (f : Int) n
                · rw [if_pos c5, if_pos c5, if_neg (show ¬ apF (apB (σ 121) n m) (fun f => wst (σ 121) f n) f = -4 by omega)]
                  rfl
                · rw [if_neg c5, if_neg c5, if_neg (by omega)]
                  rfl
            · refine goal τ2 hC4 ?_
              rw [no (fun z => c3 z.2)]
              unfold f_X11_apart_26
              rw [hv, s32_of (z := p5 n) (by omega) (by omega), if_neg (by omega), c_fitAt hO.1 hb1 hv, ob_some, bi_t c1, if_neg (by decide), et, ob_some, bi_t c2, if_neg (by decide), es, ob_some, bi_f c3, if_pos s32_0]
              rfl
          · refine goal τ1 hC2 ?_
            rw [no (fun z => c2 z.1)]
            unfold f_X11_apart_26
            rw [hv, s32_of (z := p5 n) (by omega) (by omega), if_neg (by omega), c_fitAt hO.1 hb1 hv, ob_some, bi_t c1, if_neg (by decide), et, ob_some, bi_f c2, if_pos s32_0]
            rfl
        · refine goal τ hC ?_
          rw [no (fun z => c1 z.2.1)]
          unfold f_X11_apart_26
          rw [hv, s32_of (z := p5 n) (by omega) (by omega), if_neg (by omega), c_fitAt hO.1 hb1 hv, ob_some, bi_f c1, if_pos s32_0]
          rfl
      · obtain ⟨τ, rfl, hC⟩ := hz
        refine ⟨_, ?_, τ, rfl, hC⟩
        show f_X11_apart_26 (p5 n) _ _ (T : Int) τ = _
        unfold f_X11_apart_26
        rw [hT, if_pos (Int.le_refl _)]
    obtain ⟨b, eb, τ, rfl, hC⟩ := lc
    have hMt := hM.co hC.co
    have e121 : τ 121 = σ 121 := hC.co.row 121 (fun i => by unfold scr; omega)
    have lm : ∃ b, itr (fun z => f_X12_apart_15 z.1 z.2.1 z.2.2) FU (-4, 0, τ) = some b ∧ ∃ u v, b = (apF (apB (σ 121) n m) (fun f => wst (σ 121) f n) T, ab τ u v) := by
      refine itr_forH (fun f z => ∃ u v, z = (apF (apB (σ 121) n m) (fun f => wst (σ 121) f n) f, (f : Int), ab τ u v)) _ T (by omega) ⟨τ 120 21, τ 120 22, by rw [ab_of]; rfl⟩ (fun f hf z hz => ?_) (fun z hz => ?_)
      · obtain ⟨u, v, rfl⟩ := hz
        have hv : s32 (f : Int) = f := s32_of (by omega) (by omega)
        have hM1 := hMt.co (ab_co (x := u) (y := v))
        have hinf := hin f
        have ea := m_isApart (σ := ab τ u v) (n := n) hM1.1.2.2.1 hn.2 (fit := (f : Int)) (by omega) (by omega)
        obtain ⟨u2, v2, es⟩ := m_sureAt hM1 hv
        rw [ab_ab, ab_s, e121] at es
        have ew : ∀ g : Int, isF n m g → f_X12_wasteOf g (ab τ u2 v2) = some (wst (σ 121) g n, ab τ u2 v2) := fun g hF => by
          have := m_wasteOf (σ := ab τ u2 v2) (n := n) (m := m) (by rw [ab_s, e121]; exact hO.1) hF
          rw [ab_s, e121] at this
          exact this
        have goal : ∀ u' v', f_X12_apart_15 (apF (apB (σ 121) n m) (fun f => wst (σ 121) f n) f) (f : Int) (ab τ u v) = some (Sum.inl (apF (apB (σ 121) n m) (fun f => wst (σ 121) f n) (f + 1), ((f + 1 : Nat) : Int), ab τ u' v')) → ∃ y, f_X12_apart_15 (apF (apB (σ 121) n m) (fun f => wst (σ 121) f n) f) (f : Int) (ab τ u v) = some (Sum.inl y) ∧ ∃ u v, y = (apF (apB (σ 121) n m) (fun f => wst (σ 121) f n) (f + 1), ((f + 1 : Nat) : Int), ab τ u v) := fun u' v' h2 => ⟨_, h2, u', v', rfl⟩
        have en : apF (apB (σ 121) n m) (fun f => wst (σ 121) f n) (f + 1) = if apB (σ 121) n m f = true then (if apF (apB (σ 121) n m) (fun f => wst (σ 121) f n) f = -4 then (f : Int) else if wst (σ 121) (apF (apB (σ 121) n m) (fun f => wst (σ 121) f n) f) n ≤ wst (σ 121) (f : Int) n then apF (apB (σ 121) n m) (fun f => wst (σ 121) f n) f else (f : Int)) else apF (apB (σ 121) n m) (fun f => wst (σ 121) f n) f := rfl
        have no : ¬ (AP (f : Int) n ∧ SU 1 1 0 (σ 121) 0 0 (f : Int) n m) → apF (apB (σ 121) n m) (fun f => wst (σ 121) f n) (f + 1) = apF (apB (σ 121) n m) (fun f => wst (σ 121) f n) f := fun z => by
          rw [en, if_neg (show ¬ apB (σ 121) n m f = true from fun y => z (of_decide_eq_true y))]
        show ∃ y, f_X12_apart_15 (apF (apB (σ 121) n m) (fun f => wst (σ 121) f n) f) (f : Int) (ab τ u v) = some (Sum.inl y) ∧ _
        by_cases c2 : AP (f : Int) n
        · by_cases c3 : SU 1 1 0 (σ 121) 0 0 (f : Int) n m
          · refine goal u2 v2 ?_
            have hwf := hg (f : Int) c3.1
            rw [en, if_pos (show apB (σ 121) n m f = true from decide_eq_true ⟨c2, c3⟩)]
            unfold f_X12_apart_15
            rw [m_fits hM1.1.2.2.1 hn.2, ob_some, hv, s32_of (z := p5 n) (by omega) (by omega), if_neg (by omega), ea, ob_some, bi_t c2, if_neg (by decide), es, ob_some, bi_t c3, if_neg (by decide)]
            rcases hinf with e4 | ⟨i1, i2, i3⟩
            · rw [e4, if_pos (by decide), if_pos rfl]
              rfl
            · have hw2 := hg _ i3
              rw [s32_of (z := apF (apB (σ 121) n m) (fun f => wst (σ 121) f n) f) (by omega) (by omega), if_neg (show ¬ apF (apB (σ 121) n m) (fun f => wst (σ 121) f n) f < 0 by omega), if_neg (show ¬ apF (apB (σ 121) n m) (fun f => wst (σ 121) f n) f = -4 by omega), ew _ c3.1, ob_some, ew _ i3, ob_some, s32_of (z := wst (σ 121) (apF (apB (σ 121) n m) (fun f => wst (σ 121) f n) f) n) (by omega) (by omega), s32_of (z := wst (σ 121) (f : Int) n) (by omega) (by omega)]
              by_cases c5 : wst (σ 121) (apF (apB (σ 121) n m) (fun f => wst (σ 121) f n) f) n ≤ wst (σ 121) (f : Int) n
              · rw [if_pos c5, if_pos c5]
                rfl
              · rw [if_neg c5, if_neg c5]
                rfl
          · refine goal u2 v2 ?_
            rw [no (fun z => c3 z.2)]
            unfold f_X12_apart_15
            rw [m_fits hM1.1.2.2.1 hn.2, ob_some, hv, s32_of (z := p5 n) (by omega) (by omega), if_neg (by omega), ea, ob_some, bi_t c2, if_neg (by decide), es, ob_some, bi_f c3, if_pos s32_0]
            rfl
        · refine goal u v ?_
          rw [no (fun z => c2 z.1)]
          unfold f_X12_apart_15
          rw [m_fits hM1.1.2.2.1 hn.2, ob_some, hv, s32_of (z := p5 n) (by omega) (by omega), if_neg (by omega), ea, ob_some, bi_f c2, if_pos s32_0]
          rfl
      · obtain ⟨u, v, rfl⟩ := hz
        have hM1 := hMt.co (ab_co (x := u) (y := v))
        refine ⟨_, ?_, u, v, rfl⟩
        show f_X12_apart_15 _ (T : Int) (ab τ u v) = _
        unfold f_X12_apart_15
        rw [m_fits hM1.1.2.2.1 hn.2, ob_some, hT, if_pos (Int.le_refl _)]
    obtain ⟨b, em, u, v, rfl⟩ := lm
    refine ⟨apF (apB (σ 121) n m) (fun f => wst (σ 121) f n) T, τ, ab τ u v, ?_, ?_, (h.co hC.co).co ab_co⟩
    · rw [e1, if_neg (by decide), c_fitNumbers' hB.1.1 hn.2, ob_some, eb, lb_some]
    · rw [m_openAt hMt, ob_some, if_neg (by decide), em, lb_some]
