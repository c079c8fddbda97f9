/-! PURE 46: a text, read: what it says, and the model's reading -/
theorem itr_in {α β : Type} {f : α → Option (α ⊕ β)} {x y : α} {N : Nat} (h : f x = some (.inl y)) : itr f (N + 1) x = itr f N y := by
  show (match f x with | none => none | some (.inl y) => itr f N y | some (.inr b) => some b) = _
  rw [h]
theorem itr_out {α β : Type} {f : α → Option (α ⊕ β)} {x : α} {b : β} {N : Nat} (h : f x = some (.inr b)) : itr f (N + 1) x = some b := by
  show (match f x with | none => none | some (.inl y) => itr f N y | some (.inr b) => some b) = _
  rw [h]
abbrev dgt (x : Int) : Prop := 48 ≤ x ∧ x ≤ 57
/-- a number from place p on: is there one, the place behind it, its value -/
def nmb (t : Nat → Int) (p : Nat) : Bool × Nat × Int :=
  if dgt (t p) then (if 0 < t p - 48 ∧ dgt (t (p + 1)) then (if dgt (t (p + 2)) then (true, p + 3, 10 * (10 * (t p - 48) + t (p + 1) - 48) + t (p + 2) - 48) else (true, p + 2, 10 * (t p - 48) + t (p + 1) - 48)) else (true, p + 1, t p - 48)) else (false, p, 0)
/-- numbers and blanks, behind the first number; k are read -/
def prs (t : Nat → Int) (most least : Int) : Nat → Nat → Nat → (Nat → Int) → Bool × Nat × Nat × (Nat → Int)
  | 0, p, k, nums => (false, p, k, nums)
  | g + 1, p, k, nums =>
    if (k : Int) < most ∧ ((k : Int) < least ∨ t p = 32) then
      (if t p = 32 then (if (nmb t (p + 1)).1 = true then prs t most least g (nmb t (p + 1)).2.1 (k + 1) (fun j => if j = k then (nmb t (p + 1)).2.2 else nums j) else (false, (nmb t (p + 1)).2.1, k, nums)) else (false, p, k, nums))
    else if t p = 59 then (true, p + 1, k, nums) else (false, p, k, nums)
def mst (c : Int) : Int := if c = 115 then 3 else if c = 116 then 2 else 120
def lst (c : Int) : Int := if c = 109 then 1 else mst c
/-- a statement from place p on -/
def psm (t : Nat → Int) (p : Nat) : Bool × Nat × Nat × (Nat → Int) :=
  if t p = 115 ∨ t p = 109 ∨ t p = 116 then (if (nmb t (p + 1)).1 = true then prs t (mst (t p)) (lst (t p)) 200 (nmb t (p + 1)).2.1 1 (fun _ => (nmb t (p + 1)).2.2) else (false, (nmb t (p + 1)).2.1, 0, fun _ => 0)) else (false, p, 0, fun _ => 0)
/-- the text, and nothing behind it -/
def TX (t : Nat → Int) (N : Nat) : Prop := N ≤ 120 ∧ (∀ p, p < N → inI (t p)) ∧ ∀ p, N ≤ p → t p = -1000
theorem nmb_t {t : Nat → Int} {N p : Nat} (h : TX t N) (c : (nmb t p).1 = true) : dgt (t p) ∧ (p < (nmb t p).2.1 ∧ (nmb t p).2.1 ≤ N) ∧ (0 ≤ (nmb t p).2.2 ∧ (nmb t p).2.2 ≤ 999) := by
  have lt : ∀ q, dgt (t q) → q < N := fun q hq => by
    rcases Nat.lt_or_ge q N with z | z
    · exact z
    · have := h.2.2 q z
      rw [this] at hq
      exact absurd hq.1 (by decide)
  unfold nmb at c ⊢
  by_cases c1 : dgt (t p)
  · rw [if_pos c1] at c ⊢
    have l1 := lt p c1
    by_cases c2 : 0 < t p - 48 ∧ dgt (t (p + 1))
    · rw [if_pos c2]
      have l2 := lt (p + 1) c2.2
      by_cases c3 : dgt (t (p + 2))
      · rw [if_pos c3]
        have l3 := lt (p + 2) c3
        exact ⟨c1, by dsimp only; omega, by dsimp only; omega⟩
      · rw [if_neg c3]
        exact ⟨c1, by dsimp only; omega, by dsimp only; omega⟩
    · rw [if_neg c2]
      exact ⟨c1, by dsimp only; omega, by dsimp only; omega⟩
  · rw [if_neg c1] at c
    cases c
theorem nmb_f {t : Nat → Int} {p : Nat} (c : ¬ (nmb t p).1 = true) : ¬ dgt (t p) ∧ (nmb t p).2.1 = p := by
  unfold nmb at c ⊢
  by_cases c1 : dgt (t p)
  · rw [if_pos c1] at c
    exfalso
    apply c
    (repeat' split) <;> rfl
  · rw [if_neg c1]
    exact ⟨c1, rfl⟩
/-- the model stands in a text: what is behind it, where it stands, what it has read -/
def MF (σ μ : Mem) : Prop := ∀ a i : Int, ¬ ((a = 120 ∧ (i = 11 ∨ i = 14 ∨ i = 15)) ∨ a = 130) → μ a i = σ a i
def MR (σ μ : Mem) (p k : Nat) (nums : Nat → Int) : Prop := MF σ μ ∧ μ 120 11 = p ∧ μ 120 15 = k ∧ ∀ j : Nat, j < k → μ 130 j = nums j
def MT (σ : Mem) (d : Nat) (t : Nat → Int) (N : Nat) : Prop := d < 8 ∧ TX t N ∧ σ 120 12 = 120 * (d : Int) ∧ σ 120 13 = N ∧ ∀ p : Nat, p < N → σ 127 (120 * d + p) = t p
theorem MF.up {σ μ : Mem} (h : MF σ μ) {a i v : Int} (q : (a = 120 ∧ (i = 11 ∨ i = 14 ∨ i = 15)) ∨ a = 130) : MF σ (ups μ a i v) := by
  intro b j w
  unfold ups
  rw [if_neg (fun z => w (by rw [z.1, z.2]; exact q))]
  exact h b j w
theorem m_sign {σ μ : Mem} {d N p k : Nat} {t nums : Nat → Int} (hT : MT σ d t N) (hQ : MR σ μ p k nums) (hp : p ≤ N) : f_X12_sign μ = some (t p, μ) := by
  obtain ⟨hd, hX, h12, h13, hv⟩ := hT
  have hN := hX.1
  have e12 : μ 120 12 = 120 * (d : Int) := (hQ.1 120 12 (by omega)).trans h12
  have e13 : μ 120 13 = N := (hQ.1 120 13 (by omega)).trans h13
  unfold f_X12_sign
  rw [e13, hQ.2.1, e12, s32_of (z := (N : Int)) (by omega) (by omega), s32_of (z := (p : Int)) (by omega) (by omega), s32_of (z := 120 * (d : Int) + (p : Int)) (by omega) (by omega)]
  by_cases c : p < N
  · rw [if_neg (by omega), if_pos (by omega), hQ.1 127 _ (by omega), hv p c]
  · rw [if_pos (by omega), hX.2.2 p (by omega)]
theorem TX.s32 {t : Nat → Int} {N : Nat} (h : TX t N) (p : Nat) : s32 (t p) = t p := by
  rcases Nat.lt_or_ge p N with z | z
  · have := h.2.1 p z
    exact s32_of this.1 this.2
  · rw [h.2.2 p z]
    decide
theorem TX.inI {t : Nat → Int} {N : Nat} (h : TX t N) (p : Nat) : -2147483648 ≤ t p ∧ t p ≤ 2147483647 := by
  rcases Nat.lt_or_ge p N with z | z
  · exact h.2.1 p z
  · rw [h.2.2 p z]
    decide
theorem m_takes {σ μ : Mem} {d N p k : Nat} {t nums : Nat → Int} (hT : MT σ d t N) (hQ : MR σ μ p k nums) (hp : p ≤ N) {c : Int} (hc : s32 c = c) : f_X12_takes c μ = if t p = c then some (1, ups μ 120 11 ((p + 1 : Nat) : Int)) else some (0, μ) := by
  unfold f_X12_takes
  rw [m_sign hT hQ hp, ob_some, hT.2.1.s32, hc, hQ.2.1]
  rfl
theorem m_digit {σ μ : Mem} {d N p k : Nat} {t nums : Nat → Int} (hT : MT σ d t N) : f_X12_isIn (s32 (t p)) 48 57 μ = some (bi (dgt (t p)), μ) := by
  rw [hT.2.1.s32, m_isInT (hT.2.1.inI p) (by decide) (by decide)]
/-- a number, read by the model -/
theorem m_number {σ μ : Mem} {d N p k : Nat} {t nums : Nat → Int} (hT : MT σ d t N) (hQ : MR σ μ p k nums) (hp : p ≤ N) (hk : k < 120) (c : (nmb t p).1 = true) : ∃ μ', f_X12_readsNumber μ = some (1, μ') ∧ MR σ μ' (nmb t p).2.1 (k + 1) (fun j => if j = k then (nmb t p).2.2 else nums j) := by
  have hN := hT.2.1.1
  have lt : ∀ q, dgt (t q) → q < N := fun q hq => by
    rcases Nat.lt_or_ge q N with z | z
    · exact z
    · have := hT.2.1.2.2 q z
      rw [this] at hq
      exact absurd hq.1 (by decide)
  unfold f_X12_readsNumber
  rw [m_sign hT hQ hp, ob_some, m_digit (nums := nums) (k := k) hT, ob_some]
  by_cases c1 : dgt (t p)
  · have l1 := lt p c1
    rw [bi_t c1, if_neg (show ¬ s32 1 = 0 by decide), m_sign hT hQ hp, ob_some]
    simp only [stp]
    -- behind the first digit
    obtain ⟨μ1, h1⟩ : ∃ μ1, μ1 = ups (ups μ 120 14 (t p - 48)) 120 11 ((p + 1 : Nat) : Int) := ⟨_, rfl⟩
    have e11 : ups μ 120 14 (t p - 48) 120 11 + 1 = ((p + 1 : Nat) : Int) := by
      rw [ups_ni (by decide), hQ.2.1]
      omega
    rw [e11, ← h1]
    have mk : ∀ (κ : Mem) (q : Nat), MF σ κ → κ 120 11 = q → κ 120 15 = k → κ 130 = μ 130 → MR σ κ q k nums := fun κ q z1 z2 z3 z4 => ⟨z1, z2, z3, fun j hj => by rw [z4]; exact hQ.2.2.2 j hj⟩
    have f1 : MF σ μ1 := by
      rw [h1]
      exact (hQ.1.up (by omega)).up (by omega)
    have Q1 : MR σ μ1 (p + 1) k nums := mk μ1 (p + 1) f1 (by rw [h1, ups_at]) (by rw [h1, ups_ni (by decide), ups_ni (by decide)]; exact hQ.2.2.1) (by rw [h1, ups_ne (by decide), ups_ne (by decide)])
    have v1 : μ1 120 14 = t p - 48 := by rw [h1, ups_ni (by decide), ups_at]
    have r1 : μ1 130 = μ 130 := by rw [h1, ups_ne (by decide), ups_ne (by decide)]
    -- the end
    have fin : ∀ (κ : Mem) (q : Nat) (V : Int), MR σ κ q k nums → κ 120 14 = V → κ 130 = μ 130 → (nmb t p).1 = true → (nmb t p).2.1 = q → (nmb t p).2.2 = V → ∃ μ', (if 0 ≤ (s32 (κ 120 15)) ∧ (s32 (κ 120 15)) < 120 then stp (ups κ 130 (s32 (κ 120 15)) (κ 120 14)) fun σ31 => stp (ups σ31 120 15 ((σ31 120 15) + 1)) fun σ32 => some ((1 : Int), σ32) else none) = some (1, μ') ∧ MR σ μ' (nmb t p).2.1 (k + 1) (fun j => if j = k then (nmb t p).2.2 else nums j) := by
      intro κ q V hκ hV hr e1 e2 e3
      have k9 : 0 ≤ (k : Int) ∧ (k : Int) < 120 := by omega
      rw [e2, e3, hκ.2.2.1, s32_of (z := (k : Int)) (by omega) (by omega), if_pos k9, hV]
      simp only [stp]
      refine ⟨_, rfl, (hκ.1.up (by omega)).up (by omega), ?_, ?_, fun j hj => ?_⟩
      · rw [ups_ni (by decide), ups_ne (by decide)]
        exact hκ.2.1
      · rw [ups_at, ups_ne (by decide), hκ.2.2.1]
        rfl
      · rw [ups_ne (by decide)]
        by_cases e : j = k
        · show _ = if j = k then V else nums j
          rw [e, ups_at, if_pos rfl]
        · show _ = if j = k then V else nums j
          rw [ups_ni (by omega), if_neg e, hκ.2.2.2 j (by omega)]
    -- one turn of the loop
    have turn : ∀ (κ : Mem) (q i : Nat) (V : Int), i < 3 → MR σ κ q k nums → q ≤ N → κ 120 14 = V → (0 ≤ V ∧ V ≤ 99) → f_X12_readsNumber_42 (i : Int) κ = if 0 < V ∧ dgt (t q) then some (Sum.inl ((i : Int) + 1, ups (ups κ 120 14 (10 * V + t q - 48)) 120 11 ((q + 1 : Nat) : Int))) else some (Sum.inr κ) := by
      intro κ q i V hi hκ hq hV hV2
      unfold f_X12_readsNumber_42
      rw [s32_of (z := (i : Int)) (by omega) (by omega), if_neg (by omega), hV, s32_of (z := V) (by omega) (by omega)]
      by_cases z1 : V ≤ 0
      · rw [if_pos z1, if_neg (by omega)]
      · rw [if_neg z1, m_sign hT hκ hq, ob_some, m_digit (nums := nums) (k := k) hT, ob_some]
        by_cases z2 : dgt (t q)
        · rw [bi_t z2, if_neg (by decide), m_sign hT hκ hq, ob_some, if_pos ⟨by omega, z2⟩, hV]
          simp only [stp]
          rw [ups_ni (show (11 : Int) ≠ 14 by decide), hκ.2.1]
          rfl
        · rw [bi_f z2, if_pos s32_0, if_neg (fun y => z2 y.2)]
    have lp : ∃ (κ : Mem) (q : Nat), itr (fun z => f_X12_readsNumber_42 z.1 z.2) FU (1, μ1) = some κ ∧ MR σ κ q k nums ∧ κ 120 14 = (nmb t p).2.2 ∧ κ 130 = μ 130 ∧ (nmb t p).1 = true ∧ (nmb t p).2.1 = q := by
      have s1 := turn μ1 (p + 1) 1 (t p - 48) (by omega) Q1 (by omega) v1 (by omega)
      by_cases c2 : 0 < t p - 48 ∧ dgt (t (p + 1))
      · have l2 := lt (p + 1) c2.2
        rw [if_pos c2] at s1
        obtain ⟨μ2, h2⟩ : ∃ μ2, μ2 = ups (ups μ1 120 14 (10 * (t p - 48) + t (p + 1) - 48)) 120 11 ((p + 1 + 1 : Nat) : Int) := ⟨_, rfl⟩
        rw [← h2] at s1
        have f2 : MF σ μ2 := by
          rw [h2]
          exact (f1.up (by omega)).up (by omega)
        have Q2 : MR σ μ2 (p + 2) k nums := mk μ2 (p + 2) f2 (by rw [h2, ups_at]) (by rw [h2, ups_ni (by decide), ups_ni (by decide)]; exact Q1.2.2.1) (by rw [h2, ups_ne (by decide), ups_ne (by decide)]; exact r1)
        have v2 : μ2 120 14 = 10 * (t p - 48) + t (p + 1) - 48 := by rw [h2, ups_ni (by decide), ups_at]
        have r2 : μ2 130 = μ 130 := by rw [h2, ups_ne (by decide), ups_ne (by decide)]; exact r1
        have s2 := turn μ2 (p + 2) 2 (10 * (t p - 48) + t (p + 1) - 48) (by omega) Q2 (by omega) v2 (by omega)
        by_cases c3 : dgt (t (p + 2))
        · have l3 := lt (p + 2) c3
          rw [if_pos ⟨by omega, c3⟩] at s2
          obtain ⟨μ3, h3⟩ : ∃ μ3, μ3 = ups (ups μ2 120 14 (10 * (10 * (t p - 48) + t (p + 1) - 48) + t (p + 2) - 48)) 120 11 ((p + 2 + 1 : Nat) : Int) := ⟨_, rfl⟩
          rw [← h3] at s2
          have f3 : MF σ μ3 := by
            rw [h3]
            exact (f2.up (by omega)).up (by omega)
          have Q3 : MR σ μ3 (p + 3) k nums := mk μ3 (p + 3) f3 (by rw [h3, ups_at]) (by rw [h3, ups_ni (by decide), ups_ni (by decide)]; exact Q2.2.2.1) (by rw [h3, ups_ne (by decide), ups_ne (by decide)]; exact r2)
          refine ⟨μ3, p + 3, ?_, Q3, ?_, by rw [h3, ups_ne (by decide), ups_ne (by decide)]; exact r2, ?_, ?_⟩
          · rw [show FU = 99997 + 1 + 1 + 1 from rfl, itr_in (y := (((2 : Nat) : Int), μ2)) s1, itr_in (y := (((3 : Nat) : Int), μ3)) s2]
            refine itr_out ?_
            show f_X12_readsNumber_42 3 μ3 = _
            unfold f_X12_readsNumber_42
            rw [if_pos (by decide)]
          · unfold nmb
            rw [if_pos c1, if_pos c2, if_pos c3, h3, ups_ni (by decide), ups_at]
          · unfold nmb
            rw [if_pos c1, if_pos c2, if_pos c3]
          · unfold nmb
            rw [if_pos c1, if_pos c2, if_pos c3]
        · rw [if_neg (fun z => c3 z.2)] at s2
          refine ⟨μ2, p + 2, ?_, Q2, ?_, r2, ?_, ?_⟩
          · rw [show FU = 99998 + 1 + 1 from rfl, itr_in (y := (((2 : Nat) : Int), μ2)) s1]
            exact itr_out s2
          · unfold nmb
            rw [if_pos c1, if_pos c2, if_neg c3, v2]
          · unfold nmb
            rw [if_pos c1, if_pos c2, if_neg c3]
          · unfold nmb
            rw [if_pos c1, if_pos c2, if_neg c3]
      · rw [if_neg c2] at s1
        refine ⟨μ1, p + 1, ?_, Q1, ?_, r1, ?_, ?_⟩
        · rw [show FU = 99999 + 1 from rfl]
          exact itr_out s1
        · unfold nmb
          rw [if_pos c1, if_neg c2, v1]
        · unfold nmb
          rw [if_pos c1, if_neg c2]
        · unfold nmb
          rw [if_pos c1, if_neg c2]
    obtain ⟨κ, q, e0, e1, e2, e3, e4, e5⟩ := lp
    rw [e0, lb_some]
    exact fin κ q _ e1 e2 e3 e4 e5 rfl
  · exact absurd (nmb_t hT.2.1 c).1 c1
theorem m_number_f {σ μ : Mem} {d N p k : Nat} {t nums : Nat → Int} (hT : MT σ d t N) (hQ : MR σ μ p k nums) (hp : p ≤ N) (c : ¬ (nmb t p).1 = true) : f_X12_readsNumber μ = some (0, μ) := by
  unfold f_X12_readsNumber
  rw [m_sign hT hQ hp, ob_some, m_digit (nums := nums) (k := k) hT, ob_some, bi_f (nmb_f c).1, if_pos s32_0]
