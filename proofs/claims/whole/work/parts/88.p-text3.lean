/-! PURE 48: the class's reader, sign by sign -/
def FRM (τ0 τ : Mem) : Prop := ∀ a i : Int, ¬ (a = 71 ∨ (a = 70 ∧ 2 ≤ i ∧ i ≤ 6)) → τ a i = τ0 a i
def IS (τ0 τ : Mem) (c p0 : Int) (k dg : Nat) (v : Int) (nums : Nat → Int) : Prop := FRM τ0 τ ∧ τ 70 2 = c ∧ τ 70 3 = p0 ∧ τ 70 4 = k ∧ τ 70 5 = dg ∧ τ 70 6 = v ∧ ∀ j : Nat, j < k → j < 5 → τ 71 j = nums j
def CT (σ : Mem) (u : Int) (t : Nat → Int) (N : Nat) : Prop := TX t N ∧ (80 ≤ u ∧ u ≤ 94) ∧ σ u 2 = N ∧ ∀ p : Nat, p < N → σ (u + 1) p = t p
abbrev L3 (c : Int) : Prop := c = 115 ∨ c = 109 ∨ c = 116
theorem FRM.up {τ0 τ : Mem} (h : FRM τ0 τ) {a i v : Int} (q : a = 71 ∨ (a = 70 ∧ 2 ≤ i ∧ i ≤ 6)) : FRM τ0 (ups τ a i v) := by
  intro b j w
  unfold ups
  rw [if_neg (fun z => w (by rw [z.1, z.2]; exact q))]
  exact h b j w
theorem CT.fr {τ0 τ : Mem} {u : Int} {t : Nat → Int} {N : Nat} (h : CT τ0 u t N) (f : FRM τ0 τ) : CT τ u t N := by
  obtain ⟨h1, h2, h3, h4⟩ := h
  exact ⟨h1, h2, (f u 2 (by omega)).trans h3, fun p hp => (f (u + 1) p (by omega)).trans (h4 p hp)⟩
/-- so many turns lead from x to y -/
def Go {α β : Type} (f : α → Option (α ⊕ β)) (k : Nat) (x y : α) : Prop := ∀ F, itr f (F + k) x = itr f F y
theorem Go.rf {α β : Type} {f : α → Option (α ⊕ β)} {x : α} : Go f 0 x x := fun _ => rfl
theorem Go.tr {α β : Type} {f : α → Option (α ⊕ β)} {x y z : α} {k l : Nat} (h : Go f k x y) (g : Go f l y z) : Go f (k + l) x z := fun F => by
  rw [show F + (k + l) = (F + l) + k by omega, h, g]
theorem Go.one {α β : Type} {f : α → Option (α ⊕ β)} {x y : α} (h : f x = some (.inl y)) : Go f 1 x y := fun _ => itr_in h
theorem Go.cast {α β : Type} {f : α → Option (α ⊕ β)} {x y : α} {k l : Nat} (h : Go f k x y) (e : k = l) : Go f l x y := e ▸ h
noncomputable abbrev rfc (u : Int) (z : Int × Mem) : Option ((Int × Mem) ⊕ ((Int × Mem) ⊕ Mem)) := f_X6_readFrom_24 u z.1 z.2
theorem rfc_step {τ τ' : Mem} {u : Int} {t : Nat → Int} {N p : Nat} (h : CT τ u t N) (hp : p < N) {r : Int} (e : f_X6_goesOn (t p) p τ = some (r, τ')) : rfc u ((p : Int), τ) = if s32 r = 0 then some (.inr (.inl (-1000 - (p : Int), τ'))) else some (.inl (((p + 1 : Nat) : Int), τ')) := by
  obtain ⟨h1, h2, h3, h4⟩ := h
  have hN := h1.1
  show f_X6_readFrom_24 u (p : Int) τ = _
  unfold f_X6_readFrom_24
  rw [h3, s32_of (z := (N : Int)) (by omega) (by omega), s32_of (z := (p : Int)) (by omega) (by omega), if_neg (by omega), if_pos (by omega), h4 p hp, e, ob_some]
  rfl
theorem c_least {τ : Mem} {c : Int} (h : τ 70 2 = c) (hc : L3 c) : f_X6_leastNumbers τ = some (lst c, τ) := by
  unfold f_X6_leastNumbers
  rw [h]
  rcases hc with rfl | rfl | rfl
  · rw [if_neg (by decide), if_pos (by decide)]
    rfl
  · rw [if_pos (by decide)]
    rfl
  · rw [if_neg (by decide), if_neg (by decide)]
    rfl
theorem c_most {τ : Mem} {c : Int} (h : τ 70 2 = c) (hc : L3 c) : f_X6_mostNumbers τ = some (mst c, τ) := by
  unfold f_X6_mostNumbers
  rw [c_least h hc, ob_some, h]
  rcases hc with rfl | rfl | rfl
  · rw [if_neg (by decide)]
    rfl
  · rw [if_pos (by decide)]
    rfl
  · rw [if_neg (by decide)]
    rfl
theorem L3.s {c : Int} (hc : L3 c) : s32 c = c ∧ c ≠ 0 := by
  rcases hc with rfl | rfl | rfl <;> decide
def edN (τ : Mem) (k : Nat) (v : Int) : Mem := if 5 ≤ k then ups (ups (ups τ 70 4 ((k : Int) + 1)) 70 5 0) 70 6 0 else ups (ups (ups (ups τ 71 k v) 70 4 ((k : Int) + 1)) 70 5 0) 70 6 0
theorem c_endNumber {τ0 τ : Mem} {c p0 v : Int} {k dg : Nat} {nums : Nat → Int} (h : IS τ0 τ c p0 k dg v nums) (hk : k < 1000) (hv : v = nums k) : f_X6_endNumber τ = some (0, edN τ k v) ∧ IS τ0 (edN τ k v) c p0 (k + 1) 0 0 nums := by
  obtain ⟨h1, h2, h3, h4, h5, h6, h7⟩ := h
  unfold f_X6_endNumber edN
  rw [h4, s32_of (z := (k : Int)) (by omega) (by omega), h6]
  simp only [stp]
  by_cases c5 : 5 ≤ k
  · rw [if_pos (show (5 : Int) ≤ k by omega), if_pos c5]
    refine ⟨rfl, ((h1.up (by omega)).up (by omega)).up (by omega), ?_, ?_, ?_, ?_, ?_, fun j hj hj5 => ?_⟩
    · rw [ups_ni (by decide), ups_ni (by decide), ups_ni (by decide)]; exact h2
    · rw [ups_ni (by decide), ups_ni (by decide), ups_ni (by decide)]; exact h3
    · rw [ups_ni (by decide), ups_ni (by decide), ups_at]; rfl
    · rw [ups_ni (by decide), ups_at]; rfl
    · rw [ups_at]
    · rw [ups_ne (by decide), ups_ne (by decide), ups_ne (by decide)]
      exact h7 j (by omega) hj5
  · rw [if_neg (show ¬ (5 : Int) ≤ k by omega), if_neg c5, if_pos (by omega), ups_ne (show (70 : Int) ≠ 71 by decide), h4]
    refine ⟨rfl, (((h1.up (by omega)).up (by omega)).up (by omega)).up (by omega), ?_, ?_, ?_, ?_, ?_, fun j hj hj5 => ?_⟩
    · rw [ups_ni (by decide), ups_ni (by decide), ups_ni (by decide), ups_ne (by decide)]; exact h2
    · rw [ups_ni (by decide), ups_ni (by decide), ups_ni (by decide), ups_ne (by decide)]; exact h3
    · rw [ups_ni (by decide), ups_ni (by decide), ups_at]; rfl
    · rw [ups_ni (by decide), ups_at]; rfl
    · rw [ups_at]
    · rw [ups_ne (by decide), ups_ne (by decide), ups_ne (by decide)]
      by_cases e : j = k
      · rw [e, ups_at, hv]
      · rw [ups_ni (by omega)]
        exact h7 j (by omega) hj5
theorem g_digit {τ0 τ : Mem} {c p0 v x i : Int} {k dg : Nat} {nums : Nat → Int} (h : IS τ0 τ c p0 k dg v nums) (hc : L3 c) (hd : dg ≤ 3) (hv : 0 ≤ v ∧ v ≤ 999) (hx : dgt x) : f_X6_goesOn x i τ = if dg = 3 ∨ (0 < dg ∧ v = 0) then some (0, τ) else some (1, ups (ups τ 70 6 (10 * v + x - 48)) 70 5 ((dg + 1 : Nat) : Int)) := by
  obtain ⟨h1, h2, h3, h4, h5, h6, h7⟩ := h
  have hc2 := hc.s
  unfold f_X6_goesOn f_X6_takesDigit
  rw [h2, hc2.1, if_neg hc2.2, s32_of (z := x) (by omega) (by omega), if_neg (by omega), if_neg (by omega), h5, h6, s32_of (z := (dg : Int)) (by omega) (by omega), s32_of (z := v) (by omega) (by omega)]
  simp only [stp]
  rw [ups_ni (show (5 : Int) ≠ 6 by decide), h5, show 10 * v + (x - 48) = 10 * v + x - 48 by omega]
  by_cases c1 : (dg : Int) ≤ 0
  · rw [if_pos c1, if_neg (by omega), if_neg (by omega), ob_some, if_pos (by decide)]
    rfl
  · rw [if_neg c1]
    by_cases c2 : v = 0
    · rw [if_pos c2, if_pos (show dg = 3 ∨ (0 < dg ∧ v = 0) by omega)]
      split <;> rw [ob_some, if_pos (by decide)]
    · rw [if_neg c2]
      by_cases c3 : dg = 3
      · rw [if_pos (by omega), if_pos (Or.inl c3), ob_some, if_pos (by decide)]
      · rw [if_neg (by omega), if_neg (by omega), ob_some, if_pos (by decide)]
        rfl
theorem g_other {τ0 τ : Mem} {c p0 v x i : Int} {k dg : Nat} {nums : Nat → Int} (h : IS τ0 τ c p0 k dg v nums) (hc : L3 c) (hd : dg ≤ 3) (hk : k < 1000) (hx : ¬ dgt x) (hi : inI x) (w : dg = 0 ∨ ((x = 32 → mst c ≤ (k : Int) + 1) ∧ (x = 59 → (k : Int) + 1 < lst c))) : f_X6_goesOn x i τ = some (0, τ) := by
  obtain ⟨h1, h2, h3, h4, h5, h6, h7⟩ := h
  have hc2 := hc.s
  have hb := lst_b c
  unfold f_X6_goesOn
  rw [h2, hc2.1, if_neg hc2.2, s32_of (z := x) hi.1 hi.2, h4, h5, s32_of (z := (dg : Int)) (by omega) (by omega), s32_of (z := (k : Int) + 1) (by omega) (by omega)]
  simp only [c_least h2 hc, c_most h2 hc, ob_some]
  rw [s32_of (z := mst c) (by omega) (by omega), s32_of (z := lst c) (by omega) (by omega)]
  by_cases c1 : x < 48
  · rw [if_pos c1]
    by_cases c2 : dg = 0
    · rw [if_pos (by omega)]
    · rw [if_neg (by omega)]
      rcases w with w | w
      · exact absurd w c2
      by_cases c3 : x = 32
      · rw [if_pos c3, if_pos (w.1 c3), if_neg (by omega)]
      · rw [if_neg c3]
        by_cases c4 : x = 59
        · omega
        · rw [if_neg c4]
  · rw [if_neg c1, if_pos (by omega)]
    by_cases c2 : dg = 0
    · rw [if_pos (by omega)]
    · rw [if_neg (by omega)]
      rcases w with w | w
      · exact absurd w c2
      rw [if_neg (by omega)]
      by_cases c4 : x = 59
      · rw [if_pos c4, if_pos (w.2 c4)]
      · rw [if_neg c4]
theorem g_blank {τ0 τ : Mem} {c p0 v i : Int} {k dg : Nat} {nums : Nat → Int} (h : IS τ0 τ c p0 k dg v nums) (hc : L3 c) (hd : dg ≤ 3) (hd1 : 1 ≤ dg) (hk : k < 1000) (hv : v = nums k) (w : (k : Int) + 1 < mst c) : f_X6_goesOn 32 i τ = some (1, edN τ k v) := by
  have hE := (c_endNumber h hk hv).1
  obtain ⟨h1, h2, h3, h4, h5, h6, h7⟩ := h
  have hc2 := hc.s
  have hb := lst_b c
  unfold f_X6_goesOn
  rw [h2, hc2.1, if_neg hc2.2, if_pos (by decide), h4, h5, s32_of (z := (dg : Int)) (by omega) (by omega), s32_of (z := (k : Int) + 1) (by omega) (by omega), if_neg (by omega), if_pos (by decide), c_most h2 hc, ob_some, s32_of (z := mst c) (by omega) (by omega), if_neg (by omega), hE, ob_some]
theorem g_end {τ0 τ : Mem} {c p0 v i : Int} {k dg : Nat} {nums : Nat → Int} (h : IS τ0 τ c p0 k dg v nums) (hc : L3 c) (hd : dg ≤ 3) (hd1 : 1 ≤ dg) (hk : k < 1000) (hv : v = nums k) (w : lst c ≤ (k : Int) + 1) : f_X6_goesOn 59 i τ = ob (f_X6_endStatement (edN τ k v)) fun _ σ => some (1, σ) := by
  have hE := (c_endNumber h hk hv).1
  obtain ⟨h1, h2, h3, h4, h5, h6, h7⟩ := h
  have hc2 := hc.s
  have hb := lst_b c
  unfold f_X6_goesOn
  rw [h2, hc2.1, if_neg hc2.2, if_neg (by decide), if_pos (by decide), h4, h5, s32_of (z := (dg : Int)) (by omega) (by omega), s32_of (z := (k : Int) + 1) (by omega) (by omega), if_neg (by omega), if_neg (by decide), if_pos (by decide), c_least h2 hc, ob_some, s32_of (z := lst c) (by omega) (by omega), if_neg (by omega), hE, ob_some]
theorem g_begin {τ : Mem} {x i : Int} (h : τ 70 2 = 0) (hx : inI x) : f_X6_goesOn x i τ = if L3 x then some (1, ups (ups (ups (ups (ups τ 70 2 x) 70 3 i) 70 4 0) 70 5 0) 70 6 0) else some (0, τ) := by
  unfold f_X6_goesOn f_X6_begins
  rw [h, if_pos s32_0, s32_of (z := x) hx.1 hx.2]
  simp only [stp]
  by_cases c1 : x = 115
  · rw [if_pos c1, if_pos (by omega), ob_some, if_pos (by decide)]
  · rw [if_neg c1]
    by_cases c2 : x = 109
    · rw [if_pos c2, if_pos (by omega), ob_some, if_pos (by decide)]
    · rw [if_neg c2]
      by_cases c3 : x = 116
      · rw [if_pos c3, if_pos (by omega), ob_some, if_pos (by decide)]
      · rw [if_neg c3, if_neg (by omega), ob_some, if_pos (by decide)]
