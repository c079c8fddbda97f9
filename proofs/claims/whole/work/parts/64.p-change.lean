/-! PURE 24: calls that change one number of the market -/
/-- the place of the class's market that goes with place p of the model's -/
def pl (n m : Nat) (a i p d : Int) : Prop := (∃ k : Nat, k < n ∧ a = 12 ∧ i = k ∧ p = 7 + k ∧ d = 0) ∨ (∃ k : Nat, k < n ∧ a = 13 ∧ i = k ∧ p = 11 + k ∧ d = 0) ∨ (∃ j : Nat, j < m ∧ a = 14 ∧ i = j ∧ p = 15 + j ∧ d = 0) ∨ (∃ j : Nat, j < m ∧ a = 15 ∧ i = j ∧ p = 35 + j ∧ d = 1) ∨ (∃ j k : Nat, j < m ∧ k < n ∧ a = 17 + j ∧ i = k ∧ p = 19 + 4 * j + k ∧ d = 0)
theorem upI {σ : Mem} {a i v b j : Int} : ups σ a i v b j = if b = a ∧ j = i then v else σ b j := rfl
theorem Rel.one {σ : Mem} (h : Rel σ) {n m : Nat} (e1 : σ 0 6 = 1) (hO : Okx n m (σ 121)) (hB : CK σ n m (σ 121)) {a i p d v : Int} (hp : pl n m a i p d) (hO' : Okx n m (upr (σ 121) p v)) : Rel (ups (ups σ a i (v - d)) 121 p v) := by
  have hn := hO.1.1
  have hm := hO.1.2.1
  have h9 := h.1.2.2.2.2.1.2.2
  have ha : 12 ≤ a ∧ a ≤ 20 := by
    rcases hp with ⟨k, q⟩ | ⟨k, q⟩ | ⟨k, q⟩ | ⟨k, q⟩ | ⟨j, k, q⟩ <;> omega
  have t : ∀ b : Int, b ≠ a → b ≠ 121 → ups (ups σ a i (v - d)) 121 p v b = σ b := fun b p1 p2 => by rw [ups_ne p2, ups_ne p1]
  have t121 : ups (ups σ a i (v - d)) 121 p v 121 = upr (σ 121) p v := by rw [ups_self, ups_ne (show (121 : Int) ≠ a by omega)]
  have tb : ∀ b : Int, b ≠ 121 → ∀ x, ups (ups σ a i (v - d)) 121 p v b x = if b = a ∧ x = i then v - d else σ b x := fun b p2 x => by rw [ups_ne p2, upI]
  refine h.mkM (fun b x q => by rw [t b (fun z => q (by omega)) (fun z => q (by omega))]) ?_
  refine Or.inr ⟨by rw [t 0 (by omega) (by decide)]; exact e1, n, m, by rw [t121]; exact hO', ?_⟩
  unfold CK
  have t72 : ups (ups σ a i (v - d)) 121 p v 72 = σ 72 := t 72 (by omega) (by decide)
  have t10 : ups (ups σ a i (v - d)) 121 p v 10 = σ 10 := t 10 (by omega) (by decide)
  have t11 : ups (ups σ a i (v - d)) 121 p v 11 = σ 11 := t 11 (by omega) (by decide)
  rw [t121, t10, t11, t72]
  unfold upr
  refine ⟨hB.1, hB.2.1, ?_, fun k hk => ?_, fun j hj => ?_⟩
  · rw [if_neg (by rcases hp with ⟨k, q⟩ | ⟨k, q⟩ | ⟨k, q⟩ | ⟨k, q⟩ | ⟨j, k, q⟩ <;> omega)]
    exact hB.2.2.1
  · have q := hB.2.2.2.1 k hk
    rw [tb 12 (by decide), tb 13 (by decide)]
    rcases hp with ⟨k', w⟩ | ⟨k', w⟩ | ⟨k', w⟩ | ⟨k', w⟩ | ⟨j', k', w⟩ <;> refine ⟨?_, ?_, ?_⟩ <;> (repeat' split) <;> omega
  · have q := hB.2.2.2.2 j hj
    rw [tb 14 (by decide), tb 15 (by decide)]
    refine ⟨?_, ?_, fun k hk => ?_⟩
    · rcases hp with ⟨k', w⟩ | ⟨k', w⟩ | ⟨k', w⟩ | ⟨k', w⟩ | ⟨j', k', w⟩ <;> (repeat' split) <;> omega
    · rcases hp with ⟨k', w⟩ | ⟨k', w⟩ | ⟨k', w⟩ | ⟨k', w⟩ | ⟨j', k', w⟩ <;> (repeat' split) <;> omega
    · have q2 := q.2.2 k hk
      rw [tb (16 + 1 + j) (by omega), h9] at *
      rcases hp with ⟨k', w⟩ | ⟨k', w⟩ | ⟨k', w⟩ | ⟨k', w⟩ | ⟨j', k', w⟩ <;> (repeat' split) <;> (repeat' split at q2) <;> omega
