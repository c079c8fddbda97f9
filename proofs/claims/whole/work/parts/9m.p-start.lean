/-! PURE 56: the start: a fresh class and a fresh model agree -/
def st0 : Mem := fun a i => if i = 1 ∧ (a = 80 ∨ a = 82 ∨ a = 84 ∨ a = 86 ∨ a = 88 ∨ a = 90 ∨ a = 92 ∨ a = 94) then -1 else if a = 120 ∧ i = 19 then 1 else if a = 72 ∧ (i = 11 ∨ i = 12) then 1 else 0
theorem rel_st0 : Rel st0 := by
  refine ⟨?_, Or.inl ⟨by decide, by decide, by decide, by decide, by decide⟩, fun q => absurd q (by decide), fun d hd => ?_⟩
  · unfold RelF
    decide
  · have h : ∀ x : Nat, x < 8 → (st0 124 x = 0 ∧ st0 (80 + 2 * x) 1 = -1 ∧ st0 (80 + 2 * x) 3 = 0) := by decide
    exact Or.inl (h d hd)
