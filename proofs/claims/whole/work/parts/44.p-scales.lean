/-! PURE 5: the class's scales -/
/-- the class's market at 10 is s, the costs with the tax that lies on the scales -/
def CK (σ : Mem) (n m : Nat) (s : Int → Int) : Prop := σ 10 0 = n ∧ σ 10 1 = m ∧ σ 10 2 = s 2 ∧
  (∀ k : Nat, k < n → σ 11 k = s (3 + k) ∧ σ 12 k = s (7 + k) ∧ σ 13 k = s (11 + k)) ∧
  (∀ j : Nat, j < m → σ 14 j = s (15 + j) ∧ σ 15 j = s (35 + j) - 1 ∧ ∀ k : Nat, k < n → σ (16 + 1 + j) k + (if (j : Int) = σ 72 8 then σ 72 9 else 0) = s (19 + 4 * j + k))
/-- nothing but the scratch of the scales has changed -/
def CS (σ σ' : Mem) : Prop := ∀ a i : Int, ¬ ((a = 72 ∧ (i = 4 ∨ i = 5 ∨ i = 10)) ∨ a = 73 ∨ a = 74 ∨ a = 75) → σ' a i = σ a i
theorem CS.rf {σ : Mem} : CS σ σ := fun _ _ _ => rfl
theorem CS.tr {σ τ υ : Mem} (h : CS σ τ) (g : CS τ υ) : CS σ υ := fun a i q => (g a i q).trans (h a i q)
theorem CS.up {σ τ : Mem} {a i v : Int} (h : CS σ τ) (q : (a = 72 ∧ (i = 4 ∨ i = 5 ∨ i = 10)) ∨ a = 73 ∨ a = 74 ∨ a = 75) : CS σ (ups τ a i v) := by
  intro x j hx
  unfold ups
  rw [if_neg (fun z => hx (by rw [z.1, z.2]; exact q))]
  exact h x j hx
theorem CS.at {σ τ : Mem} (h : CS σ τ) (a i : Int) (q : ¬ ((a = 72 ∧ (i = 4 ∨ i = 5 ∨ i = 10)) ∨ a = 73 ∨ a = 74 ∨ a = 75)) : τ a i = σ a i := h a i q
theorem CK.cs {σ τ : Mem} {n m : Nat} {s : Int → Int} (h : CK σ n m s) (c : CS σ τ) (m4 : m ≤ 4) : CK τ n m s := by
  obtain ⟨h1, h2, h3, h4, h5⟩ := h
  refine ⟨by rw [c.at 10 0 (by omega)]; exact h1, by rw [c.at 10 1 (by omega)]; exact h2, by rw [c.at 10 2 (by omega)]; exact h3, fun k hk => ?_, fun j hj => ?_⟩
  · rw [c.at 11 k (by omega), c.at 12 k (by omega), c.at 13 k (by omega)]
    exact h4 k hk
  · rw [c.at 14 j (by omega), c.at 15 j (by omega), c.at 72 8 (by omega), c.at 72 9 (by omega)]
    refine ⟨(h5 j hj).1, (h5 j hj).2.1, fun k hk => ?_⟩
    rw [c.at (16 + 1 + j) k (by omega)]
    exact (h5 j hj).2.2 k hk
/-- a fit lies on the scales -/
def LY (σ : Mem) (n : Nat) (fit : Int) : Prop := (∀ k : Nat, k < n → σ 73 k = dg fit k) ∧ (0 ≤ σ 72 10 ∧ σ 72 10 < 16) ∧ ∀ j : Nat, j < 4 → (bt (σ 72 10) j = 1 ↔ ∃ k, k < n ∧ dg fit k = j)
theorem c_lay {σ : Mem} {n : Nat} (hn : σ 10 0 = n) (h4 : n ≤ 4) {fit : Int} (h0 : 0 ≤ fit) (h1 : fit ≤ 2147483647) : ∃ σ', f_X7_lay fit σ = some (0, σ') ∧ LY σ' n fit ∧ CS σ σ' := by
  have hl : ∃ b : Mem, itr (fun z => f_X7_lay_9 z.1 z.2.1 z.2.2) FU (fit, 0, ups σ 72 10 0) = some b ∧ (LY b n fit ∧ CS σ b) := by
    refine itr_tot (fun z : Int × Int × Mem => ∃ k : Nat, k ≤ n ∧ z.1 = dv fit k ∧ z.2.1 = k ∧ LY z.2.2 k fit ∧ CS σ z.2.2) (fun z => n - z.2.1.toNat) _ ?_ FU _ ⟨0, Nat.zero_le _, rfl, rfl, ⟨fun k hk => absurd hk (Nat.not_lt_zero _), ?_, ?_⟩, CS.up CS.rf (by omega)⟩ (FU_lt (by show n - Int.toNat 0 < 100000; omega))
    · rintro ⟨x, y, τ⟩ ⟨k, hk, ex, ey, hL, hC⟩
      simp only at ex ey hL hC
      subst ex
      subst ey
      have a1 := dv_pos h0 k
      have a2 := dv_le h0 k
      have a3 := dg_in fit k
      have e0 : τ 10 0 = n := by rw [hC.at 10 0 (by omega)]; exact hn
      by_cases hkn : k < n
      · left
        simp only
        unfold f_X7_lay_9
        rw [e0, s32_of (z := (n : Int)) (by omega) (by omega), s32_of (z := (k : Int)) (by omega) (by omega), if_neg (by omega), if_pos (by omega), s32_of (z := dv fit k) (by omega) (by omega), tm5 a1, td5 a1]
        simp only [stp, vl]
        have e73 : ups τ 73 k (dv fit k % 5) 73 k = dg fit k := by simp [ups, dg]
        have e72 : ups τ 73 k (dv fit k % 5) 72 10 = τ 72 10 := by simp [ups]
        rw [e73, e72, s32_of (z := dg fit k) (by omega) (by omega)]
        by_cases e4 : dg fit k = 4
        · rw [if_pos e4]
          refine ⟨_, rfl, ⟨k + 1, hkn, rfl, rfl, ⟨fun i hi => ?_, ?_, fun j hj => ?_⟩, hC.up (by omega)⟩, by show n - (((k : Int) + 1)).toNat < n - ((k : Int)).toNat; omega⟩
          · show ups τ 73 k (dv fit k % 5) 73 i = _
            unfold ups
            by_cases e : (i : Int) = k
            · rw [if_pos ⟨rfl, e⟩, show i = k by omega]
              rfl
            · rw [if_neg (fun z => e z.2)]
              exact hL.1 i (by omega)
          · show 0 ≤ ups τ 73 k (dv fit k % 5) 72 10 ∧ _
            rw [e72]
            exact hL.2.1
          · show bt (ups τ 73 k (dv fit k % 5) 72 10) j = 1 ↔ _
            rw [e72, hL.2.2 j hj]
            constructor
            · rintro ⟨i, hi, e⟩
              exact ⟨i, by omega, e⟩
            · rintro ⟨i, hi, e⟩
              rcases Nat.lt_or_ge i k with q | q
              · exact ⟨i, q, e⟩
              · rw [show i = k by omega] at e
                omega
        · rw [if_neg e4]
          have hb := fun (j : Int) (hj : 0 ≤ j ∧ j < 4) => bt_set (p := dg fit k) hL.2.1 (by omega) hj
          refine ⟨_, rfl, ⟨k + 1, hkn, rfl, rfl, ⟨fun i hi => ?_, ?_, fun j hj => ?_⟩, (hC.up (by omega)).up (by omega)⟩, by show n - (((k : Int) + 1)).toNat < n - ((k : Int)).toNat; omega⟩
          · show ups (ups τ 73 k (dv fit k % 5)) 72 10 (or32 (τ 72 10) (shl32 1 (dg fit k))) 73 i = _
            rw [ups_ne (by omega)]
            unfold ups
            by_cases e : (i : Int) = k
            · rw [if_pos ⟨rfl, e⟩, show i = k by omega]
              rfl
            · rw [if_neg (fun z => e z.2)]
              exact hL.1 i (by omega)
          · show 0 ≤ ups (ups τ 73 k (dv fit k % 5)) 72 10 (or32 (τ 72 10) (shl32 1 (dg fit k))) 72 10 ∧ ups (ups τ 73 k (dv fit k % 5)) 72 10 (or32 (τ 72 10) (shl32 1 (dg fit k))) 72 10 < 16
            rw [show ups (ups τ 73 k (dv fit k % 5)) 72 10 (or32 (τ 72 10) (shl32 1 (dg fit k))) 72 10 = or32 (τ 72 10) (shl32 1 (dg fit k)) by simp [ups]]
            exact (hb 0 (by omega)).2
          · show bt (ups (ups τ 73 k (dv fit k % 5)) 72 10 (or32 (τ 72 10) (shl32 1 (dg fit k))) 72 10) j = 1 ↔ _
            rw [show ups (ups τ 73 k (dv fit k % 5)) 72 10 (or32 (τ 72 10) (shl32 1 (dg fit k))) 72 10 = or32 (τ 72 10) (shl32 1 (dg fit k)) by simp [ups], (hb j (by omega)).1]
            by_cases e : dg fit k = j
            · rw [if_pos e]
              exact ⟨fun _ => ⟨k, by omega, e⟩, fun _ => rfl⟩
            · rw [if_neg e, hL.2.2 j hj]
              constructor
              · rintro ⟨i, hi, e2⟩
                exact ⟨i, by omega, e2⟩
              · rintro ⟨i, hi, e2⟩
                rcases Nat.lt_or_ge i k with q | q
                · exact ⟨i, q, e2⟩
                · rw [show i = k by omega] at e2
                  exact absurd e2 e
      · right
        have ek : k = n := by omega
        subst ek
        simp only
        unfold f_X7_lay_9
        rw [e0, if_pos (Int.le_refl _)]
        exact ⟨τ, rfl, hL, hC⟩
    · show 0 ≤ ups σ 72 10 0 72 10 ∧ ups σ 72 10 0 72 10 < 16
      simp [ups]
    · intro j hj
      show bt (ups σ 72 10 0 72 10) j = 1 ↔ _
      rw [show ups σ 72 10 0 72 10 = 0 by simp [ups]]
      have hz : ∀ j : Nat, j < 4 → bt 0 j = 0 := by decide +kernel
      rw [hz j hj]
      constructor
      · intro q
        cases q
      · rintro ⟨i, hi, -⟩
        exact absurd hi (Nat.not_lt_zero _)
  obtain ⟨b, e, hL, hC⟩ := hl
  refine ⟨b, ?_, hL, hC⟩
  unfold f_X7_lay
  simp only [stp]
  rw [e, lb_some]
theorem c_isMade {σ : Mem} {n : Nat} {fit : Int} (hL : LY σ n fit) {j : Nat} (hj : j < 4) : f_X7_isMade j σ = some (bi (mad fit j n = true), σ) := by
  unfold f_X7_isMade
  rw [s32_and]
  show (if bt (σ 72 10) j = 1 then _ else _) = _
  by_cases h : mad fit j n = true
  · rw [if_pos ((hL.2.2 j hj).mpr (mad_iff.mp h)), bi_t h]
  · rw [if_neg (fun q => h (mad_iff.mpr ((hL.2.2 j hj).mp q))), bi_f h]
theorem pU_pos {n m : Nat} {s : Int → Int} (h : Okm n m s) (fit : Int) (j : Int) : pU s fit j n = 0 ↔ ¬ ∃ k, k < n ∧ dg fit k = j := by
  have hnn : ∀ k, k < n → 0 ≤ (if dg fit k = j then s (3 + k) else 0) := fun i hi => by
    have := (h.2.2.2.2.2.1 i (by omega)).1
    split <;> omega
  constructor
  · rintro e ⟨k, hk, e2⟩
    have h1 := sumI_mem (f := fun k => if dg fit k = j then s (3 + k) else 0) hnn hk
    have h2 := (h.2.2.2.2.2.1 k hk).1
    simp only [if_pos e2] at h1
    unfold pU at e
    omega
  · intro hno
    unfold pU
    have : sumI (fun k => if dg fit k = j then s (3 + k) else 0) n = sumI (fun _ => 0) n := sumI_congr (fun k hk => if_neg (fun q => hno ⟨k, hk, q⟩))
    rw [this]
    have a1 := sumI_ge (f := fun _ => 0) (a := 0) (n := n) (fun _ _ => Int.le_refl _)
    have a2 := sumI_le (f := fun _ => 0) (a := 0) (n := n) (fun _ _ => Int.le_refl _)
    omega
