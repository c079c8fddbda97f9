/-! PURE 29: lots, standing -/
def lvl (s : Int → Int) (fit b : Int) (k : Nat) : Int := s (7 + k) + s (15 + b) - s (19 + 4 * b + k) + s (19 + 4 * dg fit k + k) - s (15 + dg fit k)
def loS (s : Int → Int) (fit b : Int) (k : Nat) (o : Nat) : Int := if (o : Int) = k then 0 else if dg fit o = dg fit k then s (3 + o) * (s (7 + o) - lvl s fit b k) else 0
def loA (s : Int → Int) (fit b : Int) (k : Nat) (n : Nat) : Int := sumI (loS s fit b k) n
def loU (s : Int → Int) (fit b : Int) (k : Nat) : Int := s (3 + k) * (lvl s fit b k - s (7 + k))
def lotT (s : Int → Int) (fit b : Int) (k : Nat) (n : Nat) : Int := if 0 ≤ loU s fit b k then loA s fit b k n else -loA s fit b k n
def lotU (s : Int → Int) (fit b : Int) (k : Nat) : Int := if 0 ≤ loU s fit b k then loU s fit b k else -loU s fit b k
abbrev DL (s : Int → Int) (fit b : Int) (k : Nat) (n : Nat) : Prop := ¬ dg fit k = 4 ∧ ¬ mad fit b n = true ∧ 0 < lotT s fit b k n ∧ lotT s fit b k n < lotU s fit b k
theorem mul_in2 {a b A B : Int} (ha : 0 ≤ a ∧ a ≤ A) (hb : -B ≤ b ∧ b ≤ B) : -(A * B) ≤ a * b ∧ a * b ≤ A * B := by
  rcases Int.lt_or_le b 0 with h | h
  · have h1 := mul_in (a := a) (b := -b) (A := A) (B := B) ha (by omega)
    rw [Int.mul_neg] at h1
    omega
  · have h1 := mul_in (a := a) (b := b) (A := A) (B := B) ha (by omega)
    omega
theorem lvl_in {n m : Nat} {s : Int → Int} (h : Okm n m s) {fit : Int} {k : Nat} (hk : k < n) {b : Nat} (hb : b < m) {a : Nat} (ha : a < m) (e : dg fit k = a) : -4000 ≤ lvl s fit b k ∧ lvl s fit b k ≤ 4000 := by
  have q := h.2.2.2.2.2.1 k hk
  have q1 := h.2.2.2.2.2.2 b hb
  have q2 := h.2.2.2.2.2.2 a ha
  have q3 := q1.2.2 k hk
  have q4 := q2.2.2 k hk
  unfold lvl
  rw [e]
  omega
theorem loS_in {n m : Nat} {s : Int → Int} (h : Okm n m s) {fit b : Int} {k : Nat} (hl : -4000 ≤ lvl s fit b k ∧ lvl s fit b k ≤ 4000) {o : Nat} (ho : o < n) : -500000 ≤ loS s fit b k o ∧ loS s fit b k o ≤ 500000 := by
  have q := h.2.2.2.2.2.1 o ho
  have c := mul_in2 (a := s (3 + o)) (b := s (7 + o) - lvl s fit b k) (A := 100) (B := 5000) (by omega) (by omega)
  unfold loS
  (repeat' split) <;> omega
theorem loA_in {n m : Nat} {s : Int → Int} (h : Okm n m s) {fit b : Int} {k : Nat} (hl : -4000 ≤ lvl s fit b k ∧ lvl s fit b k ≤ 4000) {o : Nat} (ho : o ≤ n) : -2000000 ≤ loA s fit b k o ∧ loA s fit b k o ≤ 2000000 := by
  have a1 := sumI_ge (a := -500000) (f := loS s fit b k) (n := o) (fun i hi => (loS_in h hl (by omega)).1)
  have a2 := sumI_le (a := 500000) (f := loS s fit b k) (n := o) (fun i hi => (loS_in h hl (by omega)).2)
  have hn := h.1
  unfold loA
  omega
theorem loU_in {n m : Nat} {s : Int → Int} (h : Okm n m s) {fit b : Int} {k : Nat} (hk : k < n) (hl : -4000 ≤ lvl s fit b k ∧ lvl s fit b k ≤ 4000) : -500000 ≤ loU s fit b k ∧ loU s fit b k ≤ 500000 := by
  have q := h.2.2.2.2.2.1 k hk
  have c := mul_in2 (a := s (3 + k)) (b := lvl s fit b k - s (7 + k)) (A := 100) (B := 5000) (by omega) (by omega)
  unfold loU
  omega
theorem CS.u4 {σ : Mem} {x y : Int} : CS σ (ups (ups σ 72 4 x) 72 5 y) := (CS.rf.up (by omega)).up (by omega)
theorem c_drawsLots {σ : Mem} {n m : Nat} {s : Int → Int} {fit : Int} (h : Okm n m s) (hc : CK σ n m s) (h9 : σ 72 9 = 0) (hL : LY σ n fit) (hF : isF n m fit) {k : Nat} (hk : k < n) {b : Nat} (hb : b < m) : ∃ τ, f_X7_drawsLots k b σ = some (bi (DL s fit b k n), τ) ∧ CS σ τ ∧ LY τ n fit ∧ (DL s fit b k n → τ 72 4 = lotT s fit b k n ∧ τ 72 5 = lotU s fit b k) := by
  have hn := h.1
  have hm := h.2.1
  have h4 := fin4 hk hn.2
  have b4 := fin4 hb hm.2
  have a3 := dg_in fit k
  unfold f_X7_drawsLots
  rw [s32_of (z := (k : Int)) (by omega) (by omega), if_pos h4, hL.1 k hk]
  simp only [vl]
  rw [s32_of (z := dg fit k) (by omega) (by omega)]
  by_cases e4 : dg fit k = 4
  · rw [if_pos e4]
    exact ⟨σ, by rw [bi_f (fun z => z.1 e4)], CS.rf, hL, fun z => absurd e4 z.1⟩
  · rw [if_neg e4, c_isMade hL (by omega), ob_some]
    by_cases em : mad fit b n = true
    · rw [bi_t em, if_neg (by decide)]
      exact ⟨σ, by rw [bi_f (fun z => z.2.1 em)], CS.rf, hL, fun z => absurd em z.2.1⟩
    · obtain ⟨a, ha, ea⟩ : ∃ a : Nat, a < m ∧ dg fit k = a := ⟨(dg fit k).toNat, by have := isF_dg hF hk; omega, by omega⟩
      have a4 := fin4 ha hm.2
      have lv := lvl_in h hk hb ha ea
      have elv : s (7 + k) + s (15 + b) - s (19 + 4 * b + k) + s (19 + 4 * a + k) - s (15 + a) = lvl s fit b k := by
        unfold lvl
        rw [ea]
      have hl : itr (fun z => f_X7_drawsLots_83 k (dg fit k) (lvl s fit b k) z.1 z.2.1 z.2.2) FU (0, 0, σ) = some (loA s fit b k n, σ) := by
        refine itr_for0 (fun o => (loA s fit b k o, (o : Int), σ)) n _ (by omega) (fun o ho => ?_) ?_
        · have q := h.2.2.2.2.2.1 o ho
          have qc := hc.2.2.2.1 o ho
          have o4 := fin4 ho hn.2
          have od := dg_in fit o
          have c := mul_in2 (a := s (3 + o)) (b := s (7 + o) - lvl s fit b k) (A := 100) (B := 5000) (by omega) (by omega)
          show f_X7_drawsLots_83 k (dg fit k) (lvl s fit b k) (loA s fit b k o) (o : Int) σ = some (Sum.inl (loA s fit b k o + (if (o : Int) = k then 0 else if dg fit o = dg fit k then s (3 + o) * (s (7 + o) - lvl s fit b k) else 0), ((o + 1 : Nat) : Int), σ))
          unfold f_X7_drawsLots_83
          rw [hc.1, s32_of (z := (n : Int)) (by omega) (by omega), s32_of (z := (o : Int)) (by omega) (by omega), if_neg (by omega), s32_of (z := (k : Int)) (by omega) (by omega), hL.1 o ho, s32_of (z := dg fit o) (by omega) (by omega), s32_of (z := dg fit k) (by omega) (by omega)]
          by_cases e1 : (o : Int) = k
          · rw [if_pos e1, if_pos e1, Int.add_zero]
            rfl
          · rw [if_neg e1, if_neg e1, if_pos o4]
            by_cases e2 : dg fit o = dg fit k
            · rw [if_pos e2, if_pos e2]
              simp only [vl]
              rw [qc.1, qc.2.1, s32_of (z := s (3 + (o : Int)) * (s (7 + (o : Int)) - lvl s fit b k)) (by omega) (by omega)]
              rfl
            · rw [if_neg e2, if_neg e2, Int.add_zero]
              rfl
        · show f_X7_drawsLots_83 k (dg fit k) (lvl s fit b k) (loA s fit b k n) (n : Int) σ = _
          unfold f_X7_drawsLots_83
          rw [hc.1, if_pos (Int.le_refl _)]
      have la := loA_in h lv (Nat.le_refl n)
      have lu := loU_in h hk lv
      have qc := hc.2.2.2.1 k hk
      generalize hBd : bi (DL s fit b k n) = B
      rw [bi_f em, if_pos s32_0, s32_of (z := (b : Int)) (by omega) (by omega), if_pos b4, ea, if_pos a4, qc.2.1, (hc.2.2.2.2 b hb).1, (hc.2.2.2.2 a ha).1, hc.cost h9 hb hk, hc.cost h9 ha hk, elv, ← ea, hl, lb_some]
      subst hBd
      simp only [stp]
      rw [if_pos h4, qc.1, qc.2.1]
      show ∃ τ, (if 0 ≤ s64 (s32 (loU s fit b k)) then (if s64 (ups (ups σ 72 4 (loA s fit b k n)) 72 5 (ab64 (s32 (loU s fit b k))) 72 4) ≤ 0 then some (0, ups (ups σ 72 4 (loA s fit b k n)) 72 5 (ab64 (s32 (loU s fit b k)))) else if s64 (ups (ups σ 72 4 (loA s fit b k n)) 72 5 (ab64 (s32 (loU s fit b k))) 72 5) ≤ s64 (ups (ups σ 72 4 (loA s fit b k n)) 72 5 (ab64 (s32 (loU s fit b k))) 72 4) then some (0, ups (ups σ 72 4 (loA s fit b k n)) 72 5 (ab64 (s32 (loU s fit b k)))) else some (1, ups (ups σ 72 4 (loA s fit b k n)) 72 5 (ab64 (s32 (loU s fit b k))))) else (if s64 (ups (ups σ 72 4 (-loA s fit b k n)) 72 5 (ab64 (s32 (loU s fit b k))) 72 4) ≤ 0 then some (0, ups (ups σ 72 4 (-loA s fit b k n)) 72 5 (ab64 (s32 (loU s fit b k)))) else if s64 (ups (ups σ 72 4 (-loA s fit b k n)) 72 5 (ab64 (s32 (loU s fit b k))) 72 5) ≤ s64 (ups (ups σ 72 4 (-loA s fit b k n)) 72 5 (ab64 (s32 (loU s fit b k))) 72 4) then some (0, ups (ups σ 72 4 (-loA s fit b k n)) 72 5 (ab64 (s32 (loU s fit b k)))) else some (1, ups (ups σ 72 4 (-loA s fit b k n)) 72 5 (ab64 (s32 (loU s fit b k)))))) = some (bi (DL s fit b k n), τ) ∧ _
      have ab : ab64 (loU s fit b k) = lotU s fit b k := by
        unfold ab64 lotU
        rw [s64_of (z := loU s fit b k) (by omega) (by omega)]
        (repeat' split) <;> omega
      rw [s32_of (z := loU s fit b k) (by omega) (by omega), s64_of (z := loU s fit b k) (by omega) (by omega), ab]
      have lt : -2000000 ≤ lotT s fit b k n ∧ lotT s fit b k n ≤ 2000000 := by
        unfold lotT
        split <;> omega
      have lU : 0 ≤ lotU s fit b k ∧ lotU s fit b k ≤ 500000 := by
        unfold lotU
        split <;> omega
      have fin : ∀ x : Int, x = lotT s fit b k n → ∃ τ, (if s64 (ups (ups σ 72 4 x) 72 5 (lotU s fit b k) 72 4) ≤ 0 then some (0, ups (ups σ 72 4 x) 72 5 (lotU s fit b k)) else if s64 (ups (ups σ 72 4 x) 72 5 (lotU s fit b k) 72 5) ≤ s64 (ups (ups σ 72 4 x) 72 5 (lotU s fit b k) 72 4) then some (0, ups (ups σ 72 4 x) 72 5 (lotU s fit b k)) else some (1, ups (ups σ 72 4 x) 72 5 (lotU s fit b k))) = some (bi (DL s fit b k n), τ) ∧ CS σ τ ∧ LY τ n fit ∧ (DL s fit b k n → τ 72 4 = lotT s fit b k n ∧ τ 72 5 = lotU s fit b k) := by
        rintro x rfl
        have i4 : ups (ups σ 72 4 (lotT s fit b k n)) 72 5 (lotU s fit b k) 72 4 = lotT s fit b k n := by rw [ups_ni (by decide), ups_at]
        have i5 : ups (ups σ 72 4 (lotT s fit b k n)) 72 5 (lotU s fit b k) 72 5 = lotU s fit b k := by rw [ups_at]
        refine ⟨ups (ups σ 72 4 (lotT s fit b k n)) 72 5 (lotU s fit b k), ?_, CS.u4, hL.cs2 (by rw [ups_ne (by decide), ups_ne (by decide)]) (by rw [ups_ni (by decide), ups_ni (by decide)]), fun _ => ⟨i4, i5⟩⟩
        rw [i4, i5, s64_of (z := lotT s fit b k n) (by omega) (by omega), s64_of (z := lotU s fit b k) (by omega) (by omega)]
        by_cases w1 : lotT s fit b k n ≤ 0
        · rw [if_pos w1, bi_f (fun z => by have := z.2.2.1; omega)]
        · rw [if_neg w1]
          by_cases w2 : lotU s fit b k ≤ lotT s fit b k n
          · rw [if_pos w2, bi_f (fun z => by have := z.2.2.2; omega)]
          · rw [if_neg w2, bi_t ⟨e4, em, by omega, by omega⟩]
      by_cases e0 : 0 ≤ loU s fit b k
      · rw [if_pos e0]
        exact fin _ (by unfold lotT; rw [if_pos e0])
      · rw [if_neg e0]
        exact fin _ (by unfold lotT; rw [if_neg e0])
theorem m_findLots {σ : Mem} {n m : Nat} (h : Okm n m (σ 121)) {fit : Int} (hF : isF n m fit) {k : Nat} (hk : k < n) {b : Nat} (hb : b < m) (x0 y0 : Int) : ∃ x y, f_X12_findLots fit k b (ab σ x0 y0) = some (bi (DL (σ 121) fit b k n), ab σ x y) ∧ (DL (σ 121) fit b k n → x = lotT (σ 121) fit b k n ∧ y = lotU (σ 121) fit b k) := by
  have hn := h.1
  have hm := h.2.1
  have a3 := dg_in fit k
  have p4 := p5_in n hn.2
  have f1 : fit ≤ 2147483647 := by have := hF.2.1; omega
  have k4 : k ≤ 4 := by omega
  unfold f_X12_findLots
  rw [m_made hF.1 f1 k4, ob_some, s32_of (z := dg fit k) (by omega) (by omega)]
  by_cases e4 : dg fit k = 4
  · rw [if_pos e4]
    exact ⟨x0, y0, by rw [bi_f (fun z => z.1 e4)], fun z => absurd e4 z.1⟩
  · rw [if_neg e4, s32_of (z := (b : Int)) (by omega) (by omega)]
    by_cases eb : dg fit k = b
    · rw [if_pos eb]
      have em : mad fit b n = true := mad_iff.mpr ⟨k, hk, eb⟩
      exact ⟨x0, y0, by rw [bi_f (fun z => z.2.1 em)], fun z => absurd em z.2.1⟩
    · rw [if_neg eb, m_isMade (by rw [ab_s]; exact h.2.2.1) hn.2 hF.1 f1 (s32_of (by omega) (by omega)), ob_some]
      by_cases em : mad fit b n = true
      · rw [bi_t em, if_neg (by decide)]
        exact ⟨x0, y0, by rw [bi_f (fun z => z.2.1 em)], fun z => absurd em z.2.1⟩
      · obtain ⟨a, ha, ea⟩ : ∃ a : Nat, a < m ∧ dg fit k = a := ⟨(dg fit k).toNat, by have := isF_dg hF hk; omega, by omega⟩
        have lv := lvl_in h hk hb ha ea
        have elv : σ 121 (7 + k) + σ 121 (15 + b) - σ 121 (19 + 4 * b + k) + σ 121 (19 + 4 * a + k) - σ 121 (15 + a) = lvl (σ 121) fit b k := by
          unfold lvl
          rw [ea]
        have hl : ∀ u v : Int, itr (fun z => f_X12_findLots_99 fit k (dg fit k) (lvl (σ 121) fit b k) z.1 z.2) FU (0, ab σ 0 v) = some (ab σ (loA (σ 121) fit b k n) v) := fun u v => by
          refine itr_for0 (fun o => ((o : Int), ab σ (loA (σ 121) fit b k o) v)) n _ (by omega) (fun o ho => ?_) ?_
          · have q := h.2.2.2.2.2.1 o ho
            have od := dg_in fit o
            have t3 : 0 ≤ 3 + (o : Int) ∧ 3 + (o : Int) < 39 := by omega
            have t7 : 0 ≤ 7 + (o : Int) ∧ 7 + (o : Int) < 39 := by omega
            show f_X12_findLots_99 fit k (dg fit k) (lvl (σ 121) fit b k) (o : Int) (ab σ (loA (σ 121) fit b k o) v) = some (Sum.inl (((o + 1 : Nat) : Int), ab σ (loA (σ 121) fit b k o + (if (o : Int) = k then 0 else if dg fit o = dg fit k then σ 121 (3 + o) * (σ 121 (7 + o) - lvl (σ 121) fit b k) else 0)) v))
            unfold f_X12_findLots_99
            rw [ab_s, h.2.2.1, s32_of (z := (n : Int)) (by omega) (by omega), s32_of (z := (o : Int)) (by omega) (by omega), if_neg (by omega), s32_of (z := (k : Int)) (by omega) (by omega)]
            by_cases e1 : (o : Int) = k
            · rw [if_pos e1, if_pos e1]
              simp only [stp, ab_21, ab_u1]
              rfl
            · rw [if_neg e1, if_neg e1, m_made hF.1 f1 (by omega), ob_some, s32_of (z := dg fit o) (by omega) (by omega), s32_of (z := dg fit k) (by omega) (by omega)]
              by_cases e2 : dg fit o = dg fit k
              · rw [if_pos e2, if_pos e2, s32_of (z := 3 + (o : Int)) (by omega) (by omega), if_pos t3, s32_of (z := 7 + (o : Int)) (by omega) (by omega), if_pos t7]
                simp only [stp, ab_s, ab_21, ab_u1]
                rw [s32_of (z := σ 121 (3 + (o : Int))) (by omega) (by omega), s32_of (z := σ 121 (7 + (o : Int)) - lvl (σ 121) fit b k) (by omega) (by omega)]
                rfl
              · rw [if_neg e2, if_neg e2]
                simp only [stp, ab_21, ab_u1]
                rfl
          · show f_X12_findLots_99 fit k (dg fit k) (lvl (σ 121) fit b k) (n : Int) (ab σ (loA (σ 121) fit b k n) v) = _
            unfold f_X12_findLots_99
            rw [ab_s, h.2.2.1, if_pos (Int.le_refl _)]
        have la := loA_in h lv (Nat.le_refl n)
        have lu := loU_in h hk lv
        have q := h.2.2.2.2.2.1 k hk
        have t3 : 0 ≤ 3 + (k : Int) ∧ 3 + (k : Int) < 39 := by omega
        have t7 : 0 ≤ 7 + (k : Int) ∧ 7 + (k : Int) < 39 := by omega
        have tb : 0 ≤ 15 + (b : Int) ∧ 15 + (b : Int) < 39 := by omega
        have ta : 0 ≤ 15 + (a : Int) ∧ 15 + (a : Int) < 39 := by omega
        have tc : 0 ≤ 19 + 4 * (b : Int) + (k : Int) ∧ 19 + 4 * (b : Int) + (k : Int) < 39 := by omega
        have td : 0 ≤ 19 + 4 * (a : Int) + (k : Int) ∧ 19 + 4 * (a : Int) + (k : Int) < 39 := by omega
        generalize hBd : bi (DL (σ 121) fit b k n) = B
        rw [bi_f em, if_pos s32_0, ea, s32_of (z := 7 + (k : Int)) (by omega) (by omega), if_pos t7, s32_of (z := 15 + (b : Int)) (by omega) (by omega), if_pos tb, s32_of (z := 19 + 4 * (b : Int) + (k : Int)) (by omega) (by omega), if_pos tc, s32_of (z := 19 + 4 * (a : Int) + (k : Int)) (by omega) (by omega), if_pos td, s32_of (z := 15 + (a : Int)) (by omega) (by omega), if_pos ta]
        simp only [vl, stp, ab_s, ab_u1]
        rw [elv, ← ea]
        subst hBd
        rw [hl 0, lb_some, s32_of (z := 3 + (k : Int)) (by omega) (by omega), if_pos t3, if_pos t7]
        simp only [ab_s, ab_21, ab_22, ab_u1, ab_u2]
        rw [s32_of (z := σ 121 (3 + (k : Int))) (by omega) (by omega), s32_of (z := lvl (σ 121) fit b k - σ 121 (7 + (k : Int))) (by omega) (by omega)]
        have e9 : σ 121 (3 + (k : Int)) * (lvl (σ 121) fit b k - σ 121 (7 + (k : Int))) = loU (σ 121) fit b k := rfl
        rw [e9, s64_of (z := loU (σ 121) fit b k) (by omega) (by omega), s64_of (z := loA (σ 121) fit b k n) (by omega) (by omega), s64_of (z := -loA (σ 121) fit b k n) (by omega) (by omega), s64_of (z := -loU (σ 121) fit b k) (by omega) (by omega)]
        refine ⟨lotT (σ 121) fit b k n, lotU (σ 121) fit b k, ?_, fun _ => ⟨rfl, rfl⟩⟩
        have hD : DL (σ 121) fit b k n ↔ 0 < lotT (σ 121) fit b k n ∧ lotT (σ 121) fit b k n < lotU (σ 121) fit b k := ⟨fun z => z.2.2, fun z => ⟨e4, em, z⟩⟩
        rw [bi_congr hD]
        unfold lotT lotU
        by_cases e0 : 0 ≤ loU (σ 121) fit b k
        · rw [if_pos e0, if_pos e0, if_pos e0]
          by_cases w1 : loA (σ 121) fit b k n ≤ 0
          · rw [if_pos w1, bi_f (by omega)]
          · rw [if_neg w1]
            by_cases w2 : loU (σ 121) fit b k ≤ loA (σ 121) fit b k n
            · rw [if_pos w2, bi_f (by omega)]
            · rw [if_neg w2, bi_t (by omega)]
        · rw [if_neg e0, if_neg e0, if_neg e0]
          by_cases w1 : -loA (σ 121) fit b k n ≤ 0
          · rw [if_pos w1, bi_f (by omega)]
          · rw [if_neg w1]
            by_cases w2 : -loU (σ 121) fit b k ≤ -loA (σ 121) fit b k n
            · rw [if_pos w2, bi_f (by omega)]
            · rw [if_neg w2, bi_t (by omega)]
