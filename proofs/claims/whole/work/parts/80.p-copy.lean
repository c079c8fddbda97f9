/-! PURE 40: copy, element -/
theorem m_copied {σ : Mem} {v1 v2 v3 v4 : Nat} {N : Nat} (h1 : v1 < 8) (h3 : v3 < 8) (h2 : v2 + N ≤ 120) (h4 : v4 + N ≤ 120) : ∃ κ, itr (fun z => f_X12_copy_122 v1 v2 v3 v4 N z.1 z.2) FU (0, σ) = some κ ∧ (∀ a x : Int, ¬ (a = 127 ∧ 120 * (v3 : Int) + v4 ≤ x ∧ x < 120 * (v3 : Int) + v4 + N) → κ a x = σ a x) ∧ ∀ q : Nat, q < N → κ 127 (120 * v3 + v4 + q) = σ 127 (120 * v1 + v2 + q) := by
  have hl : ∃ κ, itr (fun z => f_X12_copy_122 v1 v2 v3 v4 N z.1 z.2) FU (0, σ) = some κ ∧ ((∀ a x : Int, ¬ (a = 127 ∧ 120 * (v3 : Int) + v4 ≤ x ∧ x < 120 * (v3 : Int) + v4 + N) → κ a x = σ a x) ∧ ∀ q : Nat, q < N → κ 127 (120 * v3 + v4 + q) = σ 127 (120 * v1 + v2 + q)) := by
    refine itr_forH (fun k z => ∃ κ, z = ((k : Int), κ) ∧ (∀ a x : Int, ¬ (a = 127 ∧ 120 * (v3 : Int) + v4 ≤ x ∧ x < 120 * (v3 : Int) + v4 + N) → κ a x = σ a x) ∧ ∀ q : Nat, q < N → ((if v2 ≤ v4 then N ≤ q + k else q < k) → κ 127 (120 * v3 + v4 + q) = σ 127 (120 * v1 + v2 + q)) ∧ (¬ (if v2 ≤ v4 then N ≤ q + k else q < k) → κ 127 (120 * v3 + v4 + q) = σ 127 (120 * v3 + v4 + q))) _ N (by omega) ⟨σ, rfl, fun _ _ _ => rfl, fun q hq => ⟨fun w => ?_, fun _ => rfl⟩⟩ (fun k hk z hz => ?_) (fun z hz => ?_)
    · split at w <;> omega
    · obtain ⟨κ, rfl, hu, hd⟩ := hz
      have uN : s32 (N : Int) = N := s32_of (by omega) (by omega)
      have uk : s32 (k : Int) = k := s32_of (by clear uN; omega) (by clear uN; omega)
      have u2 : s32 (v2 : Int) = v2 := s32_of (by clear uN uk; omega) (by clear uN uk; omega)
      have u4 : s32 (v4 : Int) = v4 := s32_of (by clear uN uk u2; omega) (by clear uN uk u2; omega)
      -- what is read is still as it was
      have rd : ∀ p : Nat, p < N → (if v2 ≤ v4 then p + k + 1 = N else p = k) → κ 127 (120 * v1 + v2 + p) = σ 127 (120 * v1 + v2 + p) := by
        intro p hp hpk
        by_cases e : 120 * (v3 : Int) + v4 ≤ 120 * v1 + v2 + p ∧ 120 * (v1 : Int) + v2 + p < 120 * (v3 : Int) + v4 + N
        · obtain ⟨q, hq, eq⟩ : ∃ q : Nat, q < N ∧ 120 * (v1 : Int) + v2 + p = 120 * v3 + v4 + q := ⟨(120 * (v1 : Int) + v2 + p - (120 * v3 + v4)).toNat, by clear uN uk u2 u4; omega, by clear uN uk u2 u4; omega⟩
          rw [eq]
          refine (hd q hq).2 (fun w => ?_)
          by_cases c : v2 ≤ v4
          · rw [if_pos c] at w hpk
            clear uN uk u2 u4
            omega
          · rw [if_neg c] at w hpk
            clear uN uk u2 u4
            omega
        · exact hu 127 _ (fun z => e z.2)
      by_cases c : v2 ≤ v4
      · have p9 : 0 ≤ 120 * (v1 : Int) + v2 + (N - 1 - k) ∧ 120 * (v1 : Int) + v2 + (N - 1 - k) < 960 := by clear uN uk u2 u4; omega
        have q9 : 0 ≤ 120 * (v3 : Int) + v4 + (N - 1 - k) ∧ 120 * (v3 : Int) + v4 + (N - 1 - k) < 960 := by clear uN uk u2 u4; omega
        have up : s32 (120 * (v1 : Int) + v2 + (N - 1 - k)) = 120 * (v1 : Int) + v2 + (N - 1 - k) := s32_of (by clear uN uk u2 u4; omega) (by clear uN uk u2 u4; omega)
        have uq : s32 (120 * (v3 : Int) + v4 + (N - 1 - k)) = 120 * (v3 : Int) + v4 + (N - 1 - k) := s32_of (by clear uN uk u2 u4 up; omega) (by clear uN uk u2 u4 up; omega)
        obtain ⟨p, ep⟩ : ∃ p : Nat, p + k + 1 = N := ⟨N - 1 - k, by clear uN uk u2 u4 up uq; omega⟩
        have ep2 : (N : Int) - 1 - k = p := by clear uN uk u2 u4 up uq; omega
        refine ⟨((k : Int) + 1, ups κ 127 (120 * v3 + v4 + p) (σ 127 (120 * v1 + v2 + p))), ?_, _, rfl, fun a x w => ?_, fun q hq => ?_⟩
        · show f_X12_copy_122 v1 v2 v3 v4 N (k : Int) κ = _
          unfold f_X12_copy_122
          rw [uN, uk, if_neg (by clear uN uk u2 u4 up uq; omega), u2, u4, if_pos (by clear uN uk u2 u4 up uq; omega)]
          simp only [vl]
          rw [up, if_pos p9, uq, if_pos q9, ep2, rd p (by clear uN uk u2 u4 up uq; omega) (by rw [if_pos c]; exact ep)]
        · have e : ups κ 127 (120 * v3 + v4 + p) (σ 127 (120 * v1 + v2 + p)) a x = κ a x := by
            unfold ups
            rw [if_neg (fun z => w ⟨z.1, by clear uN uk u2 u4 up uq; omega, by clear uN uk u2 u4 up uq; omega⟩)]
          rw [e]
          exact hu a x w
        · rw [if_pos c]
          by_cases e : q = p
          · subst e
            refine ⟨fun _ => ups_at _ _ _ _, fun z => absurd (by clear uN uk u2 u4 up uq; omega) z⟩
          · rw [ups_ni (by clear uN uk u2 u4 up uq; omega)]
            have z := hd q hq
            rw [if_pos c] at z
            exact ⟨fun y => z.1 (by clear uN uk u2 u4 up uq; omega), fun y => z.2 (by clear uN uk u2 u4 up uq; omega)⟩
      · have p9 : 0 ≤ 120 * (v1 : Int) + v2 + k ∧ 120 * (v1 : Int) + v2 + k < 960 := by clear uN uk u2 u4; omega
        have q9 : 0 ≤ 120 * (v3 : Int) + v4 + k ∧ 120 * (v3 : Int) + v4 + k < 960 := by clear uN uk u2 u4; omega
        have up : s32 (120 * (v1 : Int) + v2 + k) = 120 * (v1 : Int) + v2 + k := s32_of (by clear uN uk u2 u4; omega) (by clear uN uk u2 u4; omega)
        have uq : s32 (120 * (v3 : Int) + v4 + k) = 120 * (v3 : Int) + v4 + k := s32_of (by clear uN uk u2 u4 up; omega) (by clear uN uk u2 u4 up; omega)
        refine ⟨((k : Int) + 1, ups κ 127 (120 * v3 + v4 + k) (σ 127 (120 * v1 + v2 + k))), ?_, _, rfl, fun a x w => ?_, fun q hq => ?_⟩
        · show f_X12_copy_122 v1 v2 v3 v4 N (k : Int) κ = _
          unfold f_X12_copy_122
          rw [uN, uk, if_neg (by clear uN uk u2 u4 up uq; omega), u2, u4, if_neg (by clear uN uk u2 u4 up uq; omega), up, if_pos p9, uq, if_pos q9, rd k hk (by rw [if_neg c])]
        · have e : ups κ 127 (120 * v3 + v4 + k) (σ 127 (120 * v1 + v2 + k)) a x = κ a x := by
            unfold ups
            rw [if_neg (fun z => w ⟨z.1, by clear uN uk u2 u4 up uq; omega, by clear uN uk u2 u4 up uq; omega⟩)]
          rw [e]
          exact hu a x w
        · rw [if_neg c]
          by_cases e : q = k
          · subst e
            refine ⟨fun _ => ups_at _ _ _ _, fun z => absurd (by clear uN uk u2 u4 up uq; omega) z⟩
          · rw [ups_ni (by clear uN uk u2 u4 up uq; omega)]
            have z := hd q hq
            rw [if_neg c] at z
            exact ⟨fun y => z.1 (by clear uN uk u2 u4 up uq; omega), fun y => z.2 (by clear uN uk u2 u4 up uq; omega)⟩
    · obtain ⟨κ, rfl, hu, hd⟩ := hz
      refine ⟨κ, ?_, hu, fun q hq => (hd q hq).1 ?_⟩
      · show f_X12_copy_122 v1 v2 v3 v4 N (N : Int) κ = _
        unfold f_X12_copy_122
        rw [if_pos (Int.le_refl _)]
      · split <;> omega
  obtain ⟨κ, e, h⟩ := hl
  exact ⟨κ, e, h.1, h.2⟩
theorem ShR.row {σ : Mem} {d : Int} (h : ShR σ d) (h2 : σ 124 d = 2) : σ (80 + 2 * d) 3 = 0 ∧ σ (80 + 2 * d) 1 = σ 125 d ∧ (0 ≤ σ 125 d ∧ σ 125 d ≤ 2) ∧ σ (80 + 2 * d) 2 = σ 126 d ∧ (0 ≤ σ 126 d ∧ σ 126 d ≤ 120) ∧ ∀ j : Nat, j < 120 → σ (80 + 2 * d + 1) j = σ 127 (120 * d + j) ∧ inI (σ 127 (120 * d + j)) := by
  rcases h with w | w | w
  · omega
  · omega
  · exact w.2
theorem op_copy {σ : Mem} (h : Rel σ) {v1 v2 v3 v4 v5 : Int} (h1 : s32 v1 = v1) (h2 : s32 v2 = v2) (h3 : s32 v3 = v3) (h4 : s32 v4 = v4) (h5 : s32 v5 = v5) : Op σ (f_X11_copy v1 v2 v3 v4 v5) (f_X12_copy v1 v2 v3 v4 v5) := by
  unfold Op f_X11_copy f_X12_copy
  rw [c_isShelf' h1, ob_some]
  by_cases c1 : 0 ≤ v1 ∧ v1 ≤ 7
  · rw [bi_t c1, if_neg (by decide), c_isShelf' h3, ob_some]
    by_cases c3 : 0 ≤ v3 ∧ v3 ≤ 7
    · obtain ⟨d, hd, rfl⟩ : ∃ d : Nat, d < 8 ∧ v1 = d := ⟨v1.toNat, by clear h1 h2 h3 h4 h5; omega, by clear h1 h2 h3 h4 h5; omega⟩
      obtain ⟨e, he, rfl⟩ : ∃ e : Nat, e < 8 ∧ v3 = e := ⟨v3.toNat, by clear h1 h2 h3 h4 h5; omega, by clear h1 h2 h3 h4 h5; omega⟩
      have d8 : 0 ≤ (d : Int) ∧ (d : Int) < 8 := by clear h1 h2 h3 h4 h5; omega
      have e8 : 0 ≤ (e : Int) ∧ (e : Int) < 8 := by clear h1 h2 h3 h4 h5; omega
      have hS := h.2.2.2 d hd
      have hE := h.2.2.2 e he
      have kd := hS.kd
      have ke := hE.kd
      have ud : s32 (σ 124 d) = σ 124 d := s32_of (by clear h1 h2 h3 h4 h5; omega) (by clear h1 h2 h3 h4 h5; omega)
      have ue : s32 (σ 124 e) = σ 124 e := s32_of (by clear h1 h2 h3 h4 h5 ud; omega) (by clear h1 h2 h3 h4 h5 ud; omega)
      rw [bi_t c3, if_neg (by decide), h1, h3, if_pos d8, if_pos e8, c_isBare hS, ob_some]
      have pre : ∀ (τ : Mem) (f : Mem → Option (Int × Mem)), (ob (f_X12_isShelf d τ) fun r2 σ1 => if (s32 r2) = 0 then (some ((-1), σ1)) else (ob (f_X12_isShelf e σ1) fun r6 σ5 => if (s32 r6) = 0 then (some ((-1), σ5)) else f σ5)) = f τ := fun τ f => by
        rw [m_isShelf h1, ob_some, bi_t c1, if_neg (by decide), m_isShelf h3, ob_some, bi_t c3, if_neg (by decide)]
      by_cases k0 : σ 124 d = 0
      · refine ⟨-11, σ, σ, by rw [bi_t k0, if_neg (by decide)], ?_, h⟩
        rw [pre, if_pos d8, ud, if_pos k0]
      · rw [bi_f k0, if_pos s32_0, c_isBare hE, ob_some]
        by_cases j0 : σ 124 e = 0
        · refine ⟨-11, σ, σ, by rw [bi_t j0, if_neg (by decide)], ?_, h⟩
          rw [pre, if_pos d8, ud, if_neg k0, if_pos e8, ue, if_pos j0]
        · rw [bi_f j0, if_pos s32_0, c_holdsRow hS, ob_some]
          by_cases k2 : σ 124 d = 2
          · have rd := hS.row k2
            have u125 : s32 (σ 125 d) = σ 125 d := s32_of (by have := rd.2.2.1; clear h1 h2 h3 h4 h5 ud ue; omega) (by have := rd.2.2.1; clear h1 h2 h3 h4 h5 ud ue; omega)
            rw [bi_t k2, if_neg (by decide), rd.2.1, c_holdsRowOf hE u125, ob_some]
            by_cases j2 : σ 124 e = 2 ∧ σ 125 e = σ 125 d
            · have re := hE.row j2.1
              have u125e : s32 (σ 125 e) = σ 125 e := by rw [j2.2]; exact u125
              rw [bi_t j2, if_neg (by decide), c_hasPlaces hS k2 h2 h5, ob_some]
              have mid : ∀ (τ : Mem) (f : Option (Int × Mem)), τ 124 = σ 124 → τ 125 = σ 125 → (if 0 ≤ (d : Int) ∧ (d : Int) < 8 then if (s32 (τ 124 (d : Int))) = 0 then (some ((-11), τ)) else (if 0 ≤ (e : Int) ∧ (e : Int) < 8 then if (s32 (τ 124 (e : Int))) = 0 then (some ((-11), τ)) else (if (s32 (τ 124 (d : Int))) = 2 then (if (s32 (τ 124 (e : Int))) = 2 then (if (s32 (τ 125 (d : Int))) = (s32 (τ 125 (e : Int))) then f else (some ((-12), τ))) else (some ((-12), τ))) else (some ((-12), τ))) else none) else none) = f := fun τ f z1 z2 => by
                rw [if_pos d8, z1, z2, ud, if_neg k0, if_pos e8, ue, if_neg j0, if_pos k2, if_pos j2.1, u125, u125e, if_pos j2.2.symm]
              by_cases p1 : (0 ≤ v2 ∧ 0 ≤ v5) ∧ v2 + v5 ≤ σ 126 d
              · rw [bi_t p1, if_neg (by decide), c_hasPlaces hE j2.1 h4 h5, ob_some]
                by_cases p2 : (0 ≤ v4 ∧ 0 ≤ v5) ∧ v4 + v5 ≤ σ 126 e
                · obtain ⟨i, rfl⟩ : ∃ i : Nat, v2 = i := ⟨v2.toNat, by clear h1 h2 h3 h4 h5 ud ue u125 u125e; omega⟩
                  obtain ⟨j, rfl⟩ : ∃ j : Nat, v4 = j := ⟨v4.toNat, by clear h1 h2 h3 h4 h5 ud ue u125 u125e; omega⟩
                  obtain ⟨N, rfl⟩ : ∃ N : Nat, v5 = N := ⟨v5.toNat, by clear h1 h2 h3 h4 h5 ud ue u125 u125e; omega⟩
                  have s126 := rd.2.2.2.2.1
                  have s126e := re.2.2.2.2.1
                  have r1 : i + N ≤ 120 := by clear h1 h2 h3 h4 h5 ud ue u125 u125e; omega
                  have r2 : j + N ≤ 120 := by clear h1 h2 h3 h4 h5 ud ue u125 u125e; omega
                  rw [bi_t p2, if_neg (by decide), h2, h4, h5, if_pos (by clear h1 h2 h3 h4 h5 ud ue u125 u125e; omega)]
                  simp only [stp]
                  obtain ⟨τ, hτ⟩ : ∃ τ, τ = cpy σ (80 + 2 * (d : Int) + 1) i (80 + 2 * (e : Int) + 1) j N := ⟨_, rfl⟩
                  rw [← hτ]
                  have t0 : ∀ a : Int, a ≠ 80 + 2 * (e : Int) + 1 → τ a = σ a := fun a w => by
                    rw [hτ]
                    funext x
                    unfold cpy
                    rw [if_neg (fun z => w z.1)]
                  obtain ⟨κ, ek, hk1, hk2⟩ := m_copied (σ := τ) hd he r1 r2
                  have k0' : ∀ a : Int, a ≠ 127 → κ a = τ a := fun a w => funext fun x => hk1 a x (fun z => w z.1)
                  have kk : ∀ a : Int, a ≠ 127 → a ≠ 80 + 2 * (e : Int) + 1 → κ a = σ a := fun a w1 w2 => (k0' a w1).trans (t0 a w2)
                  have hR : Rel κ := by
                    refine h.shelf he (fun a x w => ?_) (Or.inr (Or.inr ⟨?_, ?_, ?_, ?_, ?_, ?_, fun q hq => ?_⟩))
                    · rw [hk1 a x (fun z => w (by clear h1 h2 h3 h4 h5 ud ue u125 u125e; omega)), t0 a (fun z => w (by clear h1 h2 h3 h4 h5 ud ue u125 u125e; omega))]
                    · rw [kk _ (by decide) (by clear h1 h2 h3 h4 h5 ud ue u125 u125e; omega)]
                      exact j2.1
                    · rw [kk _ (by clear h1 h2 h3 h4 h5 ud ue u125 u125e; omega) (by clear h1 h2 h3 h4 h5 ud ue u125 u125e; omega)]
                      exact re.1
                    · rw [kk _ (by clear h1 h2 h3 h4 h5 ud ue u125 u125e; omega) (by clear h1 h2 h3 h4 h5 ud ue u125 u125e; omega), kk 125 (by decide) (by clear h1 h2 h3 h4 h5 ud ue u125 u125e; omega)]
                      exact re.2.1
                    · rw [kk 125 (by decide) (by clear h1 h2 h3 h4 h5 ud ue u125 u125e; omega)]
                      exact re.2.2.1
                    · rw [kk _ (by clear h1 h2 h3 h4 h5 ud ue u125 u125e; omega) (by clear h1 h2 h3 h4 h5 ud ue u125 u125e; omega), kk 126 (by decide) (by clear h1 h2 h3 h4 h5 ud ue u125 u125e; omega)]
                      exact re.2.2.2.1
                    · rw [kk 126 (by decide) (by clear h1 h2 h3 h4 h5 ud ue u125 u125e; omega)]
                      exact s126e
                    · rw [k0' _ (by clear h1 h2 h3 h4 h5 ud ue u125 u125e; omega)]
                      by_cases w : j ≤ q ∧ q < j + N
                      · obtain ⟨p, hp, rfl⟩ : ∃ p : Nat, p < N ∧ q = j + p := ⟨q - j, by clear h1 h2 h3 h4 h5 ud ue u125 u125e; omega, by clear h1 h2 h3 h4 h5 ud ue u125 u125e; omega⟩
                        have z1 := hk2 p hp
                        have z2 := rd.2.2.2.2.2 (i + p) (by clear h1 h2 h3 h4 h5 ud ue u125 u125e; omega)
                        have a1 : 120 * (e : Int) + ((j + p : Nat) : Int) = 120 * e + j + p := by clear h1 h2 h3 h4 h5 ud ue u125 u125e; omega
                        have a2 : 120 * (d : Int) + ((i + p : Nat) : Int) = 120 * d + i + p := by clear h1 h2 h3 h4 h5 ud ue u125 u125e; omega
                        rw [a1, z1, t0 127 (by clear h1 h2 h3 h4 h5 ud ue u125 u125e; omega), ← a2]
                        refine ⟨?_, z2.2⟩
                        rw [← z2.1, hτ]
                        unfold cpy
                        rw [if_pos ⟨rfl, by clear h1 h2 h3 h4 h5 ud ue u125 u125e; omega, by clear h1 h2 h3 h4 h5 ud ue u125 u125e; omega⟩]
                        rw [show (i : Int) + (((j + p : Nat) : Int) - j) = ((i + p : Nat) : Int) by clear h1 h2 h3 h4 h5 ud ue u125 u125e; omega]
                      · have z2 := re.2.2.2.2.2 q hq
                        rw [hk1 127 _ (by clear h1 h2 h3 h4 h5 ud ue u125 u125e; omega), t0 127 (by clear h1 h2 h3 h4 h5 ud ue u125 u125e; omega)]
                        refine ⟨?_, z2.2⟩
                        rw [← z2.1, hτ]
                        unfold cpy
                        rw [if_neg (by clear h1 h2 h3 h4 h5 ud ue u125 u125e; omega)]
                  refine ⟨N, τ, κ, rfl, ?_, hR⟩
                  rw [pre, mid τ _ (t0 124 (by clear h1 h2 h3 h4 h5 ud ue u125 u125e; omega)) (t0 125 (by clear h1 h2 h3 h4 h5 ud ue u125 u125e; omega)), t0 126 (by clear h1 h2 h3 h4 h5 ud ue u125 u125e; omega), if_neg (by clear h1 h2 h3 h4 h5 ud ue u125 u125e; omega), if_neg (by clear h1 h2 h3 h4 h5 ud ue u125 u125e; omega), if_neg (by clear h1 h2 h3 h4 h5 ud ue u125 u125e; omega), s32_of (z := σ 126 d - i) (by clear h1 h2 h3 h4 h5 ud ue u125 u125e; omega) (by clear h1 h2 h3 h4 h5 ud ue u125 u125e; omega), if_neg (by clear h1 h2 h3 h4 h5 ud ue u125 u125e; omega), s32_of (z := σ 126 e - j) (by clear h1 h2 h3 h4 h5 ud ue u125 u125e; omega) (by clear h1 h2 h3 h4 h5 ud ue u125 u125e; omega), if_pos (by clear h1 h2 h3 h4 h5 ud ue u125 u125e; omega), ek, lb_some]
                · refine ⟨-13, σ, σ, by rw [bi_f p2, if_pos s32_0], ?_, h⟩
                  have s126 := rd.2.2.2.2.1
                  have s126e := re.2.2.2.2.1
                  rw [pre, mid σ _ rfl rfl, h2, h4, h5, if_neg (by clear h1 h2 h3 h4 h5 ud ue u125 u125e; omega), if_neg (by clear h1 h2 h3 h4 h5 ud ue u125 u125e; omega)]
                  by_cases g1 : v4 < 0
                  · rw [if_pos g1]
                  · rw [if_neg g1, s32_of (z := σ 126 d - v2) (by clear h1 h2 h3 h4 h5 ud ue u125 u125e; omega) (by clear h1 h2 h3 h4 h5 ud ue u125 u125e; omega), if_neg (by clear h1 h2 h3 h4 h5 ud ue u125 u125e; omega)]
                    by_cases g2 : v4 ≤ 2147483647
                    · rw [s32_of (z := σ 126 e - v4) (by clear h1 h2 h3 h4 h5 ud ue u125 u125e; omega) (by clear h1 h2 h3 h4 h5 ud ue u125 u125e; omega), if_neg (by clear h1 h2 h3 h4 h5 ud ue u125 u125e; omega)]
                    · have := s32_hi v4
                      rw [h4] at this
                      exact absurd this g2
              · refine ⟨-13, σ, σ, by rw [bi_f p1, if_pos s32_0], ?_, h⟩
                have s126 := rd.2.2.2.2.1
                have g3 := s32_hi v2
                rw [h2] at g3
                rw [pre, mid σ _ rfl rfl, h2, h4, h5]
                by_cases g1 : v5 < 0
                · rw [if_pos g1]
                · rw [if_neg g1]
                  by_cases g2 : v2 < 0
                  · rw [if_pos g2]
                  · rw [if_neg g2]
                    by_cases g4 : v4 < 0
                    · rw [if_pos g4]
                    · rw [if_neg g4, s32_of (z := σ 126 d - v2) (by clear h1 h2 h3 h4 h5 ud ue u125 u125e; omega) (by clear h1 h2 h3 h4 h5 ud ue u125 u125e; omega), if_pos (by clear h1 h2 h3 h4 h5 ud ue u125 u125e; omega)]
            · refine ⟨-12, σ, σ, by rw [bi_f j2, if_pos s32_0], ?_, h⟩
              rw [pre, if_pos d8, ud, if_neg k0, if_pos e8, ue, if_neg j0, if_pos k2]
              by_cases j3 : σ 124 e = 2
              · have re := hE.row j3
                rw [if_pos j3, u125, s32_of (z := σ 125 e) (by have := re.2.2.1; clear h1 h2 h3 h4 h5 ud ue u125; omega) (by have := re.2.2.1; clear h1 h2 h3 h4 h5 ud ue u125; omega), if_neg (fun z => j2 ⟨j3, z.symm⟩)]
              · rw [if_neg j3]
          · refine ⟨-12, σ, σ, by rw [bi_f k2, if_pos s32_0], ?_, h⟩
            rw [pre, if_pos d8, ud, if_neg k0, if_pos e8, ue, if_neg j0, if_neg k2]
    · refine ⟨-1, σ, σ, by rw [bi_f c3, if_pos s32_0], ?_, h⟩
      rw [m_isShelf h1, ob_some, bi_t c1, if_neg (by decide), m_isShelf h3, ob_some, bi_f c3, if_pos s32_0]
  · refine ⟨-1, σ, σ, by rw [bi_f c1, if_pos s32_0], ?_, h⟩
    rw [m_isShelf h1, ob_some, bi_f c1, if_pos s32_0]
/-- what an element asks: which throw, or the value -/
def elK (σ : Mem) (v w : Int) : Int := if 0 ≤ v ∧ v ≤ 7 then (if σ 124 v = 2 ∧ 0 ≤ w ∧ w < σ 126 v then 0 else 2) else 1
theorem m_element {σ : Mem} (h : Rel σ) {v w : Int} (hv : s32 v = v) (hw : s32 w = w) : ∃ r τ, f_X12_element v w σ = some (r, τ) ∧ CO σ τ ∧ τ 120 10 = elK σ v w ∧ (elK σ v w = 0 → r = σ (81 + 2 * v) w ∧ inI r) := by
  have w1 := s32_lo w
  have w2 := s32_hi w
  rw [hw] at w1 w2
  unfold f_X12_element elK
  rw [m_isShelf hv, ob_some]
  by_cases c1 : 0 ≤ v ∧ v ≤ 7
  · obtain ⟨d, hd, rfl⟩ : ∃ d : Nat, d < 8 ∧ v = d := ⟨v.toNat, by clear hv hw; omega, by clear hv hw; omega⟩
    have d8 : 0 ≤ (d : Int) ∧ (d : Int) < 8 := by clear hv hw; omega
    have hS := h.2.2.2 d hd
    have kd := hS.kd
    rw [bi_t c1, if_neg (by decide), if_pos c1, hv, if_pos d8, s32_of (z := σ 124 d) (by clear hv hw; omega) (by clear hv hw; omega)]
    by_cases k2 : σ 124 d = 2
    · have rd := hS.row k2
      have s126 := rd.2.2.2.2.1
      rw [if_pos k2, s32_of (z := σ 126 d - 1) (by clear hv hw; omega) (by clear hv hw; omega), hw, m_isInT ⟨w1, w2⟩ (by decide) (by clear hv hw; omega), ob_some]
      by_cases p : 0 ≤ w ∧ w < σ 126 d
      · obtain ⟨i, hi, rfl⟩ : ∃ i : Nat, i < 120 ∧ w = i := ⟨w.toNat, by clear hv hw; omega, by clear hv hw; omega⟩
        have i960 : 0 ≤ 120 * (d : Int) + (i : Int) ∧ 120 * (d : Int) + (i : Int) < 960 := by clear hv hw; omega
        have z2 := rd.2.2.2.2.2 i hi
        have z3 := z2.2
        unfold inI at z3
        rw [bi_t (by clear hv hw; omega), if_neg (by decide), if_pos ⟨k2, p⟩]
        simp only [stp]
        rw [ups_at, if_pos s32_0, s32_of (z := 120 * (d : Int) + (i : Int)) (by clear hv hw; omega) (by clear hv hw; omega), if_pos i960, ups_ne (show (127 : Int) ≠ 120 by decide), s32_of z3.1 z3.2]
        refine ⟨_, _, rfl, CO.rf.up (by unfold scr; omega), ups_at _ _ _ _, fun _ => ⟨?_, z2.2⟩⟩
        rw [show 81 + 2 * (d : Int) = 80 + 2 * d + 1 by clear hv hw; omega, z2.1]
      · rw [bi_f (by clear hv hw; omega), if_pos s32_0, if_neg (fun z => p z.2)]
        simp only [stp]
        rw [ups_at, if_neg (by decide)]
        exact ⟨_, _, rfl, CO.rf.up (by unfold scr; omega), ups_at _ _ _ _, fun z => absurd z (by decide)⟩
    · rw [if_neg k2, if_neg (fun z => k2 z.1)]
      simp only [stp]
      rw [ups_at, if_neg (by decide)]
      exact ⟨_, _, rfl, CO.rf.up (by unfold scr; omega), ups_at _ _ _ _, fun z => absurd z (by decide)⟩
  · rw [bi_f c1, if_pos s32_0, if_neg c1]
    simp only [stp]
    rw [ups_at, if_neg (by decide)]
    exact ⟨_, _, rfl, CO.rf.up (by unfold scr; omega), ups_at _ _ _ _, fun z => absurd z (by decide)⟩
