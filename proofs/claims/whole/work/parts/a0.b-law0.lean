/-! BY HAND 26: the law's turns: what they share -/
theorem s32_ti (x : Int32) : s32 x.toInt = x.toInt := by rw [← iI_toInt, iI_eta]
theorem Rel.fit {σ : Mem} (h : Rel σ) {x : Int} (hx : 0 ≤ x ∧ x < 8) (h3 : ¬ σ (80 + 2 * x) 3 = 0) : FitR σ x := by
  obtain ⟨d, hd, rfl⟩ : ∃ d : Nat, d < 8 ∧ x = d := ⟨x.toNat, by omega, by omega⟩
  rcases h.2.2.2 d hd with ⟨-, -, q⟩ | ⟨-, -, -, q⟩ | ⟨-, q, -⟩
  · exact absurd q h3
  · exact q
  · exact absurd q h3
theorem Rel.nm {σ : Mem} (h : Rel σ) : ∃ n m' : Nat, σ 10 0 = n ∧ σ 10 1 = m' ∧ n ≤ 4 ∧ m' ≤ 4 := by
  by_cases q : σ 0 6 = 0
  · have hn := h.no q
    exact ⟨0, 0, hn.2.2.1, hn.2.2.2, by omega, by omega⟩
  · obtain ⟨e1, n, m, hO, hB, hD⟩ := h.mkt q
    exact ⟨n, m, hB.1.1, hB.1.2.1, hO.1.1.2, hO.1.2.1.2⟩
theorem m_element2 {σ : Mem} (h : Rel σ) {v w : Int} (hv : s32 v = v) (hw : s32 w = w) : ∃ r, f_X12_element v w σ = some (r, ups σ 120 10 (elK σ v w)) ∧ (elK σ v w = 0 → r = σ (81 + 2 * v) w ∧ inI r) := by
  have w1 := s32_lo w
  have w2 := s32_hi w
  rw [hw] at w1 w2
  unfold f_X12_element elK
  rw [m_isShelf hv, ob_some]
  by_cases c1 : 0 ≤ v ∧ v ≤ 7
  · obtain ⟨d, hd, rfl⟩ : ∃ d : Nat, d < 8 ∧ v = d := ⟨v.toNat, by clear hv hw; omega, by clear hv hw; omega⟩
    have d8 : 0 ≤ (d : Int) ∧ (d : Int) < 8 := by clear hv hw; omega
    have hS := h.2.2.2 d hd
    have kd := hS.kd
    rw [bi_t c1, if_neg (by decide), if_pos c1, hv, if_pos d8, s32_of (z := σ 124 d) (by clear hv hw; omega) (by clear hv hw; omega)]
    by_cases k2 : σ 124 d = 2
    · have rd := hS.row k2
      have s126 := rd.2.2.2.2.1
      rw [if_pos k2, s32_of (z := σ 126 d - 1) (by clear hv hw; omega) (by clear hv hw; omega), hw, m_isInT ⟨w1, w2⟩ (by decide) (by clear hv hw; omega), ob_some]
      by_cases p : 0 ≤ w ∧ w < σ 126 d
      · obtain ⟨i, hi, rfl⟩ : ∃ i : Nat, i < 120 ∧ w = i := ⟨w.toNat, by clear hv hw; omega, by clear hv hw; omega⟩
        have i960 : 0 ≤ 120 * (d : Int) + (i : Int) ∧ 120 * (d : Int) + (i : Int) < 960 := by clear hv hw; omega
        have z2 := rd.2.2.2.2.2 i hi
        have z3 := z2.2
        unfold inI at z3
        rw [bi_t (by clear hv hw; omega), if_neg (by decide), if_pos ⟨k2, p⟩]
        simp only [stp]
        rw [ups_at, if_pos s32_0, s32_of (z := 120 * (d : Int) + (i : Int)) (by clear hv hw; omega) (by clear hv hw; omega), if_pos i960, ups_ne (show (127 : Int) ≠ 120 by decide), s32_of z3.1 z3.2]
        refine ⟨_, rfl, fun _ => ⟨?_, z2.2⟩⟩
        rw [show 81 + 2 * (d : Int) = 80 + 2 * d + 1 by clear hv hw; omega, z2.1]
      · rw [bi_f (by clear hv hw; omega), if_pos s32_0, if_neg (fun z => p z.2)]
        simp only [stp]
        rw [ups_at, if_neg (by decide)]
        exact ⟨_, rfl, fun z => absurd z (by decide)⟩
    · rw [if_neg k2, if_neg (fun z => k2 z.1)]
      simp only [stp]
      rw [ups_at, if_neg (by decide)]
      exact ⟨_, rfl, fun z => absurd z (by decide)⟩
  · rw [bi_f c1, if_pos s32_0, if_neg c1]
    simp only [stp]
    rw [ups_at, if_neg (by decide)]
    exact ⟨_, rfl, fun z => absurd z (by decide)⟩
section Glw
variable {p : Program} {l : Launch} {e : Env} {R : Room} {s : State} {m : MethodId} {args : Array Value} {below : List Frame} {meth : Method} {c : Code} {cells slots mc ms : Nat} {Q : State → Prop}
variable {cc : ByteArray} {own : String} {ws : List Cond} {nL : Nat} {D : va_G} {ca : Ca} {ad : Int → Nat} {A : Nat → Prop} {σ σ' : Mem} {b L : Nat} {xs : Nat → Int32}
variable {pc index : Nat} {lv : List (Option Value)} {st : List Value}
/-- an element of the script, at u + k -/
theorem g_arg (C : Cx p s m args c cc nL own ws D ca A) (hX : va_X b L xs s s.heap) (hbl : b < s.heap.size) (hbA : ¬ A b) {k u : Int} {j : Nat} (hz0 : lv[0]? = some (some (.ref b))) (hz4 : lv[4]? = some (some (.int (iI u)))) (hj : s32 (u + k) = (j : Int)) (hjL : j < L) (d0 : decode cc pc = .ok (.aload_n 0, 1)) (d1 : decode cc (pc + 1) = .ok (.iload 4, 2)) (d3 : decode cc (pc + 3) = .ok (.iconst k, 1)) (d4 : decode cc (pc + 4) = .ok (.iadd, 1)) (d5 : decode cc (pc + 5) = .ok (.iaload, 1))
    (kk : G p l e R s m args below meth c nL D ca ad A cells slots Q σ (pc + 6) lv (.int (iI (xs j).toInt) :: st)) : G p l e R s m args below meth c nL D ca ad A cells slots Q σ pc lv st := by
  refine g_aload_n (i := 0) C d0 rfl hz0 ?_
  refine g_iload (i := 4) C d1 hz4 ?_
  refine g_iconst C d3 ?_
  refine g_iadd C d4 ?_
  intro H locs ls hw hS hl
  obtain ⟨h1, h2⟩ := ix_in (N := L) hj ⟨by omega, by omega⟩
  have h3 : (iI (u + k)).toNatClampNeg = j := by omega
  have hk := kk H locs ls hw hS hl
  rw [iI_eta] at hk
  refine va_sld C.1 C.2.1 hX hbl hbA hS h1 d5 ?_
  rw [h3]
  exact hk
/-- the script's element at u itself -/
theorem g_arg0 (C : Cx p s m args c cc nL own ws D ca A) (hX : va_X b L xs s s.heap) (hbl : b < s.heap.size) (hbA : ¬ A b) {u : Int} {j : Nat} (hz0 : lv[0]? = some (some (.ref b))) (hz4 : lv[4]? = some (some (.int (iI u)))) (hj : s32 u = (j : Int)) (hjL : j < L) (d0 : decode cc pc = .ok (.aload_n 0, 1)) (d1 : decode cc (pc + 1) = .ok (.iload 4, 2)) (d3 : decode cc (pc + 3) = .ok (.iaload, 1))
    (kk : G p l e R s m args below meth c nL D ca ad A cells slots Q σ (pc + 4) lv (.int (iI (xs j).toInt) :: st)) : G p l e R s m args below meth c nL D ca ad A cells slots Q σ pc lv st := by
  refine g_aload_n (i := 0) C d0 rfl hz0 ?_
  refine g_iload (i := 4) C d1 hz4 ?_
  intro H locs ls hw hS hl
  obtain ⟨h1, h2⟩ := ix_in (N := L) hj ⟨by omega, by omega⟩
  have h3 : (iI u).toNatClampNeg = j := by omega
  have hk := kk H locs ls hw hS hl
  rw [iI_eta] at hk
  refine va_sld C.1 C.2.1 hX hbl hbA hS h1 d3 ?_
  rw [h3]
  exact hk
theorem g_slen (C : Cx p s m args c cc nL own ws D ca A) (hX : va_X b L xs s s.heap) (hbl : b < s.heap.size) (hbA : ¬ A b) (hd : decode cc pc = .ok (.arraylength, 1)) (kk : G p l e R s m args below meth c nL D ca ad A cells slots Q σ (pc + 1) lv (.int (iI (L : Int)) :: st)) : G p l e R s m args below meth c nL D ca ad A cells slots Q σ pc lv (.ref b :: st) := by
  intro H locs ls hw hS hl
  exact va_slen C.1 C.2.1 hX hbl hbA hS hd (kk H locs ls hw hS hl)
/-- a call that makes cells and finds more than the memory -/
theorem g_callVm (C : Cx p s m args c cc nL own ws D ca A) {y : MethodName} {bytes : ByteArray} {maxL n mc' ms' : Nat} {ret : Option FieldType} {ws' : List Cond} {rm : Room} {As rest : List Value} {r : Int} {t : Int} {Cn : String} {ci : Nat} {q : vw_C} {fs : Ca → (Int → Nat) → (Int → Option Nat) → (Int → Int) → List Value} {P : State → Prop} (hM : Met l y ws' rm (va_Pc (.ref (ad t) :: As) P) (Qi D ca ad A r σ') mc' ms' A) (hblind : FrameBlind (va_Pc (.ref (ad t) :: As) P)) (hnow : ∀ (H : Heap) (locs : List Loc), Wr D ca ad A σ H → va_S A s.heap H locs → ∀ U : State, U.heap = H → s.WarmedH U.vm → va_Pc (.ref (ad t) :: As) P (.ref (ad t) :: As).toArray U) (cw : CallW R s args own Cn index y bytes maxL ret ws' rm mc' ms' n) (ho : ob_at t ci fs) (hc : vwCl[ci]? = some q) (hcn : q.1 = Cn) (hn : As.length = n) (hst : st = As.reverse ++ .ref (ad t) :: rest) (hR : (rest.map fun v => v.category).sum ≤ 8) (hd : decode cc pc = .ok (.invokevirtual index, 3)) (hcs : cells + mc' ≤ R.cells ∧ slots + ms' ≤ R.slots) (kk : G p l e R s m args below meth c nL D ca ad A (cells + mc') (slots + ms') Q σ' (pc + 3) lv (.int (iI r) :: rest)) : G p l e R s m args below meth c nL D ca ad A cells slots Q σ pc lv st := by
  intro H locs ls hw hS hl
  subst hst
  obtain ⟨fa, hP, hD, hf⟩ := id hw
  obtain ⟨q0, hq⟩ := List.getElem?_of_mem ho.1
  have he := wl_at (ca := ca) (ad := ad) (fa := fa) (σ := σ) hq
  rw [ho.2] at he
  have hrc := va_recv C.2.2.2.2.2.1 hP hc he
  rw [hcn] at hrc
  refine va_calli (va_runV (As := As) (rest := rest) ⟨C.1, C.2.1, C.2.2.1, C.2.2.2.1, C.2.2.2.2.1⟩ hM cw ⟨hblind, hrc, hnow H locs hw hS⟩ rfl hn hl.1 rfl (lv_room hR) hd hcs) hS (fun _ _ h => h) (fun _ h => h) ?_
  intro x u t1 H1 locs1 ht hvm hp hB hz hk1 hS1
  rw [ht] at hB
  subst hp
  exact kk H1 locs1 ls hB hS1 hl
end Glw
/-- the law's locals at a turn's begin -/
def lvB (b : Nat) (ad : Int → Nat) (u : Int) : List (Option Value) := [some (.ref b), some (.ref (ad 0)), some (.ref (ad 120)), some (.ref (ad 132)), some (.int (iI u)), none, none, none]
