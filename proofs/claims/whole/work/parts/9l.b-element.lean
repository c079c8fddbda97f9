/-! BY HAND 16: element -/
section Ge2
variable {p : Program} {l : Launch} {e : Env} {R : Room} {s : State} {m : MethodId} {args : Array Value} {below : List Frame} {meth : Method} {c : Code} {cells slots mc ms : Nat} {Q : State → Prop}
variable {D : va_G} {ca : Ca} {ad : Int → Nat} {A : Nat → Prop} {fa : Int → Option Nat} {σ : Mem}
abbrev IAE : String := "java/lang/IllegalArgumentException"
abbrev rm_X11_element : Room := { frames := 6, cells := 1, slots := 6, locals := 90 }
theorem v_X11_element (hst : l.stackTraces = false) {v w : Int} {sa sb : Nat} (hv : s32 v = v) (hw : s32 w = w) (hS : RelS σ) : vx_Met l yX11_element wsX11_element rm_X11_element (va_Pc [.ref (ad 0), .int (iI v), .int (iI w)] (fun U => Wd D ca ad A σ U ∧ TrW A RX11 "no such shelf" IAE 308 310 sa U ∧ TrW A RX11 "no row, or no such place" ISE 315 317 sb U)) (va_Ql (fun (x : Int64) (_ : Unit) => elK σ v w = 0 ∧ x = lI (s32 (σ (80 + 2 * v + 1) w))) (fun _ t => Wr D ca ad A σ t.heap) A) (vx_X (fun (_ : Unit) => True) (fun E _ t => ((E = IAE ∧ elK σ v w = 1) ∨ (E = ISE ∧ elK σ v w = 2)) ∧ Wr D ca ad A σ t.heap) A) 1 6 A := by
  refine vx_ofW (cc := cX11_element) (maxL := 4) (ret := some .long) (by decide) rfl ?_
  intro p e s m args below meth c s₁ B hml htab hv0
  obtain ⟨rfl, ⟨hW, hK, hA⟩, ⟨hU, hN, hR1, hB1⟩, -, -, hR2, hB2⟩ := hv0
  have C : Cx p s m [Value.ref (ad 0), .int (iI v), .int (iI w)].toArray c cX11_element 4 RX11 wsX11_element D ca A := ⟨B.exec, B.bytes, hml, findClass_of_methodNamed B.named, atoms_spec (ws := wsX11_element) B.pre, hK, hA⟩
  have hlk := B.notSynchronized
  have hl := lv_entry [.ref (ad 0), .int (iI v), .int (iI w)] (n := 4) (Nat.le_of_ble_eq_true rfl)
  rw [lg_entry_eq]
  refine (?_ : G p l e rm_X11_element s m [Value.ref (ad 0), .int (iI v), .int (iI w)].toArray below meth c 4 D ca ad A 0 0 _ σ 0 [some (.ref (ad 0)), some (.int (iI v)), some (.int (iI w)), none] []) s.heap [] _ hW va_S.rf (lh_of hl (fun i v h => lp_mem.mpr h))
  refine g_iload_n (i := 1) C dX11_element_0 rfl rfl ?_
  refine g_callSi C (c_X11_isShelf (c_isShelf' hv)) (va_cwS 1 C.2.2.2.2.1 gX11_element_X11_isShelf rfl rfl rfl (by decide +kernel) ⟨Nat.le_of_ble_eq_true rfl, Nat.le_of_ble_eq_true rfl⟩) rfl rfl (Nat.le_of_ble_eq_true rfl) dX11_element_1 ⟨Nat.zero_le _, Nat.zero_le _⟩ ?_
  have thr : elK σ v w = 2 → ∀ lv st', st' = ([] : List Value) → G p l e rm_X11_element s m [Value.ref (ad 0), .int (iI v), .int (iI w)].toArray below meth c 4 D ca ad A 0 0 (vx_MQ below (va_Ql (fun (x : Int64) (_ : Unit) => elK σ v w = 0 ∧ x = lI (s32 (σ (80 + 2 * v + 1) w))) (fun _ t => Wr D ca ad A σ t.heap) A) (vx_X (fun (_ : Unit) => True) (fun E _ t => ((E = IAE ∧ elK σ v w = 1) ∨ (E = ISE ∧ elK σ v w = 2)) ∧ Wr D ca ad A σ t.heap) A) [Value.ref (ad 0), .int (iI v), .int (iI w)].toArray s 1 6 A) σ 41 lv st' := by
    intro he lv st' hst' H locs ls hw9 hS9 hl9
    subst hst'
    refine vx_throwSW (own := RX11) (cls := ISE) (text := "no row, or no such place") (names := ["java/lang/RuntimeException", "java/lang/Exception"]) (ik := 313) (is := 315) (ic := 317) (A := A) (sa := sb) C.1 C.2.1 hst C.2.2.2.1 (by decide +kernel) (by decide +kernel) (C.wd (i := 3) rfl) (C.wd (i := 4) rfl) hR2 (vx_hat (fun w h => C.2.2.2.2.1 w (List.mem_cons_of_mem _ (List.mem_append_right _ h))) (fun w h => h) (fun w h => va_Nw.use ((by decide +kernel : ∀ w ∈ (vx_atS RX11 317 ISE ["java/lang/RuntimeException", "java/lang/Exception"]).filter (fun w => !goodWord w), w.onTables = true) w h) (hB2 w h))) (by decide +kernel) hU hN hS9 (hl9.1.trans C.2.2.1.symm) dX11_element_41 dX11_element_44 dX11_element_45 dX11_element_48 dX11_element_51 (fun x hx => (htab x hx).elim) (Nat.le_of_ble_eq_true rfl) (Nat.le_of_ble_eq_true rfl) (Nat.le_of_ble_eq_true rfl) (Nat.le_of_ble_eq_true rfl) hlk (fun t hvm hz hq => ⟨(), trivial, ⟨Or.inr ⟨rfl, he⟩, ?_⟩, Nat.le_trans hS9.1 hz, fun x h1 h2 => (hq x (Nat.lt_of_lt_of_le h1 hS9.1)).trans (hS9.2.1 x h1 h2)⟩) hS9.2.2 (Nat.le_of_ble_eq_true rfl) (Nat.le_of_ble_eq_true rfl)
    obtain ⟨fa, hP, hD, hf⟩ := hw9
    exact ⟨fa, hP.kept (fun j x hx => hq x.1 ((hP j x hx).lt)), hD, hf⟩
  refine g_if_ne (tgt := 18) C dX11_element_4 (by decide) rfl (fun z => ?_) (fun z => ?_)
  · have c1 : 0 ≤ v ∧ v ≤ 7 := by
      by_cases y : 0 ≤ v ∧ v ≤ 7
      · exact y
      · rw [bi_f y] at z
        exact absurd s32_0 z
    obtain ⟨d, hd, rfl⟩ : ∃ d : Nat, d < 8 ∧ v = d := ⟨v.toNat, by clear hv hw; omega, by clear hv hw; omega⟩
    have d8 : 0 ≤ (d : Int) ∧ (d : Int) < 8 := by clear hv hw; omega
    have hSd := hS d hd
    refine g_aload_n (i := 0) C dX11_element_18 rfl rfl ?_
    refine gg_X11_shelves (i := 5) C (by decide +kernel) rfl dX11_element_19 ?_
    refine g_iload_n (i := 1) C dX11_element_22 rfl rfl ?_
    refine g_aaload (j := (d : Int)) C (Or.inl ⟨rfl, rfl, d8⟩) dX11_element_23 hv ?_
    refine g_astore_n (i := 3) C dX11_element_24 rfl (by decide) rfl ?_
    refine g_aload_n (i := 3) C dX11_element_25 rfl rfl ?_
    refine g_callVi C (c_X8_holdsRow (shf_of d8) (c_holdsRow hSd)) (cwV 0 C.2.2.2.2.1 gX11_element_X8_holdsRow rfl rfl rfl (by decide +kernel) ⟨Nat.le_of_ble_eq_true rfl, Nat.le_of_ble_eq_true rfl⟩) (ob_X8 (shf_of d8)) rfl rfl rfl rfl (Nat.le_of_ble_eq_true rfl) dX11_element_26 ⟨Nat.zero_le _, Nat.zero_le _⟩ ?_
    refine g_if_eq (tgt := 41) C dX11_element_29 (by decide) rfl (fun y => ?_) (fun y => ?_)
    · have k2 : ¬ σ 124 d = 2 := fun q => by
        rw [bi_t q] at y
        exact absurd y (by decide)
      exact thr (by unfold elK; rw [if_pos c1, if_neg (fun q => k2 q.1)]) _ _ rfl
    · have k2 : σ 124 d = 2 := by
        by_cases q : σ 124 d = 2
        · exact q
        · rw [bi_f q] at y
          exact absurd s32_0 y
      refine g_aload_n (i := 3) C dX11_element_32 rfl rfl ?_
      refine g_iload_n (i := 2) C dX11_element_33 rfl rfl ?_
      refine g_iconst C dX11_element_34 ?_
      refine g_callVi C (c_X8_hasPlaces (shf_of d8) (c_hasPlaces hSd k2 hw (by decide : s32 1 = 1))) (cwV 2 C.2.2.2.2.1 gX11_element_X8_hasPlaces rfl rfl rfl (by decide +kernel) ⟨Nat.le_of_ble_eq_true rfl, Nat.le_of_ble_eq_true rfl⟩) (ob_X8 (shf_of d8)) rfl rfl rfl rfl (Nat.le_of_ble_eq_true rfl) dX11_element_35 ⟨Nat.zero_le _, Nat.zero_le _⟩ ?_
      refine g_if_ne (tgt := 52) C dX11_element_38 (by decide) rfl (fun y2 => ?_) (fun y2 => ?_)
      · have k3 : (0 ≤ w ∧ (0 : Int) ≤ 1) ∧ w + 1 ≤ σ 126 d := by
          by_cases q : (0 ≤ w ∧ (0 : Int) ≤ 1) ∧ w + 1 ≤ σ 126 d
          · exact q
          · rw [bi_f q] at y2
            exact absurd s32_0 y2
        have k4 : σ 126 d ≤ 120 := by
          rcases hSd with ⟨q, -⟩ | ⟨q, -⟩ | ⟨-, -, -, -, -, q, -⟩
          · clear hv hw; omega
          · clear hv hw; omega
          · exact q.2
        refine g_aload_n (i := 3) C dX11_element_52 rfl rfl ?_
        refine gg_X8_values (i := 6) C (shf_of d8) rfl (by decide +kernel) rfl dX11_element_53 ?_
        refine g_iload_n (i := 2) C dX11_element_56 rfl rfl ?_
        refine g_iaload (N := 120) (j := w) C (sh_arr (shf_of d8)) dX11_element_57 hw (by clear hv hw; omega) ?_
        refine g_i2l C dX11_element_58 rfl ?_
        intro H locs ls hw9 hS9 hl9
        exact vx_ret (W.widen (Nat.zero_le _) (Nat.zero_le _) (W.lret C.1 C.2.1 B.returns (fun t ht hW => ⟨⟨_, (), rfl, ⟨by unfold elK; rw [if_pos c1, if_pos ⟨k2, by clear hv hw; omega⟩], rfl⟩, by show Wr D ca ad A σ t.heap; rw [ht]; exact hw9⟩, hS9.F ht⟩) hS9.2.2 dX11_element_59))
      · have k3 : ¬ ((0 ≤ w ∧ (0 : Int) ≤ 1) ∧ w + 1 ≤ σ 126 d) := fun q => by
          rw [bi_t q] at y2
          exact absurd y2 (by decide)
        exact thr (by unfold elK; rw [if_pos c1, if_neg (fun q => k3 ⟨⟨q.2.1, by decide⟩, by have := q.2.2; clear hv hw; omega⟩)]) _ _ rfl
  · have c1 : ¬ (0 ≤ v ∧ v ≤ 7) := fun y => by
      rw [bi_t y] at z
      exact absurd z (by decide)
    have he : elK σ v w = 1 := by
      unfold elK
      rw [if_neg c1]
    intro H locs ls hw9 hS9 hl9
    refine vx_throwSW (own := RX11) (cls := IAE) (text := "no such shelf") (names := ["java/lang/RuntimeException", "java/lang/Exception"]) (ik := 306) (is := 308) (ic := 310) (A := A) (sa := sa) C.1 C.2.1 hst C.2.2.2.1 (by decide +kernel) (by decide +kernel) (C.wd (i := 1) rfl) (C.wd (i := 2) rfl) hR1 (vx_hat (fun w h => C.2.2.2.2.1 w (List.mem_cons_of_mem _ (List.mem_append_left _ (List.mem_append_right _ h)))) (fun w h => h) (fun w h => va_Nw.use ((by decide +kernel : ∀ w ∈ (vx_atS RX11 310 IAE ["java/lang/RuntimeException", "java/lang/Exception"]).filter (fun w => !goodWord w), w.onTables = true) w h) (hB1 w h))) (by decide +kernel) hU hN hS9 (hl9.1.trans C.2.2.1.symm) dX11_element_7 dX11_element_10 dX11_element_11 dX11_element_14 dX11_element_17 (fun x hx => (htab x hx).elim) (Nat.le_of_ble_eq_true rfl) (Nat.le_of_ble_eq_true rfl) (Nat.le_of_ble_eq_true rfl) (Nat.le_of_ble_eq_true rfl) hlk (fun t hvm hz hq => ⟨(), trivial, ⟨Or.inl ⟨rfl, he⟩, ?_⟩, Nat.le_trans hS9.1 hz, fun x h1 h2 => (hq x (Nat.lt_of_lt_of_le h1 hS9.1)).trans (hS9.2.1 x h1 h2)⟩) hS9.2.2 (Nat.le_of_ble_eq_true rfl) (Nat.le_of_ble_eq_true rfl)
    obtain ⟨fa, hP, hD, hf⟩ := hw9
    exact ⟨fa, hP.kept (fun j x hx => hq x.1 ((hP j x hx).lt)), hD, hf⟩
end Ge2
