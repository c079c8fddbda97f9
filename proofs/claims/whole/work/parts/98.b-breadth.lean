/-! BY HAND 3: breadth -/
section Fy
variable {p : Program} {l : Launch} {e : Env} {R : Room} {s : State} {m : MethodId} {args : Array Value} {below : List Frame} {meth : Method} {c : Code} {cells slots : Nat} {Q : State → Prop}
variable {cc : ByteArray} {own : String} {ws : List Cond} {nL : Nat} {D : va_G} {ca : Ca} {ad : Int → Nat} {A : Nat → Prop} {fa : Int → Option Nat} {σ : Mem} {r0 : Int} {σ0 : Mem}
variable {pc i index : Nat} {lv : List (Option Value)} {st : List Value}
theorem gw_of (k : G p l e R s m args below meth c nL D ca ad A cells slots Q σ pc lv st) : GW (WF D ca ad A fa σ) p l e R s m args below meth c nL A cells slots Q pc lv st :=
  fun H locs ls hw hS hl => k H locs ls ⟨fa, hw⟩ hS hl
/-- shelf.fit, when there is one -/
theorem g_fit_of (C : Cx p s m args c cc nL own ws D ca A) {t : Int} (ht : isShf t) (h3 : ¬ σ t 3 = 0) (hin : ∀ w ∈ u_ws RX8 TX8 4, w ∈ ws) (hi : ws[i]? = some (.fieldLink own index "FurrowFair$Shelf" "fit" "LFurrowFair$Fit;")) (hd : decode cc pc = .ok (.getfield index, 3))
    (kk : ∀ (fa : Int → Option Nat) (q : Nat), fitAt fa σ t q (kc (σ (t + 20) 0)) → GW (WF D ca ad A fa σ) p l e R s m args below meth c nL A cells slots Q (pc + 3) lv (.ref q :: st)) : G p l e R s m args below meth c nL D ca ad A cells slots Q σ pc lv (.ref (ad t) :: st) := by
  intro H locs ls hw hS hl
  obtain ⟨fa, hP, hD, hf⟩ := id hw
  obtain ⟨q0, hq⟩ := List.getElem?_of_mem (ob_X8 ht).1
  have he := wl_at (ca := ca) (ad := ad) (fa := fa) (σ := σ) hq
  rw [(ob_X8 ht).2] at he
  refine va_get (T := TX8) (C := RX8) (N := 4) (ci := 8) (ref := "FurrowFair$Shelf") (v := va_rf (fa t)) C.1 C.2.1 C.2.2.2.2.1 hin C.2.2.2.1 C.2.2.2.2.2.1 hP q0 he rfl 3 (by decide) (C.wd hi) (fun _ h9 => h9) rfl hd ?_
  rcases hf t (shf_SL ht) with ⟨h0, h1⟩ | ⟨h0, q, h1⟩
  · exact absurd h0 h3
  · rw [h1]
    exact kk fa q ⟨shf_SL ht, h1, rfl⟩ H locs ls ⟨hP, hD, hf⟩ hS hl
theorem gw_callU (C : Cx p s m args c cc nL own ws D ca A) {x y : MethodName} {owner : String} {bytes : ByteArray} {maxL : Nat} {ws' : List Cond} {rm : Room} {q ci N : Nat} {K : String} {T : u_T} {d r : Int} {rest : List Value} {ret : Option FieldType} (hM : CF l D ca ad A fa σ y ws' rm q r) (cw : va_CU R s args own K owner index x y bytes maxL ret ws' rm 0 0 0) (hf : fitAt fa σ d q ci) (hc : vwCl[ci]? = some (K, T, N)) (hR : (rest.map fun v => v.category).sum ≤ 8) (hd : decode cc pc = .ok (.invokevirtual index, 3)) (hcs : cells ≤ R.cells ∧ slots ≤ R.slots) (kk : GW (WF D ca ad A fa σ) p l e R s m args below meth c nL A cells slots Q (pc + 3) lv (.int (iI r) :: rest)) : GW (WF D ca ad A fa σ) p l e R s m args below meth c nL A cells slots Q pc lv (.ref q :: rest) := by
  intro H locs ls hw hS hl
  obtain ⟨q0, hq⟩ := fit_in (ca := ca) (ad := ad) hf
  have hrc := va_recv C.2.2.2.2.2.1 hw.1 hc hq
  refine va_calli (va_runU (As := []) (rest := rest) ⟨C.1, C.2.1, C.2.2.1, C.2.2.2.1, C.2.2.2.2.1⟩ hM cw ⟨wfd_blind, hrc, wfd_now C hw hS⟩ rfl rfl hl.1 rfl (lv_room hR) hd hcs) hS (fun _ _ h => h) (fun _ h => h) ?_
  intro x u t1 H1 locs1 ht hvm hp hB hz hk1 hS1
  rw [ht] at hB
  subst hp
  exact kk H1 locs1 ls hB hS1 hl
theorem gw_callV (C : Cx p s m args c cc nL own ws D ca A) {y : MethodName} {bytes : ByteArray} {maxL : Nat} {ws' : List Cond} {rm : Room} {q ci N : Nat} {K : String} {T : u_T} {d r : Int} {rest : List Value} {ret : Option FieldType} (hM : CF l D ca ad A fa σ y ws' rm q r) (cw : CallW R s args own K index y bytes maxL ret ws' rm 0 0 0) (hf : fitAt fa σ d q ci) (hc : vwCl[ci]? = some (K, T, N)) (hR : (rest.map fun v => v.category).sum ≤ 8) (hd : decode cc pc = .ok (.invokevirtual index, 3)) (hcs : cells ≤ R.cells ∧ slots ≤ R.slots) (kk : GW (WF D ca ad A fa σ) p l e R s m args below meth c nL A cells slots Q (pc + 3) lv (.int (iI r) :: rest)) : GW (WF D ca ad A fa σ) p l e R s m args below meth c nL A cells slots Q pc lv (.ref q :: rest) := by
  intro H locs ls hw hS hl
  obtain ⟨q0, hq⟩ := fit_in (ca := ca) (ad := ad) hf
  have hrc := va_recv C.2.2.2.2.2.1 hw.1 hc hq
  refine va_calli (va_runV (As := []) (rest := rest) ⟨C.1, C.2.1, C.2.2.1, C.2.2.2.1, C.2.2.2.2.1⟩ hM cw ⟨wfd_blind, hrc, wfd_now C hw hS⟩ rfl rfl hl.1 rfl (lv_room hR) hd hcs) hS (fun _ _ h => h) (fun _ h => h) ?_
  intro x u t1 H1 locs1 ht hvm hp hB hz hk1 hS1
  rw [ht] at hB
  subst hp
  exact kk H1 locs1 ls hB hS1 hl
theorem held_in {v r : Int} {σ1 : Mem} (h : f_X11_heldFitFault v σ = some (r, σ1)) (hr : s32 r = 0) : (0 ≤ s32 v ∧ s32 v < 8) ∧ ¬ σ (80 + 2 * s32 v) 3 = 0 ∧ σ1 = σ := by
  unfold f_X11_heldFitFault at h
  obtain ⟨r2, σ2, h2, h4⟩ := ob_inv h
  clear h
  have e2 : σ2 = σ := by
    unfold f_X11_isShelf at h2
    split at h2
    · exact (some_inv h2).2.symm
    · split at h2 <;> exact (some_inv h2).2.symm
  clear h2
  subst e2
  split at h4
  · rw [← (some_inv h4).1] at hr
    exact absurd hr (by decide)
  · obtain ⟨b, h5⟩ := if_inv h4
    clear h4
    obtain ⟨r7, σ7, h7, h8⟩ := ob_inv h5
    clear h5
    have e7 : σ7 = σ2 := by
      unfold f_X8_isBare at h7
      split at h7
      · split at h7 <;> exact (some_inv h7).2.symm
      · exact (some_inv h7).2.symm
    clear h7
    subst e7
    split at h8
    · split at h8
      · rw [← (some_inv h8).1] at hr
        exact absurd hr (by decide)
      · rename_i q
        exact ⟨b, q, (some_inv h8).2.symm⟩
    · rw [← (some_inv h8).1] at hr
      exact absurd hr (by decide)
abbrev rm_X11_breadth : Room := { frames := 4, cells := 0, slots := 0, locals := 80 }
theorem c_X11_breadth {v1 : Int} (hf : f_X11_breadth v1 σ = some (r0, σ0)) (hkd : (0 ≤ s32 v1 ∧ s32 v1 < 8) → ¬ σ (80 + 2 * s32 v1) 3 = 0 → 0 ≤ σ (100 + 2 * s32 v1) 0 ∧ σ (100 + 2 * s32 v1) 0 ≤ 5) : CTi l D ca ad A yX11_breadth wsX11_breadth rm_X11_breadth [.ref (ad 0), .int (iI v1)] σ r0 σ0 := by
  refine ct_i (cc := cX11_breadth) (own := RX11) (maxL := 3) (ret := (some .int)) (lv0 := [some (.ref (ad 0)), some (.int (iI v1)), none]) (by decide) rfl rfl rfl (Nat.le_of_ble_eq_true rfl) ?_
  intro p e s m below meth c C hr hlk hnm
  unfold f_X11_breadth at hf
  refine g_aload_n (i := 0) C dX11_breadth_0 rfl rfl ?_
  refine g_iload_n (i := 1) C dX11_breadth_1 rfl rfl ?_
  obtain ⟨r2, σ1, h3, hf1⟩ := ob_inv hf
  clear hf
  refine g_callVi C (c_X11_heldFitFault h3) (cwV 1 C.2.2.2.2.1 gX11_breadth_X11_heldFitFault rfl rfl rfl (by decide +kernel) ⟨Nat.le_of_ble_eq_true rfl, Nat.le_of_ble_eq_true rfl⟩) ob_X11 rfl rfl rfl rfl (Nat.le_of_ble_eq_true rfl) dX11_breadth_2 ⟨Nat.zero_le _, Nat.zero_le _⟩ ?_
  refine g_istore_n (i := 2) C dX11_breadth_5 rfl (by decide) rfl ?_
  refine g_iload_n (i := 2) C dX11_breadth_6 rfl rfl ?_
  refine g_if_eq (tgt := 14) C dX11_breadth_7 (by decide) rfl (fun c4 => ?_) (fun c4 => ?_)
  · have hf2 := if_t c4 hf1
    clear hf1
    obtain ⟨hb, hf3⟩ := if_inv hf2
    clear hf2
    obtain ⟨-, h3n, es⟩ := held_in h3 c4
    subst es
    have hk := hkd hb h3n
    obtain ⟨e1, e2⟩ := some_inv hf3
    clear hf3
    subst e2
    refine g_aload_n (i := 0) C dX11_breadth_14 rfl rfl ?_
    refine gg_X11_shelves (i := 1) C (by decide +kernel) rfl dX11_breadth_15 ?_
    refine g_iload_n (i := 1) C dX11_breadth_18 rfl rfl ?_
    refine g_aaload C (Or.inl ⟨rfl, rfl, hb⟩) dX11_breadth_19 rfl ?_
    refine g_fit_of (i := 2) C (shf_of hb) h3n (by decide +kernel) rfl dX11_breadth_20 (fun fa q hq => ?_)
    have ea : 80 + 2 * s32 v1 + 20 = 100 + 2 * s32 v1 := by omega
    have fin : ∀ {r : Int}, r = r0 → GW (WF D ca ad A fa σ1) p l e rm_X11_breadth s m #[.ref (ad 0), .int (iI v1)] below meth c 3 A 0 0 (MQ below (Qi D ca ad A r0 σ1) #[.ref (ad 0), .int (iI v1)] s 0 0 A) 26 [some (.ref (ad 0)), some (.int (iI v1)), some (.int (iI r2))] [.int (iI r)] := fun er => gw_of (g_iret C hr hlk er rfl dX11_breadth_26)
    rw [ea] at hq
    obtain ⟨kd, hkd2⟩ : ∃ kd, kd = σ1 (100 + 2 * s32 v1) 0 := ⟨_, rfl⟩
    rw [← hkd2] at hq hk
    have hcs : kd = 0 ∨ kd = 1 ∨ kd = 2 ∨ kd = 3 ∨ kd = 4 ∨ kd = 5 := by omega
    unfold brF at e1
    rw [← hkd2] at e1
    rcases hcs with rfl | rfl | rfl | rfl | rfl | rfl
    · rw [if_pos rfl] at e1
      refine gw_callV (rest := []) C (cf_X2_broad fk2 (by decide +kernel) hq) (cwV 0 C.2.2.2.2.1 gX11_breadth_X2_broad rfl rfl rfl (by decide +kernel) ⟨Nat.le_of_ble_eq_true rfl, Nat.le_of_ble_eq_true rfl⟩) hq fk2.1 (Nat.le_of_ble_eq_true rfl) dX11_breadth_23 ⟨Nat.zero_le _, Nat.zero_le _⟩ ?_
      exact fin (by rw [ea]; exact e1)
    · rw [if_neg (by decide), if_pos rfl] at e1
      refine gw_callU (rest := []) C (cf_X0_broad fk0 (by decide +kernel) hq) (va_cwO 0 C.2.2.2.2.1 gX11_breadth_X0_broad_u337X0 rfl rfl rfl (b0 := cX2_broad) (m0 := 1) (r0 := some .int) (by decide +kernel) ⟨by decide, by decide, by decide +kernel⟩ ⟨Nat.le_of_ble_eq_true rfl, Nat.le_of_ble_eq_true rfl⟩) hq fk0.1 (Nat.le_of_ble_eq_true rfl) dX11_breadth_23 ⟨Nat.zero_le _, Nat.zero_le _⟩ ?_
      exact fin (by rw [ea]; exact e1)
    · rw [if_neg (by decide), if_neg (by decide), if_pos rfl] at e1
      refine gw_callU (rest := []) C (cf_X9_broad fk9 (by decide +kernel) hq) (va_cwO 0 C.2.2.2.2.1 gX11_breadth_X9_broad_u337X9 rfl rfl rfl (b0 := cX2_broad) (m0 := 1) (r0 := some .int) (by decide +kernel) ⟨by decide, by decide, by decide +kernel⟩ ⟨Nat.le_of_ble_eq_true rfl, Nat.le_of_ble_eq_true rfl⟩) hq fk9.1 (Nat.le_of_ble_eq_true rfl) dX11_breadth_23 ⟨Nat.zero_le _, Nat.zero_le _⟩ ?_
      exact fin (by rw [ea]; exact e1)
    · rw [if_neg (by decide), if_neg (by decide), if_neg (by decide), if_pos rfl] at e1
      refine gw_callU (rest := []) C (cf_X5_broad hq) (va_cwO 0 C.2.2.2.2.1 gX11_breadth_X5_broad_u337X5 rfl rfl rfl (b0 := cX2_broad) (m0 := 1) (r0 := some .int) (by decide +kernel) ⟨by decide, by decide, by decide +kernel⟩ ⟨Nat.le_of_ble_eq_true rfl, Nat.le_of_ble_eq_true rfl⟩) hq fk5.1 (Nat.le_of_ble_eq_true rfl) dX11_breadth_23 ⟨Nat.zero_le _, Nat.zero_le _⟩ ?_
      exact fin (by rw [ea]; exact e1)
    · rw [if_neg (by decide), if_neg (by decide), if_neg (by decide), if_neg (by decide), if_pos rfl] at e1
      refine gw_callU (rest := []) C (cf_X10_broad hq) (va_cwO 0 C.2.2.2.2.1 gX11_breadth_X10_broad_u337X10 rfl rfl rfl (b0 := cX2_broad) (m0 := 1) (r0 := some .int) (by decide +kernel) ⟨by decide, by decide, by decide +kernel⟩ ⟨Nat.le_of_ble_eq_true rfl, Nat.le_of_ble_eq_true rfl⟩) hq fk10.1 (Nat.le_of_ble_eq_true rfl) dX11_breadth_23 ⟨Nat.zero_le _, Nat.zero_le _⟩ ?_
      exact fin (by rw [ea]; exact e1)
    · rw [if_neg (by decide), if_neg (by decide), if_neg (by decide), if_neg (by decide), if_neg (by decide)] at e1
      refine gw_callU (rest := []) C (cf_X1_broad hq) (va_cwO 0 C.2.2.2.2.1 gX11_breadth_X1_broad_u337X1 rfl rfl rfl (b0 := cX2_broad) (m0 := 1) (r0 := some .int) (by decide +kernel) ⟨by decide, by decide, by decide +kernel⟩ ⟨Nat.le_of_ble_eq_true rfl, Nat.le_of_ble_eq_true rfl⟩) hq fk1.1 (Nat.le_of_ble_eq_true rfl) dX11_breadth_23 ⟨Nat.zero_le _, Nat.zero_le _⟩ ?_
      exact fin (by rw [ea]; exact e1)
  · have hf := if_f c4 hf1
    refine g_iload_n (i := 2) C dX11_breadth_10 rfl rfl ?_
    refine g_goto (tgt := 26) C dX11_breadth_11 (by decide) ?_
    exact g_iret C hr hlk (some_inv hf).1 (some_inv hf).2 dX11_breadth_26
end Fy
