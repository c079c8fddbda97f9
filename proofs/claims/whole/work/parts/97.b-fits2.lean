/-! BY HAND 2: what a fit answers: broad, failure, canFail -/
section Fx
variable {p : Program} {l : Launch} {e : Env} {R : Room} {s : State} {m : MethodId} {args : Array Value} {below : List Frame} {meth : Method} {c : Code} {cells slots : Nat} {Q : State → Prop}
variable {cc : ByteArray} {own : String} {ws : List Cond} {nL : Nat} {D : va_G} {ca : Ca} {ad : Int → Nat} {A : Nat → Prop} {fa : Int → Option Nat} {σ : Mem}
variable {pc i index : Nat} {lv : List (Option Value)} {st : List Value} {WR : Heap → Prop}
abbrev rm_F1 : Room := { frames := 1, cells := 0, slots := 0, locals := 12 }
abbrev rm_F2 : Room := { frames := 2, cells := 0, slots := 0, locals := 32 }
abbrev rm_F3 : Room := { frames := 3, cells := 0, slots := 0, locals := 52 }
/-- super.m() on a fit -/
theorem gw_super (C : Cx p s m args c cc nL own ws D ca A) {y : MethodName} {bytes : ByteArray} {maxL : Nat} {ws' : List Cond} {rm : Room} {q ci N : Nat} {K : String} {T : u_T} {d r : Int} {rest : List Value} {ret : Option FieldType} (hM : CF l D ca ad A fa σ y ws' rm q r) (cw : va_CS R s args own index y bytes maxL ret ws' rm 0 0 0) (hf : fitAt fa σ d q ci) (hc : vwCl[ci]? = some (K, T, N)) (hR : (rest.map fun v => v.category).sum ≤ 8) (hd : decode cc pc = .ok (.invokespecial index, 3)) (hcs : cells ≤ R.cells ∧ slots ≤ R.slots) (kk : GW (WF D ca ad A fa σ) p l e R s m args below meth c nL A cells slots Q (pc + 3) lv (.int (iI r) :: rest)) : GW (WF D ca ad A fa σ) p l e R s m args below meth c nL A cells slots Q pc lv (.ref q :: rest) := by
  intro H locs ls hw hS hl
  obtain ⟨q0, hq⟩ := fit_in (ca := ca) (ad := ad) hf
  have hrc := va_recv C.2.2.2.2.2.1 hw.1 hc hq
  refine va_calli (va_runSU (As := []) (rest := rest) (C.2.2.2.2.2.1.1 ci _ hc).2 ⟨C.1, C.2.1, C.2.2.1, C.2.2.2.1, C.2.2.2.2.1⟩ hM cw ⟨wfd_blind, hrc, wfd_now C hw hS⟩ rfl rfl hl.1 rfl (lv_room hR) hd hcs) hS (fun _ _ h => h) (fun _ h => h) ?_
  intro x u t1 H1 locs1 ht hvm hp hB hz hk1 hS1
  rw [ht] at hB
  subst hp
  exact kk H1 locs1 ls hB hS1 hl
/-- the class of a fit, as a method's words have it -/
def FK (ci : Nat) (K : String) (T : u_T) : Prop := vwCl[ci]? = some (K, T, 4) ∧ ∀ k, k < 4 → T k = TX2 k
theorem fk0 : FK 0 RX0 TX0 := ⟨rfl, fun k hk => by have h : k = 0 ∨ k = 1 ∨ k = 2 ∨ k = 3 := (by omega); rcases h with rfl | rfl | rfl | rfl <;> rfl⟩
theorem fk1 : FK 1 RX1 TX1 := ⟨rfl, fun k hk => by have h : k = 0 ∨ k = 1 ∨ k = 2 ∨ k = 3 := (by omega); rcases h with rfl | rfl | rfl | rfl <;> rfl⟩
theorem fk2 : FK 2 RX2 TX2 := ⟨rfl, fun k hk => rfl⟩
theorem fk5 : FK 5 RX5 TX5 := ⟨rfl, fun k hk => by have h : k = 0 ∨ k = 1 ∨ k = 2 ∨ k = 3 := (by omega); rcases h with rfl | rfl | rfl | rfl <;> rfl⟩
theorem fk9 : FK 9 RX9 TX9 := ⟨rfl, fun k hk => by have h : k = 0 ∨ k = 1 ∨ k = 2 ∨ k = 3 := (by omega); rcases h with rfl | rfl | rfl | rfl <;> rfl⟩
theorem fk10 : FK 10 RX10 TX10 := ⟨rfl, fun k hk => by have h : k = 0 ∨ k = 1 ∨ k = 2 ∨ k = 3 := (by omega); rcases h with rfl | rfl | rfl | rfl <;> rfl⟩
abbrev UW (K : String) (T : u_T) (ws : List Cond) : Prop := ∀ w ∈ u_ws K T 4, w ∈ ws
theorem cf_X2_broad {K : String} {T : u_T} {ci q : Nat} {d : Int} (hk : FK ci K T) (hu : UW K T wsX2_broad) (hf : fitAt fa σ d q ci) : CF l D ca ad A fa σ yX2_broad wsX2_broad rm_F1 q (σ (d + 20) 2) := by
  refine cf_i (cc := cX2_broad) (own := RX2) (maxL := 1) (ret := some .int) (lv0 := [some (.ref q)]) (by decide) rfl rfl rfl (Nat.le_of_ble_eq_true rfl) ?_
  intro p e s m below meth c C hr hlk
  refine gw_aload_n (i := 0) C dX2_broad_0 rfl rfl ?_
  refine gw_get (i := 1) (k := 1) (ref := "FurrowFair$Fit") C hf hk.1 hu (by decide) (by rw [hk.2 1 (by decide)]; rfl) (Or.inl (by rw [hk.2 1 (by decide)]; rfl)) rfl dX2_broad_1 ?_
  exact gw_iret C hr hlk rfl dX2_broad_4
theorem cf_X2_failure {K : String} {T : u_T} {ci q : Nat} {d : Int} (hk : FK ci K T) (hu : UW K T wsX2_failure) (hf : fitAt fa σ d q ci) : CF l D ca ad A fa σ yX2_failure wsX2_failure rm_F1 q (σ (d + 20) 1) := by
  refine cf_i (cc := cX2_failure) (own := RX2) (maxL := 1) (ret := some .int) (lv0 := [some (.ref q)]) (by decide) rfl rfl rfl (Nat.le_of_ble_eq_true rfl) ?_
  intro p e s m below meth c C hr hlk
  refine gw_aload_n (i := 0) C dX2_failure_0 rfl rfl ?_
  refine gw_get (i := 1) (k := 0) (ref := "FurrowFair$Fit") C hf hk.1 hu (by decide) (by rw [hk.2 0 (by decide)]; rfl) (Or.inl (by rw [hk.2 0 (by decide)]; rfl)) rfl dX2_failure_1 ?_
  exact gw_iret C hr hlk rfl dX2_failure_4
theorem cf_X1_failure {q : Nat} {d : Int} (hf : fitAt fa σ d q 1) : CF l D ca ad A fa σ yX1_failure wsX1_failure rm_F1 q (σ (d + 20) 2) := by
  refine cf_i (cc := cX1_failure) (own := RX1) (maxL := 1) (ret := some .int) (lv0 := [some (.ref q)]) (by decide) rfl rfl rfl (Nat.le_of_ble_eq_true rfl) ?_
  intro p e s m below meth c C hr hlk
  refine gw_aload_n (i := 0) C dX1_failure_0 rfl rfl ?_
  refine gw_get (i := 1) (k := 1) (ref := "FurrowFair$Asked") (K := RX1) (T := TX1) C hf fk1.1 (by decide +kernel) (by decide) rfl (Or.inr ⟨2, rfl⟩) rfl dX1_failure_1 ?_
  exact gw_iret C hr hlk rfl dX1_failure_4
theorem cf_X2_canFail {K : String} {T : u_T} {ci q : Nat} {d : Int} (hk : FK ci K T) (hu : UW K T wsX2_canFail) (hf : fitAt fa σ d q ci) : CF l D ca ad A fa σ yX2_canFail wsX2_canFail rm_F1 q (if s32 (σ (d + 20) 3) < s32 (σ (d + 20) 4) then 1 else 0) := by
  refine cf_i (cc := cX2_canFail) (own := RX2) (maxL := 1) (ret := some .boolean) (lv0 := [some (.ref q)]) (by decide) rfl rfl rfl (Nat.le_of_ble_eq_true rfl) ?_
  intro p e s m below meth c C hr hlk
  refine gw_aload_n (i := 0) C dX2_canFail_0 rfl rfl ?_
  refine gw_get (i := 1) (k := 2) (ref := "FurrowFair$Fit") C hf hk.1 hu (by decide) (by rw [hk.2 2 (by decide)]; rfl) (Or.inl (by rw [hk.2 2 (by decide)]; rfl)) rfl dX2_canFail_1 ?_
  refine gw_aload_n (i := 0) C dX2_canFail_4 rfl rfl ?_
  refine gw_get (i := 2) (k := 3) (ref := "FurrowFair$Fit") C hf hk.1 hu (by decide) (by rw [hk.2 3 (by decide)]; rfl) (Or.inl (by rw [hk.2 3 (by decide)]; rfl)) rfl dX2_canFail_5 ?_
  refine gw_icmp_ge (tgt := 15) C dX2_canFail_8 (by decide) rfl rfl (fun z => ?_) (fun z => ?_)
  · refine gw_iconst C dX2_canFail_15 ?_
    exact gw_zret C hr hlk (Or.inl (by decide)) (by rw [if_neg (by omega)]) dX2_canFail_16
  · refine gw_iconst C dX2_canFail_11 ?_
    refine gw_goto (tgt := 16) C dX2_canFail_12 (by decide) ?_
    exact gw_zret C hr hlk (Or.inr (by decide)) (by rw [if_pos (by omega)]) dX2_canFail_16
theorem cf_X5_canFail {q : Nat} : CF l D ca ad A fa σ yX5_canFail wsX5_canFail rm_F1 q 0 := by
  refine cf_i (cc := cX5_canFail) (own := RX5) (maxL := 1) (ret := some .boolean) (lv0 := [some (.ref q)]) (by decide) rfl rfl rfl (Nat.le_of_ble_eq_true rfl) ?_
  intro p e s m below meth c C hr hlk
  refine gw_iconst C dX5_canFail_0 ?_
  exact gw_zret C hr hlk (Or.inl (by decide)) rfl dX5_canFail_1
theorem cf_X0_broad {K : String} {T : u_T} {ci q : Nat} {d : Int} (hk : FK ci K T) (hu : UW K T wsX2_broad) (hf : fitAt fa σ d q ci) : CF l D ca ad A fa σ yX0_broad wsX0_broad rm_F2 q (2 * σ (d + 20) 2) := by
  refine cf_i (cc := cX0_broad) (own := RX0) (maxL := 1) (ret := some .int) (lv0 := [some (.ref q)]) (by decide) rfl rfl rfl (Nat.le_of_ble_eq_true rfl) ?_
  intro p e s m below meth c C hr hlk
  refine gw_iconst C dX0_broad_0 ?_
  refine gw_aload_n (i := 0) C dX0_broad_1 rfl rfl ?_
  refine gw_super (rest := [.int (iI 2)]) C (cf_X2_broad hk hu hf) (va_cwSU 0 C.2.2.2.2.1 gX0_broad_X2_broad_s7 rfl rfl rfl ⟨by decide, by decide +kernel⟩ ⟨Nat.le_of_ble_eq_true rfl, Nat.le_of_ble_eq_true rfl⟩) hf hk.1 (Nat.le_of_ble_eq_true rfl) dX0_broad_2 ⟨Nat.le_refl _, Nat.le_refl _⟩ ?_
  refine gw_imul C dX0_broad_5 ?_
  exact gw_iret C hr hlk rfl dX0_broad_6
theorem cf_X9_broad {K : String} {T : u_T} {ci q : Nat} {d : Int} (hk : FK ci K T) (hu : UW K T wsX2_broad) (hf : fitAt fa σ d q ci) : CF l D ca ad A fa σ yX9_broad wsX9_broad rm_F2 q (σ (d + 20) 2 + 5) := by
  refine cf_i (cc := cX9_broad) (own := RX9) (maxL := 1) (ret := some .int) (lv0 := [some (.ref q)]) (by decide) rfl rfl rfl (Nat.le_of_ble_eq_true rfl) ?_
  intro p e s m below meth c C hr hlk
  refine gw_aload_n (i := 0) C dX9_broad_0 rfl rfl ?_
  refine gw_super (rest := []) C (cf_X2_broad hk hu hf) (va_cwSU 0 C.2.2.2.2.1 gX9_broad_X2_broad_s7 rfl rfl rfl ⟨by decide, by decide +kernel⟩ ⟨Nat.le_of_ble_eq_true rfl, Nat.le_of_ble_eq_true rfl⟩) hf hk.1 (Nat.le_of_ble_eq_true rfl) dX9_broad_1 ⟨Nat.le_refl _, Nat.le_refl _⟩ ?_
  refine gw_iconst C dX9_broad_4 ?_
  refine gw_iadd C dX9_broad_5 ?_
  exact gw_iret C hr hlk rfl dX9_broad_6
theorem cf_X5_broad {q : Nat} {d : Int} (hf : fitAt fa σ d q 5) : CF l D ca ad A fa σ yX5_broad wsX5_broad rm_F2 q (σ (d + 20) 2 + σ (d + 20) 3) := by
  refine cf_i (cc := cX5_broad) (own := RX5) (maxL := 1) (ret := some .int) (lv0 := [some (.ref q)]) (by decide) rfl rfl rfl (Nat.le_of_ble_eq_true rfl) ?_
  intro p e s m below meth c C hr hlk
  refine gw_aload_n (i := 0) C dX5_broad_0 rfl rfl ?_
  refine gw_super (rest := []) C (cf_X2_broad fk5 (by decide +kernel) hf) (va_cwSU 0 C.2.2.2.2.1 gX5_broad_X2_broad_s7 rfl rfl rfl ⟨by decide, by decide +kernel⟩ ⟨Nat.le_of_ble_eq_true rfl, Nat.le_of_ble_eq_true rfl⟩) hf fk5.1 (Nat.le_of_ble_eq_true rfl) dX5_broad_1 ⟨Nat.le_refl _, Nat.le_refl _⟩ ?_
  refine gw_aload_n (i := 0) C dX5_broad_4 rfl rfl ?_
  refine gw_get (i := 1) (k := 2) (ref := "FurrowFair$Partly") (K := RX5) (T := TX5) C hf fk5.1 (by decide +kernel) (by decide) rfl (Or.inr ⟨2, rfl⟩) rfl dX5_broad_5 ?_
  refine gw_iadd C dX5_broad_8 ?_
  exact gw_iret C hr hlk rfl dX5_broad_9
theorem cf_X10_broad {q : Nat} {d : Int} (hf : fitAt fa σ d q 10) : CF l D ca ad A fa σ yX10_broad wsX10_broad rm_F3 q (2 * σ (d + 20) 2 + 1) := by
  refine cf_i (cc := cX10_broad) (own := RX10) (maxL := 1) (ret := some .int) (lv0 := [some (.ref q)]) (by decide) rfl rfl rfl (Nat.le_of_ble_eq_true rfl) ?_
  intro p e s m below meth c C hr hlk
  refine gw_aload_n (i := 0) C dX10_broad_0 rfl rfl ?_
  refine gw_super (rest := []) C (cf_X0_broad fk10 (by decide +kernel) hf) (va_cwSU 0 C.2.2.2.2.1 gX10_broad_X0_broad_s7 rfl rfl rfl ⟨by decide, by decide +kernel⟩ ⟨Nat.le_of_ble_eq_true rfl, Nat.le_of_ble_eq_true rfl⟩) hf fk10.1 (Nat.le_of_ble_eq_true rfl) dX10_broad_1 ⟨Nat.le_refl _, Nat.le_refl _⟩ ?_
  refine gw_iconst C dX10_broad_4 ?_
  refine gw_iadd C dX10_broad_5 ?_
  exact gw_iret C hr hlk rfl dX10_broad_6
theorem cf_X1_broad {q : Nat} {d : Int} (hf : fitAt fa σ d q 1) : CF l D ca ad A fa σ yX1_broad wsX1_broad rm_F3 q (2 * (σ (d + 20) 2 + 5)) := by
  refine cf_i (cc := cX1_broad) (own := RX1) (maxL := 1) (ret := some .int) (lv0 := [some (.ref q)]) (by decide) rfl rfl rfl (Nat.le_of_ble_eq_true rfl) ?_
  intro p e s m below meth c C hr hlk
  refine gw_iconst C dX1_broad_0 ?_
  refine gw_aload_n (i := 0) C dX1_broad_1 rfl rfl ?_
  refine gw_super (rest := [.int (iI 2)]) C (cf_X9_broad fk1 (by decide +kernel) hf) (va_cwSU 0 C.2.2.2.2.1 gX1_broad_X9_broad_s7 rfl rfl rfl ⟨by decide, by decide +kernel⟩ ⟨Nat.le_of_ble_eq_true rfl, Nat.le_of_ble_eq_true rfl⟩) hf fk1.1 (Nat.le_of_ble_eq_true rfl) dX1_broad_2 ⟨Nat.le_refl _, Nat.le_refl _⟩ ?_
  refine gw_imul C dX1_broad_5 ?_
  exact gw_iret C hr hlk rfl dX1_broad_6
end Fx
