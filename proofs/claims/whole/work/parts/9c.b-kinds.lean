/-! BY HAND 7: the kinds of fits, made -/
section Gk
variable {p : Program} {l : Launch} {e : Env} {R : Room} {s : State} {m : MethodId} {args : Array Value} {below : List Frame} {meth : Method} {c : Code} {cells slots mc ms : Nat} {Q : State → Prop}
variable {cc : ByteArray} {own : String} {ws : List Cond} {nL : Nat} {D : va_G} {ca : Ca} {ad : Int → Nat} {A : Nat → Prop} {WR W0 W1 : Heap → Prop}
variable {pc i index : Nat} {lv : List (Option Value)} {st : List Value}
/-- a constructor of a fit, called on it -/
theorem gw_init (C : Cx p s m args c cc nL own ws D ca A) {y : MethodName} {bytes : ByteArray} {maxL q ci : Nat} {ws' : List Cond} {rm : Room} {v1 v2 : Value} {vs0 vs1 : List Value} {rest : List Value} (hM : CGv l D ca A y ws' rm [.ref q, v1, v2] (WO D A ci q vs0) (WO D A ci q vs1) 0 0) (cw : CallB R s args own index y bytes maxL none ws' rm 0 0 2 ∧ y.name = "<init>" ∧ (Cond.instanceMethod y).before args s = true) (hR : (rest.map fun v => v.category).sum ≤ 8) (hd : decode cc pc = .ok (.invokespecial index, 3)) (hcs : cells ≤ R.cells ∧ slots ≤ R.slots) (kk : GW (WO D A ci q vs1) p l e R s m args below meth c nL A cells slots Q (pc + 3) lv rest) : GW (WO D A ci q vs0) p l e R s m args below meth c nL A cells slots Q pc lv (v2 :: v1 :: .ref q :: rest) := by
  intro H locs ls hw hS hl
  refine va_callv (va_runI (As := [v1, v2]) (rest := rest) ⟨C.1, C.2.1, C.2.2.1, C.2.2.2.1, C.2.2.2.2.1⟩ hM cw ⟨gp_blind, gp_now (locs := locs) C hw (fun q hq => C.2.2.2.2.2.2 q (Nat.le_trans hS.1 hq))⟩ rfl rfl hl.1 rfl (lv_room hR) hd hcs) hS (fun _ _ h => h) (fun _ h => h) ?_
  intro u t1 H1 locs1 ht hvm hp hB hz hk1 hS1
  rw [ht] at hB
  exact kk H1 locs1 ls hB hS1 hl
theorem gw_newK (C : Cx p s m args c cc nL own ws D ca A) {ci : Nat} {K : String} {T : u_T} (hk : FK ci K T) (hu : UW K T ws) (h1 : Cond.classLink own index K ∈ ws) (h2 : Cond.instantiable K 4 ∈ ws) (h3 : Cond.initialized K ∈ ws) (hc : cells + 1 ≤ R.cells ∧ slots + 4 ≤ R.slots) (hd : decode cc pc = .ok (.new index, 3)) (kk : ∀ q : Nat, GW (WO D A ci q (ov 0 0 0 0)) p l e R s m args below meth c nL A (cells + 1) (slots + 4) Q (pc + 3) lv (.ref q :: st)) : GW WR p l e R s m args below meth c nL A cells slots Q pc lv st := by
  intro H locs ls hw hS hl
  have hP0 : va_P D vwCl [] H := fun k q hq => by simp at hq
  have hD0 : va_D A [] := ⟨fun i j p q hi => by simp at hi, fun k q hq => by simp at hq⟩
  refine va_new (ci := ci) (fs := ov 0 0 0 0) (C := K) (T := T) (N := 4) C.1 C.2.1 C.2.2.2.2.1 hu tyX2 (fun j hj => by rw [hk.2 j hj]; exact tyX2_ok j hj) C.2.2.2.1 (C.2.2.2.2.1 _ h1) (C.2.2.2.2.1 _ h2) (C.2.2.2.2.1 _ h3) C.2.2.2.2.2.1 hP0 hD0 hS C.2.2.2.2.2.2 hk.1 (fun j hj => by have h : j = 0 ∨ j = 1 ∨ j = 2 ∨ j = 3 := (by omega); rcases h with rfl | rfl | rfl | rfl <;> rfl) hc.1 hc.2 hd (fun q H1 hP1 hD1 hS1 => ?_)
  exact kk q H1 locs ls ⟨hP1, hD1⟩ hS1 hl
def CGr (l : Launch) (D : va_G) (ca : Ca) (A : Nat → Prop) (y : MethodName) (ws : List Cond) (rm : Room) (vs : List Value) (W0 : Heap → Prop) (W1 : Nat → Heap → Prop) (mc ms : Nat) : Prop := Met l y ws rm (va_Pc vs (GP D ca A W0)) (va_Qr (fun (_ : Unit) => True) (fun _ q t => W1 q t.heap) A) mc ms A
theorem gg_aret (C : Cx p s m args c cc nL own ws D ca A) {q : Nat} {nm : String} {Wq : Nat → Heap → Prop} (hr : meth.sig.returnType = some (.object nm)) (hlk : meth.locks = false) (hw1 : ∀ H, WR H → Wq q H) (hd : decode cc pc = .ok (.areturn, 1)) : GW WR p l e R s m args below meth c nL A mc ms (MQ below (va_Qr (fun (_ : Unit) => True) (fun _ q t => Wq q t.heap) A) args s mc ms A) pc lv [.ref q] := by
  intro H locs ls hw hS hl
  exact W.aret C.1 C.2.1 hr (Or.inl ⟨nm, rfl⟩) (Or.inr ⟨q, rfl⟩) (fun t ht hW => ⟨⟨(), q, rfl, trivial, by show Wq q t.heap; rw [ht]; exact hw1 H hw⟩, hS.F ht⟩) hS.2.2 hd
abbrev fitV (fit : Int) (n : Nat) : List Value := ov fit (jbc (ftM fit n)) (ftA fit n) n
abbrev rm_X0_init : Room := { frames := 2, cells := 0, slots := 0, locals := 47 }
theorem cg_X0_init {K : String} {T : u_T} {ci q n : Nat} {fit : Int} (hk : FK ci K T) (hu : UW K T wsX2_init) (hf : 0 ≤ fit ∧ fit ≤ 2147483647) (hn : n ≤ 4) : CGv l D ca A yX0_init wsX0_init rm_X0_init [.ref q, .int (iI fit), .int (iI n)] (WO D A ci q (ov 0 0 0 0)) (WO D A ci q (fitV fit n)) 0 0 := by
  refine cg_any (cc := cX0_init) (own := RX0) (maxL := 3) (ret := none) (lv0 := [some (.ref q), some (.int (iI fit)), some (.int (iI n))]) (by decide) rfl rfl rfl (Nat.le_of_ble_eq_true rfl) ?_
  intro p e s m below meth c C hr hlk hnm
  refine gw_mono (fun H h => h.1) ?_
  refine gw_aload_n (i := 0) C dX0_init_0 rfl rfl ?_
  refine gw_iload_n (i := 1) C dX0_init_1 rfl rfl ?_
  refine gw_iload_n (i := 2) C dX0_init_2 rfl rfl ?_
  refine gw_init (rest := []) C (cg_X2_init hk hu hf hn) (cwI 2 C.2.2.2.2.1 gX0_init_X2_init rfl rfl rfl (C.2.2.2.2.1 (.initialized RX2) (by decide +kernel)) (C.2.2.2.2.1 (.methodLink RX0 1 yX2_init) (by decide +kernel)) (C.2.2.2.2.1 (.instanceMethod yX2_init) (by decide +kernel)) rfl (by decide +kernel) ⟨Nat.le_of_ble_eq_true rfl, Nat.le_of_ble_eq_true rfl⟩) (Nat.le_of_ble_eq_true rfl) dX0_init_3 ⟨Nat.le_refl _, Nat.le_refl _⟩ ?_
  exact gg_vret C hr hlk (fun H h => h) dX0_init_6
abbrev rm_X9_init : Room := { frames := 2, cells := 0, slots := 0, locals := 47 }
theorem cg_X9_init {K : String} {T : u_T} {ci q n : Nat} {fit : Int} (hk : FK ci K T) (hu : UW K T wsX2_init) (hf : 0 ≤ fit ∧ fit ≤ 2147483647) (hn : n ≤ 4) : CGv l D ca A yX9_init wsX9_init rm_X9_init [.ref q, .int (iI fit), .int (iI n)] (WO D A ci q (ov 0 0 0 0)) (WO D A ci q (fitV fit n)) 0 0 := by
  refine cg_any (cc := cX9_init) (own := RX9) (maxL := 3) (ret := none) (lv0 := [some (.ref q), some (.int (iI fit)), some (.int (iI n))]) (by decide) rfl rfl rfl (Nat.le_of_ble_eq_true rfl) ?_
  intro p e s m below meth c C hr hlk hnm
  refine gw_mono (fun H h => h.1) ?_
  refine gw_aload_n (i := 0) C dX9_init_0 rfl rfl ?_
  refine gw_iload_n (i := 1) C dX9_init_1 rfl rfl ?_
  refine gw_iload_n (i := 2) C dX9_init_2 rfl rfl ?_
  refine gw_init (rest := []) C (cg_X2_init hk hu hf hn) (cwI 2 C.2.2.2.2.1 gX9_init_X2_init rfl rfl rfl (C.2.2.2.2.1 (.initialized RX2) (by decide +kernel)) (C.2.2.2.2.1 (.methodLink RX9 1 yX2_init) (by decide +kernel)) (C.2.2.2.2.1 (.instanceMethod yX2_init) (by decide +kernel)) rfl (by decide +kernel) ⟨Nat.le_of_ble_eq_true rfl, Nat.le_of_ble_eq_true rfl⟩) (Nat.le_of_ble_eq_true rfl) dX9_init_3 ⟨Nat.le_refl _, Nat.le_refl _⟩ ?_
  exact gg_vret C hr hlk (fun H h => h) dX9_init_6
abbrev rm_X5_init : Room := { frames := 2, cells := 0, slots := 0, locals := 47 }
theorem cg_X5_init {K : String} {T : u_T} {ci q n : Nat} {fit : Int} (hk : FK ci K T) (hu : UW K T wsX2_init) (hf : 0 ≤ fit ∧ fit ≤ 2147483647) (hn : n ≤ 4) : CGv l D ca A yX5_init wsX5_init rm_X5_init [.ref q, .int (iI fit), .int (iI n)] (WO D A ci q (ov 0 0 0 0)) (WO D A ci q (fitV fit n)) 0 0 := by
  refine cg_any (cc := cX5_init) (own := RX5) (maxL := 3) (ret := none) (lv0 := [some (.ref q), some (.int (iI fit)), some (.int (iI n))]) (by decide) rfl rfl rfl (Nat.le_of_ble_eq_true rfl) ?_
  intro p e s m below meth c C hr hlk hnm
  refine gw_mono (fun H h => h.1) ?_
  refine gw_aload_n (i := 0) C dX5_init_0 rfl rfl ?_
  refine gw_iload_n (i := 1) C dX5_init_1 rfl rfl ?_
  refine gw_iload_n (i := 2) C dX5_init_2 rfl rfl ?_
  refine gw_init (rest := []) C (cg_X2_init hk hu hf hn) (cwI 2 C.2.2.2.2.1 gX5_init_X2_init rfl rfl rfl (C.2.2.2.2.1 (.initialized RX2) (by decide +kernel)) (C.2.2.2.2.1 (.methodLink RX5 1 yX2_init) (by decide +kernel)) (C.2.2.2.2.1 (.instanceMethod yX2_init) (by decide +kernel)) rfl (by decide +kernel) ⟨Nat.le_of_ble_eq_true rfl, Nat.le_of_ble_eq_true rfl⟩) (Nat.le_of_ble_eq_true rfl) dX5_init_3 ⟨Nat.le_refl _, Nat.le_refl _⟩ ?_
  exact gg_vret C hr hlk (fun H h => h) dX5_init_6
abbrev rm_X10_init : Room := { frames := 3, cells := 0, slots := 0, locals := 69 }
theorem cg_X10_init {K : String} {T : u_T} {ci q n : Nat} {fit : Int} (hk : FK ci K T) (hu : UW K T wsX2_init) (hf : 0 ≤ fit ∧ fit ≤ 2147483647) (hn : n ≤ 4) : CGv l D ca A yX10_init wsX10_init rm_X10_init [.ref q, .int (iI fit), .int (iI n)] (WO D A ci q (ov 0 0 0 0)) (WO D A ci q (fitV fit n)) 0 0 := by
  refine cg_any (cc := cX10_init) (own := RX10) (maxL := 3) (ret := none) (lv0 := [some (.ref q), some (.int (iI fit)), some (.int (iI n))]) (by decide) rfl rfl rfl (Nat.le_of_ble_eq_true rfl) ?_
  intro p e s m below meth c C hr hlk hnm
  refine gw_mono (fun H h => h.1) ?_
  refine gw_aload_n (i := 0) C dX10_init_0 rfl rfl ?_
  refine gw_iload_n (i := 1) C dX10_init_1 rfl rfl ?_
  refine gw_iload_n (i := 2) C dX10_init_2 rfl rfl ?_
  refine gw_init (rest := []) C (cg_X0_init hk hu hf hn) (cwI 2 C.2.2.2.2.1 gX10_init_X0_init rfl rfl rfl (C.2.2.2.2.1 (.initialized RX0) (by decide +kernel)) (C.2.2.2.2.1 (.methodLink RX10 1 yX0_init) (by decide +kernel)) (C.2.2.2.2.1 (.instanceMethod yX0_init) (by decide +kernel)) rfl (by decide +kernel) ⟨Nat.le_of_ble_eq_true rfl, Nat.le_of_ble_eq_true rfl⟩) (Nat.le_of_ble_eq_true rfl) dX10_init_3 ⟨Nat.le_refl _, Nat.le_refl _⟩ ?_
  exact gg_vret C hr hlk (fun H h => h) dX10_init_6
abbrev rm_X1_init : Room := { frames := 3, cells := 0, slots := 0, locals := 69 }
theorem cg_X1_init {K : String} {T : u_T} {ci q n : Nat} {fit : Int} (hk : FK ci K T) (hu : UW K T wsX2_init) (hf : 0 ≤ fit ∧ fit ≤ 2147483647) (hn : n ≤ 4) : CGv l D ca A yX1_init wsX1_init rm_X1_init [.ref q, .int (iI fit), .int (iI n)] (WO D A ci q (ov 0 0 0 0)) (WO D A ci q (fitV fit n)) 0 0 := by
  refine cg_any (cc := cX1_init) (own := RX1) (maxL := 3) (ret := none) (lv0 := [some (.ref q), some (.int (iI fit)), some (.int (iI n))]) (by decide) rfl rfl rfl (Nat.le_of_ble_eq_true rfl) ?_
  intro p e s m below meth c C hr hlk hnm
  refine gw_mono (fun H h => h.1) ?_
  refine gw_aload_n (i := 0) C dX1_init_0 rfl rfl ?_
  refine gw_iload_n (i := 1) C dX1_init_1 rfl rfl ?_
  refine gw_iload_n (i := 2) C dX1_init_2 rfl rfl ?_
  refine gw_init (rest := []) C (cg_X9_init hk hu hf hn) (cwI 2 C.2.2.2.2.1 gX1_init_X9_init rfl rfl rfl (C.2.2.2.2.1 (.initialized RX9) (by decide +kernel)) (C.2.2.2.2.1 (.methodLink RX1 1 yX9_init) (by decide +kernel)) (C.2.2.2.2.1 (.instanceMethod yX9_init) (by decide +kernel)) rfl (by decide +kernel) ⟨Nat.le_of_ble_eq_true rfl, Nat.le_of_ble_eq_true rfl⟩) (Nat.le_of_ble_eq_true rfl) dX1_init_3 ⟨Nat.le_refl _, Nat.le_refl _⟩ ?_
  exact gg_vret C hr hlk (fun H h => h) dX1_init_6
abbrev rm_X11_fitOfKind : Room := { frames := 4, cells := 1, slots := 4, locals := 95 }
theorem cg_X11_fitOfKind {k fit : Int} {n : Nat} (hkd : 0 ≤ k ∧ k ≤ 5) (hf : 0 ≤ fit ∧ fit ≤ 2147483647) (hn : n ≤ 4) : CGr l D ca A yX11_fitOfKind wsX11_fitOfKind rm_X11_fitOfKind [.int (iI k), .int (iI fit), .int (iI n)] (fun _ => True) (fun q => WO D A (kc k) q (fitV fit n)) 1 4 := by
  refine cg_any (cc := cX11_fitOfKind) (own := RX11) (maxL := 3) (ret := some (.object "FurrowFair$Fit")) (lv0 := [some (.int (iI k)), some (.int (iI fit)), some (.int (iI n))]) (by decide) rfl rfl rfl (Nat.le_of_ble_eq_true rfl) ?_
  intro p e s m below meth c C hr hlk hnm
  have hs : s32 k = k := s32_of (by omega) (by omega)
  refine gw_iload_n (i := 0) C dX11_fitOfKind_0 rfl rfl ?_
  have hcs : k = 0 ∨ k = 1 ∨ k = 2 ∨ k = 3 ∨ k = 4 ∨ k = 5 := by omega
  rcases hcs with rfl | rfl | rfl | rfl | rfl | rfl
  · refine gw_tsOut (tgt := 86) C dX11_fitOfKind_1 (Or.inl (by decide)) (by decide) ?_
    refine gw_newK C fk2 (by decide +kernel) (by decide +kernel) (by decide +kernel) (by decide +kernel) ⟨Nat.le_of_ble_eq_true rfl, Nat.le_of_ble_eq_true rfl⟩ dX11_fitOfKind_86 (fun q => ?_)
    refine gw_dup C dX11_fitOfKind_89 rfl ?_
    refine gw_iload_n (i := 1) C dX11_fitOfKind_90 rfl rfl ?_
    refine gw_iload_n (i := 2) C dX11_fitOfKind_91 rfl rfl ?_
    refine gw_init (rest := [.ref q]) C (cg_X2_init fk2 (by decide +kernel) hf hn) (cwI 2 C.2.2.2.2.1 gX11_fitOfKind_X2_init rfl rfl rfl (C.2.2.2.2.1 (.initialized RX2) (by decide +kernel)) (C.2.2.2.2.1 (.methodLink RX11 367 yX2_init) (by decide +kernel)) (C.2.2.2.2.1 (.instanceMethod yX2_init) (by decide +kernel)) rfl (by decide +kernel) ⟨Nat.le_of_ble_eq_true rfl, Nat.le_of_ble_eq_true rfl⟩) (Nat.le_of_ble_eq_true rfl) dX11_fitOfKind_92 ⟨Nat.le_of_ble_eq_true rfl, Nat.le_of_ble_eq_true rfl⟩ ?_
    exact gg_aret C hr hlk (fun H h => h) dX11_fitOfKind_95
  · refine gw_tsIn (tgt := 36) (j := 1) C dX11_fitOfKind_1 hs (by decide) (by decide) rfl (by decide) ?_
    refine gw_newK C fk0 (by decide +kernel) (by decide +kernel) (by decide +kernel) (by decide +kernel) ⟨Nat.le_of_ble_eq_true rfl, Nat.le_of_ble_eq_true rfl⟩ dX11_fitOfKind_36 (fun q => ?_)
    refine gw_dup C dX11_fitOfKind_39 rfl ?_
    refine gw_iload_n (i := 1) C dX11_fitOfKind_40 rfl rfl ?_
    refine gw_iload_n (i := 2) C dX11_fitOfKind_41 rfl rfl ?_
    refine gw_init (rest := [.ref q]) C (cg_X0_init fk0 (by decide +kernel) hf hn) (cwI 2 C.2.2.2.2.1 gX11_fitOfKind_X0_init rfl rfl rfl (C.2.2.2.2.1 (.initialized RX0) (by decide +kernel)) (C.2.2.2.2.1 (.methodLink RX11 353 yX0_init) (by decide +kernel)) (C.2.2.2.2.1 (.instanceMethod yX0_init) (by decide +kernel)) rfl (by decide +kernel) ⟨Nat.le_of_ble_eq_true rfl, Nat.le_of_ble_eq_true rfl⟩) (Nat.le_of_ble_eq_true rfl) dX11_fitOfKind_42 ⟨Nat.le_of_ble_eq_true rfl, Nat.le_of_ble_eq_true rfl⟩ ?_
    exact gg_aret C hr hlk (fun H h => h) dX11_fitOfKind_45
  · refine gw_tsIn (tgt := 46) (j := 2) C dX11_fitOfKind_1 hs (by decide) (by decide) rfl (by decide) ?_
    refine gw_newK C fk9 (by decide +kernel) (by decide +kernel) (by decide +kernel) (by decide +kernel) ⟨Nat.le_of_ble_eq_true rfl, Nat.le_of_ble_eq_true rfl⟩ dX11_fitOfKind_46 (fun q => ?_)
    refine gw_dup C dX11_fitOfKind_49 rfl ?_
    refine gw_iload_n (i := 1) C dX11_fitOfKind_50 rfl rfl ?_
    refine gw_iload_n (i := 2) C dX11_fitOfKind_51 rfl rfl ?_
    refine gw_init (rest := [.ref q]) C (cg_X9_init fk9 (by decide +kernel) hf hn) (cwI 2 C.2.2.2.2.1 gX11_fitOfKind_X9_init rfl rfl rfl (C.2.2.2.2.1 (.initialized RX9) (by decide +kernel)) (C.2.2.2.2.1 (.methodLink RX11 357 yX9_init) (by decide +kernel)) (C.2.2.2.2.1 (.instanceMethod yX9_init) (by decide +kernel)) rfl (by decide +kernel) ⟨Nat.le_of_ble_eq_true rfl, Nat.le_of_ble_eq_true rfl⟩) (Nat.le_of_ble_eq_true rfl) dX11_fitOfKind_52 ⟨Nat.le_of_ble_eq_true rfl, Nat.le_of_ble_eq_true rfl⟩ ?_
    exact gg_aret C hr hlk (fun H h => h) dX11_fitOfKind_55
  · refine gw_tsIn (tgt := 56) (j := 3) C dX11_fitOfKind_1 hs (by decide) (by decide) rfl (by decide) ?_
    refine gw_newK C fk5 (by decide +kernel) (by decide +kernel) (by decide +kernel) (by decide +kernel) ⟨Nat.le_of_ble_eq_true rfl, Nat.le_of_ble_eq_true rfl⟩ dX11_fitOfKind_56 (fun q => ?_)
    refine gw_dup C dX11_fitOfKind_59 rfl ?_
    refine gw_iload_n (i := 1) C dX11_fitOfKind_60 rfl rfl ?_
    refine gw_iload_n (i := 2) C dX11_fitOfKind_61 rfl rfl ?_
    refine gw_init (rest := [.ref q]) C (cg_X5_init fk5 (by decide +kernel) hf hn) (cwI 2 C.2.2.2.2.1 gX11_fitOfKind_X5_init rfl rfl rfl (C.2.2.2.2.1 (.initialized RX5) (by decide +kernel)) (C.2.2.2.2.1 (.methodLink RX11 360 yX5_init) (by decide +kernel)) (C.2.2.2.2.1 (.instanceMethod yX5_init) (by decide +kernel)) rfl (by decide +kernel) ⟨Nat.le_of_ble_eq_true rfl, Nat.le_of_ble_eq_true rfl⟩) (Nat.le_of_ble_eq_true rfl) dX11_fitOfKind_62 ⟨Nat.le_of_ble_eq_true rfl, Nat.le_of_ble_eq_true rfl⟩ ?_
    exact gg_aret C hr hlk (fun H h => h) dX11_fitOfKind_65
  · refine gw_tsIn (tgt := 66) (j := 4) C dX11_fitOfKind_1 hs (by decide) (by decide) rfl (by decide) ?_
    refine gw_newK C fk10 (by decide +kernel) (by decide +kernel) (by decide +kernel) (by decide +kernel) ⟨Nat.le_of_ble_eq_true rfl, Nat.le_of_ble_eq_true rfl⟩ dX11_fitOfKind_66 (fun q => ?_)
    refine gw_dup C dX11_fitOfKind_69 rfl ?_
    refine gw_iload_n (i := 1) C dX11_fitOfKind_70 rfl rfl ?_
    refine gw_iload_n (i := 2) C dX11_fitOfKind_71 rfl rfl ?_
    refine gw_init (rest := [.ref q]) C (cg_X10_init fk10 (by decide +kernel) hf hn) (cwI 2 C.2.2.2.2.1 gX11_fitOfKind_X10_init rfl rfl rfl (C.2.2.2.2.1 (.initialized RX10) (by decide +kernel)) (C.2.2.2.2.1 (.methodLink RX11 363 yX10_init) (by decide +kernel)) (C.2.2.2.2.1 (.instanceMethod yX10_init) (by decide +kernel)) rfl (by decide +kernel) ⟨Nat.le_of_ble_eq_true rfl, Nat.le_of_ble_eq_true rfl⟩) (Nat.le_of_ble_eq_true rfl) dX11_fitOfKind_72 ⟨Nat.le_of_ble_eq_true rfl, Nat.le_of_ble_eq_true rfl⟩ ?_
    exact gg_aret C hr hlk (fun H h => h) dX11_fitOfKind_75
  · refine gw_tsIn (tgt := 76) (j := 5) C dX11_fitOfKind_1 hs (by decide) (by decide) rfl (by decide) ?_
    refine gw_newK C fk1 (by decide +kernel) (by decide +kernel) (by decide +kernel) (by decide +kernel) ⟨Nat.le_of_ble_eq_true rfl, Nat.le_of_ble_eq_true rfl⟩ dX11_fitOfKind_76 (fun q => ?_)
    refine gw_dup C dX11_fitOfKind_79 rfl ?_
    refine gw_iload_n (i := 1) C dX11_fitOfKind_80 rfl rfl ?_
    refine gw_iload_n (i := 2) C dX11_fitOfKind_81 rfl rfl ?_
    refine gw_init (rest := [.ref q]) C (cg_X1_init fk1 (by decide +kernel) hf hn) (cwI 2 C.2.2.2.2.1 gX11_fitOfKind_X1_init rfl rfl rfl (C.2.2.2.2.1 (.initialized RX1) (by decide +kernel)) (C.2.2.2.2.1 (.methodLink RX11 366 yX1_init) (by decide +kernel)) (C.2.2.2.2.1 (.instanceMethod yX1_init) (by decide +kernel)) rfl (by decide +kernel) ⟨Nat.le_of_ble_eq_true rfl, Nat.le_of_ble_eq_true rfl⟩) (Nat.le_of_ble_eq_true rfl) dX11_fitOfKind_82 ⟨Nat.le_of_ble_eq_true rfl, Nat.le_of_ble_eq_true rfl⟩ ?_
    exact gg_aret C hr hlk (fun H h => h) dX11_fitOfKind_85
end Gk
