/-! BY HAND 5: contracts over worlds of any kind; bitCount; the fit's constructor -/
section Gc
variable {p : Program} {l : Launch} {e : Env} {R : Room} {s : State} {m : MethodId} {args : Array Value} {below : List Frame} {meth : Method} {c : Code} {cells slots mc ms : Nat} {Q : State → Prop}
variable {cc : ByteArray} {own : String} {ws : List Cond} {nL : Nat} {D : va_G} {ca : Ca} {ad : Int → Nat} {A : Nat → Prop} {WR W0 W1 : Heap → Prop}
variable {pc i index : Nat} {lv : List (Option Value)} {st : List Value}
def GP (D : va_G) (ca : Ca) (A : Nat → Prop) (W0 : Heap → Prop) (U : State) : Prop := W0 U.heap ∧ va_K D vwCl (tysOf ca) U ∧ ∀ q : Nat, U.heap.size ≤ q → A q
theorem gp_blind {vs : List Value} : FrameBlind (va_Pc vs (GP D ca A W0)) := fun a U g mk q => by
  obtain ⟨q0, q1, q2, q3⟩ := q
  exact ⟨q0, q1, va_K.moved (u := U) (U := U.calling g mk a) (Vm.Alike.refl U.vm) q2, q3⟩
theorem gp_now {H : Heap} {locs : List Loc} {vs : List Value} {A' : Nat → Prop} (C : Cx p s m args c cc nL own ws D ca A) (hw : W0 H) (hA : ∀ q, H.size ≤ q → A' q) : ∀ U : State, U.heap = H → s.WarmedH U.vm → va_Pc vs (GP D ca A' W0) vs.toArray U := fun U hU hW => ⟨rfl, by rw [hU]; exact hw, va_K.moved hW.alike C.2.2.2.2.2.1, fun q hq => hA q (by rw [← hU]; exact hq)⟩
abbrev Qgi (A : Nat → Prop) (r : Int) (W1 : Heap → Prop) : Array Value → State → Outcome → State → Prop := va_Qi (fun (x : Int32) (_ : Unit) => x = iI r) (fun _ t => W1 t.heap) A
abbrev Qgv (A : Nat → Prop) (W1 : Heap → Prop) : Array Value → State → Outcome → State → Prop := va_Qv (fun (_ : Unit) => True) (fun _ t => W1 t.heap) A
def CGi (l : Launch) (D : va_G) (ca : Ca) (A : Nat → Prop) (y : MethodName) (ws : List Cond) (rm : Room) (vs : List Value) (W0 : Heap → Prop) (r : Int) (W1 : Heap → Prop) (mc ms : Nat) : Prop := Met l y ws rm (va_Pc vs (GP D ca A W0)) (Qgi A r W1) mc ms A
def CGv (l : Launch) (D : va_G) (ca : Ca) (A : Nat → Prop) (y : MethodName) (ws : List Cond) (rm : Room) (vs : List Value) (W0 W1 : Heap → Prop) (mc ms : Nat) : Prop := Met l y ws rm (va_Pc vs (GP D ca A W0)) (Qgv A W1) mc ms A
theorem cg_any {y : MethodName} {ws' : List Cond} {rm : Room} {maxL : Nat} {ret : Option FieldType} {vs : List Value} {lv0 : List (Option Value)} {Qc : Array Value → State → Outcome → State → Prop} (hy : plainName y.cls = true) (hw : ws = Cond.code y cc maxL ret :: ws') (hown : y.cls = own) (hlv : lp lv0 = lv_args 0 vs) (hlen : (lg_sl vs).length ≤ maxL)
    (body : ∀ (p : Program) (e : Env) (s : State) (m : MethodId) (below : List Frame) (meth : Method) (c : Code), Cx p s m vs.toArray c cc maxL own ws D ca A → meth.sig.returnType = ret → meth.locks = false → meth.name = y.name → GW (fun H => W0 H ∧ s.heap.size ≤ H.size) p l e rm s m vs.toArray below meth c maxL A 0 0 (MQ below Qc vs.toArray s mc ms A) 0 lv0 []) : Met l y ws rm (va_Pc vs (GP D ca A W0)) Qc mc ms A := by
  refine Met.ofW (cc := cc) (maxL := maxL) (ret := ret) hy hw ?_
  intro p e s m args below meth c s₁ B hml hv
  obtain ⟨rfl, hW, hK, hA⟩ := hv
  have C : Cx p s m vs.toArray c cc maxL own ws D ca A := ⟨B.exec, B.bytes, hml, hown ▸ findClass_of_methodNamed B.named, atoms_spec (ws := ws) B.pre, hK, hA⟩
  have hl := lv_entry vs (n := maxL) hlen
  rw [lg_entry_eq]
  exact body p e s m below meth c C B.returns B.notSynchronized (name_of_methodNamed B.named B.method).1 s.heap [] _ ⟨hW, Nat.le_refl _⟩ va_S.rf (lh_of hl (fun i v h => by rw [← hlv]; exact lp_mem.mpr h))
theorem gg_iret (C : Cx p s m args c cc nL own ws D ca A) {r r' : Int} (hr : meth.sig.returnType = some .int) (hlk : meth.locks = false) (e1 : r' = r) (hw1 : ∀ H, WR H → W1 H) (hd : decode cc pc = .ok (.ireturn, 1)) : GW WR p l e R s m args below meth c nL A mc ms (MQ below (Qgi A r W1) args s mc ms A) pc lv [.int (iI r')] := by
  intro H locs ls hw hS hl
  subst e1
  exact W.iret C.1 C.2.1 hr (fun t ht hW => ⟨⟨_, (), rfl, rfl, by show W1 t.heap; rw [ht]; exact hw1 H hw⟩, hS.F ht⟩) hS.2.2 hd
theorem gg_vret (C : Cx p s m args c cc nL own ws D ca A) (hr : meth.sig.returnType = none) (hlk : meth.locks = false) (hw1 : ∀ H, WR H → W1 H) (hd : decode cc pc = .ok (.return_, 1)) : GW WR p l e R s m args below meth c nL A mc ms (MQ below (Qgv A W1) args s mc ms A) pc lv [] := by
  intro H locs ls hw hS hl
  exact W.vret C.1 C.2.1 hr (fun t ht hW => ⟨⟨(), rfl, trivial, by show W1 t.heap; rw [ht]; exact hw1 H hw⟩, hS.F ht⟩) hS.2.2 hd
/-- a static method that answers an int, called over any world that its making of new cells leaves -/
theorem gg_callS (C : Cx p s m args c cc nL own ws D ca A) {y : MethodName} {bytes : ByteArray} {maxL n mc' ms' : Nat} {ret : Option FieldType} {ws' : List Cond} {rm : Room} {As rest : List Value} {r : Int} (hM : ∀ sz : Nat, CGi l D ca (fun q => sz ≤ q) y ws' rm As W0 r W1 mc' ms') (cw : CallB R s args own index y bytes maxL ret ws' rm mc' ms' n ∧ (Cond.static y).before args s = true) (hn : As.length = n) (hst : st = As.reverse ++ rest) (hR : (rest.map fun v => v.category).sum ≤ 8) (hd : decode cc pc = .ok (.invokestatic index, 3)) (hcs : cells + mc' ≤ R.cells ∧ slots + ms' ≤ R.slots) (h0 : ∀ H, WR H → W0 H) (h1 : ∀ H H1 : Heap, WR H → H.size ≤ H1.size → (∀ q : Nat, q < H.size → H1[q]? = H[q]?) → WR H1) (kk : GW WR p l e R s m args below meth c nL A (cells + mc') (slots + ms') Q (pc + 3) lv (.int (iI r) :: rest)) : GW WR p l e R s m args below meth c nL A cells slots Q pc lv st := by
  intro H locs ls hw hS hl
  subst hst
  refine va_calli (va_runS (As := As) (rest := rest) ⟨C.1, C.2.1, C.2.2.1, C.2.2.2.1, C.2.2.2.2.1⟩ (hM H.size) cw ⟨gp_blind, gp_now (locs := locs) C (h0 H hw) (fun q h => h)⟩ rfl hn hl.1 rfl (lv_room hR) hd hcs) hS (fun q h1 h2 => absurd h2 (Nat.not_le_of_lt h1)) (fun q h => C.2.2.2.2.2.2 q (Nat.le_trans hS.1 h)) ?_
  intro x u t1 H1 locs1 ht hvm hp hB hz hk1 hS1
  subst hp
  exact kk H1 locs1 ls (h1 H H1 hw hz (fun q hq => hk1 q hq (Nat.not_le_of_lt hq))) hS1 hl
theorem cb_bitCount {v0 : Int} {A : Nat → Prop} : CGi l D ca A yJ6_bitCount_0f7a4 wsJ6_bitCount_0f7a4 rm_J6_bitCount_0f7a4 [.int (iI v0)] (fun _ => True) (jbc v0) (fun _ => True) 0 0 := by
  refine cg_any (cc := cJ6_bitCount_0f7a4) (own := RJ6) (maxL := 1) (ret := (some .int)) (lv0 := [some (.int (iI v0))]) (by decide) rfl rfl rfl (Nat.le_of_ble_eq_true rfl) ?_
  intro p e s m below meth c C hr hlk hnm
  refine gw_iload_n (i := 0) C dJ6_bitCount_0f7a4_0 rfl rfl ?_
  refine gw_iload_n (i := 0) C dJ6_bitCount_0f7a4_1 rfl rfl ?_
  refine gw_iconst C dJ6_bitCount_0f7a4_2 ?_
  refine gw_iushr C dJ6_bitCount_0f7a4_3 ?_
  refine gw_ldcw (i := 1) (z := 1431655765) C dJ6_bitCount_0f7a4_4 rfl (by decide) ?_
  refine gw_iand C dJ6_bitCount_0f7a4_7 ?_
  refine gw_isub C dJ6_bitCount_0f7a4_8 ?_
  refine gw_istore_n (i := 0) C dJ6_bitCount_0f7a4_9 rfl (by decide) rfl ?_
  refine gw_iload_n (i := 0) C dJ6_bitCount_0f7a4_10 rfl rfl ?_
  refine gw_ldcw (i := 2) (z := 858993459) C dJ6_bitCount_0f7a4_11 rfl (by decide) ?_
  refine gw_iand C dJ6_bitCount_0f7a4_14 ?_
  refine gw_iload_n (i := 0) C dJ6_bitCount_0f7a4_15 rfl rfl ?_
  refine gw_iconst C dJ6_bitCount_0f7a4_16 ?_
  refine gw_iushr C dJ6_bitCount_0f7a4_17 ?_
  refine gw_ldcw (i := 2) (z := 858993459) C dJ6_bitCount_0f7a4_18 rfl (by decide) ?_
  refine gw_iand C dJ6_bitCount_0f7a4_21 ?_
  refine gw_iadd C dJ6_bitCount_0f7a4_22 ?_
  refine gw_istore_n (i := 0) C dJ6_bitCount_0f7a4_23 rfl (by decide) rfl ?_
  refine gw_iload_n (i := 0) C dJ6_bitCount_0f7a4_24 rfl rfl ?_
  refine gw_iload_n (i := 0) C dJ6_bitCount_0f7a4_25 rfl rfl ?_
  refine gw_iconst C dJ6_bitCount_0f7a4_26 ?_
  refine gw_iushr C dJ6_bitCount_0f7a4_27 ?_
  refine gw_iadd C dJ6_bitCount_0f7a4_28 ?_
  refine gw_ldcw (i := 3) (z := 252645135) C dJ6_bitCount_0f7a4_29 rfl (by decide) ?_
  refine gw_iand C dJ6_bitCount_0f7a4_32 ?_
  refine gw_istore_n (i := 0) C dJ6_bitCount_0f7a4_33 rfl (by decide) rfl ?_
  refine gw_iload_n (i := 0) C dJ6_bitCount_0f7a4_34 rfl rfl ?_
  refine gw_iload_n (i := 0) C dJ6_bitCount_0f7a4_35 rfl rfl ?_
  refine gw_bipush C dJ6_bitCount_0f7a4_36 (by decide) ?_
  refine gw_iushr C dJ6_bitCount_0f7a4_38 ?_
  refine gw_iadd C dJ6_bitCount_0f7a4_39 ?_
  refine gw_istore_n (i := 0) C dJ6_bitCount_0f7a4_40 rfl (by decide) rfl ?_
  refine gw_iload_n (i := 0) C dJ6_bitCount_0f7a4_41 rfl rfl ?_
  refine gw_iload_n (i := 0) C dJ6_bitCount_0f7a4_42 rfl rfl ?_
  refine gw_bipush C dJ6_bitCount_0f7a4_43 (by decide) ?_
  refine gw_iushr C dJ6_bitCount_0f7a4_45 ?_
  refine gw_iadd C dJ6_bitCount_0f7a4_46 ?_
  refine gw_istore_n (i := 0) C dJ6_bitCount_0f7a4_47 rfl (by decide) rfl ?_
  refine gw_iload_n (i := 0) C dJ6_bitCount_0f7a4_48 rfl rfl ?_
  refine gw_bipush C dJ6_bitCount_0f7a4_49 (by decide) ?_
  refine gw_iand C dJ6_bitCount_0f7a4_51 ?_
  exact gg_iret C hr hlk rfl (fun _ _ => trivial) dJ6_bitCount_0f7a4_52
end Gc
