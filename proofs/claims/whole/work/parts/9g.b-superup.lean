/-! BY HAND 11: super.m() of a superclass that inherits m; Told's failure -/
section Gsu
variable {p : Program} {l : Launch} {e : Env} {R : Room} {s : State} {m : MethodId} {args : Array Value} {below : List Frame} {meth : Method} {c : Code} {cells slots mc ms : Nat} {Q : State → Prop}
variable {cc : ByteArray} {own : String} {ws : List Cond} {nL : Nat} {D : va_G} {ca : Ca} {ad : Int → Nat} {A : Nat → Prop} {WR W0 W1 : Heap → Prop} {fa : Int → Option Nat} {σ σ' : Mem}
variable {pc i index : Nat} {lv : List (Option Value)} {st : List Value} {H : Heap} {locs : List Loc}
/-- what such a call asks -/
def CWx (R : Room) (s : State) (args : Array Value) (own : String) (index : Nat) (x y : MethodName) (bytes : ByteArray) (maxL : Nat) (ret : Option FieldType) (ws : List Cond) (rm : Room) (n : Nat) : Prop :=
  (rm.cells = 0 ∧ rm.slots = 0 ∧ rm.frames + 1 ≤ R.frames ∧ 8 + (maxL + 11) + rm.locals ≤ R.locals ∧ (∀ w ∈ ws, ∀ (a' : Array Value) (U : State), s.WarmedH U.vm → w.before a' U = true) ∧ Cond.code y bytes maxL ret ∈ ws) ∧
  (Cond.methodLink own index x).before args s = true ∧ (Cond.sameMethod x.cls y.cls x.name x.desc).before args s = true ∧ (x.name = y.name ∧ x.desc = y.desc) ∧ (Cond.superclass own x.cls).before args s = true ∧ (Cond.superclass x.cls y.cls).before args s = true ∧ (Cond.instanceMethod y).before args s = true ∧ (Cond.initialized y.cls).before args s = true ∧ (Cond.code y bytes maxL ret).before args s = true ∧ x.name ≠ "<init>" ∧ (∀ sig, parseMethodDescriptor y.desc = some sig → n = sig.parameters.length)
theorem sub_two {vm : Vm} {ps pt : ClassId} {kx : Class} (h1 : vm.classes[ps]? = some kx) (h2 : kx.super = some pt) : vm.isSubclass ps pt = true := by
  have hz : ps < vm.classes.size := (Array.getElem?_eq_some_iff.mp h1).1
  obtain ⟨n, hn⟩ : ∃ n, vm.classes.size = n + 1 := ⟨vm.classes.size - 1, (Nat.succ_pred_eq_of_pos (Nat.lt_of_le_of_lt (Nat.zero_le _) hz)).symm⟩
  unfold Vm.isSubclass
  rw [hn]
  simp [Vm.isSubclassAux, h1, h2]
theorem va_runSUx {x y : MethodName} {bytes : ByteArray} {maxL n : Nat} {ret : Option FieldType} {ws' : List Cond} {rm : Room} {Pc : Array Value → State → Prop} {Qc : Array Value → State → Outcome → State → Prop} {free : Addr → Prop} {Ts : List Cond} {C : String} {cC : ClassId} {b : Addr} {As rest : List Value} {g : JFrame}
    (hat : ClassAt s C cC) (S : CallFix p m c cc nL s args Ts own) (hM : Met l y ws' rm Pc Qc 0 0 free) (cw : CWx R s args own index x y bytes maxL ret ws' rm n) (hp : PreV s H C b Pc As)
    (hg : g.method = m) (hn : As.length = n) (hsize : g.locals.size = nL) (hstack : g.stack = As.reverse ++ .ref b :: rest) (hW : 2 * g.monitorRoom + (rest.map fun v => v.category).sum ≤ 8) (hdg : decode cc g.pc = .ok (.invokespecial index, 3)) (hf : cells + 0 ≤ R.cells ∧ slots + 0 ≤ R.slots) :
    va_Run p l e R s m args below meth c H locs cells slots 0 0 g rest (Qc (Value.ref b :: As).toArray) (free) := by
  obtain ⟨⟨hrc, hrs, hfr, hlo, hws, hcw⟩, hl1, hl2, hxy, hl3, hl3b, hl4, hini, hcode, hno, hlen⟩ := cw
  have hK : Back l R p e below s args y 3 8 (PreOf R 0 0 Pc) (PostOf Qc 0 0 free) := back_of (bytes := bytes) (maxL := maxL) (ret := ret) hM hp.1 hrc hrs hfr hlo hws hcw (fun a' U hW => word_at hW (Or.inl (by first | rfl | simp [Cond.onTables, Cond.keeps, Cond.steady])) hini)
  obtain ⟨hx, hb, hml, ho, -⟩ := S
  obtain ⟨-, ⟨cellB, hcB, hoB, hclB⟩, hPc⟩ := hp
  obtain ⟨hfc, kB, hkB, -⟩ := hat
  cases hfc.symm.trans hclB
  intro T hT X
  obtain ⟨mk, methM, hnamed, hmethM, hstM, habM⟩ := Cond.instanceMethod_spec hl4
  obtain ⟨methM', cM, hmethM', -, -, -, -, -, -, hsigM⟩ := Cond.code_spec hnamed hcode
  cases hmethM.symm.trans hmethM'
  obtain ⟨ps, dk, kp, hps, hdk, hkp, hsuper, -, -, hnid⟩ := Cond.superclass_spec ho hl3
  obtain ⟨pt, kx, kt, hpt, hkx, hkt, hsuper2, -, -, -⟩ := Cond.superclass_spec hps hl3b
  have hnm : s.methodNamed? ⟨y.cls, x.name, x.desc⟩ = some mk := by rw [hxy.1, hxy.2]; exact hnamed
  have hpm : pt = mk.cls := Option.some.inj (hpt.symm.trans (findClass_of_methodNamed hnamed))
  have hsub : s.vm.isSubclass ps mk.cls = true := by rw [← hpm]; exact sub_two hkx hsuper2
  obtain ⟨vm₁, X₁, hstep₁⟩ := X.invokespecialUp hx ho hl1 hl2 hnm hmethM hstM habM hno hdk hnid hps hsuper hsub (a := b) (cell := cellB) (by rw [hT]; exact hcB)
    (fun z h => by rw [h] at hoB; cases hoB) hkB (g := g) hg (argsL := As) (rest := rest) (hn.trans (hlen _ hsigM)) hstack (by rw [hb]; exact hdg)
  obtain ⟨v, ⟨U', l2, c2, s2⟩, X', ⟨g', mk', t, L, e1, e2, hq, h1, hL, h2, h3⟩, hsteps⟩ := hK m meth c ⟨T.setVm vm₁, locs, cells, slots⟩ { g with stack := rest } (.invokespecial index) mk (Value.ref b :: As).toArray X₁ hg (hsize.trans hml.symm) (by rw [hb]; exact hdg) hW (X₁.named hnamed) ⟨hf.1, hf.2, hPc (T.setVm vm₁) hT X₁.warmed⟩
  dsimp only [Pt.U, Pt.locs, Pt.cells, Pt.slots] at X' e1 e2 h1 h2 h3 hsteps
  subst h1; subst h2; subst h3
  exact ⟨v, (T.setVm vm₁).calling g' mk' (Value.ref b :: As).toArray, t, U', L, hT, X', hL, e1, e2, hq, fun target h => hstep₁ _ (by rw [doInvoke_state]; exact hsteps.trans h)⟩
def wsF10 : List Cond := .code yX10_failure cX10_failure 1 (some .int) :: ([.methodLink RX10 11 ⟨RX0, "failure", "()I"⟩, .sameMethod RX0 RX2 "failure" "()I", .superclass RX10 RX0, .superclass RX0 RX2, .instanceMethod yX2_failure, .initialized RX2] ++ wsX2_failure)
theorem gF10 : GoodIn wsF10 wsX2_failure := fun w h => ⟨List.mem_cons_of_mem _ (List.mem_append_right _ h), good_of_word (List.all_eq_true.mp (by decide +kernel : wsX2_failure.all goodWord = true) w h)⟩
theorem cf_X10_failure {q : Nat} {d : Int} (hf : fitAt fa σ d q 10) : CF l D ca ad A fa σ yX10_failure wsF10 rm_F2 q (σ (d + 20) 1 + 1000) := by
  refine cf_i (cc := cX10_failure) (own := RX10) (maxL := 1) (ret := some .int) (lv0 := [some (.ref q)]) (by decide) rfl rfl rfl (Nat.le_of_ble_eq_true rfl) ?_
  intro p e s m below meth c C hr hlk
  refine gw_aload_n (i := 0) C dX10_failure_0 rfl rfl ?_
  intro H locs ls hw hS hl
  obtain ⟨q0, hq⟩ := fit_in (ca := ca) (ad := ad) hf
  have hrc := va_recv C.2.2.2.2.2.1 hw.1 fk10.1 hq
  have hw0 := C.2.2.2.2.1
  refine va_calli (va_runSUx (x := ⟨RX0, "failure", "()I"⟩) (As := []) (rest := []) (C.2.2.2.2.2.1.1 10 _ fk10.1).2 ⟨C.1, C.2.1, C.2.2.1, C.2.2.2.1, C.2.2.2.2.1⟩ (cf_X2_failure fk10 (by decide +kernel) hf) ⟨⟨rfl, rfl, Nat.le_of_ble_eq_true rfl, Nat.le_of_ble_eq_true rfl, pay_in hw0 gF10, List.mem_cons_self⟩, C.wd (i := 1) rfl, C.wd (i := 2) rfl, ⟨rfl, rfl⟩, C.wd (i := 3) rfl, C.wd (i := 4) rfl, C.wd (i := 5) rfl, C.wd (i := 6) rfl, C.wd (i := 7) rfl, by decide, fun sig h => by
    have h2 : (parseMethodDescriptor yX2_failure.desc).map (fun d => d.parameters.length) = some 0 := by decide +kernel
    rw [h] at h2
    exact (Option.some.inj h2).symm⟩ ⟨wfd_blind, hrc, wfd_now C hw hS⟩ rfl rfl hl.1 rfl (lv_room (Nat.le_of_ble_eq_true rfl)) dX10_failure_1 ⟨Nat.zero_le _, Nat.zero_le _⟩) hS (fun _ _ h => h) (fun _ h => h) ?_
  intro x u t1 H1 locs1 ht hvm hp hB hz hk1 hS1
  rw [ht] at hB
  subst hp
  refine (?_ : GW (WF D ca ad A fa σ) p l e rm_F2 s m [Value.ref q].toArray below meth c 1 A (0 + 0) (0 + 0) _ 4 [some (.ref q)] [.int (iI (σ (d + 20) 1))]) H1 locs1 ls hB hS1 hl
  refine gw_sipush C dX10_failure_4 (by decide) ?_
  refine gw_iadd C dX10_failure_7 ?_
  exact gw_iret C hr hlk rfl dX10_failure_8
end Gsu
