/-! BY HAND 18: worlds as lists of cells: the rows of constructors -/
def WL (D : va_G) (A : Nat → Prop) (w : va_W) (H : Heap) : Prop := va_P D vwCl w H ∧ va_D A w
/-- what a constructor finds -/
def KG (D : va_G) (ca : Ca) (A : Nat → Prop) (w : va_W) (U : State) : Prop := GP D ca A (WL D A w) U ∧ va_AOA .int U ∧ va_AO "FurrowFair$Shelf" U
theorem wl_join {D : va_G} {A : Nat → Prop} {w w1 : va_W} {q : Nat} {e0 : va_E} {H H1 : Heap} (hw : WL D A (w ++ [(q, e0)]) H) (hk1 : ∀ x : Nat, x < H.size → ¬ (x = q ∨ H.size ≤ x) → H1[x]? = H[x]?) (h1 : WL D (fun x => x = q ∨ H.size ≤ x) w1 H1) (hA : ∀ x, H.size ≤ x → A x) : WL D A (w ++ w1) H1 := by
  obtain ⟨hP, hD⟩ := hw
  obtain ⟨hP1, hD1⟩ := h1
  have hp := List.pairwise_append.mp hD.pw
  have hlt : ∀ x ∈ w ++ [(q, e0)], x.1 < H.size := fun x hx => by
    obtain ⟨j, hj⟩ := List.getElem?_of_mem hx
    exact (hP j x hj).lt
  have hne : ∀ x ∈ w, x.1 ≠ q := fun x hx => hp.2.2 x hx (q, e0) (List.mem_singleton.mpr rfl)
  have hPw : va_P D vwCl w H := hP.mem (fun x hx => List.mem_append_left _ hx)
  have hq : A q := hD.2 w.length (q, e0) (by rw [List.getElem?_append_right (Nat.le_refl _), Nat.sub_self]; rfl)
  refine ⟨(hPw.kept (fun k x hx => ?_)).app hP1, va_D.of (List.pairwise_append.mpr ⟨hp.1, hD1.pw, fun x hx y hy => ?_⟩) (fun x hx => ?_)⟩
  · have hm := List.mem_of_getElem? hx
    have h9 := hlt x (List.mem_append_left _ hm)
    exact hk1 x.1 h9 (fun z => z.elim (hne x hm) (fun z => absurd z (Nat.not_le_of_lt h9)))
  · obtain ⟨j, hj⟩ := List.getElem?_of_mem hy
    have h9 := hlt x (List.mem_append_left _ hx)
    rcases hD1.2 j y hj with z | z
    · rw [z]
      exact hne x hx
    · exact Nat.ne_of_lt (Nat.lt_of_lt_of_le h9 z)
  · rcases List.mem_append.mp hx with h | h
    · obtain ⟨j, hj⟩ := List.getElem?_of_mem (List.mem_append_left [(q, e0)] h)
      exact hD.2 j x hj
    · obtain ⟨j, hj⟩ := List.getElem?_of_mem h
      rcases hD1.2 j x hj with z | z
      · rw [z]
        exact hq
      · exact hA _ z
section Gl
variable {p : Program} {l : Launch} {e : Env} {R : Room} {s : State} {m : MethodId} {args : Array Value} {below : List Frame} {meth : Method} {c : Code} {cells slots mc ms : Nat} {Q : State → Prop}
variable {cc : ByteArray} {own : String} {ws : List Cond} {nL : Nat} {D : va_G} {ca : Ca} {A : Nat → Prop} {WR : Heap → Prop} {w w' : va_W}
variable {pc index : Nat} {lv : List (Option Value)} {st : List Value}
/-- a constructor -/
def CKt {X : Type} (l : Launch) (D : va_G) (ca : Ca) (A : Nat → Prop) (y : MethodName) (ws : List Cond) (rm : Room) (vs : List Value) (w0 : va_W) (M : X → va_W) (mc ms : Nat) : Prop := Met l y ws rm (va_Pc vs (KG D ca A w0)) (Qgv A (fun H => ∃ r, WL D A (M r) H)) mc ms A
theorem ck_any {y : MethodName} {ws' : List Cond} {rm : Room} {maxL : Nat} {ret : Option FieldType} {vs : List Value} {lv0 : List (Option Value)} {X : Type} {M : X → va_W} (hy : plainName y.cls = true) (hw : ws = Cond.code y cc maxL ret :: ws') (hown : y.cls = own) (hlv : lp lv0 = lv_args 0 vs) (hlen : (lg_sl vs).length ≤ maxL)
    (body : ∀ (p : Program) (e : Env) (s : State) (m : MethodId) (below : List Frame) (meth : Method) (c : Code), Cx p s m vs.toArray c cc maxL own ws D ca A → va_AOA .int s → va_AO "FurrowFair$Shelf" s → meth.sig.returnType = ret → meth.locks = false → meth.name = y.name → GW (WL D A w) p l e rm s m vs.toArray below meth c maxL A 0 0 (MQ below (Qgv A (fun H => ∃ r, WL D A (M r) H)) vs.toArray s mc ms A) 0 lv0 []) : CKt l D ca A y ws rm vs w M mc ms := by
  refine Met.ofW (cc := cc) (maxL := maxL) (ret := ret) hy hw ?_
  intro p e s m args below meth c s₁ B hml hv
  obtain ⟨rfl, ⟨hW, hK, hA⟩, hO1, hO2⟩ := hv
  have C : Cx p s m vs.toArray c cc maxL own ws D ca A := ⟨B.exec, B.bytes, hml, hown ▸ findClass_of_methodNamed B.named, atoms_spec (ws := ws) B.pre, hK, hA⟩
  have hl := lv_entry vs (n := maxL) hlen
  rw [lg_entry_eq]
  exact body p e s m below meth c C hO1 hO2 B.returns B.notSynchronized (name_of_methodNamed B.named B.method).1 s.heap [] _ hW va_S.rf (lh_of hl (fun i v h => by rw [← hlv]; exact lp_mem.mpr h))
theorem kg_blind {vs : List Value} {w0 : va_W} : FrameBlind (va_Pc vs (KG D ca A w0)) := fun a U g mk q => by
  obtain ⟨q0, ⟨q1, q2, q3⟩, q4, q5⟩ := q
  exact ⟨q0, ⟨q1, va_K.moved (u := U) (U := U.calling g mk a) (Vm.Alike.refl U.vm) q2, q3⟩, va_AOA.moved (u := U) (U := U.calling g mk a) (Vm.Alike.refl U.vm) q4, va_AO.moved (u := U) (U := U.calling g mk a) (Vm.Alike.refl U.vm) q5⟩
theorem kg_now {H : Heap} {vs : List Value} {A' : Nat → Prop} {w0 : va_W} (C : Cx p s m args c cc nL own ws D ca A) (hO1 : va_AOA .int s) (hO2 : va_AO "FurrowFair$Shelf" s) (hw : WL D A' w0 H) (hA : ∀ q, H.size ≤ q → A' q) : ∀ U : State, U.heap = H → s.WarmedH U.vm → va_Pc vs (KG D ca A' w0) vs.toArray U := fun U hU hW => ⟨rfl, ⟨by rw [hU]; exact hw, va_K.moved hW.alike C.2.2.2.2.2.1, fun q hq => hA q (by rw [← hU]; exact hq)⟩, hO1.moved hW.alike, hO2.moved hW.alike⟩
/-- Object's own constructor -/
theorem gl_obj (C : Cx p s m args c cc nL own ws D ca A) {i1 i2 i3 q : Nat} (w1 : ws[i1]? = some (.methodLink own index objectInit)) (w2 : ws[i2]? = some (.instanceMethod objectInit)) (w3 : ws[i3]? = some (.code objectInit ⟨#[0xb1]⟩ 1 none)) (hR : 1 ≤ R.frames ∧ 12 ≤ R.locals) (hd : decode cc pc = .ok (.invokespecial index, 3)) (kk : GW WR p l e R s m args below meth c nL A cells slots Q (pc + 3) lv []) : GW WR p l e R s m args below meth c nL A cells slots Q pc lv [.ref q] := by
  intro H locs ls hw hS hl
  refine W.objInit C.1 C.2.1 C.2.2.2.1 (C.wd w1) (C.wd w2) (C.wd w3) rfl (by rw [C.2.2.1]; exact hl.1) rfl hd hR.1 hR.2 ?_
  exact W.eq (g2 := F0 m (pc + 3) ls []) rfl (kk H locs ls hw hS hl)
theorem gl_newI (C : Cx p s m args c cc nL own ws D ca A) {n : Int} {N : Nat} (h1 : Cond.arrayClass .int ∈ ws) (hn : ¬ iI n < 0) (hN : (iI n).toNatClampNeg = N) (hb : N * 4 ≤ 536870912) (hc : cells + 1 ≤ R.cells ∧ slots + N ≤ R.slots) (hd : decode cc pc = .ok (.newarray .int, 2)) (kk : ∀ q : Nat, GW (WL D A (w ++ [(q, .inl (ca.1, N, .inl (fun _ => iI 0)))])) p l e R s m args below meth c nL A (cells + 1) (slots + N) Q (pc + 2) lv (.ref q :: st)) : GW (WL D A w) p l e R s m args below meth c nL A cells slots Q pc lv (.int (iI n) :: st) := by
  intro H locs ls hw hS hl
  refine va_newa (atype := .int) (ty := .int) (a0 := (N, .inl (fun _ => iI 0))) C.1 C.2.1 (C.2.2.2.2.1 _ h1) rfl C.2.2.2.2.2.1 hw.1 hw.2 hS C.2.2.2.2.2.2 (fun cA => rfl) hn hN hb hc.1 hc.2 hd (fun q cA H1 hK1 hP1 hD1 hS1 => ?_)
  have e1 : s.vm.findClass ("[" ++ FieldType.toString .int) = some cA := (hK1.2 4 _ rfl).2
  have e0 : s.vm.findClass ("[" ++ FieldType.toString .int) = some ca.1 := (hK1.2 0 _ rfl).2
  have e2 : cA = ca.1 := Option.some.inj (e1.symm.trans e0)
  subst e2
  exact kk q H1 locs ls ⟨hP1, hD1⟩ hS1 hl
theorem gl_newL (C : Cx p s m args c cc nL own ws D ca A) {n : Int} {N : Nat} (h1 : Cond.arrayClass .long ∈ ws) (hn : ¬ iI n < 0) (hN : (iI n).toNatClampNeg = N) (hb : N * 8 ≤ 536870912) (hc : cells + 1 ≤ R.cells ∧ slots + N ≤ R.slots) (hd : decode cc pc = .ok (.newarray .long, 2)) (kk : ∀ q : Nat, GW (WL D A (w ++ [(q, .inl (ca.2.1, N, .inr (.inl (fun _ => lI 0))))])) p l e R s m args below meth c nL A (cells + 1) (slots + N) Q (pc + 2) lv (.ref q :: st)) : GW (WL D A w) p l e R s m args below meth c nL A cells slots Q pc lv (.int (iI n) :: st) := by
  intro H locs ls hw hS hl
  refine va_newa (atype := .long) (ty := .long) (a0 := (N, .inr (.inl (fun _ => lI 0)))) C.1 C.2.1 (C.2.2.2.2.1 _ h1) rfl C.2.2.2.2.2.1 hw.1 hw.2 hS C.2.2.2.2.2.2 (fun cA => rfl) hn hN hb hc.1 hc.2 hd (fun q cA H1 hK1 hP1 hD1 hS1 => ?_)
  have e1 : s.vm.findClass ("[" ++ FieldType.toString .long) = some cA := (hK1.2 4 _ rfl).2
  have e0 : s.vm.findClass ("[" ++ FieldType.toString .long) = some ca.2.1 := (hK1.2 1 _ rfl).2
  have e2 : cA = ca.2.1 := Option.some.inj (e1.symm.trans e0)
  subst e2
  exact kk q H1 locs ls ⟨hP1, hD1⟩ hS1 hl
theorem gl_newO (C : Cx p s m args c cc nL own ws D ca A) {ci N : Nat} {K : String} {T : u_T} {fs : List Value} (hcl : vwCl[ci]? = some (K, T, N)) (hu : ∀ x ∈ u_ws K T N, x ∈ ws) (ty : Nat → FieldType) (hty : ∀ k, k < N → parseFieldDescriptor (T k).2.2.1 = some (ty k)) (h1 : Cond.classLink own index K ∈ ws) (h2 : Cond.instantiable K N ∈ ws) (h3 : Cond.initialized K ∈ ws) (hfs : ∀ j, j < N → defaultValue (ty j) = vp_V fs j) (hc : cells + 1 ≤ R.cells ∧ slots + N ≤ R.slots) (hd : decode cc pc = .ok (.new index, 3)) (kk : ∀ q : Nat, GW (WL D A (w ++ [(q, .inr (ci, fs))])) p l e R s m args below meth c nL A (cells + 1) (slots + N) Q (pc + 3) lv (.ref q :: st)) : GW (WL D A w) p l e R s m args below meth c nL A cells slots Q pc lv st := by
  intro H locs ls hw hS hl
  refine va_new (ci := ci) (fs := fs) (C := K) (T := T) (N := N) C.1 C.2.1 C.2.2.2.2.1 hu ty hty C.2.2.2.1 (C.2.2.2.2.1 _ h1) (C.2.2.2.2.1 _ h2) (C.2.2.2.2.1 _ h3) C.2.2.2.2.2.1 hw.1 hw.2 hS C.2.2.2.2.2.2 hcl hfs hc.1 hc.2 hd (fun q H1 hP1 hD1 hS1 => ?_)
  exact kk q H1 locs ls ⟨hP1, hD1⟩ hS1 hl
theorem gl_putF (C : Cx p s m args c cc nL own ws D ca A) {q0 a ci N i k : Nat} {T : u_T} {fs : List Value} {v : Value} {ty : FieldType} (he : w[q0]? = some (a, .inr (ci, fs))) (hcl : vwCl[ci]? = some (own, T, N)) (hu : ∀ x ∈ u_ws own T N, x ∈ ws) (ty0 : Nat → FieldType) (hty : ∀ k, k < N → parseFieldDescriptor (T k).2.2.1 = some (ty0 k)) (hnmT : ∀ a, a < N → ∀ b, b < N → a ≠ b → (T a).2.1 ≠ (T b).2.1) (hk : k < N) (hi : ws[i]? = some (.fieldLink own index (T k).1 (T k).2.1 (T k).2.2.1)) (hnm : meth.name = "<init>") (hfin : (T k).2.2.2 = true) (hdecl : (T k).1 = own) (hpt : parseFieldDescriptor (T k).2.2.1 = some ty) (hn : narrow ty v = v) (hfit : fits ty v = true) (hlen : k < fs.length) (hw' : w.set q0 (a, .inr (ci, fs.set k v)) = w') (hd : decode cc pc = .ok (.putfield index, 3)) (kk : GW (WL D A w') p l e R s m args below meth c nL A cells slots Q (pc + 3) lv st) : GW (WL D A w) p l e R s m args below meth c nL A cells slots Q pc lv (v :: .ref a :: st) := by
  intro H locs ls hw hS hl
  subst hw'
  refine va_putF (T := T) (C := own) (N := N) (ci := ci) (ref := (T k).1) (ty := ty) C.1 C.2.1 C.2.2.2.2.1 hu ty0 hty hnmT C.2.2.2.1 C.2.2.2.2.2.1 hw.1 hw.2 hS q0 he hcl k hk (C.wd hi) (fun _ h9 => h9) hfin hnm hdecl hpt hn hfit hlen hd (fun H1 locs1 hP1 hD1 hS1 => ?_)
  exact kk H1 locs1 ls ⟨hP1, hD1⟩ hS1 hl
theorem gl_put (C : Cx p s m args c cc nL own ws D ca A) {q0 a ci N i k : Nat} {T : u_T} {fs : List Value} {v : Value} {ty : FieldType} (he : w[q0]? = some (a, .inr (ci, fs))) (hcl : vwCl[ci]? = some (own, T, N)) (hu : ∀ x ∈ u_ws own T N, x ∈ ws) (ty0 : Nat → FieldType) (hty : ∀ k, k < N → parseFieldDescriptor (T k).2.2.1 = some (ty0 k)) (hnmT : ∀ a, a < N → ∀ b, b < N → a ≠ b → (T a).2.1 ≠ (T b).2.1) (hk : k < N) (hi : ws[i]? = some (.fieldLink own index (T k).1 (T k).2.1 (T k).2.2.1)) (hfin : (T k).2.2.2 = false) (hpt : parseFieldDescriptor (T k).2.2.1 = some ty) (hn : narrow ty v = v) (hfit : fits ty v = true) (hlen : k < fs.length) (hw' : w.set q0 (a, .inr (ci, fs.set k v)) = w') (hd : decode cc pc = .ok (.putfield index, 3)) (kk : GW (WL D A w') p l e R s m args below meth c nL A cells slots Q (pc + 3) lv st) : GW (WL D A w) p l e R s m args below meth c nL A cells slots Q pc lv (v :: .ref a :: st) := by
  intro H locs ls hw hS hl
  subst hw'
  refine va_put (T := T) (C := own) (N := N) (ci := ci) (ref := (T k).1) (ty := ty) C.1 C.2.1 C.2.2.2.2.1 hu ty0 hty hnmT C.2.2.2.1 C.2.2.2.2.2.1 hw.1 hw.2 hS q0 he hcl k hk (C.wd hi) (fun _ h9 => h9) hfin hpt hn hfit hlen hd (fun H1 locs1 hP1 hD1 hS1 => ?_)
  exact kk H1 locs1 ls ⟨hP1, hD1⟩ hS1 hl
theorem gl_get (C : Cx p s m args c cc nL own ws D ca A) {q0 a ci N i k : Nat} {T : u_T} {fs : List Value} {v : Value} (he : w[q0]? = some (a, .inr (ci, fs))) (hcl : vwCl[ci]? = some (own, T, N)) (hu : ∀ x ∈ u_ws own T N, x ∈ ws) (hk : k < N) (hi : ws[i]? = some (.fieldLink own index (T k).1 (T k).2.1 (T k).2.2.1)) (hv : fs[k]? = some v) (hd : decode cc pc = .ok (.getfield index, 3)) (kk : GW (WL D A w) p l e R s m args below meth c nL A cells slots Q (pc + 3) lv (v :: st)) : GW (WL D A w) p l e R s m args below meth c nL A cells slots Q pc lv (.ref a :: st) := by
  intro H locs ls hw hS hl
  exact va_get (ref := (T k).1) C.1 C.2.1 C.2.2.2.2.1 hu C.2.2.2.1 C.2.2.2.2.2.1 hw.1 q0 he hcl k hk (C.wd hi) (fun _ h9 => h9) hv hd (kk H locs ls hw hS hl)
/-- a constructor, called on a fresh object -/
theorem gl_ctor (C : Cx p s m args c cc nL own ws D ca A) (hO1 : va_AOA .int s) (hO2 : va_AO "FurrowFair$Shelf" s) {y : MethodName} {bytes : ByteArray} {maxL q n mc' ms' : Nat} {ws' : List Cond} {rm : Room} {As rest : List Value} {e0 : va_E} {X : Type} {M : X → va_W} (hM : ∀ A' : Nat → Prop, CKt l D ca A' y ws' rm (.ref q :: As) [(q, e0)] M mc' ms') (cw : CallB R s args own index y bytes maxL none ws' rm mc' ms' n ∧ y.name = "<init>" ∧ (Cond.instanceMethod y).before args s = true) (hn : As.length = n) (hst : st = As.reverse ++ .ref q :: rest) (hR : (rest.map fun v => v.category).sum ≤ 8) (hd : decode cc pc = .ok (.invokespecial index, 3)) (hcs : cells + mc' ≤ R.cells ∧ slots + ms' ≤ R.slots) (kk : ∀ r : X, GW (WL D A (w ++ M r)) p l e R s m args below meth c nL A (cells + mc') (slots + ms') Q (pc + 3) lv rest) : GW (WL D A (w ++ [(q, e0)])) p l e R s m args below meth c nL A cells slots Q pc lv st := by
  intro H locs ls hw hS hl
  subst hst
  have hlast : (w ++ [(q, e0)])[w.length]? = some (q, e0) := by
    rw [List.getElem?_append_right (Nat.le_refl _), Nat.sub_self]
    rfl
  have hqA : A q := hw.2.2 _ _ hlast
  have hqH : q < H.size := (hw.1 _ _ hlast).lt
  have hAA : ∀ x, H.size ≤ x → A x := fun x h => C.2.2.2.2.2.2 x (Nat.le_trans hS.1 h)
  have hin : WL D (fun x => x = q ∨ H.size ≤ x) [(q, e0)] H := ⟨hw.1.mem (fun x hx => List.mem_append_right _ hx), va_D.of (List.pairwise_singleton _ _) (fun x hx => by rw [List.mem_singleton.mp hx]; exact Or.inl rfl)⟩
  refine va_callv (va_runI (As := As) (rest := rest) ⟨C.1, C.2.1, C.2.2.1, C.2.2.2.1, C.2.2.2.2.1⟩ (hM (fun x => x = q ∨ H.size ≤ x)) cw ⟨kg_blind, kg_now C hO1 hO2 hin (fun x h => Or.inr h)⟩ rfl hn hl.1 rfl (lv_room hR) hd hcs) hS (fun x h1 h2 => h2.elim (fun z => z ▸ hqA) (hAA x)) (fun x h2 => h2.elim (fun z => z ▸ hqA) (hAA x)) ?_
  intro u t1 H1 locs1 ht hvm hp hB hz hk1 hS1
  rw [ht] at hB
  obtain ⟨r, hB⟩ := hB
  exact kk r H1 locs1 ls (wl_join hw hk1 hB hAA) hS1 hl
theorem gl_vret (C : Cx p s m args c cc nL own ws D ca A) {X : Type} {M : X → va_W} (r : X) (hr : meth.sig.returnType = none) (hlk : meth.locks = false) (hw : w = M r) (hc : cells ≤ mc ∧ slots ≤ ms) (hd : decode cc pc = .ok (.return_, 1)) : GW (WL D A w) p l e R s m args below meth c nL A cells slots (MQ below (Qgv A (fun H => ∃ r, WL D A (M r) H)) args s mc ms A) pc lv [] := by
  intro H locs ls hw0 hS hl
  subst hw
  exact W.widen hc.1 hc.2 (W.vret C.1 C.2.1 hr (fun t ht hW => ⟨⟨(), rfl, trivial, ⟨r, by rw [ht]; exact hw0⟩⟩, hS.F ht⟩) hS.2.2 hd)
theorem arrV_ext {cI : ClassId} {N : Nat} {f g : Nat → Value} (h : ∀ j, j < N → f j = g j) : arrV cI N f = arrV cI N g := by
  unfold arrV
  congr 2
  funext j
  exact h j.val j.isLt
abbrev I4 (ca : Ca) (N : Nat) : va_E := .inl (ca.1, N, .inl (fun _ => iI 0))
abbrev L4 (ca : Ca) (N : Nat) : va_E := .inl (ca.2.1, N, .inr (.inl (fun _ => lI 0)))
abbrev O4 (cA : ClassId) (N : Nat) (f : List (Option Nat)) : va_E := .inl (cA, N, .inr (.inr (.inr (.inr (fun j => f.getD j none)))))
/-- the rows of costs -/
theorem gl_mna (C : Cx p s m args c cc nL own ws D ca A) (hO : va_AOA .int s) (h1 : Cond.classLink own index ("[" ++ (FieldType.array .int).toString) ∈ ws) (h2 : Cond.arrayClass .int ∈ ws) (hc : cells + (1 + 4) ≤ R.cells ∧ slots + (4 + 4 * 4) ≤ R.slots) (hd : decode cc pc = .ok (.multianewarray index 2, 4)) (kk : ∀ (q : Nat) (r : Nat → Nat), GW (WL D A (w ++ [(q, O4 ca.2.2.1 4 [some (r 0), some (r 1), some (r 2), some (r 3)]), (r 0, I4 ca 4), (r 1, I4 ca 4), (r 2, I4 ca 4), (r 3, I4 ca 4)])) p l e R s m args below meth c nL A (cells + 1 + 4) (slots + 4 + 4 * 4) Q (pc + 4) lv (.ref q :: st)) : GW (WL D A w) p l e R s m args below meth c nL A cells slots Q pc lv (.int (iI 4) :: .int (iI 4) :: st) := by
  intro H locs ls hw hS hl
  have hcy : s.vm.findClass (FieldType.array .int).toString = some ca.1 := (C.2.2.2.2.2.1.2 0 _ rfl).2
  refine va_mna (X := w) (L := []) (f := fun _ => .inr (0, [])) (N' := 4) (K' := 4) (z := (4, .inl (fun _ => iI 0))) C.1 C.2.1 C.2.2.2.1 (C.2.2.2.2.1 _ h1) hO (C.2.2.2.2.1 _ h2) hcy C.2.2.2.2.2.1 (by rw [show va_pl ([] : List Nat) _ = [] from rfl, List.append_nil]; exact hw.1) (by rw [show va_pl ([] : List Nat) _ = [] from rfl, List.append_nil]; exact hw.2) hS C.2.2.2.2.2.2 (by decide) (by decide) (by decide) (by decide) (by decide) (by decide) (by decide) rfl rfl hc.1 hc.2 (fun cA => by rw [vp_cell_i]; exact arrV_new cA 4 (.int 0)) hd (fun q r cA H1 hinj hr hK1 hP1 hD1 hS1 => ?_)
  have e1 : s.vm.findClass ("[" ++ FieldType.toString (.array .int)) = some cA := (hK1.2 4 _ rfl).2
  have e0 : s.vm.findClass ("[" ++ FieldType.toString (.array .int)) = some ca.2.2.1 := (hK1.2 2 _ rfl).2
  have e2 : cA = ca.2.2.1 := Option.some.inj (e1.symm.trans e0)
  subst e2
  have hrows : va_pl ([] ++ (List.range 4).map r) (vr_up (fun _ => (.inr (0, []) : va_E)) ((List.range 4).map r) (I4 ca 4)) = [(r 0, I4 ca 4), (r 1, I4 ca 4), (r 2, I4 ca 4), (r 3, I4 ca 4)] := by
    unfold va_pl
    rw [List.nil_append, List.map_congr_left (g := fun a => (a, I4 ca 4)) (fun a ha => by rw [vr_up_in ha])]
    rfl
  rw [hrows, List.append_assoc] at hP1 hD1
  refine kk q r H1 locs ls ⟨?_, ?_⟩ hS1 hl
  · intro k x hx
    by_cases hk : k < w.length
    · rw [List.getElem?_append_left hk] at hx
      exact hP1 k x (by rw [List.getElem?_append_left hk]; exact hx)
    · rw [List.getElem?_append_right (by omega)] at hx
      obtain ⟨j, hj⟩ : ∃ j, k - w.length = j := ⟨_, rfl⟩
      rw [hj] at hx
      match j, hx with
      | 0, hx =>
        cases hx
        have h9 := hP1 k _ (by rw [List.getElem?_append_right (by omega), hj]; rfl)
        refine (show H1[q]? = some (vp_cell _ _) from ?_)
        rw [show H1[q]? = _ from h9, vp_cell_q, vp_cell_q]
        refine congrArg some (arrV_ext (fun i hi => ?_))
        rw [if_pos hi]
        match i, hi with
        | 0, _ => rfl
        | 1, _ => rfl
        | 2, _ => rfl
        | 3, _ => rfl
        | i + 4, h9 => exact absurd h9 (by omega)
      | j + 1, hx => exact hP1 k x (by rw [List.getElem?_append_right (by omega), hj]; exact hx)
  · refine va_D.of ?_ ?_
    · have h9 := hD1.pw
      rw [List.pairwise_append] at h9 ⊢
      refine ⟨h9.1, ?_, fun x hx y hy => ?_⟩
      · have h8 := h9.2.1
        simp only [List.singleton_append, List.pairwise_cons] at h8 ⊢
        refine ⟨fun x hx => h8.1 x hx, h8.2⟩
      · rcases List.mem_cons.mp hy with z | z
        · rw [z]
          exact h9.2.2 x hx (q, .inl (ca.2.2.1, 4, .inr (.inr (.inr (.inr (fun i => if i < 4 then some (r i) else none)))))) (List.mem_append_left _ (List.mem_singleton.mpr rfl))
        · exact h9.2.2 x hx y (List.mem_append_right _ z)
    · intro x hx
      rcases List.mem_append.mp hx with z | z
      · obtain ⟨j, hj⟩ := List.getElem?_of_mem (List.mem_append_left ([(q, .inl (ca.2.2.1, 4, .inr (.inr (.inr (.inr (fun i => if i < 4 then some (r i) else none))))))] ++ [(r 0, I4 ca 4), (r 1, I4 ca 4), (r 2, I4 ca 4), (r 3, I4 ca 4)]) z)
        exact hD1.2 j x hj
      · rcases List.mem_cons.mp z with y | y
        · rw [y]
          exact hD1.2 w.length (q, .inl (ca.2.2.1, 4, .inr (.inr (.inr (.inr (fun i => if i < 4 then some (r i) else none)))))) (by rw [List.getElem?_append_right (Nat.le_refl _), Nat.sub_self]; rfl)
        · obtain ⟨j, hj⟩ := List.getElem?_of_mem (List.mem_append_right w (List.mem_append_right [(q, .inl (ca.2.2.1, 4, .inr (.inr (.inr (.inr (fun i => if i < 4 then some (r i) else none))))))] y))
          exact hD1.2 j x hj
/-- the row of shelves -/
theorem gl_newQ (C : Cx p s m args c cc nL own ws D ca A) (hO2 : va_AO "FurrowFair$Shelf" s) (h1 : Cond.classLink own index "FurrowFair$Shelf" ∈ ws) (hc : cells + 1 ≤ R.cells ∧ slots + 8 ≤ R.slots) (hd : decode cc pc = .ok (.anewarray index, 3)) (kk : ∀ q : Nat, GW (WL D A (w ++ [(q, O4 ca.2.2.2 8 [none, none, none, none, none, none, none, none])])) p l e R s m args below meth c nL A (cells + 1) (slots + 8) Q (pc + 3) lv (.ref q :: st)) : GW (WL D A w) p l e R s m args below meth c nL A cells slots Q pc lv (.int (iI 8) :: st) := by
  intro H locs ls hw hS hl
  refine va_newq (N' := 8) C.1 C.2.1 C.2.2.2.1 (C.2.2.2.2.1 _ h1) hO2 C.2.2.2.2.2.1 hw.1 hw.2 hS C.2.2.2.2.2.2 (by decide) (by decide) (by decide) hc.1 hc.2 hd (fun q cA H1 hK1 hP1 hD1 hS1 => ?_)
  obtain ⟨-, -, -, -, -, e1⟩ := (hK1.2 4 _ rfl).2
  obtain ⟨-, -, -, -, -, e0⟩ := (hK1.2 3 _ rfl).2
  have e2 : cA = ca.2.2.2 := Option.some.inj (e1.symm.trans e0)
  subst e2
  have hf : (fun _ : Nat => (none : Option Nat)) = fun j => ([none, none, none, none, none, none, none, none] : List (Option Nat)).getD j none := by
    funext j
    match j with
    | 0 => rfl
    | 1 => rfl
    | 2 => rfl
    | 3 => rfl
    | 4 => rfl
    | 5 => rfl
    | 6 => rfl
    | 7 => rfl
    | j + 8 => rfl
  rw [hf] at hP1 hD1
  exact kk q H1 locs ls ⟨hP1, hD1⟩ hS1 hl
theorem gl_astQ (C : Cx p s m args c cc nL own ws D ca A) {q0 qk a v j : Nat} {f : List (Option Nat)} {vs : List Value} (he : w[q0]? = some (a, O4 ca.2.2.2 8 f)) (hv : w[qk]? = some (v, .inr (8, vs))) (hf : f.length = 8) (hj : j < 8) (hw' : w.set q0 (a, O4 ca.2.2.2 8 (f.set j (some v))) = w') (hd : decode cc pc = .ok (.aastore, 1)) (kk : GW (WL D A w') p l e R s m args below meth c nL A cells slots Q (pc + 1) lv st) : GW (WL D A w) p l e R s m args below meth c nL A cells slots Q pc lv (.ref v :: .int (iI (j : Int)) :: .ref a :: st) := by
  intro H locs ls hw hS hl
  obtain ⟨hx1, hx2⟩ := ix_in (i := (j : Int)) (j := (j : Int)) (N := 8) (s32_of (by omega) (by omega)) (by omega)
  have hx3 : (iI (j : Int)).toNatClampNeg = j := by omega
  refine va_astq (r := (RX8, TX8, 4)) C.1 C.2.1 C.2.2.2.2.2.1 hw.1 hw.2 hS q0 3 qk 8 he rfl hv rfl hx1 hd (fun H1 locs1 hP1 hD1 hS1 => ?_)
  have hu : va_up (fun i => f.getD i none) (iI (j : Int)).toNatClampNeg (some v) = fun i => (f.set j (some v)).getD i none := by
    funext i
    rw [hx3, List.getD_eq_getElem?_getD, List.getElem?_set]
    unfold va_up
    by_cases h : i = j
    · subst h
      rw [if_pos rfl, if_pos rfl, if_pos (by omega)]
      rfl
    · rw [if_neg h, if_neg (fun z => h z.symm)]
      exact List.getD_eq_getElem?_getD
  rw [hu, hw'] at hP1 hD1
  exact kk H1 locs1 ls ⟨hP1, hD1⟩ hS1 hl
theorem gl_perm (hp : w'.Perm w) (kk : GW (WL D A w') p l e R s m args below meth c nL A cells slots Q pc lv st) : GW (WL D A w) p l e R s m args below meth c nL A cells slots Q pc lv st :=
  fun H locs ls hw hS hl => kk H locs ls ⟨hw.1.mem (fun x hx => hp.subset hx), hw.2.perm hp⟩ hS hl
end Gl
