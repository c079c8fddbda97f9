/-! BY HAND 1: a kept fit: its world, its readers -/
section Fw
variable {p : Program} {l : Launch} {e : Env} {R : Room} {s : State} {m : MethodId} {args : Array Value} {below : List Frame} {meth : Method} {c : Code} {cells slots : Nat} {Q : State → Prop}
variable {cc : ByteArray} {own : String} {ws : List Cond} {nL : Nat} {D : va_G} {ca : Ca} {ad : Int → Nat} {A : Nat → Prop} {fa : Int → Option Nat} {σ : Mem}
variable {pc i index : Nat} {lv : List (Option Value)} {st : List Value} {WR : Heap → Prop}
/-- the walk, over a world of any kind -/
def GW (WR : Heap → Prop) (p : Program) (l : Launch) (e : Env) (R : Room) (s : State) (m : MethodId) (args : Array Value) (below : List Frame) (meth : Method) (c : Code) (nL : Nat) (A : Nat → Prop) (cells slots : Nat) (Q : State → Prop) (pc : Nat) (lv : List (Option Value)) (st : List Value) : Prop :=
  ∀ (H : Heap) (locs : List Loc) (ls : Array Slot), WR H → va_S A s.heap H locs → lh ls nL lv → W p l e R s m args below meth c H locs cells slots Q (F0 m pc ls st)
theorem gw_iconst (C : Cx p s m args c cc nL own ws D ca A) {n : Int} (hd : decode cc pc = .ok (.iconst n, 1)) (k : GW WR p l e R s m args below meth c nL A cells slots Q (pc + 1) lv (.int (iI n) :: st)) : GW WR p l e R s m args below meth c nL A cells slots Q pc lv st :=
  fun H locs ls hw hS hl => lv_iconst (v := iI n) C.1 C.2.1 hd rfl (k H locs ls hw hS hl)
theorem gw_bipush (C : Cx p s m args c cc nL own ws D ca A) {n : Int} (hd : decode cc pc = .ok (.bipush n, 2)) (hv : (Int8.ofInt n).toInt32 = iI n) (k : GW WR p l e R s m args below meth c nL A cells slots Q (pc + 2) lv (.int (iI n) :: st)) : GW WR p l e R s m args below meth c nL A cells slots Q pc lv st :=
  fun H locs ls hw hS hl => lv_bipush C.1 C.2.1 hd hv (k H locs ls hw hS hl)
theorem gw_sipush (C : Cx p s m args c cc nL own ws D ca A) {n : Int} (hd : decode cc pc = .ok (.sipush n, 3)) (hv : (Int16.ofInt n).toInt32 = iI n) (k : GW WR p l e R s m args below meth c nL A cells slots Q (pc + 3) lv (.int (iI n) :: st)) : GW WR p l e R s m args below meth c nL A cells slots Q pc lv st :=
  fun H locs ls hw hS hl => lv_sipush C.1 C.2.1 hd hv (k H locs ls hw hS hl)
theorem gw_aload_n (C : Cx p s m args c cc nL own ws D ca A) {i : Nat} {j : Fin 4} {z : Nat} (hd : decode cc pc = .ok (.aload_n j, 1)) (hj : (j : Nat) = i) (hz : lv[i]? = some (some (.ref z))) (k : GW WR p l e R s m args below meth c nL A cells slots Q (pc + 1) lv (.ref z :: st)) : GW WR p l e R s m args below meth c nL A cells slots Q pc lv st :=
  fun H locs ls hw hS hl => lv_aload_n C.1 C.2.1 hd hj (hl.2.2 _ _ hz) (k H locs ls hw hS hl)
theorem gw_iadd (C : Cx p s m args c cc nL own ws D ca A) {a b : Int} (hd : decode cc pc = .ok (.iadd, 1)) (k : GW WR p l e R s m args below meth c nL A cells slots Q (pc + 1) lv (.int (iI (a + b)) :: st)) : GW WR p l e R s m args below meth c nL A cells slots Q pc lv (.int (iI b) :: .int (iI a) :: st) :=
  fun H locs ls hw hS hl => lv_iadd C.1 C.2.1 hd ((iI_add a b).symm ▸ (k H locs ls hw hS hl))
theorem gw_imul (C : Cx p s m args c cc nL own ws D ca A) {a b : Int} (hd : decode cc pc = .ok (.imul, 1)) (k : GW WR p l e R s m args below meth c nL A cells slots Q (pc + 1) lv (.int (iI (a * b)) :: st)) : GW WR p l e R s m args below meth c nL A cells slots Q pc lv (.int (iI b) :: .int (iI a) :: st) :=
  fun H locs ls hw hS hl => lv_imul C.1 C.2.1 hd ((iI_mul a b).symm ▸ (k H locs ls hw hS hl))
theorem gw_goto (C : Cx p s m args c cc nL own ws D ca A) {off : Int} {tgt : Nat} (hd : decode cc pc = .ok (.goto off, 3)) (ht : (pc : Int) + off = (tgt : Int)) (k : GW WR p l e R s m args below meth c nL A cells slots Q tgt lv st) : GW WR p l e R s m args below meth c nL A cells slots Q pc lv st :=
  fun H locs ls hw hS hl => lv_goto C.1 C.2.1 hd ht (k H locs ls hw hS hl)
theorem gw_icmp_ge (C : Cx p s m args c cc nL own ws D ca A) {a b a' b' off : Int} {tgt : Nat} (hd : decode cc pc = .ok (.if_icmp .ge off, 3)) (ht : (pc : Int) + off = (tgt : Int)) (ha : s32 a = a') (hb : s32 b = b') (kt : b' ≤ a' → GW WR p l e R s m args below meth c nL A cells slots Q tgt lv st) (kf : ¬ (b' ≤ a') → GW WR p l e R s m args below meth c nL A cells slots Q (pc + 3) lv st) : GW WR p l e R s m args below meth c nL A cells slots Q pc lv (.int (iI b) :: .int (iI a) :: st) := by
  intro H locs ls hw hS hl
  subst ha; subst hb
  exact lv_icmp_ge C.1 C.2.1 hd ht (fun h => kt ((iI_le b a).mp h) H locs ls hw hS hl) (fun h => kf (fun q => h ((iI_le b a).mpr q)) H locs ls hw hS hl)
theorem gw_if_eq (C : Cx p s m args c cc nL own ws D ca A) {a a' off : Int} {tgt : Nat} (hd : decode cc pc = .ok (.ifCond .eq off, 3)) (ht : (pc : Int) + off = (tgt : Int)) (ha : s32 a = a') (kt : a' = 0 → GW WR p l e R s m args below meth c nL A cells slots Q tgt lv st) (kf : ¬ (a' = 0) → GW WR p l e R s m args below meth c nL A cells slots Q (pc + 3) lv st) : GW WR p l e R s m args below meth c nL A cells slots Q pc lv (.int (iI a) :: st) := by
  intro H locs ls hw hS hl
  subst ha
  have hi := iI_eq a 0
  rw [s32_0, iI_0] at hi
  exact lv_if_eq C.1 C.2.1 hd ht (fun h => kt (hi.mp h) H locs ls hw hS hl) (fun h => kf (fun q => h (hi.mpr q)) H locs ls hw hS hl)
/-- the world, with the places of the fits -/
def WF (D : va_G) (ca : Ca) (ad : Int → Nat) (A : Nat → Prop) (fa : Int → Option Nat) (σ : Mem) (H : Heap) : Prop := va_P D vwCl (wl ca ad fa σ) H ∧ va_D A (wl ca ad fa σ) ∧ fok fa σ
def WFd (D : va_G) (ca : Ca) (ad : Int → Nat) (A : Nat → Prop) (fa : Int → Option Nat) (σ : Mem) (U : State) : Prop := WF D ca ad A fa σ U.heap ∧ va_K D vwCl (tysOf ca) U ∧ ∀ q : Nat, U.heap.size ≤ q → A q
theorem wfd_blind {vs : List Value} : FrameBlind (va_Pc vs (WFd D ca ad A fa σ)) := fun a U g mk q => by
  obtain ⟨q0, q1, q2, q3⟩ := q
  exact ⟨q0, q1, va_K.moved (u := U) (U := U.calling g mk a) (Vm.Alike.refl U.vm) q2, q3⟩
theorem wfd_now {H : Heap} {locs : List Loc} {vs : List Value} (C : Cx p s m args c cc nL own ws D ca A) (hw : WF D ca ad A fa σ H) (hS : va_S A s.heap H locs) : ∀ U : State, U.heap = H → s.WarmedH U.vm → va_Pc vs (WFd D ca ad A fa σ) vs.toArray U := fun U hU hW => ⟨rfl, by rw [hU]; exact hw, va_K.moved hW.alike C.2.2.2.2.2.1, fun q hq => C.2.2.2.2.2.2 q (by rw [hU] at hq; exact Nat.le_trans hS.1 hq)⟩
/-- a method of a fit: it answers r, and nothing is written -/
def CF (l : Launch) (D : va_G) (ca : Ca) (ad : Int → Nat) (A : Nat → Prop) (fa : Int → Option Nat) (σ : Mem) (y : MethodName) (ws : List Cond) (rm : Room) (q : Nat) (r : Int) : Prop := Met l y ws rm (va_Pc [.ref q] (WFd D ca ad A fa σ)) (va_Qi (fun (x : Int32) (_ : Unit) => x = iI r) (fun _ t => WF D ca ad A fa σ t.heap) A) 0 0 A
abbrev QF (D : va_G) (ca : Ca) (ad : Int → Nat) (A : Nat → Prop) (fa : Int → Option Nat) (σ : Mem) (r : Int) : Array Value → State → Outcome → State → Prop := va_Qi (fun (x : Int32) (_ : Unit) => x = iI r) (fun _ t => WF D ca ad A fa σ t.heap) A
theorem cf_i {y : MethodName} {ws' : List Cond} {rm : Room} {maxL : Nat} {ret : Option FieldType} {q : Nat} {lv0 : List (Option Value)} {r : Int} (hy : plainName y.cls = true) (hw : ws = Cond.code y cc maxL ret :: ws') (hown : y.cls = own) (hlv : lp lv0 = lv_args 0 [.ref q]) (hlen : (lg_sl [.ref q]).length ≤ maxL)
    (body : ∀ (p : Program) (e : Env) (s : State) (m : MethodId) (below : List Frame) (meth : Method) (c : Code), Cx p s m [.ref q].toArray c cc maxL own ws D ca A → meth.sig.returnType = ret → meth.locks = false → GW (WF D ca ad A fa σ) p l e rm s m [.ref q].toArray below meth c maxL A 0 0 (MQ below (QF D ca ad A fa σ r) [.ref q].toArray s 0 0 A) 0 lv0 []) : CF l D ca ad A fa σ y ws rm q r := by
  refine Met.ofW (cc := cc) (maxL := maxL) (ret := ret) hy hw ?_
  intro p e s m args below meth c s₁ B hml hv
  obtain ⟨rfl, hW, hK, hA⟩ := hv
  have C : Cx p s m [.ref q].toArray c cc maxL own ws D ca A := ⟨B.exec, B.bytes, hml, hown ▸ findClass_of_methodNamed B.named, atoms_spec (ws := ws) B.pre, hK, hA⟩
  have hl := lv_entry [.ref q] (n := maxL) hlen
  rw [lg_entry_eq]
  exact body p e s m below meth c C B.returns B.notSynchronized s.heap [] _ hW va_S.rf (lh_of hl (fun i v h => by rw [← hlv]; exact lp_mem.mpr h))
theorem gw_iret (C : Cx p s m args c cc nL own ws D ca A) {r r' : Int} (hr : meth.sig.returnType = some .int) (hlk : meth.locks = false) (e1 : r' = r) (hd : decode cc pc = .ok (.ireturn, 1)) : GW (WF D ca ad A fa σ) p l e R s m args below meth c nL A 0 0 (MQ below (QF D ca ad A fa σ r) args s 0 0 A) pc lv [.int (iI r')] := by
  intro H locs ls hw hS hl
  subst e1
  exact W.iret C.1 C.2.1 hr (fun t ht hW => ⟨⟨_, (), rfl, rfl, by show WF D ca ad A fa σ t.heap; rw [ht]; exact hw⟩, hS.F ht⟩) hS.2.2 hd
theorem gw_zret (C : Cx p s m args c cc nL own ws D ca A) {r r' : Int} (hr : meth.sig.returnType = some .boolean) (hlk : meth.locks = false) (hz : s32 r' = 0 ∨ s32 r' = 1) (e1 : r' = r) (hd : decode cc pc = .ok (.ireturn, 1)) : GW (WF D ca ad A fa σ) p l e R s m args below meth c nL A 0 0 (MQ below (QF D ca ad A fa σ r) args s 0 0 A) pc lv [.int (iI r')] := by
  intro H locs ls hw hS hl
  subst e1
  exact W.zret C.1 C.2.1 hr (nz_of hz) (fun t ht hW => ⟨⟨_, (), rfl, rfl, by show WF D ca ad A fa σ t.heap; rw [ht]; exact hw⟩, hS.F ht⟩) hS.2.2 hd
/-- the fit on shelf d stands at q -/
def fitAt (fa : Int → Option Nat) (σ : Mem) (d : Int) (q : Nat) (ci : Nat) : Prop := d ∈ SL ∧ fa d = some q ∧ kc (σ (d + 20) 0) = ci
theorem fit_in {d : Int} {q ci : Nat} (h : fitAt fa σ d q ci) : ∃ q0 : Nat, (wl ca ad fa σ)[q0]? = some ((q, Sum.inr (ci, [.int (iI (σ (d + 20) 1)), .int (iI (σ (d + 20) 2)), .int (iI (σ (d + 20) 3)), .int (iI (σ (d + 20) 4))])) : Nat × va_E) := by
  obtain ⟨h1, h2, h3⟩ := h
  refine List.getElem?_of_mem ?_
  unfold wl
  refine List.mem_append_right _ (List.mem_filterMap.mpr ⟨d, h1, ?_⟩)
  rw [h2, ← h3]
  rfl
theorem gw_get (C : Cx p s m args c cc nL own ws D ca A) {d : Int} {q ci N k : Nat} {K ref : String} {T : u_T} {v : Value} (hf : fitAt fa σ d q ci) (hc : vwCl[ci]? = some (K, T, N)) (hin : ∀ w ∈ u_ws K T N, w ∈ ws) (hk : k < N) (hi : ws[i]? = some (.fieldLink own index ref (T k).2.1 (T k).2.2.1)) (hsame : ref = (T k).1 ∨ ∃ j : Nat, ws[j]? = some (.sameField ref (T k).1 (T k).2.1 (T k).2.2.1)) (hv : ([.int (iI (σ (d + 20) 1)), .int (iI (σ (d + 20) 2)), .int (iI (σ (d + 20) 3)), .int (iI (σ (d + 20) 4))] : List Value)[k]? = some v) (hd : decode cc pc = .ok (.getfield index, 3)) (kk : GW (WF D ca ad A fa σ) p l e R s m args below meth c nL A cells slots Q (pc + 3) lv (v :: st)) : GW (WF D ca ad A fa σ) p l e R s m args below meth c nL A cells slots Q pc lv (.ref q :: st) := by
  intro H locs ls hw hS hl
  obtain ⟨q0, hq⟩ := fit_in (ca := ca) (ad := ad) hf
  rcases hsame with h | ⟨j, hj⟩
  · subst h
    exact va_get C.1 C.2.1 C.2.2.2.2.1 hin C.2.2.2.1 C.2.2.2.2.2.1 hw.1 q0 hq hc k hk (C.wd hi) (fun _ h9 => h9) hv hd (kk H locs ls hw hS hl)
  · exact va_get C.1 C.2.1 C.2.2.2.2.1 hin C.2.2.2.1 C.2.2.2.2.2.1 hw.1 q0 hq hc k hk (C.wd hi) (fun x9 h9 => u_same (C.wd hj) x9 h9) hv hd (kk H locs ls hw hS hl)
end Fw
