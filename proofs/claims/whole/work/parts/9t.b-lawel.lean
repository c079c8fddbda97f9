/-! BY HAND 23: the law's element: it catches both throws -/
set_option maxRecDepth 20000 in
theorem ggL_element_X11_element : GoodIn wsL_element wsX11_element := goodIn_ca (goodIn_ca (goodIn_r _ [7, 8, 9, 10, 11, 12, 13, 14, 15, 6, 16, 17, 18, 19, 20, 21, 22, 23, 24, 25, 26, 27, 28, 29, 30, 31, 32, 33, 34, 35, 36, 37, 38, 39] (by decide +kernel) (by decide +kernel)) (goodIn_sub (fun _ h => List.mem_cons_of_mem _ (List.mem_append_left _ (List.mem_append_right _ h))) (by decide +kernel))) (goodIn_sub (fun _ h => List.mem_cons_of_mem _ (List.mem_append_right _ h)) (by decide +kernel))
set_option maxRecDepth 20000 in
theorem gL_element_X11_element : GoodIn wsL_element (wsV RL 7 RX11 yX11_element wsX11_element) := goodIn_app (goodIn_of _ (by decide +kernel)) ggL_element_X11_element
theorem dL_element_0 : decode cL_element 0 = .ok (.aload_n 3, 1) := by decide +kernel
theorem dL_element_1 : decode cL_element 1 = .ok (.iconst 0, 1) := by decide +kernel
theorem dL_element_2 : decode cL_element 2 = .ok (.aload_n 0, 1) := by decide +kernel
theorem dL_element_3 : decode cL_element 3 = .ok (.iload_n 1, 1) := by decide +kernel
theorem dL_element_4 : decode cL_element 4 = .ok (.iload_n 2, 1) := by decide +kernel
theorem dL_element_5 : decode cL_element 5 = .ok (.invokevirtual 7, 3) := by decide +kernel
theorem dL_element_8 : decode cL_element 8 = .ok (.lastore, 1) := by decide +kernel
theorem dL_element_9 : decode cL_element 9 = .ok (.goto 11, 3) := by decide +kernel
theorem dL_element_12 : decode cL_element 12 = .ok (.astore 4, 2) := by decide +kernel
theorem dL_element_14 : decode cL_element 14 = .ok (.iconst 1, 1) := by decide +kernel
theorem dL_element_15 : decode cL_element 15 = .ok (.ireturn, 1) := by decide +kernel
theorem dL_element_16 : decode cL_element 16 = .ok (.astore 4, 2) := by decide +kernel
theorem dL_element_18 : decode cL_element 18 = .ok (.iconst 2, 1) := by decide +kernel
theorem dL_element_19 : decode cL_element 19 = .ok (.ireturn, 1) := by decide +kernel
theorem dL_element_20 : decode cL_element 20 = .ok (.iconst 0, 1) := by decide +kernel
theorem dL_element_21 : decode cL_element 21 = .ok (.ireturn, 1) := by decide +kernel
section Gel
variable {p : Program} {l : Launch} {e : Env} {R : Room} {s : State} {m : MethodId} {args : Array Value} {below : List Frame} {meth : Method} {c : Code} {cells slots mc ms : Nat} {Q : State → Prop}
variable {D : va_G} {ca : Ca} {ad : Int → Nat} {A : Nat → Prop} {σ : Mem} {H : Heap} {locs : List Loc}
theorem trG_now {own text cls : String} {k ic sa : Nat} (hcd : ((vx_atS own ic cls ["java/lang/RuntimeException", "java/lang/Exception"]).filter (fun w => !goodWord w)).all isCD = true) (h : TrW A own text cls k ic sa s) (hS : va_S A s.heap H locs) : ∀ U : State, U.heap = H → s.WarmedH U.vm → TrW A own text cls k ic sa U := fun U hU hW => by
  obtain ⟨h1, h2, h3, h4⟩ := h
  refine ⟨?_, ?_, vk_R.warm hW h3, fun w hw => isCD_warm (List.all_eq_true.mp hcd w hw) hW (h4 w hw)⟩
  · rw [hU]
    exact (h1.moved hW.alike).kept hS.2.1
  · rw [hU]
    exact (h2.moved hW.alike).kept hS.2.1
theorem trG_call {own text cls : String} {k ic sa : Nat} (hcd : ((vx_atS own ic cls ["java/lang/RuntimeException", "java/lang/Exception"]).filter (fun w => !goodWord w)).all isCD = true) {a : Array Value} {U : State} {g : JFrame} {mk : MethodId} (h : TrW A own text cls k ic sa U) : TrW A own text cls k ic sa (U.calling g mk a) := by
  obtain ⟨h1, h2, h3, h4⟩ := h
  exact ⟨h1.moved (U := U.calling g mk a) (Vm.Alike.refl U.vm), h2.moved (U := U.calling g mk a) (Vm.Alike.refl U.vm), vk_R.same (U := U.calling g mk a) rfl h3, fun w hw => isCD_same (s := U) (U := U.calling g mk a) (List.all_eq_true.mp hcd w hw) rfl (h4 w hw)⟩
theorem cd_IAE : ((vx_atS RX11 310 IAE ["java/lang/RuntimeException", "java/lang/Exception"]).filter (fun w => !goodWord w)).all isCD = true := by decide +kernel
theorem cd_ISE : ((vx_atS RX11 317 ISE ["java/lang/RuntimeException", "java/lang/Exception"]).filter (fun w => !goodWord w)).all isCD = true := by decide +kernel
/-- what the two throws of element need -/
def TrE (A : Nat → Prop) (sa sb : Nat) (U : State) : Prop := TrW A RX11 "no such shelf" IAE 308 310 sa U ∧ TrW A RX11 "no row, or no such place" ISE 315 317 sb U
theorem trE_now {sa sb : Nat} (h : TrE A sa sb s) (hS : va_S A s.heap H locs) : ∀ U : State, U.heap = H → s.WarmedH U.vm → TrE A sa sb U := fun U hU hW => ⟨trG_now cd_IAE h.1 hS U hU hW, trG_now cd_ISE h.2 hS U hU hW⟩
theorem trE_blind {sa sb : Nat} {vs : List Value} {W : State → Prop} (hW : FrameBlind (va_Pc vs W)) : FrameBlind (va_Pc vs (fun U => W U ∧ TrE A sa sb U)) := fun a U g mk q => by
  obtain ⟨q0, q1, h1, h2⟩ := q
  have w := hW a U g mk ⟨q0, q1⟩
  exact ⟨w.1, w.2, trG_call cd_IAE h1, trG_call cd_ISE h2⟩
def elM (σ : Mem) (v w : Int) : Mem := if elK σ v w = 0 then ups σ 132 0 (s32 (σ (80 + 2 * v + 1) w)) else σ
theorem elM_t {v w : Int} (h : elK σ v w = 0) : elM σ v w = ups σ 132 0 (s32 (σ (80 + 2 * v + 1) w)) := if_pos h
theorem elM_f {v w k : Int} (h : elK σ v w = k) (hk : k ≠ 0) : elM σ v w = σ := if_neg (fun z => hk (h ▸ z))
theorem kL_out : kL 1 132 := ⟨by decide, Or.inr ⟨rfl, by decide⟩⟩
abbrev rm_L_element : Room := { frames := 7, cells := 1, slots := 6, locals := 130 }
theorem mf_L_element (hst : l.stackTraces = false) {v w : Int} {sa sb : Nat} (hv : s32 v = v) (hw : s32 w = w) (hRS : RelS σ) : Met l yL_element wsL_element rm_L_element (va_Pc [.ref (ad 0), .int (iI v), .int (iI w), .ref (ad 132)] (fun U => (Wd D ca ad A σ U ∧ TrE A sa sb U) ∧ va_Nc ISE IAE U)) (Qi D ca ad A (elK σ v w) (elM σ v w)) 1 6 A := by
  refine vx_toMet (vx_ofWH (cc := cL_element) (maxL := 5) (ret := some .int) (hh := [(0, 9, 12, 13), (0, 9, 16, 15)]) (by decide) rfl ?_)
  intro p e s m args below meth c s₁ B hml hv0
  obtain ⟨rfl, ⟨⟨hW, hK, hA⟩, hTr⟩, hNc⟩ := hv0
  have hats := atoms_spec (ws := wsL_element) B.pre
  have C : Cx p s m [Value.ref (ad 0), .int (iI v), .int (iI w), .ref (ad 132)].toArray c cL_element 5 RL wsL_element D ca A := ⟨B.exec, B.bytes, hml, findClass_of_methodNamed B.named, hats, hK, hA⟩
  have htab := vx_table (x := yL_element) B (hats _ List.mem_cons_self)
  have hlk := B.notSynchronized
  have hl := lv_entry [.ref (ad 0), .int (iI v), .int (iI w), .ref (ad 132)] (n := 5) (Nat.le_of_ble_eq_true rfl)
  rw [lg_entry_eq]
  refine (?_ : G p l e rm_L_element s m [Value.ref (ad 0), .int (iI v), .int (iI w), .ref (ad 132)].toArray below meth c 5 D ca ad A 0 0 _ σ 0 [some (.ref (ad 0)), some (.int (iI v)), some (.int (iI w)), some (.ref (ad 132)), none] []) s.heap [] _ hW va_S.rf (lh_of hl (fun i v h => lp_mem.mpr h))
  refine g_aload_n (i := 3) C dL_element_0 rfl rfl ?_
  refine g_iconst C dL_element_1 ?_
  refine g_aload_n (i := 0) C dL_element_2 rfl rfl ?_
  refine g_iload_n (i := 1) C dL_element_3 rfl rfl ?_
  refine g_iload_n (i := 2) C dL_element_4 rfl rfl ?_
  intro H locs ls hw0 hS hl
  obtain ⟨fa, hP, hD, hf⟩ := id hw0
  obtain ⟨q0, hq⟩ := List.getElem?_of_mem ob_X11.1
  have he := wl_at (ca := ca) (ad := ad) (fa := fa) (σ := σ) hq
  rw [ob_X11.2] at he
  have hrc := va_recv C.2.2.2.2.2.1 hP (show vwCl[11]? = some (RX11, TX11, 8) from rfl) he
  refine vx_calll (vx_runV (As := [.int (iI v), .int (iI w)]) (rest := [.int (iI 0), .ref (ad 132)]) ⟨C.1, C.2.1, C.2.2.1, C.2.2.2.1, C.2.2.2.2.1⟩ (v_X11_element (sa := sa) (sb := sb) hst hv hw hRS) (cwV 2 C.2.2.2.2.1 gL_element_X11_element rfl rfl rfl (by decide +kernel) ⟨Nat.le_of_ble_eq_true rfl, Nat.le_of_ble_eq_true rfl⟩) ⟨trE_blind wd_blind, hrc, fun U hU hW => ⟨rfl, (wd_now (vs := [.ref (ad 0), .int (iI v), .int (iI w)]) C hw0 hS U hU hW).2, trE_now hTr hS U hU hW⟩⟩ rfl rfl hl.1 rfl (lv_room (Nat.le_of_ble_eq_true rfl)) dL_element_5 ⟨Nat.le_of_ble_eq_true rfl, Nat.le_of_ble_eq_true rfl⟩) hS (fun _ _ h => h) (fun _ h => h) (fun _ _ h => h) ?_ ?_
  · intro E ce q9 u t1 H1 locs1 ht1 hvm hp hB hz hk1 hS1 hce hcv hcE
    obtain ⟨hEE, hwB⟩ := hB
    rw [ht1] at hwB
    rcases hEE with ⟨rfl, hk⟩ | ⟨rfl, hk⟩
    · refine vx_catch (own := RL) (name := IAE) C.2.2.2.1 [] ⟨0, 9, 12, 13⟩ [⟨0, 9, 16, 15⟩] (by rw [htab]; rfl) (fun z hz => by cases hz) rfl (by decide) (C.2.2.2.2.1 (.classLink RL 13 IAE) (by decide +kernel)) (va_Nw.use rfl (hTr.1.2.2.2 (.castable IAE IAE) (by decide +kernel))) hce hcv hcE ?_
      refine (?_ : G p l e rm_L_element s m [Value.ref (ad 0), .int (iI v), .int (iI w), .ref (ad 132)].toArray below meth c 5 D ca ad A (0 + 1) (0 + 6) _ σ 12 [some (.ref (ad 0)), some (.int (iI v)), some (.int (iI w)), some (.ref (ad 132)), none] [.ref q9]) H1 locs1 ls hwB hS1 hl
      refine g_astore (i := 4) C dL_element_12 (by decide) rfl ?_
      refine g_iconst C dL_element_14 ?_
      intro H locs ls hw hS hl
      exact vx_ret (W.iret C.1 C.2.1 B.returns (fun t ht hW => ⟨⟨_, (), rfl, by rw [hk], by show Wr D ca ad A (elM σ v _) t.heap; rw [elM_f hk (by decide), ht]; exact hw⟩, hS.F ht⟩) hS.2.2 dL_element_15)
    · refine vx_catch (own := RL) (name := ISE) C.2.2.2.1 [⟨0, 9, 12, 13⟩] ⟨0, 9, 16, 15⟩ [] (by rw [htab]; rfl) (fun z hz => by
        rw [List.mem_singleton.mp hz]
        exact Or.inr ⟨by decide, IAE, C.2.2.2.2.1 (.classLink RL 13 IAE) (by decide +kernel), hNc⟩) rfl (by decide) (C.2.2.2.2.1 (.classLink RL 15 ISE) (by decide +kernel)) (va_Nw.use rfl (hTr.2.2.2.2 (.castable ISE ISE) (by decide +kernel))) hce hcv hcE ?_
      refine (?_ : G p l e rm_L_element s m [Value.ref (ad 0), .int (iI v), .int (iI w), .ref (ad 132)].toArray below meth c 5 D ca ad A (0 + 1) (0 + 6) _ σ 16 [some (.ref (ad 0)), some (.int (iI v)), some (.int (iI w)), some (.ref (ad 132)), none] [.ref q9]) H1 locs1 ls hwB hS1 hl
      refine g_astore (i := 4) C dL_element_16 (by decide) rfl ?_
      refine g_iconst C dL_element_18 ?_
      intro H locs ls hw hS hl
      exact vx_ret (W.iret C.1 C.2.1 B.returns (fun t ht hW => ⟨⟨_, (), rfl, by rw [hk], by show Wr D ca ad A (elM σ v _) t.heap; rw [elM_f hk (by decide), ht]; exact hw⟩, hS.F ht⟩) hS.2.2 dL_element_19)
  · intro x u t1 H1 locs1 ht1 hvm hp hB hz hk1 hS1
    obtain ⟨hk, rfl⟩ := hp
    rw [ht1] at hB
    refine (?_ : G p l e rm_L_element s m [Value.ref (ad 0), .int (iI v), .int (iI w), .ref (ad 132)].toArray below meth c 5 D ca ad A (0 + 1) (0 + 6) _ σ 8 [some (.ref (ad 0)), some (.int (iI v)), some (.int (iI w)), some (.ref (ad 132)), none] [.long (lI (s32 (σ (80 + 2 * v + 1) w))), .int (iI 0), .ref (ad 132)]) H1 locs1 ls hB hS1 hl
    refine g_lastore (N := 1) (j := 0) C kL_out dL_element_8 (by decide) (by decide) ?_
    refine g_goto (tgt := 20) C dL_element_9 (by decide) ?_
    refine g_iconst C dL_element_20 ?_
    intro H locs ls hw9 hS hl
    exact vx_ret (W.iret C.1 C.2.1 B.returns (fun t ht hW => ⟨⟨_, (), rfl, by rw [hk], by show Wr D ca ad A (elM σ v w) t.heap; rw [elM_t hk, ht]; exact hw9⟩, hS.F ht⟩) hS.2.2 dL_element_21)
end Gel
