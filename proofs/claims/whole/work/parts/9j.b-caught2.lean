/-! BY HAND 14: caught -/
section Gv2
variable {p : Program} {l : Launch} {e : Env} {R : Room} {s : State} {m : MethodId} {args : Array Value} {below : List Frame} {meth : Method} {c : Code} {cells slots mc ms : Nat} {Q : State → Prop}
variable {D : va_G} {ca : Ca} {ad : Int → Nat} {A : Nat → Prop} {fa : Int → Option Nat} {σ : Mem}
abbrev rm_X2_caught : Room := { frames := 7, cells := 1, slots := 6, locals := 120 }
def toV (σ : Mem) (d : Int) (ci : Nat) : Int := if ci ≠ 5 ∧ s32 (σ (d + 20) 3) < s32 (σ (d + 20) 4) then fvF σ d ci else -15
theorem toV_t {d : Int} {ci : Nat} (h : canF σ d ci) : toV σ d ci = fvF σ d ci := if_pos h
theorem toV_f {d : Int} {ci : Nat} (h : ¬ canF σ d ci) : toV σ d ci = -15 := if_neg h
theorem sel_fail {ci : Nat} {K : String} {T : u_T} (hk : (ci = 0 ∧ K = RX0) ∨ (ci = 1 ∧ K = RX1) ∨ (ci = 2 ∧ K = RX2) ∨ (ci = 5 ∧ K = RX5) ∨ (ci = 9 ∧ K = RX9) ∨ (ci = 10 ∧ K = RX10)) : Cond.selects K yX2_fail yX2_fail ∈ wsCt := by
  rcases hk with ⟨-, rfl⟩ | ⟨-, rfl⟩ | ⟨-, rfl⟩ | ⟨-, rfl⟩ | ⟨-, rfl⟩ | ⟨-, rfl⟩ <;> decide +kernel
theorem mf_X2_caught (hst : l.stackTraces = false) {d : Int} {q ci sa : Nat} {K : String} {T : u_T} (hk : (ci = 0 ∧ K = RX0) ∨ (ci = 1 ∧ K = RX1) ∨ (ci = 2 ∧ K = RX2) ∨ (ci = 5 ∧ K = RX5) ∨ (ci = 9 ∧ K = RX9) ∨ (ci = 10 ∧ K = RX10)) (hcl : vwCl[ci]? = some (K, T, 4)) (hf : fitAt fa σ d q ci) : Met l yX2_caught wsCt rm_X2_caught (va_Pc [.ref q] (fun U => WFd D ca ad A fa σ U ∧ TrW A RX2 "the fit fails" ISE 36 38 sa U)) (QF D ca ad A fa σ (toV σ d ci)) 1 6 A := by
  have hci : ci = 0 ∨ ci = 1 ∨ ci = 2 ∨ ci = 5 ∨ ci = 9 ∨ ci = 10 := by omega
  refine vx_toMet (vx_ofWH (cc := cX2_caught) (maxL := 2) (ret := some .int) (hh := [(0, 6, 7, 34)]) (by decide) rfl ?_)
  intro p e s m args below meth c s₁ B hml hv
  obtain ⟨rfl, ⟨hW, hK, hA⟩, hTr⟩ := hv
  have hats := atoms_spec (ws := wsCt) B.pre
  have C : Cx p s m [Value.ref q].toArray c cX2_caught 2 RX2 wsCt D ca A := ⟨B.exec, B.bytes, hml, findClass_of_methodNamed B.named, hats, hK, hA⟩
  have htab := vx_table (x := yX2_caught) B (hats _ List.mem_cons_self)
  have hlk := B.notSynchronized
  have hl := lv_entry [.ref q] (n := 2) (Nat.le_of_ble_eq_true rfl)
  rw [lg_entry_eq]
  refine (?_ : GW (WF D ca ad A fa σ) p l e rm_X2_caught s m [Value.ref q].toArray below meth c 2 A 0 0 _ 0 [some (.ref q), none] []) s.heap [] _ hW va_S.rf (lh_of hl (fun i v h => lp_mem.mpr h))
  refine gw_aload_n (i := 0) C dX2_caught_0 rfl rfl ?_
  intro H locs ls hw hS hl
  obtain ⟨q0, hq⟩ := fit_in (ca := ca) (ad := ad) hf
  have hrc := va_recv C.2.2.2.2.2.1 hw.1 hcl hq
  have cw : CallW rm_X2_caught s [Value.ref q].toArray RX2 K 41 yX2_fail cX2_fail 1 none wsX2_fail rm_X2_fail 1 6 0 := ⟨⟨rfl, rfl, Nat.le_of_ble_eq_true rfl, Nat.le_of_ble_eq_true rfl, pay_in C.2.2.2.2.1 (gLift ggX2_caught_X2_fail), List.mem_cons_self, C.2.2.2.2.1 _ (by decide +kernel), C.2.2.2.2.1 _ (by decide +kernel), ⟨by decide, by decide⟩, fun sig h => by
    have h2 : (parseMethodDescriptor yX2_fail.desc).map (fun d => d.parameters.length) = some 0 := by decide +kernel
    rw [h] at h2
    exact (Option.some.inj h2).symm, C.2.2.2.2.1 _ (by decide +kernel)⟩, C.2.2.2.2.1 _ (by decide +kernel), C.2.2.2.2.1 _ (sel_fail (T := T) hk)⟩
  refine vx_callv (vx_runV (As := []) (rest := []) ⟨C.1, C.2.1, C.2.2.1, C.2.2.2.1, C.2.2.2.2.1⟩ (vf_X2_fail (sa := sa) hst hci hf) cw ⟨trW_blind wfd_blind, hrc, fun U hU hW => ⟨rfl, (wfd_now (vs := [.ref q]) C hw hS U hU hW).2, trW_now hTr hS U hU hW⟩⟩ rfl rfl hl.1 rfl (lv_room (Nat.le_of_ble_eq_true rfl)) dX2_caught_1 ⟨Nat.le_of_ble_eq_true rfl, Nat.le_of_ble_eq_true rfl⟩) hS (fun _ _ h => h) (fun _ h => h) (fun _ _ h => h) ?_ ?_
  · intro E ce q9 u t1 H1 locs1 ht1 hvm hp hB hz hk1 hS1 hce hcv hcE
    obtain ⟨rfl, hwB⟩ := hB
    rw [ht1] at hwB
    refine vx_catch (own := RX2) (name := ISE) C.2.2.2.1 [] ⟨0, 6, 7, 34⟩ [] (by rw [htab]; rfl) (fun z hz => by cases hz) rfl (by decide) (C.2.2.2.2.1 (.classLink RX2 34 ISE) (by decide +kernel)) (va_Nw.use rfl (hTr.2.2.2 (.castable ISE ISE) (by decide +kernel))) hce hcv hcE ?_
    refine (?_ : GW (WF D ca ad A fa σ) p l e rm_X2_caught s m [Value.ref q].toArray below meth c 2 A (0 + 1) (0 + 6) _ 7 [some (.ref q), none] [.ref q9]) H1 locs1 ls hwB hS1 hl
    refine gw_astore_n (i := 1) C dX2_caught_7 rfl (by decide) rfl ?_
    refine gw_aload_n (i := 0) C dX2_caught_8 rfl rfl ?_
    refine gw_failure C hci hf ⟨Nat.le_of_ble_eq_true rfl, Nat.le_of_ble_eq_true rfl⟩ ⟨Nat.le_of_ble_eq_true rfl, Nat.le_of_ble_eq_true rfl⟩ ?_
    intro H locs ls hw hS hl
    exact vx_ret (W.iret C.1 C.2.1 B.returns (fun t ht hW => ⟨⟨_, (), rfl, by rw [toV_t hp], by show WF D ca ad A fa σ t.heap; rw [ht]; exact hw⟩, hS.F ht⟩) hS.2.2 dX2_caught_12)
  · intro u t1 H1 locs1 ht1 hvm hp hB hz hk1 hS1
    rw [ht1] at hB
    refine (?_ : GW (WF D ca ad A fa σ) p l e rm_X2_caught s m [Value.ref q].toArray below meth c 2 A (0 + 1) (0 + 6) _ 4 [some (.ref q), none] []) H1 locs1 ls hB hS1 hl
    refine gw_bipush C dX2_caught_4 (by decide) ?_
    intro H locs ls hw hS hl
    exact vx_ret (W.iret C.1 C.2.1 B.returns (fun t ht hW => ⟨⟨_, (), rfl, by rw [toV_f hp], by show WF D ca ad A fa σ t.heap; rw [ht]; exact hw⟩, hS.F ht⟩) hS.2.2 dX2_caught_6)
end Gv2
