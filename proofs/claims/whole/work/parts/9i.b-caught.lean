/-! BY HAND 13: a failure, caught -/
def isCD : Cond → Bool
  | .castable _ _ => true
  | .declares _ => true
  | _ => false
theorem isCD_warm {w : Cond} (h : isCD w = true) {s U : State} (hW : s.WarmedH U.vm) (hz : va_Nw w s) : va_Nw w U := by
  cases w <;> first | exact va_Nw.warmC hW hz | exact va_Nw.warmD hW hz | cases h
theorem isCD_same {w : Cond} (h : isCD w = true) {s U : State} (hv : s.vm = U.vm) (hz : va_Nw w s) : va_Nw w U := by
  cases w <;> first | exact va_Nw.same rfl hv hz | cases h
theorem vx_toMet {l : Launch} {y : MethodName} {ws : List Cond} {rm : Room} {Pc : Array Value → State → Prop} {Qc : Array Value → State → Outcome → State → Prop} {mc ms : Nat} {free : Addr → Prop} (h : vx_Met l y ws rm Pc Qc (fun _ _ _ => False) mc ms free) : Met l y ws rm Pc Qc mc ms free := by
  intro p e ha hc hk s m args below hf happ hP ht
  obtain ⟨k, o, h1, h2, h3, hQ⟩ := h p e ha hc hk s m args below hf happ hP ht
  refine ⟨k, o, h1, h2, h3, ?_⟩
  rcases hQ with q | ⟨q, -, E, ce, L, hx, -⟩
  · exact q
  · exact hx.elim
theorem gLift {a b ws : List Cond} (g : GoodIn a ws) : GoodIn (a ++ b) ws := fun w h => ⟨List.mem_append_left _ (g w h).1, (g w h).2⟩
def wsCt : List Cond := wsX2_caught ++ [.methodLink RX10 11 ⟨RX0, "failure", "()I"⟩, .sameMethod RX0 RX2 "failure" "()I", .superclass RX10 RX0, .superclass RX0 RX2]
section Gu
variable {p : Program} {l : Launch} {e : Env} {R : Room} {s : State} {m : MethodId} {args : Array Value} {below : List Frame} {meth : Method} {c : Code} {cells slots mc ms : Nat} {Q : State → Prop}
variable {cc : ByteArray} {own : String} {ws : List Cond} {nL : Nat} {D : va_G} {ca : Ca} {ad : Int → Nat} {A : Nat → Prop} {WR W0 W1 : Heap → Prop} {fa : Int → Option Nat} {σ σ' : Mem}
variable {pc i index : Nat} {lv : List (Option Value)} {st : List Value} {H : Heap} {locs : List Loc}
theorem trW_cd : ((vx_atS RX2 38 ISE ["java/lang/RuntimeException", "java/lang/Exception"]).filter (fun w => !goodWord w)).all isCD = true := by decide +kernel
theorem trW_now {sa : Nat} (h : TrW A RX2 "the fit fails" ISE 36 38 sa s) (hS : va_S A s.heap H locs) : ∀ U : State, U.heap = H → s.WarmedH U.vm → TrW A RX2 "the fit fails" ISE 36 38 sa U := fun U hU hW => by
  obtain ⟨h1, h2, h3, h4⟩ := h
  refine ⟨?_, ?_, vk_R.warm hW h3, fun w hw => isCD_warm (List.all_eq_true.mp trW_cd w hw) hW (h4 w hw)⟩
  · rw [hU]
    exact (h1.moved hW.alike).kept hS.2.1
  · rw [hU]
    exact (h2.moved hW.alike).kept hS.2.1
theorem trW_blind {sa : Nat} {vs : List Value} {W : State → Prop} (hW : FrameBlind (va_Pc vs W)) : FrameBlind (va_Pc vs (fun U => W U ∧ TrW A RX2 "the fit fails" ISE 36 38 sa U)) := fun a U g mk q => by
  obtain ⟨q0, q1, h1, h2, h3, h4⟩ := q
  have w := hW a U g mk ⟨q0, q1⟩
  exact ⟨w.1, w.2, h1.moved (U := U.calling g mk a) (Vm.Alike.refl U.vm), h2.moved (U := U.calling g mk a) (Vm.Alike.refl U.vm), vk_R.same (U := U.calling g mk a) rfl h3, fun w hw => isCD_same (s := U) (U := U.calling g mk a) (List.all_eq_true.mp trW_cd w hw) rfl (h4 w hw)⟩
/-- the failure's number, by the kind -/
def fvF (σ : Mem) (d : Int) (ci : Nat) : Int := if ci = 1 then σ (d + 20) 2 else if ci = 10 then σ (d + 20) 1 + 1000 else σ (d + 20) 1
theorem gw_failure (C : Cx p s m args c cX2_caught nL RX2 wsCt D ca A) {d : Int} {q ci : Nat} (hci : ci = 0 ∨ ci = 1 ∨ ci = 2 ∨ ci = 5 ∨ ci = 9 ∨ ci = 10) (hf : fitAt fa σ d q ci) (hR : 3 ≤ R.frames ∧ 52 ≤ R.locals) (hcs : cells ≤ R.cells ∧ slots ≤ R.slots) (kk : GW (WF D ca ad A fa σ) p l e R s m args below meth c nL A cells slots Q 12 lv [.int (iI (fvF σ d ci))]) : GW (WF D ca ad A fa σ) p l e R s m args below meth c nL A cells slots Q 9 lv [.ref q] := by
  have hR2 : 1 + 1 ≤ R.frames ∧ 8 + (1 + 11) + 12 ≤ R.locals := by omega
  have hR3 : 2 + 1 ≤ R.frames ∧ 8 + (1 + 11) + 32 ≤ R.locals := by omega
  rcases hci with rfl | rfl | rfl | rfl | rfl | rfl
  · exact gw_callU (rest := []) C (cf_X2_failure fk0 (by decide +kernel) hf) (va_cwU 0 C.2.2.2.2.1 (gLift gX2_caught_X2_failure_u44X0) rfl rfl rfl rfl ⟨by decide, by decide, by decide +kernel⟩ hR2) hf fk0.1 (Nat.le_of_ble_eq_true rfl) dX2_caught_9 hcs kk
  · exact gw_callU (rest := []) C (cf_X1_failure hf) (va_cwO 0 C.2.2.2.2.1 (gLift gX2_caught_X1_failure_u44X1) rfl rfl rfl (b0 := cX2_failure) (m0 := 1) (r0 := some .int) (by decide +kernel) ⟨by decide, by decide, by decide +kernel⟩ hR2) hf fk1.1 (Nat.le_of_ble_eq_true rfl) dX2_caught_9 hcs kk
  · exact gw_callV (rest := []) C (cf_X2_failure fk2 (by decide +kernel) hf) (cwV 0 C.2.2.2.2.1 (gLift gX2_caught_X2_failure) rfl rfl rfl (by decide +kernel) hR2) hf fk2.1 (Nat.le_of_ble_eq_true rfl) dX2_caught_9 hcs kk
  · exact gw_callU (rest := []) C (cf_X2_failure fk5 (by decide +kernel) hf) (va_cwU 0 C.2.2.2.2.1 (gLift gX2_caught_X2_failure_u44X5) rfl rfl rfl rfl ⟨by decide, by decide, by decide +kernel⟩ hR2) hf fk5.1 (Nat.le_of_ble_eq_true rfl) dX2_caught_9 hcs kk
  · exact gw_callU (rest := []) C (cf_X2_failure fk9 (by decide +kernel) hf) (va_cwU 0 C.2.2.2.2.1 (gLift gX2_caught_X2_failure_u44X9) rfl rfl rfl rfl ⟨by decide, by decide, by decide +kernel⟩ hR2) hf fk9.1 (Nat.le_of_ble_eq_true rfl) dX2_caught_9 hcs kk
  · exact gw_callU (rest := []) C (cf_X10_failure hf) (va_cwO (owner := RX2) (x := ⟨RX2, "failure", "()I"⟩) 0 C.2.2.2.2.1 (goodIn_of _ (by decide +kernel)) rfl rfl rfl (b0 := cX2_failure) (m0 := 1) (r0 := some .int) (by decide +kernel) ⟨by decide, by decide, by decide +kernel⟩ hR3) hf fk10.1 (Nat.le_of_ble_eq_true rfl) dX2_caught_9 hcs kk
end Gu
