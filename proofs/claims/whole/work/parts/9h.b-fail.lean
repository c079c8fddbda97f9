/-! BY HAND 12: a fit that fails -/
section Gt
variable {p : Program} {l : Launch} {e : Env} {R : Room} {s : State} {m : MethodId} {args : Array Value} {below : List Frame} {meth : Method} {c : Code} {cells slots mc ms : Nat} {Q : State → Prop}
variable {cc : ByteArray} {own : String} {ws : List Cond} {nL : Nat} {D : va_G} {ca : Ca} {ad : Int → Nat} {A : Nat → Prop} {WR W0 W1 : Heap → Prop} {fa : Int → Option Nat} {σ σ' : Mem}
variable {pc i index : Nat} {lv : List (Option Value)} {st : List Value} {H : Heap} {locs : List Loc}
/-- what a throw needs beside its method's words -/
def TrW (A : Nat → Prop) (own text cls : String) (k ic sa : Nat) (U : State) : Prop := vx_Zq Bundle.tN "UNASSIGNED_STACK" Bundle.steD A U U.heap ∧ vx_Zq Bundle.tN "SUPPRESSED_SENTINEL" Bundle.listD A U U.heap ∧ vk_R own k text sa U ∧ ∀ w ∈ (vx_atS own ic cls ["java/lang/RuntimeException", "java/lang/Exception"]).filter (fun w => !goodWord w), va_Nw w U
abbrev ISE : String := "java/lang/IllegalStateException"
def canF (σ : Mem) (d : Int) (ci : Nat) : Prop := ci ≠ 5 ∧ s32 (σ (d + 20) 3) < s32 (σ (d + 20) 4)
abbrev rm_X2_fail : Room := { frames := 6, cells := 1, slots := 6, locals := 90 }
theorem gw_can (C : Cx p s m args c cX2_fail nL RX2 wsX2_fail D ca A) {d : Int} {q ci : Nat} (hci : ci = 0 ∨ ci = 1 ∨ ci = 2 ∨ ci = 5 ∨ ci = 9 ∨ ci = 10) (hf : fitAt fa σ d q ci) (hR : 2 ≤ R.frames ∧ 32 ≤ R.locals) (hcs : cells ≤ R.cells ∧ slots ≤ R.slots) (kk : ∀ r : Int, (r = 0 ∧ ¬ canF σ d ci) ∨ (r = 1 ∧ canF σ d ci) → GW (WF D ca ad A fa σ) p l e R s m args below meth c nL A cells slots Q 4 lv [.int (iI r)]) : GW (WF D ca ad A fa σ) p l e R s m args below meth c nL A cells slots Q 1 lv [.ref q] := by
  have k2 : ∀ x : Nat, x ≠ 5 → ci = x → ((if s32 (σ (d + 20) 3) < s32 (σ (d + 20) 4) then (1 : Int) else 0) = 0 ∧ ¬ canF σ d ci) ∨ ((if s32 (σ (d + 20) 3) < s32 (σ (d + 20) 4) then (1 : Int) else 0) = 1 ∧ canF σ d ci) := fun x hx hxe => by
    by_cases z : s32 (σ (d + 20) 3) < s32 (σ (d + 20) 4)
    · exact Or.inr ⟨if_pos z, by rw [hxe]; exact hx, z⟩
    · exact Or.inl ⟨if_neg z, fun w => z w.2⟩
  rcases hci with rfl | rfl | rfl | rfl | rfl | rfl
  · exact gw_callU (rest := []) C (cf_X2_canFail fk0 (by decide +kernel) hf) (va_cwU 0 C.2.2.2.2.1 gX2_fail_X2_canFail_u30X0 rfl rfl rfl rfl ⟨by decide, by decide, by decide +kernel⟩ hR) hf fk0.1 (Nat.le_of_ble_eq_true rfl) dX2_fail_1 hcs (kk _ (k2 0 (by decide) rfl))
  · exact gw_callU (rest := []) C (cf_X2_canFail fk1 (by decide +kernel) hf) (va_cwU 0 C.2.2.2.2.1 gX2_fail_X2_canFail_u30X1 rfl rfl rfl rfl ⟨by decide, by decide, by decide +kernel⟩ hR) hf fk1.1 (Nat.le_of_ble_eq_true rfl) dX2_fail_1 hcs (kk _ (k2 1 (by decide) rfl))
  · exact gw_callV (rest := []) C (cf_X2_canFail fk2 (by decide +kernel) hf) (cwV 0 C.2.2.2.2.1 gX2_fail_X2_canFail rfl rfl rfl (by decide +kernel) hR) hf fk2.1 (Nat.le_of_ble_eq_true rfl) dX2_fail_1 hcs (kk _ (k2 2 (by decide) rfl))
  · exact gw_callU (rest := []) C cf_X5_canFail (va_cwO 0 C.2.2.2.2.1 gX2_fail_X5_canFail_u30X5 rfl rfl rfl (b0 := cX2_canFail) (m0 := 1) (r0 := some .boolean) (by decide +kernel) ⟨by decide, by decide, by decide +kernel⟩ hR) hf fk5.1 (Nat.le_of_ble_eq_true rfl) dX2_fail_1 hcs (kk 0 (Or.inl ⟨rfl, fun w => w.1 rfl⟩))
  · exact gw_callU (rest := []) C (cf_X2_canFail fk9 (by decide +kernel) hf) (va_cwU 0 C.2.2.2.2.1 gX2_fail_X2_canFail_u30X9 rfl rfl rfl rfl ⟨by decide, by decide, by decide +kernel⟩ hR) hf fk9.1 (Nat.le_of_ble_eq_true rfl) dX2_fail_1 hcs (kk _ (k2 9 (by decide) rfl))
  · exact gw_callU (rest := []) C (cf_X2_canFail fk10 (by decide +kernel) hf) (va_cwU 0 C.2.2.2.2.1 gX2_fail_X2_canFail_u30X10 rfl rfl rfl rfl ⟨by decide, by decide, by decide +kernel⟩ hR) hf fk10.1 (Nat.le_of_ble_eq_true rfl) dX2_fail_1 hcs (kk _ (k2 10 (by decide) rfl))
abbrev QFv (D : va_G) (ca : Ca) (ad : Int → Nat) (A : Nat → Prop) (fa : Int → Option Nat) (σ : Mem) (P : Prop) : Array Value → State → Outcome → State → Prop := va_Qv (fun (_ : Unit) => P) (fun _ t => WF D ca ad A fa σ t.heap) A
abbrev XFv (D : va_G) (ca : Ca) (ad : Int → Nat) (A : Nat → Prop) (fa : Int → Option Nat) (σ : Mem) (X : String) (P : Prop) : String → State → State → Prop := vx_X (fun (_ : Unit) => P) (fun E _ t => E = X ∧ WF D ca ad A fa σ t.heap) A
theorem vf_X2_fail (hst : l.stackTraces = false) {d : Int} {q ci sa : Nat} (hci : ci = 0 ∨ ci = 1 ∨ ci = 2 ∨ ci = 5 ∨ ci = 9 ∨ ci = 10) (hf : fitAt fa σ d q ci) : vx_Met l yX2_fail wsX2_fail rm_X2_fail (va_Pc [.ref q] (fun U => WFd D ca ad A fa σ U ∧ TrW A RX2 "the fit fails" ISE 36 38 sa U)) (QFv D ca ad A fa σ (¬ canF σ d ci)) (XFv D ca ad A fa σ ISE (canF σ d ci)) 1 6 A := by
  refine vx_ofW (cc := cX2_fail) (maxL := 1) (ret := none) (by decide) rfl ?_
  intro p e s m args below meth c s₁ B hml htab hv
  obtain ⟨rfl, ⟨hW, hK, hA⟩, hU, hN, hR, hB⟩ := hv
  have C : Cx p s m [Value.ref q].toArray c cX2_fail 1 RX2 wsX2_fail D ca A := ⟨B.exec, B.bytes, hml, findClass_of_methodNamed B.named, atoms_spec (ws := wsX2_fail) B.pre, hK, hA⟩
  have hlk := B.notSynchronized
  have hl := lv_entry [.ref q] (n := 1) (Nat.le_of_ble_eq_true rfl)
  rw [lg_entry_eq]
  refine (?_ : GW (WF D ca ad A fa σ) p l e rm_X2_fail s m [Value.ref q].toArray below meth c 1 A 0 0 _ 0 [some (.ref q)] []) s.heap [] _ hW va_S.rf (lh_of hl (fun i v h => lp_mem.mpr h))
  refine gw_aload_n (i := 0) C dX2_fail_0 rfl rfl ?_
  refine gw_can C hci hf ⟨Nat.le_of_ble_eq_true rfl, Nat.le_of_ble_eq_true rfl⟩ ⟨Nat.zero_le _, Nat.zero_le _⟩ (fun r hr => ?_)
  refine gw_if_eq (tgt := 17) C dX2_fail_4 (by decide) rfl (fun z => ?_) (fun z => ?_)
  · have hn : ¬ canF σ d ci := by
      rcases hr with ⟨-, h⟩ | ⟨h, -⟩
      · exact h
      · rw [h] at z
        exact absurd z (by decide)
    intro H locs ls hw hS hl
    exact vx_ret (W.widen (Nat.zero_le _) (Nat.zero_le _) (W.vret C.1 C.2.1 B.returns (fun t ht hW => ⟨⟨(), rfl, hn, by show WF D ca ad A fa σ t.heap; rw [ht]; exact hw⟩, hS.F ht⟩) hS.2.2 dX2_fail_17))
  · have hn : canF σ d ci := by
      rcases hr with ⟨h, -⟩ | ⟨-, h⟩
      · rw [h] at z
        exact absurd s32_0 z
      · exact h
    intro H locs ls hw hS hl
    refine vx_throwS (own := RX2) (cls := ISE) (text := "the fit fails") (names := ["java/lang/RuntimeException", "java/lang/Exception"]) (ik := 34) (is := 36) (ic := 38) (A := A) (sa := sa) C.1 C.2.1 hst C.2.2.2.1 (by decide +kernel) (by decide +kernel) (C.wd (i := 1) rfl) (C.wd (i := 2) rfl) hR (vx_hat (fun w h => C.2.2.2.2.1 w (List.mem_cons_of_mem _ (List.mem_append_right _ h))) (fun w h => h) (fun w h => va_Nw.use ((by decide +kernel : ∀ w ∈ (vx_atS RX2 38 ISE ["java/lang/RuntimeException", "java/lang/Exception"]).filter (fun w => !goodWord w), w.onTables = true) w h) (hB w h))) (by decide +kernel) hU hN hS (hl.1.trans C.2.2.1.symm) dX2_fail_7 dX2_fail_10 dX2_fail_11 dX2_fail_13 dX2_fail_16 (fun x hx => (htab x hx).elim) (Nat.le_of_ble_eq_true rfl) (Nat.le_of_ble_eq_true rfl) (Nat.le_of_ble_eq_true rfl) (Nat.le_of_ble_eq_true rfl) hlk (fun t hvm hz hq => ⟨(), hn, ⟨rfl, hw.1.kept (fun j x hx => hq x.1 ((hw.1 j x hx).lt)), hw.2⟩, Nat.le_trans hS.1 hz, fun x h1 h2 => (hq x (Nat.lt_of_lt_of_le h1 hS.1)).trans (hS.2.1 x h1 h2)⟩) hS.2.2 (Nat.le_of_ble_eq_true rfl) (Nat.le_of_ble_eq_true rfl)
end Gt
