/-! BY HAND 9: holdFit, keep -/
section Gq
variable {p : Program} {l : Launch} {e : Env} {R : Room} {s : State} {m : MethodId} {args : Array Value} {below : List Frame} {meth : Method} {c : Code} {cells slots mc ms : Nat} {Q : State → Prop}
variable {cc : ByteArray} {own : String} {ws : List Cond} {nL : Nat} {D : va_G} {ca : Ca} {ad : Int → Nat} {A : Nat → Prop} {WR W0 W1 : Heap → Prop} {fa : Int → Option Nat} {σ σ' : Mem} {r0 : Int} {σ0 : Mem}
variable {pc i index : Nat} {lv : List (Option Value)} {st : List Value}
abbrev rm_X8_holdFit : Room := { frames := 1, cells := 0, slots := 0, locals := 20 }
theorem cg_X8_holdFit {d k n1 n2 n3 n4 : Int} {q : Nat} (hd8 : 0 ≤ d ∧ d < 8) : CGv l D ca A yX8_holdFit wsX8_holdFit rm_X8_holdFit [.ref (ad (80 + 2 * d)), .ref q] (WX D ca ad A σ (kc k) q (ov n1 n2 n3 n4)) (Wr D ca ad A (hfM σ d k n1 n2 n3 n4)) 0 0 := by
  refine cg_any (cc := cX8_holdFit) (own := RX8) (maxL := 2) (ret := none) (lv0 := [some (.ref (ad (80 + 2 * d))), some (.ref q)]) (by decide) rfl rfl rfl (Nat.le_of_ble_eq_true rfl) ?_
  intro p e s m below meth c C hr hlk hnm
  have ht := shf_of hd8
  refine gw_mono (fun H h => h.1) ?_
  refine gw_aload_n (i := 0) C dX8_holdFit_0 rfl rfl ?_
  intro H locs ls hw hS hl
  obtain ⟨fa, ⟨hP, hD, hf⟩, hq, hqA, hne⟩ := hw
  obtain ⟨q0, hq0⟩ := List.getElem?_of_mem (ob_X8 ht).1
  have he := wl_at (ca := ca) (ad := ad) (fa := fa) (σ := σ) hq0
  rw [(ob_X8 ht).2] at he
  have hrc := va_recv C.2.2.2.2.2.1 hP (show vwCl[8]? = some (RX8, TX8, 4) from rfl) he
  have hql : q < H.size := (hq 0 _ rfl).lt
  have hM := c_X8_clear (l := l) (D := D) (ca := ca) (ad := ad) (A := fun x => A x ∧ x ≠ q) ht (σ := σ) (r0 := 0) (σ0 := ups (ups (ups σ (80 + 2 * d) 1 (-1)) (80 + 2 * d) 2 0) (80 + 2 * d) 3 0) rfl
  refine va_callv (va_runV (As := []) (rest := []) ⟨C.1, C.2.1, C.2.2.1, C.2.2.2.1, C.2.2.2.2.1⟩ hM (cwV 0 C.2.2.2.2.1 gX8_holdFit_X8_clear rfl rfl rfl (by decide +kernel) ⟨Nat.le_of_ble_eq_true rfl, Nat.le_of_ble_eq_true rfl⟩) ⟨wd_blind, hrc, fun U hU hW => ⟨rfl, ⟨fa, by rw [hU]; exact hP, ⟨hD.1, fun j x hx => ⟨hD.2 j x hx, hne x (List.mem_of_getElem? hx)⟩⟩, hf⟩, va_K.moved hW.alike C.2.2.2.2.2.1, fun x hx => ⟨C.2.2.2.2.2.2 x (Nat.le_trans hS.1 (by rw [← hU]; exact hx)), by rw [hU] at hx; omega⟩⟩⟩ rfl rfl hl.1 rfl (lv_room (Nat.le_of_ble_eq_true rfl)) dX8_holdFit_1 ⟨Nat.zero_le _, Nat.zero_le _⟩) hS (fun x _ h => h.1) (fun x h => h.1) ?_
  intro u t1 H1 locs1 ht1 hvm hp hB hz hk1 hS1
  rw [ht1] at hB
  obtain ⟨fa', hP', hD', hf'⟩ := hB
  have hq' : va_P D vwCl [(q, .inr (kc k, ov n1 n2 n3 n4))] H1 := hq.kept (fun j x hx => by
    rw [List.mem_singleton.mp (List.mem_of_getElem? hx)]
    exact hk1 q hql (fun z => z.2 rfl))
  refine (?_ : GW (WX D ca ad A (ups (ups (ups σ (80 + 2 * d) 1 (-1)) (80 + 2 * d) 2 0) (80 + 2 * d) 3 0) (kc k) q (ov n1 n2 n3 n4)) p l e rm_X8_holdFit s m [Value.ref (ad (80 + 2 * d)), .ref q].toArray below meth c 2 A 0 0 _ 4 [some (.ref (ad (80 + 2 * d))), some (.ref q)] []) H1 locs1 ls ⟨fa', ⟨hP', ⟨hD'.1, fun j x hx => (hD'.2 j x hx).1⟩, hf'⟩, hq', hqA, fun x hx => by
    obtain ⟨j, hj⟩ := List.getElem?_of_mem hx
    exact (hD'.2 j x hj).2⟩ hS1 hl
  refine gw_aload_n (i := 0) C dX8_holdFit_4 rfl rfl ?_
  refine gw_aload_n (i := 1) C dX8_holdFit_5 rfl rfl ?_
  refine gx_put (i := 1) (k := k) (σ' := hfM σ d k n1 n2 n3 n4) C ht (ups_at ..) rfl (by decide +kernel) rfl dX8_holdFit_6 (fun a w1 j w2 => ?_) ?_ ⟨?_, ?_, ?_, ?_, ?_⟩ ?_
  · unfold hfM ups
    by_cases z1 : a = 80 + 2 * d ∧ j = 1
    · rw [if_pos z1, if_neg (by omega), if_neg (by omega), if_pos z1]
    · rw [if_neg z1]
      by_cases z2 : a = 80 + 2 * d ∧ j = 2
      · rw [if_pos z2, if_neg (by omega), if_pos z2]
      · rw [if_neg z2, if_neg w2, if_neg (by omega), if_neg w2, if_neg z2, if_neg z1]
  · unfold hfM
    rw [if_neg (by omega), if_neg (by omega), if_pos (by omega)]
  · unfold hfM
    rw [if_neg (by omega), if_neg (by omega), if_neg (by omega), if_pos (by omega), if_pos rfl]
  · unfold hfM
    rw [if_neg (by omega), if_neg (by omega), if_neg (by omega), if_pos (by omega), if_neg (by omega), if_pos rfl]
  · unfold hfM
    rw [if_neg (by omega), if_neg (by omega), if_neg (by omega), if_pos (by omega), if_neg (by omega), if_neg (by omega), if_pos rfl]
  · unfold hfM
    rw [if_neg (by omega), if_neg (by omega), if_neg (by omega), if_pos (by omega), if_neg (by omega), if_neg (by omega), if_neg (by omega), if_pos rfl]
  · unfold hfM
    rw [if_neg (by omega), if_neg (by omega), if_neg (by omega), if_pos (by omega), if_neg (by omega), if_neg (by omega), if_neg (by omega), if_neg (by omega)]
  · exact gg_vret (WR := Wr D ca ad A (hfM σ d k n1 n2 n3 n4)) C hr hlk (fun H h => h) dX8_holdFit_9
end Gq
