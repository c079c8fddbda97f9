/-! BY HAND 19: the constructors of what stands alone -/
/-- a market at q, its arrays at r 1 .. r 10 -/
abbrev mkM (ca : Ca) (q : Nat) (r : Nat → Nat) : va_W := [(q, .inr (4, [.int (iI 0), .int (iI 0), .int (iI 0), .ref (r 1), .ref (r 2), .ref (r 3), .ref (r 4), .ref (r 5), .ref (r 6)])), (r 1, I4 ca 4), (r 2, I4 ca 4), (r 3, I4 ca 4), (r 4, I4 ca 4), (r 5, I4 ca 4), (r 6, O4 ca.2.2.1 4 [some (r 7), some (r 8), some (r 9), some (r 10)]), (r 7, I4 ca 4), (r 8, I4 ca 4), (r 9, I4 ca 4), (r 10, I4 ca 4)]
abbrev mkS (ca : Ca) (q : Nat) (r : Nat → Nat) : va_W := [(q, .inr (8, [.ref (r 1), .int (iI (-1)), .int (iI 0), .null])), (r 1, I4 ca 120)]
abbrev mkSc (ca : Ca) (qm q : Nat) (r : Nat → Nat) : va_W := [(q, .inr (7, [.ref qm, .ref (r 1), .ref (r 2), .ref (r 3), .long (lI 0), .long (lI 0), .int (iI 0), .int (iI 0), .int (iI 0), .int (iI 0), .int (iI 0), .long (lI 1), .long (lI 1), .long (lI 0)])), (r 1, I4 ca 4), (r 2, L4 ca 4), (r 3, L4 ca 4)]
abbrev mkL (ca : Ca) (qm q : Nat) (r : Nat → Nat) : va_W := [(q, .inr (3, [.ref qm, .ref (r 1), .ref (r 2), .ref (r 3)])), (r 1, I4 ca 4), (r 2, I4 ca 4), (r 3, I4 ca 4)]
section Gm1
variable {p : Program} {l : Launch} {e : Env} {R : Room} {s : State} {m : MethodId} {args : Array Value} {below : List Frame} {meth : Method} {c : Code} {cells slots mc ms : Nat} {Q : State → Prop}
variable {cc : ByteArray} {own : String} {ws : List Cond} {nL : Nat} {D : va_G} {ca : Ca} {A : Nat → Prop} {WR : Heap → Prop} {w w' : va_W}
variable {pc index : Nat} {lv : List (Option Value)} {st : List Value}
abbrev rm_X4_init : Room := { frames := 1, cells := 10, slots := 40, locals := 20 }
theorem ck_X4_init {q : Nat} : CKt l D ca A yX4_init wsX4_init rm_X4_init [.ref q] [(q, .inr (4, [.int (iI 0), .int (iI 0), .int (iI 0), .null, .null, .null, .null, .null, .null]))] (mkM ca q) 10 40 := by
  refine ck_any (cc := cX4_init) (own := RX4) (maxL := 1) (ret := none) (lv0 := [some (.ref q)]) (by decide) rfl rfl rfl (Nat.le_of_ble_eq_true rfl) ?_
  intro p e s m below meth c C hO1 hO2 hr hlk hnm
  have hu : ∀ x ∈ u_ws RX4 TX4 9, x ∈ wsX4_init := fun _ h => List.mem_cons_of_mem _ (List.mem_append_right _ h)
  refine gw_aload_n (i := 0) C dX4_init_0 rfl rfl ?_
  refine gl_obj (i1 := 1) (i2 := 2) (i3 := 3) C rfl rfl rfl ⟨Nat.le_of_ble_eq_true rfl, Nat.le_of_ble_eq_true rfl⟩ dX4_init_1 ?_
  refine gw_aload_n (i := 0) C dX4_init_4 rfl rfl ?_
  refine gw_iconst C dX4_init_5 ?_
  refine gl_newI (N := 4) C (by decide +kernel) (by decide) (by decide) (by decide) ⟨Nat.le_of_ble_eq_true rfl, Nat.le_of_ble_eq_true rfl⟩ dX4_init_6 (fun r1 => ?_)
  refine gl_putF (q0 := 0) (i := 5) (k := 3) (ty := .array .int) (w' := [(q, .inr (4, [.int (iI 0), .int (iI 0), .int (iI 0), .ref r1, .null, .null, .null, .null, .null])), (r1, I4 ca 4)]) C rfl rfl hu tyX4 tyX4_ok nmX4 (by decide) rfl hnm rfl rfl (tyX4_ok 3 (by decide)) rfl rfl (Nat.le_of_ble_eq_true rfl) rfl dX4_init_8 ?_
  refine gw_aload_n (i := 0) C dX4_init_11 rfl rfl ?_
  refine gw_iconst C dX4_init_12 ?_
  refine gl_newI (N := 4) C (by decide +kernel) (by decide) (by decide) (by decide) ⟨Nat.le_of_ble_eq_true rfl, Nat.le_of_ble_eq_true rfl⟩ dX4_init_13 (fun r2 => ?_)
  refine gl_putF (q0 := 0) (i := 6) (k := 4) (ty := .array .int) (w' := [(q, .inr (4, [.int (iI 0), .int (iI 0), .int (iI 0), .ref r1, .ref r2, .null, .null, .null, .null])), (r1, I4 ca 4), (r2, I4 ca 4)]) C rfl rfl hu tyX4 tyX4_ok nmX4 (by decide) rfl hnm rfl rfl (tyX4_ok 4 (by decide)) rfl rfl (Nat.le_of_ble_eq_true rfl) rfl dX4_init_15 ?_
  refine gw_aload_n (i := 0) C dX4_init_18 rfl rfl ?_
  refine gw_iconst C dX4_init_19 ?_
  refine gl_newI (N := 4) C (by decide +kernel) (by decide) (by decide) (by decide) ⟨Nat.le_of_ble_eq_true rfl, Nat.le_of_ble_eq_true rfl⟩ dX4_init_20 (fun r3 => ?_)
  refine gl_putF (q0 := 0) (i := 7) (k := 5) (ty := .array .int) (w' := [(q, .inr (4, [.int (iI 0), .int (iI 0), .int (iI 0), .ref r1, .ref r2, .ref r3, .null, .null, .null])), (r1, I4 ca 4), (r2, I4 ca 4), (r3, I4 ca 4)]) C rfl rfl hu tyX4 tyX4_ok nmX4 (by decide) rfl hnm rfl rfl (tyX4_ok 5 (by decide)) rfl rfl (Nat.le_of_ble_eq_true rfl) rfl dX4_init_22 ?_
  refine gw_aload_n (i := 0) C dX4_init_25 rfl rfl ?_
  refine gw_iconst C dX4_init_26 ?_
  refine gl_newI (N := 4) C (by decide +kernel) (by decide) (by decide) (by decide) ⟨Nat.le_of_ble_eq_true rfl, Nat.le_of_ble_eq_true rfl⟩ dX4_init_27 (fun r4 => ?_)
  refine gl_putF (q0 := 0) (i := 8) (k := 6) (ty := .array .int) (w' := [(q, .inr (4, [.int (iI 0), .int (iI 0), .int (iI 0), .ref r1, .ref r2, .ref r3, .ref r4, .null, .null])), (r1, I4 ca 4), (r2, I4 ca 4), (r3, I4 ca 4), (r4, I4 ca 4)]) C rfl rfl hu tyX4 tyX4_ok nmX4 (by decide) rfl hnm rfl rfl (tyX4_ok 6 (by decide)) rfl rfl (Nat.le_of_ble_eq_true rfl) rfl dX4_init_29 ?_
  refine gw_aload_n (i := 0) C dX4_init_32 rfl rfl ?_
  refine gw_iconst C dX4_init_33 ?_
  refine gl_newI (N := 4) C (by decide +kernel) (by decide) (by decide) (by decide) ⟨Nat.le_of_ble_eq_true rfl, Nat.le_of_ble_eq_true rfl⟩ dX4_init_34 (fun r5 => ?_)
  refine gl_putF (q0 := 0) (i := 9) (k := 7) (ty := .array .int) (w' := [(q, .inr (4, [.int (iI 0), .int (iI 0), .int (iI 0), .ref r1, .ref r2, .ref r3, .ref r4, .ref r5, .null])), (r1, I4 ca 4), (r2, I4 ca 4), (r3, I4 ca 4), (r4, I4 ca 4), (r5, I4 ca 4)]) C rfl rfl hu tyX4 tyX4_ok nmX4 (by decide) rfl hnm rfl rfl (tyX4_ok 7 (by decide)) rfl rfl (Nat.le_of_ble_eq_true rfl) rfl dX4_init_36 ?_
  refine gw_aload_n (i := 0) C dX4_init_39 rfl rfl ?_
  refine gw_iconst C dX4_init_40 ?_
  refine gw_iconst C dX4_init_41 ?_
  refine gl_mna C hO1 (by decide +kernel) (by decide +kernel) ⟨Nat.le_of_ble_eq_true rfl, Nat.le_of_ble_eq_true rfl⟩ dX4_init_42 (fun r6 r => ?_)
  refine gl_putF (q0 := 0) (i := 11) (k := 8) (ty := .array (.array .int)) (w' := [(q, .inr (4, [.int (iI 0), .int (iI 0), .int (iI 0), .ref r1, .ref r2, .ref r3, .ref r4, .ref r5, .ref r6])), (r1, I4 ca 4), (r2, I4 ca 4), (r3, I4 ca 4), (r4, I4 ca 4), (r5, I4 ca 4), (r6, O4 ca.2.2.1 4 [some (r 0), some (r 1), some (r 2), some (r 3)]), (r 0, I4 ca 4), (r 1, I4 ca 4), (r 2, I4 ca 4), (r 3, I4 ca 4)]) C rfl rfl hu tyX4 tyX4_ok nmX4 (by decide) rfl hnm rfl rfl (tyX4_ok 8 (by decide)) rfl rfl (Nat.le_of_ble_eq_true rfl) rfl dX4_init_46 ?_
  exact gl_vret C (fun i => if i = 1 then r1 else if i = 2 then r2 else if i = 3 then r3 else if i = 4 then r4 else if i = 5 then r5 else if i = 6 then r6 else r (i - 7)) hr hlk rfl ⟨Nat.le_of_ble_eq_true rfl, Nat.le_of_ble_eq_true rfl⟩ dX4_init_49
abbrev rm_X8_init : Room := { frames := 1, cells := 1, slots := 120, locals := 20 }
theorem ck_X8_init {q : Nat} : CKt l D ca A yX8_init wsX8_init rm_X8_init [.ref q] [(q, .inr (8, [.null, .int (iI 0), .int (iI 0), .null]))] (mkS ca q) 1 120 := by
  refine ck_any (cc := cX8_init) (own := RX8) (maxL := 1) (ret := none) (lv0 := [some (.ref q)]) (by decide) rfl rfl rfl (Nat.le_of_ble_eq_true rfl) ?_
  intro p e s m below meth c C hO1 hO2 hr hlk hnm
  have hu : ∀ x ∈ u_ws RX8 TX8 4, x ∈ wsX8_init := fun _ h => List.mem_cons_of_mem _ (List.mem_append_right _ h)
  refine gw_aload_n (i := 0) C dX8_init_0 rfl rfl ?_
  refine gl_obj (i1 := 1) (i2 := 2) (i3 := 3) C rfl rfl rfl ⟨Nat.le_of_ble_eq_true rfl, Nat.le_of_ble_eq_true rfl⟩ dX8_init_1 ?_
  refine gw_aload_n (i := 0) C dX8_init_4 rfl rfl ?_
  refine gw_bipush C dX8_init_5 (by decide) ?_
  refine gl_newI (N := 120) C (by decide +kernel) (by decide) (by decide) (by decide) ⟨Nat.le_of_ble_eq_true rfl, Nat.le_of_ble_eq_true rfl⟩ dX8_init_7 (fun r1 => ?_)
  refine gl_putF (q0 := 0) (i := 5) (k := 0) (ty := .array .int) (w' := [(q, .inr (8, [.ref r1, .int (iI 0), .int (iI 0), .null])), (r1, I4 ca 120)]) C rfl rfl hu tyX8 tyX8_ok nmX8 (by decide) rfl hnm rfl rfl (tyX8_ok 0 (by decide)) rfl rfl (Nat.le_of_ble_eq_true rfl) rfl dX8_init_9 ?_
  refine gw_aload_n (i := 0) C dX8_init_12 rfl rfl ?_
  refine gw_iconst C dX8_init_13 ?_
  refine gl_put (q0 := 0) (i := 6) (k := 1) (ty := .int) (w' := [(q, .inr (8, [.ref r1, .int (iI (-1)), .int (iI 0), .null])), (r1, I4 ca 120)]) C rfl rfl hu tyX8 tyX8_ok nmX8 (by decide) rfl rfl (tyX8_ok 1 (by decide)) rfl rfl (Nat.le_of_ble_eq_true rfl) rfl dX8_init_14 ?_
  exact gl_vret C (fun _ => r1) hr hlk rfl ⟨Nat.le_of_ble_eq_true rfl, Nat.le_of_ble_eq_true rfl⟩ dX8_init_17
abbrev rm_X7_init : Room := { frames := 1, cells := 3, slots := 12, locals := 20 }
theorem ck_X7_init {q : Nat} {qm : Nat} : CKt l D ca A yX7_init wsX7_init rm_X7_init [.ref q, .ref qm] [(q, .inr (7, [.null, .null, .null, .null, .long (lI 0), .long (lI 0), .int (iI 0), .int (iI 0), .int (iI 0), .int (iI 0), .int (iI 0), .long (lI 0), .long (lI 0), .long (lI 0)]))] (mkSc ca qm q) 3 12 := by
  refine ck_any (cc := cX7_init) (own := RX7) (maxL := 2) (ret := none) (lv0 := [some (.ref q), some (.ref qm)]) (by decide) rfl rfl rfl (Nat.le_of_ble_eq_true rfl) ?_
  intro p e s m below meth c C hO1 hO2 hr hlk hnm
  have hu : ∀ x ∈ u_ws RX7 TX7 14, x ∈ wsX7_init := fun _ h => List.mem_cons_of_mem _ (List.mem_append_right _ h)
  refine gw_aload_n (i := 0) C dX7_init_0 rfl rfl ?_
  refine gl_obj (i1 := 1) (i2 := 2) (i3 := 3) C rfl rfl rfl ⟨Nat.le_of_ble_eq_true rfl, Nat.le_of_ble_eq_true rfl⟩ dX7_init_1 ?_
  refine gw_aload_n (i := 0) C dX7_init_4 rfl rfl ?_
  refine gw_iconst C dX7_init_5 ?_
  refine gl_newI (N := 4) C (by decide +kernel) (by decide) (by decide) (by decide) ⟨Nat.le_of_ble_eq_true rfl, Nat.le_of_ble_eq_true rfl⟩ dX7_init_6 (fun r1 => ?_)
  refine gl_putF (q0 := 0) (i := 5) (k := 1) (ty := .array .int) (w' := [(q, .inr (7, [.null, .ref r1, .null, .null, .long (lI 0), .long (lI 0), .int (iI 0), .int (iI 0), .int (iI 0), .int (iI 0), .int (iI 0), .long (lI 0), .long (lI 0), .long (lI 0)])), (r1, I4 ca 4)]) C rfl rfl hu tyX7 tyX7_ok nmX7 (by decide) rfl hnm rfl rfl (tyX7_ok 1 (by decide)) rfl rfl (Nat.le_of_ble_eq_true rfl) rfl dX7_init_8 ?_
  refine gw_aload_n (i := 0) C dX7_init_11 rfl rfl ?_
  refine gw_iconst C dX7_init_12 ?_
  refine gl_newL (N := 4) C (by decide +kernel) (by decide) (by decide) (by decide) ⟨Nat.le_of_ble_eq_true rfl, Nat.le_of_ble_eq_true rfl⟩ dX7_init_13 (fun r2 => ?_)
  refine gl_putF (q0 := 0) (i := 7) (k := 2) (ty := .array .long) (w' := [(q, .inr (7, [.null, .ref r1, .ref r2, .null, .long (lI 0), .long (lI 0), .int (iI 0), .int (iI 0), .int (iI 0), .int (iI 0), .int (iI 0), .long (lI 0), .long (lI 0), .long (lI 0)])), (r1, I4 ca 4), (r2, L4 ca 4)]) C rfl rfl hu tyX7 tyX7_ok nmX7 (by decide) rfl hnm rfl rfl (tyX7_ok 2 (by decide)) rfl rfl (Nat.le_of_ble_eq_true rfl) rfl dX7_init_15 ?_
  refine gw_aload_n (i := 0) C dX7_init_18 rfl rfl ?_
  refine gw_iconst C dX7_init_19 ?_
  refine gl_newL (N := 4) C (by decide +kernel) (by decide) (by decide) (by decide) ⟨Nat.le_of_ble_eq_true rfl, Nat.le_of_ble_eq_true rfl⟩ dX7_init_20 (fun r3 => ?_)
  refine gl_putF (q0 := 0) (i := 8) (k := 3) (ty := .array .long) (w' := [(q, .inr (7, [.null, .ref r1, .ref r2, .ref r3, .long (lI 0), .long (lI 0), .int (iI 0), .int (iI 0), .int (iI 0), .int (iI 0), .int (iI 0), .long (lI 0), .long (lI 0), .long (lI 0)])), (r1, I4 ca 4), (r2, L4 ca 4), (r3, L4 ca 4)]) C rfl rfl hu tyX7 tyX7_ok nmX7 (by decide) rfl hnm rfl rfl (tyX7_ok 3 (by decide)) rfl rfl (Nat.le_of_ble_eq_true rfl) rfl dX7_init_22 ?_
  refine gw_aload_n (i := 0) C dX7_init_25 rfl rfl ?_
  refine gw_lconst (z := 1) C dX7_init_26 (by decide) ?_
  refine gl_put (q0 := 0) (i := 9) (k := 11) (ty := .long) (w' := [(q, .inr (7, [.null, .ref r1, .ref r2, .ref r3, .long (lI 0), .long (lI 0), .int (iI 0), .int (iI 0), .int (iI 0), .int (iI 0), .int (iI 0), .long (lI 1), .long (lI 0), .long (lI 0)])), (r1, I4 ca 4), (r2, L4 ca 4), (r3, L4 ca 4)]) C rfl rfl hu tyX7 tyX7_ok nmX7 (by decide) rfl rfl (tyX7_ok 11 (by decide)) rfl rfl (Nat.le_of_ble_eq_true rfl) rfl dX7_init_27 ?_
  refine gw_aload_n (i := 0) C dX7_init_30 rfl rfl ?_
  refine gw_lconst (z := 1) C dX7_init_31 (by decide) ?_
  refine gl_put (q0 := 0) (i := 10) (k := 12) (ty := .long) (w' := [(q, .inr (7, [.null, .ref r1, .ref r2, .ref r3, .long (lI 0), .long (lI 0), .int (iI 0), .int (iI 0), .int (iI 0), .int (iI 0), .int (iI 0), .long (lI 1), .long (lI 1), .long (lI 0)])), (r1, I4 ca 4), (r2, L4 ca 4), (r3, L4 ca 4)]) C rfl rfl hu tyX7 tyX7_ok nmX7 (by decide) rfl rfl (tyX7_ok 12 (by decide)) rfl rfl (Nat.le_of_ble_eq_true rfl) rfl dX7_init_32 ?_
  refine gw_aload_n (i := 0) C dX7_init_35 rfl rfl ?_
  refine gw_aload_n (i := 1) C dX7_init_36 rfl rfl ?_
  refine gl_putF (q0 := 0) (i := 11) (k := 0) (ty := .object "FurrowFair$Market") (w' := [(q, .inr (7, [.ref qm, .ref r1, .ref r2, .ref r3, .long (lI 0), .long (lI 0), .int (iI 0), .int (iI 0), .int (iI 0), .int (iI 0), .int (iI 0), .long (lI 1), .long (lI 1), .long (lI 0)])), (r1, I4 ca 4), (r2, L4 ca 4), (r3, L4 ca 4)]) C rfl rfl hu tyX7 tyX7_ok nmX7 (by decide) rfl hnm rfl rfl (tyX7_ok 0 (by decide)) rfl rfl (Nat.le_of_ble_eq_true rfl) rfl dX7_init_37 ?_
  exact gl_vret C (fun i => if i = 1 then r1 else if i = 2 then r2 else r3) hr hlk rfl ⟨Nat.le_of_ble_eq_true rfl, Nat.le_of_ble_eq_true rfl⟩ dX7_init_40
abbrev rm_X3_init : Room := { frames := 1, cells := 3, slots := 12, locals := 20 }
theorem ck_X3_init {q : Nat} {qm : Nat} : CKt l D ca A yX3_init wsX3_init rm_X3_init [.ref q, .ref qm] [(q, .inr (3, [.null, .null, .null, .null]))] (mkL ca qm q) 3 12 := by
  refine ck_any (cc := cX3_init) (own := RX3) (maxL := 2) (ret := none) (lv0 := [some (.ref q), some (.ref qm)]) (by decide) rfl rfl rfl (Nat.le_of_ble_eq_true rfl) ?_
  intro p e s m below meth c C hO1 hO2 hr hlk hnm
  have hu : ∀ x ∈ u_ws RX3 TX3 4, x ∈ wsX3_init := fun _ h => List.mem_cons_of_mem _ (List.mem_append_right _ h)
  refine gw_aload_n (i := 0) C dX3_init_0 rfl rfl ?_
  refine gl_obj (i1 := 1) (i2 := 2) (i3 := 3) C rfl rfl rfl ⟨Nat.le_of_ble_eq_true rfl, Nat.le_of_ble_eq_true rfl⟩ dX3_init_1 ?_
  refine gw_aload_n (i := 0) C dX3_init_4 rfl rfl ?_
  refine gw_iconst C dX3_init_5 ?_
  refine gl_newI (N := 4) C (by decide +kernel) (by decide) (by decide) (by decide) ⟨Nat.le_of_ble_eq_true rfl, Nat.le_of_ble_eq_true rfl⟩ dX3_init_6 (fun r1 => ?_)
  refine gl_putF (q0 := 0) (i := 5) (k := 1) (ty := .array .int) (w' := [(q, .inr (3, [.null, .ref r1, .null, .null])), (r1, I4 ca 4)]) C rfl rfl hu tyX3 tyX3_ok nmX3 (by decide) rfl hnm rfl rfl (tyX3_ok 1 (by decide)) rfl rfl (Nat.le_of_ble_eq_true rfl) rfl dX3_init_8 ?_
  refine gw_aload_n (i := 0) C dX3_init_11 rfl rfl ?_
  refine gw_iconst C dX3_init_12 ?_
  refine gl_newI (N := 4) C (by decide +kernel) (by decide) (by decide) (by decide) ⟨Nat.le_of_ble_eq_true rfl, Nat.le_of_ble_eq_true rfl⟩ dX3_init_13 (fun r2 => ?_)
  refine gl_putF (q0 := 0) (i := 6) (k := 2) (ty := .array .int) (w' := [(q, .inr (3, [.null, .ref r1, .ref r2, .null])), (r1, I4 ca 4), (r2, I4 ca 4)]) C rfl rfl hu tyX3 tyX3_ok nmX3 (by decide) rfl hnm rfl rfl (tyX3_ok 2 (by decide)) rfl rfl (Nat.le_of_ble_eq_true rfl) rfl dX3_init_15 ?_
  refine gw_aload_n (i := 0) C dX3_init_18 rfl rfl ?_
  refine gw_iconst C dX3_init_19 ?_
  refine gl_newI (N := 4) C (by decide +kernel) (by decide) (by decide) (by decide) ⟨Nat.le_of_ble_eq_true rfl, Nat.le_of_ble_eq_true rfl⟩ dX3_init_20 (fun r3 => ?_)
  refine gl_putF (q0 := 0) (i := 7) (k := 3) (ty := .array .int) (w' := [(q, .inr (3, [.null, .ref r1, .ref r2, .ref r3])), (r1, I4 ca 4), (r2, I4 ca 4), (r3, I4 ca 4)]) C rfl rfl hu tyX3 tyX3_ok nmX3 (by decide) rfl hnm rfl rfl (tyX3_ok 3 (by decide)) rfl rfl (Nat.le_of_ble_eq_true rfl) rfl dX3_init_22 ?_
  refine gw_aload_n (i := 0) C dX3_init_25 rfl rfl ?_
  refine gw_aload_n (i := 1) C dX3_init_26 rfl rfl ?_
  refine gl_putF (q0 := 0) (i := 8) (k := 0) (ty := .object "FurrowFair$Market") (w' := [(q, .inr (3, [.ref qm, .ref r1, .ref r2, .ref r3])), (r1, I4 ca 4), (r2, I4 ca 4), (r3, I4 ca 4)]) C rfl rfl hu tyX3 tyX3_ok nmX3 (by decide) rfl hnm rfl rfl (tyX3_ok 0 (by decide)) rfl rfl (Nat.le_of_ble_eq_true rfl) rfl dX3_init_27 ?_
  exact gl_vret C (fun i => if i = 1 then r1 else if i = 2 then r2 else r3) hr hlk rfl ⟨Nat.le_of_ble_eq_true rfl, Nat.le_of_ble_eq_true rfl⟩ dX3_init_30
end Gm1
