/-! BY HAND 20: the constructors of the model and of the reader -/
abbrev mkMod (ca : Ca) (q : Nat) (r : Nat → Nat) : va_W := [(q, .inr (12, [.ref (r 1), .ref (r 2), .ref (r 3), .ref (r 4), .ref (r 5), .ref (r 6), .ref (r 7), .ref (r 8), .ref (r 9), .int (iI 0), .int (iI 0), .int (iI 0), .int (iI 0), .int (iI 0), .int (iI 0), .int (iI 0), .ref (r 10), .int (iI 0), .int (iI 0), .int (iI 1), .int (iI 0), .long (lI 0), .long (lI 0), .ref (r 11)])), (r 1, I4 ca 39), (r 2, I4 ca 39), (r 3, I4 ca 39), (r 4, I4 ca 8), (r 5, I4 ca 8), (r 6, I4 ca 8), (r 7, I4 ca 960), (r 8, I4 ca 8), (r 9, I4 ca 8), (r 10, I4 ca 120), (r 11, I4 ca 4)]
abbrev mkR (ca : Ca) (q : Nat) (r : Nat → Nat) : va_W := (q, .inr (6, [.ref (r 0), .ref (r 11), .int (iI 0), .int (iI 0), .int (iI 0), .int (iI 0), .int (iI 0), .int (iI 0), .int (iI 0)])) :: (mkM ca (r 0) r ++ [(r 11, I4 ca 5)])
section Gm2
variable {p : Program} {l : Launch} {e : Env} {R : Room} {s : State} {m : MethodId} {args : Array Value} {below : List Frame} {meth : Method} {c : Code} {cells slots mc ms : Nat} {Q : State → Prop}
variable {cc : ByteArray} {own : String} {ws : List Cond} {nL : Nat} {D : va_G} {ca : Ca} {A : Nat → Prop} {WR : Heap → Prop} {w w' : va_W}
variable {pc index : Nat} {lv : List (Option Value)} {st : List Value}
abbrev rm_X12_init : Room := { frames := 1, cells := 11, slots := 1241, locals := 20 }
theorem ck_X12_init {q : Nat} : CKt l D ca A yX12_init wsX12_init rm_X12_init [.ref q] [(q, .inr (12, [.null, .null, .null, .null, .null, .null, .null, .null, .null, .int (iI 0), .int (iI 0), .int (iI 0), .int (iI 0), .int (iI 0), .int (iI 0), .int (iI 0), .null, .int (iI 0), .int (iI 0), .int (iI 0), .int (iI 0), .long (lI 0), .long (lI 0), .null]))] (mkMod ca q) 11 1241 := by
  refine ck_any (cc := cX12_init) (own := RX12) (maxL := 1) (ret := none) (lv0 := [some (.ref q)]) (by decide) rfl rfl rfl (Nat.le_of_ble_eq_true rfl) ?_
  intro p e s m below meth c C hO1 hO2 hr hlk hnm
  have hu : ∀ x ∈ u_ws RX12 TX12 24, x ∈ wsX12_init := fun _ h => List.mem_cons_of_mem _ (List.mem_append_right _ h)
  refine gw_aload_n (i := 0) C dX12_init_0 rfl rfl ?_
  refine gl_obj (i1 := 1) (i2 := 2) (i3 := 3) C rfl rfl rfl ⟨Nat.le_of_ble_eq_true rfl, Nat.le_of_ble_eq_true rfl⟩ dX12_init_1 ?_
  refine gw_aload_n (i := 0) C dX12_init_4 rfl rfl ?_
  refine gw_bipush C dX12_init_5 (by decide) ?_
  refine gl_newI (N := 39) C (by decide +kernel) (by decide) (by decide) (by decide) ⟨Nat.le_of_ble_eq_true rfl, Nat.le_of_ble_eq_true rfl⟩ dX12_init_7 (fun r1 => ?_)
  refine gl_putF (q0 := 0) (i := 5) (k := 0) (ty := .array .int) (w' := [(q, .inr (12, [.ref r1, .null, .null, .null, .null, .null, .null, .null, .null, .int (iI 0), .int (iI 0), .int (iI 0), .int (iI 0), .int (iI 0), .int (iI 0), .int (iI 0), .null, .int (iI 0), .int (iI 0), .int (iI 0), .int (iI 0), .long (lI 0), .long (lI 0), .null])), (r1, I4 ca 39)]) C rfl rfl hu tyX12 tyX12_ok nmX12 (by decide) rfl hnm rfl rfl (tyX12_ok 0 (by decide)) rfl rfl (Nat.le_of_ble_eq_true rfl) rfl dX12_init_9 ?_
  refine gw_aload_n (i := 0) C dX12_init_12 rfl rfl ?_
  refine gw_bipush C dX12_init_13 (by decide) ?_
  refine gl_newI (N := 39) C (by decide +kernel) (by decide) (by decide) (by decide) ⟨Nat.le_of_ble_eq_true rfl, Nat.le_of_ble_eq_true rfl⟩ dX12_init_15 (fun r2 => ?_)
  refine gl_putF (q0 := 0) (i := 6) (k := 1) (ty := .array .int) (w' := [(q, .inr (12, [.ref r1, .ref r2, .null, .null, .null, .null, .null, .null, .null, .int (iI 0), .int (iI 0), .int (iI 0), .int (iI 0), .int (iI 0), .int (iI 0), .int (iI 0), .null, .int (iI 0), .int (iI 0), .int (iI 0), .int (iI 0), .long (lI 0), .long (lI 0), .null])), (r1, I4 ca 39), (r2, I4 ca 39)]) C rfl rfl hu tyX12 tyX12_ok nmX12 (by decide) rfl hnm rfl rfl (tyX12_ok 1 (by decide)) rfl rfl (Nat.le_of_ble_eq_true rfl) rfl dX12_init_17 ?_
  refine gw_aload_n (i := 0) C dX12_init_20 rfl rfl ?_
  refine gw_bipush C dX12_init_21 (by decide) ?_
  refine gl_newI (N := 39) C (by decide +kernel) (by decide) (by decide) (by decide) ⟨Nat.le_of_ble_eq_true rfl, Nat.le_of_ble_eq_true rfl⟩ dX12_init_23 (fun r3 => ?_)
  refine gl_putF (q0 := 0) (i := 7) (k := 2) (ty := .array .int) (w' := [(q, .inr (12, [.ref r1, .ref r2, .ref r3, .null, .null, .null, .null, .null, .null, .int (iI 0), .int (iI 0), .int (iI 0), .int (iI 0), .int (iI 0), .int (iI 0), .int (iI 0), .null, .int (iI 0), .int (iI 0), .int (iI 0), .int (iI 0), .long (lI 0), .long (lI 0), .null])), (r1, I4 ca 39), (r2, I4 ca 39), (r3, I4 ca 39)]) C rfl rfl hu tyX12 tyX12_ok nmX12 (by decide) rfl hnm rfl rfl (tyX12_ok 2 (by decide)) rfl rfl (Nat.le_of_ble_eq_true rfl) rfl dX12_init_25 ?_
  refine gw_aload_n (i := 0) C dX12_init_28 rfl rfl ?_
  refine gw_bipush C dX12_init_29 (by decide) ?_
  refine gl_newI (N := 8) C (by decide +kernel) (by decide) (by decide) (by decide) ⟨Nat.le_of_ble_eq_true rfl, Nat.le_of_ble_eq_true rfl⟩ dX12_init_31 (fun r4 => ?_)
  refine gl_putF (q0 := 0) (i := 8) (k := 3) (ty := .array .int) (w' := [(q, .inr (12, [.ref r1, .ref r2, .ref r3, .ref r4, .null, .null, .null, .null, .null, .int (iI 0), .int (iI 0), .int (iI 0), .int (iI 0), .int (iI 0), .int (iI 0), .int (iI 0), .null, .int (iI 0), .int (iI 0), .int (iI 0), .int (iI 0), .long (lI 0), .long (lI 0), .null])), (r1, I4 ca 39), (r2, I4 ca 39), (r3, I4 ca 39), (r4, I4 ca 8)]) C rfl rfl hu tyX12 tyX12_ok nmX12 (by decide) rfl hnm rfl rfl (tyX12_ok 3 (by decide)) rfl rfl (Nat.le_of_ble_eq_true rfl) rfl dX12_init_33 ?_
  refine gw_aload_n (i := 0) C dX12_init_36 rfl rfl ?_
  refine gw_bipush C dX12_init_37 (by decide) ?_
  refine gl_newI (N := 8) C (by decide +kernel) (by decide) (by decide) (by decide) ⟨Nat.le_of_ble_eq_true rfl, Nat.le_of_ble_eq_true rfl⟩ dX12_init_39 (fun r5 => ?_)
  refine gl_putF (q0 := 0) (i := 9) (k := 4) (ty := .array .int) (w' := [(q, .inr (12, [.ref r1, .ref r2, .ref r3, .ref r4, .ref r5, .null, .null, .null, .null, .int (iI 0), .int (iI 0), .int (iI 0), .int (iI 0), .int (iI 0), .int (iI 0), .int (iI 0), .null, .int (iI 0), .int (iI 0), .int (iI 0), .int (iI 0), .long (lI 0), .long (lI 0), .null])), (r1, I4 ca 39), (r2, I4 ca 39), (r3, I4 ca 39), (r4, I4 ca 8), (r5, I4 ca 8)]) C rfl rfl hu tyX12 tyX12_ok nmX12 (by decide) rfl hnm rfl rfl (tyX12_ok 4 (by decide)) rfl rfl (Nat.le_of_ble_eq_true rfl) rfl dX12_init_41 ?_
  refine gw_aload_n (i := 0) C dX12_init_44 rfl rfl ?_
  refine gw_bipush C dX12_init_45 (by decide) ?_
  refine gl_newI (N := 8) C (by decide +kernel) (by decide) (by decide) (by decide) ⟨Nat.le_of_ble_eq_true rfl, Nat.le_of_ble_eq_true rfl⟩ dX12_init_47 (fun r6 => ?_)
  refine gl_putF (q0 := 0) (i := 10) (k := 5) (ty := .array .int) (w' := [(q, .inr (12, [.ref r1, .ref r2, .ref r3, .ref r4, .ref r5, .ref r6, .null, .null, .null, .int (iI 0), .int (iI 0), .int (iI 0), .int (iI 0), .int (iI 0), .int (iI 0), .int (iI 0), .null, .int (iI 0), .int (iI 0), .int (iI 0), .int (iI 0), .long (lI 0), .long (lI 0), .null])), (r1, I4 ca 39), (r2, I4 ca 39), (r3, I4 ca 39), (r4, I4 ca 8), (r5, I4 ca 8), (r6, I4 ca 8)]) C rfl rfl hu tyX12 tyX12_ok nmX12 (by decide) rfl hnm rfl rfl (tyX12_ok 5 (by decide)) rfl rfl (Nat.le_of_ble_eq_true rfl) rfl dX12_init_49 ?_
  refine gw_aload_n (i := 0) C dX12_init_52 rfl rfl ?_
  refine gw_sipush C dX12_init_53 (by decide) ?_
  refine gl_newI (N := 960) C (by decide +kernel) (by decide) (by decide) (by decide) ⟨Nat.le_of_ble_eq_true rfl, Nat.le_of_ble_eq_true rfl⟩ dX12_init_56 (fun r7 => ?_)
  refine gl_putF (q0 := 0) (i := 11) (k := 6) (ty := .array .int) (w' := [(q, .inr (12, [.ref r1, .ref r2, .ref r3, .ref r4, .ref r5, .ref r6, .ref r7, .null, .null, .int (iI 0), .int (iI 0), .int (iI 0), .int (iI 0), .int (iI 0), .int (iI 0), .int (iI 0), .null, .int (iI 0), .int (iI 0), .int (iI 0), .int (iI 0), .long (lI 0), .long (lI 0), .null])), (r1, I4 ca 39), (r2, I4 ca 39), (r3, I4 ca 39), (r4, I4 ca 8), (r5, I4 ca 8), (r6, I4 ca 8), (r7, I4 ca 960)]) C rfl rfl hu tyX12 tyX12_ok nmX12 (by decide) rfl hnm rfl rfl (tyX12_ok 6 (by decide)) rfl rfl (Nat.le_of_ble_eq_true rfl) rfl dX12_init_58 ?_
  refine gw_aload_n (i := 0) C dX12_init_61 rfl rfl ?_
  refine gw_bipush C dX12_init_62 (by decide) ?_
  refine gl_newI (N := 8) C (by decide +kernel) (by decide) (by decide) (by decide) ⟨Nat.le_of_ble_eq_true rfl, Nat.le_of_ble_eq_true rfl⟩ dX12_init_64 (fun r8 => ?_)
  refine gl_putF (q0 := 0) (i := 12) (k := 7) (ty := .array .int) (w' := [(q, .inr (12, [.ref r1, .ref r2, .ref r3, .ref r4, .ref r5, .ref r6, .ref r7, .ref r8, .null, .int (iI 0), .int (iI 0), .int (iI 0), .int (iI 0), .int (iI 0), .int (iI 0), .int (iI 0), .null, .int (iI 0), .int (iI 0), .int (iI 0), .int (iI 0), .long (lI 0), .long (lI 0), .null])), (r1, I4 ca 39), (r2, I4 ca 39), (r3, I4 ca 39), (r4, I4 ca 8), (r5, I4 ca 8), (r6, I4 ca 8), (r7, I4 ca 960), (r8, I4 ca 8)]) C rfl rfl hu tyX12 tyX12_ok nmX12 (by decide) rfl hnm rfl rfl (tyX12_ok 7 (by decide)) rfl rfl (Nat.le_of_ble_eq_true rfl) rfl dX12_init_66 ?_
  refine gw_aload_n (i := 0) C dX12_init_69 rfl rfl ?_
  refine gw_bipush C dX12_init_70 (by decide) ?_
  refine gl_newI (N := 8) C (by decide +kernel) (by decide) (by decide) (by decide) ⟨Nat.le_of_ble_eq_true rfl, Nat.le_of_ble_eq_true rfl⟩ dX12_init_72 (fun r9 => ?_)
  refine gl_putF (q0 := 0) (i := 13) (k := 8) (ty := .array .int) (w' := [(q, .inr (12, [.ref r1, .ref r2, .ref r3, .ref r4, .ref r5, .ref r6, .ref r7, .ref r8, .ref r9, .int (iI 0), .int (iI 0), .int (iI 0), .int (iI 0), .int (iI 0), .int (iI 0), .int (iI 0), .null, .int (iI 0), .int (iI 0), .int (iI 0), .int (iI 0), .long (lI 0), .long (lI 0), .null])), (r1, I4 ca 39), (r2, I4 ca 39), (r3, I4 ca 39), (r4, I4 ca 8), (r5, I4 ca 8), (r6, I4 ca 8), (r7, I4 ca 960), (r8, I4 ca 8), (r9, I4 ca 8)]) C rfl rfl hu tyX12 tyX12_ok nmX12 (by decide) rfl hnm rfl rfl (tyX12_ok 8 (by decide)) rfl rfl (Nat.le_of_ble_eq_true rfl) rfl dX12_init_74 ?_
  refine gw_aload_n (i := 0) C dX12_init_77 rfl rfl ?_
  refine gw_bipush C dX12_init_78 (by decide) ?_
  refine gl_newI (N := 120) C (by decide +kernel) (by decide) (by decide) (by decide) ⟨Nat.le_of_ble_eq_true rfl, Nat.le_of_ble_eq_true rfl⟩ dX12_init_80 (fun r10 => ?_)
  refine gl_putF (q0 := 0) (i := 14) (k := 16) (ty := .array .int) (w' := [(q, .inr (12, [.ref r1, .ref r2, .ref r3, .ref r4, .ref r5, .ref r6, .ref r7, .ref r8, .ref r9, .int (iI 0), .int (iI 0), .int (iI 0), .int (iI 0), .int (iI 0), .int (iI 0), .int (iI 0), .ref r10, .int (iI 0), .int (iI 0), .int (iI 0), .int (iI 0), .long (lI 0), .long (lI 0), .null])), (r1, I4 ca 39), (r2, I4 ca 39), (r3, I4 ca 39), (r4, I4 ca 8), (r5, I4 ca 8), (r6, I4 ca 8), (r7, I4 ca 960), (r8, I4 ca 8), (r9, I4 ca 8), (r10, I4 ca 120)]) C rfl rfl hu tyX12 tyX12_ok nmX12 (by decide) rfl hnm rfl rfl (tyX12_ok 16 (by decide)) rfl rfl (Nat.le_of_ble_eq_true rfl) rfl dX12_init_82 ?_
  refine gw_aload_n (i := 0) C dX12_init_85 rfl rfl ?_
  refine gw_iconst C dX12_init_86 ?_
  refine gl_put (q0 := 0) (i := 15) (k := 19) (ty := .int) (w' := [(q, .inr (12, [.ref r1, .ref r2, .ref r3, .ref r4, .ref r5, .ref r6, .ref r7, .ref r8, .ref r9, .int (iI 0), .int (iI 0), .int (iI 0), .int (iI 0), .int (iI 0), .int (iI 0), .int (iI 0), .ref r10, .int (iI 0), .int (iI 0), .int (iI 1), .int (iI 0), .long (lI 0), .long (lI 0), .null])), (r1, I4 ca 39), (r2, I4 ca 39), (r3, I4 ca 39), (r4, I4 ca 8), (r5, I4 ca 8), (r6, I4 ca 8), (r7, I4 ca 960), (r8, I4 ca 8), (r9, I4 ca 8), (r10, I4 ca 120)]) C rfl rfl hu tyX12 tyX12_ok nmX12 (by decide) rfl rfl (tyX12_ok 19 (by decide)) rfl rfl (Nat.le_of_ble_eq_true rfl) rfl dX12_init_87 ?_
  refine gw_aload_n (i := 0) C dX12_init_90 rfl rfl ?_
  refine gw_iconst C dX12_init_91 ?_
  refine gl_newI (N := 4) C (by decide +kernel) (by decide) (by decide) (by decide) ⟨Nat.le_of_ble_eq_true rfl, Nat.le_of_ble_eq_true rfl⟩ dX12_init_92 (fun r11 => ?_)
  refine gl_putF (q0 := 0) (i := 16) (k := 23) (ty := .array .int) (w' := [(q, .inr (12, [.ref r1, .ref r2, .ref r3, .ref r4, .ref r5, .ref r6, .ref r7, .ref r8, .ref r9, .int (iI 0), .int (iI 0), .int (iI 0), .int (iI 0), .int (iI 0), .int (iI 0), .int (iI 0), .ref r10, .int (iI 0), .int (iI 0), .int (iI 1), .int (iI 0), .long (lI 0), .long (lI 0), .ref r11])), (r1, I4 ca 39), (r2, I4 ca 39), (r3, I4 ca 39), (r4, I4 ca 8), (r5, I4 ca 8), (r6, I4 ca 8), (r7, I4 ca 960), (r8, I4 ca 8), (r9, I4 ca 8), (r10, I4 ca 120), (r11, I4 ca 4)]) C rfl rfl hu tyX12 tyX12_ok nmX12 (by decide) rfl hnm rfl rfl (tyX12_ok 23 (by decide)) rfl rfl (Nat.le_of_ble_eq_true rfl) rfl dX12_init_94 ?_
  exact gl_vret C (fun i => if i = 1 then r1 else if i = 2 then r2 else if i = 3 then r3 else if i = 4 then r4 else if i = 5 then r5 else if i = 6 then r6 else if i = 7 then r7 else if i = 8 then r8 else if i = 9 then r9 else if i = 10 then r10 else r11) hr hlk rfl ⟨Nat.le_of_ble_eq_true rfl, Nat.le_of_ble_eq_true rfl⟩ dX12_init_97
abbrev rm_X6_init : Room := { frames := 2, cells := 12, slots := 54, locals := 60 }
theorem ck_X6_init {q : Nat} : CKt l D ca A yX6_init wsX6_init rm_X6_init [.ref q] [(q, .inr (6, [.null, .null, .int (iI 0), .int (iI 0), .int (iI 0), .int (iI 0), .int (iI 0), .int (iI 0), .int (iI 0)]))] (mkR ca q) 12 54 := by
  refine ck_any (cc := cX6_init) (own := RX6) (maxL := 1) (ret := none) (lv0 := [some (.ref q)]) (by decide) rfl rfl rfl (Nat.le_of_ble_eq_true rfl) ?_
  intro p e s m below meth c C hO1 hO2 hr hlk hnm
  have hu : ∀ x ∈ u_ws RX6 TX6 9, x ∈ wsX6_init := fun _ h => List.mem_cons_of_mem _ (List.mem_append_right _ h)
  refine gw_aload_n (i := 0) C dX6_init_0 rfl rfl ?_
  refine gl_obj (i1 := 1) (i2 := 2) (i3 := 3) C rfl rfl rfl ⟨Nat.le_of_ble_eq_true rfl, Nat.le_of_ble_eq_true rfl⟩ dX6_init_1 ?_
  refine gw_aload_n (i := 0) C dX6_init_4 rfl rfl ?_
  refine gl_newO (ci := 4) (fs := [.int (iI 0), .int (iI 0), .int (iI 0), .null, .null, .null, .null, .null, .null]) C rfl (by decide +kernel) tyX4 tyX4_ok (by decide +kernel) (by decide +kernel) (by decide +kernel) (fun j hj => by have h9 : j = 0 ∨ j = 1 ∨ j = 2 ∨ j = 3 ∨ j = 4 ∨ j = 5 ∨ j = 6 ∨ j = 7 ∨ j = 8 := (by omega); rcases h9 with rfl | rfl | rfl | rfl | rfl | rfl | rfl | rfl | rfl <;> rfl) ⟨Nat.le_of_ble_eq_true rfl, Nat.le_of_ble_eq_true rfl⟩ dX6_init_5 (fun r0 => ?_)
  refine gw_dup C dX6_init_8 rfl ?_
  refine gl_ctor (w := [(q, .inr (6, [.null, .null, .int (iI 0), .int (iI 0), .int (iI 0), .int (iI 0), .int (iI 0), .int (iI 0), .int (iI 0)]))]) (rest := [.ref r0, .ref q]) C hO1 hO2 (fun A2 => ck_X4_init) (cwI 0 C.2.2.2.2.1 gX6_init_X4_init rfl rfl rfl (C.2.2.2.2.1 (.initialized RX4) (by decide +kernel)) (C.2.2.2.2.1 (.methodLink RX6 11 yX4_init) (by decide +kernel)) (C.2.2.2.2.1 (.instanceMethod yX4_init) (by decide +kernel)) rfl (by decide +kernel) ⟨Nat.le_of_ble_eq_true rfl, Nat.le_of_ble_eq_true rfl⟩) rfl rfl (Nat.le_of_ble_eq_true rfl) dX6_init_9 ⟨Nat.le_of_ble_eq_true rfl, Nat.le_of_ble_eq_true rfl⟩ (fun r => ?_)
  refine gl_putF (q0 := 0) (i := 7) (k := 0) (ty := .object "FurrowFair$Market") (w' := (q, .inr (6, [.ref r0, .null, .int (iI 0), .int (iI 0), .int (iI 0), .int (iI 0), .int (iI 0), .int (iI 0), .int (iI 0)])) :: mkM ca r0 r) C rfl rfl hu tyX6 tyX6_ok nmX6 (by decide) rfl hnm rfl rfl (tyX6_ok 0 (by decide)) rfl rfl (Nat.le_of_ble_eq_true rfl) rfl dX6_init_12 ?_
  refine gw_aload_n (i := 0) C dX6_init_15 rfl rfl ?_
  refine gw_iconst C dX6_init_16 ?_
  refine gl_newI (N := 5) C (by decide +kernel) (by decide) (by decide) (by decide) ⟨Nat.le_of_ble_eq_true rfl, Nat.le_of_ble_eq_true rfl⟩ dX6_init_17 (fun r11 => ?_)
  refine gl_putF (q0 := 0) (i := 9) (k := 1) (ty := .array .int) (w' := (q, .inr (6, [.ref r0, .ref r11, .int (iI 0), .int (iI 0), .int (iI 0), .int (iI 0), .int (iI 0), .int (iI 0), .int (iI 0)])) :: (mkM ca r0 r ++ [(r11, I4 ca 5)])) C rfl rfl hu tyX6 tyX6_ok nmX6 (by decide) rfl hnm rfl rfl (tyX6_ok 1 (by decide)) rfl rfl (Nat.le_of_ble_eq_true rfl) rfl dX6_init_19 ?_
  exact gl_vret C (fun i => if i = 0 then r0 else if i = 11 then r11 else r i) hr hlk rfl ⟨Nat.le_of_ble_eq_true rfl, Nat.le_of_ble_eq_true rfl⟩ dX6_init_22
end Gm2
